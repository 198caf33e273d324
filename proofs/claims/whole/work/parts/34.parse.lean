/-! the told text, by its bytes (Bt, e of them) -/
abbrev dgt (Bt : Int → Int) (e p : Int) : Prop := p < e ∧ 48 ≤ Bt p ∧ Bt p ≤ 57
def nd (Bt : Int → Int) (e p : Int) : Int := if dgt Bt e p then (if dgt Bt e (p + 1) then 2 else 1) else 0
def nv (Bt : Int → Int) (e p : Int) : Int := if dgt Bt e p then (if dgt Bt e (p + 1) then 10 * (Bt p - 48) + (Bt (p + 1) - 48) else Bt p - 48) else 0
theorem nd_0 {Bt : Int → Int} {e p : Int} (h : ¬ dgt Bt e p) : nd Bt e p = 0 ∧ nv Bt e p = 0 := by simp only [nd, nv, if_neg h, and_self]
theorem nd_1 {Bt : Int → Int} {e p : Int} (h : dgt Bt e p) (h2 : ¬ dgt Bt e (p + 1)) : nd Bt e p = 1 ∧ nv Bt e p = Bt p - 48 := by simp only [nd, nv, if_pos h, if_neg h2, and_self]
theorem nd_2 {Bt : Int → Int} {e p : Int} (h : dgt Bt e p) (h2 : dgt Bt e (p + 1)) : nd Bt e p = 2 ∧ nv Bt e p = 10 * (Bt p - 48) + (Bt (p + 1) - 48) := by simp only [nd, nv, if_pos h, if_pos h2, and_self]
theorem nd_rng (Bt : Int → Int) (e p : Int) : 0 ≤ nd Bt e p ∧ nd Bt e p ≤ 2 ∧ 0 ≤ nv Bt e p ∧ nv Bt e p ≤ 99 := by
  by_cases h : dgt Bt e p
  · by_cases h2 : dgt Bt e (p + 1)
    · obtain ⟨a, b⟩ := nd_2 h h2
      rw [a, b]; omega
    · obtain ⟨a, b⟩ := nd_1 h h2
      rw [a, b]; omega
  · obtain ⟨a, b⟩ := nd_0 h
    rw [a, b]; omega
/-- numbers parted by , up to ; (k at most): the place behind, the numbers -/
def rd (Bt : Int → Int) (e : Int) : Nat → Int → Option (Int × List Int)
  | 0, _ => none
  | k + 1, p => if nd Bt e p = 0 ∨ e ≤ p + nd Bt e p then none
    else if Bt (p + nd Bt e p) = 59 then some (p + nd Bt e p + 1, [nv Bt e p])
    else if Bt (p + nd Bt e p) = 44 then (rd Bt e k (p + nd Bt e p + 1)).map (fun x => (x.1, nv Bt e p :: x.2))
    else none
def up2 (T : TT) (k : Nat) (j v : Int) : TT := fun a b => if a = k ∧ b = j then v else T a b
theorem up2_row (T : TT) (k : Nat) (j v : Int) : up2 T k j v k = ups (T k) j v := by funext b; simp [up2, ups]
theorem up2_ne (T : TT) {k a : Nat} (j v : Int) (h : a ≠ k) : up2 T k j v a = T a := by funext b; simp [up2, h]
theorem up2_at (T : TT) (k : Nat) (j v : Int) : up2 T k j v k j = v := by simp [up2]
def addP (T : TT) (v : Int) : TT := up2 (up2 T 1 (T 0 0) v) 0 0 (T 0 0 + 1)
def addG (T : TT) (v : Int) : TT := up2 (up2 T 3 (T 2 0) v) 2 0 (T 2 0 + 1)
def addW (T : TT) (a b c k : Int) : TT := up2 (up2 (up2 (up2 (up2 T 5 (T 4 0) a) 6 (T 4 0) b) 7 (T 4 0) c) 8 (T 4 0) (if k = 99 then -4 else k)) 4 0 (T 4 0 + 1)
def addA (T : TT) (v : Int) : TT := up2 T 12 0 v
def addDi (T : TT) (a b : Int) : TT := up2 (up2 (up2 T 10 (T 9 0) a) 11 (T 9 0) (b - 5)) 9 0 (T 9 0 + 1)
abbrev okP (T : TT) (v : Int) : Prop := T 0 0 < 5 ∧ 1 ≤ v ∧ v ≤ 9
abbrev okG (T : TT) (v : Int) : Prop := T 2 0 < 8 ∧ 1 ≤ v ∧ v ≤ 9
abbrev okW (T : TT) (a b _c k : Int) : Prop := T 4 0 < 7 ∧ a < T 0 0 ∧ 1 ≤ b ∧ b ≤ 60 ∧ (k = 99 ∨ k < T 4 0 ∧ T 5 k ≠ a)
abbrev okDi (T : TT) (a b : Int) : Prop := T 9 0 < 4 ∧ a < T 0 0 ∧ b ≤ 9
/-- the table behind an item, if it is so -/
def addI (T : TT) (lt : Int) (l : List Int) (T' : TT) : Prop :=
  (lt = 112 ∧ ∃ v, l = [v] ∧ okP T v ∧ T' = addP T v) ∨ (lt = 103 ∧ ∃ v, l = [v] ∧ okG T v ∧ T' = addG T v) ∨
  (lt = 119 ∧ ∃ a b c k, l = [a, b, c, k] ∧ okW T a b c k ∧ T' = addW T a b c k) ∨ (lt = 97 ∧ ∃ v, l = [v] ∧ T' = addA T v) ∨
  (lt = 100 ∧ ∃ a b, l = [a, b] ∧ okDi T a b ∧ T' = addDi T a b)
theorem len1 {l : List Int} (h : l.length = 1) : ∃ v, l = [v] := by
  match l, h with
  | [v], _ => exact ⟨v, rfl⟩
theorem len2 {l : List Int} (h : l.length = 2) : ∃ a b, l = [a, b] := by
  match l, h with
  | [a, b], _ => exact ⟨a, b, rfl⟩
theorem len4 {l : List Int} (h : l.length = 4) : ∃ a b c k, l = [a, b, c, k] := by
  match l, h with
  | [a, b, c, k], _ => exact ⟨a, b, c, k, rfl⟩
theorem rd_rng (Bt : Int → Int) (e : Int) : ∀ (k : Nat) (p : Int) (q : Int) (l : List Int), rd Bt e k p = some (q, l) → p < q ∧ q ≤ e ∧ l.length ≤ k ∧ ∀ v ∈ l, 0 ≤ v ∧ v ≤ 99 := by
  intro k
  induction k with
  | zero => intro p q l h; simp [rd] at h
  | succ k ih =>
    intro p q l h
    have hr := nd_rng Bt e p
    simp only [rd] at h
    split at h
    · cases h
    next h1 =>
      split at h
      next h2 =>
        simp only [Option.some.injEq, Prod.mk.injEq] at h
        obtain ⟨rfl, rfl⟩ := h
        refine ⟨by omega, by omega, by simp, fun v hv => ?_⟩
        rw [List.mem_singleton.mp hv]
        exact hr.2.2
      next h2 =>
        split at h
        next h3 =>
          cases hx : rd Bt e k (p + nd Bt e p + 1) with
          | none => rw [hx] at h; cases h
          | some x =>
            obtain ⟨q2, l2⟩ := x
            rw [hx] at h
            simp only [Option.map_some, Option.some.injEq, Prod.mk.injEq] at h
            obtain ⟨rfl, rfl⟩ := h
            obtain ⟨g1, g2, g3, g4⟩ := ih _ _ _ hx
            refine ⟨by omega, g2, by simp; omega, fun v hv => ?_⟩
            rcases List.mem_cons.mp hv with rfl | hv
            · exact hr.2.2
            · exact g4 v hv
        next h3 => cases h
