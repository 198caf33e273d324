noncomputable def GG (T : TT) (D : Int → Int) (sd sh : Int) : Int → Int := fun s => gOf T D sd sh s.toNat
theorem GG_nat (T : TT) (D : Int → Int) (sd sh : Int) (s : Nat) : GG T D sd sh (s : Int) = gOf T D sd sh s := rfl
/-- how long the grain of the saying s melts -/
def melF (T : TT) (D G : Int → Int) (s : Int) : Int := if G s = -4 then 0 else T 3 (G s) * D (T 5 s)
theorem GG_rng (T : TT) (D : Int → Int) (sd sh s : Int) : GG T D sd sh s = -4 ∨ 0 ≤ GG T D sd sh s ∧ GG T D sd sh s < nGr T := by
  rcases gAt_rng T D sd s.toNat (lft T D sd sh s.toNat) with w | ⟨g, w1, w2, -⟩
  · exact Or.inl w
  · right
    show 0 ≤ gAt _ _ _ _ _ ∧ gAt _ _ _ _ _ < _
    omega
theorem melt_rng2 {a b : Int} (h1 : 1 ≤ a ∧ a ≤ 9) (h2 : 1 ≤ b ∧ b ≤ 9) : 1 ≤ a * b ∧ a * b ≤ 81 := by
  obtain ⟨h3, h4⟩ := h1
  have : a = 1 ∨ a = 2 ∨ a = 3 ∨ a = 4 ∨ a = 5 ∨ a = 6 ∨ a = 7 ∨ a = 8 ∨ a = 9 := by omega
  rcases this with rfl | rfl | rfl | rfl | rfl | rfl | rfl | rfl | rfl <;> omega
theorem melF_ok {T : TT} (hk : TabOk T) {D : Int → Int} {sd sh : Int} (hD : ∀ i : Int, 0 ≤ i → i < T 0 0 → 1 ≤ D i ∧ D i ≤ 9) : MelOk T (melF T D (GG T D sd sh)) := by
  intro s h0 h1
  unfold melF
  split
  · omega
  next hne =>
    have h2 := hk.2.1
    have k5 := hk.2.2.2.2.2.2.2.1 s h0 h1
    rcases GG_rng T D sd sh s with w | w
    · exact absurd w hne
    · have := melt_rng2 (hk.2.2.2.2.2.2.1 (GG T D sd sh s) w.1 (by unfold nGr at w; omega)) (hD (T 5 s) k5.1.1 k5.1.2)
      omega
abbrev LtS : Type := ((Int → Int) × Int) × (Int → Int) × Int
/-- one more said: when it ends, is it late -/
def lstp (T : TT) (mel G : Int → Int) (x : LtS) (s : Int) : LtS :=
  (stp T mel x.1 s, ups x.2.1 s (stp T mel x.1 s).2, if T 8 s ≠ -4 ∧ G (T 8 s) ≠ -4 ∧ ups x.2.1 s (stp T mel x.1 s).2 (T 8 s) + T 12 0 < (stp T mel x.1 s).2 - T 6 s then x.2.2 + 1 else x.2.2)
def lateS (T : TT) (mel G En : Int → Int) (l : List Int) : LtS := l.foldl (lstp T mel G) ((fun _ => 0, 0), En, 0)
theorem lateS_snoc (T : TT) (mel G En : Int → Int) (l : List Int) (s : Int) : lateS T mel G En (l ++ [s]) = lstp T mel G (lateS T mel G En l) s := by
  unfold lateS
  rw [List.foldl_append]
  rfl
theorem snoc_ind {P : List Int → Prop} (h0 : P []) (h1 : ∀ l s, P l → P (l ++ [s])) : ∀ l, P l := by
  have : ∀ (n : Nat) (l : List Int), l.length = n → P l := by
    intro n
    induction n with
    | zero => intro l hl; rw [List.length_eq_zero_iff.mp hl]; exact h0
    | succ n ih =>
      intro l hl
      have hne : l ≠ [] := by intro e; rw [e] at hl; cases hl
      rw [← List.dropLast_concat_getLast hne]
      exact h1 _ _ (ih _ (by rw [List.length_dropLast]; omega))
  exact fun l => this l.length l rfl
theorem lateS_sim (T : TT) (mel G En : Int → Int) (l : List Int) : (lateS T mel G En l).1 = sim T mel l := by
  induction l using snoc_ind with
  | h0 => rfl
  | h1 l s ih => rw [lateS_snoc, sim_snoc, ← ih]; rfl
theorem lateS_rng {T : TT} (hk : TabOk T) {mel : Int → Int} (hm : MelOk T mel) (G En : Int → Int) (l : List Int) : InS T l → (∀ x ∈ l, 0 ≤ (lateS T mel G En l).2.1 x ∧ (lateS T mel G En l).2.1 x ≤ 222 * l.length) ∧ 0 ≤ (lateS T mel G En l).2.2 ∧ (lateS T mel G En l).2.2 ≤ l.length := by
  induction l using snoc_ind with
  | h0 =>
    intro _
    exact ⟨fun x hx => (by cases hx), Int.le_refl _, Int.le_refl _⟩
  | h1 l s ih =>
    intro hi
    have hil : InS T l := fun x hx => hi x (List.mem_append_left _ hx)
    obtain ⟨h1, h2, h3⟩ := ih hil
    have hr := sim_rng hk hm hi
    rw [lateS_snoc]
    have e1 : (lstp T mel G (lateS T mel G En l) s).2.1 = ups (lateS T mel G En l).2.1 s (sim T mel (l ++ [s])).2 := by
      show ups _ s (stp T mel (lateS T mel G En l).1 s).2 = _
      rw [lateS_sim, ← sim_snoc]
    have hlen : ((l ++ [s]).length : Int) = l.length + 1 := by simp
    have e2 : (lstp T mel G (lateS T mel G En l) s).2.2 = (lateS T mel G En l).2.2 + 1 ∨ (lstp T mel G (lateS T mel G En l) s).2.2 = (lateS T mel G En l).2.2 := by
      simp only [lstp]
      split
      · exact Or.inl rfl
      · exact Or.inr rfl
    refine ⟨fun x hx => ?_, ?_, ?_⟩
    · rw [e1]
      by_cases e : x = s
      · simp only [ups, if_pos e]; exact hr.2
      · simp only [ups, if_neg e]
        rcases List.mem_append.mp hx with w | w
        · have := h1 x w; omega
        · exact absurd (List.mem_singleton.mp w) e
    · rcases e2 with w | w <;> rw [w] <;> omega
    · rcases e2 with w | w <;> rw [w, hlen] <;> omega
theorem append_cons_inj {pre l pfx rest : List Int} {s0 s : Int} (h : pre ++ s0 :: l = pfx ++ s :: rest) (hl : pfx.length = pre.length) : pfx = pre ∧ s = s0 := by
  have := List.append_inj h hl.symm
  obtain ⟨h1, h2⟩ := this
  cases h2
  exact ⟨h1.symm, rfl⟩
theorem Rows_ans (T : TT) (G : Int → Int) : ∀ (k : Nat) (pre r : List Int), r ∈ Rows T G k pre → ∀ (pfx : List Int) (s : Int) (rest : List Int), r = pfx ++ s :: rest → pre.length ≤ pfx.length → candP G pfx s ∧ ansP T G pfx s := by
  intro k
  induction k with
  | zero =>
    intro pre r h pfx s rest hr hl
    simp only [Rows, List.mem_singleton] at h
    subst h
    have := congrArg List.length hr
    simp at this
    omega
  | succ k ih =>
    intro pre r h pfx s rest hr hl
    simp only [Rows, List.mem_flatMap, List.mem_range] at h
    obtain ⟨s0, hs0, hm⟩ := h
    split at hm
    next hc =>
      by_cases e : pfx.length = pre.length
      · obtain ⟨l, h1, -, -⟩ := Rows_mem T G k _ _ hm
        have h2 : pre ++ (s0 : Int) :: l = pfx ++ s :: rest := by rw [← hr, h1]; simp
        obtain ⟨rfl, rfl⟩ := append_cons_inj h2 e
        exact hc
      · exact ih _ _ hm pfx s rest hr (by simp; omega)
    next => cases hm
/-- the answers do not hang on what stood in the ends before -/
theorem lateS_indep {T : TT} {mel G En En2 : Int → Int} {r : List Int} (hr : ∀ (pfx : List Int) (s : Int) (rest : List Int), r = pfx ++ s :: rest → ansP T G pfx s) (l : List Int) : (∃ rest, r = l ++ rest) → (∀ x ∈ l, (lateS T mel G En l).2.1 x = (lateS T mel G En2 l).2.1 x) ∧ (lateS T mel G En l).2.2 = (lateS T mel G En2 l).2.2 := by
  induction l using snoc_ind with
  | h0 => intro _; exact ⟨fun x hx => by (cases hx), rfl⟩
  | h1 l s ih =>
    rintro ⟨rest, hrest⟩
    have hrest2 : r = l ++ s :: rest := by rw [hrest]; simp
    obtain ⟨h1, h2⟩ := ih ⟨s :: rest, hrest2⟩
    have ha := hr l s rest hrest2
    rw [lateS_snoc, lateS_snoc]
    have hsim : (lateS T mel G En l).1 = (lateS T mel G En2 l).1 := by rw [lateS_sim, lateS_sim]
    have hE : ∀ x, x ∈ l ∨ x = s → ups (lateS T mel G En l).2.1 s (stp T mel (lateS T mel G En l).1 s).2 x = ups (lateS T mel G En2 l).2.1 s (stp T mel (lateS T mel G En2 l).1 s).2 x := by
      intro x hx
      rw [hsim]
      by_cases e : x = s
      · simp only [ups, if_pos e]
      · simp only [ups, if_neg e]
        rcases hx with w | w
        · exact h1 x w
        · exact absurd w e
    refine ⟨fun x hx => ?_, ?_⟩
    · refine hE x ?_
      rcases List.mem_append.mp hx with w | w
      · exact Or.inl w
      · exact Or.inr (List.mem_singleton.mp w)
    · show (if _ then _ else _) = (if _ then _ else _)
      rw [h2]
      rcases ha with w | w | w
      · rw [if_neg (fun q => q.1 w), if_neg (fun q => q.1 w)]
      · rw [if_neg (fun q => q.2.1 w), if_neg (fun q => q.2.1 w)]
      · rw [hE _ (Or.inl w), hsim]
def lateN (T : TT) (mel G : Int → Int) (l : List Int) : Int := (lateS T mel G (fun _ => 0) l).2.2
