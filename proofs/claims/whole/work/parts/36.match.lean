/-! MATCH: what is worth most, which grain each gets -/
theorem iAnd_nat {k : Nat} (hk : k < 2 ^ 31) (b : Int) : iAnd (k : Int) b = ((k &&& (ii b).toBitVec.toNat : Nat) : Int) := by
  have hle : k &&& (ii b).toBitVec.toNat ≤ k := Nat.and_le_left
  refine tb_ext (iAnd_B3 _ _) ⟨by omega, by omega⟩ fun i hi => ?_
  rw [tb_and, tb_nat k hi, tb_nat _ hi, Nat.testBit_and]
  rfl
theorem iAnd_le {k : Nat} (hk : k < 2 ^ 31) (b : Int) : ∃ m : Nat, m ≤ k ∧ iAnd (k : Int) b = (m : Int) := ⟨_, Nat.and_le_left, iAnd_nat hk b⟩
def clr (set g : Int) : Int := iAnd set (iXor (iShl 1 g) (-1))
def mx (a b : Int) : Int := if a < b then b else a
def may (T : TT) (D : Int → Int) (sd s g set : Int) : Prop := hasB set g ∧ ¬ hasB sd s ∧ T 6 s ≤ T 3 g * D (T 5 s)
noncomputable def mfold (T : TT) (D : Int → Int) (sd s : Int) (M : Int → Int) (set : Int) : Nat → Int
  | 0 => M set
  | g + 1 => @ite _ (may T D sd s (g : Int) set) (Classical.propDecidable _) (mx (mfold T D sd s M set g) (T 7 s + M (clr set (g : Int)))) (mfold T D sd s M set g)
theorem mfold_t {T : TT} {D : Int → Int} {sd s : Int} {M : Int → Int} {set : Int} {g : Nat} (h : may T D sd s (g : Int) set) : mfold T D sd s M set (g + 1) = mx (mfold T D sd s M set g) (T 7 s + M (clr set (g : Int))) := by
  simp only [mfold]
  rw [if_pos h]
theorem mfold_f {T : TT} {D : Int → Int} {sd s : Int} {M : Int → Int} {set : Int} {g : Nat} (h : ¬ may T D sd s (g : Int) set) : mfold T D sd s M set (g + 1) = mfold T D sd s M set g := by
  simp only [mfold]
  rw [if_neg h]
abbrev nGr (T : TT) : Nat := (T 2 0).toNat
abbrev nSa (T : TT) : Nat := (T 4 0).toNat
/-- by the last r sayings -/
noncomputable def mst (T : TT) (D : Int → Int) (sd : Int) : Nat → Int → Int
  | 0, _ => 0
  | r + 1, set => mfold T D sd ((nSa T - (r + 1) : Nat) : Int) (mst T D sd r) set (nGr T)
noncomputable def ms (T : TT) (D : Int → Int) (sd : Int) (s : Nat) (set : Int) : Int := mst T D sd (nSa T - s) set
theorem ms_end (T : TT) (D : Int → Int) (sd : Int) (set : Int) : ms T D sd (nSa T) set = 0 := by
  unfold ms
  rw [Nat.sub_self]
  rfl
theorem ms_step (T : TT) (D : Int → Int) (sd : Int) {s : Nat} (hs : s < nSa T) (set : Int) : ms T D sd s set = mfold T D sd (s : Int) (ms T D sd (s + 1)) set (nGr T) := by
  have e : nSa T - s = (nSa T - (s + 1)) + 1 := by omega
  have e2 : nSa T - (nSa T - (s + 1) + 1) = s := by omega
  show mst T D sd (nSa T - s) set = _
  rw [e]
  show mfold T D sd ((nSa T - (nSa T - (s + 1) + 1) : Nat) : Int) (mst T D sd (nSa T - (s + 1))) set (nGr T) = _
  rw [e2]
  rfl
theorem mfold_rng {T : TT} {D : Int → Int} {sd s : Int} {M : Int → Int} {set B : Int} (h7 : 0 ≤ T 7 s ∧ T 7 s ≤ 99) (hM : ∀ q, 0 ≤ M q ∧ M q ≤ B) (n : Nat) : 0 ≤ mfold T D sd s M set n ∧ mfold T D sd s M set n ≤ B + 99 := by
  induction n with
  | zero => have := hM set; simp only [mfold]; omega
  | succ n ih =>
    by_cases h : may T D sd s (n : Int) set
    · rw [mfold_t h]
      have := hM (clr set (n : Int))
      unfold mx
      split <;> omega
    · rw [mfold_f h]; exact ih
theorem mst_rng {T : TT} (hk : TabOk T) (D : Int → Int) (sd : Int) (r : Nat) : r ≤ nSa T → ∀ set, 0 ≤ mst T D sd r set ∧ mst T D sd r set ≤ 99 * (r : Int) := by
  induction r with
  | zero => intro _ set; simp [mst]
  | succ r ih =>
    intro hr set
    have h4 := hk.2.2.1
    have hn : ((nSa T - (r + 1) : Nat) : Int) < T 4 0 := by unfold nSa at hr ⊢; omega
    have := mfold_rng (D := D) (sd := sd) (set := set) (hk.2.2.2.2.2.2.2.1 ((nSa T - (r + 1) : Nat) : Int) (by omega) hn).2.2.1 (ih (by omega)) (nGr T)
    refine ⟨this.1, ?_⟩
    have e : 99 * (((r + 1 : Nat)) : Int) = 99 * (r : Int) + 99 := by omega
    rw [e]
    exact this.2
theorem ms_rng {T : TT} (hk : TabOk T) (D : Int → Int) (sd : Int) (s : Nat) (set : Int) : 0 ≤ ms T D sd s set ∧ ms T D sd s set ≤ 693 := by
  have := mst_rng hk D sd (nSa T - s) (by omega) set
  have h4 := hk.2.2.1
  unfold ms
  unfold nSa at this ⊢
  omega
/-- the grains that melt long enough for the saying s -/
def gfF (T : TT) (D : Int → Int) (s : Int) : Nat → Int
  | 0 => 0
  | g + 1 => if T 6 s ≤ T 3 (g : Int) * D (T 5 s) then iOr (gfF T D s g) (iShl 1 (g : Int)) else gfF T D s g
def gf (T : TT) (D : Int → Int) (sd s : Int) : Int := if hasB sd s then 0 else gfF T D s (nGr T)
theorem gfF_B3 (T : TT) (D : Int → Int) (s : Int) (k : Nat) : B3 (gfF T D s k) := by
  induction k with
  | zero => exact ⟨by simp [gfF], by simp [gfF]⟩
  | succ k ih =>
    simp only [gfF]
    split
    · exact iOr_B3 _ _
    · exact ih
theorem tb_gfF (T : TT) (D : Int → Int) (s : Int) (k : Nat) (hk : k ≤ 31) (j : Nat) (hj : j < 32) : tb (gfF T D s k) j = decide (j < k ∧ T 6 s ≤ T 3 (j : Int) * D (T 5 s)) := by
  induction k with
  | zero => simp [gfF, tb_0]
  | succ k ih =>
    have ih := ih (by omega)
    simp only [gfF]
    by_cases h : T 6 s ≤ T 3 (k : Int) * D (T 5 s)
    · rw [if_pos h, tb_or, ih, tb_shl1 k (by omega) j hj]
      by_cases e : j = k
      · subst e
        simp [h]
      · have : j < k + 1 ↔ j < k := by omega
        simp [e, this]
    · rw [if_neg h, ih]
      by_cases e : j = k
      · subst e
        simp [h]
      · have : j < k + 1 ↔ j < k := by omega
        simp [this]
theorem may_gf {T : TT} (hk : TabOk T) {D : Int → Int} {sd s set : Int} {g : Nat} (hg : g < nGr T) : hasB (iAnd set (gf T D sd s)) (g : Int) ↔ may T D sd s (g : Int) set := by
  have h2 := hk.2.1
  have hg2 : g < 8 := by unfold nGr at hg; omega
  unfold may gf
  rw [has_tb _ (by omega), has_tb _ (by omega), tb_and]
  by_cases hs : hasB sd s
  · rw [if_pos hs, tb_0]
    simp [hs]
  · rw [if_neg hs, tb_gfF _ _ _ _ (by unfold nGr; omega) _ (by omega)]
    simp [hs, hg]
/-- the first grain by which the most is reached -/
noncomputable def ffd (T : TT) (D : Int → Int) (sd s : Int) (M : Int → Int) (B set : Int) : Nat → Int
  | 0 => -4
  | k + 1 => @ite _ (may T D sd s ((nGr T - (k + 1) : Nat) : Int) set ∧ T 7 s + M (clr set ((nGr T - (k + 1) : Nat) : Int)) = B) (Classical.propDecidable _) ((nGr T - (k + 1) : Nat) : Int) (ffd T D sd s M B set k)
theorem ffd_t {T : TT} {D : Int → Int} {sd s : Int} {M : Int → Int} {B set : Int} {k g : Nat} (hg : g + (k + 1) = nGr T) (h : may T D sd s (g : Int) set ∧ T 7 s + M (clr set (g : Int)) = B) : ffd T D sd s M B set (k + 1) = (g : Int) := by
  obtain rfl : g = nGr T - (k + 1) := by omega
  simp only [ffd]
  rw [if_pos h]
theorem ffd_f {T : TT} {D : Int → Int} {sd s : Int} {M : Int → Int} {B set : Int} {k g : Nat} (hg : g + (k + 1) = nGr T) (h : ¬ (may T D sd s (g : Int) set ∧ T 7 s + M (clr set (g : Int)) = B)) : ffd T D sd s M B set (k + 1) = ffd T D sd s M B set k := by
  obtain rfl : g = nGr T - (k + 1) := by omega
  simp only [ffd]
  rw [if_neg h]
theorem ffd_rng {T : TT} {D : Int → Int} {sd s : Int} {M : Int → Int} {B set : Int} : ∀ k : Nat, k ≤ nGr T → ffd T D sd s M B set k = -4 ∨ ∃ g : Nat, g < nGr T ∧ ffd T D sd s M B set k = (g : Int) ∧ may T D sd s (g : Int) set := by
  intro k
  induction k with
  | zero => intro _; exact Or.inl rfl
  | succ k ih =>
    intro hk
    have hg : (nGr T - (k + 1)) + (k + 1) = nGr T := by omega
    by_cases h : may T D sd s ((nGr T - (k + 1) : Nat) : Int) set ∧ T 7 s + M (clr set ((nGr T - (k + 1) : Nat) : Int)) = B
    · exact Or.inr ⟨nGr T - (k + 1), by omega, ffd_t hg h, h.1⟩
    · rw [ffd_f hg h]
      exact ih (by omega)
noncomputable def gAt (T : TT) (D : Int → Int) (sd : Int) (s : Nat) (set : Int) : Int := ffd T D sd (s : Int) (ms T D sd (s + 1)) (ms T D sd s set) set (nGr T)
noncomputable def lft (T : TT) (D : Int → Int) (sd sh : Int) : Nat → Int
  | 0 => sh
  | s + 1 => if gAt T D sd s (lft T D sd sh s) = -4 then lft T D sd sh s else clr (lft T D sd sh s) (gAt T D sd s (lft T D sd sh s))
/-- the grain that the saying s gets, or -4 -/
noncomputable def gOf (T : TT) (D : Int → Int) (sd sh : Int) (s : Nat) : Int := gAt T D sd s (lft T D sd sh s)
noncomputable def gvn (T : TT) (D : Int → Int) (sd sh : Int) : Nat → Int
  | 0 => 0
  | s + 1 => if gOf T D sd sh s = -4 then gvn T D sd sh s else iOr (gvn T D sd sh s) (iShl 1 (s : Int))
theorem gAt_rng (T : TT) (D : Int → Int) (sd : Int) (s : Nat) (set : Int) : gAt T D sd s set = -4 ∨ ∃ g : Nat, g < nGr T ∧ gAt T D sd s set = (g : Int) ∧ may T D sd (s : Int) (g : Int) set := ffd_rng (nGr T) (Nat.le_refl _)
theorem lft_nat {T : TT} (hk : TabOk T) {D : Int → Int} {sd : Int} {k0 : Nat} (hk0 : k0 < 2 ^ nGr T) : ∀ s : Nat, ∃ k : Nat, k < 2 ^ nGr T ∧ lft T D sd (k0 : Int) s = (k : Int) := by
  have h2 := hk.2.1
  have hp : 2 ^ nGr T ≤ 256 := pow_le (m := 8) (by unfold nGr; omega)
  intro s
  induction s with
  | zero => exact ⟨k0, hk0, rfl⟩
  | succ s ih =>
    obtain ⟨k, h1, h2⟩ := ih
    simp only [lft]
    rw [h2]
    split
    · exact ⟨k, h1, rfl⟩
    · obtain ⟨m, h3, h4⟩ := iAnd_le (k := k) (by omega) (iXor (iShl 1 (gAt T D sd s (k : Int))) (-1))
      exact ⟨m, by omega, h4⟩
theorem gvn_B3 (T : TT) (D : Int → Int) (sd sh : Int) (k : Nat) : B3 (gvn T D sd sh k) := by
  induction k with
  | zero => exact ⟨by simp [gvn], by simp [gvn]⟩
  | succ k ih =>
    simp only [gvn]
    split
    · exact ih
    · exact iOr_B3 _ _
theorem tb_gvn (T : TT) (D : Int → Int) (sd sh : Int) (k : Nat) (hk : k ≤ 31) (j : Nat) (hj : j < 32) : tb (gvn T D sd sh k) j = decide (j < k ∧ gOf T D sd sh j ≠ -4) := by
  induction k with
  | zero => simp [gvn, tb_0]
  | succ k ih =>
    have ih := ih (by omega)
    simp only [gvn]
    by_cases h : gOf T D sd sh k = -4
    · rw [if_pos h, ih]
      by_cases e : j = k
      · subst e
        simp [h]
      · have : j < k + 1 ↔ j < k := by omega
        simp [this]
    · rw [if_neg h, tb_or, ih, tb_shl1 k (by omega) j hj]
      by_cases e : j = k
      · subst e
        simp [h]
      · have : j < k + 1 ↔ j < k := by omega
        simp [e, this]
theorem gvn_nat {T : TT} (hk : TabOk T) {D : Int → Int} {sd sh : Int} : 0 ≤ gvn T D sd sh (nSa T) ∧ gvn T D sd sh (nSa T) < 128 := by
  have h4 := hk.2.2.1
  have e : gvn T D sd sh (nSa T) = iAnd ((127 : Nat) : Int) (gvn T D sd sh (nSa T)) := by
    refine tb_ext (gvn_B3 _ _ _ _ _) (iAnd_B3 _ _) fun i hi => ?_
    rw [tb_and, tb_gvn _ _ _ _ _ (by unfold nSa; omega) _ hi, tb_nat _ hi]
    by_cases h : i < 7
    · have : Nat.testBit 127 i = true := (by decide : ∀ i : Nat, i < 7 → Nat.testBit 127 i = true) i h
      rw [this]; simp
    · have : ¬ i < nSa T := by unfold nSa; omega
      simp [this]
  obtain ⟨m, h1, h2⟩ := iAnd_le (k := 127) (by omega) (gvn T D sd sh (nSa T))
  rw [e, h2]
  omega
/-- the giving's cells -/
def GvAt (h : Hp) (o : Nat) (gv : Int) (Go : Int → Int) : Prop := h o = some (ob 1 [.ref (o + 1), .ref (o + 10), vi gv]) ∧ h (o + 1) = some (ra 1 8 (fun s => if s < 8 then some (o + 2 + s) else none)) ∧ h (o + 10) = some (ia 0 7 Go) ∧ ∀ s : Nat, s < 8 → ∃ M : Int → Int, h (o + 2 + s) = some (ia 0 256 M)
theorem GvAt.kept {h h1 : Hp} {o : Nat} {gv : Int} {Go : Int → Int} (H : GvAt h o gv Go) (hk : ∀ q : Nat, o ≤ q → q ≤ o + 10 → h1 q = h q) : GvAt h1 o gv Go := by
  obtain ⟨a, b, c, e⟩ := H
  refine ⟨(hk _ (by omega) (by omega)).trans a, (hk _ (by omega) (by omega)).trans b, (hk _ (by omega) (by omega)).trans c, fun s hs => ?_⟩
  obtain ⟨M, hM⟩ := e s hs
  exact ⟨M, (hk _ (by omega) (by omega)).trans hM⟩
