theorem ok_clear (T : TT) : TabOk (up2 (up2 (up2 (up2 (up2 T 0 0 0) 2 0 0) 4 0 0) 9 0 0) 12 0 20) := by
  refine ⟨?_, ?_, ?_, ?_, ?_, fun i h0 h1 => ?_, fun i h0 h1 => ?_, fun i h0 h1 => ?_, fun i h0 h1 => ?_⟩ <;> simp [up2] at * <;> omega
theorem ok_addP {T : TT} {v : Int} (hk : TabOk T) (h : okP T v) : TabOk (addP T v) := by
  obtain ⟨k0, k2, k4, k9, k12, k1, k3, k5, k10⟩ := hk
  refine ⟨?_, ?_, ?_, ?_, ?_, fun i h0 h1 => ?_, fun i h0 h1 => ?_, fun i h0 h1 => ?_, fun i h0 h1 => ?_⟩
  · simp [addP, up2]; omega
  · simpa [addP, up2] using k2
  · simpa [addP, up2] using k4
  · simpa [addP, up2] using k9
  · simpa [addP, up2] using k12
  · simp [addP, up2] at h1 ⊢
    by_cases e : i = T 0 0
    · rw [if_pos e]; omega
    · rw [if_neg e]; exact k1 i h0 (by omega)
  · simp [addP, up2] at h1 ⊢
    exact k3 i h0 h1
  · simp [addP, up2] at h1 ⊢
    have := k5 i h0 h1
    exact ⟨⟨this.1.1, by omega⟩, this.2⟩
  · simp [addP, up2] at h1 ⊢
    have := k10 i h0 h1
    exact ⟨⟨this.1.1, by omega⟩, this.2⟩
theorem ok_addG {T : TT} {v : Int} (hk : TabOk T) (h : okG T v) : TabOk (addG T v) := by
  obtain ⟨k0, k2, k4, k9, k12, k1, k3, k5, k10⟩ := hk
  refine ⟨?_, ?_, ?_, ?_, ?_, fun i h0 h1 => ?_, fun i h0 h1 => ?_, fun i h0 h1 => ?_, fun i h0 h1 => ?_⟩
  · simpa [addG, up2] using k0
  · simp [addG, up2]; omega
  · simpa [addG, up2] using k4
  · simpa [addG, up2] using k9
  · simpa [addG, up2] using k12
  · simp [addG, up2] at h1 ⊢
    exact k1 i h0 h1
  · simp [addG, up2] at h1 ⊢
    by_cases e : i = T 2 0
    · rw [if_pos e]; omega
    · rw [if_neg e]; exact k3 i h0 (by omega)
  · simp [addG, up2] at h1 ⊢
    exact k5 i h0 h1
  · simp [addG, up2] at h1 ⊢
    exact k10 i h0 h1
theorem ok_addA {T : TT} {v : Int} (hk : TabOk T) (h : 0 ≤ v ∧ v ≤ 99) : TabOk (addA T v) := by
  obtain ⟨k0, k2, k4, k9, k12, k1, k3, k5, k10⟩ := hk
  refine ⟨?_, ?_, ?_, ?_, ?_, fun i h0 h1 => ?_, fun i h0 h1 => ?_, fun i h0 h1 => ?_, fun i h0 h1 => ?_⟩
  · simpa [addA, up2] using k0
  · simpa [addA, up2] using k2
  · simpa [addA, up2] using k4
  · simpa [addA, up2] using k9
  · simp [addA, up2]; omega
  · simp [addA, up2] at h1 ⊢
    exact k1 i h0 h1
  · simp [addA, up2] at h1 ⊢
    exact k3 i h0 h1
  · simp [addA, up2] at h1 ⊢
    exact k5 i h0 h1
  · simp [addA, up2] at h1 ⊢
    exact k10 i h0 h1
theorem ok_addDi {T : TT} {a b : Int} (hk : TabOk T) (h : okDi T a b) (ha : 0 ≤ a) (hb : 0 ≤ b) : TabOk (addDi T a b) := by
  obtain ⟨k0, k2, k4, k9, k12, k1, k3, k5, k10⟩ := hk
  refine ⟨?_, ?_, ?_, ?_, ?_, fun i h0 h1 => ?_, fun i h0 h1 => ?_, fun i h0 h1 => ?_, fun i h0 h1 => ?_⟩
  · simpa [addDi, up2] using k0
  · simpa [addDi, up2] using k2
  · simpa [addDi, up2] using k4
  · simp [addDi, up2]; omega
  · simpa [addDi, up2] using k12
  · simp [addDi, up2] at h1 ⊢
    exact k1 i h0 h1
  · simp [addDi, up2] at h1 ⊢
    exact k3 i h0 h1
  · simp [addDi, up2] at h1 ⊢
    exact k5 i h0 h1
  · simp [addDi, up2] at h1 ⊢
    by_cases e : i = T 9 0
    · rw [if_pos e, if_pos e]; omega
    · rw [if_neg e, if_neg e]; exact k10 i h0 (by omega)
theorem ok_addW {T : TT} {a b c k : Int} (hk : TabOk T) (h : okW T a b c k) (ha : 0 ≤ a) (hc : 0 ≤ c ∧ c ≤ 99) (hkk : 0 ≤ k) : TabOk (addW T a b c k) := by
  obtain ⟨k0, k2, k4, k9, k12, k1, k3, k5, k10⟩ := hk
  refine ⟨?_, ?_, ?_, ?_, ?_, fun i h0 h1 => ?_, fun i h0 h1 => ?_, fun i h0 h1 => ?_, fun i h0 h1 => ?_⟩
  · simpa [addW, up2] using k0
  · simpa [addW, up2] using k2
  · simp [addW, up2]; omega
  · simpa [addW, up2] using k9
  · simpa [addW, up2] using k12
  · simp [addW, up2] at h1 ⊢
    exact k1 i h0 h1
  · simp [addW, up2] at h1 ⊢
    exact k3 i h0 h1
  · simp [addW, up2] at h1 ⊢
    by_cases e : i = T 4 0
    · simp only [e, if_true]
      refine ⟨⟨ha, h.2.1⟩, ⟨h.2.2.1, h.2.2.2.1⟩, hc, ?_⟩
      rcases h.2.2.2.2 with e2 | ⟨e2, e3⟩
      · left; rw [if_pos e2]
      · by_cases e4 : k = 99
        · left; rw [if_pos e4]
        · right
          rw [if_neg e4, if_neg (by omega)]
          exact ⟨hkk, e2, e3⟩
    · simp only [e, if_false]
      have := k5 i h0 (by omega)
      refine ⟨this.1, this.2.1, this.2.2.1, ?_⟩
      rcases this.2.2.2 with e2 | e2
      · exact Or.inl e2
      · right
        rw [if_neg (by omega)]
        exact e2
  · simp [addW, up2] at h1 ⊢
    exact k10 i h0 h1
theorem ok_addI {T T' : TT} {lt : Int} {l : List Int} (hk : TabOk T) (hv : ∀ v ∈ l, 0 ≤ v ∧ v ≤ 99) (h : addI T lt l T') : TabOk T' := by
  rcases h with ⟨-, v, rfl, h1, rfl⟩ | ⟨-, v, rfl, h1, rfl⟩ | ⟨-, a, b, c, k, rfl, h1, rfl⟩ | ⟨-, v, rfl, rfl⟩ | ⟨-, a, b, rfl, h1, rfl⟩
  · exact ok_addP hk h1
  · exact ok_addG hk h1
  · exact ok_addW hk h1 (hv a (by simp)).1 (hv c (by simp)) (hv k (by simp)).1
  · exact ok_addA hk (hv v (by simp))
  · exact ok_addDi hk h1 (hv a (by simp)).1 (hv b (by simp)).1
/-- reading items from i on, T told so far: the fault (or -4) and the table behind -/
def prsR (Bt : Int → Int) (e : Int) : Nat → TT → Int → Int → TT → Prop
  | 0, T, i, f, T' => e ≤ i ∧ f = -4 ∧ T' = T
  | n + 1, T, i, f, T' => (e ≤ i ∧ f = -4 ∧ T' = T) ∨ (i < e ∧ ∃ q l T1, rd Bt e 4 (i + 1) = some (q, l) ∧ addI T (Bt i) l T1 ∧ prsR Bt e n T1 q f T') ∨
      (i < e ∧ f = i ∧ T' = T ∧ ∀ q l, rd Bt e 4 (i + 1) = some (q, l) → ∀ T1, ¬ addI T (Bt i) l T1)
theorem prsR_ok {Bt : Int → Int} {e : Int} : ∀ (n : Nat) (T : TT) (i f : Int) (T' : TT), TabOk T → prsR Bt e n T i f T' → TabOk T' := by
  intro n
  induction n with
  | zero =>
    intro T i f T' hk h
    obtain ⟨-, -, rfl⟩ := h
    exact hk
  | succ n ih =>
    intro T i f T' hk h
    rcases h with ⟨-, -, rfl⟩ | ⟨-, q, l, T1, h1, h2, h3⟩ | ⟨-, -, rfl, -⟩
    · exact hk
    · exact ih _ _ _ _ (ok_addI hk (rd_rng Bt e _ _ _ _ h1).2.2.2 h2) h3
    · exact hk
def clr0 (T : TT) : TT := up2 (up2 (up2 (up2 (up2 T 0 0 0) 2 0 0) 4 0 0) 9 0 0) 12 0 20
