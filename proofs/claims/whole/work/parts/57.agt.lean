/-! two tables that tell the same -/
def AgT (T U : TT) : Prop := (T 0 0 = U 0 0 ∧ T 2 0 = U 2 0 ∧ T 4 0 = U 4 0 ∧ T 9 0 = U 9 0 ∧ T 12 0 = U 12 0) ∧ (∀ i : Int, 0 ≤ i → i < T 0 0 → T 1 i = U 1 i) ∧ (∀ g : Int, 0 ≤ g → g < T 2 0 → T 3 g = U 3 g) ∧ (∀ s : Int, 0 ≤ s → s < T 4 0 → T 5 s = U 5 s ∧ T 6 s = U 6 s ∧ T 7 s = U 7 s ∧ T 8 s = U 8 s) ∧ (∀ k : Int, 0 ≤ k → k < T 9 0 → T 10 k = U 10 k ∧ T 11 k = U 11 k)
theorem AgT.refl (T : TT) : AgT T T := ⟨⟨rfl, rfl, rfl, rfl, rfl⟩, fun _ _ _ => rfl, fun _ _ _ => rfl, fun _ _ _ => ⟨rfl, rfl, rfl, rfl⟩, fun _ _ _ => ⟨rfl, rfl⟩⟩
theorem AgT.symm {T U : TT} (h : AgT T U) : AgT U T := by
  obtain ⟨⟨h0, h2, h4, h9, h12⟩, a, b, c, e⟩ := h
  refine ⟨⟨h0.symm, h2.symm, h4.symm, h9.symm, h12.symm⟩, fun i i0 i1 => (a i i0 (by omega)).symm, fun i i0 i1 => (b i i0 (by omega)).symm, fun i i0 i1 => ?_, fun i i0 i1 => ?_⟩
  · have := c i i0 (by omega)
    exact ⟨this.1.symm, this.2.1.symm, this.2.2.1.symm, this.2.2.2.symm⟩
  · have := e i i0 (by omega)
    exact ⟨this.1.symm, this.2.symm⟩
theorem AgT.trans {T U V : TT} (h : AgT T U) (g : AgT U V) : AgT T V := by
  obtain ⟨⟨h0, h2, h4, h9, h12⟩, a, b, c, e⟩ := h
  obtain ⟨⟨g0, g2, g4, g9, g12⟩, a', b', c', e'⟩ := g
  refine ⟨⟨h0.trans g0, h2.trans g2, h4.trans g4, h9.trans g9, h12.trans g12⟩, fun i i0 i1 => (a i i0 i1).trans (a' i i0 (by omega)), fun i i0 i1 => (b i i0 i1).trans (b' i i0 (by omega)), fun i i0 i1 => ?_, fun i i0 i1 => ?_⟩
  · have u := c i i0 i1
    have w := c' i i0 (by omega)
    exact ⟨u.1.trans w.1, u.2.1.trans w.2.1, u.2.2.1.trans w.2.2.1, u.2.2.2.trans w.2.2.2⟩
  · have u := e i i0 i1
    have w := e' i i0 (by omega)
    exact ⟨u.1.trans w.1, u.2.trans w.2⟩
theorem AgT.clr (T U : TT) : AgT (clr0 T) (clr0 U) := by
  unfold clr0
  refine ⟨⟨by simp [up2], by simp [up2], by simp [up2], by simp [up2], by simp [up2]⟩, fun i i0 i1 => ?_, fun i i0 i1 => ?_, fun i i0 i1 => ?_, fun i i0 i1 => ?_⟩
  all_goals (exfalso; simp [up2] at i1; omega)
theorem ag_addP {T U : TT} (h : AgT T U) (v : Int) : AgT (addP T v) (addP U v) := by
  obtain ⟨⟨h0, h2, h4, h9, h12⟩, a, b, c, e⟩ := h
  unfold addP
  refine ⟨⟨by simp [up2, h0], by simp [up2, h2], by simp [up2, h4], by simp [up2, h9], by simp [up2, h12]⟩, fun i i0 i1 => ?_, fun i i0 i1 => ?_, fun i i0 i1 => ?_, fun i i0 i1 => ?_⟩
  · simp [up2] at i1 ⊢
    rw [← h0]
    by_cases e1 : i = T 0 0
    · rw [if_pos e1, if_pos e1]
    · rw [if_neg e1, if_neg e1]; exact a i i0 (by omega)
  · simp [up2] at i1 ⊢; exact b i i0 i1
  · simp [up2] at i1 ⊢; exact c i i0 i1
  · simp [up2] at i1 ⊢; exact e i i0 i1
theorem ag_addG {T U : TT} (h : AgT T U) (v : Int) : AgT (addG T v) (addG U v) := by
  obtain ⟨⟨h0, h2, h4, h9, h12⟩, a, b, c, e⟩ := h
  unfold addG
  refine ⟨⟨by simp [up2, h0], by simp [up2, h2], by simp [up2, h4], by simp [up2, h9], by simp [up2, h12]⟩, fun i i0 i1 => ?_, fun i i0 i1 => ?_, fun i i0 i1 => ?_, fun i i0 i1 => ?_⟩
  · simp [up2] at i1 ⊢; exact a i i0 i1
  · simp [up2] at i1 ⊢
    rw [← h2]
    by_cases e1 : i = T 2 0
    · rw [if_pos e1, if_pos e1]
    · rw [if_neg e1, if_neg e1]; exact b i i0 (by omega)
  · simp [up2] at i1 ⊢; exact c i i0 i1
  · simp [up2] at i1 ⊢; exact e i i0 i1
theorem ag_addA {T U : TT} (h : AgT T U) (v : Int) : AgT (addA T v) (addA U v) := by
  obtain ⟨⟨h0, h2, h4, h9, h12⟩, a, b, c, e⟩ := h
  unfold addA
  refine ⟨⟨by simp [up2, h0], by simp [up2, h2], by simp [up2, h4], by simp [up2, h9], by simp [up2]⟩, fun i i0 i1 => ?_, fun i i0 i1 => ?_, fun i i0 i1 => ?_, fun i i0 i1 => ?_⟩
  · simp [up2] at i1 ⊢; exact a i i0 i1
  · simp [up2] at i1 ⊢; exact b i i0 i1
  · simp [up2] at i1 ⊢; exact c i i0 i1
  · simp [up2] at i1 ⊢; exact e i i0 i1
theorem ag_addDi {T U : TT} (h : AgT T U) (v w : Int) : AgT (addDi T v w) (addDi U v w) := by
  obtain ⟨⟨h0, h2, h4, h9, h12⟩, a, b, c, e⟩ := h
  unfold addDi
  refine ⟨⟨by simp [up2, h0], by simp [up2, h2], by simp [up2, h4], by simp [up2, h9], by simp [up2, h12]⟩, fun i i0 i1 => ?_, fun i i0 i1 => ?_, fun i i0 i1 => ?_, fun i i0 i1 => ?_⟩
  · simp [up2] at i1 ⊢; exact a i i0 i1
  · simp [up2] at i1 ⊢; exact b i i0 i1
  · simp [up2] at i1 ⊢; exact c i i0 i1
  · simp [up2] at i1 ⊢
    rw [← h9]
    by_cases e1 : i = T 9 0
    · simp [e1]
    · simp only [if_neg e1]; exact e i i0 (by omega)
theorem ag_addW {T U : TT} (h : AgT T U) (v w x y : Int) : AgT (addW T v w x y) (addW U v w x y) := by
  obtain ⟨⟨h0, h2, h4, h9, h12⟩, a, b, c, e⟩ := h
  unfold addW
  refine ⟨⟨by simp [up2, h0], by simp [up2, h2], by simp [up2, h4], by simp [up2, h9], by simp [up2, h12]⟩, fun i i0 i1 => ?_, fun i i0 i1 => ?_, fun i i0 i1 => ?_, fun i i0 i1 => ?_⟩
  · simp [up2] at i1 ⊢; exact a i i0 i1
  · simp [up2] at i1 ⊢; exact b i i0 i1
  · simp [up2] at i1 ⊢
    rw [← h4]
    by_cases e1 : i = T 4 0
    · simp [e1]
    · simp only [if_neg e1]; exact c i i0 (by omega)
  · simp [up2] at i1 ⊢; exact e i i0 i1
theorem addI_ag {T U T1 : TT} {lt : Int} {l : List Int} (h : AgT T U) (hl : ∀ v ∈ l, 0 ≤ v ∧ v ≤ 99) (g : addI T lt l T1) : ∃ U1, addI U lt l U1 ∧ AgT T1 U1 := by
  obtain ⟨⟨h0, h2, h4, h9, h12⟩, a, b, c, e⟩ := id h
  rcases g with ⟨g1, v, g2, g3, rfl⟩ | ⟨g1, v, g2, g3, rfl⟩ | ⟨g1, x, y, w, k, g2, g3, rfl⟩ | ⟨g1, v, g2, rfl⟩ | ⟨g1, x, y, g2, g3, rfl⟩
  · exact ⟨addP U v, Or.inl ⟨g1, v, g2, by unfold okP at g3 ⊢; rw [← h0]; exact g3, rfl⟩, ag_addP h v⟩
  · exact ⟨addG U v, Or.inr (Or.inl ⟨g1, v, g2, by unfold okG at g3 ⊢; rw [← h2]; exact g3, rfl⟩), ag_addG h v⟩
  · refine ⟨addW U x y w k, Or.inr (Or.inr (Or.inl ⟨g1, x, y, w, k, g2, ?_, rfl⟩)), ag_addW h x y w k⟩
    unfold okW at g3 ⊢
    rw [← h0, ← h4]
    refine ⟨g3.1, g3.2.1, g3.2.2.1, g3.2.2.2.1, ?_⟩
    rcases g3.2.2.2.2 with q | q
    · exact Or.inl q
    · have hk := hl k (by rw [g2]; simp)
      exact Or.inr ⟨q.1, by rw [← (c k hk.1 q.1).1]; exact q.2⟩
  · exact ⟨addA U v, Or.inr (Or.inr (Or.inr (Or.inl ⟨g1, v, g2, rfl⟩))), ag_addA h v⟩
  · exact ⟨addDi U x y, Or.inr (Or.inr (Or.inr (Or.inr ⟨g1, x, y, g2, by unfold okDi at g3 ⊢; rw [← h0, ← h9]; exact g3, rfl⟩))), ag_addDi h x y⟩
theorem addI_fun {T T1 T2 : TT} {lt : Int} {l : List Int} (g : addI T lt l T1) (g' : addI T lt l T2) : T1 = T2 := by
  rcases g with ⟨g1, v, g2, g3, rfl⟩ | ⟨g1, v, g2, g3, rfl⟩ | ⟨g1, x, y, w, k, g2, g3, rfl⟩ | ⟨g1, v, g2, rfl⟩ | ⟨g1, x, y, g2, g3, rfl⟩ <;>
  rcases g' with ⟨h1, v', h2, h3, rfl⟩ | ⟨h1, v', h2, h3, rfl⟩ | ⟨h1, x', y', w', k', h2, h3, rfl⟩ | ⟨h1, v', h2, rfl⟩ | ⟨h1, x', y', h2, h3, rfl⟩ <;>
  first | (exfalso; omega) | (rw [g2] at h2; simp at h2; obtain ⟨rfl, rfl, rfl, rfl⟩ := h2; rfl) | (rw [g2] at h2; simp at h2; obtain ⟨rfl, rfl⟩ := h2; rfl) | (rw [g2] at h2; simp at h2; subst h2; rfl)
theorem prsR_fun {Bt : Int → Int} {e : Int} : ∀ (n : Nat) (T : TT) (i f1 f2 : Int) (T1 T2 : TT), prsR Bt e n T i f1 T1 → prsR Bt e n T i f2 T2 → f1 = f2 ∧ T1 = T2 := by
  intro n
  induction n with
  | zero =>
    rintro T i f1 f2 T1 T2 ⟨a1, a2, a3⟩ ⟨b1, b2, b3⟩
    exact ⟨a2.trans b2.symm, a3.trans b3.symm⟩
  | succ n ih =>
    intro T i f1 f2 T1 T2 ha hb
    rcases ha with ⟨a1, a2, a3⟩ | ⟨a1, q, l, T3, a2, a3, a4⟩ | ⟨a1, a2, a3, a4⟩ <;> rcases hb with ⟨b1, b2, b3⟩ | ⟨b1, q', l', T3', b2, b3, b4⟩ | ⟨b1, b2, b3, b4⟩
    · exact ⟨a2.trans b2.symm, a3.trans b3.symm⟩
    · exfalso; omega
    · exfalso; omega
    · exfalso; omega
    · rw [a2] at b2
      cases b2
      cases addI_fun a3 b3
      exact ih _ _ _ _ _ _ a4 b4
    · exact absurd a3 (b4 _ _ a2 _)
    · exfalso; omega
    · exact absurd b3 (a4 _ _ b2 _)
    · exact ⟨a2.trans b2.symm, a3.trans b3.symm⟩
theorem prsR_ag {Bt : Int → Int} {e : Int} : ∀ (n : Nat) (T U : TT) (i f : Int) (T1 : TT), AgT T U → prsR Bt e n T i f T1 → ∃ U1, prsR Bt e n U i f U1 ∧ AgT T1 U1 := by
  intro n
  induction n with
  | zero =>
    rintro T U i f T1 h ⟨a1, a2, a3⟩
    exact ⟨U, ⟨a1, a2, rfl⟩, by rw [a3]; exact h⟩
  | succ n ih =>
    intro T U i f T1 h ha
    rcases ha with ⟨a1, a2, a3⟩ | ⟨a1, q, l, T3, a2, a3, a4⟩ | ⟨a1, a2, a3, a4⟩
    · exact ⟨U, Or.inl ⟨a1, a2, rfl⟩, by rw [a3]; exact h⟩
    · obtain ⟨-, -, -, hl⟩ := rd_rng Bt e _ _ _ _ a2
      obtain ⟨U3, c1, c2⟩ := addI_ag h hl a3
      obtain ⟨U1, d1, d2⟩ := ih _ _ _ _ _ c2 a4
      exact ⟨U1, Or.inr (Or.inl ⟨a1, q, l, U3, a2, c1, d1⟩), d2⟩
    · refine ⟨U, Or.inr (Or.inr ⟨a1, a2, rfl, fun q l hq U1 g => ?_⟩), by rw [a3]; exact h⟩
      obtain ⟨-, -, -, hl⟩ := rd_rng Bt e _ _ _ _ hq
      obtain ⟨T3, c1, -⟩ := addI_ag h.symm hl g
      exact a4 q l hq T3 c1
def Zt : TT := fun _ _ => 0
/-- what the text tells, from an empty table -/
abbrev Told (Bt : Int → Int) (len f : Int) (T0 : TT) : Prop := prsR Bt len len.toNat (clr0 Zt) 0 f T0
theorem told_of {Bt : Int → Int} {len f : Int} {T T1 : TT} (h : prsR Bt len len.toNat (clr0 T) 0 f T1) : ∃ T0, Told Bt len f T0 ∧ AgT T0 T1 := by
  obtain ⟨U, a, b⟩ := prsR_ag _ _ _ _ _ _ (AgT.clr T Zt) h
  exact ⟨U, a, b.symm⟩
theorem told_fun {Bt : Int → Int} {len f f2 : Int} {T T2 : TT} (h : Told Bt len f T) (h2 : Told Bt len f2 T2) : f = f2 ∧ T = T2 := prsR_fun _ _ _ _ _ _ _ h h2
