theorem Nx_fall {a b : List Nat} (hF : Fall a) (h : Nx a b) : False := by
  obtain ⟨p, x, y, s1, s2, rfl, -, h3, -, -⟩ := h
  have h1 := (List.pairwise_cons.mp (List.pairwise_append.mp hF).2.1).1 y (by simp)
  omega
theorem cut_uniq {c y y' : Nat} {s1 s2 s1' s2' : List Nat} (h : s1 ++ y :: s2 = s1' ++ y' :: s2') (hy : c < y) (hy' : c < y') (h2 : ∀ w ∈ s2, w < c) (h2' : ∀ w ∈ s2', w < c) : s1 = s1' ∧ y = y' ∧ s2 = s2' := by
  rcases List.append_eq_append_iff.mp h with ⟨t, e1, e2⟩ | ⟨t, e1, e2⟩
  · cases t with
    | nil =>
      simp only [List.nil_append, List.cons.injEq] at e2
      simp only [List.append_nil] at e1
      exact ⟨e1.symm, e2.1, e2.2⟩
    | cons a t =>
      simp only [List.cons_append, List.cons.injEq] at e2
      have := h2 y' (by rw [e2.2]; simp)
      omega
  · cases t with
    | nil =>
      simp only [List.nil_append, List.cons.injEq] at e2
      simp only [List.append_nil] at e1
      exact ⟨e1, e2.1.symm, e2.2.symm⟩
    | cons a t =>
      simp only [List.cons_append, List.cons.injEq] at e2
      have := h2' y (by rw [e2.2]; simp)
      omega
theorem Nx_det : ∀ (a : List Nat) {b1 b2 : List Nat}, Nx a b1 → Nx a b2 → b1 = b2 := by
  intro a
  induction a with
  | nil =>
    rintro b1 b2 ⟨p, x, y, s1, s2, h1, -⟩
    cases p <;> cases h1
  | cons c a ih =>
    rintro b1 b2 ⟨p, x, y, s1, s2, h1, h2, h3, h4, h5⟩ ⟨p', x', y', s1', s2', h1', h2', h3', h4', h5'⟩
    cases p with
    | nil =>
      simp only [List.nil_append, List.cons.injEq] at h1
      obtain ⟨rfl, rfl⟩ := h1
      cases p' with
      | nil =>
        simp only [List.nil_append, List.cons.injEq] at h1'
        obtain ⟨rfl, e⟩ := h1'
        obtain ⟨rfl, rfl, rfl⟩ := cut_uniq e h3 h3' h4 h4'
        rw [h5, h5']
      | cons c' p' =>
        simp only [List.cons_append, List.cons.injEq] at h1'
        exact (Nx_fall h2 ⟨p', x', y', s1', s2', h1'.2, h2', h3', h4', rfl⟩).elim
    | cons c0 p =>
      simp only [List.cons_append, List.cons.injEq] at h1
      cases p' with
      | nil =>
        simp only [List.nil_append, List.cons.injEq] at h1'
        obtain ⟨rfl, rfl⟩ := h1'
        exact (Nx_fall h2' ⟨p, x, y, s1, s2, h1.2, h2, h3, h4, rfl⟩).elim
      | cons c' p' =>
        simp only [List.cons_append, List.cons.injEq] at h1'
        have := ih ⟨p, x, y, s1, s2, h1.2, h2, h3, h4, rfl⟩ ⟨p', x', y', s1', s2', h1'.2, h2', h3', h4', rfl⟩
        rw [h5, h5', List.cons_append, List.cons_append, this, ← h1.1, ← h1'.1]
theorem EE_perm : ∀ (n : Nat) (l : List Nat), l.length = n → ∀ r ∈ EE n l, r.Perm l := by
  intro n
  induction n with
  | zero =>
    intro l hl r hr
    have : l = [] := List.eq_nil_of_length_eq_zero hl
    subst this
    simp only [EE, List.mem_singleton] at hr
    subst hr
    exact List.Perm.refl _
  | succ n ih =>
    intro l hl r hr
    simp only [EE, List.mem_flatMap, List.mem_map] at hr
    obtain ⟨x, hx, r', hr', rfl⟩ := hr
    have h1 := ih (l.erase x) (by rw [List.length_erase_of_mem hx]; omega) r' hr'
    exact (h1.cons x).trans (List.perm_cons_erase hx).symm
theorem iL_getD (l : List Nat) (n : Nat) : (iL l).getD n 0 = ((l.getD n 0 : Nat) : Int) := by
  rw [List.getD_eq_getElem?_getD, List.getD_eq_getElem?_getD, List.getElem?_map]
  cases l[n]? <;> rfl
