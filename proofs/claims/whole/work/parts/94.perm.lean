/-! all orders of a rising list, one after the other -/
def Fall (l : List Nat) : Prop := l.Pairwise (fun a b => b < a)
def Rise (l : List Nat) : Prop := l.Pairwise (fun a b => a < b)
def Nx (a b : List Nat) : Prop := ∃ (p : List Nat) (x y : Nat) (s1 s2 : List Nat), a = p ++ x :: (s1 ++ y :: s2) ∧ Fall (s1 ++ y :: s2) ∧ x < y ∧ (∀ w ∈ s2, w < x) ∧ b = p ++ y :: (s1 ++ x :: s2).reverse
def EE : Nat → List Nat → List (List Nat)
  | 0, _ => [[]]
  | n + 1, l => l.flatMap (fun x => (EE n (l.erase x)).map (fun r => x :: r))
def Walk : List Nat → List (List Nat) → List Nat → Prop
  | _, [], _ => False
  | a, [x], e => a = x ∧ e = x
  | a, x :: y :: xs, e => a = x ∧ Nx x y ∧ Walk y (y :: xs) e
theorem Walk.app : ∀ (xs ys : List (List Nat)) (a e b e2 : List Nat), Walk a xs e → Nx e b → Walk b ys e2 → Walk a (xs ++ ys) e2 := by
  intro xs
  induction xs with
  | nil => intro ys a e b e2 h; cases h
  | cons x xs ih =>
    intro ys a e b e2 h hn h2
    cases xs with
    | nil =>
      obtain ⟨rfl, rfl⟩ := h
      cases ys with
      | nil => cases h2
      | cons y ys =>
        have e0 : b = y := by
          cases ys with
          | nil => exact h2.1
          | cons _ _ => exact h2.1
        subst e0
        exact ⟨rfl, hn, h2⟩
    | cons x2 xs =>
      obtain ⟨h3, h4, h5⟩ := h
      exact ⟨h3, h4, ih ys x2 e b e2 h5 hn h2⟩
theorem Nx.cons {a b : List Nat} (c : Nat) (h : Nx a b) : Nx (c :: a) (c :: b) := by
  obtain ⟨p, x, y, s1, s2, h1, h2, h3, h4, h5⟩ := h
  exact ⟨c :: p, x, y, s1, s2, by rw [h1]; rfl, h2, h3, h4, by rw [h5]; rfl⟩
theorem Walk.map (c : Nat) : ∀ (xs : List (List Nat)) (a e : List Nat), Walk a xs e → Walk (c :: a) (xs.map (fun r => c :: r)) (c :: e) := by
  intro xs
  induction xs with
  | nil => intro a e h; cases h
  | cons x xs ih =>
    intro a e h
    cases xs with
    | nil => exact ⟨by rw [h.1], by rw [h.2]⟩
    | cons y xs => exact ⟨by rw [h.1], h.2.1.cons c, ih y e h.2.2⟩
theorem Rise.rev {l : List Nat} (h : Rise l) : Fall l.reverse := List.pairwise_reverse.mpr h
theorem EE_walk : ∀ (n : Nat) (l : List Nat), l.length = n → Rise l → Walk l (EE n l) l.reverse := by
  intro n
  induction n with
  | zero =>
    intro l hl _
    have : l = [] := List.eq_nil_of_length_eq_zero hl
    subst this
    exact ⟨rfl, rfl⟩
  | succ n ih =>
    intro l hl hr
    have main : ∀ (post pre : List Nat) (x : Nat), l = pre ++ x :: post → Walk (x :: (pre ++ post)) ((x :: post).flatMap (fun x => (EE n (l.erase x)).map (fun r => x :: r))) l.reverse := by
      intro post
      induction post with
      | nil =>
        intro pre x h
        have hr2 := hr
        rw [h] at hr2
        obtain ⟨p1, p2, p3⟩ := List.pairwise_append.mp hr2
        have hnx : x ∉ pre := fun q => by have := p3 x q x (by simp); omega
        have he : l.erase x = pre := by rw [h, List.erase_append_right _ hnx]; simp
        have h1 := ih pre (by have := congrArg List.length h; simp at this; omega) p1
        have h2 := h1.map x
        simp only [List.flatMap_cons, List.flatMap_nil, List.append_nil, he]
        rw [h]
        simpa using h2
      | cons y post ihp =>
        intro pre x h
        have hr2 := hr
        rw [h] at hr2
        obtain ⟨p1, p2, p3⟩ := List.pairwise_append.mp hr2
        obtain ⟨p4, p5⟩ := List.pairwise_cons.mp p2
        have hnx : x ∉ pre := fun q => by have := p3 x q x (by simp); omega
        have he : l.erase x = pre ++ y :: post := by rw [h, List.erase_append_right _ hnx]; simp
        have hrp : Rise (pre ++ y :: post) := List.pairwise_append.mpr ⟨p1, p5, fun a ha b hb => p3 a ha b (by simp at hb ⊢; exact Or.inr hb)⟩
        have h1 := ih (pre ++ y :: post) (by have := congrArg List.length h; simp at this ⊢; omega) hrp
        have h2 := h1.map x
        have h3 := ihp (pre ++ [x]) y (by rw [h]; simp)
        rw [List.flatMap_cons, he]
        refine Walk.app _ _ _ _ _ _ h2 ⟨[], x, y, post.reverse, pre.reverse, by simp, ?_, p4 y (by simp), fun w hw => ?_, rfl⟩ ?_
        · have := hrp.rev
          simpa using this
        · exact p3 w (by simpa using hw) x (by simp)
        · have e : (post.reverse ++ x :: pre.reverse).reverse = pre ++ [x] ++ post := by simp
          rw [e]
          exact h3
    cases l with
    | nil => simp at hl
    | cons x post => exact main post [] x rfl
