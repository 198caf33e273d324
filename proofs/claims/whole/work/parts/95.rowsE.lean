def rsL (T : TT) (G : Int → Int) (pre : List Nat) : List Nat := (List.range (nSa T)).filter (fun s : Nat => decide (G (s : Int) ≠ -4 ∧ s ∉ pre))
theorem rsL_nil (T : TT) (G : Int → Int) : rsL T G [] = chL T G := by
  unfold rsL chL
  refine List.filter_congr fun s _ => ?_
  simp
theorem rsL_mem (T : TT) (G : Int → Int) (pre : List Nat) (s : Nat) : s ∈ rsL T G pre ↔ s < nSa T ∧ G (s : Int) ≠ -4 ∧ s ∉ pre := by
  unfold rsL
  rw [List.mem_filter, List.mem_range, decide_eq_true_iff]
theorem rsL_erase (T : TT) (G : Int → Int) (pre : List Nat) (x : Nat) : (rsL T G pre).erase x = rsL T G (pre ++ [x]) := by
  have hnd : (rsL T G pre).Nodup := List.Pairwise.filter _ List.nodup_range
  rw [hnd.erase_eq_filter]
  unfold rsL
  rw [List.filter_filter]
  refine List.filter_congr fun s _ => ?_
  by_cases e : s = x
  · simp [e]
  · by_cases e2 : G (s : Int) = -4
    · simp [e2]
    · simp [e, e2]
abbrev KF (T : TT) (G : Int → Int) (pre r : List Nat) : Prop := ∀ k : Nat, k < r.length → ansP T G (iL (pre ++ r.take k)) ((r.getD k 0 : Nat) : Int)
theorem KF_cons (T : TT) (G : Int → Int) (pre : List Nat) (x : Nat) (r : List Nat) : KF T G pre (x :: r) ↔ ansP T G (iL pre) (x : Int) ∧ KF T G (pre ++ [x]) r := by
  constructor
  · intro h
    refine ⟨?_, fun k hk => ?_⟩
    · have := h 0 (by simp)
      simpa using this
    · have := h (k + 1) (by simp; omega)
      simpa using this
  · rintro ⟨h1, h2⟩ k hk
    cases k with
    | zero => simpa using h1
    | succ k =>
      have := h2 k (by simp at hk; omega)
      simpa using this
theorem flat_filter {α : Type} (f : Nat → List α) (P : Nat → Bool) : ∀ l : List Nat, (∀ s ∈ l, P s = false → f s = []) → l.flatMap f = (l.filter P).flatMap f := by
  intro l
  induction l with
  | nil => intro _; rfl
  | cons a l ih =>
    intro h
    have ih := ih (fun s hs => h s (by simp [hs]))
    cases hp : P a with
    | true => rw [List.filter_cons_of_pos hp, List.flatMap_cons, List.flatMap_cons, ih]
    | false => rw [List.filter_cons_of_neg (by simp [hp]), List.flatMap_cons, h a (by simp) hp, ih]; rfl
theorem Rows_EE (T : TT) (G : Int → Int) : ∀ (n : Nat) (pre : List Nat), (rsL T G pre).length = n → Rows T G n (iL pre) = ((EE n (rsL T G pre)).filter (fun r => decide (KF T G pre r))).map (fun r => iL (pre ++ r)) := by
  intro n
  induction n with
  | zero =>
    intro pre _
    have h0 : KF T G pre [] := fun k hk => absurd hk (by simp)
    have e : ([[]] : List (List Nat)).filter (fun r => decide (KF T G pre r)) = [[]] := by
      rw [List.filter_cons_of_pos (by exact decide_eq_true h0)]
      rfl
    show [iL pre] = (([[]] : List (List Nat)).filter (fun r => decide (KF T G pre r))).map (fun r => iL (pre ++ r))
    rw [e]
    simp
  | succ n ih =>
    intro pre hl
    simp only [Rows, EE]
    rw [flat_filter _ (fun s : Nat => decide (G (s : Int) ≠ -4 ∧ s ∉ pre)) (List.range (nSa T)) (fun s _ hs => ?_)]
    · show (rsL T G pre).flatMap _ = _
      rw [List.filter_flatMap, List.map_flatMap]
      refine congrArg List.flatten (List.map_congr_left fun s hs => ?_)
      have hs2 := (rsL_mem T G pre s).mp hs
      have hlen : (rsL T G (pre ++ [s])).length = n := by
        rw [← rsL_erase, List.length_erase_of_mem hs]; omega
      have hi := ih (pre ++ [s]) hlen
      have hc : candP G (iL pre) (s : Int) := ⟨hs2.2.1, fun q => hs2.2.2 ((iL_mem pre s).mp q)⟩
      rw [rsL_erase, List.filter_map, List.map_map]
      by_cases ha : ansP T G (iL pre) (s : Int)
      · rw [if_pos ⟨hc, ha⟩, show iL pre ++ [(s : Int)] = iL (pre ++ [s]) by simp, hi]
        have e1 : (EE n (rsL T G (pre ++ [s]))).filter ((fun r => decide (KF T G pre r)) ∘ fun r => s :: r) = (EE n (rsL T G (pre ++ [s]))).filter (fun r => decide (KF T G (pre ++ [s]) r)) := by
          refine List.filter_congr fun r _ => ?_
          show decide (KF T G pre (s :: r)) = _
          have := KF_cons T G pre s r
          exact decide_eq_decide.mpr ⟨fun q => (this.mp q).2, fun q => this.mpr ⟨ha, q⟩⟩
        rw [e1]
        refine List.map_congr_left fun r _ => ?_
        simp
      · rw [if_neg (fun q => ha q.2)]
        have e1 : (EE n (rsL T G (pre ++ [s]))).filter ((fun r => decide (KF T G pre r)) ∘ fun r => s :: r) = [] := by
          refine List.filter_eq_nil_iff.mpr fun r _ => ?_
          show ¬ decide (KF T G pre (s :: r)) = true
          rw [decide_eq_true_iff]
          exact fun q => ha ((KF_cons T G pre s r).mp q).1
        rw [e1]
        rfl
    · have hn := of_decide_eq_false hs
      rw [if_neg (fun q => hn ⟨q.1.1, fun w => q.1.2 ((iL_mem pre s).mpr w)⟩)]
