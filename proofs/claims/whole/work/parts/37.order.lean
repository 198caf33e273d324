/-! SOONEST: rows of sayings, when they end -/
abbrev candP (G : Int → Int) (pre : List Int) (s : Int) : Prop := G s ≠ -4 ∧ s ∉ pre
abbrev ansP (T : TT) (G : Int → Int) (pre : List Int) (s : Int) : Prop := T 8 s = -4 ∨ G (T 8 s) = -4 ∨ T 8 s ∈ pre
def Rows (T : TT) (G : Int → Int) : Nat → List Int → List (List Int)
  | 0, pre => [pre]
  | k + 1, pre => (List.range (nSa T)).flatMap (fun s : Nat => if candP G pre (s : Int) ∧ ansP T G pre (s : Int) then Rows T G k (pre ++ [(s : Int)]) else [])
def stp (T : TT) (mel : Int → Int) (st : (Int → Int) × Int) (s : Int) : (Int → Int) × Int := (ups st.1 (T 5 s) (mx st.2 (st.1 (T 5 s)) + 2 * mel s), mx st.2 (st.1 (T 5 s)) + T 6 s)
def sim (T : TT) (mel : Int → Int) (l : List Int) : (Int → Int) × Int := l.foldl (stp T mel) (fun _ => 0, 0)
theorem sim_snoc (T : TT) (mel : Int → Int) (l : List Int) (s : Int) : sim T mel (l ++ [s]) = stp T mel (sim T mel l) s := by
  unfold sim
  rw [List.foldl_append]
  rfl
abbrev MelOk (T : TT) (mel : Int → Int) : Prop := ∀ s : Int, 0 ≤ s → s < T 4 0 → 0 ≤ mel s ∧ mel s ≤ 81
abbrev InS (T : TT) (l : List Int) : Prop := ∀ s ∈ l, 0 ≤ s ∧ s < T 4 0
theorem mx_le {a b c : Int} (h1 : a ≤ c) (h2 : b ≤ c) : mx a b ≤ c := by unfold mx; split <;> omega
theorem mx_ge1 (a b : Int) : a ≤ mx a b := by unfold mx; split <;> omega
theorem mx_ge2 (a b : Int) : b ≤ mx a b := by unfold mx; split <;> omega
theorem stp_rng {T : TT} (hk : TabOk T) {mel : Int → Int} (hm : MelOk T mel) {st : (Int → Int) × Int} {s B : Int} (hs : 0 ≤ s ∧ s < T 4 0) (h1 : ∀ p, 0 ≤ st.1 p ∧ st.1 p ≤ B) (h2 : 0 ≤ st.2 ∧ st.2 ≤ B) : (∀ p, 0 ≤ (stp T mel st s).1 p ∧ (stp T mel st s).1 p ≤ B + 222) ∧ st.2 ≤ (stp T mel st s).2 ∧ (stp T mel st s).2 ≤ B + 222 := by
  have k5 := (hk.2.2.2.2.2.2.2.1 s hs.1 hs.2).2.1
  have hms := hm s hs.1 hs.2
  have a1 := mx_ge1 st.2 (st.1 (T 5 s))
  have a3 := mx_le h2.2 (h1 (T 5 s)).2
  refine ⟨fun p => ?_, ?_, ?_⟩
  · simp only [stp, ups]
    have := h1 p
    split <;> omega
  · simp only [stp]; omega
  · simp only [stp]; omega
theorem sim_fold_rng {T : TT} (hk : TabOk T) {mel : Int → Int} (hm : MelOk T mel) : ∀ (l : List Int) (st : (Int → Int) × Int) (B : Int), InS T l → (∀ p, 0 ≤ st.1 p ∧ st.1 p ≤ B) → 0 ≤ st.2 ∧ st.2 ≤ B → (∀ p, 0 ≤ (l.foldl (stp T mel) st).1 p ∧ (l.foldl (stp T mel) st).1 p ≤ B + 222 * l.length) ∧ st.2 ≤ (l.foldl (stp T mel) st).2 ∧ (l.foldl (stp T mel) st).2 ≤ B + 222 * l.length := by
  intro l
  induction l with
  | nil => intro st B _ h1 h2; simp; exact ⟨h1, h2.2⟩
  | cons s t ih =>
    intro st B hi h1 h2
    obtain ⟨g1, g2, g3⟩ := stp_rng hk hm (hi s List.mem_cons_self) h1 h2
    obtain ⟨w1, w2, w3⟩ := ih (stp T mel st s) (B + 222) (fun x hx => hi x (List.mem_cons_of_mem _ hx)) g1 ⟨by omega, g3⟩
    simp only [List.foldl_cons, List.length_cons]
    refine ⟨fun p => ?_, by omega, by omega⟩
    have := w1 p
    omega
theorem sim_rng {T : TT} (hk : TabOk T) {mel : Int → Int} (hm : MelOk T mel) {l : List Int} (hi : InS T l) : (∀ p, 0 ≤ (sim T mel l).1 p ∧ (sim T mel l).1 p ≤ 222 * l.length) ∧ 0 ≤ (sim T mel l).2 ∧ (sim T mel l).2 ≤ 222 * l.length := by
  obtain ⟨a, b, c⟩ := sim_fold_rng hk hm l (fun _ => 0, 0) 0 hi (fun _ => ⟨Int.le_refl _, Int.le_refl _⟩) ⟨Int.le_refl _, Int.le_refl _⟩
  unfold sim
  exact ⟨fun p => by have := a p; omega, by omega, by omega⟩
theorem sim_mono {T : TT} (hk : TabOk T) {mel : Int → Int} (hm : MelOk T mel) {pre l : List Int} (hp : InS T pre) (hl : InS T l) : (sim T mel pre).2 ≤ (sim T mel (pre ++ l)).2 := by
  obtain ⟨a, b, c⟩ := sim_rng hk hm hp
  obtain ⟨-, w, -⟩ := sim_fold_rng hk hm l (sim T mel pre) (222 * pre.length) hl a ⟨b, c⟩
  have : sim T mel (pre ++ l) = l.foldl (stp T mel) (sim T mel pre) := by unfold sim; rw [List.foldl_append]
  rw [this]
  exact w
theorem Rows_mem (T : TT) (G : Int → Int) : ∀ (k : Nat) (pre r : List Int), r ∈ Rows T G k pre → ∃ l : List Int, r = pre ++ l ∧ l.length = k ∧ ∀ s ∈ l, (0 ≤ s ∧ s < (nSa T : Int)) ∧ G s ≠ -4 := by
  intro k
  induction k with
  | zero =>
    intro pre r h
    simp only [Rows, List.mem_singleton] at h
    exact ⟨[], by simp [h], rfl, fun s hs => by cases hs⟩
  | succ k ih =>
    intro pre r h
    simp only [Rows, List.mem_flatMap, List.mem_range] at h
    obtain ⟨s, hs, hr⟩ := h
    split at hr
    next hc =>
      obtain ⟨l, h1, h2, h3⟩ := ih _ _ hr
      refine ⟨(s : Int) :: l, by rw [h1]; simp, by simp [h2], fun x hx => ?_⟩
      rcases List.mem_cons.mp hx with rfl | hx
      · exact ⟨⟨by omega, by omega⟩, hc.1.1⟩
      · exact h3 x hx
    next => cases hr
def updB (T : TT) (mel : Int → Int) (b : Int × List Int) (r : List Int) : Int × List Int := if (sim T mel r).2 < b.1 then ((sim T mel r).2, r) else b
def bestB (T : TT) (mel : Int → Int) (b : Int × List Int) (rs : List (List Int)) : Int × List Int := rs.foldl (updB T mel) b
theorem bestB_same {T : TT} {mel : Int → Int} {b : Int × List Int} : ∀ rs : List (List Int), (∀ r ∈ rs, b.1 ≤ (sim T mel r).2) → bestB T mel b rs = b := by
  intro rs
  induction rs with
  | nil => intro _; rfl
  | cons r t ih =>
    intro h
    have e : updB T mel b r = b := by
      unfold updB
      rw [if_neg (by have := h r List.mem_cons_self; omega)]
    show bestB T mel (updB T mel b r) t = b
    rw [e]
    exact ih (fun x hx => h x (List.mem_cons_of_mem _ hx))
theorem prune {T : TT} (hk : TabOk T) {mel : Int → Int} (hm : MelOk T mel) {G : Int → Int} {k : Nat} {pre : List Int} {b : Int × List Int} (hp : InS T pre) (h : b.1 ≤ (sim T mel pre).2) : bestB T mel b (Rows T G k pre) = b := by
  refine bestB_same _ fun r hr => ?_
  obtain ⟨l, h1, -, h3⟩ := Rows_mem T G k pre r hr
  have h4 := hk.2.2.1
  have := sim_mono hk hm hp (l := l) (fun s hs => by have := (h3 s hs).1; unfold nSa at this; exact ⟨this.1, by omega⟩)
  rw [h1]
  omega
/-- what the first s sayings as the next one give -/
def RowsTo (T : TT) (G : Int → Int) (k : Nat) (pre : List Int) (s : Nat) : List (List Int) := (List.range s).flatMap (fun s : Nat => if candP G pre (s : Int) ∧ ansP T G pre (s : Int) then Rows T G k (pre ++ [(s : Int)]) else [])
theorem RowsTo_succ (T : TT) (G : Int → Int) (k : Nat) (pre : List Int) (s : Nat) : RowsTo T G k pre (s + 1) = RowsTo T G k pre s ++ (if candP G pre (s : Int) ∧ ansP T G pre (s : Int) then Rows T G k (pre ++ [(s : Int)]) else []) := by
  unfold RowsTo
  rw [List.range_succ, List.flatMap_append]
  simp
theorem bestB_app (T : TT) (mel : Int → Int) (b : Int × List Int) (x y : List (List Int)) : bestB T mel b (x ++ y) = bestB T mel (bestB T mel b x) y := by
  unfold bestB
  rw [List.foldl_append]
theorem bestB_le (T : TT) (mel : Int → Int) : ∀ (rs : List (List Int)) (b : Int × List Int), (bestB T mel b rs).1 ≤ b.1 := by
  intro rs
  induction rs with
  | nil => intro b; exact Int.le_refl _
  | cons r t ih =>
    intro b
    refine Int.le_trans (ih (updB T mel b r)) ?_
    unfold updB
    split
    · omega
    · exact Int.le_refl _
theorem bestB_ge {T : TT} (hk : TabOk T) {mel : Int → Int} (hm : MelOk T mel) : ∀ (rs : List (List Int)) (b : Int × List Int), 0 ≤ b.1 → (∀ r ∈ rs, InS T r) → 0 ≤ (bestB T mel b rs).1 := by
  intro rs
  induction rs with
  | nil => intro b h _; exact h
  | cons r t ih =>
    intro b h hi
    refine ih (updB T mel b r) ?_ (fun x hx => hi x (List.mem_cons_of_mem _ hx))
    unfold updB
    split
    · exact (sim_rng hk hm (hi r List.mem_cons_self)).2.1
    · exact h
