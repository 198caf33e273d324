theorem chL_mem (T : TT) (G : Int → Int) (s : Nat) : s ∈ chL T G ↔ s < nSa T ∧ G (s : Int) ≠ -4 := by
  unfold chL
  rw [List.mem_filter, List.mem_range, decide_eq_true_iff]
theorem chL_sorted (T : TT) (G : Int → Int) : (chL T G).Pairwise (fun a b => a < b) := List.Pairwise.filter _ List.pairwise_lt_range
abbrev iL (l : List Nat) : List Int := l.map (fun n : Nat => (n : Int))
theorem iL_mem (l : List Nat) (n : Nat) : (n : Int) ∈ iL l ↔ n ∈ l := by
  rw [List.mem_map]
  constructor
  · rintro ⟨m, h1, h2⟩
    have : m = n := by omega
    exact this ▸ h1
  · exact fun h => ⟨n, h, rfl⟩
theorem Rows_has {T : TT} (hk : TabOk T) (G : Int → Int) : ∀ (rest pre : List Nat), pre ++ rest = chL T G → iL (pre ++ rest) ∈ Rows T G rest.length (iL pre) := by
  intro rest
  induction rest with
  | nil => intro pre _; simp [Rows]
  | cons s rest ih =>
    intro pre h
    have hs : s ∈ chL T G := by rw [← h]; simp
    have hs2 := (chL_mem T G s).mp hs
    have hsrt := chL_sorted T G
    rw [← h, List.pairwise_append] at hsrt
    obtain ⟨p1, p2, p3⟩ := hsrt
    have p4 := (List.pairwise_cons.mp p2).1
    have hnp : s ∉ pre := fun q => by have := p3 s q s (by simp); omega
    have hc : candP G (iL pre) (s : Int) := ⟨hs2.2, fun q => hnp ((iL_mem pre s).mp q)⟩
    have ha : ansP T G (iL pre) (s : Int) := by
      have h8 := (hk.2.2.2.2.2.2.2.1 (s : Int) (by omega) (by have := hs2.1; unfold nSa at this; omega)).2.2.2
      rcases h8 with e | e
      · exact Or.inl e
      · right
        by_cases hg : G (T 8 (s : Int)) = -4
        · exact Or.inl hg
        · right
          obtain ⟨n, hn⟩ : ∃ n : Nat, T 8 (s : Int) = (n : Int) := ⟨(T 8 (s : Int)).toNat, by omega⟩
          rw [hn] at hg e ⊢
          refine (iL_mem pre n).mpr ?_
          have hm : n ∈ chL T G := (chL_mem T G n).mpr ⟨by omega, hg⟩
          rw [← h] at hm
          rcases List.mem_append.mp hm with q | q
          · exact q
          · rcases List.mem_cons.mp q with q | q
            · omega
            · have := p4 n q; omega
    simp only [List.length_cons, Rows]
    refine List.mem_flatMap.mpr ⟨s, List.mem_range.mpr hs2.1, ?_⟩
    rw [if_pos ⟨hc, ha⟩]
    have := ih (pre ++ [s]) (by rw [← h]; simp)
    simpa using this
theorem bestB_any {T : TT} {mel : Int → Int} {S : Int} {F F' : List Int} : ∀ rs : List (List Int), (∃ r ∈ rs, (sim T mel r).2 < S) → bestB T mel (S, F) rs = bestB T mel (S, F') rs := by
  intro rs
  induction rs with
  | nil => rintro ⟨r, h, -⟩; cases h
  | cons a rs ih =>
    rintro ⟨r, h, h2⟩
    show bestB T mel (updB T mel (S, F) a) rs = bestB T mel (updB T mel (S, F') a) rs
    unfold updB
    by_cases e : (sim T mel a).2 < S
    · simp only [if_pos e]
    · simp only [if_neg e]
      rcases List.mem_cons.mp h with q | q
      · rw [q] at h2; exact absurd h2 e
      · exact ih ⟨r, q, h2⟩
theorem bestB_pick {T : TT} {mel : Int → Int} : ∀ (rs : List (List Int)) (b : Int × List Int), (bestB T mel b rs = b ∧ ∀ r ∈ rs, b.1 ≤ (sim T mel r).2) ∨ ∃ r ∈ rs, bestB T mel b rs = ((sim T mel r).2, r) := by
  intro rs
  induction rs with
  | nil => intro b; exact Or.inl ⟨rfl, fun r h => by cases h⟩
  | cons a rs ih =>
    intro b
    show (bestB T mel (updB T mel b a) rs = b ∧ _) ∨ ∃ r ∈ a :: rs, bestB T mel (updB T mel b a) rs = _
    unfold updB
    by_cases e : (sim T mel a).2 < b.1
    · rw [if_pos e]
      right
      rcases ih ((sim T mel a).2, a) with ⟨q, -⟩ | ⟨r, q1, q2⟩
      · exact ⟨a, by simp, q⟩
      · exact ⟨r, by simp [q1], q2⟩
    · rw [if_neg e]
      rcases ih b with ⟨q, q3⟩ | ⟨r, q1, q2⟩
      · left
        refine ⟨q, fun r hr => ?_⟩
        rcases List.mem_cons.mp hr with w | w
        · rw [w]; omega
        · exact q3 r w
      · right
        exact ⟨r, by simp [q1], q2⟩
noncomputable def ordB (T : TT) (D : Int → Int) (sd sh : Int) : Int × List Int := bestB T (melF T D (GG T D sd sh)) (1000000, []) (Rows T (GG T D sd sh) (chL T (GG T D sd sh)).length [])
theorem ordB_ok {T : TT} (hk : TabOk T) {D : Int → Int} {sd sh : Int} (hD : ∀ i : Int, 0 ≤ i → i < T 0 0 → 1 ≤ D i ∧ D i ≤ 9) : (∀ F0 : List Int, bestB T (melF T D (GG T D sd sh)) (1000000, F0) (Rows T (GG T D sd sh) (chL T (GG T D sd sh)).length []) = ordB T D sd sh) ∧ ∃ r ∈ Rows T (GG T D sd sh) (chL T (GG T D sd sh)).length [], ordB T D sd sh = ((sim T (melF T D (GG T D sd sh)) r).2, r) := by
  have hm := melF_ok hk (sd := sd) (sh := sh) hD
  have h7 := chL_len hk (GG T D sd sh)
  have hr := Rows_has hk (GG T D sd sh) (chL T (GG T D sd sh)) [] rfl
  have hin := Rows_InS hk (fun s hs => by cases hs) hr
  have hs := (sim_rng hk hm hin).2.2
  have hl : (iL ([] ++ chL T (GG T D sd sh))).length ≤ 7 := by simp only [List.nil_append, List.length_map]; exact h7
  have hlt : (sim T (melF T D (GG T D sd sh)) (iL ([] ++ chL T (GG T D sd sh)))).2 < 1000000 := by omega
  refine ⟨fun F0 => bestB_any _ ⟨_, hr, hlt⟩, ?_⟩
  rcases bestB_pick (T := T) (mel := melF T D (GG T D sd sh)) (Rows T (GG T D sd sh) (chL T (GG T D sd sh)).length []) (1000000, []) with ⟨-, q⟩ | q
  · exact absurd (q _ hr) (by show ¬ (1000000 : Int) ≤ _; omega)
  · exact q
