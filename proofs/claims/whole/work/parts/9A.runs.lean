theorem getD_mem {l : List Nat} {j : Nat} (hj : j < l.length) : l.getD j 0 ∈ l := by
  rw [List.getD_eq_getElem?_getD, List.getElem?_eq_getElem hj]
  exact List.getElem_mem hj
theorem getD_inj {l : List Nat} (h : l.Nodup) {j k : Nat} (hj : j < l.length) (hk : k < l.length) (e : l.getD j 0 = l.getD k 0) : j = k := by
  rw [List.getD_eq_getElem?_getD, List.getD_eq_getElem?_getD, List.getElem?_eq_getElem hj, List.getElem?_eq_getElem hk] at e
  have hp := List.pairwise_iff_getElem.mp h
  rcases Nat.lt_trichotomy j k with q | q | q
  · exact absurd e (hp j k hj hk q)
  · exact q
  · exact absurd e.symm (hp k j hk hj q)
/-- when a saying begins, said after these -/
def bgn (T : TT) (mel : Int → Int) (pre : List Int) (s : Int) : Int := mx (sim T mel pre).2 ((sim T mel pre).1 (T 5 s))
theorem sim_end (T : TT) (mel : Int → Int) (pre : List Int) (s : Int) : (sim T mel (pre ++ [s])).2 = bgn T mel pre s + T 6 s := by rw [sim_snoc]; rfl
theorem sim_own {T : TT} (mel : Int → Int) (pre : List Int) {s p : Int} (h : T 5 s = p) : (sim T mel (pre ++ [s])).1 p = bgn T mel pre s + 2 * mel s := by rw [sim_snoc, ← h]; exact if_pos rfl
theorem sim_not {T : TT} (mel : Int → Int) (pre : List Int) {s p : Int} (h : ¬ T 5 s = p) : (sim T mel (pre ++ [s])).1 p = (sim T mel pre).1 p := by rw [sim_snoc]; exact if_neg (fun q => h q.symm)
theorem run_1 {A old B m : Int} (h : old ≤ B) (hm : 0 ≤ m) (h2 : ¬ B + 2 * m ≤ mx A old) : mx A (B + 2 * m) = B + 2 * m := by
  have := mx_ge1 A old
  unfold mx
  split <;> omega
theorem run_2 {A old B m : Int} (h : old ≤ B) (hm : 0 ≤ m) (h2 : B + 2 * m ≤ mx A old) : mx A (B + 2 * m) = mx A old := by
  revert h2
  unfold mx
  split <;> split <;> omega
def RuQ (h0 : Hp) (U T : TT) (mel : Int → Int) (l : List Nat) : Option Value → Hp → Prop := fun r h' => r = some (vi (sim T mel (iL l)).2) ∧ (∃ V : TT, MdAt h' V ∧ (∀ j : Nat, j < l.length → V 42 ((l.getD j 0 : Nat) : Int) = bgn T mel (iL (l.take j)) ((l.getD j 0 : Nat) : Int)) ∧ ∀ a : Nat, a ≠ 42 → V a = U a) ∧ ∀ q : Nat, (q < 102 ∨ 128 < q) → h' q = h0 q
section R27
variable {d : Nat} {z : Nat × Nat} {h : Hp} {T U : TT} {l : List Nat} {D G : Int → Int} {st : SS}
theorem take_iL {k : Nat} (hk : k < l.length) : iL (l.take (k + 1)) = iL (l.take k) ++ [((l.getD k 0 : Nat) : Int)] := by
  rw [take_succ_getD l hk]
  simp
theorem c_6_runs (hd : 0 ≤ d) (hm : MdAt h U) (hR : RwAt U l) (h7 : l.length ≤ 7) (hk : TabOk T) (hF : MtF U T D st) (hmel : MelOk T (melF T D G)) (hnd : l.Nodup) (hin : ∀ w ∈ l, w < nSa T ∧ 0 ≤ G (w : Int) ∧ G (w : Int) < T 2 0) (u39 : ∀ s : Nat, s < nSa T → U 39 (s : Int) = G (s : Int)) : Ct d m_6_runs [.ref 102] z z h (RuQ h U T (melF T D G) l) := by
  refine Ct.of (by decide) ⟨Nat.le_refl _, Nat.le_refl _⟩ (Nat.le_of_ble_eq_true rfl) ?_
  obtain ⟨r43, r40⟩ := id hR
  obtain ⟨⟨t1, t2⟩, t6, t7, t13, t38⟩ := id hF
  have k0 := hk.1
  have k2 := hk.2.1
  have k4 := hk.2.2.1
  have hinS : ∀ k : Nat, InS T (iL (l.take k)) := by
    intro k x hx
    obtain ⟨w, hw, rfl⟩ := List.mem_map.mp hx
    have := (hin w (List.mem_of_mem_take hw)).1
    unfold nSa at this
    omega
  have hsim : ∀ k : Nat, k ≤ l.length → (∀ p, 0 ≤ (sim T (melF T D G) (iL (l.take k))).1 p ∧ (sim T (melF T D G) (iL (l.take k))).1 p ≤ 1554) ∧ 0 ≤ (sim T (melF T D G) (iL (l.take k))).2 ∧ (sim T (melF T D G) (iL (l.take k))).2 ≤ 1554 := by
    intro k hkl
    obtain ⟨w1, w2, w3⟩ := sim_rng hk hmel (hinS k)
    have e : (iL (l.take k)).length = k := by rw [List.length_map, List.length_take]; omega
    rw [e] at w1 w3
    exact ⟨fun p => by have := w1 p; omega, w2, by omega⟩
  have hbg : ∀ (k : Nat) (s : Int), k ≤ l.length → 0 ≤ bgn T (melF T D G) (iL (l.take k)) s ∧ bgn T (melF T D G) (iL (l.take k)) s ≤ 1554 := by
    intro k s hkl
    obtain ⟨w1, w2, w3⟩ := hsim k hkl
    have a1 := mx_ge1 (sim T (melF T D G) (iL (l.take k))).2 ((sim T (melF T D G) (iL (l.take k))).1 (T 5 s))
    exact ⟨Int.le_trans w2 a1, mx_le w3 (w1 _).2⟩
  have outer : ∀ (f k : Nat) (hh : Hp) (V : TT), k + f = l.length → MdAt hh V → (∀ j : Nat, j < k → V 42 ((l.getD j 0 : Nat) : Int) = bgn T (melF T D G) (iL (l.take j)) ((l.getD j 0 : Nat) : Int)) → (∀ a : Nat, a ≠ 42 → V a = U a) → (∀ q : Nat, (q < 102 ∨ 128 < q) → hh q = h q) →
      WW d m_6_runs z (RuQ h U T (melF T D G) l) z hh 4 [(0, .ref 102), (1, vi (sim T (melF T D G) (iL (l.take k))).2), (2, vi (k : Int))] [] := by
    intro f
    induction f with
    | zero =>
      intro k hh V hkk hm hx ho hf
      obtain rfl : k = l.length := by omega
      have v43 : V 43 0 = (l.length : Int) := (congrFun (ho 43 (by omega)) 0).trans r43
      refine x_iload_n D_6_runs_4 rfl ?_
      refine x_aload_n D_6_runs_5 rfl ?_
      refine x_getfield D_6_runs_6 f_6_236 (md_o hm) rfl ?_
      rw [v43]
      refine x_icmp_ge D_6_runs_9 ⟨by omega, by omega⟩ ⟨by omega, by omega⟩ (fun c9 => ?_) (fun c9 => ?_)
      · refine x_iload_n D_6_runs_139 rfl ?_
        refine x_ireturn D_6_runs_140 rfl (by first | rfl | exact nb_bi _ | decide +kernel) rfl ?_
        exact ⟨by rw [List.take_length], ⟨V, hm, hx, ho⟩, hf⟩
      exact absurd c9 (by omega)
    | succ f ih =>
      intro k hh V hkk hm hx ho hf
      have hkl : k < l.length := by omega
      have v43 : V 43 0 = (l.length : Int) := (congrFun (ho 43 (by omega)) 0).trans r43
      have v40 : ∀ j : Nat, j < l.length → V 40 (j : Int) = ((l.getD j 0 : Nat) : Int) := fun j hj => (congrFun (ho 40 (by omega)) _).trans (r40 j hj)
      have w40 := v40 k hkl
      have hs := (hin _ (getD_mem hkl)).1
      have hne : ∀ j : Nat, j < k → l.getD j 0 ≠ l.getD k 0 := fun j hj e => absurd (getD_inj hnd (by omega) hkl e) (by omega)
      have htk := take_iL (l := l) hkl
      generalize hsv : l.getD k 0 = s at w40 hs hne htk
      have hs4 : (s : Int) < T 4 0 := by unfold nSa at hs; omega
      have k8 := hk.2.2.2.2.2.2.2.1 (s : Int) (by omega) hs4
      obtain ⟨q7, q8, -⟩ := t7 (s : Int) (by omega) hs4
      have v7s : V 7 (s : Int) = T 5 (s : Int) := (congrFun (ho 7 (by omega)) _).trans q7
      have v8s : V 8 (s : Int) = T 6 (s : Int) := (congrFun (ho 8 (by omega)) _).trans q8
      have hA := hsim k (by omega)
      have hBs := hbg k (s : Int) (by omega)
      have hse := sim_end T (melF T D G) (iL (l.take k)) (s : Int)
      rw [← htk] at hse
      have hbdef : mx (sim T (melF T D G) (iL (l.take k))).2 ((sim T (melF T D G) (iL (l.take k))).1 (T 5 (s : Int))) = bgn T (melF T D G) (iL (l.take k)) (s : Int) := rfl
      generalize hAv : (sim T (melF T D G) (iL (l.take k))).2 = A at hA hbdef
      have inner : ∀ (g j : Nat), j + g = k → WW d m_6_runs z (RuQ h U T (melF T D G) l) z hh 25 [(0, .ref 102), (1, vi A), (2, vi (k : Int)), (3, vi (s : Int)), (4, vi (mx A ((sim T (melF T D G) (iL (l.take j))).1 (T 5 (s : Int))))), (5, vi (j : Int))] [] := by
        intro g
        induction g with
        | zero =>
          intro j hj
          obtain rfl : j = k := by omega
          rw [hbdef]
          refine x_iload D_6_runs_25 rfl ?_
          refine x_iload_n D_6_runs_27 rfl ?_
          refine x_icmp_ge D_6_runs_28 ⟨by omega, by omega⟩ ⟨by omega, by omega⟩ (fun c28 => ?_) (fun c28 => ?_)
          · refine x_aload_n D_6_runs_115 rfl ?_
            refine x_getfield D_6_runs_116 f_6_85 (md_o hm) rfl ?_
            refine x_iload_n D_6_runs_119 rfl ?_
            refine x_iload D_6_runs_120 rfl ?_
            refine x_iastore D_6_runs_122 (md_a42 hm) (by omega) (by omega) rfl (fun h122 e122 n122 => ?_)
            replace hm := md_s42 hm e122 n122
            replace hf := fun q hq => (n122 q (by omega)).trans (hf q hq)
            refine x_iload D_6_runs_123 rfl ?_
            refine x_aload_n D_6_runs_125 rfl ?_
            refine x_getfield D_6_runs_126 f_6_19 (md_o hm) rfl ?_
            refine x_iload_n D_6_runs_129 rfl ?_
            refine x_iaload D_6_runs_130 (md_a8 hm) (by omega) (by omega) rfl ?_
            try simp only [upr, Nat.reduceEqDiff, ↓reduceIte]
            rw [v8s]
            refine x_iadd D_6_runs_131 ?_
            refine x_istore_n D_6_runs_132 rfl rfl rfl ?_
            refine x_iinc D_6_runs_133 rfl rfl rfl rfl ?_
            refine x_goto D_6_runs_136 ?_
            refine (ih (j + 1) _ _ (by omega) hm (fun i hi => ?_) (fun a a1 => (upr_ne _ _ a1).trans (ho a a1)) hf).sub ?_
            · rw [upr_eq]
              by_cases e : i = j
              · subst e
                rw [hsv, ups_eq]
              · rw [ups_ne _ _ (by have := hne i (by omega); omega)]
                exact hx i (by omega)
            · rw [hse]
              rfl
          exact absurd c28 (by omega)
        | succ g ihg =>
          intro j hj
          have hjl : j < l.length := by omega
          have o40 := v40 j hjl
          obtain ⟨ho1, hG1, hG2⟩ := hin _ (getD_mem hjl)
          have v42 := hx j (by omega)
          have hto := take_iL (l := l) hjl
          generalize hov : l.getD j 0 = o at o40 ho1 hG1 hG2 v42 hto
          have ho4 : (o : Int) < T 4 0 := by unfold nSa at ho1; omega
          have k8o := hk.2.2.2.2.2.2.2.1 (o : Int) (by omega) ho4
          have v7o : V 7 (o : Int) = T 5 (o : Int) := (congrFun (ho 7 (by omega)) _).trans (t7 (o : Int) (by omega) ho4).1
          have v39 : V 39 (o : Int) = G (o : Int) := (congrFun (ho 39 (by omega)) _).trans (u39 o ho1)
          have v6 : V 6 (G (o : Int)) = T 3 (G (o : Int)) := (congrFun (ho 6 (by omega)) _).trans (t6 _ hG1 hG2)
          have v38 : V 38 (T 5 (o : Int)) = D (T 5 (o : Int)) := (congrFun (ho 38 (by omega)) _).trans (t38 _ k8o.1.1 k8o.1.2).1
          have hmo := hmel (o : Int) (by omega) ho4
          have hmul : 2 * T 3 (G (o : Int)) * D (T 5 (o : Int)) = 2 * melF T D G (o : Int) := by
            unfold melF
            rw [if_neg (by omega), Int.mul_assoc]
          have hBo := hbg j (o : Int) (by omega)
          have hSj := hsim j (by omega)
          have hold : T 5 (o : Int) = T 5 (s : Int) → (sim T (melF T D G) (iL (l.take j))).1 (T 5 (s : Int)) ≤ bgn T (melF T D G) (iL (l.take j)) (o : Int) := by
            intro e
            rw [← e]
            exact mx_ge2 _ _
          have hown := fun e : T 5 (o : Int) = T 5 (s : Int) => sim_own (melF T D G) (iL (l.take j)) e
          have hnot := fun e : ¬ T 5 (o : Int) = T 5 (s : Int) => sim_not (melF T D G) (iL (l.take j)) e
          rw [← hto] at hown hnot
          have hmr : 0 ≤ mx A ((sim T (melF T D G) (iL (l.take j))).1 (T 5 (s : Int))) ∧ mx A ((sim T (melF T D G) (iL (l.take j))).1 (T 5 (s : Int))) ≤ 1554 := by
            have a1 := mx_ge1 A ((sim T (melF T D G) (iL (l.take j))).1 (T 5 (s : Int)))
            exact ⟨Int.le_trans hA.2.1 a1, mx_le hA.2.2 (hSj.1 _).2⟩
          refine x_iload D_6_runs_25 rfl ?_
          refine x_iload_n D_6_runs_27 rfl ?_
          refine x_icmp_ge D_6_runs_28 ⟨by omega, by omega⟩ ⟨by omega, by omega⟩ (fun c28 => ?_) (fun c28 => ?_)
          · exact absurd c28 (by omega)
          refine x_aload_n D_6_runs_31 rfl ?_
          refine x_getfield D_6_runs_32 f_6_79 (md_o hm) rfl ?_
          refine x_iload D_6_runs_35 rfl ?_
          refine x_iaload D_6_runs_37 (md_a40 hm) (by omega) (by omega) rfl ?_
          rw [o40]
          refine x_istore D_6_runs_38 rfl rfl rfl ?_
          refine x_aload_n D_6_runs_40 rfl ?_
          refine x_getfield D_6_runs_41 f_6_85 (md_o hm) rfl ?_
          refine x_iload D_6_runs_44 rfl ?_
          refine x_iaload D_6_runs_46 (md_a42 hm) (by omega) (by omega) rfl ?_
          rw [v42]
          refine x_iconst D_6_runs_47 ?_
          refine x_aload_n D_6_runs_48 rfl ?_
          refine x_getfield D_6_runs_49 f_6_13 (md_o hm) rfl ?_
          refine x_aload_n D_6_runs_52 rfl ?_
          refine x_getfield D_6_runs_53 f_6_76 (md_o hm) rfl ?_
          refine x_iload D_6_runs_56 rfl ?_
          refine x_iaload D_6_runs_58 (md_a39 hm) (by omega) (by omega) rfl ?_
          rw [v39]
          refine x_iaload D_6_runs_59 (md_a6 hm) (by omega) (by omega) rfl ?_
          rw [v6]
          refine x_imul D_6_runs_60 ?_
          refine x_aload_n D_6_runs_61 rfl ?_
          refine x_getfield D_6_runs_62 f_6_73 (md_o hm) rfl ?_
          refine x_aload_n D_6_runs_65 rfl ?_
          refine x_getfield D_6_runs_66 f_6_16 (md_o hm) rfl ?_
          refine x_iload D_6_runs_69 rfl ?_
          refine x_iaload D_6_runs_71 (md_a7 hm) (by omega) (by omega) rfl ?_
          first
          | rw [v7o]
          | rw [v7s]
          refine x_iaload D_6_runs_72 (md_a38 hm) (by omega) (by omega) rfl ?_
          rw [v38]
          refine x_imul D_6_runs_73 ?_
          rw [hmul]
          refine x_iadd D_6_runs_74 ?_
          refine x_istore D_6_runs_75 rfl rfl rfl ?_
          refine x_aload_n D_6_runs_77 rfl ?_
          refine x_getfield D_6_runs_78 f_6_16 (md_o hm) rfl ?_
          refine x_iload D_6_runs_81 rfl ?_
          refine x_iaload D_6_runs_83 (md_a7 hm) (by omega) (by omega) rfl ?_
          first
          | rw [v7o]
          | rw [v7s]
          refine x_aload_n D_6_runs_84 rfl ?_
          refine x_getfield D_6_runs_85 f_6_16 (md_o hm) rfl ?_
          refine x_iload_n D_6_runs_88 rfl ?_
          refine x_iaload D_6_runs_89 (md_a7 hm) (by omega) (by omega) rfl ?_
          first
          | rw [v7o]
          | rw [v7s]
          refine x_icmp_ne D_6_runs_90 ⟨by omega, by omega⟩ ⟨by omega, by omega⟩ (fun c90 => ?_) (fun c90 => ?_)
          · refine x_iload D_6_runs_105 rfl ?_
            refine x_istore D_6_runs_107 rfl rfl rfl ?_
            refine x_iinc D_6_runs_109 rfl rfl rfl rfl ?_
            refine x_goto D_6_runs_112 ?_
            first
            | exact (ihg (j + 1) (by omega)).sub (by rw [hown (by omega), run_1 (hold (by omega)) hmo.1 (by omega)]; rfl)
            | exact (ihg (j + 1) (by omega)).sub (by rw [hown (by omega), run_2 (hold (by omega)) hmo.1 (by omega)]; rfl)
            | exact (ihg (j + 1) (by omega)).sub (by rw [hnot (by omega)]; rfl)
          refine x_iload D_6_runs_93 rfl ?_
          refine x_iload D_6_runs_95 rfl ?_
          refine x_icmp_le D_6_runs_97 ⟨by omega, by omega⟩ ⟨by omega, by omega⟩ (fun c97 => ?_) (fun c97 => ?_)
          · refine x_iload D_6_runs_105 rfl ?_
            refine x_istore D_6_runs_107 rfl rfl rfl ?_
            refine x_iinc D_6_runs_109 rfl rfl rfl rfl ?_
            refine x_goto D_6_runs_112 ?_
            first
            | exact (ihg (j + 1) (by omega)).sub (by rw [hown (by omega), run_1 (hold (by omega)) hmo.1 (by omega)]; rfl)
            | exact (ihg (j + 1) (by omega)).sub (by rw [hown (by omega), run_2 (hold (by omega)) hmo.1 (by omega)]; rfl)
            | exact (ihg (j + 1) (by omega)).sub (by rw [hnot (by omega)]; rfl)
          refine x_iload D_6_runs_100 rfl ?_
          refine x_goto D_6_runs_102 ?_
          refine x_istore D_6_runs_107 rfl rfl rfl ?_
          refine x_iinc D_6_runs_109 rfl rfl rfl rfl ?_
          refine x_goto D_6_runs_112 ?_
          first
          | exact (ihg (j + 1) (by omega)).sub (by rw [hown (by omega), run_1 (hold (by omega)) hmo.1 (by omega)]; rfl)
          | exact (ihg (j + 1) (by omega)).sub (by rw [hown (by omega), run_2 (hold (by omega)) hmo.1 (by omega)]; rfl)
          | exact (ihg (j + 1) (by omega)).sub (by rw [hnot (by omega)]; rfl)
      have hst : mx A ((sim T (melF T D G) (iL (l.take 0))).1 (T 5 (s : Int))) = A := by
        show mx A 0 = A
        unfold mx
        split <;> omega
      have inn := inner k 0 (by omega)
      rw [hst] at inn
      refine x_iload_n D_6_runs_4 rfl ?_
      refine x_aload_n D_6_runs_5 rfl ?_
      refine x_getfield D_6_runs_6 f_6_236 (md_o hm) rfl ?_
      rw [v43]
      refine x_icmp_ge D_6_runs_9 ⟨by omega, by omega⟩ ⟨by omega, by omega⟩ (fun c9 => ?_) (fun c9 => ?_)
      · exact absurd c9 (by omega)
      refine x_aload_n D_6_runs_12 rfl ?_
      refine x_getfield D_6_runs_13 f_6_79 (md_o hm) rfl ?_
      refine x_iload_n D_6_runs_16 rfl ?_
      refine x_iaload D_6_runs_17 (md_a40 hm) (by omega) (by omega) rfl ?_
      rw [w40]
      refine x_istore_n D_6_runs_18 rfl rfl rfl ?_
      refine x_iload_n D_6_runs_19 rfl ?_
      refine x_istore D_6_runs_20 rfl rfl rfl ?_
      refine x_iconst D_6_runs_22 ?_
      refine x_istore D_6_runs_23 rfl rfl rfl ?_
      exact inn.sub rfl
  refine x_iconst D_6_runs_0 ?_
  refine x_istore_n D_6_runs_1 rfl rfl rfl ?_
  refine x_iconst D_6_runs_2 ?_
  refine x_istore_n D_6_runs_3 rfl rfl rfl ?_
  exact (outer l.length 0 h U (by omega) hm (fun j hj => absurd hj (by omega)) (fun _ _ => rfl) (fun _ _ => rfl)).sub rfl
end R27
