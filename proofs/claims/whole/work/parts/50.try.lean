theorem c_J6_bitCount_0f7a4 {d : Nat} (hd : 0 ≤ d) {z : Nat × Nat} {h : Hp} {v : Nat} (hv : v < 128) : Ct d m_J6_bitCount_0f7a4 [vi v] z z h (Pu ((pcN v : Nat) : Int) h) := by
  refine Ct.of (by decide) ⟨Nat.le_refl _, Nat.le_refl _⟩ (Nat.le_of_ble_eq_true rfl) ?_
  refine x_iload_n D_J6_bitCount_0f7a4_0 rfl ?_
  refine x_iload_n D_J6_bitCount_0f7a4_1 rfl ?_
  refine x_iconst D_J6_bitCount_0f7a4_2 ?_
  refine x_iushr D_J6_bitCount_0f7a4_3 ?_
  refine x_ldcw (n := 1431655765) D_J6_bitCount_0f7a4_4 k_J6_265 ?_
  refine x_iand D_J6_bitCount_0f7a4_7 ?_
  refine x_isub D_J6_bitCount_0f7a4_8 ?_
  refine x_istore_n D_J6_bitCount_0f7a4_9 rfl rfl rfl ?_
  refine x_iload_n D_J6_bitCount_0f7a4_10 rfl ?_
  refine x_ldcw (n := 858993459) D_J6_bitCount_0f7a4_11 k_J6_266 ?_
  refine x_iand D_J6_bitCount_0f7a4_14 ?_
  refine x_iload_n D_J6_bitCount_0f7a4_15 rfl ?_
  refine x_iconst D_J6_bitCount_0f7a4_16 ?_
  refine x_iushr D_J6_bitCount_0f7a4_17 ?_
  refine x_ldcw (n := 858993459) D_J6_bitCount_0f7a4_18 k_J6_266 ?_
  refine x_iand D_J6_bitCount_0f7a4_21 ?_
  refine x_iadd D_J6_bitCount_0f7a4_22 ?_
  refine x_istore_n D_J6_bitCount_0f7a4_23 rfl rfl rfl ?_
  refine x_iload_n D_J6_bitCount_0f7a4_24 rfl ?_
  refine x_iload_n D_J6_bitCount_0f7a4_25 rfl ?_
  refine x_iconst D_J6_bitCount_0f7a4_26 ?_
  refine x_iushr D_J6_bitCount_0f7a4_27 ?_
  refine x_iadd D_J6_bitCount_0f7a4_28 ?_
  refine x_ldcw (n := 252645135) D_J6_bitCount_0f7a4_29 k_J6_267 ?_
  refine x_iand D_J6_bitCount_0f7a4_32 ?_
  refine x_istore_n D_J6_bitCount_0f7a4_33 rfl rfl rfl ?_
  refine x_iload_n D_J6_bitCount_0f7a4_34 rfl ?_
  refine x_iload_n D_J6_bitCount_0f7a4_35 rfl ?_
  refine x_bipush D_J6_bitCount_0f7a4_36 (by decide +kernel) ?_
  refine x_iushr D_J6_bitCount_0f7a4_38 ?_
  refine x_iadd D_J6_bitCount_0f7a4_39 ?_
  refine x_istore_n D_J6_bitCount_0f7a4_40 rfl rfl rfl ?_
  refine x_iload_n D_J6_bitCount_0f7a4_41 rfl ?_
  refine x_iload_n D_J6_bitCount_0f7a4_42 rfl ?_
  refine x_bipush D_J6_bitCount_0f7a4_43 (by decide +kernel) ?_
  refine x_iushr D_J6_bitCount_0f7a4_45 ?_
  refine x_iadd D_J6_bitCount_0f7a4_46 ?_
  refine x_istore_n D_J6_bitCount_0f7a4_47 rfl rfl rfl ?_
  refine x_iload_n D_J6_bitCount_0f7a4_48 rfl ?_
  refine x_bipush D_J6_bitCount_0f7a4_49 (by decide +kernel) ?_
  refine x_iand D_J6_bitCount_0f7a4_51 ?_
  refine x_ireturn D_J6_bitCount_0f7a4_52 rfl (by first | rfl | exact nb_bi _ | decide +kernel) rfl ?_
  exact Pu.e (bc_ok v hv)
/-- the order's cells -/
abbrev ordC (o : Nat) (m S gv : Int) : Ce := ob 2 [vi m, vi S, .ref (o + 1), vi gv, .ref (o + 2), .ref (o + 3), .ref (o + 4), .ref (o + 5)]
abbrev AgL (F : Int → Int) (l : List Int) : Prop := ∀ j : Nat, j < l.length → F (j : Int) = l.getD j 0
abbrev AgLn (F : Int → Int) (l : List Int) (m : Nat) : Prop := ∀ j : Nat, j < m → F (j : Int) = l.getD j 0
abbrev TryQ (o : Nat) (h : Hp) (T : TT) (G mel : Int → Int) (m : Nat) (gv : Int) (k : Nat) (pre : List Int) (S : Int) (F : List Int) : Option Value → Hp → Prop := fun r h' => r = none ∧ (∃ (Fi Tr Fr : Int → Int), h' o = some (ordC o m (bestB T mel (S, F) (Rows T G k pre)).1 gv) ∧ AgLn Fi (bestB T mel (S, F) (Rows T G k pre)).2 m ∧ h' (o + 1) = some (ia 0 7 Fi) ∧ h' (o + 3) = some (ia 0 7 Tr) ∧ AgL Tr pre ∧ h' (o + 4) = some (ia 0 5 Fr) ∧ ∀ p : Int, 0 ≤ p → p < T 0 0 → Fr p = (sim T mel pre).1 p) ∧ ∀ q : Nat, (q ≠ o ∧ q ≠ o + 1 ∧ q ≠ o + 3 ∧ q ≠ o + 4) → h' q = h q
theorem AgL_snoc {pre : List Int} {w : Int} {N : Int → Int} (h : AgL N pre) : AgL (ups N (pre.length : Int) w) (pre ++ [w]) := getD_snoc h
theorem AgL_pre {pre : List Int} {w : Int} {N : Int → Int} (h : AgL N (pre ++ [w])) : AgL N pre := by
  intro j hj
  rw [h j (by simp; omega)]
  simp [List.getD_eq_getElem?_getD, List.getElem?_append_left hj]
theorem c_2_tryFrom {z : Nat × Nat} {o t : Nat} {T : TT} {G mel : Int → Int} {m : Nat} {gv : Int} {Me : Int → Int} (hk : TabOk T) (hm : MelOk T mel) (hm7 : m ≤ 7) (ht : t + 8 < o ∨ o + 5 < t) (hMe : ∀ s : Int, 0 ≤ s → s < T 4 0 → Me s = mel s) (hgv : ∀ j : Nat, j < nSa T → (tb gv j = true ↔ G (j : Int) ≠ -4)) :
    ∀ (k d : Nat) (h : Hp) (S : Int) (F pre : List Int) (Fi Tr Fr : Int → Int) (dn : Int), k + 2 ≤ d → pre.length + k = m → InS T pre → (∀ j : Nat, j < nSa T → (tb dn j = true ↔ (j : Int) ∈ pre)) → h o = some (ordC o m S gv) → h (o + 1) = some (ia 0 7 Fi) → AgLn Fi F m → h (o + 2) = some (ia 0 7 Me) → h (o + 3) = some (ia 0 7 Tr) → AgL Tr pre → h (o + 4) = some (ia 0 5 Fr) → (∀ p : Int, 0 ≤ p → p < T 0 0 → Fr p = (sim T mel pre).1 p) → TabAt h t T → (sim T mel pre).2 < S → S ≤ 1000000 →
      Ct d m_2_tryFrom [.ref o, .ref t, vi (pre.length : Int), vi dn, vi (sim T mel pre).2] z z h (TryQ o h T G mel m gv k pre S F) := by
  have k4 := hk.2.2.1
  have k0 := hk.1
  intro k
  induction k with
  | zero =>
    intro d h S F pre Fi Tr Fr dn hd hlen hin hdn hO hF hFi hM hT3 hTr hF4 hFr hT hlt hS
    refine Ct.of (by decide) ⟨Nat.le_refl _, Nat.le_refl _⟩ (Nat.le_of_ble_eq_true rfl) ?_
    have hrg := sim_rng hk hm hin
    refine x_iload_n D_2_tryFrom_0 rfl ?_
    refine x_aload_n D_2_tryFrom_1 rfl ?_
    refine x_getfield D_2_tryFrom_2 f_2_42 (by assumption) rfl ?_
    refine x_icmp_ge D_2_tryFrom_5 ⟨by omega, by omega⟩ ⟨by omega, by omega⟩ (fun c5 => ?_) (fun c5 => ?_)
    · refine x_aload_n D_2_tryFrom_14 rfl ?_
      refine x_iload D_2_tryFrom_15 rfl ?_
      refine x_invV (d' := d - 1) D_2_tryFrom_17 l_2_75 mi_2_keepTrial (c_2_keepTrial (by omega) hO hF hT3) (by assumption) rfl rfl (by omega) rfl (fun q => q) rfl rfl (fun r17 h17 q17 => ?_)
      obtain ⟨rfl, g1, g2, g3⟩ := q17
      refine x_return D_2_tryFrom_20 rfl rfl ?_
      have e : bestB T mel (S, F) (Rows T G 0 pre) = ((sim T mel pre).2, pre) := by
        show updB T mel (S, F) pre = _
        unfold updB
        rw [if_pos hlt]
      refine ⟨rfl, ⟨Tr, Tr, Fr, ?_, ?_, g2, (g3 _ (by omega)).trans hT3, hTr, (g3 _ (by omega)).trans hF4, hFr⟩, fun q hq => g3 q (by omega)⟩
      · rw [e]; exact g1
      · rw [e]
        intro j hj
        exact hTr j (by omega)
    exact absurd c5 (by omega)
  | succ k ih =>
    intro d h S F pre Fi Tr Fr dn hd hlen hin hdn hO hF hFi hM hT3 hTr hF4 hFr hT hlt hS
    refine Ct.of (by decide) ⟨Nat.le_refl _, Nat.le_refl _⟩ (Nat.le_of_ble_eq_true rfl) ?_
    have hrg := sim_rng hk hm hin
    have hl7 : (pre.length : Int) ≤ 7 := by omega
    have loop : ∀ (f s : Nat) (hh : Hp) (S1 : Int) (F1 : List Int) (Fi1 Tr1 Fr1 : Int → Int), nSa T = s + f → (S1, F1) = bestB T mel (S, F) (RowsTo T G k pre s) → 0 ≤ S1 ∧ S1 ≤ 1000000 → hh o = some (ordC o m S1 gv) → hh (o + 1) = some (ia 0 7 Fi1) → AgLn Fi1 F1 m → hh (o + 3) = some (ia 0 7 Tr1) → AgL Tr1 pre → hh (o + 4) = some (ia 0 5 Fr1) → (∀ p : Int, 0 ≤ p → p < T 0 0 → Fr1 p = (sim T mel pre).1 p) → (∀ q : Nat, (q ≠ o ∧ q ≠ o + 1 ∧ q ≠ o + 3 ∧ q ≠ o + 4) → hh q = h q) →
        WW d m_2_tryFrom z (TryQ o h T G mel m gv (k + 1) pre S F) z hh 24 [(0, .ref o), (1, .ref t), (2, vi (pre.length : Int)), (3, vi dn), (4, vi (sim T mel pre).2), (5, vi s)] [] := by
      intro f
      induction f with
      | zero =>
        intro s hh S1 F1 Fi1 Tr1 Fr1 hf hb hS1 hO hF hFi hT3 hTr hF4 hFr hfr
        have hT1 : TabAt hh t T := hT.kept (fun q q1 q2 => hfr q (by omega))
        obtain ⟨b0, -⟩ := id hT1
        have hse : (s : Int) = T 4 0 := by unfold nSa at hf; omega
        refine x_iload D_2_tryFrom_24 rfl ?_
        refine x_aload_n D_2_tryFrom_26 rfl ?_
        refine x_getfield D_2_tryFrom_27 f_2_49 (by assumption) rfl ?_
        refine x_icmp_ge D_2_tryFrom_30 ⟨by omega, by omega⟩ ⟨by omega, by omega⟩ (fun c30 => ?_) (fun c30 => ?_)
        · refine x_return D_2_tryFrom_121 rfl rfl ?_
          have e : (S1, F1) = bestB T mel (S, F) (Rows T G (k + 1) pre) := by
            rw [hb]
            have : s = nSa T := by omega
            rw [this]
            rfl
          refine ⟨rfl, ⟨Fi1, Tr1, Fr1, ?_, ?_, hF, hT3, hTr, hF4, hFr⟩, hfr⟩
          · rw [← e]; exact hO
          · rw [← e]; exact hFi
        exact absurd c30 (by omega)
      | succ f ihf =>
        intro s hh S1 F1 Fi1 Tr1 Fr1 hf hb hS1 hO hF hFi hT3 hTr hF4 hFr hfr
        have hT1 : TabAt hh t T := hT.kept (fun q q1 q2 => hfr q (by omega))
        obtain ⟨b0, b1, b2, b3, b4, b5, b6, b7, b8⟩ := id hT1
        have hM1 := (hfr (o + 2) (by omega)).trans hM
        have hs4 : (s : Int) < T 4 0 := by unfold nSa at hf; omega
        have k5 := hk.2.2.2.2.2.2.2.1 (s : Int) (by omega) hs4
        have hms := hm (s : Int) (by omega) hs4
        have hMes := hMe (s : Int) (by omega) hs4
        have hfw := hFr (T 5 (s : Int)) k5.1.1 k5.1.2
        have hfwr := hrg.1 (T 5 (s : Int))
        have hin2 : InS T (pre ++ [(s : Int)]) := by
          intro x hx
          rcases List.mem_append.mp hx with w | w
          · exact hin x w
          · rw [List.mem_singleton.mp w]; exact ⟨by omega, hs4⟩
        have hsn : sim T mel (pre ++ [(s : Int)]) = stp T mel (sim T mel pre) (s : Int) := sim_snoc T mel pre s
        have hend : (sim T mel (pre ++ [(s : Int)])).2 = mx (sim T mel pre).2 (Fr1 (T 5 (s : Int))) + T 6 (s : Int) := by
          rw [hsn, hfw]; rfl
        have hrg2 := sim_rng hk hm hin2
        have hlen2 : ((pre ++ [(s : Int)]).length : Int) = (pre.length : Int) + 1 := by simp
        have no : ¬ (candP G pre (s : Int) ∧ ansP T G pre (s : Int)) → (S1, F1) = bestB T mel (S, F) (RowsTo T G k pre (s + 1)) := by
          intro q
          rw [RowsTo_succ, if_neg q, List.append_nil]
          exact hb
        have yes : (candP G pre (s : Int) ∧ ansP T G pre (s : Int)) → bestB T mel (S1, F1) (Rows T G k (pre ++ [(s : Int)])) = bestB T mel (S, F) (RowsTo T G k pre (s + 1)) := by
          intro q
          rw [RowsTo_succ, if_pos q, bestB_app, ← hb]
        have frq : ∀ Fr3 : Int → Int, (∀ p : Int, 0 ≤ p → p < T 0 0 → Fr3 p = (sim T mel (pre ++ [(s : Int)])).1 p) → ∀ p : Int, 0 ≤ p → p < T 0 0 → ups Fr3 (T 5 (s : Int)) (Fr1 (T 5 (s : Int))) p = (sim T mel pre).1 p := by
          intro Fr3 h3 p p1 p2
          by_cases e : p = T 5 (s : Int)
          · rw [e]; simp only [ups, if_true]; exact hfw
          · simp only [ups, if_neg e]
            rw [h3 p p1 p2, hsn, stp_fr _ _ _ _ _ e]
        have fr1 : ∀ p : Int, 0 ≤ p → p < T 0 0 → ups Fr1 (T 5 (s : Int)) (mx (sim T mel pre).2 (Fr1 (T 5 (s : Int))) + 2 * Me (s : Int)) p = (sim T mel (pre ++ [(s : Int)])).1 p := by
          intro p p1 p2
          rw [hsn, hMes, hfw]
          by_cases e : p = T 5 (s : Int)
          · rw [e]; simp [ups, stp]
          · rw [stp_fr _ _ _ _ _ e]; simp only [ups, if_neg e]; exact hFr p p1 p2
        have hdn2 : ∀ j : Nat, j < nSa T → (tb (iOr dn (iShl 1 (s : Int))) j = true ↔ (j : Int) ∈ pre ++ [(s : Int)]) := by
          intro j hj
          have hj7 : j < 7 := by unfold nSa at hj; omega
          rw [tb_or, tb_shl1 s (by unfold nSa at hf; omega) j (by omega), Bool.or_eq_true, hdn j hj, List.mem_append, List.mem_singleton]
          constructor
          · rintro (w | w)
            · exact Or.inl w
            · right; have := of_decide_eq_true w; omega
          · rintro (w | w)
            · exact Or.inl w
            · right; exact decide_eq_true (by omega)
        refine x_iload D_2_tryFrom_24 rfl ?_
        refine x_aload_n D_2_tryFrom_26 rfl ?_
        refine x_getfield D_2_tryFrom_27 f_2_49 (by assumption) rfl ?_
        refine x_icmp_ge D_2_tryFrom_30 ⟨by omega, by omega⟩ ⟨by omega, by omega⟩ (fun c30 => ?_) (fun c30 => ?_)
        · exact absurd c30 (by omega)
        refine x_aload_n D_2_tryFrom_33 rfl ?_
        refine x_aload_n D_2_tryFrom_34 rfl ?_
        refine x_iload_n D_2_tryFrom_35 rfl ?_
        refine x_iload D_2_tryFrom_36 rfl ?_
        refine x_invV (d' := d - 1) D_2_tryFrom_38 l_2_79 mi_2_mayBeNext (c_2_mayBeNext (G := G) (pre := pre) (by omega) hO hT1 hk (by omega) hgv hdn) (by assumption) rfl rfl (by omega) rfl (fun q => q) rfl rfl (fun r38 h38 q38 => ?_)
        obtain ⟨rfl, rfl⟩ := q38
        refine x_if_eqb D_2_tryFrom_41 (fun c41 => ?_) (fun c41 => ?_)
        · refine x_iinc D_2_tryFrom_115 rfl rfl rfl rfl ?_
          refine x_goto D_2_tryFrom_118 ?_
          exact (ihf (s + 1) hh S1 F1 Fi1 Tr1 Fr1 (by omega) (no c41) hS1 hO hF hFi hT3 hTr hF4 hFr hfr).sub rfl
        refine x_aload_n D_2_tryFrom_44 rfl ?_
        refine x_getfield D_2_tryFrom_45 f_2_65 (by assumption) rfl ?_
        refine x_iload D_2_tryFrom_48 rfl ?_
        refine x_iaload D_2_tryFrom_50 (by assumption) (by omega) (by omega) rfl ?_
        refine x_istore D_2_tryFrom_51 rfl rfl rfl ?_
        refine x_aload_n D_2_tryFrom_53 rfl ?_
        refine x_getfield D_2_tryFrom_54 f_2_21 (by assumption) rfl ?_
        refine x_iload D_2_tryFrom_57 rfl ?_
        refine x_iaload D_2_tryFrom_59 (by assumption) (by omega) (by omega) rfl ?_
        refine x_istore D_2_tryFrom_60 rfl rfl rfl ?_
        refine x_aload_n D_2_tryFrom_62 rfl ?_
        refine x_aload_n D_2_tryFrom_63 rfl ?_
        refine x_iload D_2_tryFrom_64 rfl ?_
        refine x_iload D_2_tryFrom_66 rfl ?_
        refine x_invV (d' := d - 1) D_2_tryFrom_68 l_2_83 mi_2_endBehind (c_2_endBehind (by omega) hO hM1 hF4 hT1 hk ht ⟨by omega, hs4⟩ ⟨by omega, by omega⟩ (by rw [hfw]; exact ⟨by omega, by omega⟩) (by rw [hMes]; exact hms)) (by assumption) rfl rfl (by omega) rfl (fun q => q) rfl rfl (fun r68 h68 q68 => ?_)
        obtain ⟨rfl, g4, gf⟩ := q68
        rw [← hend]
        have hO' := (gf o (by omega)).trans hO
        have hF' := (gf (o + 1) (by omega)).trans hF
        have hT3' := (gf (o + 3) (by omega)).trans hT3
        have hM' := (gf (o + 2) (by omega)).trans hM1
        have hT' : TabAt h68 t T := hT1.kept (fun q q1 q2 => gf q (by omega))
        have hfr' : ∀ q : Nat, (q ≠ o ∧ q ≠ o + 1 ∧ q ≠ o + 3 ∧ q ≠ o + 4) → h68 q = h q := fun q hq => (gf q hq.2.2.2).trans (hfr q hq)
        refine x_istore D_2_tryFrom_71 rfl rfl rfl ?_
        refine x_iload D_2_tryFrom_73 rfl ?_
        refine x_aload_n D_2_tryFrom_75 rfl ?_
        refine x_getfield D_2_tryFrom_76 f_2_46 (by assumption) rfl ?_
        refine x_icmp_ge D_2_tryFrom_79 ⟨by omega, by omega⟩ ⟨by omega, by omega⟩ (fun c79 => ?_) (fun c79 => ?_)
        · refine x_aload_n D_2_tryFrom_106 rfl ?_
          refine x_getfield D_2_tryFrom_107 f_2_21 hO' rfl ?_
          refine x_iload D_2_tryFrom_110 rfl ?_
          refine x_iload D_2_tryFrom_112 rfl ?_
          refine x_iastore D_2_tryFrom_114 g4 (by omega) (by omega) rfl (fun h114 e114 n114 => ?_)
          refine x_iinc D_2_tryFrom_115 rfl rfl rfl rfl ?_
          refine x_goto D_2_tryFrom_118 ?_
          exact (ihf (s + 1) h114 S1 F1 Fi1 Tr1 _ (by omega) ((prune hk hm (b := (S1, F1)) hin2 c79).symm.trans (yes c41)) hS1 ((n114 o (by omega)).trans hO') ((n114 _ (by omega)).trans hF') hFi ((n114 _ (by omega)).trans hT3') hTr e114 (frq _ fr1) (fun q hq => (n114 q hq.2.2.2).trans (hfr' q hq))).sub rfl
        have hO := hO'
        have hT3 := hT3'
        have hF := hF'
        have hM2 := hM'
        have hF4 := g4
        have hfr := hfr'
        refine x_aload_n D_2_tryFrom_82 rfl ?_
        refine x_getfield D_2_tryFrom_83 f_2_18 (by assumption) rfl ?_
        refine x_iload_n D_2_tryFrom_86 rfl ?_
        refine x_iload D_2_tryFrom_87 rfl ?_
        refine x_iastore D_2_tryFrom_89 (by assumption) (by omega) (by omega) rfl (fun h89 e89 n89 => ?_)
        first | (replace hO := (n89 _ (by omega)).trans hO) | (replace hO := e89)
        first | (replace hF := (n89 _ (by omega)).trans hF) | (replace hF := e89)
        first | (replace hT3 := (n89 _ (by omega)).trans hT3) | (replace hT3 := e89)
        first | (replace hF4 := (n89 _ (by omega)).trans hF4) | (replace hF4 := e89)
        first | (replace hM2 := (n89 _ (by omega)).trans hM2) | (replace hM2 := e89)
        replace hfr := fun q hq => (n89 q (by omega)).trans (hfr q hq)
        have hT2 : TabAt h89 t T := hT'.kept (fun q q1 q2 => n89 q (by omega))
        refine x_aload_n D_2_tryFrom_90 rfl ?_
        refine x_aload_n D_2_tryFrom_91 rfl ?_
        refine x_iload_n D_2_tryFrom_92 rfl ?_
        refine x_iconst D_2_tryFrom_93 ?_
        refine x_iadd D_2_tryFrom_94 ?_
        refine x_iload_n D_2_tryFrom_95 rfl ?_
        refine x_iconst D_2_tryFrom_96 ?_
        refine x_iload D_2_tryFrom_97 rfl ?_
        refine x_ishl D_2_tryFrom_99 ?_
        refine x_ior D_2_tryFrom_100 ?_
        refine x_iload D_2_tryFrom_101 rfl ?_
        refine x_invS2 (d' := d - 1) D_2_tryFrom_103 l_2_71 mi_2_tryFrom ((by have := ih (d - 1) h89 S1 F1 (pre ++ [(s : Int)]) Fi1 _ _ (iOr dn (iShl 1 (s : Int))) (by omega) (by simp; omega) hin2 hdn2 hO hF hFi hM2 hT3 (AgL_snoc hTr) hF4 fr1 hT2 c79 hS1.2; rw [hlen2] at this; exact this))  rfl (by omega) rfl (fun q => q) rfl rfl (fun r103 h103 q103 => ?_)
        obtain ⟨rfl, ⟨Fi3, Tr3, Fr3, w1, w2, w3, w4, w5, w6, w7⟩, w8⟩ := q103
        have hle := bestB_le T mel (Rows T G k (pre ++ [(s : Int)])) (S1, F1)
        have hge := bestB_ge hk hm (Rows T G k (pre ++ [(s : Int)])) (S1, F1) hS1.1 (fun r hr => Rows_InS hk hin2 hr)
        have hbb := yes c41
        rw [hbb] at w1 w2 hle hge
        have hO := w1
        have hF4 := w6
        have hF := w3
        have hT3 := w4
        have hfr : ∀ q : Nat, (q ≠ o ∧ q ≠ o + 1 ∧ q ≠ o + 3 ∧ q ≠ o + 4) → h103 q = h q := fun q hq => (w8 q hq).trans (hfr q hq)
        refine x_aload_n D_2_tryFrom_106 rfl ?_
        refine x_getfield D_2_tryFrom_107 f_2_21 (by assumption) rfl ?_
        refine x_iload D_2_tryFrom_110 rfl ?_
        refine x_iload D_2_tryFrom_112 rfl ?_
        refine x_iastore D_2_tryFrom_114 (by assumption) (by omega) (by omega) rfl (fun h114 e114 n114 => ?_)
        first | (replace hO := (n114 _ (by omega)).trans hO) | (replace hO := e114)
        first | (replace hF := (n114 _ (by omega)).trans hF) | (replace hF := e114)
        first | (replace hT3 := (n114 _ (by omega)).trans hT3) | (replace hT3 := e114)
        first | (replace hF4 := (n114 _ (by omega)).trans hF4) | (replace hF4 := e114)
        first | (replace hM2 := (n114 _ (by omega)).trans hM2) | (replace hM2 := e114)
        replace hfr := fun q hq => (n114 q (by omega)).trans (hfr q hq)
        refine x_iinc D_2_tryFrom_115 rfl rfl rfl rfl ?_
        refine x_goto D_2_tryFrom_118 ?_
        exact (ihf (s + 1) _ _ _ Fi3 Tr3 _ (by omega) rfl ⟨hge, Int.le_trans hle hS1.2⟩ hO hF w2 hT3 (AgL_pre w5) hF4 (frq _ w7) hfr).sub rfl
    refine x_iload_n D_2_tryFrom_0 rfl ?_
    refine x_aload_n D_2_tryFrom_1 rfl ?_
    refine x_getfield D_2_tryFrom_2 f_2_42 (by assumption) rfl ?_
    refine x_icmp_ge D_2_tryFrom_5 ⟨by omega, by omega⟩ ⟨by omega, by omega⟩ (fun c5 => ?_) (fun c5 => ?_)
    · exact absurd c5 (by omega)
    refine x_iload_n D_2_tryFrom_8 rfl ?_
    refine x_bipush D_2_tryFrom_9 (by decide +kernel) ?_
    refine x_icmp_lt D_2_tryFrom_11 ⟨by omega, by omega⟩ ⟨by omega, by omega⟩ (fun c11 => ?_) (fun c11 => ?_)
    · refine x_iconst D_2_tryFrom_21 ?_
      refine x_istore D_2_tryFrom_22 rfl rfl rfl ?_
      exact (loop (nSa T) 0 _ S F Fi Tr Fr (by omega) rfl ⟨by omega, hS⟩ hO hF hFi hT3 hTr hF4 hFr (fun q hq => rfl)).sub rfl
    exact absurd c11 (by omega)
