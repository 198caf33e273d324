theorem c_2_countLate {d : Nat} (hd : 2 ≤ d) {z : Nat × Nat} {h : Hp} {o t : Nat} {T : TT} {mel G : Int → Int} {m : Nat} {S gv : Int} {Fi Me En : Int → Int} {F : List Int} (hO : OrAt h o m S gv Fi Me En) (hT : TabAt h t T) (hk : TabOk T) (hm : MelOk T mel) (hMe : ∀ s : Int, 0 ≤ s → s < T 4 0 → Me s = mel s) (hgv : ∀ j : Nat, j < nSa T → (tb gv j = true ↔ G (j : Int) ≠ -4)) (ht : t + 8 < o ∨ o + 5 < t) (hlen : F.length = m) (hm7 : m ≤ 7) (hFi : AgLn Fi F m) (hF : InS T F) (hans : ∀ (pfx : List Int) (s : Int) (rest : List Int), F = pfx ++ s :: rest → ansP T G pfx s) :
    Ct d m_2_countLate [.ref o, .ref t] z z h (fun r h' => r = some (vi (lateS T mel G En F).2.2) ∧ (∃ En' : Int → Int, OrAt h' o m S gv Fi Me En') ∧ ∀ q : Nat, (q < o ∨ o + 5 < q) → h' q = h q) := by
  refine Ct.of (by decide) ⟨Nat.le_refl _, Nat.le_refl _⟩ (Nat.le_of_ble_eq_true rfl) ?_
  have k4 := hk.2.2.1
  have k0 := hk.1
  have k12 := hk.2.2.2.2.1
  have hT0 := hT
  obtain ⟨o0, o1, o2, ⟨Tr, o3⟩, ⟨Fr, o4⟩, o5⟩ := hO
  have loop : ∀ (rest pfx : List Int) (hh : Hp) (En1 Fr1 : Int → Int) (lt en : Int), F = pfx ++ rest → lt = (lateS T mel G En pfx).2.2 → en = (sim T mel pfx).2 → En1 = (lateS T mel G En pfx).2.1 → (∀ p : Int, 0 ≤ p → p < T 0 0 → Fr1 p = (sim T mel pfx).1 p) → hh o = some (ordC o m S gv) → hh (o + 1) = some (ia 0 7 Fi) → hh (o + 2) = some (ia 0 7 Me) → hh (o + 3) = some (ia 0 7 Tr) → hh (o + 4) = some (ia 0 5 Fr1) → hh (o + 5) = some (ia 0 7 En1) → (∀ q : Nat, (q < o ∨ o + 5 < q) → hh q = h q) →
      WW d m_2_countLate z (fun r h' => r = some (vi (lateS T mel G En F).2.2) ∧ (∃ En' : Int → Int, OrAt h' o m S gv Fi Me En') ∧ ∀ q : Nat, (q < o ∨ o + 5 < q) → h' q = h q) z hh 11 [(0, .ref o), (1, .ref t), (2, vi lt), (3, vi en), (4, vi (pfx.length : Int))] [] := by
    intro rest
    induction rest with
    | nil =>
      intro pfx hh En1 Fr1 lt en hFp hlt hen hEn hFr o0 o1 o2 o3 o4 o5 hfr
      have hl : pfx.length = m := by rw [← hlen, hFp]; simp
      refine x_iload D_2_countLate_11 rfl ?_
      refine x_aload_n D_2_countLate_13 rfl ?_
      refine x_getfield D_2_countLate_14 f_2_42 (by assumption) rfl ?_
      refine x_icmp_ge D_2_countLate_17 ⟨by omega, by omega⟩ ⟨by omega, by omega⟩ (fun c17 => ?_) (fun c17 => ?_)
      · refine x_iload_n D_2_countLate_114 rfl ?_
        refine x_ireturn D_2_countLate_115 rfl (by first | rfl | exact nb_bi _ | decide +kernel) rfl ?_
        refine ⟨?_, ⟨En1, o0, o1, o2, ⟨_, o3⟩, ⟨_, o4⟩, o5⟩, hfr⟩
        rw [hlt, hFp, List.append_nil]
      exact absurd c17 (by omega)
    | cons s rest ih =>
      intro pfx hh En1 Fr1 lt en hFp hlt hen hEn hFr o0 o1 o2 o3 o4 o5 hfr
      have hl : pfx.length < m := by rw [← hlen, hFp]; simp
      have hT1 : TabAt hh t T := hT0.kept (fun q q1 q2 => hfr q (by omega))
      obtain ⟨b0, b1, b2, b3, b4, b5, b6, b7, b8⟩ := id hT1
      have hs : 0 ≤ s ∧ s < T 4 0 := hF s (by rw [hFp]; simp)
      have hinp : InS T pfx := fun x hx => hF x (by rw [hFp]; exact List.mem_append_left _ hx)
      have hinp2 : InS T (pfx ++ [s]) := fun x hx => by
        rcases List.mem_append.mp hx with w | w
        · exact hinp x w
        · rw [List.mem_singleton.mp w]; exact hs
      have hrg := sim_rng hk hm hinp
      have hrg2 := sim_rng hk hm hinp2
      have hrl := lateS_rng hk hm G En pfx hinp
      have hlen2 : ((pfx ++ [s]).length : Int) = (pfx.length : Int) + 1 := by simp
      have hFis : Fi (pfx.length : Int) = s := by
        rw [hFi pfx.length hl, hFp]
        simp [List.getD_eq_getElem?_getD]
      have k5 := hk.2.2.2.2.2.2.2.1 s hs.1 hs.2
      have hms := hm s hs.1 hs.2
      have hMes := hMe s hs.1 hs.2
      have hfw := hFr (T 5 s) k5.1.1 k5.1.2
      have hfwr := hrg.1 (T 5 s)
      have hsn : sim T mel (pfx ++ [s]) = stp T mel (sim T mel pfx) s := sim_snoc T mel pfx s
      have hend : (sim T mel (pfx ++ [s])).2 = mx (sim T mel pfx).2 (Fr1 (T 5 s)) + T 6 s := by rw [hsn, hfw]; rfl
      have fr1 : ∀ p : Int, 0 ≤ p → p < T 0 0 → ups Fr1 (T 5 s) (mx (sim T mel pfx).2 (Fr1 (T 5 s)) + 2 * Me s) p = (sim T mel (pfx ++ [s])).1 p := by
        intro p p1 p2
        rw [hsn, hMes, hfw]
        by_cases e : p = T 5 s
        · rw [e]; simp [ups, stp]
        · rw [stp_fr _ _ _ _ _ e]; simp only [ups, if_neg e]; exact hFr p p1 p2
      have hE2 : (lateS T mel G En (pfx ++ [s])).2.1 = ups En1 s (sim T mel (pfx ++ [s])).2 := by
        rw [lateS_snoc, hEn, hsn]
        show ups _ s (stp T mel (lateS T mel G En pfx).1 s).2 = _
        rw [lateS_sim]
      have hC2 : (lateS T mel G En (pfx ++ [s])).2.2 = if T 8 s ≠ -4 ∧ G (T 8 s) ≠ -4 ∧ ups En1 s (sim T mel (pfx ++ [s])).2 (T 8 s) + T 12 0 < (sim T mel (pfx ++ [s])).2 - T 6 s then lt + 1 else lt := by
        rw [lateS_snoc, hEn, hsn, hlt]
        show (if _ then _ else _) = _
        rw [lateS_sim]
      have ha := hans pfx s rest hFp
      have negI : ¬ (T 8 s ≠ -4 ∧ G (T 8 s) ≠ -4 ∧ ups En1 s (sim T mel (pfx ++ [s])).2 (T 8 s) + T 12 0 < (sim T mel (pfx ++ [s])).2 - T 6 s) → lt = (lateS T mel G En (pfx ++ [s])).2.2 := fun q => by rw [hC2, if_neg q]
      have posI : (T 8 s ≠ -4 ∧ G (T 8 s) ≠ -4 ∧ ups En1 s (sim T mel (pfx ++ [s])).2 (T 8 s) + T 12 0 < (sim T mel (pfx ++ [s])).2 - T 6 s) → lt + 1 = (lateS T mel G En (pfx ++ [s])).2.2 := fun q => by rw [hC2, if_pos q]
      have hFp2 : F = (pfx ++ [s]) ++ rest := by rw [hFp]; simp
      have hin8 : T 8 s ≠ -4 → (hasB gv (T 8 s) ↔ G (T 8 s) ≠ -4) := by
        intro hne
        obtain ⟨j, hj⟩ : ∃ j : Nat, T 8 s = (j : Int) := ⟨(T 8 s).toNat, by omega⟩
        rw [hj, has_tb _ (by omega), hgv j (by unfold nSa; omega)]
      have hEr : T 8 s ≠ -4 → G (T 8 s) ≠ -4 → 0 ≤ ups En1 s (sim T mel (pfx ++ [s])).2 (T 8 s) ∧ ups En1 s (sim T mel (pfx ++ [s])).2 (T 8 s) ≤ 2000 := by
        intro h1 h2
        have hmem : T 8 s ∈ pfx := by
          rcases ha with w | w | w
          · exact absurd w h1
          · exact absurd w h2
          · exact w
        have hw := hrl.1 (T 8 s) hmem
        by_cases e : T 8 s = s
        · simp only [ups, if_pos e]; omega
        · simp only [ups, if_neg e]
          rw [hEn]
          omega
      refine x_iload D_2_countLate_11 rfl ?_
      refine x_aload_n D_2_countLate_13 rfl ?_
      refine x_getfield D_2_countLate_14 f_2_42 (by assumption) rfl ?_
      refine x_icmp_ge D_2_countLate_17 ⟨by omega, by omega⟩ ⟨by omega, by omega⟩ (fun c17 => ?_) (fun c17 => ?_)
      · exact absurd c17 (by omega)
      refine x_iload D_2_countLate_20 rfl ?_
      refine x_bipush D_2_countLate_22 (by decide +kernel) ?_
      refine x_icmp_ge D_2_countLate_24 ⟨by omega, by omega⟩ ⟨by omega, by omega⟩ (fun c24 => ?_) (fun c24 => ?_)
      · exact absurd c24 (by omega)
      refine x_aload_n D_2_countLate_27 rfl ?_
      refine x_getfield D_2_countLate_28 f_2_9 (by assumption) rfl ?_
      refine x_iload D_2_countLate_31 rfl ?_
      refine x_iaload D_2_countLate_33 (by assumption) (by omega) (by omega) rfl ?_
      rw [hFis]
      refine x_istore D_2_countLate_34 rfl rfl rfl ?_
      refine x_aload_n D_2_countLate_36 rfl ?_
      refine x_getfield D_2_countLate_37 f_2_96 (by assumption) rfl ?_
      refine x_iload D_2_countLate_40 rfl ?_
      refine x_iaload D_2_countLate_42 (by assumption) (by omega) (by omega) rfl ?_
      refine x_istore D_2_countLate_43 rfl rfl rfl ?_
      refine x_aload_n D_2_countLate_45 rfl ?_
      refine x_aload_n D_2_countLate_46 rfl ?_
      refine x_iload D_2_countLate_47 rfl ?_
      refine x_iload_n D_2_countLate_49 rfl ?_
      refine x_invV (d' := d - 1) D_2_countLate_50 l_2_83 mi_2_endBehind (c_2_endBehind (by omega) o0 o2 o4 hT1 hk ht hs (by rw [hen]; exact ⟨by omega, by omega⟩) (by rw [hfw]; exact ⟨by omega, by omega⟩) (by rw [hMes]; exact hms)) (by assumption) rfl rfl (by omega) rfl (fun q => q) rfl rfl (fun r50 h50 q50 => ?_)
      obtain ⟨rfl, g4, gf⟩ := q50
      rw [hen, ← hend]
      rw [hen] at g4
      have o0 := (gf o (by omega)).trans o0
      have o1 := (gf _ (by omega)).trans o1
      have o2 := (gf _ (by omega)).trans o2
      have o3 := (gf _ (by omega)).trans o3
      have o5 := (gf _ (by omega)).trans o5
      have hT2 : TabAt h50 t T := hT1.kept (fun q q1 q2 => gf q (by omega))
      have hfr : ∀ q : Nat, (q < o ∨ o + 5 < q) → h50 q = h q := fun q hq => (gf q (by omega)).trans (hfr q hq)
      obtain ⟨b0, b1, b2, b3, b4, b5, b6, b7, b8⟩ := id hT2
      refine x_istore_n D_2_countLate_53 rfl rfl rfl ?_
      refine x_aload_n D_2_countLate_54 rfl ?_
      refine x_getfield D_2_countLate_55 f_2_24 (by assumption) rfl ?_
      refine x_iload D_2_countLate_58 rfl ?_
      refine x_iload_n D_2_countLate_60 rfl ?_
      refine x_iastore D_2_countLate_61 (by assumption) (by omega) (by omega) rfl (fun h61 e61 n61 => ?_)
      first | (replace o0 := (n61 _ (by omega)).trans o0) | (replace o0 := e61)
      first | (replace o1 := (n61 _ (by omega)).trans o1) | (replace o1 := e61)
      first | (replace o2 := (n61 _ (by omega)).trans o2) | (replace o2 := e61)
      first | (replace o3 := (n61 _ (by omega)).trans o3) | (replace o3 := e61)
      first | (replace g4 := (n61 _ (by omega)).trans g4) | (replace g4 := e61)
      first | (replace o5 := (n61 _ (by omega)).trans o5) | (replace o5 := e61)
      first | (replace b0 := (n61 _ (by omega)).trans b0) | (replace b0 := e61)
      first | (replace b4 := (n61 _ (by omega)).trans b4) | (replace b4 := e61)
      replace hfr := fun q hq => (n61 q (by omega)).trans (hfr q hq)
      refine x_iload D_2_countLate_62 rfl ?_
      refine x_bipush D_2_countLate_64 (by decide +kernel) ?_
      refine x_icmp_eq D_2_countLate_66 ⟨by omega, by omega⟩ ⟨by omega, by omega⟩ (fun c66 => ?_) (fun c66 => ?_)
      · refine x_iinc D_2_countLate_108 rfl rfl rfl rfl ?_
        refine x_goto D_2_countLate_111 ?_
        rw [← hlen2]
        first
        | (have w := negI (fun q => q.1 c66); exact (ih (pfx ++ [s]) _ _ _ _ _ hFp2 w rfl hE2.symm fr1 o0 o1 o2 o3 g4 o5 hfr).sub rfl)
        | (have w := negI (fun q => c78 ((hin8 c66).mpr q.2.1)); exact (ih (pfx ++ [s]) _ _ _ _ _ hFp2 w rfl hE2.symm fr1 o0 o1 o2 o3 g4 o5 hfr).sub rfl)
        | (have w := negI (fun q => absurd q.2.2 (by omega)); exact (ih (pfx ++ [s]) _ _ _ _ _ hFp2 w rfl hE2.symm fr1 o0 o1 o2 o3 g4 o5 hfr).sub rfl)
        | (have w := posI ⟨c66, (hin8 c66).mp c78, by omega⟩; exact (ih (pfx ++ [s]) _ _ _ _ _ hFp2 w rfl hE2.symm fr1 o0 o1 o2 o3 g4 o5 hfr).sub rfl)
      refine x_aload_n D_2_countLate_69 rfl ?_
      refine x_getfield D_2_countLate_70 f_2_33 (by assumption) rfl ?_
      refine x_iload D_2_countLate_73 rfl ?_
      refine x_invSN (d' := d - 1) D_2_countLate_75 l_2_99 mi_5_isIn (c_5_isIn (by omega))  rfl (by omega) rfl (fun q => q) rfl rfl (fun r75 h75 q75 => ?_)
      obtain ⟨rfl, rfl⟩ := q75
      refine x_if_eqb D_2_countLate_78 (fun c78 => ?_) (fun c78 => ?_)
      · refine x_iinc D_2_countLate_108 rfl rfl rfl rfl ?_
        refine x_goto D_2_countLate_111 ?_
        rw [← hlen2]
        first
        | (have w := negI (fun q => q.1 c66); exact (ih (pfx ++ [s]) _ _ _ _ _ hFp2 w rfl hE2.symm fr1 o0 o1 o2 o3 g4 o5 hfr).sub rfl)
        | (have w := negI (fun q => c78 ((hin8 c66).mpr q.2.1)); exact (ih (pfx ++ [s]) _ _ _ _ _ hFp2 w rfl hE2.symm fr1 o0 o1 o2 o3 g4 o5 hfr).sub rfl)
        | (have w := negI (fun q => absurd q.2.2 (by omega)); exact (ih (pfx ++ [s]) _ _ _ _ _ hFp2 w rfl hE2.symm fr1 o0 o1 o2 o3 g4 o5 hfr).sub rfl)
        | (have w := posI ⟨c66, (hin8 c66).mp c78, by omega⟩; exact (ih (pfx ++ [s]) _ _ _ _ _ hFp2 w rfl hE2.symm fr1 o0 o1 o2 o3 g4 o5 hfr).sub rfl)
      refine x_iload_n D_2_countLate_81 rfl ?_
      refine x_aload_n D_2_countLate_82 rfl ?_
      refine x_getfield D_2_countLate_83 f_2_93 (by assumption) rfl ?_
      refine x_iload D_2_countLate_86 rfl ?_
      refine x_iaload D_2_countLate_88 (by assumption) (by omega) (by omega) rfl ?_
      refine x_isub D_2_countLate_89 ?_
      refine x_aload_n D_2_countLate_90 rfl ?_
      refine x_getfield D_2_countLate_91 f_2_24 (by assumption) rfl ?_
      refine x_iload D_2_countLate_94 rfl ?_
      refine x_iaload D_2_countLate_96 (by assumption) (by omega) (by omega) rfl ?_
      refine x_aload_n D_2_countLate_97 rfl ?_
      refine x_getfield D_2_countLate_98 f_2_103 (by assumption) rfl ?_
      refine x_iadd D_2_countLate_101 ?_
      have hEr2 := hEr c66 ((hin8 c66).mp c78)
      refine x_icmp_le D_2_countLate_102 ⟨by omega, by omega⟩ ⟨by omega, by omega⟩ (fun c102 => ?_) (fun c102 => ?_)
      · refine x_iinc D_2_countLate_108 rfl rfl rfl rfl ?_
        refine x_goto D_2_countLate_111 ?_
        rw [← hlen2]
        first
        | (have w := negI (fun q => q.1 c66); exact (ih (pfx ++ [s]) _ _ _ _ _ hFp2 w rfl hE2.symm fr1 o0 o1 o2 o3 g4 o5 hfr).sub rfl)
        | (have w := negI (fun q => c78 ((hin8 c66).mpr q.2.1)); exact (ih (pfx ++ [s]) _ _ _ _ _ hFp2 w rfl hE2.symm fr1 o0 o1 o2 o3 g4 o5 hfr).sub rfl)
        | (have w := negI (fun q => absurd q.2.2 (by omega)); exact (ih (pfx ++ [s]) _ _ _ _ _ hFp2 w rfl hE2.symm fr1 o0 o1 o2 o3 g4 o5 hfr).sub rfl)
        | (have w := posI ⟨c66, (hin8 c66).mp c78, by omega⟩; exact (ih (pfx ++ [s]) _ _ _ _ _ hFp2 w rfl hE2.symm fr1 o0 o1 o2 o3 g4 o5 hfr).sub rfl)
      refine x_iinc D_2_countLate_105 rfl rfl rfl rfl ?_
      refine x_iinc D_2_countLate_108 rfl rfl rfl rfl ?_
      refine x_goto D_2_countLate_111 ?_
      rw [← hlen2]
      first
      | (have w := negI (fun q => q.1 c66); exact (ih (pfx ++ [s]) _ _ _ _ _ hFp2 w rfl hE2.symm fr1 o0 o1 o2 o3 g4 o5 hfr).sub rfl)
      | (have w := negI (fun q => c78 ((hin8 c66).mpr q.2.1)); exact (ih (pfx ++ [s]) _ _ _ _ _ hFp2 w rfl hE2.symm fr1 o0 o1 o2 o3 g4 o5 hfr).sub rfl)
      | (have w := negI (fun q => absurd q.2.2 (by omega)); exact (ih (pfx ++ [s]) _ _ _ _ _ hFp2 w rfl hE2.symm fr1 o0 o1 o2 o3 g4 o5 hfr).sub rfl)
      | (have w := posI ⟨c66, (hin8 c66).mp c78, by omega⟩; exact (ih (pfx ++ [s]) _ _ _ _ _ hFp2 w rfl hE2.symm fr1 o0 o1 o2 o3 g4 o5 hfr).sub rfl)
  have hfr : ∀ q : Nat, (q < o ∨ o + 5 < q) → h q = h q := fun _ _ => rfl
  refine x_iconst D_2_countLate_0 ?_
  refine x_istore_n D_2_countLate_1 rfl rfl rfl ?_
  refine x_iconst D_2_countLate_2 ?_
  refine x_istore_n D_2_countLate_3 rfl rfl rfl ?_
  refine x_aload_n D_2_countLate_4 rfl ?_
  refine x_invV (d' := d - 1) D_2_countLate_5 l_2_68 mi_2_freeAll (c_2_freeAll (by omega) o0 o4) (by assumption) rfl rfl (by omega) rfl (fun q => q) rfl rfl (fun r5 h5 q5 => ?_)
  obtain ⟨rfl, g4, gf⟩ := q5
  have o0 := (gf o (by omega)).trans o0
  have o1 := (gf _ (by omega)).trans o1
  have o2 := (gf _ (by omega)).trans o2
  have o3 := (gf _ (by omega)).trans o3
  have o5 := (gf _ (by omega)).trans o5
  refine x_iconst D_2_countLate_8 ?_
  refine x_istore D_2_countLate_9 rfl rfl rfl ?_
  exact (loop F [] _ _ _ _ _ (by simp) rfl rfl rfl (fun p _ _ => rfl) o0 o1 o2 o3 g4 o5 (fun q hq => gf q (by omega))).sub rfl
