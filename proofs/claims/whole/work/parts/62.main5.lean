abbrev dryF (st : SS) : Int → Int := fun i => st (11 + i)
theorem ERel.dr {T E : TT} {st : SS} {b : Int} (hS : StOk T st b) (hR : ERel T E st) : DrOk T E (dryF st) := fun i i0 i1 => ⟨(hR.2.2.2.2.2.2.1 i i0 i1).1, (hS.2.2.2.2.2.2.1 i i0 i1).2⟩
theorem StOk.dr {T : TT} {st : SS} {b : Int} (hS : StOk T st b) : ∀ i : Int, 0 ≤ i → i < T 0 0 → 1 ≤ dryF st i ∧ dryF st i ≤ 9 := fun i i0 i1 => (hS.2.2.2.2.2.2.1 i i0 i1).2
noncomputable def gvT (T : TT) (st : SS) : Int := gvn T (dryF st) (st 4) (st 3) (nSa T)
noncomputable def GT (T : TT) (st : SS) : Int → Int := GG T (dryF st) (st 4) (st 3)
noncomputable def oB (T : TT) (st : SS) : Int × List Int := ordB T (dryF st) (st 4) (st 3)
section CM5
variable {d : Nat} {z : Nat × Nat} {h : Hp} {b len : Int} {Bt : Int → Int} {T : TT} {st : SS} {u : Nat} {un : Nat → SS} {kc : Nat} {ke : Nat → SS}
abbrev bestC (T : TT) (i g w : Int) : Prop := (0 ≤ i ∧ i < T 0 0) ∧ (0 ≤ g ∧ g < T 2 0) ∧ 0 ≤ w ∧ w ≤ 1
noncomputable def bstT (T : TT) (st : SS) (i g : Int) : Int := (bst T i (st 4) (T 3 g * st (11 + i)) (2 ^ (T 4 0).toNat)).1
noncomputable def bestA (T : TT) (st : SS) (i g w : Int) : Int := if bestC T i g w then (if w = 0 then bstT T st i g else sumSet (T 7) (bstT T st i g) (T 4 0).toNat) else -1
theorem c_5_best (hd : 4 ≤ d) (hI : CInv h b len Bt T st u un kc ke) (hbb : b + 1000 ≤ 1000000) {i g w : Int} (hi : B3 i) (hg : B3 g) (hw : B3 w) : Ct d m_5_best [.ref 1, vi i, vi g, vi w] z z h (CQ (bestA T st i g w) h (b + 1000) len Bt T st u un kc ke) := by
  refine Ct.of (by decide) ⟨Nat.le_refl _, Nat.le_refl _⟩ (Nat.le_of_ble_eq_true rfl) ?_
  have hI0 := hI
  obtain ⟨lt, dt, E, bf, B, K, hP, hE, hk, hln, hBt, hu, hS, hRu, hRk⟩ := hI
  obtain ⟨hM, hId, hX, hT, hB, hK, hSc⟩ := id hP
  have hM0 := hM
  unfold Mn at hM0
  obtain ⟨e0, e1, e2, e3, e4⟩ := id hE
  obtain ⟨b0, b1, b2, b3, b4, b5, b6, b7, b8⟩ := id hT
  have k0 := hk.1.1
  have k2 := hk.1.2.1
  have k4 := hk.1.2.2.1
  have r2 := hS.2.2.2.1
  have r6 := hS.2.2.2.2.2.2.2.1
  have hs6 := hS.1.2.2.2.2.2.2.1
  have k3 := hk.1.2.2.2.2.2.2.1
  have fin : ∀ v : Int, v = bestA T st i g w → CQ (bestA T st i g w) h (b + 1000) len Bt T st u un kc ke (some (vi v)) h := fun v e => CQ.eq hI0 (by omega) hbb e
  have hs4 : B3 (st 4) := by
    obtain ⟨k, q1, q2⟩ := hS.1.2.2.2.2.1
    rw [q2]
    exact nat_B3 q1 (by unfold nSa; omega)
  by_cases hc : bestC T i g w
  · obtain ⟨hci, hcg, hw0, hw1⟩ := id hc
    have hm := melt_rng (k3 g hcg.1 hcg.2) (hs6 i hci.1 hci.2).2
    have ri := (r6 i hci.1 hci.2).1
    refine x_aload_n D_5_best_0 rfl ?_
    refine x_iload_n D_5_best_1 rfl ?_
    refine x_invV (d' := d - 1) D_5_best_2 l_5_97 mi_5_isPerson (c_5_isPerson (by omega) hM hT hk.1 hi) (by assumption) rfl rfl (by omega) rfl (fun q => q) rfl rfl (fun r2 h2 q2 => ?_)
    obtain ⟨rfl, rfl⟩ := q2
    refine x_if_eqb D_5_best_5 (fun c5 => ?_) (fun c5 => ?_)
    · exact absurd hci c5
    refine x_aload_n D_5_best_8 rfl ?_
    refine x_iload_n D_5_best_9 rfl ?_
    refine x_invV (d' := d - 1) D_5_best_10 l_5_136 mi_5_isGrain (c_5_isGrain (by omega) hM hT hk.1 hg) (by assumption) rfl rfl (by omega) rfl (fun q => q) rfl rfl (fun r10 h10 q10 => ?_)
    obtain ⟨rfl, rfl⟩ := q10
    refine x_if_eqb D_5_best_13 (fun c13 => ?_) (fun c13 => ?_)
    · exact absurd hcg c13
    refine x_iload_n D_5_best_16 rfl ?_
    refine x_if_lt D_5_best_17 ⟨by omega, by omega⟩ (fun c17 => ?_) (fun c17 => ?_)
    · exact absurd c17 (by omega)
    refine x_iload_n D_5_best_20 rfl ?_
    refine x_iconst D_5_best_21 ?_
    refine x_icmp_le D_5_best_22 ⟨by omega, by omega⟩ ⟨by omega, by omega⟩ (fun c22 => ?_) (fun c22 => ?_)
    · refine x_aload_n D_5_best_27 rfl ?_
      refine x_getfield D_5_best_28 f_5_23 (by assumption) rfl ?_
      refine x_iload_n D_5_best_31 rfl ?_
      refine x_aload_n D_5_best_32 rfl ?_
      refine x_getfield D_5_best_33 f_5_33 (by assumption) rfl ?_
      refine x_getfield D_5_best_36 f_5_126 (by assumption) rfl ?_
      rw [r2]
      refine x_aload_n D_5_best_39 rfl ?_
      refine x_getfield D_5_best_40 f_5_23 (by assumption) rfl ?_
      refine x_getfield D_5_best_43 f_5_139 (by assumption) rfl ?_
      refine x_iload_n D_5_best_46 rfl ?_
      refine x_iaload D_5_best_47 (by assumption) (by omega) (by omega) rfl ?_
      refine x_aload_n D_5_best_48 rfl ?_
      refine x_getfield D_5_best_49 f_5_33 (by assumption) rfl ?_
      refine x_getfield D_5_best_52 f_5_101 (by assumption) rfl ?_
      refine x_iload_n D_5_best_55 rfl ?_
      refine x_iaload D_5_best_56 (by assumption) (by omega) (by omega) rfl ?_
      rw [ri]
      refine x_imul D_5_best_57 ?_
      refine x_invV (d' := d - 1) D_5_best_58 l_5_178 mi_4_bestSet (c_4_bestSet (by omega) hT hk.1 hi hs4 ⟨by omega, by omega⟩) (by assumption) rfl rfl (by omega) rfl (fun q => q) rfl rfl (fun r58 h58 q58 => ?_)
      obtain ⟨rfl, rfl⟩ := q58
      refine x_istore D_5_best_61 rfl rfl rfl ?_
      refine x_iload_n D_5_best_63 rfl ?_
      refine x_if_ne D_5_best_64 ⟨by omega, by omega⟩ (fun c64 => ?_) (fun c64 => ?_)
      · refine x_aload_n D_5_best_72 rfl ?_
        refine x_getfield D_5_best_73 f_5_23 (by assumption) rfl ?_
        refine x_iload D_5_best_76 rfl ?_
        refine x_invV (d' := d - 1) D_5_best_78 l_5_182 mi_4_worthOf (c_4_worthOf (by omega) hT hk.1) (by assumption) rfl rfl (by omega) rfl (fun q => q) rfl rfl (fun r78 h78 q78 => ?_)
        obtain ⟨rfl, rfl⟩ := q78
        refine x_ireturn D_5_best_81 rfl (by first | rfl | exact nb_bi _ | decide +kernel) rfl ?_
        first
        | exact fin _ (by unfold bestA; rw [if_pos hc, if_pos (by omega)]; rfl)
        | exact fin _ (by unfold bestA; rw [if_pos hc, if_neg (by omega)]; rfl)
      refine x_iload D_5_best_67 rfl ?_
      refine x_goto D_5_best_69 ?_
      refine x_ireturn D_5_best_81 rfl (by first | rfl | exact nb_bi _ | decide +kernel) rfl ?_
      first
      | exact fin _ (by unfold bestA; rw [if_pos hc, if_pos (by omega)]; rfl)
      | exact fin _ (by unfold bestA; rw [if_pos hc, if_neg (by omega)]; rfl)
    exact absurd c22 (by omega)
  · skip
    refine x_aload_n D_5_best_0 rfl ?_
    refine x_iload_n D_5_best_1 rfl ?_
    refine x_invV (d' := d - 1) D_5_best_2 l_5_97 mi_5_isPerson (c_5_isPerson (by omega) hM hT hk.1 hi) (by assumption) rfl rfl (by omega) rfl (fun q => q) rfl rfl (fun r2 h2 q2 => ?_)
    obtain ⟨rfl, rfl⟩ := q2
    refine x_if_eqb D_5_best_5 (fun c5 => ?_) (fun c5 => ?_)
    · refine x_iconst D_5_best_25 ?_
      refine x_ireturn D_5_best_26 rfl (by first | rfl | exact nb_bi _ | decide +kernel) rfl ?_
      exact fin _ (by unfold bestA; rw [if_neg hc])
    refine x_aload_n D_5_best_8 rfl ?_
    refine x_iload_n D_5_best_9 rfl ?_
    refine x_invV (d' := d - 1) D_5_best_10 l_5_136 mi_5_isGrain (c_5_isGrain (by omega) hM hT hk.1 hg) (by assumption) rfl rfl (by omega) rfl (fun q => q) rfl rfl (fun r10 h10 q10 => ?_)
    obtain ⟨rfl, rfl⟩ := q10
    refine x_if_eqb D_5_best_13 (fun c13 => ?_) (fun c13 => ?_)
    · refine x_iconst D_5_best_25 ?_
      refine x_ireturn D_5_best_26 rfl (by first | rfl | exact nb_bi _ | decide +kernel) rfl ?_
      exact fin _ (by unfold bestA; rw [if_neg hc])
    refine x_iload_n D_5_best_16 rfl ?_
    refine x_if_lt D_5_best_17 ⟨by omega, by omega⟩ (fun c17 => ?_) (fun c17 => ?_)
    · refine x_iconst D_5_best_25 ?_
      refine x_ireturn D_5_best_26 rfl (by first | rfl | exact nb_bi _ | decide +kernel) rfl ?_
      exact fin _ (by unfold bestA; rw [if_neg hc])
    refine x_iload_n D_5_best_20 rfl ?_
    refine x_iconst D_5_best_21 ?_
    refine x_icmp_le D_5_best_22 ⟨by omega, by omega⟩ ⟨by omega, by omega⟩ (fun c22 => ?_) (fun c22 => ?_)
    · exact absurd ⟨c5, c13, by omega, by omega⟩ hc
    refine x_iconst D_5_best_25 ?_
    refine x_ireturn D_5_best_26 rfl (by first | rfl | exact nb_bi _ | decide +kernel) rfl ?_
    exact fin _ (by unfold bestA; rw [if_neg hc])
theorem c_5_give (hd : 3 ≤ d) {lt : Nat} {E : TT} {gv0 : Int} {Go0 : Int → Int} (hT : TabAt h lt T) (hlt : lt = 5 ∨ lt = 14) (hE : EvAt h 23 E) (hk : TabOk T) (hS : StOk T st b) (hR : ERel T E st) (hV : GvAt h 35 gv0 Go0) : Ct d m_1_give [.ref 35, .ref lt, .ref 23] z z h (GvQ 35 h T (dryF st) (st 4) (st 3)) := by
  obtain ⟨k, q1, q2⟩ := hS.2.2.2.1
  have := c_1_give hd hV hT hE hk (hR.dr hS) (hR.2.1.trans q2) q1 (by omega) (by omega) (z := z)
  rw [hR.2.1, hR.2.2.1] at this
  exact this
abbrev matchC (T : TT) (s : Int) : Prop := s = -1 ∨ 0 ≤ s ∧ s < T 4 0
noncomputable def matchA (T : TT) (st : SS) (s : Int) : Int := if matchC T s then (if s = -1 then sumSet (T 7) (gvT T st) (T 4 0).toNat else GT T st s) else -1
theorem c_5_match (hd : 4 ≤ d) (hI : CInv h b len Bt T st u un kc ke) (hbb : b + 1000 ≤ 1000000) {s : Int} (hs : B3 s) : Ct d m_5_match [.ref 1, vi s] z z h (CQ (matchA T st s) h (b + 1000) len Bt T st u un kc ke) := by
  refine Ct.of (by decide) ⟨Nat.le_refl _, Nat.le_refl _⟩ (Nat.le_of_ble_eq_true rfl) ?_
  have hI0 := hI
  obtain ⟨lt, dt, E, bf, B, K, hP, hE, hk, hln, hBt, hu, hS, hRu, hRk⟩ := hI
  obtain ⟨hM, hId, hX, hT, hB, hK, hSc⟩ := id hP
  obtain ⟨hR0, hSc2, hSc3, ⟨gv0, Go0, hV⟩, hSc5⟩ := id hSc
  have hId0 := hId
  unfold Ids at hId
  have hM0 := hM
  unfold Mn at hM0
  have k4 := hk.1.2.2.1
  by_cases hc : matchC T s
  · have hfin : ∀ (hh : Hp) (gv : Int) (Go : Int → Int), GvAt hh 35 gv Go → (∀ q : Nat, (q < 35 ∨ 45 < q) → hh q = h q) → CInv hh (b + 1000) len Bt T st u un kc ke := by
      intro hh gv Go hV2 hkp
      refine ⟨lt, dt, E, bf, B, K, ⟨(hkp 1 (by omega)).trans hM, hId0, (hkp 2 (by omega)).trans hX, hT.kept (fun q q1 q2 => hkp q (by omega)), hB.kept (fun q hq => hkp q (by omega)), hK.kept (fun q hq => hkp q (by omega)), ?_⟩, hE.kept (fun q q1 q2 => hkp q (by omega)), hk, hln, hBt, ⟨hu.1, hu.2.1, by omega, by omega⟩, ⟨hS.1.mono (by omega), hS.2⟩, hRu.mono (by omega), hRk.mono (by omega)⟩
      obtain ⟨⟨T2, y2⟩, ⟨E2, y3⟩, m, S, g2, Fi, Me, En, y5⟩ := And.intro hSc2 (And.intro hSc3 hSc5)
      exact ⟨hR0.kept (fun q hq => hkp q (by omega)), ⟨T2, y2.kept (fun q q1 q2 => hkp q (by omega))⟩, ⟨E2, y3.kept (fun q q1 q2 => hkp q (by omega))⟩, ⟨gv, Go, hV2⟩, ⟨m, S, g2, Fi, Me, En, y5.kept (fun q q1 q2 => hkp q (by omega))⟩⟩
    clear hSc2 hSc3 hSc5
    refine x_iload_n D_5_match_0 rfl ?_
    refine x_iconst D_5_match_1 ?_
    refine x_icmp_eq D_5_match_2 ⟨by omega, by omega⟩ ⟨by omega, by omega⟩ (fun c2 => ?_) (fun c2 => ?_)
    · refine x_aload_n D_5_match_15 rfl ?_
      refine x_getfield D_5_match_16 f_5_50 (by assumption) rfl ?_
      refine x_aload_n D_5_match_19 rfl ?_
      refine x_getfield D_5_match_20 f_5_23 (by assumption) rfl ?_
      refine x_aload_n D_5_match_23 rfl ?_
      refine x_getfield D_5_match_24 f_5_33 (by assumption) rfl ?_
      refine x_invV (d' := d - 1) D_5_match_27 l_5_186 mi_1_give (c_5_give (by omega) hT (by omega) hE hk.1 hS.1 hS.2 hV) (hV.1) rfl rfl (by omega) rfl (fun q => q) rfl rfl (fun r27 h27 q27 => ?_)
      obtain ⟨rfl, ⟨Go, w1, w2⟩, w3⟩ := q27
      have hI2 := hfin _ _ _ w1 w3
      have hM1 := (w3 1 (by omega)).trans hM0
      have hT1 : TabAt h27 lt T := hT.kept (fun q q1 q2 => w3 q (by omega))
      obtain ⟨v0, v1, v2, -⟩ := w1
      have b0 := hT1.1
      refine x_iload_n D_5_match_30 rfl ?_
      refine x_iconst D_5_match_31 ?_
      refine x_icmp_ne D_5_match_32 ⟨by omega, by omega⟩ ⟨by omega, by omega⟩ (fun c32 => ?_) (fun c32 => ?_)
      · refine x_aload_n D_5_match_52 rfl ?_
        refine x_getfield D_5_match_53 f_5_50 (by assumption) rfl ?_
        refine x_getfield D_5_match_56 f_5_193 (by assumption) rfl ?_
        refine x_iload_n D_5_match_59 rfl ?_
        refine x_iaload D_5_match_60 (by assumption) (by omega) (by omega) rfl ?_
        refine x_ireturn D_5_match_61 rfl (by first | rfl | exact nb_bi _ | decide +kernel) rfl ?_
        first
        | (exfalso; omega)
        | (rw [show matchA T st s = GT T st s by unfold matchA; rw [if_pos hc, if_neg (by omega)]]; obtain ⟨n, rfl⟩ : ∃ n : Nat, s = (n : Int) := ⟨s.toNat, by omega⟩; rw [w2 n (by unfold nSa; omega)]; exact ⟨rfl, hI2, fun q hq => w3 q (by omega)⟩)
        | (rw [show matchA T st s = sumSet (T 7) (gvT T st) (T 4 0).toNat by unfold matchA; rw [if_pos hc, if_pos (by omega)]]; exact ⟨rfl, hI2, fun q hq => w3 q (by omega)⟩)
      refine x_aload_n D_5_match_35 rfl ?_
      refine x_getfield D_5_match_36 f_5_23 (by assumption) rfl ?_
      refine x_aload_n D_5_match_39 rfl ?_
      refine x_getfield D_5_match_40 f_5_50 (by assumption) rfl ?_
      refine x_getfield D_5_match_43 f_5_190 (by assumption) rfl ?_
      refine x_invV (d' := d - 1) D_5_match_46 l_5_182 mi_4_worthOf (c_4_worthOf (by omega) hT1 hk.1) (by assumption) rfl rfl (by omega) rfl (fun q => q) rfl rfl (fun r46 h46 q46 => ?_)
      obtain ⟨rfl, rfl⟩ := q46
      refine x_goto D_5_match_49 ?_
      refine x_ireturn D_5_match_61 rfl (by first | rfl | exact nb_bi _ | decide +kernel) rfl ?_
      first
      | (exfalso; omega)
      | (rw [show matchA T st s = GT T st s by unfold matchA; rw [if_pos hc, if_neg (by omega)]]; obtain ⟨n, rfl⟩ : ∃ n : Nat, s = (n : Int) := ⟨s.toNat, by omega⟩; rw [w2 n (by unfold nSa; omega)]; exact ⟨rfl, hI2, fun q hq => w3 q (by omega)⟩)
      | (rw [show matchA T st s = sumSet (T 7) (gvT T st) (T 4 0).toNat by unfold matchA; rw [if_pos hc, if_pos (by omega)]]; exact ⟨rfl, hI2, fun q hq => w3 q (by omega)⟩)
    refine x_aload_n D_5_match_5 rfl ?_
    refine x_iload_n D_5_match_6 rfl ?_
    refine x_invV (d' := d - 1) D_5_match_7 l_5_111 mi_5_isSaying (c_5_isSaying (by omega) hM hT hk.1 hs) (by assumption) rfl rfl (by omega) rfl (fun q => q) rfl rfl (fun r7 h7 q7 => ?_)
    obtain ⟨rfl, rfl⟩ := q7
    refine x_if_neb D_5_match_10 (fun c10 => ?_) (fun c10 => ?_)
    · refine x_aload_n D_5_match_15 rfl ?_
      refine x_getfield D_5_match_16 f_5_50 (by assumption) rfl ?_
      refine x_aload_n D_5_match_19 rfl ?_
      refine x_getfield D_5_match_20 f_5_23 (by assumption) rfl ?_
      refine x_aload_n D_5_match_23 rfl ?_
      refine x_getfield D_5_match_24 f_5_33 (by assumption) rfl ?_
      refine x_invV (d' := d - 1) D_5_match_27 l_5_186 mi_1_give (c_5_give (by omega) hT (by omega) hE hk.1 hS.1 hS.2 hV) (hV.1) rfl rfl (by omega) rfl (fun q => q) rfl rfl (fun r27 h27 q27 => ?_)
      obtain ⟨rfl, ⟨Go, w1, w2⟩, w3⟩ := q27
      have hI2 := hfin _ _ _ w1 w3
      have hM1 := (w3 1 (by omega)).trans hM0
      have hT1 : TabAt h27 lt T := hT.kept (fun q q1 q2 => w3 q (by omega))
      obtain ⟨v0, v1, v2, -⟩ := w1
      have b0 := hT1.1
      refine x_iload_n D_5_match_30 rfl ?_
      refine x_iconst D_5_match_31 ?_
      refine x_icmp_ne D_5_match_32 ⟨by omega, by omega⟩ ⟨by omega, by omega⟩ (fun c32 => ?_) (fun c32 => ?_)
      · refine x_aload_n D_5_match_52 rfl ?_
        refine x_getfield D_5_match_53 f_5_50 (by assumption) rfl ?_
        refine x_getfield D_5_match_56 f_5_193 (by assumption) rfl ?_
        refine x_iload_n D_5_match_59 rfl ?_
        refine x_iaload D_5_match_60 (by assumption) (by omega) (by omega) rfl ?_
        refine x_ireturn D_5_match_61 rfl (by first | rfl | exact nb_bi _ | decide +kernel) rfl ?_
        first
        | (exfalso; omega)
        | (rw [show matchA T st s = GT T st s by unfold matchA; rw [if_pos hc, if_neg (by omega)]]; obtain ⟨n, rfl⟩ : ∃ n : Nat, s = (n : Int) := ⟨s.toNat, by omega⟩; rw [w2 n (by unfold nSa; omega)]; exact ⟨rfl, hI2, fun q hq => w3 q (by omega)⟩)
        | (rw [show matchA T st s = sumSet (T 7) (gvT T st) (T 4 0).toNat by unfold matchA; rw [if_pos hc, if_pos (by omega)]]; exact ⟨rfl, hI2, fun q hq => w3 q (by omega)⟩)
      refine x_aload_n D_5_match_35 rfl ?_
      refine x_getfield D_5_match_36 f_5_23 (by assumption) rfl ?_
      refine x_aload_n D_5_match_39 rfl ?_
      refine x_getfield D_5_match_40 f_5_50 (by assumption) rfl ?_
      refine x_getfield D_5_match_43 f_5_190 (by assumption) rfl ?_
      refine x_invV (d' := d - 1) D_5_match_46 l_5_182 mi_4_worthOf (c_4_worthOf (by omega) hT1 hk.1) (by assumption) rfl rfl (by omega) rfl (fun q => q) rfl rfl (fun r46 h46 q46 => ?_)
      obtain ⟨rfl, rfl⟩ := q46
      refine x_goto D_5_match_49 ?_
      refine x_ireturn D_5_match_61 rfl (by first | rfl | exact nb_bi _ | decide +kernel) rfl ?_
      first
      | (exfalso; omega)
      | (rw [show matchA T st s = GT T st s by unfold matchA; rw [if_pos hc, if_neg (by omega)]]; obtain ⟨n, rfl⟩ : ∃ n : Nat, s = (n : Int) := ⟨s.toNat, by omega⟩; rw [w2 n (by unfold nSa; omega)]; exact ⟨rfl, hI2, fun q hq => w3 q (by omega)⟩)
      | (rw [show matchA T st s = sumSet (T 7) (gvT T st) (T 4 0).toNat by unfold matchA; rw [if_pos hc, if_pos (by omega)]]; exact ⟨rfl, hI2, fun q hq => w3 q (by omega)⟩)
    exact absurd (hc.resolve_left c2) c10
  · skip
    refine x_iload_n D_5_match_0 rfl ?_
    refine x_iconst D_5_match_1 ?_
    refine x_icmp_eq D_5_match_2 ⟨by omega, by omega⟩ ⟨by omega, by omega⟩ (fun c2 => ?_) (fun c2 => ?_)
    · exact absurd (Or.inl (by omega)) hc
    refine x_aload_n D_5_match_5 rfl ?_
    refine x_iload_n D_5_match_6 rfl ?_
    refine x_invV (d' := d - 1) D_5_match_7 l_5_111 mi_5_isSaying (c_5_isSaying (by omega) hM hT hk.1 hs) (by assumption) rfl rfl (by omega) rfl (fun q => q) rfl rfl (fun r7 h7 q7 => ?_)
    obtain ⟨rfl, rfl⟩ := q7
    refine x_if_neb D_5_match_10 (fun c10 => ?_) (fun c10 => ?_)
    · exact absurd (Or.inr c10) hc
    refine x_iconst D_5_match_13 ?_
    refine x_ireturn D_5_match_14 rfl (by first | rfl | exact nb_bi _ | decide +kernel) rfl ?_
    exact CQ.eq hI0 (by omega) hbb (by unfold matchA; rw [if_neg hc])
theorem CInv.scr {h1 : Hp} {lt dt : Nat} {E : TT} {bf : Nat → Nat} {B K : Nat → TT} (hP : Parts h len Bt lt dt T u kc bf B K) (hE : EvAt h 23 E) (hk : TabOk T ∧ 1 ≤ T 0 0 ∧ 1 ≤ T 2 0) (hln : 0 ≤ len ∧ len ≤ 300) (hBt : ∀ j : Int, -128 ≤ Bt j ∧ Bt j ≤ 127) (hu : u ≤ 8 ∧ kc ≤ 2 ∧ 0 ≤ b ∧ b ≤ 1000000) (hS : StOk T st b ∧ ERel T E st) (hRu : Rem T b u B un) (hRk : Rem T b kc K ke) (hbb : b + 1000 ≤ 1000000)
    (hkp : ∀ q : Nat, (q < 28 ∨ 32 < q ∧ q < 35 ∨ 51 < q) → h1 q = h q) (g3 : ∃ E2 : TT, EvAt h1 28 E2) (g4 : ∃ (gv : Int) (Go : Int → Int), GvAt h1 35 gv Go) (g5 : ∃ (m S gv : Int) (Fi Me En : Int → Int), OrAt h1 46 m S gv Fi Me En) : CInv h1 (b + 1000) len Bt T st u un kc ke := by
  obtain ⟨hM, hId, hX, hT, hB, hK, hSc⟩ := id hP
  obtain ⟨hR0, ⟨T2, y2⟩, -, -, -⟩ := id hSc
  have hId0 := hId
  unfold Ids at hId
  exact ⟨lt, dt, E, bf, B, K, ⟨(hkp 1 (by omega)).trans hM, hId0, (hkp 2 (by omega)).trans hX, hT.kept (fun q q1 q2 => hkp q (by omega)), hB.kept (fun q hq => hkp q (by omega)), hK.kept (fun q hq => hkp q (by omega)), hR0.kept (fun q hq => hkp q (by omega)), ⟨T2, y2.kept (fun q q1 q2 => hkp q (by omega))⟩, g3, g4, g5⟩, hE.kept (fun q q1 q2 => hkp q (by omega)), hk, hln, hBt, ⟨hu.1, hu.2.1, by omega, by omega⟩, ⟨hS.1.mono (by omega), hS.2⟩, hRu.mono (by omega), hRk.mono (by omega)⟩
noncomputable def mT (T : TT) (st : SS) : Nat := (chL T (GT T st)).length
noncomputable def melT (T : TT) (st : SS) : Int → Int := melF T (dryF st) (GT T st)
/-- what findOrder leaves behind, seen from the class's own cells -/
def FoQ (h0 : Hp) (b len : Int) (Bt : Int → Int) (T : TT) (st : SS) (u : Nat) (un : Nat → SS) (kc : Nat) (ke : Nat → SS) : Option Value → Hp → Prop := fun r h' => r = none ∧ (∃ (lt dt : Nat) (E : TT) (bf : Nat → Nat) (B K : Nat → TT) (Fi Me En : Int → Int), (Parts h' len Bt lt dt T u kc bf B K ∧ EvAt h' 23 E ∧ StOk T st b ∧ ERel T E st ∧ Rem T b u B un ∧ Rem T b kc K ke) ∧ OrAt h' 46 (mT T st) (oB T st).1 (gvT T st) Fi Me En ∧ AgLn Fi (oB T st).2 (mT T st) ∧ ∀ s : Int, 0 ≤ s → s < T 4 0 → Me s = melT T st s) ∧ ∀ q : Nat, (q = 0 ∨ 101 < q) → h' q = h0 q
theorem c_5_findOrder (hd : 13 ≤ d) (hI : CInv h b len Bt T st u un kc ke) (hbb : b + 1000 ≤ 1000000) : Ct d m_5_findOrder [.ref 1] z z h (FoQ h b len Bt T st u un kc ke) := by
  refine Ct.of (by decide) ⟨Nat.le_refl _, Nat.le_refl _⟩ (Nat.le_of_ble_eq_true rfl) ?_
  obtain ⟨lt, dt, E, bf, B, K, hP, hE, hk, hln, hBt, hu, hS, hRu, hRk⟩ := hI
  obtain ⟨hM, hId, hX, hT, hB, hK, hSc⟩ := id hP
  obtain ⟨hR0, hSc2, hSc3, ⟨gv0, Go0, hV⟩, ⟨m0, S0, gv1, Fi0, Me0, En0, hO⟩⟩ := id hSc
  have hId0 := hId
  unfold Ids at hId
  have hM0 := hM
  unfold Mn at hM0
  have hdr := hS.2.dr hS.1
  obtain ⟨hob, -⟩ := ordB_ok hk.1 (sd := st 4) (sh := st 3) hS.1.dr
  refine x_aload_n D_5_findOrder_0 rfl ?_
  refine x_getfield D_5_findOrder_1 f_5_50 (by assumption) rfl ?_
  refine x_aload_n D_5_findOrder_4 rfl ?_
  refine x_getfield D_5_findOrder_5 f_5_23 (by assumption) rfl ?_
  refine x_aload_n D_5_findOrder_8 rfl ?_
  refine x_getfield D_5_findOrder_9 f_5_33 (by assumption) rfl ?_
  refine x_invV (d' := d - 1) D_5_findOrder_12 l_5_186 mi_1_give (c_5_give (by omega) hT (by omega) hE hk.1 hS.1 hS.2 hV) (hV.1) rfl rfl (by omega) rfl (fun q => q) rfl rfl (fun r12 h12 q12 => ?_)
  obtain ⟨rfl, ⟨Go, w1, w2⟩, w3⟩ := q12
  have hM1 := (w3 1 (by omega)).trans hM0
  have hT1 : TabAt h12 lt T := hT.kept (fun q q1 q2 => w3 q (by omega))
  have hE1 : EvAt h12 23 E := hE.kept (fun q q1 q2 => w3 q (by omega))
  have hO1 : OrAt h12 46 m0 S0 gv1 Fi0 Me0 En0 := hO.kept (fun q q1 q2 => w3 q (by omega))
  refine x_aload_n D_5_findOrder_15 rfl ?_
  refine x_getfield D_5_findOrder_16 f_5_57 (by assumption) rfl ?_
  refine x_aload_n D_5_findOrder_19 rfl ?_
  refine x_getfield D_5_findOrder_20 f_5_23 (by assumption) rfl ?_
  refine x_aload_n D_5_findOrder_23 rfl ?_
  refine x_getfield D_5_findOrder_24 f_5_33 (by assumption) rfl ?_
  refine x_aload_n D_5_findOrder_27 rfl ?_
  refine x_getfield D_5_findOrder_28 f_5_50 (by assumption) rfl ?_
  refine x_invV (d' := d - 1) D_5_findOrder_31 l_5_242 mi_2_find (c_2_find (by omega) hO1 w1 w2 hT1 hE1 hk.1 hdr (by omega) (by omega) (by omega)) (hO1.1) rfl rfl (by omega) rfl (fun q => q) rfl rfl (fun r31 h31 q31 => ?_)
  obtain ⟨rfl, ⟨Fi, Me, F0, y1, y2, y3⟩, y4⟩ := q31
  refine x_return D_5_findOrder_34 rfl rfl ?_
  have hkp : ∀ q : Nat, (q < 35 ∨ 51 < q) → h31 q = h q := fun q hq => (y4 q (by omega)).trans (w3 q (by omega))
  rw [hob F0] at y1 y2
  obtain ⟨⟨T2, z2⟩, ⟨E2, z3⟩⟩ := And.intro hSc2 hSc3
  exact ⟨rfl, ⟨lt, dt, E, bf, B, K, Fi, Me, En0, ⟨⟨(hkp 1 (by omega)).trans hM, hId0, (hkp 2 (by omega)).trans hX, hT.kept (fun q q1 q2 => hkp q (by omega)), hB.kept (fun q hq => hkp q (by omega)), hK.kept (fun q hq => hkp q (by omega)), hR0.kept (fun q hq => hkp q (by omega)), ⟨T2, z2.kept (fun q q1 q2 => hkp q (by omega))⟩, ⟨E2, z3.kept (fun q q1 q2 => hkp q (by omega))⟩, ⟨_, Go, w1.kept (fun q q1 q2 => y4 q (by omega))⟩, ⟨_, _, _, Fi, Me, En0, y1⟩⟩, hE.kept (fun q q1 q2 => hkp q (by omega)), hS.1, hS.2, hRu, hRk⟩, y1, y2, y3⟩, fun q hq => hkp q (by omega)⟩
noncomputable def soonA (T : TT) (st : SS) (i : Int) : Int := if i < -1 then -1 else if i = -1 then (oB T st).1 else if i < mT T st then (oB T st).2.getD i.toNat 0 else -4
theorem mT_le {T : TT} (hk : TabOk T) (st : SS) : mT T st ≤ 7 := chL_len hk _
theorem oB_B3 {T : TT} (hk : TabOk T) {st : SS} {b : Int} (hS : StOk T st b) : ∃ r, r ∈ Rows T (GT T st) (mT T st) [] ∧ oB T st = ((sim T (melT T st) r).2, r) := by
  obtain ⟨-, r, h1, h2⟩ := ordB_ok hk (sd := st 4) (sh := st 3) hS.dr
  exact ⟨r, h1, h2⟩
theorem c_5_soonest (hd : 14 ≤ d) (hI : CInv h b len Bt T st u un kc ke) (hbb : b + 1000 ≤ 1000000) {i : Int} (hi : B3 i) : Ct d m_5_soonest [.ref 1, vi i] z z h (CQ (soonA T st i) h (b + 1000) len Bt T st u un kc ke) := by
  refine Ct.of (by decide) ⟨Nat.le_refl _, Nat.le_refl _⟩ (Nat.le_of_ble_eq_true rfl) ?_
  have hI0 := hI
  obtain ⟨-, -, -, -, -, -, -, -, hk, hln, hBt, hu, -, -, -⟩ := hI
  have hm7 := mT_le hk.1 st
  by_cases hc : i < -1
  · skip
    refine x_iload_n D_5_soonest_0 rfl ?_
    refine x_iconst D_5_soonest_1 ?_
    refine x_icmp_ge D_5_soonest_2 ⟨by omega, by omega⟩ ⟨by omega, by omega⟩ (fun c2 => ?_) (fun c2 => ?_)
    · exact absurd c2 (by omega)
    refine x_iconst D_5_soonest_5 ?_
    refine x_ireturn D_5_soonest_6 rfl (by first | rfl | exact nb_bi _ | decide +kernel) rfl ?_
    exact CQ.eq hI0 (by omega) hbb (by unfold soonA; rw [if_pos hc])
  · skip
    refine x_iload_n D_5_soonest_0 rfl ?_
    refine x_iconst D_5_soonest_1 ?_
    refine x_icmp_ge D_5_soonest_2 ⟨by omega, by omega⟩ ⟨by omega, by omega⟩ (fun c2 => ?_) (fun c2 => ?_)
    · refine x_aload_n D_5_soonest_7 rfl ?_
      refine x_invV (d' := d - 1) D_5_soonest_8 l_5_196 mi_5_findOrder (c_5_findOrder (by omega) hI0 hbb) (hI0.choose_spec.choose_spec.choose_spec.choose_spec.choose_spec.choose_spec.1.1) rfl rfl (by omega) rfl (fun q => q) rfl rfl (fun r8 h8 q8 => ?_)
      obtain ⟨rfl, ⟨lt, dt, E, bf, B, K, Fi, Me, En, ⟨hP, hE, hS, hR, hRu, hRk⟩, hO, hF, -⟩, hkp⟩ := q8
      have hI2 : CInv h8 (b + 1000) len Bt T st u un kc ke := CInv.scr hP hE hk hln hBt hu ⟨hS, hR⟩ hRu hRk hbb (fun q hq => rfl) hP.2.2.2.2.2.2.2.2.1 hP.2.2.2.2.2.2.2.2.2.1 hP.2.2.2.2.2.2.2.2.2.2
      have hM1 := hP.1
      unfold Mn at hM1
      obtain ⟨o0, o1, -⟩ := hO
      clear hP
      refine x_iload_n D_5_soonest_11 rfl ?_
      refine x_iconst D_5_soonest_12 ?_
      refine x_icmp_ne D_5_soonest_13 ⟨by omega, by omega⟩ ⟨by omega, by omega⟩ (fun c13 => ?_) (fun c13 => ?_)
      · refine x_iload_n D_5_soonest_24 rfl ?_
        refine x_aload_n D_5_soonest_25 rfl ?_
        refine x_getfield D_5_soonest_26 f_5_57 (by assumption) rfl ?_
        refine x_getfield D_5_soonest_29 f_5_202 (by assumption) rfl ?_
        refine x_icmp_ge D_5_soonest_32 ⟨by omega, by omega⟩ ⟨by omega, by omega⟩ (fun c32 => ?_) (fun c32 => ?_)
        · refine x_bipush D_5_soonest_53 (by decide +kernel) ?_
          refine x_ireturn D_5_soonest_55 rfl (by first | rfl | exact nb_bi _ | decide +kernel) rfl ?_
          first
          | (exfalso; omega)
          | (rw [show soonA T st i = (oB T st).2.getD i.toNat 0 by unfold soonA; rw [if_neg hc, if_neg (by omega), if_pos (by omega)]]; obtain ⟨n, rfl⟩ : ∃ n : Nat, i = (n : Int) := ⟨i.toNat, by omega⟩; rw [hF n (by omega)]; exact ⟨rfl, hI2, hkp⟩)
          | (rw [show soonA T st i = -4 by unfold soonA; rw [if_neg hc, if_neg (by omega), if_neg (by omega)]]; exact ⟨rfl, hI2, hkp⟩)
        refine x_iload_n D_5_soonest_35 rfl ?_
        refine x_bipush D_5_soonest_36 (by decide +kernel) ?_
        refine x_icmp_ge D_5_soonest_38 ⟨by omega, by omega⟩ ⟨by omega, by omega⟩ (fun c38 => ?_) (fun c38 => ?_)
        · refine x_bipush D_5_soonest_53 (by decide +kernel) ?_
          refine x_ireturn D_5_soonest_55 rfl (by first | rfl | exact nb_bi _ | decide +kernel) rfl ?_
          first
          | (exfalso; omega)
          | (rw [show soonA T st i = (oB T st).2.getD i.toNat 0 by unfold soonA; rw [if_neg hc, if_neg (by omega), if_pos (by omega)]]; obtain ⟨n, rfl⟩ : ∃ n : Nat, i = (n : Int) := ⟨i.toNat, by omega⟩; rw [hF n (by omega)]; exact ⟨rfl, hI2, hkp⟩)
          | (rw [show soonA T st i = -4 by unfold soonA; rw [if_neg hc, if_neg (by omega), if_neg (by omega)]]; exact ⟨rfl, hI2, hkp⟩)
        refine x_aload_n D_5_soonest_41 rfl ?_
        refine x_getfield D_5_soonest_42 f_5_57 (by assumption) rfl ?_
        refine x_getfield D_5_soonest_45 f_5_205 (by assumption) rfl ?_
        refine x_iload_n D_5_soonest_48 rfl ?_
        refine x_iaload D_5_soonest_49 (by assumption) (by omega) (by omega) rfl ?_
        refine x_goto D_5_soonest_50 ?_
        refine x_ireturn D_5_soonest_55 rfl (by first | rfl | exact nb_bi _ | decide +kernel) rfl ?_
        first
        | (exfalso; omega)
        | (rw [show soonA T st i = (oB T st).2.getD i.toNat 0 by unfold soonA; rw [if_neg hc, if_neg (by omega), if_pos (by omega)]]; obtain ⟨n, rfl⟩ : ∃ n : Nat, i = (n : Int) := ⟨i.toNat, by omega⟩; rw [hF n (by omega)]; exact ⟨rfl, hI2, hkp⟩)
        | (rw [show soonA T st i = -4 by unfold soonA; rw [if_neg hc, if_neg (by omega), if_neg (by omega)]]; exact ⟨rfl, hI2, hkp⟩)
      refine x_aload_n D_5_soonest_16 rfl ?_
      refine x_getfield D_5_soonest_17 f_5_57 (by assumption) rfl ?_
      refine x_getfield D_5_soonest_20 f_5_199 (by assumption) rfl ?_
      refine x_ireturn D_5_soonest_23 rfl (by first | rfl | exact nb_bi _ | decide +kernel) rfl ?_
      exact ⟨by rw [show soonA T st i = (oB T st).1 by unfold soonA; rw [if_neg hc, if_pos (by omega)]], hI2, hkp⟩
    exact absurd c2 (by omega)
noncomputable def lateA (T : TT) (st : SS) : Int := lateN T (melT T st) (GT T st) (oB T st).2
theorem c_5_late (hd : 14 ≤ d) (hI : CInv h b len Bt T st u un kc ke) (hbb : b + 1000 ≤ 1000000) : Ct d m_5_late [.ref 1] z z h (CQ (lateA T st) h (b + 1000) len Bt T st u un kc ke) := by
  refine Ct.of (by decide) ⟨Nat.le_refl _, Nat.le_refl _⟩ (Nat.le_of_ble_eq_true rfl) ?_
  have hI0 := hI
  obtain ⟨-, -, -, -, -, -, -, -, hk, hln, hBt, hu, -, -, -⟩ := hI
  have hm7 := mT_le hk.1 st
  refine x_aload_n D_5_late_0 rfl ?_
  refine x_invV (d' := d - 1) D_5_late_1 l_5_196 mi_5_findOrder (c_5_findOrder (by omega) hI0 hbb) (hI0.choose_spec.choose_spec.choose_spec.choose_spec.choose_spec.choose_spec.1.1) rfl rfl (by omega) rfl (fun q => q) rfl rfl (fun r1 h1 q1 => ?_)
  obtain ⟨rfl, ⟨lt, dt, E, bf, B, K, Fi, Me, En, ⟨hP, hE, hS, hR, hRu, hRk⟩, hO, hF, hMe⟩, hkp⟩ := q1
  have hM1 := hP.1
  unfold Mn at hM1
  have hT := hP.2.2.2.1
  have hId := hP.2.1
  unfold Ids at hId
  obtain ⟨r, hr1, hr2⟩ := oB_B3 hk.1 hS
  have hr3 : (oB T st).2 = r := by rw [hr2]
  obtain ⟨l, hl1, hl2, -⟩ := Rows_mem T _ _ _ _ hr1
  have hlen : (oB T st).2.length = mT T st := by rw [hr3, hl1]; simpa using hl2
  have hin : InS T (oB T st).2 := by rw [hr3]; exact Rows_InS hk.1 (fun s hs => by cases hs) hr1
  have hans : ∀ (pfx : List Int) (s : Int) (rest : List Int), (oB T st).2 = pfx ++ s :: rest → ansP T (GT T st) pfx s := by
    intro pfx s rest hh
    rw [hr3] at hh
    exact (Rows_ans T _ _ _ _ hr1 pfx s rest hh (by simp)).2
  have hgv : ∀ j : Nat, j < nSa T → (tb (gvT T st) j = true ↔ GT T st (j : Int) ≠ -4) := by
    intro j hj
    have h4 := hk.1.2.2.1
    unfold gvT
    rw [tb_gvn T _ _ _ _ (by unfold nSa; omega) j (by unfold nSa at hj; omega), decide_eq_true_iff]
    exact ⟨fun q => q.2, fun q => ⟨hj, q⟩⟩
  have hmel : MelOk T (melT T st) := melF_ok hk.1 hS.dr
  refine x_aload_n D_5_late_4 rfl ?_
  refine x_getfield D_5_late_5 f_5_57 (by assumption) rfl ?_
  refine x_aload_n D_5_late_8 rfl ?_
  refine x_getfield D_5_late_9 f_5_23 (by assumption) rfl ?_
  refine x_invV (d' := d - 1) D_5_late_12 l_5_208 mi_2_countLate (c_2_countLate (by omega) hO hT hk.1 hmel hMe hgv (by omega) (by rw [hlen]) (by omega) hF hin hans) (hO.1) rfl rfl (by omega) rfl (fun q => q) rfl rfl (fun r12 h12 q12 => ?_)
  obtain ⟨rfl, ⟨En', w1⟩, w2⟩ := q12
  refine x_ireturn D_5_late_15 rfl (by first | rfl | exact nb_bi _ | decide +kernel) rfl ?_
  have hI2 : CInv h12 (b + 1000) len Bt T st u un kc ke := by
    obtain ⟨⟨E2, z3⟩, ⟨gv, Go, z4⟩⟩ := And.intro hP.2.2.2.2.2.2.2.2.1 hP.2.2.2.2.2.2.2.2.2.1
    exact CInv.scr hP hE hk hln hBt hu ⟨hS, hR⟩ hRu hRk hbb (fun q hq => w2 q (by omega)) ⟨E2, z3.kept (fun q q1 q2 => w2 q (by omega))⟩ ⟨gv, Go, z4.kept (fun q q1 q2 => w2 q (by omega))⟩ ⟨_, _, _, _, _, _, w1⟩
  refine ⟨?_, hI2, fun q hq => (w2 q (by omega)).trans (hkp q hq)⟩
  rw [show lateA T st = (lateS T (melT T st) (GT T st) En (oB T st).2).2.2 from (lateS_indep hans (oB T st).2 ⟨[], by simp⟩).2]
end CM5
