section CM3
variable {d : Nat} {z : Nat × Nat} {h : Hp} {b len : Int} {Bt : Int → Int} {T : TT} {st : SS} {u : Nat} {un : Nat → SS} {kc : Nat} {ke : Nat → SS}
abbrev sayC (T : TT) (st : SS) (s : Int) : Prop := (0 ≤ s ∧ s < T 4 0) ∧ canSay T st s
def sayA (T : TT) (st : SS) (s : Int) : Int := if 0 ≤ s ∧ s < T 4 0 then (if sayC T st s then st 0 + T 6 s else -2) else -1
theorem c_5_say (hd : 4 ≤ d) (hI : CInv h b len Bt T st u un kc ke) (hbb : b + 1000 ≤ 1000000) {s : Int} (hs : B3 s) : Ct d m_5_say [.ref 1, vi s] z z h (CQ (sayA T st s) h (b + 1000) len Bt T (if sayC T st s then sayS T st s else st) (if sayC T st s then rmU u else u) (if sayC T st s then rmF u un st else un) kc ke) := by
  refine Ct.of (by decide) ⟨Nat.le_refl _, Nat.le_refl _⟩ (Nat.le_of_ble_eq_true rfl) ?_
  have hI0 := hI
  obtain ⟨lt, dt, E, bf, B, K, hP, hE, hk, hln, hBt, hu, hS, hRu, hRk⟩ := hI
  obtain ⟨hM, hId, hX, hT, hB, hK, hSc⟩ := id hP
  unfold Ids at hId
  have hM0 := hM
  unfold Mn at hM0
  obtain ⟨e0, e1, e2, e3, e4⟩ := id hE
  have k4 := hk.1.2.2.1
  have k0 := hk.1.1
  have hs0 := hS.1.1
  have r0 := hS.2.1
  have r4 := hS.2.2.2.2.2.2.1
  by_cases hc : sayC T st s
  · rw [if_pos hc, if_pos hc, if_pos hc]
    have hv : sayA T st s = st 0 + T 6 s := by unfold sayA; rw [if_pos hc.1, if_pos hc]
    rw [hv]
    obtain ⟨s0, rfl⟩ : ∃ n : Nat, s = (n : Int) := ⟨s.toNat, by have := hc.1.1; omega⟩
    obtain ⟨p1, p2⟩ := say_ok hk.1 hS.1 hS.2 hc.1.2 hc.2
    obtain ⟨hcs, hcc⟩ := hc
    have htg : 0 ≤ E 4 0 ∧ E 4 0 < 5 := by
      have h5 := (hk.1.2.2.2.2.2.2.2.1 (s0 : Int) hcs.1 hcs.2).1
      have h6 := hcc.2.1
      omega
    refine x_aload_n D_5_say_0 rfl ?_
    refine x_iload_n D_5_say_1 rfl ?_
    refine x_invV (d' := d - 1) D_5_say_2 l_5_111 mi_5_isSaying (c_5_isSaying (by omega) hM hT hk.1 hs) (by assumption) rfl rfl (by omega) rfl (fun q => q) rfl rfl (fun r2 h2 q2 => ?_)
    obtain ⟨rfl, rfl⟩ := q2
    refine x_if_neb D_5_say_5 (fun c5 => ?_) (fun c5 => ?_)
    · refine x_aload_n D_5_say_10 rfl ?_
      refine x_iload_n D_5_say_11 rfl ?_
      refine x_invV (d' := d - 1) D_5_say_12 l_5_161 mi_5_canBeSaid (c_5_canBeSaid (by omega) hM hT hE hk.1 hS.1 hS.2 (by omega) hcs) (by assumption) rfl rfl (by omega) rfl (fun q => q) rfl rfl (fun r12 h12 q12 => ?_)
      obtain ⟨rfl, rfl⟩ := q12
      refine x_if_neb D_5_say_15 (fun c15 => ?_) (fun c15 => ?_)
      · refine x_aload_n D_5_say_21 rfl ?_
        refine x_invV (d' := d - 1) D_5_say_22 l_5_152 mi_5_remember (c_5_remember (by omega) hM hE hB hu.1) (hM0) rfl rfl (by omega) rfl (fun q => q) rfl rfl (fun r22 h22 q22 => ?_)
        obtain ⟨rfl, g1, ⟨bf', B', g2, g3⟩, g4⟩ := q22
        have hP2 := after_rem hP g1 g2 g4
        unfold Mn at g1
        have e0 := (g4 23 (by omega)).trans e0
        have e1 := (g4 24 (by omega)).trans e1
        have e2 := (g4 25 (by omega)).trans e2
        have e3 := (g4 26 (by omega)).trans e3
        have e4 := (g4 27 (by omega)).trans e4
        have hfr : ∀ q : Nat, (q < 23 ∨ 27 < q) → h22 q = h22 q := fun _ _ => rfl
        obtain ⟨b0, b1, b2, b3, b4, b5, b6, b7, b8⟩ := hP2.2.2.2.1
        refine x_aload_n D_5_say_25 rfl ?_
        refine x_getfield D_5_say_26 f_5_33 (by assumption) rfl ?_
        refine x_dup D_5_say_29 rfl ?_
        refine x_getfield D_5_say_30 f_5_146 (by assumption) rfl ?_
        rw [r0]
        refine x_aload_n D_5_say_33 rfl ?_
        refine x_getfield D_5_say_34 f_5_23 (by assumption) rfl ?_
        refine x_getfield D_5_say_37 f_5_117 (by assumption) rfl ?_
        refine x_iload_n D_5_say_40 rfl ?_
        refine x_iaload D_5_say_41 (by assumption) (by omega) (by omega) rfl ?_
        refine x_iadd D_5_say_42 ?_
        refine x_putI D_5_say_43 f_5_146 (by assumption) (by decide +kernel) rfl (fun h43 e43 n43 => ?_)
        simp only [List.set_cons_zero, List.set_cons_succ] at e43
        first | (replace g1 := (n43 _ (by omega)).trans g1) | (replace g1 := e43)
        first | (replace e0 := (n43 _ (by omega)).trans e0) | (replace e0 := e43)
        first | (replace e1 := (n43 _ (by omega)).trans e1) | (replace e1 := e43)
        first | (replace e2 := (n43 _ (by omega)).trans e2) | (replace e2 := e43)
        first | (replace e3 := (n43 _ (by omega)).trans e3) | (replace e3 := e43)
        first | (replace e4 := (n43 _ (by omega)).trans e4) | (replace e4 := e43)
        first | (replace b0 := (n43 _ (by omega)).trans b0) | (replace b0 := e43)
        first | (replace b4 := (n43 _ (by omega)).trans b4) | (replace b4 := e43)
        replace hfr := fun q hq => (n43 q (by omega)).trans (hfr q hq)
        refine x_aload_n D_5_say_46 rfl ?_
        refine x_getfield D_5_say_47 f_5_33 (by assumption) rfl ?_
        refine x_dup D_5_say_50 rfl ?_
        refine x_getfield D_5_say_51 f_5_126 (by assumption) rfl ?_
        refine x_iconst D_5_say_54 ?_
        refine x_iload_n D_5_say_55 rfl ?_
        refine x_ishl D_5_say_56 ?_
        refine x_ior D_5_say_57 ?_
        refine x_putI D_5_say_58 f_5_126 (by assumption) (by decide +kernel) rfl (fun h58 e58 n58 => ?_)
        simp only [List.set_cons_zero, List.set_cons_succ] at e58
        first | (replace g1 := (n58 _ (by omega)).trans g1) | (replace g1 := e58)
        first | (replace e0 := (n58 _ (by omega)).trans e0) | (replace e0 := e58)
        first | (replace e1 := (n58 _ (by omega)).trans e1) | (replace e1 := e58)
        first | (replace e2 := (n58 _ (by omega)).trans e2) | (replace e2 := e58)
        first | (replace e3 := (n58 _ (by omega)).trans e3) | (replace e3 := e58)
        first | (replace e4 := (n58 _ (by omega)).trans e4) | (replace e4 := e58)
        first | (replace b0 := (n58 _ (by omega)).trans b0) | (replace b0 := e58)
        first | (replace b4 := (n58 _ (by omega)).trans b4) | (replace b4 := e58)
        replace hfr := fun q hq => (n58 q (by omega)).trans (hfr q hq)
        refine x_aload_n D_5_say_61 rfl ?_
        refine x_getfield D_5_say_62 f_5_33 (by assumption) rfl ?_
        refine x_getfield D_5_say_65 f_5_133 (by assumption) rfl ?_
        refine x_iload_n D_5_say_68 rfl ?_
        refine x_aload_n D_5_say_69 rfl ?_
        refine x_getfield D_5_say_70 f_5_33 (by assumption) rfl ?_
        refine x_getfield D_5_say_73 f_5_146 (by assumption) rfl ?_
        refine x_iastore D_5_say_76 (by assumption) (by omega) (by omega) rfl (fun h76 e76 n76 => ?_)
        first | (replace g1 := (n76 _ (by omega)).trans g1) | (replace g1 := e76)
        first | (replace e0 := (n76 _ (by omega)).trans e0) | (replace e0 := e76)
        first | (replace e1 := (n76 _ (by omega)).trans e1) | (replace e1 := e76)
        first | (replace e2 := (n76 _ (by omega)).trans e2) | (replace e2 := e76)
        first | (replace e3 := (n76 _ (by omega)).trans e3) | (replace e3 := e76)
        first | (replace e4 := (n76 _ (by omega)).trans e4) | (replace e4 := e76)
        first | (replace b0 := (n76 _ (by omega)).trans b0) | (replace b0 := e76)
        first | (replace b4 := (n76 _ (by omega)).trans b4) | (replace b4 := e76)
        replace hfr := fun q hq => (n76 q (by omega)).trans (hfr q hq)
        refine x_aload_n D_5_say_77 rfl ?_
        refine x_getfield D_5_say_78 f_5_33 (by assumption) rfl ?_
        refine x_getfield D_5_say_81 f_5_105 (by assumption) rfl ?_
        refine x_aload_n D_5_say_84 rfl ?_
        refine x_getfield D_5_say_85 f_5_33 (by assumption) rfl ?_
        refine x_getfield D_5_say_88 f_5_155 (by assumption) rfl ?_
        refine x_dup2 D_5_say_91 rfl rfl ?_
        refine x_iaload D_5_say_92 (by assumption) (by omega) (by omega) rfl ?_
        refine x_aload_n D_5_say_93 rfl ?_
        refine x_getfield D_5_say_94 f_5_23 (by assumption) rfl ?_
        refine x_getfield D_5_say_97 f_5_117 (by assumption) rfl ?_
        refine x_iload_n D_5_say_100 rfl ?_
        refine x_iaload D_5_say_101 (by assumption) (by omega) (by omega) rfl ?_
        refine x_iadd D_5_say_102 ?_
        refine x_iastore D_5_say_103 (by assumption) (by omega) (by omega) rfl (fun h103 e103 n103 => ?_)
        first | (replace g1 := (n103 _ (by omega)).trans g1) | (replace g1 := e103)
        first | (replace e0 := (n103 _ (by omega)).trans e0) | (replace e0 := e103)
        first | (replace e1 := (n103 _ (by omega)).trans e1) | (replace e1 := e103)
        first | (replace e2 := (n103 _ (by omega)).trans e2) | (replace e2 := e103)
        first | (replace e3 := (n103 _ (by omega)).trans e3) | (replace e3 := e103)
        first | (replace e4 := (n103 _ (by omega)).trans e4) | (replace e4 := e103)
        first | (replace b0 := (n103 _ (by omega)).trans b0) | (replace b0 := e103)
        first | (replace b4 := (n103 _ (by omega)).trans b4) | (replace b4 := e103)
        replace hfr := fun q hq => (n103 q (by omega)).trans (hfr q hq)
        refine x_aload_n D_5_say_104 rfl ?_
        refine x_getfield D_5_say_105 f_5_33 (by assumption) rfl ?_
        refine x_getfield D_5_say_108 f_5_146 (by assumption) rfl ?_
        refine x_ireturn D_5_say_111 rfl (by first | rfl | exact nb_bi _ | decide +kernel) rfl ?_
        exact ⟨rfl, ⟨lt, dt, mkE (st 0 + T 6 (s0 : Int)) (E 1 0) (iOr (E 2 0) (iShl 1 (s0 : Int))) (E 3 0) (E 4 0) (E 5 0) (E 6) (ups (E 7) (E 4 0) (E 7 (E 4 0) + T 6 (s0 : Int))) (E 8) (ups (E 9) (s0 : Int) (st 0 + T 6 (s0 : Int))), bf', B', K, hP2.now hfr, ⟨e0, e1, e2, e3, e4⟩, hk, hln, hBt, ⟨rmU_le hu.1, hu.2.1, by omega, by omega⟩, ⟨p1, p2⟩, rem_ok hu.1 hRu hS (by omega) g3, hRk.mono (by omega)⟩, fun q hq => (hfr q (by omega)).trans (g4 q (by omega))⟩
      exact absurd hcc c15
    exact absurd hcs c5
  · rw [if_neg hc, if_neg hc, if_neg hc]
    refine x_aload_n D_5_say_0 rfl ?_
    refine x_iload_n D_5_say_1 rfl ?_
    refine x_invV (d' := d - 1) D_5_say_2 l_5_111 mi_5_isSaying (c_5_isSaying (by omega) hM hT hk.1 hs) (by assumption) rfl rfl (by omega) rfl (fun q => q) rfl rfl (fun r2 h2 q2 => ?_)
    obtain ⟨rfl, rfl⟩ := q2
    refine x_if_neb D_5_say_5 (fun c5 => ?_) (fun c5 => ?_)
    · refine x_aload_n D_5_say_10 rfl ?_
      refine x_iload_n D_5_say_11 rfl ?_
      refine x_invV (d' := d - 1) D_5_say_12 l_5_161 mi_5_canBeSaid (c_5_canBeSaid (by omega) hM hT hE hk.1 hS.1 hS.2 (by omega) c5) (by assumption) rfl rfl (by omega) rfl (fun q => q) rfl rfl (fun r12 h12 q12 => ?_)
      obtain ⟨rfl, rfl⟩ := q12
      refine x_if_neb D_5_say_15 (fun c15 => ?_) (fun c15 => ?_)
      · exact absurd ⟨c5, c15⟩ hc
      refine x_bipush D_5_say_18 (by decide +kernel) ?_
      refine x_ireturn D_5_say_20 rfl (by first | rfl | exact nb_bi _ | decide +kernel) rfl ?_
      exact CQ.eq hI0 (by omega) hbb (by unfold sayA; rw [if_pos c5, if_neg hc])
    refine x_iconst D_5_say_8 ?_
    refine x_ireturn D_5_say_9 rfl (by first | rfl | exact nb_bi _ | decide +kernel) rfl ?_
    exact CQ.eq hI0 (by omega) hbb (by unfold sayA; rw [if_neg c5])
abbrev eatC (T : TT) (st : SS) (k : Int) : Prop := (0 ≤ k ∧ k < T 9 0) ∧ st 2 ≤ st 0 ∧ ¬ hasB (st 5) k
def eatA (T : TT) (st : SS) (k : Int) : Int := if 0 ≤ k ∧ k < T 9 0 then (if eatC T st k then dryBy (st (11 + T 10 k)) (T 11 k) else -2) else -1
theorem c_5_eat (hd : 4 ≤ d) (hI : CInv h b len Bt T st u un kc ke) (hbb : b + 1000 ≤ 1000000) {k : Int} (hkb : B3 k) : Ct d m_5_eat [.ref 1, vi k] z z h (CQ (eatA T st k) h (b + 1000) len Bt T (if eatC T st k then eatS T st k else st) (if eatC T st k then rmU u else u) (if eatC T st k then rmF u un st else un) kc ke) := by
  refine Ct.of (by decide) ⟨Nat.le_refl _, Nat.le_refl _⟩ (Nat.le_of_ble_eq_true rfl) ?_
  have hI0 := hI
  obtain ⟨lt, dt, E, bf, B, K, hP, hE, hk, hln, hBt, hu, hS, hRu, hRk⟩ := hI
  obtain ⟨hM, hId, hX, hT, hB, hK, hSc⟩ := id hP
  unfold Ids at hId
  have hM0 := hM
  unfold Mn at hM0
  obtain ⟨e0, e1, e2, e3, e4⟩ := id hE
  have k9 := hk.1.2.2.2.1
  have k0 := hk.1.1
  have hs0 := hS.1.1
  have hs2 := hS.1.2.2.1
  have hs6 := hS.1.2.2.2.2.2.2.1
  have r0 := hS.2.1
  have r3 := hS.2.2.2.2.1
  have r5 := hS.2.2.2.2.2.1
  have r6 := hS.2.2.2.2.2.2.2.1
  by_cases hc : eatC T st k
  · rw [if_pos hc, if_pos hc, if_pos hc]
    obtain ⟨s0, rfl⟩ : ∃ n : Nat, k = (n : Int) := ⟨k.toNat, by have := hc.1.1; omega⟩
    have hv : eatA T st (s0 : Int) = dryBy (E 6 (T 10 (s0 : Int))) (T 11 (s0 : Int)) := by
      have h10 := (hk.1.2.2.2.2.2.2.2.2 (s0 : Int) hc.1.1 hc.1.2).1
      unfold eatA
      rw [if_pos hc.1, if_pos hc, (r6 _ h10.1 h10.2).1]
    rw [hv]
    obtain ⟨p1, p2⟩ := eat_ok hk.1 hS.1 hS.2 hc.1.2
    obtain ⟨hcs, hc2, hc3⟩ := hc
    refine x_aload_n D_5_eat_0 rfl ?_
    refine x_iload_n D_5_eat_1 rfl ?_
    refine x_invV (d' := d - 1) D_5_eat_2 l_5_164 mi_5_isDish (c_5_isDish (by omega) hM hT hk.1 hkb) (by assumption) rfl rfl (by omega) rfl (fun q => q) rfl rfl (fun r2 h2 q2 => ?_)
    obtain ⟨rfl, rfl⟩ := q2
    refine x_if_neb D_5_eat_5 (fun c5 => ?_) (fun c5 => ?_)
    · refine x_aload_n D_5_eat_10 rfl ?_
      refine x_getfield D_5_eat_11 f_5_33 (by assumption) rfl ?_
      refine x_invV (d' := d - 1) D_5_eat_14 l_5_142 mi_0_aGrainMelts (c_0_aGrainMelts (by omega) hE (by rw [r0]; exact ⟨by omega, by omega⟩) (by rw [r5]; exact ⟨by omega, by omega⟩)) (by assumption) rfl rfl (by omega) rfl (fun q => q) rfl rfl (fun r14 h14 q14 => ?_)
      obtain ⟨rfl, rfl⟩ := q14
      refine x_if_neb D_5_eat_17 (fun c17 => ?_) (fun c17 => ?_)
      · exact absurd c17 (by omega)
      refine x_aload_n D_5_eat_20 rfl ?_
      refine x_getfield D_5_eat_21 f_5_33 (by assumption) rfl ?_
      refine x_getfield D_5_eat_24 f_5_167 (by assumption) rfl ?_
      rw [r3]
      refine x_iload_n D_5_eat_27 rfl ?_
      refine x_invS2 (d' := d - 1) D_5_eat_28 l_5_129 mi_5_isIn (c_5_isIn (by omega))  rfl (by omega) rfl (fun q => q) rfl rfl (fun r28 h28 q28 => ?_)
      obtain ⟨rfl, rfl⟩ := q28
      refine x_if_eqb D_5_eat_31 (fun c31 => ?_) (fun c31 => ?_)
      · refine x_aload_n D_5_eat_37 rfl ?_
        refine x_invV (d' := d - 1) D_5_eat_38 l_5_152 mi_5_remember (c_5_remember (by omega) hM hE hB hu.1) (hM0) rfl rfl (by omega) rfl (fun q => q) rfl rfl (fun r38 h38 q38 => ?_)
        obtain ⟨rfl, g1, ⟨bf', B', g2, g3⟩, g4⟩ := q38
        have hP2 := after_rem hP g1 g2 g4
        unfold Mn at g1
        have hE2 : EvAt h38 23 E := hE.kept (fun q q1 q2 => g4 q (by omega))
        have hT2 := hP2.2.2.2.1
        refine x_aload_n D_5_eat_41 rfl ?_
        refine x_getfield D_5_eat_42 f_5_33 (by assumption) rfl ?_
        refine x_aload_n D_5_eat_45 rfl ?_
        refine x_getfield D_5_eat_46 f_5_23 (by assumption) rfl ?_
        refine x_iload_n D_5_eat_49 rfl ?_
        refine x_invV (d' := d - 1) D_5_eat_50 l_5_170 mi_0_eatDish (c_0_eatDish (by omega) hE2 hT2 (by omega) hk.1 hcs.1 hcs.2 (fun i i0 i1 => by rw [(r6 i i0 i1).1]; exact (hs6 i i0 i1).2)) (hE2.1) rfl rfl (by omega) rfl (fun q => q) rfl rfl (fun r50 h50 q50 => ?_)
        obtain ⟨rfl, w1, w2⟩ := q50
        refine x_ireturn D_5_eat_53 rfl (by first | rfl | exact nb_bi _ | decide +kernel) rfl ?_
        exact ⟨rfl, ⟨lt, dt, _, bf', B', K, hP2.now (fun q hq => w2 q (by omega)), w1, hk, hln, hBt, ⟨rmU_le hu.1, hu.2.1, by omega, by omega⟩, ⟨p1, p2⟩, rem_ok hu.1 hRu hS (by omega) g3, hRk.mono (by omega)⟩, fun q hq => (w2 q (by omega)).trans (g4 q (by omega))⟩
      exact absurd c31 hc3
    exact absurd hcs c5
  · rw [if_neg hc, if_neg hc, if_neg hc]
    refine x_aload_n D_5_eat_0 rfl ?_
    refine x_iload_n D_5_eat_1 rfl ?_
    refine x_invV (d' := d - 1) D_5_eat_2 l_5_164 mi_5_isDish (c_5_isDish (by omega) hM hT hk.1 hkb) (by assumption) rfl rfl (by omega) rfl (fun q => q) rfl rfl (fun r2 h2 q2 => ?_)
    obtain ⟨rfl, rfl⟩ := q2
    refine x_if_neb D_5_eat_5 (fun c5 => ?_) (fun c5 => ?_)
    · refine x_aload_n D_5_eat_10 rfl ?_
      refine x_getfield D_5_eat_11 f_5_33 (by assumption) rfl ?_
      refine x_invV (d' := d - 1) D_5_eat_14 l_5_142 mi_0_aGrainMelts (c_0_aGrainMelts (by omega) hE (by rw [r0]; exact ⟨by omega, by omega⟩) (by rw [r5]; exact ⟨by omega, by omega⟩)) (by assumption) rfl rfl (by omega) rfl (fun q => q) rfl rfl (fun r14 h14 q14 => ?_)
      obtain ⟨rfl, rfl⟩ := q14
      refine x_if_neb D_5_eat_17 (fun c17 => ?_) (fun c17 => ?_)
      · refine x_bipush D_5_eat_34 (by decide +kernel) ?_
        refine x_ireturn D_5_eat_36 rfl (by first | rfl | exact nb_bi _ | decide +kernel) rfl ?_
        exact CQ.eq hI0 (by omega) hbb (by unfold eatA; rw [if_pos c5, if_neg hc])
      refine x_aload_n D_5_eat_20 rfl ?_
      refine x_getfield D_5_eat_21 f_5_33 (by assumption) rfl ?_
      refine x_getfield D_5_eat_24 f_5_167 (by assumption) rfl ?_
      rw [r3]
      refine x_iload_n D_5_eat_27 rfl ?_
      refine x_invS2 (d' := d - 1) D_5_eat_28 l_5_129 mi_5_isIn (c_5_isIn (by omega))  rfl (by omega) rfl (fun q => q) rfl rfl (fun r28 h28 q28 => ?_)
      obtain ⟨rfl, rfl⟩ := q28
      refine x_if_eqb D_5_eat_31 (fun c31 => ?_) (fun c31 => ?_)
      · exact absurd ⟨c5, by omega, c31⟩ hc
      refine x_bipush D_5_eat_34 (by decide +kernel) ?_
      refine x_ireturn D_5_eat_36 rfl (by first | rfl | exact nb_bi _ | decide +kernel) rfl ?_
      exact CQ.eq hI0 (by omega) hbb (by unfold eatA; rw [if_pos c5, if_neg hc])
    refine x_iconst D_5_eat_8 ?_
    refine x_ireturn D_5_eat_9 rfl (by first | rfl | exact nb_bi _ | decide +kernel) rfl ?_
    exact CQ.eq hI0 (by omega) hbb (by unfold eatA; rw [if_neg c5])
theorem c_5_undo (hd : 4 ≤ d) (hI : CInv h b len Bt T st u un kc ke) (hbb : b + 1000 ≤ 1000000) : Ct d m_5_undo [.ref 1] z z h (CQ (if 1 ≤ u then ((u - 1 : Nat) : Int) else -2) h (b + 1000) len Bt T (if 1 ≤ u then un (u - 1) else st) (u - 1) un kc ke) := by
  refine Ct.of (by decide) ⟨Nat.le_refl _, Nat.le_refl _⟩ (Nat.le_of_ble_eq_true rfl) ?_
  have hI0 := hI
  obtain ⟨lt, dt, E, bf, B, K, hP, hE, hk, hln, hBt, hu, hS, hRu, hRk⟩ := hI
  obtain ⟨hM, hId, hX, hT, hB, hK, hSc⟩ := id hP
  unfold Ids at hId
  have hM0 := hM
  unfold Mn at hM0
  obtain ⟨g0, g1, g2, g3⟩ := id hB
  by_cases hc : 1 ≤ u
  · rw [if_pos hc, if_pos hc]
    obtain ⟨n, rfl⟩ : ∃ n, u = n + 1 := ⟨u - 1, by omega⟩
    have hb1 := g1 n (by omega)
    have hn8 : n < 8 := by omega
    have hRn := hRu n (by omega)
    show WW d m_5_undo z (CQ ((n : Nat) : Int) h (b + 1000) len Bt T (un n) n un kc ke) z h 0 _ []
    refine x_aload_n D_5_undo_0 rfl ?_
    refine x_getfield D_5_undo_1 f_5_91 (by assumption) rfl ?_
    refine x_iconst D_5_undo_4 ?_
    refine x_icmp_ge D_5_undo_5 ⟨by omega, by omega⟩ ⟨by omega, by omega⟩ (fun c5 => ?_) (fun c5 => ?_)
    · refine x_aload_n D_5_undo_11 rfl ?_
      refine x_dup D_5_undo_12 rfl ?_
      refine x_getfield D_5_undo_13 f_5_91 (by assumption) rfl ?_
      refine x_iconst D_5_undo_16 ?_
      refine x_isub D_5_undo_17 ?_
      refine x_putI D_5_undo_18 f_5_91 (by assumption) (by decide +kernel) rfl (fun h18 e18 n18 => ?_)
      simp only [List.set_cons_zero, List.set_cons_succ] at e18
      first | (replace hM0 := (n18 _ (by omega)).trans hM0) | (replace hM0 := e18)
      first | (replace g0 := (n18 _ (by omega)).trans g0) | (replace g0 := e18)
      rw [show ((n + 1 : Nat) : Int) - 1 = (n : Int) by omega] at hM0
      refine x_aload_n D_5_undo_21 rfl ?_
      refine x_getfield D_5_undo_22 f_5_33 (by assumption) rfl ?_
      refine x_aload_n D_5_undo_25 rfl ?_
      refine x_getfield D_5_undo_26 f_5_40 (by assumption) rfl ?_
      refine x_aload_n D_5_undo_29 rfl ?_
      refine x_getfield D_5_undo_30 f_5_91 (by assumption) rfl ?_
      refine x_aaload0 D_5_undo_33 g0 (by omega) (by omega) rfl (q0 := bf n) (by simp only [Int.toNat_natCast, if_pos hn8]) ?_
      have hE1 : EvAt h18 23 E := hE.kept (fun q q1 q2 => n18 q (by omega))
      have hB1 : EvAt h18 (bf n) (B n) := (g3 n hn8).kept (fun q q1 q2 => n18 q (by omega))
      refine x_invV (d' := d - 1) D_5_undo_34 l_5_174 mi_0_copyFrom (c_0_copyFrom (by omega) hE1 hB1 (by omega)) (hE1.1) rfl rfl (by omega) rfl (fun q => q) rfl rfl (fun r34 h34 q34 => ?_)
      obtain ⟨rfl, w1, w2⟩ := q34
      have hM0 := (w2 1 (by omega)).trans hM0
      refine x_aload_n D_5_undo_37 rfl ?_
      refine x_getfield D_5_undo_38 f_5_91 (by assumption) rfl ?_
      refine x_ireturn D_5_undo_41 rfl (by first | rfl | exact nb_bi _ | decide +kernel) rfl ?_
      exact ⟨rfl, ⟨lt, dt, B n, bf, B, K, ⟨hM0, hId, (w2 2 (by omega)).trans ((n18 2 (by omega)).trans hX), hT.kept (fun q q1 q2 => (w2 q (by omega)).trans (n18 q (by omega))), hB.kept (fun q hq => (w2 q (by omega)).trans (n18 q (by omega))), hK.kept (fun q hq => (w2 q (by omega)).trans (n18 q (by omega))), hSc.kept (fun q hq => (w2 q (by omega)).trans (n18 q (by omega)))⟩, w1, hk, hln, hBt, ⟨by omega, hu.2.1, by omega, by omega⟩, ⟨hRn.1.mono (by omega), hRn.2⟩, fun j hj => ⟨(hRu j (by omega)).1.mono (by omega), (hRu j (by omega)).2⟩, hRk.mono (by omega)⟩, fun q hq => (w2 q (by omega)).trans (n18 q (by omega))⟩
    exact absurd c5 (by omega)
  · rw [if_neg hc, if_neg hc]
    have hu0 : u = 0 := by omega
    subst hu0
    refine x_aload_n D_5_undo_0 rfl ?_
    refine x_getfield D_5_undo_1 f_5_91 (by assumption) rfl ?_
    refine x_iconst D_5_undo_4 ?_
    refine x_icmp_ge D_5_undo_5 ⟨by omega, by omega⟩ ⟨by omega, by omega⟩ (fun c5 => ?_) (fun c5 => ?_)
    · exact absurd c5 (by omega)
    refine x_bipush D_5_undo_8 (by decide +kernel) ?_
    refine x_ireturn D_5_undo_10 rfl (by first | rfl | exact nb_bi _ | decide +kernel) rfl ?_
    exact CQ.same hI0 (by omega) hbb
theorem c_5_keep (hd : 4 ≤ d) (hI : CInv h b len Bt T st u un kc ke) (hbb : b + 1000 ≤ 1000000) : Ct d m_5_keep [.ref 1] z z h (CQ (if kc < 2 then ((kc + 1 : Nat) : Int) else -3) h (b + 1000) len Bt T st u un (if kc < 2 then kc + 1 else kc) (if kc < 2 then (fun j => if j = kc then st else ke j) else ke)) := by
  refine Ct.of (by decide) ⟨Nat.le_refl _, Nat.le_refl _⟩ (Nat.le_of_ble_eq_true rfl) ?_
  have hI0 := hI
  obtain ⟨lt, dt, E, bf, B, K, hP, hE, hk, hln, hBt, hu, hS, hRu, hRk⟩ := hI
  obtain ⟨hM, hId, hX, hT, hB, hK, hSc⟩ := id hP
  unfold Ids at hId
  have hM0 := hM
  unfold Mn at hM0
  obtain ⟨g0, g3⟩ := id hK
  have g1 := hB.2.1
  by_cases hc : kc < 2
  · rw [if_pos hc, if_pos hc, if_pos hc]
    refine x_aload_n D_5_keep_0 rfl ?_
    refine x_getfield D_5_keep_1 f_5_94 (by assumption) rfl ?_
    refine x_iconst D_5_keep_4 ?_
    refine x_icmp_lt D_5_keep_5 ⟨by omega, by omega⟩ ⟨by omega, by omega⟩ (fun c5 => ?_) (fun c5 => ?_)
    · refine x_aload_n D_5_keep_11 rfl ?_
      refine x_getfield D_5_keep_12 f_5_44 (by assumption) rfl ?_
      refine x_aload_n D_5_keep_15 rfl ?_
      refine x_getfield D_5_keep_16 f_5_94 (by assumption) rfl ?_
      refine x_aaload0 D_5_keep_19 g0 (by omega) (by omega) rfl (q0 := 92 + 5 * kc) (by simp only [Int.toNat_natCast, if_pos hc]) ?_
      refine x_aload_n D_5_keep_20 rfl ?_
      refine x_getfield D_5_keep_21 f_5_33 (by assumption) rfl ?_
      refine x_invV (d' := d - 1) D_5_keep_24 l_5_174 mi_0_copyFrom (c_0_copyFrom (by omega) (g3 kc hc) hE (by omega)) ((g3 kc hc).1) rfl rfl (by omega) rfl (fun q => q) rfl rfl (fun r24 h24 q24 => ?_)
      obtain ⟨rfl, w1, w2⟩ := q24
      have hM0 := (w2 1 (by omega)).trans hM0
      refine x_aload_n D_5_keep_27 rfl ?_
      refine x_dup D_5_keep_28 rfl ?_
      refine x_getfield D_5_keep_29 f_5_94 (by assumption) rfl ?_
      refine x_iconst D_5_keep_32 ?_
      refine x_iadd D_5_keep_33 ?_
      refine x_putI D_5_keep_34 f_5_94 (by assumption) (by decide +kernel) rfl (fun h34 e34 n34 => ?_)
      simp only [List.set_cons_zero, List.set_cons_succ] at e34
      first | (replace hM0 := (n34 _ (by omega)).trans hM0) | (replace hM0 := e34)
      rw [show (kc : Int) + 1 = ((kc + 1 : Nat) : Int) by omega] at hM0
      refine x_aload_n D_5_keep_37 rfl ?_
      refine x_getfield D_5_keep_38 f_5_94 (by assumption) rfl ?_
      refine x_ireturn D_5_keep_41 rfl (by first | rfl | exact nb_bi _ | decide +kernel) rfl ?_
      exact ⟨rfl, ⟨lt, dt, E, bf, B, fun j => if j = kc then E else K j, ⟨hM0, hId, (n34 2 (by omega)).trans ((w2 2 (by omega)).trans hX), hT.kept (fun q q1 q2 => (n34 q (by omega)).trans (w2 q (by omega))), hB.kept (fun q hq => (n34 q (by omega)).trans (w2 q (by omega))), ⟨(n34 34 (by omega)).trans ((w2 34 (by omega)).trans g0), fun k hk2 => by
        by_cases e : k = kc
        · simp only [if_pos e]
          rw [e]
          exact w1.kept (fun q q1 q2 => n34 q (by omega))
        · simp only [if_neg e]
          exact (g3 k hk2).kept (fun q q1 q2 => (n34 q (by omega)).trans (w2 q (by omega)))⟩, hSc.kept (fun q hq => (n34 q (by omega)).trans (w2 q (by omega)))⟩, hE.kept (fun q q1 q2 => (n34 q (by omega)).trans (w2 q (by omega))), hk, hln, hBt, ⟨hu.1, by omega, by omega, by omega⟩, ⟨hS.1.mono (by omega), hS.2⟩, hRu.mono (by omega), fun j hj => by
        by_cases e : j = kc
        · simp only [if_pos e]
          exact ⟨hS.1.mono (by omega), hS.2⟩
        · simp only [if_neg e]
          exact ⟨(hRk j (by omega)).1.mono (by omega), (hRk j (by omega)).2⟩⟩, fun q hq => (n34 q (by omega)).trans (w2 q (by omega))⟩
    exact absurd c5 (by omega)
  · rw [if_neg hc, if_neg hc, if_neg hc]
    refine x_aload_n D_5_keep_0 rfl ?_
    refine x_getfield D_5_keep_1 f_5_94 (by assumption) rfl ?_
    refine x_iconst D_5_keep_4 ?_
    refine x_icmp_lt D_5_keep_5 ⟨by omega, by omega⟩ ⟨by omega, by omega⟩ (fun c5 => ?_) (fun c5 => ?_)
    · exact absurd c5 (by omega)
    refine x_bipush D_5_keep_8 (by decide +kernel) ?_
    refine x_ireturn D_5_keep_10 rfl (by first | rfl | exact nb_bi _ | decide +kernel) rfl ?_
    exact CQ.same hI0 (by omega) hbb
theorem c_5_back (hd : 4 ≤ d) (hI : CInv h b len Bt T st u un kc ke) (hbb : b + 1000 ≤ 1000000) : Ct d m_5_back [.ref 1] z z h (CQ (if 1 ≤ kc then ((kc - 1 : Nat) : Int) else -2) h (b + 1000) len Bt T (if 1 ≤ kc then ke (kc - 1) else st) (if 1 ≤ kc then 0 else u) un (kc - 1) ke) := by
  refine Ct.of (by decide) ⟨Nat.le_refl _, Nat.le_refl _⟩ (Nat.le_of_ble_eq_true rfl) ?_
  have hI0 := hI
  obtain ⟨lt, dt, E, bf, B, K, hP, hE, hk, hln, hBt, hu, hS, hRu, hRk⟩ := hI
  obtain ⟨hM, hId, hX, hT, hB, hK, hSc⟩ := id hP
  unfold Ids at hId
  have hM0 := hM
  unfold Mn at hM0
  obtain ⟨g0, g3⟩ := id hK
  have g1 := hB.2.1
  by_cases hc : 1 ≤ kc
  · rw [if_pos hc, if_pos hc, if_pos hc]
    obtain ⟨n, rfl⟩ : ∃ n, kc = n + 1 := ⟨kc - 1, by omega⟩
    have hn8 : n < 2 := by omega
    have hRn := hRk n (by omega)
    show WW d m_5_back z (CQ ((n : Nat) : Int) h (b + 1000) len Bt T (ke n) 0 un n ke) z h 0 _ []
    refine x_aload_n D_5_back_0 rfl ?_
    refine x_getfield D_5_back_1 f_5_94 (by assumption) rfl ?_
    refine x_iconst D_5_back_4 ?_
    refine x_icmp_ge D_5_back_5 ⟨by omega, by omega⟩ ⟨by omega, by omega⟩ (fun c5 => ?_) (fun c5 => ?_)
    · refine x_aload_n D_5_back_11 rfl ?_
      refine x_dup D_5_back_12 rfl ?_
      refine x_getfield D_5_back_13 f_5_94 (by assumption) rfl ?_
      refine x_iconst D_5_back_16 ?_
      refine x_isub D_5_back_17 ?_
      refine x_putI D_5_back_18 f_5_94 (by assumption) (by decide +kernel) rfl (fun h18 e18 n18 => ?_)
      simp only [List.set_cons_zero, List.set_cons_succ] at e18
      first | (replace hM0 := (n18 _ (by omega)).trans hM0) | (replace hM0 := e18)
      first | (replace g0 := (n18 _ (by omega)).trans g0) | (replace g0 := e18)
      rw [show ((n + 1 : Nat) : Int) - 1 = (n : Int) by omega] at hM0
      refine x_aload_n D_5_back_21 rfl ?_
      refine x_getfield D_5_back_22 f_5_33 (by assumption) rfl ?_
      refine x_aload_n D_5_back_25 rfl ?_
      refine x_getfield D_5_back_26 f_5_44 (by assumption) rfl ?_
      refine x_aload_n D_5_back_29 rfl ?_
      refine x_getfield D_5_back_30 f_5_94 (by assumption) rfl ?_
      refine x_aaload0 D_5_back_33 g0 (by omega) (by omega) rfl (q0 := 92 + 5 * n) (by simp only [Int.toNat_natCast, if_pos hn8]) ?_
      have hE1 : EvAt h18 23 E := hE.kept (fun q q1 q2 => n18 q (by omega))
      have hB1 : EvAt h18 (92 + 5 * n) (K n) := (g3 n hn8).kept (fun q q1 q2 => n18 q (by omega))
      refine x_invV (d' := d - 1) D_5_back_34 l_5_174 mi_0_copyFrom (c_0_copyFrom (by omega) hE1 hB1 (by omega)) (hE1.1) rfl rfl (by omega) rfl (fun q => q) rfl rfl (fun r34 h34 q34 => ?_)
      obtain ⟨rfl, w1, w2⟩ := q34
      have hM0 := (w2 1 (by omega)).trans hM0
      have g0 := (w2 34 (by omega)).trans g0
      refine x_aload_n D_5_back_37 rfl ?_
      refine x_iconst D_5_back_38 ?_
      refine x_putI D_5_back_39 f_5_91 (by assumption) (by decide +kernel) rfl (fun h39 e39 n39 => ?_)
      simp only [List.set_cons_zero, List.set_cons_succ] at e39
      first | (replace hM0 := (n39 _ (by omega)).trans hM0) | (replace hM0 := e39)
      first | (replace g0 := (n39 _ (by omega)).trans g0) | (replace g0 := e39)
      refine x_aload_n D_5_back_42 rfl ?_
      refine x_getfield D_5_back_43 f_5_94 (by assumption) rfl ?_
      refine x_ireturn D_5_back_46 rfl (by first | rfl | exact nb_bi _ | decide +kernel) rfl ?_
      have hkp : ∀ q : Nat, (q ≠ 1 ∧ (q < 23 ∨ 27 < q)) → h39 q = h q := fun q hq => (n39 q (by omega)).trans ((w2 q (by omega)).trans (n18 q (by omega)))
      exact ⟨rfl, ⟨lt, dt, K n, bf, B, K, ⟨hM0, hId, (hkp 2 (by omega)).trans hX, hT.kept (fun q q1 q2 => hkp q (by omega)), hB.kept (fun q hq => hkp q (by omega)), hK.kept (fun q hq => hkp q (by omega)), hSc.kept (fun q hq => hkp q (by omega))⟩, w1.kept (fun q q1 q2 => n39 q (by omega)), hk, hln, hBt, ⟨by omega, by omega, by omega, by omega⟩, ⟨hRn.1.mono (by omega), hRn.2⟩, fun j hj => absurd hj (by omega), fun j hj => ⟨(hRk j (by omega)).1.mono (by omega), (hRk j (by omega)).2⟩⟩, fun q hq => hkp q (by omega)⟩
    exact absurd c5 (by omega)
  · rw [if_neg hc, if_neg hc, if_neg hc]
    have hu0 : kc = 0 := by omega
    subst hu0
    refine x_aload_n D_5_back_0 rfl ?_
    refine x_getfield D_5_back_1 f_5_94 (by assumption) rfl ?_
    refine x_iconst D_5_back_4 ?_
    refine x_icmp_ge D_5_back_5 ⟨by omega, by omega⟩ ⟨by omega, by omega⟩ (fun c5 => ?_) (fun c5 => ?_)
    · exact absurd c5 (by omega)
    refine x_bipush D_5_back_8 (by decide +kernel) ?_
    refine x_ireturn D_5_back_10 rfl (by first | rfl | exact nb_bi _ | decide +kernel) rfl ?_
    exact CQ.same hI0 (by omega) hbb
def countA (T : TT) (st : SS) (len : Int) (u kc : Nat) (w : Int) : Int := if w = 0 then T 0 0 else if w = 1 then T 2 0 else if w = 2 then T 4 0 else if w = 3 then T 9 0 else if w = 4 then st 0 else if w = 5 then st 3 else if w = 6 then st 4 else if w = 7 then st 5 else if w = 8 then (u : Int) else if w = 9 then (kc : Int) else if w = 10 then len else -1
theorem c_5_count (hd : 4 ≤ d) (hI : CInv h b len Bt T st u un kc ke) (hbb : b + 1000 ≤ 1000000) {w : Int} (hw : B3 w) : Ct d m_5_count [.ref 1, vi w] z z h (CQ (countA T st len u kc w) h (b + 1000) len Bt T st u un kc ke) := by
  refine Ct.of (by decide) ⟨Nat.le_refl _, Nat.le_refl _⟩ (Nat.le_of_ble_eq_true rfl) ?_
  have hI0 := hI
  obtain ⟨lt, dt, E, bf, B, K, hP, hE, hk, hln, hBt, hu, hS, hRu, hRk⟩ := hI
  obtain ⟨hM, hId, hX, hT, hB, hK, hSc⟩ := id hP
  have hM0 := hM
  unfold Mn at hM0
  obtain ⟨e0, e1, e2, e3, e4⟩ := id hE
  obtain ⟨b0, b1, b2, b3, b4, b5, b6, b7, b8⟩ := id hT
  have r0 := hS.2.1
  have r1 := hS.2.2.1
  have r2 := hS.2.2.2.1
  have r3 := hS.2.2.2.2.1
  have fin : ∀ v : Int, v = countA T st len u kc w → CQ (countA T st len u kc w) h (b + 1000) len Bt T st u un kc ke (some (vi v)) h := fun v e => CQ.eq hI0 (by omega) hbb e
  refine x_iload_n D_5_count_0 rfl ?_
  by_cases w1_0 : w = 0
  · refine x_tswIn D_5_count_1 (tgt := 60) (off := 59) ⟨by omega, by omega⟩ (by omega) (by omega) (by rw [w1_0]; decide +kernel) (by omega) ?_
    refine x_aload_n D_5_count_60 rfl ?_
    refine x_getfield D_5_count_61 f_5_23 (by assumption) rfl ?_
    refine x_getfield D_5_count_64 f_5_85 (by assumption) rfl ?_
    refine x_ireturn D_5_count_67 rfl (by first | rfl | exact nb_bi _ | decide +kernel) rfl ?_
    exact fin _ (by unfold countA; rw [if_pos w1_0])
  by_cases w1_1 : w = 1
  · refine x_tswIn D_5_count_1 (tgt := 68) (off := 67) ⟨by omega, by omega⟩ (by omega) (by omega) (by rw [w1_1]; decide +kernel) (by omega) ?_
    refine x_aload_n D_5_count_68 rfl ?_
    refine x_getfield D_5_count_69 f_5_23 (by assumption) rfl ?_
    refine x_getfield D_5_count_72 f_5_88 (by assumption) rfl ?_
    refine x_ireturn D_5_count_75 rfl (by first | rfl | exact nb_bi _ | decide +kernel) rfl ?_
    exact fin _ (by unfold countA; rw [if_neg w1_0, if_pos w1_1])
  by_cases w1_2 : w = 2
  · refine x_tswIn D_5_count_1 (tgt := 76) (off := 75) ⟨by omega, by omega⟩ (by omega) (by omega) (by rw [w1_2]; decide +kernel) (by omega) ?_
    refine x_aload_n D_5_count_76 rfl ?_
    refine x_getfield D_5_count_77 f_5_23 (by assumption) rfl ?_
    refine x_getfield D_5_count_80 f_5_233 (by assumption) rfl ?_
    refine x_ireturn D_5_count_83 rfl (by first | rfl | exact nb_bi _ | decide +kernel) rfl ?_
    exact fin _ (by unfold countA; rw [if_neg w1_0, if_neg w1_1, if_pos w1_2])
  by_cases w1_3 : w = 3
  · refine x_tswIn D_5_count_1 (tgt := 84) (off := 83) ⟨by omega, by omega⟩ (by omega) (by omega) (by rw [w1_3]; decide +kernel) (by omega) ?_
    refine x_aload_n D_5_count_84 rfl ?_
    refine x_getfield D_5_count_85 f_5_23 (by assumption) rfl ?_
    refine x_getfield D_5_count_88 f_5_216 (by assumption) rfl ?_
    refine x_ireturn D_5_count_91 rfl (by first | rfl | exact nb_bi _ | decide +kernel) rfl ?_
    exact fin _ (by unfold countA; rw [if_neg w1_0, if_neg w1_1, if_neg w1_2, if_pos w1_3])
  by_cases w1_4 : w = 4
  · refine x_tswIn D_5_count_1 (tgt := 92) (off := 91) ⟨by omega, by omega⟩ (by omega) (by omega) (by rw [w1_4]; decide +kernel) (by omega) ?_
    refine x_aload_n D_5_count_92 rfl ?_
    refine x_getfield D_5_count_93 f_5_33 (by assumption) rfl ?_
    refine x_getfield D_5_count_96 f_5_146 (by assumption) rfl ?_
    refine x_ireturn D_5_count_99 rfl (by first | rfl | exact nb_bi _ | decide +kernel) rfl ?_
    exact fin _ (by unfold countA; rw [if_neg w1_0, if_neg w1_1, if_neg w1_2, if_neg w1_3, if_pos w1_4, r0])
  by_cases w1_5 : w = 5
  · refine x_tswIn D_5_count_1 (tgt := 100) (off := 99) ⟨by omega, by omega⟩ (by omega) (by omega) (by rw [w1_5]; decide +kernel) (by omega) ?_
    refine x_aload_n D_5_count_100 rfl ?_
    refine x_getfield D_5_count_101 f_5_33 (by assumption) rfl ?_
    refine x_getfield D_5_count_104 f_5_149 (by assumption) rfl ?_
    refine x_ireturn D_5_count_107 rfl (by first | rfl | exact nb_bi _ | decide +kernel) rfl ?_
    exact fin _ (by unfold countA; rw [if_neg w1_0, if_neg w1_1, if_neg w1_2, if_neg w1_3, if_neg w1_4, if_pos w1_5, r1])
  by_cases w1_6 : w = 6
  · refine x_tswIn D_5_count_1 (tgt := 108) (off := 107) ⟨by omega, by omega⟩ (by omega) (by omega) (by rw [w1_6]; decide +kernel) (by omega) ?_
    refine x_aload_n D_5_count_108 rfl ?_
    refine x_getfield D_5_count_109 f_5_33 (by assumption) rfl ?_
    refine x_getfield D_5_count_112 f_5_126 (by assumption) rfl ?_
    refine x_ireturn D_5_count_115 rfl (by first | rfl | exact nb_bi _ | decide +kernel) rfl ?_
    exact fin _ (by unfold countA; rw [if_neg w1_0, if_neg w1_1, if_neg w1_2, if_neg w1_3, if_neg w1_4, if_neg w1_5, if_pos w1_6, r2])
  by_cases w1_7 : w = 7
  · refine x_tswIn D_5_count_1 (tgt := 116) (off := 115) ⟨by omega, by omega⟩ (by omega) (by omega) (by rw [w1_7]; decide +kernel) (by omega) ?_
    refine x_aload_n D_5_count_116 rfl ?_
    refine x_getfield D_5_count_117 f_5_33 (by assumption) rfl ?_
    refine x_getfield D_5_count_120 f_5_167 (by assumption) rfl ?_
    refine x_ireturn D_5_count_123 rfl (by first | rfl | exact nb_bi _ | decide +kernel) rfl ?_
    exact fin _ (by unfold countA; rw [if_neg w1_0, if_neg w1_1, if_neg w1_2, if_neg w1_3, if_neg w1_4, if_neg w1_5, if_neg w1_6, if_pos w1_7, r3])
  by_cases w1_8 : w = 8
  · refine x_tswIn D_5_count_1 (tgt := 124) (off := 123) ⟨by omega, by omega⟩ (by omega) (by omega) (by rw [w1_8]; decide +kernel) (by omega) ?_
    refine x_aload_n D_5_count_124 rfl ?_
    refine x_getfield D_5_count_125 f_5_91 (by assumption) rfl ?_
    refine x_ireturn D_5_count_128 rfl (by first | rfl | exact nb_bi _ | decide +kernel) rfl ?_
    exact fin _ (by unfold countA; rw [if_neg w1_0, if_neg w1_1, if_neg w1_2, if_neg w1_3, if_neg w1_4, if_neg w1_5, if_neg w1_6, if_neg w1_7, if_pos w1_8])
  by_cases w1_9 : w = 9
  · refine x_tswIn D_5_count_1 (tgt := 129) (off := 128) ⟨by omega, by omega⟩ (by omega) (by omega) (by rw [w1_9]; decide +kernel) (by omega) ?_
    refine x_aload_n D_5_count_129 rfl ?_
    refine x_getfield D_5_count_130 f_5_94 (by assumption) rfl ?_
    refine x_ireturn D_5_count_133 rfl (by first | rfl | exact nb_bi _ | decide +kernel) rfl ?_
    exact fin _ (by unfold countA; rw [if_neg w1_0, if_neg w1_1, if_neg w1_2, if_neg w1_3, if_neg w1_4, if_neg w1_5, if_neg w1_6, if_neg w1_7, if_neg w1_8, if_pos w1_9])
  by_cases w1_10 : w = 10
  · refine x_tswIn D_5_count_1 (tgt := 134) (off := 133) ⟨by omega, by omega⟩ (by omega) (by omega) (by rw [w1_10]; decide +kernel) (by omega) ?_
    refine x_aload_n D_5_count_134 rfl ?_
    refine x_getfield D_5_count_135 f_5_81 (by assumption) rfl ?_
    refine x_ireturn D_5_count_138 rfl (by first | rfl | exact nb_bi _ | decide +kernel) rfl ?_
    exact fin _ (by unfold countA; rw [if_neg w1_0, if_neg w1_1, if_neg w1_2, if_neg w1_3, if_neg w1_4, if_neg w1_5, if_neg w1_6, if_neg w1_7, if_neg w1_8, if_neg w1_9, if_pos w1_10])
  refine x_tswOut D_5_count_1 (tgt := 139) ⟨by omega, by omega⟩ (by omega) (by omega) ?_
  refine x_iconst D_5_count_139 ?_
  refine x_ireturn D_5_count_140 rfl (by first | rfl | exact nb_bi _ | decide +kernel) rfl ?_
  exact fin _ (by unfold countA; rw [if_neg w1_0, if_neg w1_1, if_neg w1_2, if_neg w1_3, if_neg w1_4, if_neg w1_5, if_neg w1_6, if_neg w1_7, if_neg w1_8, if_neg w1_9, if_neg w1_10])
end CM3
