theorem after_rem {h h1 : Hp} {len : Int} {Bt : Int → Int} {lt dt u : Nat} {T : TT} {kc : Int} {bf bf' : Nat → Nat} {B B' K : Nat → TT} (H : Parts h len Bt lt dt T u kc bf B K) (hM : Mn h1 len lt dt (rmU u : Nat) kc) (hB : Bf h1 bf' B') (hk : ∀ q : Nat, (q ≠ 1 ∧ q ≠ 33 ∧ (q < 52 ∨ 91 < q)) → h1 q = h q) : Parts h1 len Bt lt dt T (rmU u : Nat) kc bf' B' K := by
  obtain ⟨a1, a2, a3, a4, a5, a6, a7⟩ := H
  unfold Ids at a2
  exact ⟨hM, a2, (hk 2 (by omega)).trans a3, a4.kept (fun q q1 q2 => hk q (by omega)), hB, a6.kept (fun q hq => hk q (by omega)), a7.kept (fun q hq => hk q (by omega))⟩
theorem rem_ok {T E : TT} {b b2 : Int} {u : Nat} {B B' : Nat → TT} {un : Nat → SS} {st : SS} (hu : u ≤ 8) (hR : Rem T b u B un) (hS : StOk T st b ∧ ERel T E st) (hb : b ≤ b2) (hB : ∀ j : Nat, j < rmU u → B' j = rmF u B E j) : Rem T b2 (rmU u) B' (rmF u un st) := by
  intro j hj
  rw [hB j hj]
  unfold rmU at hj
  unfold rmF
  by_cases h8 : u = 8
  · rw [if_pos h8] at hj
    rw [if_pos h8, if_pos h8]
    by_cases h7 : j < 7
    · rw [if_pos h7, if_pos h7]
      have := hR (j + 1) (by omega)
      exact ⟨this.1.mono hb, this.2⟩
    · rw [if_neg h7, if_neg h7]
      exact ⟨hS.1.mono hb, hS.2⟩
  · rw [if_neg h8] at hj
    rw [if_neg h8, if_neg h8]
    by_cases h7 : j = u
    · rw [if_pos h7, if_pos h7]
      exact ⟨hS.1.mono hb, hS.2⟩
    · rw [if_neg h7, if_neg h7]
      have := hR j (by omega)
      exact ⟨this.1.mono hb, this.2⟩
theorem Rem.mono {T : TT} {b b2 : Int} {u : Nat} {B : Nat → TT} {un : Nat → SS} (h : Rem T b u B un) (hb : b ≤ b2) : Rem T b2 u B un := fun j hj => ⟨(h j hj).1.mono hb, (h j hj).2⟩
theorem rmU_le {u : Nat} (hu : u ≤ 8) : rmU u ≤ 8 := by unfold rmU; split <;> omega
section CM
variable {d : Nat} {z : Nat × Nat} {h : Hp} {b len : Int} {Bt : Int → Int} {T : TT} {st : SS} {u : Nat} {un : Nat → SS} {kc : Nat} {ke : Nat → SS}
theorem c_5_wipe (hd : 4 ≤ d) (hI : CInv h b len Bt T st u un kc ke) (hbb : b + 1000 ≤ 1000000) : Ct d m_5_wipe [.ref 1] z z h (CQ len h (b + 1000) 0 Bt T st u un kc ke) := by
  refine Ct.of (by decide) ⟨Nat.le_refl _, Nat.le_refl _⟩ (Nat.le_of_ble_eq_true rfl) ?_
  obtain ⟨lt, dt, E, bf, B, K, ⟨hM, hId, hX, hT, hB, hK, hSc⟩, hE, hk, hln, hBt, hu, hS, hRu, hRk⟩ := hI
  unfold Ids at hId
  have hM0 := hM
  unfold Mn at hM0
  have hfr : ∀ q : Nat, q ≠ 1 → h q = h q := fun _ _ => rfl
  refine x_aload_n D_5_wipe_0 rfl ?_
  refine x_getfield D_5_wipe_1 f_5_81 (by assumption) rfl ?_
  refine x_istore_n D_5_wipe_4 rfl rfl rfl ?_
  refine x_aload_n D_5_wipe_5 rfl ?_
  refine x_iconst D_5_wipe_6 ?_
  refine x_putI D_5_wipe_7 f_5_81 (by assumption) (by decide +kernel) rfl (fun h7 e7 n7 => ?_)
  simp only [List.set_cons_zero, List.set_cons_succ] at e7
  first | (replace hM0 := (n7 _ (by omega)).trans hM0) | (replace hM0 := e7)
  replace hfr := fun q hq => (n7 q (by omega)).trans (hfr q hq)
  refine x_iload_n D_5_wipe_10 rfl ?_
  refine x_ireturn D_5_wipe_11 rfl (by first | rfl | exact nb_bi _ | decide +kernel) rfl ?_
  exact ⟨rfl, ⟨lt, dt, E, bf, B, K, ⟨hM0, hId, (hfr 2 (by omega)).trans hX, hT.kept (fun q q1 q2 => hfr q (by omega)), hB.kept (fun q hq => hfr q (by omega)), hK.kept (fun q hq => hfr q (by omega)), hSc.kept (fun q hq => hfr q (by omega))⟩, hE.kept (fun q q1 q2 => hfr q (by omega)), hk, ⟨by omega, by omega⟩, hBt, ⟨hu.1, hu.2.1, by omega, by omega⟩, ⟨hS.1.mono (by omega), hS.2⟩, hRu.mono (by omega), hRk.mono (by omega)⟩, fun q hq => hfr q (by omega)⟩
def personA (T : TT) (st : SS) (i w : Int) : Int := if 0 ≤ i ∧ i < T 0 0 then (if w = 0 then st (11 + i) else if w = 1 then shS T (st 4) i (nSa T) else if w = 2 then st (6 + i) else -1) else -1
theorem c_5_person (hd : 4 ≤ d) (hI : CInv h b len Bt T st u un kc ke) (hbb : b + 1000 ≤ 1000000) {i w : Int} (hi : B3 i) (hw : B3 w) : Ct d m_5_person [.ref 1, vi i, vi w] z z h (CQ (personA T st i w) h (b + 1000) len Bt T st u un kc ke) := by
  refine Ct.of (by decide) ⟨Nat.le_refl _, Nat.le_refl _⟩ (Nat.le_of_ble_eq_true rfl) ?_
  have hI0 := hI
  obtain ⟨lt, dt, E, bf, B, K, ⟨hM, hId, hX, hT, hB, hK, hSc⟩, hE, hk, hln, hBt, hu, ⟨hS, hR⟩, hRu, hRk⟩ := hI
  have hM0 := hM
  unfold Mn at hM0
  obtain ⟨e0, e1, e2, e3, e4⟩ := id hE
  have k0 := hk.1.1
  have hr := hR.2.2.2.2.2.2.1
  have fin : ∀ v : Int, v = personA T st i w → CQ (personA T st i w) h (b + 1000) len Bt T st u un kc ke (some (vi v)) h := fun v e => CQ.eq hI0 (by omega) hbb e
  refine x_aload_n D_5_person_0 rfl ?_
  refine x_iload_n D_5_person_1 rfl ?_
  refine x_invV (d' := d - 1) D_5_person_2 l_5_97 mi_5_isPerson (c_5_isPerson (by omega) hM hT hk.1 hi) (by assumption) rfl rfl (by omega) rfl (fun q => q) rfl rfl (fun r2 h2 q2 => ?_)
  obtain ⟨rfl, rfl⟩ := q2
  refine x_if_neb D_5_person_5 (fun c5 => ?_) (fun c5 => ?_)
  · refine x_iload_n D_5_person_10 rfl ?_
    by_cases w11_0 : w = 0
    · refine x_tswIn D_5_person_11 (tgt := 36) (off := 25) ⟨by omega, by omega⟩ (by omega) (by omega) (by rw [w11_0]; decide +kernel) (by omega) ?_
      refine x_aload_n D_5_person_36 rfl ?_
      refine x_getfield D_5_person_37 f_5_33 (by assumption) rfl ?_
      refine x_getfield D_5_person_40 f_5_101 (by assumption) rfl ?_
      refine x_iload_n D_5_person_43 rfl ?_
      refine x_iaload D_5_person_44 (by assumption) (by omega) (by omega) rfl ?_
      refine x_ireturn D_5_person_45 rfl (by first | rfl | exact nb_bi _ | decide +kernel) rfl ?_
      exact fin _ (by unfold personA; rw [if_pos c5, if_pos w11_0, (hr i c5.1 c5.2).1])
    by_cases w11_1 : w = 1
    · refine x_tswIn D_5_person_11 (tgt := 46) (off := 35) ⟨by omega, by omega⟩ (by omega) (by omega) (by rw [w11_1]; decide +kernel) (by omega) ?_
      refine x_aload_n D_5_person_46 rfl ?_
      refine x_getfield D_5_person_47 f_5_33 (by assumption) rfl ?_
      refine x_getfield D_5_person_50 f_5_105 (by assumption) rfl ?_
      refine x_iload_n D_5_person_53 rfl ?_
      refine x_iaload D_5_person_54 (by assumption) (by omega) (by omega) rfl ?_
      refine x_ireturn D_5_person_55 rfl (by first | rfl | exact nb_bi _ | decide +kernel) rfl ?_
      exact fin _ (by unfold personA; rw [if_pos c5, if_neg w11_0, if_pos w11_1, (hr i c5.1 c5.2).2.2])
    by_cases w11_2 : w = 2
    · refine x_tswIn D_5_person_11 (tgt := 56) (off := 45) ⟨by omega, by omega⟩ (by omega) (by omega) (by rw [w11_2]; decide +kernel) (by omega) ?_
      refine x_aload_n D_5_person_56 rfl ?_
      refine x_getfield D_5_person_57 f_5_33 (by assumption) rfl ?_
      refine x_getfield D_5_person_60 f_5_108 (by assumption) rfl ?_
      refine x_iload_n D_5_person_63 rfl ?_
      refine x_iaload D_5_person_64 (by assumption) (by omega) (by omega) rfl ?_
      refine x_ireturn D_5_person_65 rfl (by first | rfl | exact nb_bi _ | decide +kernel) rfl ?_
      exact fin _ (by unfold personA; rw [if_pos c5, if_neg w11_0, if_neg w11_1, if_pos w11_2, (hr i c5.1 c5.2).2.1])
    refine x_tswOut D_5_person_11 (tgt := 66) ⟨by omega, by omega⟩ (by omega) (by omega) ?_
    refine x_iconst D_5_person_66 ?_
    refine x_ireturn D_5_person_67 rfl (by first | rfl | exact nb_bi _ | decide +kernel) rfl ?_
    exact fin _ (by unfold personA; rw [if_pos c5, if_neg w11_0, if_neg w11_1, if_neg w11_2])
  refine x_iconst D_5_person_8 ?_
  refine x_ireturn D_5_person_9 rfl (by first | rfl | exact nb_bi _ | decide +kernel) rfl ?_
  exact fin _ (by unfold personA; rw [if_neg c5])
def sayingA (T : TT) (st : SS) (s w : Int) : Int := if 0 ≤ s ∧ s < T 4 0 then (if w = 0 then T 5 s else if w = 1 then T 6 s else if w = 2 then T 7 s else if w = 3 then T 8 s else if w = 4 then st (16 + s) else -1) else -1
theorem c_5_saying (hd : 4 ≤ d) (hI : CInv h b len Bt T st u un kc ke) (hbb : b + 1000 ≤ 1000000) {s w : Int} (hs : B3 s) (hw : B3 w) : Ct d m_5_saying [.ref 1, vi s, vi w] z z h (CQ (sayingA T st s w) h (b + 1000) len Bt T st u un kc ke) := by
  refine Ct.of (by decide) ⟨Nat.le_refl _, Nat.le_refl _⟩ (Nat.le_of_ble_eq_true rfl) ?_
  have hI0 := hI
  obtain ⟨lt, dt, E, bf, B, K, ⟨hM, hId, hX, hT, hB, hK, hSc⟩, hE, hk, hln, hBt, hu, ⟨hS, hR⟩, hRu, hRk⟩ := hI
  have hM0 := hM
  unfold Mn at hM0
  obtain ⟨e0, e1, e2, e3, e4⟩ := id hE
  obtain ⟨b0, b1, b2, b3, b4, b5, b6, b7, b8⟩ := id hT
  have k4 := hk.1.2.2.1
  have hr := hR.2.2.2.2.2.2.2
  have hs8 := hS.2.2.2.2.2.2.2
  have r2 := hR.2.2.1
  have fin : ∀ v : Int, v = sayingA T st s w → CQ (sayingA T st s w) h (b + 1000) len Bt T st u un kc ke (some (vi v)) h := fun v e => CQ.eq hI0 (by omega) hbb e
  refine x_aload_n D_5_saying_0 rfl ?_
  refine x_iload_n D_5_saying_1 rfl ?_
  refine x_invV (d' := d - 1) D_5_saying_2 l_5_111 mi_5_isSaying (c_5_isSaying (by omega) hM hT hk.1 hs) (by assumption) rfl rfl (by omega) rfl (fun q => q) rfl rfl (fun r2 h2 q2 => ?_)
  obtain ⟨rfl, rfl⟩ := q2
  refine x_if_neb D_5_saying_5 (fun c5 => ?_) (fun c5 => ?_)
  · refine x_iload_n D_5_saying_10 rfl ?_
    by_cases w11_0 : w = 0
    · refine x_tswIn D_5_saying_11 (tgt := 44) (off := 33) ⟨by omega, by omega⟩ (by omega) (by omega) (by rw [w11_0]; decide +kernel) (by omega) ?_
      refine x_aload_n D_5_saying_44 rfl ?_
      refine x_getfield D_5_saying_45 f_5_23 (by assumption) rfl ?_
      refine x_getfield D_5_saying_48 f_5_114 (by assumption) rfl ?_
      refine x_iload_n D_5_saying_51 rfl ?_
      refine x_iaload D_5_saying_52 (by assumption) (by omega) (by omega) rfl ?_
      refine x_ireturn D_5_saying_53 rfl (by first | rfl | exact nb_bi _ | decide +kernel) rfl ?_
      exact fin _ (by unfold sayingA; rw [if_pos c5, if_pos w11_0])
    by_cases w11_1 : w = 1
    · refine x_tswIn D_5_saying_11 (tgt := 54) (off := 43) ⟨by omega, by omega⟩ (by omega) (by omega) (by rw [w11_1]; decide +kernel) (by omega) ?_
      refine x_aload_n D_5_saying_54 rfl ?_
      refine x_getfield D_5_saying_55 f_5_23 (by assumption) rfl ?_
      refine x_getfield D_5_saying_58 f_5_117 (by assumption) rfl ?_
      refine x_iload_n D_5_saying_61 rfl ?_
      refine x_iaload D_5_saying_62 (by assumption) (by omega) (by omega) rfl ?_
      refine x_ireturn D_5_saying_63 rfl (by first | rfl | exact nb_bi _ | decide +kernel) rfl ?_
      exact fin _ (by unfold sayingA; rw [if_pos c5, if_neg w11_0, if_pos w11_1])
    by_cases w11_2 : w = 2
    · refine x_tswIn D_5_saying_11 (tgt := 64) (off := 53) ⟨by omega, by omega⟩ (by omega) (by omega) (by rw [w11_2]; decide +kernel) (by omega) ?_
      refine x_aload_n D_5_saying_64 rfl ?_
      refine x_getfield D_5_saying_65 f_5_23 (by assumption) rfl ?_
      refine x_getfield D_5_saying_68 f_5_120 (by assumption) rfl ?_
      refine x_iload_n D_5_saying_71 rfl ?_
      refine x_iaload D_5_saying_72 (by assumption) (by omega) (by omega) rfl ?_
      refine x_ireturn D_5_saying_73 rfl (by first | rfl | exact nb_bi _ | decide +kernel) rfl ?_
      exact fin _ (by unfold sayingA; rw [if_pos c5, if_neg w11_0, if_neg w11_1, if_pos w11_2])
    by_cases w11_3 : w = 3
    · refine x_tswIn D_5_saying_11 (tgt := 74) (off := 63) ⟨by omega, by omega⟩ (by omega) (by omega) (by rw [w11_3]; decide +kernel) (by omega) ?_
      refine x_aload_n D_5_saying_74 rfl ?_
      refine x_getfield D_5_saying_75 f_5_23 (by assumption) rfl ?_
      refine x_getfield D_5_saying_78 f_5_123 (by assumption) rfl ?_
      refine x_iload_n D_5_saying_81 rfl ?_
      refine x_iaload D_5_saying_82 (by assumption) (by omega) (by omega) rfl ?_
      refine x_ireturn D_5_saying_83 rfl (by first | rfl | exact nb_bi _ | decide +kernel) rfl ?_
      exact fin _ (by unfold sayingA; rw [if_pos c5, if_neg w11_0, if_neg w11_1, if_neg w11_2, if_pos w11_3])
    by_cases w11_4 : w = 4
    · refine x_tswIn D_5_saying_11 (tgt := 84) (off := 73) ⟨by omega, by omega⟩ (by omega) (by omega) (by rw [w11_4]; decide +kernel) (by omega) ?_
      refine x_aload_n D_5_saying_84 rfl ?_
      refine x_getfield D_5_saying_85 f_5_33 (by assumption) rfl ?_
      refine x_getfield D_5_saying_88 f_5_126 (by assumption) rfl ?_
      refine x_iload_n D_5_saying_91 rfl ?_
      refine x_invS2 (d' := d - 1) D_5_saying_92 l_5_129 mi_5_isIn (c_5_isIn (by omega))  rfl (by omega) rfl (fun q => q) rfl rfl (fun r92 h92 q92 => ?_)
      obtain ⟨rfl, rfl⟩ := q92
      rw [r2]
      refine x_if_eqb D_5_saying_95 (fun c95 => ?_) (fun c95 => ?_)
      · refine x_bipush D_5_saying_110 (by decide +kernel) ?_
        refine x_ireturn D_5_saying_112 rfl (by first | rfl | exact nb_bi _ | decide +kernel) rfl ?_
        refine fin _ ?_
        unfold sayingA
        rw [if_pos c5, if_neg w11_0, if_neg w11_1, if_neg w11_2, if_neg w11_3, if_pos w11_4]
        rcases hs8 s c5.1 c5.2 with q | q
        · first | exact hr s c5.1 c5.2 q.1 | exact absurd q.1 c95
        · first | exact q.2.symm | exact absurd c95 q.1
      refine x_aload_n D_5_saying_98 rfl ?_
      refine x_getfield D_5_saying_99 f_5_33 (by assumption) rfl ?_
      refine x_getfield D_5_saying_102 f_5_133 (by assumption) rfl ?_
      refine x_iload_n D_5_saying_105 rfl ?_
      refine x_iaload D_5_saying_106 (by assumption) (by omega) (by omega) rfl ?_
      refine x_goto D_5_saying_107 ?_
      refine x_ireturn D_5_saying_112 rfl (by first | rfl | exact nb_bi _ | decide +kernel) rfl ?_
      refine fin _ ?_
      unfold sayingA
      rw [if_pos c5, if_neg w11_0, if_neg w11_1, if_neg w11_2, if_neg w11_3, if_pos w11_4]
      rcases hs8 s c5.1 c5.2 with q | q
      · first | exact hr s c5.1 c5.2 q.1 | exact absurd q.1 c95
      · first | exact q.2.symm | exact absurd c95 q.1
    refine x_tswOut D_5_saying_11 (tgt := 113) ⟨by omega, by omega⟩ (by omega) (by omega) ?_
    refine x_iconst D_5_saying_113 ?_
    refine x_ireturn D_5_saying_114 rfl (by first | rfl | exact nb_bi _ | decide +kernel) rfl ?_
    exact fin _ (by unfold sayingA; rw [if_pos c5, if_neg w11_0, if_neg w11_1, if_neg w11_2, if_neg w11_3, if_neg w11_4])
  refine x_iconst D_5_saying_8 ?_
  refine x_ireturn D_5_saying_9 rfl (by first | rfl | exact nb_bi _ | decide +kernel) rfl ?_
  exact fin _ (by unfold sayingA; rw [if_neg c5])
def meltsA (T : TT) (st : SS) (i g : Int) : Int := if (0 ≤ i ∧ i < T 0 0) ∧ 0 ≤ g ∧ g < T 2 0 then T 3 g * st (11 + i) else -1
theorem c_5_melts (hd : 4 ≤ d) (hI : CInv h b len Bt T st u un kc ke) (hbb : b + 1000 ≤ 1000000) {i g : Int} (hi : B3 i) (hg : B3 g) : Ct d m_5_melts [.ref 1, vi i, vi g] z z h (CQ (meltsA T st i g) h (b + 1000) len Bt T st u un kc ke) := by
  refine Ct.of (by decide) ⟨Nat.le_refl _, Nat.le_refl _⟩ (Nat.le_of_ble_eq_true rfl) ?_
  have hI0 := hI
  obtain ⟨lt, dt, E, bf, B, K, ⟨hM, hId, hX, hT, hB, hK, hSc⟩, hE, hk, hln, hBt, hu, ⟨hS, hR⟩, hRu, hRk⟩ := hI
  have hM0 := hM
  unfold Mn at hM0
  obtain ⟨e0, e1, e2, e3, e4⟩ := id hE
  obtain ⟨b0, b1, b2, b3, b4, b5, b6, b7, b8⟩ := id hT
  have k0 := hk.1.1
  have k2 := hk.1.2.1
  have hr := hR.2.2.2.2.2.2.1
  have fin : ∀ v : Int, v = meltsA T st i g → CQ (meltsA T st i g) h (b + 1000) len Bt T st u un kc ke (some (vi v)) h := fun v e => CQ.eq hI0 (by omega) hbb e
  refine x_aload_n D_5_melts_0 rfl ?_
  refine x_iload_n D_5_melts_1 rfl ?_
  refine x_invV (d' := d - 1) D_5_melts_2 l_5_97 mi_5_isPerson (c_5_isPerson (by omega) hM hT hk.1 hi) (by assumption) rfl rfl (by omega) rfl (fun q => q) rfl rfl (fun r2 h2 q2 => ?_)
  obtain ⟨rfl, rfl⟩ := q2
  refine x_if_eqb D_5_melts_5 (fun c5 => ?_) (fun c5 => ?_)
  · refine x_iconst D_5_melts_16 ?_
    refine x_ireturn D_5_melts_17 rfl (by first | rfl | exact nb_bi _ | decide +kernel) rfl ?_
    first | exact fin _ (by unfold meltsA; rw [if_neg (fun q => c5 q.1)]) | exact fin _ (by unfold meltsA; rw [if_neg (fun q => c13 q.2)])
  refine x_aload_n D_5_melts_8 rfl ?_
  refine x_iload_n D_5_melts_9 rfl ?_
  refine x_invV (d' := d - 1) D_5_melts_10 l_5_136 mi_5_isGrain (c_5_isGrain (by omega) hM hT hk.1 hg) (by assumption) rfl rfl (by omega) rfl (fun q => q) rfl rfl (fun r10 h10 q10 => ?_)
  obtain ⟨rfl, rfl⟩ := q10
  refine x_if_neb D_5_melts_13 (fun c13 => ?_) (fun c13 => ?_)
  · refine x_aload_n D_5_melts_18 rfl ?_
    refine x_getfield D_5_melts_19 f_5_23 (by assumption) rfl ?_
    refine x_getfield D_5_melts_22 f_5_139 (by assumption) rfl ?_
    refine x_iload_n D_5_melts_25 rfl ?_
    refine x_iaload D_5_melts_26 (by assumption) (by omega) (by omega) rfl ?_
    refine x_aload_n D_5_melts_27 rfl ?_
    refine x_getfield D_5_melts_28 f_5_33 (by assumption) rfl ?_
    refine x_getfield D_5_melts_31 f_5_101 (by assumption) rfl ?_
    refine x_iload_n D_5_melts_34 rfl ?_
    refine x_iaload D_5_melts_35 (by assumption) (by omega) (by omega) rfl ?_
    refine x_imul D_5_melts_36 ?_
    refine x_ireturn D_5_melts_37 rfl (by first | rfl | exact nb_bi _ | decide +kernel) rfl ?_
    exact fin _ (by unfold meltsA; rw [if_pos ⟨c5, c13⟩, (hr i c5.1 c5.2).1])
  refine x_iconst D_5_melts_16 ?_
  refine x_ireturn D_5_melts_17 rfl (by first | rfl | exact nb_bi _ | decide +kernel) rfl ?_
  first | exact fin _ (by unfold meltsA; rw [if_neg (fun q => c5 q.1)]) | exact fin _ (by unfold meltsA; rw [if_neg (fun q => c13 q.2)])
def passA (st : SS) (n : Int) : Int := if 1 ≤ n ∧ n ≤ 600 then (if st 0 + n ≤ 9999 then st 0 + n else -2) else -1
theorem c_5_pass (hd : 4 ≤ d) (hI : CInv h b len Bt T st u un kc ke) (hbb : b + 1000 ≤ 1000000) {n : Int} (hn : B3 n) : Ct d m_5_pass [.ref 1, vi n] z z h (CQ (passA st n) h (b + 1000) len Bt T (if (1 ≤ n ∧ n ≤ 600) ∧ st 0 + n ≤ 9999 then passS st n else st) (if (1 ≤ n ∧ n ≤ 600) ∧ st 0 + n ≤ 9999 then rmU u else u) (if (1 ≤ n ∧ n ≤ 600) ∧ st 0 + n ≤ 9999 then rmF u un st else un) kc ke) := by
  refine Ct.of (by decide) ⟨Nat.le_refl _, Nat.le_refl _⟩ (Nat.le_of_ble_eq_true rfl) ?_
  have hI0 := hI
  obtain ⟨lt, dt, E, bf, B, K, hP, hE, hk, hln, hBt, hu, hS, hRu, hRk⟩ := hI
  obtain ⟨hM, hId, hX, hT, hB, hK, hSc⟩ := id hP
  have hM0 := hM
  unfold Mn at hM0
  obtain ⟨e0, e1, e2, e3, e4⟩ := id hE
  have hs0 := hS.1.1
  have r0 := hS.2.1
  by_cases hc : (1 ≤ n ∧ n ≤ 600) ∧ st 0 + n ≤ 9999
  · rw [if_pos hc, if_pos hc, if_pos hc]
    have hv : passA st n = st 0 + n := by unfold passA; rw [if_pos hc.1, if_pos hc.2]
    rw [hv]
    obtain ⟨p1, p2⟩ := pass_ok hS.1 hS.2 hc.1
    refine x_iload_n D_5_pass_0 rfl ?_
    refine x_iconst D_5_pass_1 ?_
    refine x_icmp_lt D_5_pass_2 ⟨by omega, by omega⟩ ⟨by omega, by omega⟩ (fun c2 => ?_) (fun c2 => ?_)
    · exact absurd c2 (by omega)
    refine x_iload_n D_5_pass_5 rfl ?_
    refine x_sipush D_5_pass_6 (by decide +kernel) ?_
    refine x_icmp_le D_5_pass_9 ⟨by omega, by omega⟩ ⟨by omega, by omega⟩ (fun c9 => ?_) (fun c9 => ?_)
    · refine x_aload_n D_5_pass_14 rfl ?_
      refine x_getfield D_5_pass_15 f_5_33 (by assumption) rfl ?_
      refine x_getfield D_5_pass_18 f_5_146 (by assumption) rfl ?_
      refine x_iload_n D_5_pass_21 rfl ?_
      rw [r0]
      refine x_iadd D_5_pass_22 ?_
      refine x_sipush D_5_pass_23 (by decide +kernel) ?_
      refine x_icmp_le D_5_pass_26 ⟨by omega, by omega⟩ ⟨by omega, by omega⟩ (fun c26 => ?_) (fun c26 => ?_)
      · refine x_aload_n D_5_pass_32 rfl ?_
        refine x_invV (d' := d - 1) D_5_pass_33 l_5_152 mi_5_remember (c_5_remember (by omega) hM hE hB hu.1) (hM0) rfl rfl (by omega) rfl (fun q => q) rfl rfl (fun r33 h33 q33 => ?_)
        obtain ⟨rfl, g1, ⟨bf', B', g2, g3⟩, g4⟩ := q33
        have hP2 := after_rem hP g1 g2 g4
        unfold Mn at g1
        have e0 := (g4 23 (by omega)).trans e0
        have e1 := (g4 24 (by omega)).trans e1
        have e2 := (g4 25 (by omega)).trans e2
        have e3 := (g4 26 (by omega)).trans e3
        have e4 := (g4 27 (by omega)).trans e4
        have hfr : ∀ q : Nat, (q < 23 ∨ 27 < q) → h33 q = h33 q := fun _ _ => rfl
        refine x_aload_n D_5_pass_36 rfl ?_
        refine x_getfield D_5_pass_37 f_5_33 (by assumption) rfl ?_
        refine x_dup D_5_pass_40 rfl ?_
        refine x_getfield D_5_pass_41 f_5_146 (by assumption) rfl ?_
        refine x_iload_n D_5_pass_44 rfl ?_
        rw [r0]
        refine x_iadd D_5_pass_45 ?_
        refine x_putI D_5_pass_46 f_5_146 (by assumption) (by decide +kernel) rfl (fun h46 e46 n46 => ?_)
        simp only [List.set_cons_zero, List.set_cons_succ] at e46
        first | (replace g1 := (n46 _ (by omega)).trans g1) | (replace g1 := e46)
        first | (replace e0 := (n46 _ (by omega)).trans e0) | (replace e0 := e46)
        first | (replace e1 := (n46 _ (by omega)).trans e1) | (replace e1 := e46)
        first | (replace e2 := (n46 _ (by omega)).trans e2) | (replace e2 := e46)
        first | (replace e3 := (n46 _ (by omega)).trans e3) | (replace e3 := e46)
        first | (replace e4 := (n46 _ (by omega)).trans e4) | (replace e4 := e46)
        replace hfr := fun q hq => (n46 q (by omega)).trans (hfr q hq)
        refine x_aload_n D_5_pass_49 rfl ?_
        refine x_getfield D_5_pass_50 f_5_33 (by assumption) rfl ?_
        refine x_getfield D_5_pass_53 f_5_146 (by assumption) rfl ?_
        refine x_ireturn D_5_pass_56 rfl (by first | rfl | exact nb_bi _ | decide +kernel) rfl ?_
        exact ⟨rfl, ⟨lt, dt, mkE (st 0 + n) (E 1 0) (E 2 0) (E 3 0) (E 4 0) (E 5 0) (E 6) (E 7) (E 8) (E 9), bf', B', K, hP2.now hfr, ⟨e0, e1, e2, e3, e4⟩, hk, hln, hBt, ⟨rmU_le hu.1, hu.2.1, by omega, by omega⟩, ⟨p1, p2⟩, rem_ok hu.1 hRu hS (by omega) g3, hRk.mono (by omega)⟩, fun q hq => (hfr q (by omega)).trans (g4 q (by omega))⟩
      exact absurd c26 (by omega)
    exact absurd c9 (by omega)
  · rw [if_neg hc, if_neg hc, if_neg hc]
    refine x_iload_n D_5_pass_0 rfl ?_
    refine x_iconst D_5_pass_1 ?_
    refine x_icmp_lt D_5_pass_2 hn ⟨by omega, by omega⟩ (fun c2 => ?_) (fun c2 => ?_)
    · refine x_iconst D_5_pass_12 ?_
      refine x_ireturn D_5_pass_13 rfl (by first | rfl | exact nb_bi _ | decide +kernel) rfl ?_
      exact CQ.eq hI0 (by omega) hbb (by unfold passA; rw [if_neg (by omega)])
    refine x_iload_n D_5_pass_5 rfl ?_
    refine x_sipush D_5_pass_6 (by decide +kernel) ?_
    refine x_icmp_le D_5_pass_9 hn ⟨by omega, by omega⟩ (fun c9 => ?_) (fun c9 => ?_)
    · refine x_aload_n D_5_pass_14 rfl ?_
      refine x_getfield D_5_pass_15 f_5_33 (by assumption) rfl ?_
      refine x_getfield D_5_pass_18 f_5_146 (by assumption) rfl ?_
      refine x_iload_n D_5_pass_21 rfl ?_
      rw [r0]
      refine x_iadd D_5_pass_22 ?_
      refine x_sipush D_5_pass_23 (by decide +kernel) ?_
      refine x_icmp_le D_5_pass_26 ⟨by omega, by omega⟩ ⟨by omega, by omega⟩ (fun c26 => ?_) (fun c26 => ?_)
      · exact absurd ⟨⟨by omega, by omega⟩, by omega⟩ hc
      refine x_bipush D_5_pass_29 (by decide +kernel) ?_
      refine x_ireturn D_5_pass_31 rfl (by first | rfl | exact nb_bi _ | decide +kernel) rfl ?_
      exact CQ.eq hI0 (by omega) hbb (by unfold passA; rw [if_pos (by omega), if_neg (by omega)])
    refine x_iconst D_5_pass_12 ?_
    refine x_ireturn D_5_pass_13 rfl (by first | rfl | exact nb_bi _ | decide +kernel) rfl ?_
    exact CQ.eq hI0 (by omega) hbb (by unfold passA; rw [if_neg (by omega)])
end CM
