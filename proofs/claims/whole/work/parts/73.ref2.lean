section R2
variable {d : Nat} {z : Nat × Nat} {h : Hp} {b len : Int} {Bt : Int → Int} {T : TT} {st : SS} {u : Nat} {un : Nat → SS} {kc : Nat} {ke : Nat → SS}
theorem r_person (hd : 4 ≤ d) (hI : RInv h len Bt T st u un kc ke) (hG : Glob b len Bt T st u un kc ke) {i w : Int} (hi : B3 i) (hw : B3 w) : Ct d m_6_person [.ref 102, vi i, vi w] z z h (RQ (personA T st i w) h len Bt T st u un kc ke) := by
  refine Ct.of (by decide) ⟨Nat.le_refl _, Nat.le_refl _⟩ (Nat.le_of_ble_eq_true rfl) ?_
  have hI0 := hI
  obtain ⟨U, hm, hF⟩ := hI
  obtain ⟨⟨hk, k00, k22⟩, hln, hBt, hu, hS⟩ := hG
  obtain ⟨⟨t0, t1, t2, t3, t4⟩, -⟩ := hF.tab
  have hst := hF.2.1
  have k0 := hk.1
  have hs6 := hS.2.2.2.2.2.2.1
  refine x_aload_n D_6_person_0 rfl ?_
  refine x_iload_n D_6_person_1 rfl ?_
  refine x_invV (d' := d - 1) D_6_person_2 l_6_181 mi_6_isPerson (c_6_isPerson (by omega) hm hk t0 hi) (md_o hm) rfl rfl (by omega) rfl (fun q => q) rfl rfl (fun r2 h2 q2 => ?_)
  obtain ⟨rfl, rfl⟩ := q2
  refine x_if_eqb D_6_person_5 (fun c5 => ?_) (fun c5 => ?_)
  · refine x_iconst D_6_person_17 ?_
    refine x_ireturn D_6_person_18 rfl (by first | rfl | exact nb_bi _ | decide +kernel) rfl ?_
    first
    | exact RQ.same hI0 (by unfold personA; rw [if_neg c5])
    | exact RQ.same hI0 (by unfold personA; rw [if_pos c5, if_neg (by omega), if_neg (by omega), if_neg (by omega)])
  refine x_iload_n D_6_person_8 rfl ?_
  refine x_iconst D_6_person_9 ?_
  refine x_iconst D_6_person_10 ?_
  refine x_invS2 (d' := d - 1) D_6_person_11 l_6_111 mi_6_in (c_6_in (by omega) hw ⟨by omega, by omega⟩ ⟨by omega, by omega⟩)  rfl (by omega) rfl (fun q => q) rfl rfl (fun r11 h11 q11 => ?_)
  obtain ⟨rfl, rfl⟩ := q11
  refine x_if_neb D_6_person_14 (fun c14 => ?_) (fun c14 => ?_)
  · refine x_iload_n D_6_person_19 rfl ?_
    refine x_if_ne D_6_person_20 ⟨by omega, by omega⟩ (fun c20 => ?_) (fun c20 => ?_)
    · refine x_iload_n D_6_person_35 rfl ?_
      refine x_iconst D_6_person_36 ?_
      refine x_icmp_ne D_6_person_37 ⟨by omega, by omega⟩ ⟨by omega, by omega⟩ (fun c37 => ?_) (fun c37 => ?_)
      · refine x_aload_n D_6_person_48 rfl ?_
        refine x_getfield D_6_person_49 f_6_34 (md_o hm) rfl ?_
        refine x_bipush D_6_person_52 (by decide +kernel) ?_
        refine x_iload_n D_6_person_54 rfl ?_
        refine x_iadd D_6_person_55 ?_
        refine x_iaload D_6_person_56 (md_a13 hm) (by omega) (by omega) rfl ?_
        rw [hst]
        refine x_ireturn D_6_person_57 rfl (by first | rfl | exact nb_bi _ | decide +kernel) rfl ?_
        first
        | (exfalso; omega)
        | exact RQ.same hI0 (by unfold personA; rw [if_pos c5, if_pos (by omega)])
        | exact RQ.same hI0 (by unfold personA; rw [if_pos c5, if_neg (by omega), if_pos (by omega)])
        | exact RQ.same hI0 (by unfold personA; rw [if_pos c5, if_neg (by omega), if_neg (by omega), if_pos (by omega)])
      refine x_aload_n D_6_person_40 rfl ?_
      refine x_iload_n D_6_person_41 rfl ?_
      refine x_invV (d' := d - 1) D_6_person_42 l_6_185 mi_6_shareOf (c_6_shareOf (by omega) hm hF hk hi) (md_o hm) rfl rfl (by omega) rfl (fun q => q) rfl rfl (fun r42 h42 q42 => ?_)
      obtain ⟨rfl, rfl⟩ := q42
      refine x_goto D_6_person_45 ?_
      refine x_ireturn D_6_person_57 rfl (by first | rfl | exact nb_bi _ | decide +kernel) rfl ?_
      first
      | (exfalso; omega)
      | exact RQ.same hI0 (by unfold personA; rw [if_pos c5, if_pos (by omega)])
      | exact RQ.same hI0 (by unfold personA; rw [if_pos c5, if_neg (by omega), if_pos (by omega)])
      | exact RQ.same hI0 (by unfold personA; rw [if_pos c5, if_neg (by omega), if_neg (by omega), if_pos (by omega)])
    refine x_aload_n D_6_person_23 rfl ?_
    refine x_getfield D_6_person_24 f_6_34 (md_o hm) rfl ?_
    refine x_bipush D_6_person_27 (by decide +kernel) ?_
    refine x_iload_n D_6_person_29 rfl ?_
    refine x_iadd D_6_person_30 ?_
    refine x_iaload D_6_person_31 (md_a13 hm) (by omega) (by omega) rfl ?_
    rw [hst]
    refine x_goto D_6_person_32 ?_
    refine x_ireturn D_6_person_57 rfl (by first | rfl | exact nb_bi _ | decide +kernel) rfl ?_
    first
    | (exfalso; omega)
    | exact RQ.same hI0 (by unfold personA; rw [if_pos c5, if_pos (by omega)])
    | exact RQ.same hI0 (by unfold personA; rw [if_pos c5, if_neg (by omega), if_pos (by omega)])
    | exact RQ.same hI0 (by unfold personA; rw [if_pos c5, if_neg (by omega), if_neg (by omega), if_pos (by omega)])
  refine x_iconst D_6_person_17 ?_
  refine x_ireturn D_6_person_18 rfl (by first | rfl | exact nb_bi _ | decide +kernel) rfl ?_
  first
  | exact RQ.same hI0 (by unfold personA; rw [if_neg c5])
  | exact RQ.same hI0 (by unfold personA; rw [if_pos c5, if_neg (by omega), if_neg (by omega), if_neg (by omega)])
theorem r_saying (hd : 4 ≤ d) (hI : RInv h len Bt T st u un kc ke) (hG : Glob b len Bt T st u un kc ke) {s w : Int} (hs : B3 s) (hw : B3 w) : Ct d m_6_saying [.ref 102, vi s, vi w] z z h (RQ (sayingA T st s w) h len Bt T st u un kc ke) := by
  refine Ct.of (by decide) ⟨Nat.le_refl _, Nat.le_refl _⟩ (Nat.le_of_ble_eq_true rfl) ?_
  have hI0 := hI
  obtain ⟨U, hm, hF⟩ := hI
  obtain ⟨⟨hk, k00, k22⟩, hln, hBt, hu, hS⟩ := hG
  obtain ⟨⟨t0, t1, t2, t3, t4⟩, t5, t6, t7, t8, t9, t10, -⟩ := hF.tab
  have hst := hF.2.1
  have k4 := hk.2.2.1
  refine x_aload_n D_6_saying_0 rfl ?_
  refine x_iload_n D_6_saying_1 rfl ?_
  refine x_invV (d' := d - 1) D_6_saying_2 l_6_188 mi_6_isSaying (c_6_isSaying (by omega) hm hk t2 hs) (md_o hm) rfl rfl (by omega) rfl (fun q => q) rfl rfl (fun r2 h2 q2 => ?_)
  obtain ⟨rfl, rfl⟩ := q2
  refine x_if_eqb D_6_saying_5 (fun c5 => ?_) (fun c5 => ?_)
  · refine x_iconst D_6_saying_17 ?_
    refine x_ireturn D_6_saying_18 rfl (by first | rfl | exact nb_bi _ | decide +kernel) rfl ?_
    first
    | exact RQ.same hI0 (by unfold sayingA; rw [if_neg c5])
    | exact RQ.same hI0 (by unfold sayingA; rw [if_pos c5, if_neg (by omega), if_neg (by omega), if_neg (by omega), if_neg (by omega), if_neg (by omega)])
  refine x_iload_n D_6_saying_8 rfl ?_
  refine x_iconst D_6_saying_9 ?_
  refine x_iconst D_6_saying_10 ?_
  refine x_invS2 (d' := d - 1) D_6_saying_11 l_6_111 mi_6_in (c_6_in (by omega) hw ⟨by omega, by omega⟩ ⟨by omega, by omega⟩)  rfl (by omega) rfl (fun q => q) rfl rfl (fun r11 h11 q11 => ?_)
  obtain ⟨rfl, rfl⟩ := q11
  refine x_if_neb D_6_saying_14 (fun c14 => ?_) (fun c14 => ?_)
  · refine x_iload_n D_6_saying_19 rfl ?_
    by_cases w20_0 : w = 0
    · refine x_tswIn D_6_saying_20 (tgt := 52) (off := 32) ⟨by omega, by omega⟩ (by omega) (by omega) (by rw [w20_0]; decide +kernel) (by omega) ?_
      refine x_aload_n D_6_saying_52 rfl ?_
      refine x_getfield D_6_saying_53 f_6_16 (md_o hm) rfl ?_
      refine x_iload_n D_6_saying_56 rfl ?_
      refine x_iaload D_6_saying_57 (md_a7 hm) (by omega) (by omega) rfl ?_
      rw [t7 _ c5.1 c5.2]
      refine x_ireturn D_6_saying_58 rfl (by first | rfl | exact nb_bi _ | decide +kernel) rfl ?_
      exact RQ.same hI0 (by unfold sayingA; rw [if_pos c5, if_pos w20_0])
    by_cases w20_1 : w = 1
    · refine x_tswIn D_6_saying_20 (tgt := 59) (off := 39) ⟨by omega, by omega⟩ (by omega) (by omega) (by rw [w20_1]; decide +kernel) (by omega) ?_
      refine x_aload_n D_6_saying_59 rfl ?_
      refine x_getfield D_6_saying_60 f_6_19 (md_o hm) rfl ?_
      refine x_iload_n D_6_saying_63 rfl ?_
      refine x_iaload D_6_saying_64 (md_a8 hm) (by omega) (by omega) rfl ?_
      rw [t8 _ c5.1 c5.2]
      refine x_ireturn D_6_saying_65 rfl (by first | rfl | exact nb_bi _ | decide +kernel) rfl ?_
      exact RQ.same hI0 (by unfold sayingA; rw [if_pos c5, if_neg w20_0, if_pos w20_1])
    by_cases w20_2 : w = 2
    · refine x_tswIn D_6_saying_20 (tgt := 66) (off := 46) ⟨by omega, by omega⟩ (by omega) (by omega) (by rw [w20_2]; decide +kernel) (by omega) ?_
      refine x_aload_n D_6_saying_66 rfl ?_
      refine x_getfield D_6_saying_67 f_6_22 (md_o hm) rfl ?_
      refine x_iload_n D_6_saying_70 rfl ?_
      refine x_iaload D_6_saying_71 (md_a9 hm) (by omega) (by omega) rfl ?_
      rw [t9 _ c5.1 c5.2]
      refine x_ireturn D_6_saying_72 rfl (by first | rfl | exact nb_bi _ | decide +kernel) rfl ?_
      exact RQ.same hI0 (by unfold sayingA; rw [if_pos c5, if_neg w20_0, if_neg w20_1, if_pos w20_2])
    by_cases w20_3 : w = 3
    · refine x_tswIn D_6_saying_20 (tgt := 73) (off := 53) ⟨by omega, by omega⟩ (by omega) (by omega) (by rw [w20_3]; decide +kernel) (by omega) ?_
      refine x_aload_n D_6_saying_73 rfl ?_
      refine x_getfield D_6_saying_74 f_6_25 (md_o hm) rfl ?_
      refine x_iload_n D_6_saying_77 rfl ?_
      refine x_iaload D_6_saying_78 (md_a10 hm) (by omega) (by omega) rfl ?_
      rw [t10 _ c5.1 c5.2]
      refine x_ireturn D_6_saying_79 rfl (by first | rfl | exact nb_bi _ | decide +kernel) rfl ?_
      exact RQ.same hI0 (by unfold sayingA; rw [if_pos c5, if_neg w20_0, if_neg w20_1, if_neg w20_2, if_pos w20_3])
    refine x_tswOut D_6_saying_20 (tgt := 80) ⟨by omega, by omega⟩ (by omega) (by omega) ?_
    refine x_aload_n D_6_saying_80 rfl ?_
    refine x_getfield D_6_saying_81 f_6_34 (md_o hm) rfl ?_
    refine x_bipush D_6_saying_84 (by decide +kernel) ?_
    refine x_iload_n D_6_saying_86 rfl ?_
    refine x_iadd D_6_saying_87 ?_
    refine x_iaload D_6_saying_88 (md_a13 hm) (by omega) (by omega) rfl ?_
    rw [hst]
    refine x_ireturn D_6_saying_89 rfl (by first | rfl | exact nb_bi _ | decide +kernel) rfl ?_
    exact RQ.same hI0 (by unfold sayingA; rw [if_pos c5, if_neg w20_0, if_neg w20_1, if_neg w20_2, if_neg w20_3, if_pos (by omega)])
  refine x_iconst D_6_saying_17 ?_
  refine x_ireturn D_6_saying_18 rfl (by first | rfl | exact nb_bi _ | decide +kernel) rfl ?_
  first
  | exact RQ.same hI0 (by unfold sayingA; rw [if_neg c5])
  | exact RQ.same hI0 (by unfold sayingA; rw [if_pos c5, if_neg (by omega), if_neg (by omega), if_neg (by omega), if_neg (by omega), if_neg (by omega)])
theorem r_melts (hd : 4 ≤ d) (hI : RInv h len Bt T st u un kc ke) (hG : Glob b len Bt T st u un kc ke) {i g : Int} (hi : B3 i) (hg : B3 g) : Ct d m_6_melts [.ref 102, vi i, vi g] z z h (RQ (meltsA T st i g) h len Bt T st u un kc ke) := by
  refine Ct.of (by decide) ⟨Nat.le_refl _, Nat.le_refl _⟩ (Nat.le_of_ble_eq_true rfl) ?_
  have hI0 := hI
  obtain ⟨U, hm, hF⟩ := hI
  obtain ⟨⟨hk, k00, k22⟩, hln, hBt, hu, hS⟩ := hG
  obtain ⟨⟨t0, t1, t2, t3, t4⟩, t5, t6, -⟩ := hF.tab
  have hst := hF.2.1
  have k0 := hk.1
  have k2 := hk.2.1
  refine x_aload_n D_6_melts_0 rfl ?_
  refine x_iload_n D_6_melts_1 rfl ?_
  refine x_invV (d' := d - 1) D_6_melts_2 l_6_181 mi_6_isPerson (c_6_isPerson (by omega) hm hk t0 hi) (md_o hm) rfl rfl (by omega) rfl (fun q => q) rfl rfl (fun r2 h2 q2 => ?_)
  obtain ⟨rfl, rfl⟩ := q2
  refine x_if_eqb D_6_melts_5 (fun c5 => ?_) (fun c5 => ?_)
  · refine x_iconst D_6_melts_35 ?_
    refine x_ireturn D_6_melts_36 rfl (by first | rfl | exact nb_bi _ | decide +kernel) rfl ?_
    first
    | exact RQ.same hI0 (by unfold meltsA; rw [if_neg (fun q => c5 q.1)])
    | exact RQ.same hI0 (by unfold meltsA; rw [if_neg (fun q => c13 q.2)])
    | exact RQ.same hI0 (by unfold meltsA; rw [if_pos ⟨c5, c13⟩])
  refine x_aload_n D_6_melts_8 rfl ?_
  refine x_iload_n D_6_melts_9 rfl ?_
  refine x_invV (d' := d - 1) D_6_melts_10 l_6_191 mi_6_isGrain (c_6_isGrain (by omega) hm hk t1 hg) (md_o hm) rfl rfl (by omega) rfl (fun q => q) rfl rfl (fun r10 h10 q10 => ?_)
  obtain ⟨rfl, rfl⟩ := q10
  refine x_if_eqb D_6_melts_13 (fun c13 => ?_) (fun c13 => ?_)
  · refine x_iconst D_6_melts_35 ?_
    refine x_ireturn D_6_melts_36 rfl (by first | rfl | exact nb_bi _ | decide +kernel) rfl ?_
    first
    | exact RQ.same hI0 (by unfold meltsA; rw [if_neg (fun q => c5 q.1)])
    | exact RQ.same hI0 (by unfold meltsA; rw [if_neg (fun q => c13 q.2)])
    | exact RQ.same hI0 (by unfold meltsA; rw [if_pos ⟨c5, c13⟩])
  refine x_aload_n D_6_melts_16 rfl ?_
  refine x_getfield D_6_melts_17 f_6_13 (md_o hm) rfl ?_
  refine x_iload_n D_6_melts_20 rfl ?_
  refine x_iaload D_6_melts_21 (md_a6 hm) (by omega) (by omega) rfl ?_
  rw [t6 _ c13.1 c13.2]
  refine x_aload_n D_6_melts_22 rfl ?_
  refine x_getfield D_6_melts_23 f_6_34 (md_o hm) rfl ?_
  refine x_bipush D_6_melts_26 (by decide +kernel) ?_
  refine x_iload_n D_6_melts_28 rfl ?_
  refine x_iadd D_6_melts_29 ?_
  refine x_iaload D_6_melts_30 (md_a13 hm) (by omega) (by omega) rfl ?_
  rw [hst]
  refine x_imul D_6_melts_31 ?_
  refine x_goto D_6_melts_32 ?_
  refine x_ireturn D_6_melts_36 rfl (by first | rfl | exact nb_bi _ | decide +kernel) rfl ?_
  first
  | exact RQ.same hI0 (by unfold meltsA; rw [if_neg (fun q => c5 q.1)])
  | exact RQ.same hI0 (by unfold meltsA; rw [if_neg (fun q => c13 q.2)])
  | exact RQ.same hI0 (by unfold meltsA; rw [if_pos ⟨c5, c13⟩])
theorem r_count (hd : 4 ≤ d) (hI : RInv h len Bt T st u un kc ke) (hG : Glob b len Bt T st u un kc ke) {w : Int} (hw : B3 w) : Ct d m_6_count [.ref 102, vi w] z z h (RQ (countA T st len u kc w) h len Bt T st u un kc ke) := by
  refine Ct.of (by decide) ⟨Nat.le_refl _, Nat.le_refl _⟩ (Nat.le_of_ble_eq_true rfl) ?_
  have hI0 := hI
  obtain ⟨U, hm, hF⟩ := hI
  obtain ⟨⟨t0, t1, t2, t3, t4⟩, -⟩ := hF.tab
  have hst := hF.2.1
  obtain ⟨x15, x17, x19⟩ := hF.2.2.1
  refine x_iload_n D_6_count_0 rfl ?_
  by_cases w1_0 : w = 0
  · refine x_tswIn D_6_count_1 (tgt := 60) (off := 59) ⟨by omega, by omega⟩ (by omega) (by omega) (by rw [w1_0]; decide +kernel) (by omega) ?_
    refine x_aload_n D_6_count_60 rfl ?_
    refine x_getfield D_6_count_61 f_6_108 (md_o hm) rfl ?_
    refine x_ireturn D_6_count_64 rfl (by first | rfl | exact nb_bi _ | decide +kernel) rfl ?_
    exact RQ.same hI0 (by unfold countA; rw [if_pos w1_0, t0])
  by_cases w1_1 : w = 1
  · refine x_tswIn D_6_count_1 (tgt := 65) (off := 64) ⟨by omega, by omega⟩ (by omega) (by omega) (by rw [w1_1]; decide +kernel) (by omega) ?_
    refine x_aload_n D_6_count_65 rfl ?_
    refine x_getfield D_6_count_66 f_6_115 (md_o hm) rfl ?_
    refine x_ireturn D_6_count_69 rfl (by first | rfl | exact nb_bi _ | decide +kernel) rfl ?_
    exact RQ.same hI0 (by unfold countA; rw [if_neg w1_0, if_pos w1_1, t1])
  by_cases w1_2 : w = 2
  · refine x_tswIn D_6_count_1 (tgt := 70) (off := 69) ⟨by omega, by omega⟩ (by omega) (by omega) (by rw [w1_2]; decide +kernel) (by omega) ?_
    refine x_aload_n D_6_count_70 rfl ?_
    refine x_getfield D_6_count_71 f_6_118 (md_o hm) rfl ?_
    refine x_ireturn D_6_count_74 rfl (by first | rfl | exact nb_bi _ | decide +kernel) rfl ?_
    exact RQ.same hI0 (by unfold countA; rw [if_neg w1_0, if_neg w1_1, if_pos w1_2, t2])
  by_cases w1_3 : w = 3
  · refine x_tswIn D_6_count_1 (tgt := 75) (off := 74) ⟨by omega, by omega⟩ (by omega) (by omega) (by rw [w1_3]; decide +kernel) (by omega) ?_
    refine x_aload_n D_6_count_75 rfl ?_
    refine x_getfield D_6_count_76 f_6_165 (md_o hm) rfl ?_
    refine x_ireturn D_6_count_79 rfl (by first | rfl | exact nb_bi _ | decide +kernel) rfl ?_
    exact RQ.same hI0 (by unfold countA; rw [if_neg w1_0, if_neg w1_1, if_neg w1_2, if_pos w1_3, t3])
  by_cases w1_4 : w = 4
  · refine x_tswIn D_6_count_1 (tgt := 80) (off := 79) ⟨by omega, by omega⟩ (by omega) (by omega) (by rw [w1_4]; decide +kernel) (by omega) ?_
    refine x_aload_n D_6_count_80 rfl ?_
    refine x_getfield D_6_count_81 f_6_34 (md_o hm) rfl ?_
    refine x_iconst D_6_count_84 ?_
    refine x_iaload D_6_count_85 (md_a13 hm) (by omega) (by omega) rfl ?_
    rw [hst]
    refine x_ireturn D_6_count_86 rfl (by first | rfl | exact nb_bi _ | decide +kernel) rfl ?_
    exact RQ.same hI0 (by unfold countA; rw [if_neg w1_0, if_neg w1_1, if_neg w1_2, if_neg w1_3, if_pos w1_4])
  by_cases w1_5 : w = 5
  · refine x_tswIn D_6_count_1 (tgt := 87) (off := 86) ⟨by omega, by omega⟩ (by omega) (by omega) (by rw [w1_5]; decide +kernel) (by omega) ?_
    refine x_aload_n D_6_count_87 rfl ?_
    refine x_getfield D_6_count_88 f_6_34 (md_o hm) rfl ?_
    refine x_iconst D_6_count_91 ?_
    refine x_iaload D_6_count_92 (md_a13 hm) (by omega) (by omega) rfl ?_
    rw [hst]
    refine x_ireturn D_6_count_93 rfl (by first | rfl | exact nb_bi _ | decide +kernel) rfl ?_
    exact RQ.same hI0 (by unfold countA; rw [if_neg w1_0, if_neg w1_1, if_neg w1_2, if_neg w1_3, if_neg w1_4, if_pos w1_5])
  by_cases w1_6 : w = 6
  · refine x_tswIn D_6_count_1 (tgt := 94) (off := 93) ⟨by omega, by omega⟩ (by omega) (by omega) (by rw [w1_6]; decide +kernel) (by omega) ?_
    refine x_aload_n D_6_count_94 rfl ?_
    refine x_getfield D_6_count_95 f_6_34 (md_o hm) rfl ?_
    refine x_iconst D_6_count_98 ?_
    refine x_iaload D_6_count_99 (md_a13 hm) (by omega) (by omega) rfl ?_
    rw [hst]
    refine x_ireturn D_6_count_100 rfl (by first | rfl | exact nb_bi _ | decide +kernel) rfl ?_
    exact RQ.same hI0 (by unfold countA; rw [if_neg w1_0, if_neg w1_1, if_neg w1_2, if_neg w1_3, if_neg w1_4, if_neg w1_5, if_pos w1_6])
  by_cases w1_7 : w = 7
  · refine x_tswIn D_6_count_1 (tgt := 101) (off := 100) ⟨by omega, by omega⟩ (by omega) (by omega) (by rw [w1_7]; decide +kernel) (by omega) ?_
    refine x_aload_n D_6_count_101 rfl ?_
    refine x_getfield D_6_count_102 f_6_34 (md_o hm) rfl ?_
    refine x_iconst D_6_count_105 ?_
    refine x_iaload D_6_count_106 (md_a13 hm) (by omega) (by omega) rfl ?_
    rw [hst]
    refine x_ireturn D_6_count_107 rfl (by first | rfl | exact nb_bi _ | decide +kernel) rfl ?_
    exact RQ.same hI0 (by unfold countA; rw [if_neg w1_0, if_neg w1_1, if_neg w1_2, if_neg w1_3, if_neg w1_4, if_neg w1_5, if_neg w1_6, if_pos w1_7])
  by_cases w1_8 : w = 8
  · refine x_tswIn D_6_count_1 (tgt := 108) (off := 107) ⟨by omega, by omega⟩ (by omega) (by omega) (by rw [w1_8]; decide +kernel) (by omega) ?_
    refine x_aload_n D_6_count_108 rfl ?_
    refine x_getfield D_6_count_109 f_6_171 (md_o hm) rfl ?_
    refine x_ireturn D_6_count_112 rfl (by first | rfl | exact nb_bi _ | decide +kernel) rfl ?_
    exact RQ.same hI0 (by unfold countA; rw [if_neg w1_0, if_neg w1_1, if_neg w1_2, if_neg w1_3, if_neg w1_4, if_neg w1_5, if_neg w1_6, if_neg w1_7, if_pos w1_8, x15])
  by_cases w1_9 : w = 9
  · refine x_tswIn D_6_count_1 (tgt := 113) (off := 112) ⟨by omega, by omega⟩ (by omega) (by omega) (by rw [w1_9]; decide +kernel) (by omega) ?_
    refine x_aload_n D_6_count_113 rfl ?_
    refine x_getfield D_6_count_114 f_6_174 (md_o hm) rfl ?_
    refine x_ireturn D_6_count_117 rfl (by first | rfl | exact nb_bi _ | decide +kernel) rfl ?_
    exact RQ.same hI0 (by unfold countA; rw [if_neg w1_0, if_neg w1_1, if_neg w1_2, if_neg w1_3, if_neg w1_4, if_neg w1_5, if_neg w1_6, if_neg w1_7, if_neg w1_8, if_pos w1_9, x17])
  by_cases w1_10 : w = 10
  · refine x_tswIn D_6_count_1 (tgt := 118) (off := 117) ⟨by omega, by omega⟩ (by omega) (by omega) (by rw [w1_10]; decide +kernel) (by omega) ?_
    refine x_aload_n D_6_count_118 rfl ?_
    refine x_getfield D_6_count_119 f_6_121 (md_o hm) rfl ?_
    refine x_ireturn D_6_count_122 rfl (by first | rfl | exact nb_bi _ | decide +kernel) rfl ?_
    exact RQ.same hI0 (by unfold countA; rw [if_neg w1_0, if_neg w1_1, if_neg w1_2, if_neg w1_3, if_neg w1_4, if_neg w1_5, if_neg w1_6, if_neg w1_7, if_neg w1_8, if_neg w1_9, if_pos w1_10, x19])
  refine x_tswOut D_6_count_1 (tgt := 123) ⟨by omega, by omega⟩ (by omega) (by omega) ?_
  refine x_iconst D_6_count_123 ?_
  refine x_ireturn D_6_count_124 rfl (by first | rfl | exact nb_bi _ | decide +kernel) rfl ?_
  exact RQ.same hI0 (by unfold countA; rw [if_neg w1_0, if_neg w1_1, if_neg w1_2, if_neg w1_3, if_neg w1_4, if_neg w1_5, if_neg w1_6, if_neg w1_7, if_neg w1_8, if_neg w1_9, if_neg w1_10])
/-- the table's fields untouched, the table still tells the same -/
theorem tbU_same {U V : TT} (h : ∀ a : Nat, a < 13 → V a = U a) : tbU V = tbU U := by
  funext a
  match a with
  | 0 => exact h 0 (by omega)
  | 1 => exact h 5 (by omega)
  | 2 => exact h 1 (by omega)
  | 3 => exact h 6 (by omega)
  | 4 => exact h 2 (by omega)
  | 5 => exact h 7 (by omega)
  | 6 => exact h 8 (by omega)
  | 7 => exact h 9 (by omega)
  | 8 => exact h 10 (by omega)
  | 9 => exact h 3 (by omega)
  | 10 => exact h 11 (by omega)
  | 11 => exact h 12 (by omega)
  | 12 => exact h 4 (by omega)
  | n + 13 => rfl
/-- another array at its place, the same where it is read -/
theorem md_reb {h : Hp} {U : TT} {G : Int → Int} (H : MdAt h U) (hg : ∀ k : Int, 0 ≤ k → k < 23 → U 13 k = G k) : MdAt h (upr U 13 G) := by
  have e : h 111 = some (ia 0 23 G) := (md_a13 H).trans (congrArg some (ia_ext hg))
  obtain ⟨o, a5, a6, a7, a8, a9, a10, a11, a12, a13, rest⟩ := H
  exact ⟨o, a5, a6, a7, a8, a9, a10, a11, a12, e, rest⟩
theorem r_wipe (hd : 4 ≤ d) (hI : RInv h len Bt T st u un kc ke) (hG : Glob b len Bt T st u un kc ke) : Ct d m_6_wipe [.ref 102] z z h (RQ len h 0 Bt T st u un kc ke) := by
  refine Ct.of (by decide) ⟨Nat.le_refl _, Nat.le_refl _⟩ (Nat.le_of_ble_eq_true rfl) ?_
  obtain ⟨U, hm, hF⟩ := hI
  obtain ⟨f1, f2, ⟨f3, f4, f5⟩, f6, f7, f8⟩ := hF
  have hf : ∀ q : Nat, (q < 102 ∨ 128 < q) → h q = h q := fun _ _ => rfl
  refine x_aload_n D_6_wipe_0 rfl ?_
  refine x_getfield D_6_wipe_1 f_6_121 (md_o hm) rfl ?_
  rw [f5]
  refine x_istore_n D_6_wipe_4 rfl rfl rfl ?_
  refine x_aload_n D_6_wipe_5 rfl ?_
  refine x_iconst D_6_wipe_6 ?_
  refine x_putI D_6_wipe_7 f_6_121 (md_o hm) (by decide +kernel) rfl (fun h7 e7 n7 => ?_)
  replace hm := md_p19 hm e7 n7
  replace hf := fun q hq => (n7 q (by omega)).trans (hf q hq)
  refine x_iload_n D_6_wipe_10 rfl ?_
  refine x_ireturn D_6_wipe_11 rfl (by first | rfl | exact nb_bi _ | decide +kernel) rfl ?_
  exact ⟨rfl, ⟨_, hm, by rw [tbU_same (U := U) (fun a ha => upr_ne _ _ (by omega))]; exact f1, f2, ⟨f3, f4, rfl⟩, f6, f7, fun j j0 j1 => absurd j1 (by omega)⟩, hf⟩
end R2
