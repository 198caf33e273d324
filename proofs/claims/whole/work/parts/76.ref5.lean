section R5
variable {d : Nat} {z : Nat × Nat} {h : Hp} {b len : Int} {Bt : Int → Int} {T : TT} {st : SS} {u : Nat} {un : Nat → SS} {kc : Nat} {ke : Nat → SS}
theorem r_say (hd : 4 ≤ d) (hI : RInv h len Bt T st u un kc ke) (hG : Glob b len Bt T st u un kc ke) {s : Int} (hs : B3 s) : Ct d m_6_say [.ref 102, vi s] z z h (RQ (sayA T st s) h len Bt T (if sayC T st s then sayS T st s else st) (if sayC T st s then rmU u else u) (if sayC T st s then rmF u un st else un) kc ke) := by
  refine Ct.of (by decide) ⟨Nat.le_refl _, Nat.le_refl _⟩ (Nat.le_of_ble_eq_true rfl) ?_
  have hI0 := hI
  obtain ⟨U, hm, hF⟩ := hI
  obtain ⟨⟨hk, k00, k22⟩, hln, hBt, hu, hS⟩ := hG
  obtain ⟨⟨t0, t1, t2, t3, t4⟩, t5, t6, t7, t8, -⟩ := hF.tab
  have f2 := hF.2.1
  have s0 := hS.1
  have s1 := hS.2.1
  have s2 := hS.2.2.1
  have k0 := hk.1
  have k4 := hk.2.2.1
  have k8 := hk.2.2.2.2.2.2.2.1
  by_cases hc : sayC T st s
  · rw [if_pos hc, if_pos hc, if_pos hc]
    have hv : sayA T st s = st 0 + T 6 s := by unfold sayA; rw [if_pos hc.1, if_pos hc]
    rw [hv]
    obtain ⟨hcs, hc1, hc2, hc3, hc4, hc5⟩ := hc
    have k8s := k8 s hcs.1 hcs.2
    refine x_aload_n D_6_say_0 rfl ?_
    refine x_iload_n D_6_say_1 rfl ?_
    refine x_invV (d' := d - 1) D_6_say_2 l_6_188 mi_6_isSaying (c_6_isSaying (by omega) hm hk t2 hs) (md_o hm) rfl rfl (by omega) rfl (fun q => q) rfl rfl (fun r2 h2 q2 => ?_)
    obtain ⟨rfl, rfl⟩ := q2
    refine x_if_neb D_6_say_5 (fun c5 => ?_) (fun c5 => ?_)
    · refine x_aload_n D_6_say_10 rfl ?_
      refine x_invV (d' := d - 1) D_6_say_11 l_6_194 mi_6_isMelting (c_6_isMelting (by omega) hm f2 (by omega) hS hk) (md_o hm) rfl rfl (by omega) rfl (fun q => q) rfl rfl (fun r11 h11 q11 => ?_)
      obtain ⟨rfl, rfl⟩ := q11
      refine x_if_eqb D_6_say_14 (fun c14 => ?_) (fun c14 => ?_)
      · exact absurd hc1 c14
      refine x_aload_n D_6_say_17 rfl ?_
      refine x_getfield D_6_say_18 f_6_34 (md_o hm) rfl ?_
      refine x_iconst D_6_say_21 ?_
      refine x_iaload D_6_say_22 (md_a13 hm) (by omega) (by omega) rfl ?_
      first | rw [f2] | skip
      refine x_aload_n D_6_say_23 rfl ?_
      refine x_getfield D_6_say_24 f_6_16 (md_o hm) rfl ?_
      refine x_iload_n D_6_say_27 rfl ?_
      refine x_iaload D_6_say_28 (md_a7 hm) (by omega) (by omega) rfl ?_
      rw [t7 _ hcs.1 hcs.2]
      refine x_icmp_ne D_6_say_29 ⟨by omega, by omega⟩ ⟨by omega, by omega⟩ (fun c29 => ?_) (fun c29 => ?_)
      · exact absurd hc2 c29
      refine x_aload_n D_6_say_32 rfl ?_
      refine x_getfield D_6_say_33 f_6_34 (md_o hm) rfl ?_
      refine x_iconst D_6_say_36 ?_
      refine x_iaload D_6_say_37 (md_a13 hm) (by omega) (by omega) rfl ?_
      first | rw [f2] | skip
      refine x_iload_n D_6_say_38 rfl ?_
      refine x_invS2 (d' := d - 1) D_6_say_39 l_6_177 mi_6_has (c_6_has (by omega))  rfl (by omega) rfl (fun q => q) rfl rfl (fun r39 h39 q39 => ?_)
      obtain ⟨rfl, rfl⟩ := q39
      refine x_if_neb D_6_say_42 (fun c42 => ?_) (fun c42 => ?_)
      · exact absurd c42 hc3
      refine x_aload_n D_6_say_45 rfl ?_
      refine x_getfield D_6_say_46 f_6_34 (md_o hm) rfl ?_
      refine x_iconst D_6_say_49 ?_
      refine x_iaload D_6_say_50 (md_a13 hm) (by omega) (by omega) rfl ?_
      first | rw [f2] | skip
      refine x_aload_n D_6_say_51 rfl ?_
      refine x_getfield D_6_say_52 f_6_19 (md_o hm) rfl ?_
      refine x_iload_n D_6_say_55 rfl ?_
      refine x_iaload D_6_say_56 (md_a8 hm) (by omega) (by omega) rfl ?_
      first | rw [t8 _ hcs.1 hcs.2] | rw [t8' _ hcs.1 hcs.2]
      refine x_iadd D_6_say_57 ?_
      refine x_aload_n D_6_say_58 rfl ?_
      refine x_getfield D_6_say_59 f_6_34 (md_o hm) rfl ?_
      refine x_iconst D_6_say_62 ?_
      refine x_iaload D_6_say_63 (md_a13 hm) (by omega) (by omega) rfl ?_
      first | rw [f2] | skip
      refine x_icmp_gt D_6_say_64 ⟨by omega, by omega⟩ ⟨by omega, by omega⟩ (fun c64 => ?_) (fun c64 => ?_)
      · exact absurd c64 (by omega)
      refine x_aload_n D_6_say_67 rfl ?_
      refine x_iload_n D_6_say_68 rfl ?_
      refine x_invV (d' := d - 1) D_6_say_69 l_6_200 mi_6_isInTime (c_6_isInTime (by omega) hm hF hk hS (by omega) hcs) (md_o hm) rfl rfl (by omega) rfl (fun q => q) rfl rfl (fun r69 h69 q69 => ?_)
      obtain ⟨rfl, rfl⟩ := q69
      refine x_if_neb D_6_say_72 (fun c72 => ?_) (fun c72 => ?_)
      · refine x_aload_n D_6_say_78 rfl ?_
        refine x_invV (d' := d - 1) D_6_say_79 l_6_197 mi_6_remembers (c_6_remembers (by omega) hm hF hu.1) (md_o hm) rfl rfl (by omega) rfl (fun q => q) rfl rfl (fun r79 h79 q79 => ?_)
        obtain ⟨rfl, ⟨V, hm, v15, v14, vo⟩, hf⟩ := q79
        have f2 : V 13 = st := (vo 13 (by omega) (by omega)).trans f2
        have t8' : ∀ g : Int, 0 ≤ g → g < T 4 0 → V 8 g = T 6 g := fun g g0 g1 => (congrFun (vo 8 (by omega) (by omega)) g).trans (t8 g g0 g1)
        refine x_aload_n D_6_say_82 rfl ?_
        refine x_getfield D_6_say_83 f_6_34 (md_o hm) rfl ?_
        refine x_iconst D_6_say_86 ?_
        refine x_dup2 D_6_say_87 rfl rfl ?_
        refine x_iaload D_6_say_88 (md_a13 hm) (by omega) (by omega) rfl ?_
        first | rw [f2] | skip
        refine x_aload_n D_6_say_89 rfl ?_
        refine x_getfield D_6_say_90 f_6_19 (md_o hm) rfl ?_
        refine x_iload_n D_6_say_93 rfl ?_
        refine x_iaload D_6_say_94 (md_a8 hm) (by omega) (by omega) rfl ?_
        first | rw [t8 _ hcs.1 hcs.2] | rw [t8' _ hcs.1 hcs.2]
        refine x_iadd D_6_say_95 ?_
        refine x_iastore D_6_say_96 (md_a13 hm) (by omega) (by omega) rfl (fun h96 e96 n96 => ?_)
        replace hm := md_s13 hm e96 n96
        replace hf := fun q hq => (n96 q (by omega)).trans (hf q hq)
        refine x_aload_n D_6_say_97 rfl ?_
        refine x_getfield D_6_say_98 f_6_34 (md_o hm) rfl ?_
        refine x_iconst D_6_say_101 ?_
        refine x_dup2 D_6_say_102 rfl rfl ?_
        refine x_iaload D_6_say_103 (md_a13 hm) (by omega) (by omega) rfl ?_
        try simp only [upr, Nat.reduceEqDiff, ↓reduceIte]
        first | rw [f2] | skip
        rw [ups_ne _ _ (by omega)]
        refine x_iconst D_6_say_104 ?_
        refine x_iload_n D_6_say_105 rfl ?_
        refine x_ishl D_6_say_106 ?_
        refine x_ior D_6_say_107 ?_
        refine x_iastore D_6_say_108 (md_a13 hm) (by omega) (by omega) rfl (fun h108 e108 n108 => ?_)
        replace hm := md_s13 hm e108 n108
        try simp only [upr, Nat.reduceEqDiff, ↓reduceIte] at hm
        try rw [upr_upr] at hm
        replace hf := fun q hq => (n108 q (by omega)).trans (hf q hq)
        refine x_aload_n D_6_say_109 rfl ?_
        refine x_getfield D_6_say_110 f_6_34 (md_o hm) rfl ?_
        refine x_bipush D_6_say_113 (by decide +kernel) ?_
        refine x_iload_n D_6_say_115 rfl ?_
        refine x_iadd D_6_say_116 ?_
        refine x_aload_n D_6_say_117 rfl ?_
        refine x_getfield D_6_say_118 f_6_34 (md_o hm) rfl ?_
        refine x_iconst D_6_say_121 ?_
        refine x_iaload D_6_say_122 (md_a13 hm) (by omega) (by omega) rfl ?_
        try simp only [upr, Nat.reduceEqDiff, ↓reduceIte]
        first | rw [f2] | skip
        rw [ups_ne _ _ (by omega), ups_eq]
        refine x_iastore D_6_say_123 (md_a13 hm) (by omega) (by omega) rfl (fun h123 e123 n123 => ?_)
        replace hm := md_s13 hm e123 n123
        try simp only [upr, Nat.reduceEqDiff, ↓reduceIte] at hm
        try rw [upr_upr] at hm
        replace hf := fun q hq => (n123 q (by omega)).trans (hf q hq)
        refine x_aload_n D_6_say_124 rfl ?_
        refine x_getfield D_6_say_125 f_6_34 (md_o hm) rfl ?_
        refine x_iconst D_6_say_128 ?_
        refine x_iaload D_6_say_129 (md_a13 hm) (by omega) (by omega) rfl ?_
        try simp only [upr, Nat.reduceEqDiff, ↓reduceIte]
        first | rw [f2] | skip
        rw [ups_ne _ _ (by omega), ups_ne _ _ (by omega), ups_eq]
        refine x_ireturn D_6_say_130 rfl (by first | rfl | exact nb_bi _ | decide +kernel) rfl ?_
        refine ⟨rfl, ⟨_, hm, rf_step hF v15 v14 vo ?_⟩, hf⟩
        rw [f2]
        funext q
        unfold sayS ups
        by_cases e3 : q = 16 + s
        · rw [if_pos e3, if_neg (by omega), if_neg (by omega), if_pos e3]
        · rw [if_neg e3]
          by_cases e6 : q = 4
          · rw [if_pos e6, if_neg (by omega), if_pos e6]
          · rw [if_neg e6]
            by_cases e2 : q = 0
            · rw [if_pos e2, if_pos e2]
            · rw [if_neg e2, if_neg e2, if_neg e6, if_neg e3]
      exact absurd hc5 c72
    exact absurd hcs c5
  · rw [if_neg hc, if_neg hc, if_neg hc]
    refine x_aload_n D_6_say_0 rfl ?_
    refine x_iload_n D_6_say_1 rfl ?_
    refine x_invV (d' := d - 1) D_6_say_2 l_6_188 mi_6_isSaying (c_6_isSaying (by omega) hm hk t2 hs) (md_o hm) rfl rfl (by omega) rfl (fun q => q) rfl rfl (fun r2 h2 q2 => ?_)
    obtain ⟨rfl, rfl⟩ := q2
    refine x_if_neb D_6_say_5 (fun c5 => ?_) (fun c5 => ?_)
    · have k8s := k8 s c5.1 c5.2
      refine x_aload_n D_6_say_10 rfl ?_
      refine x_invV (d' := d - 1) D_6_say_11 l_6_194 mi_6_isMelting (c_6_isMelting (by omega) hm f2 (by omega) hS hk) (md_o hm) rfl rfl (by omega) rfl (fun q => q) rfl rfl (fun r11 h11 q11 => ?_)
      obtain ⟨rfl, rfl⟩ := q11
      refine x_if_eqb D_6_say_14 (fun c14 => ?_) (fun c14 => ?_)
      · refine x_bipush D_6_say_75 (by decide +kernel) ?_
        refine x_ireturn D_6_say_77 rfl (by first | rfl | exact nb_bi _ | decide +kernel) rfl ?_
        exact RQ.same hI0 (by unfold sayA; rw [if_pos c5, if_neg hc])
      refine x_aload_n D_6_say_17 rfl ?_
      refine x_getfield D_6_say_18 f_6_34 (md_o hm) rfl ?_
      refine x_iconst D_6_say_21 ?_
      refine x_iaload D_6_say_22 (md_a13 hm) (by omega) (by omega) rfl ?_
      rw [f2]
      refine x_aload_n D_6_say_23 rfl ?_
      refine x_getfield D_6_say_24 f_6_16 (md_o hm) rfl ?_
      refine x_iload_n D_6_say_27 rfl ?_
      refine x_iaload D_6_say_28 (md_a7 hm) (by omega) (by omega) rfl ?_
      rw [t7 _ c5.1 c5.2]
      refine x_icmp_ne D_6_say_29 ⟨by omega, by omega⟩ ⟨by omega, by omega⟩ (fun c29 => ?_) (fun c29 => ?_)
      · refine x_bipush D_6_say_75 (by decide +kernel) ?_
        refine x_ireturn D_6_say_77 rfl (by first | rfl | exact nb_bi _ | decide +kernel) rfl ?_
        exact RQ.same hI0 (by unfold sayA; rw [if_pos c5, if_neg hc])
      refine x_aload_n D_6_say_32 rfl ?_
      refine x_getfield D_6_say_33 f_6_34 (md_o hm) rfl ?_
      refine x_iconst D_6_say_36 ?_
      refine x_iaload D_6_say_37 (md_a13 hm) (by omega) (by omega) rfl ?_
      rw [f2]
      refine x_iload_n D_6_say_38 rfl ?_
      refine x_invS2 (d' := d - 1) D_6_say_39 l_6_177 mi_6_has (c_6_has (by omega))  rfl (by omega) rfl (fun q => q) rfl rfl (fun r39 h39 q39 => ?_)
      obtain ⟨rfl, rfl⟩ := q39
      refine x_if_neb D_6_say_42 (fun c42 => ?_) (fun c42 => ?_)
      · refine x_bipush D_6_say_75 (by decide +kernel) ?_
        refine x_ireturn D_6_say_77 rfl (by first | rfl | exact nb_bi _ | decide +kernel) rfl ?_
        exact RQ.same hI0 (by unfold sayA; rw [if_pos c5, if_neg hc])
      refine x_aload_n D_6_say_45 rfl ?_
      refine x_getfield D_6_say_46 f_6_34 (md_o hm) rfl ?_
      refine x_iconst D_6_say_49 ?_
      refine x_iaload D_6_say_50 (md_a13 hm) (by omega) (by omega) rfl ?_
      rw [f2]
      refine x_aload_n D_6_say_51 rfl ?_
      refine x_getfield D_6_say_52 f_6_19 (md_o hm) rfl ?_
      refine x_iload_n D_6_say_55 rfl ?_
      refine x_iaload D_6_say_56 (md_a8 hm) (by omega) (by omega) rfl ?_
      rw [t8 _ c5.1 c5.2]
      refine x_iadd D_6_say_57 ?_
      refine x_aload_n D_6_say_58 rfl ?_
      refine x_getfield D_6_say_59 f_6_34 (md_o hm) rfl ?_
      refine x_iconst D_6_say_62 ?_
      refine x_iaload D_6_say_63 (md_a13 hm) (by omega) (by omega) rfl ?_
      rw [f2]
      refine x_icmp_gt D_6_say_64 ⟨by omega, by omega⟩ ⟨by omega, by omega⟩ (fun c64 => ?_) (fun c64 => ?_)
      · refine x_bipush D_6_say_75 (by decide +kernel) ?_
        refine x_ireturn D_6_say_77 rfl (by first | rfl | exact nb_bi _ | decide +kernel) rfl ?_
        exact RQ.same hI0 (by unfold sayA; rw [if_pos c5, if_neg hc])
      refine x_aload_n D_6_say_67 rfl ?_
      refine x_iload_n D_6_say_68 rfl ?_
      refine x_invV (d' := d - 1) D_6_say_69 l_6_200 mi_6_isInTime (c_6_isInTime (by omega) hm hF hk hS (by omega) c5) (md_o hm) rfl rfl (by omega) rfl (fun q => q) rfl rfl (fun r69 h69 q69 => ?_)
      obtain ⟨rfl, rfl⟩ := q69
      refine x_if_neb D_6_say_72 (fun c72 => ?_) (fun c72 => ?_)
      · exact absurd ⟨c5, c14, by omega, c42, by omega, c72⟩ hc
      refine x_bipush D_6_say_75 (by decide +kernel) ?_
      refine x_ireturn D_6_say_77 rfl (by first | rfl | exact nb_bi _ | decide +kernel) rfl ?_
      exact RQ.same hI0 (by unfold sayA; rw [if_pos c5, if_neg hc])
    refine x_iconst D_6_say_8 ?_
    refine x_ireturn D_6_say_9 rfl (by first | rfl | exact nb_bi _ | decide +kernel) rfl ?_
    exact RQ.same hI0 (by unfold sayA; rw [if_neg c5])
theorem r_eat (hd : 4 ≤ d) (hI : RInv h len Bt T st u un kc ke) (hG : Glob b len Bt T st u un kc ke) {k : Int} (hkb : B3 k) : Ct d m_6_eat [.ref 102, vi k] z z h (RQ (eatA T st k) h len Bt T (if eatC T st k then eatS T st k else st) (if eatC T st k then rmU u else u) (if eatC T st k then rmF u un st else un) kc ke) := by
  refine Ct.of (by decide) ⟨Nat.le_refl _, Nat.le_refl _⟩ (Nat.le_of_ble_eq_true rfl) ?_
  have hI0 := hI
  obtain ⟨U, hm, hF⟩ := hI
  obtain ⟨⟨hk, k00, k22⟩, hln, hBt, hu, hS⟩ := hG
  obtain ⟨⟨t0, t1, t2, t3, t4⟩, t5, t6, t7, t8, t9, t10, t11, t12⟩ := hF.tab
  have f2 := hF.2.1
  have s0 := hS.1
  have s2 := hS.2.2.1
  have k0 := hk.1
  have k9 := hk.2.2.2.1
  have kd := hk.2.2.2.2.2.2.2.2
  have s6 := hS.2.2.2.2.2.2.1
  have hmi := melt_iff hS
  by_cases hc : eatC T st k
  · rw [if_pos hc, if_pos hc, if_pos hc]
    have hv : eatA T st k = dryBy (st (11 + T 10 k)) (T 11 k) := by unfold eatA; rw [if_pos hc.1, if_pos hc]
    rw [hv]
    obtain ⟨hck, hc2, hc3⟩ := hc
    have hnm : ¬ melting st := fun q => absurd (hmi.mpr q) (by omega)
    have kdk := kd k hck.1 hck.2
    have s6k := s6 (T 10 k) kdk.1.1 kdk.1.2
    clear hmi
    refine x_iload_n D_6_eat_0 rfl ?_
    refine x_iconst D_6_eat_1 ?_
    refine x_aload_n D_6_eat_2 rfl ?_
    refine x_getfield D_6_eat_3 f_6_165 (md_o hm) rfl ?_
    rw [t3]
    refine x_iconst D_6_eat_6 ?_
    refine x_isub D_6_eat_7 ?_
    refine x_invS2 (d' := d - 1) D_6_eat_8 l_6_111 mi_6_in (c_6_in (by omega) hkb ⟨by omega, by omega⟩ ⟨by omega, by omega⟩)  rfl (by omega) rfl (fun q => q) rfl rfl (fun r8 h8 q8 => ?_)
    obtain ⟨rfl, rfl⟩ := q8
    refine x_if_neb D_6_eat_11 (fun c11 => ?_) (fun c11 => ?_)
    · refine x_aload_n D_6_eat_16 rfl ?_
      refine x_getfield D_6_eat_17 f_6_34 (md_o hm) rfl ?_
      refine x_iconst D_6_eat_20 ?_
      refine x_iaload D_6_eat_21 (md_a13 hm) (by omega) (by omega) rfl ?_
      first | rw [f2] | skip
      refine x_iload_n D_6_eat_22 rfl ?_
      refine x_invS2 (d' := d - 1) D_6_eat_23 l_6_177 mi_6_has (c_6_has (by omega))  rfl (by omega) rfl (fun q => q) rfl rfl (fun r23 h23 q23 => ?_)
      obtain ⟨rfl, rfl⟩ := q23
      refine x_if_neb D_6_eat_26 (fun c26 => ?_) (fun c26 => ?_)
      · exact absurd c26 hc3
      refine x_aload_n D_6_eat_29 rfl ?_
      refine x_invV (d' := d - 1) D_6_eat_30 l_6_194 mi_6_isMelting (c_6_isMelting (by omega) hm f2 (by omega) hS hk) (md_o hm) rfl rfl (by omega) rfl (fun q => q) rfl rfl (fun r30 h30 q30 => ?_)
      obtain ⟨rfl, rfl⟩ := q30
      refine x_if_eqb D_6_eat_33 (fun c33 => ?_) (fun c33 => ?_)
      · refine x_aload_n D_6_eat_39 rfl ?_
        refine x_invV (d' := d - 1) D_6_eat_40 l_6_197 mi_6_remembers (c_6_remembers (by omega) hm hF hu.1) (md_o hm) rfl rfl (by omega) rfl (fun q => q) rfl rfl (fun r40 h40 q40 => ?_)
        obtain ⟨rfl, ⟨V, hm, v15, v14, vo⟩, hf⟩ := q40
        have f2 : V 13 = st := (vo 13 (by omega) (by omega)).trans f2
        have t11' : ∀ g : Int, 0 ≤ g → g < T 9 0 → V 11 g = T 10 g := fun g g0 g1 => (congrFun (vo 11 (by omega) (by omega)) g).trans (t11 g g0 g1)
        have t12' : ∀ g : Int, 0 ≤ g → g < T 9 0 → V 12 g = T 11 g := fun g g0 g1 => (congrFun (vo 12 (by omega) (by omega)) g).trans (t12 g g0 g1)
        refine x_aload_n D_6_eat_43 rfl ?_
        refine x_getfield D_6_eat_44 f_6_28 (md_o hm) rfl ?_
        refine x_iload_n D_6_eat_47 rfl ?_
        refine x_iaload D_6_eat_48 (md_a11 hm) (by omega) (by omega) rfl ?_
        rw [t11' _ hck.1 hck.2]
        refine x_istore_n D_6_eat_49 rfl rfl rfl ?_
        refine x_aload_n D_6_eat_50 rfl ?_
        refine x_getfield D_6_eat_51 f_6_34 (md_o hm) rfl ?_
        refine x_iconst D_6_eat_54 ?_
        refine x_dup2 D_6_eat_55 rfl rfl ?_
        refine x_iaload D_6_eat_56 (md_a13 hm) (by omega) (by omega) rfl ?_
        first | rw [f2] | skip
        refine x_iconst D_6_eat_57 ?_
        refine x_iload_n D_6_eat_58 rfl ?_
        refine x_ishl D_6_eat_59 ?_
        refine x_ior D_6_eat_60 ?_
        refine x_iastore D_6_eat_61 (md_a13 hm) (by omega) (by omega) rfl (fun h61 e61 n61 => ?_)
        replace hm := md_s13 hm e61 n61
        replace hf := fun q hq => (n61 q (by omega)).trans (hf q hq)
        refine x_aload_n D_6_eat_62 rfl ?_
        refine x_getfield D_6_eat_63 f_6_34 (md_o hm) rfl ?_
        refine x_bipush D_6_eat_66 (by decide +kernel) ?_
        refine x_iload_n D_6_eat_68 rfl ?_
        refine x_iadd D_6_eat_69 ?_
        refine x_aload_n D_6_eat_70 rfl ?_
        refine x_getfield D_6_eat_71 f_6_34 (md_o hm) rfl ?_
        refine x_bipush D_6_eat_74 (by decide +kernel) ?_
        refine x_iload_n D_6_eat_76 rfl ?_
        refine x_iadd D_6_eat_77 ?_
        refine x_iaload D_6_eat_78 (md_a13 hm) (by omega) (by omega) rfl ?_
        try simp only [upr, Nat.reduceEqDiff, ↓reduceIte]
        first | rw [f2] | skip
        rw [ups_ne _ _ (by omega)]
        refine x_aload_n D_6_eat_79 rfl ?_
        refine x_getfield D_6_eat_80 f_6_31 (md_o hm) rfl ?_
        refine x_iload_n D_6_eat_83 rfl ?_
        refine x_iaload D_6_eat_84 (md_a12 hm) (by omega) (by omega) rfl ?_
        try simp only [upr, Nat.reduceEqDiff, ↓reduceIte]
        rw [t12' _ hck.1 hck.2]
        refine x_invS2 (d' := d - 1) D_6_eat_85 l_6_203 mi_6_dryBy (c_6_dryBy (by omega) (by omega) (by omega))  rfl (by omega) rfl (fun q => q) rfl rfl (fun r85 h85 q85 => ?_)
        obtain ⟨rfl, rfl⟩ := q85
        refine x_iastore D_6_eat_88 (md_a13 hm) (by omega) (by omega) rfl (fun h88 e88 n88 => ?_)
        replace hm := md_s13 hm e88 n88
        try simp only [upr, Nat.reduceEqDiff, ↓reduceIte] at hm
        try rw [upr_upr] at hm
        replace hf := fun q hq => (n88 q (by omega)).trans (hf q hq)
        refine x_aload_n D_6_eat_89 rfl ?_
        refine x_getfield D_6_eat_90 f_6_34 (md_o hm) rfl ?_
        refine x_bipush D_6_eat_93 (by decide +kernel) ?_
        refine x_iload_n D_6_eat_95 rfl ?_
        refine x_iadd D_6_eat_96 ?_
        refine x_iaload D_6_eat_97 (md_a13 hm) (by omega) (by omega) rfl ?_
        try simp only [upr, Nat.reduceEqDiff, ↓reduceIte]
        first | rw [f2] | skip
        rw [ups_eq]
        refine x_ireturn D_6_eat_98 rfl (by first | rfl | exact nb_bi _ | decide +kernel) rfl ?_
        refine ⟨rfl, ⟨_, hm, rf_step hF v15 v14 vo ?_⟩, hf⟩
        rw [f2]
        funext q
        unfold eatS ups
        by_cases e3 : q = 11 + T 10 k
        · rw [if_pos e3, if_neg (by omega), if_pos e3]
        · rw [if_neg e3]
          by_cases e6 : q = 5
          · rw [if_pos e6, if_pos e6]
          · rw [if_neg e6, if_neg e6, if_neg e3]
      exact absurd c33 hnm
    exact absurd (show 0 ≤ k ∧ k ≤ T 9 0 - 1 from ⟨hck.1, by omega⟩) c11
  · rw [if_neg hc, if_neg hc, if_neg hc]
    refine x_iload_n D_6_eat_0 rfl ?_
    refine x_iconst D_6_eat_1 ?_
    refine x_aload_n D_6_eat_2 rfl ?_
    refine x_getfield D_6_eat_3 f_6_165 (md_o hm) rfl ?_
    rw [t3]
    refine x_iconst D_6_eat_6 ?_
    refine x_isub D_6_eat_7 ?_
    refine x_invS2 (d' := d - 1) D_6_eat_8 l_6_111 mi_6_in (c_6_in (by omega) hkb ⟨by omega, by omega⟩ ⟨by omega, by omega⟩)  rfl (by omega) rfl (fun q => q) rfl rfl (fun r8 h8 q8 => ?_)
    obtain ⟨rfl, rfl⟩ := q8
    refine x_if_neb D_6_eat_11 (fun c11 => ?_) (fun c11 => ?_)
    · refine x_aload_n D_6_eat_16 rfl ?_
      refine x_getfield D_6_eat_17 f_6_34 (md_o hm) rfl ?_
      refine x_iconst D_6_eat_20 ?_
      refine x_iaload D_6_eat_21 (md_a13 hm) (by omega) (by omega) rfl ?_
      rw [f2]
      refine x_iload_n D_6_eat_22 rfl ?_
      refine x_invS2 (d' := d - 1) D_6_eat_23 l_6_177 mi_6_has (c_6_has (by omega))  rfl (by omega) rfl (fun q => q) rfl rfl (fun r23 h23 q23 => ?_)
      obtain ⟨rfl, rfl⟩ := q23
      refine x_if_neb D_6_eat_26 (fun c26 => ?_) (fun c26 => ?_)
      · refine x_bipush D_6_eat_36 (by decide +kernel) ?_
        refine x_ireturn D_6_eat_38 rfl (by first | rfl | exact nb_bi _ | decide +kernel) rfl ?_
        exact RQ.same hI0 (by unfold eatA; rw [if_pos ⟨c11.1, by omega⟩, if_neg hc])
      refine x_aload_n D_6_eat_29 rfl ?_
      refine x_invV (d' := d - 1) D_6_eat_30 l_6_194 mi_6_isMelting (c_6_isMelting (by omega) hm f2 (by omega) hS hk) (md_o hm) rfl rfl (by omega) rfl (fun q => q) rfl rfl (fun r30 h30 q30 => ?_)
      obtain ⟨rfl, rfl⟩ := q30
      refine x_if_eqb D_6_eat_33 (fun c33 => ?_) (fun c33 => ?_)
      · exact absurd ⟨⟨c11.1, by omega⟩, by have := fun q => c33 (hmi.mp q); omega, c26⟩ hc
      refine x_bipush D_6_eat_36 (by decide +kernel) ?_
      refine x_ireturn D_6_eat_38 rfl (by first | rfl | exact nb_bi _ | decide +kernel) rfl ?_
      exact RQ.same hI0 (by unfold eatA; rw [if_pos ⟨c11.1, by omega⟩, if_neg hc])
    refine x_iconst D_6_eat_14 ?_
    refine x_ireturn D_6_eat_15 rfl (by first | rfl | exact nb_bi _ | decide +kernel) rfl ?_
    exact RQ.same hI0 (by unfold eatA; rw [if_neg (fun q => c11 ⟨q.1, by omega⟩)])
theorem r_write (hd : 4 ≤ d) (hI : RInv h len Bt T st u un kc ke) (hG : Glob b len Bt T st u un kc ke) {n : Int} {a : Int64} (hn : B3 n) : Ct d m_6_write [.ref 102, vi n, .long a] z z h (RQ (writeA len n) h (if writeC len n then len + n else len) (if writeC len n then wrB a n.toNat len Bt else Bt) T st u un kc ke) := by
  refine Ct.of (by decide) ⟨Nat.le_refl _, Nat.le_refl _⟩ (Nat.le_of_ble_eq_true rfl) ?_
  have hI0 := hI
  obtain ⟨U, hm, hF⟩ := hI
  obtain ⟨⟨hk, k00, k22⟩, hln, hBt, hu, hS⟩ := hG
  obtain ⟨f1, f2, ⟨f3, f4, f5⟩, f6, f7, f8⟩ := id hF
  by_cases hc : writeC len n
  · rw [if_pos hc, if_pos hc]
    have hv : writeA len n = len + n := by unfold writeA; rw [if_pos hc.1, if_pos hc.2]
    rw [hv]
    have loop : ∀ (k : Nat) (j l : Int) (hh : Hp) (V : TT) (F : Int → Int), j = (k : Int) - 1 → 0 ≤ l → l + k = len + n → k ≤ 8 → wrB a k l F = wrB a n.toNat len Bt → MdAt hh V → V 19 0 = l → (∀ x : Int, 0 ≤ x → x < l → V 18 x = ub (F x)) → (∀ q : Nat, q ≠ 18 → q ≠ 19 → V q = U q) → (∀ q : Nat, (q < 102 ∨ 128 < q) → hh q = h q) →
        WW d m_6_write z (RQ (len + n) h (len + n) (wrB a n.toNat len Bt) T st u un kc ke) z hh 32 [(0, .ref 102), (1, vi n), (2, .long a), (4, vi j)] [] := by
      intro k
      induction k with
      | zero =>
        intro j l hh V F hj hl0 hl hk8 hw hm v19 v18 vo hf
        have el : l = len + n := by omega
        have ew : F = wrB a n.toNat len Bt := hw
        rw [el] at v19 v18
        rw [ew] at v18
        refine x_iload D_6_write_32 rfl ?_
        refine x_if_lt D_6_write_34 ⟨by omega, by omega⟩ (fun c34 => ?_) (fun c34 => ?_)
        · refine x_aload_n D_6_write_74 rfl ?_
          refine x_getfield D_6_write_75 f_6_121 (md_o hm) rfl ?_
          rw [v19]
          refine x_ireturn D_6_write_78 rfl (by first | rfl | exact nb_bi _ | decide +kernel) rfl ?_
          refine ⟨rfl, ⟨V, hm, ?_, ?_, ⟨?_, ?_, v19⟩, ?_, ?_, v18⟩, hf⟩
          · rw [tbU_same (U := U) (fun a ha => vo a (by omega) (by omega))]; exact f1
          · rw [vo 13 (by omega) (by omega)]; exact f2
          · rw [vo 15 (by omega) (by omega)]; exact f3
          · rw [vo 17 (by omega) (by omega)]; exact f4
          · rw [vo 14 (by omega) (by omega)]; exact f6
          · rw [vo 16 (by omega) (by omega)]; exact f7
        exact absurd c34 (by omega)
      | succ k ih =>
        intro j l hh V F hj hl0 hl hk8 hw hm v19 v18 vo hf
        obtain rfl : j = (k : Int) := by omega
        refine x_iload D_6_write_32 rfl ?_
        refine x_if_lt D_6_write_34 ⟨by omega, by omega⟩ (fun c34 => ?_) (fun c34 => ?_)
        · exact absurd c34 (by omega)
        refine x_aload_n D_6_write_37 rfl ?_
        refine x_getfield D_6_write_38 f_6_43 (md_o hm) rfl ?_
        refine x_aload_n D_6_write_41 rfl ?_
        refine x_getfield D_6_write_42 f_6_121 (md_o hm) rfl ?_
        rw [v19]
        refine x_lload_n D_6_write_45 rfl ?_
        refine x_bipush D_6_write_46 (by decide +kernel) ?_
        refine x_iload D_6_write_48 rfl ?_
        refine x_imul D_6_write_50 ?_
        refine x_lshr D_6_write_51 ?_
        refine x_ldc2 (n := 255) D_6_write_52 k_6_124 ?_
        refine x_land D_6_write_55 ?_
        refine x_l2i D_6_write_56 ?_
        rw [show (((a >>> ((ii (8 * (k : Int))).toInt64 &&& 63)) &&& ll 255).toInt32).toInt = ub (cbR a (k : Int)) from byte_eq a (by omega)]
        refine x_iastore D_6_write_57 (md_a18 hm) (by omega) (by omega) rfl (fun h57 e57 n57 => ?_)
        replace hm := md_s18 hm e57 n57
        replace hf := fun q hq => (n57 q (by omega)).trans (hf q hq)
        refine x_aload_n D_6_write_58 rfl ?_
        refine x_dup D_6_write_59 rfl ?_
        refine x_getfield D_6_write_60 f_6_121 (md_o hm) rfl ?_
        try simp only [upr, Nat.reduceEqDiff, ↓reduceIte]
        rw [v19]
        refine x_iconst D_6_write_63 ?_
        refine x_iadd D_6_write_64 ?_
        refine x_putI D_6_write_65 f_6_121 (md_o hm) (by decide +kernel) rfl (fun h65 e65 n65 => ?_)
        replace hm := md_p19 hm e65 n65
        try simp only [upr, Nat.reduceEqDiff, ↓reduceIte] at hm
        replace hf := fun q hq => (n65 q (by omega)).trans (hf q hq)
        refine x_iinc D_6_write_68 rfl rfl rfl rfl ?_
        refine x_goto D_6_write_71 ?_
        refine (ih ((k : Int) - 1) (l + 1) _ _ (ups F l (cbR a (k : Int))) rfl (by omega) (by omega) (by omega) hw hm rfl (fun x x0 x1 => ?_) (fun q q1 q2 => ?_) hf).sub rfl
        · rw [upr_ne _ _ (by omega), upr_eq]
          by_cases e : x = l
          · rw [e, ups_eq, ups_eq]
          · rw [ups_ne _ _ e, ups_ne _ _ e]; exact v18 x x0 (by omega)
        · rw [upr_ne _ _ q2, upr_ne _ _ q1]; exact vo q q1 q2
    have hf : ∀ q : Nat, (q < 102 ∨ 128 < q) → h q = h q := fun _ _ => rfl
    refine x_iload_n D_6_write_0 rfl ?_
    refine x_iconst D_6_write_1 ?_
    refine x_bipush D_6_write_2 (by decide +kernel) ?_
    refine x_invS2 (d' := d - 1) D_6_write_4 l_6_111 mi_6_in (c_6_in (by omega) hn ⟨by omega, by omega⟩ ⟨by omega, by omega⟩)  rfl (by omega) rfl (fun q => q) rfl rfl (fun r4 h4 q4 => ?_)
    obtain ⟨rfl, rfl⟩ := q4
    refine x_if_neb D_6_write_7 (fun c7 => ?_) (fun c7 => ?_)
    · refine x_aload_n D_6_write_12 rfl ?_
      refine x_getfield D_6_write_13 f_6_121 (md_o hm) rfl ?_
      rw [f5]
      refine x_iload_n D_6_write_16 rfl ?_
      refine x_iadd D_6_write_17 ?_
      refine x_sipush D_6_write_18 (by decide +kernel) ?_
      refine x_icmp_le D_6_write_21 ⟨by omega, by omega⟩ ⟨by omega, by omega⟩ (fun c21 => ?_) (fun c21 => ?_)
      · refine x_iload_n D_6_write_27 rfl ?_
        refine x_iconst D_6_write_28 ?_
        refine x_isub D_6_write_29 ?_
        refine x_istore D_6_write_30 rfl rfl rfl ?_
        exact (loop n.toNat (n - 1) len h U Bt (by omega) (by omega) (by omega) (by omega) rfl hm f5 f8 (fun _ _ _ => rfl) hf).sub rfl
      exact absurd c21 (by omega)
    exact absurd hc.1 c7
  · rw [if_neg hc, if_neg hc]
    refine x_iload_n D_6_write_0 rfl ?_
    refine x_iconst D_6_write_1 ?_
    refine x_bipush D_6_write_2 (by decide +kernel) ?_
    refine x_invS2 (d' := d - 1) D_6_write_4 l_6_111 mi_6_in (c_6_in (by omega) hn ⟨by omega, by omega⟩ ⟨by omega, by omega⟩)  rfl (by omega) rfl (fun q => q) rfl rfl (fun r4 h4 q4 => ?_)
    obtain ⟨rfl, rfl⟩ := q4
    refine x_if_neb D_6_write_7 (fun c7 => ?_) (fun c7 => ?_)
    · refine x_aload_n D_6_write_12 rfl ?_
      refine x_getfield D_6_write_13 f_6_121 (md_o hm) rfl ?_
      rw [f5]
      refine x_iload_n D_6_write_16 rfl ?_
      refine x_iadd D_6_write_17 ?_
      refine x_sipush D_6_write_18 (by decide +kernel) ?_
      refine x_icmp_le D_6_write_21 ⟨by omega, by omega⟩ ⟨by omega, by omega⟩ (fun c21 => ?_) (fun c21 => ?_)
      · exact absurd ⟨c7, by omega⟩ hc
      refine x_bipush D_6_write_24 (by decide +kernel) ?_
      refine x_ireturn D_6_write_26 rfl (by first | rfl | exact nb_bi _ | decide +kernel) rfl ?_
      exact RQ.same hI0 (by unfold writeA; rw [if_pos c7, if_neg (by omega)])
    refine x_iconst D_6_write_10 ?_
    refine x_ireturn D_6_write_11 rfl (by first | rfl | exact nb_bi _ | decide +kernel) rfl ?_
    exact RQ.same hI0 (by unfold writeA; rw [if_neg c7])
end R5
