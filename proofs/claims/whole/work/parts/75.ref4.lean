theorem rf_step {U V : TT} {len : Int} {Bt : Int → Int} {T : TT} {st : SS} {u : Nat} {un : Nat → SS} {kc : Nat} {ke : Nat → SS} (hF : RF U len Bt T st u un kc ke) (v15 : V 15 0 = ((rmU u : Nat) : Int)) (v14 : ∀ j : Nat, j < rmU u → ∀ k : Int, 0 ≤ k → k < 23 → V 14 (23 * (j : Int) + k) = rmF u un st j k) (vo : ∀ a : Nat, a ≠ 14 → a ≠ 15 → V a = U a) {G G' : Int → Int} (hg : G' = G) : RF (upr V 13 G') len Bt T G (rmU u) (rmF u un st) kc ke := by
  subst hg
  obtain ⟨f1, f2, ⟨f3, f4, f5⟩, f6, f7, f8⟩ := hF
  refine ⟨?_, rfl, ⟨v15, ?_, ?_⟩, v14, fun j hj => ?_, fun j j0 j1 => ?_⟩
  · rw [upr13 (by omega) (tbU_same (U := U) (fun a ha => vo a (by omega) (by omega)))]; exact f1
  · rw [upr_ne _ _ (by omega), vo 17 (by omega) (by omega)]; exact f4
  · rw [upr_ne _ _ (by omega), vo 19 (by omega) (by omega)]; exact f5
  · rw [upr_ne _ _ (by omega), vo 16 (by omega) (by omega)]; exact f7 j hj
  · rw [upr_ne _ _ (by omega), vo 18 (by omega) (by omega)]; exact f8 j j0 j1
section R4
variable {d : Nat} {z : Nat × Nat} {h : Hp} {b len : Int} {Bt : Int → Int} {T : TT} {st : SS} {u : Nat} {un : Nat → SS} {kc : Nat} {ke : Nat → SS}
theorem r_take (hd : 4 ≤ d) (hI : RInv h len Bt T st u un kc ke) (hG : Glob b len Bt T st u un kc ke) {i g : Int} (hi : B3 i) (hg : B3 g) : Ct d m_6_take [.ref 102, vi i, vi g] z z h (RQ (takeA T st i g) h len Bt T (if takeC T st i g then takeS T st i g else st) (if takeC T st i g then rmU u else u) (if takeC T st i g then rmF u un st else un) kc ke) := by
  refine Ct.of (by decide) ⟨Nat.le_refl _, Nat.le_refl _⟩ (Nat.le_of_ble_eq_true rfl) ?_
  have hI0 := hI
  obtain ⟨U, hm, hF⟩ := hI
  obtain ⟨⟨hk, k00, k22⟩, hln, hBt, hu, hS⟩ := hG
  obtain ⟨⟨t0, t1, t2, t3, t4⟩, t5, t6, -⟩ := hF.tab
  have f2 := hF.2.1
  have s0 := hS.1
  have s2 := hS.2.2.1
  have s6 := hS.2.2.2.2.2.2.1
  have k0 := hk.1
  have k2 := hk.2.1
  have hmi := melt_iff hS
  by_cases hc : takeC T st i g
  · rw [if_pos hc, if_pos hc, if_pos hc]
    have hv : takeA T st i g = st 0 + T 3 g * st (11 + i) := by unfold takeA; rw [if_pos hc.1, if_pos hc]
    rw [hv]
    obtain ⟨⟨hci, hcg⟩, hc2, hc3, hc4⟩ := hc
    have hnm : ¬ melting st := fun q => absurd (hmi.mpr q) (by omega)
    have si := s6 i hci.1 hci.2
    clear hmi
    refine x_aload_n D_6_take_0 rfl ?_
    refine x_iload_n D_6_take_1 rfl ?_
    refine x_invV (d' := d - 1) D_6_take_2 l_6_181 mi_6_isPerson (c_6_isPerson (by omega) hm hk t0 hi) (md_o hm) rfl rfl (by omega) rfl (fun q => q) rfl rfl (fun r2 h2 q2 => ?_)
    obtain ⟨rfl, rfl⟩ := q2
    refine x_if_eqb D_6_take_5 (fun c5 => ?_) (fun c5 => ?_)
    · exact absurd hci c5
    refine x_aload_n D_6_take_8 rfl ?_
    refine x_iload_n D_6_take_9 rfl ?_
    refine x_invV (d' := d - 1) D_6_take_10 l_6_191 mi_6_isGrain (c_6_isGrain (by omega) hm hk t1 hg) (md_o hm) rfl rfl (by omega) rfl (fun q => q) rfl rfl (fun r10 h10 q10 => ?_)
    obtain ⟨rfl, rfl⟩ := q10
    refine x_if_neb D_6_take_13 (fun c13 => ?_) (fun c13 => ?_)
    · refine x_aload_n D_6_take_18 rfl ?_
      refine x_invV (d' := d - 1) D_6_take_19 l_6_194 mi_6_isMelting (c_6_isMelting (by omega) hm f2 (by omega) hS hk) (md_o hm) rfl rfl (by omega) rfl (fun q => q) rfl rfl (fun r19 h19 q19 => ?_)
      obtain ⟨rfl, rfl⟩ := q19
      refine x_if_neb D_6_take_22 (fun c22 => ?_) (fun c22 => ?_)
      · exact absurd c22 hnm
      refine x_aload_n D_6_take_25 rfl ?_
      refine x_getfield D_6_take_26 f_6_34 (md_o hm) rfl ?_
      refine x_iconst D_6_take_29 ?_
      refine x_iaload D_6_take_30 (md_a13 hm) (by omega) (by omega) rfl ?_
      first | rw [f2] | skip
      refine x_aload_n D_6_take_31 rfl ?_
      refine x_getfield D_6_take_32 f_6_34 (md_o hm) rfl ?_
      refine x_bipush D_6_take_35 (by decide +kernel) ?_
      refine x_iload_n D_6_take_37 rfl ?_
      refine x_iadd D_6_take_38 ?_
      refine x_iaload D_6_take_39 (md_a13 hm) (by omega) (by omega) rfl ?_
      first | rw [f2] | skip
      refine x_icmp_lt D_6_take_40 ⟨by omega, by omega⟩ ⟨by omega, by omega⟩ (fun c40 => ?_) (fun c40 => ?_)
      · exact absurd c40 (by omega)
      refine x_aload_n D_6_take_43 rfl ?_
      refine x_getfield D_6_take_44 f_6_34 (md_o hm) rfl ?_
      refine x_iconst D_6_take_47 ?_
      refine x_iaload D_6_take_48 (md_a13 hm) (by omega) (by omega) rfl ?_
      first | rw [f2] | skip
      refine x_iload_n D_6_take_49 rfl ?_
      refine x_invS2 (d' := d - 1) D_6_take_50 l_6_177 mi_6_has (c_6_has (by omega))  rfl (by omega) rfl (fun q => q) rfl rfl (fun r50 h50 q50 => ?_)
      obtain ⟨rfl, rfl⟩ := q50
      refine x_if_neb D_6_take_53 (fun c53 => ?_) (fun c53 => ?_)
      · refine x_aload_n D_6_take_59 rfl ?_
        refine x_invV (d' := d - 1) D_6_take_60 l_6_197 mi_6_remembers (c_6_remembers (by omega) hm hF hu.1) (md_o hm) rfl rfl (by omega) rfl (fun q => q) rfl rfl (fun r60 h60 q60 => ?_)
        obtain ⟨rfl, ⟨V, hm, v15, v14, vo⟩, hf⟩ := q60
        have f2 : V 13 = st := (vo 13 (by omega) (by omega)).trans f2
        have t6' : ∀ g : Int, 0 ≤ g → g < T 2 0 → V 6 g = T 3 g := fun g g0 g1 => (congrFun (vo 6 (by omega) (by omega)) g).trans (t6 g g0 g1)
        refine x_aload_n D_6_take_63 rfl ?_
        refine x_getfield D_6_take_64 f_6_13 (md_o hm) rfl ?_
        refine x_iload_n D_6_take_67 rfl ?_
        refine x_iaload D_6_take_68 (md_a6 hm) (by omega) (by omega) rfl ?_
        rw [t6' _ hcg.1 hcg.2]
        refine x_aload_n D_6_take_69 rfl ?_
        refine x_getfield D_6_take_70 f_6_34 (md_o hm) rfl ?_
        refine x_bipush D_6_take_73 (by decide +kernel) ?_
        refine x_iload_n D_6_take_75 rfl ?_
        refine x_iadd D_6_take_76 ?_
        refine x_iaload D_6_take_77 (md_a13 hm) (by omega) (by omega) rfl ?_
        first | rw [f2] | skip
        refine x_imul D_6_take_78 ?_
        refine x_istore_n D_6_take_79 rfl rfl rfl ?_
        refine x_aload_n D_6_take_80 rfl ?_
        refine x_getfield D_6_take_81 f_6_34 (md_o hm) rfl ?_
        refine x_iconst D_6_take_84 ?_
        refine x_iload_n D_6_take_85 rfl ?_
        refine x_iastore D_6_take_86 (md_a13 hm) (by omega) (by omega) rfl (fun h86 e86 n86 => ?_)
        replace hm := md_s13 hm e86 n86
        replace hf := fun q hq => (n86 q (by omega)).trans (hf q hq)
        refine x_aload_n D_6_take_87 rfl ?_
        refine x_getfield D_6_take_88 f_6_34 (md_o hm) rfl ?_
        refine x_iconst D_6_take_91 ?_
        refine x_aload_n D_6_take_92 rfl ?_
        refine x_getfield D_6_take_93 f_6_34 (md_o hm) rfl ?_
        refine x_iconst D_6_take_96 ?_
        refine x_iaload D_6_take_97 (md_a13 hm) (by omega) (by omega) rfl ?_
        try simp only [upr, Nat.reduceEqDiff, ↓reduceIte]
        first | rw [f2] | skip
        rw [ups_ne _ _ (by omega)]
        refine x_iload_n D_6_take_98 rfl ?_
        refine x_iadd D_6_take_99 ?_
        refine x_iastore D_6_take_100 (md_a13 hm) (by omega) (by omega) rfl (fun h100 e100 n100 => ?_)
        replace hm := md_s13 hm e100 n100
        try simp only [upr, Nat.reduceEqDiff, ↓reduceIte] at hm
        try rw [upr_upr] at hm
        replace hf := fun q hq => (n100 q (by omega)).trans (hf q hq)
        refine x_aload_n D_6_take_101 rfl ?_
        refine x_getfield D_6_take_102 f_6_34 (md_o hm) rfl ?_
        refine x_bipush D_6_take_105 (by decide +kernel) ?_
        refine x_iload_n D_6_take_107 rfl ?_
        refine x_iadd D_6_take_108 ?_
        refine x_aload_n D_6_take_109 rfl ?_
        refine x_getfield D_6_take_110 f_6_34 (md_o hm) rfl ?_
        refine x_iconst D_6_take_113 ?_
        refine x_iaload D_6_take_114 (md_a13 hm) (by omega) (by omega) rfl ?_
        try simp only [upr, Nat.reduceEqDiff, ↓reduceIte]
        first | rw [f2] | skip
        rw [ups_ne _ _ (by omega), ups_ne _ _ (by omega)]
        refine x_iconst D_6_take_115 ?_
        refine x_iload_n D_6_take_116 rfl ?_
        refine x_imul D_6_take_117 ?_
        refine x_iadd D_6_take_118 ?_
        refine x_iastore D_6_take_119 (md_a13 hm) (by omega) (by omega) rfl (fun h119 e119 n119 => ?_)
        replace hm := md_s13 hm e119 n119
        try simp only [upr, Nat.reduceEqDiff, ↓reduceIte] at hm
        try rw [upr_upr] at hm
        replace hf := fun q hq => (n119 q (by omega)).trans (hf q hq)
        refine x_aload_n D_6_take_120 rfl ?_
        refine x_getfield D_6_take_121 f_6_34 (md_o hm) rfl ?_
        refine x_iconst D_6_take_124 ?_
        refine x_dup2 D_6_take_125 rfl rfl ?_
        refine x_iaload D_6_take_126 (md_a13 hm) (by omega) (by omega) rfl ?_
        try simp only [upr, Nat.reduceEqDiff, ↓reduceIte]
        first | rw [f2] | skip
        rw [ups_ne _ _ (by omega), ups_ne _ _ (by omega), ups_ne _ _ (by omega)]
        refine x_iconst D_6_take_127 ?_
        refine x_iload_n D_6_take_128 rfl ?_
        refine x_ishl D_6_take_129 ?_
        refine x_iconst D_6_take_130 ?_
        refine x_ixor D_6_take_131 ?_
        refine x_iand D_6_take_132 ?_
        refine x_iastore D_6_take_133 (md_a13 hm) (by omega) (by omega) rfl (fun h133 e133 n133 => ?_)
        replace hm := md_s13 hm e133 n133
        try simp only [upr, Nat.reduceEqDiff, ↓reduceIte] at hm
        try rw [upr_upr] at hm
        replace hf := fun q hq => (n133 q (by omega)).trans (hf q hq)
        refine x_aload_n D_6_take_134 rfl ?_
        refine x_getfield D_6_take_135 f_6_34 (md_o hm) rfl ?_
        refine x_iconst D_6_take_138 ?_
        refine x_iaload D_6_take_139 (md_a13 hm) (by omega) (by omega) rfl ?_
        try simp only [upr, Nat.reduceEqDiff, ↓reduceIte]
        first | rw [f2] | skip
        rw [ups_ne _ _ (by omega), ups_ne _ _ (by omega), ups_eq]
        refine x_ireturn D_6_take_140 rfl (by first | rfl | exact nb_bi _ | decide +kernel) rfl ?_
        refine ⟨rfl, ⟨_, hm, rf_step hF v15 v14 vo ?_⟩, hf⟩
        rw [f2]
        funext q
        unfold takeS clr ups
        by_cases e3 : q = 3
        · rw [if_pos e3, if_neg (by omega), if_neg (by omega), if_pos e3]
        · rw [if_neg e3]
          by_cases e6 : q = 6 + i
          · rw [if_pos e6, if_neg (by omega), if_neg (by omega), if_neg (by omega), if_pos e6]
          · rw [if_neg e6]
            by_cases e2 : q = 2
            · rw [if_pos e2, if_neg (by omega), if_pos e2]
            · rw [if_neg e2]
              by_cases e1 : q = 1
              · rw [if_pos e1, if_pos e1]
              · rw [if_neg e1, if_neg e1, if_neg e2, if_neg e3, if_neg e6]
      exact absurd hc4 c53
    exact absurd hcg c13
  · rw [if_neg hc, if_neg hc, if_neg hc]
    refine x_aload_n D_6_take_0 rfl ?_
    refine x_iload_n D_6_take_1 rfl ?_
    refine x_invV (d' := d - 1) D_6_take_2 l_6_181 mi_6_isPerson (c_6_isPerson (by omega) hm hk t0 hi) (md_o hm) rfl rfl (by omega) rfl (fun q => q) rfl rfl (fun r2 h2 q2 => ?_)
    obtain ⟨rfl, rfl⟩ := q2
    refine x_if_eqb D_6_take_5 (fun c5 => ?_) (fun c5 => ?_)
    · refine x_iconst D_6_take_16 ?_
      refine x_ireturn D_6_take_17 rfl (by first | rfl | exact nb_bi _ | decide +kernel) rfl ?_
      first | exact RQ.same hI0 (by unfold takeA; rw [if_neg (fun q => c5 q.1)]) | exact RQ.same hI0 (by unfold takeA; rw [if_neg (fun q => c13 q.2)])
    refine x_aload_n D_6_take_8 rfl ?_
    refine x_iload_n D_6_take_9 rfl ?_
    refine x_invV (d' := d - 1) D_6_take_10 l_6_191 mi_6_isGrain (c_6_isGrain (by omega) hm hk t1 hg) (md_o hm) rfl rfl (by omega) rfl (fun q => q) rfl rfl (fun r10 h10 q10 => ?_)
    obtain ⟨rfl, rfl⟩ := q10
    refine x_if_neb D_6_take_13 (fun c13 => ?_) (fun c13 => ?_)
    · refine x_aload_n D_6_take_18 rfl ?_
      refine x_invV (d' := d - 1) D_6_take_19 l_6_194 mi_6_isMelting (c_6_isMelting (by omega) hm f2 (by omega) hS hk) (md_o hm) rfl rfl (by omega) rfl (fun q => q) rfl rfl (fun r19 h19 q19 => ?_)
      obtain ⟨rfl, rfl⟩ := q19
      refine x_if_neb D_6_take_22 (fun c22 => ?_) (fun c22 => ?_)
      · refine x_bipush D_6_take_56 (by decide +kernel) ?_
        refine x_ireturn D_6_take_58 rfl (by first | rfl | exact nb_bi _ | decide +kernel) rfl ?_
        exact RQ.same hI0 (by unfold takeA; rw [if_pos ⟨c5, c13⟩, if_neg hc])
      refine x_aload_n D_6_take_25 rfl ?_
      refine x_getfield D_6_take_26 f_6_34 (md_o hm) rfl ?_
      refine x_iconst D_6_take_29 ?_
      refine x_iaload D_6_take_30 (md_a13 hm) (by omega) (by omega) rfl ?_
      rw [f2]
      refine x_aload_n D_6_take_31 rfl ?_
      refine x_getfield D_6_take_32 f_6_34 (md_o hm) rfl ?_
      refine x_bipush D_6_take_35 (by decide +kernel) ?_
      refine x_iload_n D_6_take_37 rfl ?_
      refine x_iadd D_6_take_38 ?_
      refine x_iaload D_6_take_39 (md_a13 hm) (by omega) (by omega) rfl ?_
      rw [f2]
      have si := s6 i c5.1 c5.2
      refine x_icmp_lt D_6_take_40 ⟨by omega, by omega⟩ ⟨by omega, by omega⟩ (fun c40 => ?_) (fun c40 => ?_)
      · refine x_bipush D_6_take_56 (by decide +kernel) ?_
        refine x_ireturn D_6_take_58 rfl (by first | rfl | exact nb_bi _ | decide +kernel) rfl ?_
        exact RQ.same hI0 (by unfold takeA; rw [if_pos ⟨c5, c13⟩, if_neg hc])
      refine x_aload_n D_6_take_43 rfl ?_
      refine x_getfield D_6_take_44 f_6_34 (md_o hm) rfl ?_
      refine x_iconst D_6_take_47 ?_
      refine x_iaload D_6_take_48 (md_a13 hm) (by omega) (by omega) rfl ?_
      rw [f2]
      refine x_iload_n D_6_take_49 rfl ?_
      refine x_invS2 (d' := d - 1) D_6_take_50 l_6_177 mi_6_has (c_6_has (by omega))  rfl (by omega) rfl (fun q => q) rfl rfl (fun r50 h50 q50 => ?_)
      obtain ⟨rfl, rfl⟩ := q50
      refine x_if_neb D_6_take_53 (fun c53 => ?_) (fun c53 => ?_)
      · exact absurd ⟨⟨c5, c13⟩, by have := fun q => c22 (hmi.mp q); omega, by omega, c53⟩ hc
      refine x_bipush D_6_take_56 (by decide +kernel) ?_
      refine x_ireturn D_6_take_58 rfl (by first | rfl | exact nb_bi _ | decide +kernel) rfl ?_
      exact RQ.same hI0 (by unfold takeA; rw [if_pos ⟨c5, c13⟩, if_neg hc])
    refine x_iconst D_6_take_16 ?_
    refine x_ireturn D_6_take_17 rfl (by first | rfl | exact nb_bi _ | decide +kernel) rfl ?_
    first | exact RQ.same hI0 (by unfold takeA; rw [if_neg (fun q => c5 q.1)]) | exact RQ.same hI0 (by unfold takeA; rw [if_neg (fun q => c13 q.2)])
end R4
