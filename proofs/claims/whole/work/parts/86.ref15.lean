section R15
variable {d : Nat} {z : Nat × Nat} {h : Hp} {b len : Int} {Bt : Int → Int} {T : TT} {st : SS} {u : Nat} {un : Nat → SS} {kc : Nat} {ke : Nat → SS}
theorem r_winter (hd : 4 ≤ d) (hI : RInv h len Bt T st u un kc ke) (hG : Glob b len Bt T st u un kc ke) {zz n i : Int} (hz : B3 zz) (hn : B3 n) (hi : B3 i) : Ct d m_6_winter [.ref 102, vi zz, vi n, vi i] z z h (RQ (winA T zz n i) h len Bt T st u un kc ke) := by
  refine Ct.of (by decide) ⟨Nat.le_refl _, Nat.le_refl _⟩ (Nat.le_of_ble_eq_true rfl) ?_
  have hI0 := hI
  obtain ⟨U, hm, hF⟩ := hI
  obtain ⟨⟨hk, k00, k22⟩, hln, hBt, hu, hS⟩ := hG
  obtain ⟨⟨t0, t1, t2, t3, t4⟩, t5, t6, t7, t8, t9, -⟩ := hF.tab
  have k0 := hk.1
  have k2 := hk.2.1
  by_cases hc : winC T zz n i
  · obtain ⟨hcz, hcn, hci⟩ := id hc
    have loop : ∀ (f k : Nat) (hh : Hp) (V : TT), k + f = n.toNat → MdAt hh V → (∀ a : Nat, (a < 34 ∨ 36 < a) → V a = U a) → (∀ q : Nat, (q < 102 ∨ 128 < q) → hh q = h q) →
        WW d m_6_winter z (RQ (winA T zz n i) h len Bt T st u un kc ke) z hh 42 [(0, .ref 102), (1, vi zz), (2, vi n), (3, vi i), (4, vi (winF T zz i k)), (5, vi (k : Int))] [] := by
      intro f
      induction f with
      | zero =>
        intro k hh V hkk hm ho hf
        obtain rfl : k = n.toNat := by omega
        refine x_iload D_6_winter_42 rfl ?_
        refine x_iload_n D_6_winter_44 rfl ?_
        refine x_icmp_ge D_6_winter_45 ⟨by omega, by omega⟩ ⟨by omega, by omega⟩ (fun c45 => ?_) (fun c45 => ?_)
        · refine x_iload D_6_winter_158 rfl ?_
          refine x_ireturn D_6_winter_160 rfl (by first | rfl | exact nb_bi _ | decide +kernel) rfl ?_
          exact ⟨by unfold winA; rw [if_pos hc], hF.keep hm (fun a ha => ho a (by omega)), hf⟩
        exact absurd c45 (by omega)
      | succ f ih =>
        intro k hh V hkk hm ho hf
        have v0 : V 0 0 = T 0 0 := (congrFun (ho 0 (by omega)) 0).trans t0
        have v1 : V 1 0 = T 2 0 := (congrFun (ho 1 (by omega)) 0).trans t1
        have v2 : V 2 0 = T 4 0 := (congrFun (ho 2 (by omega)) 0).trans t2
        have v5 : V 5 = U 5 := ho 5 (by omega)
        have v6 : V 6 = U 6 := ho 6 (by omega)
        have v7 : ∀ s : Int, 0 ≤ s → s < T 4 0 → V 7 s = T 5 s := fun s s0 s1 => (congrFun (ho 7 (by omega)) s).trans (t7 s s0 s1)
        have v8 : ∀ s : Int, 0 ≤ s → s < T 4 0 → V 8 s = T 6 s := fun s s0 s1 => (congrFun (ho 8 (by omega)) s).trans (t8 s s0 s1)
        have v9 : ∀ s : Int, 0 ≤ s → s < T 4 0 → V 9 s = T 7 s := fun s s0 s1 => (congrFun (ho 9 (by omega)) s).trans (t9 s s0 s1)
        obtain ⟨⟨d1, d2⟩, hdr⟩ := draw_rng hcz (show 0 ≤ (k : Int) ∧ (k : Int) ≤ 99 by omega)
        have hd8 : 0 ≤ drawT zz (k : Int) / 8 ∧ drawT zz (k : Int) / 8 ≤ 1000000 := by omega
        have hsp0 := Int.emod_nonneg (drawT zz (k : Int)) (show T 0 0 ≠ 0 by omega)
        have hsp1 := Int.emod_lt_of_pos (drawT zz (k : Int)) (show 0 < T 0 0 by omega)
        have hg0 := Int.emod_nonneg (drawT zz (k : Int) / 8) (show T 2 0 ≠ 0 by omega)
        have hg1 := Int.emod_lt_of_pos (drawT zz (k : Int) / 8) (show 0 < T 2 0 by omega)
        have hml := melt_rng (hk.2.2.2.2.2.2.1 _ hg0 hg1) (hk.2.2.2.2.2.1 _ hsp0 hsp1)
        refine x_iload D_6_winter_42 rfl ?_
        refine x_iload_n D_6_winter_44 rfl ?_
        refine x_icmp_ge D_6_winter_45 ⟨by omega, by omega⟩ ⟨by omega, by omega⟩ (fun c45 => ?_) (fun c45 => ?_)
        · exact absurd c45 (by omega)
        refine x_ldc2 (n := 7919) D_6_winter_48 k_6_258 ?_
        refine x_iload_n D_6_winter_51 rfl ?_
        refine x_i2l D_6_winter_52 ⟨by omega, by omega⟩ ?_
        refine x_lmul D_6_winter_53 ?_
        refine x_ldc2 (n := 6151) D_6_winter_54 k_6_260 ?_
        refine x_iload D_6_winter_57 rfl ?_
        refine x_i2l D_6_winter_59 ⟨by omega, by omega⟩ ?_
        refine x_lmul D_6_winter_60 ?_
        refine x_ladd D_6_winter_61 ?_
        refine x_lconst D_6_winter_62 (k := 1) (by decide +kernel) ?_
        refine x_ladd D_6_winter_63 ?_
        refine x_lstore D_6_winter_64 rfl rfl rfl ?_
        refine x_lload D_6_winter_66 rfl ?_
        refine x_lload D_6_winter_68 rfl ?_
        refine x_lmul D_6_winter_70 ?_
        refine x_ldc2 (n := 65521) D_6_winter_71 k_6_262 ?_
        refine x_lrem D_6_winter_74 d1 d2 (by omega) (by omega) ?_
        refine x_l2il D_6_winter_75 ?_
        show WW _ _ _ _ _ _ _ _ (vi (drawT zz (k : Int)) :: [])
        refine x_istore D_6_winter_76 rfl rfl rfl ?_
        refine x_iload D_6_winter_78 rfl ?_
        refine x_aload_n D_6_winter_80 rfl ?_
        refine x_getfield D_6_winter_81 f_6_108 (md_o hm) rfl ?_
        rw [v0]
        refine x_irem D_6_winter_84 hdr.1 ⟨by omega, by omega⟩ (by omega) ⟨by omega, by omega⟩ ?_
        refine x_istore D_6_winter_85 rfl rfl rfl ?_
        refine x_iload D_6_winter_87 rfl ?_
        refine x_bipush D_6_winter_89 (by decide +kernel) ?_
        refine x_idiv D_6_winter_91 hdr.1 ⟨by omega, by omega⟩ (by omega) ⟨by omega, by omega⟩ ?_
        refine x_aload_n D_6_winter_92 rfl ?_
        refine x_getfield D_6_winter_93 f_6_115 (md_o hm) rfl ?_
        rw [v1]
        refine x_irem D_6_winter_96 hd8.1 ⟨by omega, by omega⟩ (by omega) ⟨by omega, by omega⟩ ?_
        refine x_istore D_6_winter_97 rfl rfl rfl ?_
        refine x_aload_n D_6_winter_99 rfl ?_
        refine x_iload D_6_winter_100 rfl ?_
        refine x_aload_n D_6_winter_102 rfl ?_
        refine x_getfield D_6_winter_103 f_6_13 (md_o hm) rfl ?_
        refine x_iload D_6_winter_106 rfl ?_
        refine x_iaload D_6_winter_108 (md_a6 hm) (by omega) (by omega) rfl ?_
        rw [v6, t6 _ hg0 hg1]
        refine x_aload_n D_6_winter_109 rfl ?_
        refine x_getfield D_6_winter_110 f_6_7 (md_o hm) rfl ?_
        refine x_iload D_6_winter_113 rfl ?_
        refine x_iaload D_6_winter_115 (md_a5 hm) (by omega) (by omega) rfl ?_
        rw [v5, t5 _ hsp0 hsp1]
        refine x_imul D_6_winter_116 ?_
        refine x_iconst D_6_winter_117 ?_
        refine x_invV (d' := d - 1) D_6_winter_118 l_6_219 mi_6_findBest (c_6_findBest (said := 0) (by omega) hm v2 v7 v8 v9 hk ⟨by omega, by omega⟩ ⟨by omega, by omega⟩ (none_ok hk)) (md_o hm) rfl rfl (by omega) rfl (fun q => q) rfl rfl (fun r118 h118 q118 => ?_)
        obtain ⟨rfl, ⟨W, hm, w34, w35, w36, ho2⟩, hf2⟩ := q118
        have hf : ∀ q : Nat, (q < 102 ∨ 128 < q) → h118 q = h q := fun q hq => (hf2 q hq).trans (hf q hq)
        have ho : ∀ a : Nat, (a < 34 ∨ 36 < a) → W a = U a := fun a ha => (ho2 a ha).trans (ho a ha)
        refine x_iload D_6_winter_121 rfl ?_
        refine x_iload_n D_6_winter_123 rfl ?_
        refine x_iconst D_6_winter_124 ?_
        refine x_icmp_ne D_6_winter_125 ⟨by omega, by omega⟩ ⟨by omega, by omega⟩ (fun c125 => ?_) (fun c125 => ?_)
        · refine x_iload_n D_6_winter_135 rfl ?_
          refine x_iload D_6_winter_136 rfl ?_
          refine x_icmp_ne D_6_winter_138 ⟨by omega, by omega⟩ ⟨by omega, by omega⟩ (fun c138 => ?_) (fun c138 => ?_)
          · refine x_iconst D_6_winter_148 ?_
            refine x_iadd D_6_winter_149 ?_
            refine x_istore D_6_winter_150 rfl rfl rfl ?_
            refine x_iinc D_6_winter_152 rfl rfl rfl rfl ?_
            refine x_goto D_6_winter_155 ?_
            first
            | (exfalso; omega)
            | exact (ih (k + 1) _ W (by omega) hm ho hf).sub (by simp only [winF, winOne]; rw [if_pos (Or.inl (by omega)), if_pos (by omega)]; rfl)
            | exact (ih (k + 1) _ W (by omega) hm ho hf).sub (by simp only [winF, winOne]; rw [if_pos (Or.inr (by omega)), if_neg (by omega)]; rfl)
            | exact (ih (k + 1) _ W (by omega) hm ho hf).sub (by simp only [winF, winOne]; rw [if_neg (fun q => by rcases q with q | q <;> omega)]; rfl)
          refine x_aload_n D_6_winter_141 rfl ?_
          refine x_getfield D_6_winter_142 f_6_213 (md_o hm) rfl ?_
          rw [w36]
          refine x_goto D_6_winter_145 ?_
          refine x_iadd D_6_winter_149 ?_
          refine x_istore D_6_winter_150 rfl rfl rfl ?_
          refine x_iinc D_6_winter_152 rfl rfl rfl rfl ?_
          refine x_goto D_6_winter_155 ?_
          first
          | (exfalso; omega)
          | exact (ih (k + 1) _ W (by omega) hm ho hf).sub (by simp only [winF, winOne]; rw [if_pos (Or.inl (by omega)), if_pos (by omega)]; rfl)
          | exact (ih (k + 1) _ W (by omega) hm ho hf).sub (by simp only [winF, winOne]; rw [if_pos (Or.inr (by omega)), if_neg (by omega)]; rfl)
          | exact (ih (k + 1) _ W (by omega) hm ho hf).sub (by simp only [winF, winOne]; rw [if_neg (fun q => by rcases q with q | q <;> omega)]; rfl)
        refine x_aload_n D_6_winter_128 rfl ?_
        refine x_getfield D_6_winter_129 f_6_210 (md_o hm) rfl ?_
        rw [w35, bst_worth]
        refine x_goto D_6_winter_132 ?_
        refine x_iadd D_6_winter_149 ?_
        refine x_istore D_6_winter_150 rfl rfl rfl ?_
        refine x_iinc D_6_winter_152 rfl rfl rfl rfl ?_
        refine x_goto D_6_winter_155 ?_
        first
        | (exfalso; omega)
        | exact (ih (k + 1) _ W (by omega) hm ho hf).sub (by simp only [winF, winOne]; rw [if_pos (Or.inl (by omega)), if_pos (by omega)]; rfl)
        | exact (ih (k + 1) _ W (by omega) hm ho hf).sub (by simp only [winF, winOne]; rw [if_pos (Or.inr (by omega)), if_neg (by omega)]; rfl)
        | exact (ih (k + 1) _ W (by omega) hm ho hf).sub (by simp only [winF, winOne]; rw [if_neg (fun q => by rcases q with q | q <;> omega)]; rfl)
    have hf : ∀ q : Nat, (q < 102 ∨ 128 < q) → h q = h q := fun _ _ => rfl
    refine x_iload_n D_6_winter_0 rfl ?_
    refine x_iconst D_6_winter_1 ?_
    refine x_sipush D_6_winter_2 (by decide +kernel) ?_
    refine x_invS2 (d' := d - 1) D_6_winter_5 l_6_111 mi_6_in (c_6_in (by omega) hz ⟨by omega, by omega⟩ ⟨by omega, by omega⟩)  rfl (by omega) rfl (fun q => q) rfl rfl (fun r5 h5 q5 => ?_)
    obtain ⟨rfl, rfl⟩ := q5
    refine x_if_eqb D_6_winter_8 (fun c8 => ?_) (fun c8 => ?_)
    · exact absurd hcz c8
    refine x_iload_n D_6_winter_11 rfl ?_
    refine x_iconst D_6_winter_12 ?_
    refine x_bipush D_6_winter_13 (by decide +kernel) ?_
    refine x_invS2 (d' := d - 1) D_6_winter_15 l_6_111 mi_6_in (c_6_in (by omega) hn ⟨by omega, by omega⟩ ⟨by omega, by omega⟩)  rfl (by omega) rfl (fun q => q) rfl rfl (fun r15 h15 q15 => ?_)
    obtain ⟨rfl, rfl⟩ := q15
    refine x_if_eqb D_6_winter_18 (fun c18 => ?_) (fun c18 => ?_)
    · exact absurd hcn c18
    refine x_iload_n D_6_winter_21 rfl ?_
    refine x_iconst D_6_winter_22 ?_
    refine x_icmp_eq D_6_winter_23 hi ⟨by omega, by omega⟩ (fun c23 => ?_) (fun c23 => ?_)
    · refine x_iconst D_6_winter_36 ?_
      refine x_istore D_6_winter_37 rfl rfl rfl ?_
      refine x_iconst D_6_winter_39 ?_
      refine x_istore D_6_winter_40 rfl rfl rfl ?_
      exact (loop n.toNat 0 h U (by omega) hm (fun _ _ => rfl) hf).sub rfl
    refine x_aload_n D_6_winter_26 rfl ?_
    refine x_iload_n D_6_winter_27 rfl ?_
    refine x_invV (d' := d - 1) D_6_winter_28 l_6_181 mi_6_isPerson (c_6_isPerson (by omega) hm hk t0 hi) (md_o hm) rfl rfl (by omega) rfl (fun q => q) rfl rfl (fun r28 h28 q28 => ?_)
    obtain ⟨rfl, rfl⟩ := q28
    refine x_if_neb D_6_winter_31 (fun c31 => ?_) (fun c31 => ?_)
    · refine x_iconst D_6_winter_36 ?_
      refine x_istore D_6_winter_37 rfl rfl rfl ?_
      refine x_iconst D_6_winter_39 ?_
      refine x_istore D_6_winter_40 rfl rfl rfl ?_
      exact (loop n.toNat 0 h U (by omega) hm (fun _ _ => rfl) hf).sub rfl
    exact absurd (hci.resolve_left c23) c31
  · skip
    refine x_iload_n D_6_winter_0 rfl ?_
    refine x_iconst D_6_winter_1 ?_
    refine x_sipush D_6_winter_2 (by decide +kernel) ?_
    refine x_invS2 (d' := d - 1) D_6_winter_5 l_6_111 mi_6_in (c_6_in (by omega) hz ⟨by omega, by omega⟩ ⟨by omega, by omega⟩)  rfl (by omega) rfl (fun q => q) rfl rfl (fun r5 h5 q5 => ?_)
    obtain ⟨rfl, rfl⟩ := q5
    refine x_if_eqb D_6_winter_8 (fun c8 => ?_) (fun c8 => ?_)
    · refine x_iconst D_6_winter_34 ?_
      refine x_ireturn D_6_winter_35 rfl (by first | rfl | exact nb_bi _ | decide +kernel) rfl ?_
      exact RQ.same hI0 (by unfold winA; rw [if_neg hc])
    refine x_iload_n D_6_winter_11 rfl ?_
    refine x_iconst D_6_winter_12 ?_
    refine x_bipush D_6_winter_13 (by decide +kernel) ?_
    refine x_invS2 (d' := d - 1) D_6_winter_15 l_6_111 mi_6_in (c_6_in (by omega) hn ⟨by omega, by omega⟩ ⟨by omega, by omega⟩)  rfl (by omega) rfl (fun q => q) rfl rfl (fun r15 h15 q15 => ?_)
    obtain ⟨rfl, rfl⟩ := q15
    refine x_if_eqb D_6_winter_18 (fun c18 => ?_) (fun c18 => ?_)
    · refine x_iconst D_6_winter_34 ?_
      refine x_ireturn D_6_winter_35 rfl (by first | rfl | exact nb_bi _ | decide +kernel) rfl ?_
      exact RQ.same hI0 (by unfold winA; rw [if_neg hc])
    refine x_iload_n D_6_winter_21 rfl ?_
    refine x_iconst D_6_winter_22 ?_
    refine x_icmp_eq D_6_winter_23 hi ⟨by omega, by omega⟩ (fun c23 => ?_) (fun c23 => ?_)
    · exact absurd ⟨c8, c18, Or.inl c23⟩ hc
    refine x_aload_n D_6_winter_26 rfl ?_
    refine x_iload_n D_6_winter_27 rfl ?_
    refine x_invV (d' := d - 1) D_6_winter_28 l_6_181 mi_6_isPerson (c_6_isPerson (by omega) hm hk t0 hi) (md_o hm) rfl rfl (by omega) rfl (fun q => q) rfl rfl (fun r28 h28 q28 => ?_)
    obtain ⟨rfl, rfl⟩ := q28
    refine x_if_neb D_6_winter_31 (fun c31 => ?_) (fun c31 => ?_)
    · exact absurd ⟨c8, c18, Or.inr c31⟩ hc
    refine x_iconst D_6_winter_34 ?_
    refine x_ireturn D_6_winter_35 rfl (by first | rfl | exact nb_bi _ | decide +kernel) rfl ?_
    exact RQ.same hI0 (by unfold winA; rw [if_neg hc])
end R15
