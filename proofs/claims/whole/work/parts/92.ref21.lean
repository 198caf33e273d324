section R21
variable {d : Nat} {z : Nat × Nat} {h : Hp} {b len : Int} {Bt : Int → Int} {T : TT} {st : SS} {u : Nat} {un : Nat → SS} {kc : Nat} {ke : Nat → SS}
theorem eatS_lead {T : TT} (hk : TabOk T) {st : SS} {k : Int} (hkk : 0 ≤ k ∧ k < T 9 0) : (eatS T st k) 4 = st 4 ∧ (eatS T st k) 3 = st 3 ∧ ∀ p : Int, 0 ≤ p → dryF (eatS T st k) p = if p = T 10 k then dryBy (st (11 + T 10 k)) (T 11 k) else st (11 + p) := by
  have k10 := (hk.2.2.2.2.2.2.2.2 k hkk.1 hkk.2).1
  refine ⟨?_, ?_, fun p hp => ?_⟩
  · unfold eatS
    rw [if_neg (by omega), if_neg (by omega)]
  · unfold eatS
    rw [if_neg (by omega), if_neg (by omega)]
  · show eatS T st k (11 + p) = _
    unfold eatS
    rw [if_neg (by omega)]
    by_cases e : p = T 10 k
    · rw [if_pos (by omega), if_pos e]
    · rw [if_neg (by omega), if_neg e]
theorem r_dish (hd : 5 ≤ d) (hI : RInv h len Bt T st u un kc ke) (hG : Glob b len Bt T st u un kc ke) {i j : Int} (hi : B3 i) (hj : B3 j) : Ct d m_6_dish [.ref 102, vi i, vi j] z z h (RQ (dishA T st i j) h len Bt T st u un kc ke) := by
  refine Ct.of (by decide) ⟨Nat.le_refl _, Nat.le_refl _⟩ (Nat.le_of_ble_eq_true rfl) ?_
  have hI0 := hI
  obtain ⟨U, hm, hF⟩ := hI
  obtain ⟨⟨hk, k00, k22⟩, hln, hBt, hu, hS⟩ := hG
  obtain ⟨⟨t0, t1, t2, t3, t4⟩, t5, t6, t7, t8, t9, t10, t11, t12⟩ := hF.tab
  have f2 := hF.2.1
  have k9 := hk.2.2.2.1
  have kk0 := hk.1
  have kd := hk.2.2.2.2.2.2.2.2
  have s6 := hS.2.2.2.2.2.2.1
  obtain ⟨k0, hsh, hk0⟩ : ∃ k0 : Nat, st 3 = (k0 : Int) ∧ k0 < 2 ^ nGr T := by
    obtain ⟨k, q1, q2⟩ := hS.2.2.2.1
    exact ⟨k, q2, q1⟩
  by_cases hc : dishC T i j
  · have hv : dishA T st i j = (dishF T st i j (T 9 0).toNat).2 := by unfold dishA; rw [if_pos hc]
    rw [hv]
    obtain ⟨hci, hcj, hij⟩ := hc
    have loop : ∀ (n k : Nat) (hh : Hp) (V : TT), k + n = (T 9 0).toNat → MdAt hh V → (∀ a : Nat, (a < 37 ∨ 39 < a) → V a = U a) → (∀ q : Nat, (q < 102 ∨ 128 < q) → hh q = h q) →
        WW d m_6_dish z (RQ (dishF T st i j (T 9 0).toNat).2 h len Bt T st u un kc ke) z hh 41 [(0, .ref 102), (1, vi i), (2, vi j), (3, vi (dishF T st i j k).1), (4, vi (dishF T st i j k).2), (5, vi (k : Int))] [] := by
      intro n
      induction n with
      | zero =>
        intro k hh V hn hm ho hf
        obtain rfl : k = (T 9 0).toNat := by omega
        have v3 : V 3 0 = T 9 0 := (congrFun (ho 3 (by omega)) 0).trans t3
        refine x_iload D_6_dish_41 rfl ?_
        refine x_aload_n D_6_dish_43 rfl ?_
        refine x_getfield D_6_dish_44 f_6_165 (md_o hm) rfl ?_
        rw [v3]
        refine x_icmp_ge D_6_dish_47 ⟨by omega, by omega⟩ ⟨by omega, by omega⟩ (fun c47 => ?_) (fun c47 => ?_)
        · refine x_iload D_6_dish_144 rfl ?_
          refine x_ireturn D_6_dish_146 rfl (by first | rfl | exact nb_bi _ | decide +kernel) rfl ?_
          exact ⟨rfl, hF.keep hm (fun a ha => ho a (by omega)), hf⟩
        exact absurd c47 (by omega)
      | succ n ih =>
        intro k hh V hn hm ho hf
        have hkn : (k : Int) < T 9 0 := by omega
        have v3 : V 3 0 = T 9 0 := (congrFun (ho 3 (by omega)) 0).trans t3
        have v0 : V 0 0 = T 0 0 := (congrFun (ho 0 (by omega)) 0).trans t0
        have v13 : V 13 = st := (ho 13 (by omega)).trans f2
        have kdk := kd (k : Int) (by omega) hkn
        have s6k := s6 (T 10 (k : Int)) kdk.1.1 kdk.1.2
        obtain ⟨x4, x3, xd⟩ := eatS_lead hk (st := st) (k := (k : Int)) ⟨by omega, hkn⟩
        have hrng := dishF_rng hk st i j k
        have hrng2 := lead_rng hk (eatS T st (k : Int)) i j
        have hbl := bes_lead hk (eatS T st (k : Int)) hij
        rw [x4, x3] at hbl
        refine x_iload D_6_dish_41 rfl ?_
        refine x_aload_n D_6_dish_43 rfl ?_
        refine x_getfield D_6_dish_44 f_6_165 (md_o hm) rfl ?_
        rw [v3]
        refine x_icmp_ge D_6_dish_47 ⟨by omega, by omega⟩ ⟨by omega, by omega⟩ (fun c47 => ?_) (fun c47 => ?_)
        · exact absurd c47 (by omega)
        refine x_aload_n D_6_dish_50 rfl ?_
        refine x_getfield D_6_dish_51 f_6_34 (md_o hm) rfl ?_
        refine x_iconst D_6_dish_54 ?_
        refine x_iaload D_6_dish_55 (md_a13 hm) (by omega) (by omega) rfl ?_
        rw [v13]
        refine x_iload D_6_dish_56 rfl ?_
        refine x_invS2 (d' := d - 1) D_6_dish_58 l_6_177 mi_6_has (c_6_has (by omega))  rfl (by omega) rfl (fun q => q) rfl rfl (fun r58 h58 q58 => ?_)
        obtain ⟨rfl, rfl⟩ := q58
        refine x_if_neb D_6_dish_61 (fun c61 => ?_) (fun c61 => ?_)
        · refine x_iinc D_6_dish_138 rfl rfl rfl rfl ?_
          refine x_goto D_6_dish_141 ?_
          exact (ih (k + 1) hh V (by omega) hm ho hf).sub (by rw [dishF_f (fun q => q.1 c61)]; rfl)
        refine x_aload_n D_6_dish_64 rfl ?_
        refine x_invV (d' := d - 1) D_6_dish_65 l_6_230 mi_6_layMouths (c_6_layMouths (by omega) hm v0 hk v13) (md_o hm) rfl rfl (by omega) rfl (fun q => q) rfl rfl (fun r65 h65 q65 => ?_)
        obtain ⟨rfl, ⟨V2, hm, v38, vo⟩, hf2⟩ := q65
        have hf : ∀ q : Nat, (q < 102 ∨ 128 < q) → h65 q = h q := fun q hq => (hf2 q hq).trans (hf q hq)
        have o2 : ∀ a : Nat, (a < 37 ∨ 39 < a) → V2 a = U a := fun a ha => (vo a (by omega)).trans (ho a ha)
        have v11 : V2 11 (k : Int) = T 10 (k : Int) := (congrFun (o2 11 (by omega)) _).trans (t11 _ (by omega) hkn)
        have v12 : V2 12 (k : Int) = T 11 (k : Int) := (congrFun (o2 12 (by omega)) _).trans (t12 _ (by omega) hkn)
        have v38k := v38 (T 10 (k : Int)) kdk.1.1 kdk.1.2
        refine x_aload_n D_6_dish_68 rfl ?_
        refine x_getfield D_6_dish_69 f_6_73 (md_o hm) rfl ?_
        refine x_aload_n D_6_dish_72 rfl ?_
        refine x_getfield D_6_dish_73 f_6_28 (md_o hm) rfl ?_
        refine x_iload D_6_dish_76 rfl ?_
        refine x_iaload D_6_dish_78 (md_a11 hm) (by omega) (by omega) rfl ?_
        rw [v11]
        refine x_aload_n D_6_dish_79 rfl ?_
        refine x_getfield D_6_dish_80 f_6_73 (md_o hm) rfl ?_
        refine x_aload_n D_6_dish_83 rfl ?_
        refine x_getfield D_6_dish_84 f_6_28 (md_o hm) rfl ?_
        refine x_iload D_6_dish_87 rfl ?_
        refine x_iaload D_6_dish_89 (md_a11 hm) (by omega) (by omega) rfl ?_
        rw [v11]
        refine x_iaload D_6_dish_90 (md_a38 hm) (by omega) (by omega) rfl ?_
        rw [v38k]
        refine x_aload_n D_6_dish_91 rfl ?_
        refine x_getfield D_6_dish_92 f_6_31 (md_o hm) rfl ?_
        refine x_iload D_6_dish_95 rfl ?_
        refine x_iaload D_6_dish_97 (md_a12 hm) (by omega) (by omega) rfl ?_
        rw [v12]
        refine x_invS2 (d' := d - 1) D_6_dish_98 l_6_203 mi_6_dryBy (c_6_dryBy (by omega) (by omega) (by omega))  rfl (by omega) rfl (fun q => q) rfl rfl (fun r98 h98 q98 => ?_)
        obtain ⟨rfl, rfl⟩ := q98
        refine x_iastore D_6_dish_101 (md_a38 hm) (by omega) (by omega) rfl (fun h101 e101 n101 => ?_)
        replace hm := md_s38 hm e101 n101
        replace hf := fun q hq => (n101 q (by omega)).trans (hf q hq)
        have hMt : MtF (upr V2 38 (ups (V2 38) (T 10 (k : Int)) (dryBy (st (11 + T 10 (k : Int))) (T 11 (k : Int))))) T (dryF (eatS T st (k : Int))) st := by
          unfold MtF
          rw [upr_ne _ _ (by omega), upr_ne _ _ (by omega), upr_ne _ _ (by omega), upr_ne _ _ (by omega), upr_ne _ _ (by omega), upr_ne _ _ (by omega), upr_ne _ _ (by omega), upr_eq, o2 1 (by omega), o2 2 (by omega), o2 6 (by omega), o2 7 (by omega), o2 8 (by omega), o2 9 (by omega), o2 13 (by omega)]
          refine ⟨⟨t1, t2⟩, t6, fun s s0 s1 => ⟨t7 s s0 s1, t8 s s0 s1, t9 s s0 s1⟩, f2, fun p p0 p1 => ?_⟩
          rw [xd p p0]
          by_cases e : p = T 10 (k : Int)
          · rw [if_pos e, e, ups_eq]
            exact ⟨rfl, dryBy_rng _ _⟩
          · rw [if_neg e, ups_ne _ _ e]
            exact ⟨v38 p p0 p1, hS.dr p p0 p1⟩
        refine x_aload_n D_6_dish_102 rfl ?_
        refine x_iload_n D_6_dish_103 rfl ?_
        refine x_iload_n D_6_dish_104 rfl ?_
        refine x_invV (d' := d - 1) D_6_dish_105 l_6_255 mi_6_beside (c_6_beside (by omega) hm hMt hk hsh hk0 hci hcj) (md_o hm) rfl rfl (by omega) rfl (fun q => q) rfl rfl (fun r105 h105 q105 => ?_)
        rw [← hbl] at q105
        obtain ⟨rfl, ⟨W, hm, wo⟩, hf3⟩ := q105
        have hf : ∀ q : Nat, (q < 102 ∨ 128 < q) → h105 q = h q := fun q hq => (hf3 q hq).trans (hf q hq)
        have o3 : ∀ a : Nat, (a < 37 ∨ 39 < a) → W a = U a := fun a ha => (wo a (by omega) (by omega)).trans ((upr_ne _ _ (by omega)).trans (o2 a ha))
        refine x_istore D_6_dish_108 rfl rfl rfl ?_
        refine x_iload D_6_dish_110 rfl ?_
        refine x_iload_n D_6_dish_112 rfl ?_
        refine x_icmp_le D_6_dish_113 ⟨by omega, by omega⟩ ⟨by omega, by omega⟩ (fun c113 => ?_) (fun c113 => ?_)
        · refine x_iload D_6_dish_121 rfl ?_
          refine x_istore D_6_dish_123 rfl rfl rfl ?_
          refine x_iload D_6_dish_125 rfl ?_
          refine x_iload_n D_6_dish_127 rfl ?_
          refine x_icmp_le D_6_dish_128 ⟨by omega, by omega⟩ ⟨by omega, by omega⟩ (fun c128 => ?_) (fun c128 => ?_)
          · refine x_iload_n D_6_dish_136 rfl ?_
            refine x_istore_n D_6_dish_137 rfl rfl rfl ?_
            first
            | (exfalso; omega)
            | (refine x_iinc D_6_dish_138 rfl rfl rfl rfl ?_; refine x_goto D_6_dish_141 ?_; exact (ih (k + 1) _ W (by omega) hm o3 hf).sub (by rw [dishF_t ⟨c61, by omega⟩]; rfl))
            | (refine x_iinc D_6_dish_138 rfl rfl rfl rfl ?_; refine x_goto D_6_dish_141 ?_; exact (ih (k + 1) _ W (by omega) hm o3 hf).sub (by rw [dishF_f (fun q => absurd q.2 (by omega))]; rfl))
          refine x_iload D_6_dish_131 rfl ?_
          refine x_goto D_6_dish_133 ?_
          refine x_istore_n D_6_dish_137 rfl rfl rfl ?_
          first
          | (exfalso; omega)
          | (refine x_iinc D_6_dish_138 rfl rfl rfl rfl ?_; refine x_goto D_6_dish_141 ?_; exact (ih (k + 1) _ W (by omega) hm o3 hf).sub (by rw [dishF_t ⟨c61, by omega⟩]; rfl))
          | (refine x_iinc D_6_dish_138 rfl rfl rfl rfl ?_; refine x_goto D_6_dish_141 ?_; exact (ih (k + 1) _ W (by omega) hm o3 hf).sub (by rw [dishF_f (fun q => absurd q.2 (by omega))]; rfl))
        refine x_iload D_6_dish_116 rfl ?_
        refine x_goto D_6_dish_118 ?_
        refine x_istore D_6_dish_123 rfl rfl rfl ?_
        refine x_iload D_6_dish_125 rfl ?_
        refine x_iload_n D_6_dish_127 rfl ?_
        refine x_icmp_le D_6_dish_128 ⟨by omega, by omega⟩ ⟨by omega, by omega⟩ (fun c128 => ?_) (fun c128 => ?_)
        · refine x_iload_n D_6_dish_136 rfl ?_
          refine x_istore_n D_6_dish_137 rfl rfl rfl ?_
          first
          | (exfalso; omega)
          | (refine x_iinc D_6_dish_138 rfl rfl rfl rfl ?_; refine x_goto D_6_dish_141 ?_; exact (ih (k + 1) _ W (by omega) hm o3 hf).sub (by rw [dishF_t ⟨c61, by omega⟩]; rfl))
          | (refine x_iinc D_6_dish_138 rfl rfl rfl rfl ?_; refine x_goto D_6_dish_141 ?_; exact (ih (k + 1) _ W (by omega) hm o3 hf).sub (by rw [dishF_f (fun q => absurd q.2 (by omega))]; rfl))
        refine x_iload D_6_dish_131 rfl ?_
        refine x_goto D_6_dish_133 ?_
        refine x_istore_n D_6_dish_137 rfl rfl rfl ?_
        first
        | (exfalso; omega)
        | (refine x_iinc D_6_dish_138 rfl rfl rfl rfl ?_; refine x_goto D_6_dish_141 ?_; exact (ih (k + 1) _ W (by omega) hm o3 hf).sub (by rw [dishF_t ⟨c61, by omega⟩]; rfl))
        | (refine x_iinc D_6_dish_138 rfl rfl rfl rfl ?_; refine x_goto D_6_dish_141 ?_; exact (ih (k + 1) _ W (by omega) hm o3 hf).sub (by rw [dishF_f (fun q => absurd q.2 (by omega))]; rfl))
    have hbl0 := bes_lead hk st hij
    refine x_aload_n D_6_dish_0 rfl ?_
    refine x_iload_n D_6_dish_1 rfl ?_
    refine x_invV (d' := d - 1) D_6_dish_2 l_6_181 mi_6_isPerson (c_6_isPerson (by omega) hm hk t0 hi) (md_o hm) rfl rfl (by omega) rfl (fun q => q) rfl rfl (fun r2 h2 q2 => ?_)
    obtain ⟨rfl, rfl⟩ := q2
    refine x_if_eqb D_6_dish_5 (fun c5 => ?_) (fun c5 => ?_)
    · exact absurd hci c5
    refine x_aload_n D_6_dish_8 rfl ?_
    refine x_iload_n D_6_dish_9 rfl ?_
    refine x_invV (d' := d - 1) D_6_dish_10 l_6_181 mi_6_isPerson (c_6_isPerson (by omega) hm hk t0 hj) (md_o hm) rfl rfl (by omega) rfl (fun q => q) rfl rfl (fun r10 h10 q10 => ?_)
    obtain ⟨rfl, rfl⟩ := q10
    refine x_if_eqb D_6_dish_13 (fun c13 => ?_) (fun c13 => ?_)
    · exact absurd hcj c13
    refine x_iload_n D_6_dish_16 rfl ?_
    refine x_iload_n D_6_dish_17 rfl ?_
    refine x_icmp_ne D_6_dish_18 ⟨by omega, by omega⟩ ⟨by omega, by omega⟩ (fun c18 => ?_) (fun c18 => ?_)
    · refine x_aload_n D_6_dish_23 rfl ?_
      refine x_invV (d' := d - 1) D_6_dish_24 l_6_230 mi_6_layMouths (c_6_layMouths (by omega) hm t0 hk f2) (md_o hm) rfl rfl (by omega) rfl (fun q => q) rfl rfl (fun r24 h24 q24 => ?_)
      obtain ⟨rfl, ⟨V, hm, v38, vo⟩, hf⟩ := q24
      have hMt : MtF V T (dryF st) st := MtF.mk hF hS v38 vo
      refine x_aload_n D_6_dish_27 rfl ?_
      refine x_iload_n D_6_dish_28 rfl ?_
      refine x_iload_n D_6_dish_29 rfl ?_
      refine x_invV (d' := d - 1) D_6_dish_30 l_6_255 mi_6_beside (c_6_beside (by omega) hm hMt hk hsh hk0 hci hcj) (md_o hm) rfl rfl (by omega) rfl (fun q => q) rfl rfl (fun r30 h30 q30 => ?_)
      rw [← hbl0] at q30
      obtain ⟨rfl, ⟨W, hm, wo⟩, hf3⟩ := q30
      refine x_istore_n D_6_dish_33 rfl rfl rfl ?_
      refine x_bipush D_6_dish_34 (by decide +kernel) ?_
      refine x_istore D_6_dish_36 rfl rfl rfl ?_
      refine x_iconst D_6_dish_38 ?_
      refine x_istore D_6_dish_39 rfl rfl rfl ?_
      exact (loop (T 9 0).toNat 0 h30 W (by omega) hm (fun a ha => (wo a (by omega) (by omega)).trans (vo a (by omega))) (fun q hq => (hf3 q hq).trans (hf q hq))).sub rfl
    exact absurd c18 hij
  · skip
    refine x_aload_n D_6_dish_0 rfl ?_
    refine x_iload_n D_6_dish_1 rfl ?_
    refine x_invV (d' := d - 1) D_6_dish_2 l_6_181 mi_6_isPerson (c_6_isPerson (by omega) hm hk t0 hi) (md_o hm) rfl rfl (by omega) rfl (fun q => q) rfl rfl (fun r2 h2 q2 => ?_)
    obtain ⟨rfl, rfl⟩ := q2
    refine x_if_eqb D_6_dish_5 (fun c5 => ?_) (fun c5 => ?_)
    · refine x_iconst D_6_dish_21 ?_
      refine x_ireturn D_6_dish_22 rfl (by first | rfl | exact nb_bi _ | decide +kernel) rfl ?_
      exact RQ.same hI0 (by unfold dishA; rw [if_neg hc])
    refine x_aload_n D_6_dish_8 rfl ?_
    refine x_iload_n D_6_dish_9 rfl ?_
    refine x_invV (d' := d - 1) D_6_dish_10 l_6_181 mi_6_isPerson (c_6_isPerson (by omega) hm hk t0 hj) (md_o hm) rfl rfl (by omega) rfl (fun q => q) rfl rfl (fun r10 h10 q10 => ?_)
    obtain ⟨rfl, rfl⟩ := q10
    refine x_if_eqb D_6_dish_13 (fun c13 => ?_) (fun c13 => ?_)
    · refine x_iconst D_6_dish_21 ?_
      refine x_ireturn D_6_dish_22 rfl (by first | rfl | exact nb_bi _ | decide +kernel) rfl ?_
      exact RQ.same hI0 (by unfold dishA; rw [if_neg hc])
    refine x_iload_n D_6_dish_16 rfl ?_
    refine x_iload_n D_6_dish_17 rfl ?_
    refine x_icmp_ne D_6_dish_18 ⟨by omega, by omega⟩ ⟨by omega, by omega⟩ (fun c18 => ?_) (fun c18 => ?_)
    · exact absurd ⟨c5, c13, c18⟩ hc
    refine x_iconst D_6_dish_21 ?_
    refine x_ireturn D_6_dish_22 rfl (by first | rfl | exact nb_bi _ | decide +kernel) rfl ?_
    exact RQ.same hI0 (by unfold dishA; rw [if_neg hc])
end R21
