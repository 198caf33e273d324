theorem layS_ag {T V : TT} (h : AgT T V) : layS T = layS V := by
  obtain ⟨⟨h0, h2, -⟩, a, -⟩ := h
  funext q
  unfold layS
  rw [← h2, ← h0]
  by_cases e : 11 ≤ q ∧ q < 16
  · rw [if_pos e, if_pos e]
    by_cases e2 : q < 11 + T 0 0
    · rw [if_pos e2, if_pos e2, a _ (by omega) (by omega)]
    · rw [if_neg e2, if_neg e2]
  · rw [if_neg e, if_neg e]
section R12
variable {d : Nat} {z : Nat × Nat} {h : Hp} {b len : Int} {Bt : Int → Int} {T : TT} {st : SS} {u : Nat} {un : Nat → SS} {kc : Nat} {ke : Nat → SS}
def LaQ (h0 : Hp) (U T : TT) : Option Value → Hp → Prop := fun r h' => r = none ∧ (∃ W : TT, MdAt h' W ∧ AgT T (tbU W) ∧ W 13 = layS T ∧ W 15 0 = 0 ∧ W 17 0 = 0 ∧ W 18 = U 18 ∧ W 19 = U 19) ∧ ∀ q : Nat, (q < 102 ∨ 128 < q) → h' q = h0 q
theorem c_6_lays (hd : 0 ≤ d) {U : TT} (hm : MdAt h U) (hk : TabOk T) (hT : AgT T (sdU U)) : Ct d m_6_lays [.ref 102] z z h (LaQ h U T) := by
  refine Ct.of (by decide) ⟨Nat.le_refl _, Nat.le_refl _⟩ (Nat.le_of_ble_eq_true rfl) ?_
  obtain ⟨⟨s0, s2, s4, s9, s12⟩, ta, tb, tc, te⟩ := hT
  have x21 : U 21 0 = T 0 0 := s0.symm
  have x22 : U 22 0 = T 2 0 := s2.symm
  have x23 : U 23 0 = T 4 0 := s4.symm
  have x24 : U 24 0 = T 9 0 := s9.symm
  have x25 : U 25 0 = T 12 0 := s12.symm
  have k0 := hk.1
  have k2 := hk.2.1
  have k4 := hk.2.2.1
  have k9 := hk.2.2.2.1
  have hf : ∀ q : Nat, (q < 102 ∨ 128 < q) → h q = h q := fun _ _ => rfl
  refine x_aload_n D_6_lays_0 rfl ?_
  refine x_aload_n D_6_lays_1 rfl ?_
  refine x_getfield D_6_lays_2 f_6_91 (md_o hm) rfl ?_
  rw [x21]
  refine x_putI D_6_lays_5 f_6_108 (md_o hm) (by decide +kernel) rfl (fun h5 e5 n5 => ?_)
  replace hm := md_p0 hm e5 n5
  replace hf := fun q hq => (n5 q (by omega)).trans (hf q hq)
  refine x_aload_n D_6_lays_8 rfl ?_
  refine x_aload_n D_6_lays_9 rfl ?_
  refine x_getfield D_6_lays_10 f_6_95 (md_o hm) rfl ?_
  try simp only [upr, Nat.reduceEqDiff, ↓reduceIte]
  rw [x22]
  refine x_putI D_6_lays_13 f_6_115 (md_o hm) (by decide +kernel) rfl (fun h13 e13 n13 => ?_)
  replace hm := md_p1 hm e13 n13
  try simp only [upr, Nat.reduceEqDiff, ↓reduceIte] at hm
  replace hf := fun q hq => (n13 q (by omega)).trans (hf q hq)
  refine x_aload_n D_6_lays_16 rfl ?_
  refine x_aload_n D_6_lays_17 rfl ?_
  refine x_getfield D_6_lays_18 f_6_98 (md_o hm) rfl ?_
  try simp only [upr, Nat.reduceEqDiff, ↓reduceIte]
  rw [x23]
  refine x_putI D_6_lays_21 f_6_118 (md_o hm) (by decide +kernel) rfl (fun h21 e21 n21 => ?_)
  replace hm := md_p2 hm e21 n21
  try simp only [upr, Nat.reduceEqDiff, ↓reduceIte] at hm
  replace hf := fun q hq => (n21 q (by omega)).trans (hf q hq)
  refine x_aload_n D_6_lays_24 rfl ?_
  refine x_aload_n D_6_lays_25 rfl ?_
  refine x_getfield D_6_lays_26 f_6_129 (md_o hm) rfl ?_
  try simp only [upr, Nat.reduceEqDiff, ↓reduceIte]
  rw [x24]
  refine x_putI D_6_lays_29 f_6_165 (md_o hm) (by decide +kernel) rfl (fun h29 e29 n29 => ?_)
  replace hm := md_p3 hm e29 n29
  try simp only [upr, Nat.reduceEqDiff, ↓reduceIte] at hm
  replace hf := fun q hq => (n29 q (by omega)).trans (hf q hq)
  refine x_aload_n D_6_lays_32 rfl ?_
  refine x_aload_n D_6_lays_33 rfl ?_
  refine x_getfield D_6_lays_34 f_6_132 (md_o hm) rfl ?_
  try simp only [upr, Nat.reduceEqDiff, ↓reduceIte]
  rw [x25]
  refine x_putI D_6_lays_37 f_6_168 (md_o hm) (by decide +kernel) rfl (fun h37 e37 n37 => ?_)
  replace hm := md_p4 hm e37 n37
  try simp only [upr, Nat.reduceEqDiff, ↓reduceIte] at hm
  replace hf := fun q hq => (n37 q (by omega)).trans (hf q hq)
  obtain ⟨V0, hm, ⟨a0, a1, a2, a3, a4⟩, ho0⟩ : ∃ V0 : TT, MdAt h37 V0 ∧ (V0 0 0 = T 0 0 ∧ V0 1 0 = T 2 0 ∧ V0 2 0 = T 4 0 ∧ V0 3 0 = T 9 0 ∧ V0 4 0 = T 12 0) ∧ ∀ a : Nat, 4 < a → V0 a = U a := ⟨_, hm, ⟨rfl, rfl, rfl, rfl, rfl⟩, fun a ha => (upr_ne _ _ (by omega)).trans ((upr_ne _ _ (by omega)).trans ((upr_ne _ _ (by omega)).trans ((upr_ne _ _ (by omega)).trans (upr_ne _ _ (by omega)))))⟩
  refine ly_A hm hf (fun hA V1 hm hx1 ho1 hf => ?_)
  have v1 : V1 1 0 = T 2 0 := (congrFun (ho1 1 (by omega)) 0).trans a1
  refine x_aload_n D_6_lays_61 rfl ?_
  refine x_getfield D_6_lays_62 f_6_34 (md_o hm) rfl ?_
  refine x_iconst D_6_lays_65 ?_
  refine x_bipush D_6_lays_66 (by decide +kernel) ?_
  refine x_iastore D_6_lays_68 (md_a13 hm) (by omega) (by omega) rfl (fun h68 e68 n68 => ?_)
  replace hm := md_s13 hm e68 n68
  replace hf := fun q hq => (n68 q (by omega)).trans (hf q hq)
  refine x_aload_n D_6_lays_69 rfl ?_
  refine x_getfield D_6_lays_70 f_6_34 (md_o hm) rfl ?_
  refine x_iconst D_6_lays_73 ?_
  refine x_iconst D_6_lays_74 ?_
  refine x_aload_n D_6_lays_75 rfl ?_
  refine x_getfield D_6_lays_76 f_6_115 (md_o hm) rfl ?_
  try simp only [upr, Nat.reduceEqDiff, ↓reduceIte]
  rw [v1]
  refine x_ishl D_6_lays_79 ?_
  refine x_iconst D_6_lays_80 ?_
  refine x_isub D_6_lays_81 ?_
  refine x_iastore D_6_lays_82 (md_a13 hm) (by omega) (by omega) rfl (fun h82 e82 n82 => ?_)
  replace hm := md_s13 hm e82 n82
  try simp only [upr, Nat.reduceEqDiff, ↓reduceIte] at hm
  try rw [upr_upr] at hm
  replace hf := fun q hq => (n82 q (by omega)).trans (hf q hq)
  obtain ⟨V2, hm, hV2, ho2⟩ : ∃ V2 : TT, MdAt h82 V2 ∧ V2 13 = ups (ups (V1 13) 1 (-4)) 3 (iShl 1 (T 2 0) - 1) ∧ ∀ a : Nat, a ≠ 13 → V2 a = V1 a := ⟨_, hm, rfl, fun a ha => upr_ne _ _ ha⟩
  have v20 : V2 0 0 = (((T 0 0).toNat : Nat) : Int) := by rw [ho2 0 (by omega), ho1 0 (by omega), a0]; omega
  refine ly_B hm hf (n := (T 0 0).toNat) (by omega) v20 (fun hB V3 hm hx3 hy3 ho3 hf => ?_)
  have v31 : V3 1 0 = (((T 2 0).toNat : Nat) : Int) := by rw [ho3 1 (by omega) (by omega), ho2 1 (by omega), ho1 1 (by omega), a1]; omega
  refine ly_C hm hf (n := (T 2 0).toNat) (by omega) v31 (fun hC V4 hm hx4 ho4 hf => ?_)
  refine ly_D hm hf (fun hD V5 hm hx5 hy5 ho5 hf => ?_)
  refine ly_E hm hf (fun hE V6 hm hx6 ho6 hf => ?_)
  have old : ∀ a : Nat, 13 < a → V6 a = U a := fun a ha => (ho6 a (by omega) (by omega)).trans ((ho5 a (by omega) (by omega)).trans ((ho4 a (by omega)).trans ((ho3 a (by omega) (by omega)).trans ((ho2 a (by omega)).trans ((ho1 a (by omega)).trans (ho0 a (by omega)))))))
  have c : ∀ a : Nat, a < 5 → V6 a = V0 a := fun a ha => (ho6 a (by omega) (by omega)).trans ((ho5 a (by omega) (by omega)).trans ((ho4 a (by omega)).trans ((ho3 a (by omega) (by omega)).trans ((ho2 a (by omega)).trans (ho1 a (by omega))))))
  have o2 : ∀ a : Nat, 13 < a → V2 a = U a := fun a ha => (ho2 a (by omega)).trans ((ho1 a (by omega)).trans (ho0 a (by omega)))
  have o3 : ∀ a : Nat, 13 < a → V3 a = U a := fun a ha => (ho3 a (by omega) (by omega)).trans (o2 a ha)
  have o4 : ∀ a : Nat, 13 < a → V4 a = U a := fun a ha => (ho4 a (by omega)).trans (o3 a ha)
  have o5 : ∀ a : Nat, 13 < a → V5 a = U a := fun a ha => (ho5 a (by omega) (by omega)).trans (o4 a ha)
  have h13 : ∀ x : Int, 0 ≤ x → x < 23 → V6 13 x = layS T x := by
    intro x x0 x1
    rw [ho6 13 (by omega) (by omega), hy5 x, ho4 13 (by omega), hy3 x x0, hV2, o2 26 (by omega)]
    unfold layS
    by_cases e16 : 16 ≤ x
    · rw [if_pos ⟨e16, x1⟩, if_neg (by omega), if_neg (by omega), if_neg (by omega), if_pos e16]
    · rw [if_neg (by omega)]
      by_cases e11 : 11 ≤ x
      · by_cases en : x < 11 + (((T 0 0).toNat : Nat) : Int)
        · rw [if_pos ⟨e11, en⟩, if_neg (by omega), if_neg (by omega), if_pos (by omega), if_pos (by omega)]
          exact (ta (x - 11) (by omega) (by omega)).symm
        · rw [if_neg (by omega), if_neg (by omega), if_neg (by omega), if_pos (by omega), if_neg (by omega), ups_ne _ _ (by omega), ups_ne _ _ (by omega)]
          exact hx1 x x0 x1
      · rw [if_neg (by omega)]
        by_cases e3 : x = 3
        · rw [e3, ups_eq, if_neg (by omega), if_pos rfl]
        · rw [ups_ne _ _ e3]
          by_cases e1 : x = 1
          · rw [e1, ups_eq, if_pos rfl]
          · rw [ups_ne _ _ e1, if_neg e1, if_neg e3, if_neg (by omega), if_neg e16]
            exact hx1 x x0 x1
  have hag : AgT T (tbU V6) := by
    refine ⟨⟨?_, ?_, ?_, ?_, ?_⟩, fun i i0 i1 => ?_, fun i i0 i1 => ?_, fun i i0 i1 => ?_, fun i i0 i1 => ?_⟩
    · show T 0 0 = V6 0 0; rw [c 0 (by omega), a0]
    · show T 2 0 = V6 1 0; rw [c 1 (by omega), a1]
    · show T 4 0 = V6 2 0; rw [c 2 (by omega), a2]
    · show T 9 0 = V6 3 0; rw [c 3 (by omega), a3]
    · show T 12 0 = V6 4 0; rw [c 4 (by omega), a4]
    · show T 1 i = V6 5 i
      rw [ho6 5 (by omega) (by omega), ho5 5 (by omega) (by omega), ho4 5 (by omega), hx3 i i0 (by omega), o2 26 (by omega)]
      exact ta i i0 i1
    · show T 3 i = V6 6 i
      rw [ho6 6 (by omega) (by omega), ho5 6 (by omega) (by omega), hx4 i i0 (by omega), o3 27 (by omega)]
      exact tb i i0 i1
    · show T 5 i = V6 7 i ∧ T 6 i = V6 8 i ∧ T 7 i = V6 9 i ∧ T 8 i = V6 10 i
      obtain ⟨w1, w2, w3, w4⟩ := hx5 i i0 (by omega)
      rw [ho6 7 (by omega) (by omega), ho6 8 (by omega) (by omega), ho6 9 (by omega) (by omega), ho6 10 (by omega) (by omega), w1, w2, w3, w4, o4 28 (by omega), o4 29 (by omega), o4 30 (by omega), o4 31 (by omega)]
      exact tc i i0 i1
    · show T 10 i = V6 11 i ∧ T 11 i = V6 12 i
      obtain ⟨w1, w2⟩ := hx6 i i0 (by omega)
      rw [w1, w2, o5 32 (by omega), o5 33 (by omega)]
      exact te i i0 i1
  refine x_aload_n D_6_lays_264 rfl ?_
  refine x_iconst D_6_lays_265 ?_
  refine x_putI D_6_lays_266 f_6_171 (md_o hm) (by decide +kernel) rfl (fun h266 e266 n266 => ?_)
  replace hm := md_p15 hm e266 n266
  replace hf := fun q hq => (n266 q (by omega)).trans (hf q hq)
  refine x_aload_n D_6_lays_269 rfl ?_
  refine x_iconst D_6_lays_270 ?_
  refine x_putI D_6_lays_271 f_6_174 (md_o hm) (by decide +kernel) rfl (fun h271 e271 n271 => ?_)
  replace hm := md_p17 hm e271 n271
  try simp only [upr, Nat.reduceEqDiff, ↓reduceIte] at hm
  replace hf := fun q hq => (n271 q (by omega)).trans (hf q hq)
  refine x_return D_6_lays_274 rfl rfl ?_
  refine ⟨rfl, ⟨_, md_reb hm (G := layS T) h13, ?_, rfl, rfl, rfl, ?_, ?_⟩, hf⟩
  · rw [tbU_same (U := V6) (fun a ha => (upr_ne _ _ (by omega)).trans ((upr_ne _ _ (by omega)).trans (upr_ne _ _ (by omega))))]; exact hag
  · exact old 18 (by omega)
  · exact old 19 (by omega)
theorem r_fault (hd : 5 ≤ d) (hI : RInv h len Bt T st u un kc ke) (hG : Glob b len Bt T st u un kc ke) : Ct d m_6_fault [.ref 102] z z h (fun r h' => ∃ (f : Int) (T0 : TT), Told Bt len f T0 ∧ RQ f h len Bt T st u un kc ke r h') := by
  refine Ct.of (by decide) ⟨Nat.le_refl _, Nat.le_refl _⟩ (Nat.le_of_ble_eq_true rfl) ?_
  obtain ⟨U, hm, hF⟩ := hI
  obtain ⟨⟨hk, k00, k22⟩, hln, hBt, hu, hS⟩ := hG
  obtain ⟨f1, f2, ⟨f3, f4, f5⟩, f6, f7, f8⟩ := id hF
  refine x_aload_n D_6_fault_0 rfl ?_
  refine x_invV (d' := d - 1) D_6_fault_1 l_6_162 mi_6_findFault (c_6_findFault (by omega) hm ⟨f5, f8⟩ hln hBt) (md_o hm) rfl rfl (by omega) rfl (fun q => q) rfl rfl (fun r1 h1 q1 => ?_)
  obtain ⟨⟨f, T0, W, w1, rfl, w3, w4, w5⟩, hf⟩ := q1
  refine x_ireturn D_6_fault_4 rfl (by first | rfl | exact nb_bi _ | decide +kernel) rfl ?_
  refine ⟨f, T0, w1, rfl, ⟨W, w3, ?_, ?_, ⟨?_, ?_, ?_⟩, ?_, ?_, ?_⟩, hf⟩
  · rw [tbU_same (U := U) (fun a ha => w5 a (by omega))]; exact f1
  · rw [w5 13 (by omega)]; exact f2
  · rw [w5 15 (by omega)]; exact f3
  · rw [w5 17 (by omega)]; exact f4
  · rw [w5 19 (by omega)]; exact f5
  · rw [w5 14 (by omega)]; exact f6
  · rw [w5 16 (by omega)]; exact f7
  · rw [w5 18 (by omega)]; exact f8
theorem r_lay (hd : 6 ≤ d) (hI : RInv h len Bt T st u un kc ke) (hG : Glob b len Bt T st u un kc ke) : Ct d m_6_lay [.ref 102] z z h (fun r h' => ∃ (f : Int) (T0 : TT), Told Bt len f T0 ∧ ((layC f T0 ∧ ∀ T' : TT, AgT T0 T' → RQ (T0 0 0) h len Bt T' (layS T') 0 un 0 ke r h') ∨ (¬ layC f T0 ∧ RQ (-2) h len Bt T st u un kc ke r h'))) := by
  refine Ct.of (by decide) ⟨Nat.le_refl _, Nat.le_refl _⟩ (Nat.le_of_ble_eq_true rfl) ?_
  obtain ⟨U, hm, hF⟩ := hI
  obtain ⟨⟨hk, k00, k22⟩, hln, hBt, hu, hS⟩ := hG
  obtain ⟨f1, f2, ⟨f3, f4, f5⟩, f6, f7, f8⟩ := id hF
  have bad : ∀ (hh : Hp) (W : TT), MdAt hh W → OldK U W → RInv hh len Bt T st u un kc ke := by
    intro hh W w3 w5
    refine ⟨W, w3, ?_, ?_, ⟨?_, ?_, ?_⟩, ?_, ?_, ?_⟩
    · rw [tbU_same (U := U) (fun a ha => w5 a (by omega))]; exact f1
    · rw [w5 13 (by omega)]; exact f2
    · rw [w5 15 (by omega)]; exact f3
    · rw [w5 17 (by omega)]; exact f4
    · rw [w5 19 (by omega)]; exact f5
    · rw [w5 14 (by omega)]; exact f6
    · rw [w5 16 (by omega)]; exact f7
    · rw [w5 18 (by omega)]; exact f8
  refine x_aload_n D_6_lay_0 rfl ?_
  refine x_invV (d' := d - 1) D_6_lay_1 l_6_162 mi_6_findFault (c_6_findFault (by omega) hm ⟨f5, f8⟩ hln hBt) (md_o hm) rfl rfl (by omega) rfl (fun q => q) rfl rfl (fun r1 h1 q1 => ?_)
  obtain ⟨⟨f, T0, W, w1, rfl, hm, w4, w5⟩, hf⟩ := q1
  have hfr := prsR_rng _ _ _ _ _ (by omega) w1
  have hk0 : TabOk T0 := prsR_ok _ _ _ _ _ (ok_clear Zt) w1
  have kk0 := hk0.1
  have kk2 := hk0.2.1
  refine x_bipush D_6_lay_4 (by decide +kernel) ?_
  refine x_icmp_ne D_6_lay_6 ⟨by omega, by omega⟩ ⟨by omega, by omega⟩ (fun c6 => ?_) (fun c6 => ?_)
  · refine x_bipush D_6_lay_23 (by decide +kernel) ?_
    refine x_ireturn D_6_lay_25 rfl (by first | rfl | exact nb_bi _ | decide +kernel) rfl ?_
    exact ⟨f, T0, w1, Or.inr ⟨fun q => by unfold layC at q; omega, rfl, bad _ W hm w5, hf⟩⟩
  have hT0 := w4 c6
  have x21 : W 21 0 = T0 0 0 := hT0.1.1.symm
  have x22 : W 22 0 = T0 2 0 := hT0.1.2.1.symm
  refine x_aload_n D_6_lay_9 rfl ?_
  refine x_getfield D_6_lay_10 f_6_91 (md_o hm) rfl ?_
  rw [x21]
  refine x_if_eq D_6_lay_13 ⟨by omega, by omega⟩ (fun c13 => ?_) (fun c13 => ?_)
  · refine x_bipush D_6_lay_23 (by decide +kernel) ?_
    refine x_ireturn D_6_lay_25 rfl (by first | rfl | exact nb_bi _ | decide +kernel) rfl ?_
    exact ⟨f, T0, w1, Or.inr ⟨fun q => by unfold layC at q; omega, rfl, bad _ W hm w5, hf⟩⟩
  refine x_aload_n D_6_lay_16 rfl ?_
  refine x_getfield D_6_lay_17 f_6_95 (md_o hm) rfl ?_
  rw [x22]
  refine x_if_ne D_6_lay_20 ⟨by omega, by omega⟩ (fun c20 => ?_) (fun c20 => ?_)
  · refine x_aload_n D_6_lay_26 rfl ?_
    refine x_invV (d' := d - 1) D_6_lay_27 l_6_105 mi_6_lays (c_6_lays (by omega) hm hk0 hT0) (md_o hm) rfl rfl (by omega) rfl (fun q => q) rfl rfl (fun r27 h27 q27 => ?_)
    obtain ⟨rfl, ⟨V, hm, y1, y2, y3, y4, y5, y6⟩, hf2⟩ := q27
    have x0 : V 0 0 = T0 0 0 := y1.1.1.symm
    refine x_aload_n D_6_lay_30 rfl ?_
    refine x_getfield D_6_lay_31 f_6_108 (md_o hm) rfl ?_
    rw [x0]
    refine x_ireturn D_6_lay_34 rfl (by first | rfl | exact nb_bi _ | decide +kernel) rfl ?_
    refine ⟨f, T0, w1, Or.inl ⟨⟨c6, by omega, by omega⟩, fun T' hag => ⟨rfl, ⟨V, hm, (hag.symm).trans y1, by rw [y2, layS_ag hag], ⟨y3, y4, ?_⟩, fun j hj => absurd hj (by omega), fun j hj => absurd hj (by omega), ?_⟩, fun q hq => (hf2 q hq).trans (hf q hq)⟩⟩⟩
    · rw [y6, w5 19 (by omega)]; exact f5
    · rw [y5, w5 18 (by omega)]; exact f8
  refine x_bipush D_6_lay_23 (by decide +kernel) ?_
  refine x_ireturn D_6_lay_25 rfl (by first | rfl | exact nb_bi _ | decide +kernel) rfl ?_
  exact ⟨f, T0, w1, Or.inr ⟨fun q => by unfold layC at q; omega, rfl, bad _ W hm w5, hf⟩⟩
end R12
