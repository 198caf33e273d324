theorem sd_d {T V : TT} (h : AgT T (sdU V)) (x y : Int) : AgT (addDi T x y) (sdU (upr (upr (upr V 32 (ups (V 32) (T 9 0) x)) 33 (ups (V 33) (T 9 0) (y - 5))) 24 (fun _ => T 9 0 + 1))) := by
  obtain ⟨⟨h0, h2, h4, h9, h12⟩, a, b, c, e⟩ := h
  unfold addDi
  refine ⟨⟨h0, h2, h4, rfl, h12⟩, a, b, c, fun i i0 i1 => ?_⟩
  have i2 : i < T 9 0 + 1 := i1
  show up2 (up2 (up2 T 10 (T 9 0) x) 11 (T 9 0) (y - 5)) 9 0 (T 9 0 + 1) 10 i = ups (V 32) (T 9 0) x i ∧ up2 (up2 (up2 T 10 (T 9 0) x) 11 (T 9 0) (y - 5)) 9 0 (T 9 0 + 1) 11 i = ups (V 33) (T 9 0) (y - 5) i
  by_cases e1 : i = T 9 0
  · simp [up2, e1, ups]
  · have := e i i0 (by omega)
    simp [up2, e1, ups]
    exact this
theorem sd_w {T V : TT} (h : AgT T (sdU V)) {x y w k k2 : Int} (hk2 : k2 = if k = 99 then -4 else k) : AgT (addW T x y w k) (sdU (upr (upr (upr (upr (upr V 28 (ups (V 28) (T 4 0) x)) 29 (ups (V 29) (T 4 0) y)) 30 (ups (V 30) (T 4 0) w)) 31 (ups (V 31) (T 4 0) k2)) 23 (fun _ => T 4 0 + 1))) := by
  obtain ⟨⟨h0, h2, h4, h9, h12⟩, a, b, c, e⟩ := h
  subst hk2
  unfold addW
  refine ⟨⟨h0, h2, rfl, h9, h12⟩, a, b, fun i i0 i1 => ?_, e⟩
  have i2 : i < T 4 0 + 1 := i1
  show up2 (up2 (up2 (up2 (up2 T 5 (T 4 0) x) 6 (T 4 0) y) 7 (T 4 0) w) 8 (T 4 0) (if k = 99 then -4 else k)) 4 0 (T 4 0 + 1) 5 i = ups (V 28) (T 4 0) x i ∧ up2 (up2 (up2 (up2 (up2 T 5 (T 4 0) x) 6 (T 4 0) y) 7 (T 4 0) w) 8 (T 4 0) (if k = 99 then -4 else k)) 4 0 (T 4 0 + 1) 6 i = ups (V 29) (T 4 0) y i ∧ up2 (up2 (up2 (up2 (up2 T 5 (T 4 0) x) 6 (T 4 0) y) 7 (T 4 0) w) 8 (T 4 0) (if k = 99 then -4 else k)) 4 0 (T 4 0 + 1) 7 i = ups (V 30) (T 4 0) w i ∧ up2 (up2 (up2 (up2 (up2 T 5 (T 4 0) x) 6 (T 4 0) y) 7 (T 4 0) w) 8 (T 4 0) (if k = 99 then -4 else k)) 4 0 (T 4 0 + 1) 8 i = ups (V 31) (T 4 0) (if k = 99 then -4 else k) i
  by_cases e1 : i = T 4 0
  · simp [up2, e1, ups]
  · have := c i i0 (by omega)
    simp [up2, e1, ups]
    exact this
section R9
variable {d : Nat} {z : Nat × Nat} {h : Hp} {len : Int} {Bt : Int → Int} {T : TT}
theorem TxAt.of {U V : TT} (hx : TxAt U len Bt) (h1 : V 18 = U 18) (h2 : V 19 = U 19) : TxAt V len Bt := by
  unfold TxAt
  rw [h1, h2]
  exact hx
theorem c_6_isDishItem (hd : 2 ≤ d) {U : TT} (hm : MdAt h U) (hx : TxAt U len Bt) (hln : 0 ≤ len ∧ len ≤ 300) (hBt : ∀ j : Int, -128 ≤ Bt j ∧ Bt j ≤ 127) (hk : TabOk T) (hT : AgT T (sdU U)) {p : Int} (hp : U 20 0 = p) (hp0 : 0 ≤ p ∧ p ≤ 900) : Ct d m_6_isDishItem [.ref 102] z z h (ItQ h U T Bt len p 100) := by
  refine Ct.of (by decide) ⟨Nat.le_refl _, Nat.le_refl _⟩ (Nat.le_of_ble_eq_true rfl) ?_
  have k0 := hk.1
  have k9 := hk.2.2.2.1
  refine x_aload_n D_6_isDishItem_0 rfl ?_
  refine x_bipush D_6_isDishItem_1 (by decide +kernel) ?_
  refine x_invV (d' := d - 1) D_6_isDishItem_3 l_6_139 mi_6_number (c_6_num (by omega) hm hx hln hBt hp hp0 (Or.inl rfl)) (md_o hm) rfl rfl (by omega) rfl (fun q => q) rfl rfl (fun r3 h3 q3 => ?_)
  obtain ⟨⟨v, V, rfl, hm, vo, hv, hcase⟩, hf⟩ := q3
  have hT1 : AgT T (sdU V) := by rw [sdU_same (U := U) (fun a a1 a2 => vo a (by omega))]; exact hT
  have v21 : V 21 0 = T 0 0 := hT1.1.1.symm
  refine x_istore_n D_6_isDishItem_6 rfl rfl rfl ?_
  refine x_iload_n D_6_isDishItem_7 rfl ?_
  refine x_iconst D_6_isDishItem_8 ?_
  refine x_aload_n D_6_isDishItem_9 rfl ?_
  refine x_getfield D_6_isDishItem_10 f_6_91 (md_o hm) rfl ?_
  rw [v21]
  refine x_iconst D_6_isDishItem_13 ?_
  refine x_isub D_6_isDishItem_14 ?_
  refine x_invS2 (d' := d - 1) D_6_isDishItem_15 l_6_111 mi_6_in (c_6_in (by omega) ⟨by omega, by omega⟩ ⟨by omega, by omega⟩ ⟨by omega, by omega⟩)  rfl (by omega) rfl (fun q => q) rfl rfl (fun r15 h15 q15 => ?_)
  obtain ⟨rfl, rfl⟩ := q15
  refine x_if_neb D_6_isDishItem_18 (fun c18 => ?_) (fun c18 => ?_)
  · obtain ⟨o1, o2, o3, o4, o5, o6⟩ := hcase.resolve_right (fun w => absurd w.2 (by omega))
    have hx1 : TxAt V len Bt := hx.of (vo 18 (by omega)) (vo 19 (by omega))
    clear hcase
    refine x_aload_n D_6_isDishItem_23 rfl ?_
    refine x_bipush D_6_isDishItem_24 (by decide +kernel) ?_
    refine x_invV (d' := d - 1) D_6_isDishItem_26 l_6_139 mi_6_number (c_6_num (by omega) hm hx1 hln hBt o3 (by omega) (Or.inr rfl)) (md_o hm) rfl rfl (by omega) rfl (fun q => q) rfl rfl (fun r26 h26 q26 => ?_)
    obtain ⟨⟨v2, V2, rfl, hm, vo2, hv2, hcase⟩, hf2⟩ := q26
    have hf : ∀ q : Nat, (q < 102 ∨ 128 < q) → h26 q = h q := fun q hq => (hf2 q hq).trans (hf q hq)
    have hT2 : AgT T (sdU V2) := by rw [sdU_same (U := V) (fun a a1 a2 => vo2 a (by omega))]; exact hT1
    have v24 : V2 24 0 = T 9 0 := hT2.1.2.2.2.1.symm
    refine x_istore_n D_6_isDishItem_29 rfl rfl rfl ?_
    refine x_iload_n D_6_isDishItem_30 rfl ?_
    refine x_iconst D_6_isDishItem_31 ?_
    refine x_bipush D_6_isDishItem_32 (by decide +kernel) ?_
    refine x_invS2 (d' := d - 1) D_6_isDishItem_34 l_6_111 mi_6_in (c_6_in (by omega) ⟨by omega, by omega⟩ ⟨by omega, by omega⟩ ⟨by omega, by omega⟩)  rfl (by omega) rfl (fun q => q) rfl rfl (fun r34 h34 q34 => ?_)
    obtain ⟨rfl, rfl⟩ := q34
    refine x_if_eqb D_6_isDishItem_37 (fun c37 => ?_) (fun c37 => ?_)
    · refine x_iconst D_6_isDishItem_48 ?_
      refine x_ireturn D_6_isDishItem_49 rfl (by first | rfl | exact nb_bi _ | decide +kernel) rfl ?_
      refine ⟨Or.inr ⟨fun q l hr T1 ha => ?_, rfl, V2, hm, fun a ha => (vo2 a (by omega)).trans (vo a (by omega))⟩, hf⟩
      obtain ⟨x, y, rfl, g1, -⟩ := addI_d ha
      obtain ⟨r1, r2, r3⟩ := rd_more hr
      obtain ⟨r4, r5, r6⟩ := rd_one r3
      unfold okDi at g1
      have hb := nd_rng Bt len (p + nd Bt len p + 1)
      rcases hcase with w | w
      · omega
      · exact w.1 r5
    refine x_aload_n D_6_isDishItem_40 rfl ?_
    refine x_getfield D_6_isDishItem_41 f_6_129 (md_o hm) rfl ?_
    rw [v24]
    refine x_iconst D_6_isDishItem_44 ?_
    refine x_icmp_ne D_6_isDishItem_45 ⟨by omega, by omega⟩ ⟨by omega, by omega⟩ (fun c45 => ?_) (fun c45 => ?_)
    · refine x_aload_n D_6_isDishItem_50 rfl ?_
      refine x_getfield D_6_isDishItem_51 f_6_64 (md_o hm) rfl ?_
      refine x_aload_n D_6_isDishItem_54 rfl ?_
      refine x_getfield D_6_isDishItem_55 f_6_129 (md_o hm) rfl ?_
      rw [v24]
      refine x_iload_n D_6_isDishItem_58 rfl ?_
      refine x_iastore D_6_isDishItem_59 (md_a32 hm) (by omega) (by omega) rfl (fun h59 e59 n59 => ?_)
      replace hm := md_s32 hm e59 n59
      replace hf := fun q hq => (n59 q (by omega)).trans (hf q hq)
      refine x_aload_n D_6_isDishItem_60 rfl ?_
      refine x_getfield D_6_isDishItem_61 f_6_67 (md_o hm) rfl ?_
      refine x_aload_n D_6_isDishItem_64 rfl ?_
      refine x_getfield D_6_isDishItem_65 f_6_129 (md_o hm) rfl ?_
      try simp only [upr, Nat.reduceEqDiff, ↓reduceIte]
      rw [v24]
      refine x_iload_n D_6_isDishItem_68 rfl ?_
      refine x_iconst D_6_isDishItem_69 ?_
      refine x_isub D_6_isDishItem_70 ?_
      refine x_iastore D_6_isDishItem_71 (md_a33 hm) (by omega) (by omega) rfl (fun h71 e71 n71 => ?_)
      replace hm := md_s33 hm e71 n71
      try simp only [upr, Nat.reduceEqDiff, ↓reduceIte] at hm
      try rw [upr_upr] at hm
      replace hf := fun q hq => (n71 q (by omega)).trans (hf q hq)
      refine x_aload_n D_6_isDishItem_72 rfl ?_
      refine x_dup D_6_isDishItem_73 rfl ?_
      refine x_getfield D_6_isDishItem_74 f_6_129 (md_o hm) rfl ?_
      try simp only [upr, Nat.reduceEqDiff, ↓reduceIte]
      rw [v24]
      refine x_iconst D_6_isDishItem_77 ?_
      refine x_iadd D_6_isDishItem_78 ?_
      refine x_putI D_6_isDishItem_79 f_6_129 (md_o hm) (by decide +kernel) rfl (fun h79 e79 n79 => ?_)
      replace hm := md_p24 hm e79 n79
      try simp only [upr, Nat.reduceEqDiff, ↓reduceIte] at hm
      replace hf := fun q hq => (n79 q (by omega)).trans (hf q hq)
      refine x_iconst D_6_isDishItem_82 ?_
      refine x_ireturn D_6_isDishItem_83 rfl (by first | rfl | exact nb_bi _ | decide +kernel) rfl ?_
      rcases hcase with w | w
      · have hrd : rd Bt len 4 p = some (p + nd Bt len p + 1 + nd Bt len (p + nd Bt len p + 1) + 1, [v, v2]) := by
          rw [rd_44 3 o1, rd_59 2 w.1, o2, w.2.1]; rfl
        exact ⟨Or.inl ⟨_, _, _, _, hrd, Or.inr (Or.inr (Or.inr (Or.inr ⟨rfl, v, v2, rfl, ⟨by omega, by omega, by omega⟩, rfl⟩))), rfl, hm, sd_d hT2 v v2, w.2.2.1, fun a ha => (upr_ne _ _ (by omega)).trans ((upr_ne _ _ (by omega)).trans ((upr_ne _ _ (by omega)).trans ((vo2 a (by omega)).trans (vo a (by omega)))))⟩, hf⟩
      · exfalso; omega
    refine x_iconst D_6_isDishItem_48 ?_
    refine x_ireturn D_6_isDishItem_49 rfl (by first | rfl | exact nb_bi _ | decide +kernel) rfl ?_
    refine ⟨Or.inr ⟨fun q l hr T1 ha => ?_, rfl, V2, hm, fun a ha => (vo2 a (by omega)).trans (vo a (by omega))⟩, hf⟩
    obtain ⟨x, y, rfl, g1, -⟩ := addI_d ha
    obtain ⟨r1, r2, r3⟩ := rd_more hr
    obtain ⟨r4, r5, r6⟩ := rd_one r3
    unfold okDi at g1
    have hb := nd_rng Bt len (p + nd Bt len p + 1)
    rcases hcase with w | w
    · omega
    · exact w.1 r5
  refine x_iconst D_6_isDishItem_21 ?_
  refine x_ireturn D_6_isDishItem_22 rfl (by first | rfl | exact nb_bi _ | decide +kernel) rfl ?_
  refine ⟨Or.inr ⟨fun q l hr T1 ha => ?_, rfl, V, hm, fun a ha => vo a (by omega)⟩, hf⟩
  obtain ⟨x, y, rfl, g1, -⟩ := addI_d ha
  obtain ⟨r1, r2, r3⟩ := rd_more hr
  unfold okDi at g1
  rcases hcase with w | w
  · omega
  · exact w.1 r2
theorem c_6_tells (hd : 0 ≤ d) {U : TT} (hm : MdAt h U) {s x y w k : Int} (hs : 0 ≤ s ∧ s < 7) : Ct d m_6_tells [.ref 102, vi s, vi x, vi y, vi w, vi k] z z h (fun r h' => r = none ∧ MdAt h' (upr (upr (upr (upr U 28 (ups (U 28) s x)) 29 (ups (U 29) s y)) 30 (ups (U 30) s w)) 31 (ups (U 31) s k)) ∧ ∀ q : Nat, (q < 102 ∨ 128 < q) → h' q = h q) := by
  refine Ct.of (by decide) ⟨Nat.le_refl _, Nat.le_refl _⟩ (Nat.le_of_ble_eq_true rfl) ?_
  have hf : ∀ q : Nat, (q < 102 ∨ 128 < q) → h q = h q := fun _ _ => rfl
  refine x_aload_n D_6_tells_0 rfl ?_
  refine x_getfield D_6_tells_1 f_6_52 (md_o hm) rfl ?_
  refine x_iload_n D_6_tells_4 rfl ?_
  refine x_iload_n D_6_tells_5 rfl ?_
  refine x_iastore D_6_tells_6 (md_a28 hm) (by omega) (by omega) rfl (fun h6 e6 n6 => ?_)
  replace hm := md_s28 hm e6 n6
  replace hf := fun q hq => (n6 q (by omega)).trans (hf q hq)
  refine x_aload_n D_6_tells_7 rfl ?_
  refine x_getfield D_6_tells_8 f_6_55 (md_o hm) rfl ?_
  refine x_iload_n D_6_tells_11 rfl ?_
  refine x_iload_n D_6_tells_12 rfl ?_
  refine x_iastore D_6_tells_13 (md_a29 hm) (by omega) (by omega) rfl (fun h13 e13 n13 => ?_)
  replace hm := md_s29 hm e13 n13
  try simp only [upr, Nat.reduceEqDiff, ↓reduceIte] at hm
  try rw [upr_upr] at hm
  replace hf := fun q hq => (n13 q (by omega)).trans (hf q hq)
  refine x_aload_n D_6_tells_14 rfl ?_
  refine x_getfield D_6_tells_15 f_6_58 (md_o hm) rfl ?_
  refine x_iload_n D_6_tells_18 rfl ?_
  refine x_iload D_6_tells_19 rfl ?_
  refine x_iastore D_6_tells_21 (md_a30 hm) (by omega) (by omega) rfl (fun h21 e21 n21 => ?_)
  replace hm := md_s30 hm e21 n21
  try simp only [upr, Nat.reduceEqDiff, ↓reduceIte] at hm
  try rw [upr_upr] at hm
  replace hf := fun q hq => (n21 q (by omega)).trans (hf q hq)
  refine x_aload_n D_6_tells_22 rfl ?_
  refine x_getfield D_6_tells_23 f_6_61 (md_o hm) rfl ?_
  refine x_iload_n D_6_tells_26 rfl ?_
  refine x_iload D_6_tells_27 rfl ?_
  refine x_iastore D_6_tells_29 (md_a31 hm) (by omega) (by omega) rfl (fun h29 e29 n29 => ?_)
  replace hm := md_s31 hm e29 n29
  try simp only [upr, Nat.reduceEqDiff, ↓reduceIte] at hm
  try rw [upr_upr] at hm
  replace hf := fun q hq => (n29 q (by omega)).trans (hf q hq)
  refine x_return D_6_tells_30 rfl rfl ?_
  exact ⟨rfl, hm, hf⟩
theorem c_6_isSayingItem (hd : 2 ≤ d) {U : TT} (hm : MdAt h U) (hx : TxAt U len Bt) (hln : 0 ≤ len ∧ len ≤ 300) (hBt : ∀ j : Int, -128 ≤ Bt j ∧ Bt j ≤ 127) (hk : TabOk T) (hT : AgT T (sdU U)) {p : Int} (hp : U 20 0 = p) (hp0 : 0 ≤ p ∧ p ≤ 900) : Ct d m_6_isSayingItem [.ref 102] z z h (ItQ h U T Bt len p 119) := by
  refine Ct.of (by decide) ⟨Nat.le_refl _, Nat.le_refl _⟩ (Nat.le_of_ble_eq_true rfl) ?_
  have k0 := hk.1
  have k4 := hk.2.2.1
  have k8 := hk.2.2.2.2.2.2.2.1
  refine x_aload_n D_6_isSayingItem_0 rfl ?_
  refine x_bipush D_6_isSayingItem_1 (by decide +kernel) ?_
  refine x_invV (d' := d - 1) D_6_isSayingItem_3 l_6_139 mi_6_number (c_6_num (by omega) hm hx hln hBt hp hp0 (Or.inl rfl)) (md_o hm) rfl rfl (by omega) rfl (fun q => q) rfl rfl (fun r3 h3 q3 => ?_)
  obtain ⟨⟨v, V, rfl, hm, vo, hv, hcase⟩, hf⟩ := q3
  have hT1 : AgT T (sdU V) := by rw [sdU_same (U := U) (fun a a1 a2 => vo a (by omega))]; exact hT
  have v21 : V 21 0 = T 0 0 := hT1.1.1.symm
  refine x_istore_n D_6_isSayingItem_6 rfl rfl rfl ?_
  refine x_iload_n D_6_isSayingItem_7 rfl ?_
  refine x_iconst D_6_isSayingItem_8 ?_
  refine x_aload_n D_6_isSayingItem_9 rfl ?_
  refine x_getfield D_6_isSayingItem_10 f_6_91 (md_o hm) rfl ?_
  try simp only [upr, Nat.reduceEqDiff, ↓reduceIte]
  rw [v21]
  refine x_iconst D_6_isSayingItem_13 ?_
  refine x_isub D_6_isSayingItem_14 ?_
  refine x_invS2 (d' := d - 1) D_6_isSayingItem_15 l_6_111 mi_6_in (c_6_in (by omega) ⟨by omega, by omega⟩ ⟨by omega, by omega⟩ ⟨by omega, by omega⟩)  rfl (by omega) rfl (fun q => q) rfl rfl (fun r15 h15 q15 => ?_)
  obtain ⟨rfl, rfl⟩ := q15
  refine x_if_neb D_6_isSayingItem_18 (fun c18 => ?_) (fun c18 => ?_)
  · obtain ⟨o1, o2, o3, o4, o5, o6⟩ := hcase.resolve_right (fun w => absurd w.2 (by omega))
    have hx1 : TxAt V len Bt := hx.of (vo 18 (by omega)) (vo 19 (by omega))
    clear hcase
    refine x_aload_n D_6_isSayingItem_23 rfl ?_
    refine x_bipush D_6_isSayingItem_24 (by decide +kernel) ?_
    refine x_invV (d' := d - 1) D_6_isSayingItem_26 l_6_139 mi_6_number (c_6_num (by omega) hm hx1 hln hBt o3 (by omega) (Or.inl rfl)) (md_o hm) rfl rfl (by omega) rfl (fun q => q) rfl rfl (fun r26 h26 q26 => ?_)
    obtain ⟨⟨v2, V2, rfl, hm, vo2, hv2, hcase⟩, hf2⟩ := q26
    have hf : ∀ q : Nat, (q < 102 ∨ 128 < q) → h26 q = h q := fun q hq => (hf2 q hq).trans (hf q hq)
    have hT2 : AgT T (sdU V2) := by rw [sdU_same (U := V) (fun a a1 a2 => vo2 a (by omega))]; exact hT1
    have oo2 : OldK U V2 := fun a ha => (vo2 a (by omega)).trans (vo a (by omega))
    refine x_istore_n D_6_isSayingItem_29 rfl rfl rfl ?_
    refine x_iload_n D_6_isSayingItem_30 rfl ?_
    refine x_iconst D_6_isSayingItem_31 ?_
    refine x_bipush D_6_isSayingItem_32 (by decide +kernel) ?_
    refine x_invS2 (d' := d - 1) D_6_isSayingItem_34 l_6_111 mi_6_in (c_6_in (by omega) ⟨by omega, by omega⟩ ⟨by omega, by omega⟩ ⟨by omega, by omega⟩)  rfl (by omega) rfl (fun q => q) rfl rfl (fun r34 h34 q34 => ?_)
    obtain ⟨rfl, rfl⟩ := q34
    refine x_if_neb D_6_isSayingItem_37 (fun c37 => ?_) (fun c37 => ?_)
    · obtain ⟨a1, a2, a3, a4, a5, a6⟩ := hcase.resolve_right (fun w => absurd w.2 (by omega))
      have hx2 : TxAt V2 len Bt := hx1.of (vo2 18 (by omega)) (vo2 19 (by omega))
      clear hcase
      refine x_aload_n D_6_isSayingItem_42 rfl ?_
      refine x_bipush D_6_isSayingItem_43 (by decide +kernel) ?_
      refine x_invV (d' := d - 1) D_6_isSayingItem_45 l_6_139 mi_6_number (c_6_num (by omega) hm hx2 hln hBt a3 (by omega) (Or.inl rfl)) (md_o hm) rfl rfl (by omega) rfl (fun q => q) rfl rfl (fun r45 h45 q45 => ?_)
      obtain ⟨⟨v3, V3, rfl, hm, vo3, hv3, hcase⟩, hf3⟩ := q45
      have hf : ∀ q : Nat, (q < 102 ∨ 128 < q) → h45 q = h q := fun q hq => (hf3 q hq).trans (hf q hq)
      have hT3 : AgT T (sdU V3) := by rw [sdU_same (U := V2) (fun a a1 a2 => vo3 a (by omega))]; exact hT2
      have oo3 : OldK U V3 := fun a ha => (vo3 a (by omega)).trans (oo2 a ha)
      refine x_istore_n D_6_isSayingItem_48 rfl rfl rfl ?_
      refine x_iload_n D_6_isSayingItem_49 rfl ?_
      refine x_if_ge D_6_isSayingItem_50 ⟨by omega, by omega⟩ (fun c50 => ?_) (fun c50 => ?_)
      · obtain ⟨b1, b2, b3, b4, b5, b6⟩ := hcase.resolve_right (fun w => absurd w.2 (by omega))
        have hx3 : TxAt V3 len Bt := hx2.of (vo3 18 (by omega)) (vo3 19 (by omega))
        clear hcase
        refine x_aload_n D_6_isSayingItem_55 rfl ?_
        refine x_bipush D_6_isSayingItem_56 (by decide +kernel) ?_
        refine x_invV (d' := d - 1) D_6_isSayingItem_58 l_6_139 mi_6_number (c_6_num (by omega) hm hx3 hln hBt b3 (by omega) (Or.inr rfl)) (md_o hm) rfl rfl (by omega) rfl (fun q => q) rfl rfl (fun r58 h58 q58 => ?_)
        obtain ⟨⟨v4, V4, rfl, hm, vo4, hv4, hcase⟩, hf4⟩ := q58
        have hf : ∀ q : Nat, (q < 102 ∨ 128 < q) → h58 q = h q := fun q hq => (hf4 q hq).trans (hf q hq)
        have hT4 : AgT T (sdU V4) := by rw [sdU_same (U := V3) (fun a a1 a2 => vo4 a (by omega))]; exact hT3
        have oo4 : OldK U V4 := fun a ha => (vo4 a (by omega)).trans (oo3 a ha)
        have v23 : V4 23 0 = T 4 0 := hT4.1.2.2.1.symm
        have v28 : ∀ s : Int, 0 ≤ s → s < T 4 0 → V4 28 s = T 5 s := fun s s0 s1 => (hT4.2.2.2.1 s s0 s1).1.symm
        refine x_istore D_6_isSayingItem_61 rfl rfl rfl ?_
        refine x_iload D_6_isSayingItem_63 rfl ?_
        refine x_bipush D_6_isSayingItem_65 (by decide +kernel) ?_
        refine x_icmp_eq D_6_isSayingItem_67 ⟨by omega, by omega⟩ ⟨by omega, by omega⟩ (fun c67 => ?_) (fun c67 => ?_)
        · refine x_iconst D_6_isSayingItem_96 ?_
          refine x_goto D_6_isSayingItem_97 ?_
          refine x_istore D_6_isSayingItem_101 rfl rfl rfl ?_
          refine x_iload D_6_isSayingItem_103 rfl ?_
          refine x_if_eq D_6_isSayingItem_105 ⟨by omega, by omega⟩ (fun c105 => ?_) (fun c105 => ?_)
          · refine x_iconst D_6_isSayingItem_117 ?_
            refine x_ireturn D_6_isSayingItem_118 rfl (by first | rfl | exact nb_bi _ | decide +kernel) rfl ?_
            try (exfalso; omega)
            all_goals
              refine ⟨Or.inr ⟨fun q l hr T1 ha => ?_, rfl, V4, hm, oo4⟩, hf⟩
              obtain ⟨x, y, w, k, rfl, g1, -⟩ := addI_w ha
              obtain ⟨r1, r2, r3⟩ := rd_more hr
              obtain ⟨r4, r5, r6⟩ := rd_more r3
              obtain ⟨r7, r8, r9⟩ := rd_more r6
              obtain ⟨s1, s2, s3⟩ := rd_one r9
              have hb := nd_rng Bt len (p + nd Bt len p + 1 + nd Bt len (p + nd Bt len p + 1) + 1 + nd Bt len (p + nd Bt len p + 1 + nd Bt len (p + nd Bt len p + 1) + 1) + 1)
              rcases hcase with w | w
              · have ek : k = v4 := s1.trans w.2.1.symm
                have ex : x = v := r1.trans o2.symm
                rw [ek, ex] at g1
                unfold okW at g1
                rcases g1.2.2.2.2 with g | g
                · omega
                · first
                  | (exfalso; omega)
                  | exact g.2 c93
              · exact w.1 s2
          refine x_aload_n D_6_isSayingItem_108 rfl ?_
          refine x_getfield D_6_isSayingItem_109 f_6_98 (md_o hm) rfl ?_
          try simp only [upr, Nat.reduceEqDiff, ↓reduceIte]
          rw [v23]
          refine x_bipush D_6_isSayingItem_112 (by decide +kernel) ?_
          refine x_icmp_ne D_6_isSayingItem_114 ⟨by omega, by omega⟩ ⟨by omega, by omega⟩ (fun c114 => ?_) (fun c114 => ?_)
          · refine x_aload_n D_6_isSayingItem_119 rfl ?_
            refine x_aload_n D_6_isSayingItem_120 rfl ?_
            refine x_getfield D_6_isSayingItem_121 f_6_98 (md_o hm) rfl ?_
            try simp only [upr, Nat.reduceEqDiff, ↓reduceIte]
            rw [v23]
            refine x_iload_n D_6_isSayingItem_124 rfl ?_
            refine x_iload_n D_6_isSayingItem_125 rfl ?_
            refine x_iload_n D_6_isSayingItem_126 rfl ?_
            refine x_iload D_6_isSayingItem_127 rfl ?_
            refine x_bipush D_6_isSayingItem_129 (by decide +kernel) ?_
            refine x_icmp_ne D_6_isSayingItem_131 ⟨by omega, by omega⟩ ⟨by omega, by omega⟩ (fun c131 => ?_) (fun c131 => ?_)
            · refine x_iload D_6_isSayingItem_139 rfl ?_
              refine x_invV (d' := d - 1) D_6_isSayingItem_141 l_6_101 mi_6_tells (c_6_tells (by omega) hm (by omega)) (md_o hm) rfl rfl (by omega) rfl (fun q => q) rfl rfl (fun r141 h141 q141 => ?_)
              obtain ⟨rfl, hm, hf5⟩ := q141
              have hf : ∀ q : Nat, (q < 102 ∨ 128 < q) → h141 q = h q := fun q hq => (hf5 q hq).trans (hf q hq)
              refine x_aload_n D_6_isSayingItem_144 rfl ?_
              refine x_dup D_6_isSayingItem_145 rfl ?_
              refine x_getfield D_6_isSayingItem_146 f_6_98 (md_o hm) rfl ?_
              try simp only [upr, Nat.reduceEqDiff, ↓reduceIte]
              rw [v23]
              refine x_iconst D_6_isSayingItem_149 ?_
              refine x_iadd D_6_isSayingItem_150 ?_
              refine x_putI D_6_isSayingItem_151 f_6_98 (md_o hm) (by decide +kernel) rfl (fun h151 e151 n151 => ?_)
              replace hm := md_p23 hm e151 n151
              try simp only [upr, Nat.reduceEqDiff, ↓reduceIte] at hm
              replace hf := fun q hq => (n151 q (by omega)).trans (hf q hq)
              refine x_iconst D_6_isSayingItem_154 ?_
              refine x_ireturn D_6_isSayingItem_155 rfl (by first | rfl | exact nb_bi _ | decide +kernel) rfl ?_
              try (exfalso; omega)
              all_goals
                have hw : okN Bt len (p + nd Bt len p + 1 + nd Bt len (p + nd Bt len p + 1) + 1 + nd Bt len (p + nd Bt len p + 1 + nd Bt len (p + nd Bt len p + 1) + 1) + 1) 59 ∧ v4 = nv Bt len (p + nd Bt len p + 1 + nd Bt len (p + nd Bt len p + 1) + 1 + nd Bt len (p + nd Bt len p + 1 + nd Bt len (p + nd Bt len p + 1) + 1) + 1) ∧ V4 20 0 = (p + nd Bt len p + 1 + nd Bt len (p + nd Bt len p + 1) + 1 + nd Bt len (p + nd Bt len p + 1 + nd Bt len (p + nd Bt len p + 1) + 1) + 1) + nd Bt len (p + nd Bt len p + 1 + nd Bt len (p + nd Bt len p + 1) + 1 + nd Bt len (p + nd Bt len p + 1 + nd Bt len (p + nd Bt len p + 1) + 1) + 1) + 1 := by
                  rcases hcase with w | w
                  · exact ⟨w.1, w.2.1, w.2.2.1⟩
                  · exfalso; omega
                have hrd : rd Bt len 4 p = some ((p + nd Bt len p + 1 + nd Bt len (p + nd Bt len p + 1) + 1 + nd Bt len (p + nd Bt len p + 1 + nd Bt len (p + nd Bt len p + 1) + 1) + 1) + nd Bt len (p + nd Bt len p + 1 + nd Bt len (p + nd Bt len p + 1) + 1 + nd Bt len (p + nd Bt len p + 1 + nd Bt len (p + nd Bt len p + 1) + 1) + 1) + 1, [v, v2, v3, v4]) := by
                  rw [rd_44 3 o1, rd_44 2 a1, rd_44 1 b1, rd_59 0 hw.1, o2, a2, b2, hw.2.1]; rfl
                have h5 : v4 = 99 ∨ v4 < T 4 0 ∧ T 5 v4 ≠ v := by
                  first
                  | exact Or.inl (by omega)
                  | exact Or.inr ⟨by omega, c93⟩
                have hok : okW T v v2 v3 v4 := ⟨by omega, by omega, by omega, by omega, h5⟩
                refine ⟨Or.inl ⟨_, _, _, _, hrd, Or.inr (Or.inr (Or.inl ⟨rfl, v, v2, v3, v4, rfl, hok, rfl⟩)), rfl, hm, sd_w hT4 ?_, hw.2.2, fun a ha => (upr_ne _ _ (by omega)).trans ((upr_ne _ _ (by omega)).trans ((upr_ne _ _ (by omega)).trans ((upr_ne _ _ (by omega)).trans ((upr_ne _ _ (by omega)).trans (oo4 a ha)))))⟩, hf⟩
                first
                | (rw [if_pos (by omega)]; done)
                | (rw [if_neg (by omega)]; done)
                | (rw [if_pos (by omega)])
                | (rw [if_neg (by omega)])
            refine x_bipush D_6_isSayingItem_134 (by decide +kernel) ?_
            refine x_goto D_6_isSayingItem_136 ?_
            refine x_invV (d' := d - 1) D_6_isSayingItem_141 l_6_101 mi_6_tells (c_6_tells (by omega) hm (by omega)) (md_o hm) rfl rfl (by omega) rfl (fun q => q) rfl rfl (fun r141 h141 q141 => ?_)
            obtain ⟨rfl, hm, hf5⟩ := q141
            have hf : ∀ q : Nat, (q < 102 ∨ 128 < q) → h141 q = h q := fun q hq => (hf5 q hq).trans (hf q hq)
            refine x_aload_n D_6_isSayingItem_144 rfl ?_
            refine x_dup D_6_isSayingItem_145 rfl ?_
            refine x_getfield D_6_isSayingItem_146 f_6_98 (md_o hm) rfl ?_
            try simp only [upr, Nat.reduceEqDiff, ↓reduceIte]
            rw [v23]
            refine x_iconst D_6_isSayingItem_149 ?_
            refine x_iadd D_6_isSayingItem_150 ?_
            refine x_putI D_6_isSayingItem_151 f_6_98 (md_o hm) (by decide +kernel) rfl (fun h151 e151 n151 => ?_)
            replace hm := md_p23 hm e151 n151
            try simp only [upr, Nat.reduceEqDiff, ↓reduceIte] at hm
            replace hf := fun q hq => (n151 q (by omega)).trans (hf q hq)
            refine x_iconst D_6_isSayingItem_154 ?_
            refine x_ireturn D_6_isSayingItem_155 rfl (by first | rfl | exact nb_bi _ | decide +kernel) rfl ?_
            try (exfalso; omega)
            all_goals
              have hw : okN Bt len (p + nd Bt len p + 1 + nd Bt len (p + nd Bt len p + 1) + 1 + nd Bt len (p + nd Bt len p + 1 + nd Bt len (p + nd Bt len p + 1) + 1) + 1) 59 ∧ v4 = nv Bt len (p + nd Bt len p + 1 + nd Bt len (p + nd Bt len p + 1) + 1 + nd Bt len (p + nd Bt len p + 1 + nd Bt len (p + nd Bt len p + 1) + 1) + 1) ∧ V4 20 0 = (p + nd Bt len p + 1 + nd Bt len (p + nd Bt len p + 1) + 1 + nd Bt len (p + nd Bt len p + 1 + nd Bt len (p + nd Bt len p + 1) + 1) + 1) + nd Bt len (p + nd Bt len p + 1 + nd Bt len (p + nd Bt len p + 1) + 1 + nd Bt len (p + nd Bt len p + 1 + nd Bt len (p + nd Bt len p + 1) + 1) + 1) + 1 := by
                rcases hcase with w | w
                · exact ⟨w.1, w.2.1, w.2.2.1⟩
                · exfalso; omega
              have hrd : rd Bt len 4 p = some ((p + nd Bt len p + 1 + nd Bt len (p + nd Bt len p + 1) + 1 + nd Bt len (p + nd Bt len p + 1 + nd Bt len (p + nd Bt len p + 1) + 1) + 1) + nd Bt len (p + nd Bt len p + 1 + nd Bt len (p + nd Bt len p + 1) + 1 + nd Bt len (p + nd Bt len p + 1 + nd Bt len (p + nd Bt len p + 1) + 1) + 1) + 1, [v, v2, v3, v4]) := by
                rw [rd_44 3 o1, rd_44 2 a1, rd_44 1 b1, rd_59 0 hw.1, o2, a2, b2, hw.2.1]; rfl
              have h5 : v4 = 99 ∨ v4 < T 4 0 ∧ T 5 v4 ≠ v := by
                first
                | exact Or.inl (by omega)
                | exact Or.inr ⟨by omega, c93⟩
              have hok : okW T v v2 v3 v4 := ⟨by omega, by omega, by omega, by omega, h5⟩
              refine ⟨Or.inl ⟨_, _, _, _, hrd, Or.inr (Or.inr (Or.inl ⟨rfl, v, v2, v3, v4, rfl, hok, rfl⟩)), rfl, hm, sd_w hT4 ?_, hw.2.2, fun a ha => (upr_ne _ _ (by omega)).trans ((upr_ne _ _ (by omega)).trans ((upr_ne _ _ (by omega)).trans ((upr_ne _ _ (by omega)).trans ((upr_ne _ _ (by omega)).trans (oo4 a ha)))))⟩, hf⟩
              first
              | (rw [if_pos (by omega)]; done)
              | (rw [if_neg (by omega)]; done)
              | (rw [if_pos (by omega)])
              | (rw [if_neg (by omega)])
          refine x_iconst D_6_isSayingItem_117 ?_
          refine x_ireturn D_6_isSayingItem_118 rfl (by first | rfl | exact nb_bi _ | decide +kernel) rfl ?_
          try (exfalso; omega)
          all_goals
            refine ⟨Or.inr ⟨fun q l hr T1 ha => ?_, rfl, V4, hm, oo4⟩, hf⟩
            obtain ⟨x, y, w, k, rfl, g1, -⟩ := addI_w ha
            obtain ⟨r1, r2, r3⟩ := rd_more hr
            obtain ⟨r4, r5, r6⟩ := rd_more r3
            obtain ⟨r7, r8, r9⟩ := rd_more r6
            obtain ⟨s1, s2, s3⟩ := rd_one r9
            have hb := nd_rng Bt len (p + nd Bt len p + 1 + nd Bt len (p + nd Bt len p + 1) + 1 + nd Bt len (p + nd Bt len p + 1 + nd Bt len (p + nd Bt len p + 1) + 1) + 1)
            rcases hcase with w | w
            · have ek : k = v4 := s1.trans w.2.1.symm
              have ex : x = v := r1.trans o2.symm
              rw [ek, ex] at g1
              unfold okW at g1
              rcases g1.2.2.2.2 with g | g
              · omega
              · first
                | (exfalso; omega)
                | exact g.2 c93
            · exact w.1 s2
        refine x_iload D_6_isSayingItem_70 rfl ?_
        refine x_iconst D_6_isSayingItem_72 ?_
        refine x_aload_n D_6_isSayingItem_73 rfl ?_
        refine x_getfield D_6_isSayingItem_74 f_6_98 (md_o hm) rfl ?_
        try simp only [upr, Nat.reduceEqDiff, ↓reduceIte]
        rw [v23]
        refine x_iconst D_6_isSayingItem_77 ?_
        refine x_isub D_6_isSayingItem_78 ?_
        refine x_invS2 (d' := d - 1) D_6_isSayingItem_79 l_6_111 mi_6_in (c_6_in (by omega) ⟨by omega, by omega⟩ ⟨by omega, by omega⟩ ⟨by omega, by omega⟩)  rfl (by omega) rfl (fun q => q) rfl rfl (fun r79 h79 q79 => ?_)
        obtain ⟨rfl, rfl⟩ := q79
        refine x_if_eqb D_6_isSayingItem_82 (fun c82 => ?_) (fun c82 => ?_)
        · refine x_iconst D_6_isSayingItem_100 ?_
          refine x_istore D_6_isSayingItem_101 rfl rfl rfl ?_
          refine x_iload D_6_isSayingItem_103 rfl ?_
          refine x_if_eq D_6_isSayingItem_105 ⟨by omega, by omega⟩ (fun c105 => ?_) (fun c105 => ?_)
          · refine x_iconst D_6_isSayingItem_117 ?_
            refine x_ireturn D_6_isSayingItem_118 rfl (by first | rfl | exact nb_bi _ | decide +kernel) rfl ?_
            try (exfalso; omega)
            all_goals
              refine ⟨Or.inr ⟨fun q l hr T1 ha => ?_, rfl, V4, hm, oo4⟩, hf⟩
              obtain ⟨x, y, w, k, rfl, g1, -⟩ := addI_w ha
              obtain ⟨r1, r2, r3⟩ := rd_more hr
              obtain ⟨r4, r5, r6⟩ := rd_more r3
              obtain ⟨r7, r8, r9⟩ := rd_more r6
              obtain ⟨s1, s2, s3⟩ := rd_one r9
              have hb := nd_rng Bt len (p + nd Bt len p + 1 + nd Bt len (p + nd Bt len p + 1) + 1 + nd Bt len (p + nd Bt len p + 1 + nd Bt len (p + nd Bt len p + 1) + 1) + 1)
              rcases hcase with w | w
              · have ek : k = v4 := s1.trans w.2.1.symm
                have ex : x = v := r1.trans o2.symm
                rw [ek, ex] at g1
                unfold okW at g1
                rcases g1.2.2.2.2 with g | g
                · omega
                · first
                  | (exfalso; omega)
                  | exact g.2 c93
              · exact w.1 s2
          refine x_aload_n D_6_isSayingItem_108 rfl ?_
          refine x_getfield D_6_isSayingItem_109 f_6_98 (md_o hm) rfl ?_
          try simp only [upr, Nat.reduceEqDiff, ↓reduceIte]
          rw [v23]
          refine x_bipush D_6_isSayingItem_112 (by decide +kernel) ?_
          refine x_icmp_ne D_6_isSayingItem_114 ⟨by omega, by omega⟩ ⟨by omega, by omega⟩ (fun c114 => ?_) (fun c114 => ?_)
          · refine x_aload_n D_6_isSayingItem_119 rfl ?_
            refine x_aload_n D_6_isSayingItem_120 rfl ?_
            refine x_getfield D_6_isSayingItem_121 f_6_98 (md_o hm) rfl ?_
            try simp only [upr, Nat.reduceEqDiff, ↓reduceIte]
            rw [v23]
            refine x_iload_n D_6_isSayingItem_124 rfl ?_
            refine x_iload_n D_6_isSayingItem_125 rfl ?_
            refine x_iload_n D_6_isSayingItem_126 rfl ?_
            refine x_iload D_6_isSayingItem_127 rfl ?_
            refine x_bipush D_6_isSayingItem_129 (by decide +kernel) ?_
            refine x_icmp_ne D_6_isSayingItem_131 ⟨by omega, by omega⟩ ⟨by omega, by omega⟩ (fun c131 => ?_) (fun c131 => ?_)
            · refine x_iload D_6_isSayingItem_139 rfl ?_
              refine x_invV (d' := d - 1) D_6_isSayingItem_141 l_6_101 mi_6_tells (c_6_tells (by omega) hm (by omega)) (md_o hm) rfl rfl (by omega) rfl (fun q => q) rfl rfl (fun r141 h141 q141 => ?_)
              obtain ⟨rfl, hm, hf5⟩ := q141
              have hf : ∀ q : Nat, (q < 102 ∨ 128 < q) → h141 q = h q := fun q hq => (hf5 q hq).trans (hf q hq)
              refine x_aload_n D_6_isSayingItem_144 rfl ?_
              refine x_dup D_6_isSayingItem_145 rfl ?_
              refine x_getfield D_6_isSayingItem_146 f_6_98 (md_o hm) rfl ?_
              try simp only [upr, Nat.reduceEqDiff, ↓reduceIte]
              rw [v23]
              refine x_iconst D_6_isSayingItem_149 ?_
              refine x_iadd D_6_isSayingItem_150 ?_
              refine x_putI D_6_isSayingItem_151 f_6_98 (md_o hm) (by decide +kernel) rfl (fun h151 e151 n151 => ?_)
              replace hm := md_p23 hm e151 n151
              try simp only [upr, Nat.reduceEqDiff, ↓reduceIte] at hm
              replace hf := fun q hq => (n151 q (by omega)).trans (hf q hq)
              refine x_iconst D_6_isSayingItem_154 ?_
              refine x_ireturn D_6_isSayingItem_155 rfl (by first | rfl | exact nb_bi _ | decide +kernel) rfl ?_
              try (exfalso; omega)
              all_goals
                have hw : okN Bt len (p + nd Bt len p + 1 + nd Bt len (p + nd Bt len p + 1) + 1 + nd Bt len (p + nd Bt len p + 1 + nd Bt len (p + nd Bt len p + 1) + 1) + 1) 59 ∧ v4 = nv Bt len (p + nd Bt len p + 1 + nd Bt len (p + nd Bt len p + 1) + 1 + nd Bt len (p + nd Bt len p + 1 + nd Bt len (p + nd Bt len p + 1) + 1) + 1) ∧ V4 20 0 = (p + nd Bt len p + 1 + nd Bt len (p + nd Bt len p + 1) + 1 + nd Bt len (p + nd Bt len p + 1 + nd Bt len (p + nd Bt len p + 1) + 1) + 1) + nd Bt len (p + nd Bt len p + 1 + nd Bt len (p + nd Bt len p + 1) + 1 + nd Bt len (p + nd Bt len p + 1 + nd Bt len (p + nd Bt len p + 1) + 1) + 1) + 1 := by
                  rcases hcase with w | w
                  · exact ⟨w.1, w.2.1, w.2.2.1⟩
                  · exfalso; omega
                have hrd : rd Bt len 4 p = some ((p + nd Bt len p + 1 + nd Bt len (p + nd Bt len p + 1) + 1 + nd Bt len (p + nd Bt len p + 1 + nd Bt len (p + nd Bt len p + 1) + 1) + 1) + nd Bt len (p + nd Bt len p + 1 + nd Bt len (p + nd Bt len p + 1) + 1 + nd Bt len (p + nd Bt len p + 1 + nd Bt len (p + nd Bt len p + 1) + 1) + 1) + 1, [v, v2, v3, v4]) := by
                  rw [rd_44 3 o1, rd_44 2 a1, rd_44 1 b1, rd_59 0 hw.1, o2, a2, b2, hw.2.1]; rfl
                have h5 : v4 = 99 ∨ v4 < T 4 0 ∧ T 5 v4 ≠ v := by
                  first
                  | exact Or.inl (by omega)
                  | exact Or.inr ⟨by omega, c93⟩
                have hok : okW T v v2 v3 v4 := ⟨by omega, by omega, by omega, by omega, h5⟩
                refine ⟨Or.inl ⟨_, _, _, _, hrd, Or.inr (Or.inr (Or.inl ⟨rfl, v, v2, v3, v4, rfl, hok, rfl⟩)), rfl, hm, sd_w hT4 ?_, hw.2.2, fun a ha => (upr_ne _ _ (by omega)).trans ((upr_ne _ _ (by omega)).trans ((upr_ne _ _ (by omega)).trans ((upr_ne _ _ (by omega)).trans ((upr_ne _ _ (by omega)).trans (oo4 a ha)))))⟩, hf⟩
                first
                | (rw [if_pos (by omega)]; done)
                | (rw [if_neg (by omega)]; done)
                | (rw [if_pos (by omega)])
                | (rw [if_neg (by omega)])
            refine x_bipush D_6_isSayingItem_134 (by decide +kernel) ?_
            refine x_goto D_6_isSayingItem_136 ?_
            refine x_invV (d' := d - 1) D_6_isSayingItem_141 l_6_101 mi_6_tells (c_6_tells (by omega) hm (by omega)) (md_o hm) rfl rfl (by omega) rfl (fun q => q) rfl rfl (fun r141 h141 q141 => ?_)
            obtain ⟨rfl, hm, hf5⟩ := q141
            have hf : ∀ q : Nat, (q < 102 ∨ 128 < q) → h141 q = h q := fun q hq => (hf5 q hq).trans (hf q hq)
            refine x_aload_n D_6_isSayingItem_144 rfl ?_
            refine x_dup D_6_isSayingItem_145 rfl ?_
            refine x_getfield D_6_isSayingItem_146 f_6_98 (md_o hm) rfl ?_
            try simp only [upr, Nat.reduceEqDiff, ↓reduceIte]
            rw [v23]
            refine x_iconst D_6_isSayingItem_149 ?_
            refine x_iadd D_6_isSayingItem_150 ?_
            refine x_putI D_6_isSayingItem_151 f_6_98 (md_o hm) (by decide +kernel) rfl (fun h151 e151 n151 => ?_)
            replace hm := md_p23 hm e151 n151
            try simp only [upr, Nat.reduceEqDiff, ↓reduceIte] at hm
            replace hf := fun q hq => (n151 q (by omega)).trans (hf q hq)
            refine x_iconst D_6_isSayingItem_154 ?_
            refine x_ireturn D_6_isSayingItem_155 rfl (by first | rfl | exact nb_bi _ | decide +kernel) rfl ?_
            try (exfalso; omega)
            all_goals
              have hw : okN Bt len (p + nd Bt len p + 1 + nd Bt len (p + nd Bt len p + 1) + 1 + nd Bt len (p + nd Bt len p + 1 + nd Bt len (p + nd Bt len p + 1) + 1) + 1) 59 ∧ v4 = nv Bt len (p + nd Bt len p + 1 + nd Bt len (p + nd Bt len p + 1) + 1 + nd Bt len (p + nd Bt len p + 1 + nd Bt len (p + nd Bt len p + 1) + 1) + 1) ∧ V4 20 0 = (p + nd Bt len p + 1 + nd Bt len (p + nd Bt len p + 1) + 1 + nd Bt len (p + nd Bt len p + 1 + nd Bt len (p + nd Bt len p + 1) + 1) + 1) + nd Bt len (p + nd Bt len p + 1 + nd Bt len (p + nd Bt len p + 1) + 1 + nd Bt len (p + nd Bt len p + 1 + nd Bt len (p + nd Bt len p + 1) + 1) + 1) + 1 := by
                rcases hcase with w | w
                · exact ⟨w.1, w.2.1, w.2.2.1⟩
                · exfalso; omega
              have hrd : rd Bt len 4 p = some ((p + nd Bt len p + 1 + nd Bt len (p + nd Bt len p + 1) + 1 + nd Bt len (p + nd Bt len p + 1 + nd Bt len (p + nd Bt len p + 1) + 1) + 1) + nd Bt len (p + nd Bt len p + 1 + nd Bt len (p + nd Bt len p + 1) + 1 + nd Bt len (p + nd Bt len p + 1 + nd Bt len (p + nd Bt len p + 1) + 1) + 1) + 1, [v, v2, v3, v4]) := by
                rw [rd_44 3 o1, rd_44 2 a1, rd_44 1 b1, rd_59 0 hw.1, o2, a2, b2, hw.2.1]; rfl
              have h5 : v4 = 99 ∨ v4 < T 4 0 ∧ T 5 v4 ≠ v := by
                first
                | exact Or.inl (by omega)
                | exact Or.inr ⟨by omega, c93⟩
              have hok : okW T v v2 v3 v4 := ⟨by omega, by omega, by omega, by omega, h5⟩
              refine ⟨Or.inl ⟨_, _, _, _, hrd, Or.inr (Or.inr (Or.inl ⟨rfl, v, v2, v3, v4, rfl, hok, rfl⟩)), rfl, hm, sd_w hT4 ?_, hw.2.2, fun a ha => (upr_ne _ _ (by omega)).trans ((upr_ne _ _ (by omega)).trans ((upr_ne _ _ (by omega)).trans ((upr_ne _ _ (by omega)).trans ((upr_ne _ _ (by omega)).trans (oo4 a ha)))))⟩, hf⟩
              first
              | (rw [if_pos (by omega)]; done)
              | (rw [if_neg (by omega)]; done)
              | (rw [if_pos (by omega)])
              | (rw [if_neg (by omega)])
          refine x_iconst D_6_isSayingItem_117 ?_
          refine x_ireturn D_6_isSayingItem_118 rfl (by first | rfl | exact nb_bi _ | decide +kernel) rfl ?_
          try (exfalso; omega)
          all_goals
            refine ⟨Or.inr ⟨fun q l hr T1 ha => ?_, rfl, V4, hm, oo4⟩, hf⟩
            obtain ⟨x, y, w, k, rfl, g1, -⟩ := addI_w ha
            obtain ⟨r1, r2, r3⟩ := rd_more hr
            obtain ⟨r4, r5, r6⟩ := rd_more r3
            obtain ⟨r7, r8, r9⟩ := rd_more r6
            obtain ⟨s1, s2, s3⟩ := rd_one r9
            have hb := nd_rng Bt len (p + nd Bt len p + 1 + nd Bt len (p + nd Bt len p + 1) + 1 + nd Bt len (p + nd Bt len p + 1 + nd Bt len (p + nd Bt len p + 1) + 1) + 1)
            rcases hcase with w | w
            · have ek : k = v4 := s1.trans w.2.1.symm
              have ex : x = v := r1.trans o2.symm
              rw [ek, ex] at g1
              unfold okW at g1
              rcases g1.2.2.2.2 with g | g
              · omega
              · first
                | (exfalso; omega)
                | exact g.2 c93
            · exact w.1 s2
        have k84 := k8 v4 c82.1 (by omega)
        refine x_aload_n D_6_isSayingItem_85 rfl ?_
        refine x_getfield D_6_isSayingItem_86 f_6_52 (md_o hm) rfl ?_
        refine x_iload D_6_isSayingItem_89 rfl ?_
        refine x_iaload D_6_isSayingItem_91 (md_a28 hm) (by omega) (by omega) rfl ?_
        try simp only [upr, Nat.reduceEqDiff, ↓reduceIte]
        rw [v28 _ c82.1 (by omega)]
        refine x_iload_n D_6_isSayingItem_92 rfl ?_
        refine x_icmp_eq D_6_isSayingItem_93 ⟨by omega, by omega⟩ ⟨by omega, by omega⟩ (fun c93 => ?_) (fun c93 => ?_)
        · refine x_iconst D_6_isSayingItem_100 ?_
          refine x_istore D_6_isSayingItem_101 rfl rfl rfl ?_
          refine x_iload D_6_isSayingItem_103 rfl ?_
          refine x_if_eq D_6_isSayingItem_105 ⟨by omega, by omega⟩ (fun c105 => ?_) (fun c105 => ?_)
          · refine x_iconst D_6_isSayingItem_117 ?_
            refine x_ireturn D_6_isSayingItem_118 rfl (by first | rfl | exact nb_bi _ | decide +kernel) rfl ?_
            try (exfalso; omega)
            all_goals
              refine ⟨Or.inr ⟨fun q l hr T1 ha => ?_, rfl, V4, hm, oo4⟩, hf⟩
              obtain ⟨x, y, w, k, rfl, g1, -⟩ := addI_w ha
              obtain ⟨r1, r2, r3⟩ := rd_more hr
              obtain ⟨r4, r5, r6⟩ := rd_more r3
              obtain ⟨r7, r8, r9⟩ := rd_more r6
              obtain ⟨s1, s2, s3⟩ := rd_one r9
              have hb := nd_rng Bt len (p + nd Bt len p + 1 + nd Bt len (p + nd Bt len p + 1) + 1 + nd Bt len (p + nd Bt len p + 1 + nd Bt len (p + nd Bt len p + 1) + 1) + 1)
              rcases hcase with w | w
              · have ek : k = v4 := s1.trans w.2.1.symm
                have ex : x = v := r1.trans o2.symm
                rw [ek, ex] at g1
                unfold okW at g1
                rcases g1.2.2.2.2 with g | g
                · omega
                · first
                  | (exfalso; omega)
                  | exact g.2 c93
              · exact w.1 s2
          refine x_aload_n D_6_isSayingItem_108 rfl ?_
          refine x_getfield D_6_isSayingItem_109 f_6_98 (md_o hm) rfl ?_
          try simp only [upr, Nat.reduceEqDiff, ↓reduceIte]
          rw [v23]
          refine x_bipush D_6_isSayingItem_112 (by decide +kernel) ?_
          refine x_icmp_ne D_6_isSayingItem_114 ⟨by omega, by omega⟩ ⟨by omega, by omega⟩ (fun c114 => ?_) (fun c114 => ?_)
          · refine x_aload_n D_6_isSayingItem_119 rfl ?_
            refine x_aload_n D_6_isSayingItem_120 rfl ?_
            refine x_getfield D_6_isSayingItem_121 f_6_98 (md_o hm) rfl ?_
            try simp only [upr, Nat.reduceEqDiff, ↓reduceIte]
            rw [v23]
            refine x_iload_n D_6_isSayingItem_124 rfl ?_
            refine x_iload_n D_6_isSayingItem_125 rfl ?_
            refine x_iload_n D_6_isSayingItem_126 rfl ?_
            refine x_iload D_6_isSayingItem_127 rfl ?_
            refine x_bipush D_6_isSayingItem_129 (by decide +kernel) ?_
            refine x_icmp_ne D_6_isSayingItem_131 ⟨by omega, by omega⟩ ⟨by omega, by omega⟩ (fun c131 => ?_) (fun c131 => ?_)
            · refine x_iload D_6_isSayingItem_139 rfl ?_
              refine x_invV (d' := d - 1) D_6_isSayingItem_141 l_6_101 mi_6_tells (c_6_tells (by omega) hm (by omega)) (md_o hm) rfl rfl (by omega) rfl (fun q => q) rfl rfl (fun r141 h141 q141 => ?_)
              obtain ⟨rfl, hm, hf5⟩ := q141
              have hf : ∀ q : Nat, (q < 102 ∨ 128 < q) → h141 q = h q := fun q hq => (hf5 q hq).trans (hf q hq)
              refine x_aload_n D_6_isSayingItem_144 rfl ?_
              refine x_dup D_6_isSayingItem_145 rfl ?_
              refine x_getfield D_6_isSayingItem_146 f_6_98 (md_o hm) rfl ?_
              try simp only [upr, Nat.reduceEqDiff, ↓reduceIte]
              rw [v23]
              refine x_iconst D_6_isSayingItem_149 ?_
              refine x_iadd D_6_isSayingItem_150 ?_
              refine x_putI D_6_isSayingItem_151 f_6_98 (md_o hm) (by decide +kernel) rfl (fun h151 e151 n151 => ?_)
              replace hm := md_p23 hm e151 n151
              try simp only [upr, Nat.reduceEqDiff, ↓reduceIte] at hm
              replace hf := fun q hq => (n151 q (by omega)).trans (hf q hq)
              refine x_iconst D_6_isSayingItem_154 ?_
              refine x_ireturn D_6_isSayingItem_155 rfl (by first | rfl | exact nb_bi _ | decide +kernel) rfl ?_
              try (exfalso; omega)
              all_goals
                have hw : okN Bt len (p + nd Bt len p + 1 + nd Bt len (p + nd Bt len p + 1) + 1 + nd Bt len (p + nd Bt len p + 1 + nd Bt len (p + nd Bt len p + 1) + 1) + 1) 59 ∧ v4 = nv Bt len (p + nd Bt len p + 1 + nd Bt len (p + nd Bt len p + 1) + 1 + nd Bt len (p + nd Bt len p + 1 + nd Bt len (p + nd Bt len p + 1) + 1) + 1) ∧ V4 20 0 = (p + nd Bt len p + 1 + nd Bt len (p + nd Bt len p + 1) + 1 + nd Bt len (p + nd Bt len p + 1 + nd Bt len (p + nd Bt len p + 1) + 1) + 1) + nd Bt len (p + nd Bt len p + 1 + nd Bt len (p + nd Bt len p + 1) + 1 + nd Bt len (p + nd Bt len p + 1 + nd Bt len (p + nd Bt len p + 1) + 1) + 1) + 1 := by
                  rcases hcase with w | w
                  · exact ⟨w.1, w.2.1, w.2.2.1⟩
                  · exfalso; omega
                have hrd : rd Bt len 4 p = some ((p + nd Bt len p + 1 + nd Bt len (p + nd Bt len p + 1) + 1 + nd Bt len (p + nd Bt len p + 1 + nd Bt len (p + nd Bt len p + 1) + 1) + 1) + nd Bt len (p + nd Bt len p + 1 + nd Bt len (p + nd Bt len p + 1) + 1 + nd Bt len (p + nd Bt len p + 1 + nd Bt len (p + nd Bt len p + 1) + 1) + 1) + 1, [v, v2, v3, v4]) := by
                  rw [rd_44 3 o1, rd_44 2 a1, rd_44 1 b1, rd_59 0 hw.1, o2, a2, b2, hw.2.1]; rfl
                have h5 : v4 = 99 ∨ v4 < T 4 0 ∧ T 5 v4 ≠ v := by
                  first
                  | exact Or.inl (by omega)
                  | exact Or.inr ⟨by omega, c93⟩
                have hok : okW T v v2 v3 v4 := ⟨by omega, by omega, by omega, by omega, h5⟩
                refine ⟨Or.inl ⟨_, _, _, _, hrd, Or.inr (Or.inr (Or.inl ⟨rfl, v, v2, v3, v4, rfl, hok, rfl⟩)), rfl, hm, sd_w hT4 ?_, hw.2.2, fun a ha => (upr_ne _ _ (by omega)).trans ((upr_ne _ _ (by omega)).trans ((upr_ne _ _ (by omega)).trans ((upr_ne _ _ (by omega)).trans ((upr_ne _ _ (by omega)).trans (oo4 a ha)))))⟩, hf⟩
                first
                | (rw [if_pos (by omega)]; done)
                | (rw [if_neg (by omega)]; done)
                | (rw [if_pos (by omega)])
                | (rw [if_neg (by omega)])
            refine x_bipush D_6_isSayingItem_134 (by decide +kernel) ?_
            refine x_goto D_6_isSayingItem_136 ?_
            refine x_invV (d' := d - 1) D_6_isSayingItem_141 l_6_101 mi_6_tells (c_6_tells (by omega) hm (by omega)) (md_o hm) rfl rfl (by omega) rfl (fun q => q) rfl rfl (fun r141 h141 q141 => ?_)
            obtain ⟨rfl, hm, hf5⟩ := q141
            have hf : ∀ q : Nat, (q < 102 ∨ 128 < q) → h141 q = h q := fun q hq => (hf5 q hq).trans (hf q hq)
            refine x_aload_n D_6_isSayingItem_144 rfl ?_
            refine x_dup D_6_isSayingItem_145 rfl ?_
            refine x_getfield D_6_isSayingItem_146 f_6_98 (md_o hm) rfl ?_
            try simp only [upr, Nat.reduceEqDiff, ↓reduceIte]
            rw [v23]
            refine x_iconst D_6_isSayingItem_149 ?_
            refine x_iadd D_6_isSayingItem_150 ?_
            refine x_putI D_6_isSayingItem_151 f_6_98 (md_o hm) (by decide +kernel) rfl (fun h151 e151 n151 => ?_)
            replace hm := md_p23 hm e151 n151
            try simp only [upr, Nat.reduceEqDiff, ↓reduceIte] at hm
            replace hf := fun q hq => (n151 q (by omega)).trans (hf q hq)
            refine x_iconst D_6_isSayingItem_154 ?_
            refine x_ireturn D_6_isSayingItem_155 rfl (by first | rfl | exact nb_bi _ | decide +kernel) rfl ?_
            try (exfalso; omega)
            all_goals
              have hw : okN Bt len (p + nd Bt len p + 1 + nd Bt len (p + nd Bt len p + 1) + 1 + nd Bt len (p + nd Bt len p + 1 + nd Bt len (p + nd Bt len p + 1) + 1) + 1) 59 ∧ v4 = nv Bt len (p + nd Bt len p + 1 + nd Bt len (p + nd Bt len p + 1) + 1 + nd Bt len (p + nd Bt len p + 1 + nd Bt len (p + nd Bt len p + 1) + 1) + 1) ∧ V4 20 0 = (p + nd Bt len p + 1 + nd Bt len (p + nd Bt len p + 1) + 1 + nd Bt len (p + nd Bt len p + 1 + nd Bt len (p + nd Bt len p + 1) + 1) + 1) + nd Bt len (p + nd Bt len p + 1 + nd Bt len (p + nd Bt len p + 1) + 1 + nd Bt len (p + nd Bt len p + 1 + nd Bt len (p + nd Bt len p + 1) + 1) + 1) + 1 := by
                rcases hcase with w | w
                · exact ⟨w.1, w.2.1, w.2.2.1⟩
                · exfalso; omega
              have hrd : rd Bt len 4 p = some ((p + nd Bt len p + 1 + nd Bt len (p + nd Bt len p + 1) + 1 + nd Bt len (p + nd Bt len p + 1 + nd Bt len (p + nd Bt len p + 1) + 1) + 1) + nd Bt len (p + nd Bt len p + 1 + nd Bt len (p + nd Bt len p + 1) + 1 + nd Bt len (p + nd Bt len p + 1 + nd Bt len (p + nd Bt len p + 1) + 1) + 1) + 1, [v, v2, v3, v4]) := by
                rw [rd_44 3 o1, rd_44 2 a1, rd_44 1 b1, rd_59 0 hw.1, o2, a2, b2, hw.2.1]; rfl
              have h5 : v4 = 99 ∨ v4 < T 4 0 ∧ T 5 v4 ≠ v := by
                first
                | exact Or.inl (by omega)
                | exact Or.inr ⟨by omega, c93⟩
              have hok : okW T v v2 v3 v4 := ⟨by omega, by omega, by omega, by omega, h5⟩
              refine ⟨Or.inl ⟨_, _, _, _, hrd, Or.inr (Or.inr (Or.inl ⟨rfl, v, v2, v3, v4, rfl, hok, rfl⟩)), rfl, hm, sd_w hT4 ?_, hw.2.2, fun a ha => (upr_ne _ _ (by omega)).trans ((upr_ne _ _ (by omega)).trans ((upr_ne _ _ (by omega)).trans ((upr_ne _ _ (by omega)).trans ((upr_ne _ _ (by omega)).trans (oo4 a ha)))))⟩, hf⟩
              first
              | (rw [if_pos (by omega)]; done)
              | (rw [if_neg (by omega)]; done)
              | (rw [if_pos (by omega)])
              | (rw [if_neg (by omega)])
          refine x_iconst D_6_isSayingItem_117 ?_
          refine x_ireturn D_6_isSayingItem_118 rfl (by first | rfl | exact nb_bi _ | decide +kernel) rfl ?_
          try (exfalso; omega)
          all_goals
            refine ⟨Or.inr ⟨fun q l hr T1 ha => ?_, rfl, V4, hm, oo4⟩, hf⟩
            obtain ⟨x, y, w, k, rfl, g1, -⟩ := addI_w ha
            obtain ⟨r1, r2, r3⟩ := rd_more hr
            obtain ⟨r4, r5, r6⟩ := rd_more r3
            obtain ⟨r7, r8, r9⟩ := rd_more r6
            obtain ⟨s1, s2, s3⟩ := rd_one r9
            have hb := nd_rng Bt len (p + nd Bt len p + 1 + nd Bt len (p + nd Bt len p + 1) + 1 + nd Bt len (p + nd Bt len p + 1 + nd Bt len (p + nd Bt len p + 1) + 1) + 1)
            rcases hcase with w | w
            · have ek : k = v4 := s1.trans w.2.1.symm
              have ex : x = v := r1.trans o2.symm
              rw [ek, ex] at g1
              unfold okW at g1
              rcases g1.2.2.2.2 with g | g
              · omega
              · first
                | (exfalso; omega)
                | exact g.2 c93
            · exact w.1 s2
        refine x_iconst D_6_isSayingItem_96 ?_
        refine x_goto D_6_isSayingItem_97 ?_
        refine x_istore D_6_isSayingItem_101 rfl rfl rfl ?_
        refine x_iload D_6_isSayingItem_103 rfl ?_
        refine x_if_eq D_6_isSayingItem_105 ⟨by omega, by omega⟩ (fun c105 => ?_) (fun c105 => ?_)
        · refine x_iconst D_6_isSayingItem_117 ?_
          refine x_ireturn D_6_isSayingItem_118 rfl (by first | rfl | exact nb_bi _ | decide +kernel) rfl ?_
          try (exfalso; omega)
          all_goals
            refine ⟨Or.inr ⟨fun q l hr T1 ha => ?_, rfl, V4, hm, oo4⟩, hf⟩
            obtain ⟨x, y, w, k, rfl, g1, -⟩ := addI_w ha
            obtain ⟨r1, r2, r3⟩ := rd_more hr
            obtain ⟨r4, r5, r6⟩ := rd_more r3
            obtain ⟨r7, r8, r9⟩ := rd_more r6
            obtain ⟨s1, s2, s3⟩ := rd_one r9
            have hb := nd_rng Bt len (p + nd Bt len p + 1 + nd Bt len (p + nd Bt len p + 1) + 1 + nd Bt len (p + nd Bt len p + 1 + nd Bt len (p + nd Bt len p + 1) + 1) + 1)
            rcases hcase with w | w
            · have ek : k = v4 := s1.trans w.2.1.symm
              have ex : x = v := r1.trans o2.symm
              rw [ek, ex] at g1
              unfold okW at g1
              rcases g1.2.2.2.2 with g | g
              · omega
              · first
                | (exfalso; omega)
                | exact g.2 c93
            · exact w.1 s2
        refine x_aload_n D_6_isSayingItem_108 rfl ?_
        refine x_getfield D_6_isSayingItem_109 f_6_98 (md_o hm) rfl ?_
        try simp only [upr, Nat.reduceEqDiff, ↓reduceIte]
        rw [v23]
        refine x_bipush D_6_isSayingItem_112 (by decide +kernel) ?_
        refine x_icmp_ne D_6_isSayingItem_114 ⟨by omega, by omega⟩ ⟨by omega, by omega⟩ (fun c114 => ?_) (fun c114 => ?_)
        · refine x_aload_n D_6_isSayingItem_119 rfl ?_
          refine x_aload_n D_6_isSayingItem_120 rfl ?_
          refine x_getfield D_6_isSayingItem_121 f_6_98 (md_o hm) rfl ?_
          try simp only [upr, Nat.reduceEqDiff, ↓reduceIte]
          rw [v23]
          refine x_iload_n D_6_isSayingItem_124 rfl ?_
          refine x_iload_n D_6_isSayingItem_125 rfl ?_
          refine x_iload_n D_6_isSayingItem_126 rfl ?_
          refine x_iload D_6_isSayingItem_127 rfl ?_
          refine x_bipush D_6_isSayingItem_129 (by decide +kernel) ?_
          refine x_icmp_ne D_6_isSayingItem_131 ⟨by omega, by omega⟩ ⟨by omega, by omega⟩ (fun c131 => ?_) (fun c131 => ?_)
          · refine x_iload D_6_isSayingItem_139 rfl ?_
            refine x_invV (d' := d - 1) D_6_isSayingItem_141 l_6_101 mi_6_tells (c_6_tells (by omega) hm (by omega)) (md_o hm) rfl rfl (by omega) rfl (fun q => q) rfl rfl (fun r141 h141 q141 => ?_)
            obtain ⟨rfl, hm, hf5⟩ := q141
            have hf : ∀ q : Nat, (q < 102 ∨ 128 < q) → h141 q = h q := fun q hq => (hf5 q hq).trans (hf q hq)
            refine x_aload_n D_6_isSayingItem_144 rfl ?_
            refine x_dup D_6_isSayingItem_145 rfl ?_
            refine x_getfield D_6_isSayingItem_146 f_6_98 (md_o hm) rfl ?_
            try simp only [upr, Nat.reduceEqDiff, ↓reduceIte]
            rw [v23]
            refine x_iconst D_6_isSayingItem_149 ?_
            refine x_iadd D_6_isSayingItem_150 ?_
            refine x_putI D_6_isSayingItem_151 f_6_98 (md_o hm) (by decide +kernel) rfl (fun h151 e151 n151 => ?_)
            replace hm := md_p23 hm e151 n151
            try simp only [upr, Nat.reduceEqDiff, ↓reduceIte] at hm
            replace hf := fun q hq => (n151 q (by omega)).trans (hf q hq)
            refine x_iconst D_6_isSayingItem_154 ?_
            refine x_ireturn D_6_isSayingItem_155 rfl (by first | rfl | exact nb_bi _ | decide +kernel) rfl ?_
            try (exfalso; omega)
            all_goals
              have hw : okN Bt len (p + nd Bt len p + 1 + nd Bt len (p + nd Bt len p + 1) + 1 + nd Bt len (p + nd Bt len p + 1 + nd Bt len (p + nd Bt len p + 1) + 1) + 1) 59 ∧ v4 = nv Bt len (p + nd Bt len p + 1 + nd Bt len (p + nd Bt len p + 1) + 1 + nd Bt len (p + nd Bt len p + 1 + nd Bt len (p + nd Bt len p + 1) + 1) + 1) ∧ V4 20 0 = (p + nd Bt len p + 1 + nd Bt len (p + nd Bt len p + 1) + 1 + nd Bt len (p + nd Bt len p + 1 + nd Bt len (p + nd Bt len p + 1) + 1) + 1) + nd Bt len (p + nd Bt len p + 1 + nd Bt len (p + nd Bt len p + 1) + 1 + nd Bt len (p + nd Bt len p + 1 + nd Bt len (p + nd Bt len p + 1) + 1) + 1) + 1 := by
                rcases hcase with w | w
                · exact ⟨w.1, w.2.1, w.2.2.1⟩
                · exfalso; omega
              have hrd : rd Bt len 4 p = some ((p + nd Bt len p + 1 + nd Bt len (p + nd Bt len p + 1) + 1 + nd Bt len (p + nd Bt len p + 1 + nd Bt len (p + nd Bt len p + 1) + 1) + 1) + nd Bt len (p + nd Bt len p + 1 + nd Bt len (p + nd Bt len p + 1) + 1 + nd Bt len (p + nd Bt len p + 1 + nd Bt len (p + nd Bt len p + 1) + 1) + 1) + 1, [v, v2, v3, v4]) := by
                rw [rd_44 3 o1, rd_44 2 a1, rd_44 1 b1, rd_59 0 hw.1, o2, a2, b2, hw.2.1]; rfl
              have h5 : v4 = 99 ∨ v4 < T 4 0 ∧ T 5 v4 ≠ v := by
                first
                | exact Or.inl (by omega)
                | exact Or.inr ⟨by omega, c93⟩
              have hok : okW T v v2 v3 v4 := ⟨by omega, by omega, by omega, by omega, h5⟩
              refine ⟨Or.inl ⟨_, _, _, _, hrd, Or.inr (Or.inr (Or.inl ⟨rfl, v, v2, v3, v4, rfl, hok, rfl⟩)), rfl, hm, sd_w hT4 ?_, hw.2.2, fun a ha => (upr_ne _ _ (by omega)).trans ((upr_ne _ _ (by omega)).trans ((upr_ne _ _ (by omega)).trans ((upr_ne _ _ (by omega)).trans ((upr_ne _ _ (by omega)).trans (oo4 a ha)))))⟩, hf⟩
              first
              | (rw [if_pos (by omega)]; done)
              | (rw [if_neg (by omega)]; done)
              | (rw [if_pos (by omega)])
              | (rw [if_neg (by omega)])
          refine x_bipush D_6_isSayingItem_134 (by decide +kernel) ?_
          refine x_goto D_6_isSayingItem_136 ?_
          refine x_invV (d' := d - 1) D_6_isSayingItem_141 l_6_101 mi_6_tells (c_6_tells (by omega) hm (by omega)) (md_o hm) rfl rfl (by omega) rfl (fun q => q) rfl rfl (fun r141 h141 q141 => ?_)
          obtain ⟨rfl, hm, hf5⟩ := q141
          have hf : ∀ q : Nat, (q < 102 ∨ 128 < q) → h141 q = h q := fun q hq => (hf5 q hq).trans (hf q hq)
          refine x_aload_n D_6_isSayingItem_144 rfl ?_
          refine x_dup D_6_isSayingItem_145 rfl ?_
          refine x_getfield D_6_isSayingItem_146 f_6_98 (md_o hm) rfl ?_
          try simp only [upr, Nat.reduceEqDiff, ↓reduceIte]
          rw [v23]
          refine x_iconst D_6_isSayingItem_149 ?_
          refine x_iadd D_6_isSayingItem_150 ?_
          refine x_putI D_6_isSayingItem_151 f_6_98 (md_o hm) (by decide +kernel) rfl (fun h151 e151 n151 => ?_)
          replace hm := md_p23 hm e151 n151
          try simp only [upr, Nat.reduceEqDiff, ↓reduceIte] at hm
          replace hf := fun q hq => (n151 q (by omega)).trans (hf q hq)
          refine x_iconst D_6_isSayingItem_154 ?_
          refine x_ireturn D_6_isSayingItem_155 rfl (by first | rfl | exact nb_bi _ | decide +kernel) rfl ?_
          try (exfalso; omega)
          all_goals
            have hw : okN Bt len (p + nd Bt len p + 1 + nd Bt len (p + nd Bt len p + 1) + 1 + nd Bt len (p + nd Bt len p + 1 + nd Bt len (p + nd Bt len p + 1) + 1) + 1) 59 ∧ v4 = nv Bt len (p + nd Bt len p + 1 + nd Bt len (p + nd Bt len p + 1) + 1 + nd Bt len (p + nd Bt len p + 1 + nd Bt len (p + nd Bt len p + 1) + 1) + 1) ∧ V4 20 0 = (p + nd Bt len p + 1 + nd Bt len (p + nd Bt len p + 1) + 1 + nd Bt len (p + nd Bt len p + 1 + nd Bt len (p + nd Bt len p + 1) + 1) + 1) + nd Bt len (p + nd Bt len p + 1 + nd Bt len (p + nd Bt len p + 1) + 1 + nd Bt len (p + nd Bt len p + 1 + nd Bt len (p + nd Bt len p + 1) + 1) + 1) + 1 := by
              rcases hcase with w | w
              · exact ⟨w.1, w.2.1, w.2.2.1⟩
              · exfalso; omega
            have hrd : rd Bt len 4 p = some ((p + nd Bt len p + 1 + nd Bt len (p + nd Bt len p + 1) + 1 + nd Bt len (p + nd Bt len p + 1 + nd Bt len (p + nd Bt len p + 1) + 1) + 1) + nd Bt len (p + nd Bt len p + 1 + nd Bt len (p + nd Bt len p + 1) + 1 + nd Bt len (p + nd Bt len p + 1 + nd Bt len (p + nd Bt len p + 1) + 1) + 1) + 1, [v, v2, v3, v4]) := by
              rw [rd_44 3 o1, rd_44 2 a1, rd_44 1 b1, rd_59 0 hw.1, o2, a2, b2, hw.2.1]; rfl
            have h5 : v4 = 99 ∨ v4 < T 4 0 ∧ T 5 v4 ≠ v := by
              first
              | exact Or.inl (by omega)
              | exact Or.inr ⟨by omega, c93⟩
            have hok : okW T v v2 v3 v4 := ⟨by omega, by omega, by omega, by omega, h5⟩
            refine ⟨Or.inl ⟨_, _, _, _, hrd, Or.inr (Or.inr (Or.inl ⟨rfl, v, v2, v3, v4, rfl, hok, rfl⟩)), rfl, hm, sd_w hT4 ?_, hw.2.2, fun a ha => (upr_ne _ _ (by omega)).trans ((upr_ne _ _ (by omega)).trans ((upr_ne _ _ (by omega)).trans ((upr_ne _ _ (by omega)).trans ((upr_ne _ _ (by omega)).trans (oo4 a ha)))))⟩, hf⟩
            first
            | (rw [if_pos (by omega)]; done)
            | (rw [if_neg (by omega)]; done)
            | (rw [if_pos (by omega)])
            | (rw [if_neg (by omega)])
        refine x_iconst D_6_isSayingItem_117 ?_
        refine x_ireturn D_6_isSayingItem_118 rfl (by first | rfl | exact nb_bi _ | decide +kernel) rfl ?_
        try (exfalso; omega)
        all_goals
          refine ⟨Or.inr ⟨fun q l hr T1 ha => ?_, rfl, V4, hm, oo4⟩, hf⟩
          obtain ⟨x, y, w, k, rfl, g1, -⟩ := addI_w ha
          obtain ⟨r1, r2, r3⟩ := rd_more hr
          obtain ⟨r4, r5, r6⟩ := rd_more r3
          obtain ⟨r7, r8, r9⟩ := rd_more r6
          obtain ⟨s1, s2, s3⟩ := rd_one r9
          have hb := nd_rng Bt len (p + nd Bt len p + 1 + nd Bt len (p + nd Bt len p + 1) + 1 + nd Bt len (p + nd Bt len p + 1 + nd Bt len (p + nd Bt len p + 1) + 1) + 1)
          rcases hcase with w | w
          · have ek : k = v4 := s1.trans w.2.1.symm
            have ex : x = v := r1.trans o2.symm
            rw [ek, ex] at g1
            unfold okW at g1
            rcases g1.2.2.2.2 with g | g
            · omega
            · first
              | (exfalso; omega)
              | exact g.2 c93
          · exact w.1 s2
      refine x_iconst D_6_isSayingItem_53 ?_
      refine x_ireturn D_6_isSayingItem_54 rfl (by first | rfl | exact nb_bi _ | decide +kernel) rfl ?_
      refine ⟨Or.inr ⟨fun q l hr T1 ha => ?_, rfl, V3, hm, oo3⟩, hf⟩
      obtain ⟨x, y, w, k, rfl, g1, -⟩ := addI_w ha
      obtain ⟨r1, r2, r3⟩ := rd_more hr
      obtain ⟨r4, r5, r6⟩ := rd_more r3
      obtain ⟨r7, r8, r9⟩ := rd_more r6
      rcases hcase with w | w
      · omega
      · exact w.1 r8
    refine x_iconst D_6_isSayingItem_40 ?_
    refine x_ireturn D_6_isSayingItem_41 rfl (by first | rfl | exact nb_bi _ | decide +kernel) rfl ?_
    refine ⟨Or.inr ⟨fun q l hr T1 ha => ?_, rfl, V2, hm, oo2⟩, hf⟩
    obtain ⟨x, y, w, k, rfl, g1, -⟩ := addI_w ha
    obtain ⟨r1, r2, r3⟩ := rd_more hr
    obtain ⟨r4, r5, r6⟩ := rd_more r3
    unfold okW at g1
    rcases hcase with w | w
    · omega
    · exact w.1 r5
  refine x_iconst D_6_isSayingItem_21 ?_
  refine x_ireturn D_6_isSayingItem_22 rfl (by first | rfl | exact nb_bi _ | decide +kernel) rfl ?_
  refine ⟨Or.inr ⟨fun q l hr T1 ha => ?_, rfl, V, hm, fun a ha => vo a (by omega)⟩, hf⟩
  obtain ⟨x, y, w, k, rfl, g1, -⟩ := addI_w ha
  obtain ⟨r1, r2, r3⟩ := rd_more hr
  unfold okW at g1
  rcases hcase with w | w
  · omega
  · exact w.1 r2
end R9
