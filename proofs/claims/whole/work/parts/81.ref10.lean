def ItS (U T : TT) (Bt : Int → Int) (len p lt : Int) (h' : Hp) : Prop := ∃ (q : Int) (l : List Int) (T1 W : TT), rd Bt len 4 p = some (q, l) ∧ addI T lt l T1 ∧ MdAt h' W ∧ AgT T1 (sdU W) ∧ W 20 0 = q ∧ OldK U W
def ItN (U T : TT) (Bt : Int → Int) (len p lt : Int) (h' : Hp) : Prop := (∀ (q : Int) (l : List Int), rd Bt len 4 p = some (q, l) → ∀ T1 : TT, ¬ addI T lt l T1) ∧ ∃ W : TT, MdAt h' W ∧ OldK U W
theorem ItQ.val {h0 : Hp} {U T : TT} {Bt : Int → Int} {len p lt : Int} {r : Option Value} {h' : Hp} (h : ItQ h0 U T Bt len p lt r h') : ∃ b : Bool, r = some (vi (bi (b = true))) ∧ (b = true ∧ ItS U T Bt len p lt h' ∨ b = false ∧ ItN U T Bt len p lt h') ∧ ∀ q : Nat, (q < 102 ∨ 128 < q) → h' q = h0 q := by
  obtain ⟨⟨q, l, T1, W, a1, a2, a3, a4, a5, a6, a7⟩ | ⟨a1, a2, a3⟩, hf⟩ := h
  · exact ⟨true, a3, Or.inl ⟨rfl, q, l, T1, W, a1, a2, a4, a5, a6, a7⟩, hf⟩
  · exact ⟨false, a2, Or.inr ⟨rfl, a1, a3⟩, hf⟩
theorem ItQ.of {h1 : Hp} {U V T : TT} {Bt : Int → Int} {len p lt lt2 : Int} {h' : Hp} {b : Bool} (h : b = true ∧ ItS U T Bt len p lt h' ∨ b = false ∧ ItN U T Bt len p lt h') (e : lt = lt2) (hk : ∀ a : Nat, a ≠ 20 → U a = V a) (hf : ∀ q : Nat, (q < 102 ∨ 128 < q) → h' q = h1 q) : ItQ h1 V T Bt len p lt2 (some (vi (bi (b = true)))) h' := by
  subst e
  refine ⟨?_, hf⟩
  rcases h with ⟨rfl, q, l, T1, W, a1, a2, a4, a5, a6, a7⟩ | ⟨rfl, a1, W, a2, a3⟩
  · exact Or.inl ⟨q, l, T1, W, a1, a2, rfl, a4, a5, a6, fun a ha => (a7 a ha).trans (hk a (by omega))⟩
  · exact Or.inr ⟨a1, rfl, W, a2, fun a ha => (a3 a ha).trans (hk a (by omega))⟩
section R10
variable {d : Nat} {z : Nat × Nat} {h : Hp} {len : Int} {Bt : Int → Int} {T : TT}
theorem c_6_isItem (hd : 3 ≤ d) {U : TT} (hm : MdAt h U) (hx : TxAt U len Bt) (hln : 0 ≤ len ∧ len ≤ 300) (hBt : ∀ j : Int, -128 ≤ Bt j ∧ Bt j ≤ 127) (hk : TabOk T) (hT : AgT T (sdU U)) {p : Int} (hp : U 20 0 = p) (hp0 : 0 ≤ p ∧ p < len) : Ct d m_6_isItem [.ref 102] z z h (ItQ h U T Bt len (p + 1) (Bt p)) := by
  refine Ct.of (by decide) ⟨Nat.le_refl _, Nat.le_refl _⟩ (Nat.le_of_ble_eq_true rfl) ?_
  have hr := here_rng (len := len) (p := p) hBt
  have hf : ∀ q : Nat, (q < 102 ∨ 128 < q) → h q = h q := fun _ _ => rfl
  have hsg : ∀ g : Int, 0 ≤ g → g ≤ 127 → (hereA Bt len p = g → g = Bt p) := fun g g0 g1 q => ((here_sg hBt ⟨g0, g1⟩).mp q).2.symm
  refine x_aload_n D_6_isItem_0 rfl ?_
  refine x_invV (d' := d - 1) D_6_isItem_1 l_6_135 mi_6_here (c_6_here (by omega) hm hx hln hp (by omega)) (md_o hm) rfl rfl (by omega) rfl (fun q => q) rfl rfl (fun r1 h1 q1 => ?_)
  obtain ⟨rfl, rfl⟩ := q1
  refine x_istore_n D_6_isItem_4 rfl rfl rfl ?_
  refine x_aload_n D_6_isItem_5 rfl ?_
  refine x_dup D_6_isItem_6 rfl ?_
  refine x_getfield D_6_isItem_7 f_6_126 (md_o hm) rfl ?_
  rw [hp]
  refine x_iconst D_6_isItem_10 ?_
  refine x_iadd D_6_isItem_11 ?_
  refine x_putI D_6_isItem_12 f_6_126 (md_o hm) (by decide +kernel) rfl (fun h12 e12 n12 => ?_)
  replace hm := md_p20 hm e12 n12
  replace hf := fun q hq => (n12 q (by omega)).trans (hf q hq)
  have hx1 : TxAt (upr U 20 (fun _ => p + 1)) len Bt := hx.of rfl rfl
  have hT1 : AgT T (sdU (upr U 20 (fun _ => p + 1))) := by rw [sdU_same (U := U) (fun a a1 a2 => upr_ne _ _ (by omega))]; exact hT
  have hq : upr U 20 (fun _ => p + 1) 20 0 = p + 1 := rfl
  refine x_iload_n D_6_isItem_15 rfl ?_
  by_cases w16_97 : (hereA Bt len p) = 97
  · refine x_lsw D_6_isItem_16 (tgt := 83) (off := 67) ⟨by omega, by omega⟩ (by decide +kernel) (by rw [w16_97]; decide +kernel) (by omega) ?_
    refine x_aload_n D_6_isItem_83 rfl ?_
    refine x_invV (d' := d - 1) D_6_isItem_84 l_6_153 mi_6_isWaitItem (c_6_isWaitItem (by omega) hm hx1 hln hBt hk hT1 hq (by omega)) (md_o hm) rfl rfl (by omega) rfl (fun q => q) rfl rfl (fun r84 h84 q84 => ?_)
    obtain ⟨b, rfl, hb, hf2⟩ := q84.val
    refine x_ireturn D_6_isItem_87 rfl (by first | rfl | exact nb_bi _ | decide +kernel) rfl ?_
    exact ItQ.of hb (hsg _ (by omega) (by omega) w16_97) (fun a ha => upr_ne _ _ ha) (fun q hq => (hf2 q hq).trans (hf q hq))
  by_cases w16_100 : (hereA Bt len p) = 100
  · refine x_lsw D_6_isItem_16 (tgt := 88) (off := 72) ⟨by omega, by omega⟩ (by decide +kernel) (by rw [w16_100]; decide +kernel) (by omega) ?_
    refine x_aload_n D_6_isItem_88 rfl ?_
    refine x_invV (d' := d - 1) D_6_isItem_89 l_6_156 mi_6_isDishItem (c_6_isDishItem (by omega) hm hx1 hln hBt hk hT1 hq (by omega)) (md_o hm) rfl rfl (by omega) rfl (fun q => q) rfl rfl (fun r89 h89 q89 => ?_)
    obtain ⟨b, rfl, hb, hf2⟩ := q89.val
    refine x_ireturn D_6_isItem_92 rfl (by first | rfl | exact nb_bi _ | decide +kernel) rfl ?_
    exact ItQ.of hb (hsg _ (by omega) (by omega) w16_100) (fun a ha => upr_ne _ _ ha) (fun q hq => (hf2 q hq).trans (hf q hq))
  by_cases w16_103 : (hereA Bt len p) = 103
  · refine x_lsw D_6_isItem_16 (tgt := 73) (off := 57) ⟨by omega, by omega⟩ (by decide +kernel) (by rw [w16_103]; decide +kernel) (by omega) ?_
    refine x_aload_n D_6_isItem_73 rfl ?_
    refine x_invV (d' := d - 1) D_6_isItem_74 l_6_147 mi_6_isGrainItem (c_6_isGrainItem (by omega) hm hx1 hln hBt hk hT1 hq (by omega)) (md_o hm) rfl rfl (by omega) rfl (fun q => q) rfl rfl (fun r74 h74 q74 => ?_)
    obtain ⟨b, rfl, hb, hf2⟩ := q74.val
    refine x_ireturn D_6_isItem_77 rfl (by first | rfl | exact nb_bi _ | decide +kernel) rfl ?_
    exact ItQ.of hb (hsg _ (by omega) (by omega) w16_103) (fun a ha => upr_ne _ _ ha) (fun q hq => (hf2 q hq).trans (hf q hq))
  by_cases w16_112 : (hereA Bt len p) = 112
  · refine x_lsw D_6_isItem_16 (tgt := 68) (off := 52) ⟨by omega, by omega⟩ (by decide +kernel) (by rw [w16_112]; decide +kernel) (by omega) ?_
    refine x_aload_n D_6_isItem_68 rfl ?_
    refine x_invV (d' := d - 1) D_6_isItem_69 l_6_143 mi_6_isPersonItem (c_6_isPersonItem (by omega) hm hx1 hln hBt hk hT1 hq (by omega)) (md_o hm) rfl rfl (by omega) rfl (fun q => q) rfl rfl (fun r69 h69 q69 => ?_)
    obtain ⟨b, rfl, hb, hf2⟩ := q69.val
    refine x_ireturn D_6_isItem_72 rfl (by first | rfl | exact nb_bi _ | decide +kernel) rfl ?_
    exact ItQ.of hb (hsg _ (by omega) (by omega) w16_112) (fun a ha => upr_ne _ _ ha) (fun q hq => (hf2 q hq).trans (hf q hq))
  by_cases w16_119 : (hereA Bt len p) = 119
  · refine x_lsw D_6_isItem_16 (tgt := 78) (off := 62) ⟨by omega, by omega⟩ (by decide +kernel) (by rw [w16_119]; decide +kernel) (by omega) ?_
    refine x_aload_n D_6_isItem_78 rfl ?_
    refine x_invV (d' := d - 1) D_6_isItem_79 l_6_150 mi_6_isSayingItem (c_6_isSayingItem (by omega) hm hx1 hln hBt hk hT1 hq (by omega)) (md_o hm) rfl rfl (by omega) rfl (fun q => q) rfl rfl (fun r79 h79 q79 => ?_)
    obtain ⟨b, rfl, hb, hf2⟩ := q79.val
    refine x_ireturn D_6_isItem_82 rfl (by first | rfl | exact nb_bi _ | decide +kernel) rfl ?_
    exact ItQ.of hb (hsg _ (by omega) (by omega) w16_119) (fun a ha => upr_ne _ _ ha) (fun q hq => (hf2 q hq).trans (hf q hq))
  refine x_lsw D_6_isItem_16 (tgt := 93) (off := 77) ⟨by omega, by omega⟩ (by decide +kernel) (by simp [Op.lookupswitch.offset, Ne.symm w16_97, Ne.symm w16_100, Ne.symm w16_103, Ne.symm w16_112, Ne.symm w16_119]) (by omega) ?_
  refine x_iconst D_6_isItem_93 ?_
  refine x_ireturn D_6_isItem_94 rfl (by first | rfl | exact nb_bi _ | decide +kernel) rfl ?_
  refine ⟨Or.inr ⟨fun q l _ T1 ha => ?_, rfl, _, hm, fun a ha => upr_ne _ _ (by omega)⟩, hf⟩
  have hs := fun (g : Int) (g0 : 0 ≤ g ∧ g ≤ 127) => (here_sg (len := len) (p := p) hBt g0).mpr
  rcases ha with ⟨g1, -⟩ | ⟨g1, -⟩ | ⟨g1, -⟩ | ⟨g1, -⟩ | ⟨g1, -⟩
  · exact w16_112 (hs 112 (by omega) ⟨hp0.2, g1⟩)
  · exact w16_103 (hs 103 (by omega) ⟨hp0.2, g1⟩)
  · exact w16_119 (hs 119 (by omega) ⟨hp0.2, g1⟩)
  · exact w16_97 (hs 97 (by omega) ⟨hp0.2, g1⟩)
  · exact w16_100 (hs 100 (by omega) ⟨hp0.2, g1⟩)
theorem c_6_begins (hd : 0 ≤ d) {U : TT} (hm : MdAt h U) : Ct d m_6_begins [.ref 102] z z h (fun r h' => r = none ∧ (∃ W : TT, MdAt h' W ∧ AgT (clr0 Zt) (sdU W) ∧ W 20 0 = 0 ∧ OldK U W) ∧ ∀ q : Nat, (q < 102 ∨ 128 < q) → h' q = h q) := by
  refine Ct.of (by decide) ⟨Nat.le_refl _, Nat.le_refl _⟩ (Nat.le_of_ble_eq_true rfl) ?_
  have hf : ∀ q : Nat, (q < 102 ∨ 128 < q) → h q = h q := fun _ _ => rfl
  refine x_aload_n D_6_begins_0 rfl ?_
  refine x_iconst D_6_begins_1 ?_
  refine x_putI D_6_begins_2 f_6_126 (md_o hm) (by decide +kernel) rfl (fun h2 e2 n2 => ?_)
  replace hm := md_p20 hm e2 n2
  replace hf := fun q hq => (n2 q (by omega)).trans (hf q hq)
  refine x_aload_n D_6_begins_5 rfl ?_
  refine x_iconst D_6_begins_6 ?_
  refine x_putI D_6_begins_7 f_6_91 (md_o hm) (by decide +kernel) rfl (fun h7 e7 n7 => ?_)
  replace hm := md_p21 hm e7 n7
  try simp only [upr, Nat.reduceEqDiff, ↓reduceIte] at hm
  replace hf := fun q hq => (n7 q (by omega)).trans (hf q hq)
  refine x_aload_n D_6_begins_10 rfl ?_
  refine x_iconst D_6_begins_11 ?_
  refine x_putI D_6_begins_12 f_6_95 (md_o hm) (by decide +kernel) rfl (fun h12 e12 n12 => ?_)
  replace hm := md_p22 hm e12 n12
  try simp only [upr, Nat.reduceEqDiff, ↓reduceIte] at hm
  replace hf := fun q hq => (n12 q (by omega)).trans (hf q hq)
  refine x_aload_n D_6_begins_15 rfl ?_
  refine x_iconst D_6_begins_16 ?_
  refine x_putI D_6_begins_17 f_6_98 (md_o hm) (by decide +kernel) rfl (fun h17 e17 n17 => ?_)
  replace hm := md_p23 hm e17 n17
  try simp only [upr, Nat.reduceEqDiff, ↓reduceIte] at hm
  replace hf := fun q hq => (n17 q (by omega)).trans (hf q hq)
  refine x_aload_n D_6_begins_20 rfl ?_
  refine x_iconst D_6_begins_21 ?_
  refine x_putI D_6_begins_22 f_6_129 (md_o hm) (by decide +kernel) rfl (fun h22 e22 n22 => ?_)
  replace hm := md_p24 hm e22 n22
  try simp only [upr, Nat.reduceEqDiff, ↓reduceIte] at hm
  replace hf := fun q hq => (n22 q (by omega)).trans (hf q hq)
  refine x_aload_n D_6_begins_25 rfl ?_
  refine x_bipush D_6_begins_26 (by decide +kernel) ?_
  refine x_putI D_6_begins_28 f_6_132 (md_o hm) (by decide +kernel) rfl (fun h28 e28 n28 => ?_)
  replace hm := md_p25 hm e28 n28
  try simp only [upr, Nat.reduceEqDiff, ↓reduceIte] at hm
  replace hf := fun q hq => (n28 q (by omega)).trans (hf q hq)
  refine x_return D_6_begins_31 rfl rfl ?_
  refine ⟨rfl, ⟨_, hm, ⟨⟨rfl, rfl, rfl, rfl, rfl⟩, fun i i0 i1 => ?_, fun i i0 i1 => ?_, fun i i0 i1 => ?_, fun i i0 i1 => ?_⟩, rfl, fun a ha => (upr_ne _ _ (by omega)).trans ((upr_ne _ _ (by omega)).trans ((upr_ne _ _ (by omega)).trans ((upr_ne _ _ (by omega)).trans ((upr_ne _ _ (by omega)).trans (upr_ne _ _ (by omega))))))⟩, hf⟩
  · have i2 : i < 0 := i1
    omega
  · have i2 : i < 0 := i1
    omega
  · have i2 : i < 0 := i1
    omega
  · have i2 : i < 0 := i1
    omega
def FfQ (h0 : Hp) (U : TT) (Bt : Int → Int) (len : Int) : Option Value → Hp → Prop := fun r h' => (∃ (f : Int) (T0 W : TT), Told Bt len f T0 ∧ r = some (vi f) ∧ MdAt h' W ∧ (f = -4 → AgT T0 (sdU W)) ∧ OldK U W) ∧ ∀ q : Nat, (q < 102 ∨ 128 < q) → h' q = h0 q
theorem c_6_findFault (hd : 4 ≤ d) {U : TT} (hm : MdAt h U) (hx : TxAt U len Bt) (hln : 0 ≤ len ∧ len ≤ 300) (hBt : ∀ j : Int, -128 ≤ Bt j ∧ Bt j ≤ 127) : Ct d m_6_findFault [.ref 102] z z h (FfQ h U Bt len) := by
  refine Ct.of (by decide) ⟨Nat.le_refl _, Nat.le_refl _⟩ (Nat.le_of_ble_eq_true rfl) ?_
  have loop : ∀ (n : Nat) (T : TT) (i : Int) (hh : Hp) (V : TT), TabOk T → 0 ≤ i → i ≤ len → len - i ≤ n → (∀ f T', prsR Bt len n T i f T' → Told Bt len f T') → MdAt hh V → V 20 0 = i → AgT T (sdU V) → OldK U V → (∀ q : Nat, (q < 102 ∨ 128 < q) → hh q = h q) →
      WW d m_6_findFault z (FfQ h U Bt len) z hh 4 [(0, .ref 102)] [] := by
    intro n
    induction n with
    | zero =>
      intro T i hh V hk h0 hi hn hC hm v20 hT ho hf
      have v19 : V 19 0 = len := (congrFun (ho 19 (by omega)) 0).trans hx.1
      refine x_aload_n D_6_findFault_4 rfl ?_
      refine x_getfield D_6_findFault_5 f_6_126 (md_o hm) rfl ?_
      rw [v20]
      refine x_aload_n D_6_findFault_8 rfl ?_
      refine x_getfield D_6_findFault_9 f_6_121 (md_o hm) rfl ?_
      rw [v19]
      refine x_icmp_ge D_6_findFault_12 ⟨by omega, by omega⟩ ⟨by omega, by omega⟩ (fun c12 => ?_) (fun c12 => ?_)
      · refine x_bipush D_6_findFault_32 (by decide +kernel) ?_
        refine x_ireturn D_6_findFault_34 rfl (by first | rfl | exact nb_bi _ | decide +kernel) rfl ?_
        exact ⟨⟨_, T, V, hC _ _ ⟨by omega, rfl, rfl⟩, rfl, hm, fun _ => hT, ho⟩, hf⟩
      exact absurd c12 (by omega)
    | succ n ih =>
      intro T i hh V hk h0 hi hn hC hm v20 hT ho hf
      have v19 : V 19 0 = len := (congrFun (ho 19 (by omega)) 0).trans hx.1
      have hx1 : TxAt V len Bt := hx.of (ho 18 (by omega)) (ho 19 (by omega))
      refine x_aload_n D_6_findFault_4 rfl ?_
      refine x_getfield D_6_findFault_5 f_6_126 (md_o hm) rfl ?_
      rw [v20]
      refine x_aload_n D_6_findFault_8 rfl ?_
      refine x_getfield D_6_findFault_9 f_6_121 (md_o hm) rfl ?_
      rw [v19]
      refine x_icmp_ge D_6_findFault_12 ⟨by omega, by omega⟩ ⟨by omega, by omega⟩ (fun c12 => ?_) (fun c12 => ?_)
      · refine x_bipush D_6_findFault_32 (by decide +kernel) ?_
        refine x_ireturn D_6_findFault_34 rfl (by first | rfl | exact nb_bi _ | decide +kernel) rfl ?_
        exact ⟨⟨_, T, V, hC _ _ (Or.inl ⟨by omega, rfl, rfl⟩), rfl, hm, fun _ => hT, ho⟩, hf⟩
      refine x_aload_n D_6_findFault_15 rfl ?_
      refine x_getfield D_6_findFault_16 f_6_126 (md_o hm) rfl ?_
      rw [v20]
      refine x_istore_n D_6_findFault_19 rfl rfl rfl ?_
      refine x_aload_n D_6_findFault_20 rfl ?_
      refine x_invV (d' := d - 1) D_6_findFault_21 l_6_159 mi_6_isItem (c_6_isItem (by omega) hm hx1 hln hBt hk hT v20 ⟨by omega, by omega⟩) (md_o hm) rfl rfl (by omega) rfl (fun q => q) rfl rfl (fun r21 h21 q21 => ?_)
      obtain ⟨b, rfl, hb, hf2⟩ := q21.val
      have hf : ∀ q : Nat, (q < 102 ∨ 128 < q) → h21 q = h q := fun q hq => (hf2 q hq).trans (hf q hq)
      refine x_if_neb D_6_findFault_24 (fun c24 => ?_) (fun c24 => ?_)
      · rcases hb with ⟨-, q, l, T1, W, a1, a2, a4, a5, a6, a7⟩ | ⟨y, -⟩
        · obtain ⟨r1, r2, r3, r4⟩ := rd_rng Bt len _ _ _ _ a1
          refine x_goto D_6_findFault_29 ?_
          exact (ih T1 q h21 W (ok_addI hk r4 a2) (by omega) r2 (by omega) (fun f T2 g => hC f T2 (Or.inr (Or.inl ⟨by omega, q, l, T1, a1, a2, g⟩))) a4 a6 a5 (fun a ha => (a7 a ha).trans (ho a ha)) hf).sub rfl
        · rw [y] at c24; cases c24
      refine x_iload_n D_6_findFault_27 rfl ?_
      refine x_ireturn D_6_findFault_28 rfl (by first | rfl | exact nb_bi _ | decide +kernel) rfl ?_
      rcases hb with ⟨y, -⟩ | ⟨-, a1, W, a2, a3⟩
      · exact absurd y c24
      · exact ⟨⟨i, T, W, hC _ _ (Or.inr (Or.inr ⟨by omega, rfl, rfl, a1⟩)), rfl, a2, fun q => absurd q (by omega), fun a ha => (a3 a ha).trans (ho a ha)⟩, hf⟩
  have hf : ∀ q : Nat, (q < 102 ∨ 128 < q) → h q = h q := fun _ _ => rfl
  refine x_aload_n D_6_findFault_0 rfl ?_
  refine x_invV (d' := d - 1) D_6_findFault_1 l_6_88 mi_6_begins (c_6_begins (by omega) hm) (md_o hm) rfl rfl (by omega) rfl (fun q => q) rfl rfl (fun r1 h1 q1 => ?_)
  obtain ⟨rfl, ⟨W, w1, w2, w3, w4⟩, hf2⟩ := q1
  exact (loop len.toNat (clr0 Zt) 0 h1 W (ok_clear Zt) (by omega) (by omega) (by omega) (fun _ _ g => g) w1 w3 w2 w4 hf2).sub rfl
end R10
