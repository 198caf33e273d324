theorem rd_59 {Bt : Int → Int} {e p : Int} (k : Nat) (h : okN Bt e p 59) : rd Bt e (k + 1) p = some (p + nd Bt e p + 1, [nv Bt e p]) := by
  simp only [rd]
  rw [if_neg (by omega), if_pos h.2.2]
theorem rd_44 {Bt : Int → Int} {e p : Int} (k : Nat) (h : okN Bt e p 44) : rd Bt e (k + 1) p = (rd Bt e k (p + nd Bt e p + 1)).map (fun x => (x.1, nv Bt e p :: x.2)) := by
  simp only [rd]
  rw [if_neg (by omega), if_neg (by omega), if_pos h.2.2]
theorem rd_ne {Bt : Int → Int} {e : Int} : ∀ (k : Nat) (p q : Int), rd Bt e k p ≠ some (q, []) := by
  intro k p q h
  cases k with
  | zero => simp [rd] at h
  | succ k =>
    simp only [rd] at h
    split at h
    · cases h
    · split at h
      · cases h
      · split at h
        · cases hx : rd Bt e k (p + nd Bt e p + 1) with
          | none => rw [hx] at h; cases h
          | some x => rw [hx] at h; cases h
        · cases h
theorem rd_inv {Bt : Int → Int} {e p q a : Int} {l : List Int} {k : Nat} (h : rd Bt e (k + 1) p = some (q, a :: l)) : a = nv Bt e p ∧ ((l = [] ∧ okN Bt e p 59 ∧ q = p + nd Bt e p + 1) ∨ (okN Bt e p 44 ∧ rd Bt e k (p + nd Bt e p + 1) = some (q, l))) := by
  simp only [rd] at h
  split at h
  · cases h
  · split at h
    next h1 h2 =>
      cases h
      exact ⟨rfl, Or.inl ⟨rfl, ⟨by omega, by omega, h2⟩, rfl⟩⟩
    next h1 h2 =>
      split at h
      next h3 =>
        cases hx : rd Bt e k (p + nd Bt e p + 1) with
        | none => rw [hx] at h; cases h
        | some x =>
          rw [hx] at h
          cases h
          exact ⟨rfl, Or.inr ⟨⟨by omega, by omega, h3⟩, rfl⟩⟩
      next => cases h
theorem rd_one {Bt : Int → Int} {e p q a : Int} {k : Nat} (h : rd Bt e (k + 1) p = some (q, [a])) : a = nv Bt e p ∧ okN Bt e p 59 ∧ q = p + nd Bt e p + 1 := by
  obtain ⟨h1, h2 | h2⟩ := rd_inv h
  · exact ⟨h1, h2.2⟩
  · exact absurd h2.2 (rd_ne _ _ _)
theorem rd_more {Bt : Int → Int} {e p q a c : Int} {l : List Int} {k : Nat} (h : rd Bt e (k + 1) p = some (q, a :: c :: l)) : a = nv Bt e p ∧ okN Bt e p 44 ∧ rd Bt e k (p + nd Bt e p + 1) = some (q, c :: l) := by
  obtain ⟨h1, h2 | h2⟩ := rd_inv h
  · cases h2.1
  · exact ⟨h1, h2⟩
theorem addI_p {T T1 : TT} {l : List Int} (h : addI T 112 l T1) : ∃ v, l = [v] ∧ okP T v ∧ T1 = addP T v := by
  rcases h with ⟨g1, g⟩ | ⟨g1, g⟩ | ⟨g1, g⟩ | ⟨g1, g⟩ | ⟨g1, g⟩ <;> first | exact g | (exfalso; omega)
theorem addI_g {T T1 : TT} {l : List Int} (h : addI T 103 l T1) : ∃ v, l = [v] ∧ okG T v ∧ T1 = addG T v := by
  rcases h with ⟨g1, g⟩ | ⟨g1, g⟩ | ⟨g1, g⟩ | ⟨g1, g⟩ | ⟨g1, g⟩ <;> first | exact g | (exfalso; omega)
theorem addI_w {T T1 : TT} {l : List Int} (h : addI T 119 l T1) : ∃ a b c k, l = [a, b, c, k] ∧ okW T a b c k ∧ T1 = addW T a b c k := by
  rcases h with ⟨g1, g⟩ | ⟨g1, g⟩ | ⟨g1, g⟩ | ⟨g1, g⟩ | ⟨g1, g⟩ <;> first | exact g | (exfalso; omega)
theorem addI_a {T T1 : TT} {l : List Int} (h : addI T 97 l T1) : ∃ v, l = [v] ∧ T1 = addA T v := by
  rcases h with ⟨g1, g⟩ | ⟨g1, g⟩ | ⟨g1, g⟩ | ⟨g1, g⟩ | ⟨g1, g⟩ <;> first | exact g | (exfalso; omega)
theorem addI_d {T T1 : TT} {l : List Int} (h : addI T 100 l T1) : ∃ a b, l = [a, b] ∧ okDi T a b ∧ T1 = addDi T a b := by
  rcases h with ⟨g1, g⟩ | ⟨g1, g⟩ | ⟨g1, g⟩ | ⟨g1, g⟩ | ⟨g1, g⟩ <;> first | exact g | (exfalso; omega)
/-- the table that the text has told so far -/
def sdU (U : TT) : TT := fun a => match a with
  | 0 => U 21 | 1 => U 26 | 2 => U 22 | 3 => U 27 | 4 => U 23 | 5 => U 28 | 6 => U 29 | 7 => U 30 | 8 => U 31 | 9 => U 24 | 10 => U 32 | 11 => U 33 | 12 => U 25
  | _ => fun _ => 0
theorem sdU_same {U V : TT} (h : ∀ a : Nat, 20 < a → a < 34 → V a = U a) : sdU V = sdU U := by
  funext a
  match a with
  | 0 => exact h 21 (by omega) (by omega)
  | 1 => exact h 26 (by omega) (by omega)
  | 2 => exact h 22 (by omega) (by omega)
  | 3 => exact h 27 (by omega) (by omega)
  | 4 => exact h 23 (by omega) (by omega)
  | 5 => exact h 28 (by omega) (by omega)
  | 6 => exact h 29 (by omega) (by omega)
  | 7 => exact h 30 (by omega) (by omega)
  | 8 => exact h 31 (by omega) (by omega)
  | 9 => exact h 24 (by omega) (by omega)
  | 10 => exact h 32 (by omega) (by omega)
  | 11 => exact h 33 (by omega) (by omega)
  | 12 => exact h 25 (by omega) (by omega)
  | n + 13 => rfl
theorem sd_p {T V : TT} (h : AgT T (sdU V)) (v : Int) : AgT (addP T v) (sdU (upr (upr V 26 (ups (V 26) (T 0 0) v)) 21 (fun _ => T 0 0 + 1))) := by
  obtain ⟨⟨h0, h2, h4, h9, h12⟩, a, b, c, e⟩ := h
  unfold addP
  refine ⟨⟨rfl, h2, h4, h9, h12⟩, fun i i0 i1 => ?_, b, c, e⟩
  show (if 1 = 0 ∧ i = 0 then _ else (if 1 = 1 ∧ i = T 0 0 then v else T 1 i)) = ups (V 26) (T 0 0) v i
  have i2 : i < T 0 0 + 1 := i1
  rw [if_neg (by omega)]
  by_cases e1 : i = T 0 0
  · rw [if_pos ⟨rfl, e1⟩, e1, ups_eq]
  · rw [if_neg (fun q => e1 q.2), ups_ne _ _ e1]
    exact a i i0 (by omega)
theorem sd_g {T V : TT} (h : AgT T (sdU V)) (v : Int) : AgT (addG T v) (sdU (upr (upr V 27 (ups (V 27) (T 2 0) v)) 22 (fun _ => T 2 0 + 1))) := by
  obtain ⟨⟨h0, h2, h4, h9, h12⟩, a, b, c, e⟩ := h
  unfold addG
  refine ⟨⟨h0, rfl, h4, h9, h12⟩, a, fun i i0 i1 => ?_, c, e⟩
  show (if 3 = 2 ∧ i = 0 then _ else (if 3 = 3 ∧ i = T 2 0 then v else T 3 i)) = ups (V 27) (T 2 0) v i
  have i2 : i < T 2 0 + 1 := i1
  rw [if_neg (by omega)]
  by_cases e1 : i = T 2 0
  · rw [if_pos ⟨rfl, e1⟩, e1, ups_eq]
  · rw [if_neg (fun q => e1 q.2), ups_ne _ _ e1]
    exact b i i0 (by omega)
theorem sd_a {T V : TT} (h : AgT T (sdU V)) (v : Int) : AgT (addA T v) (sdU (upr V 25 (fun _ => v))) := by
  obtain ⟨⟨h0, h2, h4, h9, h12⟩, a, b, c, e⟩ := h
  unfold addA
  exact ⟨⟨h0, h2, h4, h9, rfl⟩, a, b, c, e⟩
abbrev OldK (U W : TT) : Prop := ∀ a : Nat, (a < 20 ∨ 33 < a) → W a = U a
def ItQ (h0 : Hp) (U T : TT) (Bt : Int → Int) (len p lt : Int) : Option Value → Hp → Prop := fun r h' => ((∃ (q : Int) (l : List Int) (T1 W : TT), rd Bt len 4 p = some (q, l) ∧ addI T lt l T1 ∧ r = some (vi 1) ∧ MdAt h' W ∧ AgT T1 (sdU W) ∧ W 20 0 = q ∧ OldK U W) ∨ ((∀ (q : Int) (l : List Int), rd Bt len 4 p = some (q, l) → ∀ T1 : TT, ¬ addI T lt l T1) ∧ r = some (vi 0) ∧ ∃ W : TT, MdAt h' W ∧ OldK U W)) ∧ ∀ q : Nat, (q < 102 ∨ 128 < q) → h' q = h0 q
def NumQ (h0 : Hp) (U : TT) (Bt : Int → Int) (len p sg : Int) : Option Value → Hp → Prop := fun r h' => (∃ (v : Int) (V : TT), r = some (vi v) ∧ MdAt h' V ∧ (∀ a : Nat, a ≠ 20 → V a = U a) ∧ (-1 ≤ v ∧ v ≤ 99) ∧ (okN Bt len p sg ∧ v = nv Bt len p ∧ V 20 0 = p + nd Bt len p + 1 ∧ 0 ≤ v ∧ p < p + nd Bt len p ∧ p + nd Bt len p < len ∨ ¬ okN Bt len p sg ∧ v = -1)) ∧ ∀ q : Nat, (q < 102 ∨ 128 < q) → h' q = h0 q
section R8
variable {d : Nat} {z : Nat × Nat} {h : Hp} {len : Int} {Bt : Int → Int} {T : TT}
theorem c_6_num (hd : 1 ≤ d) {U : TT} (hm : MdAt h U) (hx : TxAt U len Bt) (hln : 0 ≤ len ∧ len ≤ 300) (hBt : ∀ j : Int, -128 ≤ Bt j ∧ Bt j ≤ 127) {p sg : Int} (hp : U 20 0 = p) (hp0 : 0 ≤ p ∧ p ≤ 900) (hsg : sg = 44 ∨ sg = 59) : Ct d m_6_number [.ref 102, vi sg] z z h (NumQ h U Bt len p sg) := by
  have hn := nd_rng Bt len p
  refine (c_6_number hd hm hx hln hBt hp hp0 hsg).weaken (d' := d) (fun r h' q => ?_)
  obtain ⟨q1 | q1, q2⟩ := q
  · obtain ⟨a1, a2, V, a3, a4, a5⟩ := q1
    exact ⟨⟨_, V, a2, a3, a5, by omega, Or.inl ⟨a1, rfl, a4, by omega, by omega, a1.2.1⟩⟩, q2⟩
  · obtain ⟨a1, a2, V, a3, a5⟩ := q1
    exact ⟨⟨_, V, a2, a3, a5, by omega, Or.inr ⟨a1, rfl⟩⟩, q2⟩
theorem c_6_isPersonItem (hd : 2 ≤ d) {U : TT} (hm : MdAt h U) (hx : TxAt U len Bt) (hln : 0 ≤ len ∧ len ≤ 300) (hBt : ∀ j : Int, -128 ≤ Bt j ∧ Bt j ≤ 127) (hk : TabOk T) (hT : AgT T (sdU U)) {p : Int} (hp : U 20 0 = p) (hp0 : 0 ≤ p ∧ p ≤ 900) : Ct d m_6_isPersonItem [.ref 102] z z h (ItQ h U T Bt len p 112) := by
  refine Ct.of (by decide) ⟨Nat.le_refl _, Nat.le_refl _⟩ (Nat.le_of_ble_eq_true rfl) ?_
  have k0 := hk.1
  refine x_aload_n D_6_isPersonItem_0 rfl ?_
  refine x_bipush D_6_isPersonItem_1 (by decide +kernel) ?_
  refine x_invV (d' := d - 1) D_6_isPersonItem_3 l_6_139 mi_6_number (c_6_num (by omega) hm hx hln hBt hp hp0 (Or.inr rfl)) (md_o hm) rfl rfl (by omega) rfl (fun q => q) rfl rfl (fun r3 h3 q3 => ?_)
  obtain ⟨⟨v, V, rfl, hm, vo, hv, hcase⟩, hf⟩ := q3
  have hT1 : AgT T (sdU V) := by rw [sdU_same (U := U) (fun a a1 a2 => vo a (by omega))]; exact hT
  have v21 : V 21 0 = T 0 0 := hT1.1.1.symm
  refine x_istore_n D_6_isPersonItem_6 rfl rfl rfl ?_
  refine x_iload_n D_6_isPersonItem_7 rfl ?_
  refine x_iconst D_6_isPersonItem_8 ?_
  refine x_bipush D_6_isPersonItem_9 (by decide +kernel) ?_
  refine x_invS2 (d' := d - 1) D_6_isPersonItem_11 l_6_111 mi_6_in (c_6_in (by omega) ⟨by omega, by omega⟩ ⟨by omega, by omega⟩ ⟨by omega, by omega⟩)  rfl (by omega) rfl (fun q => q) rfl rfl (fun r11 h11 q11 => ?_)
  obtain ⟨rfl, rfl⟩ := q11
  refine x_if_eqb D_6_isPersonItem_14 (fun c14 => ?_) (fun c14 => ?_)
  · refine x_iconst D_6_isPersonItem_25 ?_
    refine x_ireturn D_6_isPersonItem_26 rfl (by first | rfl | exact nb_bi _ | decide +kernel) rfl ?_
    refine ⟨Or.inr ⟨fun q l hr T1 ha => ?_, rfl, V, hm, fun a ha => vo a (by omega)⟩, hf⟩
    obtain ⟨w, rfl, g1, -⟩ := addI_p ha
    obtain ⟨r1, r2, r3⟩ := rd_one hr
    unfold okP at g1
    rcases hcase with y | y
    · omega
    · exact y.1 r2
  refine x_aload_n D_6_isPersonItem_17 rfl ?_
  refine x_getfield D_6_isPersonItem_18 f_6_91 (md_o hm) rfl ?_
  rw [v21]
  refine x_iconst D_6_isPersonItem_21 ?_
  refine x_icmp_ne D_6_isPersonItem_22 ⟨by omega, by omega⟩ ⟨by omega, by omega⟩ (fun c22 => ?_) (fun c22 => ?_)
  · refine x_aload_n D_6_isPersonItem_27 rfl ?_
    refine x_getfield D_6_isPersonItem_28 f_6_46 (md_o hm) rfl ?_
    refine x_aload_n D_6_isPersonItem_31 rfl ?_
    refine x_getfield D_6_isPersonItem_32 f_6_91 (md_o hm) rfl ?_
    rw [v21]
    refine x_iload_n D_6_isPersonItem_35 rfl ?_
    refine x_iastore D_6_isPersonItem_36 (md_a26 hm) (by omega) (by omega) rfl (fun h36 e36 n36 => ?_)
    replace hm := md_s26 hm e36 n36
    replace hf := fun q hq => (n36 q (by omega)).trans (hf q hq)
    refine x_aload_n D_6_isPersonItem_37 rfl ?_
    refine x_dup D_6_isPersonItem_38 rfl ?_
    refine x_getfield D_6_isPersonItem_39 f_6_91 (md_o hm) rfl ?_
    try simp only [upr, Nat.reduceEqDiff, ↓reduceIte]
    rw [v21]
    refine x_iconst D_6_isPersonItem_42 ?_
    refine x_iadd D_6_isPersonItem_43 ?_
    refine x_putI D_6_isPersonItem_44 f_6_91 (md_o hm) (by decide +kernel) rfl (fun h44 e44 n44 => ?_)
    replace hm := md_p21 hm e44 n44
    try simp only [upr, Nat.reduceEqDiff, ↓reduceIte] at hm
    replace hf := fun q hq => (n44 q (by omega)).trans (hf q hq)
    refine x_iconst D_6_isPersonItem_47 ?_
    refine x_ireturn D_6_isPersonItem_48 rfl (by first | rfl | exact nb_bi _ | decide +kernel) rfl ?_
    rcases hcase with y | y
    · exact ⟨Or.inl ⟨_, _, _, _, rd_59 3 y.1, Or.inl ⟨rfl, v, by rw [y.2.1], ⟨by omega, by omega, by omega⟩, rfl⟩, rfl, hm, sd_p hT1 v, y.2.2.1, fun a ha => (upr_ne _ _ (by omega)).trans ((upr_ne _ _ (by omega)).trans (vo a (by omega)))⟩, hf⟩
    · exfalso; omega
  refine x_iconst D_6_isPersonItem_25 ?_
  refine x_ireturn D_6_isPersonItem_26 rfl (by first | rfl | exact nb_bi _ | decide +kernel) rfl ?_
  refine ⟨Or.inr ⟨fun q l hr T1 ha => ?_, rfl, V, hm, fun a ha => vo a (by omega)⟩, hf⟩
  obtain ⟨w, rfl, g1, -⟩ := addI_p ha
  obtain ⟨r1, r2, r3⟩ := rd_one hr
  unfold okP at g1
  rcases hcase with y | y
  · omega
  · exact y.1 r2
theorem c_6_isGrainItem (hd : 2 ≤ d) {U : TT} (hm : MdAt h U) (hx : TxAt U len Bt) (hln : 0 ≤ len ∧ len ≤ 300) (hBt : ∀ j : Int, -128 ≤ Bt j ∧ Bt j ≤ 127) (hk : TabOk T) (hT : AgT T (sdU U)) {p : Int} (hp : U 20 0 = p) (hp0 : 0 ≤ p ∧ p ≤ 900) : Ct d m_6_isGrainItem [.ref 102] z z h (ItQ h U T Bt len p 103) := by
  refine Ct.of (by decide) ⟨Nat.le_refl _, Nat.le_refl _⟩ (Nat.le_of_ble_eq_true rfl) ?_
  have k0 := hk.2.1
  refine x_aload_n D_6_isGrainItem_0 rfl ?_
  refine x_bipush D_6_isGrainItem_1 (by decide +kernel) ?_
  refine x_invV (d' := d - 1) D_6_isGrainItem_3 l_6_139 mi_6_number (c_6_num (by omega) hm hx hln hBt hp hp0 (Or.inr rfl)) (md_o hm) rfl rfl (by omega) rfl (fun q => q) rfl rfl (fun r3 h3 q3 => ?_)
  obtain ⟨⟨v, V, rfl, hm, vo, hv, hcase⟩, hf⟩ := q3
  have hT1 : AgT T (sdU V) := by rw [sdU_same (U := U) (fun a a1 a2 => vo a (by omega))]; exact hT
  have v21 : V 22 0 = T 2 0 := hT1.1.2.1.symm
  refine x_istore_n D_6_isGrainItem_6 rfl rfl rfl ?_
  refine x_iload_n D_6_isGrainItem_7 rfl ?_
  refine x_iconst D_6_isGrainItem_8 ?_
  refine x_bipush D_6_isGrainItem_9 (by decide +kernel) ?_
  refine x_invS2 (d' := d - 1) D_6_isGrainItem_11 l_6_111 mi_6_in (c_6_in (by omega) ⟨by omega, by omega⟩ ⟨by omega, by omega⟩ ⟨by omega, by omega⟩)  rfl (by omega) rfl (fun q => q) rfl rfl (fun r11 h11 q11 => ?_)
  obtain ⟨rfl, rfl⟩ := q11
  refine x_if_eqb D_6_isGrainItem_14 (fun c14 => ?_) (fun c14 => ?_)
  · refine x_iconst D_6_isGrainItem_26 ?_
    refine x_ireturn D_6_isGrainItem_27 rfl (by first | rfl | exact nb_bi _ | decide +kernel) rfl ?_
    refine ⟨Or.inr ⟨fun q l hr T1 ha => ?_, rfl, V, hm, fun a ha => vo a (by omega)⟩, hf⟩
    obtain ⟨w, rfl, g1, -⟩ := addI_g ha
    obtain ⟨r1, r2, r3⟩ := rd_one hr
    unfold okG at g1
    rcases hcase with y | y
    · omega
    · exact y.1 r2
  refine x_aload_n D_6_isGrainItem_17 rfl ?_
  refine x_getfield D_6_isGrainItem_18 f_6_95 (md_o hm) rfl ?_
  rw [v21]
  refine x_bipush D_6_isGrainItem_21 (by decide +kernel) ?_
  refine x_icmp_ne D_6_isGrainItem_23 ⟨by omega, by omega⟩ ⟨by omega, by omega⟩ (fun c23 => ?_) (fun c23 => ?_)
  · refine x_aload_n D_6_isGrainItem_28 rfl ?_
    refine x_getfield D_6_isGrainItem_29 f_6_49 (md_o hm) rfl ?_
    refine x_aload_n D_6_isGrainItem_32 rfl ?_
    refine x_getfield D_6_isGrainItem_33 f_6_95 (md_o hm) rfl ?_
    rw [v21]
    refine x_iload_n D_6_isGrainItem_36 rfl ?_
    refine x_iastore D_6_isGrainItem_37 (md_a27 hm) (by omega) (by omega) rfl (fun h37 e37 n37 => ?_)
    replace hm := md_s27 hm e37 n37
    replace hf := fun q hq => (n37 q (by omega)).trans (hf q hq)
    refine x_aload_n D_6_isGrainItem_38 rfl ?_
    refine x_dup D_6_isGrainItem_39 rfl ?_
    refine x_getfield D_6_isGrainItem_40 f_6_95 (md_o hm) rfl ?_
    try simp only [upr, Nat.reduceEqDiff, ↓reduceIte]
    rw [v21]
    refine x_iconst D_6_isGrainItem_43 ?_
    refine x_iadd D_6_isGrainItem_44 ?_
    refine x_putI D_6_isGrainItem_45 f_6_95 (md_o hm) (by decide +kernel) rfl (fun h45 e45 n45 => ?_)
    replace hm := md_p22 hm e45 n45
    try simp only [upr, Nat.reduceEqDiff, ↓reduceIte] at hm
    replace hf := fun q hq => (n45 q (by omega)).trans (hf q hq)
    refine x_iconst D_6_isGrainItem_48 ?_
    refine x_ireturn D_6_isGrainItem_49 rfl (by first | rfl | exact nb_bi _ | decide +kernel) rfl ?_
    rcases hcase with y | y
    · exact ⟨Or.inl ⟨_, _, _, _, rd_59 3 y.1, Or.inr (Or.inl ⟨rfl, v, by rw [y.2.1], ⟨by omega, by omega, by omega⟩, rfl⟩), rfl, hm, sd_g hT1 v, y.2.2.1, fun a ha => (upr_ne _ _ (by omega)).trans ((upr_ne _ _ (by omega)).trans (vo a (by omega)))⟩, hf⟩
    · exfalso; omega
  refine x_iconst D_6_isGrainItem_26 ?_
  refine x_ireturn D_6_isGrainItem_27 rfl (by first | rfl | exact nb_bi _ | decide +kernel) rfl ?_
  refine ⟨Or.inr ⟨fun q l hr T1 ha => ?_, rfl, V, hm, fun a ha => vo a (by omega)⟩, hf⟩
  obtain ⟨w, rfl, g1, -⟩ := addI_g ha
  obtain ⟨r1, r2, r3⟩ := rd_one hr
  unfold okG at g1
  rcases hcase with y | y
  · omega
  · exact y.1 r2
theorem c_6_isWaitItem (hd : 2 ≤ d) {U : TT} (hm : MdAt h U) (hx : TxAt U len Bt) (hln : 0 ≤ len ∧ len ≤ 300) (hBt : ∀ j : Int, -128 ≤ Bt j ∧ Bt j ≤ 127) (hk : TabOk T) (hT : AgT T (sdU U)) {p : Int} (hp : U 20 0 = p) (hp0 : 0 ≤ p ∧ p ≤ 900) : Ct d m_6_isWaitItem [.ref 102] z z h (ItQ h U T Bt len p 97) := by
  refine Ct.of (by decide) ⟨Nat.le_refl _, Nat.le_refl _⟩ (Nat.le_of_ble_eq_true rfl) ?_
  refine x_aload_n D_6_isWaitItem_0 rfl ?_
  refine x_bipush D_6_isWaitItem_1 (by decide +kernel) ?_
  refine x_invV (d' := d - 1) D_6_isWaitItem_3 l_6_139 mi_6_number (c_6_num (by omega) hm hx hln hBt hp hp0 (Or.inr rfl)) (md_o hm) rfl rfl (by omega) rfl (fun q => q) rfl rfl (fun r3 h3 q3 => ?_)
  obtain ⟨⟨v, V, rfl, hm, vo, hv, hcase⟩, hf⟩ := q3
  have hT1 : AgT T (sdU V) := by rw [sdU_same (U := U) (fun a a1 a2 => vo a (by omega))]; exact hT
  refine x_istore_n D_6_isWaitItem_6 rfl rfl rfl ?_
  refine x_aload_n D_6_isWaitItem_7 rfl ?_
  refine x_iload_n D_6_isWaitItem_8 rfl ?_
  refine x_putI D_6_isWaitItem_9 f_6_132 (md_o hm) (by decide +kernel) rfl (fun h9 e9 n9 => ?_)
  replace hm := md_p25 hm e9 n9
  replace hf := fun q hq => (n9 q (by omega)).trans (hf q hq)
  refine x_iload_n D_6_isWaitItem_12 rfl ?_
  refine x_if_lt D_6_isWaitItem_13 ⟨by omega, by omega⟩ (fun c13 => ?_) (fun c13 => ?_)
  · refine x_iconst D_6_isWaitItem_20 ?_
    refine x_ireturn D_6_isWaitItem_21 rfl rfl rfl ?_
    refine ⟨Or.inr ⟨fun q l hr T1 ha => ?_, rfl, _, hm, fun a ha => (upr_ne _ _ (by omega)).trans (vo a (by omega))⟩, hf⟩
    obtain ⟨w, rfl, -⟩ := addI_a ha
    obtain ⟨r1, r2, r3⟩ := rd_one hr
    rcases hcase with y | y
    · omega
    · exact y.1 r2
  refine x_iconst D_6_isWaitItem_16 ?_
  refine x_goto D_6_isWaitItem_17 ?_
  refine x_ireturn D_6_isWaitItem_21 rfl (by first | rfl | exact nb_bi _ | decide +kernel) rfl ?_
  rcases hcase with y | y
  · exact ⟨Or.inl ⟨_, _, _, _, rd_59 3 y.1, Or.inr (Or.inr (Or.inr (Or.inl ⟨rfl, v, by rw [y.2.1], rfl⟩))), rfl, hm, sd_a hT1 v, y.2.2.1, fun a ha => (upr_ne _ _ (by omega)).trans (vo a (by omega))⟩, hf⟩
  · exfalso; omega
end R8
