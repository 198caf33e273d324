theorem ub_dgt {a : Int} (h : -128 ≤ a ∧ a ≤ 127) : (48 ≤ ub a ∧ ub a ≤ 57) ↔ (48 ≤ a ∧ a ≤ 57) := by unfold ub; split <;> omega
theorem ub_sg {a g : Int} (h : -128 ≤ a ∧ a ≤ 127) (hg : 0 ≤ g ∧ g ≤ 127) : ub a = g ↔ a = g := by unfold ub; split <;> omega
theorem ub_rng {a : Int} (h : -128 ≤ a ∧ a ≤ 127) : 0 ≤ ub a ∧ ub a ≤ 255 := by unfold ub; split <;> omega
theorem ub_of {a : Int} (h : 48 ≤ a ∧ a ≤ 57) : ub a = a := by unfold ub; rw [if_neg (by omega)]
def hereA (Bt : Int → Int) (len p : Int) : Int := if p < len then ub (Bt p) else -1
theorem here_rng {Bt : Int → Int} {len p : Int} (hBt : ∀ j : Int, -128 ≤ Bt j ∧ Bt j ≤ 127) : -1 ≤ hereA Bt len p ∧ hereA Bt len p ≤ 255 := by
  unfold hereA
  have := ub_rng (hBt p)
  split <;> omega
theorem here_dgt {Bt : Int → Int} {len p : Int} (hBt : ∀ j : Int, -128 ≤ Bt j ∧ Bt j ≤ 127) : (48 ≤ hereA Bt len p ∧ hereA Bt len p ≤ 57) ↔ dgt Bt len p := by
  unfold hereA dgt
  by_cases h : p < len
  · rw [if_pos h, ub_dgt (hBt p)]
    exact ⟨fun q => ⟨h, q⟩, fun q => q.2⟩
  · rw [if_neg h]
    constructor
    · intro q; omega
    · intro q; exact absurd q.1 h
theorem here_sg {Bt : Int → Int} {len p g : Int} (hBt : ∀ j : Int, -128 ≤ Bt j ∧ Bt j ≤ 127) (hg : 0 ≤ g ∧ g ≤ 127) : hereA Bt len p = g ↔ p < len ∧ Bt p = g := by
  unfold hereA
  by_cases h : p < len
  · rw [if_pos h, ub_sg (hBt p) hg]
    exact ⟨fun q => ⟨h, q⟩, fun q => q.2⟩
  · rw [if_neg h]
    constructor
    · intro q; omega
    · intro q; exact absurd q.1 h
theorem here_val {Bt : Int → Int} {len p : Int} (h : dgt Bt len p) : hereA Bt len p = Bt p := by
  unfold hereA
  rw [if_pos h.1, ub_of h.2]
abbrev TxAt (U : TT) (len : Int) (Bt : Int → Int) : Prop := U 19 0 = len ∧ ∀ j : Int, 0 ≤ j → j < len → U 18 j = ub (Bt j)
abbrev okN (Bt : Int → Int) (len p sg : Int) : Prop := nd Bt len p ≠ 0 ∧ p + nd Bt len p < len ∧ Bt (p + nd Bt len p) = sg
section R7
variable {d : Nat} {z : Nat × Nat} {h : Hp} {len : Int} {Bt : Int → Int}
theorem c_6_here (hd : 0 ≤ d) {U : TT} (hm : MdAt h U) (hx : TxAt U len Bt) (hln : 0 ≤ len ∧ len ≤ 300) {p : Int} (hp : U 20 0 = p) (hp0 : 0 ≤ p ∧ p ≤ 1000) : Ct d m_6_here [.ref 102] z z h (Pu (hereA Bt len p) h) := by
  refine Ct.of (by decide) ⟨Nat.le_refl _, Nat.le_refl _⟩ (Nat.le_of_ble_eq_true rfl) ?_
  refine x_aload_n D_6_here_0 rfl ?_
  refine x_getfield D_6_here_1 f_6_126 (md_o hm) rfl ?_
  rw [hp]
  refine x_aload_n D_6_here_4 rfl ?_
  refine x_getfield D_6_here_5 f_6_121 (md_o hm) rfl ?_
  rw [hx.1]
  refine x_icmp_ge D_6_here_8 ⟨by omega, by omega⟩ ⟨by omega, by omega⟩ (fun c8 => ?_) (fun c8 => ?_)
  · refine x_iconst D_6_here_23 ?_
    refine x_ireturn D_6_here_24 rfl (by first | rfl | exact nb_bi _ | decide +kernel) rfl ?_
    first
    | exact ⟨by unfold hereA; rw [if_pos c8], rfl⟩
    | exact ⟨by unfold hereA; rw [if_neg (by omega)], rfl⟩
  refine x_aload_n D_6_here_11 rfl ?_
  refine x_getfield D_6_here_12 f_6_43 (md_o hm) rfl ?_
  refine x_aload_n D_6_here_15 rfl ?_
  refine x_getfield D_6_here_16 f_6_126 (md_o hm) rfl ?_
  rw [hp]
  refine x_iaload D_6_here_19 (md_a18 hm) (by omega) (by omega) rfl ?_
  rw [hx.2 p hp0.1 c8]
  refine x_goto D_6_here_20 ?_
  refine x_ireturn D_6_here_24 rfl (by first | rfl | exact nb_bi _ | decide +kernel) rfl ?_
  first
  | exact ⟨by unfold hereA; rw [if_pos c8], rfl⟩
  | exact ⟨by unfold hereA; rw [if_neg (by omega)], rfl⟩
theorem c_6_number (hd : 1 ≤ d) {U : TT} (hm : MdAt h U) (hx : TxAt U len Bt) (hln : 0 ≤ len ∧ len ≤ 300) (hBt : ∀ j : Int, -128 ≤ Bt j ∧ Bt j ≤ 127) {p sg : Int} (hp : U 20 0 = p) (hp0 : 0 ≤ p ∧ p ≤ 900) (hsg : sg = 44 ∨ sg = 59) : Ct d m_6_number [.ref 102, vi sg] z z h (fun r h' => ((okN Bt len p sg ∧ r = some (vi (nv Bt len p)) ∧ ∃ V : TT, MdAt h' V ∧ V 20 0 = p + nd Bt len p + 1 ∧ ∀ a : Nat, a ≠ 20 → V a = U a) ∨ (¬ okN Bt len p sg ∧ r = some (vi (-1)) ∧ ∃ V : TT, MdAt h' V ∧ ∀ a : Nat, a ≠ 20 → V a = U a)) ∧ ∀ q : Nat, (q < 102 ∨ 128 < q) → h' q = h q) := by
  refine Ct.of (by decide) ⟨Nat.le_refl _, Nat.le_refl _⟩ (Nat.le_of_ble_eq_true rfl) ?_
  have hndr := nd_rng Bt len p
  have L60 : ∀ (hh : Hp) (V : TT) (k v : Int), MdAt hh V → V 20 0 = p + nd Bt len p → (∀ a : Nat, a ≠ 20 → V a = U a) → (∀ q : Nat, (q < 102 ∨ 128 < q) → hh q = h q) → B3 v → (v = -1 ∧ nd Bt len p = 0 ∨ 0 ≤ v ∧ nd Bt len p ≠ 0 ∧ v = nv Bt len p) →
      WW d m_6_number z (fun r h' => ((okN Bt len p sg ∧ r = some (vi (nv Bt len p)) ∧ ∃ V : TT, MdAt h' V ∧ V 20 0 = p + nd Bt len p + 1 ∧ ∀ a : Nat, a ≠ 20 → V a = U a) ∨ (¬ okN Bt len p sg ∧ r = some (vi (-1)) ∧ ∃ V : TT, MdAt h' V ∧ ∀ a : Nat, a ≠ 20 → V a = U a)) ∧ ∀ q : Nat, (q < 102 ∨ 128 < q) → h' q = h q) z hh 60 [(0, .ref 102), (1, vi sg), (2, vi v), (3, vi k)] [] := by
    intro hh V k v hm v20 vo hf hv hcase
    have hx1 : TxAt V len Bt := by unfold TxAt; rw [vo 19 (by omega), vo 18 (by omega)]; exact hx
    have hr := here_rng (len := len) (p := p + nd Bt len p) hBt
    have hs := here_sg (len := len) (p := p + nd Bt len p) (g := sg) hBt (by omega)
    refine x_iload_n D_6_number_60 rfl ?_
    refine x_if_lt D_6_number_61 ⟨by omega, by omega⟩ (fun c61 => ?_) (fun c61 => ?_)
    · refine x_iconst D_6_number_76 ?_
      refine x_istore_n D_6_number_77 rfl rfl rfl ?_
      refine x_aload_n D_6_number_78 rfl ?_
      refine x_dup D_6_number_79 rfl ?_
      refine x_getfield D_6_number_80 f_6_126 (md_o hm) rfl ?_
      rw [v20]
      refine x_iload_n D_6_number_83 rfl ?_
      refine x_if_eq D_6_number_84 ⟨by omega, by omega⟩ (fun c84 => ?_) (fun c84 => ?_)
      · refine x_iconst D_6_number_91 ?_
        refine x_iadd D_6_number_92 ?_
        refine x_putI D_6_number_93 f_6_126 (md_o hm) (by decide +kernel) rfl (fun h93 e93 n93 => ?_)
        replace hm := md_p20 hm e93 n93
        replace hf := fun q hq => (n93 q (by omega)).trans (hf q hq)
        refine x_iload_n D_6_number_96 rfl ?_
        refine x_if_eq D_6_number_97 ⟨by omega, by omega⟩ (fun c97 => ?_) (fun c97 => ?_)
        · refine x_iconst D_6_number_104 ?_
          refine x_ireturn D_6_number_105 rfl (by first | rfl | exact nb_bi _ | decide +kernel) rfl ?_
          first
          | (exfalso; omega)
          | exact ⟨Or.inl ⟨⟨by omega, hs.mp c69⟩, by rw [show v = nv Bt len p by omega], _, hm, by rw [upr_eq], fun a ha => (upr_ne _ _ ha).trans (vo a ha)⟩, hf⟩
          | exact ⟨Or.inr ⟨fun q => absurd (hs.mpr q.2) c69, rfl, _, hm, fun a ha => (upr_ne _ _ ha).trans (vo a ha)⟩, hf⟩
          | exact ⟨Or.inr ⟨fun q => by omega, rfl, _, hm, fun a ha => (upr_ne _ _ ha).trans (vo a ha)⟩, hf⟩
        refine x_iload_n D_6_number_100 rfl ?_
        refine x_goto D_6_number_101 ?_
        refine x_ireturn D_6_number_105 rfl (by first | rfl | exact nb_bi _ | decide +kernel) rfl ?_
        first
        | (exfalso; omega)
        | exact ⟨Or.inl ⟨⟨by omega, hs.mp c69⟩, by rw [show v = nv Bt len p by omega], _, hm, by rw [upr_eq], fun a ha => (upr_ne _ _ ha).trans (vo a ha)⟩, hf⟩
        | exact ⟨Or.inr ⟨fun q => absurd (hs.mpr q.2) c69, rfl, _, hm, fun a ha => (upr_ne _ _ ha).trans (vo a ha)⟩, hf⟩
        | exact ⟨Or.inr ⟨fun q => by omega, rfl, _, hm, fun a ha => (upr_ne _ _ ha).trans (vo a ha)⟩, hf⟩
      refine x_iconst D_6_number_87 ?_
      refine x_goto D_6_number_88 ?_
      refine x_iadd D_6_number_92 ?_
      refine x_putI D_6_number_93 f_6_126 (md_o hm) (by decide +kernel) rfl (fun h93 e93 n93 => ?_)
      replace hm := md_p20 hm e93 n93
      replace hf := fun q hq => (n93 q (by omega)).trans (hf q hq)
      refine x_iload_n D_6_number_96 rfl ?_
      refine x_if_eq D_6_number_97 ⟨by omega, by omega⟩ (fun c97 => ?_) (fun c97 => ?_)
      · refine x_iconst D_6_number_104 ?_
        refine x_ireturn D_6_number_105 rfl (by first | rfl | exact nb_bi _ | decide +kernel) rfl ?_
        first
        | (exfalso; omega)
        | exact ⟨Or.inl ⟨⟨by omega, hs.mp c69⟩, by rw [show v = nv Bt len p by omega], _, hm, by rw [upr_eq], fun a ha => (upr_ne _ _ ha).trans (vo a ha)⟩, hf⟩
        | exact ⟨Or.inr ⟨fun q => absurd (hs.mpr q.2) c69, rfl, _, hm, fun a ha => (upr_ne _ _ ha).trans (vo a ha)⟩, hf⟩
        | exact ⟨Or.inr ⟨fun q => by omega, rfl, _, hm, fun a ha => (upr_ne _ _ ha).trans (vo a ha)⟩, hf⟩
      refine x_iload_n D_6_number_100 rfl ?_
      refine x_goto D_6_number_101 ?_
      refine x_ireturn D_6_number_105 rfl (by first | rfl | exact nb_bi _ | decide +kernel) rfl ?_
      first
      | (exfalso; omega)
      | exact ⟨Or.inl ⟨⟨by omega, hs.mp c69⟩, by rw [show v = nv Bt len p by omega], _, hm, by rw [upr_eq], fun a ha => (upr_ne _ _ ha).trans (vo a ha)⟩, hf⟩
      | exact ⟨Or.inr ⟨fun q => absurd (hs.mpr q.2) c69, rfl, _, hm, fun a ha => (upr_ne _ _ ha).trans (vo a ha)⟩, hf⟩
      | exact ⟨Or.inr ⟨fun q => by omega, rfl, _, hm, fun a ha => (upr_ne _ _ ha).trans (vo a ha)⟩, hf⟩
    refine x_aload_n D_6_number_64 rfl ?_
    refine x_invV (d' := d - 1) D_6_number_65 l_6_135 mi_6_here (c_6_here (by omega) hm hx1 hln v20 (by omega)) (md_o hm) rfl rfl (by omega) rfl (fun q => q) rfl rfl (fun r65 h65 q65 => ?_)
    obtain ⟨rfl, rfl⟩ := q65
    refine x_iload_n D_6_number_68 rfl ?_
    refine x_icmp_ne D_6_number_69 ⟨by omega, by omega⟩ ⟨by omega, by omega⟩ (fun c69 => ?_) (fun c69 => ?_)
    · refine x_iconst D_6_number_76 ?_
      refine x_istore_n D_6_number_77 rfl rfl rfl ?_
      refine x_aload_n D_6_number_78 rfl ?_
      refine x_dup D_6_number_79 rfl ?_
      refine x_getfield D_6_number_80 f_6_126 (md_o hm) rfl ?_
      rw [v20]
      refine x_iload_n D_6_number_83 rfl ?_
      refine x_if_eq D_6_number_84 ⟨by omega, by omega⟩ (fun c84 => ?_) (fun c84 => ?_)
      · refine x_iconst D_6_number_91 ?_
        refine x_iadd D_6_number_92 ?_
        refine x_putI D_6_number_93 f_6_126 (md_o hm) (by decide +kernel) rfl (fun h93 e93 n93 => ?_)
        replace hm := md_p20 hm e93 n93
        replace hf := fun q hq => (n93 q (by omega)).trans (hf q hq)
        refine x_iload_n D_6_number_96 rfl ?_
        refine x_if_eq D_6_number_97 ⟨by omega, by omega⟩ (fun c97 => ?_) (fun c97 => ?_)
        · refine x_iconst D_6_number_104 ?_
          refine x_ireturn D_6_number_105 rfl (by first | rfl | exact nb_bi _ | decide +kernel) rfl ?_
          first
          | (exfalso; omega)
          | exact ⟨Or.inl ⟨⟨by omega, hs.mp c69⟩, by rw [show v = nv Bt len p by omega], _, hm, by rw [upr_eq], fun a ha => (upr_ne _ _ ha).trans (vo a ha)⟩, hf⟩
          | exact ⟨Or.inr ⟨fun q => absurd (hs.mpr q.2) c69, rfl, _, hm, fun a ha => (upr_ne _ _ ha).trans (vo a ha)⟩, hf⟩
          | exact ⟨Or.inr ⟨fun q => by omega, rfl, _, hm, fun a ha => (upr_ne _ _ ha).trans (vo a ha)⟩, hf⟩
        refine x_iload_n D_6_number_100 rfl ?_
        refine x_goto D_6_number_101 ?_
        refine x_ireturn D_6_number_105 rfl (by first | rfl | exact nb_bi _ | decide +kernel) rfl ?_
        first
        | (exfalso; omega)
        | exact ⟨Or.inl ⟨⟨by omega, hs.mp c69⟩, by rw [show v = nv Bt len p by omega], _, hm, by rw [upr_eq], fun a ha => (upr_ne _ _ ha).trans (vo a ha)⟩, hf⟩
        | exact ⟨Or.inr ⟨fun q => absurd (hs.mpr q.2) c69, rfl, _, hm, fun a ha => (upr_ne _ _ ha).trans (vo a ha)⟩, hf⟩
        | exact ⟨Or.inr ⟨fun q => by omega, rfl, _, hm, fun a ha => (upr_ne _ _ ha).trans (vo a ha)⟩, hf⟩
      refine x_iconst D_6_number_87 ?_
      refine x_goto D_6_number_88 ?_
      refine x_iadd D_6_number_92 ?_
      refine x_putI D_6_number_93 f_6_126 (md_o hm) (by decide +kernel) rfl (fun h93 e93 n93 => ?_)
      replace hm := md_p20 hm e93 n93
      replace hf := fun q hq => (n93 q (by omega)).trans (hf q hq)
      refine x_iload_n D_6_number_96 rfl ?_
      refine x_if_eq D_6_number_97 ⟨by omega, by omega⟩ (fun c97 => ?_) (fun c97 => ?_)
      · refine x_iconst D_6_number_104 ?_
        refine x_ireturn D_6_number_105 rfl (by first | rfl | exact nb_bi _ | decide +kernel) rfl ?_
        first
        | (exfalso; omega)
        | exact ⟨Or.inl ⟨⟨by omega, hs.mp c69⟩, by rw [show v = nv Bt len p by omega], _, hm, by rw [upr_eq], fun a ha => (upr_ne _ _ ha).trans (vo a ha)⟩, hf⟩
        | exact ⟨Or.inr ⟨fun q => absurd (hs.mpr q.2) c69, rfl, _, hm, fun a ha => (upr_ne _ _ ha).trans (vo a ha)⟩, hf⟩
        | exact ⟨Or.inr ⟨fun q => by omega, rfl, _, hm, fun a ha => (upr_ne _ _ ha).trans (vo a ha)⟩, hf⟩
      refine x_iload_n D_6_number_100 rfl ?_
      refine x_goto D_6_number_101 ?_
      refine x_ireturn D_6_number_105 rfl (by first | rfl | exact nb_bi _ | decide +kernel) rfl ?_
      first
      | (exfalso; omega)
      | exact ⟨Or.inl ⟨⟨by omega, hs.mp c69⟩, by rw [show v = nv Bt len p by omega], _, hm, by rw [upr_eq], fun a ha => (upr_ne _ _ ha).trans (vo a ha)⟩, hf⟩
      | exact ⟨Or.inr ⟨fun q => absurd (hs.mpr q.2) c69, rfl, _, hm, fun a ha => (upr_ne _ _ ha).trans (vo a ha)⟩, hf⟩
      | exact ⟨Or.inr ⟨fun q => by omega, rfl, _, hm, fun a ha => (upr_ne _ _ ha).trans (vo a ha)⟩, hf⟩
    refine x_iconst D_6_number_72 ?_
    refine x_goto D_6_number_73 ?_
    refine x_istore_n D_6_number_77 rfl rfl rfl ?_
    refine x_aload_n D_6_number_78 rfl ?_
    refine x_dup D_6_number_79 rfl ?_
    refine x_getfield D_6_number_80 f_6_126 (md_o hm) rfl ?_
    rw [v20]
    refine x_iload_n D_6_number_83 rfl ?_
    refine x_if_eq D_6_number_84 ⟨by omega, by omega⟩ (fun c84 => ?_) (fun c84 => ?_)
    · refine x_iconst D_6_number_91 ?_
      refine x_iadd D_6_number_92 ?_
      refine x_putI D_6_number_93 f_6_126 (md_o hm) (by decide +kernel) rfl (fun h93 e93 n93 => ?_)
      replace hm := md_p20 hm e93 n93
      replace hf := fun q hq => (n93 q (by omega)).trans (hf q hq)
      refine x_iload_n D_6_number_96 rfl ?_
      refine x_if_eq D_6_number_97 ⟨by omega, by omega⟩ (fun c97 => ?_) (fun c97 => ?_)
      · refine x_iconst D_6_number_104 ?_
        refine x_ireturn D_6_number_105 rfl (by first | rfl | exact nb_bi _ | decide +kernel) rfl ?_
        first
        | (exfalso; omega)
        | exact ⟨Or.inl ⟨⟨by omega, hs.mp c69⟩, by rw [show v = nv Bt len p by omega], _, hm, by rw [upr_eq], fun a ha => (upr_ne _ _ ha).trans (vo a ha)⟩, hf⟩
        | exact ⟨Or.inr ⟨fun q => absurd (hs.mpr q.2) c69, rfl, _, hm, fun a ha => (upr_ne _ _ ha).trans (vo a ha)⟩, hf⟩
        | exact ⟨Or.inr ⟨fun q => by omega, rfl, _, hm, fun a ha => (upr_ne _ _ ha).trans (vo a ha)⟩, hf⟩
      refine x_iload_n D_6_number_100 rfl ?_
      refine x_goto D_6_number_101 ?_
      refine x_ireturn D_6_number_105 rfl (by first | rfl | exact nb_bi _ | decide +kernel) rfl ?_
      first
      | (exfalso; omega)
      | exact ⟨Or.inl ⟨⟨by omega, hs.mp c69⟩, by rw [show v = nv Bt len p by omega], _, hm, by rw [upr_eq], fun a ha => (upr_ne _ _ ha).trans (vo a ha)⟩, hf⟩
      | exact ⟨Or.inr ⟨fun q => absurd (hs.mpr q.2) c69, rfl, _, hm, fun a ha => (upr_ne _ _ ha).trans (vo a ha)⟩, hf⟩
      | exact ⟨Or.inr ⟨fun q => by omega, rfl, _, hm, fun a ha => (upr_ne _ _ ha).trans (vo a ha)⟩, hf⟩
    refine x_iconst D_6_number_87 ?_
    refine x_goto D_6_number_88 ?_
    refine x_iadd D_6_number_92 ?_
    refine x_putI D_6_number_93 f_6_126 (md_o hm) (by decide +kernel) rfl (fun h93 e93 n93 => ?_)
    replace hm := md_p20 hm e93 n93
    replace hf := fun q hq => (n93 q (by omega)).trans (hf q hq)
    refine x_iload_n D_6_number_96 rfl ?_
    refine x_if_eq D_6_number_97 ⟨by omega, by omega⟩ (fun c97 => ?_) (fun c97 => ?_)
    · refine x_iconst D_6_number_104 ?_
      refine x_ireturn D_6_number_105 rfl (by first | rfl | exact nb_bi _ | decide +kernel) rfl ?_
      first
      | (exfalso; omega)
      | exact ⟨Or.inl ⟨⟨by omega, hs.mp c69⟩, by rw [show v = nv Bt len p by omega], _, hm, by rw [upr_eq], fun a ha => (upr_ne _ _ ha).trans (vo a ha)⟩, hf⟩
      | exact ⟨Or.inr ⟨fun q => absurd (hs.mpr q.2) c69, rfl, _, hm, fun a ha => (upr_ne _ _ ha).trans (vo a ha)⟩, hf⟩
      | exact ⟨Or.inr ⟨fun q => by omega, rfl, _, hm, fun a ha => (upr_ne _ _ ha).trans (vo a ha)⟩, hf⟩
    refine x_iload_n D_6_number_100 rfl ?_
    refine x_goto D_6_number_101 ?_
    refine x_ireturn D_6_number_105 rfl (by first | rfl | exact nb_bi _ | decide +kernel) rfl ?_
    first
    | (exfalso; omega)
    | exact ⟨Or.inl ⟨⟨by omega, hs.mp c69⟩, by rw [show v = nv Bt len p by omega], _, hm, by rw [upr_eq], fun a ha => (upr_ne _ _ ha).trans (vo a ha)⟩, hf⟩
    | exact ⟨Or.inr ⟨fun q => absurd (hs.mpr q.2) c69, rfl, _, hm, fun a ha => (upr_ne _ _ ha).trans (vo a ha)⟩, hf⟩
    | exact ⟨Or.inr ⟨fun q => by omega, rfl, _, hm, fun a ha => (upr_ne _ _ ha).trans (vo a ha)⟩, hf⟩
  have hf : ∀ q : Nat, (q < 102 ∨ 128 < q) → h q = h q := fun _ _ => rfl
  have vo : ∀ a : Nat, a ≠ 20 → U a = U a := fun _ _ => rfl
  have hr := here_rng (len := len) (p := p) hBt
  have hr1 := here_rng (len := len) (p := p + 1) hBt
  have hdg := here_dgt (len := len) (p := p) hBt
  have hdg1 := here_dgt (len := len) (p := p + 1) hBt
  have S2 : ∀ (hh : Hp) (V : TT) (v : Int), dgt Bt len p → dgt Bt len (p + 1) → v = 10 * (Bt p - 48) + Bt (p + 1) - 48 → MdAt hh V → V 20 0 = p + 1 + 1 → (∀ a : Nat, a ≠ 20 → V a = U a) → (∀ q : Nat, (q < 102 ∨ 128 < q) → hh q = h q) →
      WW d m_6_number z (fun r h' => ((okN Bt len p sg ∧ r = some (vi (nv Bt len p)) ∧ ∃ V : TT, MdAt h' V ∧ V 20 0 = p + nd Bt len p + 1 ∧ ∀ a : Nat, a ≠ 20 → V a = U a) ∨ (¬ okN Bt len p sg ∧ r = some (vi (-1)) ∧ ∃ V : TT, MdAt h' V ∧ ∀ a : Nat, a ≠ 20 → V a = U a)) ∧ ∀ q : Nat, (q < 102 ∨ 128 < q) → h' q = h q) z hh 4 [(0, .ref 102), (1, vi sg), (2, vi v), (3, vi 2)] [] := by
    intro hh V v h1 h2 hv hm v20 vo hf
    obtain ⟨n1, n2⟩ := nd_2 h1 h2
    have d1 := h1.2
    have d2 := h2.2
    refine x_iload_n D_6_number_4 rfl ?_
    refine x_iconst D_6_number_5 ?_
    refine x_icmp_ge D_6_number_6 ⟨by omega, by omega⟩ ⟨by omega, by omega⟩ (fun c6 => ?_) (fun c6 => ?_)
    · exact (L60 hh V 2 v hm (by omega) vo hf ⟨by omega, by omega⟩ (Or.inr ⟨by omega, by omega, by omega⟩)).sub rfl
    exact absurd c6 (by omega)
  have S1 : ∀ (hh : Hp) (V : TT) (v : Int), dgt Bt len p → v = Bt p - 48 → MdAt hh V → V 20 0 = p + 1 → (∀ a : Nat, a ≠ 20 → V a = U a) → (∀ q : Nat, (q < 102 ∨ 128 < q) → hh q = h q) →
      WW d m_6_number z (fun r h' => ((okN Bt len p sg ∧ r = some (vi (nv Bt len p)) ∧ ∃ V : TT, MdAt h' V ∧ V 20 0 = p + nd Bt len p + 1 ∧ ∀ a : Nat, a ≠ 20 → V a = U a) ∨ (¬ okN Bt len p sg ∧ r = some (vi (-1)) ∧ ∃ V : TT, MdAt h' V ∧ ∀ a : Nat, a ≠ 20 → V a = U a)) ∧ ∀ q : Nat, (q < 102 ∨ 128 < q) → h' q = h q) z hh 4 [(0, .ref 102), (1, vi sg), (2, vi v), (3, vi 1)] [] := by
    intro hh V v h1 hv hm v20 vo hf
    have hx1 : TxAt V len Bt := by unfold TxAt; rw [vo 19 (by omega), vo 18 (by omega)]; exact hx
    have d1 := h1.2
    have hr1 := here_rng (len := len) (p := p + 1) hBt
    have hdg1 := here_dgt (len := len) (p := p + 1) hBt
    refine x_iload_n D_6_number_4 rfl ?_
    refine x_iconst D_6_number_5 ?_
    refine x_icmp_ge D_6_number_6 ⟨by omega, by omega⟩ ⟨by omega, by omega⟩ (fun c6 => ?_) (fun c6 => ?_)
    · exact absurd c6 (by omega)
    refine x_aload_n D_6_number_9 rfl ?_
    refine x_invV (d' := d - 1) D_6_number_10 l_6_135 mi_6_here (c_6_here (by omega) hm hx1 hln v20 (by omega)) (md_o hm) rfl rfl (by omega) rfl (fun q => q) rfl rfl (fun r10 h10 q10 => ?_)
    obtain ⟨rfl, rfl⟩ := q10
    refine x_bipush D_6_number_13 (by decide +kernel) ?_
    refine x_bipush D_6_number_15 (by decide +kernel) ?_
    refine x_invS2 (d' := d - 1) D_6_number_17 l_6_111 mi_6_in (c_6_in (by omega) ⟨by omega, by omega⟩ ⟨by omega, by omega⟩ ⟨by omega, by omega⟩)  rfl (by omega) rfl (fun q => q) rfl rfl (fun r17 h17 q17 => ?_)
    obtain ⟨rfl, rfl⟩ := q17
    refine x_if_eqb D_6_number_20 (fun c20 => ?_) (fun c20 => ?_)
    · obtain ⟨n1, n2⟩ := nd_1 h1 (fun q => c20 (hdg1.mpr q))
      exact (L60 hh V 1 v hm (by omega) vo hf ⟨by omega, by omega⟩ (Or.inr ⟨by omega, by omega, by omega⟩)).sub rfl
    refine x_iload_n D_6_number_23 rfl ?_
    refine x_if_ne D_6_number_24 ⟨by omega, by omega⟩ (fun c24 => ?_) (fun c24 => ?_)
    · refine x_bipush D_6_number_31 (by decide +kernel) ?_
      refine x_iload_n D_6_number_33 rfl ?_
      refine x_imul D_6_number_34 ?_
      refine x_aload_n D_6_number_35 rfl ?_
      refine x_invV (d' := d - 1) D_6_number_36 l_6_135 mi_6_here (c_6_here (by omega) hm hx1 hln v20 (by omega)) (md_o hm) rfl rfl (by omega) rfl (fun q => q) rfl rfl (fun r36 h36 q36 => ?_)
      obtain ⟨rfl, rfl⟩ := q36
      rw [here_val (hdg1.mp c20)]
      refine x_iadd D_6_number_39 ?_
      refine x_bipush D_6_number_40 (by decide +kernel) ?_
      refine x_isub D_6_number_42 ?_
      refine x_istore_n D_6_number_43 rfl rfl rfl ?_
      refine x_aload_n D_6_number_44 rfl ?_
      refine x_dup D_6_number_45 rfl ?_
      refine x_getfield D_6_number_46 f_6_126 (md_o hm) rfl ?_
      rw [v20]
      refine x_iconst D_6_number_49 ?_
      refine x_iadd D_6_number_50 ?_
      refine x_putI D_6_number_51 f_6_126 (md_o hm) (by decide +kernel) rfl (fun h51 e51 n51 => ?_)
      replace hm := md_p20 hm e51 n51
      replace hf := fun q hq => (n51 q (by omega)).trans (hf q hq)
      refine x_iinc D_6_number_54 rfl rfl rfl rfl ?_
      refine x_goto D_6_number_57 ?_
      exact (S2 _ _ _ h1 (hdg1.mp c20) (by omega) hm (by rw [upr_eq]) (fun a ha => (upr_ne _ _ ha).trans (vo a ha)) hf).sub rfl
    exact absurd c24 (by omega)
  have hf : ∀ q : Nat, (q < 102 ∨ 128 < q) → h q = h q := fun _ _ => rfl
  have vo : ∀ a : Nat, a ≠ 20 → U a = U a := fun _ _ => rfl
  have hr0 := here_rng (len := len) (p := p) hBt
  have hdg0 := here_dgt (len := len) (p := p) hBt
  refine x_iconst D_6_number_0 ?_
  refine x_istore_n D_6_number_1 rfl rfl rfl ?_
  refine x_iconst D_6_number_2 ?_
  refine x_istore_n D_6_number_3 rfl rfl rfl ?_
  refine x_iload_n D_6_number_4 rfl ?_
  refine x_iconst D_6_number_5 ?_
  refine x_icmp_ge D_6_number_6 ⟨by omega, by omega⟩ ⟨by omega, by omega⟩ (fun c6 => ?_) (fun c6 => ?_)
  · exact absurd c6 (by omega)
  refine x_aload_n D_6_number_9 rfl ?_
  refine x_invV (d' := d - 1) D_6_number_10 l_6_135 mi_6_here (c_6_here (by omega) hm hx hln hp (by omega)) (md_o hm) rfl rfl (by omega) rfl (fun q => q) rfl rfl (fun r10 h10 q10 => ?_)
  obtain ⟨rfl, rfl⟩ := q10
  refine x_bipush D_6_number_13 (by decide +kernel) ?_
  refine x_bipush D_6_number_15 (by decide +kernel) ?_
  refine x_invS2 (d' := d - 1) D_6_number_17 l_6_111 mi_6_in (c_6_in (by omega) ⟨by omega, by omega⟩ ⟨by omega, by omega⟩ ⟨by omega, by omega⟩)  rfl (by omega) rfl (fun q => q) rfl rfl (fun r17 h17 q17 => ?_)
  obtain ⟨rfl, rfl⟩ := q17
  refine x_if_eqb D_6_number_20 (fun c20 => ?_) (fun c20 => ?_)
  · obtain ⟨n1, n2⟩ := nd_0 (fun q => c20 (hdg0.mpr q))
    exact (L60 h U 0 (-1) hm (by omega) vo hf ⟨by omega, by omega⟩ (Or.inl ⟨by omega, by omega⟩)).sub rfl
  refine x_iload_n D_6_number_23 rfl ?_
  refine x_if_ne D_6_number_24 ⟨by omega, by omega⟩ (fun c24 => ?_) (fun c24 => ?_)
  · exact absurd rfl c24
  refine x_iconst D_6_number_27 ?_
  refine x_goto D_6_number_28 ?_
  refine x_aload_n D_6_number_35 rfl ?_
  refine x_invV (d' := d - 1) D_6_number_36 l_6_135 mi_6_here (c_6_here (by omega) hm hx hln hp (by omega)) (md_o hm) rfl rfl (by omega) rfl (fun q => q) rfl rfl (fun r36 h36 q36 => ?_)
  obtain ⟨rfl, rfl⟩ := q36
  rw [here_val (hdg0.mp c20)]
  refine x_iadd D_6_number_39 ?_
  refine x_bipush D_6_number_40 (by decide +kernel) ?_
  refine x_isub D_6_number_42 ?_
  refine x_istore_n D_6_number_43 rfl rfl rfl ?_
  refine x_aload_n D_6_number_44 rfl ?_
  refine x_dup D_6_number_45 rfl ?_
  refine x_getfield D_6_number_46 f_6_126 (md_o hm) rfl ?_
  rw [hp]
  refine x_iconst D_6_number_49 ?_
  refine x_iadd D_6_number_50 ?_
  refine x_putI D_6_number_51 f_6_126 (md_o hm) (by decide +kernel) rfl (fun h51 e51 n51 => ?_)
  replace hm := md_p20 hm e51 n51
  replace hf := fun q hq => (n51 q (by omega)).trans (hf q hq)
  refine x_iinc D_6_number_54 rfl rfl rfl rfl ?_
  refine x_goto D_6_number_57 ?_
  exact (S1 _ _ _ (hdg0.mp c20) (by omega) hm (by rw [upr_eq]) (fun a ha => (upr_ne _ _ ha).trans (vo a ha)) hf).sub rfl
end R7
