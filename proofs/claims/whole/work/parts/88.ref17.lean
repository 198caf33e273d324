theorem mx_gt {a c : Int} (h : a < c) : mx a c = c := if_pos h
theorem mx_le2 {a c : Int} (h : ¬ a < c) : mx a c = a := if_neg h
theorem mfold_ge {T : TT} {D : Int → Int} {sd s : Int} {M : Int → Int} {set B : Int} (h7 : 0 ≤ T 7 s ∧ T 7 s ≤ 99) (hM : ∀ q, 0 ≤ M q ∧ M q ≤ B) (n : Nat) : 0 ≤ mfold T D sd s M set n ∧ mfold T D sd s M set n ≤ B + 99 := by
  have hB : 0 ≤ B := by have := hM 0; omega
  induction n with
  | zero =>
    show 0 ≤ M set ∧ M set ≤ B + 99
    have := hM set
    omega
  | succ n ih =>
    by_cases h : may T D sd s (n : Int) set
    · rw [mfold_t h]
      have := hM (clr set (n : Int))
      unfold mx
      split <;> omega
    · rw [mfold_f h]; exact ih
section R17
variable {d : Nat} {z : Nat × Nat} {h : Hp} {T : TT} {st : SS} {D : Int → Int} {Q : Option Value → Hp → Prop} {U : TT} {h0 : Hp}
theorem mt_A (hm : MdAt h U) (hF : MtF U T D st) (hk : TabOk T) (hf : ∀ q : Nat, (q < 102 ∨ 128 < q) → h q = h0 q)
    (K : ∀ (hh : Hp) (V : TT), MdAt hh V → (∀ x : Int, 0 ≤ x → x < 256 → V 37 (256 * T 4 0 + x) = 0) → (∀ a : Nat, a ≠ 37 → V a = U a) → (∀ q : Nat, (q < 102 ∨ 128 < q) → hh q = h0 q) → WW d m_6_matches z Q z hh 31 [(0, .ref 102)] []) : WW d m_6_matches z Q z h 0 [(0, .ref 102)] [] := by
  have k4 := hk.2.2.1
  have loop : ∀ (f k : Nat) (hh : Hp) (V : TT), k + f = 256 → MdAt hh V → (∀ x : Int, 0 ≤ x → x < k → V 37 (256 * T 4 0 + x) = 0) → (∀ a : Nat, a ≠ 37 → V a = U a) → (∀ q : Nat, (q < 102 ∨ 128 < q) → hh q = h0 q) → WW d m_6_matches z Q z hh 2 [(0, .ref 102), (1, vi (k : Int))] [] := by
    intro f
    induction f with
    | zero =>
      intro k hh V hkk hm hx ho hf
      obtain rfl : k = 256 := by omega
      refine x_iload_n D_6_matches_2 rfl ?_
      refine x_sipush D_6_matches_3 (by decide +kernel) ?_
      refine x_icmp_ge D_6_matches_6 ⟨by omega, by omega⟩ ⟨by omega, by omega⟩ (fun c6 => ?_) (fun c6 => ?_)
      · exact (K hh V hm hx ho hf).sub rfl
      exact absurd c6 (by omega)
    | succ f ih =>
      intro k hh V hkk hm hx ho hf
      have v2 : V 2 0 = T 4 0 := (congrFun (ho 2 (by omega)) 0).trans hF.1.2
      refine x_iload_n D_6_matches_2 rfl ?_
      refine x_sipush D_6_matches_3 (by decide +kernel) ?_
      refine x_icmp_ge D_6_matches_6 ⟨by omega, by omega⟩ ⟨by omega, by omega⟩ (fun c6 => ?_) (fun c6 => ?_)
      · exact absurd c6 (by omega)
      refine x_aload_n D_6_matches_9 rfl ?_
      refine x_getfield D_6_matches_10 f_6_70 (md_o hm) rfl ?_
      refine x_sipush D_6_matches_13 (by decide +kernel) ?_
      refine x_aload_n D_6_matches_16 rfl ?_
      refine x_getfield D_6_matches_17 f_6_118 (md_o hm) rfl ?_
      rw [v2]
      refine x_imul D_6_matches_20 ?_
      refine x_iload_n D_6_matches_21 rfl ?_
      refine x_iadd D_6_matches_22 ?_
      refine x_iconst D_6_matches_23 ?_
      refine x_iastore D_6_matches_24 (md_a37 hm) (by omega) (by omega) rfl (fun h24 e24 n24 => ?_)
      replace hm := md_s37 hm e24 n24
      replace hf := fun q hq => (n24 q (by omega)).trans (hf q hq)
      refine x_iinc D_6_matches_25 rfl rfl rfl rfl ?_
      refine x_goto D_6_matches_28 ?_
      refine (ih (k + 1) _ _ (by omega) hm (fun x x0 x1 => ?_) (fun a a1 => (upr_ne _ _ a1).trans (ho a a1)) hf).sub rfl
      rw [upr_eq]
      by_cases e : x = (k : Int)
      · rw [e, ups_eq]
      · rw [ups_ne _ _ (by omega)]; exact hx x x0 (by omega)
  refine x_iconst D_6_matches_0 ?_
  refine x_istore_n D_6_matches_1 rfl rfl rfl ?_
  exact (loop 256 0 h U (by omega) hm (fun x x0 x1 => absurd x1 (by omega)) (fun _ _ => rfl) hf).sub rfl
theorem mt_G (hd : 2 ≤ d) (hm : MdAt h U) (hF : MtF U T D st) (hk : TabOk T) {s k : Nat} (hs : (s : Int) < T 4 0) (hkk : k < 2 ^ nGr T) (hM : ∀ q : Nat, q < 2 ^ nGr T → U 37 (256 * ((s : Int) + 1) + (q : Int)) = ms T D (st 4) (s + 1) (q : Int))
    (K : WW d m_6_matches z Q z h 125 [(0, .ref 102), (1, vi (s : Int)), (2, vi (k : Int)), (3, vi (ms T D (st 4) s (k : Int)))] []) : WW d m_6_matches z Q z h 69 [(0, .ref 102), (1, vi (s : Int)), (2, vi (k : Int)), (3, vi (ms T D (st 4) (s + 1) (k : Int)))] [] := by
  have k2 := hk.2.1
  have k4 := hk.2.2.1
  have k8 := hk.2.2.2.2.2.2.2.1 (s : Int) (by omega) hs
  have hMr := ms_rng hk D (st 4) (s + 1)
  have t1 := hF.1.1
  have loop : ∀ (f g : Nat), g + f = nGr T → WW d m_6_matches z Q z h 72 [(0, .ref 102), (1, vi (s : Int)), (2, vi (k : Int)), (3, vi (mfold T D (st 4) (s : Int) (ms T D (st 4) (s + 1)) (k : Int) g)), (4, vi (g : Int))] [] := by
    intro f
    induction f with
    | zero =>
      intro g hg
      obtain rfl : g = nGr T := by omega
      have hgn : ((nGr T : Nat) : Int) = T 2 0 := by unfold nGr; omega
      rw [ms_step T D (st 4) (by unfold nSa; omega)] at K
      refine x_iload D_6_matches_72 rfl ?_
      refine x_aload_n D_6_matches_74 rfl ?_
      refine x_getfield D_6_matches_75 f_6_115 (md_o hm) rfl ?_
      rw [t1]
      refine x_icmp_ge D_6_matches_78 ⟨by omega, by omega⟩ ⟨by omega, by omega⟩ (fun c78 => ?_) (fun c78 => ?_)
      · exact K.sub rfl
      exact absurd c78 (by omega)
    | succ f ih =>
      intro g hg
      have hgn : (g : Int) < T 2 0 := by unfold nGr at hg; omega
      have hr := mfold_ge (T := T) (D := D) (sd := st 4) (s := (s : Int)) (M := ms T D (st 4) (s + 1)) (set := (k : Int)) (B := 693) k8.2.2.1 hMr g
      have hr2 := hMr (clr (k : Int) (g : Int))
      refine x_iload D_6_matches_72 rfl ?_
      refine x_aload_n D_6_matches_74 rfl ?_
      refine x_getfield D_6_matches_75 f_6_115 (md_o hm) rfl ?_
      rw [t1]
      refine x_icmp_ge D_6_matches_78 ⟨by omega, by omega⟩ ⟨by omega, by omega⟩ (fun c78 => ?_) (fun c78 => ?_)
      · exact absurd c78 (by omega)
      refine x_aload_n D_6_matches_81 rfl ?_
      refine x_iload_n D_6_matches_82 rfl ?_
      refine x_iload D_6_matches_83 rfl ?_
      refine x_iload_n D_6_matches_85 rfl ?_
      refine x_invV (d' := d - 1) D_6_matches_86 l_6_223 mi_6_mayGive (c_6_mayGive (by omega) hm hF hk ⟨by omega, hs⟩ ⟨by omega, hgn⟩) (md_o hm) rfl rfl (by omega) rfl (fun q => q) rfl rfl (fun r86 h86 q86 => ?_)
      obtain ⟨rfl, rfl⟩ := q86
      refine x_if_eqb D_6_matches_89 (fun c89 => ?_) (fun c89 => ?_)
      · refine x_iconst D_6_matches_103 ?_
        refine x_istore D_6_matches_104 rfl rfl rfl ?_
        refine x_iload D_6_matches_106 rfl ?_
        refine x_iload_n D_6_matches_108 rfl ?_
        refine x_icmp_le D_6_matches_109 ⟨by omega, by omega⟩ ⟨by omega, by omega⟩ (fun c109 => ?_) (fun c109 => ?_)
        · refine x_iload_n D_6_matches_117 rfl ?_
          refine x_istore_n D_6_matches_118 rfl rfl rfl ?_
          refine x_iinc D_6_matches_119 rfl rfl rfl rfl ?_
          refine x_goto D_6_matches_122 ?_
          first
          | exact (ih (g + 1) (by omega)).sub (by rw [mfold_t c89, mx_gt c109]; rfl)
          | exact (ih (g + 1) (by omega)).sub (by rw [mfold_t c89, mx_le2 (by omega)]; rfl)
          | exact (ih (g + 1) (by omega)).sub (by rw [mfold_f c89]; rfl)
          | (exfalso; omega)
        refine x_iload D_6_matches_112 rfl ?_
        refine x_goto D_6_matches_114 ?_
        refine x_istore_n D_6_matches_118 rfl rfl rfl ?_
        refine x_iinc D_6_matches_119 rfl rfl rfl rfl ?_
        refine x_goto D_6_matches_122 ?_
        first
        | exact (ih (g + 1) (by omega)).sub (by rw [mfold_t c89, mx_gt c109]; rfl)
        | exact (ih (g + 1) (by omega)).sub (by rw [mfold_t c89, mx_le2 (by omega)]; rfl)
        | exact (ih (g + 1) (by omega)).sub (by rw [mfold_f c89]; rfl)
        | (exfalso; omega)
      refine x_aload_n D_6_matches_92 rfl ?_
      refine x_iload_n D_6_matches_93 rfl ?_
      refine x_iload D_6_matches_94 rfl ?_
      refine x_iload_n D_6_matches_96 rfl ?_
      refine x_invV (d' := d - 1) D_6_matches_97 l_6_226 mi_6_givenBy (c_6_givenBy (by omega) hm hF hk hs ⟨by omega, hgn⟩ hkk hM) (md_o hm) rfl rfl (by omega) rfl (fun q => q) rfl rfl (fun r97 h97 q97 => ?_)
      obtain ⟨rfl, rfl⟩ := q97
      refine x_goto D_6_matches_100 ?_
      refine x_istore D_6_matches_104 rfl rfl rfl ?_
      refine x_iload D_6_matches_106 rfl ?_
      refine x_iload_n D_6_matches_108 rfl ?_
      refine x_icmp_le D_6_matches_109 ⟨by omega, by omega⟩ ⟨by omega, by omega⟩ (fun c109 => ?_) (fun c109 => ?_)
      · refine x_iload_n D_6_matches_117 rfl ?_
        refine x_istore_n D_6_matches_118 rfl rfl rfl ?_
        refine x_iinc D_6_matches_119 rfl rfl rfl rfl ?_
        refine x_goto D_6_matches_122 ?_
        first
        | exact (ih (g + 1) (by omega)).sub (by rw [mfold_t c89, mx_gt c109]; rfl)
        | exact (ih (g + 1) (by omega)).sub (by rw [mfold_t c89, mx_le2 (by omega)]; rfl)
        | exact (ih (g + 1) (by omega)).sub (by rw [mfold_f c89]; rfl)
        | (exfalso; omega)
      refine x_iload D_6_matches_112 rfl ?_
      refine x_goto D_6_matches_114 ?_
      refine x_istore_n D_6_matches_118 rfl rfl rfl ?_
      refine x_iinc D_6_matches_119 rfl rfl rfl rfl ?_
      refine x_goto D_6_matches_122 ?_
      first
      | exact (ih (g + 1) (by omega)).sub (by rw [mfold_t c89, mx_gt c109]; rfl)
      | exact (ih (g + 1) (by omega)).sub (by rw [mfold_t c89, mx_le2 (by omega)]; rfl)
      | exact (ih (g + 1) (by omega)).sub (by rw [mfold_f c89]; rfl)
      | (exfalso; omega)
  refine x_iconst D_6_matches_69 ?_
  refine x_istore D_6_matches_70 rfl rfl rfl ?_
  exact (loop (nGr T) 0 (by omega)).sub rfl
theorem mt_T (hd : 2 ≤ d) (hm : MdAt h U) (hF : MtF U T D st) (hk : TabOk T) (hf : ∀ q : Nat, (q < 102 ∨ 128 < q) → h q = h0 q) {s : Nat} (hs : (s : Int) < T 4 0) (hM : ∀ j : Nat, s < j → j ≤ nSa T → ∀ q : Nat, q < 2 ^ nGr T → U 37 (256 * (j : Int) + (q : Int)) = ms T D (st 4) j (q : Int))
    (K : ∀ (hh : Hp) (V : TT), MdAt hh V → (∀ j : Nat, s ≤ j → j ≤ nSa T → ∀ q : Nat, q < 2 ^ nGr T → V 37 (256 * (j : Int) + (q : Int)) = ms T D (st 4) j (q : Int)) → (∀ a : Nat, a ≠ 37 → V a = U a) → (∀ q : Nat, (q < 102 ∨ 128 < q) → hh q = h0 q) → WW d m_6_matches z Q z hh 144 [(0, .ref 102), (1, vi (s : Int))] []) : WW d m_6_matches z Q z h 42 [(0, .ref 102), (1, vi (s : Int))] [] := by
  have k2 := hk.2.1
  have k4 := hk.2.2.1
  have hp : 2 ^ nGr T ≤ 256 := pow_le (m := 8) (by unfold nGr; omega)
  have he : iShl 1 (T 2 0) = ((2 ^ nGr T : Nat) : Int) := by
    rw [← shl_pow1 (nGr T) (by unfold nGr; omega), show ((nGr T : Nat) : Int) = T 2 0 by unfold nGr; omega]
  have hns : s < nSa T := by unfold nSa; omega
  have loop : ∀ (f k : Nat) (hh : Hp) (V : TT), k + f = 2 ^ nGr T → MdAt hh V → (∀ j : Nat, s < j → j ≤ nSa T → ∀ q : Nat, q < 2 ^ nGr T → V 37 (256 * (j : Int) + (q : Int)) = ms T D (st 4) j (q : Int)) → (∀ q : Nat, q < k → V 37 (256 * (s : Int) + (q : Int)) = ms T D (st 4) s (q : Int)) → (∀ a : Nat, a ≠ 37 → V a = U a) → (∀ q : Nat, (q < 102 ∨ 128 < q) → hh q = h0 q) → WW d m_6_matches z Q z hh 44 [(0, .ref 102), (1, vi (s : Int)), (2, vi (k : Int))] [] := by
    intro f
    induction f with
    | zero =>
      intro k hh V hkk hm hx hy ho hf
      have v1 : V 1 0 = T 2 0 := (congrFun (ho 1 (by omega)) 0).trans hF.1.1
      have hkn : k = 2 ^ nGr T := by omega
      refine x_iload_n D_6_matches_44 rfl ?_
      refine x_iconst D_6_matches_45 ?_
      refine x_aload_n D_6_matches_46 rfl ?_
      refine x_getfield D_6_matches_47 f_6_115 (md_o hm) rfl ?_
      rw [v1]
      refine x_ishl D_6_matches_50 ?_
      rw [he, ← hkn]
      refine x_icmp_ge D_6_matches_51 ⟨by omega, by omega⟩ ⟨by omega, by omega⟩ (fun c51 => ?_) (fun c51 => ?_)
      · refine (K hh V hm (fun j j1 j2 q hq => ?_) ho hf).sub rfl
        by_cases e : j = s
        · rw [e]; exact hy q (by omega)
        · exact hx j (by omega) j2 q hq
      exact absurd c51 (by omega)
    | succ f ih =>
      intro k hh V hkk hm hx hy ho hf
      have v1 : V 1 0 = T 2 0 := (congrFun (ho 1 (by omega)) 0).trans hF.1.1
      have hF1 : MtF V T D st := hF.of (fun a a1 _ => ho a a1)
      have hk1 : k < 2 ^ nGr T := by omega
      have hM1 : ∀ q : Nat, q < 2 ^ nGr T → V 37 (256 * ((s : Int) + 1) + (q : Int)) = ms T D (st 4) (s + 1) (q : Int) := fun q hq => by
        have := hx (s + 1) (by omega) (by omega) q hq
        rw [show (256 * ((s + 1 : Nat) : Int) + (q : Int)) = 256 * ((s : Int) + 1) + (q : Int) by omega] at this
        exact this
      have v37 := hM1 k hk1
      have hk256 : k < 256 := by omega
      refine x_iload_n D_6_matches_44 rfl ?_
      refine x_iconst D_6_matches_45 ?_
      refine x_aload_n D_6_matches_46 rfl ?_
      refine x_getfield D_6_matches_47 f_6_115 (md_o hm) rfl ?_
      rw [v1]
      refine x_ishl D_6_matches_50 ?_
      rw [he]
      refine x_icmp_ge D_6_matches_51 ⟨by omega, by omega⟩ ⟨by omega, by omega⟩ (fun c51 => ?_) (fun c51 => ?_)
      · exact absurd c51 (by omega)
      refine x_aload_n D_6_matches_54 rfl ?_
      refine x_getfield D_6_matches_55 f_6_70 (md_o hm) rfl ?_
      refine x_sipush D_6_matches_58 (by decide +kernel) ?_
      refine x_iload_n D_6_matches_61 rfl ?_
      refine x_iconst D_6_matches_62 ?_
      refine x_iadd D_6_matches_63 ?_
      refine x_imul D_6_matches_64 ?_
      refine x_iload_n D_6_matches_65 rfl ?_
      refine x_iadd D_6_matches_66 ?_
      refine x_iaload D_6_matches_67 (md_a37 hm) (by omega) (by omega) rfl ?_
      rw [v37]
      refine x_istore_n D_6_matches_68 rfl rfl rfl ?_
      refine (mt_G hd hm hF1 hk hs hk1 hM1 ?_).sub rfl
      refine x_aload_n D_6_matches_125 rfl ?_
      refine x_getfield D_6_matches_126 f_6_70 (md_o hm) rfl ?_
      refine x_sipush D_6_matches_129 (by decide +kernel) ?_
      refine x_iload_n D_6_matches_132 rfl ?_
      refine x_imul D_6_matches_133 ?_
      refine x_iload_n D_6_matches_134 rfl ?_
      refine x_iadd D_6_matches_135 ?_
      refine x_iload_n D_6_matches_136 rfl ?_
      refine x_iastore D_6_matches_137 (md_a37 hm) (by omega) (by omega) rfl (fun h137 e137 n137 => ?_)
      replace hm := md_s37 hm e137 n137
      replace hf := fun q hq => (n137 q (by omega)).trans (hf q hq)
      refine x_iinc D_6_matches_138 rfl rfl rfl rfl ?_
      refine x_goto D_6_matches_141 ?_
      refine (ih (k + 1) _ _ (by omega) hm (fun j j1 j2 q hq => ?_) (fun q hq => ?_) (fun a a1 => (upr_ne _ _ a1).trans (ho a a1)) hf).sub rfl
      · rw [upr_eq, ups_ne _ _ (by omega)]
        exact hx j j1 j2 q hq
      · rw [upr_eq]
        by_cases e : q = k
        · rw [e, ups_eq]
        · rw [ups_ne _ _ (by omega)]; exact hy q (by omega)
  refine x_iconst D_6_matches_42 ?_
  refine x_istore_n D_6_matches_43 rfl rfl rfl ?_
  exact (loop (2 ^ nGr T) 0 h U (by omega) hm hM (fun q hq => absurd hq (by omega)) (fun _ _ => rfl) hf).sub rfl
end R17
