theorem upr_upr (U : TT) (k : Nat) (F G : Int → Int) : upr (upr U k F) k G = upr U k G := by
  funext a
  unfold upr
  by_cases e : a = k
  · simp only [if_pos e]
  · simp only [if_neg e]
theorem upr_self {U : TT} {k : Nat} {F : Int → Int} (h : U k = F) : upr U k F = U := by
  funext a
  unfold upr
  by_cases e : a = k
  · rw [if_pos e, e, h]
  · rw [if_neg e]
theorem upr13 {U V : TT} {k : Nat} {F : Int → Int} (hk : 13 ≤ k) (h : tbU V = tbU U) : tbU (upr V k F) = tbU U := (tbU_same (fun a ha => upr_ne _ _ (by omega))).trans h
section R3
variable {d : Nat} {z : Nat × Nat} {h : Hp} {b len : Int} {Bt : Int → Int} {T : TT} {st : SS} {u : Nat} {un : Nat → SS} {kc : Nat} {ke : Nat → SS}
theorem c_6_remembers (hd : 0 ≤ d) {U : TT} (hm : MdAt h U) (hF : RF U len Bt T st u un kc ke) (hu : u ≤ 8) : Ct d m_6_remembers [.ref 102] z z h (fun r h' => r = none ∧ (∃ V : TT, MdAt h' V ∧ V 15 0 = ((rmU u : Nat) : Int) ∧ (∀ j : Nat, j < rmU u → ∀ k : Int, 0 ≤ k → k < 23 → V 14 (23 * (j : Int) + k) = rmF u un st j k) ∧ ∀ a : Nat, a ≠ 14 → a ≠ 15 → V a = U a) ∧ ∀ q : Nat, (q < 102 ∨ 128 < q) → h' q = h q) := by
  refine Ct.of (by decide) ⟨Nat.le_refl _, Nat.le_refl _⟩ (Nat.le_of_ble_eq_true rfl) ?_
  obtain ⟨f1, f2, ⟨f3, f4, f5⟩, f6, f7, f8⟩ := hF
  have B : ∀ (f k n : Nat) (hh : Hp) (V : TT), k + f = 23 → n ≤ 7 → rmU u = n + 1 → rmF u un st n = st → MdAt hh V → V 15 0 = (n : Int) → (∀ j : Nat, j < n → ∀ k : Int, 0 ≤ k → k < 23 → V 14 (23 * (j : Int) + k) = rmF u un st j k) → (∀ x : Int, 0 ≤ x → x < k → V 14 (23 * (n : Int) + x) = st x) → (∀ a : Nat, a ≠ 14 → a ≠ 15 → V a = U a) → (∀ q : Nat, (q < 102 ∨ 128 < q) → hh q = h q) →
      WW d m_6_remembers z (fun r h' => r = none ∧ (∃ V : TT, MdAt h' V ∧ V 15 0 = ((rmU u : Nat) : Int) ∧ (∀ j : Nat, j < rmU u → ∀ k : Int, 0 ≤ k → k < 23 → V 14 (23 * (j : Int) + k) = rmF u un st j k) ∧ ∀ a : Nat, a ≠ 14 → a ≠ 15 → V a = U a) ∧ ∀ q : Nat, (q < 102 ∨ 128 < q) → h' q = h q) z hh 51 [(0, .ref 102), (1, vi (k : Int))] [] := by
    intro f
    induction f with
    | zero =>
      intro k n hh V hkk hn hU hst hm v15 hj hx ho hf
      obtain rfl : k = 23 := by omega
      have hsame := ho 13 (by omega) (by omega)
      refine x_iload_n D_6_remembers_51 rfl ?_
      refine x_bipush D_6_remembers_52 (by decide +kernel) ?_
      refine x_icmp_ge D_6_remembers_54 ⟨by omega, by omega⟩ ⟨by omega, by omega⟩ (fun c54 => ?_) (fun c54 => ?_)
      · refine x_aload_n D_6_remembers_83 rfl ?_
        refine x_dup D_6_remembers_84 rfl ?_
        refine x_getfield D_6_remembers_85 f_6_171 (md_o hm) rfl ?_
        rw [v15]
        refine x_iconst D_6_remembers_88 ?_
        refine x_iadd D_6_remembers_89 ?_
        refine x_putI D_6_remembers_90 f_6_171 (md_o hm) (by decide +kernel) rfl (fun h90 e90 n90 => ?_)
        replace hm := md_p15 hm e90 n90
        replace hf := fun q hq => (n90 q (by omega)).trans (hf q hq)
        refine x_return D_6_remembers_93 rfl rfl ?_
        refine ⟨rfl, ⟨_, hm, ?_, fun j hj2 k k0 k1 => ?_, fun a a1 a2 => (upr_ne _ _ a2).trans (ho a a1 a2)⟩, hf⟩
        · rw [upr_eq, hU]; omega
        · rw [upr_ne _ _ (by omega)]
          by_cases e : j = n
          · rw [e, hst]; exact hx k k0 k1
          · exact hj j (by omega) k k0 k1
      exact absurd c54 (by omega)
    | succ f ih =>
      intro k n hh V hkk hn hU hst hm v15 hj hx ho hf
      have v13 : V 13 = st := (ho 13 (by omega) (by omega)).trans f2
      refine x_iload_n D_6_remembers_51 rfl ?_
      refine x_bipush D_6_remembers_52 (by decide +kernel) ?_
      refine x_icmp_ge D_6_remembers_54 ⟨by omega, by omega⟩ ⟨by omega, by omega⟩ (fun c54 => ?_) (fun c54 => ?_)
      · exact absurd c54 (by omega)
      refine x_aload_n D_6_remembers_57 rfl ?_
      refine x_getfield D_6_remembers_58 f_6_37 (md_o hm) rfl ?_
      refine x_bipush D_6_remembers_61 (by decide +kernel) ?_
      refine x_aload_n D_6_remembers_63 rfl ?_
      refine x_getfield D_6_remembers_64 f_6_171 (md_o hm) rfl ?_
      rw [v15]
      refine x_imul D_6_remembers_67 ?_
      refine x_iload_n D_6_remembers_68 rfl ?_
      refine x_iadd D_6_remembers_69 ?_
      refine x_aload_n D_6_remembers_70 rfl ?_
      refine x_getfield D_6_remembers_71 f_6_34 (md_o hm) rfl ?_
      refine x_iload_n D_6_remembers_74 rfl ?_
      refine x_iaload D_6_remembers_75 (md_a13 hm) (by omega) (by omega) rfl ?_
      rw [v13]
      refine x_iastore D_6_remembers_76 (md_a14 hm) (by omega) (by omega) rfl (fun h76 e76 n76 => ?_)
      replace hm := md_s14 hm e76 n76
      replace hf := fun q hq => (n76 q (by omega)).trans (hf q hq)
      refine x_iinc D_6_remembers_77 rfl rfl rfl rfl ?_
      refine x_goto D_6_remembers_80 ?_
      refine (ih (k + 1) n _ _ (by omega) hn hU hst hm ((congrFun (upr_ne _ _ (by omega)) 0).trans v15) (fun j hj2 x x0 x1 => ?_) (fun x x0 x1 => ?_) (fun a a1 a2 => (upr_ne _ _ a1).trans (ho a a1 a2)) hf).sub rfl
      · rw [upr_eq, ups_ne _ _ (by omega)]
        exact hj j hj2 x x0 x1
      · rw [upr_eq]
        by_cases e : x = (k : Int)
        · rw [e, ups_eq]
        · rw [ups_ne _ _ (by omega)]
          exact hx x x0 (by omega)
  have A : ∀ (f k : Nat) (hh : Hp) (V : TT), u = 8 → k + f = 161 → MdAt hh V → (∀ x : Int, 0 ≤ x → x < k → V 14 x = U 14 (x + 23)) → (∀ x : Int, (k : Int) ≤ x → V 14 x = U 14 x) → (∀ a : Nat, a ≠ 14 → V a = U a) → (∀ q : Nat, (q < 102 ∨ 128 < q) → hh q = h q) →
      WW d m_6_remembers z (fun r h' => r = none ∧ (∃ V : TT, MdAt h' V ∧ V 15 0 = ((rmU u : Nat) : Int) ∧ (∀ j : Nat, j < rmU u → ∀ k : Int, 0 ≤ k → k < 23 → V 14 (23 * (j : Int) + k) = rmF u un st j k) ∧ ∀ a : Nat, a ≠ 14 → a ≠ 15 → V a = U a) ∧ ∀ q : Nat, (q < 102 ∨ 128 < q) → h' q = h q) z hh 11 [(0, .ref 102), (1, vi (k : Int))] [] := by
    intro f
    induction f with
    | zero =>
      intro k hh V hu8 hkk hm hx hy ho hf
      obtain rfl : k = 161 := by omega
      have v15 : V 15 0 = 8 := by rw [ho 15 (by omega), f3, hu8]; rfl
      refine x_iload_n D_6_remembers_11 rfl ?_
      refine x_sipush D_6_remembers_12 (by decide +kernel) ?_
      refine x_icmp_ge D_6_remembers_15 ⟨by omega, by omega⟩ ⟨by omega, by omega⟩ (fun c15 => ?_) (fun c15 => ?_)
      · refine x_aload_n D_6_remembers_39 rfl ?_
        refine x_dup D_6_remembers_40 rfl ?_
        refine x_getfield D_6_remembers_41 f_6_171 (md_o hm) rfl ?_
        rw [v15]
        refine x_iconst D_6_remembers_44 ?_
        refine x_isub D_6_remembers_45 ?_
        refine x_putI D_6_remembers_46 f_6_171 (md_o hm) (by decide +kernel) rfl (fun h46 e46 n46 => ?_)
        replace hm := md_p15 hm e46 n46
        replace hf := fun q hq => (n46 q (by omega)).trans (hf q hq)
        refine x_iconst D_6_remembers_49 ?_
        refine x_istore_n D_6_remembers_50 rfl rfl rfl ?_
        refine (B 23 0 7 _ _ (by omega) (by omega) (by unfold rmU; rw [if_pos hu8]) (by unfold rmF; rw [if_pos hu8]; rfl) hm (upr_eq _ _ _ ▸ rfl) (fun j hj2 x x0 x1 => ?_) (fun x x0 x1 => absurd x1 (by omega)) (fun a a1 a2 => (upr_ne _ _ a2).trans (ho a a1)) hf).sub rfl
        rw [upr_ne _ _ (by omega), hx _ (by omega) (by omega)]
        unfold rmF
        rw [if_pos hu8, if_pos (by omega), ← f6 (j + 1) (by omega) x x0 x1]
        congr 1
        omega
      exact absurd c15 (by omega)
    | succ f ih =>
      intro k hh V hu8 hkk hm hx hy ho hf
      refine x_iload_n D_6_remembers_11 rfl ?_
      refine x_sipush D_6_remembers_12 (by decide +kernel) ?_
      refine x_icmp_ge D_6_remembers_15 ⟨by omega, by omega⟩ ⟨by omega, by omega⟩ (fun c15 => ?_) (fun c15 => ?_)
      · exact absurd c15 (by omega)
      refine x_aload_n D_6_remembers_18 rfl ?_
      refine x_getfield D_6_remembers_19 f_6_37 (md_o hm) rfl ?_
      refine x_iload_n D_6_remembers_22 rfl ?_
      refine x_aload_n D_6_remembers_23 rfl ?_
      refine x_getfield D_6_remembers_24 f_6_37 (md_o hm) rfl ?_
      refine x_iload_n D_6_remembers_27 rfl ?_
      refine x_bipush D_6_remembers_28 (by decide +kernel) ?_
      refine x_iadd D_6_remembers_30 ?_
      refine x_iaload D_6_remembers_31 (md_a14 hm) (by omega) (by omega) rfl ?_
      refine x_iastore D_6_remembers_32 (md_a14 hm) (by omega) (by omega) rfl (fun h32 e32 n32 => ?_)
      replace hm := md_s14 hm e32 n32
      replace hf := fun q hq => (n32 q (by omega)).trans (hf q hq)
      refine x_iinc D_6_remembers_33 rfl rfl rfl rfl ?_
      refine x_goto D_6_remembers_36 ?_
      refine (ih (k + 1) _ _ hu8 (by omega) hm (fun x x0 x1 => ?_) (fun x x0 => ?_) (fun a a1 => (upr_ne _ _ a1).trans (ho a a1)) hf).sub rfl
      · rw [upr_eq]
        by_cases e : x = (k : Int)
        · rw [e, ups_eq]
          exact hy _ (by omega)
        · rw [ups_ne _ _ (by omega)]
          exact hx x x0 (by omega)
      · rw [upr_eq, ups_ne _ _ (by omega)]
        exact hy x (by omega)
  have hf : ∀ q : Nat, (q < 102 ∨ 128 < q) → h q = h q := fun _ _ => rfl
  by_cases hu8 : u = 8
  · skip
    refine x_aload_n D_6_remembers_0 rfl ?_
    refine x_getfield D_6_remembers_1 f_6_171 (md_o hm) rfl ?_
    rw [f3]
    refine x_bipush D_6_remembers_4 (by decide +kernel) ?_
    refine x_icmp_ne D_6_remembers_6 ⟨by omega, by omega⟩ ⟨by omega, by omega⟩ (fun c6 => ?_) (fun c6 => ?_)
    · exact absurd c6 (by omega)
    refine x_iconst D_6_remembers_9 ?_
    refine x_istore_n D_6_remembers_10 rfl rfl rfl ?_
    exact (A 161 0 h U hu8 (by omega) hm (fun x x0 x1 => absurd x1 (by omega)) (fun x _ => rfl) (fun a _ => rfl) hf).sub rfl
  · skip
    refine x_aload_n D_6_remembers_0 rfl ?_
    refine x_getfield D_6_remembers_1 f_6_171 (md_o hm) rfl ?_
    rw [f3]
    refine x_bipush D_6_remembers_4 (by decide +kernel) ?_
    refine x_icmp_ne D_6_remembers_6 ⟨by omega, by omega⟩ ⟨by omega, by omega⟩ (fun c6 => ?_) (fun c6 => ?_)
    · refine x_iconst D_6_remembers_49 ?_
      refine x_istore_n D_6_remembers_50 rfl rfl rfl ?_
      refine (B 23 0 u h U (by omega) (by omega) (by unfold rmU; rw [if_neg hu8]) (by unfold rmF; rw [if_neg hu8, if_pos rfl]) hm f3 (fun j hj2 x x0 x1 => ?_) (fun x x0 x1 => absurd x1 (by omega)) (fun a _ _ => rfl) hf).sub rfl
      unfold rmF
      rw [if_neg hu8, if_neg (by omega)]
      exact f6 j hj2 x x0 x1
    exact absurd c6 (by omega)
theorem r_pass (hd : 4 ≤ d) (hI : RInv h len Bt T st u un kc ke) (hG : Glob b len Bt T st u un kc ke) {n : Int} (hn : B3 n) : Ct d m_6_pass [.ref 102, vi n] z z h (RQ (passA st n) h len Bt T (if (1 ≤ n ∧ n ≤ 600) ∧ st 0 + n ≤ 9999 then passS st n else st) (if (1 ≤ n ∧ n ≤ 600) ∧ st 0 + n ≤ 9999 then rmU u else u) (if (1 ≤ n ∧ n ≤ 600) ∧ st 0 + n ≤ 9999 then rmF u un st else un) kc ke) := by
  refine Ct.of (by decide) ⟨Nat.le_refl _, Nat.le_refl _⟩ (Nat.le_of_ble_eq_true rfl) ?_
  have hI0 := hI
  obtain ⟨U, hm, hF⟩ := hI
  obtain ⟨⟨hk, k00, k22⟩, hln, hBt, hu, hS⟩ := hG
  obtain ⟨f1, f2, ⟨f3, f4, f5⟩, f6, f7, f8⟩ := id hF
  have s0 := hS.1
  by_cases hc : (1 ≤ n ∧ n ≤ 600) ∧ st 0 + n ≤ 9999
  · rw [if_pos hc, if_pos hc, if_pos hc]
    have hv : passA st n = st 0 + n := by unfold passA; rw [if_pos hc.1, if_pos hc.2]
    rw [hv]
    refine x_iload_n D_6_pass_0 rfl ?_
    refine x_iconst D_6_pass_1 ?_
    refine x_sipush D_6_pass_2 (by decide +kernel) ?_
    refine x_invS2 (d' := d - 1) D_6_pass_5 l_6_111 mi_6_in (c_6_in (by omega) hn ⟨by omega, by omega⟩ ⟨by omega, by omega⟩)  rfl (by omega) rfl (fun q => q) rfl rfl (fun r5 h5 q5 => ?_)
    obtain ⟨rfl, rfl⟩ := q5
    refine x_if_neb D_6_pass_8 (fun c8 => ?_) (fun c8 => ?_)
    · refine x_aload_n D_6_pass_13 rfl ?_
      refine x_getfield D_6_pass_14 f_6_34 (md_o hm) rfl ?_
      refine x_iconst D_6_pass_17 ?_
      refine x_iaload D_6_pass_18 (md_a13 hm) (by omega) (by omega) rfl ?_
      first | rw [ups_eq, f2] | rw [f2]
      refine x_iload_n D_6_pass_19 rfl ?_
      refine x_iadd D_6_pass_20 ?_
      refine x_sipush D_6_pass_21 (by decide +kernel) ?_
      refine x_icmp_le D_6_pass_24 ⟨by omega, by omega⟩ ⟨by omega, by omega⟩ (fun c24 => ?_) (fun c24 => ?_)
      · refine x_aload_n D_6_pass_30 rfl ?_
        refine x_invV (d' := d - 1) D_6_pass_31 l_6_197 mi_6_remembers (c_6_remembers (by omega) hm hF hu.1) (md_o hm) rfl rfl (by omega) rfl (fun q => q) rfl rfl (fun r31 h31 q31 => ?_)
        obtain ⟨rfl, ⟨V, hm, v15, v14, vo⟩, hf⟩ := q31
        have f2 : V 13 = st := (vo 13 (by omega) (by omega)).trans f2
        refine x_aload_n D_6_pass_34 rfl ?_
        refine x_getfield D_6_pass_35 f_6_34 (md_o hm) rfl ?_
        refine x_iconst D_6_pass_38 ?_
        refine x_dup2 D_6_pass_39 rfl rfl ?_
        refine x_iaload D_6_pass_40 (md_a13 hm) (by omega) (by omega) rfl ?_
        first | rw [ups_eq, f2] | rw [f2]
        refine x_iload_n D_6_pass_41 rfl ?_
        refine x_iadd D_6_pass_42 ?_
        refine x_iastore D_6_pass_43 (md_a13 hm) (by omega) (by omega) rfl (fun h43 e43 n43 => ?_)
        replace hm := md_s13 hm e43 n43
        replace hf := fun q hq => (n43 q (by omega)).trans (hf q hq)
        refine x_aload_n D_6_pass_44 rfl ?_
        refine x_getfield D_6_pass_45 f_6_34 (md_o hm) rfl ?_
        refine x_iconst D_6_pass_48 ?_
        refine x_iaload D_6_pass_49 (md_a13 hm) (by omega) (by omega) rfl ?_
        try simp only [upr, Nat.reduceEqDiff, ↓reduceIte]
        first | rw [ups_eq, f2] | rw [f2]
        refine x_ireturn D_6_pass_50 rfl (by first | rfl | exact nb_bi _ | decide +kernel) rfl ?_
        refine ⟨rfl, ⟨_, hm, ?_, ?_, ⟨v15, ?_, ?_⟩, v14, fun j hj => ?_, fun j j0 j1 => ?_⟩, hf⟩
        · rw [upr13 (by omega) (tbU_same (U := U) (fun a ha => vo a (by omega) (by omega)))]; exact f1
        · rw [upr_eq, f2]; rfl
        · rw [upr_ne _ _ (by omega), vo 17 (by omega) (by omega)]; exact f4
        · rw [upr_ne _ _ (by omega), vo 19 (by omega) (by omega)]; exact f5
        · rw [upr_ne _ _ (by omega), vo 16 (by omega) (by omega)]; exact f7 j hj
        · rw [upr_ne _ _ (by omega), vo 18 (by omega) (by omega)]; exact f8 j j0 j1
      exact absurd c24 (by omega)
    exact absurd hc.1 c8
  · rw [if_neg hc, if_neg hc, if_neg hc]
    refine x_iload_n D_6_pass_0 rfl ?_
    refine x_iconst D_6_pass_1 ?_
    refine x_sipush D_6_pass_2 (by decide +kernel) ?_
    refine x_invS2 (d' := d - 1) D_6_pass_5 l_6_111 mi_6_in (c_6_in (by omega) hn ⟨by omega, by omega⟩ ⟨by omega, by omega⟩)  rfl (by omega) rfl (fun q => q) rfl rfl (fun r5 h5 q5 => ?_)
    obtain ⟨rfl, rfl⟩ := q5
    refine x_if_neb D_6_pass_8 (fun c8 => ?_) (fun c8 => ?_)
    · refine x_aload_n D_6_pass_13 rfl ?_
      refine x_getfield D_6_pass_14 f_6_34 (md_o hm) rfl ?_
      refine x_iconst D_6_pass_17 ?_
      refine x_iaload D_6_pass_18 (md_a13 hm) (by omega) (by omega) rfl ?_
      rw [f2]
      refine x_iload_n D_6_pass_19 rfl ?_
      refine x_iadd D_6_pass_20 ?_
      refine x_sipush D_6_pass_21 (by decide +kernel) ?_
      refine x_icmp_le D_6_pass_24 ⟨by omega, by omega⟩ ⟨by omega, by omega⟩ (fun c24 => ?_) (fun c24 => ?_)
      · exact absurd ⟨c8, by omega⟩ hc
      refine x_bipush D_6_pass_27 (by decide +kernel) ?_
      refine x_ireturn D_6_pass_29 rfl (by first | rfl | exact nb_bi _ | decide +kernel) rfl ?_
      exact RQ.same hI0 (by unfold passA; rw [if_pos c8, if_neg (by omega)])
    refine x_iconst D_6_pass_11 ?_
    refine x_ireturn D_6_pass_12 rfl (by first | rfl | exact nb_bi _ | decide +kernel) rfl ?_
    exact RQ.same hI0 (by unfold passA; rw [if_neg c8])
end R3
