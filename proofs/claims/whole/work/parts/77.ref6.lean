section R6
variable {d : Nat} {z : Nat × Nat} {h : Hp} {b len : Int} {Bt : Int → Int} {T : TT} {st : SS} {u : Nat} {un : Nat → SS} {kc : Nat} {ke : Nat → SS}
theorem r_undo (hd : 4 ≤ d) (hI : RInv h len Bt T st u un kc ke) (hG : Glob b len Bt T st u un kc ke) : Ct d m_6_undo [.ref 102] z z h (RQ (if 1 ≤ u then ((u - 1 : Nat) : Int) else -2) h len Bt T (if 1 ≤ u then un (u - 1) else st) (u - 1) un kc ke) := by
  refine Ct.of (by decide) ⟨Nat.le_refl _, Nat.le_refl _⟩ (Nat.le_of_ble_eq_true rfl) ?_
  have hI0 := hI
  obtain ⟨U, hm, hF⟩ := hI
  obtain ⟨⟨hk, k00, k22⟩, hln, hBt, hu, hS⟩ := hG
  obtain ⟨f1, f2, ⟨f3, f4, f5⟩, f6, f7, f8⟩ := id hF
  by_cases hc : 1 ≤ u
  · rw [if_pos hc, if_pos hc]
    obtain ⟨n, rfl⟩ : ∃ n, u = n + 1 := ⟨u - 1, by omega⟩
    have g6 := f6 n (by omega)
    show WW d m_6_undo z (RQ ((n : Nat) : Int) h len Bt T (un n) n un kc ke) z h 0 _ []
    have loop : ∀ (f k : Nat) (hh : Hp) (V : TT), k + f = 23 → MdAt hh V → V 15 0 = (n : Int) → (∀ x : Int, 0 ≤ x → x < k → V 13 x = un n x) → (∀ a : Nat, a ≠ 13 → a ≠ 15 → V a = U a) → (∀ q : Nat, (q < 102 ∨ 128 < q) → hh q = h q) →
        WW d m_6_undo z (RQ ((n : Nat) : Int) h len Bt T (un n) n un kc ke) z hh 22 [(0, .ref 102), (1, vi (k : Int))] [] := by
      intro f
      induction f with
      | zero =>
        intro k hh V hkk hm v15 hx vo hf
        obtain rfl : k = 23 := by omega
        refine x_iload_n D_6_undo_22 rfl ?_
        refine x_bipush D_6_undo_23 (by decide +kernel) ?_
        refine x_icmp_ge D_6_undo_25 ⟨by omega, by omega⟩ ⟨by omega, by omega⟩ (fun c25 => ?_) (fun c25 => ?_)
        · refine x_aload_n D_6_undo_54 rfl ?_
          refine x_getfield D_6_undo_55 f_6_171 (md_o hm) rfl ?_
          rw [v15]
          refine x_ireturn D_6_undo_58 rfl (by first | rfl | exact nb_bi _ | decide +kernel) rfl ?_
          refine ⟨rfl, ⟨upr V 13 (un n), md_reb hm hx, ?_, rfl, ⟨v15, ?_, ?_⟩, fun j hj => ?_, fun j hj => ?_, fun j j0 j1 => ?_⟩, hf⟩
          · rw [tbU_same (U := U) (fun a ha => (upr_ne _ _ (by omega)).trans (vo a (by omega) (by omega)))]; exact f1
          · rw [upr_ne _ _ (by omega), vo 17 (by omega) (by omega)]; exact f4
          · rw [upr_ne _ _ (by omega), vo 19 (by omega) (by omega)]; exact f5
          · rw [upr_ne _ _ (by omega), vo 14 (by omega) (by omega)]; exact f6 j (by omega)
          · rw [upr_ne _ _ (by omega), vo 16 (by omega) (by omega)]; exact f7 j hj
          · rw [upr_ne _ _ (by omega), vo 18 (by omega) (by omega)]; exact f8 j j0 j1
        exact absurd c25 (by omega)
      | succ f ih =>
        intro k hh V hkk hm v15 hx vo hf
        have v14 := congrFun (vo 14 (by omega) (by omega)) (23 * (n : Int) + (k : Int))
        refine x_iload_n D_6_undo_22 rfl ?_
        refine x_bipush D_6_undo_23 (by decide +kernel) ?_
        refine x_icmp_ge D_6_undo_25 ⟨by omega, by omega⟩ ⟨by omega, by omega⟩ (fun c25 => ?_) (fun c25 => ?_)
        · exact absurd c25 (by omega)
        refine x_aload_n D_6_undo_28 rfl ?_
        refine x_getfield D_6_undo_29 f_6_34 (md_o hm) rfl ?_
        refine x_iload_n D_6_undo_32 rfl ?_
        refine x_aload_n D_6_undo_33 rfl ?_
        refine x_getfield D_6_undo_34 f_6_37 (md_o hm) rfl ?_
        refine x_bipush D_6_undo_37 (by decide +kernel) ?_
        refine x_aload_n D_6_undo_39 rfl ?_
        refine x_getfield D_6_undo_40 f_6_171 (md_o hm) rfl ?_
        rw [v15]
        refine x_imul D_6_undo_43 ?_
        refine x_iload_n D_6_undo_44 rfl ?_
        refine x_iadd D_6_undo_45 ?_
        refine x_iaload D_6_undo_46 (md_a14 hm) (by omega) (by omega) rfl ?_
        rw [v14, g6 (k : Int) (by omega) (by omega)]
        refine x_iastore D_6_undo_47 (md_a13 hm) (by omega) (by omega) rfl (fun h47 e47 n47 => ?_)
        replace hm := md_s13 hm e47 n47
        replace hf := fun q hq => (n47 q (by omega)).trans (hf q hq)
        refine x_iinc D_6_undo_48 rfl rfl rfl rfl ?_
        refine x_goto D_6_undo_51 ?_
        refine (ih (k + 1) _ _ (by omega) hm v15 (fun x x0 x1 => ?_) (fun a a1 a2 => (upr_ne _ _ a1).trans (vo a a1 a2)) hf).sub rfl
        rw [upr_eq]
        by_cases e : x = (k : Int)
        · rw [e, ups_eq]
        · rw [ups_ne _ _ e]; exact hx x x0 (by omega)
    have hf : ∀ q : Nat, (q < 102 ∨ 128 < q) → h q = h q := fun _ _ => rfl
    refine x_aload_n D_6_undo_0 rfl ?_
    refine x_getfield D_6_undo_1 f_6_171 (md_o hm) rfl ?_
    rw [f3]
    refine x_if_ne D_6_undo_4 ⟨by omega, by omega⟩ (fun c4 => ?_) (fun c4 => ?_)
    · refine x_aload_n D_6_undo_10 rfl ?_
      refine x_dup D_6_undo_11 rfl ?_
      refine x_getfield D_6_undo_12 f_6_171 (md_o hm) rfl ?_
      rw [f3]
      refine x_iconst D_6_undo_15 ?_
      refine x_isub D_6_undo_16 ?_
      refine x_putI D_6_undo_17 f_6_171 (md_o hm) (by decide +kernel) rfl (fun h17 e17 n17 => ?_)
      replace hm := md_p15 hm e17 n17
      replace hf := fun q hq => (n17 q (by omega)).trans (hf q hq)
      refine x_iconst D_6_undo_20 ?_
      refine x_istore_n D_6_undo_21 rfl rfl rfl ?_
      exact (loop 23 0 _ _ (by omega) hm (by rw [upr_eq]; omega) (fun x x0 x1 => absurd x1 (by omega)) (fun a a1 a2 => upr_ne _ _ a2) hf).sub rfl
    exact absurd c4 (by omega)
  · rw [if_neg hc, if_neg hc]
    have hu0 : u = 0 := by omega
    subst hu0
    refine x_aload_n D_6_undo_0 rfl ?_
    refine x_getfield D_6_undo_1 f_6_171 (md_o hm) rfl ?_
    rw [f3]
    refine x_if_ne D_6_undo_4 ⟨by omega, by omega⟩ (fun c4 => ?_) (fun c4 => ?_)
    · exact absurd rfl c4
    refine x_bipush D_6_undo_7 (by decide +kernel) ?_
    refine x_ireturn D_6_undo_9 rfl (by first | rfl | exact nb_bi _ | decide +kernel) rfl ?_
    exact RQ.same hI0 rfl
theorem r_back (hd : 4 ≤ d) (hI : RInv h len Bt T st u un kc ke) (hG : Glob b len Bt T st u un kc ke) : Ct d m_6_back [.ref 102] z z h (RQ (if 1 ≤ kc then ((kc - 1 : Nat) : Int) else -2) h len Bt T (if 1 ≤ kc then ke (kc - 1) else st) (if 1 ≤ kc then 0 else u) un (kc - 1) ke) := by
  refine Ct.of (by decide) ⟨Nat.le_refl _, Nat.le_refl _⟩ (Nat.le_of_ble_eq_true rfl) ?_
  have hI0 := hI
  obtain ⟨U, hm, hF⟩ := hI
  obtain ⟨⟨hk, k00, k22⟩, hln, hBt, hu, hS⟩ := hG
  obtain ⟨f1, f2, ⟨f3, f4, f5⟩, f6, f7, f8⟩ := id hF
  by_cases hc : 1 ≤ kc
  · rw [if_pos hc, if_pos hc, if_pos hc]
    obtain ⟨n, rfl⟩ : ∃ n, kc = n + 1 := ⟨kc - 1, by omega⟩
    have g7 := f7 n (by omega)
    show WW d m_6_back z (RQ ((n : Nat) : Int) h len Bt T (ke n) 0 un n ke) z h 0 _ []
    have loop : ∀ (f k : Nat) (hh : Hp) (V : TT), k + f = 23 → MdAt hh V → V 17 0 = (n : Int) → (∀ x : Int, 0 ≤ x → x < k → V 13 x = ke n x) → (∀ a : Nat, a ≠ 13 → a ≠ 17 → V a = U a) → (∀ q : Nat, (q < 102 ∨ 128 < q) → hh q = h q) →
        WW d m_6_back z (RQ ((n : Nat) : Int) h len Bt T (ke n) 0 un n ke) z hh 22 [(0, .ref 102), (1, vi (k : Int))] [] := by
      intro f
      induction f with
      | zero =>
        intro k hh V hkk hm v17 hx vo hf
        obtain rfl : k = 23 := by omega
        refine x_iload_n D_6_back_22 rfl ?_
        refine x_bipush D_6_back_23 (by decide +kernel) ?_
        refine x_icmp_ge D_6_back_25 ⟨by omega, by omega⟩ ⟨by omega, by omega⟩ (fun c25 => ?_) (fun c25 => ?_)
        · refine x_aload_n D_6_back_54 rfl ?_
          refine x_iconst D_6_back_55 ?_
          refine x_putI D_6_back_56 f_6_171 (md_o hm) (by decide +kernel) rfl (fun h56 e56 n56 => ?_)
          replace hm := md_p15 hm e56 n56
          replace hf := fun q hq => (n56 q (by omega)).trans (hf q hq)
          refine x_aload_n D_6_back_59 rfl ?_
          refine x_getfield D_6_back_60 f_6_174 (md_o hm) rfl ?_
          try simp only [upr, Nat.reduceEqDiff, ↓reduceIte]
          rw [v17]
          refine x_ireturn D_6_back_63 rfl (by first | rfl | exact nb_bi _ | decide +kernel) rfl ?_
          have hx2 : ∀ x : Int, 0 ≤ x → x < 23 → upr V 15 (fun _ => 0) 13 x = ke n x := hx
          refine ⟨rfl, ⟨upr (upr V 15 (fun _ => 0)) 13 (ke n), md_reb hm hx2, ?_, rfl, ⟨rfl, v17, ?_⟩, fun j hj => absurd hj (by omega), fun j hj => ?_, fun j j0 j1 => ?_⟩, hf⟩
          · rw [tbU_same (U := U) (fun a ha => (upr_ne _ _ (by omega)).trans ((upr_ne _ _ (by omega)).trans (vo a (by omega) (by omega))))]; exact f1
          · rw [upr_ne _ _ (by omega), upr_ne _ _ (by omega), vo 19 (by omega) (by omega)]; exact f5
          · rw [upr_ne _ _ (by omega), upr_ne _ _ (by omega), vo 16 (by omega) (by omega)]; exact f7 j (by omega)
          · rw [upr_ne _ _ (by omega), upr_ne _ _ (by omega), vo 18 (by omega) (by omega)]; exact f8 j j0 j1
        exact absurd c25 (by omega)
      | succ f ih =>
        intro k hh V hkk hm v17 hx vo hf
        have v16 := congrFun (vo 16 (by omega) (by omega)) (23 * (n : Int) + (k : Int))
        refine x_iload_n D_6_back_22 rfl ?_
        refine x_bipush D_6_back_23 (by decide +kernel) ?_
        refine x_icmp_ge D_6_back_25 ⟨by omega, by omega⟩ ⟨by omega, by omega⟩ (fun c25 => ?_) (fun c25 => ?_)
        · exact absurd c25 (by omega)
        refine x_aload_n D_6_back_28 rfl ?_
        refine x_getfield D_6_back_29 f_6_34 (md_o hm) rfl ?_
        refine x_iload_n D_6_back_32 rfl ?_
        refine x_aload_n D_6_back_33 rfl ?_
        refine x_getfield D_6_back_34 f_6_40 (md_o hm) rfl ?_
        refine x_bipush D_6_back_37 (by decide +kernel) ?_
        refine x_aload_n D_6_back_39 rfl ?_
        refine x_getfield D_6_back_40 f_6_174 (md_o hm) rfl ?_
        rw [v17]
        refine x_imul D_6_back_43 ?_
        refine x_iload_n D_6_back_44 rfl ?_
        refine x_iadd D_6_back_45 ?_
        refine x_iaload D_6_back_46 (md_a16 hm) (by omega) (by omega) rfl ?_
        rw [v16, g7 (k : Int) (by omega) (by omega)]
        refine x_iastore D_6_back_47 (md_a13 hm) (by omega) (by omega) rfl (fun h47 e47 n47 => ?_)
        replace hm := md_s13 hm e47 n47
        replace hf := fun q hq => (n47 q (by omega)).trans (hf q hq)
        refine x_iinc D_6_back_48 rfl rfl rfl rfl ?_
        refine x_goto D_6_back_51 ?_
        refine (ih (k + 1) _ _ (by omega) hm v17 (fun x x0 x1 => ?_) (fun a a1 a2 => (upr_ne _ _ a1).trans (vo a a1 a2)) hf).sub rfl
        rw [upr_eq]
        by_cases e : x = (k : Int)
        · rw [e, ups_eq]
        · rw [ups_ne _ _ e]; exact hx x x0 (by omega)
    have hf : ∀ q : Nat, (q < 102 ∨ 128 < q) → h q = h q := fun _ _ => rfl
    refine x_aload_n D_6_back_0 rfl ?_
    refine x_getfield D_6_back_1 f_6_174 (md_o hm) rfl ?_
    rw [f4]
    refine x_if_ne D_6_back_4 ⟨by omega, by omega⟩ (fun c4 => ?_) (fun c4 => ?_)
    · refine x_aload_n D_6_back_10 rfl ?_
      refine x_dup D_6_back_11 rfl ?_
      refine x_getfield D_6_back_12 f_6_174 (md_o hm) rfl ?_
      rw [f4]
      refine x_iconst D_6_back_15 ?_
      refine x_isub D_6_back_16 ?_
      refine x_putI D_6_back_17 f_6_174 (md_o hm) (by decide +kernel) rfl (fun h17 e17 n17 => ?_)
      replace hm := md_p17 hm e17 n17
      replace hf := fun q hq => (n17 q (by omega)).trans (hf q hq)
      refine x_iconst D_6_back_20 ?_
      refine x_istore_n D_6_back_21 rfl rfl rfl ?_
      exact (loop 23 0 _ _ (by omega) hm (by rw [upr_eq]; omega) (fun x x0 x1 => absurd x1 (by omega)) (fun a a1 a2 => upr_ne _ _ a2) hf).sub rfl
    exact absurd c4 (by omega)
  · rw [if_neg hc, if_neg hc, if_neg hc]
    have hu0 : kc = 0 := by omega
    subst hu0
    refine x_aload_n D_6_back_0 rfl ?_
    refine x_getfield D_6_back_1 f_6_174 (md_o hm) rfl ?_
    rw [f4]
    refine x_if_ne D_6_back_4 ⟨by omega, by omega⟩ (fun c4 => ?_) (fun c4 => ?_)
    · exact absurd rfl c4
    refine x_bipush D_6_back_7 (by decide +kernel) ?_
    refine x_ireturn D_6_back_9 rfl (by first | rfl | exact nb_bi _ | decide +kernel) rfl ?_
    exact RQ.same hI0 rfl
theorem r_keep (hd : 4 ≤ d) (hI : RInv h len Bt T st u un kc ke) (hG : Glob b len Bt T st u un kc ke) : Ct d m_6_keep [.ref 102] z z h (RQ (if kc < 2 then ((kc + 1 : Nat) : Int) else -3) h len Bt T st u un (if kc < 2 then kc + 1 else kc) (if kc < 2 then (fun j => if j = kc then st else ke j) else ke)) := by
  refine Ct.of (by decide) ⟨Nat.le_refl _, Nat.le_refl _⟩ (Nat.le_of_ble_eq_true rfl) ?_
  have hI0 := hI
  obtain ⟨U, hm, hF⟩ := hI
  obtain ⟨⟨hk, k00, k22⟩, hln, hBt, hu, hS⟩ := hG
  obtain ⟨f1, f2, ⟨f3, f4, f5⟩, f6, f7, f8⟩ := id hF
  by_cases hc : kc < 2
  · rw [if_pos hc, if_pos hc, if_pos hc]
    have loop : ∀ (f k : Nat) (hh : Hp) (V : TT), k + f = 23 → MdAt hh V → (∀ j : Nat, j < kc → ∀ x : Int, 0 ≤ x → x < 23 → V 16 (23 * (j : Int) + x) = ke j x) → (∀ x : Int, 0 ≤ x → x < k → V 16 (23 * (kc : Int) + x) = st x) → (∀ a : Nat, a ≠ 16 → V a = U a) → (∀ q : Nat, (q < 102 ∨ 128 < q) → hh q = h q) →
        WW d m_6_keep z (RQ ((kc + 1 : Nat) : Int) h len Bt T st u un (kc + 1) (fun j => if j = kc then st else ke j)) z hh 13 [(0, .ref 102), (1, vi (k : Int))] [] := by
      intro f
      induction f with
      | zero =>
        intro k hh V hkk hm hj hx vo hf
        obtain rfl : k = 23 := by omega
        have v17 : V 17 0 = (kc : Int) := (congrFun (vo 17 (by omega)) 0).trans f4
        refine x_iload_n D_6_keep_13 rfl ?_
        refine x_bipush D_6_keep_14 (by decide +kernel) ?_
        refine x_icmp_ge D_6_keep_16 ⟨by omega, by omega⟩ ⟨by omega, by omega⟩ (fun c16 => ?_) (fun c16 => ?_)
        · refine x_aload_n D_6_keep_45 rfl ?_
          refine x_dup D_6_keep_46 rfl ?_
          refine x_getfield D_6_keep_47 f_6_174 (md_o hm) rfl ?_
          first | rw [v17] | skip
          refine x_iconst D_6_keep_50 ?_
          refine x_iadd D_6_keep_51 ?_
          refine x_putI D_6_keep_52 f_6_174 (md_o hm) (by decide +kernel) rfl (fun h52 e52 n52 => ?_)
          replace hm := md_p17 hm e52 n52
          replace hf := fun q hq => (n52 q (by omega)).trans (hf q hq)
          refine x_aload_n D_6_keep_55 rfl ?_
          refine x_getfield D_6_keep_56 f_6_174 (md_o hm) rfl ?_
          try simp only [upr, Nat.reduceEqDiff, ↓reduceIte]
          first | rw [v17] | skip
          refine x_ireturn D_6_keep_59 rfl (by first | rfl | exact nb_bi _ | decide +kernel) rfl ?_
          refine ⟨rfl, ⟨_, hm, ?_, ?_, ⟨?_, by rw [upr_eq]; omega, ?_⟩, fun j hj2 => ?_, fun j hj2 x x0 x1 => ?_, fun j j0 j1 => ?_⟩, hf⟩
          · rw [upr13 (by omega) (tbU_same (U := U) (fun a ha => vo a (by omega)))]; exact f1
          · rw [upr_ne _ _ (by omega), vo 13 (by omega)]; exact f2
          · rw [upr_ne _ _ (by omega), vo 15 (by omega)]; exact f3
          · rw [upr_ne _ _ (by omega), vo 19 (by omega)]; exact f5
          · rw [upr_ne _ _ (by omega), vo 14 (by omega)]; exact f6 j hj2
          · rw [upr_ne _ _ (by omega)]
            by_cases e : j = kc
            · simp only [if_pos e]
              rw [e]; exact hx x x0 x1
            · simp only [if_neg e]
              exact hj j (by omega) x x0 x1
          · rw [upr_ne _ _ (by omega), vo 18 (by omega)]; exact f8 j j0 j1
        exact absurd c16 (by omega)
      | succ f ih =>
        intro k hh V hkk hm hj hx vo hf
        have v17 : V 17 0 = (kc : Int) := (congrFun (vo 17 (by omega)) 0).trans f4
        have v13 : V 13 = st := (vo 13 (by omega)).trans f2
        refine x_iload_n D_6_keep_13 rfl ?_
        refine x_bipush D_6_keep_14 (by decide +kernel) ?_
        refine x_icmp_ge D_6_keep_16 ⟨by omega, by omega⟩ ⟨by omega, by omega⟩ (fun c16 => ?_) (fun c16 => ?_)
        · exact absurd c16 (by omega)
        refine x_aload_n D_6_keep_19 rfl ?_
        refine x_getfield D_6_keep_20 f_6_40 (md_o hm) rfl ?_
        refine x_bipush D_6_keep_23 (by decide +kernel) ?_
        refine x_aload_n D_6_keep_25 rfl ?_
        refine x_getfield D_6_keep_26 f_6_174 (md_o hm) rfl ?_
        rw [v17]
        refine x_imul D_6_keep_29 ?_
        refine x_iload_n D_6_keep_30 rfl ?_
        refine x_iadd D_6_keep_31 ?_
        refine x_aload_n D_6_keep_32 rfl ?_
        refine x_getfield D_6_keep_33 f_6_34 (md_o hm) rfl ?_
        refine x_iload_n D_6_keep_36 rfl ?_
        refine x_iaload D_6_keep_37 (md_a13 hm) (by omega) (by omega) rfl ?_
        rw [v13]
        refine x_iastore D_6_keep_38 (md_a16 hm) (by omega) (by omega) rfl (fun h38 e38 n38 => ?_)
        replace hm := md_s16 hm e38 n38
        replace hf := fun q hq => (n38 q (by omega)).trans (hf q hq)
        refine x_iinc D_6_keep_39 rfl rfl rfl rfl ?_
        refine x_goto D_6_keep_42 ?_
        refine (ih (k + 1) _ _ (by omega) hm (fun j hj2 x x0 x1 => ?_) (fun x x0 x1 => ?_) (fun a a1 => (upr_ne _ _ a1).trans (vo a a1)) hf).sub rfl
        · rw [upr_eq, ups_ne _ _ (by omega)]
          exact hj j hj2 x x0 x1
        · rw [upr_eq]
          by_cases e : x = (k : Int)
          · rw [e, ups_eq]
          · rw [ups_ne _ _ (by omega)]; exact hx x x0 (by omega)
    have hf : ∀ q : Nat, (q < 102 ∨ 128 < q) → h q = h q := fun _ _ => rfl
    refine x_aload_n D_6_keep_0 rfl ?_
    refine x_getfield D_6_keep_1 f_6_174 (md_o hm) rfl ?_
    rw [f4]
    refine x_iconst D_6_keep_4 ?_
    refine x_icmp_ne D_6_keep_5 ⟨by omega, by omega⟩ ⟨by omega, by omega⟩ (fun c5 => ?_) (fun c5 => ?_)
    · refine x_iconst D_6_keep_11 ?_
      refine x_istore_n D_6_keep_12 rfl rfl rfl ?_
      exact (loop 23 0 _ _ (by omega) hm f7 (fun x x0 x1 => absurd x1 (by omega)) (fun a a1 => rfl) hf).sub rfl
    exact absurd c5 (by omega)
  · rw [if_neg hc, if_neg hc, if_neg hc]
    refine x_aload_n D_6_keep_0 rfl ?_
    refine x_getfield D_6_keep_1 f_6_174 (md_o hm) rfl ?_
    rw [f4]
    refine x_iconst D_6_keep_4 ?_
    refine x_icmp_ne D_6_keep_5 ⟨by omega, by omega⟩ ⟨by omega, by omega⟩ (fun c5 => ?_) (fun c5 => ?_)
    · exact absurd c5 (by omega)
    refine x_bipush D_6_keep_8 (by decide +kernel) ?_
    refine x_ireturn D_6_keep_10 rfl (by first | rfl | exact nb_bi _ | decide +kernel) rfl ?_
    exact RQ.same hI0 rfl
end R6
