theorem c_2_freeAll {d : Nat} (hd : 0 ≤ d) {z : Nat × Nat} {h : Hp} {o : Nat} {ct so gv : Int} {Fr : Int → Int} (hO : h o = some (ob 2 [vi ct, vi so, .ref (o + 1), vi gv, .ref (o + 2), .ref (o + 3), .ref (o + 4), .ref (o + 5)])) (hF : h (o + 4) = some (ia 0 5 Fr)) : Ct d m_2_freeAll [.ref o] z z h (fun r h' => r = none ∧ h' (o + 4) = some (ia 0 5 (fun _ => 0)) ∧ ∀ q : Nat, q ≠ o + 4 → h' q = h q) := by
  refine Ct.of (by decide) ⟨Nat.le_refl _, Nat.le_refl _⟩ (Nat.le_of_ble_eq_true rfl) ?_
  have loop : ∀ (f : Nat) (k : Int) (hh : Hp) (F9 : Int → Int), 0 ≤ k → k ≤ 5 → 5 - k ≤ f → (∀ j : Int, 0 ≤ j → j < k → F9 j = 0) → hh o = some (ob 2 [vi ct, vi so, .ref (o + 1), vi gv, .ref (o + 2), .ref (o + 3), .ref (o + 4), .ref (o + 5)]) → hh (o + 4) = some (ia 0 5 F9) → (∀ q : Nat, q ≠ o + 4 → hh q = h q) →
      WW d m_2_freeAll z (fun r h' => r = none ∧ h' (o + 4) = some (ia 0 5 (fun _ => 0)) ∧ ∀ q : Nat, q ≠ o + 4 → h' q = h q) z hh 2 [(0, .ref o), (1, vi k)] [] := by
    intro f
    induction f with
    | zero =>
      intro k hh F9 h0 h7 hf hF9 a0 a4 hfr
      refine x_iload_n D_2_freeAll_2 rfl ?_
      refine x_iconst D_2_freeAll_3 ?_
      refine x_icmp_ge D_2_freeAll_4 ⟨by omega, by omega⟩ ⟨by omega, by omega⟩ (fun c4 => ?_) (fun c4 => ?_)
      · refine x_return D_2_freeAll_20 rfl rfl ?_
        exact ⟨rfl, a4.trans (congrArg some (ia_ext fun j h0 h1 => hF9 j h0 (by omega))), hfr⟩
      exact absurd c4 (by omega)
    | succ f ih =>
      intro k hh F9 h0 h7 hf hF9 a0 a4 hfr
      refine x_iload_n D_2_freeAll_2 rfl ?_
      refine x_iconst D_2_freeAll_3 ?_
      refine x_icmp_ge D_2_freeAll_4 ⟨by omega, by omega⟩ ⟨by omega, by omega⟩ (fun c4 => ?_) (fun c4 => ?_)
      · refine x_return D_2_freeAll_20 rfl rfl ?_
        exact ⟨rfl, a4.trans (congrArg some (ia_ext fun j h0 h1 => hF9 j h0 (by omega))), hfr⟩
      refine x_aload_n D_2_freeAll_7 rfl ?_
      refine x_getfield D_2_freeAll_8 f_2_21 (by assumption) rfl ?_
      refine x_iload_n D_2_freeAll_11 rfl ?_
      refine x_iconst D_2_freeAll_12 ?_
      refine x_iastore D_2_freeAll_13 (by assumption) (by omega) (by omega) rfl (fun h13 e13 n13 => ?_)
      first | (replace a0 := (n13 _ (by omega)).trans a0) | (replace a0 := e13)
      first | (replace a4 := (n13 _ (by omega)).trans a4) | (replace a4 := e13)
      replace hfr := fun q hq => (n13 q (by omega)).trans (hfr q hq)
      refine x_iinc D_2_freeAll_14 rfl rfl rfl rfl ?_
      refine x_goto D_2_freeAll_17 ?_
      refine (ih (k + 1) _ _ (by omega) (by omega) (by omega) (fun j q1 q2 => ?_) a0 a4 hfr).sub rfl
      by_cases e1 : j = k
      · simp [ups, e1]
      · simp only [ups, if_neg e1]; exact hF9 j q1 (by omega)
  refine x_iconst D_2_freeAll_0 ?_
  refine x_istore_n D_2_freeAll_1 rfl rfl rfl ?_
  exact (loop 5 0 _ _ (by omega) (by omega) (by omega) (fun j q1 q2 => absurd q1 (by omega)) hO hF (fun q hq => rfl)).sub rfl
theorem c_2_keepTrial {d : Nat} (hd : 0 ≤ d) {z : Nat × Nat} {h : Hp} {o : Nat} {ct so gv en : Int} {Fi Tr : Int → Int} (hO : h o = some (ob 2 [vi ct, vi so, .ref (o + 1), vi gv, .ref (o + 2), .ref (o + 3), .ref (o + 4), .ref (o + 5)])) (hF : h (o + 1) = some (ia 0 7 Fi)) (hT : h (o + 3) = some (ia 0 7 Tr)) : Ct d m_2_keepTrial [.ref o, vi en] z z h (fun r h' => r = none ∧ h' o = some (ob 2 [vi ct, vi en, .ref (o + 1), vi gv, .ref (o + 2), .ref (o + 3), .ref (o + 4), .ref (o + 5)]) ∧ h' (o + 1) = some (ia 0 7 Tr) ∧ ∀ q : Nat, (q ≠ o ∧ q ≠ o + 1) → h' q = h q) := by
  refine Ct.of (by decide) ⟨Nat.le_refl _, Nat.le_refl _⟩ (Nat.le_of_ble_eq_true rfl) ?_
  have loop : ∀ (f : Nat) (k : Int) (hh : Hp) (F9 : Int → Int), 0 ≤ k → k ≤ 7 → 7 - k ≤ f → (∀ j : Int, 0 ≤ j → j < k → F9 j = Tr j) → hh o = some (ob 2 [vi ct, vi en, .ref (o + 1), vi gv, .ref (o + 2), .ref (o + 3), .ref (o + 4), .ref (o + 5)]) → hh (o + 1) = some (ia 0 7 F9) → hh (o + 3) = some (ia 0 7 Tr) → (∀ q : Nat, (q ≠ o ∧ q ≠ o + 1) → hh q = h q) →
      WW d m_2_keepTrial z (fun r h' => r = none ∧ h' o = some (ob 2 [vi ct, vi en, .ref (o + 1), vi gv, .ref (o + 2), .ref (o + 3), .ref (o + 4), .ref (o + 5)]) ∧ h' (o + 1) = some (ia 0 7 Tr) ∧ ∀ q : Nat, (q ≠ o ∧ q ≠ o + 1) → h' q = h q) z hh 7 [(0, .ref o), (2, vi k)] [] := by
    intro f
    induction f with
    | zero =>
      intro k hh F9 h0 h7 hf hF9 a0 a1 a3 hfr
      refine x_iload_n D_2_keepTrial_7 rfl ?_
      refine x_bipush D_2_keepTrial_8 (by decide +kernel) ?_
      refine x_icmp_ge D_2_keepTrial_10 ⟨by omega, by omega⟩ ⟨by omega, by omega⟩ (fun c10 => ?_) (fun c10 => ?_)
      · refine x_return D_2_keepTrial_31 rfl rfl ?_
        exact ⟨rfl, a0, a1.trans (congrArg some (ia_ext fun j h0 h1 => hF9 j h0 (by omega))), hfr⟩
      exact absurd c10 (by omega)
    | succ f ih =>
      intro k hh F9 h0 h7 hf hF9 a0 a1 a3 hfr
      refine x_iload_n D_2_keepTrial_7 rfl ?_
      refine x_bipush D_2_keepTrial_8 (by decide +kernel) ?_
      refine x_icmp_ge D_2_keepTrial_10 ⟨by omega, by omega⟩ ⟨by omega, by omega⟩ (fun c10 => ?_) (fun c10 => ?_)
      · refine x_return D_2_keepTrial_31 rfl rfl ?_
        exact ⟨rfl, a0, a1.trans (congrArg some (ia_ext fun j h0 h1 => hF9 j h0 (by omega))), hfr⟩
      refine x_aload_n D_2_keepTrial_13 rfl ?_
      refine x_getfield D_2_keepTrial_14 f_2_9 (by assumption) rfl ?_
      refine x_iload_n D_2_keepTrial_17 rfl ?_
      refine x_aload_n D_2_keepTrial_18 rfl ?_
      refine x_getfield D_2_keepTrial_19 f_2_18 (by assumption) rfl ?_
      refine x_iload_n D_2_keepTrial_22 rfl ?_
      refine x_iaload D_2_keepTrial_23 (by assumption) (by omega) (by omega) rfl ?_
      refine x_iastore D_2_keepTrial_24 (by assumption) (by omega) (by omega) rfl (fun h24 e24 n24 => ?_)
      first | (replace a0 := (n24 _ (by omega)).trans a0) | (replace a0 := e24)
      first | (replace a1 := (n24 _ (by omega)).trans a1) | (replace a1 := e24)
      first | (replace a3 := (n24 _ (by omega)).trans a3) | (replace a3 := e24)
      replace hfr := fun q hq => (n24 q (by omega)).trans (hfr q hq)
      refine x_iinc D_2_keepTrial_25 rfl rfl rfl rfl ?_
      refine x_goto D_2_keepTrial_28 ?_
      refine (ih (k + 1) _ _ (by omega) (by omega) (by omega) (fun j q1 q2 => ?_) a0 a1 a3 hfr).sub rfl
      by_cases e1 : j = k
      · simp [ups, e1]
      · simp only [ups, if_neg e1]; exact hF9 j q1 (by omega)
  have hfr : ∀ q : Nat, (q ≠ o ∧ q ≠ o + 1) → h q = h q := fun _ _ => rfl
  refine x_aload_n D_2_keepTrial_0 rfl ?_
  refine x_iload_n D_2_keepTrial_1 rfl ?_
  refine x_putI D_2_keepTrial_2 f_2_46 (by assumption) (by decide +kernel) rfl (fun h2 e2 n2 => ?_)
  simp only [List.set_cons_zero, List.set_cons_succ] at e2
  first | (replace hO := (n2 _ (by omega)).trans hO) | (replace hO := e2)
  first | (replace hF := (n2 _ (by omega)).trans hF) | (replace hF := e2)
  first | (replace hT := (n2 _ (by omega)).trans hT) | (replace hT := e2)
  replace hfr := fun q hq => (n2 q (by omega)).trans (hfr q hq)
  refine x_iconst D_2_keepTrial_5 ?_
  refine x_istore_n D_2_keepTrial_6 rfl rfl rfl ?_
  exact (loop 7 0 _ _ (by omega) (by omega) (by omega) (fun j q1 q2 => absurd q1 (by omega)) hO hF hT hfr).sub rfl
theorem c_2_endBehind {d : Nat} (hd : 1 ≤ d) {z : Nat × Nat} {h : Hp} {o t : Nat} {T : TT} {ct so gv s en : Int} {Fr Me : Int → Int} (hO : h o = some (ob 2 [vi ct, vi so, .ref (o + 1), vi gv, .ref (o + 2), .ref (o + 3), .ref (o + 4), .ref (o + 5)])) (hM : h (o + 2) = some (ia 0 7 Me)) (hF : h (o + 4) = some (ia 0 5 Fr)) (hT : TabAt h t T) (hk : TabOk T) (ht : t + 8 < o ∨ o + 5 < t) (hs : 0 ≤ s ∧ s < T 4 0) (hen : 0 ≤ en ∧ en ≤ 10000) (hfr0 : 0 ≤ Fr (T 5 s) ∧ Fr (T 5 s) ≤ 10000) (hme : 0 ≤ Me s ∧ Me s ≤ 81) :
    Ct d m_2_endBehind [.ref o, .ref t, vi s, vi en] z z h (fun r h' => r = some (vi (mx en (Fr (T 5 s)) + T 6 s)) ∧ h' (o + 4) = some (ia 0 5 (ups Fr (T 5 s) (mx en (Fr (T 5 s)) + 2 * Me s))) ∧ ∀ q : Nat, q ≠ o + 4 → h' q = h q) := by
  refine Ct.of (by decide) ⟨Nat.le_refl _, Nat.le_refl _⟩ (Nat.le_of_ble_eq_true rfl) ?_
  obtain ⟨b0, b1, b2, b3, b4, b5, b6, b7, b8⟩ := hT
  have k4 := hk.2.2.1
  have k0 := hk.1
  have k5 := hk.2.2.2.2.2.2.2.1 s hs.1 hs.2
  have hfr : ∀ q : Nat, q ≠ o + 4 → h q = h q := fun _ _ => rfl
  refine x_aload_n D_2_endBehind_0 rfl ?_
  refine x_getfield D_2_endBehind_1 f_2_65 (by assumption) rfl ?_
  refine x_iload_n D_2_endBehind_4 rfl ?_
  refine x_iaload D_2_endBehind_5 (by assumption) (by omega) (by omega) rfl ?_
  refine x_istore D_2_endBehind_6 rfl rfl rfl ?_
  refine x_iload_n D_2_endBehind_8 rfl ?_
  refine x_aload_n D_2_endBehind_9 rfl ?_
  refine x_getfield D_2_endBehind_10 f_2_21 (by assumption) rfl ?_
  refine x_iload D_2_endBehind_13 rfl ?_
  refine x_iaload D_2_endBehind_15 (by assumption) (by omega) (by omega) rfl ?_
  refine x_max D_2_endBehind_16 l_2_87 ⟨by omega, by omega⟩ ⟨by omega, by omega⟩ (by omega) rfl ?_
  refine x_istore D_2_endBehind_19 rfl rfl rfl ?_
  refine x_aload_n D_2_endBehind_21 rfl ?_
  refine x_getfield D_2_endBehind_22 f_2_21 (by assumption) rfl ?_
  refine x_iload D_2_endBehind_25 rfl ?_
  refine x_iload D_2_endBehind_27 rfl ?_
  refine x_iconst D_2_endBehind_29 ?_
  refine x_aload_n D_2_endBehind_30 rfl ?_
  refine x_getfield D_2_endBehind_31 f_2_15 (by assumption) rfl ?_
  refine x_iload_n D_2_endBehind_34 rfl ?_
  refine x_iaload D_2_endBehind_35 (by assumption) (by omega) (by omega) rfl ?_
  refine x_imul D_2_endBehind_36 ?_
  refine x_iadd D_2_endBehind_37 ?_
  refine x_iastore D_2_endBehind_38 (by assumption) (by omega) (by omega) rfl (fun h38 e38 n38 => ?_)
  first | (replace hO := (n38 _ (by omega)).trans hO) | (replace hO := e38)
  first | (replace hM := (n38 _ (by omega)).trans hM) | (replace hM := e38)
  first | (replace hF := (n38 _ (by omega)).trans hF) | (replace hF := e38)
  first | (replace b0 := (n38 _ (by omega)).trans b0) | (replace b0 := e38)
  first | (replace b3 := (n38 _ (by omega)).trans b3) | (replace b3 := e38)
  first | (replace b4 := (n38 _ (by omega)).trans b4) | (replace b4 := e38)
  replace hfr := fun q hq => (n38 q (by omega)).trans (hfr q hq)
  refine x_iload D_2_endBehind_39 rfl ?_
  refine x_aload_n D_2_endBehind_41 rfl ?_
  refine x_getfield D_2_endBehind_42 f_2_93 (by assumption) rfl ?_
  refine x_iload_n D_2_endBehind_45 rfl ?_
  refine x_iaload D_2_endBehind_46 (by assumption) (by omega) (by omega) rfl ?_
  refine x_iadd D_2_endBehind_47 ?_
  refine x_ireturn D_2_endBehind_48 rfl (by first | rfl | exact nb_bi _ | decide +kernel) rfl ?_
  exact ⟨rfl, hF, hfr⟩
theorem c_2_mayBeNext {d : Nat} (hd : 1 ≤ d) {z : Nat × Nat} {h : Hp} {o t : Nat} {T : TT} {G : Int → Int} {pre : List Int} {ct so gv dn : Int} {s : Nat} (hO : h o = some (ob 2 [vi ct, vi so, .ref (o + 1), vi gv, .ref (o + 2), .ref (o + 3), .ref (o + 4), .ref (o + 5)])) (hT : TabAt h t T) (hk : TabOk T) (hs : s < nSa T) (hgv : ∀ j : Nat, j < nSa T → (tb gv j = true ↔ G (j : Int) ≠ -4)) (hdn : ∀ j : Nat, j < nSa T → (tb dn j = true ↔ (j : Int) ∈ pre)) :
    Ct d m_2_mayBeNext [.ref o, .ref t, vi dn, vi s] z z h (Pu (bi (candP G pre (s : Int) ∧ ansP T G pre (s : Int))) h) := by
  refine Ct.of (by decide) ⟨Nat.le_refl _, Nat.le_refl _⟩ (Nat.le_of_ble_eq_true rfl) ?_
  obtain ⟨b0, b1, b2, b3, b4, b5, b6, b7, b8⟩ := hT
  have k4 := hk.2.2.1
  have hs4 : (s : Int) < T 4 0 := by unfold nSa at hs; omega
  have k8 := (hk.2.2.2.2.2.2.2.1 (s : Int) (by omega) hs4).2.2.2
  have key : ∀ j : Nat, j < nSa T → (hasB (iAnd gv (iXor dn (-1))) (j : Int) ↔ candP G pre (j : Int)) := by
    intro j hj
    have hj7 : j < 7 := by unfold nSa at hj; omega
    rw [has_tb _ (by omega), tb_and, tb_not _ (by omega)]
    have h1 := hgv j hj
    have h2 := hdn j hj
    rw [Bool.and_eq_true, Bool.not_eq_true']
    constructor
    · rintro ⟨w1, w2⟩
      exact ⟨h1.mp w1, fun q => by rw [h2.mpr q] at w2; cases w2⟩
    · rintro ⟨w1, w2⟩
      refine ⟨h1.mpr w1, ?_⟩
      cases x : tb dn j with
      | false => rfl
      | true => exact absurd (h2.mp x) w2
  have keyA : T 8 (s : Int) ≠ -4 → (hasB (iAnd gv (iXor dn (-1))) (T 8 (s : Int)) ↔ ¬ ansP T G pre (s : Int)) := by
    intro hne
    obtain ⟨j, hj⟩ : ∃ j : Nat, T 8 (s : Int) = (j : Int) := ⟨(T 8 (s : Int)).toNat, by omega⟩
    unfold ansP
    rw [hj] at k8 hne ⊢
    have hj2 : j < nSa T := by
      rcases k8 with w | w
      · omega
      · unfold nSa; omega
    rw [key j hj2]
    unfold candP
    constructor
    · intro w q
      rcases q with q | q | q
      · exact hne q
      · exact w.1 q
      · exact w.2 q
    · intro w
      exact ⟨fun q => w (Or.inr (Or.inl q)), fun q => w (Or.inr (Or.inr q))⟩
  have keyS := key s hs
  refine x_aload_n D_2_mayBeNext_0 rfl ?_
  refine x_getfield D_2_mayBeNext_1 f_2_96 (by assumption) rfl ?_
  refine x_iload_n D_2_mayBeNext_4 rfl ?_
  refine x_iaload D_2_mayBeNext_5 (by assumption) (by omega) (by omega) rfl ?_
  refine x_istore D_2_mayBeNext_6 rfl rfl rfl ?_
  refine x_iload D_2_mayBeNext_8 rfl ?_
  refine x_bipush D_2_mayBeNext_10 (by decide +kernel) ?_
  refine x_icmp_eq D_2_mayBeNext_12 ⟨by omega, by omega⟩ ⟨by omega, by omega⟩ (fun c12 => ?_) (fun c12 => ?_)
  · refine x_iconst D_2_mayBeNext_35 ?_
    refine x_istore D_2_mayBeNext_36 rfl rfl rfl ?_
    refine x_aload_n D_2_mayBeNext_38 rfl ?_
    refine x_getfield D_2_mayBeNext_39 f_2_33 (by assumption) rfl ?_
    refine x_iload_n D_2_mayBeNext_42 rfl ?_
    refine x_iconst D_2_mayBeNext_43 ?_
    refine x_ixor D_2_mayBeNext_44 ?_
    refine x_iand D_2_mayBeNext_45 ?_
    refine x_iload_n D_2_mayBeNext_46 rfl ?_
    refine x_invSN (d' := d - 1) D_2_mayBeNext_47 l_2_99 mi_5_isIn (c_5_isIn (by omega))  rfl (by omega) rfl (fun q => q) rfl rfl (fun r47 h47 q47 => ?_)
    obtain ⟨rfl, rfl⟩ := q47
    refine x_if_eqb D_2_mayBeNext_50 (fun c50 => ?_) (fun c50 => ?_)
    · refine x_iconst D_2_mayBeNext_62 ?_
      refine x_ireturn D_2_mayBeNext_63 rfl (by first | rfl | exact nb_bi _ | decide +kernel) rfl ?_
      first
      | exact Pu.t ⟨keyS.mp (by assumption), Decidable.byContradiction (fun q => absurd ((keyA (by assumption)).mpr q) (by assumption))⟩
      | exact Pu.t ⟨keyS.mp (by assumption), Or.inl (by assumption)⟩
      | exact Pu.f (fun q => absurd (keyS.mpr q.1) (by assumption))
      | exact Pu.f (fun q => (keyA (by assumption)).mp (by assumption) q.2)
      | (exfalso; omega)
    refine x_iload D_2_mayBeNext_53 rfl ?_
    refine x_if_ne D_2_mayBeNext_55 ⟨by omega, by omega⟩ (fun c55 => ?_) (fun c55 => ?_)
    · refine x_iconst D_2_mayBeNext_62 ?_
      refine x_ireturn D_2_mayBeNext_63 rfl (by first | rfl | exact nb_bi _ | decide +kernel) rfl ?_
      first
      | exact Pu.t ⟨keyS.mp (by assumption), Decidable.byContradiction (fun q => absurd ((keyA (by assumption)).mpr q) (by assumption))⟩
      | exact Pu.t ⟨keyS.mp (by assumption), Or.inl (by assumption)⟩
      | exact Pu.f (fun q => absurd (keyS.mpr q.1) (by assumption))
      | exact Pu.f (fun q => (keyA (by assumption)).mp (by assumption) q.2)
      | (exfalso; omega)
    refine x_iconst D_2_mayBeNext_58 ?_
    refine x_goto D_2_mayBeNext_59 ?_
    refine x_ireturn D_2_mayBeNext_63 rfl (by first | rfl | exact nb_bi _ | decide +kernel) rfl ?_
    first
    | exact Pu.t ⟨keyS.mp (by assumption), Decidable.byContradiction (fun q => absurd ((keyA (by assumption)).mpr q) (by assumption))⟩
    | exact Pu.t ⟨keyS.mp (by assumption), Or.inl (by assumption)⟩
    | exact Pu.f (fun q => absurd (keyS.mpr q.1) (by assumption))
    | exact Pu.f (fun q => (keyA (by assumption)).mp (by assumption) q.2)
    | (exfalso; omega)
  refine x_aload_n D_2_mayBeNext_15 rfl ?_
  refine x_getfield D_2_mayBeNext_16 f_2_33 (by assumption) rfl ?_
  refine x_iload_n D_2_mayBeNext_19 rfl ?_
  refine x_iconst D_2_mayBeNext_20 ?_
  refine x_ixor D_2_mayBeNext_21 ?_
  refine x_iand D_2_mayBeNext_22 ?_
  refine x_iload D_2_mayBeNext_23 rfl ?_
  refine x_invSN (d' := d - 1) D_2_mayBeNext_25 l_2_99 mi_5_isIn (c_5_isIn (by omega))  rfl (by omega) rfl (fun q => q) rfl rfl (fun r25 h25 q25 => ?_)
  obtain ⟨rfl, rfl⟩ := q25
  refine x_if_eqb D_2_mayBeNext_28 (fun c28 => ?_) (fun c28 => ?_)
  · refine x_iconst D_2_mayBeNext_35 ?_
    refine x_istore D_2_mayBeNext_36 rfl rfl rfl ?_
    refine x_aload_n D_2_mayBeNext_38 rfl ?_
    refine x_getfield D_2_mayBeNext_39 f_2_33 (by assumption) rfl ?_
    refine x_iload_n D_2_mayBeNext_42 rfl ?_
    refine x_iconst D_2_mayBeNext_43 ?_
    refine x_ixor D_2_mayBeNext_44 ?_
    refine x_iand D_2_mayBeNext_45 ?_
    refine x_iload_n D_2_mayBeNext_46 rfl ?_
    refine x_invSN (d' := d - 1) D_2_mayBeNext_47 l_2_99 mi_5_isIn (c_5_isIn (by omega))  rfl (by omega) rfl (fun q => q) rfl rfl (fun r47 h47 q47 => ?_)
    obtain ⟨rfl, rfl⟩ := q47
    refine x_if_eqb D_2_mayBeNext_50 (fun c50 => ?_) (fun c50 => ?_)
    · refine x_iconst D_2_mayBeNext_62 ?_
      refine x_ireturn D_2_mayBeNext_63 rfl (by first | rfl | exact nb_bi _ | decide +kernel) rfl ?_
      first
      | exact Pu.t ⟨keyS.mp (by assumption), Decidable.byContradiction (fun q => absurd ((keyA (by assumption)).mpr q) (by assumption))⟩
      | exact Pu.t ⟨keyS.mp (by assumption), Or.inl (by assumption)⟩
      | exact Pu.f (fun q => absurd (keyS.mpr q.1) (by assumption))
      | exact Pu.f (fun q => (keyA (by assumption)).mp (by assumption) q.2)
      | (exfalso; omega)
    refine x_iload D_2_mayBeNext_53 rfl ?_
    refine x_if_ne D_2_mayBeNext_55 ⟨by omega, by omega⟩ (fun c55 => ?_) (fun c55 => ?_)
    · refine x_iconst D_2_mayBeNext_62 ?_
      refine x_ireturn D_2_mayBeNext_63 rfl (by first | rfl | exact nb_bi _ | decide +kernel) rfl ?_
      first
      | exact Pu.t ⟨keyS.mp (by assumption), Decidable.byContradiction (fun q => absurd ((keyA (by assumption)).mpr q) (by assumption))⟩
      | exact Pu.t ⟨keyS.mp (by assumption), Or.inl (by assumption)⟩
      | exact Pu.f (fun q => absurd (keyS.mpr q.1) (by assumption))
      | exact Pu.f (fun q => (keyA (by assumption)).mp (by assumption) q.2)
      | (exfalso; omega)
    refine x_iconst D_2_mayBeNext_58 ?_
    refine x_goto D_2_mayBeNext_59 ?_
    refine x_ireturn D_2_mayBeNext_63 rfl (by first | rfl | exact nb_bi _ | decide +kernel) rfl ?_
    first
    | exact Pu.t ⟨keyS.mp (by assumption), Decidable.byContradiction (fun q => absurd ((keyA (by assumption)).mpr q) (by assumption))⟩
    | exact Pu.t ⟨keyS.mp (by assumption), Or.inl (by assumption)⟩
    | exact Pu.f (fun q => absurd (keyS.mpr q.1) (by assumption))
    | exact Pu.f (fun q => (keyA (by assumption)).mp (by assumption) q.2)
    | (exfalso; omega)
  refine x_iconst D_2_mayBeNext_31 ?_
  refine x_goto D_2_mayBeNext_32 ?_
  refine x_istore D_2_mayBeNext_36 rfl rfl rfl ?_
  refine x_aload_n D_2_mayBeNext_38 rfl ?_
  refine x_getfield D_2_mayBeNext_39 f_2_33 (by assumption) rfl ?_
  refine x_iload_n D_2_mayBeNext_42 rfl ?_
  refine x_iconst D_2_mayBeNext_43 ?_
  refine x_ixor D_2_mayBeNext_44 ?_
  refine x_iand D_2_mayBeNext_45 ?_
  refine x_iload_n D_2_mayBeNext_46 rfl ?_
  refine x_invSN (d' := d - 1) D_2_mayBeNext_47 l_2_99 mi_5_isIn (c_5_isIn (by omega))  rfl (by omega) rfl (fun q => q) rfl rfl (fun r47 h47 q47 => ?_)
  obtain ⟨rfl, rfl⟩ := q47
  refine x_if_eqb D_2_mayBeNext_50 (fun c50 => ?_) (fun c50 => ?_)
  · refine x_iconst D_2_mayBeNext_62 ?_
    refine x_ireturn D_2_mayBeNext_63 rfl (by first | rfl | exact nb_bi _ | decide +kernel) rfl ?_
    first
    | exact Pu.t ⟨keyS.mp (by assumption), Decidable.byContradiction (fun q => absurd ((keyA (by assumption)).mpr q) (by assumption))⟩
    | exact Pu.t ⟨keyS.mp (by assumption), Or.inl (by assumption)⟩
    | exact Pu.f (fun q => absurd (keyS.mpr q.1) (by assumption))
    | exact Pu.f (fun q => (keyA (by assumption)).mp (by assumption) q.2)
    | (exfalso; omega)
  refine x_iload D_2_mayBeNext_53 rfl ?_
  refine x_if_ne D_2_mayBeNext_55 ⟨by omega, by omega⟩ (fun c55 => ?_) (fun c55 => ?_)
  · refine x_iconst D_2_mayBeNext_62 ?_
    refine x_ireturn D_2_mayBeNext_63 rfl (by first | rfl | exact nb_bi _ | decide +kernel) rfl ?_
    first
    | exact Pu.t ⟨keyS.mp (by assumption), Decidable.byContradiction (fun q => absurd ((keyA (by assumption)).mpr q) (by assumption))⟩
    | exact Pu.t ⟨keyS.mp (by assumption), Or.inl (by assumption)⟩
    | exact Pu.f (fun q => absurd (keyS.mpr q.1) (by assumption))
    | exact Pu.f (fun q => (keyA (by assumption)).mp (by assumption) q.2)
    | (exfalso; omega)
  refine x_iconst D_2_mayBeNext_58 ?_
  refine x_goto D_2_mayBeNext_59 ?_
  refine x_ireturn D_2_mayBeNext_63 rfl (by first | rfl | exact nb_bi _ | decide +kernel) rfl ?_
  first
  | exact Pu.t ⟨keyS.mp (by assumption), Decidable.byContradiction (fun q => absurd ((keyA (by assumption)).mpr q) (by assumption))⟩
  | exact Pu.t ⟨keyS.mp (by assumption), Or.inl (by assumption)⟩
  | exact Pu.f (fun q => absurd (keyS.mpr q.1) (by assumption))
  | exact Pu.f (fun q => (keyA (by assumption)).mp (by assumption) q.2)
  | (exfalso; omega)
