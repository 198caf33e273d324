theorem nb_bi (c : Prop) [Decidable c] : narrow .boolean (vi (bi c)) = vi (bi c) := by
  unfold bi
  split <;> decide +kernel
theorem nb_0 : narrow .boolean (vi 0) = vi 0 := by decide +kernel
theorem nb_1 : narrow .boolean (vi 1) = vi 1 := by decide +kernel
/-- a pure answer: the heap stays -/
abbrev Pu (v : Int) (h : Hp) : Option Value → Hp → Prop := fun r h' => r = some (vi v) ∧ h = h'
theorem Pu.t {c : Prop} [Decidable c] {h : Hp} (hc : c) : Pu (bi c) h (some (vi 1)) h := ⟨by rw [bi_t hc], rfl⟩
theorem Pu.f {c : Prop} [Decidable c] {h : Hp} (hc : ¬ c) : Pu (bi c) h (some (vi 0)) h := ⟨by rw [bi_f hc], rfl⟩
theorem Pu.e {v w : Int} {h : Hp} (e : v = w) : Pu w h (some (vi v)) h := ⟨by rw [e], rfl⟩
theorem c_5_isIn {d : Nat} (hd : 0 ≤ d) {z : Nat × Nat} {h : Hp} {a k : Int} : Ct d m_5_isIn [vi a, vi k] z z h (Pu (bi (hasB a k)) h) := by
  refine Ct.of (by decide) ⟨Nat.le_refl _, Nat.le_refl _⟩ (Nat.le_of_ble_eq_true rfl) ?_
  have hb := iAnd_B3 (iShr a k) 1
  refine x_iload_n D_5_isIn_0 rfl ?_
  refine x_iload_n D_5_isIn_1 rfl ?_
  refine x_ishr D_5_isIn_2 ?_
  refine x_iconst D_5_isIn_3 ?_
  refine x_iand D_5_isIn_4 ?_
  refine x_iconst D_5_isIn_5 ?_
  refine x_icmp_ne D_5_isIn_6 hb ⟨by omega, by omega⟩ (fun c6 => ?_) (fun c6 => ?_)
  · refine x_iconst D_5_isIn_13 ?_
    refine x_ireturn D_5_isIn_14 rfl (by first | rfl | exact nb_bi _ | decide +kernel) rfl ?_
    first | exact Pu.t (by assumption) | exact Pu.f (by assumption)
  refine x_iconst D_5_isIn_9 ?_
  refine x_goto D_5_isIn_10 ?_
  refine x_ireturn D_5_isIn_14 rfl (by first | rfl | exact nb_bi _ | decide +kernel) rfl ?_
  first | exact Pu.t (by assumption) | exact Pu.f (by assumption)
theorem c_6_has {d : Nat} (hd : 0 ≤ d) {z : Nat × Nat} {h : Hp} {a k : Int} : Ct d m_6_has [vi a, vi k] z z h (Pu (bi (hasB a k)) h) := by
  refine Ct.of (by decide) ⟨Nat.le_refl _, Nat.le_refl _⟩ (Nat.le_of_ble_eq_true rfl) ?_
  have hb := iAnd_B3 (iShr a k) 1
  refine x_iload_n D_6_has_0 rfl ?_
  refine x_iload_n D_6_has_1 rfl ?_
  refine x_ishr D_6_has_2 ?_
  refine x_iconst D_6_has_3 ?_
  refine x_iand D_6_has_4 ?_
  refine x_iconst D_6_has_5 ?_
  refine x_icmp_ne D_6_has_6 hb ⟨by omega, by omega⟩ (fun c6 => ?_) (fun c6 => ?_)
  · refine x_iconst D_6_has_13 ?_
    refine x_ireturn D_6_has_14 rfl (by first | rfl | exact nb_bi _ | decide +kernel) rfl ?_
    first | exact Pu.t (by assumption) | exact Pu.f (by assumption)
  refine x_iconst D_6_has_9 ?_
  refine x_goto D_6_has_10 ?_
  refine x_ireturn D_6_has_14 rfl (by first | rfl | exact nb_bi _ | decide +kernel) rfl ?_
  first | exact Pu.t (by assumption) | exact Pu.f (by assumption)
theorem c_6_in {d : Nat} (hd : 0 ≤ d) {z : Nat × Nat} {h : Hp} {v a b : Int} (hv : B3 v) (ha : B3 a) (hb : B3 b) : Ct d m_6_in [vi v, vi a, vi b] z z h (Pu (bi (a ≤ v ∧ v ≤ b)) h) := by
  refine Ct.of (by decide) ⟨Nat.le_refl _, Nat.le_refl _⟩ (Nat.le_of_ble_eq_true rfl) ?_
  refine x_iload_n D_6_in_0 rfl ?_
  refine x_iload_n D_6_in_1 rfl ?_
  refine x_icmp_lt D_6_in_2 hv ha (fun c2 => ?_) (fun c2 => ?_)
  · refine x_iconst D_6_in_14 ?_
    refine x_ireturn D_6_in_15 rfl (by first | rfl | exact nb_bi _ | decide +kernel) rfl ?_
    first | exact Pu.t (by omega) | exact Pu.f (by omega)
  refine x_iload_n D_6_in_5 rfl ?_
  refine x_iload_n D_6_in_6 rfl ?_
  refine x_icmp_gt D_6_in_7 hv hb (fun c7 => ?_) (fun c7 => ?_)
  · refine x_iconst D_6_in_14 ?_
    refine x_ireturn D_6_in_15 rfl (by first | rfl | exact nb_bi _ | decide +kernel) rfl ?_
    first | exact Pu.t (by omega) | exact Pu.f (by omega)
  refine x_iconst D_6_in_10 ?_
  refine x_goto D_6_in_11 ?_
  refine x_ireturn D_6_in_15 rfl (by first | rfl | exact nb_bi _ | decide +kernel) rfl ?_
  first | exact Pu.t (by omega) | exact Pu.f (by omega)
theorem c_4_sumOf {d : Nat} (hd : 1 ≤ d) {z : Nat × Nat} {h : Hp} {r n c : Nat} {Fn : Int → Int} {s : Int} (hr : h r = some (ia 0 n Fn)) (hn : n ≤ 8) (hc : c ≤ n) : Ct d m_4_sumOf [.ref r, vi c, vi s] z z h (Pu (sumSet Fn s c) h) := by
  refine Ct.of (by decide) ⟨Nat.le_refl _, Nat.le_refl _⟩ (Nat.le_of_ble_eq_true rfl) ?_
  have hn' : Nat.ble n 100000 = true := Nat.ble_eq_true_of_le (by omega)
  have loop : ∀ (f k : Nat) (t : Int), t = sumSet Fn s k → k ≤ c → c = k + f → WW d m_4_sumOf z (Pu (sumSet Fn s c) h) z h 5 [(0, .ref r), (1, vi c), (2, vi s), (3, vi t), (4, vi k)] [] := by
    intro f
    induction f with
    | zero =>
      intro k t ht h8 hf
      refine x_iload D_4_sumOf_5 rfl ?_
      refine x_iload_n D_4_sumOf_7 rfl ?_
      refine x_icmp_ge D_4_sumOf_8 ⟨by omega, by omega⟩ ⟨by omega, by omega⟩ (fun c8 => ?_) (fun c8 => ?_)
      · refine x_iload_n D_4_sumOf_40 rfl ?_
        refine x_ireturn D_4_sumOf_41 rfl (by first | rfl | exact nb_bi _ | decide +kernel) rfl ?_
        exact Pu.e (by rw [ht, hf]; rfl)
      exact absurd c8 (by omega)
    | succ f ih =>
      intro k t ht h8 hf
      refine x_iload D_4_sumOf_5 rfl ?_
      refine x_iload_n D_4_sumOf_7 rfl ?_
      refine x_icmp_ge D_4_sumOf_8 ⟨by omega, by omega⟩ ⟨by omega, by omega⟩ (fun c8 => ?_) (fun c8 => ?_)
      · exact absurd c8 (by omega)
      refine x_iload D_4_sumOf_11 rfl ?_
      refine x_aload_n D_4_sumOf_13 rfl ?_
      refine x_alen D_4_sumOf_14 (by assumption) ?_
      refine x_icmp_ge D_4_sumOf_15 ⟨by omega, by omega⟩ ⟨by omega, by omega⟩ (fun c15 => ?_) (fun c15 => ?_)
      · exact absurd c15 (by omega)
      refine x_iload_n D_4_sumOf_18 rfl ?_
      refine x_iload D_4_sumOf_19 rfl ?_
      refine x_invSN (d' := d - 1) D_4_sumOf_21 l_4_84 mi_5_isIn (c_5_isIn (by omega))  rfl (by omega) rfl (fun q => q) rfl rfl (fun r21 h21 q21 => ?_)
      obtain ⟨rfl, rfl⟩ := q21
      refine x_if_eqb D_4_sumOf_24 (fun c24 => ?_) (fun c24 => ?_)
      · exact (show WW _ _ _ _ _ _ _ _ _ from (by
        refine x_iinc D_4_sumOf_34 rfl rfl rfl rfl ?_
        refine x_goto D_4_sumOf_37 ?_
        exact (ih (k + 1) _ (by rw [ht, sumSet, if_neg c24, Int.add_zero]) (by omega) (by omega)).sub rfl))
      refine x_iload_n D_4_sumOf_27 rfl ?_
      refine x_aload_n D_4_sumOf_28 rfl ?_
      refine x_iload D_4_sumOf_29 rfl ?_
      refine x_iaload D_4_sumOf_31 (by assumption) (by omega) (by omega) hn' ?_
      refine x_iadd D_4_sumOf_32 ?_
      refine x_istore_n D_4_sumOf_33 rfl rfl rfl ?_
      refine x_iinc D_4_sumOf_34 rfl rfl rfl rfl ?_
      refine x_goto D_4_sumOf_37 ?_
      exact (ih (k + 1) _ (by rw [ht, sumSet, if_pos c24]) (by omega) (by omega)).sub rfl
  refine x_iconst D_4_sumOf_0 ?_
  refine x_istore_n D_4_sumOf_1 rfl rfl rfl ?_
  refine x_iconst D_4_sumOf_2 ?_
  refine x_istore D_4_sumOf_3 rfl rfl rfl ?_
  exact (loop c 0 0 rfl (by omega) (by omega)).sub rfl
theorem c_4_worthOf {d : Nat} (hd : 2 ≤ d) {z : Nat × Nat} {h : Hp} {t : Nat} {T : TT} {s : Int} (hT : TabAt h t T) (hk : TabOk T) : Ct d m_4_worthOf [.ref t, vi s] z z h (Pu (sumSet (T 7) s (T 4 0).toNat) h) := by
  refine Ct.of (by decide) ⟨Nat.le_refl _, Nat.le_refl _⟩ (Nat.le_of_ble_eq_true rfl) ?_
  obtain ⟨a0, a1, a2, a3, a4, a5, a6, a7, a8⟩ := hT
  obtain ⟨-, -, k4, -⟩ := hk
  obtain ⟨c, hc⟩ : ∃ c : Nat, T 4 0 = (c : Int) := ⟨_, (Int.toNat_of_nonneg k4.1).symm⟩
  rw [hc] at a0 k4 ⊢
  refine x_aload_n D_4_worthOf_0 rfl ?_
  refine x_getfield D_4_worthOf_1 f_4_24 (by assumption) rfl ?_
  refine x_aload_n D_4_worthOf_4 rfl ?_
  refine x_getfield D_4_worthOf_5 f_4_43 (by assumption) rfl ?_
  refine x_iload_n D_4_worthOf_8 rfl ?_
  refine x_invS2 (d' := d - 1) D_4_worthOf_9 l_4_80 mi_4_sumOf (c_4_sumOf (by omega) a5 (by omega) (by omega))  rfl (by omega) rfl (fun q => q) rfl rfl (fun r9 h9 q9 => ?_)
  obtain ⟨rfl, rfl⟩ := q9
  refine x_ireturn D_4_worthOf_12 rfl (by first | rfl | exact nb_bi _ | decide +kernel) rfl ?_
  exact ⟨rfl, rfl⟩
theorem c_4_secondsOf {d : Nat} (hd : 2 ≤ d) {z : Nat × Nat} {h : Hp} {t : Nat} {T : TT} {s : Int} (hT : TabAt h t T) (hk : TabOk T) : Ct d m_4_secondsOf [.ref t, vi s] z z h (Pu (sumSet (T 6) s (T 4 0).toNat) h) := by
  refine Ct.of (by decide) ⟨Nat.le_refl _, Nat.le_refl _⟩ (Nat.le_of_ble_eq_true rfl) ?_
  obtain ⟨a0, a1, a2, a3, a4, a5, a6, a7, a8⟩ := hT
  obtain ⟨-, -, k4, -⟩ := hk
  obtain ⟨c, hc⟩ : ∃ c : Nat, T 4 0 = (c : Int) := ⟨_, (Int.toNat_of_nonneg k4.1).symm⟩
  rw [hc] at a0 k4 ⊢
  refine x_aload_n D_4_secondsOf_0 rfl ?_
  refine x_getfield D_4_secondsOf_1 f_4_21 (by assumption) rfl ?_
  refine x_aload_n D_4_secondsOf_4 rfl ?_
  refine x_getfield D_4_secondsOf_5 f_4_43 (by assumption) rfl ?_
  refine x_iload_n D_4_secondsOf_8 rfl ?_
  refine x_invS2 (d' := d - 1) D_4_secondsOf_9 l_4_80 mi_4_sumOf (c_4_sumOf (by omega) a4 (by omega) (by omega))  rfl (by omega) rfl (fun q => q) rfl rfl (fun r9 h9 q9 => ?_)
  obtain ⟨rfl, rfl⟩ := q9
  refine x_ireturn D_4_secondsOf_12 rfl (by first | rfl | exact nb_bi _ | decide +kernel) rfl ?_
  exact ⟨rfl, rfl⟩
theorem c_4_sizeOf {d : Nat} (hd : 2 ≤ d) {z : Nat × Nat} {h : Hp} {t : Nat} {T : TT} {s : Int} (hT : TabAt h t T) (hk : TabOk T) : Ct d m_4_sizeOf [.ref t, vi s] z z h (Pu (sumSet (T 3) s (T 2 0).toNat) h) := by
  refine Ct.of (by decide) ⟨Nat.le_refl _, Nat.le_refl _⟩ (Nat.le_of_ble_eq_true rfl) ?_
  obtain ⟨a0, a1, a2, a3, a4, a5, a6, a7, a8⟩ := hT
  obtain ⟨-, k4, -⟩ := hk
  obtain ⟨c, hc⟩ : ∃ c : Nat, T 2 0 = (c : Int) := ⟨_, (Int.toNat_of_nonneg k4.1).symm⟩
  rw [hc] at a0 k4 ⊢
  refine x_aload_n D_4_sizeOf_0 rfl ?_
  refine x_getfield D_4_sizeOf_1 f_4_15 (by assumption) rfl ?_
  refine x_aload_n D_4_sizeOf_4 rfl ?_
  refine x_getfield D_4_sizeOf_5 f_4_40 (by assumption) rfl ?_
  refine x_iload_n D_4_sizeOf_8 rfl ?_
  refine x_invS2 (d' := d - 1) D_4_sizeOf_9 l_4_80 mi_4_sumOf (c_4_sumOf (by omega) a2 (by omega) (by omega))  rfl (by omega) rfl (fun q => q) rfl rfl (fun r9 h9 q9 => ?_)
  obtain ⟨rfl, rfl⟩ := q9
  refine x_ireturn D_4_sizeOf_12 rfl (by first | rfl | exact nb_bi _ | decide +kernel) rfl ?_
  exact ⟨rfl, rfl⟩
