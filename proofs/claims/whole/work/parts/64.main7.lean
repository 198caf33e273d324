def spokeF (T : TT) (i n : Int) : Nat → Int × Int
  | 0 => (0, 0)
  | k + 1 => if sumSet (T 3) (k : Int) (T 2 0).toNat * T 1 i = n then ((spokeF T i n k).1 + 1, if (spokeF T i n k).1 = 0 then (k : Int) else iAnd (spokeF T i n k).2 (k : Int)) else spokeF T i n k
theorem spokeF_t {T : TT} {i n : Int} {k : Nat} (h : sumSet (T 3) (k : Int) (T 2 0).toNat * T 1 i = n) : spokeF T i n (k + 1) = ((spokeF T i n k).1 + 1, if (spokeF T i n k).1 = 0 then (k : Int) else iAnd (spokeF T i n k).2 (k : Int)) := by
  simp only [spokeF]
  rw [if_pos h]
theorem spokeF_f {T : TT} {i n : Int} {k : Nat} (h : ¬ sumSet (T 3) (k : Int) (T 2 0).toNat * T 1 i = n) : spokeF T i n (k + 1) = spokeF T i n k := by
  simp only [spokeF]
  rw [if_neg h]
theorem spokeF_rng (T : TT) (i n : Int) : ∀ k : Nat, 0 ≤ (spokeF T i n k).1 ∧ (spokeF T i n k).1 ≤ k := by
  intro k
  induction k with
  | zero => exact ⟨Int.le_refl _, Int.le_refl _⟩
  | succ k ih =>
    by_cases h : sumSet (T 3) (k : Int) (T 2 0).toNat * T 1 i = n
    · rw [spokeF_t h]
      exact ⟨by show 0 ≤ (spokeF T i n k).1 + 1; omega, by show (spokeF T i n k).1 + 1 ≤ _; omega⟩
    · rw [spokeF_f h]
      omega
theorem grains_rng {T : TT} (hk : TabOk T) (s : Int) {i : Int} (hi : 0 ≤ i ∧ i < T 0 0) : 0 ≤ sumSet (T 3) s (T 2 0).toNat * T 1 i ∧ sumSet (T 3) s (T 2 0).toNat * T 1 i ≤ 648 := by
  have h2 := hk.2.1
  obtain ⟨a, b⟩ := sumSet_le (F := T 3) (s := s) (M := 9) (by omega) (T 2 0).toNat (fun k hk2 => by have := hk.2.2.2.2.2.2.1 (k : Int) (by omega) (by omega); omega)
  have c := hk.2.2.2.2.2.1 i hi.1 hi.2
  have b2 : sumSet (T 3) s (T 2 0).toNat ≤ 72 := by omega
  have m1 := Int.mul_le_mul b2 c.2 (by omega) (by omega)
  have m2 := Int.mul_nonneg a (show 0 ≤ T 1 i by omega)
  omega
abbrev spokeC (T : TT) (i n w : Int) : Prop := (0 ≤ i ∧ i < T 0 0) ∧ (1 ≤ n ∧ n ≤ 500) ∧ 0 ≤ w ∧ w ≤ 1
def spokeA (T : TT) (i n w : Int) : Int := if spokeC T i n w then (if w = 0 then (spokeF T i n (2 ^ nGr T)).1 else (spokeF T i n (2 ^ nGr T)).2) else -1
def drawT (zz k : Int) : Int := (7919 * zz + 6151 * k + 1) * (7919 * zz + 6151 * k + 1) % 65521
theorem draw_rng {zz k : Int} (hz : 0 ≤ zz ∧ zz ≤ 9999) (hk : 0 ≤ k ∧ k ≤ 99) : (0 ≤ (7919 * zz + 6151 * k + 1) * (7919 * zz + 6151 * k + 1) ∧ (7919 * zz + 6151 * k + 1) * (7919 * zz + 6151 * k + 1) < 9223372036854775808) ∧ 0 ≤ drawT zz k ∧ drawT zz k < 65521 := by
  have h1 : 0 ≤ 7919 * zz + 6151 * k + 1 ∧ 7919 * zz + 6151 * k + 1 ≤ 100000000 := by omega
  have m1 := Int.mul_le_mul h1.2 h1.2 h1.1 (by omega)
  have m2 := Int.mul_nonneg h1.1 h1.1
  exact ⟨⟨m2, by omega⟩, Int.emod_nonneg _ (by omega), Int.emod_lt_of_pos _ (by omega)⟩
noncomputable def winOne (T : TT) (i sp g : Int) : Int := if i = -1 ∨ i = sp then (if i = -1 then sumSet (T 7) (bst T sp 0 (T 3 g * T 1 sp) (2 ^ (T 4 0).toNat)).1 (T 4 0).toNat else sumSet (T 6) (bst T sp 0 (T 3 g * T 1 sp) (2 ^ (T 4 0).toNat)).1 (T 4 0).toNat) else 0
noncomputable def winF (T : TT) (zz i : Int) : Nat → Int
  | 0 => 0
  | k + 1 => winF T zz i k + winOne T i (drawT zz k % T 0 0) (drawT zz k / 8 % T 2 0)
abbrev winC (T : TT) (zz n i : Int) : Prop := (0 ≤ zz ∧ zz ≤ 9999) ∧ (1 ≤ n ∧ n ≤ 100) ∧ (i = -1 ∨ 0 ≤ i ∧ i < T 0 0)
noncomputable def winA (T : TT) (zz n i : Int) : Int := if winC T zz n i then winF T zz i n.toNat else -1
section CM7
variable {d : Nat} {z : Nat × Nat} {h : Hp} {b len : Int} {Bt : Int → Int} {T : TT} {st : SS} {u : Nat} {un : Nat → SS} {kc : Nat} {ke : Nat → SS}
theorem shl_pow1 : ∀ n : Nat, n < 9 → iShl 1 (n : Int) = ((2 ^ n : Nat) : Int) := by decide +kernel
theorem c_5_spoke (hd : 4 ≤ d) (hI : CInv h b len Bt T st u un kc ke) (hbb : b + 1000 ≤ 1000000) {i n w : Int} (hi : B3 i) (hn : B3 n) (hw : B3 w) : Ct d m_5_spoke [.ref 1, vi i, vi n, vi w] z z h (CQ (spokeA T i n w) h (b + 1000) len Bt T st u un kc ke) := by
  refine Ct.of (by decide) ⟨Nat.le_refl _, Nat.le_refl _⟩ (Nat.le_of_ble_eq_true rfl) ?_
  have hI0 := hI
  obtain ⟨lt, dt, E, bf, B, K, hP, hE, hk, hln, hBt, hu, hS, hRu, hRk⟩ := hI
  obtain ⟨hM, hId, hX, hT, hB, hK, hSc⟩ := id hP
  have hM0 := hM
  unfold Mn at hM0
  obtain ⟨b0, b1, -⟩ := id hT
  have k0 := hk.1.1
  have k2 := hk.1.2.1
  by_cases hc : spokeC T i n w
  · obtain ⟨hci, hcn, hcw⟩ := id hc
    have hp : 2 ^ nGr T ≤ 256 := pow_le (m := 8) (by unfold nGr; omega)
    have he : iShl 1 (T 2 0) = ((2 ^ nGr T : Nat) : Int) := by
      rw [← shl_pow1 (nGr T) (by unfold nGr; omega), show ((nGr T : Nat) : Int) = T 2 0 by unfold nGr; omega]
    have loop : ∀ (f k : Nat), k + f = 2 ^ nGr T → WW d m_5_spoke z (CQ (spokeA T i n w) h (b + 1000) len Bt T st u un kc ke) z h 40 [(0, .ref 1), (1, vi i), (2, vi n), (3, vi w), (4, vi (spokeF T i n k).1), (5, vi (spokeF T i n k).2), (6, vi (k : Int))] [] := by
      intro f
      induction f with
      | zero =>
        intro k hkk
        obtain rfl : k = 2 ^ nGr T := by omega
        have hr := spokeF_rng T i n (2 ^ nGr T)
        refine x_iload D_5_spoke_40 rfl ?_
        refine x_iconst D_5_spoke_42 ?_
        refine x_aload_n D_5_spoke_43 rfl ?_
        refine x_getfield D_5_spoke_44 f_5_23 (by assumption) rfl ?_
        refine x_getfield D_5_spoke_47 f_5_88 (by assumption) rfl ?_
        refine x_ishl D_5_spoke_50 ?_
        rw [he]
        refine x_icmp_ge D_5_spoke_51 ⟨by omega, by omega⟩ ⟨by omega, by omega⟩ (fun c51 => ?_) (fun c51 => ?_)
        · refine x_iload_n D_5_spoke_103 rfl ?_
          refine x_if_ne D_5_spoke_104 ⟨by omega, by omega⟩ (fun c104 => ?_) (fun c104 => ?_)
          · refine x_iload D_5_spoke_112 rfl ?_
            refine x_ireturn D_5_spoke_114 rfl (by first | rfl | exact nb_bi _ | decide +kernel) rfl ?_
            first
            | exact CQ.eq hI0 (by omega) hbb (by unfold spokeA; rw [if_pos hc, if_pos (by omega)])
            | exact CQ.eq hI0 (by omega) hbb (by unfold spokeA; rw [if_pos hc, if_neg (by omega)])
          refine x_iload D_5_spoke_107 rfl ?_
          refine x_goto D_5_spoke_109 ?_
          refine x_ireturn D_5_spoke_114 rfl (by first | rfl | exact nb_bi _ | decide +kernel) rfl ?_
          first
          | exact CQ.eq hI0 (by omega) hbb (by unfold spokeA; rw [if_pos hc, if_pos (by omega)])
          | exact CQ.eq hI0 (by omega) hbb (by unfold spokeA; rw [if_pos hc, if_neg (by omega)])
        exact absurd c51 (by omega)
      | succ f ih =>
        intro k hkk
        have hr := spokeF_rng T i n k
        have hg := grains_rng hk.1 (k : Int) hci
        refine x_iload D_5_spoke_40 rfl ?_
        refine x_iconst D_5_spoke_42 ?_
        refine x_aload_n D_5_spoke_43 rfl ?_
        refine x_getfield D_5_spoke_44 f_5_23 (by assumption) rfl ?_
        refine x_getfield D_5_spoke_47 f_5_88 (by assumption) rfl ?_
        refine x_ishl D_5_spoke_50 ?_
        rw [he]
        refine x_icmp_ge D_5_spoke_51 ⟨by omega, by omega⟩ ⟨by omega, by omega⟩ (fun c51 => ?_) (fun c51 => ?_)
        · exact absurd c51 (by omega)
        refine x_aload_n D_5_spoke_54 rfl ?_
        refine x_getfield D_5_spoke_55 f_5_23 (by assumption) rfl ?_
        refine x_iload D_5_spoke_58 rfl ?_
        refine x_invV (d' := d - 1) D_5_spoke_60 l_5_219 mi_4_sizeOf (c_4_sizeOf (by omega) hT hk.1) (by assumption) rfl rfl (by omega) rfl (fun q => q) rfl rfl (fun r60 h60 q60 => ?_)
        obtain ⟨rfl, rfl⟩ := q60
        refine x_aload_n D_5_spoke_63 rfl ?_
        refine x_getfield D_5_spoke_64 f_5_23 (by assumption) rfl ?_
        refine x_getfield D_5_spoke_67 f_5_222 (by assumption) rfl ?_
        refine x_iload_n D_5_spoke_70 rfl ?_
        refine x_iaload D_5_spoke_71 (by assumption) (by omega) (by omega) rfl ?_
        refine x_imul D_5_spoke_72 ?_
        refine x_iload_n D_5_spoke_73 rfl ?_
        refine x_icmp_ne D_5_spoke_74 ⟨by omega, by omega⟩ ⟨by omega, by omega⟩ (fun c74 => ?_) (fun c74 => ?_)
        · refine x_iinc D_5_spoke_97 rfl rfl rfl rfl ?_
          refine x_goto D_5_spoke_100 ?_
          first
          | exact (ih (k + 1) (by omega)).sub (by rw [spokeF_f c74]; rfl)
          | exact (ih (k + 1) (by omega)).sub (by rw [spokeF_t c74, if_pos c79]; rfl)
          | exact (ih (k + 1) (by omega)).sub (by rw [spokeF_t c74, if_neg c79]; rfl)
        refine x_iload D_5_spoke_77 rfl ?_
        refine x_if_ne D_5_spoke_79 ⟨by omega, by omega⟩ (fun c79 => ?_) (fun c79 => ?_)
        · refine x_iload D_5_spoke_87 rfl ?_
          refine x_iload D_5_spoke_89 rfl ?_
          refine x_iand D_5_spoke_91 ?_
          refine x_istore D_5_spoke_92 rfl rfl rfl ?_
          refine x_iinc D_5_spoke_94 rfl rfl rfl rfl ?_
          refine x_iinc D_5_spoke_97 rfl rfl rfl rfl ?_
          refine x_goto D_5_spoke_100 ?_
          first
          | exact (ih (k + 1) (by omega)).sub (by rw [spokeF_f c74]; rfl)
          | exact (ih (k + 1) (by omega)).sub (by rw [spokeF_t c74, if_pos c79]; rfl)
          | exact (ih (k + 1) (by omega)).sub (by rw [spokeF_t c74, if_neg c79]; rfl)
        refine x_iload D_5_spoke_82 rfl ?_
        refine x_goto D_5_spoke_84 ?_
        refine x_istore D_5_spoke_92 rfl rfl rfl ?_
        refine x_iinc D_5_spoke_94 rfl rfl rfl rfl ?_
        refine x_iinc D_5_spoke_97 rfl rfl rfl rfl ?_
        refine x_goto D_5_spoke_100 ?_
        first
        | exact (ih (k + 1) (by omega)).sub (by rw [spokeF_f c74]; rfl)
        | exact (ih (k + 1) (by omega)).sub (by rw [spokeF_t c74, if_pos c79]; rfl)
        | exact (ih (k + 1) (by omega)).sub (by rw [spokeF_t c74, if_neg c79]; rfl)
    refine x_aload_n D_5_spoke_0 rfl ?_
    refine x_iload_n D_5_spoke_1 rfl ?_
    refine x_invV (d' := d - 1) D_5_spoke_2 l_5_97 mi_5_isPerson (c_5_isPerson (by omega) hM hT hk.1 hi) (by assumption) rfl rfl (by omega) rfl (fun q => q) rfl rfl (fun r2 h2 q2 => ?_)
    obtain ⟨rfl, rfl⟩ := q2
    refine x_if_eqb D_5_spoke_5 (fun c5 => ?_) (fun c5 => ?_)
    · exact absurd hci c5
    refine x_iload_n D_5_spoke_8 rfl ?_
    refine x_iconst D_5_spoke_9 ?_
    refine x_icmp_lt D_5_spoke_10 ⟨by omega, by omega⟩ ⟨by omega, by omega⟩ (fun c10 => ?_) (fun c10 => ?_)
    · exact absurd c10 (by omega)
    refine x_iload_n D_5_spoke_13 rfl ?_
    refine x_sipush D_5_spoke_14 (by decide +kernel) ?_
    refine x_icmp_gt D_5_spoke_17 ⟨by omega, by omega⟩ ⟨by omega, by omega⟩ (fun c17 => ?_) (fun c17 => ?_)
    · exact absurd c17 (by omega)
    refine x_iload_n D_5_spoke_20 rfl ?_
    refine x_if_lt D_5_spoke_21 ⟨by omega, by omega⟩ (fun c21 => ?_) (fun c21 => ?_)
    · exact absurd c21 (by omega)
    refine x_iload_n D_5_spoke_24 rfl ?_
    refine x_iconst D_5_spoke_25 ?_
    refine x_icmp_le D_5_spoke_26 ⟨by omega, by omega⟩ ⟨by omega, by omega⟩ (fun c26 => ?_) (fun c26 => ?_)
    · refine x_iconst D_5_spoke_31 ?_
      refine x_istore D_5_spoke_32 rfl rfl rfl ?_
      refine x_iconst D_5_spoke_34 ?_
      refine x_istore D_5_spoke_35 rfl rfl rfl ?_
      refine x_iconst D_5_spoke_37 ?_
      refine x_istore D_5_spoke_38 rfl rfl rfl ?_
      exact (loop (2 ^ nGr T) 0 (by omega)).sub rfl
    exact absurd c26 (by omega)
  · skip
    refine x_aload_n D_5_spoke_0 rfl ?_
    refine x_iload_n D_5_spoke_1 rfl ?_
    refine x_invV (d' := d - 1) D_5_spoke_2 l_5_97 mi_5_isPerson (c_5_isPerson (by omega) hM hT hk.1 hi) (by assumption) rfl rfl (by omega) rfl (fun q => q) rfl rfl (fun r2 h2 q2 => ?_)
    obtain ⟨rfl, rfl⟩ := q2
    refine x_if_eqb D_5_spoke_5 (fun c5 => ?_) (fun c5 => ?_)
    · refine x_iconst D_5_spoke_29 ?_
      refine x_ireturn D_5_spoke_30 rfl (by first | rfl | exact nb_bi _ | decide +kernel) rfl ?_
      exact CQ.eq hI0 (by omega) hbb (by unfold spokeA; rw [if_neg hc])
    refine x_iload_n D_5_spoke_8 rfl ?_
    refine x_iconst D_5_spoke_9 ?_
    refine x_icmp_lt D_5_spoke_10 hn ⟨by omega, by omega⟩ (fun c10 => ?_) (fun c10 => ?_)
    · refine x_iconst D_5_spoke_29 ?_
      refine x_ireturn D_5_spoke_30 rfl (by first | rfl | exact nb_bi _ | decide +kernel) rfl ?_
      exact CQ.eq hI0 (by omega) hbb (by unfold spokeA; rw [if_neg hc])
    refine x_iload_n D_5_spoke_13 rfl ?_
    refine x_sipush D_5_spoke_14 (by decide +kernel) ?_
    refine x_icmp_gt D_5_spoke_17 hn ⟨by omega, by omega⟩ (fun c17 => ?_) (fun c17 => ?_)
    · refine x_iconst D_5_spoke_29 ?_
      refine x_ireturn D_5_spoke_30 rfl (by first | rfl | exact nb_bi _ | decide +kernel) rfl ?_
      exact CQ.eq hI0 (by omega) hbb (by unfold spokeA; rw [if_neg hc])
    refine x_iload_n D_5_spoke_20 rfl ?_
    refine x_if_lt D_5_spoke_21 hw (fun c21 => ?_) (fun c21 => ?_)
    · refine x_iconst D_5_spoke_29 ?_
      refine x_ireturn D_5_spoke_30 rfl (by first | rfl | exact nb_bi _ | decide +kernel) rfl ?_
      exact CQ.eq hI0 (by omega) hbb (by unfold spokeA; rw [if_neg hc])
    refine x_iload_n D_5_spoke_24 rfl ?_
    refine x_iconst D_5_spoke_25 ?_
    refine x_icmp_le D_5_spoke_26 hw ⟨by omega, by omega⟩ (fun c26 => ?_) (fun c26 => ?_)
    · exact absurd ⟨c5, ⟨by omega, by omega⟩, by omega, by omega⟩ hc
    refine x_iconst D_5_spoke_29 ?_
    refine x_ireturn D_5_spoke_30 rfl (by first | rfl | exact nb_bi _ | decide +kernel) rfl ?_
    exact CQ.eq hI0 (by omega) hbb (by unfold spokeA; rw [if_neg hc])
theorem c_5_drawOf (hd : 0 ≤ d) {zz k : Int} (hz : 0 ≤ zz ∧ zz ≤ 9999) (hk : 0 ≤ k ∧ k ≤ 99) : Ct d m_5_drawOf [vi zz, vi k] z z h (Pu (drawT zz k) h) := by
  refine Ct.of (by decide) ⟨Nat.le_refl _, Nat.le_refl _⟩ (Nat.le_of_ble_eq_true rfl) ?_
  obtain ⟨⟨h1, h2⟩, h3⟩ := draw_rng hz hk
  refine x_ldc2 (n := 7919) D_5_drawOf_0 k_5_249 ?_
  refine x_iload_n D_5_drawOf_3 rfl ?_
  refine x_i2l D_5_drawOf_4 ⟨by omega, by omega⟩ ?_
  refine x_lmul D_5_drawOf_5 ?_
  refine x_ldc2 (n := 6151) D_5_drawOf_6 k_5_251 ?_
  refine x_iload_n D_5_drawOf_9 rfl ?_
  refine x_i2l D_5_drawOf_10 ⟨by omega, by omega⟩ ?_
  refine x_lmul D_5_drawOf_11 ?_
  refine x_ladd D_5_drawOf_12 ?_
  refine x_lconst D_5_drawOf_13 (k := 1) (by decide +kernel) ?_
  refine x_ladd D_5_drawOf_14 ?_
  refine x_lstore_n D_5_drawOf_15 rfl rfl rfl ?_
  refine x_lload_n D_5_drawOf_16 rfl ?_
  refine x_lload_n D_5_drawOf_17 rfl ?_
  refine x_lmul D_5_drawOf_18 ?_
  refine x_ldc2 (n := 65521) D_5_drawOf_19 k_5_253 ?_
  refine x_lrem D_5_drawOf_22 h1 h2 (by omega) (by omega) ?_
  refine x_l2il D_5_drawOf_23 ?_
  refine x_ireturn D_5_drawOf_24 rfl (by first | rfl | exact nb_bi _ | decide +kernel) rfl ?_
  exact ⟨rfl, rfl⟩
theorem c_5_remainder (hd : 0 ≤ d) {a c : Int} (ha : 0 ≤ a ∧ a ≤ 1000000) (hc : 1 ≤ c ∧ c ≤ 100) : Ct d m_5_remainder [vi a, vi c] z z h (Pu (a % c) h) := by
  refine Ct.of (by decide) ⟨Nat.le_refl _, Nat.le_refl _⟩ (Nat.le_of_ble_eq_true rfl) ?_
  refine x_iload_n D_5_remainder_0 rfl ?_
  refine x_iconst D_5_remainder_1 ?_
  refine x_icmp_ge D_5_remainder_2 ⟨by omega, by omega⟩ ⟨by omega, by omega⟩ (fun c2 => ?_) (fun c2 => ?_)
  · refine x_iload_n D_5_remainder_9 rfl ?_
    refine x_iload_n D_5_remainder_10 rfl ?_
    refine x_irem D_5_remainder_11 (by omega) ⟨by omega, by omega⟩ (by omega) ⟨by omega, by omega⟩ ?_
    refine x_ireturn D_5_remainder_12 rfl (by first | rfl | exact nb_bi _ | decide +kernel) rfl ?_
    exact ⟨rfl, rfl⟩
  exact absurd c2 (by omega)
theorem c_5_winter (hd : 4 ≤ d) (hI : CInv h b len Bt T st u un kc ke) (hbb : b + 1000 ≤ 1000000) {zz n i : Int} (hz : B3 zz) (hn : B3 n) (hi : B3 i) : Ct d m_5_winter [.ref 1, vi zz, vi n, vi i] z z h (CQ (winA T zz n i) h (b + 1000) len Bt T st u un kc ke) := by
  refine Ct.of (by decide) ⟨Nat.le_refl _, Nat.le_refl _⟩ (Nat.le_of_ble_eq_true rfl) ?_
  have hI0 := hI
  obtain ⟨lt, dt, E, bf, B, K, hP, hE, hk, hln, hBt, hu, hS, hRu, hRk⟩ := hI
  obtain ⟨hM, hId, hX, hT, hB, hK, hSc⟩ := id hP
  have hM0 := hM
  unfold Mn at hM0
  obtain ⟨b0, b1, b2, b3, b4, b5, b6, b7, b8⟩ := id hT
  have k0 := hk.1.1
  have k2 := hk.1.2.1
  have k4 := hk.1.2.2.1
  have k00 := hk.2.1
  have k22 := hk.2.2
  by_cases hc : winC T zz n i
  · obtain ⟨hcz, hcn, hci⟩ := id hc
    have loop : ∀ (f k : Nat), k + f = n.toNat → WW d m_5_winter z (CQ (winA T zz n i) h (b + 1000) len Bt T st u un kc ke) z h 43 [(0, .ref 1), (1, vi zz), (2, vi n), (3, vi i), (4, vi (winF T zz i k)), (5, vi (k : Int))] [] := by
      intro f
      induction f with
      | zero =>
        intro k hkk
        obtain rfl : k = n.toNat := by omega
        refine x_iload D_5_winter_43 rfl ?_
        refine x_iload_n D_5_winter_45 rfl ?_
        refine x_icmp_ge D_5_winter_46 ⟨by omega, by omega⟩ ⟨by omega, by omega⟩ (fun c46 => ?_) (fun c46 => ?_)
        · refine x_iload D_5_winter_169 rfl ?_
          refine x_ireturn D_5_winter_171 rfl (by first | rfl | exact nb_bi _ | decide +kernel) rfl ?_
          exact CQ.eq hI0 (by omega) hbb (by unfold winA; rw [if_pos hc])
        exact absurd c46 (by omega)
      | succ f ih =>
        intro k hkk
        have hdr := (draw_rng hcz (show 0 ≤ (k : Int) ∧ (k : Int) ≤ 99 by omega)).2
        have hsp0 := Int.emod_nonneg (drawT zz (k : Int)) (show T 0 0 ≠ 0 by omega)
        have hsp1 := Int.emod_lt_of_pos (drawT zz (k : Int)) (show 0 < T 0 0 by omega)
        have hg0 := Int.emod_nonneg (drawT zz (k : Int) / 8) (show T 2 0 ≠ 0 by omega)
        have hg1 := Int.emod_lt_of_pos (drawT zz (k : Int) / 8) (show 0 < T 2 0 by omega)
        have hd8 : 0 ≤ drawT zz (k : Int) / 8 ∧ drawT zz (k : Int) / 8 ≤ 1000000 := by omega
        have hm := melt_rng (hk.1.2.2.2.2.2.2.1 _ hg0 hg1) (hk.1.2.2.2.2.2.1 _ hsp0 hsp1)
        refine x_iload D_5_winter_43 rfl ?_
        refine x_iload_n D_5_winter_45 rfl ?_
        refine x_icmp_ge D_5_winter_46 ⟨by omega, by omega⟩ ⟨by omega, by omega⟩ (fun c46 => ?_) (fun c46 => ?_)
        · exact absurd c46 (by omega)
        refine x_iload_n D_5_winter_49 rfl ?_
        refine x_iload D_5_winter_50 rfl ?_
        refine x_invS2 (d' := d - 1) D_5_winter_52 l_5_223 mi_5_drawOf (c_5_drawOf (by omega) hcz (by omega))  rfl (by omega) rfl (fun q => q) rfl rfl (fun r52 h52 q52 => ?_)
        obtain ⟨rfl, rfl⟩ := q52
        refine x_istore D_5_winter_55 rfl rfl rfl ?_
        refine x_iload D_5_winter_57 rfl ?_
        refine x_aload_n D_5_winter_59 rfl ?_
        refine x_getfield D_5_winter_60 f_5_23 (by assumption) rfl ?_
        refine x_getfield D_5_winter_63 f_5_85 (by assumption) rfl ?_
        refine x_invS2 (d' := d - 1) D_5_winter_66 l_5_227 mi_5_remainder (c_5_remainder (by omega) (by omega) (by omega))  rfl (by omega) rfl (fun q => q) rfl rfl (fun r66 h66 q66 => ?_)
        obtain ⟨rfl, rfl⟩ := q66
        refine x_istore D_5_winter_69 rfl rfl rfl ?_
        refine x_iload D_5_winter_71 rfl ?_
        refine x_bipush D_5_winter_73 (by decide +kernel) ?_
        refine x_idiv D_5_winter_75 (by omega) ⟨by omega, by omega⟩ (by omega) ⟨by omega, by omega⟩ ?_
        refine x_aload_n D_5_winter_76 rfl ?_
        refine x_getfield D_5_winter_77 f_5_23 (by assumption) rfl ?_
        refine x_getfield D_5_winter_80 f_5_88 (by assumption) rfl ?_
        refine x_invS2 (d' := d - 1) D_5_winter_83 l_5_227 mi_5_remainder (c_5_remainder (by omega) hd8 (by omega))  rfl (by omega) rfl (fun q => q) rfl rfl (fun r83 h83 q83 => ?_)
        obtain ⟨rfl, rfl⟩ := q83
        refine x_istore D_5_winter_86 rfl rfl rfl ?_
        refine x_iload_n D_5_winter_88 rfl ?_
        refine x_iconst D_5_winter_89 ?_
        refine x_icmp_eq D_5_winter_90 ⟨by omega, by omega⟩ ⟨by omega, by omega⟩ (fun c90 => ?_) (fun c90 => ?_)
        · refine x_aload_n D_5_winter_99 rfl ?_
          refine x_getfield D_5_winter_100 f_5_23 (by assumption) rfl ?_
          refine x_iload D_5_winter_103 rfl ?_
          refine x_iconst D_5_winter_105 ?_
          refine x_aload_n D_5_winter_106 rfl ?_
          refine x_getfield D_5_winter_107 f_5_23 (by assumption) rfl ?_
          refine x_getfield D_5_winter_110 f_5_139 (by assumption) rfl ?_
          refine x_iload D_5_winter_113 rfl ?_
          refine x_iaload D_5_winter_115 (by assumption) (by omega) (by omega) rfl ?_
          refine x_aload_n D_5_winter_116 rfl ?_
          refine x_getfield D_5_winter_117 f_5_23 (by assumption) rfl ?_
          refine x_getfield D_5_winter_120 f_5_222 (by assumption) rfl ?_
          refine x_iload D_5_winter_123 rfl ?_
          refine x_iaload D_5_winter_125 (by assumption) (by omega) (by omega) rfl ?_
          refine x_imul D_5_winter_126 ?_
          refine x_invV (d' := d - 1) D_5_winter_127 l_5_178 mi_4_bestSet (c_4_bestSet (by omega) hT hk.1 ⟨by omega, by omega⟩ ⟨by omega, by omega⟩ ⟨by omega, by omega⟩) (by assumption) rfl rfl (by omega) rfl (fun q => q) rfl rfl (fun r127 h127 q127 => ?_)
          obtain ⟨rfl, rfl⟩ := q127
          refine x_istore D_5_winter_130 rfl rfl rfl ?_
          refine x_iload D_5_winter_132 rfl ?_
          refine x_iload_n D_5_winter_134 rfl ?_
          refine x_iconst D_5_winter_135 ?_
          refine x_icmp_ne D_5_winter_136 ⟨by omega, by omega⟩ ⟨by omega, by omega⟩ (fun c136 => ?_) (fun c136 => ?_)
          · refine x_aload_n D_5_winter_151 rfl ?_
            refine x_getfield D_5_winter_152 f_5_23 (by assumption) rfl ?_
            refine x_iload D_5_winter_155 rfl ?_
            refine x_invV (d' := d - 1) D_5_winter_157 l_5_230 mi_4_secondsOf (c_4_secondsOf (by omega) hT hk.1) (by assumption) rfl rfl (by omega) rfl (fun q => q) rfl rfl (fun r157 h157 q157 => ?_)
            obtain ⟨rfl, rfl⟩ := q157
            refine x_iadd D_5_winter_160 ?_
            refine x_istore D_5_winter_161 rfl rfl rfl ?_
            refine x_iinc D_5_winter_163 rfl rfl rfl rfl ?_
            refine x_goto D_5_winter_166 ?_
            first
            | (exfalso; omega)
            | exact (ih (k + 1) (by omega)).sub (by simp only [winF, winOne]; rw [if_pos (Or.inl (by omega)), if_pos (by omega)]; rfl)
            | exact (ih (k + 1) (by omega)).sub (by simp only [winF, winOne]; rw [if_pos (Or.inr (by omega)), if_neg (by omega)]; rfl)
            | exact (ih (k + 1) (by omega)).sub (by simp only [winF, winOne]; rw [if_neg (fun q => by rcases q with q | q <;> omega), Int.add_zero]; rfl)
          refine x_aload_n D_5_winter_139 rfl ?_
          refine x_getfield D_5_winter_140 f_5_23 (by assumption) rfl ?_
          refine x_iload D_5_winter_143 rfl ?_
          refine x_invV (d' := d - 1) D_5_winter_145 l_5_182 mi_4_worthOf (c_4_worthOf (by omega) hT hk.1) (by assumption) rfl rfl (by omega) rfl (fun q => q) rfl rfl (fun r145 h145 q145 => ?_)
          obtain ⟨rfl, rfl⟩ := q145
          refine x_goto D_5_winter_148 ?_
          refine x_iadd D_5_winter_160 ?_
          refine x_istore D_5_winter_161 rfl rfl rfl ?_
          refine x_iinc D_5_winter_163 rfl rfl rfl rfl ?_
          refine x_goto D_5_winter_166 ?_
          first
          | (exfalso; omega)
          | exact (ih (k + 1) (by omega)).sub (by simp only [winF, winOne]; rw [if_pos (Or.inl (by omega)), if_pos (by omega)]; rfl)
          | exact (ih (k + 1) (by omega)).sub (by simp only [winF, winOne]; rw [if_pos (Or.inr (by omega)), if_neg (by omega)]; rfl)
          | exact (ih (k + 1) (by omega)).sub (by simp only [winF, winOne]; rw [if_neg (fun q => by rcases q with q | q <;> omega), Int.add_zero]; rfl)
        refine x_iload_n D_5_winter_93 rfl ?_
        refine x_iload D_5_winter_94 rfl ?_
        refine x_icmp_ne D_5_winter_96 ⟨by omega, by omega⟩ ⟨by omega, by omega⟩ (fun c96 => ?_) (fun c96 => ?_)
        · refine x_iinc D_5_winter_163 rfl rfl rfl rfl ?_
          refine x_goto D_5_winter_166 ?_
          first
          | (exfalso; omega)
          | exact (ih (k + 1) (by omega)).sub (by simp only [winF, winOne]; rw [if_pos (Or.inl (by omega)), if_pos (by omega)]; rfl)
          | exact (ih (k + 1) (by omega)).sub (by simp only [winF, winOne]; rw [if_pos (Or.inr (by omega)), if_neg (by omega)]; rfl)
          | exact (ih (k + 1) (by omega)).sub (by simp only [winF, winOne]; rw [if_neg (fun q => by rcases q with q | q <;> omega), Int.add_zero]; rfl)
        refine x_aload_n D_5_winter_99 rfl ?_
        refine x_getfield D_5_winter_100 f_5_23 (by assumption) rfl ?_
        refine x_iload D_5_winter_103 rfl ?_
        refine x_iconst D_5_winter_105 ?_
        refine x_aload_n D_5_winter_106 rfl ?_
        refine x_getfield D_5_winter_107 f_5_23 (by assumption) rfl ?_
        refine x_getfield D_5_winter_110 f_5_139 (by assumption) rfl ?_
        refine x_iload D_5_winter_113 rfl ?_
        refine x_iaload D_5_winter_115 (by assumption) (by omega) (by omega) rfl ?_
        refine x_aload_n D_5_winter_116 rfl ?_
        refine x_getfield D_5_winter_117 f_5_23 (by assumption) rfl ?_
        refine x_getfield D_5_winter_120 f_5_222 (by assumption) rfl ?_
        refine x_iload D_5_winter_123 rfl ?_
        refine x_iaload D_5_winter_125 (by assumption) (by omega) (by omega) rfl ?_
        refine x_imul D_5_winter_126 ?_
        refine x_invV (d' := d - 1) D_5_winter_127 l_5_178 mi_4_bestSet (c_4_bestSet (by omega) hT hk.1 ⟨by omega, by omega⟩ ⟨by omega, by omega⟩ ⟨by omega, by omega⟩) (by assumption) rfl rfl (by omega) rfl (fun q => q) rfl rfl (fun r127 h127 q127 => ?_)
        obtain ⟨rfl, rfl⟩ := q127
        refine x_istore D_5_winter_130 rfl rfl rfl ?_
        refine x_iload D_5_winter_132 rfl ?_
        refine x_iload_n D_5_winter_134 rfl ?_
        refine x_iconst D_5_winter_135 ?_
        refine x_icmp_ne D_5_winter_136 ⟨by omega, by omega⟩ ⟨by omega, by omega⟩ (fun c136 => ?_) (fun c136 => ?_)
        · refine x_aload_n D_5_winter_151 rfl ?_
          refine x_getfield D_5_winter_152 f_5_23 (by assumption) rfl ?_
          refine x_iload D_5_winter_155 rfl ?_
          refine x_invV (d' := d - 1) D_5_winter_157 l_5_230 mi_4_secondsOf (c_4_secondsOf (by omega) hT hk.1) (by assumption) rfl rfl (by omega) rfl (fun q => q) rfl rfl (fun r157 h157 q157 => ?_)
          obtain ⟨rfl, rfl⟩ := q157
          refine x_iadd D_5_winter_160 ?_
          refine x_istore D_5_winter_161 rfl rfl rfl ?_
          refine x_iinc D_5_winter_163 rfl rfl rfl rfl ?_
          refine x_goto D_5_winter_166 ?_
          first
          | (exfalso; omega)
          | exact (ih (k + 1) (by omega)).sub (by simp only [winF, winOne]; rw [if_pos (Or.inl (by omega)), if_pos (by omega)]; rfl)
          | exact (ih (k + 1) (by omega)).sub (by simp only [winF, winOne]; rw [if_pos (Or.inr (by omega)), if_neg (by omega)]; rfl)
          | exact (ih (k + 1) (by omega)).sub (by simp only [winF, winOne]; rw [if_neg (fun q => by rcases q with q | q <;> omega), Int.add_zero]; rfl)
        refine x_aload_n D_5_winter_139 rfl ?_
        refine x_getfield D_5_winter_140 f_5_23 (by assumption) rfl ?_
        refine x_iload D_5_winter_143 rfl ?_
        refine x_invV (d' := d - 1) D_5_winter_145 l_5_182 mi_4_worthOf (c_4_worthOf (by omega) hT hk.1) (by assumption) rfl rfl (by omega) rfl (fun q => q) rfl rfl (fun r145 h145 q145 => ?_)
        obtain ⟨rfl, rfl⟩ := q145
        refine x_goto D_5_winter_148 ?_
        refine x_iadd D_5_winter_160 ?_
        refine x_istore D_5_winter_161 rfl rfl rfl ?_
        refine x_iinc D_5_winter_163 rfl rfl rfl rfl ?_
        refine x_goto D_5_winter_166 ?_
        first
        | (exfalso; omega)
        | exact (ih (k + 1) (by omega)).sub (by simp only [winF, winOne]; rw [if_pos (Or.inl (by omega)), if_pos (by omega)]; rfl)
        | exact (ih (k + 1) (by omega)).sub (by simp only [winF, winOne]; rw [if_pos (Or.inr (by omega)), if_neg (by omega)]; rfl)
        | exact (ih (k + 1) (by omega)).sub (by simp only [winF, winOne]; rw [if_neg (fun q => by rcases q with q | q <;> omega), Int.add_zero]; rfl)
    refine x_iload_n D_5_winter_0 rfl ?_
    refine x_if_lt D_5_winter_1 ⟨by omega, by omega⟩ (fun c1 => ?_) (fun c1 => ?_)
    · exact absurd c1 (by omega)
    refine x_iload_n D_5_winter_4 rfl ?_
    refine x_sipush D_5_winter_5 (by decide +kernel) ?_
    refine x_icmp_gt D_5_winter_8 ⟨by omega, by omega⟩ ⟨by omega, by omega⟩ (fun c8 => ?_) (fun c8 => ?_)
    · exact absurd c8 (by omega)
    refine x_iload_n D_5_winter_11 rfl ?_
    refine x_iconst D_5_winter_12 ?_
    refine x_icmp_lt D_5_winter_13 ⟨by omega, by omega⟩ ⟨by omega, by omega⟩ (fun c13 => ?_) (fun c13 => ?_)
    · exact absurd c13 (by omega)
    refine x_iload_n D_5_winter_16 rfl ?_
    refine x_bipush D_5_winter_17 (by decide +kernel) ?_
    refine x_icmp_gt D_5_winter_19 ⟨by omega, by omega⟩ ⟨by omega, by omega⟩ (fun c19 => ?_) (fun c19 => ?_)
    · exact absurd c19 (by omega)
    refine x_iload_n D_5_winter_22 rfl ?_
    refine x_iconst D_5_winter_23 ?_
    refine x_icmp_eq D_5_winter_24 ⟨by omega, by omega⟩ ⟨by omega, by omega⟩ (fun c24 => ?_) (fun c24 => ?_)
    · refine x_iconst D_5_winter_37 ?_
      refine x_istore D_5_winter_38 rfl rfl rfl ?_
      refine x_iconst D_5_winter_40 ?_
      refine x_istore D_5_winter_41 rfl rfl rfl ?_
      exact (loop n.toNat 0 (by omega)).sub rfl
    refine x_aload_n D_5_winter_27 rfl ?_
    refine x_iload_n D_5_winter_28 rfl ?_
    refine x_invV (d' := d - 1) D_5_winter_29 l_5_97 mi_5_isPerson (c_5_isPerson (by omega) hM hT hk.1 hi) (by assumption) rfl rfl (by omega) rfl (fun q => q) rfl rfl (fun r29 h29 q29 => ?_)
    obtain ⟨rfl, rfl⟩ := q29
    refine x_if_neb D_5_winter_32 (fun c32 => ?_) (fun c32 => ?_)
    · refine x_iconst D_5_winter_37 ?_
      refine x_istore D_5_winter_38 rfl rfl rfl ?_
      refine x_iconst D_5_winter_40 ?_
      refine x_istore D_5_winter_41 rfl rfl rfl ?_
      exact (loop n.toNat 0 (by omega)).sub rfl
    exact absurd (hci.resolve_left c24) c32
  · skip
    refine x_iload_n D_5_winter_0 rfl ?_
    refine x_if_lt D_5_winter_1 hz (fun c1 => ?_) (fun c1 => ?_)
    · refine x_iconst D_5_winter_35 ?_
      refine x_ireturn D_5_winter_36 rfl (by first | rfl | exact nb_bi _ | decide +kernel) rfl ?_
      exact CQ.eq hI0 (by omega) hbb (by unfold winA; rw [if_neg hc])
    refine x_iload_n D_5_winter_4 rfl ?_
    refine x_sipush D_5_winter_5 (by decide +kernel) ?_
    refine x_icmp_gt D_5_winter_8 hz ⟨by omega, by omega⟩ (fun c8 => ?_) (fun c8 => ?_)
    · refine x_iconst D_5_winter_35 ?_
      refine x_ireturn D_5_winter_36 rfl (by first | rfl | exact nb_bi _ | decide +kernel) rfl ?_
      exact CQ.eq hI0 (by omega) hbb (by unfold winA; rw [if_neg hc])
    refine x_iload_n D_5_winter_11 rfl ?_
    refine x_iconst D_5_winter_12 ?_
    refine x_icmp_lt D_5_winter_13 hn ⟨by omega, by omega⟩ (fun c13 => ?_) (fun c13 => ?_)
    · refine x_iconst D_5_winter_35 ?_
      refine x_ireturn D_5_winter_36 rfl (by first | rfl | exact nb_bi _ | decide +kernel) rfl ?_
      exact CQ.eq hI0 (by omega) hbb (by unfold winA; rw [if_neg hc])
    refine x_iload_n D_5_winter_16 rfl ?_
    refine x_bipush D_5_winter_17 (by decide +kernel) ?_
    refine x_icmp_gt D_5_winter_19 hn ⟨by omega, by omega⟩ (fun c19 => ?_) (fun c19 => ?_)
    · refine x_iconst D_5_winter_35 ?_
      refine x_ireturn D_5_winter_36 rfl (by first | rfl | exact nb_bi _ | decide +kernel) rfl ?_
      exact CQ.eq hI0 (by omega) hbb (by unfold winA; rw [if_neg hc])
    refine x_iload_n D_5_winter_22 rfl ?_
    refine x_iconst D_5_winter_23 ?_
    refine x_icmp_eq D_5_winter_24 hi ⟨by omega, by omega⟩ (fun c24 => ?_) (fun c24 => ?_)
    · exact absurd ⟨⟨by omega, by omega⟩, ⟨by omega, by omega⟩, Or.inl (by omega)⟩ hc
    refine x_aload_n D_5_winter_27 rfl ?_
    refine x_iload_n D_5_winter_28 rfl ?_
    refine x_invV (d' := d - 1) D_5_winter_29 l_5_97 mi_5_isPerson (c_5_isPerson (by omega) hM hT hk.1 hi) (by assumption) rfl rfl (by omega) rfl (fun q => q) rfl rfl (fun r29 h29 q29 => ?_)
    obtain ⟨rfl, rfl⟩ := q29
    refine x_if_neb D_5_winter_32 (fun c32 => ?_) (fun c32 => ?_)
    · exact absurd ⟨⟨by omega, by omega⟩, ⟨by omega, by omega⟩, Or.inr c32⟩ hc
    refine x_iconst D_5_winter_35 ?_
    refine x_ireturn D_5_winter_36 rfl (by first | rfl | exact nb_bi _ | decide +kernel) rfl ?_
    exact CQ.eq hI0 (by omega) hbb (by unfold winA; rw [if_neg hc])
end CM7
