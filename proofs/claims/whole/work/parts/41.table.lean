theorem c_4_sayingsOf {d : Nat} (hd : 1 ≤ d) {z : Nat × Nat} {h : Hp} {t : Nat} {T : TT} {i : Int} (hT : TabAt h t T) (hk : TabOk T) (hi : B3 i) : Ct d m_4_sayingsOf [.ref t, vi i] z z h (Pu (soF T i (T 4 0).toNat) h) := by
  refine Ct.of (by decide) ⟨Nat.le_refl _, Nat.le_refl _⟩ (Nat.le_of_ble_eq_true rfl) ?_
  obtain ⟨a0, a1, a2, a3, a4, a5, a6, a7, a8⟩ := hT
  have k4 := hk.2.2.1
  have k5 := hk.2.2.2.2.2.2.2.1
  have k0 := hk.1
  obtain ⟨c, hc⟩ : ∃ c : Nat, T 4 0 = (c : Int) := ⟨_, (Int.toNat_of_nonneg k4.1).symm⟩
  have hc2 : (T 4 0).toNat = c := by omega
  rw [hc2]
  have loop : ∀ (f k : Nat) (v : Int), v = soF T i k → c = k + f → WW d m_4_sayingsOf z (Pu (soF T i c) h) z h 4 [(0, .ref t), (1, vi i), (2, vi v), (3, vi k)] [] := by
    intro f
    induction f with
    | zero =>
      intro k v hv hf
      refine x_iload_n D_4_sayingsOf_4 rfl ?_
      refine x_aload_n D_4_sayingsOf_5 rfl ?_
      refine x_getfield D_4_sayingsOf_6 f_4_43 (by assumption) rfl ?_
      refine x_icmp_ge D_4_sayingsOf_9 ⟨by omega, by omega⟩ ⟨by omega, by omega⟩ (fun c9 => ?_) (fun c9 => ?_)
      · refine x_iload_n D_4_sayingsOf_40 rfl ?_
        refine x_ireturn D_4_sayingsOf_41 rfl (by first | rfl | exact nb_bi _ | decide +kernel) rfl ?_
        exact Pu.e (by rw [hv, hf]; rfl)
      exact absurd c9 (by omega)
    | succ f ih =>
      intro k v hv hf
      have hr := (k5 k (by omega) (by omega)).1
      refine x_iload_n D_4_sayingsOf_4 rfl ?_
      refine x_aload_n D_4_sayingsOf_5 rfl ?_
      refine x_getfield D_4_sayingsOf_6 f_4_43 (by assumption) rfl ?_
      refine x_icmp_ge D_4_sayingsOf_9 ⟨by omega, by omega⟩ ⟨by omega, by omega⟩ (fun c9 => ?_) (fun c9 => ?_)
      · exact absurd c9 (by omega)
      refine x_iload_n D_4_sayingsOf_12 rfl ?_
      refine x_bipush D_4_sayingsOf_13 (by decide +kernel) ?_
      refine x_icmp_ge D_4_sayingsOf_15 ⟨by omega, by omega⟩ ⟨by omega, by omega⟩ (fun c15 => ?_) (fun c15 => ?_)
      · exact absurd c15 (by omega)
      refine x_aload_n D_4_sayingsOf_18 rfl ?_
      refine x_getfield D_4_sayingsOf_19 f_4_18 (by assumption) rfl ?_
      refine x_iload_n D_4_sayingsOf_22 rfl ?_
      refine x_iaload D_4_sayingsOf_23 (by assumption) (by omega) (by omega) rfl ?_
      refine x_iload_n D_4_sayingsOf_24 rfl ?_
      refine x_icmp_ne D_4_sayingsOf_25 ⟨by omega, by omega⟩ hi (fun c25 => ?_) (fun c25 => ?_)
      · refine x_iinc D_4_sayingsOf_34 rfl rfl rfl rfl ?_
        refine x_goto D_4_sayingsOf_37 ?_
        first | exact (ih (k + 1) _ (by rw [hv, soF, if_neg c25]) (by omega)).sub rfl | exact (ih (k + 1) _ (by rw [hv, soF, if_pos c25]) (by omega)).sub rfl
      refine x_iload_n D_4_sayingsOf_28 rfl ?_
      refine x_iconst D_4_sayingsOf_29 ?_
      refine x_iload_n D_4_sayingsOf_30 rfl ?_
      refine x_ishl D_4_sayingsOf_31 ?_
      refine x_ior D_4_sayingsOf_32 ?_
      refine x_istore_n D_4_sayingsOf_33 rfl rfl rfl ?_
      refine x_iinc D_4_sayingsOf_34 rfl rfl rfl rfl ?_
      refine x_goto D_4_sayingsOf_37 ?_
      first | exact (ih (k + 1) _ (by rw [hv, soF, if_neg c25]) (by omega)).sub rfl | exact (ih (k + 1) _ (by rw [hv, soF, if_pos c25]) (by omega)).sub rfl
  refine x_iconst D_4_sayingsOf_0 ?_
  refine x_istore_n D_4_sayingsOf_1 rfl rfl rfl ?_
  refine x_iconst D_4_sayingsOf_2 ?_
  refine x_istore_n D_4_sayingsOf_3 rfl rfl rfl ?_
  exact (loop c 0 0 rfl (by omega)).sub rfl
theorem c_4_bestSet {d : Nat} (hd : 3 ≤ d) {z : Nat × Nat} {h : Hp} {t : Nat} {T : TT} {i said m : Int} (hT : TabAt h t T) (hk : TabOk T) (hi : B3 i) (hs : B3 said) (hm : B3 m) : Ct d m_4_bestSet [.ref t, vi i, vi said, vi m] z z h (Pu (bst T i said m (2 ^ (T 4 0).toNat)).1 h) := by
  refine Ct.of (by decide) ⟨Nat.le_refl _, Nat.le_refl _⟩ (Nat.le_of_ble_eq_true rfl) ?_
  have hT' := hT
  obtain ⟨a0, a1, a2, a3, a4, a5, a6, a7, a8⟩ := hT
  have k4 := hk.2.2.1
  have k5 := hk.2.2.2.2.2.2.2.1
  obtain ⟨c, hc⟩ : ∃ c : Nat, T 4 0 = (c : Int) := ⟨_, (Int.toNat_of_nonneg k4.1).symm⟩
  have hc2 : (T 4 0).toNat = c := by omega
  have hsh := shl1_pow c (by omega)
  have hpw : 2 ^ c ≤ 128 := pow_le (m := 7) (by omega)
  rw [hc2]
  have loop : ∀ (f k : Nat) (fo mo w : Int), bst T i said m k = (fo, mo) → 2 ^ c = k + f → WW d m_4_bestSet z (Pu (bst T i said m (2 ^ c)).1 h) z h 20 [(0, .ref t), (1, vi i), (2, vi said), (3, vi m), (4, vi (iOr (iXor (soF T i c) (-1)) said)), (5, vi fo), (6, vi mo), (7, vi k)] [] := by
    intro f
    induction f with
    | zero =>
      intro k fo mo w hb hf
      refine x_iload D_4_bestSet_20 rfl ?_
      refine x_iconst D_4_bestSet_22 ?_
      refine x_aload_n D_4_bestSet_23 rfl ?_
      refine x_getfield D_4_bestSet_24 f_4_43 (by assumption) rfl ?_
      refine x_ishl D_4_bestSet_27 ?_
      rw [hc]
      refine x_icmp_ge D_4_bestSet_28 ⟨by omega, by omega⟩ (iShl_B3 _ _) (fun c28 => ?_) (fun c28 => ?_)
      · refine x_iload D_4_bestSet_78 rfl ?_
        refine x_ireturn D_4_bestSet_80 rfl (by first | rfl | exact nb_bi _ | decide +kernel) rfl ?_
        exact Pu.e (by rw [hf, Nat.add_zero, hb])
      exact absurd c28 (by rw [hsh]; omega)
    | succ f ih =>
      intro k fo mo w hb hf
      have hrg := bst_rng hk (i := i) (said := said) (m := m) k (by omega)
      rw [hb] at hrg
      dsimp only at hrg
      have s7 := sumSet_le (F := T 7) (s := (k : Int)) (M := 99) (by omega) c (fun q hq => (k5 (q : Int) (by omega) (by omega)).2.2.1)
      have s6 := sumSet_le (F := T 6) (s := (k : Int)) (M := 60) (by omega) c (fun q hq => ⟨by have := (k5 (q : Int) (by omega) (by omega)).2.1; omega, (k5 (q : Int) (by omega) (by omega)).2.1.2⟩)
      have ho := others_0 hk (i := i) (said := said) (set := k) (by rw [hc2]; omega)
      rw [hc2] at ho
      have hC : bstC T i said m (bst T i said m k).2 k ↔ iAnd (k : Int) (iOr (iXor (soF T i c) (-1)) said) = 0 ∧ sumSet (T 6) k c ≤ m ∧ mo < sumSet (T 7) k c := by
        unfold bstC
        rw [hb, hc2, ho]
      have hno : ¬ (iAnd (k : Int) (iOr (iXor (soF T i c) (-1)) said) = 0 ∧ sumSet (T 6) k c ≤ m ∧ mo < sumSet (T 7) k c) → bst T i said m (k + 1) = (fo, mo) := fun q => by rw [bst_f (fun e => q (hC.mp e)), hb]
      have hyes : (iAnd (k : Int) (iOr (iXor (soF T i c) (-1)) said) = 0 ∧ sumSet (T 6) k c ≤ m ∧ mo < sumSet (T 7) k c) → bst T i said m (k + 1) = ((k : Int), sumSet (T 7) k c) := fun q => by rw [bst_t (hC.mpr q), hc2]
      refine x_iload D_4_bestSet_20 rfl ?_
      refine x_iconst D_4_bestSet_22 ?_
      refine x_aload_n D_4_bestSet_23 rfl ?_
      refine x_getfield D_4_bestSet_24 f_4_43 (by assumption) rfl ?_
      refine x_ishl D_4_bestSet_27 ?_
      rw [hc]
      refine x_icmp_ge D_4_bestSet_28 ⟨by omega, by omega⟩ (iShl_B3 _ _) (fun c28 => ?_) (fun c28 => ?_)
      · exact absurd c28 (by rw [hsh]; omega)
      refine x_iload D_4_bestSet_31 rfl ?_
      refine x_iload D_4_bestSet_33 rfl ?_
      refine x_iand D_4_bestSet_35 ?_
      refine x_if_ne D_4_bestSet_36 (iAnd_B3 _ _) (fun c36 => ?_) (fun c36 => ?_)
      · refine x_iinc D_4_bestSet_72 rfl rfl rfl rfl ?_
        refine x_goto D_4_bestSet_75 ?_
        first | exact (ih (k + 1) _ _ 0 (hno (fun e => c36 e.1)) (by omega)).sub rfl | exact (ih (k + 1) _ _ 0 (hno (fun e => by omega)) (by omega)).sub rfl | exact (ih (k + 1) _ _ 0 (hyes ⟨c36, by omega, by omega⟩) (by omega)).sub rfl
      refine x_aload_n D_4_bestSet_39 rfl ?_
      refine x_iload D_4_bestSet_40 rfl ?_
      refine x_invV (d' := d - 1) D_4_bestSet_42 l_4_74 mi_4_secondsOf (c_4_secondsOf (by omega) hT' hk) (by assumption) rfl rfl (by omega) rfl (fun q => q) rfl rfl (fun r42 h42 q42 => ?_)
      obtain ⟨rfl, rfl⟩ := q42
      rw [hc2]
      refine x_iload_n D_4_bestSet_45 rfl ?_
      refine x_icmp_gt D_4_bestSet_46 ⟨by omega, by omega⟩ hm (fun c46 => ?_) (fun c46 => ?_)
      · refine x_iinc D_4_bestSet_72 rfl rfl rfl rfl ?_
        refine x_goto D_4_bestSet_75 ?_
        first | exact (ih (k + 1) _ _ 0 (hno (fun e => c36 e.1)) (by omega)).sub rfl | exact (ih (k + 1) _ _ 0 (hno (fun e => by omega)) (by omega)).sub rfl | exact (ih (k + 1) _ _ 0 (hyes ⟨c36, by omega, by omega⟩) (by omega)).sub rfl
      refine x_aload_n D_4_bestSet_49 rfl ?_
      refine x_iload D_4_bestSet_50 rfl ?_
      refine x_invV (d' := d - 1) D_4_bestSet_52 l_4_77 mi_4_worthOf (c_4_worthOf (by omega) hT' hk) (by assumption) rfl rfl (by omega) rfl (fun q => q) rfl rfl (fun r52 h52 q52 => ?_)
      obtain ⟨rfl, rfl⟩ := q52
      rw [hc2]
      refine x_istore D_4_bestSet_55 rfl rfl rfl ?_
      refine x_iload D_4_bestSet_57 rfl ?_
      refine x_iload D_4_bestSet_59 rfl ?_
      refine x_icmp_le D_4_bestSet_61 ⟨by omega, by omega⟩ ⟨by omega, by omega⟩ (fun c61 => ?_) (fun c61 => ?_)
      · refine x_iinc D_4_bestSet_72 rfl rfl rfl rfl ?_
        refine x_goto D_4_bestSet_75 ?_
        first | exact (ih (k + 1) _ _ 0 (hno (fun e => c36 e.1)) (by omega)).sub rfl | exact (ih (k + 1) _ _ 0 (hno (fun e => by omega)) (by omega)).sub rfl | exact (ih (k + 1) _ _ 0 (hyes ⟨c36, by omega, by omega⟩) (by omega)).sub rfl
      refine x_iload D_4_bestSet_64 rfl ?_
      refine x_istore D_4_bestSet_66 rfl rfl rfl ?_
      refine x_iload D_4_bestSet_68 rfl ?_
      refine x_istore D_4_bestSet_70 rfl rfl rfl ?_
      refine x_iinc D_4_bestSet_72 rfl rfl rfl rfl ?_
      refine x_goto D_4_bestSet_75 ?_
      first | exact (ih (k + 1) _ _ 0 (hno (fun e => c36 e.1)) (by omega)).sub rfl | exact (ih (k + 1) _ _ 0 (hno (fun e => by omega)) (by omega)).sub rfl | exact (ih (k + 1) _ _ 0 (hyes ⟨c36, by omega, by omega⟩) (by omega)).sub rfl
  refine x_aload_n D_4_bestSet_0 rfl ?_
  refine x_iload_n D_4_bestSet_1 rfl ?_
  refine x_invV (d' := d - 1) D_4_bestSet_2 l_4_70 mi_4_sayingsOf (c_4_sayingsOf (by omega) hT' hk hi) (by assumption) rfl rfl (by omega) rfl (fun q => q) rfl rfl (fun r2 h2 q2 => ?_)
  obtain ⟨rfl, rfl⟩ := q2
  rw [hc2]
  refine x_iconst D_4_bestSet_5 ?_
  refine x_ixor D_4_bestSet_6 ?_
  refine x_iload_n D_4_bestSet_7 rfl ?_
  refine x_ior D_4_bestSet_8 ?_
  refine x_istore D_4_bestSet_9 rfl rfl rfl ?_
  refine x_iconst D_4_bestSet_11 ?_
  refine x_istore D_4_bestSet_12 rfl rfl rfl ?_
  refine x_iconst D_4_bestSet_14 ?_
  refine x_istore D_4_bestSet_15 rfl rfl rfl ?_
  refine x_iconst D_4_bestSet_17 ?_
  refine x_istore D_4_bestSet_18 rfl rfl rfl ?_
  exact (loop (2 ^ c) 0 0 0 0 rfl (by omega)).sub rfl
