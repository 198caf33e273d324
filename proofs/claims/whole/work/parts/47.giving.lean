/-- the evening's mouths are as D says -/
abbrev DrOk (T E : TT) (D : Int → Int) : Prop := ∀ i : Int, 0 ≤ i → i < T 0 0 → E 6 i = D i ∧ 1 ≤ D i ∧ D i ≤ 9
theorem melt_rng {a b : Int} (h1 : 1 ≤ a ∧ a ≤ 9) (h2 : 1 ≤ b ∧ b ≤ 9) : 1 ≤ a * b ∧ a * b ≤ 81 := by
  obtain ⟨h3, h4⟩ := h1
  have : a = 1 ∨ a = 2 ∨ a = 3 ∨ a = 4 ∨ a = 5 ∨ a = 6 ∨ a = 7 ∨ a = 8 ∨ a = 9 := by omega
  rcases this with rfl | rfl | rfl | rfl | rfl | rfl | rfl | rfl | rfl <;> omega
theorem c_1_grainsFor {d : Nat} (hd : 1 ≤ d) {z : Nat × Nat} {h : Hp} {t e : Nat} {T E : TT} {D : Int → Int} {s : Int} (hT : TabAt h t T) (hE : EvAt h e E) (hk : TabOk T) (hD : DrOk T E D) (hs : 0 ≤ s ∧ s < T 4 0) : Ct d m_1_grainsFor [.ref t, .ref e, vi s] z z h (Pu (gf T D (E 2 0) s) h) := by
  refine Ct.of (by decide) ⟨Nat.le_refl _, Nat.le_refl _⟩ (Nat.le_of_ble_eq_true rfl) ?_
  obtain ⟨a0, a1, a2, a3, a4, a5, a6, a7, a8⟩ := hT
  obtain ⟨b0, b1, b2, b3, b4⟩ := hE
  have k2 := hk.2.1
  have k0 := hk.1
  have k4 := hk.2.2.1
  have k5 := hk.2.2.2.2.2.2.2.1 s hs.1 hs.2
  have hDs := hD (T 5 s) k5.1.1 k5.1.2
  have k3 := hk.2.2.2.2.2.2.1
  obtain ⟨c, hc⟩ : ∃ c : Nat, T 2 0 = (c : Int) := ⟨_, (Int.toNat_of_nonneg k2.1).symm⟩
  have hc2 : nGr T = c := by unfold nGr; omega
  by_cases hsd : hasB (E 2 0) s
  · have eg : gf T D (E 2 0) s = 0 := by unfold gf; rw [if_pos hsd]
    rw [eg]
    refine x_aload_n D_1_grainsFor_0 rfl ?_
    refine x_getfield D_1_grainsFor_1 f_1_41 (by assumption) rfl ?_
    refine x_iload_n D_1_grainsFor_4 rfl ?_
    refine x_invSN (d' := d - 1) D_1_grainsFor_5 l_1_46 mi_5_isIn (c_5_isIn (by omega))  rfl (by omega) rfl (fun q => q) rfl rfl (fun r5 h5 q5 => ?_)
    obtain ⟨rfl, rfl⟩ := q5
    refine x_if_eqb D_1_grainsFor_8 (fun c8 => ?_) (fun c8 => ?_)
    · exact absurd hsd c8
    refine x_iconst D_1_grainsFor_11 ?_
    refine x_ireturn D_1_grainsFor_12 rfl (by first | rfl | exact nb_bi _ | decide +kernel) rfl ?_
    exact ⟨rfl, rfl⟩
  have eg : gf T D (E 2 0) s = gfF T D s c := by unfold gf; rw [if_neg hsd, hc2]
  rw [eg]
  have loop : ∀ (f k : Nat) (v : Int), v = gfF T D s k → c = k + f → WW d m_1_grainsFor z (Pu (gfF T D s c) h) z h 18 [(0, .ref t), (1, .ref e), (2, vi s), (3, vi v), (4, vi k)] [] := by
    intro f
    induction f with
    | zero =>
      intro k v hv hf
      refine x_iload D_1_grainsFor_18 rfl ?_
      refine x_aload_n D_1_grainsFor_20 rfl ?_
      refine x_getfield D_1_grainsFor_21 f_1_20 (by assumption) rfl ?_
      refine x_icmp_ge D_1_grainsFor_24 ⟨by omega, by omega⟩ ⟨by omega, by omega⟩ (fun c24 => ?_) (fun c24 => ?_)
      · refine x_iload_n D_1_grainsFor_68 rfl ?_
        refine x_ireturn D_1_grainsFor_69 rfl (by first | rfl | exact nb_bi _ | decide +kernel) rfl ?_
        exact Pu.e (by rw [hv, hf]; rfl)
      exact absurd c24 (by omega)
    | succ f ih =>
      intro k v hv hf
      have hm := melt_rng (k3 (k : Int) (by omega) (by omega)) hDs.2
      refine x_iload D_1_grainsFor_18 rfl ?_
      refine x_aload_n D_1_grainsFor_20 rfl ?_
      refine x_getfield D_1_grainsFor_21 f_1_20 (by assumption) rfl ?_
      refine x_icmp_ge D_1_grainsFor_24 ⟨by omega, by omega⟩ ⟨by omega, by omega⟩ (fun c24 => ?_) (fun c24 => ?_)
      · exact absurd c24 (by omega)
      refine x_aload_n D_1_grainsFor_27 rfl ?_
      refine x_getfield D_1_grainsFor_28 f_1_50 (by assumption) rfl ?_
      refine x_iload D_1_grainsFor_31 rfl ?_
      refine x_iaload D_1_grainsFor_33 (by assumption) (by omega) (by omega) rfl ?_
      refine x_aload_n D_1_grainsFor_34 rfl ?_
      refine x_getfield D_1_grainsFor_35 f_1_53 (by assumption) rfl ?_
      refine x_aload_n D_1_grainsFor_38 rfl ?_
      refine x_getfield D_1_grainsFor_39 f_1_56 (by assumption) rfl ?_
      refine x_iload_n D_1_grainsFor_42 rfl ?_
      refine x_iaload D_1_grainsFor_43 (by assumption) (by omega) (by omega) rfl ?_
      refine x_iaload D_1_grainsFor_44 (by assumption) (by omega) (by omega) rfl ?_
      rw [hDs.1]
      refine x_imul D_1_grainsFor_45 ?_
      refine x_aload_n D_1_grainsFor_46 rfl ?_
      refine x_getfield D_1_grainsFor_47 f_1_59 (by assumption) rfl ?_
      refine x_iload_n D_1_grainsFor_50 rfl ?_
      refine x_iaload D_1_grainsFor_51 (by assumption) (by omega) (by omega) rfl ?_
      refine x_icmp_lt D_1_grainsFor_52 ⟨by omega, by omega⟩ ⟨by omega, by omega⟩ (fun c52 => ?_) (fun c52 => ?_)
      · refine x_iinc D_1_grainsFor_62 rfl rfl rfl rfl ?_
        refine x_goto D_1_grainsFor_65 ?_
        first | exact (ih (k + 1) _ (by rw [hv, gfF, if_neg (by omega)]) (by omega)).sub rfl | exact (ih (k + 1) _ (by rw [hv, gfF, if_pos (by omega)]) (by omega)).sub rfl
      refine x_iload_n D_1_grainsFor_55 rfl ?_
      refine x_iconst D_1_grainsFor_56 ?_
      refine x_iload D_1_grainsFor_57 rfl ?_
      refine x_ishl D_1_grainsFor_59 ?_
      refine x_ior D_1_grainsFor_60 ?_
      refine x_istore_n D_1_grainsFor_61 rfl rfl rfl ?_
      refine x_iinc D_1_grainsFor_62 rfl rfl rfl rfl ?_
      refine x_goto D_1_grainsFor_65 ?_
      first | exact (ih (k + 1) _ (by rw [hv, gfF, if_neg (by omega)]) (by omega)).sub rfl | exact (ih (k + 1) _ (by rw [hv, gfF, if_pos (by omega)]) (by omega)).sub rfl
  refine x_aload_n D_1_grainsFor_0 rfl ?_
  refine x_getfield D_1_grainsFor_1 f_1_41 (by assumption) rfl ?_
  refine x_iload_n D_1_grainsFor_4 rfl ?_
  refine x_invSN (d' := d - 1) D_1_grainsFor_5 l_1_46 mi_5_isIn (c_5_isIn (by omega))  rfl (by omega) rfl (fun q => q) rfl rfl (fun r5 h5 q5 => ?_)
  obtain ⟨rfl, rfl⟩ := q5
  refine x_if_eqb D_1_grainsFor_8 (fun c8 => ?_) (fun c8 => ?_)
  · refine x_iconst D_1_grainsFor_13 ?_
    refine x_istore_n D_1_grainsFor_14 rfl rfl rfl ?_
    refine x_iconst D_1_grainsFor_15 ?_
    refine x_istore D_1_grainsFor_16 rfl rfl rfl ?_
    exact (loop c 0 0 rfl (by omega)).sub rfl
  exact absurd c8 hsd
theorem rowG {o s : Nat} (hs : s < 8) : (fun s : Nat => if s < 8 then some (o + 2 + s) else none) ((s : Int).toNat) = some (o + 2 + s) := by
  simp [hs]
theorem c_1_mostFrom {d : Nat} (hd : 1 ≤ d) {z : Nat × Nat} {h : Hp} {o t : Nat} {T : TT} {D : Int → Int} {sd gv : Int} {s k : Nat} {M1 M : Int → Int} (hO : h o = some (ob 1 [.ref (o + 1), .ref (o + 10), vi gv])) (hG : h (o + 1) = some (ra 1 8 (fun s => if s < 8 then some (o + 2 + s) else none))) (hR : h (o + 2 + (s + 1)) = some (ia 0 256 M1)) (hT : TabAt h t T) (hk : TabOk T) (hs : s < nSa T) (hkk : k < 2 ^ nGr T) (hM : ∀ q : Nat, q < 2 ^ nGr T → M1 (q : Int) = M (q : Int)) (hMr : ∀ q, 0 ≤ M q ∧ M q ≤ 693) :
    Ct d m_1_mostFrom [.ref o, .ref t, vi (gf T D sd s), vi s, vi k] z z h (Pu (mfold T D sd s M k (nGr T)) h) := by
  refine Ct.of (by decide) ⟨Nat.le_refl _, Nat.le_refl _⟩ (Nat.le_of_ble_eq_true rfl) ?_
  obtain ⟨a0, a1, a2, a3, a4, a5, a6, a7, a8⟩ := hT
  have k2 := hk.2.1
  have k4 := hk.2.2.1
  have hs4 : (s : Int) < T 4 0 := by unfold nSa at hs; omega
  have k5 := (hk.2.2.2.2.2.2.2.1 (s : Int) (by omega) hs4).2.2.1
  obtain ⟨c, hc⟩ : ∃ c : Nat, T 2 0 = (c : Int) := ⟨_, (Int.toNat_of_nonneg k2.1).symm⟩
  have hc2 : nGr T = c := by unfold nGr; omega
  have hp : 2 ^ nGr T ≤ 256 := pow_le (m := 8) (by omega)
  rw [hc2] at hkk hM hp
  have loop : ∀ (f g : Nat) (v : Int), v = mfold T D sd s M k g → c = g + f → WW d m_1_mostFrom z (Pu (mfold T D sd s M k (nGr T)) h) z h 16 [(0, .ref o), (1, .ref t), (2, vi (gf T D sd s)), (3, vi s), (4, vi k), (5, vi v), (6, vi g)] [] := by
    intro f
    induction f with
    | zero =>
      intro g v hv hf
      refine x_iload D_1_mostFrom_16 rfl ?_
      refine x_aload_n D_1_mostFrom_18 rfl ?_
      refine x_getfield D_1_mostFrom_19 f_1_20 (by assumption) rfl ?_
      refine x_icmp_ge D_1_mostFrom_22 ⟨by omega, by omega⟩ ⟨by omega, by omega⟩ (fun c22 => ?_) (fun c22 => ?_)
      · refine x_iload D_1_mostFrom_75 rfl ?_
        refine x_ireturn D_1_mostFrom_77 rfl (by first | rfl | exact nb_bi _ | decide +kernel) rfl ?_
        exact Pu.e (by rw [hv, hc2, hf]; rfl)
      exact absurd c22 (by omega)
    | succ f ih =>
      intro g v hv hf
      have hmg := may_gf hk (D := D) (sd := sd) (s := (s : Int)) (set := (k : Int)) (g := g) (by omega)
      obtain ⟨m, hm1, hm2⟩ := iAnd_le (k := k) (by omega) (iXor (iShl 1 (g : Int)) (-1))
      have hMm := hMr (m : Int)
      have hvr := mfold_rng (D := D) (sd := sd) (set := (k : Int)) k5 hMr g
      rw [← hv] at hvr
      refine x_iload D_1_mostFrom_16 rfl ?_
      refine x_aload_n D_1_mostFrom_18 rfl ?_
      refine x_getfield D_1_mostFrom_19 f_1_20 (by assumption) rfl ?_
      refine x_icmp_ge D_1_mostFrom_22 ⟨by omega, by omega⟩ ⟨by omega, by omega⟩ (fun c22 => ?_) (fun c22 => ?_)
      · exact absurd c22 (by omega)
      refine x_iload D_1_mostFrom_25 rfl ?_
      refine x_iload_n D_1_mostFrom_27 rfl ?_
      refine x_iand D_1_mostFrom_28 ?_
      refine x_iload D_1_mostFrom_29 rfl ?_
      refine x_invSN (d' := d - 1) D_1_mostFrom_31 l_1_46 mi_5_isIn (c_5_isIn (by omega))  rfl (by omega) rfl (fun q => q) rfl rfl (fun r31 h31 q31 => ?_)
      obtain ⟨rfl, rfl⟩ := q31
      refine x_if_eqb D_1_mostFrom_34 (fun c34 => ?_) (fun c34 => ?_)
      · refine x_iinc D_1_mostFrom_69 rfl rfl rfl rfl ?_
        refine x_goto D_1_mostFrom_72 ?_
        first | exact (ih (g + 1) _ (by rw [hv, mfold_f (fun q => c34 (hmg.mpr q))]) (by omega)).sub rfl | exact (ih (g + 1) _ (by rw [mfold_t (hmg.mp c34), hv, clr, hm2]; rfl) (by omega)).sub rfl
      refine x_iload D_1_mostFrom_37 rfl ?_
      refine x_aload_n D_1_mostFrom_39 rfl ?_
      refine x_getfield D_1_mostFrom_40 f_1_62 (by assumption) rfl ?_
      refine x_iload_n D_1_mostFrom_43 rfl ?_
      refine x_iaload D_1_mostFrom_44 (by assumption) (by omega) (by omega) rfl ?_
      refine x_aload_n D_1_mostFrom_45 rfl ?_
      refine x_getfield D_1_mostFrom_46 f_1_11 (by assumption) rfl ?_
      refine x_iload_n D_1_mostFrom_49 rfl ?_
      refine x_iconst D_1_mostFrom_50 ?_
      refine x_iadd D_1_mostFrom_51 ?_
      refine x_aaload1 D_1_mostFrom_52 hG (by omega) (by omega) rfl (q0 := o + 2 + (s + 1)) (rowG (s := s + 1) (by omega)) ?_
      refine x_iload D_1_mostFrom_53 rfl ?_
      refine x_iconst D_1_mostFrom_55 ?_
      refine x_iload D_1_mostFrom_56 rfl ?_
      refine x_ishl D_1_mostFrom_58 ?_
      refine x_iconst D_1_mostFrom_59 ?_
      refine x_ixor D_1_mostFrom_60 ?_
      refine x_iand D_1_mostFrom_61 ?_
      rw [hm2]
      refine x_iaload D_1_mostFrom_62 (by assumption) (by omega) (by omega) rfl ?_
      rw [hM m (by omega)]
      refine x_iadd D_1_mostFrom_63 ?_
      refine x_max D_1_mostFrom_64 l_1_65 ⟨by omega, by omega⟩ ⟨by omega, by omega⟩ (by omega) rfl ?_
      refine x_istore D_1_mostFrom_67 rfl rfl rfl ?_
      refine x_iinc D_1_mostFrom_69 rfl rfl rfl rfl ?_
      refine x_goto D_1_mostFrom_72 ?_
      first | exact (ih (g + 1) _ (by rw [hv, mfold_f (fun q => c34 (hmg.mpr q))]) (by omega)).sub rfl | exact (ih (g + 1) _ (by rw [mfold_t (hmg.mp c34), hv, clr, hm2]; rfl) (by omega)).sub rfl
  refine x_aload_n D_1_mostFrom_0 rfl ?_
  refine x_getfield D_1_mostFrom_1 f_1_11 (by assumption) rfl ?_
  refine x_iload_n D_1_mostFrom_4 rfl ?_
  refine x_iconst D_1_mostFrom_5 ?_
  refine x_iadd D_1_mostFrom_6 ?_
  refine x_aaload1 D_1_mostFrom_7 hG (by omega) (by omega) rfl (q0 := o + 2 + (s + 1)) (rowG (s := s + 1) (by omega)) ?_
  refine x_iload D_1_mostFrom_8 rfl ?_
  refine x_iaload D_1_mostFrom_10 (by assumption) (by omega) (by omega) rfl ?_
  rw [hM k (by omega)]
  refine x_istore D_1_mostFrom_11 rfl rfl rfl ?_
  refine x_iconst D_1_mostFrom_13 ?_
  refine x_istore D_1_mostFrom_14 rfl rfl rfl ?_
  exact (loop c 0 _ rfl (by omega)).sub rfl
theorem c_1_firstGrain {d : Nat} (hd : 1 ≤ d) {z : Nat × Nat} {h : Hp} {o t : Nat} {T : TT} {D : Int → Int} {sd gv : Int} {s k : Nat} {M0 M1 M : Int → Int} {B : Int} (hO : h o = some (ob 1 [.ref (o + 1), .ref (o + 10), vi gv])) (hG : h (o + 1) = some (ra 1 8 (fun s => if s < 8 then some (o + 2 + s) else none))) (hR : h (o + 2 + (s + 1)) = some (ia 0 256 M1)) (hR0 : h (o + 2 + s) = some (ia 0 256 M0)) (hT : TabAt h t T) (hk : TabOk T) (hs : s < nSa T) (hkk : k < 2 ^ nGr T) (hM : ∀ q : Nat, q < 2 ^ nGr T → M1 (q : Int) = M (q : Int)) (hMr : ∀ q, 0 ≤ M q ∧ M q ≤ 693) (hB : M0 (k : Int) = B) (hBr : 0 ≤ B ∧ B ≤ 693) :
    Ct d m_1_firstGrain [.ref o, .ref t, vi (iAnd k (gf T D sd s)), vi s, vi k] z z h (Pu (ffd T D sd s M B k (nGr T)) h) := by
  refine Ct.of (by decide) ⟨Nat.le_refl _, Nat.le_refl _⟩ (Nat.le_of_ble_eq_true rfl) ?_
  obtain ⟨a0, a1, a2, a3, a4, a5, a6, a7, a8⟩ := hT
  have k2 := hk.2.1
  have k4 := hk.2.2.1
  have hs4 : (s : Int) < T 4 0 := by unfold nSa at hs; omega
  have k5 := (hk.2.2.2.2.2.2.2.1 (s : Int) (by omega) hs4).2.2.1
  obtain ⟨c, hc⟩ : ∃ c : Nat, T 2 0 = (c : Int) := ⟨_, (Int.toNat_of_nonneg k2.1).symm⟩
  have hc2 : nGr T = c := by unfold nGr; omega
  have hp : 2 ^ nGr T ≤ 256 := pow_le (m := 8) (by omega)
  rw [hc2] at hkk hM hp
  have loop : ∀ (f g : Nat), ffd T D sd s M B k (nGr T) = ffd T D sd s M B k f → c = g + f → WW d m_1_firstGrain z (Pu (ffd T D sd s M B k (nGr T)) h) z h 3 [(0, .ref o), (1, .ref t), (2, vi (iAnd k (gf T D sd s))), (3, vi s), (4, vi k), (5, vi g)] [] := by
    intro f
    induction f with
    | zero =>
      intro g hv hf
      refine x_iload D_1_firstGrain_3 rfl ?_
      refine x_aload_n D_1_firstGrain_5 rfl ?_
      refine x_getfield D_1_firstGrain_6 f_1_20 (by assumption) rfl ?_
      refine x_icmp_ge D_1_firstGrain_9 ⟨by omega, by omega⟩ ⟨by omega, by omega⟩ (fun c9 => ?_) (fun c9 => ?_)
      · refine x_bipush D_1_firstGrain_67 (by decide +kernel) ?_
        refine x_ireturn D_1_firstGrain_69 rfl (by first | rfl | exact nb_bi _ | decide +kernel) rfl ?_
        exact Pu.e (by rw [hv]; rfl)
      exact absurd c9 (by omega)
    | succ f ih =>
      intro g hv hf
      have hmg := may_gf hk (D := D) (sd := sd) (s := (s : Int)) (set := (k : Int)) (g := g) (by omega)
      obtain ⟨m, hm1, hm2⟩ := iAnd_le (k := k) (by omega) (iXor (iShl 1 (g : Int)) (-1))
      have hMm := hMr (m : Int)
      have hcl : clr (k : Int) (g : Int) = (m : Int) := hm2
      refine x_iload D_1_firstGrain_3 rfl ?_
      refine x_aload_n D_1_firstGrain_5 rfl ?_
      refine x_getfield D_1_firstGrain_6 f_1_20 (by assumption) rfl ?_
      refine x_icmp_ge D_1_firstGrain_9 ⟨by omega, by omega⟩ ⟨by omega, by omega⟩ (fun c9 => ?_) (fun c9 => ?_)
      · exact absurd c9 (by omega)
      refine x_iload_n D_1_firstGrain_12 rfl ?_
      refine x_iload D_1_firstGrain_13 rfl ?_
      refine x_invSN (d' := d - 1) D_1_firstGrain_15 l_1_46 mi_5_isIn (c_5_isIn (by omega))  rfl (by omega) rfl (fun q => q) rfl rfl (fun r15 h15 q15 => ?_)
      obtain ⟨rfl, rfl⟩ := q15
      refine x_if_eqb D_1_firstGrain_18 (fun c18 => ?_) (fun c18 => ?_)
      · refine x_iinc D_1_firstGrain_61 rfl rfl rfl rfl ?_
        refine x_goto D_1_firstGrain_64 ?_
        first | exact (ih (g + 1) (by rw [hv, ffd_f (g := g) (by omega) (fun q => c18 (hmg.mpr q.1))]) (by omega)).sub rfl | exact (ih (g + 1) (by rw [hv, ffd_f (g := g) (by omega) (fun q => c55 (by rw [← hcl]; exact q.2))]) (by omega)).sub rfl
      refine x_aload_n D_1_firstGrain_21 rfl ?_
      refine x_getfield D_1_firstGrain_22 f_1_62 (by assumption) rfl ?_
      refine x_iload_n D_1_firstGrain_25 rfl ?_
      refine x_iaload D_1_firstGrain_26 (by assumption) (by omega) (by omega) rfl ?_
      refine x_aload_n D_1_firstGrain_27 rfl ?_
      refine x_getfield D_1_firstGrain_28 f_1_11 (by assumption) rfl ?_
      refine x_iload_n D_1_firstGrain_31 rfl ?_
      refine x_iconst D_1_firstGrain_32 ?_
      refine x_iadd D_1_firstGrain_33 ?_
      refine x_aaload1 D_1_firstGrain_34 hG (by omega) (by omega) rfl (q0 := o + 2 + (s + 1)) (rowG (s := s + 1) (by omega)) ?_
      refine x_iload D_1_firstGrain_35 rfl ?_
      refine x_iconst D_1_firstGrain_37 ?_
      refine x_iload D_1_firstGrain_38 rfl ?_
      refine x_ishl D_1_firstGrain_40 ?_
      refine x_iconst D_1_firstGrain_41 ?_
      refine x_ixor D_1_firstGrain_42 ?_
      refine x_iand D_1_firstGrain_43 ?_
      rw [hm2]
      refine x_iaload D_1_firstGrain_44 (by assumption) (by omega) (by omega) rfl ?_
      rw [hM m (by omega)]
      refine x_iadd D_1_firstGrain_45 ?_
      refine x_aload_n D_1_firstGrain_46 rfl ?_
      refine x_getfield D_1_firstGrain_47 f_1_11 (by assumption) rfl ?_
      refine x_iload_n D_1_firstGrain_50 rfl ?_
      refine x_aaload1 D_1_firstGrain_51 hG (by omega) (by omega) rfl (q0 := o + 2 + s) (rowG (s := s) (by omega)) ?_
      refine x_iload D_1_firstGrain_52 rfl ?_
      refine x_iaload D_1_firstGrain_54 (by assumption) (by omega) (by omega) rfl ?_
      rw [hB]
      refine x_icmp_ne D_1_firstGrain_55 ⟨by omega, by omega⟩ ⟨by omega, by omega⟩ (fun c55 => ?_) (fun c55 => ?_)
      · refine x_iinc D_1_firstGrain_61 rfl rfl rfl rfl ?_
        refine x_goto D_1_firstGrain_64 ?_
        first | exact (ih (g + 1) (by rw [hv, ffd_f (g := g) (by omega) (fun q => c18 (hmg.mpr q.1))]) (by omega)).sub rfl | exact (ih (g + 1) (by rw [hv, ffd_f (g := g) (by omega) (fun q => c55 (by rw [← hcl]; exact q.2))]) (by omega)).sub rfl
      refine x_iload D_1_firstGrain_58 rfl ?_
      refine x_ireturn D_1_firstGrain_60 rfl (by first | rfl | exact nb_bi _ | decide +kernel) rfl ?_
      exact Pu.e (by rw [hv, ffd_t (by omega) ⟨hmg.mp c18, by rw [hcl]; exact c55⟩])
  refine x_iconst D_1_firstGrain_0 ?_
  refine x_istore D_1_firstGrain_1 rfl rfl rfl ?_
  exact (loop c 0 (by rw [hc2]) (by omega)).sub rfl
