/-! the reference's own picture of a state -/
def tbU (U : TT) : TT := fun a => match a with
  | 0 => U 0 | 1 => U 5 | 2 => U 1 | 3 => U 6 | 4 => U 2 | 5 => U 7 | 6 => U 8 | 7 => U 9 | 8 => U 10 | 9 => U 3 | 10 => U 11 | 11 => U 12 | 12 => U 4
  | _ => fun _ => 0

theorem ups_eq (F : Int → Int) (j v : Int) : ups F j v j = v := if_pos rfl
theorem ups_ne (F : Int → Int) {j k : Int} (v : Int) (h : k ≠ j) : ups F j v k = F k := if_neg h
theorem upr_eq (U : TT) (k : Nat) (F : Int → Int) : upr U k F k = F := if_pos rfl
theorem upr_ne (U : TT) {k a : Nat} (F : Int → Int) (h : a ≠ k) : upr U k F a = U a := if_neg h
def RF (U : TT) (len : Int) (Bt : Int → Int) (T : TT) (st : SS) (u : Nat) (un : Nat → SS) (kc : Nat) (ke : Nat → SS) : Prop :=
  AgT T (tbU U) ∧ U 13 = st ∧ (U 15 0 = (u : Int) ∧ U 17 0 = (kc : Int) ∧ U 19 0 = len) ∧ (∀ j : Nat, j < u → ∀ k : Int, 0 ≤ k → k < 23 → U 14 (23 * (j : Int) + k) = un j k) ∧ (∀ j : Nat, j < kc → ∀ k : Int, 0 ≤ k → k < 23 → U 16 (23 * (j : Int) + k) = ke j k) ∧ ∀ j : Int, 0 ≤ j → j < len → U 18 j = ub (Bt j)
def RInv (h : Hp) (len : Int) (Bt : Int → Int) (T : TT) (st : SS) (u : Nat) (un : Nat → SS) (kc : Nat) (ke : Nat → SS) : Prop := ∃ U : TT, MdAt h U ∧ RF U len Bt T st u un kc ke
/-- what holds of a state, whoever keeps it -/
def Glob (b len : Int) (Bt : Int → Int) (T : TT) (st : SS) (u : Nat) (un : Nat → SS) (kc : Nat) (ke : Nat → SS) : Prop :=
  (TabOk T ∧ 1 ≤ T 0 0 ∧ 1 ≤ T 2 0) ∧ (0 ≤ len ∧ len ≤ 300) ∧ (∀ j : Int, -128 ≤ Bt j ∧ Bt j ≤ 127) ∧ (u ≤ 8 ∧ kc ≤ 2 ∧ 0 ≤ b ∧ b + 1000 ≤ 1000000) ∧ StOk T st b
theorem CInv.glob {h : Hp} {b len : Int} {Bt : Int → Int} {T : TT} {st : SS} {u : Nat} {un : Nat → SS} {kc : Nat} {ke : Nat → SS} (hI : CInv h b len Bt T st u un kc ke) (hbb : b + 1000 ≤ 1000000) : Glob b len Bt T st u un kc ke := by
  obtain ⟨lt, dt, E, bf, B, K, hP, hE, hk, hln, hBt, hu, hS, hRu, hRk⟩ := hI
  exact ⟨hk, hln, hBt, ⟨hu.1, hu.2.1, hu.2.2.1, hbb⟩, hS.1⟩
abbrev RQ (v : Int) (h0 : Hp) (len : Int) (Bt : Int → Int) (T : TT) (st : SS) (u : Nat) (un : Nat → SS) (kc : Nat) (ke : Nat → SS) : Option Value → Hp → Prop := fun r h' => r = some (vi v) ∧ RInv h' len Bt T st u un kc ke ∧ ∀ q : Nat, (q < 102 ∨ 128 < q) → h' q = h0 q
theorem bi_iff {p q : Prop} [Decidable p] [Decidable q] (h : p ↔ q) : bi p = bi q := by
  unfold bi
  by_cases hp : p
  · rw [if_pos hp, if_pos (h.mp hp)]
  · rw [if_neg hp, if_neg (fun w => hp (h.mpr w))]
theorem RQ.same {v w len : Int} {h : Hp} {Bt : Int → Int} {T : TT} {st : SS} {u : Nat} {un : Nat → SS} {kc : Nat} {ke : Nat → SS} (hI : RInv h len Bt T st u un kc ke) (e : w = v) : RQ v h len Bt T st u un kc ke (some (vi w)) h := by
  subst e
  exact ⟨rfl, hI, fun _ _ => rfl⟩
/-- the table's cells, by the fields -/
theorem RF.tab {U : TT} {len : Int} {Bt : Int → Int} {T : TT} {st : SS} {u : Nat} {un : Nat → SS} {kc : Nat} {ke : Nat → SS} (h : RF U len Bt T st u un kc ke) : (U 0 0 = T 0 0 ∧ U 1 0 = T 2 0 ∧ U 2 0 = T 4 0 ∧ U 3 0 = T 9 0 ∧ U 4 0 = T 12 0) ∧ (∀ i : Int, 0 ≤ i → i < T 0 0 → U 5 i = T 1 i) ∧ (∀ g : Int, 0 ≤ g → g < T 2 0 → U 6 g = T 3 g) ∧ (∀ s : Int, 0 ≤ s → s < T 4 0 → U 7 s = T 5 s) ∧ (∀ s : Int, 0 ≤ s → s < T 4 0 → U 8 s = T 6 s) ∧ (∀ s : Int, 0 ≤ s → s < T 4 0 → U 9 s = T 7 s) ∧ (∀ s : Int, 0 ≤ s → s < T 4 0 → U 10 s = T 8 s) ∧ (∀ k : Int, 0 ≤ k → k < T 9 0 → U 11 k = T 10 k) ∧ (∀ k : Int, 0 ≤ k → k < T 9 0 → U 12 k = T 11 k) := by
  obtain ⟨⟨⟨h0, h2, h4, h9, h12⟩, a, b, c, e⟩, -⟩ := h
  exact ⟨⟨h0.symm, h2.symm, h4.symm, h9.symm, h12.symm⟩, fun i i0 i1 => (a i i0 i1).symm, fun i i0 i1 => (b i i0 i1).symm, fun i i0 i1 => (c i i0 i1).1.symm, fun i i0 i1 => (c i i0 i1).2.1.symm, fun i i0 i1 => (c i i0 i1).2.2.1.symm, fun i i0 i1 => (c i i0 i1).2.2.2.symm, fun i i0 i1 => (e i i0 i1).1.symm, fun i i0 i1 => (e i i0 i1).2.symm⟩
section R1
variable {d : Nat} {z : Nat × Nat} {h : Hp} {b len : Int} {Bt : Int → Int} {T : TT} {st : SS} {u : Nat} {un : Nat → SS} {kc : Nat} {ke : Nat → SS}
theorem c_6_isPerson (hd : 1 ≤ d) {U : TT} (hm : MdAt h U) (hk : TabOk T) (h0 : U 0 0 = T 0 0) {i : Int} (hi : B3 i) : Ct d m_6_isPerson [.ref 102, vi i] z z h (Pu (bi (0 ≤ i ∧ i < T 0 0)) h) := by
  refine Ct.of (by decide) ⟨Nat.le_refl _, Nat.le_refl _⟩ (Nat.le_of_ble_eq_true rfl) ?_
  have k0 := hk.1
  refine x_iload_n D_6_isPerson_0 rfl ?_
  refine x_iconst D_6_isPerson_1 ?_
  refine x_aload_n D_6_isPerson_2 rfl ?_
  refine x_getfield D_6_isPerson_3 f_6_108 (md_o hm) rfl ?_
  rw [h0]
  refine x_iconst D_6_isPerson_6 ?_
  refine x_isub D_6_isPerson_7 ?_
  refine x_invS2 (d' := d - 1) D_6_isPerson_8 l_6_111 mi_6_in (c_6_in (by omega) hi ⟨by omega, by omega⟩ ⟨by omega, by omega⟩)  rfl (by omega) rfl (fun q => q) rfl rfl (fun r8 h8 q8 => ?_)
  obtain ⟨rfl, rfl⟩ := q8
  refine x_ireturn D_6_isPerson_11 rfl (by first | rfl | exact nb_bi _ | decide +kernel) rfl ?_
  exact ⟨congrArg (fun x => some (vi x)) (bi_iff ⟨fun q => ⟨q.1, by omega⟩, fun q => ⟨q.1, by omega⟩⟩), rfl⟩
theorem c_6_isGrain (hd : 1 ≤ d) {U : TT} (hm : MdAt h U) (hk : TabOk T) (h0 : U 1 0 = T 2 0) {i : Int} (hi : B3 i) : Ct d m_6_isGrain [.ref 102, vi i] z z h (Pu (bi (0 ≤ i ∧ i < T 2 0)) h) := by
  refine Ct.of (by decide) ⟨Nat.le_refl _, Nat.le_refl _⟩ (Nat.le_of_ble_eq_true rfl) ?_
  have k0 := hk.2.1
  refine x_iload_n D_6_isGrain_0 rfl ?_
  refine x_iconst D_6_isGrain_1 ?_
  refine x_aload_n D_6_isGrain_2 rfl ?_
  refine x_getfield D_6_isGrain_3 f_6_115 (md_o hm) rfl ?_
  rw [h0]
  refine x_iconst D_6_isGrain_6 ?_
  refine x_isub D_6_isGrain_7 ?_
  refine x_invS2 (d' := d - 1) D_6_isGrain_8 l_6_111 mi_6_in (c_6_in (by omega) hi ⟨by omega, by omega⟩ ⟨by omega, by omega⟩)  rfl (by omega) rfl (fun q => q) rfl rfl (fun r8 h8 q8 => ?_)
  obtain ⟨rfl, rfl⟩ := q8
  refine x_ireturn D_6_isGrain_11 rfl (by first | rfl | exact nb_bi _ | decide +kernel) rfl ?_
  exact ⟨congrArg (fun x => some (vi x)) (bi_iff ⟨fun q => ⟨q.1, by omega⟩, fun q => ⟨q.1, by omega⟩⟩), rfl⟩
theorem c_6_isSaying (hd : 1 ≤ d) {U : TT} (hm : MdAt h U) (hk : TabOk T) (h0 : U 2 0 = T 4 0) {i : Int} (hi : B3 i) : Ct d m_6_isSaying [.ref 102, vi i] z z h (Pu (bi (0 ≤ i ∧ i < T 4 0)) h) := by
  refine Ct.of (by decide) ⟨Nat.le_refl _, Nat.le_refl _⟩ (Nat.le_of_ble_eq_true rfl) ?_
  have k0 := hk.2.2.1
  refine x_iload_n D_6_isSaying_0 rfl ?_
  refine x_iconst D_6_isSaying_1 ?_
  refine x_aload_n D_6_isSaying_2 rfl ?_
  refine x_getfield D_6_isSaying_3 f_6_118 (md_o hm) rfl ?_
  rw [h0]
  refine x_iconst D_6_isSaying_6 ?_
  refine x_isub D_6_isSaying_7 ?_
  refine x_invS2 (d' := d - 1) D_6_isSaying_8 l_6_111 mi_6_in (c_6_in (by omega) hi ⟨by omega, by omega⟩ ⟨by omega, by omega⟩)  rfl (by omega) rfl (fun q => q) rfl rfl (fun r8 h8 q8 => ?_)
  obtain ⟨rfl, rfl⟩ := q8
  refine x_ireturn D_6_isSaying_11 rfl (by first | rfl | exact nb_bi _ | decide +kernel) rfl ?_
  exact ⟨congrArg (fun x => some (vi x)) (bi_iff ⟨fun q => ⟨q.1, by omega⟩, fun q => ⟨q.1, by omega⟩⟩), rfl⟩
theorem c_6_dryBy (hd : 0 ≤ d) {a c : Int} (ha : -100 ≤ a ∧ a ≤ 100) (hc : -100 ≤ c ∧ c ≤ 100) : Ct d m_6_dryBy [vi a, vi c] z z h (Pu (dryBy a c) h) := by
  refine Ct.of (by decide) ⟨Nat.le_refl _, Nat.le_refl _⟩ (Nat.le_of_ble_eq_true rfl) ?_
  refine x_iload_n D_6_dryBy_0 rfl ?_
  refine x_iload_n D_6_dryBy_1 rfl ?_
  refine x_iadd D_6_dryBy_2 ?_
  refine x_istore_n D_6_dryBy_3 rfl rfl rfl ?_
  refine x_iload_n D_6_dryBy_4 rfl ?_
  refine x_iconst D_6_dryBy_5 ?_
  refine x_icmp_ge D_6_dryBy_6 ⟨by omega, by omega⟩ ⟨by omega, by omega⟩ (fun c6 => ?_) (fun c6 => ?_)
  · refine x_iload_n D_6_dryBy_13 rfl ?_
    refine x_bipush D_6_dryBy_14 (by decide +kernel) ?_
    refine x_icmp_le D_6_dryBy_16 ⟨by omega, by omega⟩ ⟨by omega, by omega⟩ (fun c16 => ?_) (fun c16 => ?_)
    · refine x_iload_n D_6_dryBy_24 rfl ?_
      refine x_ireturn D_6_dryBy_25 rfl (by first | rfl | exact nb_bi _ | decide +kernel) rfl ?_
      first
      | (exfalso; omega)
      | exact ⟨by unfold dryBy; rw [if_pos (by omega)], rfl⟩
      | exact ⟨by unfold dryBy; rw [if_neg (by omega), if_pos (by omega)], rfl⟩
      | exact ⟨by unfold dryBy; rw [if_neg (by omega), if_neg (by omega)], rfl⟩
    refine x_bipush D_6_dryBy_19 (by decide +kernel) ?_
    refine x_goto D_6_dryBy_21 ?_
    refine x_ireturn D_6_dryBy_25 rfl (by first | rfl | exact nb_bi _ | decide +kernel) rfl ?_
    first
    | (exfalso; omega)
    | exact ⟨by unfold dryBy; rw [if_pos (by omega)], rfl⟩
    | exact ⟨by unfold dryBy; rw [if_neg (by omega), if_pos (by omega)], rfl⟩
    | exact ⟨by unfold dryBy; rw [if_neg (by omega), if_neg (by omega)], rfl⟩
  refine x_iconst D_6_dryBy_9 ?_
  refine x_goto D_6_dryBy_10 ?_
  refine x_ireturn D_6_dryBy_25 rfl (by first | rfl | exact nb_bi _ | decide +kernel) rfl ?_
  first
  | (exfalso; omega)
  | exact ⟨by unfold dryBy; rw [if_pos (by omega)], rfl⟩
  | exact ⟨by unfold dryBy; rw [if_neg (by omega), if_pos (by omega)], rfl⟩
  | exact ⟨by unfold dryBy; rw [if_neg (by omega), if_neg (by omega)], rfl⟩
theorem c_6_isMelting (hd : 0 ≤ d) {U : TT} (hm : MdAt h U) (hst : U 13 = st) (hb : b ≤ 1000000) (hS : StOk T st b) (hk : TabOk T) : Ct d m_6_isMelting [.ref 102] z z h (Pu (bi (melting st)) h) := by
  refine Ct.of (by decide) ⟨Nat.le_refl _, Nat.le_refl _⟩ (Nat.le_of_ble_eq_true rfl) ?_
  have s0 := hS.1
  have s1 := hS.2.1
  have s2 := hS.2.2.1
  have k0 := hk.1
  unfold melting
  refine x_aload_n D_6_isMelting_0 rfl ?_
  refine x_getfield D_6_isMelting_1 f_6_34 (md_o hm) rfl ?_
  refine x_iconst D_6_isMelting_4 ?_
  refine x_iaload D_6_isMelting_5 (md_a13 hm) (by omega) (by omega) rfl ?_
  rw [hst]
  refine x_bipush D_6_isMelting_6 (by decide +kernel) ?_
  refine x_icmp_eq D_6_isMelting_8 ⟨by omega, by omega⟩ ⟨by omega, by omega⟩ (fun c8 => ?_) (fun c8 => ?_)
  · refine x_iconst D_6_isMelting_30 ?_
    refine x_ireturn D_6_isMelting_31 rfl (by first | rfl | exact nb_bi _ | decide +kernel) rfl ?_
    first
    | exact Pu.t ⟨by omega, by omega⟩
    | exact Pu.f (fun q => absurd q.1 (by omega))
    | exact Pu.f (fun q => absurd q.2 (by omega))
  refine x_aload_n D_6_isMelting_11 rfl ?_
  refine x_getfield D_6_isMelting_12 f_6_34 (md_o hm) rfl ?_
  refine x_iconst D_6_isMelting_15 ?_
  refine x_iaload D_6_isMelting_16 (md_a13 hm) (by omega) (by omega) rfl ?_
  rw [hst]
  refine x_aload_n D_6_isMelting_17 rfl ?_
  refine x_getfield D_6_isMelting_18 f_6_34 (md_o hm) rfl ?_
  refine x_iconst D_6_isMelting_21 ?_
  refine x_iaload D_6_isMelting_22 (md_a13 hm) (by omega) (by omega) rfl ?_
  rw [hst]
  refine x_icmp_ge D_6_isMelting_23 ⟨by omega, by omega⟩ ⟨by omega, by omega⟩ (fun c23 => ?_) (fun c23 => ?_)
  · refine x_iconst D_6_isMelting_30 ?_
    refine x_ireturn D_6_isMelting_31 rfl (by first | rfl | exact nb_bi _ | decide +kernel) rfl ?_
    first
    | exact Pu.t ⟨by omega, by omega⟩
    | exact Pu.f (fun q => absurd q.1 (by omega))
    | exact Pu.f (fun q => absurd q.2 (by omega))
  refine x_iconst D_6_isMelting_26 ?_
  refine x_goto D_6_isMelting_27 ?_
  refine x_ireturn D_6_isMelting_31 rfl (by first | rfl | exact nb_bi _ | decide +kernel) rfl ?_
  first
  | exact Pu.t ⟨by omega, by omega⟩
  | exact Pu.f (fun q => absurd q.1 (by omega))
  | exact Pu.f (fun q => absurd q.2 (by omega))
theorem c_6_shareOf (hd : 1 ≤ d) {U : TT} (hm : MdAt h U) (hF : RF U len Bt T st u un kc ke) (hk : TabOk T) {i : Int} (hi : B3 i) : Ct d m_6_shareOf [.ref 102, vi i] z z h (Pu (shS T (st 4) i (nSa T)) h) := by
  refine Ct.of (by decide) ⟨Nat.le_refl _, Nat.le_refl _⟩ (Nat.le_of_ble_eq_true rfl) ?_
  obtain ⟨⟨t0, t1, t2, t3, t4⟩, t5, t6, t7, t8, -⟩ := hF.tab
  have hst := hF.2.1
  have k4 := hk.2.2.1
  have loop : ∀ (f k : Nat), k + f = nSa T → WW d m_6_shareOf z (Pu (shS T (st 4) i (nSa T)) h) z h 4 [(0, .ref 102), (1, vi i), (2, vi (shS T (st 4) i k)), (3, vi (k : Int))] [] := by
    intro f
    induction f with
    | zero =>
      intro k hkk
      obtain rfl : k = nSa T := by omega
      unfold nSa at hkk ⊢
      refine x_iload_n D_6_shareOf_4 rfl ?_
      refine x_aload_n D_6_shareOf_5 rfl ?_
      refine x_getfield D_6_shareOf_6 f_6_118 (md_o hm) rfl ?_
      rw [t2]
      refine x_icmp_ge D_6_shareOf_9 ⟨by omega, by omega⟩ ⟨by omega, by omega⟩ (fun c9 => ?_) (fun c9 => ?_)
      · refine x_iload_n D_6_shareOf_54 rfl ?_
        refine x_ireturn D_6_shareOf_55 rfl (by first | rfl | exact nb_bi _ | decide +kernel) rfl ?_
        exact ⟨rfl, rfl⟩
      exact absurd c9 (by omega)
    | succ f ih =>
      intro k hkk
      have hkn : (k : Int) < T 4 0 := by unfold nSa at hkk; omega
      have h5 := (hk.2.2.2.2.2.2.2.1 (k : Int) (by omega) hkn).1
      have k0 := hk.1
      refine x_iload_n D_6_shareOf_4 rfl ?_
      refine x_aload_n D_6_shareOf_5 rfl ?_
      refine x_getfield D_6_shareOf_6 f_6_118 (md_o hm) rfl ?_
      rw [t2]
      refine x_icmp_ge D_6_shareOf_9 ⟨by omega, by omega⟩ ⟨by omega, by omega⟩ (fun c9 => ?_) (fun c9 => ?_)
      · exact absurd c9 (by omega)
      refine x_iload_n D_6_shareOf_12 rfl ?_
      refine x_aload_n D_6_shareOf_13 rfl ?_
      refine x_getfield D_6_shareOf_14 f_6_34 (md_o hm) rfl ?_
      refine x_iconst D_6_shareOf_17 ?_
      refine x_iaload D_6_shareOf_18 (md_a13 hm) (by omega) (by omega) rfl ?_
      rw [hst]
      refine x_iload_n D_6_shareOf_19 rfl ?_
      refine x_invS2 (d' := d - 1) D_6_shareOf_20 l_6_177 mi_6_has (c_6_has (by omega))  rfl (by omega) rfl (fun q => q) rfl rfl (fun r20 h20 q20 => ?_)
      obtain ⟨rfl, rfl⟩ := q20
      refine x_if_eqb D_6_shareOf_23 (fun c23 => ?_) (fun c23 => ?_)
      · refine x_iconst D_6_shareOf_45 ?_
        refine x_iadd D_6_shareOf_46 ?_
        refine x_istore_n D_6_shareOf_47 rfl rfl rfl ?_
        refine x_iinc D_6_shareOf_48 rfl rfl rfl rfl ?_
        refine x_goto D_6_shareOf_51 ?_
        first
        | exact (ih (k + 1) (by omega)).sub (by simp only [shS]; rw [if_pos ⟨c23, c33⟩]; rfl)
        | exact (ih (k + 1) (by omega)).sub (by simp only [shS]; rw [if_neg (fun q => c23 q.1)]; rfl)
        | exact (ih (k + 1) (by omega)).sub (by simp only [shS]; rw [if_neg (fun q => c33 q.2)]; rfl)
      refine x_aload_n D_6_shareOf_26 rfl ?_
      refine x_getfield D_6_shareOf_27 f_6_16 (md_o hm) rfl ?_
      refine x_iload_n D_6_shareOf_30 rfl ?_
      refine x_iaload D_6_shareOf_31 (md_a7 hm) (by omega) (by omega) rfl ?_
      rw [t7 _ (by omega) hkn]
      refine x_iload_n D_6_shareOf_32 rfl ?_
      refine x_icmp_ne D_6_shareOf_33 ⟨by omega, by omega⟩ ⟨by omega, by omega⟩ (fun c33 => ?_) (fun c33 => ?_)
      · refine x_iconst D_6_shareOf_45 ?_
        refine x_iadd D_6_shareOf_46 ?_
        refine x_istore_n D_6_shareOf_47 rfl rfl rfl ?_
        refine x_iinc D_6_shareOf_48 rfl rfl rfl rfl ?_
        refine x_goto D_6_shareOf_51 ?_
        first
        | exact (ih (k + 1) (by omega)).sub (by simp only [shS]; rw [if_pos ⟨c23, c33⟩]; rfl)
        | exact (ih (k + 1) (by omega)).sub (by simp only [shS]; rw [if_neg (fun q => c23 q.1)]; rfl)
        | exact (ih (k + 1) (by omega)).sub (by simp only [shS]; rw [if_neg (fun q => c33 q.2)]; rfl)
      refine x_aload_n D_6_shareOf_36 rfl ?_
      refine x_getfield D_6_shareOf_37 f_6_19 (md_o hm) rfl ?_
      refine x_iload_n D_6_shareOf_40 rfl ?_
      refine x_iaload D_6_shareOf_41 (md_a8 hm) (by omega) (by omega) rfl ?_
      rw [t8 _ (by omega) hkn]
      refine x_goto D_6_shareOf_42 ?_
      refine x_iadd D_6_shareOf_46 ?_
      refine x_istore_n D_6_shareOf_47 rfl rfl rfl ?_
      refine x_iinc D_6_shareOf_48 rfl rfl rfl rfl ?_
      refine x_goto D_6_shareOf_51 ?_
      first
      | exact (ih (k + 1) (by omega)).sub (by simp only [shS]; rw [if_pos ⟨c23, c33⟩]; rfl)
      | exact (ih (k + 1) (by omega)).sub (by simp only [shS]; rw [if_neg (fun q => c23 q.1)]; rfl)
      | exact (ih (k + 1) (by omega)).sub (by simp only [shS]; rw [if_neg (fun q => c33 q.2)]; rfl)
  refine x_iconst D_6_shareOf_0 ?_
  refine x_istore_n D_6_shareOf_1 rfl rfl rfl ?_
  refine x_iconst D_6_shareOf_2 ?_
  refine x_istore_n D_6_shareOf_3 rfl rfl rfl ?_
  exact (loop (nSa T) 0 (by omega)).sub rfl
theorem c_6_isInTime (hd : 1 ≤ d) {U : TT} (hm : MdAt h U) (hF : RF U len Bt T st u un kc ke) (hk : TabOk T) (hS : StOk T st b) (hb : b ≤ 1000000) {s : Int} (hs : 0 ≤ s ∧ s < T 4 0) : Ct d m_6_isInTime [.ref 102, vi s] z z h (Pu (bi (ansNow T st (T 8 s))) h) := by
  refine Ct.of (by decide) ⟨Nat.le_refl _, Nat.le_refl _⟩ (Nat.le_of_ble_eq_true rfl) ?_
  obtain ⟨⟨t0, t1, t2, t3, t4⟩, t5, t6, t7, t8, t9, t10, -⟩ := hF.tab
  have hst := hF.2.1
  have k4 := hk.2.2.1
  have k12 := hk.2.2.2.2.1
  have h8 := (hk.2.2.2.2.2.2.2.1 s hs.1 hs.2).2.2.2
  have s0 := hS.1
  have s9 := hS.2.2.2.2.2.2.2
  refine x_aload_n D_6_isInTime_0 rfl ?_
  refine x_getfield D_6_isInTime_1 f_6_25 (md_o hm) rfl ?_
  refine x_iload_n D_6_isInTime_4 rfl ?_
  refine x_iaload D_6_isInTime_5 (md_a10 hm) (by omega) (by omega) rfl ?_
  rw [t10 _ hs.1 hs.2]
  refine x_istore_n D_6_isInTime_6 rfl rfl rfl ?_
  refine x_iload_n D_6_isInTime_7 rfl ?_
  refine x_bipush D_6_isInTime_8 (by decide +kernel) ?_
  refine x_icmp_eq D_6_isInTime_10 ⟨by omega, by omega⟩ ⟨by omega, by omega⟩ (fun c10 => ?_) (fun c10 => ?_)
  · refine x_iconst D_6_isInTime_49 ?_
    refine x_goto D_6_isInTime_50 ?_
    refine x_ireturn D_6_isInTime_54 rfl (by first | rfl | exact nb_bi _ | decide +kernel) rfl ?_
    first
    | exact Pu.t (Or.inl (by omega))
    | exact Pu.t (Or.inr ⟨c23, by omega⟩)
    | exact Pu.f (fun q => q.elim (fun w => c10 w) (fun w => c23 w.1))
    | exact Pu.f (fun q => q.elim (fun w => c10 w) (fun w => absurd w.2 (by omega)))
  refine x_aload_n D_6_isInTime_13 rfl ?_
  refine x_getfield D_6_isInTime_14 f_6_34 (md_o hm) rfl ?_
  refine x_iconst D_6_isInTime_17 ?_
  refine x_iaload D_6_isInTime_18 (md_a13 hm) (by omega) (by omega) rfl ?_
  rw [hst]
  refine x_iload_n D_6_isInTime_19 rfl ?_
  refine x_invS2 (d' := d - 1) D_6_isInTime_20 l_6_177 mi_6_has (c_6_has (by omega))  rfl (by omega) rfl (fun q => q) rfl rfl (fun r20 h20 q20 => ?_)
  obtain ⟨rfl, rfl⟩ := q20
  refine x_if_eqb D_6_isInTime_23 (fun c23 => ?_) (fun c23 => ?_)
  · refine x_iconst D_6_isInTime_53 ?_
    refine x_ireturn D_6_isInTime_54 rfl (by first | rfl | exact nb_bi _ | decide +kernel) rfl ?_
    first
    | exact Pu.t (Or.inl (by omega))
    | exact Pu.t (Or.inr ⟨c23, by omega⟩)
    | exact Pu.f (fun q => q.elim (fun w => c10 w) (fun w => c23 w.1))
    | exact Pu.f (fun q => q.elim (fun w => c10 w) (fun w => absurd w.2 (by omega)))
  have hs2 : 0 ≤ st (16 + T 8 s) ∧ st (16 + T 8 s) ≤ b := by
    rcases s9 (T 8 s) (by omega) (by omega) with w | w
    · exact w.2
    · exact absurd c23 w.1
  refine x_aload_n D_6_isInTime_26 rfl ?_
  refine x_getfield D_6_isInTime_27 f_6_34 (md_o hm) rfl ?_
  refine x_iconst D_6_isInTime_30 ?_
  refine x_iaload D_6_isInTime_31 (md_a13 hm) (by omega) (by omega) rfl ?_
  rw [hst]
  refine x_aload_n D_6_isInTime_32 rfl ?_
  refine x_getfield D_6_isInTime_33 f_6_34 (md_o hm) rfl ?_
  refine x_bipush D_6_isInTime_36 (by decide +kernel) ?_
  refine x_iload_n D_6_isInTime_38 rfl ?_
  refine x_iadd D_6_isInTime_39 ?_
  refine x_iaload D_6_isInTime_40 (md_a13 hm) (by omega) (by omega) rfl ?_
  rw [hst]
  refine x_isub D_6_isInTime_41 ?_
  refine x_aload_n D_6_isInTime_42 rfl ?_
  refine x_getfield D_6_isInTime_43 f_6_168 (md_o hm) rfl ?_
  rw [t4]
  refine x_icmp_gt D_6_isInTime_46 ⟨by omega, by omega⟩ ⟨by omega, by omega⟩ (fun c46 => ?_) (fun c46 => ?_)
  · refine x_iconst D_6_isInTime_53 ?_
    refine x_ireturn D_6_isInTime_54 rfl (by first | rfl | exact nb_bi _ | decide +kernel) rfl ?_
    first
    | exact Pu.t (Or.inl (by omega))
    | exact Pu.t (Or.inr ⟨c23, by omega⟩)
    | exact Pu.f (fun q => q.elim (fun w => c10 w) (fun w => c23 w.1))
    | exact Pu.f (fun q => q.elim (fun w => c10 w) (fun w => absurd w.2 (by omega)))
  refine x_iconst D_6_isInTime_49 ?_
  refine x_goto D_6_isInTime_50 ?_
  refine x_ireturn D_6_isInTime_54 rfl (by first | rfl | exact nb_bi _ | decide +kernel) rfl ?_
  first
  | exact Pu.t (Or.inl (by omega))
  | exact Pu.t (Or.inr ⟨c23, by omega⟩)
  | exact Pu.f (fun q => q.elim (fun w => c10 w) (fun w => c23 w.1))
  | exact Pu.f (fun q => q.elim (fun w => c10 w) (fun w => absurd w.2 (by omega)))
end R1
