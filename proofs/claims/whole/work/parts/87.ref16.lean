/-- what the reference's matching reads -/
def MtF (U T : TT) (D : Int → Int) (st : SS) : Prop := (U 1 0 = T 2 0 ∧ U 2 0 = T 4 0) ∧ (∀ g : Int, 0 ≤ g → g < T 2 0 → U 6 g = T 3 g) ∧ (∀ s : Int, 0 ≤ s → s < T 4 0 → U 7 s = T 5 s ∧ U 8 s = T 6 s ∧ U 9 s = T 7 s) ∧ U 13 = st ∧ ∀ p : Int, 0 ≤ p → p < T 0 0 → U 38 p = D p ∧ 1 ≤ D p ∧ D p ≤ 9
theorem MtF.of {U V T : TT} {D : Int → Int} {st : SS} (h : MtF U T D st) (ho : ∀ a : Nat, a ≠ 37 → a ≠ 39 → V a = U a) : MtF V T D st := by
  unfold MtF
  rw [ho 1 (by omega) (by omega), ho 2 (by omega) (by omega), ho 6 (by omega) (by omega), ho 7 (by omega) (by omega), ho 8 (by omega) (by omega), ho 9 (by omega) (by omega), ho 13 (by omega) (by omega), ho 38 (by omega) (by omega)]
  exact h
section R16
variable {d : Nat} {z : Nat × Nat} {h : Hp} {T : TT} {st : SS} {D : Int → Int}
theorem c_6_layMouths (hd : 0 ≤ d) {U : TT} (hm : MdAt h U) (t0 : U 0 0 = T 0 0) (hk : TabOk T) (f2 : U 13 = st) : Ct d m_6_layMouths [.ref 102] z z h (fun r h' => r = none ∧ (∃ W : TT, MdAt h' W ∧ (∀ p : Int, 0 ≤ p → p < T 0 0 → W 38 p = st (11 + p)) ∧ ∀ a : Nat, a ≠ 38 → W a = U a) ∧ ∀ q : Nat, (q < 102 ∨ 128 < q) → h' q = h q) := by
  refine Ct.of (by decide) ⟨Nat.le_refl _, Nat.le_refl _⟩ (Nat.le_of_ble_eq_true rfl) ?_
  have k0 := hk.1
  have loop : ∀ (f k : Nat) (hh : Hp) (V : TT), k + f = (T 0 0).toNat → MdAt hh V → (∀ p : Int, 0 ≤ p → p < k → V 38 p = st (11 + p)) → (∀ a : Nat, a ≠ 38 → V a = U a) → (∀ q : Nat, (q < 102 ∨ 128 < q) → hh q = h q) →
      WW d m_6_layMouths z (fun r h' => r = none ∧ (∃ W : TT, MdAt h' W ∧ (∀ p : Int, 0 ≤ p → p < T 0 0 → W 38 p = st (11 + p)) ∧ ∀ a : Nat, a ≠ 38 → W a = U a) ∧ ∀ q : Nat, (q < 102 ∨ 128 < q) → h' q = h q) z hh 2 [(0, .ref 102), (1, vi (k : Int))] [] := by
    intro f
    induction f with
    | zero =>
      intro k hh V hkk hm hx ho hf
      have v0 : V 0 0 = T 0 0 := (congrFun (ho 0 (by omega)) 0).trans t0
      refine x_iload_n D_6_layMouths_2 rfl ?_
      refine x_aload_n D_6_layMouths_3 rfl ?_
      refine x_getfield D_6_layMouths_4 f_6_108 (md_o hm) rfl ?_
      rw [v0]
      refine x_icmp_ge D_6_layMouths_7 ⟨by omega, by omega⟩ ⟨by omega, by omega⟩ (fun c7 => ?_) (fun c7 => ?_)
      · refine x_return D_6_layMouths_31 rfl rfl ?_
        exact ⟨rfl, ⟨V, hm, fun p p0 p1 => hx p p0 (by omega), ho⟩, hf⟩
      exact absurd c7 (by omega)
    | succ f ih =>
      intro k hh V hkk hm hx ho hf
      have v0 : V 0 0 = T 0 0 := (congrFun (ho 0 (by omega)) 0).trans t0
      have v13 : V 13 = st := (ho 13 (by omega)).trans f2
      refine x_iload_n D_6_layMouths_2 rfl ?_
      refine x_aload_n D_6_layMouths_3 rfl ?_
      refine x_getfield D_6_layMouths_4 f_6_108 (md_o hm) rfl ?_
      rw [v0]
      refine x_icmp_ge D_6_layMouths_7 ⟨by omega, by omega⟩ ⟨by omega, by omega⟩ (fun c7 => ?_) (fun c7 => ?_)
      · exact absurd c7 (by omega)
      refine x_aload_n D_6_layMouths_10 rfl ?_
      refine x_getfield D_6_layMouths_11 f_6_73 (md_o hm) rfl ?_
      refine x_iload_n D_6_layMouths_14 rfl ?_
      refine x_aload_n D_6_layMouths_15 rfl ?_
      refine x_getfield D_6_layMouths_16 f_6_34 (md_o hm) rfl ?_
      refine x_bipush D_6_layMouths_19 (by decide +kernel) ?_
      refine x_iload_n D_6_layMouths_21 rfl ?_
      refine x_iadd D_6_layMouths_22 ?_
      refine x_iaload D_6_layMouths_23 (md_a13 hm) (by omega) (by omega) rfl ?_
      rw [v13]
      refine x_iastore D_6_layMouths_24 (md_a38 hm) (by omega) (by omega) rfl (fun h24 e24 n24 => ?_)
      replace hm := md_s38 hm e24 n24
      replace hf := fun q hq => (n24 q (by omega)).trans (hf q hq)
      refine x_iinc D_6_layMouths_25 rfl rfl rfl rfl ?_
      refine x_goto D_6_layMouths_28 ?_
      refine (ih (k + 1) _ _ (by omega) hm (fun p p0 p1 => ?_) (fun a a1 => (upr_ne _ _ a1).trans (ho a a1)) hf).sub rfl
      rw [upr_eq]
      by_cases e : p = (k : Int)
      · rw [e, ups_eq]
      · rw [ups_ne _ _ e]; exact hx p p0 (by omega)
  refine x_iconst D_6_layMouths_0 ?_
  refine x_istore_n D_6_layMouths_1 rfl rfl rfl ?_
  exact (loop (T 0 0).toNat 0 h U (by omega) hm (fun p p0 p1 => absurd p1 (by omega)) (fun _ _ => rfl) (fun _ _ => rfl)).sub rfl
theorem c_6_mayGive (hd : 1 ≤ d) {U : TT} (hm : MdAt h U) (hF : MtF U T D st) (hk : TabOk T) {s g set : Int} (hs : 0 ≤ s ∧ s < T 4 0) (hg : 0 ≤ g ∧ g < T 2 0) : Ct d m_6_mayGive [.ref 102, vi s, vi g, vi set] z z h (Pu (bi (hasB set g ∧ ¬ hasB (st 4) s ∧ T 6 s ≤ T 3 g * D (T 5 s))) h) := by
  refine Ct.of (by decide) ⟨Nat.le_refl _, Nat.le_refl _⟩ (Nat.le_of_ble_eq_true rfl) ?_
  obtain ⟨⟨t1, t2⟩, t6, ts, f2, tm⟩ := hF
  have k0 := hk.1
  have k2 := hk.2.1
  have k4 := hk.2.2.1
  have k8 := hk.2.2.2.2.2.2.2.1 s hs.1 hs.2
  obtain ⟨s7, s8, s9⟩ := ts s hs.1 hs.2
  obtain ⟨m1, m2⟩ := tm _ k8.1.1 k8.1.2
  have hml := melt_rng (hk.2.2.2.2.2.2.1 g hg.1 hg.2) m2
  refine x_iload_n D_6_mayGive_0 rfl ?_
  refine x_iload_n D_6_mayGive_1 rfl ?_
  refine x_invS2 (d' := d - 1) D_6_mayGive_2 l_6_177 mi_6_has (c_6_has (by omega))  rfl (by omega) rfl (fun q => q) rfl rfl (fun r2 h2 q2 => ?_)
  obtain ⟨rfl, rfl⟩ := q2
  refine x_if_eqb D_6_mayGive_5 (fun c5 => ?_) (fun c5 => ?_)
  · refine x_iconst D_6_mayGive_52 ?_
    refine x_ireturn D_6_mayGive_53 rfl (by first | rfl | exact nb_bi _ | decide +kernel) rfl ?_
    first
    | exact Pu.t ⟨c5, c18, by omega⟩
    | exact Pu.f (fun q => c5 q.1)
    | exact Pu.f (fun q => q.2.1 c18)
    | exact Pu.f (fun q => absurd q.2.2 (by omega))
  refine x_aload_n D_6_mayGive_8 rfl ?_
  refine x_getfield D_6_mayGive_9 f_6_34 (md_o hm) rfl ?_
  refine x_iconst D_6_mayGive_12 ?_
  refine x_iaload D_6_mayGive_13 (md_a13 hm) (by omega) (by omega) rfl ?_
  rw [f2]
  refine x_iload_n D_6_mayGive_14 rfl ?_
  refine x_invS2 (d' := d - 1) D_6_mayGive_15 l_6_177 mi_6_has (c_6_has (by omega))  rfl (by omega) rfl (fun q => q) rfl rfl (fun r15 h15 q15 => ?_)
  obtain ⟨rfl, rfl⟩ := q15
  refine x_if_neb D_6_mayGive_18 (fun c18 => ?_) (fun c18 => ?_)
  · refine x_iconst D_6_mayGive_52 ?_
    refine x_ireturn D_6_mayGive_53 rfl (by first | rfl | exact nb_bi _ | decide +kernel) rfl ?_
    first
    | exact Pu.t ⟨c5, c18, by omega⟩
    | exact Pu.f (fun q => c5 q.1)
    | exact Pu.f (fun q => q.2.1 c18)
    | exact Pu.f (fun q => absurd q.2.2 (by omega))
  refine x_aload_n D_6_mayGive_21 rfl ?_
  refine x_getfield D_6_mayGive_22 f_6_13 (md_o hm) rfl ?_
  refine x_iload_n D_6_mayGive_25 rfl ?_
  refine x_iaload D_6_mayGive_26 (md_a6 hm) (by omega) (by omega) rfl ?_
  rw [t6 g hg.1 hg.2]
  refine x_aload_n D_6_mayGive_27 rfl ?_
  refine x_getfield D_6_mayGive_28 f_6_73 (md_o hm) rfl ?_
  refine x_aload_n D_6_mayGive_31 rfl ?_
  refine x_getfield D_6_mayGive_32 f_6_16 (md_o hm) rfl ?_
  refine x_iload_n D_6_mayGive_35 rfl ?_
  refine x_iaload D_6_mayGive_36 (md_a7 hm) (by omega) (by omega) rfl ?_
  rw [s7]
  refine x_iaload D_6_mayGive_37 (md_a38 hm) (by omega) (by omega) rfl ?_
  rw [m1]
  refine x_imul D_6_mayGive_38 ?_
  refine x_aload_n D_6_mayGive_39 rfl ?_
  refine x_getfield D_6_mayGive_40 f_6_19 (md_o hm) rfl ?_
  refine x_iload_n D_6_mayGive_43 rfl ?_
  refine x_iaload D_6_mayGive_44 (md_a8 hm) (by omega) (by omega) rfl ?_
  rw [s8]
  refine x_icmp_lt D_6_mayGive_45 ⟨by omega, by omega⟩ ⟨by omega, by omega⟩ (fun c45 => ?_) (fun c45 => ?_)
  · refine x_iconst D_6_mayGive_52 ?_
    refine x_ireturn D_6_mayGive_53 rfl (by first | rfl | exact nb_bi _ | decide +kernel) rfl ?_
    first
    | exact Pu.t ⟨c5, c18, by omega⟩
    | exact Pu.f (fun q => c5 q.1)
    | exact Pu.f (fun q => q.2.1 c18)
    | exact Pu.f (fun q => absurd q.2.2 (by omega))
  refine x_iconst D_6_mayGive_48 ?_
  refine x_goto D_6_mayGive_49 ?_
  refine x_ireturn D_6_mayGive_53 rfl (by first | rfl | exact nb_bi _ | decide +kernel) rfl ?_
  first
  | exact Pu.t ⟨c5, c18, by omega⟩
  | exact Pu.f (fun q => c5 q.1)
  | exact Pu.f (fun q => q.2.1 c18)
  | exact Pu.f (fun q => absurd q.2.2 (by omega))
theorem c_6_givenBy (hd : 0 ≤ d) {U : TT} (hm : MdAt h U) (hF : MtF U T D st) (hk : TabOk T) {s k : Nat} {g : Int} {M : Int → Int} (hs : (s : Int) < T 4 0) (hg : 0 ≤ g ∧ g < T 2 0) (hkk : k < 2 ^ nGr T) (hM : ∀ q : Nat, q < 2 ^ nGr T → U 37 (256 * ((s : Int) + 1) + (q : Int)) = M (q : Int)) : Ct d m_6_givenBy [.ref 102, vi (s : Int), vi g, vi (k : Int)] z z h (Pu (T 7 (s : Int) + M (clr (k : Int) g)) h) := by
  refine Ct.of (by decide) ⟨Nat.le_refl _, Nat.le_refl _⟩ (Nat.le_of_ble_eq_true rfl) ?_
  obtain ⟨⟨t1, t2⟩, t6, ts, f2, tm⟩ := hF
  have k2 := hk.2.1
  have k4 := hk.2.2.1
  have hp : 2 ^ nGr T ≤ 256 := pow_le (m := 8) (by unfold nGr; omega)
  obtain ⟨s7, s8, s9⟩ := ts (s : Int) (by omega) hs
  obtain ⟨m, m1, m2⟩ := iAnd_le (k := k) (by omega) (iXor (iShl 1 g) (-1))
  have m3 := hM m (by omega)
  generalize 2 ^ nGr T = N at hp hkk hM
  refine x_aload_n D_6_givenBy_0 rfl ?_
  refine x_getfield D_6_givenBy_1 f_6_22 (md_o hm) rfl ?_
  refine x_iload_n D_6_givenBy_4 rfl ?_
  refine x_iaload D_6_givenBy_5 (md_a9 hm) (by omega) (by omega) rfl ?_
  rw [s9]
  refine x_aload_n D_6_givenBy_6 rfl ?_
  refine x_getfield D_6_givenBy_7 f_6_70 (md_o hm) rfl ?_
  refine x_sipush D_6_givenBy_10 (by decide +kernel) ?_
  refine x_iload_n D_6_givenBy_13 rfl ?_
  refine x_iconst D_6_givenBy_14 ?_
  refine x_iadd D_6_givenBy_15 ?_
  refine x_imul D_6_givenBy_16 ?_
  refine x_iload_n D_6_givenBy_17 rfl ?_
  refine x_iconst D_6_givenBy_18 ?_
  refine x_iload_n D_6_givenBy_19 rfl ?_
  refine x_ishl D_6_givenBy_20 ?_
  refine x_iconst D_6_givenBy_21 ?_
  refine x_ixor D_6_givenBy_22 ?_
  refine x_iand D_6_givenBy_23 ?_
  rw [m2]
  refine x_iadd D_6_givenBy_24 ?_
  refine x_iaload D_6_givenBy_25 (md_a37 hm) (by omega) (by omega) rfl ?_
  rw [m3]
  refine x_iadd D_6_givenBy_26 ?_
  refine x_ireturn D_6_givenBy_27 rfl (by first | rfl | exact nb_bi _ | decide +kernel) rfl ?_
  exact ⟨by unfold clr; rw [m2], rfl⟩
end R16
