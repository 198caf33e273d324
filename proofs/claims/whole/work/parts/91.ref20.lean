def besF (T : TT) (G : Nat → Int) (i j : Int) : Nat → Int
  | 0 => 0
  | s + 1 => besF T G i j s + (if G s = -4 then 0 else (if T 5 (s : Int) = i then 1 else if T 5 (s : Int) = j then -1 else 0) * T 7 (s : Int))
theorem bes_lead {T : TT} (hk : TabOk T) (st : SS) {i j : Int} (hij : i ≠ j) : leadT T st i j = besF T (gOf T (dryF st) (st 4) (st 3)) i j (nSa T) := by
  have k4 := hk.2.2.1
  have hn : nSa T ≤ 7 := by unfold nSa; omega
  have hb : ∀ (x : Int) (s : Nat), s < nSa T → (hasB (iAnd (gvT T st) (soF T x (T 4 0).toNat)) (s : Int) ↔ gOf T (dryF st) (st 4) (st 3) s ≠ -4 ∧ T 5 (s : Int) = x) := by
    intro x s hs
    unfold gvT
    rw [has_tb _ (by omega), tb_and, tb_gvn T _ _ _ (nSa T) (by omega) s (by omega), tb_soF _ _ _ (by omega) _ (by omega), Bool.and_eq_true, decide_eq_true_iff, decide_eq_true_iff]
    exact ⟨fun q => ⟨q.1.2, q.2.2⟩, fun q => ⟨⟨hs, q.1⟩, hs, q.2⟩⟩
  have main : ∀ s : Nat, s ≤ nSa T → sumSet (T 7) (iAnd (gvT T st) (soF T i (T 4 0).toNat)) s - sumSet (T 7) (iAnd (gvT T st) (soF T j (T 4 0).toNat)) s = besF T (gOf T (dryF st) (st 4) (st 3)) i j s := by
    intro s
    induction s with
    | zero => intro _; rfl
    | succ s ih =>
      intro hs
      have ih := ih (by omega)
      simp only [sumSet, besF]
      have h1 := hb i s (by omega)
      have h2 := hb j s (by omega)
      by_cases e : gOf T (dryF st) (st 4) (st 3) s = -4
      · rw [if_neg (fun q => (h1.mp q).1 e), if_neg (fun q => (h2.mp q).1 e), if_pos e]
        omega
      · rw [if_neg e]
        by_cases ei : T 5 (s : Int) = i
        · rw [if_pos (h1.mpr ⟨e, ei⟩), if_neg (fun q => hij (ei.symm.trans (h2.mp q).2)), if_pos ei]
          omega
        · rw [if_neg (fun q => ei (h1.mp q).2), if_neg ei]
          by_cases ej : T 5 (s : Int) = j
          · rw [if_pos (h2.mpr ⟨e, ej⟩), if_pos ej]
            omega
          · rw [if_neg (fun q => ej (h2.mp q).2), if_neg ej]
            omega
  exact main (nSa T) (Nat.le_refl _)
section R20
variable {d : Nat} {z : Nat × Nat} {h : Hp} {b len : Int} {Bt : Int → Int} {T : TT} {st : SS} {D : Int → Int}
theorem c_6_beside (hd : 3 ≤ d) {U : TT} (hm : MdAt h U) (hF : MtF U T D st) (hk : TabOk T) {k0 : Nat} (hsh : st 3 = (k0 : Int)) (hk0 : k0 < 2 ^ nGr T) {i j : Int} (hi : 0 ≤ i ∧ i < T 0 0) (hj : 0 ≤ j ∧ j < T 0 0) : Ct d m_6_beside [.ref 102, vi i, vi j] z z h (fun r h' => r = some (vi (besF T (gOf T D (st 4) (st 3)) i j (nSa T))) ∧ (∃ W : TT, MdAt h' W ∧ ∀ a : Nat, a ≠ 37 → a ≠ 39 → W a = U a) ∧ ∀ q : Nat, (q < 102 ∨ 128 < q) → h' q = h q) := by
  refine Ct.of (by decide) ⟨Nat.le_refl _, Nat.le_refl _⟩ (Nat.le_of_ble_eq_true rfl) ?_
  have k4 := hk.2.2.1
  have k0' := hk.1
  have k2 := hk.2.1
  refine x_aload_n D_6_beside_0 rfl ?_
  refine x_invV (d' := d - 1) D_6_beside_1 l_6_233 mi_6_matches (c_6_matches (by omega) hm hF hk hsh hk0) (md_o hm) rfl rfl (by omega) rfl (fun q => q) rfl rfl (fun r1 h1 q1 => ?_)
  obtain ⟨rfl, ⟨W, hm, w39, wo⟩, hf⟩ := q1
  refine x_pop D_6_beside_4 rfl ?_
  skip
  have hF2 : MtF W T D st := hF.of wo
  have t2 := hF2.1.2
  have loop : ∀ (f s : Nat), s + f = nSa T → WW d m_6_beside z (fun r h' => r = some (vi (besF T (gOf T D (st 4) (st 3)) i j (nSa T))) ∧ (∃ W : TT, MdAt h' W ∧ ∀ a : Nat, a ≠ 37 → a ≠ 39 → W a = U a) ∧ ∀ q : Nat, (q < 102 ∨ 128 < q) → h' q = h q) z h1 10 [(0, .ref 102), (1, vi i), (2, vi j), (3, vi (besF T (gOf T D (st 4) (st 3)) i j s)), (4, vi (s : Int))] [] := by
    intro f
    induction f with
    | zero =>
      intro s hs
      obtain rfl : s = nSa T := by omega
      have hn : ((nSa T : Nat) : Int) = T 4 0 := by unfold nSa; omega
      refine x_iload D_6_beside_10 rfl ?_
      refine x_aload_n D_6_beside_12 rfl ?_
      refine x_getfield D_6_beside_13 f_6_118 (md_o hm) rfl ?_
      rw [t2]
      refine x_icmp_ge D_6_beside_16 ⟨by omega, by omega⟩ ⟨by omega, by omega⟩ (fun c16 => ?_) (fun c16 => ?_)
      · refine x_iload_n D_6_beside_87 rfl ?_
        refine x_ireturn D_6_beside_88 rfl (by first | rfl | exact nb_bi _ | decide +kernel) rfl ?_
        exact ⟨rfl, ⟨W, hm, wo⟩, hf⟩
      exact absurd c16 (by omega)
    | succ f ih =>
      intro s hs
      have hsn : (s : Int) < T 4 0 := by unfold nSa at hs; omega
      obtain ⟨s7, s8, s9⟩ := hF2.2.2.1 (s : Int) (by omega) hsn
      have k8 := hk.2.2.2.2.2.2.2.1 (s : Int) (by omega) hsn
      have g39 := w39 s (by omega)
      have hgB : -4 ≤ gOf T D (st 4) (st 3) s ∧ gOf T D (st 4) (st 3) s ≤ 8 := by
        rcases gAt_rng T D (st 4) s (lft T D (st 4) (st 3) s) with q | ⟨g, q1, q2, -⟩
        · have q' : gOf T D (st 4) (st 3) s = -4 := q
          omega
        · have q' : gOf T D (st 4) (st 3) s = (g : Int) := q2
          have : g < 8 := by unfold nGr at q1; omega
          omega
      refine x_iload D_6_beside_10 rfl ?_
      refine x_aload_n D_6_beside_12 rfl ?_
      refine x_getfield D_6_beside_13 f_6_118 (md_o hm) rfl ?_
      rw [t2]
      refine x_icmp_ge D_6_beside_16 ⟨by omega, by omega⟩ ⟨by omega, by omega⟩ (fun c16 => ?_) (fun c16 => ?_)
      · exact absurd c16 (by omega)
      refine x_aload_n D_6_beside_19 rfl ?_
      refine x_getfield D_6_beside_20 f_6_16 (md_o hm) rfl ?_
      refine x_iload D_6_beside_23 rfl ?_
      refine x_iaload D_6_beside_25 (md_a7 hm) (by omega) (by omega) rfl ?_
      rw [s7]
      refine x_iload_n D_6_beside_26 rfl ?_
      refine x_icmp_ne D_6_beside_27 ⟨by omega, by omega⟩ ⟨by omega, by omega⟩ (fun c27 => ?_) (fun c27 => ?_)
      · refine x_aload_n D_6_beside_34 rfl ?_
        refine x_getfield D_6_beside_35 f_6_16 (md_o hm) rfl ?_
        refine x_iload D_6_beside_38 rfl ?_
        refine x_iaload D_6_beside_40 (md_a7 hm) (by omega) (by omega) rfl ?_
        rw [s7]
        refine x_iload_n D_6_beside_41 rfl ?_
        refine x_icmp_ne D_6_beside_42 ⟨by omega, by omega⟩ ⟨by omega, by omega⟩ (fun c42 => ?_) (fun c42 => ?_)
        · refine x_iconst D_6_beside_49 ?_
          refine x_istore D_6_beside_50 rfl rfl rfl ?_
          refine x_iload_n D_6_beside_52 rfl ?_
          refine x_aload_n D_6_beside_53 rfl ?_
          refine x_getfield D_6_beside_54 f_6_76 (md_o hm) rfl ?_
          refine x_iload D_6_beside_57 rfl ?_
          refine x_iaload D_6_beside_59 (md_a39 hm) (by omega) (by omega) rfl ?_
          rw [g39]
          refine x_bipush D_6_beside_60 (by decide +kernel) ?_
          refine x_icmp_ne D_6_beside_62 ⟨by omega, by omega⟩ ⟨by omega, by omega⟩ (fun c62 => ?_) (fun c62 => ?_)
          · refine x_iload D_6_beside_69 rfl ?_
            refine x_aload_n D_6_beside_71 rfl ?_
            refine x_getfield D_6_beside_72 f_6_22 (md_o hm) rfl ?_
            refine x_iload D_6_beside_75 rfl ?_
            refine x_iaload D_6_beside_77 (md_a9 hm) (by omega) (by omega) rfl ?_
            rw [s9]
            refine x_imul D_6_beside_78 ?_
            refine x_iadd D_6_beside_79 ?_
            refine x_istore_n D_6_beside_80 rfl rfl rfl ?_
            refine x_iinc D_6_beside_81 rfl rfl rfl rfl ?_
            refine x_goto D_6_beside_84 ?_
            first
            | exact (ih (s + 1) (by omega)).sub (by simp only [besF, if_pos c62]; rfl)
            | exact (ih (s + 1) (by omega)).sub (by simp only [besF, if_neg c62, if_pos c27]; rfl)
            | exact (ih (s + 1) (by omega)).sub (by simp only [besF, if_neg c62, if_neg c27, if_pos c42]; rfl)
            | exact (ih (s + 1) (by omega)).sub (by simp only [besF, if_neg c62, if_neg c27, if_neg c42]; rfl)
          refine x_iconst D_6_beside_65 ?_
          refine x_goto D_6_beside_66 ?_
          refine x_iadd D_6_beside_79 ?_
          refine x_istore_n D_6_beside_80 rfl rfl rfl ?_
          refine x_iinc D_6_beside_81 rfl rfl rfl rfl ?_
          refine x_goto D_6_beside_84 ?_
          first
          | exact (ih (s + 1) (by omega)).sub (by simp only [besF, if_pos c62]; rfl)
          | exact (ih (s + 1) (by omega)).sub (by simp only [besF, if_neg c62, if_pos c27]; rfl)
          | exact (ih (s + 1) (by omega)).sub (by simp only [besF, if_neg c62, if_neg c27, if_pos c42]; rfl)
          | exact (ih (s + 1) (by omega)).sub (by simp only [besF, if_neg c62, if_neg c27, if_neg c42]; rfl)
        refine x_iconst D_6_beside_45 ?_
        refine x_goto D_6_beside_46 ?_
        refine x_istore D_6_beside_50 rfl rfl rfl ?_
        refine x_iload_n D_6_beside_52 rfl ?_
        refine x_aload_n D_6_beside_53 rfl ?_
        refine x_getfield D_6_beside_54 f_6_76 (md_o hm) rfl ?_
        refine x_iload D_6_beside_57 rfl ?_
        refine x_iaload D_6_beside_59 (md_a39 hm) (by omega) (by omega) rfl ?_
        rw [g39]
        refine x_bipush D_6_beside_60 (by decide +kernel) ?_
        refine x_icmp_ne D_6_beside_62 ⟨by omega, by omega⟩ ⟨by omega, by omega⟩ (fun c62 => ?_) (fun c62 => ?_)
        · refine x_iload D_6_beside_69 rfl ?_
          refine x_aload_n D_6_beside_71 rfl ?_
          refine x_getfield D_6_beside_72 f_6_22 (md_o hm) rfl ?_
          refine x_iload D_6_beside_75 rfl ?_
          refine x_iaload D_6_beside_77 (md_a9 hm) (by omega) (by omega) rfl ?_
          rw [s9]
          refine x_imul D_6_beside_78 ?_
          refine x_iadd D_6_beside_79 ?_
          refine x_istore_n D_6_beside_80 rfl rfl rfl ?_
          refine x_iinc D_6_beside_81 rfl rfl rfl rfl ?_
          refine x_goto D_6_beside_84 ?_
          first
          | exact (ih (s + 1) (by omega)).sub (by simp only [besF, if_pos c62]; rfl)
          | exact (ih (s + 1) (by omega)).sub (by simp only [besF, if_neg c62, if_pos c27]; rfl)
          | exact (ih (s + 1) (by omega)).sub (by simp only [besF, if_neg c62, if_neg c27, if_pos c42]; rfl)
          | exact (ih (s + 1) (by omega)).sub (by simp only [besF, if_neg c62, if_neg c27, if_neg c42]; rfl)
        refine x_iconst D_6_beside_65 ?_
        refine x_goto D_6_beside_66 ?_
        refine x_iadd D_6_beside_79 ?_
        refine x_istore_n D_6_beside_80 rfl rfl rfl ?_
        refine x_iinc D_6_beside_81 rfl rfl rfl rfl ?_
        refine x_goto D_6_beside_84 ?_
        first
        | exact (ih (s + 1) (by omega)).sub (by simp only [besF, if_pos c62]; rfl)
        | exact (ih (s + 1) (by omega)).sub (by simp only [besF, if_neg c62, if_pos c27]; rfl)
        | exact (ih (s + 1) (by omega)).sub (by simp only [besF, if_neg c62, if_neg c27, if_pos c42]; rfl)
        | exact (ih (s + 1) (by omega)).sub (by simp only [besF, if_neg c62, if_neg c27, if_neg c42]; rfl)
      refine x_iconst D_6_beside_30 ?_
      refine x_goto D_6_beside_31 ?_
      refine x_istore D_6_beside_50 rfl rfl rfl ?_
      refine x_iload_n D_6_beside_52 rfl ?_
      refine x_aload_n D_6_beside_53 rfl ?_
      refine x_getfield D_6_beside_54 f_6_76 (md_o hm) rfl ?_
      refine x_iload D_6_beside_57 rfl ?_
      refine x_iaload D_6_beside_59 (md_a39 hm) (by omega) (by omega) rfl ?_
      rw [g39]
      refine x_bipush D_6_beside_60 (by decide +kernel) ?_
      refine x_icmp_ne D_6_beside_62 ⟨by omega, by omega⟩ ⟨by omega, by omega⟩ (fun c62 => ?_) (fun c62 => ?_)
      · refine x_iload D_6_beside_69 rfl ?_
        refine x_aload_n D_6_beside_71 rfl ?_
        refine x_getfield D_6_beside_72 f_6_22 (md_o hm) rfl ?_
        refine x_iload D_6_beside_75 rfl ?_
        refine x_iaload D_6_beside_77 (md_a9 hm) (by omega) (by omega) rfl ?_
        rw [s9]
        refine x_imul D_6_beside_78 ?_
        refine x_iadd D_6_beside_79 ?_
        refine x_istore_n D_6_beside_80 rfl rfl rfl ?_
        refine x_iinc D_6_beside_81 rfl rfl rfl rfl ?_
        refine x_goto D_6_beside_84 ?_
        first
        | exact (ih (s + 1) (by omega)).sub (by simp only [besF, if_pos c62]; rfl)
        | exact (ih (s + 1) (by omega)).sub (by simp only [besF, if_neg c62, if_pos c27]; rfl)
        | exact (ih (s + 1) (by omega)).sub (by simp only [besF, if_neg c62, if_neg c27, if_pos c42]; rfl)
        | exact (ih (s + 1) (by omega)).sub (by simp only [besF, if_neg c62, if_neg c27, if_neg c42]; rfl)
      refine x_iconst D_6_beside_65 ?_
      refine x_goto D_6_beside_66 ?_
      refine x_iadd D_6_beside_79 ?_
      refine x_istore_n D_6_beside_80 rfl rfl rfl ?_
      refine x_iinc D_6_beside_81 rfl rfl rfl rfl ?_
      refine x_goto D_6_beside_84 ?_
      first
      | exact (ih (s + 1) (by omega)).sub (by simp only [besF, if_pos c62]; rfl)
      | exact (ih (s + 1) (by omega)).sub (by simp only [besF, if_neg c62, if_pos c27]; rfl)
      | exact (ih (s + 1) (by omega)).sub (by simp only [besF, if_neg c62, if_neg c27, if_pos c42]; rfl)
      | exact (ih (s + 1) (by omega)).sub (by simp only [besF, if_neg c62, if_neg c27, if_neg c42]; rfl)
  refine x_iconst D_6_beside_5 ?_
  refine x_istore_n D_6_beside_6 rfl rfl rfl ?_
  refine x_iconst D_6_beside_7 ?_
  refine x_istore D_6_beside_8 rfl rfl rfl ?_
  exact (loop (nSa T) 0 (by omega)).sub rfl
end R20
