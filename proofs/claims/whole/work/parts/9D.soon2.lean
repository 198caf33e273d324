def FsQ (h0 : Hp) (U T : TT) (st : SS) : Option Value → Hp → Prop := fun r h' => r = some (vi (oB T st).1) ∧ (∃ (V : TT) (l : List Nat), MdAt h' V ∧ (oB T st).2 = iL l ∧ l.length = mT T st ∧ l.Perm (chL T (GT T st)) ∧ KF T (GT T st) [] l ∧ RwAt V l ∧ (∀ j : Nat, j < l.length → V 42 ((l.getD j 0 : Nat) : Int) = bgn T (melT T st) (iL (l.take j)) ((l.getD j 0 : Nat) : Int)) ∧ (∀ s : Nat, s < nSa T → V 39 (s : Int) = GT T st (s : Int)) ∧ ∀ a : Nat, a < 37 ∨ 43 < a → V a = U a) ∧ ∀ q : Nat, (q < 102 ∨ 128 < q) → h' q = h0 q
section R29
variable {d : Nat} {z : Nat × Nat} {h : Hp} {b len : Int} {Bt : Int → Int} {T : TT} {st : SS} {u : Nat} {un : Nat → SS} {kc : Nat} {ke : Nat → SS}
theorem c_6_findSoonest {U : TT} (hd : 5 ≤ d) (hm : MdAt h U) (hF : RF U len Bt T st u un kc ke) (hG : Glob b len Bt T st u un kc ke) : Ct d m_6_findSoonest [.ref 102] z z h (FsQ h U T st) := by
  refine Ct.of (by decide) ⟨Nat.le_refl _, Nat.le_refl _⟩ (Nat.le_of_ble_eq_true rfl) ?_
  obtain ⟨⟨hk, k00, k22⟩, hln, hBt, hu, hS⟩ := hG
  obtain ⟨⟨t0, t1, t2, t3, t4⟩, t5, t6, t7, t8, t9, t10, -⟩ := hF.tab
  have f2 := hF.2.1
  have k4 := hk.2.2.1
  have k2 := hk.2.1
  obtain ⟨k0, hsh, hk0⟩ : ∃ k0 : Nat, st 3 = (k0 : Int) ∧ k0 < 2 ^ nGr T := by
    obtain ⟨k, q1, q2⟩ := hS.2.2.2.1
    exact ⟨k, q2, q1⟩
  have hmel : MelOk T (melF T (dryF st) (GT T st)) := melF_ok hk hS.dr
  have hGrng : ∀ s : Int, GT T st s = -4 ∨ 0 ≤ GT T st s ∧ GT T st s < nGr T := fun s => GG_rng T (dryF st) (st 4) (st 3) s
  have hGr : ∀ s : Nat, s < nSa T → -4 ≤ GT T st (s : Int) ∧ GT T st (s : Int) ≤ 8 := by
    intro s _
    have := hGrng (s : Int)
    unfold nGr at this
    omega
  have h7 := chL_len hk (GT T st)
  have hCin : ∀ w ∈ chL T (GT T st), w < nSa T ∧ 0 ≤ GT T st (w : Int) ∧ GT T st (w : Int) < T 2 0 := by
    intro w hw
    have h1 := (chL_mem T _ w).mp hw
    have h2 := (hGrng (w : Int)).resolve_left h1.2
    unfold nGr at h2
    exact ⟨h1.1, h2.1, by omega⟩
  have hrise : Rise (chL T (GT T st)) := chL_sorted T _
  have hCnd : (chL T (GT T st)).Nodup := List.Pairwise.imp (fun h => by omega) hrise
  have hRE : Rows T (GT T st) (mT T st) (iL []) = ((EE (mT T st) (chL T (GT T st))).filter (fun r => decide (KF T (GT T st) [] r))).map (fun r => iL ([] ++ r)) := by
    have := Rows_EE T (GT T st) (mT T st) [] (by rw [rsL_nil]; rfl)
    rw [rsL_nil] at this
    exact this
  have hoB : bestB T (melF T (dryF st) (GT T st)) (1000000, []) (((EE (mT T st) (chL T (GT T st))).filter (fun r => decide (KF T (GT T st) [] r))).map iL) = oB T st := by
    show _ = bestB T _ (1000000, []) (Rows T (GT T st) (mT T st) (iL []))
    rw [hRE]
    rfl
  obtain ⟨r0, hr0, hr1⟩ := oB_B3 hk hS
  have hr0' : r0 ∈ Rows T (GT T st) (mT T st) (iL []) := hr0
  rw [hRE] at hr0'
  obtain ⟨l0, hl0, hl1⟩ := List.mem_map.mp hr0'
  obtain ⟨hl2, hl3⟩ := List.mem_filter.mp hl0
  have hl4 := of_decide_eq_true hl3
  have hl5 := EE_perm (mT T st) (chL T (GT T st)) rfl l0 hl2
  have hl6 : iL l0 = r0 := hl1
  have hlen0 : l0.length = mT T st := hl5.length_eq
  have hl0in : ∀ w ∈ l0, w < nSa T ∧ 0 ≤ GT T st (w : Int) ∧ GT T st (w : Int) < T 2 0 := fun w hw => hCin w (hl5.mem_iff.mp hw)
  have hInS : InS T (iL l0) := by
    intro x hx
    obtain ⟨w, hw, rfl⟩ := List.mem_map.mp hx
    have := (hl0in w hw).1
    unfold nSa at this
    omega
  have hsr := (sim_rng hk hmel hInS).2
  have hil : (iL l0).length = l0.length := by simp
  have hmT : mT T st ≤ 7 := h7
  rw [hil, hlen0] at hsr
  have ho1 : (oB T st).1 = (sim T (melF T (dryF st) (GT T st)) (iL l0)).2 := by rw [hr1, hl6]; rfl
  have ho2 : (oB T st).2 = iL l0 := by rw [hr1, hl6]
  have fin : ∀ (W : TT) (least : Int) (f k : Nat) (hh : Hp) (V : TT), MtF W T (dryF st) st → (∀ s : Nat, s < nSa T → W 39 (s : Int) = GT T st (s : Int)) → (∀ a : Nat, a < 37 ∨ 43 < a → W a = U a) → k + f = mT T st → MdAt hh V → V 43 0 = (mT T st : Int) → (∀ j : Nat, j < mT T st → V 41 (j : Int) = ((l0.getD j 0 : Nat) : Int)) → (∀ j : Nat, j < k → V 40 (j : Int) = ((l0.getD j 0 : Nat) : Int)) → (∀ a : Nat, a ≠ 40 → a ≠ 41 → a ≠ 42 → a ≠ 43 → V a = W a) → (∀ q : Nat, (q < 102 ∨ 128 < q) → hh q = h q) →
      WW d m_6_findSoonest z (FsQ h U T st) z hh 148 [(0, .ref 102), (1, vi least), (3, vi (k : Int))] [] := by
    intro W least f
    induction f with
    | zero =>
      intro k hh V hMt w39 wU hkk hm v43 v41 v40 ho hf
      obtain rfl : k = mT T st := by omega
      have hR : RwAt V l0 := ⟨v43.trans (by rw [hlen0]), fun j hj => v40 j (by omega)⟩
      have hMt2 : MtF V T (dryF st) st := by
        unfold MtF
        rw [ho 1 (by omega) (by omega) (by omega) (by omega), ho 2 (by omega) (by omega) (by omega) (by omega), ho 6 (by omega) (by omega) (by omega) (by omega), ho 7 (by omega) (by omega) (by omega) (by omega), ho 8 (by omega) (by omega) (by omega) (by omega), ho 9 (by omega) (by omega) (by omega) (by omega), ho 13 (by omega) (by omega) (by omega) (by omega), ho 38 (by omega) (by omega) (by omega) (by omega)]
        exact hMt
      have v39 : ∀ s : Nat, s < nSa T → V 39 (s : Int) = GT T st (s : Int) := fun s hs => (congrFun (ho 39 (by omega) (by omega) (by omega) (by omega)) _).trans (w39 s hs)
      refine x_iload_n D_6_findSoonest_148 rfl ?_
      refine x_aload_n D_6_findSoonest_149 rfl ?_
      refine x_getfield D_6_findSoonest_150 f_6_236 (md_o hm) rfl ?_
      rw [v43]
      refine x_icmp_ge D_6_findSoonest_153 ⟨by omega, by omega⟩ ⟨by omega, by omega⟩ (fun c153 => ?_) (fun c153 => ?_)
      · refine x_aload_n D_6_findSoonest_174 rfl ?_
        refine x_invV (d' := d - 1) D_6_findSoonest_175 l_6_246 mi_6_runs (c_6_runs (by omega) hm hR (by omega) hk hMt2 hmel (hl5.nodup_iff.mpr hCnd) hl0in v39) (md_o hm) rfl rfl (by omega) rfl (fun q => q) rfl rfl (fun r175 h175 q175 => ?_)
        obtain ⟨rfl, ⟨V2, hm, w42, ho3⟩, hf2⟩ := q175
        refine x_ireturn D_6_findSoonest_178 rfl (by first | rfl | exact nb_bi _ | decide +kernel) rfl ?_
        refine ⟨by rw [ho1], ⟨V2, l0, hm, ho2, hlen0, hl5, hl4, ⟨(congrFun (ho3 43 (by omega)) 0).trans hR.1, fun j hj => (congrFun (ho3 40 (by omega)) _).trans (hR.2 j hj)⟩, w42, fun s hs => (congrFun (ho3 39 (by omega)) _).trans (v39 s hs), fun a ha => (ho3 a (by omega)).trans ((ho a (by omega) (by omega) (by omega) (by omega)).trans (wU a ha))⟩, fun q hq => (hf2 q hq).trans (hf q hq)⟩
      exact absurd c153 (by omega)
    | succ f ih =>
      intro k hh V hMt w39 wU hkk hm v43 v41 v40 ho hf
      have w41 := v41 k (by omega)
      refine x_iload_n D_6_findSoonest_148 rfl ?_
      refine x_aload_n D_6_findSoonest_149 rfl ?_
      refine x_getfield D_6_findSoonest_150 f_6_236 (md_o hm) rfl ?_
      rw [v43]
      refine x_icmp_ge D_6_findSoonest_153 ⟨by omega, by omega⟩ ⟨by omega, by omega⟩ (fun c153 => ?_) (fun c153 => ?_)
      · exact absurd c153 (by omega)
      refine x_aload_n D_6_findSoonest_156 rfl ?_
      refine x_getfield D_6_findSoonest_157 f_6_79 (md_o hm) rfl ?_
      refine x_iload_n D_6_findSoonest_160 rfl ?_
      refine x_aload_n D_6_findSoonest_161 rfl ?_
      refine x_getfield D_6_findSoonest_162 f_6_82 (md_o hm) rfl ?_
      refine x_iload_n D_6_findSoonest_165 rfl ?_
      refine x_iaload D_6_findSoonest_166 (md_a41 hm) (by omega) (by omega) rfl ?_
      rw [w41]
      refine x_iastore D_6_findSoonest_167 (md_a40 hm) (by omega) (by omega) rfl (fun h167 e167 n167 => ?_)
      replace hm := md_s40 hm e167 n167
      replace hf := fun q hq => (n167 q (by omega)).trans (hf q hq)
      refine x_iinc D_6_findSoonest_168 rfl rfl rfl rfl ?_
      refine x_goto D_6_findSoonest_171 ?_
      refine (ih (k + 1) _ _ hMt w39 wU (by omega) hm ((congrFun (upr_ne _ _ (by omega)) 0).trans v43) (fun j hj => (congrFun (upr_ne _ _ (by omega)) _).trans (v41 j hj)) (fun j hj => ?_) (fun a a1 a2 a3 a4 => (upr_ne _ _ a1).trans (ho a a1 a2 a3 a4)) hf).sub rfl
      rw [upr_eq]
      by_cases ej : j = k
      · rw [ej, ups_eq]
      · rw [ups_ne _ _ (by omega)]
        exact v40 j (by omega)
  have last : ∀ (W : TT) (least : Int) (hh : Hp) (V : TT), MtF W T (dryF st) st → (∀ s : Nat, s < nSa T → W 39 (s : Int) = GT T st (s : Int)) → (∀ a : Nat, a < 37 ∨ 43 < a → W a = U a) → MdAt hh V → V 43 0 = ((chL T (GT T st)).length : Int) → BsR (V 41) (chL T (GT T st)).length least (oB T st) → (∀ a : Nat, a ≠ 40 → a ≠ 41 → a ≠ 42 → V a = W a) → (∀ q : Nat, (q < 102 ∨ 128 < q) → hh q = h q) → WW d m_6_findSoonest z (FsQ h U T st) z hh 66 [(0, .ref 102), (1, vi least), (2, vi 0)] [] := by
    intro W least hh V hMt w39 wU hm v43 hBs ho hf
    obtain ⟨q1, q2, bl, q3, q4, q5⟩ : 0 ≤ least ∧ least ≤ 1554 ∧ ∃ bl : List Nat, oB T st = (least, iL bl) ∧ bl.length = (chL T (GT T st)).length ∧ ∀ j : Nat, j < (chL T (GT T st)).length → V 41 (j : Int) = ((bl.getD j 0 : Nat) : Int) := by
      rcases hBs with ⟨q1, -⟩ | q
      · have e : (oB T st).1 = 1000000 := by rw [q1]
        exfalso
        omega
      · exact q
    have hbl : bl = l0 := iL_inj (by rw [← ho2, q3])
    subst hbl
    have F := fin W least (mT T st) 0 hh V hMt w39 wU (by omega) hm v43 (fun j hj => q5 j hj) (fun j hj => absurd hj (by omega)) (fun a a1 a2 a3 _ => ho a a1 a2 a3) hf
    refine x_iload_n D_6_findSoonest_66 rfl ?_
    refine x_if_eq D_6_findSoonest_67 ⟨by omega, by omega⟩ (fun c67 => ?_) (fun c67 => ?_)
    · refine x_iconst D_6_findSoonest_146 ?_
      refine x_istore_n D_6_findSoonest_147 rfl rfl rfl ?_
      exact F.sub rfl
    exact absurd rfl c67
  have mid : ∀ (hh : Hp) (V : TT), MtF V T (dryF st) st → (∀ s : Nat, s < nSa T → V 39 (s : Int) = GT T st (s : Int)) → (∀ a : Nat, a < 37 ∨ 43 < a → V a = U a) → MdAt hh V → RwAt V (chL T (GT T st)) → (∀ q : Nat, (q < 102 ∨ 128 < q) → hh q = h q) → WW d m_6_findSoonest z (FsQ h U T st) z hh 61 [(0, .ref 102)] [] := by
    intro h1 V1 hV1 v39' v1U hm hR1 hf1
    have P := fs_loop (d := d) (z := z) (Q := FsQ h U T st) (h0 := h) (by omega) hk hV1 hmel v39' hGr (fun s s0 s1 => (congrFun (v1U 10 (by omega)) s).trans (t10 s s0 s1)) h7 hCin hCnd hrise.rev (fun h2 V2 least hm v43 hBs ho2 hf2 => last V1 least h2 V2 hV1 v39' v1U hm v43 hBs ho2 hf2) (EE (mT T st) (chL T (GT T st))) (chL T (GT T st)) (1000000, []) (-4) h1 V1 (EE_walk (mT T st) _ rfl hrise) (EE_perm (mT T st) _ rfl) hoB hm hR1 (Or.inl ⟨rfl, rfl⟩) (fun _ _ _ _ => rfl) hf1
    refine x_bipush D_6_findSoonest_61 (by decide +kernel) ?_
    refine x_istore_n D_6_findSoonest_63 rfl rfl rfl ?_
    refine x_iconst D_6_findSoonest_64 ?_
    refine x_istore_n D_6_findSoonest_65 rfl rfl rfl ?_
    exact P.sub rfl
  refine x_aload_n D_6_findSoonest_0 rfl ?_
  refine x_invV (d' := d - 1) D_6_findSoonest_1 l_6_230 mi_6_layMouths (c_6_layMouths (by omega) hm t0 hk f2) (md_o hm) rfl rfl (by omega) rfl (fun q => q) rfl rfl (fun r1 h1 q1 => ?_)
  obtain ⟨rfl, ⟨V, hm, v38, vo⟩, hf⟩ := q1
  have hMt : MtF V T (dryF st) st := MtF.mk hF hS v38 vo
  refine x_aload_n D_6_findSoonest_4 rfl ?_
  refine x_invV (d' := d - 1) D_6_findSoonest_5 l_6_233 mi_6_matches (c_6_matches (by omega) hm hMt hk hsh hk0) (md_o hm) rfl rfl (by omega) rfl (fun q => q) rfl rfl (fun r5 h5 q5 => ?_)
  obtain ⟨rfl, ⟨W, hm, w39, wo⟩, hf2⟩ := q5
  have hf : ∀ q : Nat, (q < 102 ∨ 128 < q) → h5 q = h q := fun q hq => (hf2 q hq).trans (hf q hq)
  have hMt := hMt.of wo
  have w39' : ∀ s : Nat, s < nSa T → W 39 (s : Int) = GT T st (s : Int) := fun s hs => w39 s hs
  have wU : ∀ a : Nat, a < 37 ∨ 43 < a → W a = U a := fun a ha => (wo a (by omega) (by omega)).trans (vo a (by omega))
  refine x_pop D_6_findSoonest_8 rfl ?_
  refine (fs_row hm hk ((congrFun (wU 2 (by omega)) 0).trans t2) w39' hGr hf (fun h1 V1 hm hR1 ho1 hf1 => mid h1 V1 ?_ (fun s hs => (congrFun (ho1 39 (by omega) (by omega)) _).trans (w39' s hs)) (fun a ha => (ho1 a (by omega) (by omega)).trans (wU a ha)) hm hR1 hf1)).sub rfl
  unfold MtF
  rw [ho1 1 (by omega) (by omega), ho1 2 (by omega) (by omega), ho1 6 (by omega) (by omega), ho1 7 (by omega) (by omega), ho1 8 (by omega) (by omega), ho1 9 (by omega) (by omega), ho1 13 (by omega) (by omega), ho1 38 (by omega) (by omega)]
  exact hMt
theorem r_soonest (hd : 6 ≤ d) (hI : RInv h len Bt T st u un kc ke) (hG : Glob b len Bt T st u un kc ke) {i : Int} (hi : B3 i) : Ct d m_6_soonest [.ref 102, vi i] z z h (RQ (soonA T st i) h len Bt T st u un kc ke) := by
  refine Ct.of (by decide) ⟨Nat.le_refl _, Nat.le_refl _⟩ (Nat.le_of_ble_eq_true rfl) ?_
  have hI0 := hI
  obtain ⟨U, hm, hF⟩ := hI
  have hk := hG.1.1
  have hm7 := mT_le hk st
  have hiB := hi
  by_cases hc : i < -1
  · skip
    refine x_iload_n D_6_soonest_0 rfl ?_
    refine x_iconst D_6_soonest_1 ?_
    refine x_icmp_ge D_6_soonest_2 hiB ⟨by omega, by omega⟩ (fun c2 => ?_) (fun c2 => ?_)
    · exact absurd c2 (by omega)
    refine x_iconst D_6_soonest_5 ?_
    refine x_ireturn D_6_soonest_6 rfl (by first | rfl | exact nb_bi _ | decide +kernel) rfl ?_
    exact RQ.same hI0 (by unfold soonA; rw [if_pos hc])
  · skip
    refine x_iload_n D_6_soonest_0 rfl ?_
    refine x_iconst D_6_soonest_1 ?_
    refine x_icmp_ge D_6_soonest_2 hiB ⟨by omega, by omega⟩ (fun c2 => ?_) (fun c2 => ?_)
    · refine x_aload_n D_6_soonest_7 rfl ?_
      refine x_invV (d' := d - 1) D_6_soonest_8 l_6_252 mi_6_findSoonest (c_6_findSoonest (by omega) hm hF hG) (md_o hm) rfl rfl (by omega) rfl (fun q => q) rfl rfl (fun r8 h8 q8 => ?_)
      obtain ⟨rfl, ⟨V, l, hm, e2, elen, -, -, hR, -, -, wo⟩, hf⟩ := q8
      have hI2 : RInv h8 len Bt T st u un kc ke := hF.keep hm (fun a ha => wo a (by omega))
      have v43 : V 43 0 = (mT T st : Int) := hR.1.trans (by rw [elen])
      refine x_istore_n D_6_soonest_11 rfl rfl rfl ?_
      refine x_iload_n D_6_soonest_12 rfl ?_
      refine x_iconst D_6_soonest_13 ?_
      refine x_icmp_ne D_6_soonest_14 hiB ⟨by omega, by omega⟩ (fun c14 => ?_) (fun c14 => ?_)
      · refine x_iload_n D_6_soonest_21 rfl ?_
        refine x_aload_n D_6_soonest_22 rfl ?_
        refine x_getfield D_6_soonest_23 f_6_236 (md_o hm) rfl ?_
        rw [v43]
        refine x_icmp_ge D_6_soonest_26 hiB ⟨by omega, by omega⟩ (fun c26 => ?_) (fun c26 => ?_)
        · refine x_bipush D_6_soonest_38 (by decide +kernel) ?_
          refine x_ireturn D_6_soonest_40 rfl (by first | rfl | exact nb_bi _ | decide +kernel) rfl ?_
          first
          | (exfalso; omega)
          | exact ⟨by rw [show soonA T st i = (oB T st).1 by unfold soonA; rw [if_neg hc, if_pos (by omega)]], hI2, hf⟩
          | (rw [show soonA T st i = (oB T st).2.getD i.toNat 0 by unfold soonA; rw [if_neg hc, if_neg (by omega), if_pos (by omega)]]; obtain ⟨n, rfl⟩ : ∃ n : Nat, i = (n : Int) := ⟨i.toNat, by omega⟩; rw [hR.2 n (by omega), e2]; exact ⟨by rw [Int.toNat_natCast, iL_getD], hI2, hf⟩)
          | exact ⟨by rw [show soonA T st i = -4 by unfold soonA; rw [if_neg hc, if_neg (by omega), if_neg (by omega)]], hI2, hf⟩
        refine x_aload_n D_6_soonest_29 rfl ?_
        refine x_getfield D_6_soonest_30 f_6_79 (md_o hm) rfl ?_
        refine x_iload_n D_6_soonest_33 rfl ?_
        refine x_iaload D_6_soonest_34 (md_a40 hm) (by omega) (by omega) rfl ?_
        refine x_goto D_6_soonest_35 ?_
        refine x_ireturn D_6_soonest_40 rfl (by first | rfl | exact nb_bi _ | decide +kernel) rfl ?_
        first
        | (exfalso; omega)
        | exact ⟨by rw [show soonA T st i = (oB T st).1 by unfold soonA; rw [if_neg hc, if_pos (by omega)]], hI2, hf⟩
        | (rw [show soonA T st i = (oB T st).2.getD i.toNat 0 by unfold soonA; rw [if_neg hc, if_neg (by omega), if_pos (by omega)]]; obtain ⟨n, rfl⟩ : ∃ n : Nat, i = (n : Int) := ⟨i.toNat, by omega⟩; rw [hR.2 n (by omega), e2]; exact ⟨by rw [Int.toNat_natCast, iL_getD], hI2, hf⟩)
        | exact ⟨by rw [show soonA T st i = -4 by unfold soonA; rw [if_neg hc, if_neg (by omega), if_neg (by omega)]], hI2, hf⟩
      refine x_iload_n D_6_soonest_17 rfl ?_
      refine x_goto D_6_soonest_18 ?_
      refine x_ireturn D_6_soonest_40 rfl (by first | rfl | exact nb_bi _ | decide +kernel) rfl ?_
      first
      | (exfalso; omega)
      | exact ⟨by rw [show soonA T st i = (oB T st).1 by unfold soonA; rw [if_neg hc, if_pos (by omega)]], hI2, hf⟩
      | (rw [show soonA T st i = (oB T st).2.getD i.toNat 0 by unfold soonA; rw [if_neg hc, if_neg (by omega), if_pos (by omega)]]; obtain ⟨n, rfl⟩ : ∃ n : Nat, i = (n : Int) := ⟨i.toNat, by omega⟩; rw [hR.2 n (by omega), e2]; exact ⟨by rw [Int.toNat_natCast, iL_getD], hI2, hf⟩)
      | exact ⟨by rw [show soonA T st i = -4 by unfold soonA; rw [if_neg hc, if_neg (by omega), if_neg (by omega)]], hI2, hf⟩
    exact absurd c2 (by omega)
theorem late_ends {mel G En : Int → Int} {l : List Nat} (hnd : l.Nodup) : ∀ k : Nat, k ≤ l.length → ∀ j : Nat, j < k → (lateS T mel G En (iL (l.take k))).2.1 ((l.getD j 0 : Nat) : Int) = bgn T mel (iL (l.take j)) ((l.getD j 0 : Nat) : Int) + T 6 ((l.getD j 0 : Nat) : Int) := by
  intro k
  induction k with
  | zero => intro _ j hj; omega
  | succ k ih =>
    intro hk j hj
    rw [take_iL (by omega), lateS_snoc]
    show ups (lateS T mel G En (iL (l.take k))).2.1 ((l.getD k 0 : Nat) : Int) (stp T mel (lateS T mel G En (iL (l.take k))).1 ((l.getD k 0 : Nat) : Int)).2 _ = _
    by_cases e : j = k
    · subst e
      rw [ups_eq, lateS_sim]
      rfl
    · have hne : l.getD j 0 ≠ l.getD k 0 := fun q => e (getD_inj hnd (by omega) (by omega) q)
      rw [ups_ne _ _ (by omega)]
      exact ih (by omega) j (by omega)
theorem late_no {mel G En : Int → Int} {l : List Nat} {k : Nat} (hk : k < l.length) (h : T 8 ((l.getD k 0 : Nat) : Int) = -4 ∨ G (T 8 ((l.getD k 0 : Nat) : Int)) = -4) : (lateS T mel G En (iL (l.take (k + 1)))).2.2 = (lateS T mel G En (iL (l.take k))).2.2 := by
  rw [take_iL hk, lateS_snoc]
  exact if_neg (fun q => by rcases h with w | w; exact q.1 w; exact q.2.1 w)
theorem late_at {mel G En : Int → Int} {l : List Nat} (hnd : l.Nodup) {k j : Nat} (hk : k < l.length) (hj : j < k) {a : Int} (e : T 8 ((l.getD k 0 : Nat) : Int) = a) (ej : ((l.getD j 0 : Nat) : Int) = a) (h8 : a ≠ -4) (hG : G a ≠ -4) : (lateS T mel G En (iL (l.take (k + 1)))).2.2 = if bgn T mel (iL (l.take j)) a + T 6 a + T 12 0 < bgn T mel (iL (l.take k)) ((l.getD k 0 : Nat) : Int) then (lateS T mel G En (iL (l.take k))).2.2 + 1 else (lateS T mel G En (iL (l.take k))).2.2 := by
  have h1 := late_ends (T := T) (mel := mel) (G := G) (En := En) hnd k (by omega) j hj
  have hne : l.getD j 0 ≠ l.getD k 0 := fun q => by have := getD_inj hnd (by omega) hk q; omega
  rw [take_iL hk, lateS_snoc]
  show (if T 8 ((l.getD k 0 : Nat) : Int) ≠ -4 ∧ G (T 8 ((l.getD k 0 : Nat) : Int)) ≠ -4 ∧ ups (lateS T mel G En (iL (l.take k))).2.1 ((l.getD k 0 : Nat) : Int) (stp T mel (lateS T mel G En (iL (l.take k))).1 ((l.getD k 0 : Nat) : Int)).2 (T 8 ((l.getD k 0 : Nat) : Int)) + T 12 0 < (stp T mel (lateS T mel G En (iL (l.take k))).1 ((l.getD k 0 : Nat) : Int)).2 - T 6 ((l.getD k 0 : Nat) : Int) then _ else _) = _
  rw [e, ups_ne _ _ (by omega), ← ej, h1, lateS_sim]
  have e2 : (stp T mel (sim T mel (iL (l.take k))) ((l.getD k 0 : Nat) : Int)).2 - T 6 ((l.getD k 0 : Nat) : Int) = bgn T mel (iL (l.take k)) ((l.getD k 0 : Nat) : Int) := by
    show bgn T mel (iL (l.take k)) ((l.getD k 0 : Nat) : Int) + T 6 ((l.getD k 0 : Nat) : Int) - T 6 ((l.getD k 0 : Nat) : Int) = _
    omega
  rw [e2]
  by_cases c : bgn T mel (iL (l.take j)) ((l.getD j 0 : Nat) : Int) + T 6 ((l.getD j 0 : Nat) : Int) + T 12 0 < bgn T mel (iL (l.take k)) ((l.getD k 0 : Nat) : Int)
  · rw [if_pos c, if_pos ⟨by rw [ej]; exact h8, by rw [ej]; exact hG, c⟩]
  · rw [if_neg c, if_neg (fun q => c q.2.2)]
theorem r_late (hd : 6 ≤ d) (hI : RInv h len Bt T st u un kc ke) (hG : Glob b len Bt T st u un kc ke) : Ct d m_6_late [.ref 102] z z h (RQ (lateA T st) h len Bt T st u un kc ke) := by
  refine Ct.of (by decide) ⟨Nat.le_refl _, Nat.le_refl _⟩ (Nat.le_of_ble_eq_true rfl) ?_
  obtain ⟨U, hm, hF⟩ := hI
  have hk := hG.1.1
  have k4 := hk.2.2.1
  have k12 := hk.2.2.2.2.1
  have hm7 := mT_le hk st
  obtain ⟨⟨t0, t1, t2, t3, t4⟩, t5, t6, t7, t8, t9, t10, -⟩ := hF.tab
  have hS := hG.2.2.2.2
  have hmel : MelOk T (melT T st) := melF_ok hk hS.dr
  have hGrng : ∀ s : Int, -4 ≤ GT T st s ∧ GT T st s ≤ 8 := by
    intro s
    have := GG_rng T (dryF st) (st 4) (st 3) s
    have k2 := hk.2.1
    unfold nGr at this
    show -4 ≤ GG T (dryF st) (st 4) (st 3) s ∧ GG T (dryF st) (st 4) (st 3) s ≤ 8
    omega
  have loop : ∀ (V : TT) (l : List Nat) (hh : Hp), MdAt hh V → (oB T st).2 = iL l → l.length = mT T st → l.Nodup → (∀ w ∈ l, w < nSa T) → KF T (GT T st) [] l → RwAt V l → (∀ j : Nat, j < l.length → V 42 ((l.getD j 0 : Nat) : Int) = bgn T (melT T st) (iL (l.take j)) ((l.getD j 0 : Nat) : Int)) → (∀ s : Nat, s < nSa T → V 39 (s : Int) = GT T st (s : Int)) → (∀ a : Nat, a < 37 ∨ 43 < a → V a = U a) → (∀ q : Nat, (q < 102 ∨ 128 < q) → hh q = h q) →
      ∀ (f k : Nat), k + f = l.length → WW d m_6_late z (RQ (lateA T st) h len Bt T st u un kc ke) z hh 9 [(0, .ref 102), (1, vi (lateS T (melT T st) (GT T st) (fun _ => 0) (iL (l.take k))).2.2), (2, vi (k : Int))] [] := by
    intro V l hh hm e2 hl hnd hin hKF hR v42 v39 wo hf f
    have hinS : ∀ k : Nat, InS T (iL (l.take k)) := by
      intro k x hx
      obtain ⟨w, hw, rfl⟩ := List.mem_map.mp hx
      have := hin w (List.mem_of_mem_take hw)
      unfold nSa at this
      omega
    have hbg : ∀ (k : Nat) (s : Int), k ≤ l.length → 0 ≤ bgn T (melT T st) (iL (l.take k)) s ∧ bgn T (melT T st) (iL (l.take k)) s ≤ 1554 := by
      intro k s hkl
      obtain ⟨w1, w2, w3⟩ := sim_rng hk hmel (hinS k)
      have e : (iL (l.take k)).length = k := by rw [List.length_map, List.length_take]; omega
      rw [e] at w1 w3
      have a1 := mx_ge1 (sim T (melT T st) (iL (l.take k))).2 ((sim T (melT T st) (iL (l.take k))).1 (T 5 s))
      exact ⟨Int.le_trans w2 a1, mx_le (by omega) (by have := (w1 (T 5 s)).2; omega)⟩
    have hlr : ∀ k : Nat, k ≤ l.length → 0 ≤ (lateS T (melT T st) (GT T st) (fun _ => 0) (iL (l.take k))).2.2 ∧ (lateS T (melT T st) (GT T st) (fun _ => 0) (iL (l.take k))).2.2 ≤ 7 := by
      intro k hkl
      obtain ⟨-, w2, w3⟩ := lateS_rng hk hmel (GT T st) (fun _ => 0) _ (hinS k)
      have e : (iL (l.take k)).length = k := by rw [List.length_map, List.length_take]; omega
      rw [e] at w3
      omega
    have v43 := hR.1
    induction f with
    | zero =>
      intro k hkk
      obtain rfl : k = l.length := by omega
      refine x_iload_n D_6_late_9 rfl ?_
      refine x_aload_n D_6_late_10 rfl ?_
      refine x_getfield D_6_late_11 f_6_236 (md_o hm) rfl ?_
      rw [v43]
      refine x_icmp_ge D_6_late_14 ⟨by omega, by omega⟩ ⟨by omega, by omega⟩ (fun c14 => ?_) (fun c14 => ?_)
      · refine x_iload_n D_6_late_94 rfl ?_
        refine x_ireturn D_6_late_95 rfl (by first | rfl | exact nb_bi _ | decide +kernel) rfl ?_
        exact ⟨by rw [List.take_length, ← e2]; rfl, hF.keep hm (fun a ha => wo a (by omega)), hf⟩
      exact absurd c14 (by omega)
    | succ f ih =>
      intro k hkk
      have hkl : k < l.length := by omega
      have w40 := hR.2 k hkl
      have w42 := v42 k hkl
      have hs := hin _ (getD_mem hkl)
      have ha := hKF k hkl
      have hno := late_no (T := T) (mel := melT T st) (G := GT T st) (En := fun _ => 0) hkl
      have hat := fun (j : Nat) (hj : j < k) (a : Int) => late_at (T := T) (mel := melT T st) (G := GT T st) (En := fun _ => 0) hnd hkl hj (a := a)
      have hbk := hbg k ((l.getD k 0 : Nat) : Int) (by omega)
      generalize hsv : l.getD k 0 = s at w40 w42 hs ha hno hat hbk
      have hs4 : (s : Int) < T 4 0 := by unfold nSa at hs; omega
      have k8 := hk.2.2.2.2.2.2.2.1 (s : Int) (by omega) hs4
      have k88 := k8.2.2.2
      have v10 : V 10 (s : Int) = T 8 (s : Int) := (congrFun (wo 10 (by omega)) _).trans (t10 (s : Int) (by omega) hs4)
      have hl0 := hlr k (by omega)
      generalize hLv : (lateS T (melT T st) (GT T st) (fun _ => 0) (iL (l.take k))).2.2 = L at hl0 hno hat
      by_cases h8n : T 8 (s : Int) = -4
      · rw [h8n] at v10
        have hno1 := hno (Or.inl h8n)
        refine x_iload_n D_6_late_9 rfl ?_
        refine x_aload_n D_6_late_10 rfl ?_
        refine x_getfield D_6_late_11 f_6_236 (md_o hm) rfl ?_
        rw [v43]
        refine x_icmp_ge D_6_late_14 ⟨by omega, by omega⟩ ⟨by omega, by omega⟩ (fun c14 => ?_) (fun c14 => ?_)
        · exact absurd c14 (by omega)
        refine x_aload_n D_6_late_17 rfl ?_
        refine x_getfield D_6_late_18 f_6_79 (md_o hm) rfl ?_
        refine x_iload_n D_6_late_21 rfl ?_
        refine x_iaload D_6_late_22 (md_a40 hm) (by omega) (by omega) rfl ?_
        rw [w40]
        refine x_istore_n D_6_late_23 rfl rfl rfl ?_
        refine x_aload_n D_6_late_24 rfl ?_
        refine x_getfield D_6_late_25 f_6_25 (md_o hm) rfl ?_
        refine x_iload_n D_6_late_28 rfl ?_
        refine x_iaload D_6_late_29 (md_a10 hm) (by omega) (by omega) rfl ?_
        rw [v10]
        refine x_istore D_6_late_30 rfl rfl rfl ?_
        refine x_iload_n D_6_late_32 rfl ?_
        refine x_iload D_6_late_33 rfl ?_
        refine x_bipush D_6_late_35 (by decide +kernel) ?_
        refine x_icmp_eq D_6_late_37 ⟨by omega, by omega⟩ ⟨by omega, by omega⟩ (fun c37 => ?_) (fun c37 => ?_)
        · refine x_iconst D_6_late_85 ?_
          refine x_iadd D_6_late_86 ?_
          refine x_istore_n D_6_late_87 rfl rfl rfl ?_
          refine x_iinc D_6_late_88 rfl rfl rfl rfl ?_
          refine x_goto D_6_late_91 ?_
          exact (ih (k + 1) (by omega)).sub (by rw [hno1, Int.add_zero]; rfl)
        exact absurd rfl c37
      · obtain ⟨a, hav⟩ : ∃ a : Nat, T 8 (s : Int) = (a : Int) := ⟨(T 8 (s : Int)).toNat, by omega⟩
        have han : a < nSa T := by unfold nSa; omega
        have w39 := v39 a han
        have hga := hGrng (a : Int)
        unfold ansP at ha
        rw [hav] at v10 hno ha
        by_cases hgn : GT T st (a : Int) = -4
        · rw [hgn] at w39
          have hno1 := hno (Or.inr hgn)
          refine x_iload_n D_6_late_9 rfl ?_
          refine x_aload_n D_6_late_10 rfl ?_
          refine x_getfield D_6_late_11 f_6_236 (md_o hm) rfl ?_
          rw [v43]
          refine x_icmp_ge D_6_late_14 ⟨by omega, by omega⟩ ⟨by omega, by omega⟩ (fun c14 => ?_) (fun c14 => ?_)
          · exact absurd c14 (by omega)
          refine x_aload_n D_6_late_17 rfl ?_
          refine x_getfield D_6_late_18 f_6_79 (md_o hm) rfl ?_
          refine x_iload_n D_6_late_21 rfl ?_
          refine x_iaload D_6_late_22 (md_a40 hm) (by omega) (by omega) rfl ?_
          rw [w40]
          refine x_istore_n D_6_late_23 rfl rfl rfl ?_
          refine x_aload_n D_6_late_24 rfl ?_
          refine x_getfield D_6_late_25 f_6_25 (md_o hm) rfl ?_
          refine x_iload_n D_6_late_28 rfl ?_
          refine x_iaload D_6_late_29 (md_a10 hm) (by omega) (by omega) rfl ?_
          rw [v10]
          refine x_istore D_6_late_30 rfl rfl rfl ?_
          refine x_iload_n D_6_late_32 rfl ?_
          refine x_iload D_6_late_33 rfl ?_
          refine x_bipush D_6_late_35 (by decide +kernel) ?_
          refine x_icmp_eq D_6_late_37 ⟨by omega, by omega⟩ ⟨by omega, by omega⟩ (fun c37 => ?_) (fun c37 => ?_)
          · exact absurd c37 (by omega)
          refine x_aload_n D_6_late_40 rfl ?_
          refine x_getfield D_6_late_41 f_6_76 (md_o hm) rfl ?_
          refine x_iload D_6_late_44 rfl ?_
          refine x_iaload D_6_late_46 (md_a39 hm) (by omega) (by omega) rfl ?_
          rw [w39]
          refine x_bipush D_6_late_47 (by decide +kernel) ?_
          refine x_icmp_eq D_6_late_49 ⟨by omega, by omega⟩ ⟨by omega, by omega⟩ (fun c49 => ?_) (fun c49 => ?_)
          · refine x_iconst D_6_late_85 ?_
            refine x_iadd D_6_late_86 ?_
            refine x_istore_n D_6_late_87 rfl rfl rfl ?_
            refine x_iinc D_6_late_88 rfl rfl rfl rfl ?_
            refine x_goto D_6_late_91 ?_
            exact (ih (k + 1) (by omega)).sub (by rw [hno1, Int.add_zero]; rfl)
          exact absurd rfl c49
        · have hmem : (a : Int) ∈ iL ([] ++ l.take k) := (ha.resolve_left (by omega)).resolve_left hgn
          have hmem2 : a ∈ l.take k := (iL_mem (l.take k) a).mp hmem
          obtain ⟨j, hj1, hj2⟩ := List.mem_iff_getElem.mp hmem2
          have hjk : j < k := by rw [List.length_take] at hj1; omega
          have hjl : j < l.length := by omega
          have hja : l.getD j 0 = a := by
            rw [List.getD_eq_getElem?_getD, List.getElem?_eq_getElem hjl, ← hj2, List.getElem_take]
            rfl
          have u42 := v42 j hjl
          rw [hja] at u42
          have hat1 := hat j hjk (a : Int) hav (by rw [hja]) (by omega) hgn
          have hbj := hbg j (a : Int) (by omega)
          have ha4 : (a : Int) < T 4 0 := by unfold nSa at han; omega
          have k8a := hk.2.2.2.2.2.2.2.1 (a : Int) (by omega) ha4
          have v8 : V 8 (a : Int) = T 6 (a : Int) := (congrFun (wo 8 (by omega)) _).trans (t8 (a : Int) (by omega) ha4)
          have v4 : V 4 0 = T 12 0 := (congrFun (wo 4 (by omega)) 0).trans t4
          refine x_iload_n D_6_late_9 rfl ?_
          refine x_aload_n D_6_late_10 rfl ?_
          refine x_getfield D_6_late_11 f_6_236 (md_o hm) rfl ?_
          rw [v43]
          refine x_icmp_ge D_6_late_14 ⟨by omega, by omega⟩ ⟨by omega, by omega⟩ (fun c14 => ?_) (fun c14 => ?_)
          · exact absurd c14 (by omega)
          refine x_aload_n D_6_late_17 rfl ?_
          refine x_getfield D_6_late_18 f_6_79 (md_o hm) rfl ?_
          refine x_iload_n D_6_late_21 rfl ?_
          refine x_iaload D_6_late_22 (md_a40 hm) (by omega) (by omega) rfl ?_
          rw [w40]
          refine x_istore_n D_6_late_23 rfl rfl rfl ?_
          refine x_aload_n D_6_late_24 rfl ?_
          refine x_getfield D_6_late_25 f_6_25 (md_o hm) rfl ?_
          refine x_iload_n D_6_late_28 rfl ?_
          refine x_iaload D_6_late_29 (md_a10 hm) (by omega) (by omega) rfl ?_
          rw [v10]
          refine x_istore D_6_late_30 rfl rfl rfl ?_
          refine x_iload_n D_6_late_32 rfl ?_
          refine x_iload D_6_late_33 rfl ?_
          refine x_bipush D_6_late_35 (by decide +kernel) ?_
          refine x_icmp_eq D_6_late_37 ⟨by omega, by omega⟩ ⟨by omega, by omega⟩ (fun c37 => ?_) (fun c37 => ?_)
          · exact absurd c37 (by omega)
          refine x_aload_n D_6_late_40 rfl ?_
          refine x_getfield D_6_late_41 f_6_76 (md_o hm) rfl ?_
          refine x_iload D_6_late_44 rfl ?_
          refine x_iaload D_6_late_46 (md_a39 hm) (by omega) (by omega) rfl ?_
          rw [w39]
          refine x_bipush D_6_late_47 (by decide +kernel) ?_
          refine x_icmp_eq D_6_late_49 ⟨by omega, by omega⟩ ⟨by omega, by omega⟩ (fun c49 => ?_) (fun c49 => ?_)
          · exact absurd c49 hgn
          refine x_aload_n D_6_late_52 rfl ?_
          refine x_getfield D_6_late_53 f_6_85 (md_o hm) rfl ?_
          refine x_iload_n D_6_late_56 rfl ?_
          refine x_iaload D_6_late_57 (md_a42 hm) (by omega) (by omega) rfl ?_
          first
          | rw [w42]
          | rw [u42]
          refine x_aload_n D_6_late_58 rfl ?_
          refine x_getfield D_6_late_59 f_6_85 (md_o hm) rfl ?_
          refine x_iload D_6_late_62 rfl ?_
          refine x_iaload D_6_late_64 (md_a42 hm) (by omega) (by omega) rfl ?_
          first
          | rw [w42]
          | rw [u42]
          refine x_aload_n D_6_late_65 rfl ?_
          refine x_getfield D_6_late_66 f_6_19 (md_o hm) rfl ?_
          refine x_iload D_6_late_69 rfl ?_
          refine x_iaload D_6_late_71 (md_a8 hm) (by omega) (by omega) rfl ?_
          rw [v8]
          refine x_iadd D_6_late_72 ?_
          refine x_aload_n D_6_late_73 rfl ?_
          refine x_getfield D_6_late_74 f_6_168 (md_o hm) rfl ?_
          rw [v4]
          refine x_iadd D_6_late_77 ?_
          refine x_icmp_le D_6_late_78 ⟨by omega, by omega⟩ ⟨by omega, by omega⟩ (fun c78 => ?_) (fun c78 => ?_)
          · refine x_iconst D_6_late_85 ?_
            refine x_iadd D_6_late_86 ?_
            refine x_istore_n D_6_late_87 rfl rfl rfl ?_
            refine x_iinc D_6_late_88 rfl rfl rfl rfl ?_
            refine x_goto D_6_late_91 ?_
            first
            | exact (ih (k + 1) (by omega)).sub (by rw [hat1, if_pos (by omega)]; rfl)
            | exact (ih (k + 1) (by omega)).sub (by rw [hat1, if_neg (by omega), Int.add_zero]; rfl)
          refine x_iconst D_6_late_81 ?_
          refine x_goto D_6_late_82 ?_
          refine x_iadd D_6_late_86 ?_
          refine x_istore_n D_6_late_87 rfl rfl rfl ?_
          refine x_iinc D_6_late_88 rfl rfl rfl rfl ?_
          refine x_goto D_6_late_91 ?_
          first
          | exact (ih (k + 1) (by omega)).sub (by rw [hat1, if_pos (by omega)]; rfl)
          | exact (ih (k + 1) (by omega)).sub (by rw [hat1, if_neg (by omega), Int.add_zero]; rfl)
  refine x_aload_n D_6_late_0 rfl ?_
  refine x_invV (d' := d - 1) D_6_late_1 l_6_252 mi_6_findSoonest (c_6_findSoonest (by omega) hm hF hG) (md_o hm) rfl rfl (by omega) rfl (fun q => q) rfl rfl (fun r1 h1 q1 => ?_)
  obtain ⟨rfl, ⟨V, l, hm, e2, elen, hpm, hKF, hR, v42, v39, wo⟩, hf⟩ := q1
  have hnd : l.Nodup := hpm.nodup_iff.mpr (List.Pairwise.imp (fun h => by omega) (chL_sorted T (GT T st)))
  have hin : ∀ w ∈ l, w < nSa T := fun w hw => ((chL_mem T _ w).mp (hpm.mem_iff.mp hw)).1
  refine x_pop D_6_late_4 rfl ?_
  refine x_iconst D_6_late_5 ?_
  refine x_istore_n D_6_late_6 rfl rfl rfl ?_
  refine x_iconst D_6_late_7 ?_
  refine x_istore_n D_6_late_8 rfl rfl rfl ?_
  exact (loop V l h1 hm e2 elen hnd hin hKF hR v42 v39 wo hf l.length 0 (by omega)).sub rfl
end R29
