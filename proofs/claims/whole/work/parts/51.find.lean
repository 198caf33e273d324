/-- the order's picture -/
def OrAt (h : Hp) (o : Nat) (m S gv : Int) (Fi Me En : Int → Int) : Prop := h o = some (ordC o m S gv) ∧ h (o + 1) = some (ia 0 7 Fi) ∧ h (o + 2) = some (ia 0 7 Me) ∧ (∃ Tr : Int → Int, h (o + 3) = some (ia 0 7 Tr)) ∧ (∃ Fr : Int → Int, h (o + 4) = some (ia 0 5 Fr)) ∧ h (o + 5) = some (ia 0 7 En)
theorem OrAt.kept {h h1 : Hp} {o : Nat} {m S gv : Int} {Fi Me En : Int → Int} (H : OrAt h o m S gv Fi Me En) (hk : ∀ q : Nat, o ≤ q → q ≤ o + 5 → h1 q = h q) : OrAt h1 o m S gv Fi Me En := by
  obtain ⟨a, b, c, ⟨Tr, e⟩, ⟨Fr, f⟩, g⟩ := H
  exact ⟨(hk _ (by omega) (by omega)).trans a, (hk _ (by omega) (by omega)).trans b, (hk _ (by omega) (by omega)).trans c, ⟨Tr, (hk _ (by omega) (by omega)).trans e⟩, ⟨Fr, (hk _ (by omega) (by omega)).trans f⟩, (hk _ (by omega) (by omega)).trans g⟩
theorem c_2_find {d : Nat} (hd : 12 ≤ d) {z : Nat × Nat} {h : Hp} {o t e go : Nat} {T E : TT} {D : Int → Int} {sd sh m0 S0 gv0 : Int} {Fi0 Me0 En0 Go : Int → Int} (hO : OrAt h o m0 S0 gv0 Fi0 Me0 En0) (hV : GvAt h go (gvn T D sd sh (nSa T)) Go) (hGo : ∀ s : Nat, s < nSa T → Go (s : Int) = gOf T D sd sh s) (hT : TabAt h t T) (hE : EvAt h e E) (hk : TabOk T) (hD : DrOk T E D) (ht : t + 8 < o ∨ o + 5 < t) (he : e + 4 < o ∨ o + 5 < e) (hg : go + 10 < o ∨ o + 5 < go) :
    Ct d m_2_find [.ref o, .ref t, .ref e, .ref go] z z h (fun r h' => r = none ∧ (∃ (Fi Me : Int → Int) (F0 : List Int), OrAt h' o (chL T (GG T D sd sh)).length (bestB T (melF T D (GG T D sd sh)) (1000000, F0) (Rows T (GG T D sd sh) (chL T (GG T D sd sh)).length [])).1 (gvn T D sd sh (nSa T)) Fi Me En0 ∧ AgLn Fi (bestB T (melF T D (GG T D sd sh)) (1000000, F0) (Rows T (GG T D sd sh) (chL T (GG T D sd sh)).length [])).2 (chL T (GG T D sd sh)).length ∧ ∀ s : Int, 0 ≤ s → s < T 4 0 → Me s = melF T D (GG T D sd sh) s) ∧ ∀ q : Nat, (q < o ∨ o + 5 < q) → h' q = h q) := by
  refine Ct.of (by decide) ⟨Nat.le_refl _, Nat.le_refl _⟩ (Nat.le_of_ble_eq_true rfl) ?_
  have k4 := hk.2.2.1
  have k2 := hk.2.1
  obtain ⟨c, hc⟩ : ∃ c : Nat, T 4 0 = (c : Int) := ⟨_, (Int.toNat_of_nonneg k4.1).symm⟩
  have hc2 : nSa T = c := by unfold nSa; omega
  have hgn := gvn_nat hk (D := D) (sd := sd) (sh := sh)
  obtain ⟨v, hv⟩ : ∃ v : Nat, gvn T D sd sh (nSa T) = (v : Int) := ⟨_, (Int.toNat_of_nonneg hgn.1).symm⟩
  have hpc : pcN v = (chL T (GG T D sd sh)).length := pc_gvn hk (D := D) (sd := sd) (sh := sh) (fun s _ => rfl) hv
  have hml := melF_ok hk (D := D) (sd := sd) (sh := sh) (fun i h0 h1 => (hD i h0 h1).2)
  have hm7 := chL_len hk (GG T D sd sh)
  have htb : ∀ j : Nat, j < nSa T → (tb (gvn T D sd sh (nSa T)) j = true ↔ GG T D sd sh (j : Int) ≠ -4) := by
    intro j hj
    rw [tb_gvn _ _ _ _ _ (by unfold nSa; omega) _ (by unfold nSa at hj; omega), GG_nat]
    simp [hj]
  generalize hmm : (chL T (GG T D sd sh)).length = m at hpc hm7 ⊢
  generalize hGG : GG T D sd sh = G at hml htb hmm ⊢
  have hG : ∀ s : Nat, s < c → Go (s : Int) = G (s : Int) := fun s hs => by rw [hGo s (by omega), ← hGG, GG_nat]
  have hGr : ∀ s : Int, G s = -4 ∨ 0 ≤ G s ∧ G s < nGr T := fun s => by rw [← hGG]; exact GG_rng T D sd sh s
  obtain ⟨o0, o1, o2, ⟨Tr0, o3⟩, ⟨Fr0, o4⟩, o5⟩ := hO
  obtain ⟨v0, v1, v2, v3⟩ := hV
  have loop : ∀ (f s : Nat) (hh : Hp) (Me : Int → Int), c = s + f → (∀ j : Int, 0 ≤ j → j < s → Me j = melF T D G j) → hh o = some (ordC o m 1000000 (gvn T D sd sh (nSa T))) → hh (o + 1) = some (ia 0 7 Fi0) → hh (o + 2) = some (ia 0 7 Me) → hh (o + 3) = some (ia 0 7 Tr0) → hh (o + 4) = some (ia 0 5 Fr0) → hh (o + 5) = some (ia 0 7 En0) → (∀ q : Nat, (q < o ∨ o + 5 < q) → hh q = h q) →
      WW d m_2_find z (fun r h' => r = none ∧ (∃ (Fi Me : Int → Int) (F0 : List Int), OrAt h' o m (bestB T (melF T D G) (1000000, F0) (Rows T G m [])).1 (gvn T D sd sh (nSa T)) Fi Me En0 ∧ AgLn Fi (bestB T (melF T D G) (1000000, F0) (Rows T G m [])).2 m ∧ ∀ s : Int, 0 ≤ s → s < T 4 0 → Me s = melF T D G s) ∧ ∀ q : Nat, (q < o ∨ o + 5 < q) → h' q = h q) z hh 28 [(0, .ref o), (1, .ref t), (2, .ref e), (3, .ref go), (4, vi s)] [] := by
    intro f
    induction f with
    | zero =>
      intro s hh Me hf hMe o0 o1 o2 o3 o4 o5 hfr
      have hT1 : TabAt hh t T := hT.kept (fun q q1 q2 => hfr q (by omega))
      obtain ⟨b0, -⟩ := id hT1
      refine x_iload D_2_find_28 rfl ?_
      refine x_aload_n D_2_find_30 rfl ?_
      refine x_getfield D_2_find_31 f_2_49 (by assumption) rfl ?_
      refine x_icmp_ge D_2_find_34 ⟨by omega, by omega⟩ ⟨by omega, by omega⟩ (fun c34 => ?_) (fun c34 => ?_)
      · refine x_aload_n D_2_find_90 rfl ?_
        refine x_invV (d' := d - 1) D_2_find_91 l_2_68 mi_2_freeAll (c_2_freeAll (by omega) o0 o4) (by assumption) rfl rfl (by omega) rfl (fun q => q) rfl rfl (fun r91 h91 q91 => ?_)
        obtain ⟨rfl, g4, gf⟩ := q91
        have o0 := (gf o (by omega)).trans o0
        have o1 := (gf _ (by omega)).trans o1
        have o2 := (gf _ (by omega)).trans o2
        have o3 := (gf _ (by omega)).trans o3
        have o5 := (gf _ (by omega)).trans o5
        have hT2 : TabAt h91 t T := hT1.kept (fun q q1 q2 => gf q (by omega))
        have hfr : ∀ q : Nat, (q < o ∨ o + 5 < q) → h91 q = h q := fun q hq => (gf q (by omega)).trans (hfr q hq)
        refine x_aload_n D_2_find_94 rfl ?_
        refine x_aload_n D_2_find_95 rfl ?_
        refine x_iconst D_2_find_96 ?_
        refine x_iconst D_2_find_97 ?_
        refine x_iconst D_2_find_98 ?_
        refine x_invS2 (d' := d - 1) D_2_find_99 l_2_71 mi_2_tryFrom ((show Ct (d - 1) m_2_tryFrom [.ref o, .ref t, vi 0, vi 0, vi 0] z z h91 _ from c_2_tryFrom (m := m) (mel := melF T D G) (G := G) hk hml hm7 ht (fun s h0 h1 => hMe s h0 (by omega)) htb m (d - 1) h91 1000000 ((List.range m).map (fun j : Nat => Fi0 (j : Int))) [] Fi0 Tr0 _ 0 (by omega) (by simp) (fun x hx => by cases hx) (fun j hj => by rw [tb_0]; simp) o0 o1 (fun j hj => by simp [List.getD_eq_getElem?_getD, List.getElem?_map, List.getElem?_range hj]) o2 o3 (fun j hj => by cases hj) g4 (fun p _ _ => rfl) hT2 (by show (0 : Int) < 1000000; omega) (by omega)))  rfl (by omega) rfl (fun q => q) rfl rfl (fun r99 h99 q99 => ?_)
        obtain ⟨rfl, ⟨Fi, Tr, Fr, w1, w2, w3, w4, w5, w6, w7⟩, w8⟩ := q99
        refine x_return D_2_find_102 rfl rfl ?_
        exact ⟨rfl, ⟨Fi, Me, _, ⟨w1, w3, (w8 _ (by omega)).trans o2, ⟨_, w4⟩, ⟨_, w6⟩, (w8 _ (by omega)).trans o5⟩, w2, fun s h0 h1 => hMe s h0 (by omega)⟩, fun q hq => (w8 q (by omega)).trans (hfr q hq)⟩
      exact absurd c34 (by omega)
    | succ f ih =>
      intro s hh Me hf hMe o0 o1 o2 o3 o4 o5 hfr
      have hT1 : TabAt hh t T := hT.kept (fun q q1 q2 => hfr q (by omega))
      have hE1 : EvAt hh e E := hE.kept (fun q q1 q2 => hfr q (by omega))
      obtain ⟨b0, b1, b2, b3, b4, b5, b6, b7, b8⟩ := id hT1
      obtain ⟨e0, e1, e2, e3, e4⟩ := id hE1
      have v0' := (hfr go (by omega)).trans v0
      have v2' := (hfr (go + 10) (by omega)).trans v2
      have hGs := hG s (by omega)
      have k5 := hk.2.2.2.2.2.2.2.1 (s : Int) (by omega) (by omega)
      have hDs := hD (T 5 (s : Int)) k5.1.1 k5.1.2
      have hgr := hGr (s : Int)
      have k0 := hk.1
      have hg8 : G (s : Int) < 8 := by
        rcases hgr with w | w
        · omega
        · unfold nGr at w; omega
      have hMn : ∀ w : Int, w = melF T D G (s : Int) → ∀ j : Int, 0 ≤ j → j < ((s + 1 : Nat) : Int) → ups Me (s : Int) w j = melF T D G j := by
        intro w hw j j0 j1
        by_cases e : j = (s : Int)
        · rw [e]; simp only [ups, if_true]; exact hw
        · simp only [ups, if_neg e]; exact hMe j j0 (by omega)
      refine x_iload D_2_find_28 rfl ?_
      refine x_aload_n D_2_find_30 rfl ?_
      refine x_getfield D_2_find_31 f_2_49 (by assumption) rfl ?_
      refine x_icmp_ge D_2_find_34 ⟨by omega, by omega⟩ ⟨by omega, by omega⟩ (fun c34 => ?_) (fun c34 => ?_)
      · exact absurd c34 (by omega)
      refine x_aload_n D_2_find_37 rfl ?_
      refine x_getfield D_2_find_38 f_2_54 (by assumption) rfl ?_
      refine x_iload D_2_find_41 rfl ?_
      refine x_iaload D_2_find_43 (by assumption) (by omega) (by omega) rfl ?_
      rw [hGs]
      refine x_istore D_2_find_44 rfl rfl rfl ?_
      refine x_aload_n D_2_find_46 rfl ?_
      refine x_getfield D_2_find_47 f_2_15 (by assumption) rfl ?_
      refine x_iload D_2_find_50 rfl ?_
      refine x_iload D_2_find_52 rfl ?_
      refine x_bipush D_2_find_54 (by decide +kernel) ?_
      refine x_icmp_ne D_2_find_56 ⟨by omega, by omega⟩ ⟨by omega, by omega⟩ (fun c56 => ?_) (fun c56 => ?_)
      · refine x_aload_n D_2_find_63 rfl ?_
        refine x_getfield D_2_find_64 f_2_57 (by assumption) rfl ?_
        refine x_iload D_2_find_67 rfl ?_
        refine x_iaload D_2_find_69 (by assumption) (by omega) (by omega) rfl ?_
        refine x_aload_n D_2_find_70 rfl ?_
        refine x_getfield D_2_find_71 f_2_60 (by assumption) rfl ?_
        refine x_aload_n D_2_find_74 rfl ?_
        refine x_getfield D_2_find_75 f_2_65 (by assumption) rfl ?_
        refine x_iload D_2_find_78 rfl ?_
        refine x_iaload D_2_find_80 (by assumption) (by omega) (by omega) rfl ?_
        refine x_iaload D_2_find_81 (by assumption) (by omega) (by omega) rfl ?_
        rw [hDs.1]
        refine x_imul D_2_find_82 ?_
        refine x_iastore D_2_find_83 (by assumption) (by omega) (by omega) rfl (fun h83 e83 n83 => ?_)
        first | (replace o0 := (n83 _ (by omega)).trans o0) | (replace o0 := e83)
        first | (replace o1 := (n83 _ (by omega)).trans o1) | (replace o1 := e83)
        first | (replace o2 := (n83 _ (by omega)).trans o2) | (replace o2 := e83)
        first | (replace o3 := (n83 _ (by omega)).trans o3) | (replace o3 := e83)
        first | (replace o4 := (n83 _ (by omega)).trans o4) | (replace o4 := e83)
        first | (replace o5 := (n83 _ (by omega)).trans o5) | (replace o5 := e83)
        replace hfr := fun q hq => (n83 q (by omega)).trans (hfr q hq)
        refine x_iinc D_2_find_84 rfl rfl rfl rfl ?_
        refine x_goto D_2_find_87 ?_
        first | exact (ih (s + 1) _ _ (by omega) (hMn _ (by unfold melF; rw [if_pos c56])) o0 o1 o2 o3 o4 o5 hfr).sub rfl | exact (ih (s + 1) _ _ (by omega) (hMn _ (by unfold melF; rw [if_neg c56])) o0 o1 o2 o3 o4 o5 hfr).sub rfl
      refine x_iconst D_2_find_59 ?_
      refine x_goto D_2_find_60 ?_
      refine x_iastore D_2_find_83 (by assumption) (by omega) (by omega) rfl (fun h83 e83 n83 => ?_)
      first | (replace o0 := (n83 _ (by omega)).trans o0) | (replace o0 := e83)
      first | (replace o1 := (n83 _ (by omega)).trans o1) | (replace o1 := e83)
      first | (replace o2 := (n83 _ (by omega)).trans o2) | (replace o2 := e83)
      first | (replace o3 := (n83 _ (by omega)).trans o3) | (replace o3 := e83)
      first | (replace o4 := (n83 _ (by omega)).trans o4) | (replace o4 := e83)
      first | (replace o5 := (n83 _ (by omega)).trans o5) | (replace o5 := e83)
      replace hfr := fun q hq => (n83 q (by omega)).trans (hfr q hq)
      refine x_iinc D_2_find_84 rfl rfl rfl rfl ?_
      refine x_goto D_2_find_87 ?_
      first | exact (ih (s + 1) _ _ (by omega) (hMn _ (by unfold melF; rw [if_pos c56])) o0 o1 o2 o3 o4 o5 hfr).sub rfl | exact (ih (s + 1) _ _ (by omega) (hMn _ (by unfold melF; rw [if_neg c56])) o0 o1 o2 o3 o4 o5 hfr).sub rfl
  have hfr : ∀ q : Nat, (q < o ∨ o + 5 < q) → h q = h q := fun _ _ => rfl
  rw [hv] at v0 loop ⊢
  rw [hv] at hgn
  refine x_aload_n D_2_find_0 rfl ?_
  refine x_aload_n D_2_find_1 rfl ?_
  refine x_getfield D_2_find_2 f_2_27 (by assumption) rfl ?_
  refine x_putI D_2_find_5 f_2_33 (by assumption) (by decide +kernel) rfl (fun h5 e5 n5 => ?_)
  simp only [List.set_cons_zero, List.set_cons_succ] at e5
  first | (replace o0 := (n5 _ (by omega)).trans o0) | (replace o0 := e5)
  first | (replace o1 := (n5 _ (by omega)).trans o1) | (replace o1 := e5)
  first | (replace o2 := (n5 _ (by omega)).trans o2) | (replace o2 := e5)
  first | (replace o3 := (n5 _ (by omega)).trans o3) | (replace o3 := e5)
  first | (replace o4 := (n5 _ (by omega)).trans o4) | (replace o4 := e5)
  first | (replace o5 := (n5 _ (by omega)).trans o5) | (replace o5 := e5)
  replace hfr := fun q hq => (n5 q (by omega)).trans (hfr q hq)
  refine x_aload_n D_2_find_8 rfl ?_
  refine x_aload_n D_2_find_9 rfl ?_
  refine x_getfield D_2_find_10 f_2_33 (by assumption) rfl ?_
  refine x_invS2 (d' := d - 1) D_2_find_13 l_2_36 mi_J6_bitCount_0f7a4 (c_J6_bitCount_0f7a4 (by omega) (by omega))  rfl (by omega) rfl (fun q => q) rfl rfl (fun r13 h13 q13 => ?_)
  obtain ⟨rfl, rfl⟩ := q13
  rw [hpc]
  refine x_putI D_2_find_16 f_2_42 (by assumption) (by decide +kernel) rfl (fun h16 e16 n16 => ?_)
  simp only [List.set_cons_zero, List.set_cons_succ] at e16
  first | (replace o0 := (n16 _ (by omega)).trans o0) | (replace o0 := e16)
  first | (replace o1 := (n16 _ (by omega)).trans o1) | (replace o1 := e16)
  first | (replace o2 := (n16 _ (by omega)).trans o2) | (replace o2 := e16)
  first | (replace o3 := (n16 _ (by omega)).trans o3) | (replace o3 := e16)
  first | (replace o4 := (n16 _ (by omega)).trans o4) | (replace o4 := e16)
  first | (replace o5 := (n16 _ (by omega)).trans o5) | (replace o5 := e16)
  replace hfr := fun q hq => (n16 q (by omega)).trans (hfr q hq)
  refine x_aload_n D_2_find_19 rfl ?_
  refine x_ldc (n := 1000000) D_2_find_20 k_2_45 ?_
  refine x_putI D_2_find_22 f_2_46 (by assumption) (by decide +kernel) rfl (fun h22 e22 n22 => ?_)
  simp only [List.set_cons_zero, List.set_cons_succ] at e22
  first | (replace o0 := (n22 _ (by omega)).trans o0) | (replace o0 := e22)
  first | (replace o1 := (n22 _ (by omega)).trans o1) | (replace o1 := e22)
  first | (replace o2 := (n22 _ (by omega)).trans o2) | (replace o2 := e22)
  first | (replace o3 := (n22 _ (by omega)).trans o3) | (replace o3 := e22)
  first | (replace o4 := (n22 _ (by omega)).trans o4) | (replace o4 := e22)
  first | (replace o5 := (n22 _ (by omega)).trans o5) | (replace o5 := e22)
  replace hfr := fun q hq => (n22 q (by omega)).trans (hfr q hq)
  refine x_iconst D_2_find_25 ?_
  refine x_istore D_2_find_26 rfl rfl rfl ?_
  exact (loop c 0 _ Me0 (by omega) (fun j j0 j1 => absurd j0 (by omega)) o0 o1 o2 o3 o4 o5 hfr).sub rfl
