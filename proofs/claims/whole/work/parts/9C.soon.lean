def chT (G : Int → Int) (s : Nat) : List Nat := (List.range s).filter (fun s => decide (G (s : Int) ≠ -4))
theorem chT_f {G : Int → Int} {s : Nat} (h : G (s : Int) = -4) : chT G (s + 1) = chT G s := by
  unfold chT
  rw [List.range_succ, List.filter_append, List.filter_cons_of_neg (by simp [h])]
  simp
theorem chT_t {G : Int → Int} {s : Nat} (h : ¬ G (s : Int) = -4) : chT G (s + 1) = chT G s ++ [s] := by
  unfold chT
  rw [List.range_succ, List.filter_append, List.filter_cons_of_pos (by simp [h])]
  simp
theorem chT_len (G : Int → Int) (s : Nat) : (chT G s).length ≤ s := by
  have := List.length_filter_le (fun s : Nat => decide (G (s : Int) ≠ -4)) (List.range s)
  rw [List.length_range] at this
  exact this
theorem RwAt_snoc {V : TT} {L : List Nat} {s : Nat} (hR : RwAt V L) : RwAt (upr (upr V 40 (ups (V 40) (L.length : Int) (s : Int))) 43 (fun _ => (L.length : Int) + 1)) (L ++ [s]) := by
  refine ⟨by rw [upr_eq]; simp, fun j hj => ?_⟩
  rw [upr_ne _ _ (by omega), upr_eq]
  by_cases e : j = L.length
  · rw [e, ups_eq, getD_app_r _ _ (by omega), Nat.sub_self]
    rfl
  · have : j < L.length := by simp at hj; omega
    rw [ups_ne _ _ (by omega), getD_app_l _ _ this]
    exact hR.2 j this
theorem Walk.head {l x e : List Nat} {xs : List (List Nat)} (h : Walk l (x :: xs) e) : l = x := by
  cases xs with
  | nil => exact h.1
  | cons y ys => exact h.1
theorem iL_inj : ∀ {a b : List Nat}, iL a = iL b → a = b := by
  intro a
  induction a with
  | nil =>
    intro b h
    cases b with
    | nil => rfl
    | cons _ _ => cases h
  | cons x a ih =>
    intro b h
    cases b with
    | nil => cases h
    | cons y b =>
      simp only [List.map_cons, List.cons.injEq] at h
      rw [ih h.2, show x = y by omega]
/-- what the reference holds as the best one so far -/
def BsR (F : Int → Int) (m : Nat) (least : Int) (B : Int × List Int) : Prop := (B = (1000000, []) ∧ least = -4) ∨ (0 ≤ least ∧ least ≤ 1554 ∧ ∃ bl : List Nat, B = (least, iL bl) ∧ bl.length = m ∧ ∀ j : Nat, j < m → F (j : Int) = ((bl.getD j 0 : Nat) : Int))
theorem MtF.of2 {U V T : TT} {D : Int → Int} {st : SS} (h : MtF U T D st) (ho : ∀ a : Nat, a ≠ 40 → a ≠ 41 → a ≠ 42 → V a = U a) : MtF V T D st := by
  unfold MtF
  rw [ho 1 (by omega) (by omega) (by omega), ho 2 (by omega) (by omega) (by omega), ho 6 (by omega) (by omega) (by omega), ho 7 (by omega) (by omega) (by omega), ho 8 (by omega) (by omega) (by omega), ho 9 (by omega) (by omega) (by omega), ho 13 (by omega) (by omega) (by omega), ho 38 (by omega) (by omega) (by omega)]
  exact h
section R28
variable {d : Nat} {z : Nat × Nat} {h h0 : Hp} {T U : TT} {D G : Int → Int} {st : SS} {Q : Option Value → Hp → Prop}
theorem fs_row (hm : MdAt h U) (hk : TabOk T) (u2 : U 2 0 = T 4 0) (u39 : ∀ s : Nat, s < nSa T → U 39 (s : Int) = G (s : Int)) (hGr : ∀ s : Nat, s < nSa T → -4 ≤ G (s : Int) ∧ G (s : Int) ≤ 8) (hf : ∀ q : Nat, (q < 102 ∨ 128 < q) → h q = h0 q)
    (K : ∀ (hh : Hp) (V : TT), MdAt hh V → RwAt V (chL T G) → (∀ a : Nat, a ≠ 40 → a ≠ 43 → V a = U a) → (∀ q : Nat, (q < 102 ∨ 128 < q) → hh q = h0 q) → WW d m_6_findSoonest z Q z hh 61 [(0, .ref 102)] []) : WW d m_6_findSoonest z Q z h 9 [(0, .ref 102)] [] := by
  have k4 := hk.2.2.1
  have loop : ∀ (f s : Nat) (hh : Hp) (V : TT), s + f = nSa T → MdAt hh V → RwAt V (chT G s) → (∀ a : Nat, a ≠ 40 → a ≠ 43 → V a = U a) → (∀ q : Nat, (q < 102 ∨ 128 < q) → hh q = h0 q) → WW d m_6_findSoonest z Q z hh 16 [(0, .ref 102), (1, vi (s : Int))] [] := by
    intro f
    induction f with
    | zero =>
      intro s hh V hs hm hx ho hf
      obtain rfl : s = nSa T := by omega
      have v2 : V 2 0 = T 4 0 := (congrFun (ho 2 (by omega) (by omega)) 0).trans u2
      refine x_iload_n D_6_findSoonest_16 rfl ?_
      refine x_aload_n D_6_findSoonest_17 rfl ?_
      refine x_getfield D_6_findSoonest_18 f_6_118 (md_o hm) rfl ?_
      rw [v2]
      refine x_icmp_ge D_6_findSoonest_21 ⟨by unfold nSa; omega, by unfold nSa; omega⟩ ⟨by omega, by omega⟩ (fun c21 => ?_) (fun c21 => ?_)
      · exact (K hh V hm hx ho hf).sub rfl
      exact absurd c21 (by unfold nSa; omega)
    | succ f ih =>
      intro s hh V hs hm hx ho hf
      have hs4 : (s : Int) < T 4 0 := by unfold nSa at hs; omega
      have v2 : V 2 0 = T 4 0 := (congrFun (ho 2 (by omega) (by omega)) 0).trans u2
      have v39 : V 39 (s : Int) = G (s : Int) := (congrFun (ho 39 (by omega) (by omega)) _).trans (u39 s (by omega))
      have hg := hGr s (by omega)
      have hcl := chT_len G s
      have v43 := hx.1
      refine x_iload_n D_6_findSoonest_16 rfl ?_
      refine x_aload_n D_6_findSoonest_17 rfl ?_
      refine x_getfield D_6_findSoonest_18 f_6_118 (md_o hm) rfl ?_
      rw [v2]
      refine x_icmp_ge D_6_findSoonest_21 ⟨by omega, by omega⟩ ⟨by omega, by omega⟩ (fun c21 => ?_) (fun c21 => ?_)
      · exact absurd c21 (by omega)
      refine x_aload_n D_6_findSoonest_24 rfl ?_
      refine x_getfield D_6_findSoonest_25 f_6_76 (md_o hm) rfl ?_
      refine x_iload_n D_6_findSoonest_28 rfl ?_
      refine x_iaload D_6_findSoonest_29 (md_a39 hm) (by omega) (by omega) rfl ?_
      rw [v39]
      refine x_bipush D_6_findSoonest_30 (by decide +kernel) ?_
      refine x_icmp_eq D_6_findSoonest_32 ⟨by omega, by omega⟩ ⟨by omega, by omega⟩ (fun c32 => ?_) (fun c32 => ?_)
      · refine x_iinc D_6_findSoonest_55 rfl rfl rfl rfl ?_
        refine x_goto D_6_findSoonest_58 ?_
        first
        | exact (ih (s + 1) hh V (by omega) hm (by rw [chT_f c32]; exact hx) ho hf).sub rfl
        | exact (ih (s + 1) _ _ (by omega) hm (by rw [chT_t c32]; exact RwAt_snoc hx) (fun a a1 a2 => (upr_ne _ _ a2).trans ((upr_ne _ _ a1).trans (ho a a1 a2))) hf).sub rfl
      refine x_aload_n D_6_findSoonest_35 rfl ?_
      refine x_getfield D_6_findSoonest_36 f_6_79 (md_o hm) rfl ?_
      refine x_aload_n D_6_findSoonest_39 rfl ?_
      refine x_getfield D_6_findSoonest_40 f_6_236 (md_o hm) rfl ?_
      rw [v43]
      refine x_iload_n D_6_findSoonest_43 rfl ?_
      refine x_iastore D_6_findSoonest_44 (md_a40 hm) (by omega) (by omega) rfl (fun h44 e44 n44 => ?_)
      replace hm := md_s40 hm e44 n44
      replace hf := fun q hq => (n44 q (by omega)).trans (hf q hq)
      refine x_aload_n D_6_findSoonest_45 rfl ?_
      refine x_dup D_6_findSoonest_46 rfl ?_
      refine x_getfield D_6_findSoonest_47 f_6_236 (md_o hm) rfl ?_
      try simp only [upr, Nat.reduceEqDiff, ↓reduceIte]
      rw [v43]
      refine x_iconst D_6_findSoonest_50 ?_
      refine x_iadd D_6_findSoonest_51 ?_
      refine x_putI D_6_findSoonest_52 f_6_236 (md_o hm) (by decide +kernel) rfl (fun h52 e52 n52 => ?_)
      replace hm := md_p43 hm e52 n52
      try simp only [upr, Nat.reduceEqDiff, ↓reduceIte] at hm
      replace hf := fun q hq => (n52 q (by omega)).trans (hf q hq)
      refine x_iinc D_6_findSoonest_55 rfl rfl rfl rfl ?_
      refine x_goto D_6_findSoonest_58 ?_
      first
      | exact (ih (s + 1) hh V (by omega) hm (by rw [chT_f c32]; exact hx) ho hf).sub rfl
      | exact (ih (s + 1) _ _ (by omega) hm (by rw [chT_t c32]; exact RwAt_snoc hx) (fun a a1 a2 => (upr_ne _ _ a2).trans ((upr_ne _ _ a1).trans (ho a a1 a2))) hf).sub rfl
  refine x_aload_n D_6_findSoonest_9 rfl ?_
  refine x_iconst D_6_findSoonest_10 ?_
  refine x_putI D_6_findSoonest_11 f_6_236 (md_o hm) (by decide +kernel) rfl (fun h11 e11 n11 => ?_)
  replace hm := md_p43 hm e11 n11
  replace hf := fun q hq => (n11 q (by omega)).trans (hf q hq)
  refine x_iconst D_6_findSoonest_14 ?_
  refine x_istore_n D_6_findSoonest_15 rfl rfl rfl ?_
  exact (loop (nSa T) 0 _ _ (by omega) hm ⟨rfl, fun j hj => (Nat.not_lt_zero j hj).elim⟩ (fun a a1 a2 => upr_ne _ _ a2) hf).sub rfl
theorem fs_loop {W : TT} {C : List Nat} {BF : Int × List Int} (hd : 3 ≤ d) (hk : TabOk T) (hMt : MtF W T D st) (hmel : MelOk T (melF T D G)) (w39 : ∀ s : Nat, s < nSa T → W 39 (s : Int) = G (s : Int)) (hGr : ∀ s : Nat, s < nSa T → -4 ≤ G (s : Int) ∧ G (s : Int) ≤ 8) (w10 : ∀ s : Int, 0 ≤ s → s < T 4 0 → W 10 s = T 8 s) (h7 : C.length ≤ 7) (hCin : ∀ w ∈ C, w < nSa T ∧ 0 ≤ G (w : Int) ∧ G (w : Int) < T 2 0) (hCnd : C.Nodup) {e : List Nat} (he : Fall e)
    (K : ∀ (hh : Hp) (V : TT) (least : Int), MdAt hh V → V 43 0 = (C.length : Int) → BsR (V 41) C.length least BF → (∀ a : Nat, a ≠ 40 → a ≠ 41 → a ≠ 42 → V a = W a) → (∀ q : Nat, (q < 102 ∨ 128 < q) → hh q = h0 q) → WW d m_6_findSoonest z Q z hh 66 [(0, .ref 102), (1, vi least), (2, vi 0)] []) :
    ∀ (xs : List (List Nat)) (l : List Nat) (B : Int × List Int) (least : Int) (hh : Hp) (V : TT), Walk l xs e → (∀ r ∈ xs, r.Perm C) → bestB T (melF T D G) B ((xs.filter (fun r => decide (KF T G [] r))).map iL) = BF → MdAt hh V → RwAt V l → BsR (V 41) C.length least B → (∀ a : Nat, a ≠ 40 → a ≠ 41 → a ≠ 42 → V a = W a) → (∀ q : Nat, (q < 102 ∨ 128 < q) → hh q = h0 q) → WW d m_6_findSoonest z Q z hh 66 [(0, .ref 102), (1, vi least), (2, vi 1)] [] := by
  have k4 := hk.2.2.1
  have hn7 : nSa T ≤ 7 := by unfold nSa; omega
  intro xs
  induction xs with
  | nil => intro l B least hh V hw; cases hw
  | cons l' xs ih =>
    intro l B least hh V hw hp hB hm hR hBs ho hf
    obtain rfl := hw.head
    have hpl := hp l (by simp)
    have hll : l.length = C.length := hpl.length_eq
    have hlnd : l.Nodup := hpl.nodup_iff.mpr hCnd
    have hlin : ∀ w ∈ l, w < nSa T ∧ 0 ≤ G (w : Int) ∧ G (w : Int) < T 2 0 := fun w hww => hCin w (hpl.mem_iff.mp hww)
    have hInS : InS T (iL l) := by
      intro x hx
      obtain ⟨w, hw2, rfl⟩ := List.mem_map.mp hx
      have := (hlin w hw2).1
      unfold nSa at this
      omega
    have hsr := (sim_rng hk hmel hInS).2
    have hil : (iL l).length = l.length := by simp
    rw [hil] at hsr
    have next : ∀ (h1 : Hp) (V1 : TT) (least1 : Int) (B1 : Int × List Int), bestB T (melF T D G) B1 ((xs.filter (fun r => decide (KF T G [] r))).map iL) = BF → MdAt h1 V1 → RwAt V1 l → BsR (V1 41) C.length least1 B1 → (∀ a : Nat, a ≠ 40 → a ≠ 41 → a ≠ 42 → V1 a = W a) → (∀ q : Nat, (q < 102 ∨ 128 < q) → h1 q = h0 q) → WW d m_6_findSoonest z Q z h1 138 [(0, .ref 102), (1, vi least1)] [] := by
      intro h1 V1 least1 B1 hB1 hm hR1 hBs1 ho1 hf1
      refine x_aload_n D_6_findSoonest_138 rfl ?_
      refine x_invV (d' := d - 1) D_6_findSoonest_139 l_6_249 mi_6_nextRow (c_6_nextRow (by omega) hm hR1 (by omega) (fun w hw2 => by have := (hlin w hw2).1; omega) hlnd) (md_o hm) rfl rfl (by omega) rfl (fun q => q) rfl rfl (fun r139 h139 q139 => ?_)
      obtain ⟨b, V2, rfl, hm, ho2, hcase, hf2⟩ := q139
      have hf3 : ∀ q : Nat, (q < 102 ∨ 128 < q) → h139 q = h0 q := fun q hq => (hf2 q hq).trans (hf1 q hq)
      have ho3 : ∀ a : Nat, a ≠ 40 → a ≠ 41 → a ≠ 42 → V2 a = W a := fun a a1 a2 a3 => (ho2 a a1).trans (ho1 a a1 a2 a3)
      have hBs2 : BsR (V2 41) C.length least1 B1 := by rw [ho2 41 (by omega)]; exact hBs1
      rcases hcase with ⟨rfl, hFl, -⟩ | ⟨rfl, l2, hNx, hR2⟩
      · cases xs with
        | nil =>
          rw [bi_f (by decide)]
          refine x_istore_n D_6_findSoonest_142 rfl rfl rfl ?_
          refine x_goto D_6_findSoonest_143 ?_
          have hB2 : B1 = BF := hB1
          rw [hB2] at hBs2
          exact (K h139 V2 least1 hm ((congrFun (ho2 43 (by omega)) 0).trans (hR1.1.trans (by rw [hll]))) hBs2 ho3 hf3).sub rfl
        | cons y ys => exact (Nx_fall hFl hw.2.1).elim
      · cases xs with
        | nil => exact (Nx_fall (by have q := hw.2; rw [← q]; exact he) hNx).elim
        | cons y ys =>
          rw [bi_t rfl]
          refine x_istore_n D_6_findSoonest_142 rfl rfl rfl ?_
          refine x_goto D_6_findSoonest_143 ?_
          rw [Nx_det l hNx hw.2.1] at hR2
          exact (ih y B1 least1 h139 V2 hw.2.2 (fun r hr => hp r (by simp at hr ⊢; exact Or.inr hr)) hB1 hm hR2 hBs2 ho3 hf3).sub rfl
    have copy : bestB T (melF T D G) ((sim T (melF T D G) (iL l)).2, iL l) ((xs.filter (fun r => decide (KF T G [] r))).map iL) = BF → ∀ (f k : Nat) (h1 : Hp) (V1 : TT), k + f = l.length → MdAt h1 V1 → RwAt V1 l → (∀ j : Nat, j < k → V1 41 (j : Int) = ((l.getD j 0 : Nat) : Int)) → (∀ a : Nat, a ≠ 40 → a ≠ 41 → a ≠ 42 → V1 a = W a) → (∀ q : Nat, (q < 102 ∨ 128 < q) → h1 q = h0 q) → WW d m_6_findSoonest z Q z h1 109 [(0, .ref 102), (1, vi (sim T (melF T D G) (iL l)).2), (4, vi (k : Int))] [] := by
      intro hB1 f
      induction f with
      | zero =>
        intro k h1 V1 hkk hm hR1 hx ho1 hf1
        obtain rfl : k = l.length := by omega
        have v43 := hR1.1
        refine x_iload D_6_findSoonest_109 rfl ?_
        refine x_aload_n D_6_findSoonest_111 rfl ?_
        refine x_getfield D_6_findSoonest_112 f_6_236 (md_o hm) rfl ?_
        rw [v43]
        refine x_icmp_ge D_6_findSoonest_115 ⟨by omega, by omega⟩ ⟨by omega, by omega⟩ (fun c115 => ?_) (fun c115 => ?_)
        · exact (next h1 V1 _ _ hB1 hm hR1 (Or.inr ⟨hsr.1, by omega, l, rfl, hll, fun j hj => hx j (by omega)⟩) ho1 hf1).sub rfl
        exact absurd c115 (by omega)
      | succ f ihf =>
        intro k h1 V1 hkk hm hR1 hx ho1 hf1
        have v43 := hR1.1
        have v40 := hR1.2 k (by omega)
        refine x_iload D_6_findSoonest_109 rfl ?_
        refine x_aload_n D_6_findSoonest_111 rfl ?_
        refine x_getfield D_6_findSoonest_112 f_6_236 (md_o hm) rfl ?_
        rw [v43]
        refine x_icmp_ge D_6_findSoonest_115 ⟨by omega, by omega⟩ ⟨by omega, by omega⟩ (fun c115 => ?_) (fun c115 => ?_)
        · exact absurd c115 (by omega)
        refine x_aload_n D_6_findSoonest_118 rfl ?_
        refine x_getfield D_6_findSoonest_119 f_6_82 (md_o hm) rfl ?_
        refine x_iload D_6_findSoonest_122 rfl ?_
        refine x_aload_n D_6_findSoonest_124 rfl ?_
        refine x_getfield D_6_findSoonest_125 f_6_79 (md_o hm) rfl ?_
        refine x_iload D_6_findSoonest_128 rfl ?_
        refine x_iaload D_6_findSoonest_130 (md_a40 hm) (by omega) (by omega) rfl ?_
        rw [v40]
        refine x_iastore D_6_findSoonest_131 (md_a41 hm) (by omega) (by omega) rfl (fun h131 e131 n131 => ?_)
        replace hm := md_s41 hm e131 n131
        replace hf1 := fun q hq => (n131 q (by omega)).trans (hf1 q hq)
        refine x_iinc D_6_findSoonest_132 rfl rfl rfl rfl ?_
        refine x_goto D_6_findSoonest_135 ?_
        refine (ihf (k + 1) _ _ (by omega) hm ⟨(congrFun (upr_ne _ _ (by omega)) 0).trans v43, fun j hj => (congrFun (upr_ne _ _ (by omega)) _).trans (hR1.2 j hj)⟩ (fun j hj => ?_) (fun a a1 a2 a3 => (upr_ne _ _ a2).trans (ho1 a a1 a2 a3)) hf1).sub rfl
        rw [upr_eq]
        by_cases ej : j = k
        · rw [ej, ups_eq]
        · rw [ups_ne _ _ (by omega)]
          exact hx j (by omega)
    have v43 := hR.1
    have v10 : ∀ s : Int, 0 ≤ s → s < T 4 0 → V 10 s = T 8 s := fun s s0 s1 => (congrFun (ho 10 (by omega) (by omega) (by omega)) s).trans (w10 s s0 s1)
    have v39 : ∀ s : Nat, s < nSa T → V 39 (s : Int) = G (s : Int) := fun s hs => (congrFun (ho 39 (by omega) (by omega) (by omega)) _).trans (w39 s hs)
    have hlr : -4 ≤ least ∧ least ≤ 1554 := by
      rcases hBs with ⟨-, q⟩ | ⟨q1, q2, -⟩ <;> omega
    refine x_iload_n D_6_findSoonest_66 rfl ?_
    refine x_if_eq D_6_findSoonest_67 ⟨by omega, by omega⟩ (fun c67 => ?_) (fun c67 => ?_)
    · exact absurd c67 (by omega)
    refine x_aload_n D_6_findSoonest_70 rfl ?_
    refine x_invV (d' := d - 1) D_6_findSoonest_71 l_6_243 mi_6_keepsAnswers (c_6_keepsAnswers (by omega) hm hk v43 (by omega) hR.2 (fun j hj => (hlin _ (getD_mem hj)).1) v10 v39 hGr) (md_o hm) rfl rfl (by omega) rfl (fun q => q) rfl rfl (fun r71 h71 q71 => ?_)
    obtain ⟨rfl, rfl⟩ := q71
    refine x_if_eqb D_6_findSoonest_74 (fun c74 => ?_) (fun c74 => ?_)
    · refine x_bipush D_6_findSoonest_84 (by decide +kernel) ?_
      refine x_istore_n D_6_findSoonest_86 rfl rfl rfl ?_
      refine x_iload_n D_6_findSoonest_87 rfl ?_
      refine x_bipush D_6_findSoonest_88 (by decide +kernel) ?_
      refine x_icmp_eq D_6_findSoonest_90 ⟨by omega, by omega⟩ ⟨by omega, by omega⟩ (fun _ => ?_) (fun c90 => absurd rfl c90)
      exact (next _ V least B (by rw [List.filter_cons_of_neg (by rw [decide_eq_true_iff]; exact c74)] at hB; exact hB) hm hR hBs ho hf).sub rfl
    refine x_aload_n D_6_findSoonest_77 rfl ?_
    refine x_invV (d' := d - 1) D_6_findSoonest_78 l_6_246 mi_6_runs (c_6_runs (by omega) hm hR (by omega) hk (hMt.of2 ho) hmel hlnd hlin v39) (md_o hm) rfl rfl (by omega) rfl (fun q => q) rfl rfl (fun r78 h78 q78 => ?_)
    obtain ⟨rfl, ⟨V2, hm, w42, ho2⟩, hf2⟩ := q78
    have hf3 : ∀ q : Nat, (q < 102 ∨ 128 < q) → h78 q = h0 q := fun q hq => (hf2 q hq).trans (hf q hq)
    have hR2 : RwAt V2 l := ⟨(congrFun (ho2 43 (by omega)) 0).trans hR.1, fun j hj => (congrFun (ho2 40 (by omega)) _).trans (hR.2 j hj)⟩
    have ho3 : ∀ a : Nat, a ≠ 40 → a ≠ 41 → a ≠ 42 → V2 a = W a := fun a a1 a2 a3 => (ho2 a a3).trans (ho a a1 a2 a3)
    have hBs2 : BsR (V2 41) C.length least B := by rw [ho2 41 (by omega)]; exact hBs
    rw [List.filter_cons_of_pos (by exact decide_eq_true c74), List.map_cons] at hB
    have hB' : bestB T (melF T D G) (updB T (melF T D G) B (iL l)) ((xs.filter (fun r => decide (KF T G [] r))).map iL) = BF := hB
    unfold updB at hB'
    refine x_goto D_6_findSoonest_81 ?_
    refine x_istore_n D_6_findSoonest_86 rfl rfl rfl ?_
    refine x_iload_n D_6_findSoonest_87 rfl ?_
    refine x_bipush D_6_findSoonest_88 (by decide +kernel) ?_
    refine x_icmp_eq D_6_findSoonest_90 ⟨by omega, by omega⟩ ⟨by omega, by omega⟩ (fun c90 => ?_) (fun c90 => ?_)
    · exact absurd c90 (by omega)
    refine x_iload_n D_6_findSoonest_93 rfl ?_
    refine x_bipush D_6_findSoonest_94 (by decide +kernel) ?_
    refine x_icmp_eq D_6_findSoonest_96 ⟨by omega, by omega⟩ ⟨by omega, by omega⟩ (fun c96 => ?_) (fun c96 => ?_)
    · refine x_iload_n D_6_findSoonest_104 rfl ?_
      refine x_istore_n D_6_findSoonest_105 rfl rfl rfl ?_
      refine x_iconst D_6_findSoonest_106 ?_
      refine x_istore D_6_findSoonest_107 rfl rfl rfl ?_
      have hlt : (sim T (melF T D G) (iL l)).2 < B.1 := by
        rcases hBs with ⟨q1, q2⟩ | ⟨q1, q2, bl, q3, -⟩
        · rw [q1]; show _ < (1000000 : Int); omega
        · rw [q3]; show _ < least; omega
      rw [if_pos hlt] at hB'
      exact (copy hB' l.length 0 _ V2 (by omega) hm hR2 (fun j hj => absurd hj (by omega)) ho3 hf3).sub rfl
    refine x_iload_n D_6_findSoonest_99 rfl ?_
    refine x_iload_n D_6_findSoonest_100 rfl ?_
    refine x_icmp_ge D_6_findSoonest_101 ⟨by omega, by omega⟩ ⟨by omega, by omega⟩ (fun c101 => ?_) (fun c101 => ?_)
    · have hlt : ¬ (sim T (melF T D G) (iL l)).2 < B.1 := by
        rcases hBs with ⟨q1, q2⟩ | ⟨q1, q2, bl, q3, -⟩
        · exfalso; omega
        · rw [q3]; show ¬ _ < least; omega
      rw [if_neg hlt] at hB'
      exact (next _ V2 least B hB' hm hR2 hBs2 ho3 hf3).sub rfl
    refine x_iload_n D_6_findSoonest_104 rfl ?_
    refine x_istore_n D_6_findSoonest_105 rfl rfl rfl ?_
    refine x_iconst D_6_findSoonest_106 ?_
    refine x_istore D_6_findSoonest_107 rfl rfl rfl ?_
    have hlt : (sim T (melF T D G) (iL l)).2 < B.1 := by
      rcases hBs with ⟨q1, q2⟩ | ⟨q1, q2, bl, q3, -⟩
      · rw [q1]; show _ < (1000000 : Int); omega
      · rw [q3]; show _ < least; omega
    rw [if_pos hlt] at hB'
    exact (copy hB' l.length 0 _ V2 (by omega) hm hR2 (fun j hj => absurd hj (by omega)) ho3 hf3).sub rfl
end R28
