section R22
variable {d : Nat} {z : Nat × Nat} {h : Hp} {T : TT} {G : Int → Int} {l : List Nat}
theorem c_6_swap (hd : 0 ≤ d) {V : TT} (hm : MdAt h V) {a c : Int} (ha : 0 ≤ a ∧ a < 7) (hc : 0 ≤ c ∧ c < 7) : Ct d m_6_swap [.ref 102, vi a, vi c] z z h (fun r h' => r = none ∧ MdAt h' (upr V 40 (ups (ups (V 40) a (V 40 c)) c (V 40 a))) ∧ ∀ q : Nat, (q < 102 ∨ 128 < q) → h' q = h q) := by
  refine Ct.of (by decide) ⟨Nat.le_refl _, Nat.le_refl _⟩ (Nat.le_of_ble_eq_true rfl) ?_
  have hf : ∀ q : Nat, (q < 102 ∨ 128 < q) → h q = h q := fun _ _ => rfl
  refine x_aload_n D_6_swap_0 rfl ?_
  refine x_getfield D_6_swap_1 f_6_79 (md_o hm) rfl ?_
  refine x_iload_n D_6_swap_4 rfl ?_
  refine x_iaload D_6_swap_5 (md_a40 hm) (by omega) (by omega) rfl ?_
  refine x_istore_n D_6_swap_6 rfl rfl rfl ?_
  refine x_aload_n D_6_swap_7 rfl ?_
  refine x_getfield D_6_swap_8 f_6_79 (md_o hm) rfl ?_
  refine x_iload_n D_6_swap_11 rfl ?_
  refine x_aload_n D_6_swap_12 rfl ?_
  refine x_getfield D_6_swap_13 f_6_79 (md_o hm) rfl ?_
  refine x_iload_n D_6_swap_16 rfl ?_
  refine x_iaload D_6_swap_17 (md_a40 hm) (by omega) (by omega) rfl ?_
  refine x_iastore D_6_swap_18 (md_a40 hm) (by omega) (by omega) rfl (fun h18 e18 n18 => ?_)
  replace hm := md_s40 hm e18 n18
  replace hf := fun q hq => (n18 q (by omega)).trans (hf q hq)
  refine x_aload_n D_6_swap_19 rfl ?_
  refine x_getfield D_6_swap_20 f_6_79 (md_o hm) rfl ?_
  refine x_iload_n D_6_swap_23 rfl ?_
  refine x_iload_n D_6_swap_24 rfl ?_
  refine x_iastore D_6_swap_25 (md_a40 hm) (by omega) (by omega) rfl (fun h25 e25 n25 => ?_)
  replace hm := md_s40 hm e25 n25
  try simp only [upr, Nat.reduceEqDiff, ↓reduceIte] at hm
  try rw [upr_upr] at hm
  replace hf := fun q hq => (n25 q (by omega)).trans (hf q hq)
  refine x_return D_6_swap_26 rfl rfl ?_
  exact ⟨rfl, hm, hf⟩
theorem take_succ_getD (l : List Nat) {k : Nat} (h : k < l.length) : l.take (k + 1) = l.take k ++ [l.getD k 0] := by
  rw [List.take_succ, List.getElem?_eq_getElem h, List.getD_eq_getElem?_getD, List.getElem?_eq_getElem h]
  rfl
theorem c_6_keepsAnswers (hd : 1 ≤ d) {V : TT} (hm : MdAt h V) (hk : TabOk T) (v43 : V 43 0 = (l.length : Int)) (h7 : l.length ≤ 7) (v40 : ∀ j : Nat, j < l.length → V 40 (j : Int) = ((l.getD j 0 : Nat) : Int)) (hin : ∀ j : Nat, j < l.length → l.getD j 0 < nSa T) (v10 : ∀ s : Int, 0 ≤ s → s < T 4 0 → V 10 s = T 8 s) (v39 : ∀ s : Nat, s < nSa T → V 39 (s : Int) = G (s : Int)) (hG : ∀ s : Nat, s < nSa T → -4 ≤ G (s : Int) ∧ G (s : Int) ≤ 8) :
    Ct d m_6_keepsAnswers [.ref 102] z z h (Pu (bi (∀ k : Nat, k < l.length → ansP T G (iL (l.take k)) ((l.getD k 0 : Nat) : Int))) h) := by
  refine Ct.of (by decide) ⟨Nat.le_refl _, Nat.le_refl _⟩ (Nat.le_of_ble_eq_true rfl) ?_
  have k4 := hk.2.2.1
  have hn7 : nSa T ≤ 7 := by unfold nSa; omega
  have loop : ∀ (f k : Nat) (x sg : Int), k + f = l.length → (∀ j : Nat, j < 32 → (tb sg j = true ↔ j ∈ l.take k)) → (x = 1 ∧ (∀ k' : Nat, k' < k → ansP T G (iL (l.take k')) ((l.getD k' 0 : Nat) : Int)) ∨ x = 0 ∧ ¬ ∀ k' : Nat, k' < k → ansP T G (iL (l.take k')) ((l.getD k' 0 : Nat) : Int)) →
      WW d m_6_keepsAnswers z (Pu (bi (∀ k : Nat, k < l.length → ansP T G (iL (l.take k)) ((l.getD k 0 : Nat) : Int))) h) z h 6 [(0, .ref 102), (1, vi sg), (2, vi x), (3, vi (k : Int))] [] := by
    intro f
    induction f with
    | zero =>
      intro k x sg hkk hsg hx
      obtain rfl : k = l.length := by omega
      rcases hx with ⟨rfl, q⟩ | ⟨rfl, q⟩
      · rw [bi_t q]
        refine x_iload_n D_6_keepsAnswers_6 rfl ?_
        refine x_aload_n D_6_keepsAnswers_7 rfl ?_
        refine x_getfield D_6_keepsAnswers_8 f_6_236 (md_o hm) rfl ?_
        rw [v43]
        refine x_icmp_ge D_6_keepsAnswers_11 ⟨by omega, by omega⟩ ⟨by omega, by omega⟩ (fun c11 => ?_) (fun c11 => ?_)
        · refine x_iload_n D_6_keepsAnswers_82 rfl ?_
          refine x_ireturn D_6_keepsAnswers_83 rfl (by first | rfl | exact nb_bi _ | decide +kernel) rfl ?_
          exact ⟨rfl, rfl⟩
        exact absurd c11 (by omega)
      · rw [bi_f q]
        refine x_iload_n D_6_keepsAnswers_6 rfl ?_
        refine x_aload_n D_6_keepsAnswers_7 rfl ?_
        refine x_getfield D_6_keepsAnswers_8 f_6_236 (md_o hm) rfl ?_
        rw [v43]
        refine x_icmp_ge D_6_keepsAnswers_11 ⟨by omega, by omega⟩ ⟨by omega, by omega⟩ (fun c11 => ?_) (fun c11 => ?_)
        · refine x_iload_n D_6_keepsAnswers_82 rfl ?_
          refine x_ireturn D_6_keepsAnswers_83 rfl (by first | rfl | exact nb_bi _ | decide +kernel) rfl ?_
          exact ⟨rfl, rfl⟩
        exact absurd c11 (by omega)
    | succ f ih =>
      intro k x sg hkk hsg hx
      have hkl : k < l.length := by omega
      have w40 := v40 k hkl
      have hs := hin k hkl
      generalize hsv : l.getD k 0 = s at w40 hs
      have hs4 : (s : Int) < T 4 0 := by unfold nSa at hs; omega
      have h8 := (hk.2.2.2.2.2.2.2.1 (s : Int) (by omega) hs4).2.2.2
      have w10 := v10 (s : Int) (by omega) hs4
      have hx2 : 0 ≤ x ∧ x ≤ 1 := by rcases hx with q | q <;> omega
      have hsg2 : ∀ j : Nat, j < 32 → (tb (iOr sg (iShl 1 (s : Int))) j = true ↔ j ∈ l.take (k + 1)) := by
        intro j hj
        rw [take_succ_getD l hkl, hsv, tb_or, tb_shl1 s (by omega) j hj, List.mem_append, List.mem_singleton, Bool.or_eq_true, decide_eq_true_iff, hsg j hj]
      have hnext : ∀ y : Int, (y = 1 ∧ ansP T G (iL (l.take k)) (s : Int) ∧ x = 1 ∨ y = 0 ∧ (x = 0 ∨ ¬ ansP T G (iL (l.take k)) (s : Int))) → (y = 1 ∧ (∀ k' : Nat, k' < k + 1 → ansP T G (iL (l.take k')) ((l.getD k' 0 : Nat) : Int)) ∨ y = 0 ∧ ¬ ∀ k' : Nat, k' < k + 1 → ansP T G (iL (l.take k')) ((l.getD k' 0 : Nat) : Int)) := by
        intro y hy
        rcases hy with ⟨y1, y2, y3⟩ | ⟨y1, y2⟩
        · refine Or.inl ⟨y1, fun k' hk' => ?_⟩
          by_cases e : k' = k
          · rw [e, hsv]; exact y2
          · exact (hx.resolve_right (fun q => absurd q.1 (by omega))).2 k' (by omega)
        · refine Or.inr ⟨y1, fun q => ?_⟩
          rcases y2 with y2 | y2
          · exact (hx.resolve_left (fun w => absurd w.1 (by omega))).2 (fun k' hk' => q k' (by omega))
          · have := q k (by omega)
            rw [hsv] at this
            exact y2 this
      have hmem : ∀ a : Nat, a < nSa T → (hasB sg (a : Int) ↔ (a : Int) ∈ iL (l.take k)) := by
        intro a ha
        rw [has_tb _ (by omega), hsg a (by omega), iL_mem]
      by_cases h8n : T 8 (s : Int) = -4
      · rw [h8n] at w10
        refine x_iload_n D_6_keepsAnswers_6 rfl ?_
        refine x_aload_n D_6_keepsAnswers_7 rfl ?_
        refine x_getfield D_6_keepsAnswers_8 f_6_236 (md_o hm) rfl ?_
        rw [v43]
        refine x_icmp_ge D_6_keepsAnswers_11 ⟨by omega, by omega⟩ ⟨by omega, by omega⟩ (fun c11 => ?_) (fun c11 => ?_)
        · exact absurd c11 (by omega)
        refine x_aload_n D_6_keepsAnswers_14 rfl ?_
        refine x_getfield D_6_keepsAnswers_15 f_6_25 (md_o hm) rfl ?_
        refine x_aload_n D_6_keepsAnswers_18 rfl ?_
        refine x_getfield D_6_keepsAnswers_19 f_6_79 (md_o hm) rfl ?_
        refine x_iload_n D_6_keepsAnswers_22 rfl ?_
        refine x_iaload D_6_keepsAnswers_23 (md_a40 hm) (by omega) (by omega) rfl ?_
        rw [w40]
        refine x_iaload D_6_keepsAnswers_24 (md_a10 hm) (by omega) (by omega) rfl ?_
        rw [w10]
        refine x_istore D_6_keepsAnswers_25 rfl rfl rfl ?_
        refine x_iload_n D_6_keepsAnswers_27 rfl ?_
        refine x_if_eq D_6_keepsAnswers_28 ⟨by omega, by omega⟩ (fun c28 => ?_) (fun c28 => ?_)
        · refine x_iconst D_6_keepsAnswers_63 ?_
          refine x_istore_n D_6_keepsAnswers_64 rfl rfl rfl ?_
          refine x_iload_n D_6_keepsAnswers_65 rfl ?_
          refine x_iconst D_6_keepsAnswers_66 ?_
          refine x_aload_n D_6_keepsAnswers_67 rfl ?_
          refine x_getfield D_6_keepsAnswers_68 f_6_79 (md_o hm) rfl ?_
          refine x_iload_n D_6_keepsAnswers_71 rfl ?_
          refine x_iaload D_6_keepsAnswers_72 (md_a40 hm) (by omega) (by omega) rfl ?_
          rw [w40]
          refine x_ishl D_6_keepsAnswers_73 ?_
          refine x_ior D_6_keepsAnswers_74 ?_
          refine x_istore_n D_6_keepsAnswers_75 rfl rfl rfl ?_
          refine x_iinc D_6_keepsAnswers_76 rfl rfl rfl rfl ?_
          refine x_goto D_6_keepsAnswers_79 ?_
          first
          | exact (ih (k + 1) 1 (iOr sg (iShl 1 (s : Int))) (by omega) hsg2 (hnext 1 (Or.inl ⟨rfl, Or.inl h8n, by omega⟩))).sub rfl
          | exact (ih (k + 1) 0 (iOr sg (iShl 1 (s : Int))) (by omega) hsg2 (hnext 0 (Or.inr ⟨rfl, Or.inl (by omega)⟩))).sub rfl
        refine x_iload D_6_keepsAnswers_31 rfl ?_
        refine x_bipush D_6_keepsAnswers_33 (by decide +kernel) ?_
        refine x_icmp_eq D_6_keepsAnswers_35 ⟨by omega, by omega⟩ ⟨by omega, by omega⟩ (fun c35 => ?_) (fun c35 => ?_)
        · refine x_iconst D_6_keepsAnswers_59 ?_
          refine x_goto D_6_keepsAnswers_60 ?_
          refine x_istore_n D_6_keepsAnswers_64 rfl rfl rfl ?_
          refine x_iload_n D_6_keepsAnswers_65 rfl ?_
          refine x_iconst D_6_keepsAnswers_66 ?_
          refine x_aload_n D_6_keepsAnswers_67 rfl ?_
          refine x_getfield D_6_keepsAnswers_68 f_6_79 (md_o hm) rfl ?_
          refine x_iload_n D_6_keepsAnswers_71 rfl ?_
          refine x_iaload D_6_keepsAnswers_72 (md_a40 hm) (by omega) (by omega) rfl ?_
          rw [w40]
          refine x_ishl D_6_keepsAnswers_73 ?_
          refine x_ior D_6_keepsAnswers_74 ?_
          refine x_istore_n D_6_keepsAnswers_75 rfl rfl rfl ?_
          refine x_iinc D_6_keepsAnswers_76 rfl rfl rfl rfl ?_
          refine x_goto D_6_keepsAnswers_79 ?_
          first
          | exact (ih (k + 1) 1 (iOr sg (iShl 1 (s : Int))) (by omega) hsg2 (hnext 1 (Or.inl ⟨rfl, Or.inl h8n, by omega⟩))).sub rfl
          | exact (ih (k + 1) 0 (iOr sg (iShl 1 (s : Int))) (by omega) hsg2 (hnext 0 (Or.inr ⟨rfl, Or.inl (by omega)⟩))).sub rfl
        exact absurd rfl c35
      · obtain ⟨a, ha⟩ : ∃ a : Nat, T 8 (s : Int) = (a : Int) := ⟨(T 8 (s : Int)).toNat, by omega⟩
        have han : a < nSa T := by omega
        have w39 := v39 a han
        have wG := hG a han
        have hma := hmem a han
        rw [ha] at w10
        refine x_iload_n D_6_keepsAnswers_6 rfl ?_
        refine x_aload_n D_6_keepsAnswers_7 rfl ?_
        refine x_getfield D_6_keepsAnswers_8 f_6_236 (md_o hm) rfl ?_
        rw [v43]
        refine x_icmp_ge D_6_keepsAnswers_11 ⟨by omega, by omega⟩ ⟨by omega, by omega⟩ (fun c11 => ?_) (fun c11 => ?_)
        · exact absurd c11 (by omega)
        refine x_aload_n D_6_keepsAnswers_14 rfl ?_
        refine x_getfield D_6_keepsAnswers_15 f_6_25 (md_o hm) rfl ?_
        refine x_aload_n D_6_keepsAnswers_18 rfl ?_
        refine x_getfield D_6_keepsAnswers_19 f_6_79 (md_o hm) rfl ?_
        refine x_iload_n D_6_keepsAnswers_22 rfl ?_
        refine x_iaload D_6_keepsAnswers_23 (md_a40 hm) (by omega) (by omega) rfl ?_
        rw [w40]
        refine x_iaload D_6_keepsAnswers_24 (md_a10 hm) (by omega) (by omega) rfl ?_
        rw [w10]
        refine x_istore D_6_keepsAnswers_25 rfl rfl rfl ?_
        refine x_iload_n D_6_keepsAnswers_27 rfl ?_
        refine x_if_eq D_6_keepsAnswers_28 ⟨by omega, by omega⟩ (fun c28 => ?_) (fun c28 => ?_)
        · refine x_iconst D_6_keepsAnswers_63 ?_
          refine x_istore_n D_6_keepsAnswers_64 rfl rfl rfl ?_
          refine x_iload_n D_6_keepsAnswers_65 rfl ?_
          refine x_iconst D_6_keepsAnswers_66 ?_
          refine x_aload_n D_6_keepsAnswers_67 rfl ?_
          refine x_getfield D_6_keepsAnswers_68 f_6_79 (md_o hm) rfl ?_
          refine x_iload_n D_6_keepsAnswers_71 rfl ?_
          refine x_iaload D_6_keepsAnswers_72 (md_a40 hm) (by omega) (by omega) rfl ?_
          rw [w40]
          refine x_ishl D_6_keepsAnswers_73 ?_
          refine x_ior D_6_keepsAnswers_74 ?_
          refine x_istore_n D_6_keepsAnswers_75 rfl rfl rfl ?_
          refine x_iinc D_6_keepsAnswers_76 rfl rfl rfl rfl ?_
          refine x_goto D_6_keepsAnswers_79 ?_
          first
          | exact (ih (k + 1) 0 (iOr sg (iShl 1 (s : Int))) (by omega) hsg2 (hnext 0 (Or.inr ⟨rfl, Or.inl (by omega)⟩))).sub rfl
          | exact (ih (k + 1) 1 (iOr sg (iShl 1 (s : Int))) (by omega) hsg2 (hnext 1 (Or.inl ⟨rfl, Or.inr (Or.inl (by rw [ha]; exact c47)), by omega⟩))).sub rfl
          | exact (ih (k + 1) 1 (iOr sg (iShl 1 (s : Int))) (by omega) hsg2 (hnext 1 (Or.inl ⟨rfl, Or.inr (Or.inr (by rw [ha]; exact hma.mp c56)), by omega⟩))).sub rfl
          | exact (ih (k + 1) 0 (iOr sg (iShl 1 (s : Int))) (by omega) hsg2 (hnext 0 (Or.inr ⟨rfl, Or.inr (fun q => q.elim (fun w => h8n w) (fun w => w.elim (fun v => c47 (by rw [← ha]; exact v)) (fun v => c56 (hma.mpr (by rw [← ha]; exact v)))))⟩))).sub rfl
        refine x_iload D_6_keepsAnswers_31 rfl ?_
        refine x_bipush D_6_keepsAnswers_33 (by decide +kernel) ?_
        refine x_icmp_eq D_6_keepsAnswers_35 ⟨by omega, by omega⟩ ⟨by omega, by omega⟩ (fun c35 => ?_) (fun c35 => ?_)
        · exact absurd c35 (by omega)
        refine x_aload_n D_6_keepsAnswers_38 rfl ?_
        refine x_getfield D_6_keepsAnswers_39 f_6_76 (md_o hm) rfl ?_
        refine x_iload D_6_keepsAnswers_42 rfl ?_
        refine x_iaload D_6_keepsAnswers_44 (md_a39 hm) (by omega) (by omega) rfl ?_
        rw [w39]
        refine x_bipush D_6_keepsAnswers_45 (by decide +kernel) ?_
        refine x_icmp_eq D_6_keepsAnswers_47 ⟨by omega, by omega⟩ ⟨by omega, by omega⟩ (fun c47 => ?_) (fun c47 => ?_)
        · refine x_iconst D_6_keepsAnswers_59 ?_
          refine x_goto D_6_keepsAnswers_60 ?_
          refine x_istore_n D_6_keepsAnswers_64 rfl rfl rfl ?_
          refine x_iload_n D_6_keepsAnswers_65 rfl ?_
          refine x_iconst D_6_keepsAnswers_66 ?_
          refine x_aload_n D_6_keepsAnswers_67 rfl ?_
          refine x_getfield D_6_keepsAnswers_68 f_6_79 (md_o hm) rfl ?_
          refine x_iload_n D_6_keepsAnswers_71 rfl ?_
          refine x_iaload D_6_keepsAnswers_72 (md_a40 hm) (by omega) (by omega) rfl ?_
          rw [w40]
          refine x_ishl D_6_keepsAnswers_73 ?_
          refine x_ior D_6_keepsAnswers_74 ?_
          refine x_istore_n D_6_keepsAnswers_75 rfl rfl rfl ?_
          refine x_iinc D_6_keepsAnswers_76 rfl rfl rfl rfl ?_
          refine x_goto D_6_keepsAnswers_79 ?_
          first
          | exact (ih (k + 1) 0 (iOr sg (iShl 1 (s : Int))) (by omega) hsg2 (hnext 0 (Or.inr ⟨rfl, Or.inl (by omega)⟩))).sub rfl
          | exact (ih (k + 1) 1 (iOr sg (iShl 1 (s : Int))) (by omega) hsg2 (hnext 1 (Or.inl ⟨rfl, Or.inr (Or.inl (by rw [ha]; exact c47)), by omega⟩))).sub rfl
          | exact (ih (k + 1) 1 (iOr sg (iShl 1 (s : Int))) (by omega) hsg2 (hnext 1 (Or.inl ⟨rfl, Or.inr (Or.inr (by rw [ha]; exact hma.mp c56)), by omega⟩))).sub rfl
          | exact (ih (k + 1) 0 (iOr sg (iShl 1 (s : Int))) (by omega) hsg2 (hnext 0 (Or.inr ⟨rfl, Or.inr (fun q => q.elim (fun w => h8n w) (fun w => w.elim (fun v => c47 (by rw [← ha]; exact v)) (fun v => c56 (hma.mpr (by rw [← ha]; exact v)))))⟩))).sub rfl
        refine x_iload_n D_6_keepsAnswers_50 rfl ?_
        refine x_iload D_6_keepsAnswers_51 rfl ?_
        refine x_invS2 (d' := d - 1) D_6_keepsAnswers_53 l_6_177 mi_6_has (c_6_has (by omega))  rfl (by omega) rfl (fun q => q) rfl rfl (fun r53 h53 q53 => ?_)
        obtain ⟨rfl, rfl⟩ := q53
        refine x_if_eqb D_6_keepsAnswers_56 (fun c56 => ?_) (fun c56 => ?_)
        · refine x_iconst D_6_keepsAnswers_63 ?_
          refine x_istore_n D_6_keepsAnswers_64 rfl rfl rfl ?_
          refine x_iload_n D_6_keepsAnswers_65 rfl ?_
          refine x_iconst D_6_keepsAnswers_66 ?_
          refine x_aload_n D_6_keepsAnswers_67 rfl ?_
          refine x_getfield D_6_keepsAnswers_68 f_6_79 (md_o hm) rfl ?_
          refine x_iload_n D_6_keepsAnswers_71 rfl ?_
          refine x_iaload D_6_keepsAnswers_72 (md_a40 hm) (by omega) (by omega) rfl ?_
          rw [w40]
          refine x_ishl D_6_keepsAnswers_73 ?_
          refine x_ior D_6_keepsAnswers_74 ?_
          refine x_istore_n D_6_keepsAnswers_75 rfl rfl rfl ?_
          refine x_iinc D_6_keepsAnswers_76 rfl rfl rfl rfl ?_
          refine x_goto D_6_keepsAnswers_79 ?_
          first
          | exact (ih (k + 1) 0 (iOr sg (iShl 1 (s : Int))) (by omega) hsg2 (hnext 0 (Or.inr ⟨rfl, Or.inl (by omega)⟩))).sub rfl
          | exact (ih (k + 1) 1 (iOr sg (iShl 1 (s : Int))) (by omega) hsg2 (hnext 1 (Or.inl ⟨rfl, Or.inr (Or.inl (by rw [ha]; exact c47)), by omega⟩))).sub rfl
          | exact (ih (k + 1) 1 (iOr sg (iShl 1 (s : Int))) (by omega) hsg2 (hnext 1 (Or.inl ⟨rfl, Or.inr (Or.inr (by rw [ha]; exact hma.mp c56)), by omega⟩))).sub rfl
          | exact (ih (k + 1) 0 (iOr sg (iShl 1 (s : Int))) (by omega) hsg2 (hnext 0 (Or.inr ⟨rfl, Or.inr (fun q => q.elim (fun w => h8n w) (fun w => w.elim (fun v => c47 (by rw [← ha]; exact v)) (fun v => c56 (hma.mpr (by rw [← ha]; exact v)))))⟩))).sub rfl
        refine x_iconst D_6_keepsAnswers_59 ?_
        refine x_goto D_6_keepsAnswers_60 ?_
        refine x_istore_n D_6_keepsAnswers_64 rfl rfl rfl ?_
        refine x_iload_n D_6_keepsAnswers_65 rfl ?_
        refine x_iconst D_6_keepsAnswers_66 ?_
        refine x_aload_n D_6_keepsAnswers_67 rfl ?_
        refine x_getfield D_6_keepsAnswers_68 f_6_79 (md_o hm) rfl ?_
        refine x_iload_n D_6_keepsAnswers_71 rfl ?_
        refine x_iaload D_6_keepsAnswers_72 (md_a40 hm) (by omega) (by omega) rfl ?_
        rw [w40]
        refine x_ishl D_6_keepsAnswers_73 ?_
        refine x_ior D_6_keepsAnswers_74 ?_
        refine x_istore_n D_6_keepsAnswers_75 rfl rfl rfl ?_
        refine x_iinc D_6_keepsAnswers_76 rfl rfl rfl rfl ?_
        refine x_goto D_6_keepsAnswers_79 ?_
        first
        | exact (ih (k + 1) 0 (iOr sg (iShl 1 (s : Int))) (by omega) hsg2 (hnext 0 (Or.inr ⟨rfl, Or.inl (by omega)⟩))).sub rfl
        | exact (ih (k + 1) 1 (iOr sg (iShl 1 (s : Int))) (by omega) hsg2 (hnext 1 (Or.inl ⟨rfl, Or.inr (Or.inl (by rw [ha]; exact c47)), by omega⟩))).sub rfl
        | exact (ih (k + 1) 1 (iOr sg (iShl 1 (s : Int))) (by omega) hsg2 (hnext 1 (Or.inl ⟨rfl, Or.inr (Or.inr (by rw [ha]; exact hma.mp c56)), by omega⟩))).sub rfl
        | exact (ih (k + 1) 0 (iOr sg (iShl 1 (s : Int))) (by omega) hsg2 (hnext 0 (Or.inr ⟨rfl, Or.inr (fun q => q.elim (fun w => h8n w) (fun w => w.elim (fun v => c47 (by rw [← ha]; exact v)) (fun v => c56 (hma.mpr (by rw [← ha]; exact v)))))⟩))).sub rfl
  refine x_iconst D_6_keepsAnswers_0 ?_
  refine x_istore_n D_6_keepsAnswers_1 rfl rfl rfl ?_
  refine x_iconst D_6_keepsAnswers_2 ?_
  refine x_istore_n D_6_keepsAnswers_3 rfl rfl rfl ?_
  refine x_iconst D_6_keepsAnswers_4 ?_
  refine x_istore_n D_6_keepsAnswers_5 rfl rfl rfl ?_
  exact (loop l.length 0 1 0 (by omega) (fun j hj => by rw [tb_0]; simp) (Or.inl ⟨rfl, fun k' hk' => absurd hk' (by omega)⟩)).sub rfl
end R22
