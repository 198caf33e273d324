def NxQ (h0 : Hp) (U : TT) (l : List Nat) : Option Value → Hp → Prop := fun r h' => ∃ (b : Bool) (V : TT), r = some (vi (bi (b = true))) ∧ MdAt h' V ∧ (∀ a : Nat, a ≠ 40 → V a = U a) ∧ (b = false ∧ Fall l ∧ V 40 = U 40 ∨ b = true ∧ ∃ l2 : List Nat, Nx l l2 ∧ RwAt V l2) ∧ ∀ q : Nat, (q < 102 ∨ 128 < q) → h' q = h0 q
section R26
variable {d : Nat} {z : Nat × Nat} {h : Hp} {T U : TT} {l : List Nat}
theorem c_6_nextRow (hd : 2 ≤ d) (hm : MdAt h U) (hR : RwAt U l) (h7 : l.length ≤ 7) (hB : ∀ w ∈ l, w < 100) (hnd : l.Nodup) : Ct d m_6_nextRow [.ref 102] z z h (NxQ h U l) := by
  refine Ct.of (by decide) ⟨Nat.le_refl _, Nat.le_refl _⟩ (Nat.le_of_ble_eq_true rfl) ?_
  obtain ⟨r43, r40⟩ := id hR
  have hf : ∀ q : Nat, (q < 102 ∨ 128 < q) → h q = h q := fun _ _ => rfl
  have K0 : Fall l → WW d m_6_nextRow z (NxQ h U l) z h 38 [(0, .ref 102)] [] := by
    intro hF
    refine x_iconst D_6_nextRow_38 ?_
    refine x_ireturn D_6_nextRow_39 rfl (by first | rfl | exact nb_bi _ | decide +kernel) rfl ?_
    exact ⟨false, U, rfl, hm, fun _ _ => rfl, Or.inl ⟨rfl, hF, rfl⟩, hf⟩
  have K1 : ∀ (A : List Nat) (x y : Nat) (s : List Nat), l = A ++ x :: y :: s → Fall (y :: s) → x < y → WW d m_6_nextRow z (NxQ h U l) z h 40 [(0, .ref 102), (1, vi (A.length : Int))] [] := by
    intro A x y s hl hF hxy
    have hlen : l.length = A.length + 2 + s.length := by rw [hl]; simp; omega
    have P2 := nx_2 (d := d) (z := z) (Q := NxQ h U l) hm hR h7 hB hnd hl hxy (fun w s1 s2 hl2 hs hxw hv => by
      have hlen2 : l.length = A.length + 2 + s1.length + s2.length := by rw [hl2]; simp; omega
      have gx : l.getD A.length 0 = x := by rw [hl2, getD_app_r _ _ (by omega), Nat.sub_self]; rfl
      have gw : l.getD (A.length + 1 + s1.length) 0 = w := by
        rw [hl2, getD_app_r _ _ (by omega), show A.length + 1 + s1.length - A.length = s1.length + 1 by omega]
        show (s1 ++ w :: s2).getD s1.length 0 = w
        rw [getD_app_r _ _ (by omega), Nat.sub_self]
        rfl
      have ux := r40 A.length (by omega)
      have uw := r40 (A.length + 1 + s1.length) (by omega)
      rw [gx] at ux
      rw [gw, show ((A.length + 1 + s1.length : Nat) : Int) = (A.length : Int) + 1 + (s1.length : Int) by omega] at uw
      have hNx : Nx l (A ++ w :: (s1 ++ x :: s2).reverse) := ⟨A, x, w, s1, s2, hl2, by rw [← hs]; exact hF, hxw, hv, rfl⟩
      refine x_aload_n D_6_nextRow_68 rfl ?_
      refine x_iload_n D_6_nextRow_69 rfl ?_
      refine x_iload_n D_6_nextRow_70 rfl ?_
      refine x_invV (d' := d - 1) D_6_nextRow_71 l_6_239 mi_6_swap (c_6_swap (by omega) hm (by omega) (by omega)) (md_o hm) rfl rfl (by omega) rfl (fun q => q) rfl rfl (fun r71 h71 q71 => ?_)
      obtain ⟨rfl, hm, hf2⟩ := q71
      have v43 : upr U 40 (ups (ups (U 40) (A.length : Int) (U 40 ((A.length : Int) + 1 + (s1.length : Int)))) ((A.length : Int) + 1 + (s1.length : Int)) (U 40 (A.length : Int))) 43 0 = (l.length : Int) := r43
      refine x_iload_n D_6_nextRow_74 rfl ?_
      refine x_iconst D_6_nextRow_75 ?_
      refine x_iadd D_6_nextRow_76 ?_
      refine x_istore_n D_6_nextRow_77 rfl rfl rfl ?_
      refine x_aload_n D_6_nextRow_78 rfl ?_
      refine x_getfield D_6_nextRow_79 f_6_236 (md_o hm) rfl ?_
      try simp only [upr, Nat.reduceEqDiff, ↓reduceIte]
      rw [r43]
      refine x_iconst D_6_nextRow_82 ?_
      refine x_isub D_6_nextRow_83 ?_
      refine x_istore D_6_nextRow_84 rfl rfl rfl ?_
      refine (nx_rev (p := A.length + 1) (m := l.length) (by omega) hm hf2 h7 (by omega) v43 (fun hh V hm3 hlo hhi ho hf3 => ?_) []).sub ?_
      · refine x_iconst D_6_nextRow_108 ?_
        refine x_ireturn D_6_nextRow_109 rfl rfl rfl ?_
        refine ⟨true, V, rfl, hm3, fun a a1 => (ho a a1).trans (upr_ne _ _ a1), Or.inr ⟨rfl, _, hNx, ?_, fun j hj => ?_⟩, hf3⟩
        · rw [ho 43 (by omega), v43, hlen2]; simp; omega
        · have hj2 : j < l.length := by rw [hlen2]; simp at hj; omega
          by_cases jA : j < A.length
          · rw [hlo j (by omega), upr_eq, ups_ne _ _ (by omega), ups_ne _ _ (by omega), getD_app_l _ _ jA, r40 j hj2, hl2, getD_app_l _ _ jA]
          · by_cases jE : j = A.length
            · subst jE
              rw [hlo A.length (by omega), upr_eq, ups_ne _ _ (by omega), ups_eq, uw, getD_app_r _ _ (by omega), Nat.sub_self]
              rfl
            · have e1 : (A ++ w :: (s1 ++ x :: s2).reverse).getD j 0 = (s1 ++ x :: s2).getD (l.length - 1 - j) 0 := by
                rw [getD_app_r _ _ (by omega), show j - A.length = (j - A.length - 1) + 1 by omega]
                show (s1 ++ x :: s2).reverse.getD (j - A.length - 1) 0 = _
                rw [getD_rev _ (by simp; omega)]
                congr 1
                simp
                omega
              rw [e1, hhi j (by omega) hj2, upr_eq]
              by_cases eq : l.length - 1 - j = s1.length
              · rw [show ((A.length + 1 + l.length - 1 - j : Nat) : Int) = (A.length : Int) + 1 + (s1.length : Int) by omega, ups_eq, ux, eq, getD_app_r _ _ (by omega), Nat.sub_self]
                rfl
              · have gq : ∀ N : Nat, A.length < A.length + 1 + N → l.getD (A.length + 1 + N) 0 = (s1 ++ w :: s2).getD N 0 := by
                  intro N _
                  rw [hl2, getD_app_r _ _ (by omega), show A.length + 1 + N - A.length = N + 1 by omega]
                  rfl
                rw [ups_ne _ _ (by omega), ups_ne _ _ (by omega), r40 _ (by omega), show A.length + 1 + l.length - 1 - j = A.length + 1 + (l.length - 1 - j) by omega, gq _ (by omega)]
                by_cases lt : l.length - 1 - j < s1.length
                · rw [getD_app_l _ _ lt, getD_app_l _ _ lt]
                · rw [getD_app_r _ _ (by omega), getD_app_r _ _ (by omega), show l.length - 1 - j - s1.length = (l.length - 1 - j - s1.length - 1) + 1 by omega]
                  rfl
      · rw [show ((A.length + 1 : Nat) : Int) - 1 = (A.length : Int) by omega, show ((A.length + 1 : Nat) : Int) = (A.length : Int) + 1 by omega]
        rfl
      ) (y :: s).length (y :: s) [] rfl (by simp) (fun v hv => by cases hv)
    rw [show (A.length : Int) + ((y :: s).length : Int) = (l.length : Int) - 1 by rw [hlen]; simp; omega] at P2
    refine x_aload_n D_6_nextRow_40 rfl ?_
    refine x_getfield D_6_nextRow_41 f_6_236 (md_o hm) rfl ?_
    rw [r43]
    refine x_iconst D_6_nextRow_44 ?_
    refine x_isub D_6_nextRow_45 ?_
    refine x_istore_n D_6_nextRow_46 rfl rfl rfl ?_
    exact P2.sub rfl
  cases hl : l.reverse with
  | nil =>
    have e : l = [] := by simpa using hl
    have K := K0 (by rw [e]; exact List.Pairwise.nil)
    have e0 : (l.length : Int) = 0 := by rw [e]; rfl
    refine x_aload_n D_6_nextRow_0 rfl ?_
    refine x_getfield D_6_nextRow_1 f_6_236 (md_o hm) rfl ?_
    rw [r43, e0]
    refine x_iconst D_6_nextRow_4 ?_
    refine x_isub D_6_nextRow_5 ?_
    refine x_istore_n D_6_nextRow_6 rfl rfl rfl ?_
    refine x_iload_n D_6_nextRow_7 rfl ?_
    refine x_if_lt D_6_nextRow_8 ⟨by omega, by omega⟩ (fun c8 => ?_) (fun c8 => ?_)
    · refine x_iload_n D_6_nextRow_34 rfl ?_
      refine x_if_ge D_6_nextRow_35 ⟨by omega, by omega⟩ (fun c35 => ?_) (fun c35 => ?_)
      · exact absurd c35 (by omega)
      exact K.sub rfl
    exact absurd c8 (by omega)
  | cons y r =>
    have e : l = r.reverse ++ y :: [] := by
      have := congrArg List.reverse hl
      simpa using this
    have P1 := nx_1 (d := d) (z := z) (Q := NxQ h U l) hm hR h7 hB hnd K0 K1 r.reverse.length r.reverse y [] rfl e (List.pairwise_singleton _ _)
    rw [show ((r.reverse.length : Nat) : Int) - 1 = (l.length : Int) - 2 by rw [e]; simp; omega] at P1
    refine x_aload_n D_6_nextRow_0 rfl ?_
    refine x_getfield D_6_nextRow_1 f_6_236 (md_o hm) rfl ?_
    rw [r43]
    refine x_iconst D_6_nextRow_4 ?_
    refine x_isub D_6_nextRow_5 ?_
    refine x_istore_n D_6_nextRow_6 rfl rfl rfl ?_
    exact P1.sub rfl
end R26
