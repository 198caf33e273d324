section R25
variable {d : Nat} {z : Nat × Nat} {h0 h : Hp} {T U : TT} {Q : Option Value → Hp → Prop} {l : List Nat}
theorem nx_2 (hm : MdAt h U) (hR : RwAt U l) (h7 : l.length ≤ 7) (hB : ∀ w ∈ l, w < 100) (hnd : l.Nodup) {A s0 : List Nat} {x y : Nat} (hl : l = A ++ x :: y :: s0) (hxy : x < y)
    (K : ∀ (w : Nat) (s1 s2 : List Nat), l = A ++ x :: (s1 ++ w :: s2) → y :: s0 = s1 ++ w :: s2 → x < w → (∀ v ∈ s2, v < x) → WW d m_6_nextRow z Q z h 68 [(0, .ref 102), (1, vi (A.length : Int)), (2, vi ((A.length : Int) + 1 + (s1.length : Int)))] []) :
    ∀ (n : Nat) (s1 s2 : List Nat), s1.length = n → y :: s0 = s1 ++ s2 → (∀ v ∈ s2, v < x) → WW d m_6_nextRow z Q z h 47 [(0, .ref 102), (1, vi (A.length : Int)), (2, vi ((A.length : Int) + (n : Int)))] [] := by
  obtain ⟨r43, r40⟩ := hR
  intro n
  induction n with
  | zero =>
    intro s1 s2 hn hs hv
    have e : s1 = [] := List.eq_nil_of_length_eq_zero hn
    subst e
    have := hv y (by rw [List.nil_append] at hs; rw [← hs]; simp)
    exfalso; omega
  | succ n ih =>
    intro s1 s2 hn hs hv
    obtain ⟨s1', w, rfl⟩ : ∃ (s1' : List Nat) (w : Nat), s1 = s1' ++ [w] := by
      rcases List.eq_nil_or_concat s1 with e | ⟨A', x, e⟩
      · rw [e] at hn; simp at hn
      · exact ⟨A', x, by rw [e]; simp⟩
    have hs1 : s1'.length = n := by simpa using hn
    have hs2 : y :: s0 = s1' ++ w :: s2 := by rw [hs]; simp
    have hl2 : l = A ++ x :: (s1' ++ w :: s2) := by rw [hl, hs2]
    have hlen : l.length = A.length + 2 + n + s2.length := by rw [hl2]; simp; omega
    have gx : l.getD A.length 0 = x := by rw [hl2, getD_app_r _ _ (by omega), Nat.sub_self]; rfl
    have gw : l.getD (A.length + 1 + n) 0 = w := by
      rw [hl2, getD_app_r _ _ (by omega), show A.length + 1 + n - A.length = n + 1 by omega]
      show (s1' ++ w :: s2).getD n 0 = w
      rw [getD_app_r _ _ (by omega), hs1, Nat.sub_self]
      rfl
    have ux := r40 A.length (by omega)
    have uw := r40 (A.length + 1 + n) (by omega)
    rw [gx] at ux
    rw [gw, show ((A.length + 1 + n : Nat) : Int) = (A.length : Int) + ((n + 1 : Nat) : Int) by omega] at uw
    have hxb := hB x (by rw [hl2]; simp)
    have hwb := hB w (by rw [hl2]; simp)
    have hne : x ≠ w := by
      rw [hl2] at hnd
      have h1 := (List.pairwise_append.mp hnd).2.1
      exact (List.pairwise_cons.mp h1).1 w (by simp)
    by_cases hwx : w < x
    · have I := ih s1' (w :: s2) hs1 hs2 (fun v hv2 => by
        rcases List.mem_cons.mp hv2 with e | e
        · rw [e]; exact hwx
        · exact hv v e)
      refine x_aload_n D_6_nextRow_47 rfl ?_
      refine x_getfield D_6_nextRow_48 f_6_79 (md_o hm) rfl ?_
      refine x_iload_n D_6_nextRow_51 rfl ?_
      refine x_iaload D_6_nextRow_52 (md_a40 hm) (by omega) (by omega) rfl ?_
      first | rw [uw] | rw [ux]
      refine x_aload_n D_6_nextRow_53 rfl ?_
      refine x_getfield D_6_nextRow_54 f_6_79 (md_o hm) rfl ?_
      refine x_iload_n D_6_nextRow_57 rfl ?_
      refine x_iaload D_6_nextRow_58 (md_a40 hm) (by omega) (by omega) rfl ?_
      first | rw [uw] | rw [ux]
      refine x_icmp_ge D_6_nextRow_59 ⟨by omega, by omega⟩ ⟨by omega, by omega⟩ (fun c59 => ?_) (fun c59 => ?_)
      · exact absurd c59 (by omega)
      refine x_iinc D_6_nextRow_62 rfl rfl rfl rfl ?_
      refine x_goto D_6_nextRow_65 ?_
      refine I.sub ?_
      rw [show (A.length : Int) + (n : Int) = (A.length : Int) + ((n + 1 : Nat) : Int) + (-1) by omega]
      rfl
    · have K2 := K w s1' s2 hl2 hs2 (by omega) hv
      rw [hs1, show (A.length : Int) + 1 + (n : Int) = (A.length : Int) + ((n + 1 : Nat) : Int) by omega] at K2
      refine x_aload_n D_6_nextRow_47 rfl ?_
      refine x_getfield D_6_nextRow_48 f_6_79 (md_o hm) rfl ?_
      refine x_iload_n D_6_nextRow_51 rfl ?_
      refine x_iaload D_6_nextRow_52 (md_a40 hm) (by omega) (by omega) rfl ?_
      first | rw [uw] | rw [ux]
      refine x_aload_n D_6_nextRow_53 rfl ?_
      refine x_getfield D_6_nextRow_54 f_6_79 (md_o hm) rfl ?_
      refine x_iload_n D_6_nextRow_57 rfl ?_
      refine x_iaload D_6_nextRow_58 (md_a40 hm) (by omega) (by omega) rfl ?_
      first | rw [uw] | rw [ux]
      refine x_icmp_ge D_6_nextRow_59 ⟨by omega, by omega⟩ ⟨by omega, by omega⟩ (fun c59 => ?_) (fun c59 => ?_)
      · exact K2.sub rfl
      exact absurd c59 (by omega)
end R25
