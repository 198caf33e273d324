section R24
variable {d : Nat} {z : Nat × Nat} {h0 h : Hp} {T U : TT} {Q : Option Value → Hp → Prop} {l : List Nat}
theorem nx_1 (hm : MdAt h U) (hR : RwAt U l) (h7 : l.length ≤ 7) (hB : ∀ w ∈ l, w < 100) (hnd : l.Nodup)
    (K0 : Fall l → WW d m_6_nextRow z Q z h 38 [(0, .ref 102)] []) (K1 : ∀ (A : List Nat) (x y : Nat) (s : List Nat), l = A ++ x :: y :: s → Fall (y :: s) → x < y → WW d m_6_nextRow z Q z h 40 [(0, .ref 102), (1, vi (A.length : Int))] []) :
    ∀ (n : Nat) (A : List Nat) (y : Nat) (s : List Nat), A.length = n → l = A ++ y :: s → Fall (y :: s) → WW d m_6_nextRow z Q z h 7 [(0, .ref 102), (1, vi ((n : Int) - 1))] [] := by
  obtain ⟨r43, r40⟩ := hR
  intro n
  induction n with
  | zero =>
    intro A y s hA hl hF
    have hA0 : A = [] := List.eq_nil_of_length_eq_zero hA
    subst hA0
    rw [List.nil_append] at hl
    have K := K0 (by rw [hl]; exact hF)
    refine x_iload_n D_6_nextRow_7 rfl ?_
    refine x_if_lt D_6_nextRow_8 ⟨by omega, by omega⟩ (fun c8 => ?_) (fun c8 => ?_)
    · refine x_iload_n D_6_nextRow_34 rfl ?_
      refine x_if_ge D_6_nextRow_35 ⟨by omega, by omega⟩ (fun c35 => ?_) (fun c35 => ?_)
      · exact absurd c35 (by omega)
      exact K.sub rfl
    exact absurd c8 (by omega)
  | succ n ih =>
    intro A y s hA hl hF
    obtain ⟨A', x, rfl⟩ : ∃ (A' : List Nat) (x : Nat), A = A' ++ [x] := by
      rcases List.eq_nil_or_concat A with e | ⟨A', x, e⟩
      · rw [e] at hA; simp at hA
      · exact ⟨A', x, by rw [e]; simp⟩
    have hA2 : A'.length = n := by simpa using hA
    have hl2 : l = A' ++ x :: y :: s := by rw [hl]; simp
    have hlen : l.length = n + 2 + s.length := by rw [hl2]; simp; omega
    have gx : l.getD n 0 = x := by rw [hl2, getD_app_r _ _ (by omega), hA2, Nat.sub_self]; rfl
    have gy : l.getD (n + 1) 0 = y := by rw [hl2, getD_app_r _ _ (by omega), show n + 1 - A'.length = 1 by omega]; rfl
    have ux := r40 n (by omega)
    have uy := r40 (n + 1) (by omega)
    rw [gx] at ux
    rw [gy, show ((n + 1 : Nat) : Int) = (n : Int) + 1 by omega] at uy
    have hxb := hB x (by rw [hl2]; simp)
    have hyb := hB y (by rw [hl2]; simp)
    have hne : x ≠ y := by
      rw [hl2] at hnd
      have h1 := (List.pairwise_append.mp hnd).2.1
      exact (List.pairwise_cons.mp h1).1 y (by simp)
    rw [show ((n + 1 : Nat) : Int) - 1 = (n : Int) by omega]
    by_cases hxy : x < y
    · have K := K1 A' x y s hl2 hF hxy
      rw [hA2] at K
      refine x_iload_n D_6_nextRow_7 rfl ?_
      refine x_if_lt D_6_nextRow_8 ⟨by omega, by omega⟩ (fun c8 => ?_) (fun c8 => ?_)
      · exact absurd c8 (by omega)
      refine x_aload_n D_6_nextRow_11 rfl ?_
      refine x_getfield D_6_nextRow_12 f_6_79 (md_o hm) rfl ?_
      refine x_iload_n D_6_nextRow_15 rfl ?_
      refine x_iaload D_6_nextRow_16 (md_a40 hm) (by omega) (by omega) rfl ?_
      first | rw [ux] | rw [uy]
      refine x_aload_n D_6_nextRow_17 rfl ?_
      refine x_getfield D_6_nextRow_18 f_6_79 (md_o hm) rfl ?_
      refine x_iload_n D_6_nextRow_21 rfl ?_
      refine x_iconst D_6_nextRow_22 ?_
      refine x_iadd D_6_nextRow_23 ?_
      refine x_iaload D_6_nextRow_24 (md_a40 hm) (by omega) (by omega) rfl ?_
      first | rw [ux] | rw [uy]
      refine x_icmp_le D_6_nextRow_25 ⟨by omega, by omega⟩ ⟨by omega, by omega⟩ (fun c25 => ?_) (fun c25 => ?_)
      · refine x_iload_n D_6_nextRow_34 rfl ?_
        refine x_if_ge D_6_nextRow_35 ⟨by omega, by omega⟩ (fun c35 => ?_) (fun c35 => ?_)
        · exact K.sub rfl
        exact absurd c35 (by omega)
      exact absurd c25 (by omega)
    · have hF2 : Fall (x :: y :: s) := by
        refine List.pairwise_cons.mpr ⟨fun w hw => ?_, hF⟩
        rcases List.mem_cons.mp hw with e | e
        · rw [e]; omega
        · have := (List.pairwise_cons.mp hF).1 w e; omega
      have I := ih A' x (y :: s) hA2 hl2 hF2
      refine x_iload_n D_6_nextRow_7 rfl ?_
      refine x_if_lt D_6_nextRow_8 ⟨by omega, by omega⟩ (fun c8 => ?_) (fun c8 => ?_)
      · exact absurd c8 (by omega)
      refine x_aload_n D_6_nextRow_11 rfl ?_
      refine x_getfield D_6_nextRow_12 f_6_79 (md_o hm) rfl ?_
      refine x_iload_n D_6_nextRow_15 rfl ?_
      refine x_iaload D_6_nextRow_16 (md_a40 hm) (by omega) (by omega) rfl ?_
      first | rw [ux] | rw [uy]
      refine x_aload_n D_6_nextRow_17 rfl ?_
      refine x_getfield D_6_nextRow_18 f_6_79 (md_o hm) rfl ?_
      refine x_iload_n D_6_nextRow_21 rfl ?_
      refine x_iconst D_6_nextRow_22 ?_
      refine x_iadd D_6_nextRow_23 ?_
      refine x_iaload D_6_nextRow_24 (md_a40 hm) (by omega) (by omega) rfl ?_
      first | rw [ux] | rw [uy]
      refine x_icmp_le D_6_nextRow_25 ⟨by omega, by omega⟩ ⟨by omega, by omega⟩ (fun c25 => ?_) (fun c25 => ?_)
      · exact absurd c25 (by omega)
      refine x_iinc D_6_nextRow_28 rfl rfl rfl rfl ?_
      refine x_goto D_6_nextRow_31 ?_
      exact I.sub rfl
end R24
