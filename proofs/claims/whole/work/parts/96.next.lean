abbrev RwAt (V : TT) (l : List Nat) : Prop := V 43 0 = (l.length : Int) ∧ ∀ j : Nat, j < l.length → V 40 (j : Int) = ((l.getD j 0 : Nat) : Int)
theorem getD_app_l (a b : List Nat) {j : Nat} (h : j < a.length) : (a ++ b).getD j 0 = a.getD j 0 := by
  rw [List.getD_eq_getElem?_getD, List.getElem?_append_left h, ← List.getD_eq_getElem?_getD]
theorem getD_app_r (a b : List Nat) {j : Nat} (h : a.length ≤ j) : (a ++ b).getD j 0 = b.getD (j - a.length) 0 := by
  rw [List.getD_eq_getElem?_getD, List.getElem?_append_right h, ← List.getD_eq_getElem?_getD]
theorem getD_rev (a : List Nat) {j : Nat} (h : j < a.length) : a.reverse.getD j 0 = a.getD (a.length - 1 - j) 0 := by
  rw [List.getD_eq_getElem?_getD, List.getElem?_reverse h, ← List.getD_eq_getElem?_getD]
section R23
variable {d : Nat} {z : Nat × Nat} {h0 h : Hp} {T U : TT} {Q : Option Value → Hp → Prop}
/-- the end of a row turned round -/
theorem nx_rev (hd : 1 ≤ d) (hm : MdAt h U) (hf : ∀ q : Nat, (q < 102 ∨ 128 < q) → h q = h0 q) {m p : Nat} (hm7 : m ≤ 7) (hp : p < m) (u43 : U 43 0 = (m : Int))
    (K : ∀ (hh : Hp) (V : TT), MdAt hh V → (∀ j : Nat, j < p → V 40 (j : Int) = U 40 (j : Int)) → (∀ j : Nat, p ≤ j → j < m → V 40 (j : Int) = U 40 ((p + m - 1 - j : Nat) : Int)) → (∀ a : Nat, a ≠ 40 → V a = U a) → (∀ q : Nat, (q < 102 ∨ 128 < q) → hh q = h0 q) → WW d m_6_nextRow z Q z hh 108 [(0, .ref 102)] []) : ∀ (ls : List (Nat × Value)), WW d m_6_nextRow z Q z h 86 [(0, .ref 102), (1, vi ((p : Int) - 1)), (3, vi (p : Int)), (4, vi ((m : Int) - 1))] [] := by
  intro ls
  have loop : ∀ (f i : Nat) (hh : Hp) (V : TT), m ≤ p + 2 * i + f → p + i ≤ m → MdAt hh V → (∀ j : Nat, j < m → V 40 (j : Int) = if p ≤ j ∧ (j < p + i ∨ m ≤ j + i) then U 40 ((p + m - 1 - j : Nat) : Int) else U 40 (j : Int)) → (∀ a : Nat, a ≠ 40 → V a = U a) → (∀ q : Nat, (q < 102 ∨ 128 < q) → hh q = h0 q) →
      WW d m_6_nextRow z Q z hh 86 [(0, .ref 102), (1, vi ((p : Int) - 1)), (3, vi ((p : Int) + (i : Int))), (4, vi ((m : Int) - 1 - (i : Int)))] [] := by
    intro f
    induction f with
    | zero =>
      intro i hh V hmi hpi hm hx ho hf
      refine x_iload_n D_6_nextRow_86 rfl ?_
      refine x_iload D_6_nextRow_87 rfl ?_
      refine x_icmp_ge D_6_nextRow_89 ⟨by omega, by omega⟩ ⟨by omega, by omega⟩ (fun c89 => ?_) (fun c89 => ?_)
      · refine (K hh V hm (fun j hj => ?_) (fun j j1 j2 => ?_) ho hf).sub rfl
        · rw [hx j (by omega), if_neg (by omega)]
        · rw [hx j j2]
          by_cases e : p ≤ j ∧ (j < p + i ∨ m ≤ j + i)
          · rw [if_pos e]
          · exfalso; omega
      exact absurd c89 (by omega)
    | succ f ih =>
      intro i hh V hmi hpi hm hx ho hf
      refine x_iload_n D_6_nextRow_86 rfl ?_
      refine x_iload D_6_nextRow_87 rfl ?_
      refine x_icmp_ge D_6_nextRow_89 ⟨by omega, by omega⟩ ⟨by omega, by omega⟩ (fun c89 => ?_) (fun c89 => ?_)
      · refine (K hh V hm (fun j hj => ?_) (fun j j1 j2 => ?_) ho hf).sub rfl
        · rw [hx j (by omega), if_neg (by omega)]
        · rw [hx j j2]
          by_cases e : p ≤ j ∧ (j < p + i ∨ m ≤ j + i)
          · rw [if_pos e]
          · rw [if_neg e, show p + m - 1 - j = j by omega]
      refine x_aload_n D_6_nextRow_92 rfl ?_
      refine x_iload_n D_6_nextRow_93 rfl ?_
      refine x_iload D_6_nextRow_94 rfl ?_
      refine x_invV (d' := d - 1) D_6_nextRow_96 l_6_239 mi_6_swap (c_6_swap (by omega) hm (by omega) (by omega)) (md_o hm) rfl rfl (by omega) rfl (fun q => q) rfl rfl (fun r96 h96 q96 => ?_)
      obtain ⟨rfl, hm, hf2⟩ := q96
      have hf : ∀ q : Nat, (q < 102 ∨ 128 < q) → h96 q = h0 q := fun q hq => (hf2 q hq).trans (hf q hq)
      refine x_iinc D_6_nextRow_99 rfl rfl rfl rfl ?_
      refine x_iinc D_6_nextRow_102 rfl rfl rfl rfl ?_
      refine x_goto D_6_nextRow_105 ?_
      refine (ih (i + 1) _ _ (by omega) (by omega) hm (fun j hj => ?_) (fun a a1 => (upr_ne _ _ a1).trans (ho a a1)) hf).sub ?_
      · have ha := hx (p + i) (by omega)
        have hb := hx (m - 1 - i) (by omega)
        rw [if_neg (by omega)] at ha hb
        rw [show (((p + i : Nat)) : Int) = (p : Int) + (i : Int) by omega] at ha
        rw [show (((m - 1 - i : Nat)) : Int) = (m : Int) - 1 - (i : Int) by omega] at hb
        rw [upr_eq]
        by_cases e1 : (j : Int) = (m : Int) - 1 - (i : Int)
        · rw [e1, ups_eq, ha, if_pos (by omega)]
          congr 1
          omega
        · rw [ups_ne _ _ e1]
          by_cases e2 : (j : Int) = (p : Int) + (i : Int)
          · rw [e2, ups_eq, hb, if_pos (by omega)]
            congr 1
            omega
          · rw [ups_ne _ _ e2, hx j hj]
            by_cases e3 : p ≤ j ∧ (j < p + i ∨ m ≤ j + i)
            · rw [if_pos e3, if_pos (by omega)]
            · rw [if_neg e3, if_neg (by omega)]
      · rw [show (p : Int) + ((i + 1 : Nat) : Int) = (p : Int) + (i : Int) + 1 by omega, show (m : Int) - 1 - ((i + 1 : Nat) : Int) = (m : Int) - 1 - (i : Int) + (-1) by omega]
        rfl
  have := loop m 0 h U (by omega) (by omega) hm (fun j hj => by rw [if_neg (by omega)]) (fun _ _ => rfl) hf
  rw [show (p : Int) + ((0 : Nat) : Int) = (p : Int) by omega, show (m : Int) - 1 - ((0 : Nat) : Int) = (m : Int) - 1 by omega] at this
  exact this
end R23
