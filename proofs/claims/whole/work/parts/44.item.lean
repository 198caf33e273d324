abbrev RdQ (r : Nat) (h0 : Hp) (lt : Int) (o : Option (Int × List Int)) : Option Value → Hp → Prop := fun res h' => (∀ q : Nat, (q < r ∨ r + 1 < q) → h' q = h0 q) ∧ ∃ (N : Int → Int) (m : Int), h' r = some (ob 3 [vi lt, .ref (r + 1), vi m]) ∧ h' (r + 1) = some (ia 0 4 N) ∧ (o = none → res = some (vi (-1))) ∧ ∀ q l, o = some (q, l) → res = some (vi q) ∧ m = (l.length : Int) ∧ ∀ j : Nat, j < l.length → N (j : Int) = l.getD j 0
theorem getD_snoc {pre : List Int} {w : Int} {N : Int → Int} (h : ∀ j : Nat, j < pre.length → N (j : Int) = pre.getD j 0) : ∀ j : Nat, j < (pre ++ [w]).length → ups N (pre.length : Int) w (j : Int) = (pre ++ [w]).getD j 0 := by
  intro j hj
  by_cases e : j = pre.length
  · subst e
    simp [ups]
  · have hj2 : j < pre.length := by simp at hj; omega
    have : (j : Int) ≠ (pre.length : Int) := by omega
    simp only [ups, if_neg this]
    rw [h j hj2]
    simp [List.getD_eq_getElem?_getD, List.getElem?_append_left hj2]
theorem c_3_readItem {d : Nat} (hd : 1 ≤ d) {z : Nat × Nat} {h : Hp} {r b : Nat} {lt0 m0 e p0 : Int} {N0 Bt : Int → Int} (hR : h r = some (ob 3 [vi lt0, .ref (r + 1), vi m0])) (hN : h (r + 1) = some (ia 0 4 N0)) (hB : h b = some (ia 1 300 Bt)) (hb : b < r ∨ r + 1 < b) (he : 0 ≤ e ∧ e ≤ 300) (hBt : ∀ j : Int, -128 ≤ Bt j ∧ Bt j ≤ 127) (ha : 0 ≤ p0 ∧ p0 < e) : Ct d m_3_readItem [.ref r, .ref b, vi e, vi p0] z z h (RdQ r h (Bt p0) (rd Bt e 4 (p0 + 1))) := by
  refine Ct.of (by decide) ⟨Nat.le_refl _, Nat.le_refl _⟩ (Nat.le_of_ble_eq_true rfl) ?_
  have hfr : ∀ q : Nat, (q < r ∨ r + 1 < q) → h q = h q := fun _ _ => rfl
  have fin_n : ∀ (h' : Hp) (N : Int → Int) (m : Int), (∀ q : Nat, (q < r ∨ r + 1 < q) → h' q = h q) → h' r = some (ob 3 [vi (Bt p0), .ref (r + 1), vi m]) → h' (r + 1) = some (ia 0 4 N) → rd Bt e 4 (p0 + 1) = none → RdQ r h (Bt p0) (rd Bt e 4 (p0 + 1)) (some (vi (-1))) h' := fun h' N m g1 g2 g3 g4 => ⟨g1, N, m, g2, g3, fun _ => rfl, fun q l g5 => by rw [g4] at g5; cases g5⟩
  have loop : ∀ (k : Nat) (pre : List Int) (p : Int) (hh : Hp) (N : Int → Int), pre.length + k = 4 → p0 < p → p ≤ e → (∀ j : Nat, j < pre.length → N (j : Int) = pre.getD j 0) → rd Bt e 4 (p0 + 1) = (rd Bt e k p).map (fun x => (x.1, pre ++ x.2)) → hh r = some (ob 3 [vi (Bt p0), .ref (r + 1), vi (pre.length : Int)]) → hh (r + 1) = some (ia 0 4 N) → hh b = some (ia 1 300 Bt) → (∀ q : Nat, (q < r ∨ r + 1 < q) → hh q = h q) →
      WW d m_3_readItem z (RdQ r h (Bt p0) (rd Bt e 4 (p0 + 1))) z hh 37 [(0, .ref r), (1, .ref b), (4, vi e), (5, vi p)] [] := by
    intro k
    induction k with
    | zero =>
      intro pre p hh N hlen hp hpe hNp hO hR hN hB hfr
      refine x_aload_n D_3_readItem_37 rfl ?_
      refine x_getfield D_3_readItem_38 f_3_28 (by assumption) rfl ?_
      refine x_iconst D_3_readItem_41 ?_
      refine x_icmp_ge D_3_readItem_42 ⟨by omega, by omega⟩ ⟨by omega, by omega⟩ (fun c42 => ?_) (fun c42 => ?_)
      · refine x_iconst D_3_readItem_164 ?_
        refine x_ireturn D_3_readItem_165 rfl (by first | rfl | exact nb_bi _ | decide +kernel) rfl ?_
        exact fin_n _ _ _ hfr hR hN (by rw [hO]; rfl)
      exact absurd c42 (by omega)
    | succ k ih =>
      intro pre p hh N hlen hp hpe hNp hO hR hN hB hfr
      have hrg := nd_rng Bt e p
      have L98 : WW d m_3_readItem z (RdQ r h (Bt p0) (rd Bt e 4 (p0 + 1))) z hh 98 [(0, .ref r), (1, .ref b), (4, vi e), (5, vi (p + nd Bt e p)), (6, vi (nv Bt e p)), (7, vi (nd Bt e p))] [] := by
        refine x_iload D_3_readItem_98 rfl ?_
        refine x_if_eq D_3_readItem_100 ⟨by omega, by omega⟩ (fun c100 => ?_) (fun c100 => ?_)
        · refine x_iconst D_3_readItem_110 ?_
          refine x_ireturn D_3_readItem_111 rfl (by first | rfl | exact nb_bi _ | decide +kernel) rfl ?_
          exact fin_n _ _ _ hfr hR hN (by rw [hO, rd, if_pos (by omega)]; rfl)
        refine x_iload D_3_readItem_103 rfl ?_
        refine x_iload D_3_readItem_105 rfl ?_
        refine x_icmp_lt D_3_readItem_107 ⟨by omega, by omega⟩ ⟨by omega, by omega⟩ (fun c107 => ?_) (fun c107 => ?_)
        · refine x_aload_n D_3_readItem_112 rfl ?_
          refine x_getfield D_3_readItem_113 f_3_9 (by assumption) rfl ?_
          refine x_aload_n D_3_readItem_116 rfl ?_
          refine x_getfield D_3_readItem_117 f_3_28 (by assumption) rfl ?_
          refine x_iload D_3_readItem_120 rfl ?_
          refine x_iastore D_3_readItem_122 (by assumption) (by omega) (by omega) rfl (fun h122 e122 n122 => ?_)
          first | (replace hR := (n122 _ (by omega)).trans hR) | (replace hR := e122)
          first | (replace hN := (n122 _ (by omega)).trans hN) | (replace hN := e122)
          first | (replace hB := (n122 _ (by omega)).trans hB) | (replace hB := e122)
          replace hfr := fun q hq => (n122 q (by omega)).trans (hfr q hq)
          refine x_aload_n D_3_readItem_123 rfl ?_
          refine x_dup D_3_readItem_124 rfl ?_
          refine x_getfield D_3_readItem_125 f_3_28 (by assumption) rfl ?_
          refine x_iconst D_3_readItem_128 ?_
          refine x_iadd D_3_readItem_129 ?_
          refine x_putI D_3_readItem_130 f_3_28 (by assumption) (by decide +kernel) rfl (fun h130 e130 n130 => ?_)
          simp only [List.set_cons_zero, List.set_cons_succ] at e130
          first | (replace hR := (n130 _ (by omega)).trans hR) | (replace hR := e130)
          first | (replace hN := (n130 _ (by omega)).trans hN) | (replace hN := e130)
          first | (replace hB := (n130 _ (by omega)).trans hB) | (replace hB := e130)
          replace hfr := fun q hq => (n130 q (by omega)).trans (hfr q hq)
          refine x_aload_n D_3_readItem_133 rfl ?_
          refine x_iload D_3_readItem_134 rfl ?_
          have hby := hBt (p + nd Bt e p)
          refine x_baload D_3_readItem_136 (by assumption) (by omega) (by omega) rfl ?_
          refine x_istore D_3_readItem_137 rfl rfl rfl ?_
          refine x_iinc D_3_readItem_139 rfl rfl rfl rfl ?_
          refine x_iload D_3_readItem_142 rfl ?_
          refine x_bipush D_3_readItem_144 (by decide +kernel) ?_
          refine x_icmp_ne D_3_readItem_146 ⟨by omega, by omega⟩ ⟨by omega, by omega⟩ (fun c146 => ?_) (fun c146 => ?_)
          · refine x_iload D_3_readItem_152 rfl ?_
            refine x_bipush D_3_readItem_154 (by decide +kernel) ?_
            refine x_icmp_eq D_3_readItem_156 ⟨by omega, by omega⟩ ⟨by omega, by omega⟩ (fun c156 => ?_) (fun c156 => ?_)
            · refine x_goto D_3_readItem_161 ?_
              refine (ih (pre ++ [nv Bt e p]) (p + nd Bt e p + 1) _ _ (by simp; omega) (by omega) (by omega) (getD_snoc hNp) ?_ (by rw [hR]; simp) hN hB hfr).sub rfl
              rw [hO, rd, if_neg (by omega), if_neg c146, if_pos c156]
              cases rd Bt e k (p + nd Bt e p + 1) <;> simp
            refine x_iconst D_3_readItem_159 ?_
            refine x_ireturn D_3_readItem_160 rfl (by first | rfl | exact nb_bi _ | decide +kernel) rfl ?_
            exact fin_n _ _ _ hfr hR hN (by rw [hO, rd, if_neg (by omega), if_neg c146, if_neg c156]; rfl)
          refine x_iload D_3_readItem_149 rfl ?_
          refine x_ireturn D_3_readItem_151 rfl (by first | rfl | exact nb_bi _ | decide +kernel) rfl ?_
          refine ⟨hfr, _, _, hR, hN, fun g => ?_, fun q l g => ?_⟩
          · rw [hO, rd, if_neg (by omega), if_pos c146] at g
            cases g
          · rw [hO, rd, if_neg (by omega), if_pos c146] at g
            simp only [Option.map_some, Option.some.injEq, Prod.mk.injEq] at g
            obtain ⟨g1, g2⟩ := g
            subst g1
            subst g2
            refine ⟨rfl, by simp, getD_snoc hNp⟩
        refine x_iconst D_3_readItem_110 ?_
        refine x_ireturn D_3_readItem_111 rfl (by first | rfl | exact nb_bi _ | decide +kernel) rfl ?_
        exact fin_n _ _ _ hfr hR hN (by rw [hO, rd, if_pos (by omega)]; rfl)
      refine x_aload_n D_3_readItem_37 rfl ?_
      refine x_getfield D_3_readItem_38 f_3_28 (by assumption) rfl ?_
      refine x_iconst D_3_readItem_41 ?_
      refine x_icmp_ge D_3_readItem_42 ⟨by omega, by omega⟩ ⟨by omega, by omega⟩ (fun c42 => ?_) (fun c42 => ?_)
      · exact absurd c42 (by omega)
      refine x_iconst D_3_readItem_45 ?_
      refine x_istore D_3_readItem_46 rfl rfl rfl ?_
      refine x_iconst D_3_readItem_48 ?_
      refine x_istore D_3_readItem_49 rfl rfl rfl ?_
      refine x_iload D_3_readItem_51 rfl ?_
      refine x_iconst D_3_readItem_53 ?_
      refine x_icmp_ge D_3_readItem_54 ⟨by omega, by omega⟩ ⟨by omega, by omega⟩ (fun c54 => ?_) (fun c54 => ?_)
      · exact absurd c54 (by omega)
      refine x_iload D_3_readItem_57 rfl ?_
      refine x_iload D_3_readItem_59 rfl ?_
      refine x_icmp_ge D_3_readItem_61 ⟨by omega, by omega⟩ ⟨by omega, by omega⟩ (fun c61 => ?_) (fun c61 => ?_)
      · first
        | (obtain ⟨g1, g2⟩ := nd_0 (Bt := Bt) (e := e) (p := p) (fun g => by have := g.1; have := g.2; omega); rw [g1, g2, Int.add_zero] at L98; exact L98.sub rfl)
        | (obtain ⟨g1, g2⟩ := nd_1 (Bt := Bt) (e := e) (p := p) ⟨by omega, by omega⟩ (fun g => by have := g.1; have := g.2; omega); rw [g1, g2] at L98; rw [show 0 * 10 + Bt p - 48 = Bt p - 48 by omega, show (0 : Int) + 1 = 1 by omega]; exact L98.sub rfl)
        | (obtain ⟨g1, g2⟩ := nd_2 (Bt := Bt) (e := e) (p := p) ⟨by omega, by omega⟩ ⟨by omega, by omega⟩; rw [g1, g2] at L98; rw [show (0 * 10 + Bt p - 48) * 10 + Bt (p + 1) - 48 = 10 * (Bt p - 48) + (Bt (p + 1) - 48) by omega, show (0 : Int) + 1 + 1 = 2 by omega, show p + 1 + 1 = p + 2 by omega]; exact L98.sub rfl)
      refine x_aload_n D_3_readItem_64 rfl ?_
      refine x_iload D_3_readItem_65 rfl ?_
      have hby := hBt p
      have hby1 := hBt (p + 1)
      refine x_baload D_3_readItem_67 (by assumption) (by omega) (by omega) rfl ?_
      refine x_invS2 (d' := d - 1) D_3_readItem_68 l_3_41 mi_3_isFigure (c_3_isFigure (by omega) ⟨by omega, by omega⟩)  rfl (by omega) rfl (fun q => q) rfl rfl (fun r68 h68 q68 => ?_)
      obtain ⟨rfl, rfl⟩ := q68
      refine x_if_eqb D_3_readItem_71 (fun c71 => ?_) (fun c71 => ?_)
      · first
        | (obtain ⟨g1, g2⟩ := nd_0 (Bt := Bt) (e := e) (p := p) (fun g => by have := g.1; have := g.2; omega); rw [g1, g2, Int.add_zero] at L98; exact L98.sub rfl)
        | (obtain ⟨g1, g2⟩ := nd_1 (Bt := Bt) (e := e) (p := p) ⟨by omega, by omega⟩ (fun g => by have := g.1; have := g.2; omega); rw [g1, g2] at L98; rw [show 0 * 10 + Bt p - 48 = Bt p - 48 by omega, show (0 : Int) + 1 = 1 by omega]; exact L98.sub rfl)
        | (obtain ⟨g1, g2⟩ := nd_2 (Bt := Bt) (e := e) (p := p) ⟨by omega, by omega⟩ ⟨by omega, by omega⟩; rw [g1, g2] at L98; rw [show (0 * 10 + Bt p - 48) * 10 + Bt (p + 1) - 48 = 10 * (Bt p - 48) + (Bt (p + 1) - 48) by omega, show (0 : Int) + 1 + 1 = 2 by omega, show p + 1 + 1 = p + 2 by omega]; exact L98.sub rfl)
      refine x_iload D_3_readItem_74 rfl ?_
      refine x_bipush D_3_readItem_76 (by decide +kernel) ?_
      refine x_imul D_3_readItem_78 ?_
      refine x_aload_n D_3_readItem_79 rfl ?_
      refine x_iload D_3_readItem_80 rfl ?_
      refine x_baload D_3_readItem_82 (by assumption) (by omega) (by omega) rfl ?_
      refine x_iadd D_3_readItem_83 ?_
      refine x_bipush D_3_readItem_84 (by decide +kernel) ?_
      refine x_isub D_3_readItem_86 ?_
      refine x_istore D_3_readItem_87 rfl rfl rfl ?_
      refine x_iinc D_3_readItem_89 rfl rfl rfl rfl ?_
      refine x_iinc D_3_readItem_92 rfl rfl rfl rfl ?_
      refine x_goto D_3_readItem_95 ?_
      refine x_iload D_3_readItem_51 rfl ?_
      refine x_iconst D_3_readItem_53 ?_
      refine x_icmp_ge D_3_readItem_54 ⟨by omega, by omega⟩ ⟨by omega, by omega⟩ (fun c54 => ?_) (fun c54 => ?_)
      · exact absurd c54 (by omega)
      refine x_iload D_3_readItem_57 rfl ?_
      refine x_iload D_3_readItem_59 rfl ?_
      refine x_icmp_ge D_3_readItem_61 ⟨by omega, by omega⟩ ⟨by omega, by omega⟩ (fun c61 => ?_) (fun c61 => ?_)
      · first
        | (obtain ⟨g1, g2⟩ := nd_0 (Bt := Bt) (e := e) (p := p) (fun g => by have := g.1; have := g.2; omega); rw [g1, g2, Int.add_zero] at L98; exact L98.sub rfl)
        | (obtain ⟨g1, g2⟩ := nd_1 (Bt := Bt) (e := e) (p := p) ⟨by omega, by omega⟩ (fun g => by have := g.1; have := g.2; omega); rw [g1, g2] at L98; rw [show 0 * 10 + Bt p - 48 = Bt p - 48 by omega, show (0 : Int) + 1 = 1 by omega]; exact L98.sub rfl)
        | (obtain ⟨g1, g2⟩ := nd_2 (Bt := Bt) (e := e) (p := p) ⟨by omega, by omega⟩ ⟨by omega, by omega⟩; rw [g1, g2] at L98; rw [show (0 * 10 + Bt p - 48) * 10 + Bt (p + 1) - 48 = 10 * (Bt p - 48) + (Bt (p + 1) - 48) by omega, show (0 : Int) + 1 + 1 = 2 by omega, show p + 1 + 1 = p + 2 by omega]; exact L98.sub rfl)
      refine x_aload_n D_3_readItem_64 rfl ?_
      refine x_iload D_3_readItem_65 rfl ?_
      have hby := hBt p
      have hby1 := hBt (p + 1)
      refine x_baload D_3_readItem_67 (by assumption) (by omega) (by omega) rfl ?_
      refine x_invS2 (d' := d - 1) D_3_readItem_68 l_3_41 mi_3_isFigure (c_3_isFigure (by omega) ⟨by omega, by omega⟩)  rfl (by omega) rfl (fun q => q) rfl rfl (fun r68 h68 q68 => ?_)
      obtain ⟨rfl, rfl⟩ := q68
      refine x_if_eqb D_3_readItem_71 (fun c71 => ?_) (fun c71 => ?_)
      · first
        | (obtain ⟨g1, g2⟩ := nd_0 (Bt := Bt) (e := e) (p := p) (fun g => by have := g.1; have := g.2; omega); rw [g1, g2, Int.add_zero] at L98; exact L98.sub rfl)
        | (obtain ⟨g1, g2⟩ := nd_1 (Bt := Bt) (e := e) (p := p) ⟨by omega, by omega⟩ (fun g => by have := g.1; have := g.2; omega); rw [g1, g2] at L98; rw [show 0 * 10 + Bt p - 48 = Bt p - 48 by omega, show (0 : Int) + 1 = 1 by omega]; exact L98.sub rfl)
        | (obtain ⟨g1, g2⟩ := nd_2 (Bt := Bt) (e := e) (p := p) ⟨by omega, by omega⟩ ⟨by omega, by omega⟩; rw [g1, g2] at L98; rw [show (0 * 10 + Bt p - 48) * 10 + Bt (p + 1) - 48 = 10 * (Bt p - 48) + (Bt (p + 1) - 48) by omega, show (0 : Int) + 1 + 1 = 2 by omega, show p + 1 + 1 = p + 2 by omega]; exact L98.sub rfl)
      refine x_iload D_3_readItem_74 rfl ?_
      refine x_bipush D_3_readItem_76 (by decide +kernel) ?_
      refine x_imul D_3_readItem_78 ?_
      refine x_aload_n D_3_readItem_79 rfl ?_
      refine x_iload D_3_readItem_80 rfl ?_
      refine x_baload D_3_readItem_82 (by assumption) (by omega) (by omega) rfl ?_
      refine x_iadd D_3_readItem_83 ?_
      refine x_bipush D_3_readItem_84 (by decide +kernel) ?_
      refine x_isub D_3_readItem_86 ?_
      refine x_istore D_3_readItem_87 rfl rfl rfl ?_
      refine x_iinc D_3_readItem_89 rfl rfl rfl rfl ?_
      refine x_iinc D_3_readItem_92 rfl rfl rfl rfl ?_
      refine x_goto D_3_readItem_95 ?_
      refine x_iload D_3_readItem_51 rfl ?_
      refine x_iconst D_3_readItem_53 ?_
      refine x_icmp_ge D_3_readItem_54 ⟨by omega, by omega⟩ ⟨by omega, by omega⟩ (fun c54 => ?_) (fun c54 => ?_)
      · first
        | (obtain ⟨g1, g2⟩ := nd_0 (Bt := Bt) (e := e) (p := p) (fun g => by have := g.1; have := g.2; omega); rw [g1, g2, Int.add_zero] at L98; exact L98.sub rfl)
        | (obtain ⟨g1, g2⟩ := nd_1 (Bt := Bt) (e := e) (p := p) ⟨by omega, by omega⟩ (fun g => by have := g.1; have := g.2; omega); rw [g1, g2] at L98; rw [show 0 * 10 + Bt p - 48 = Bt p - 48 by omega, show (0 : Int) + 1 = 1 by omega]; exact L98.sub rfl)
        | (obtain ⟨g1, g2⟩ := nd_2 (Bt := Bt) (e := e) (p := p) ⟨by omega, by omega⟩ ⟨by omega, by omega⟩; rw [g1, g2] at L98; rw [show (0 * 10 + Bt p - 48) * 10 + Bt (p + 1) - 48 = 10 * (Bt p - 48) + (Bt (p + 1) - 48) by omega, show (0 : Int) + 1 + 1 = 2 by omega, show p + 1 + 1 = p + 2 by omega]; exact L98.sub rfl)
      exact absurd c54 (by omega)
  have hby := hBt p0
  refine x_iload_n D_3_readItem_0 rfl ?_
  refine x_aload_n D_3_readItem_1 rfl ?_
  refine x_alenB D_3_readItem_2 hB ?_
  refine x_min D_3_readItem_3 l_3_35 ⟨by omega, by omega⟩ ⟨by omega, by omega⟩ (by omega) rfl ?_
  rw [if_neg (by omega)]
  refine x_istore D_3_readItem_6 rfl rfl rfl ?_
  refine x_iload_n D_3_readItem_8 rfl ?_
  refine x_if_lt D_3_readItem_9 ⟨by omega, by omega⟩ (fun c9 => ?_) (fun c9 => ?_)
  · exact absurd c9 (by omega)
  refine x_iload_n D_3_readItem_12 rfl ?_
  refine x_iload D_3_readItem_13 rfl ?_
  refine x_icmp_lt D_3_readItem_15 ⟨by omega, by omega⟩ ⟨by omega, by omega⟩ (fun c15 => ?_) (fun c15 => ?_)
  · refine x_aload_n D_3_readItem_20 rfl ?_
    refine x_aload_n D_3_readItem_21 rfl ?_
    refine x_iload_n D_3_readItem_22 rfl ?_
    refine x_baload D_3_readItem_23 (by assumption) (by omega) (by omega) rfl ?_
    refine x_putI D_3_readItem_24 f_3_24 (by assumption) (by decide +kernel) rfl (fun h24 e24 n24 => ?_)
    simp only [List.set_cons_zero, List.set_cons_succ] at e24
    first | (replace hR := (n24 _ (by omega)).trans hR) | (replace hR := e24)
    first | (replace hN := (n24 _ (by omega)).trans hN) | (replace hN := e24)
    first | (replace hB := (n24 _ (by omega)).trans hB) | (replace hB := e24)
    replace hfr := fun q hq => (n24 q (by omega)).trans (hfr q hq)
    refine x_aload_n D_3_readItem_27 rfl ?_
    refine x_iconst D_3_readItem_28 ?_
    refine x_putI D_3_readItem_29 f_3_28 (by assumption) (by decide +kernel) rfl (fun h29 e29 n29 => ?_)
    simp only [List.set_cons_zero, List.set_cons_succ] at e29
    first | (replace hR := (n29 _ (by omega)).trans hR) | (replace hR := e29)
    first | (replace hN := (n29 _ (by omega)).trans hN) | (replace hN := e29)
    first | (replace hB := (n29 _ (by omega)).trans hB) | (replace hB := e29)
    replace hfr := fun q hq => (n29 q (by omega)).trans (hfr q hq)
    refine x_iload_n D_3_readItem_32 rfl ?_
    refine x_iconst D_3_readItem_33 ?_
    refine x_iadd D_3_readItem_34 ?_
    refine x_istore D_3_readItem_35 rfl rfl rfl ?_
    exact (loop 4 [] (p0 + 1) _ _ rfl (by omega) (by omega) (fun j hj => absurd hj (by simp)) (by cases rd Bt e 4 (p0 + 1) <;> rfl) hR hN hB hfr).sub rfl
  exact absurd c15 (by omega)
