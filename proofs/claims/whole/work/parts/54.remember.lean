def rmU (u : Nat) : Nat := if u = 8 then 8 else u + 1
def rmF {α : Type} (u : Nat) (B : Nat → α) (E : α) : Nat → α := fun j => if u = 8 then (if j < 7 then B (j + 1) else E) else (if j = u then E else B j)
theorem c_5_remember {d : Nat} (hd : 1 ≤ d) {z : Nat × Nat} {h : Hp} {len kc : Int} {lt dt u : Nat} {E : TT} {bf : Nat → Nat} {B : Nat → TT} (hM : Mn h len lt dt u kc) (hE : EvAt h 23 E) (hB : Bf h bf B) (hu : u ≤ 8) : Ct d m_5_remember [.ref 1] z z h (fun r h' => r = none ∧ Mn h' len lt dt (rmU u : Nat) kc ∧ (∃ (bf' : Nat → Nat) (B' : Nat → TT), Bf h' bf' B' ∧ ∀ j : Nat, j < rmU u → B' j = rmF u B E j) ∧ ∀ q : Nat, (q ≠ 1 ∧ q ≠ 33 ∧ (q < 52 ∨ 91 < q)) → h' q = h q) := by
  refine Ct.of (by decide) ⟨Nat.le_refl _, Nat.le_refl _⟩ (Nat.le_of_ble_eq_true rfl) ?_
  have L58 : ∀ (hh : Hp) (u' : Nat) (bf' : Nat → Nat) (B' : Nat → TT), u' < 8 → Mn hh len lt dt u' kc → Bf hh bf' B' → (∀ q : Nat, (q ≠ 1 ∧ q ≠ 33 ∧ (q < 52 ∨ 91 < q)) → hh q = h q) → rmU u = u' + 1 → (∀ j : Nat, j < u' + 1 → (if j = u' then E else B' j) = rmF u B E j) →
      WW d m_5_remember z (fun r h' => r = none ∧ Mn h' len lt dt (rmU u : Nat) kc ∧ (∃ (bf' : Nat → Nat) (B' : Nat → TT), Bf h' bf' B' ∧ ∀ j : Nat, j < rmU u → B' j = rmF u B E j) ∧ ∀ q : Nat, (q ≠ 1 ∧ q ≠ 33 ∧ (q < 52 ∨ 91 < q)) → h' q = h q) z hh 58 [(0, .ref 1)] [] := by
    intro hh u' bf' B' hu' hM hB hfr hU hF
    have hM0 := hM
    unfold Mn at hM0
    obtain ⟨g0, g1, g2, g3⟩ := hB
    have hE1 : EvAt hh 23 E := hE.kept (fun q q1 q2 => hfr q (by omega))
    have hbu := g1 u' hu'
    refine x_aload_n D_5_remember_58 rfl ?_
    refine x_getfield D_5_remember_59 f_5_40 (by assumption) rfl ?_
    refine x_aload_n D_5_remember_62 rfl ?_
    refine x_getfield D_5_remember_63 f_5_91 (by assumption) rfl ?_
    refine x_aaload0 D_5_remember_66 g0 (by omega) (by omega) rfl (q0 := bf' u') (by simp [hu']) ?_
    refine x_aload_n D_5_remember_67 rfl ?_
    refine x_getfield D_5_remember_68 f_5_33 (by assumption) rfl ?_
    refine x_invV (d' := d - 1) D_5_remember_71 l_5_174 mi_0_copyFrom (c_0_copyFrom (by omega) (g3 u' hu') hE1 (by omega)) ((g3 u' hu').1) rfl rfl (by omega) rfl (fun q => q) rfl rfl (fun r71 h71 q71 => ?_)
    obtain ⟨rfl, w1, w2⟩ := q71
    have hM0 := (w2 1 (by omega)).trans hM0
    have g0 := (w2 33 (by omega)).trans g0
    have hfr : ∀ q : Nat, (q ≠ 1 ∧ q ≠ 33 ∧ (q < 52 ∨ 91 < q)) → h71 q = h q := fun q hq => (w2 q (by omega)).trans (hfr q hq)
    refine x_aload_n D_5_remember_74 rfl ?_
    refine x_dup D_5_remember_75 rfl ?_
    refine x_getfield D_5_remember_76 f_5_91 (by assumption) rfl ?_
    refine x_iconst D_5_remember_79 ?_
    refine x_iadd D_5_remember_80 ?_
    refine x_putI D_5_remember_81 f_5_91 (by assumption) (by decide +kernel) rfl (fun h81 e81 n81 => ?_)
    simp only [List.set_cons_zero, List.set_cons_succ] at e81
    first | (replace hM0 := (n81 _ (by omega)).trans hM0) | (replace hM0 := e81)
    first | (replace g0 := (n81 _ (by omega)).trans g0) | (replace g0 := e81)
    replace hfr := fun q hq => (n81 q (by omega)).trans (hfr q hq)
    refine x_return D_5_remember_84 rfl rfl ?_
    refine ⟨rfl, ?_, ⟨bf', fun j => if j = u' then E else B' j, ⟨g0, g1, g2, fun k hk => ?_⟩, fun j hj => hF j (by omega)⟩, hfr⟩
    · unfold Mn
      rw [hM0, hU]
      rfl
    · by_cases e : k = u'
      · simp only [if_pos e]
        rw [e]
        exact w1.kept (fun q q1 q2 => n81 q (by omega))
      · simp only [if_neg e]
        have := g2 k u' hk hu' e
        have := g1 k hk
        exact (g3 k hk).kept (fun q q1 q2 => (n81 q (by omega)).trans (w2 q (by omega)))
  by_cases hu8 : u = 8
  · have hM0 := hM
    unfold Mn at hM0
    obtain ⟨g0, g1, g2, g3⟩ := id hB
    have loop : ∀ (f k : Nat) (hh : Hp), 1 ≤ k → k + f = 8 → hh 33 = some (ra 0 8 (fun q => if q + 1 < k then some (bf (q + 1)) else if q < 8 then some (bf q) else none)) → (∀ q : Nat, q ≠ 33 → hh q = h q) →
        WW d m_5_remember z (fun r h' => r = none ∧ Mn h' len lt dt (rmU u : Nat) kc ∧ (∃ (bf' : Nat → Nat) (B' : Nat → TT), Bf h' bf' B' ∧ ∀ j : Nat, j < rmU u → B' j = rmF u B E j) ∧ ∀ q : Nat, (q ≠ 1 ∧ q ≠ 33 ∧ (q < 52 ∨ 91 < q)) → h' q = h q) z hh 18 [(0, .ref 1), (1, .ref (bf 0)), (2, vi (k : Int))] [] := by
      intro f
      induction f with
      | zero =>
        intro k hh h1 hk hG hfr
        obtain rfl : k = 8 := by omega
        have hM1 := (hfr 1 (by omega)).trans hM0
        have hv0 := (hfr (bf 0) (by have := g1 0 (by omega); omega)).trans (g3 0 (by omega)).1
        refine x_iload_n D_5_remember_18 rfl ?_
        refine x_bipush D_5_remember_19 (by decide +kernel) ?_
        refine x_icmp_ge D_5_remember_21 ⟨by omega, by omega⟩ ⟨by omega, by omega⟩ (fun c21 => ?_) (fun c21 => ?_)
        · refine x_aload_n D_5_remember_44 rfl ?_
          refine x_getfield D_5_remember_45 f_5_40 (by assumption) rfl ?_
          refine x_bipush D_5_remember_48 (by decide +kernel) ?_
          refine x_aload_n D_5_remember_50 rfl ?_
          refine x_aastore D_5_remember_51 hG hv0 (by omega) (by omega) rfl (fun h51 e51 n51 => ?_)
          have hM1 := (n51 1 (by omega)).trans hM1
          refine x_aload_n D_5_remember_52 rfl ?_
          refine x_bipush D_5_remember_53 (by decide +kernel) ?_
          refine x_putI D_5_remember_55 f_5_91 (by assumption) (by decide +kernel) rfl (fun h55 e55 n55 => ?_)
          simp only [List.set_cons_zero, List.set_cons_succ] at e55
          first | (replace hM1 := (n55 _ (by omega)).trans hM1) | (replace hM1 := e55)
          refine (L58 _ 7 (fun k => if k = 7 then bf 0 else bf (k + 1)) (fun k => if k = 7 then B 0 else B (k + 1)) (by omega) ?_ ⟨?_, fun k hk => ?_, fun j k hj hk hne => ?_, fun k hk => ?_⟩ (fun q hq => (n55 q hq.1).trans ((n51 q hq.2.1).trans (hfr q hq.2.1))) (by unfold rmU; rw [if_pos hu8]) (fun j hj => ?_)).sub rfl
          · exact hM1
          · rw [n55 33 (by omega), e51]
            refine congrArg some (congrArg (ra 0 8) (funext fun q => ?_))
            show (if q = (7 : Int).toNat then _ else _) = _
            by_cases e : q = 7
            · simp [e]
            · have e7 : ¬ q = (7 : Int).toNat := by show ¬ q = 7; exact e
              rw [if_neg e7]
              by_cases e2 : q < 8
              · have e3 : q + 1 < 8 := by omega
                simp [e, e2, e3]
              · have e3 : ¬ q + 1 < 8 := by omega
                simp [e2, e3]
          · by_cases e : k = 7
            · simp only [if_pos e]; exact g1 0 (by omega)
            · simp only [if_neg e]; exact g1 (k + 1) (by omega)
          · by_cases e : j = 7
            · have e2 : k ≠ 7 := by omega
              simp only [if_pos e, if_neg e2]; exact g2 0 (k + 1) (by omega) (by omega) (by omega)
            · by_cases e2 : k = 7
              · simp only [if_neg e, if_pos e2]; exact g2 (j + 1) 0 (by omega) (by omega) (by omega)
              · simp only [if_neg e, if_neg e2]; exact g2 (j + 1) (k + 1) (by omega) (by omega) (by omega)
          · have hkp : ∀ q : Nat, 52 ≤ q → h55 q = h q := fun q hq => (n55 q (by omega)).trans ((n51 q (by omega)).trans (hfr q (by omega)))
            by_cases e : k = 7
            · simp only [if_pos e]; exact (g3 0 (by omega)).kept (fun q q1 q2 => hkp q (by have := g1 0 (by omega); omega))
            · simp only [if_neg e]; exact (g3 (k + 1) (by omega)).kept (fun q q1 q2 => hkp q (by have := g1 (k + 1) (by omega); omega))
          · unfold rmF
            rw [if_pos hu8]
            by_cases e : j = 7
            · have e2 : ¬ j < 7 := by omega
              simp [e]
            · have e2 : j < 7 := by omega
              simp [e, e2]
        exact absurd c21 (by omega)
      | succ f ih =>
        intro k hh h1 hk hG hfr
        have hM1 := (hfr 1 (by omega)).trans hM0
        have hvk := (hfr (bf k) (by have := g1 k (by omega); omega)).trans (g3 k (by omega)).1
        have hk8 : k < 8 := by omega
        refine x_iload_n D_5_remember_18 rfl ?_
        refine x_bipush D_5_remember_19 (by decide +kernel) ?_
        refine x_icmp_ge D_5_remember_21 ⟨by omega, by omega⟩ ⟨by omega, by omega⟩ (fun c21 => ?_) (fun c21 => ?_)
        · exact absurd c21 (by omega)
        refine x_aload_n D_5_remember_24 rfl ?_
        refine x_getfield D_5_remember_25 f_5_40 (by assumption) rfl ?_
        refine x_iload_n D_5_remember_28 rfl ?_
        refine x_iconst D_5_remember_29 ?_
        refine x_isub D_5_remember_30 ?_
        refine x_aload_n D_5_remember_31 rfl ?_
        refine x_getfield D_5_remember_32 f_5_40 (by assumption) rfl ?_
        refine x_iload_n D_5_remember_35 rfl ?_
        refine x_aaload0 D_5_remember_36 hG (by omega) (by omega) rfl (q0 := bf k) (by simp [hk8]; intro q; omega) ?_
        refine x_aastore D_5_remember_37 hG hvk (by omega) (by omega) rfl (fun h37 e37 n37 => ?_)
        refine x_iinc D_5_remember_38 rfl rfl rfl rfl ?_
        refine x_goto D_5_remember_41 ?_
        refine (ih (k + 1) h37 (by omega) (by omega) ?_ (fun q hq => (n37 q hq).trans (hfr q hq))).sub rfl
        rw [e37]
        refine congrArg some (congrArg (ra 0 8) (funext fun q => ?_))
        show (if q = ((k : Int) - 1).toNat then _ else _) = _
        by_cases e : q = k - 1
        · have e1 : q = ((k : Int) - 1).toNat := by omega
          have e2 : q + 1 < k + 1 := by omega
          have e3 : q + 1 = k := by omega
          rw [if_pos e1, if_pos e2, e3]
        · have e1 : ¬ q = ((k : Int) - 1).toNat := by omega
          rw [if_neg e1]
          by_cases e2 : q + 1 < k
          · have e3 : q + 1 < k + 1 := by omega
            simp only [if_pos e2, if_pos e3]
          · have e3 : ¬ q + 1 < k + 1 := by omega
            simp only [if_neg e2, if_neg e3]
    refine x_aload_n D_5_remember_0 rfl ?_
    refine x_getfield D_5_remember_1 f_5_91 (by assumption) rfl ?_
    refine x_bipush D_5_remember_4 (by decide +kernel) ?_
    refine x_icmp_lt D_5_remember_6 ⟨by omega, by omega⟩ ⟨by omega, by omega⟩ (fun c6 => ?_) (fun c6 => ?_)
    · exact absurd c6 (by omega)
    refine x_aload_n D_5_remember_9 rfl ?_
    refine x_getfield D_5_remember_10 f_5_40 (by assumption) rfl ?_
    refine x_iconst D_5_remember_13 ?_
    refine x_aaload0 D_5_remember_14 g0 (by omega) (by omega) rfl (q0 := bf 0) rfl ?_
    refine x_astore_n D_5_remember_15 rfl rfl rfl ?_
    refine x_iconst D_5_remember_16 ?_
    refine x_istore_n D_5_remember_17 rfl rfl rfl ?_
    refine (loop 7 1 _ (by omega) (by omega) ?_ (fun q hq => rfl)).sub rfl
    rw [g0]
    refine congrArg some (congrArg (ra 0 8) (funext fun q => ?_))
    have e : ¬ q + 1 < 1 := by omega
    rw [if_neg e]
  · have hM0 := hM
    unfold Mn at hM0
    refine x_aload_n D_5_remember_0 rfl ?_
    refine x_getfield D_5_remember_1 f_5_91 (by assumption) rfl ?_
    refine x_bipush D_5_remember_4 (by decide +kernel) ?_
    refine x_icmp_lt D_5_remember_6 ⟨by omega, by omega⟩ ⟨by omega, by omega⟩ (fun c6 => ?_) (fun c6 => ?_)
    · exact (L58 h u bf B (by omega) hM hB (fun q hq => rfl) (by unfold rmU; rw [if_neg hu8]) (fun j hj => by unfold rmF; rw [if_neg hu8])).sub rfl
    exact absurd c6 (by omega)
