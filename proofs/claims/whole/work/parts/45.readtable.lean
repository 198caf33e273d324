theorem c_3_readTable {d : Nat} (hd : 3 ≤ d) {z : Nat × Nat} {h : Hp} {r b t : Nat} {lt0 m0 e : Int} {N0 Bt : Int → Int} {T0 : TT} (hR : h r = some (ob 3 [vi lt0, .ref (r + 1), vi m0])) (hN : h (r + 1) = some (ia 0 4 N0)) (hB : h b = some (ia 1 300 Bt)) (hT0 : TabAt h t T0) (hb : b < r ∨ r + 1 < b) (hbt : b < t ∨ t + 8 < b) (hrt : r + 1 < t ∨ t + 8 < r) (he : 0 ≤ e ∧ e ≤ 300) (hBt : ∀ j : Int, -128 ≤ Bt j ∧ Bt j ≤ 127) :
    Ct d m_3_readTable [.ref r, .ref b, vi e, .ref t] z z h (fun res h' => ∃ (f : Int) (T' : TT) (lt m : Int) (N : Int → Int), res = some (vi f) ∧ prsR Bt e e.toNat (clr0 T0) 0 f T' ∧ TabAt h' t T' ∧ h' r = some (ob 3 [vi lt, .ref (r + 1), vi m]) ∧ h' (r + 1) = some (ia 0 4 N) ∧ ∀ q : Nat, (q < t ∨ t + 8 < q) → (q < r ∨ r + 1 < q) → h' q = h q) := by
  refine Ct.of (by decide) ⟨Nat.le_refl _, Nat.le_refl _⟩ (Nat.le_of_ble_eq_true rfl) ?_
  have s1 : r < t ∨ t + 8 < r := by omega
  have s2 : r + 1 < t ∨ t + 8 < r + 1 := by omega
  have loop : ∀ (n : Nat) (T : TT) (i lt m : Int) (hh : Hp) (N : Int → Int), TabOk T → 0 ≤ i → i ≤ e → e - i ≤ n → (∀ f T', prsR Bt e n T i f T' → prsR Bt e e.toNat (clr0 T0) 0 f T') → TabAt hh t T → hh r = some (ob 3 [vi lt, .ref (r + 1), vi m]) → hh (r + 1) = some (ia 0 4 N) → hh b = some (ia 1 300 Bt) → (∀ q : Nat, (q < t ∨ t + 8 < q) → (q < r ∨ r + 1 < q) → hh q = h q) →
      WW d m_3_readTable z (fun res h' => ∃ (f : Int) (T' : TT) (lt m : Int) (N : Int → Int), res = some (vi f) ∧ prsR Bt e e.toNat (clr0 T0) 0 f T' ∧ TabAt h' t T' ∧ h' r = some (ob 3 [vi lt, .ref (r + 1), vi m]) ∧ h' (r + 1) = some (ia 0 4 N) ∧ ∀ q : Nat, (q < t ∨ t + 8 < q) → (q < r ∨ r + 1 < q) → h' q = h q) z hh 7 [(0, .ref r), (1, .ref b), (2, vi e), (3, .ref t), (4, vi i)] [] := by
    intro n
    induction n with
    | zero =>
      intro T i lt m hh N hk h0 hi hn hC hT hR hN hB hfr
      refine x_iload D_3_readTable_7 rfl ?_
      refine x_iload_n D_3_readTable_9 rfl ?_
      refine x_icmp_ge D_3_readTable_10 ⟨by omega, by omega⟩ ⟨by omega, by omega⟩ (fun c10 => ?_) (fun c10 => ?_)
      · refine x_bipush D_3_readTable_59 (by decide +kernel) ?_
        refine x_ireturn D_3_readTable_61 rfl (by first | rfl | exact nb_bi _ | decide +kernel) rfl ?_
        exact ⟨_, T, _, _, _, rfl, hC _ _ ⟨by omega, rfl, rfl⟩, hT, hR, hN, hfr⟩
      exact absurd c10 (by omega)
    | succ n ih =>
      intro T i lt m hh N hk h0 hi hn hC hT hR hN hB hfr
      refine x_iload D_3_readTable_7 rfl ?_
      refine x_iload_n D_3_readTable_9 rfl ?_
      refine x_icmp_ge D_3_readTable_10 ⟨by omega, by omega⟩ ⟨by omega, by omega⟩ (fun c10 => ?_) (fun c10 => ?_)
      · refine x_bipush D_3_readTable_59 (by decide +kernel) ?_
        refine x_ireturn D_3_readTable_61 rfl (by first | rfl | exact nb_bi _ | decide +kernel) rfl ?_
        exact ⟨_, T, _, _, _, rfl, hC _ _ (Or.inl ⟨by omega, rfl, rfl⟩), hT, hR, hN, hfr⟩
      refine x_aload_n D_3_readTable_13 rfl ?_
      refine x_aload_n D_3_readTable_14 rfl ?_
      refine x_iload_n D_3_readTable_15 rfl ?_
      refine x_iload D_3_readTable_16 rfl ?_
      refine x_invV (d' := d - 1) D_3_readTable_18 l_3_20 mi_3_readItem (c_3_readItem (by omega) hR hN hB hb he hBt ⟨by omega, by omega⟩) (by assumption) rfl rfl (by omega) rfl (fun q => q) rfl rfl (fun r18 h18 q18 => ?_)
      obtain ⟨hf, N2, m2, g1, g2, g3, g4⟩ := q18
      obtain ⟨nx, hnx, hnr, hcase⟩ : ∃ nx : Int, r18 = some (vi nx) ∧ (-1 ≤ nx ∧ nx ≤ 300) ∧ ((nx = -1 ∧ rd Bt e 4 (i + 1) = none) ∨ (i < nx ∧ nx ≤ e ∧ ∃ l : List Int, rd Bt e 4 (i + 1) = some (nx, l) ∧ m2 = (l.length : Int) ∧ (∀ j : Nat, j < l.length → N2 (j : Int) = l.getD j 0) ∧ l.length ≤ 4 ∧ ∀ v ∈ l, 0 ≤ v ∧ v ≤ 99)) := by
        cases hx : rd Bt e 4 (i + 1) with
        | none => exact ⟨-1, g3 hx, ⟨by omega, by omega⟩, Or.inl ⟨rfl, rfl⟩⟩
        | some x =>
          obtain ⟨q, l⟩ := x
          obtain ⟨w1, w2, w3⟩ := g4 q l hx
          obtain ⟨w4, w5, w6, w7⟩ := rd_rng Bt e _ _ _ _ hx
          exact ⟨q, w1, ⟨by omega, by omega⟩, Or.inr ⟨by omega, w5, l, rfl, w2, w3, w6, w7⟩⟩
      subst hnx
      have hT1 : TabAt h18 t T := hT.kept (fun q q1 q2 => hf q (by omega))
      have hB1 : h18 b = some (ia 1 300 Bt) := (hf b (by omega)).trans hB
      have hfr1 : ∀ q : Nat, (q < t ∨ t + 8 < q) → (q < r ∨ r + 1 < q) → h18 q = h q := fun q q1 q2 => (hf q q2).trans (hfr q q1 q2)
      have hlt := hBt i
      refine x_istore D_3_readTable_21 rfl rfl rfl ?_
      refine x_iload D_3_readTable_23 rfl ?_
      refine x_iload D_3_readTable_25 rfl ?_
      refine x_icmp_le D_3_readTable_27 ⟨by omega, by omega⟩ ⟨by omega, by omega⟩ (fun c27 => ?_) (fun c27 => ?_)
      · have hnone : rd Bt e 4 (i + 1) = none := by
          rcases hcase with w | w
          · exact w.2
          · exfalso; omega
        refine x_iload D_3_readTable_49 rfl ?_
        refine x_ireturn D_3_readTable_51 rfl rfl rfl ?_
        exact ⟨_, T, _, _, _, rfl, hC _ _ (Or.inr (Or.inr ⟨by omega, rfl, rfl, fun q l g => by rw [hnone] at g; cases g⟩)), hT1, g1, g2, hfr1⟩
      obtain ⟨l, hl1, hl2, hl3, hl4, hl5⟩ : ∃ l : List Int, rd Bt e 4 (i + 1) = some (nx, l) ∧ m2 = (l.length : Int) ∧ (∀ j : Nat, j < l.length → N2 (j : Int) = l.getD j 0) ∧ l.length ≤ 4 ∧ ∀ v ∈ l, 0 ≤ v ∧ v ≤ 99 := by
        rcases hcase with w | w
        · exfalso; omega
        · exact w.2.2
      subst hl2
      have hne : nx ≤ e := by
        rcases hcase with w | w
        · exfalso; omega
        · exact w.2.1
      refine x_aload_n D_3_readTable_30 rfl ?_
      refine x_aload_n D_3_readTable_31 rfl ?_
      refine x_getfield D_3_readTable_32 f_3_24 (by assumption) rfl ?_
      refine x_aload_n D_3_readTable_35 rfl ?_
      refine x_getfield D_3_readTable_36 f_3_9 (by assumption) rfl ?_
      refine x_aload_n D_3_readTable_39 rfl ?_
      refine x_getfield D_3_readTable_40 f_3_28 (by assumption) rfl ?_
      refine x_invV (d' := d - 1) D_3_readTable_43 l_3_31 mi_4_add (c_4_add (by omega) hT1 hk g2 ⟨by omega, by omega⟩ hl4 hl3 hl5) (hT1.1) rfl rfl (by omega) rfl (fun q => q) rfl rfl (fun r43 h43 q43 => ?_)
      obtain ⟨w0, hf2⟩ := q43
      obtain ⟨xx, hxx, hxr, w1⟩ : ∃ xx : Int, r43 = some (vi xx) ∧ (0 ≤ xx ∧ xx ≤ 1) ∧ ((xx = 1 ∧ ∃ T', addI T (Bt i) l T' ∧ TabAt h43 t T') ∨ (xx = 0 ∧ (∀ T', ¬ addI T (Bt i) l T') ∧ TabAt h43 t T)) := by
        rcases w0 with ⟨T', a1, a2, a3⟩ | ⟨a1, a2, a3⟩
        · exact ⟨1, a2, ⟨by omega, by omega⟩, Or.inl ⟨rfl, T', a1, a3⟩⟩
        · exact ⟨0, a2, ⟨by omega, by omega⟩, Or.inr ⟨rfl, a1, a3⟩⟩
      subst hxx
      have g1' := (hf2 r s1).trans g1
      have g2' := (hf2 (r + 1) s2).trans g2
      have hB2 : h43 b = some (ia 1 300 Bt) := (hf2 b hbt).trans hB1
      have hfr2 : ∀ q : Nat, (q < t ∨ t + 8 < q) → (q < r ∨ r + 1 < q) → h43 q = h q := fun q q1 q2 => (hf2 q q1).trans (hfr1 q q1 q2)
      refine x_if_ne D_3_readTable_46 ⟨by omega, by omega⟩ (fun c46 => ?_) (fun c46 => ?_)
      · refine x_iload D_3_readTable_52 rfl ?_
        refine x_istore D_3_readTable_54 rfl rfl rfl ?_
        refine x_goto D_3_readTable_56 ?_
        obtain ⟨T', a1, a2⟩ : ∃ T', addI T (Bt i) l T' ∧ TabAt h43 t T' := by
          rcases w1 with w | w
          · exact w.2
          · exfalso; omega
        exact (ih T' nx _ _ _ _ (ok_addI hk hl5 a1) (by omega) (by omega) (by omega) (fun f T2 g => hC f T2 (Or.inr (Or.inl ⟨by omega, nx, l, T', hl1, a1, g⟩))) a2 g1' g2' hB2 hfr2).sub rfl
      refine x_iload D_3_readTable_49 rfl ?_
      refine x_ireturn D_3_readTable_51 rfl (by first | rfl | exact nb_bi _ | decide +kernel) rfl ?_
      obtain ⟨a1, a2⟩ : (∀ T', ¬ addI T (Bt i) l T') ∧ TabAt h43 t T := by
        rcases w1 with w | w
        · exfalso; omega
        · exact w.2
      exact ⟨_, T, _, _, _, rfl, hC _ _ (Or.inr (Or.inr ⟨by omega, rfl, rfl, fun q l' g T1 => by rw [hl1] at g; cases g; exact a1 T1⟩)), a2, g1', g2', hfr2⟩
  refine x_aload_n D_3_readTable_0 rfl ?_
  refine x_invV (d' := d - 1) D_3_readTable_1 l_3_15 mi_4_clear (c_4_clear (by omega) hT0) (hT0.1) rfl rfl (by omega) rfl (fun q => q) rfl rfl (fun r1 h1 q1 => ?_)
  obtain ⟨rfl, hT1, hf⟩ := q1
  refine x_iconst D_3_readTable_4 ?_
  refine x_istore D_3_readTable_5 rfl rfl rfl ?_
  exact (loop e.toNat (clr0 T0) 0 _ _ _ _ (ok_clear T0) (by omega) (by omega) (by omega) (fun _ _ g => g) hT1 ((hf r (by omega)).trans hR) ((hf (r + 1) (by omega)).trans hN) ((hf b (by omega)).trans hB) (fun q q1 q2 => hf q q1)).sub rfl
