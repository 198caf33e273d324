theorem c_3_isFigure {d : Nat} (hd : 0 ≤ d) {z : Nat × Nat} {h : Hp} {v : Int} (hv : B3 v) : Ct d m_3_isFigure [vi v] z z h (Pu (bi (48 ≤ v ∧ v ≤ 57)) h) := by
  refine Ct.of (by decide) ⟨Nat.le_refl _, Nat.le_refl _⟩ (Nat.le_of_ble_eq_true rfl) ?_
  refine x_iload_n D_3_isFigure_0 rfl ?_
  refine x_bipush D_3_isFigure_1 (by decide +kernel) ?_
  refine x_icmp_lt D_3_isFigure_3 hv ⟨by omega, by omega⟩ (fun c3 => ?_) (fun c3 => ?_)
  · refine x_iconst D_3_isFigure_16 ?_
    refine x_ireturn D_3_isFigure_17 rfl (by first | rfl | exact nb_bi _ | decide +kernel) rfl ?_
    first | exact Pu.t (by omega) | exact Pu.f (by omega)
  refine x_iload_n D_3_isFigure_6 rfl ?_
  refine x_bipush D_3_isFigure_7 (by decide +kernel) ?_
  refine x_icmp_gt D_3_isFigure_9 hv ⟨by omega, by omega⟩ (fun c9 => ?_) (fun c9 => ?_)
  · refine x_iconst D_3_isFigure_16 ?_
    refine x_ireturn D_3_isFigure_17 rfl (by first | rfl | exact nb_bi _ | decide +kernel) rfl ?_
    first | exact Pu.t (by omega) | exact Pu.f (by omega)
  refine x_iconst D_3_isFigure_12 ?_
  refine x_goto D_3_isFigure_13 ?_
  refine x_ireturn D_3_isFigure_17 rfl (by first | rfl | exact nb_bi _ | decide +kernel) rfl ?_
  first | exact Pu.t (by omega) | exact Pu.f (by omega)
/-- void, the table at t is T now, nothing else changed -/
abbrev TQ (t : Nat) (h0 : Hp) (v : Option Value) (T : TT) : Option Value → Hp → Prop := fun r h' => r = v ∧ TabAt h' t T ∧ ∀ q : Nat, (q < t ∨ t + 8 < q) → h' q = h0 q
theorem c_4_clear {d : Nat} (hd : 0 ≤ d) {z : Nat × Nat} {h : Hp} {t : Nat} {T : TT} (hT : TabAt h t T) : Ct d m_4_clear [.ref t] z z h (TQ t h none (up2 (up2 (up2 (up2 (up2 T 0 0 0) 2 0 0) 4 0 0) 9 0 0) 12 0 20)) := by
  refine Ct.of (by decide) ⟨Nat.le_refl _, Nat.le_refl _⟩ (Nat.le_of_ble_eq_true rfl) ?_
  obtain ⟨a0, a1, a2, a3, a4, a5, a6, a7, a8⟩ := hT
  have hfr : ∀ q : Nat, (q < t ∨ t + 8 < q) → h q = h q := fun _ _ => rfl
  refine x_aload_n D_4_clear_0 rfl ?_
  refine x_iconst D_4_clear_1 ?_
  refine x_putI D_4_clear_2 f_4_36 (by assumption) (by decide +kernel) rfl (fun h2 e2 n2 => ?_)
  simp only [List.set_cons_zero, List.set_cons_succ] at e2
  first | (replace a0 := (n2 _ (by omega)).trans a0) | (replace a0 := e2)
  first | (replace a1 := (n2 _ (by omega)).trans a1) | (replace a1 := e2)
  first | (replace a2 := (n2 _ (by omega)).trans a2) | (replace a2 := e2)
  first | (replace a3 := (n2 _ (by omega)).trans a3) | (replace a3 := e2)
  first | (replace a4 := (n2 _ (by omega)).trans a4) | (replace a4 := e2)
  first | (replace a5 := (n2 _ (by omega)).trans a5) | (replace a5 := e2)
  first | (replace a6 := (n2 _ (by omega)).trans a6) | (replace a6 := e2)
  first | (replace a7 := (n2 _ (by omega)).trans a7) | (replace a7 := e2)
  first | (replace a8 := (n2 _ (by omega)).trans a8) | (replace a8 := e2)
  replace hfr := fun q hq => (n2 q (by omega)).trans (hfr q hq)
  refine x_aload_n D_4_clear_5 rfl ?_
  refine x_iconst D_4_clear_6 ?_
  refine x_putI D_4_clear_7 f_4_40 (by assumption) (by decide +kernel) rfl (fun h7 e7 n7 => ?_)
  simp only [List.set_cons_zero, List.set_cons_succ] at e7
  first | (replace a0 := (n7 _ (by omega)).trans a0) | (replace a0 := e7)
  first | (replace a1 := (n7 _ (by omega)).trans a1) | (replace a1 := e7)
  first | (replace a2 := (n7 _ (by omega)).trans a2) | (replace a2 := e7)
  first | (replace a3 := (n7 _ (by omega)).trans a3) | (replace a3 := e7)
  first | (replace a4 := (n7 _ (by omega)).trans a4) | (replace a4 := e7)
  first | (replace a5 := (n7 _ (by omega)).trans a5) | (replace a5 := e7)
  first | (replace a6 := (n7 _ (by omega)).trans a6) | (replace a6 := e7)
  first | (replace a7 := (n7 _ (by omega)).trans a7) | (replace a7 := e7)
  first | (replace a8 := (n7 _ (by omega)).trans a8) | (replace a8 := e7)
  replace hfr := fun q hq => (n7 q (by omega)).trans (hfr q hq)
  refine x_aload_n D_4_clear_10 rfl ?_
  refine x_iconst D_4_clear_11 ?_
  refine x_putI D_4_clear_12 f_4_43 (by assumption) (by decide +kernel) rfl (fun h12 e12 n12 => ?_)
  simp only [List.set_cons_zero, List.set_cons_succ] at e12
  first | (replace a0 := (n12 _ (by omega)).trans a0) | (replace a0 := e12)
  first | (replace a1 := (n12 _ (by omega)).trans a1) | (replace a1 := e12)
  first | (replace a2 := (n12 _ (by omega)).trans a2) | (replace a2 := e12)
  first | (replace a3 := (n12 _ (by omega)).trans a3) | (replace a3 := e12)
  first | (replace a4 := (n12 _ (by omega)).trans a4) | (replace a4 := e12)
  first | (replace a5 := (n12 _ (by omega)).trans a5) | (replace a5 := e12)
  first | (replace a6 := (n12 _ (by omega)).trans a6) | (replace a6 := e12)
  first | (replace a7 := (n12 _ (by omega)).trans a7) | (replace a7 := e12)
  first | (replace a8 := (n12 _ (by omega)).trans a8) | (replace a8 := e12)
  replace hfr := fun q hq => (n12 q (by omega)).trans (hfr q hq)
  refine x_aload_n D_4_clear_15 rfl ?_
  refine x_iconst D_4_clear_16 ?_
  refine x_putI D_4_clear_17 f_4_46 (by assumption) (by decide +kernel) rfl (fun h17 e17 n17 => ?_)
  simp only [List.set_cons_zero, List.set_cons_succ] at e17
  first | (replace a0 := (n17 _ (by omega)).trans a0) | (replace a0 := e17)
  first | (replace a1 := (n17 _ (by omega)).trans a1) | (replace a1 := e17)
  first | (replace a2 := (n17 _ (by omega)).trans a2) | (replace a2 := e17)
  first | (replace a3 := (n17 _ (by omega)).trans a3) | (replace a3 := e17)
  first | (replace a4 := (n17 _ (by omega)).trans a4) | (replace a4 := e17)
  first | (replace a5 := (n17 _ (by omega)).trans a5) | (replace a5 := e17)
  first | (replace a6 := (n17 _ (by omega)).trans a6) | (replace a6 := e17)
  first | (replace a7 := (n17 _ (by omega)).trans a7) | (replace a7 := e17)
  first | (replace a8 := (n17 _ (by omega)).trans a8) | (replace a8 := e17)
  replace hfr := fun q hq => (n17 q (by omega)).trans (hfr q hq)
  refine x_aload_n D_4_clear_20 rfl ?_
  refine x_bipush D_4_clear_21 (by decide +kernel) ?_
  refine x_putI D_4_clear_23 f_4_49 (by assumption) (by decide +kernel) rfl (fun h23 e23 n23 => ?_)
  simp only [List.set_cons_zero, List.set_cons_succ] at e23
  first | (replace a0 := (n23 _ (by omega)).trans a0) | (replace a0 := e23)
  first | (replace a1 := (n23 _ (by omega)).trans a1) | (replace a1 := e23)
  first | (replace a2 := (n23 _ (by omega)).trans a2) | (replace a2 := e23)
  first | (replace a3 := (n23 _ (by omega)).trans a3) | (replace a3 := e23)
  first | (replace a4 := (n23 _ (by omega)).trans a4) | (replace a4 := e23)
  first | (replace a5 := (n23 _ (by omega)).trans a5) | (replace a5 := e23)
  first | (replace a6 := (n23 _ (by omega)).trans a6) | (replace a6 := e23)
  first | (replace a7 := (n23 _ (by omega)).trans a7) | (replace a7 := e23)
  first | (replace a8 := (n23 _ (by omega)).trans a8) | (replace a8 := e23)
  replace hfr := fun q hq => (n23 q (by omega)).trans (hfr q hq)
  refine x_return D_4_clear_26 rfl rfl ?_
  exact ⟨rfl, ⟨a0, a1, a2, a3, a4, a5, a6, a7, a8⟩, hfr⟩
theorem c_4_setWindow {d : Nat} (hd : 0 ≤ d) {z : Nat × Nat} {h : Hp} {t : Nat} {T : TT} {v : Int} (hT : TabAt h t T) : Ct d m_4_setWindow [.ref t, vi v] z z h (TQ t h (some (vi 1)) (addA T v)) := by
  refine Ct.of (by decide) ⟨Nat.le_refl _, Nat.le_refl _⟩ (Nat.le_of_ble_eq_true rfl) ?_
  obtain ⟨a0, a1, a2, a3, a4, a5, a6, a7, a8⟩ := hT
  have hfr : ∀ q : Nat, (q < t ∨ t + 8 < q) → h q = h q := fun _ _ => rfl
  refine x_aload_n D_4_setWindow_0 rfl ?_
  refine x_iload_n D_4_setWindow_1 rfl ?_
  refine x_putI D_4_setWindow_2 f_4_49 (by assumption) (by decide +kernel) rfl (fun h2 e2 n2 => ?_)
  simp only [List.set_cons_zero, List.set_cons_succ] at e2
  first | (replace a0 := (n2 _ (by omega)).trans a0) | (replace a0 := e2)
  first | (replace a1 := (n2 _ (by omega)).trans a1) | (replace a1 := e2)
  first | (replace a2 := (n2 _ (by omega)).trans a2) | (replace a2 := e2)
  first | (replace a3 := (n2 _ (by omega)).trans a3) | (replace a3 := e2)
  first | (replace a4 := (n2 _ (by omega)).trans a4) | (replace a4 := e2)
  first | (replace a5 := (n2 _ (by omega)).trans a5) | (replace a5 := e2)
  first | (replace a6 := (n2 _ (by omega)).trans a6) | (replace a6 := e2)
  first | (replace a7 := (n2 _ (by omega)).trans a7) | (replace a7 := e2)
  first | (replace a8 := (n2 _ (by omega)).trans a8) | (replace a8 := e2)
  replace hfr := fun q hq => (n2 q (by omega)).trans (hfr q hq)
  refine x_iconst D_4_setWindow_5 ?_
  refine x_ireturn D_4_setWindow_6 rfl (by first | rfl | exact nb_bi _ | decide +kernel) rfl ?_
  exact ⟨rfl, ⟨a0, a1, a2, a3, a4, a5, a6, a7, a8⟩, hfr⟩
abbrev TQ2 (t : Nat) (h0 : Hp) (c : Prop) [Decidable c] (T T' : TT) : Option Value → Hp → Prop := fun r h' => r = some (vi (bi c)) ∧ TabAt h' t (if c then T' else T) ∧ ∀ q : Nat, (q < t ∨ t + 8 < q) → h' q = h0 q
theorem TQ2.t {t : Nat} {h0 h' : Hp} {c : Prop} [Decidable c] {T T' : TT} (hc : c) (hT : TabAt h' t T') (hf : ∀ q : Nat, (q < t ∨ t + 8 < q) → h' q = h0 q) : TQ2 t h0 c T T' (some (vi 1)) h' := ⟨by rw [bi_t hc], by rw [if_pos hc]; exact hT, hf⟩
theorem TQ2.f {t : Nat} {h0 h' : Hp} {c : Prop} [Decidable c] {T T' : TT} (hc : ¬ c) (hT : TabAt h' t T) (hf : ∀ q : Nat, (q < t ∨ t + 8 < q) → h' q = h0 q) : TQ2 t h0 c T T' (some (vi 0)) h' := ⟨by rw [bi_f hc], by rw [if_neg hc]; exact hT, hf⟩
theorem c_4_addPerson {d : Nat} (hd : 0 ≤ d) {z : Nat × Nat} {h : Hp} {t : Nat} {T : TT} {v : Int} (hT : TabAt h t T) (hk : TabOk T) (hv : B3 v) : Ct d m_4_addPerson [.ref t, vi v] z z h (TQ2 t h (okP T v) T (addP T v)) := by
  refine Ct.of (by decide) ⟨Nat.le_refl _, Nat.le_refl _⟩ (Nat.le_of_ble_eq_true rfl) ?_
  obtain ⟨a0, a1, a2, a3, a4, a5, a6, a7, a8⟩ := hT
  have k0 := hk.1
  have hfr : ∀ q : Nat, (q < t ∨ t + 8 < q) → h q = h q := fun _ _ => rfl
  refine x_aload_n D_4_addPerson_0 rfl ?_
  refine x_getfield D_4_addPerson_1 f_4_36 (by assumption) rfl ?_
  refine x_iconst D_4_addPerson_4 ?_
  refine x_icmp_ge D_4_addPerson_5 ⟨by omega, by omega⟩ ⟨by omega, by omega⟩ (fun c5 => ?_) (fun c5 => ?_)
  · refine x_iconst D_4_addPerson_19 ?_
    refine x_ireturn D_4_addPerson_20 rfl (by first | rfl | exact nb_bi _ | decide +kernel) rfl ?_
    exact TQ2.f (fun e => by have := e.1; have := e.2; omega) ⟨a0, a1, a2, a3, a4, a5, a6, a7, a8⟩ hfr
  refine x_iload_n D_4_addPerson_8 rfl ?_
  refine x_iconst D_4_addPerson_9 ?_
  refine x_icmp_lt D_4_addPerson_10 hv ⟨by omega, by omega⟩ (fun c10 => ?_) (fun c10 => ?_)
  · refine x_iconst D_4_addPerson_19 ?_
    refine x_ireturn D_4_addPerson_20 rfl (by first | rfl | exact nb_bi _ | decide +kernel) rfl ?_
    exact TQ2.f (fun e => by have := e.1; have := e.2; omega) ⟨a0, a1, a2, a3, a4, a5, a6, a7, a8⟩ hfr
  refine x_iload_n D_4_addPerson_13 rfl ?_
  refine x_bipush D_4_addPerson_14 (by decide +kernel) ?_
  refine x_icmp_le D_4_addPerson_16 hv ⟨by omega, by omega⟩ (fun c16 => ?_) (fun c16 => ?_)
  · refine x_aload_n D_4_addPerson_21 rfl ?_
    refine x_getfield D_4_addPerson_22 f_4_9 (by assumption) rfl ?_
    refine x_aload_n D_4_addPerson_25 rfl ?_
    refine x_getfield D_4_addPerson_26 f_4_36 (by assumption) rfl ?_
    refine x_iload_n D_4_addPerson_29 rfl ?_
    refine x_iastore D_4_addPerson_30 (by assumption) (by omega) (by omega) rfl (fun h30 e30 n30 => ?_)
    first | (replace a0 := (n30 _ (by omega)).trans a0) | (replace a0 := e30)
    first | (replace a1 := (n30 _ (by omega)).trans a1) | (replace a1 := e30)
    first | (replace a2 := (n30 _ (by omega)).trans a2) | (replace a2 := e30)
    first | (replace a3 := (n30 _ (by omega)).trans a3) | (replace a3 := e30)
    first | (replace a4 := (n30 _ (by omega)).trans a4) | (replace a4 := e30)
    first | (replace a5 := (n30 _ (by omega)).trans a5) | (replace a5 := e30)
    first | (replace a6 := (n30 _ (by omega)).trans a6) | (replace a6 := e30)
    first | (replace a7 := (n30 _ (by omega)).trans a7) | (replace a7 := e30)
    first | (replace a8 := (n30 _ (by omega)).trans a8) | (replace a8 := e30)
    replace hfr := fun q hq => (n30 q (by omega)).trans (hfr q hq)
    refine x_aload_n D_4_addPerson_31 rfl ?_
    refine x_dup D_4_addPerson_32 rfl ?_
    refine x_getfield D_4_addPerson_33 f_4_36 (by assumption) rfl ?_
    refine x_iconst D_4_addPerson_36 ?_
    refine x_iadd D_4_addPerson_37 ?_
    refine x_putI D_4_addPerson_38 f_4_36 (by assumption) (by decide +kernel) rfl (fun h38 e38 n38 => ?_)
    simp only [List.set_cons_zero, List.set_cons_succ] at e38
    first | (replace a0 := (n38 _ (by omega)).trans a0) | (replace a0 := e38)
    first | (replace a1 := (n38 _ (by omega)).trans a1) | (replace a1 := e38)
    first | (replace a2 := (n38 _ (by omega)).trans a2) | (replace a2 := e38)
    first | (replace a3 := (n38 _ (by omega)).trans a3) | (replace a3 := e38)
    first | (replace a4 := (n38 _ (by omega)).trans a4) | (replace a4 := e38)
    first | (replace a5 := (n38 _ (by omega)).trans a5) | (replace a5 := e38)
    first | (replace a6 := (n38 _ (by omega)).trans a6) | (replace a6 := e38)
    first | (replace a7 := (n38 _ (by omega)).trans a7) | (replace a7 := e38)
    first | (replace a8 := (n38 _ (by omega)).trans a8) | (replace a8 := e38)
    replace hfr := fun q hq => (n38 q (by omega)).trans (hfr q hq)
    refine x_iconst D_4_addPerson_41 ?_
    refine x_ireturn D_4_addPerson_42 rfl (by first | rfl | exact nb_bi _ | decide +kernel) rfl ?_
    refine TQ2.t ⟨by omega, by omega, by omega⟩ ?_ hfr
    refine ⟨a0, ?_, a2, a3, a4, a5, a6, a7, a8⟩
    rw [a1]
    exact congrArg some (ia_ext fun j _ _ => by simp [addP, up2, ups])
  refine x_iconst D_4_addPerson_19 ?_
  refine x_ireturn D_4_addPerson_20 rfl (by first | rfl | exact nb_bi _ | decide +kernel) rfl ?_
  exact TQ2.f (fun e => by have := e.1; have := e.2; omega) ⟨a0, a1, a2, a3, a4, a5, a6, a7, a8⟩ hfr
theorem c_4_addGrain {d : Nat} (hd : 0 ≤ d) {z : Nat × Nat} {h : Hp} {t : Nat} {T : TT} {v : Int} (hT : TabAt h t T) (hk : TabOk T) (hv : B3 v) : Ct d m_4_addGrain [.ref t, vi v] z z h (TQ2 t h (okG T v) T (addG T v)) := by
  refine Ct.of (by decide) ⟨Nat.le_refl _, Nat.le_refl _⟩ (Nat.le_of_ble_eq_true rfl) ?_
  obtain ⟨a0, a1, a2, a3, a4, a5, a6, a7, a8⟩ := hT
  have k0 := hk.2.1
  have hfr : ∀ q : Nat, (q < t ∨ t + 8 < q) → h q = h q := fun _ _ => rfl
  refine x_aload_n D_4_addGrain_0 rfl ?_
  refine x_getfield D_4_addGrain_1 f_4_40 (by assumption) rfl ?_
  refine x_bipush D_4_addGrain_4 (by decide +kernel) ?_
  refine x_icmp_ge D_4_addGrain_6 ⟨by omega, by omega⟩ ⟨by omega, by omega⟩ (fun c6 => ?_) (fun c6 => ?_)
  · refine x_iconst D_4_addGrain_20 ?_
    refine x_ireturn D_4_addGrain_21 rfl (by first | rfl | exact nb_bi _ | decide +kernel) rfl ?_
    exact TQ2.f (fun e => by have := e.1; have := e.2; omega) ⟨a0, a1, a2, a3, a4, a5, a6, a7, a8⟩ hfr
  refine x_iload_n D_4_addGrain_9 rfl ?_
  refine x_iconst D_4_addGrain_10 ?_
  refine x_icmp_lt D_4_addGrain_11 hv ⟨by omega, by omega⟩ (fun c11 => ?_) (fun c11 => ?_)
  · refine x_iconst D_4_addGrain_20 ?_
    refine x_ireturn D_4_addGrain_21 rfl (by first | rfl | exact nb_bi _ | decide +kernel) rfl ?_
    exact TQ2.f (fun e => by have := e.1; have := e.2; omega) ⟨a0, a1, a2, a3, a4, a5, a6, a7, a8⟩ hfr
  refine x_iload_n D_4_addGrain_14 rfl ?_
  refine x_bipush D_4_addGrain_15 (by decide +kernel) ?_
  refine x_icmp_le D_4_addGrain_17 hv ⟨by omega, by omega⟩ (fun c17 => ?_) (fun c17 => ?_)
  · refine x_aload_n D_4_addGrain_22 rfl ?_
    refine x_getfield D_4_addGrain_23 f_4_15 (by assumption) rfl ?_
    refine x_aload_n D_4_addGrain_26 rfl ?_
    refine x_getfield D_4_addGrain_27 f_4_40 (by assumption) rfl ?_
    refine x_iload_n D_4_addGrain_30 rfl ?_
    refine x_iastore D_4_addGrain_31 (by assumption) (by omega) (by omega) rfl (fun h31 e31 n31 => ?_)
    first | (replace a0 := (n31 _ (by omega)).trans a0) | (replace a0 := e31)
    first | (replace a1 := (n31 _ (by omega)).trans a1) | (replace a1 := e31)
    first | (replace a2 := (n31 _ (by omega)).trans a2) | (replace a2 := e31)
    first | (replace a3 := (n31 _ (by omega)).trans a3) | (replace a3 := e31)
    first | (replace a4 := (n31 _ (by omega)).trans a4) | (replace a4 := e31)
    first | (replace a5 := (n31 _ (by omega)).trans a5) | (replace a5 := e31)
    first | (replace a6 := (n31 _ (by omega)).trans a6) | (replace a6 := e31)
    first | (replace a7 := (n31 _ (by omega)).trans a7) | (replace a7 := e31)
    first | (replace a8 := (n31 _ (by omega)).trans a8) | (replace a8 := e31)
    replace hfr := fun q hq => (n31 q (by omega)).trans (hfr q hq)
    refine x_aload_n D_4_addGrain_32 rfl ?_
    refine x_dup D_4_addGrain_33 rfl ?_
    refine x_getfield D_4_addGrain_34 f_4_40 (by assumption) rfl ?_
    refine x_iconst D_4_addGrain_37 ?_
    refine x_iadd D_4_addGrain_38 ?_
    refine x_putI D_4_addGrain_39 f_4_40 (by assumption) (by decide +kernel) rfl (fun h39 e39 n39 => ?_)
    simp only [List.set_cons_zero, List.set_cons_succ] at e39
    first | (replace a0 := (n39 _ (by omega)).trans a0) | (replace a0 := e39)
    first | (replace a1 := (n39 _ (by omega)).trans a1) | (replace a1 := e39)
    first | (replace a2 := (n39 _ (by omega)).trans a2) | (replace a2 := e39)
    first | (replace a3 := (n39 _ (by omega)).trans a3) | (replace a3 := e39)
    first | (replace a4 := (n39 _ (by omega)).trans a4) | (replace a4 := e39)
    first | (replace a5 := (n39 _ (by omega)).trans a5) | (replace a5 := e39)
    first | (replace a6 := (n39 _ (by omega)).trans a6) | (replace a6 := e39)
    first | (replace a7 := (n39 _ (by omega)).trans a7) | (replace a7 := e39)
    first | (replace a8 := (n39 _ (by omega)).trans a8) | (replace a8 := e39)
    replace hfr := fun q hq => (n39 q (by omega)).trans (hfr q hq)
    refine x_iconst D_4_addGrain_42 ?_
    refine x_ireturn D_4_addGrain_43 rfl (by first | rfl | exact nb_bi _ | decide +kernel) rfl ?_
    refine TQ2.t ⟨by omega, by omega, by omega⟩ ?_ hfr
    refine ⟨a0, a1, ?_, a3, a4, a5, a6, a7, a8⟩
    rw [a2]
    exact congrArg some (ia_ext fun j _ _ => by simp [addG, up2, ups])
  refine x_iconst D_4_addGrain_20 ?_
  refine x_ireturn D_4_addGrain_21 rfl (by first | rfl | exact nb_bi _ | decide +kernel) rfl ?_
  exact TQ2.f (fun e => by have := e.1; have := e.2; omega) ⟨a0, a1, a2, a3, a4, a5, a6, a7, a8⟩ hfr
theorem c_4_addDish {d : Nat} (hd : 0 ≤ d) {z : Nat × Nat} {h : Hp} {t : Nat} {T : TT} {a b : Int} (hT : TabAt h t T) (hk : TabOk T) (ha : 0 ≤ a ∧ a ≤ 99) (hb : 0 ≤ b ∧ b ≤ 99) : Ct d m_4_addDish [.ref t, vi a, vi b] z z h (TQ2 t h (okDi T a b) T (addDi T a b)) := by
  refine Ct.of (by decide) ⟨Nat.le_refl _, Nat.le_refl _⟩ (Nat.le_of_ble_eq_true rfl) ?_
  obtain ⟨a0, a1, a2, a3, a4, a5, a6, a7, a8⟩ := hT
  have k0 := hk.1
  have k9 := hk.2.2.2.1
  have hfr : ∀ q : Nat, (q < t ∨ t + 8 < q) → h q = h q := fun _ _ => rfl
  refine x_aload_n D_4_addDish_0 rfl ?_
  refine x_getfield D_4_addDish_1 f_4_46 (by assumption) rfl ?_
  refine x_iconst D_4_addDish_4 ?_
  refine x_icmp_ge D_4_addDish_5 ⟨by omega, by omega⟩ ⟨by omega, by omega⟩ (fun c5 => ?_) (fun c5 => ?_)
  · refine x_iconst D_4_addDish_22 ?_
    refine x_ireturn D_4_addDish_23 rfl (by first | rfl | exact nb_bi _ | decide +kernel) rfl ?_
    exact TQ2.f (fun e => by have := e.1; have := e.2; omega) ⟨a0, a1, a2, a3, a4, a5, a6, a7, a8⟩ hfr
  refine x_iload_n D_4_addDish_8 rfl ?_
  refine x_aload_n D_4_addDish_9 rfl ?_
  refine x_getfield D_4_addDish_10 f_4_36 (by assumption) rfl ?_
  refine x_icmp_ge D_4_addDish_13 ⟨by omega, by omega⟩ ⟨by omega, by omega⟩ (fun c13 => ?_) (fun c13 => ?_)
  · refine x_iconst D_4_addDish_22 ?_
    refine x_ireturn D_4_addDish_23 rfl (by first | rfl | exact nb_bi _ | decide +kernel) rfl ?_
    exact TQ2.f (fun e => by have := e.1; have := e.2; omega) ⟨a0, a1, a2, a3, a4, a5, a6, a7, a8⟩ hfr
  refine x_iload_n D_4_addDish_16 rfl ?_
  refine x_bipush D_4_addDish_17 (by decide +kernel) ?_
  refine x_icmp_le D_4_addDish_19 ⟨by omega, by omega⟩ ⟨by omega, by omega⟩ (fun c19 => ?_) (fun c19 => ?_)
  · refine x_aload_n D_4_addDish_24 rfl ?_
    refine x_getfield D_4_addDish_25 f_4_30 (by assumption) rfl ?_
    refine x_aload_n D_4_addDish_28 rfl ?_
    refine x_getfield D_4_addDish_29 f_4_46 (by assumption) rfl ?_
    refine x_iload_n D_4_addDish_32 rfl ?_
    refine x_iastore D_4_addDish_33 (by assumption) (by omega) (by omega) rfl (fun h33 e33 n33 => ?_)
    first | (replace a0 := (n33 _ (by omega)).trans a0) | (replace a0 := e33)
    first | (replace a1 := (n33 _ (by omega)).trans a1) | (replace a1 := e33)
    first | (replace a2 := (n33 _ (by omega)).trans a2) | (replace a2 := e33)
    first | (replace a3 := (n33 _ (by omega)).trans a3) | (replace a3 := e33)
    first | (replace a4 := (n33 _ (by omega)).trans a4) | (replace a4 := e33)
    first | (replace a5 := (n33 _ (by omega)).trans a5) | (replace a5 := e33)
    first | (replace a6 := (n33 _ (by omega)).trans a6) | (replace a6 := e33)
    first | (replace a7 := (n33 _ (by omega)).trans a7) | (replace a7 := e33)
    first | (replace a8 := (n33 _ (by omega)).trans a8) | (replace a8 := e33)
    replace hfr := fun q hq => (n33 q (by omega)).trans (hfr q hq)
    refine x_aload_n D_4_addDish_34 rfl ?_
    refine x_getfield D_4_addDish_35 f_4_33 (by assumption) rfl ?_
    refine x_aload_n D_4_addDish_38 rfl ?_
    refine x_getfield D_4_addDish_39 f_4_46 (by assumption) rfl ?_
    refine x_iload_n D_4_addDish_42 rfl ?_
    refine x_iconst D_4_addDish_43 ?_
    refine x_isub D_4_addDish_44 ?_
    refine x_iastore D_4_addDish_45 (by assumption) (by omega) (by omega) rfl (fun h45 e45 n45 => ?_)
    first | (replace a0 := (n45 _ (by omega)).trans a0) | (replace a0 := e45)
    first | (replace a1 := (n45 _ (by omega)).trans a1) | (replace a1 := e45)
    first | (replace a2 := (n45 _ (by omega)).trans a2) | (replace a2 := e45)
    first | (replace a3 := (n45 _ (by omega)).trans a3) | (replace a3 := e45)
    first | (replace a4 := (n45 _ (by omega)).trans a4) | (replace a4 := e45)
    first | (replace a5 := (n45 _ (by omega)).trans a5) | (replace a5 := e45)
    first | (replace a6 := (n45 _ (by omega)).trans a6) | (replace a6 := e45)
    first | (replace a7 := (n45 _ (by omega)).trans a7) | (replace a7 := e45)
    first | (replace a8 := (n45 _ (by omega)).trans a8) | (replace a8 := e45)
    replace hfr := fun q hq => (n45 q (by omega)).trans (hfr q hq)
    refine x_aload_n D_4_addDish_46 rfl ?_
    refine x_dup D_4_addDish_47 rfl ?_
    refine x_getfield D_4_addDish_48 f_4_46 (by assumption) rfl ?_
    refine x_iconst D_4_addDish_51 ?_
    refine x_iadd D_4_addDish_52 ?_
    refine x_putI D_4_addDish_53 f_4_46 (by assumption) (by decide +kernel) rfl (fun h53 e53 n53 => ?_)
    simp only [List.set_cons_zero, List.set_cons_succ] at e53
    first | (replace a0 := (n53 _ (by omega)).trans a0) | (replace a0 := e53)
    first | (replace a1 := (n53 _ (by omega)).trans a1) | (replace a1 := e53)
    first | (replace a2 := (n53 _ (by omega)).trans a2) | (replace a2 := e53)
    first | (replace a3 := (n53 _ (by omega)).trans a3) | (replace a3 := e53)
    first | (replace a4 := (n53 _ (by omega)).trans a4) | (replace a4 := e53)
    first | (replace a5 := (n53 _ (by omega)).trans a5) | (replace a5 := e53)
    first | (replace a6 := (n53 _ (by omega)).trans a6) | (replace a6 := e53)
    first | (replace a7 := (n53 _ (by omega)).trans a7) | (replace a7 := e53)
    first | (replace a8 := (n53 _ (by omega)).trans a8) | (replace a8 := e53)
    replace hfr := fun q hq => (n53 q (by omega)).trans (hfr q hq)
    refine x_iconst D_4_addDish_56 ?_
    refine x_ireturn D_4_addDish_57 rfl (by first | rfl | exact nb_bi _ | decide +kernel) rfl ?_
    refine TQ2.t ⟨by omega, by omega, by omega⟩ ?_ hfr
    refine ⟨a0, a1, a2, a3, a4, a5, a6, ?_, ?_⟩
    · rw [a7]
      exact congrArg some (ia_ext fun j _ _ => by simp [addDi, up2, ups])
    · rw [a8]
      exact congrArg some (ia_ext fun j _ _ => by simp [addDi, up2, ups])
  refine x_iconst D_4_addDish_22 ?_
  refine x_ireturn D_4_addDish_23 rfl (by first | rfl | exact nb_bi _ | decide +kernel) rfl ?_
  exact TQ2.f (fun e => by have := e.1; have := e.2; omega) ⟨a0, a1, a2, a3, a4, a5, a6, a7, a8⟩ hfr
theorem c_4_addSaying {d : Nat} (hd : 0 ≤ d) {z : Nat × Nat} {h : Hp} {t : Nat} {T : TT} {a b c k : Int} (hT : TabAt h t T) (hk : TabOk T) (ha : 0 ≤ a ∧ a ≤ 99) (hb : 0 ≤ b ∧ b ≤ 99) (hc : 0 ≤ c ∧ c ≤ 99) (hkk : 0 ≤ k ∧ k ≤ 99) : Ct d m_4_addSaying [.ref t, vi a, vi b, vi c, vi k] z z h (TQ2 t h (okW T a b c k) T (addW T a b c k)) := by
  refine Ct.of (by decide) ⟨Nat.le_refl _, Nat.le_refl _⟩ (Nat.le_of_ble_eq_true rfl) ?_
  obtain ⟨a0, a1, a2, a3, a4, a5, a6, a7, a8⟩ := hT
  have k0 := hk.1
  have k4 := hk.2.2.1
  have k5 := hk.2.2.2.2.2.2.2.1
  have hfr : ∀ q : Nat, (q < t ∨ t + 8 < q) → h q = h q := fun _ _ => rfl
  refine x_aload_n D_4_addSaying_0 rfl ?_
  refine x_getfield D_4_addSaying_1 f_4_43 (by assumption) rfl ?_
  refine x_bipush D_4_addSaying_4 (by decide +kernel) ?_
  refine x_icmp_ge D_4_addSaying_6 ⟨by omega, by omega⟩ ⟨by omega, by omega⟩ (fun c6 => ?_) (fun c6 => ?_)
  · refine x_iconst D_4_addSaying_28 ?_
    refine x_ireturn D_4_addSaying_29 rfl (by first | rfl | exact nb_bi _ | decide +kernel) rfl ?_
    exact TQ2.f (fun e => by have := e.1; have := e.2.1; have := e.2.2.1; have := e.2.2.2.1; omega) ⟨a0, a1, a2, a3, a4, a5, a6, a7, a8⟩ hfr
  refine x_iload_n D_4_addSaying_9 rfl ?_
  refine x_aload_n D_4_addSaying_10 rfl ?_
  refine x_getfield D_4_addSaying_11 f_4_36 (by assumption) rfl ?_
  refine x_icmp_ge D_4_addSaying_14 ⟨by omega, by omega⟩ ⟨by omega, by omega⟩ (fun c14 => ?_) (fun c14 => ?_)
  · refine x_iconst D_4_addSaying_28 ?_
    refine x_ireturn D_4_addSaying_29 rfl (by first | rfl | exact nb_bi _ | decide +kernel) rfl ?_
    exact TQ2.f (fun e => by have := e.1; have := e.2.1; have := e.2.2.1; have := e.2.2.2.1; omega) ⟨a0, a1, a2, a3, a4, a5, a6, a7, a8⟩ hfr
  refine x_iload_n D_4_addSaying_17 rfl ?_
  refine x_iconst D_4_addSaying_18 ?_
  refine x_icmp_lt D_4_addSaying_19 ⟨by omega, by omega⟩ ⟨by omega, by omega⟩ (fun c19 => ?_) (fun c19 => ?_)
  · refine x_iconst D_4_addSaying_28 ?_
    refine x_ireturn D_4_addSaying_29 rfl (by first | rfl | exact nb_bi _ | decide +kernel) rfl ?_
    exact TQ2.f (fun e => by have := e.1; have := e.2.1; have := e.2.2.1; have := e.2.2.2.1; omega) ⟨a0, a1, a2, a3, a4, a5, a6, a7, a8⟩ hfr
  refine x_iload_n D_4_addSaying_22 rfl ?_
  refine x_bipush D_4_addSaying_23 (by decide +kernel) ?_
  refine x_icmp_le D_4_addSaying_25 ⟨by omega, by omega⟩ ⟨by omega, by omega⟩ (fun c25 => ?_) (fun c25 => ?_)
  · refine x_iload D_4_addSaying_30 rfl ?_
    refine x_bipush D_4_addSaying_32 (by decide +kernel) ?_
    refine x_icmp_eq D_4_addSaying_34 ⟨by omega, by omega⟩ ⟨by omega, by omega⟩ (fun c34 => ?_) (fun c34 => ?_)
    · refine x_aload_n D_4_addSaying_59 rfl ?_
      refine x_getfield D_4_addSaying_60 f_4_18 (by assumption) rfl ?_
      refine x_aload_n D_4_addSaying_63 rfl ?_
      refine x_getfield D_4_addSaying_64 f_4_43 (by assumption) rfl ?_
      refine x_iload_n D_4_addSaying_67 rfl ?_
      refine x_iastore D_4_addSaying_68 (by assumption) (by omega) (by omega) rfl (fun h68 e68 n68 => ?_)
      first | (replace a0 := (n68 _ (by omega)).trans a0) | (replace a0 := e68)
      first | (replace a1 := (n68 _ (by omega)).trans a1) | (replace a1 := e68)
      first | (replace a2 := (n68 _ (by omega)).trans a2) | (replace a2 := e68)
      first | (replace a3 := (n68 _ (by omega)).trans a3) | (replace a3 := e68)
      first | (replace a4 := (n68 _ (by omega)).trans a4) | (replace a4 := e68)
      first | (replace a5 := (n68 _ (by omega)).trans a5) | (replace a5 := e68)
      first | (replace a6 := (n68 _ (by omega)).trans a6) | (replace a6 := e68)
      first | (replace a7 := (n68 _ (by omega)).trans a7) | (replace a7 := e68)
      first | (replace a8 := (n68 _ (by omega)).trans a8) | (replace a8 := e68)
      replace hfr := fun q hq => (n68 q (by omega)).trans (hfr q hq)
      refine x_aload_n D_4_addSaying_69 rfl ?_
      refine x_getfield D_4_addSaying_70 f_4_21 (by assumption) rfl ?_
      refine x_aload_n D_4_addSaying_73 rfl ?_
      refine x_getfield D_4_addSaying_74 f_4_43 (by assumption) rfl ?_
      refine x_iload_n D_4_addSaying_77 rfl ?_
      refine x_iastore D_4_addSaying_78 (by assumption) (by omega) (by omega) rfl (fun h78 e78 n78 => ?_)
      first | (replace a0 := (n78 _ (by omega)).trans a0) | (replace a0 := e78)
      first | (replace a1 := (n78 _ (by omega)).trans a1) | (replace a1 := e78)
      first | (replace a2 := (n78 _ (by omega)).trans a2) | (replace a2 := e78)
      first | (replace a3 := (n78 _ (by omega)).trans a3) | (replace a3 := e78)
      first | (replace a4 := (n78 _ (by omega)).trans a4) | (replace a4 := e78)
      first | (replace a5 := (n78 _ (by omega)).trans a5) | (replace a5 := e78)
      first | (replace a6 := (n78 _ (by omega)).trans a6) | (replace a6 := e78)
      first | (replace a7 := (n78 _ (by omega)).trans a7) | (replace a7 := e78)
      first | (replace a8 := (n78 _ (by omega)).trans a8) | (replace a8 := e78)
      replace hfr := fun q hq => (n78 q (by omega)).trans (hfr q hq)
      refine x_aload_n D_4_addSaying_79 rfl ?_
      refine x_getfield D_4_addSaying_80 f_4_24 (by assumption) rfl ?_
      refine x_aload_n D_4_addSaying_83 rfl ?_
      refine x_getfield D_4_addSaying_84 f_4_43 (by assumption) rfl ?_
      refine x_iload_n D_4_addSaying_87 rfl ?_
      refine x_iastore D_4_addSaying_88 (by assumption) (by omega) (by omega) rfl (fun h88 e88 n88 => ?_)
      first | (replace a0 := (n88 _ (by omega)).trans a0) | (replace a0 := e88)
      first | (replace a1 := (n88 _ (by omega)).trans a1) | (replace a1 := e88)
      first | (replace a2 := (n88 _ (by omega)).trans a2) | (replace a2 := e88)
      first | (replace a3 := (n88 _ (by omega)).trans a3) | (replace a3 := e88)
      first | (replace a4 := (n88 _ (by omega)).trans a4) | (replace a4 := e88)
      first | (replace a5 := (n88 _ (by omega)).trans a5) | (replace a5 := e88)
      first | (replace a6 := (n88 _ (by omega)).trans a6) | (replace a6 := e88)
      first | (replace a7 := (n88 _ (by omega)).trans a7) | (replace a7 := e88)
      first | (replace a8 := (n88 _ (by omega)).trans a8) | (replace a8 := e88)
      replace hfr := fun q hq => (n88 q (by omega)).trans (hfr q hq)
      refine x_aload_n D_4_addSaying_89 rfl ?_
      refine x_getfield D_4_addSaying_90 f_4_27 (by assumption) rfl ?_
      refine x_aload_n D_4_addSaying_93 rfl ?_
      refine x_getfield D_4_addSaying_94 f_4_43 (by assumption) rfl ?_
      refine x_iload D_4_addSaying_97 rfl ?_
      refine x_bipush D_4_addSaying_99 (by decide +kernel) ?_
      refine x_icmp_ne D_4_addSaying_101 ⟨by omega, by omega⟩ ⟨by omega, by omega⟩ (fun c101 => ?_) (fun c101 => ?_)
      · refine x_iload D_4_addSaying_109 rfl ?_
        refine x_iastore D_4_addSaying_111 (by assumption) (by omega) (by omega) rfl (fun h111 e111 n111 => ?_)
        first | (replace a0 := (n111 _ (by omega)).trans a0) | (replace a0 := e111)
        first | (replace a1 := (n111 _ (by omega)).trans a1) | (replace a1 := e111)
        first | (replace a2 := (n111 _ (by omega)).trans a2) | (replace a2 := e111)
        first | (replace a3 := (n111 _ (by omega)).trans a3) | (replace a3 := e111)
        first | (replace a4 := (n111 _ (by omega)).trans a4) | (replace a4 := e111)
        first | (replace a5 := (n111 _ (by omega)).trans a5) | (replace a5 := e111)
        first | (replace a6 := (n111 _ (by omega)).trans a6) | (replace a6 := e111)
        first | (replace a7 := (n111 _ (by omega)).trans a7) | (replace a7 := e111)
        first | (replace a8 := (n111 _ (by omega)).trans a8) | (replace a8 := e111)
        replace hfr := fun q hq => (n111 q (by omega)).trans (hfr q hq)
        refine x_aload_n D_4_addSaying_112 rfl ?_
        refine x_dup D_4_addSaying_113 rfl ?_
        refine x_getfield D_4_addSaying_114 f_4_43 (by assumption) rfl ?_
        refine x_iconst D_4_addSaying_117 ?_
        refine x_iadd D_4_addSaying_118 ?_
        refine x_putI D_4_addSaying_119 f_4_43 (by assumption) (by decide +kernel) rfl (fun h119 e119 n119 => ?_)
        simp only [List.set_cons_zero, List.set_cons_succ] at e119
        first | (replace a0 := (n119 _ (by omega)).trans a0) | (replace a0 := e119)
        first | (replace a1 := (n119 _ (by omega)).trans a1) | (replace a1 := e119)
        first | (replace a2 := (n119 _ (by omega)).trans a2) | (replace a2 := e119)
        first | (replace a3 := (n119 _ (by omega)).trans a3) | (replace a3 := e119)
        first | (replace a4 := (n119 _ (by omega)).trans a4) | (replace a4 := e119)
        first | (replace a5 := (n119 _ (by omega)).trans a5) | (replace a5 := e119)
        first | (replace a6 := (n119 _ (by omega)).trans a6) | (replace a6 := e119)
        first | (replace a7 := (n119 _ (by omega)).trans a7) | (replace a7 := e119)
        first | (replace a8 := (n119 _ (by omega)).trans a8) | (replace a8 := e119)
        replace hfr := fun q hq => (n119 q (by omega)).trans (hfr q hq)
        refine x_iconst D_4_addSaying_122 ?_
        refine x_ireturn D_4_addSaying_123 rfl (by first | rfl | exact nb_bi _ | decide +kernel) rfl ?_
        first
        | (exfalso; omega)
        | (refine TQ2.t ⟨by omega, by omega, by omega, by omega, by first | exact Or.inl (by omega) | exact Or.inr ⟨by omega, by omega⟩⟩ ⟨a0, a1, a2, ?_, ?_, ?_, ?_, a7, a8⟩ hfr <;> first | (rw [a3]; exact congrArg some (ia_ext fun j _ _ => by simp [addW, up2, ups])) | (rw [a4]; exact congrArg some (ia_ext fun j _ _ => by simp [addW, up2, ups])) | (rw [a5]; exact congrArg some (ia_ext fun j _ _ => by simp [addW, up2, ups])) | (rw [a6]; exact congrArg some (ia_ext fun j _ _ => by simp [addW, up2, ups, c101])))
      refine x_bipush D_4_addSaying_104 (by decide +kernel) ?_
      refine x_goto D_4_addSaying_106 ?_
      refine x_iastore D_4_addSaying_111 (by assumption) (by omega) (by omega) rfl (fun h111 e111 n111 => ?_)
      first | (replace a0 := (n111 _ (by omega)).trans a0) | (replace a0 := e111)
      first | (replace a1 := (n111 _ (by omega)).trans a1) | (replace a1 := e111)
      first | (replace a2 := (n111 _ (by omega)).trans a2) | (replace a2 := e111)
      first | (replace a3 := (n111 _ (by omega)).trans a3) | (replace a3 := e111)
      first | (replace a4 := (n111 _ (by omega)).trans a4) | (replace a4 := e111)
      first | (replace a5 := (n111 _ (by omega)).trans a5) | (replace a5 := e111)
      first | (replace a6 := (n111 _ (by omega)).trans a6) | (replace a6 := e111)
      first | (replace a7 := (n111 _ (by omega)).trans a7) | (replace a7 := e111)
      first | (replace a8 := (n111 _ (by omega)).trans a8) | (replace a8 := e111)
      replace hfr := fun q hq => (n111 q (by omega)).trans (hfr q hq)
      refine x_aload_n D_4_addSaying_112 rfl ?_
      refine x_dup D_4_addSaying_113 rfl ?_
      refine x_getfield D_4_addSaying_114 f_4_43 (by assumption) rfl ?_
      refine x_iconst D_4_addSaying_117 ?_
      refine x_iadd D_4_addSaying_118 ?_
      refine x_putI D_4_addSaying_119 f_4_43 (by assumption) (by decide +kernel) rfl (fun h119 e119 n119 => ?_)
      simp only [List.set_cons_zero, List.set_cons_succ] at e119
      first | (replace a0 := (n119 _ (by omega)).trans a0) | (replace a0 := e119)
      first | (replace a1 := (n119 _ (by omega)).trans a1) | (replace a1 := e119)
      first | (replace a2 := (n119 _ (by omega)).trans a2) | (replace a2 := e119)
      first | (replace a3 := (n119 _ (by omega)).trans a3) | (replace a3 := e119)
      first | (replace a4 := (n119 _ (by omega)).trans a4) | (replace a4 := e119)
      first | (replace a5 := (n119 _ (by omega)).trans a5) | (replace a5 := e119)
      first | (replace a6 := (n119 _ (by omega)).trans a6) | (replace a6 := e119)
      first | (replace a7 := (n119 _ (by omega)).trans a7) | (replace a7 := e119)
      first | (replace a8 := (n119 _ (by omega)).trans a8) | (replace a8 := e119)
      replace hfr := fun q hq => (n119 q (by omega)).trans (hfr q hq)
      refine x_iconst D_4_addSaying_122 ?_
      refine x_ireturn D_4_addSaying_123 rfl (by first | rfl | exact nb_bi _ | decide +kernel) rfl ?_
      first
      | (exfalso; omega)
      | (refine TQ2.t ⟨by omega, by omega, by omega, by omega, by first | exact Or.inl (by omega) | exact Or.inr ⟨by omega, by omega⟩⟩ ⟨a0, a1, a2, ?_, ?_, ?_, ?_, a7, a8⟩ hfr <;> first | (rw [a3]; exact congrArg some (ia_ext fun j _ _ => by simp [addW, up2, ups])) | (rw [a4]; exact congrArg some (ia_ext fun j _ _ => by simp [addW, up2, ups])) | (rw [a5]; exact congrArg some (ia_ext fun j _ _ => by simp [addW, up2, ups])) | (rw [a6]; exact congrArg some (ia_ext fun j _ _ => by simp [addW, up2, ups, c101])))
    refine x_iload D_4_addSaying_37 rfl ?_
    refine x_aload_n D_4_addSaying_39 rfl ?_
    refine x_getfield D_4_addSaying_40 f_4_43 (by assumption) rfl ?_
    refine x_icmp_ge D_4_addSaying_43 ⟨by omega, by omega⟩ ⟨by omega, by omega⟩ (fun c43 => ?_) (fun c43 => ?_)
    · refine x_iconst D_4_addSaying_57 ?_
      refine x_ireturn D_4_addSaying_58 rfl (by first | rfl | exact nb_bi _ | decide +kernel) rfl ?_
      exact TQ2.f (fun e => by rcases e.2.2.2.2 with e | e <;> first | omega | exact absurd (by omega) e.2) ⟨a0, a1, a2, a3, a4, a5, a6, a7, a8⟩ hfr
    refine x_aload_n D_4_addSaying_46 rfl ?_
    refine x_getfield D_4_addSaying_47 f_4_18 (by assumption) rfl ?_
    refine x_iload D_4_addSaying_50 rfl ?_
    have hsp := (k5 k (by omega) (by omega)).1
    refine x_iaload D_4_addSaying_52 (by assumption) (by omega) (by omega) rfl ?_
    refine x_iload_n D_4_addSaying_53 rfl ?_
    refine x_icmp_ne D_4_addSaying_54 ⟨by omega, by omega⟩ ⟨by omega, by omega⟩ (fun c54 => ?_) (fun c54 => ?_)
    · refine x_aload_n D_4_addSaying_59 rfl ?_
      refine x_getfield D_4_addSaying_60 f_4_18 (by assumption) rfl ?_
      refine x_aload_n D_4_addSaying_63 rfl ?_
      refine x_getfield D_4_addSaying_64 f_4_43 (by assumption) rfl ?_
      refine x_iload_n D_4_addSaying_67 rfl ?_
      refine x_iastore D_4_addSaying_68 (by assumption) (by omega) (by omega) rfl (fun h68 e68 n68 => ?_)
      first | (replace a0 := (n68 _ (by omega)).trans a0) | (replace a0 := e68)
      first | (replace a1 := (n68 _ (by omega)).trans a1) | (replace a1 := e68)
      first | (replace a2 := (n68 _ (by omega)).trans a2) | (replace a2 := e68)
      first | (replace a3 := (n68 _ (by omega)).trans a3) | (replace a3 := e68)
      first | (replace a4 := (n68 _ (by omega)).trans a4) | (replace a4 := e68)
      first | (replace a5 := (n68 _ (by omega)).trans a5) | (replace a5 := e68)
      first | (replace a6 := (n68 _ (by omega)).trans a6) | (replace a6 := e68)
      first | (replace a7 := (n68 _ (by omega)).trans a7) | (replace a7 := e68)
      first | (replace a8 := (n68 _ (by omega)).trans a8) | (replace a8 := e68)
      replace hfr := fun q hq => (n68 q (by omega)).trans (hfr q hq)
      refine x_aload_n D_4_addSaying_69 rfl ?_
      refine x_getfield D_4_addSaying_70 f_4_21 (by assumption) rfl ?_
      refine x_aload_n D_4_addSaying_73 rfl ?_
      refine x_getfield D_4_addSaying_74 f_4_43 (by assumption) rfl ?_
      refine x_iload_n D_4_addSaying_77 rfl ?_
      refine x_iastore D_4_addSaying_78 (by assumption) (by omega) (by omega) rfl (fun h78 e78 n78 => ?_)
      first | (replace a0 := (n78 _ (by omega)).trans a0) | (replace a0 := e78)
      first | (replace a1 := (n78 _ (by omega)).trans a1) | (replace a1 := e78)
      first | (replace a2 := (n78 _ (by omega)).trans a2) | (replace a2 := e78)
      first | (replace a3 := (n78 _ (by omega)).trans a3) | (replace a3 := e78)
      first | (replace a4 := (n78 _ (by omega)).trans a4) | (replace a4 := e78)
      first | (replace a5 := (n78 _ (by omega)).trans a5) | (replace a5 := e78)
      first | (replace a6 := (n78 _ (by omega)).trans a6) | (replace a6 := e78)
      first | (replace a7 := (n78 _ (by omega)).trans a7) | (replace a7 := e78)
      first | (replace a8 := (n78 _ (by omega)).trans a8) | (replace a8 := e78)
      replace hfr := fun q hq => (n78 q (by omega)).trans (hfr q hq)
      refine x_aload_n D_4_addSaying_79 rfl ?_
      refine x_getfield D_4_addSaying_80 f_4_24 (by assumption) rfl ?_
      refine x_aload_n D_4_addSaying_83 rfl ?_
      refine x_getfield D_4_addSaying_84 f_4_43 (by assumption) rfl ?_
      refine x_iload_n D_4_addSaying_87 rfl ?_
      refine x_iastore D_4_addSaying_88 (by assumption) (by omega) (by omega) rfl (fun h88 e88 n88 => ?_)
      first | (replace a0 := (n88 _ (by omega)).trans a0) | (replace a0 := e88)
      first | (replace a1 := (n88 _ (by omega)).trans a1) | (replace a1 := e88)
      first | (replace a2 := (n88 _ (by omega)).trans a2) | (replace a2 := e88)
      first | (replace a3 := (n88 _ (by omega)).trans a3) | (replace a3 := e88)
      first | (replace a4 := (n88 _ (by omega)).trans a4) | (replace a4 := e88)
      first | (replace a5 := (n88 _ (by omega)).trans a5) | (replace a5 := e88)
      first | (replace a6 := (n88 _ (by omega)).trans a6) | (replace a6 := e88)
      first | (replace a7 := (n88 _ (by omega)).trans a7) | (replace a7 := e88)
      first | (replace a8 := (n88 _ (by omega)).trans a8) | (replace a8 := e88)
      replace hfr := fun q hq => (n88 q (by omega)).trans (hfr q hq)
      refine x_aload_n D_4_addSaying_89 rfl ?_
      refine x_getfield D_4_addSaying_90 f_4_27 (by assumption) rfl ?_
      refine x_aload_n D_4_addSaying_93 rfl ?_
      refine x_getfield D_4_addSaying_94 f_4_43 (by assumption) rfl ?_
      refine x_iload D_4_addSaying_97 rfl ?_
      refine x_bipush D_4_addSaying_99 (by decide +kernel) ?_
      refine x_icmp_ne D_4_addSaying_101 ⟨by omega, by omega⟩ ⟨by omega, by omega⟩ (fun c101 => ?_) (fun c101 => ?_)
      · refine x_iload D_4_addSaying_109 rfl ?_
        refine x_iastore D_4_addSaying_111 (by assumption) (by omega) (by omega) rfl (fun h111 e111 n111 => ?_)
        first | (replace a0 := (n111 _ (by omega)).trans a0) | (replace a0 := e111)
        first | (replace a1 := (n111 _ (by omega)).trans a1) | (replace a1 := e111)
        first | (replace a2 := (n111 _ (by omega)).trans a2) | (replace a2 := e111)
        first | (replace a3 := (n111 _ (by omega)).trans a3) | (replace a3 := e111)
        first | (replace a4 := (n111 _ (by omega)).trans a4) | (replace a4 := e111)
        first | (replace a5 := (n111 _ (by omega)).trans a5) | (replace a5 := e111)
        first | (replace a6 := (n111 _ (by omega)).trans a6) | (replace a6 := e111)
        first | (replace a7 := (n111 _ (by omega)).trans a7) | (replace a7 := e111)
        first | (replace a8 := (n111 _ (by omega)).trans a8) | (replace a8 := e111)
        replace hfr := fun q hq => (n111 q (by omega)).trans (hfr q hq)
        refine x_aload_n D_4_addSaying_112 rfl ?_
        refine x_dup D_4_addSaying_113 rfl ?_
        refine x_getfield D_4_addSaying_114 f_4_43 (by assumption) rfl ?_
        refine x_iconst D_4_addSaying_117 ?_
        refine x_iadd D_4_addSaying_118 ?_
        refine x_putI D_4_addSaying_119 f_4_43 (by assumption) (by decide +kernel) rfl (fun h119 e119 n119 => ?_)
        simp only [List.set_cons_zero, List.set_cons_succ] at e119
        first | (replace a0 := (n119 _ (by omega)).trans a0) | (replace a0 := e119)
        first | (replace a1 := (n119 _ (by omega)).trans a1) | (replace a1 := e119)
        first | (replace a2 := (n119 _ (by omega)).trans a2) | (replace a2 := e119)
        first | (replace a3 := (n119 _ (by omega)).trans a3) | (replace a3 := e119)
        first | (replace a4 := (n119 _ (by omega)).trans a4) | (replace a4 := e119)
        first | (replace a5 := (n119 _ (by omega)).trans a5) | (replace a5 := e119)
        first | (replace a6 := (n119 _ (by omega)).trans a6) | (replace a6 := e119)
        first | (replace a7 := (n119 _ (by omega)).trans a7) | (replace a7 := e119)
        first | (replace a8 := (n119 _ (by omega)).trans a8) | (replace a8 := e119)
        replace hfr := fun q hq => (n119 q (by omega)).trans (hfr q hq)
        refine x_iconst D_4_addSaying_122 ?_
        refine x_ireturn D_4_addSaying_123 rfl (by first | rfl | exact nb_bi _ | decide +kernel) rfl ?_
        first
        | (exfalso; omega)
        | (refine TQ2.t ⟨by omega, by omega, by omega, by omega, by first | exact Or.inl (by omega) | exact Or.inr ⟨by omega, by omega⟩⟩ ⟨a0, a1, a2, ?_, ?_, ?_, ?_, a7, a8⟩ hfr <;> first | (rw [a3]; exact congrArg some (ia_ext fun j _ _ => by simp [addW, up2, ups])) | (rw [a4]; exact congrArg some (ia_ext fun j _ _ => by simp [addW, up2, ups])) | (rw [a5]; exact congrArg some (ia_ext fun j _ _ => by simp [addW, up2, ups])) | (rw [a6]; exact congrArg some (ia_ext fun j _ _ => by simp [addW, up2, ups, c101])))
      refine x_bipush D_4_addSaying_104 (by decide +kernel) ?_
      refine x_goto D_4_addSaying_106 ?_
      refine x_iastore D_4_addSaying_111 (by assumption) (by omega) (by omega) rfl (fun h111 e111 n111 => ?_)
      first | (replace a0 := (n111 _ (by omega)).trans a0) | (replace a0 := e111)
      first | (replace a1 := (n111 _ (by omega)).trans a1) | (replace a1 := e111)
      first | (replace a2 := (n111 _ (by omega)).trans a2) | (replace a2 := e111)
      first | (replace a3 := (n111 _ (by omega)).trans a3) | (replace a3 := e111)
      first | (replace a4 := (n111 _ (by omega)).trans a4) | (replace a4 := e111)
      first | (replace a5 := (n111 _ (by omega)).trans a5) | (replace a5 := e111)
      first | (replace a6 := (n111 _ (by omega)).trans a6) | (replace a6 := e111)
      first | (replace a7 := (n111 _ (by omega)).trans a7) | (replace a7 := e111)
      first | (replace a8 := (n111 _ (by omega)).trans a8) | (replace a8 := e111)
      replace hfr := fun q hq => (n111 q (by omega)).trans (hfr q hq)
      refine x_aload_n D_4_addSaying_112 rfl ?_
      refine x_dup D_4_addSaying_113 rfl ?_
      refine x_getfield D_4_addSaying_114 f_4_43 (by assumption) rfl ?_
      refine x_iconst D_4_addSaying_117 ?_
      refine x_iadd D_4_addSaying_118 ?_
      refine x_putI D_4_addSaying_119 f_4_43 (by assumption) (by decide +kernel) rfl (fun h119 e119 n119 => ?_)
      simp only [List.set_cons_zero, List.set_cons_succ] at e119
      first | (replace a0 := (n119 _ (by omega)).trans a0) | (replace a0 := e119)
      first | (replace a1 := (n119 _ (by omega)).trans a1) | (replace a1 := e119)
      first | (replace a2 := (n119 _ (by omega)).trans a2) | (replace a2 := e119)
      first | (replace a3 := (n119 _ (by omega)).trans a3) | (replace a3 := e119)
      first | (replace a4 := (n119 _ (by omega)).trans a4) | (replace a4 := e119)
      first | (replace a5 := (n119 _ (by omega)).trans a5) | (replace a5 := e119)
      first | (replace a6 := (n119 _ (by omega)).trans a6) | (replace a6 := e119)
      first | (replace a7 := (n119 _ (by omega)).trans a7) | (replace a7 := e119)
      first | (replace a8 := (n119 _ (by omega)).trans a8) | (replace a8 := e119)
      replace hfr := fun q hq => (n119 q (by omega)).trans (hfr q hq)
      refine x_iconst D_4_addSaying_122 ?_
      refine x_ireturn D_4_addSaying_123 rfl (by first | rfl | exact nb_bi _ | decide +kernel) rfl ?_
      first
      | (exfalso; omega)
      | (refine TQ2.t ⟨by omega, by omega, by omega, by omega, by first | exact Or.inl (by omega) | exact Or.inr ⟨by omega, by omega⟩⟩ ⟨a0, a1, a2, ?_, ?_, ?_, ?_, a7, a8⟩ hfr <;> first | (rw [a3]; exact congrArg some (ia_ext fun j _ _ => by simp [addW, up2, ups])) | (rw [a4]; exact congrArg some (ia_ext fun j _ _ => by simp [addW, up2, ups])) | (rw [a5]; exact congrArg some (ia_ext fun j _ _ => by simp [addW, up2, ups])) | (rw [a6]; exact congrArg some (ia_ext fun j _ _ => by simp [addW, up2, ups, c101])))
    refine x_iconst D_4_addSaying_57 ?_
    refine x_ireturn D_4_addSaying_58 rfl (by first | rfl | exact nb_bi _ | decide +kernel) rfl ?_
    exact TQ2.f (fun e => by rcases e.2.2.2.2 with e | e <;> first | omega | exact absurd (by omega) e.2) ⟨a0, a1, a2, a3, a4, a5, a6, a7, a8⟩ hfr
  refine x_iconst D_4_addSaying_28 ?_
  refine x_ireturn D_4_addSaying_29 rfl (by first | rfl | exact nb_bi _ | decide +kernel) rfl ?_
  exact TQ2.f (fun e => by have := e.1; have := e.2.1; have := e.2.2.1; have := e.2.2.2.1; omega) ⟨a0, a1, a2, a3, a4, a5, a6, a7, a8⟩ hfr
