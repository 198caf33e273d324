def mkE (a0 a1 a2 a3 a4 a5 : Int) (f6 f7 f8 f9 : Int → Int) : TT
  | 0, _ => a0
  | 1, _ => a1
  | 2, _ => a2
  | 3, _ => a3
  | 4, _ => a4
  | 5, _ => a5
  | 6, j => f6 j
  | 7, j => f7 j
  | 8, j => f8 j
  | _, j => f9 j
abbrev EQ1 (e : Nat) (h0 : Hp) (v : Option Value) (E : TT) : Option Value → Hp → Prop := fun r h' => r = v ∧ EvAt h' e E ∧ ∀ q : Nat, (q < e ∨ e + 4 < q) → h' q = h0 q
theorem c_0_aGrainMelts {d : Nat} (hd : 0 ≤ d) {z : Nat × Nat} {h : Hp} {e : Nat} {E : TT} (hE : EvAt h e E) (h0 : B3 (E 0 0)) (h5 : B3 (E 5 0)) : Ct d m_0_aGrainMelts [.ref e] z z h (Pu (bi (E 0 0 < E 5 0)) h) := by
  refine Ct.of (by decide) ⟨Nat.le_refl _, Nat.le_refl _⟩ (Nat.le_of_ble_eq_true rfl) ?_
  obtain ⟨a0, a1, a2, a3, a4⟩ := hE
  refine x_aload_n D_0_aGrainMelts_0 rfl ?_
  refine x_getfield D_0_aGrainMelts_1 f_0_24 (by assumption) rfl ?_
  refine x_aload_n D_0_aGrainMelts_4 rfl ?_
  refine x_getfield D_0_aGrainMelts_5 f_0_45 (by assumption) rfl ?_
  refine x_icmp_ge D_0_aGrainMelts_8 h0 h5 (fun c8 => ?_) (fun c8 => ?_)
  · refine x_iconst D_0_aGrainMelts_15 ?_
    refine x_ireturn D_0_aGrainMelts_16 rfl (by first | rfl | exact nb_bi _ | decide +kernel) rfl ?_
    first | exact Pu.t (by omega) | exact Pu.f (by omega)
  refine x_iconst D_0_aGrainMelts_11 ?_
  refine x_goto D_0_aGrainMelts_12 ?_
  refine x_ireturn D_0_aGrainMelts_16 rfl (by first | rfl | exact nb_bi _ | decide +kernel) rfl ?_
  first | exact Pu.t (by omega) | exact Pu.f (by omega)
theorem c_0_begin {d : Nat} (hd : 0 ≤ d) {z : Nat × Nat} {h : Hp} {e t : Nat} {E T : TT} (hE : EvAt h e E) (hT : TabAt h t T) (hs : e + 4 < t ∨ t + 8 < e) : Ct d m_0_begin [.ref e, .ref t] z z h (EQ1 e h none (mkE 0 (iShl 1 (T 2 0) - 1) 0 0 0 0 (T 1) (fun _ => 0) (fun _ => 0) (fun _ => 0))) := by
  refine Ct.of (by decide) ⟨Nat.le_refl _, Nat.le_refl _⟩ (Nat.le_of_ble_eq_true rfl) ?_
  have loop2 : ∀ (f : Nat) (k : Int) (hh : Hp) (F9 : Int → Int), 0 ≤ k → k ≤ 7 → 7 - k ≤ f → (∀ j : Int, 0 ≤ j → j < k → F9 j = 0) →
      hh e = some (ob 0 [vi 0, vi (iShl 1 (T 2 0) - 1), vi 0, vi 0, vi 0, vi 0, .ref (e + 1), .ref (e + 2), .ref (e + 3), .ref (e + 4)]) → hh (e + 1) = some (ia 0 5 (T 1)) → hh (e + 2) = some (ia 0 5 (fun _ => 0)) → hh (e + 3) = some (ia 0 5 (fun _ => 0)) → hh (e + 4) = some (ia 0 7 F9) → (∀ q : Nat, (q < e ∨ e + 4 < q) → hh q = h q) →
      WW d m_0_begin z (EQ1 e h none (mkE 0 (iShl 1 (T 2 0) - 1) 0 0 0 0 (T 1) (fun _ => 0) (fun _ => 0) (fun _ => 0))) z hh 78 [(0, .ref e), (1, .ref t), (2, vi k)] [] := by
    intro f
    induction f with
    | zero =>
      intro k hh F9 h0 h7 hf hF a0 a1 a2 a3 a4 hfr
      refine x_iload_n D_0_begin_78 rfl ?_
      refine x_bipush D_0_begin_79 (by decide +kernel) ?_
      refine x_icmp_ge D_0_begin_81 ⟨by omega, by omega⟩ ⟨by omega, by omega⟩ (fun c81 => ?_) (fun c81 => ?_)
      · refine x_return D_0_begin_97 rfl rfl ?_
        exact ⟨rfl, ⟨a0, a1, a2, a3, a4.trans (congrArg some (ia_ext fun j h0 h1 => hF j h0 (by omega)))⟩, hfr⟩
      exact absurd c81 (by omega)
    | succ f ih =>
      intro k hh F9 h0 h7 hf hF a0 a1 a2 a3 a4 hfr
      refine x_iload_n D_0_begin_78 rfl ?_
      refine x_bipush D_0_begin_79 (by decide +kernel) ?_
      refine x_icmp_ge D_0_begin_81 ⟨by omega, by omega⟩ ⟨by omega, by omega⟩ (fun c81 => ?_) (fun c81 => ?_)
      · refine x_return D_0_begin_97 rfl rfl ?_
        exact ⟨rfl, ⟨a0, a1, a2, a3, a4.trans (congrArg some (ia_ext fun j h0 h1 => hF j h0 (by omega)))⟩, hfr⟩
      refine x_aload_n D_0_begin_84 rfl ?_
      refine x_getfield D_0_begin_85 f_0_21 (by assumption) rfl ?_
      refine x_iload_n D_0_begin_88 rfl ?_
      refine x_iconst D_0_begin_89 ?_
      refine x_iastore D_0_begin_90 (by assumption) (by omega) (by omega) rfl (fun h90 e90 n90 => ?_)
      first | (replace a0 := (n90 _ (by omega)).trans a0) | (replace a0 := e90)
      first | (replace a1 := (n90 _ (by omega)).trans a1) | (replace a1 := e90)
      first | (replace a2 := (n90 _ (by omega)).trans a2) | (replace a2 := e90)
      first | (replace a3 := (n90 _ (by omega)).trans a3) | (replace a3 := e90)
      first | (replace a4 := (n90 _ (by omega)).trans a4) | (replace a4 := e90)
      replace hfr := fun q hq => (n90 q (by omega)).trans (hfr q hq)
      refine x_iinc D_0_begin_91 rfl rfl rfl rfl ?_
      refine x_goto D_0_begin_94 ?_
      refine (ih (k + 1) _ _ (by omega) (by omega) (by omega) (fun j q1 q2 => ?_) a0 a1 a2 a3 a4 hfr).sub rfl
      by_cases e1 : j = k
      · simp [ups, e1]
      · simp only [ups, if_neg e1]; exact hF j q1 (by omega)
  have loop1 : ∀ (f : Nat) (k : Int) (hh : Hp) (F6 F7 F8 F9 : Int → Int), 0 ≤ k → k ≤ 5 → 5 - k ≤ f → (∀ j : Int, 0 ≤ j → j < k → F6 j = T 1 j ∧ F7 j = 0 ∧ F8 j = 0) →
      hh e = some (ob 0 [vi 0, vi (iShl 1 (T 2 0) - 1), vi 0, vi 0, vi 0, vi 0, .ref (e + 1), .ref (e + 2), .ref (e + 3), .ref (e + 4)]) → hh (e + 1) = some (ia 0 5 F6) → hh (e + 2) = some (ia 0 5 F7) → hh (e + 3) = some (ia 0 5 F8) → hh (e + 4) = some (ia 0 7 F9) → (∀ q : Nat, (q < e ∨ e + 4 < q) → hh q = h q) →
      WW d m_0_begin z (EQ1 e h none (mkE 0 (iShl 1 (T 2 0) - 1) 0 0 0 0 (T 1) (fun _ => 0) (fun _ => 0) (fun _ => 0))) z hh 39 [(0, .ref e), (1, .ref t), (2, vi k)] [] := by
    intro f
    induction f with
    | zero =>
      intro k hh F6 F7 F8 F9 h0 h7 hf hF a0 a1 a2 a3 a4 hfr
      refine x_iload_n D_0_begin_39 rfl ?_
      refine x_iconst D_0_begin_40 ?_
      refine x_icmp_ge D_0_begin_41 ⟨by omega, by omega⟩ ⟨by omega, by omega⟩ (fun c41 => ?_) (fun c41 => ?_)
      · refine x_iconst D_0_begin_76 ?_
        refine x_istore_n D_0_begin_77 rfl rfl rfl ?_
        exact (loop2 7 0 _ _ (by omega) (by omega) (by omega) (fun j q1 q2 => absurd q1 (by omega)) a0 (a1.trans (congrArg some (ia_ext fun j h0 h1 => (hF j h0 (by omega)).1))) (a2.trans (congrArg some (ia_ext fun j h0 h1 => (hF j h0 (by omega)).2.1))) (a3.trans (congrArg some (ia_ext fun j h0 h1 => (hF j h0 (by omega)).2.2))) a4 hfr).sub rfl
      exact absurd c41 (by omega)
    | succ f ih =>
      intro k hh F6 F7 F8 F9 h0 h7 hf hF a0 a1 a2 a3 a4 hfr
      have hT1 : TabAt hh t T := hT.kept (fun q q1 q2 => hfr q (by omega))
      obtain ⟨b0, b1, -⟩ := hT1
      refine x_iload_n D_0_begin_39 rfl ?_
      refine x_iconst D_0_begin_40 ?_
      refine x_icmp_ge D_0_begin_41 ⟨by omega, by omega⟩ ⟨by omega, by omega⟩ (fun c41 => ?_) (fun c41 => ?_)
      · refine x_iconst D_0_begin_76 ?_
        refine x_istore_n D_0_begin_77 rfl rfl rfl ?_
        exact (loop2 7 0 _ _ (by omega) (by omega) (by omega) (fun j q1 q2 => absurd q1 (by omega)) a0 (a1.trans (congrArg some (ia_ext fun j h0 h1 => (hF j h0 (by omega)).1))) (a2.trans (congrArg some (ia_ext fun j h0 h1 => (hF j h0 (by omega)).2.1))) (a3.trans (congrArg some (ia_ext fun j h0 h1 => (hF j h0 (by omega)).2.2))) a4 hfr).sub rfl
      refine x_aload_n D_0_begin_44 rfl ?_
      refine x_getfield D_0_begin_45 f_0_9 (by assumption) rfl ?_
      refine x_iload_n D_0_begin_48 rfl ?_
      refine x_aload_n D_0_begin_49 rfl ?_
      refine x_getfield D_0_begin_50 f_0_48 (by assumption) rfl ?_
      refine x_iload_n D_0_begin_53 rfl ?_
      refine x_iaload D_0_begin_54 (by assumption) (by omega) (by omega) rfl ?_
      refine x_iastore D_0_begin_55 (by assumption) (by omega) (by omega) rfl (fun h55 e55 n55 => ?_)
      first | (replace a0 := (n55 _ (by omega)).trans a0) | (replace a0 := e55)
      first | (replace a1 := (n55 _ (by omega)).trans a1) | (replace a1 := e55)
      first | (replace a2 := (n55 _ (by omega)).trans a2) | (replace a2 := e55)
      first | (replace a3 := (n55 _ (by omega)).trans a3) | (replace a3 := e55)
      first | (replace a4 := (n55 _ (by omega)).trans a4) | (replace a4 := e55)
      first | (replace b0 := (n55 _ (by omega)).trans b0) | (replace b0 := e55)
      first | (replace b1 := (n55 _ (by omega)).trans b1) | (replace b1 := e55)
      replace hfr := fun q hq => (n55 q (by omega)).trans (hfr q hq)
      refine x_aload_n D_0_begin_56 rfl ?_
      refine x_getfield D_0_begin_57 f_0_15 (by assumption) rfl ?_
      refine x_iload_n D_0_begin_60 rfl ?_
      refine x_iconst D_0_begin_61 ?_
      refine x_iastore D_0_begin_62 (by assumption) (by omega) (by omega) rfl (fun h62 e62 n62 => ?_)
      first | (replace a0 := (n62 _ (by omega)).trans a0) | (replace a0 := e62)
      first | (replace a1 := (n62 _ (by omega)).trans a1) | (replace a1 := e62)
      first | (replace a2 := (n62 _ (by omega)).trans a2) | (replace a2 := e62)
      first | (replace a3 := (n62 _ (by omega)).trans a3) | (replace a3 := e62)
      first | (replace a4 := (n62 _ (by omega)).trans a4) | (replace a4 := e62)
      first | (replace b0 := (n62 _ (by omega)).trans b0) | (replace b0 := e62)
      first | (replace b1 := (n62 _ (by omega)).trans b1) | (replace b1 := e62)
      replace hfr := fun q hq => (n62 q (by omega)).trans (hfr q hq)
      refine x_aload_n D_0_begin_63 rfl ?_
      refine x_getfield D_0_begin_64 f_0_18 (by assumption) rfl ?_
      refine x_iload_n D_0_begin_67 rfl ?_
      refine x_iconst D_0_begin_68 ?_
      refine x_iastore D_0_begin_69 (by assumption) (by omega) (by omega) rfl (fun h69 e69 n69 => ?_)
      first | (replace a0 := (n69 _ (by omega)).trans a0) | (replace a0 := e69)
      first | (replace a1 := (n69 _ (by omega)).trans a1) | (replace a1 := e69)
      first | (replace a2 := (n69 _ (by omega)).trans a2) | (replace a2 := e69)
      first | (replace a3 := (n69 _ (by omega)).trans a3) | (replace a3 := e69)
      first | (replace a4 := (n69 _ (by omega)).trans a4) | (replace a4 := e69)
      first | (replace b0 := (n69 _ (by omega)).trans b0) | (replace b0 := e69)
      first | (replace b1 := (n69 _ (by omega)).trans b1) | (replace b1 := e69)
      replace hfr := fun q hq => (n69 q (by omega)).trans (hfr q hq)
      refine x_iinc D_0_begin_70 rfl rfl rfl rfl ?_
      refine x_goto D_0_begin_73 ?_
      refine (ih (k + 1) _ _ _ _ _ (by omega) (by omega) (by omega) (fun j q1 q2 => ?_) a0 a1 a2 a3 a4 hfr).sub rfl
      by_cases e1 : j = k
      · simp [ups, e1]
      · simp only [ups, if_neg e1]; exact hF j q1 (by omega)
  obtain ⟨a0, a1, a2, a3, a4⟩ := hE
  obtain ⟨b0, b1, -⟩ := hT
  have hfr : ∀ q : Nat, (q < e ∨ e + 4 < q) → h q = h q := fun _ _ => rfl
  refine x_aload_n D_0_begin_0 rfl ?_
  refine x_iconst D_0_begin_1 ?_
  refine x_putI D_0_begin_2 f_0_24 (by assumption) (by decide +kernel) rfl (fun h2 e2 n2 => ?_)
  simp only [List.set_cons_zero, List.set_cons_succ] at e2
  first | (replace a0 := (n2 _ (by omega)).trans a0) | (replace a0 := e2)
  first | (replace a1 := (n2 _ (by omega)).trans a1) | (replace a1 := e2)
  first | (replace a2 := (n2 _ (by omega)).trans a2) | (replace a2 := e2)
  first | (replace a3 := (n2 _ (by omega)).trans a3) | (replace a3 := e2)
  first | (replace a4 := (n2 _ (by omega)).trans a4) | (replace a4 := e2)
  first | (replace b0 := (n2 _ (by omega)).trans b0) | (replace b0 := e2)
  first | (replace b1 := (n2 _ (by omega)).trans b1) | (replace b1 := e2)
  replace hfr := fun q hq => (n2 q (by omega)).trans (hfr q hq)
  refine x_aload_n D_0_begin_5 rfl ?_
  refine x_iconst D_0_begin_6 ?_
  refine x_aload_n D_0_begin_7 rfl ?_
  refine x_getfield D_0_begin_8 f_0_28 (by assumption) rfl ?_
  refine x_ishl D_0_begin_11 ?_
  refine x_iconst D_0_begin_12 ?_
  refine x_isub D_0_begin_13 ?_
  refine x_putI D_0_begin_14 f_0_33 (by assumption) (by decide +kernel) rfl (fun h14 e14 n14 => ?_)
  simp only [List.set_cons_zero, List.set_cons_succ] at e14
  first | (replace a0 := (n14 _ (by omega)).trans a0) | (replace a0 := e14)
  first | (replace a1 := (n14 _ (by omega)).trans a1) | (replace a1 := e14)
  first | (replace a2 := (n14 _ (by omega)).trans a2) | (replace a2 := e14)
  first | (replace a3 := (n14 _ (by omega)).trans a3) | (replace a3 := e14)
  first | (replace a4 := (n14 _ (by omega)).trans a4) | (replace a4 := e14)
  first | (replace b0 := (n14 _ (by omega)).trans b0) | (replace b0 := e14)
  first | (replace b1 := (n14 _ (by omega)).trans b1) | (replace b1 := e14)
  replace hfr := fun q hq => (n14 q (by omega)).trans (hfr q hq)
  refine x_aload_n D_0_begin_17 rfl ?_
  refine x_iconst D_0_begin_18 ?_
  refine x_putI D_0_begin_19 f_0_36 (by assumption) (by decide +kernel) rfl (fun h19 e19 n19 => ?_)
  simp only [List.set_cons_zero, List.set_cons_succ] at e19
  first | (replace a0 := (n19 _ (by omega)).trans a0) | (replace a0 := e19)
  first | (replace a1 := (n19 _ (by omega)).trans a1) | (replace a1 := e19)
  first | (replace a2 := (n19 _ (by omega)).trans a2) | (replace a2 := e19)
  first | (replace a3 := (n19 _ (by omega)).trans a3) | (replace a3 := e19)
  first | (replace a4 := (n19 _ (by omega)).trans a4) | (replace a4 := e19)
  first | (replace b0 := (n19 _ (by omega)).trans b0) | (replace b0 := e19)
  first | (replace b1 := (n19 _ (by omega)).trans b1) | (replace b1 := e19)
  replace hfr := fun q hq => (n19 q (by omega)).trans (hfr q hq)
  refine x_aload_n D_0_begin_22 rfl ?_
  refine x_iconst D_0_begin_23 ?_
  refine x_putI D_0_begin_24 f_0_39 (by assumption) (by decide +kernel) rfl (fun h24 e24 n24 => ?_)
  simp only [List.set_cons_zero, List.set_cons_succ] at e24
  first | (replace a0 := (n24 _ (by omega)).trans a0) | (replace a0 := e24)
  first | (replace a1 := (n24 _ (by omega)).trans a1) | (replace a1 := e24)
  first | (replace a2 := (n24 _ (by omega)).trans a2) | (replace a2 := e24)
  first | (replace a3 := (n24 _ (by omega)).trans a3) | (replace a3 := e24)
  first | (replace a4 := (n24 _ (by omega)).trans a4) | (replace a4 := e24)
  first | (replace b0 := (n24 _ (by omega)).trans b0) | (replace b0 := e24)
  first | (replace b1 := (n24 _ (by omega)).trans b1) | (replace b1 := e24)
  replace hfr := fun q hq => (n24 q (by omega)).trans (hfr q hq)
  refine x_aload_n D_0_begin_27 rfl ?_
  refine x_iconst D_0_begin_28 ?_
  refine x_putI D_0_begin_29 f_0_42 (by assumption) (by decide +kernel) rfl (fun h29 e29 n29 => ?_)
  simp only [List.set_cons_zero, List.set_cons_succ] at e29
  first | (replace a0 := (n29 _ (by omega)).trans a0) | (replace a0 := e29)
  first | (replace a1 := (n29 _ (by omega)).trans a1) | (replace a1 := e29)
  first | (replace a2 := (n29 _ (by omega)).trans a2) | (replace a2 := e29)
  first | (replace a3 := (n29 _ (by omega)).trans a3) | (replace a3 := e29)
  first | (replace a4 := (n29 _ (by omega)).trans a4) | (replace a4 := e29)
  first | (replace b0 := (n29 _ (by omega)).trans b0) | (replace b0 := e29)
  first | (replace b1 := (n29 _ (by omega)).trans b1) | (replace b1 := e29)
  replace hfr := fun q hq => (n29 q (by omega)).trans (hfr q hq)
  refine x_aload_n D_0_begin_32 rfl ?_
  refine x_iconst D_0_begin_33 ?_
  refine x_putI D_0_begin_34 f_0_45 (by assumption) (by decide +kernel) rfl (fun h34 e34 n34 => ?_)
  simp only [List.set_cons_zero, List.set_cons_succ] at e34
  first | (replace a0 := (n34 _ (by omega)).trans a0) | (replace a0 := e34)
  first | (replace a1 := (n34 _ (by omega)).trans a1) | (replace a1 := e34)
  first | (replace a2 := (n34 _ (by omega)).trans a2) | (replace a2 := e34)
  first | (replace a3 := (n34 _ (by omega)).trans a3) | (replace a3 := e34)
  first | (replace a4 := (n34 _ (by omega)).trans a4) | (replace a4 := e34)
  first | (replace b0 := (n34 _ (by omega)).trans b0) | (replace b0 := e34)
  first | (replace b1 := (n34 _ (by omega)).trans b1) | (replace b1 := e34)
  replace hfr := fun q hq => (n34 q (by omega)).trans (hfr q hq)
  refine x_iconst D_0_begin_37 ?_
  refine x_istore_n D_0_begin_38 rfl rfl rfl ?_
  exact (loop1 5 0 _ _ _ _ _ (by omega) (by omega) (by omega) (fun j q1 q2 => absurd q1 (by omega)) a0 a1 a2 a3 a4 hfr).sub rfl
theorem c_0_copyFrom {d : Nat} (hd : 0 ≤ d) {z : Nat × Nat} {h : Hp} {e t : Nat} {E T : TT} (hE : EvAt h e E) (hT : EvAt h t T) (hs : e + 4 < t ∨ t + 4 < e) : Ct d m_0_copyFrom [.ref e, .ref t] z z h (EQ1 e h none T) := by
  refine Ct.of (by decide) ⟨Nat.le_refl _, Nat.le_refl _⟩ (Nat.le_of_ble_eq_true rfl) ?_
  have loop2 : ∀ (f : Nat) (k : Int) (hh : Hp) (F9 : Int → Int), 0 ≤ k → k ≤ 7 → 7 - k ≤ f → (∀ j : Int, 0 ≤ j → j < k → F9 j = T 9 j) →
      hh e = some (ob 0 [vi (T 0 0), vi (T 1 0), vi (T 2 0), vi (T 3 0), vi (T 4 0), vi (T 5 0), .ref (e + 1), .ref (e + 2), .ref (e + 3), .ref (e + 4)]) → hh (e + 1) = some (ia 0 5 (T 6)) → hh (e + 2) = some (ia 0 5 (T 7)) → hh (e + 3) = some (ia 0 5 (T 8)) → hh (e + 4) = some (ia 0 7 F9) → (∀ q : Nat, (q < e ∨ e + 4 < q) → hh q = h q) →
      WW d m_0_copyFrom z (EQ1 e h none T) z hh 99 [(0, .ref e), (1, .ref t), (2, vi k)] [] := by
    intro f
    induction f with
    | zero =>
      intro k hh F9 h0 h7 hf hF a0 a1 a2 a3 a4 hfr
      refine x_iload_n D_0_copyFrom_99 rfl ?_
      refine x_bipush D_0_copyFrom_100 (by decide +kernel) ?_
      refine x_icmp_ge D_0_copyFrom_102 ⟨by omega, by omega⟩ ⟨by omega, by omega⟩ (fun c102 => ?_) (fun c102 => ?_)
      · refine x_return D_0_copyFrom_123 rfl rfl ?_
        exact ⟨rfl, ⟨a0, a1, a2, a3, a4.trans (congrArg some (ia_ext fun j h0 h1 => hF j h0 (by omega)))⟩, hfr⟩
      exact absurd c102 (by omega)
    | succ f ih =>
      intro k hh F9 h0 h7 hf hF a0 a1 a2 a3 a4 hfr
      have hT1 : EvAt hh t T := hT.kept (fun q q1 q2 => hfr q (by omega))
      obtain ⟨b0, b1, b2, b3, b4⟩ := hT1
      refine x_iload_n D_0_copyFrom_99 rfl ?_
      refine x_bipush D_0_copyFrom_100 (by decide +kernel) ?_
      refine x_icmp_ge D_0_copyFrom_102 ⟨by omega, by omega⟩ ⟨by omega, by omega⟩ (fun c102 => ?_) (fun c102 => ?_)
      · refine x_return D_0_copyFrom_123 rfl rfl ?_
        exact ⟨rfl, ⟨a0, a1, a2, a3, a4.trans (congrArg some (ia_ext fun j h0 h1 => hF j h0 (by omega)))⟩, hfr⟩
      refine x_aload_n D_0_copyFrom_105 rfl ?_
      refine x_getfield D_0_copyFrom_106 f_0_21 (by assumption) rfl ?_
      refine x_iload_n D_0_copyFrom_109 rfl ?_
      refine x_aload_n D_0_copyFrom_110 rfl ?_
      refine x_getfield D_0_copyFrom_111 f_0_21 (by assumption) rfl ?_
      refine x_iload_n D_0_copyFrom_114 rfl ?_
      refine x_iaload D_0_copyFrom_115 (by assumption) (by omega) (by omega) rfl ?_
      refine x_iastore D_0_copyFrom_116 (by assumption) (by omega) (by omega) rfl (fun h116 e116 n116 => ?_)
      first | (replace a0 := (n116 _ (by omega)).trans a0) | (replace a0 := e116)
      first | (replace a1 := (n116 _ (by omega)).trans a1) | (replace a1 := e116)
      first | (replace a2 := (n116 _ (by omega)).trans a2) | (replace a2 := e116)
      first | (replace a3 := (n116 _ (by omega)).trans a3) | (replace a3 := e116)
      first | (replace a4 := (n116 _ (by omega)).trans a4) | (replace a4 := e116)
      replace hfr := fun q hq => (n116 q (by omega)).trans (hfr q hq)
      refine x_iinc D_0_copyFrom_117 rfl rfl rfl rfl ?_
      refine x_goto D_0_copyFrom_120 ?_
      refine (ih (k + 1) _ _ (by omega) (by omega) (by omega) (fun j q1 q2 => ?_) a0 a1 a2 a3 a4 hfr).sub rfl
      by_cases e1 : j = k
      · simp [ups, e1]
      · simp only [ups, if_neg e1]; exact hF j q1 (by omega)
  have loop1 : ∀ (f : Nat) (k : Int) (hh : Hp) (F6 F7 F8 F9 : Int → Int), 0 ≤ k → k ≤ 5 → 5 - k ≤ f → (∀ j : Int, 0 ≤ j → j < k → F6 j = T 6 j ∧ F7 j = T 7 j ∧ F8 j = T 8 j) →
      hh e = some (ob 0 [vi (T 0 0), vi (T 1 0), vi (T 2 0), vi (T 3 0), vi (T 4 0), vi (T 5 0), .ref (e + 1), .ref (e + 2), .ref (e + 3), .ref (e + 4)]) → hh (e + 1) = some (ia 0 5 F6) → hh (e + 2) = some (ia 0 5 F7) → hh (e + 3) = some (ia 0 5 F8) → hh (e + 4) = some (ia 0 7 F9) → (∀ q : Nat, (q < e ∨ e + 4 < q) → hh q = h q) →
      WW d m_0_copyFrom z (EQ1 e h none T) z hh 50 [(0, .ref e), (1, .ref t), (2, vi k)] [] := by
    intro f
    induction f with
    | zero =>
      intro k hh F6 F7 F8 F9 h0 h7 hf hF a0 a1 a2 a3 a4 hfr
      refine x_iload_n D_0_copyFrom_50 rfl ?_
      refine x_iconst D_0_copyFrom_51 ?_
      refine x_icmp_ge D_0_copyFrom_52 ⟨by omega, by omega⟩ ⟨by omega, by omega⟩ (fun c52 => ?_) (fun c52 => ?_)
      · refine x_iconst D_0_copyFrom_97 ?_
        refine x_istore_n D_0_copyFrom_98 rfl rfl rfl ?_
        exact (loop2 7 0 _ _ (by omega) (by omega) (by omega) (fun j q1 q2 => absurd q1 (by omega)) a0 (a1.trans (congrArg some (ia_ext fun j h0 h1 => (hF j h0 (by omega)).1))) (a2.trans (congrArg some (ia_ext fun j h0 h1 => (hF j h0 (by omega)).2.1))) (a3.trans (congrArg some (ia_ext fun j h0 h1 => (hF j h0 (by omega)).2.2))) a4 hfr).sub rfl
      exact absurd c52 (by omega)
    | succ f ih =>
      intro k hh F6 F7 F8 F9 h0 h7 hf hF a0 a1 a2 a3 a4 hfr
      have hT1 : EvAt hh t T := hT.kept (fun q q1 q2 => hfr q (by omega))
      obtain ⟨b0, b1, b2, b3, b4⟩ := hT1
      refine x_iload_n D_0_copyFrom_50 rfl ?_
      refine x_iconst D_0_copyFrom_51 ?_
      refine x_icmp_ge D_0_copyFrom_52 ⟨by omega, by omega⟩ ⟨by omega, by omega⟩ (fun c52 => ?_) (fun c52 => ?_)
      · refine x_iconst D_0_copyFrom_97 ?_
        refine x_istore_n D_0_copyFrom_98 rfl rfl rfl ?_
        exact (loop2 7 0 _ _ (by omega) (by omega) (by omega) (fun j q1 q2 => absurd q1 (by omega)) a0 (a1.trans (congrArg some (ia_ext fun j h0 h1 => (hF j h0 (by omega)).1))) (a2.trans (congrArg some (ia_ext fun j h0 h1 => (hF j h0 (by omega)).2.1))) (a3.trans (congrArg some (ia_ext fun j h0 h1 => (hF j h0 (by omega)).2.2))) a4 hfr).sub rfl
      refine x_aload_n D_0_copyFrom_55 rfl ?_
      refine x_getfield D_0_copyFrom_56 f_0_9 (by assumption) rfl ?_
      refine x_iload_n D_0_copyFrom_59 rfl ?_
      refine x_aload_n D_0_copyFrom_60 rfl ?_
      refine x_getfield D_0_copyFrom_61 f_0_9 (by assumption) rfl ?_
      refine x_iload_n D_0_copyFrom_64 rfl ?_
      refine x_iaload D_0_copyFrom_65 (by assumption) (by omega) (by omega) rfl ?_
      refine x_iastore D_0_copyFrom_66 (by assumption) (by omega) (by omega) rfl (fun h66 e66 n66 => ?_)
      first | (replace a0 := (n66 _ (by omega)).trans a0) | (replace a0 := e66)
      first | (replace a1 := (n66 _ (by omega)).trans a1) | (replace a1 := e66)
      first | (replace a2 := (n66 _ (by omega)).trans a2) | (replace a2 := e66)
      first | (replace a3 := (n66 _ (by omega)).trans a3) | (replace a3 := e66)
      first | (replace a4 := (n66 _ (by omega)).trans a4) | (replace a4 := e66)
      first | (replace b0 := (n66 _ (by omega)).trans b0) | (replace b0 := e66)
      first | (replace b1 := (n66 _ (by omega)).trans b1) | (replace b1 := e66)
      first | (replace b2 := (n66 _ (by omega)).trans b2) | (replace b2 := e66)
      first | (replace b3 := (n66 _ (by omega)).trans b3) | (replace b3 := e66)
      replace hfr := fun q hq => (n66 q (by omega)).trans (hfr q hq)
      refine x_aload_n D_0_copyFrom_67 rfl ?_
      refine x_getfield D_0_copyFrom_68 f_0_15 (by assumption) rfl ?_
      refine x_iload_n D_0_copyFrom_71 rfl ?_
      refine x_aload_n D_0_copyFrom_72 rfl ?_
      refine x_getfield D_0_copyFrom_73 f_0_15 (by assumption) rfl ?_
      refine x_iload_n D_0_copyFrom_76 rfl ?_
      refine x_iaload D_0_copyFrom_77 (by assumption) (by omega) (by omega) rfl ?_
      refine x_iastore D_0_copyFrom_78 (by assumption) (by omega) (by omega) rfl (fun h78 e78 n78 => ?_)
      first | (replace a0 := (n78 _ (by omega)).trans a0) | (replace a0 := e78)
      first | (replace a1 := (n78 _ (by omega)).trans a1) | (replace a1 := e78)
      first | (replace a2 := (n78 _ (by omega)).trans a2) | (replace a2 := e78)
      first | (replace a3 := (n78 _ (by omega)).trans a3) | (replace a3 := e78)
      first | (replace a4 := (n78 _ (by omega)).trans a4) | (replace a4 := e78)
      first | (replace b0 := (n78 _ (by omega)).trans b0) | (replace b0 := e78)
      first | (replace b1 := (n78 _ (by omega)).trans b1) | (replace b1 := e78)
      first | (replace b2 := (n78 _ (by omega)).trans b2) | (replace b2 := e78)
      first | (replace b3 := (n78 _ (by omega)).trans b3) | (replace b3 := e78)
      replace hfr := fun q hq => (n78 q (by omega)).trans (hfr q hq)
      refine x_aload_n D_0_copyFrom_79 rfl ?_
      refine x_getfield D_0_copyFrom_80 f_0_18 (by assumption) rfl ?_
      refine x_iload_n D_0_copyFrom_83 rfl ?_
      refine x_aload_n D_0_copyFrom_84 rfl ?_
      refine x_getfield D_0_copyFrom_85 f_0_18 (by assumption) rfl ?_
      refine x_iload_n D_0_copyFrom_88 rfl ?_
      refine x_iaload D_0_copyFrom_89 (by assumption) (by omega) (by omega) rfl ?_
      refine x_iastore D_0_copyFrom_90 (by assumption) (by omega) (by omega) rfl (fun h90 e90 n90 => ?_)
      first | (replace a0 := (n90 _ (by omega)).trans a0) | (replace a0 := e90)
      first | (replace a1 := (n90 _ (by omega)).trans a1) | (replace a1 := e90)
      first | (replace a2 := (n90 _ (by omega)).trans a2) | (replace a2 := e90)
      first | (replace a3 := (n90 _ (by omega)).trans a3) | (replace a3 := e90)
      first | (replace a4 := (n90 _ (by omega)).trans a4) | (replace a4 := e90)
      first | (replace b0 := (n90 _ (by omega)).trans b0) | (replace b0 := e90)
      first | (replace b1 := (n90 _ (by omega)).trans b1) | (replace b1 := e90)
      first | (replace b2 := (n90 _ (by omega)).trans b2) | (replace b2 := e90)
      first | (replace b3 := (n90 _ (by omega)).trans b3) | (replace b3 := e90)
      replace hfr := fun q hq => (n90 q (by omega)).trans (hfr q hq)
      refine x_iinc D_0_copyFrom_91 rfl rfl rfl rfl ?_
      refine x_goto D_0_copyFrom_94 ?_
      refine (ih (k + 1) _ _ _ _ _ (by omega) (by omega) (by omega) (fun j q1 q2 => ?_) a0 a1 a2 a3 a4 hfr).sub rfl
      by_cases e1 : j = k
      · simp [ups, e1]
      · simp only [ups, if_neg e1]; exact hF j q1 (by omega)
  obtain ⟨a0, a1, a2, a3, a4⟩ := hE
  obtain ⟨b0, b1, b2, b3, b4⟩ := hT
  have hfr : ∀ q : Nat, (q < e ∨ e + 4 < q) → h q = h q := fun _ _ => rfl
  refine x_aload_n D_0_copyFrom_0 rfl ?_
  refine x_aload_n D_0_copyFrom_1 rfl ?_
  refine x_getfield D_0_copyFrom_2 f_0_24 (by assumption) rfl ?_
  refine x_putI D_0_copyFrom_5 f_0_24 (by assumption) (by decide +kernel) rfl (fun h5 e5 n5 => ?_)
  simp only [List.set_cons_zero, List.set_cons_succ] at e5
  first | (replace a0 := (n5 _ (by omega)).trans a0) | (replace a0 := e5)
  first | (replace a1 := (n5 _ (by omega)).trans a1) | (replace a1 := e5)
  first | (replace a2 := (n5 _ (by omega)).trans a2) | (replace a2 := e5)
  first | (replace a3 := (n5 _ (by omega)).trans a3) | (replace a3 := e5)
  first | (replace a4 := (n5 _ (by omega)).trans a4) | (replace a4 := e5)
  first | (replace b0 := (n5 _ (by omega)).trans b0) | (replace b0 := e5)
  first | (replace b1 := (n5 _ (by omega)).trans b1) | (replace b1 := e5)
  first | (replace b2 := (n5 _ (by omega)).trans b2) | (replace b2 := e5)
  first | (replace b3 := (n5 _ (by omega)).trans b3) | (replace b3 := e5)
  first | (replace b4 := (n5 _ (by omega)).trans b4) | (replace b4 := e5)
  replace hfr := fun q hq => (n5 q (by omega)).trans (hfr q hq)
  refine x_aload_n D_0_copyFrom_8 rfl ?_
  refine x_aload_n D_0_copyFrom_9 rfl ?_
  refine x_getfield D_0_copyFrom_10 f_0_33 (by assumption) rfl ?_
  refine x_putI D_0_copyFrom_13 f_0_33 (by assumption) (by decide +kernel) rfl (fun h13 e13 n13 => ?_)
  simp only [List.set_cons_zero, List.set_cons_succ] at e13
  first | (replace a0 := (n13 _ (by omega)).trans a0) | (replace a0 := e13)
  first | (replace a1 := (n13 _ (by omega)).trans a1) | (replace a1 := e13)
  first | (replace a2 := (n13 _ (by omega)).trans a2) | (replace a2 := e13)
  first | (replace a3 := (n13 _ (by omega)).trans a3) | (replace a3 := e13)
  first | (replace a4 := (n13 _ (by omega)).trans a4) | (replace a4 := e13)
  first | (replace b0 := (n13 _ (by omega)).trans b0) | (replace b0 := e13)
  first | (replace b1 := (n13 _ (by omega)).trans b1) | (replace b1 := e13)
  first | (replace b2 := (n13 _ (by omega)).trans b2) | (replace b2 := e13)
  first | (replace b3 := (n13 _ (by omega)).trans b3) | (replace b3 := e13)
  first | (replace b4 := (n13 _ (by omega)).trans b4) | (replace b4 := e13)
  replace hfr := fun q hq => (n13 q (by omega)).trans (hfr q hq)
  refine x_aload_n D_0_copyFrom_16 rfl ?_
  refine x_aload_n D_0_copyFrom_17 rfl ?_
  refine x_getfield D_0_copyFrom_18 f_0_36 (by assumption) rfl ?_
  refine x_putI D_0_copyFrom_21 f_0_36 (by assumption) (by decide +kernel) rfl (fun h21 e21 n21 => ?_)
  simp only [List.set_cons_zero, List.set_cons_succ] at e21
  first | (replace a0 := (n21 _ (by omega)).trans a0) | (replace a0 := e21)
  first | (replace a1 := (n21 _ (by omega)).trans a1) | (replace a1 := e21)
  first | (replace a2 := (n21 _ (by omega)).trans a2) | (replace a2 := e21)
  first | (replace a3 := (n21 _ (by omega)).trans a3) | (replace a3 := e21)
  first | (replace a4 := (n21 _ (by omega)).trans a4) | (replace a4 := e21)
  first | (replace b0 := (n21 _ (by omega)).trans b0) | (replace b0 := e21)
  first | (replace b1 := (n21 _ (by omega)).trans b1) | (replace b1 := e21)
  first | (replace b2 := (n21 _ (by omega)).trans b2) | (replace b2 := e21)
  first | (replace b3 := (n21 _ (by omega)).trans b3) | (replace b3 := e21)
  first | (replace b4 := (n21 _ (by omega)).trans b4) | (replace b4 := e21)
  replace hfr := fun q hq => (n21 q (by omega)).trans (hfr q hq)
  refine x_aload_n D_0_copyFrom_24 rfl ?_
  refine x_aload_n D_0_copyFrom_25 rfl ?_
  refine x_getfield D_0_copyFrom_26 f_0_39 (by assumption) rfl ?_
  refine x_putI D_0_copyFrom_29 f_0_39 (by assumption) (by decide +kernel) rfl (fun h29 e29 n29 => ?_)
  simp only [List.set_cons_zero, List.set_cons_succ] at e29
  first | (replace a0 := (n29 _ (by omega)).trans a0) | (replace a0 := e29)
  first | (replace a1 := (n29 _ (by omega)).trans a1) | (replace a1 := e29)
  first | (replace a2 := (n29 _ (by omega)).trans a2) | (replace a2 := e29)
  first | (replace a3 := (n29 _ (by omega)).trans a3) | (replace a3 := e29)
  first | (replace a4 := (n29 _ (by omega)).trans a4) | (replace a4 := e29)
  first | (replace b0 := (n29 _ (by omega)).trans b0) | (replace b0 := e29)
  first | (replace b1 := (n29 _ (by omega)).trans b1) | (replace b1 := e29)
  first | (replace b2 := (n29 _ (by omega)).trans b2) | (replace b2 := e29)
  first | (replace b3 := (n29 _ (by omega)).trans b3) | (replace b3 := e29)
  first | (replace b4 := (n29 _ (by omega)).trans b4) | (replace b4 := e29)
  replace hfr := fun q hq => (n29 q (by omega)).trans (hfr q hq)
  refine x_aload_n D_0_copyFrom_32 rfl ?_
  refine x_aload_n D_0_copyFrom_33 rfl ?_
  refine x_getfield D_0_copyFrom_34 f_0_42 (by assumption) rfl ?_
  refine x_putI D_0_copyFrom_37 f_0_42 (by assumption) (by decide +kernel) rfl (fun h37 e37 n37 => ?_)
  simp only [List.set_cons_zero, List.set_cons_succ] at e37
  first | (replace a0 := (n37 _ (by omega)).trans a0) | (replace a0 := e37)
  first | (replace a1 := (n37 _ (by omega)).trans a1) | (replace a1 := e37)
  first | (replace a2 := (n37 _ (by omega)).trans a2) | (replace a2 := e37)
  first | (replace a3 := (n37 _ (by omega)).trans a3) | (replace a3 := e37)
  first | (replace a4 := (n37 _ (by omega)).trans a4) | (replace a4 := e37)
  first | (replace b0 := (n37 _ (by omega)).trans b0) | (replace b0 := e37)
  first | (replace b1 := (n37 _ (by omega)).trans b1) | (replace b1 := e37)
  first | (replace b2 := (n37 _ (by omega)).trans b2) | (replace b2 := e37)
  first | (replace b3 := (n37 _ (by omega)).trans b3) | (replace b3 := e37)
  first | (replace b4 := (n37 _ (by omega)).trans b4) | (replace b4 := e37)
  replace hfr := fun q hq => (n37 q (by omega)).trans (hfr q hq)
  refine x_aload_n D_0_copyFrom_40 rfl ?_
  refine x_aload_n D_0_copyFrom_41 rfl ?_
  refine x_getfield D_0_copyFrom_42 f_0_45 (by assumption) rfl ?_
  refine x_putI D_0_copyFrom_45 f_0_45 (by assumption) (by decide +kernel) rfl (fun h45 e45 n45 => ?_)
  simp only [List.set_cons_zero, List.set_cons_succ] at e45
  first | (replace a0 := (n45 _ (by omega)).trans a0) | (replace a0 := e45)
  first | (replace a1 := (n45 _ (by omega)).trans a1) | (replace a1 := e45)
  first | (replace a2 := (n45 _ (by omega)).trans a2) | (replace a2 := e45)
  first | (replace a3 := (n45 _ (by omega)).trans a3) | (replace a3 := e45)
  first | (replace a4 := (n45 _ (by omega)).trans a4) | (replace a4 := e45)
  first | (replace b0 := (n45 _ (by omega)).trans b0) | (replace b0 := e45)
  first | (replace b1 := (n45 _ (by omega)).trans b1) | (replace b1 := e45)
  first | (replace b2 := (n45 _ (by omega)).trans b2) | (replace b2 := e45)
  first | (replace b3 := (n45 _ (by omega)).trans b3) | (replace b3 := e45)
  first | (replace b4 := (n45 _ (by omega)).trans b4) | (replace b4 := e45)
  replace hfr := fun q hq => (n45 q (by omega)).trans (hfr q hq)
  refine x_iconst D_0_copyFrom_48 ?_
  refine x_istore_n D_0_copyFrom_49 rfl rfl rfl ?_
  exact (loop1 5 0 _ _ _ _ _ (by omega) (by omega) (by omega) (fun j q1 q2 => absurd q1 (by omega)) a0 a1 a2 a3 a4 hfr).sub rfl
/-- how dry with so much more, within 1 and 9 -/
def dryBy (a b : Int) : Int := if a + b < 1 then 1 else if a + b > 9 then 9 else a + b
theorem c_0_eatDish {d : Nat} (hd : 1 ≤ d) {z : Nat × Nat} {h : Hp} {e t : Nat} {E T : TT} {k : Int} (hE : EvAt h e E) (hT : TabAt h t T) (hs : e + 4 < t ∨ t + 8 < e) (hk : TabOk T) (h0 : 0 ≤ k) (h1 : k < T 9 0) (hdr : ∀ i : Int, 0 ≤ i → i < T 0 0 → 1 ≤ E 6 i ∧ E 6 i ≤ 9) :
    Ct d m_0_eatDish [.ref e, .ref t, vi k] z z h (EQ1 e h (some (vi (dryBy (E 6 (T 10 k)) (T 11 k)))) (mkE (E 0 0) (E 1 0) (E 2 0) (iOr (E 3 0) (iShl 1 k)) (E 4 0) (E 5 0) (ups (E 6) (T 10 k) (dryBy (E 6 (T 10 k)) (T 11 k))) (E 7) (E 8) (E 9))) := by
  refine Ct.of (by decide) ⟨Nat.le_refl _, Nat.le_refl _⟩ (Nat.le_of_ble_eq_true rfl) ?_
  obtain ⟨a0, a1, a2, a3, a4⟩ := hE
  obtain ⟨b0, b1, b2, b3, b4, b5, b6, b7, b8⟩ := hT
  have k10 := hk.2.2.2.2.2.2.2.2 k h0 h1
  have k0 := hk.1
  have k9 := hk.2.2.2.1
  have hdk := hdr (T 10 k) k10.1.1 k10.1.2
  have hfr : ∀ q : Nat, (q < e ∨ e + 4 < q) → h q = h q := fun _ _ => rfl
  have eq : (if (1 : Int) < (if E 6 (T 10 k) + T 11 k < 9 then E 6 (T 10 k) + T 11 k else 9) then (if E 6 (T 10 k) + T 11 k < 9 then E 6 (T 10 k) + T 11 k else 9) else 1) = dryBy (E 6 (T 10 k)) (T 11 k) := by
    unfold dryBy
    split <;> split <;> split <;> (try split) <;> omega
  have hbd : B3 (if E 6 (T 10 k) + T 11 k < 9 then E 6 (T 10 k) + T 11 k else 9) := by split <;> exact ⟨by omega, by omega⟩
  refine x_aload_n D_0_eatDish_0 rfl ?_
  refine x_getfield D_0_eatDish_1 f_0_49 (by assumption) rfl ?_
  refine x_iload_n D_0_eatDish_4 rfl ?_
  refine x_iaload D_0_eatDish_5 (by assumption) (by omega) (by omega) rfl ?_
  refine x_istore_n D_0_eatDish_6 rfl rfl rfl ?_
  refine x_aload_n D_0_eatDish_7 rfl ?_
  refine x_dup D_0_eatDish_8 rfl ?_
  refine x_getfield D_0_eatDish_9 f_0_39 (by assumption) rfl ?_
  refine x_iconst D_0_eatDish_12 ?_
  refine x_iload_n D_0_eatDish_13 rfl ?_
  refine x_ishl D_0_eatDish_14 ?_
  refine x_ior D_0_eatDish_15 ?_
  refine x_putI D_0_eatDish_16 f_0_39 (by assumption) (by decide +kernel) rfl (fun h16 e16 n16 => ?_)
  simp only [List.set_cons_zero, List.set_cons_succ] at e16
  first | (replace a0 := (n16 _ (by omega)).trans a0) | (replace a0 := e16)
  first | (replace a1 := (n16 _ (by omega)).trans a1) | (replace a1 := e16)
  first | (replace a2 := (n16 _ (by omega)).trans a2) | (replace a2 := e16)
  first | (replace a3 := (n16 _ (by omega)).trans a3) | (replace a3 := e16)
  first | (replace a4 := (n16 _ (by omega)).trans a4) | (replace a4 := e16)
  first | (replace b0 := (n16 _ (by omega)).trans b0) | (replace b0 := e16)
  first | (replace b1 := (n16 _ (by omega)).trans b1) | (replace b1 := e16)
  first | (replace b2 := (n16 _ (by omega)).trans b2) | (replace b2 := e16)
  first | (replace b3 := (n16 _ (by omega)).trans b3) | (replace b3 := e16)
  first | (replace b4 := (n16 _ (by omega)).trans b4) | (replace b4 := e16)
  first | (replace b5 := (n16 _ (by omega)).trans b5) | (replace b5 := e16)
  first | (replace b6 := (n16 _ (by omega)).trans b6) | (replace b6 := e16)
  first | (replace b7 := (n16 _ (by omega)).trans b7) | (replace b7 := e16)
  first | (replace b8 := (n16 _ (by omega)).trans b8) | (replace b8 := e16)
  replace hfr := fun q hq => (n16 q (by omega)).trans (hfr q hq)
  refine x_aload_n D_0_eatDish_19 rfl ?_
  refine x_getfield D_0_eatDish_20 f_0_9 (by assumption) rfl ?_
  refine x_iload_n D_0_eatDish_23 rfl ?_
  refine x_iconst D_0_eatDish_24 ?_
  refine x_bipush D_0_eatDish_25 (by decide +kernel) ?_
  refine x_aload_n D_0_eatDish_27 rfl ?_
  refine x_getfield D_0_eatDish_28 f_0_9 (by assumption) rfl ?_
  refine x_iload_n D_0_eatDish_31 rfl ?_
  refine x_iaload D_0_eatDish_32 (by assumption) (by omega) (by omega) rfl ?_
  refine x_aload_n D_0_eatDish_33 rfl ?_
  refine x_getfield D_0_eatDish_34 f_0_52 (by assumption) rfl ?_
  refine x_iload_n D_0_eatDish_37 rfl ?_
  refine x_iaload D_0_eatDish_38 (by assumption) (by omega) (by omega) rfl ?_
  refine x_iadd D_0_eatDish_39 ?_
  refine x_min D_0_eatDish_40 l_0_55 ⟨by omega, by omega⟩ ⟨by omega, by omega⟩ (by omega) rfl ?_
  refine x_max D_0_eatDish_43 l_0_61 ⟨by omega, by omega⟩ hbd (by omega) rfl ?_
  rw [eq]
  refine x_iastore D_0_eatDish_46 (by assumption) (by omega) (by omega) rfl (fun h46 e46 n46 => ?_)
  first | (replace a0 := (n46 _ (by omega)).trans a0) | (replace a0 := e46)
  first | (replace a1 := (n46 _ (by omega)).trans a1) | (replace a1 := e46)
  first | (replace a2 := (n46 _ (by omega)).trans a2) | (replace a2 := e46)
  first | (replace a3 := (n46 _ (by omega)).trans a3) | (replace a3 := e46)
  first | (replace a4 := (n46 _ (by omega)).trans a4) | (replace a4 := e46)
  first | (replace b0 := (n46 _ (by omega)).trans b0) | (replace b0 := e46)
  first | (replace b1 := (n46 _ (by omega)).trans b1) | (replace b1 := e46)
  first | (replace b2 := (n46 _ (by omega)).trans b2) | (replace b2 := e46)
  first | (replace b3 := (n46 _ (by omega)).trans b3) | (replace b3 := e46)
  first | (replace b4 := (n46 _ (by omega)).trans b4) | (replace b4 := e46)
  first | (replace b5 := (n46 _ (by omega)).trans b5) | (replace b5 := e46)
  first | (replace b6 := (n46 _ (by omega)).trans b6) | (replace b6 := e46)
  first | (replace b7 := (n46 _ (by omega)).trans b7) | (replace b7 := e46)
  first | (replace b8 := (n46 _ (by omega)).trans b8) | (replace b8 := e46)
  replace hfr := fun q hq => (n46 q (by omega)).trans (hfr q hq)
  refine x_aload_n D_0_eatDish_47 rfl ?_
  refine x_getfield D_0_eatDish_48 f_0_9 (by assumption) rfl ?_
  refine x_iload_n D_0_eatDish_51 rfl ?_
  refine x_iaload D_0_eatDish_52 (by assumption) (by omega) (by omega) rfl ?_
  refine x_ireturn D_0_eatDish_53 rfl (by first | rfl | exact nb_bi _ | decide +kernel) rfl ?_
  exact ⟨by simp [ups], ⟨a0, a1, a2, a3, a4⟩, hfr⟩
