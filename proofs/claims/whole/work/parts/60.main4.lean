theorem prsR_rng {Bt : Int → Int} {e : Int} : ∀ (n : Nat) (T : TT) (i f : Int) (T1 : TT), 0 ≤ i → prsR Bt e n T i f T1 → f = -4 ∨ 0 ≤ f ∧ f < e := by
  intro n
  induction n with
  | zero => exact fun T i f T1 h0 h => Or.inl h.2.1
  | succ n ih =>
    intro T i f T1 h0 ha
    rcases ha with ⟨a1, a2, a3⟩ | ⟨a1, q, l, T3, a2, a3, a4⟩ | ⟨a1, a2, a3, a4⟩
    · exact Or.inl a2
    · have := (rd_rng Bt e _ _ _ _ a2).1
      exact ih _ _ _ _ (by omega) a4
    · exact Or.inr ⟨by omega, by omega⟩
def layS (T : TT) : SS := fun q => if q = 1 then -4 else if q = 3 then iShl 1 (T 2 0) - 1 else if 11 ≤ q ∧ q < 16 then (if q < 11 + T 0 0 then T 1 (q - 11) else 0) else if 16 ≤ q then -4 else 0
theorem shl_pow : ∀ n : Nat, n < 9 → iShl 1 (n : Int) - 1 = ((2 ^ n - 1 : Nat) : Int) := by decide +kernel
theorem no0 : ∀ s : Nat, s < 32 → ¬ hasB 0 (s : Int) := by decide +kernel
theorem shS_0 (T : TT) (i : Int) : ∀ n : Nat, n ≤ 32 → shS T 0 i n = 0 := by
  intro n
  induction n with
  | zero => exact fun _ => rfl
  | succ n ih =>
    intro hn
    simp only [shS]
    rw [ih (by omega), if_neg (fun q => no0 n (by omega) q.1)]
    rfl
theorem lay_ok {T : TT} (hk : TabOk T) {b : Int} (hb : 0 ≤ b) : StOk T (layS T) b ∧ ERel T (mkE 0 (iShl 1 (T 2 0) - 1) 0 0 0 0 (T 1) (fun _ => 0) (fun _ => 0) (fun _ => 0)) (layS T) := by
  have k0 := hk.1
  have k2 := hk.2.1
  have k4 := hk.2.2.1
  have kd := hk.2.2.2.2.2.1
  have q0 : layS T 0 = 0 := rfl
  have q1 : layS T 1 = -4 := rfl
  have q2 : layS T 2 = 0 := rfl
  have q3 : layS T 3 = iShl 1 (T 2 0) - 1 := rfl
  have q4 : layS T 4 = 0 := rfl
  have q5 : layS T 5 = 0 := rfl
  have q6 : ∀ i : Int, 0 ≤ i → i < 5 → layS T (6 + i) = 0 := by
    intro i h0 h1
    unfold layS
    rw [if_neg (by omega), if_neg (by omega), if_neg (by omega), if_neg (by omega)]
  have q11 : ∀ i : Int, 0 ≤ i → i < T 0 0 → layS T (11 + i) = T 1 i := by
    intro i h0 h1
    unfold layS
    rw [if_neg (by omega), if_neg (by omega), if_pos (by omega), if_pos (by omega), show (11 + i - 11 : Int) = i by omega]
  have q16 : ∀ i : Int, 0 ≤ i → layS T (16 + i) = -4 := by
    intro i h0
    unfold layS
    rw [if_neg (by omega), if_neg (by omega), if_neg (by omega), if_pos (by omega)]
  have hns : ∀ s : Int, 0 ≤ s → s < T 4 0 → ¬ hasB 0 s := by
    intro s h0 h1
    obtain ⟨n, rfl⟩ : ∃ n : Nat, s = (n : Int) := ⟨s.toNat, by omega⟩
    exact no0 n (by omega)
  have p3 : 0 < 2 ^ nGr T := Nat.pow_pos (by omega)
  have p4 : 0 < 2 ^ nSa T := Nat.pow_pos (by omega)
  constructor
  · refine ⟨⟨by rw [q0]; omega, by rw [q0]; omega⟩, Or.inl ⟨q1, q2⟩, ⟨by rw [q2]; omega, by rw [q2]; omega⟩, ⟨2 ^ nGr T - 1, by omega, ?_⟩, ⟨0, p4, q4⟩, ⟨0, by omega, q5⟩, fun i i0 i1 => ?_, fun s s0 s1 => Or.inr ⟨by rw [q4]; exact hns s s0 s1, q16 s s0⟩⟩
    · rw [q3, ← shl_pow (nGr T) (by unfold nGr; omega), show ((nGr T : Nat) : Int) = T 2 0 by unfold nGr; omega]
    · rw [q6 i i0 (by omega), q11 i i0 i1]
      exact ⟨⟨by omega, by omega⟩, kd i i0 i1⟩
  · refine ⟨q0.symm, q3.symm, q4.symm, q5.symm, q2.symm, Or.inl ⟨q1, rfl⟩, fun i i0 i1 => ⟨(q11 i i0 i1).symm, (q6 i i0 (by omega)).symm, ?_⟩, fun s s0 s1 hb => absurd (by rw [q4] at hb; exact hb) (hns s s0 s1)⟩
    rw [q4, shS_0 T i _ (by unfold nSa; omega)]
    rfl
section CM4
variable {d : Nat} {z : Nat × Nat} {h : Hp} {b len : Int} {Bt : Int → Int} {T : TT} {st : SS} {u : Nat} {un : Nat → SS} {kc : Nat} {ke : Nat → SS}
theorem c_5_fault (hd : 4 ≤ d) (hI : CInv h b len Bt T st u un kc ke) (hbb : b + 1000 ≤ 1000000) : Ct d m_5_fault [.ref 1] z z h (fun r h' => ∃ (f : Int) (T0 : TT), Told Bt len f T0 ∧ CQ f h (b + 1000) len Bt T st u un kc ke r h') := by
  refine Ct.of (by decide) ⟨Nat.le_refl _, Nat.le_refl _⟩ (Nat.le_of_ble_eq_true rfl) ?_
  obtain ⟨lt, dt, E, bf, B, K, hP, hE, hk, hln, hBt, hu, hS, hRu, hRk⟩ := hI
  obtain ⟨hM, hId, hX, hT, hB, hK, hSc⟩ := id hP
  obtain ⟨⟨l0, m0, N0, hR3, hR4⟩, ⟨T2, hT2⟩, hSc3, hSc4, hSc5⟩ := id hSc
  have hId0 := hId
  unfold Ids at hId
  have hM0 := hM
  unfold Mn at hM0
  refine x_aload_n D_5_fault_0 rfl ?_
  refine x_getfield D_5_fault_1 f_5_16 (by assumption) rfl ?_
  refine x_aload_n D_5_fault_4 rfl ?_
  refine x_getfield D_5_fault_5 f_5_9 (by assumption) rfl ?_
  refine x_aload_n D_5_fault_8 rfl ?_
  refine x_getfield D_5_fault_9 f_5_81 (by assumption) rfl ?_
  refine x_aload_n D_5_fault_12 rfl ?_
  refine x_getfield D_5_fault_13 f_5_27 (by assumption) rfl ?_
  refine x_invV (d' := d - 1) D_5_fault_16 l_5_73 mi_3_readTable (c_3_readTable (by omega) hR3 hR4 hX hT2 (by omega) (by omega) (by omega) hln hBt) (by assumption) rfl rfl (by omega) rfl (fun q => q) rfl rfl (fun r16 h16 q16 => ?_)
  obtain ⟨f, T', lt1, m1, N1, rfl, w1, w2, w3, w4, w5⟩ := q16
  obtain ⟨T0, t1, t2⟩ := told_of w1
  have hkp : ∀ q : Nat, (q < dt ∨ dt + 8 < q) → (q < 3 ∨ 4 < q) → h16 q = h q := w5
  have hsc2 : Scr h16 dt := by
    obtain ⟨g3, g4⟩ : (∃ E2 : TT, EvAt h16 28 E2) ∧ (∃ (gv : Int) (Go : Int → Int), GvAt h16 35 gv Go) := by
      obtain ⟨E2, y⟩ := hSc3
      obtain ⟨gv, Go, y4⟩ := hSc4
      exact ⟨⟨E2, y.kept (fun q q1 q2 => hkp q (by omega) (by omega))⟩, ⟨gv, Go, y4.kept (fun q q1 q2 => hkp q (by omega) (by omega))⟩⟩
    refine ⟨⟨lt1, m1, N1, w3, w4⟩, ⟨T', w2⟩, g3, g4, ?_⟩
    obtain ⟨m, S, gv, Fi, Me, En, y⟩ := hSc5
    exact ⟨m, S, gv, Fi, Me, En, y.kept (fun q q1 q2 => hkp q (by omega) (by omega))⟩
  refine x_ireturn D_5_fault_19 rfl (by first | rfl | exact nb_bi _ | decide +kernel) rfl ?_
  exact ⟨f, T0, t1, rfl, ⟨lt, dt, E, bf, B, K, ⟨(hkp 1 (by omega) (by omega)).trans hM, hId0, (hkp 2 (by omega) (by omega)).trans hX, hT.kept (fun q q1 q2 => hkp q (by omega) (by omega)), hB.kept (fun q hq => hkp q (by omega) (by omega)), hK.kept (fun q hq => hkp q (by omega) (by omega)), hsc2⟩, hE.kept (fun q q1 q2 => hkp q (by omega) (by omega)), hk, hln, hBt, ⟨hu.1, hu.2.1, by omega, by omega⟩, ⟨hS.1.mono (by omega), hS.2⟩, hRu.mono (by omega), hRk.mono (by omega)⟩, fun q hq => hkp q (by omega) (by omega)⟩
abbrev layC (f : Int) (T0 : TT) : Prop := f = -4 ∧ 1 ≤ T0 0 0 ∧ 1 ≤ T0 2 0
theorem c_5_lay (hd : 4 ≤ d) (hI : CInv h b len Bt T st u un kc ke) (hbb : b + 1000 ≤ 1000000) : Ct d m_5_lay [.ref 1] z z h (fun r h' => ∃ (f : Int) (T0 : TT), Told Bt len f T0 ∧ ((layC f T0 ∧ ∃ T' : TT, AgT T0 T' ∧ CQ (T0 0 0) h (b + 1000) len Bt T' (layS T') 0 un 0 ke r h') ∨ (¬ layC f T0 ∧ CQ (-2) h (b + 1000) len Bt T st u un kc ke r h'))) := by
  refine Ct.of (by decide) ⟨Nat.le_refl _, Nat.le_refl _⟩ (Nat.le_of_ble_eq_true rfl) ?_
  obtain ⟨lt, dt, E, bf, B, K, hP, hE, hk, hln, hBt, hu, hS, hRu, hRk⟩ := hI
  obtain ⟨hM, hId, hX, hT, hB, hK, hSc⟩ := id hP
  obtain ⟨⟨l0, m0, N0, hR3, hR4⟩, ⟨T2, hT2⟩, hSc3, hSc4, hSc5⟩ := id hSc
  have hId0 := hId
  unfold Ids at hId
  have hM0 := hM
  unfold Mn at hM0
  refine x_aload_n D_5_lay_0 rfl ?_
  refine x_getfield D_5_lay_1 f_5_16 (by assumption) rfl ?_
  refine x_aload_n D_5_lay_4 rfl ?_
  refine x_getfield D_5_lay_5 f_5_9 (by assumption) rfl ?_
  refine x_aload_n D_5_lay_8 rfl ?_
  refine x_getfield D_5_lay_9 f_5_81 (by assumption) rfl ?_
  refine x_aload_n D_5_lay_12 rfl ?_
  refine x_getfield D_5_lay_13 f_5_27 (by assumption) rfl ?_
  refine x_invV (d' := d - 1) D_5_lay_16 l_5_73 mi_3_readTable (c_3_readTable (by omega) hR3 hR4 hX hT2 (by omega) (by omega) (by omega) hln hBt) (by assumption) rfl rfl (by omega) rfl (fun q => q) rfl rfl (fun r16 h16 q16 => ?_)
  obtain ⟨f, T', lt1, m1, N1, rfl, w1, w2, w3, w4, w5⟩ := q16
  obtain ⟨T0, t1, t2⟩ := told_of w1
  have hf := prsR_rng _ _ _ _ _ (by omega) t1
  have hk' : TabOk T' := prsR_ok _ _ _ _ _ (ok_clear T2) w1
  have k0' := hk'.1
  have k2' := hk'.2.1
  have t20 := t2.1.1
  have t22 := t2.1.2.1
  have hkp : ∀ q : Nat, (q < dt ∨ dt + 8 < q) → (q < 3 ∨ 4 < q) → h16 q = h q := w5
  have hM1 := (hkp 1 (by omega) (by omega)).trans hM0
  have hM2 : Mn h16 len lt dt u kc := hM1
  obtain ⟨g3, g4⟩ : (∃ E2 : TT, EvAt h16 28 E2) ∧ (∃ (gv : Int) (Go : Int → Int), GvAt h16 35 gv Go) := by
    obtain ⟨E2, y⟩ := hSc3
    obtain ⟨gv, Go, y4⟩ := hSc4
    exact ⟨⟨E2, y.kept (fun q q1 q2 => hkp q (by omega) (by omega))⟩, ⟨gv, Go, y4.kept (fun q q1 q2 => hkp q (by omega) (by omega))⟩⟩
  have g5 : ∃ (m S gv : Int) (Fi Me En : Int → Int), OrAt h16 46 m S gv Fi Me En := by
    obtain ⟨m, S, gv, Fi, Me, En, y⟩ := hSc5
    exact ⟨m, S, gv, Fi, Me, En, y.kept (fun q q1 q2 => hkp q (by omega) (by omega))⟩
  have hT1 : TabAt h16 lt T := hT.kept (fun q q1 q2 => hkp q (by omega) (by omega))
  have hsc2 : Scr h16 dt := ⟨⟨lt1, m1, N1, w3, w4⟩, ⟨T', w2⟩, g3, g4, g5⟩
  have hE1 : EvAt h16 23 E := hE.kept (fun q q1 q2 => hkp q (by omega) (by omega))
  have hB1 : Bf h16 bf B := hB.kept (fun q hq => hkp q (by omega) (by omega))
  have hK1 : Kp h16 K := hK.kept (fun q hq => hkp q (by omega) (by omega))
  have hX1 := (hkp 2 (by omega) (by omega)).trans hX
  have w20 := w2.1
  have hf1 : ∀ q : Nat, (q ≠ 1 ∧ (q < 23 ∨ 27 < q)) → h16 q = h16 q := fun _ _ => rfl
  refine x_bipush D_5_lay_19 (by decide +kernel) ?_
  refine x_icmp_ne D_5_lay_21 ⟨by omega, by omega⟩ ⟨by omega, by omega⟩ (fun c21 => ?_) (fun c21 => ?_)
  · refine x_bipush D_5_lay_46 (by decide +kernel) ?_
    refine x_ireturn D_5_lay_48 rfl (by first | rfl | exact nb_bi _ | decide +kernel) rfl ?_
    exact ⟨f, T0, t1, Or.inr ⟨fun q => by unfold layC at q; omega, rfl, ⟨lt, dt, E, bf, B, K, ⟨hM2, hId0, hX1, hT1, hB1, hK1, hsc2⟩, hE1, hk, hln, hBt, ⟨hu.1, hu.2.1, by omega, by omega⟩, ⟨hS.1.mono (by omega), hS.2⟩, hRu.mono (by omega), hRk.mono (by omega)⟩, fun q hq => hkp q (by omega) (by omega)⟩⟩
  refine x_aload_n D_5_lay_24 rfl ?_
  refine x_getfield D_5_lay_25 f_5_27 (by assumption) rfl ?_
  refine x_getfield D_5_lay_28 f_5_85 (by assumption) rfl ?_
  refine x_iconst D_5_lay_31 ?_
  refine x_icmp_lt D_5_lay_32 ⟨by omega, by omega⟩ ⟨by omega, by omega⟩ (fun c32 => ?_) (fun c32 => ?_)
  · refine x_bipush D_5_lay_46 (by decide +kernel) ?_
    refine x_ireturn D_5_lay_48 rfl (by first | rfl | exact nb_bi _ | decide +kernel) rfl ?_
    exact ⟨f, T0, t1, Or.inr ⟨fun q => by unfold layC at q; omega, rfl, ⟨lt, dt, E, bf, B, K, ⟨hM2, hId0, hX1, hT1, hB1, hK1, hsc2⟩, hE1, hk, hln, hBt, ⟨hu.1, hu.2.1, by omega, by omega⟩, ⟨hS.1.mono (by omega), hS.2⟩, hRu.mono (by omega), hRk.mono (by omega)⟩, fun q hq => hkp q (by omega) (by omega)⟩⟩
  refine x_aload_n D_5_lay_35 rfl ?_
  refine x_getfield D_5_lay_36 f_5_27 (by assumption) rfl ?_
  refine x_getfield D_5_lay_39 f_5_88 (by assumption) rfl ?_
  refine x_iconst D_5_lay_42 ?_
  refine x_icmp_ge D_5_lay_43 ⟨by omega, by omega⟩ ⟨by omega, by omega⟩ (fun c43 => ?_) (fun c43 => ?_)
  · refine x_aload_n D_5_lay_49 rfl ?_
    refine x_getfield D_5_lay_50 f_5_27 (by assumption) rfl ?_
    refine x_astore_n D_5_lay_53 rfl rfl rfl ?_
    refine x_aload_n D_5_lay_54 rfl ?_
    refine x_aload_n D_5_lay_55 rfl ?_
    refine x_getfield D_5_lay_56 f_5_23 (by assumption) rfl ?_
    refine x_putR "WhileSaltMelts$Table" D_5_lay_59 f_5_27 (by assumption) (by decide +kernel) rfl (fun h59 e59 n59 => ?_)
    simp only [List.set_cons_zero, List.set_cons_succ] at e59
    first | (replace hM1 := (n59 _ (by omega)).trans hM1) | (replace hM1 := e59)
    replace hf1 := fun q hq => (n59 q (by omega)).trans (hf1 q hq)
    refine x_aload_n D_5_lay_62 rfl ?_
    refine x_aload_n D_5_lay_63 rfl ?_
    refine x_putR "WhileSaltMelts$Table" D_5_lay_64 f_5_23 (by assumption) (by decide +kernel) rfl (fun h64 e64 n64 => ?_)
    simp only [List.set_cons_zero, List.set_cons_succ] at e64
    first | (replace hM1 := (n64 _ (by omega)).trans hM1) | (replace hM1 := e64)
    replace hf1 := fun q hq => (n64 q (by omega)).trans (hf1 q hq)
    refine x_aload_n D_5_lay_67 rfl ?_
    refine x_getfield D_5_lay_68 f_5_33 (by assumption) rfl ?_
    refine x_aload_n D_5_lay_71 rfl ?_
    refine x_getfield D_5_lay_72 f_5_23 (by assumption) rfl ?_
    refine x_invV (d' := d - 1) D_5_lay_75 l_5_77 mi_0_begin (c_0_begin (by omega) (hE1.kept (fun q q1 q2 => (n64 q (by omega)).trans (n59 q (by omega)))) (w2.kept (fun q q1 q2 => (n64 q (by omega)).trans (n59 q (by omega)))) (by omega)) ((n64 23 (by omega)).trans ((n59 23 (by omega)).trans hE1.1)) rfl rfl (by omega) rfl (fun q => q) rfl rfl (fun r75 h75 q75 => ?_)
    obtain ⟨rfl, y1, y2⟩ := q75
    have hM1 := (y2 1 (by omega)).trans hM1
    have hf1 : ∀ q : Nat, (q ≠ 1 ∧ (q < 23 ∨ 27 < q)) → h75 q = h16 q := fun q hq => (y2 q (by omega)).trans (hf1 q hq)
    have w20 := (hf1 dt (by omega)).trans w20
    refine x_aload_n D_5_lay_78 rfl ?_
    refine x_iconst D_5_lay_79 ?_
    refine x_putI D_5_lay_80 f_5_91 (by assumption) (by decide +kernel) rfl (fun h80 e80 n80 => ?_)
    simp only [List.set_cons_zero, List.set_cons_succ] at e80
    first | (replace hM1 := (n80 _ (by omega)).trans hM1) | (replace hM1 := e80)
    replace hf1 := fun q hq => (n80 q (by omega)).trans (hf1 q hq)
    refine x_aload_n D_5_lay_83 rfl ?_
    refine x_iconst D_5_lay_84 ?_
    refine x_putI D_5_lay_85 f_5_94 (by assumption) (by decide +kernel) rfl (fun h85 e85 n85 => ?_)
    simp only [List.set_cons_zero, List.set_cons_succ] at e85
    first | (replace hM1 := (n85 _ (by omega)).trans hM1) | (replace hM1 := e85)
    replace hf1 := fun q hq => (n85 q (by omega)).trans (hf1 q hq)
    refine x_aload_n D_5_lay_88 rfl ?_
    skip
    refine x_getfield D_5_lay_89 f_5_23 (by assumption) rfl ?_
    refine x_getfield D_5_lay_92 f_5_85 ((n85 dt (by omega)).trans ((n80 dt (by omega)).trans w20)) rfl ?_
    refine x_ireturn D_5_lay_95 rfl (by first | rfl | exact nb_bi _ | decide +kernel) rfl ?_
    exact ⟨f, T0, t1, Or.inl ⟨⟨by omega, by omega, by omega⟩, T', t2, by rw [t20], ⟨dt, lt, _, bf, B, K, ⟨hM1, by unfold Ids; omega, (hf1 2 (by omega)).trans hX1, w2.kept (fun q q1 q2 => hf1 q (by omega)), hB1.kept (fun q hq => hf1 q (by omega)), hK1.kept (fun q hq => hf1 q (by omega)), (show Scr h16 lt from ⟨⟨lt1, m1, N1, w3, w4⟩, ⟨T, hT1⟩, g3, g4, g5⟩).kept (fun q hq => hf1 q (by omega))⟩, y1.kept (fun q q1 q2 => (n85 q (by omega)).trans (n80 q (by omega))), ⟨hk', by omega, by omega⟩, hln, hBt, ⟨by omega, by omega, by omega, by omega⟩, lay_ok hk' (by omega), fun j hj => absurd hj (by omega), fun j hj => absurd hj (by omega)⟩, fun q hq => (hf1 q (by omega)).trans (hkp q (by omega) (by omega))⟩⟩
  refine x_bipush D_5_lay_46 (by decide +kernel) ?_
  refine x_ireturn D_5_lay_48 rfl (by first | rfl | exact nb_bi _ | decide +kernel) rfl ?_
  exact ⟨f, T0, t1, Or.inr ⟨fun q => by unfold layC at q; omega, rfl, ⟨lt, dt, E, bf, B, K, ⟨hM2, hId0, hX1, hT1, hB1, hK1, hsc2⟩, hE1, hk, hln, hBt, ⟨hu.1, hu.2.1, by omega, by omega⟩, ⟨hS.1.mono (by omega), hS.2⟩, hRu.mono (by omega), hRk.mono (by omega)⟩, fun q hq => hkp q (by omega) (by omega)⟩⟩
end CM4
