theorem iByte_rng (a : Int) : -128 ≤ iByte a ∧ iByte a ≤ 127 := by
  unfold iByte
  rw [Int8.toInt_toInt32]
  have := Int8.le_toInt (ii a).toInt8
  have := Int8.toInt_lt (ii a).toInt8
  omega
/-- the byte of a by its place k, as the class stores it -/
def cbR (a : Int64) (k : Int) : Int := iByte (iByte (((a.toUInt64 >>> ((ii (8 * k)).toInt64.toUInt64 &&& Int64.toUInt64 63)).toInt64).toInt32.toInt))
def wrB (a : Int64) : Nat → Int → (Int → Int) → (Int → Int)
  | 0, _, F => F
  | k + 1, p, F => wrB a k (p + 1) (ups F p (cbR a (k : Int)))
theorem wrB_rng (a : Int64) : ∀ (k : Nat) (p : Int) (F : Int → Int), (∀ j : Int, -128 ≤ F j ∧ F j ≤ 127) → ∀ j : Int, -128 ≤ wrB a k p F j ∧ wrB a k p F j ≤ 127 := by
  intro k
  induction k with
  | zero => intro p F h; exact h
  | succ k ih =>
    intro p F h
    refine ih _ _ fun j => ?_
    unfold ups
    by_cases e : j = p
    · rw [if_pos e]; exact iByte_rng _
    · rw [if_neg e]; exact h j
section CM2
variable {d : Nat} {z : Nat × Nat} {h : Hp} {b len : Int} {Bt : Int → Int} {T : TT} {st : SS} {u : Nat} {un : Nat → SS} {kc : Nat} {ke : Nat → SS}
abbrev writeC (len n : Int) : Prop := (1 ≤ n ∧ n ≤ 8) ∧ len + n ≤ 300
def writeA (len n : Int) : Int := if 1 ≤ n ∧ n ≤ 8 then (if len + n ≤ 300 then len + n else -3) else -1
theorem c_5_write (hd : 4 ≤ d) (hI : CInv h b len Bt T st u un kc ke) (hbb : b + 1000 ≤ 1000000) {n : Int} {a : Int64} (hn : B3 n) : Ct d m_5_write [.ref 1, vi n, .long a] z z h (CQ (writeA len n) h (b + 1000) (if writeC len n then len + n else len) (if writeC len n then wrB a n.toNat len Bt else Bt) T st u un kc ke) := by
  refine Ct.of (by decide) ⟨Nat.le_refl _, Nat.le_refl _⟩ (Nat.le_of_ble_eq_true rfl) ?_
  have hI0 := hI
  obtain ⟨lt, dt, E, bf, B, K, hP, hE, hk, hln, hBt, hu, ⟨hS, hR⟩, hRu, hRk⟩ := hI
  obtain ⟨hM, hId, hX, hT, hB, hK, hSc⟩ := id hP
  unfold Ids at hId
  have hM0 := hM
  unfold Mn at hM0
  by_cases hc : writeC len n
  · rw [if_pos hc, if_pos hc]
    have hv : writeA len n = len + n := by unfold writeA; rw [if_pos hc.1, if_pos hc.2]
    rw [hv]
    have loop : ∀ (k : Nat) (j l : Int) (hh : Hp) (F : Int → Int), j = (k : Int) - 1 → 0 ≤ l → l + k = len + n → k ≤ 8 → wrB a k l F = wrB a n.toNat len Bt → Mn hh l lt dt u kc → hh 2 = some (ia 1 300 F) → (∀ q : Nat, (q ≠ 1 ∧ q ≠ 2) → hh q = h q) →
        WW d m_5_write z (CQ (len + n) h (b + 1000) (len + n) (wrB a n.toNat len Bt) T st u un kc ke) z hh 33 [(0, .ref 1), (1, vi n), (2, .long a), (4, vi j)] [] := by
      intro k
      induction k with
      | zero =>
        intro j l hh F hj hl0 hl hk8 hw hM1 hX1 hfr
        have hM9 := hM1
        unfold Mn at hM1
        have el : l = len + n := by omega
        have ew : F = wrB a n.toNat len Bt := hw
        rw [el] at hM1 hM9
        rw [ew] at hX1
        refine x_iload D_5_write_33 rfl ?_
        refine x_if_lt D_5_write_35 ⟨by omega, by omega⟩ (fun c35 => ?_) (fun c35 => ?_)
        · refine x_aload_n D_5_write_72 rfl ?_
          refine x_getfield D_5_write_73 f_5_81 (by assumption) rfl ?_
          refine x_ireturn D_5_write_76 rfl (by first | rfl | exact nb_bi _ | decide +kernel) rfl ?_
          exact ⟨rfl, ⟨lt, dt, E, bf, B, K, ⟨hM9, hId, hX1, hT.kept (fun q q1 q2 => hfr q (by omega)), hB.kept (fun q hq => hfr q (by omega)), hK.kept (fun q hq => hfr q (by omega)), hSc.kept (fun q hq => hfr q (by omega))⟩, hE.kept (fun q q1 q2 => hfr q (by omega)), hk, ⟨by omega, by omega⟩, wrB_rng a _ _ _ hBt, ⟨hu.1, hu.2.1, by omega, by omega⟩, ⟨hS.mono (by omega), hR⟩, hRu.mono (by omega), hRk.mono (by omega)⟩, fun q hq => hfr q (by omega)⟩
        exact absurd c35 (by omega)
      | succ k ih =>
        intro j l hh F hj hl0 hl hk8 hw hM1 hX1 hfr
        obtain rfl : j = (k : Int) := by omega
        unfold Mn at hM1
        refine x_iload D_5_write_33 rfl ?_
        refine x_if_lt D_5_write_35 ⟨by omega, by omega⟩ (fun c35 => ?_) (fun c35 => ?_)
        · exact absurd c35 (by omega)
        refine x_aload_n D_5_write_38 rfl ?_
        refine x_getfield D_5_write_39 f_5_9 (by assumption) rfl ?_
        refine x_aload_n D_5_write_42 rfl ?_
        refine x_getfield D_5_write_43 f_5_81 (by assumption) rfl ?_
        refine x_lload_n D_5_write_46 rfl ?_
        refine x_bipush D_5_write_47 (by decide +kernel) ?_
        refine x_iload D_5_write_49 rfl ?_
        refine x_imul D_5_write_51 ?_
        refine x_lushr D_5_write_52 ?_
        refine x_l2i D_5_write_53 ?_
        refine x_i2b D_5_write_54 ?_
        refine x_bastore D_5_write_55 (by assumption) (by omega) (by omega) rfl (fun h55 e55 n55 => ?_)
        first | (replace hM1 := (n55 _ (by omega)).trans hM1) | (replace hM1 := e55)
        first | (replace hX1 := (n55 _ (by omega)).trans hX1) | (replace hX1 := e55)
        replace hfr := fun q hq => (n55 q (by omega)).trans (hfr q hq)
        refine x_aload_n D_5_write_56 rfl ?_
        refine x_dup D_5_write_57 rfl ?_
        refine x_getfield D_5_write_58 f_5_81 (by assumption) rfl ?_
        refine x_iconst D_5_write_61 ?_
        refine x_iadd D_5_write_62 ?_
        refine x_putI D_5_write_63 f_5_81 (by assumption) (by decide +kernel) rfl (fun h63 e63 n63 => ?_)
        simp only [List.set_cons_zero, List.set_cons_succ] at e63
        first | (replace hM1 := (n63 _ (by omega)).trans hM1) | (replace hM1 := e63)
        first | (replace hX1 := (n63 _ (by omega)).trans hX1) | (replace hX1 := e63)
        replace hfr := fun q hq => (n63 q (by omega)).trans (hfr q hq)
        refine x_iinc D_5_write_66 rfl rfl rfl rfl ?_
        refine x_goto D_5_write_69 ?_
        refine (ih ((k : Int) - 1) (l + 1) h63 (ups F l (cbR a (k : Int))) rfl (by omega) (by omega) (by omega) hw ?_ ?_ hfr).sub rfl
        · exact hM1
        · exact hX1
    refine x_iload_n D_5_write_0 rfl ?_
    refine x_iconst D_5_write_1 ?_
    refine x_icmp_lt D_5_write_2 hn ⟨by omega, by omega⟩ (fun c2 => ?_) (fun c2 => ?_)
    · exact absurd c2 (by omega)
    refine x_iload_n D_5_write_5 rfl ?_
    refine x_bipush D_5_write_6 (by decide +kernel) ?_
    refine x_icmp_le D_5_write_8 hn ⟨by omega, by omega⟩ (fun c8 => ?_) (fun c8 => ?_)
    · refine x_aload_n D_5_write_13 rfl ?_
      refine x_getfield D_5_write_14 f_5_81 (by assumption) rfl ?_
      refine x_iload_n D_5_write_17 rfl ?_
      refine x_iadd D_5_write_18 ?_
      refine x_sipush D_5_write_19 (by decide +kernel) ?_
      refine x_icmp_le D_5_write_22 ⟨by omega, by omega⟩ ⟨by omega, by omega⟩ (fun c22 => ?_) (fun c22 => ?_)
      · refine x_iload_n D_5_write_28 rfl ?_
        refine x_iconst D_5_write_29 ?_
        refine x_isub D_5_write_30 ?_
        refine x_istore D_5_write_31 rfl rfl rfl ?_
        exact (loop n.toNat (n - 1) len h Bt (by omega) (by omega) (by omega) (by omega) rfl hM hX (fun q hq => rfl)).sub rfl
      exact absurd c22 (by omega)
    exact absurd c8 (by omega)
  · rw [if_neg hc, if_neg hc]
    refine x_iload_n D_5_write_0 rfl ?_
    refine x_iconst D_5_write_1 ?_
    refine x_icmp_lt D_5_write_2 hn ⟨by omega, by omega⟩ (fun c2 => ?_) (fun c2 => ?_)
    · refine x_iconst D_5_write_11 ?_
      refine x_ireturn D_5_write_12 rfl (by first | rfl | exact nb_bi _ | decide +kernel) rfl ?_
      exact CQ.eq hI0 (by omega) hbb (by unfold writeA; rw [if_neg (by omega)])
    refine x_iload_n D_5_write_5 rfl ?_
    refine x_bipush D_5_write_6 (by decide +kernel) ?_
    refine x_icmp_le D_5_write_8 hn ⟨by omega, by omega⟩ (fun c8 => ?_) (fun c8 => ?_)
    · refine x_aload_n D_5_write_13 rfl ?_
      refine x_getfield D_5_write_14 f_5_81 (by assumption) rfl ?_
      refine x_iload_n D_5_write_17 rfl ?_
      refine x_iadd D_5_write_18 ?_
      refine x_sipush D_5_write_19 (by decide +kernel) ?_
      refine x_icmp_le D_5_write_22 ⟨by omega, by omega⟩ ⟨by omega, by omega⟩ (fun c22 => ?_) (fun c22 => ?_)
      · exact absurd ⟨⟨by omega, by omega⟩, by omega⟩ hc
      refine x_bipush D_5_write_25 (by decide +kernel) ?_
      refine x_ireturn D_5_write_27 rfl (by first | rfl | exact nb_bi _ | decide +kernel) rfl ?_
      exact CQ.eq hI0 (by omega) hbb (by unfold writeA; rw [if_pos (by omega), if_neg (by omega)])
    refine x_iconst D_5_write_11 ?_
    refine x_ireturn D_5_write_12 rfl (by first | rfl | exact nb_bi _ | decide +kernel) rfl ?_
    exact CQ.eq hI0 (by omega) hbb (by unfold writeA; rw [if_neg (by omega)])
abbrev takeC (T : TT) (st : SS) (i g : Int) : Prop := ((0 ≤ i ∧ i < T 0 0) ∧ 0 ≤ g ∧ g < T 2 0) ∧ st 2 ≤ st 0 ∧ st (6 + i) ≤ st 0 ∧ hasB (st 3) g
def takeA (T : TT) (st : SS) (i g : Int) : Int := if (0 ≤ i ∧ i < T 0 0) ∧ 0 ≤ g ∧ g < T 2 0 then (if takeC T st i g then st 0 + T 3 g * st (11 + i) else -2) else -1
theorem c_5_take (hd : 4 ≤ d) (hI : CInv h b len Bt T st u un kc ke) (hbb : b + 1000 ≤ 1000000) {i g : Int} (hi : B3 i) (hg : B3 g) : Ct d m_5_take [.ref 1, vi i, vi g] z z h (CQ (takeA T st i g) h (b + 1000) len Bt T (if takeC T st i g then takeS T st i g else st) (if takeC T st i g then rmU u else u) (if takeC T st i g then rmF u un st else un) kc ke) := by
  refine Ct.of (by decide) ⟨Nat.le_refl _, Nat.le_refl _⟩ (Nat.le_of_ble_eq_true rfl) ?_
  have hI0 := hI
  obtain ⟨lt, dt, E, bf, B, K, hP, hE, hk, hln, hBt, hu, hS, hRu, hRk⟩ := hI
  obtain ⟨hM, hId, hX, hT, hB, hK, hSc⟩ := id hP
  unfold Ids at hId
  have hM0 := hM
  unfold Mn at hM0
  obtain ⟨e0, e1, e2, e3, e4⟩ := id hE
  have k0 := hk.1.1
  have k2 := hk.1.2.1
  have hs0 := hS.1.1
  have hs2 := hS.1.2.2.1
  have hs6 := hS.1.2.2.2.2.2.2.1
  have r0 := hS.2.1
  have r1 := hS.2.2.1
  have r5 := hS.2.2.2.2.2.1
  have r6 := hS.2.2.2.2.2.2.2.1
  by_cases hc : takeC T st i g
  · rw [if_pos hc, if_pos hc, if_pos hc]
    have hv : takeA T st i g = st 0 + T 3 g * st (11 + i) := by unfold takeA; rw [if_pos hc.1, if_pos hc]
    rw [hv]
    obtain ⟨p1, p2⟩ := take_ok hk.1 hS.1 hS.2 hc.1.1 hc.1.2
    obtain ⟨⟨hci, hcg⟩, hc2, hc3, hc4⟩ := hc
    have ri := r6 i hci.1 hci.2
    have si := hs6 i hci.1 hci.2
    refine x_aload_n D_5_take_0 rfl ?_
    refine x_iload_n D_5_take_1 rfl ?_
    refine x_invV (d' := d - 1) D_5_take_2 l_5_97 mi_5_isPerson (c_5_isPerson (by omega) hM hT hk.1 hi) (by assumption) rfl rfl (by omega) rfl (fun q => q) rfl rfl (fun r2 h2 q2 => ?_)
    obtain ⟨rfl, rfl⟩ := q2
    refine x_if_eqb D_5_take_5 (fun c5 => ?_) (fun c5 => ?_)
    · exact absurd hci c5
    refine x_aload_n D_5_take_8 rfl ?_
    refine x_iload_n D_5_take_9 rfl ?_
    refine x_invV (d' := d - 1) D_5_take_10 l_5_136 mi_5_isGrain (c_5_isGrain (by omega) hM hT hk.1 hg) (by assumption) rfl rfl (by omega) rfl (fun q => q) rfl rfl (fun r10 h10 q10 => ?_)
    obtain ⟨rfl, rfl⟩ := q10
    refine x_if_neb D_5_take_13 (fun c13 => ?_) (fun c13 => ?_)
    · refine x_aload_n D_5_take_18 rfl ?_
      refine x_getfield D_5_take_19 f_5_33 (by assumption) rfl ?_
      refine x_invV (d' := d - 1) D_5_take_22 l_5_142 mi_0_aGrainMelts (c_0_aGrainMelts (by omega) hE (by rw [r0]; exact ⟨by omega, by omega⟩) (by rw [r5]; exact ⟨by omega, by omega⟩)) (by assumption) rfl rfl (by omega) rfl (fun q => q) rfl rfl (fun r22 h22 q22 => ?_)
      obtain ⟨rfl, rfl⟩ := q22
      refine x_if_neb D_5_take_25 (fun c25 => ?_) (fun c25 => ?_)
      · exact absurd c25 (by omega)
      refine x_aload_n D_5_take_28 rfl ?_
      refine x_getfield D_5_take_29 f_5_33 (by assumption) rfl ?_
      refine x_getfield D_5_take_32 f_5_146 (by assumption) rfl ?_
      refine x_aload_n D_5_take_35 rfl ?_
      refine x_getfield D_5_take_36 f_5_33 (by assumption) rfl ?_
      refine x_getfield D_5_take_39 f_5_108 (by assumption) rfl ?_
      refine x_iload_n D_5_take_42 rfl ?_
      refine x_iaload D_5_take_43 (by assumption) (by omega) (by omega) rfl ?_
      rw [r0, ri.2.1]
      refine x_icmp_lt D_5_take_44 ⟨by omega, by omega⟩ ⟨by omega, by omega⟩ (fun c44 => ?_) (fun c44 => ?_)
      · exact absurd c44 (by omega)
      refine x_aload_n D_5_take_47 rfl ?_
      refine x_getfield D_5_take_48 f_5_33 (by assumption) rfl ?_
      refine x_getfield D_5_take_51 f_5_149 (by assumption) rfl ?_
      rw [r1]
      refine x_iload_n D_5_take_54 rfl ?_
      refine x_invS2 (d' := d - 1) D_5_take_55 l_5_129 mi_5_isIn (c_5_isIn (by omega))  rfl (by omega) rfl (fun q => q) rfl rfl (fun r55 h55 q55 => ?_)
      obtain ⟨rfl, rfl⟩ := q55
      refine x_if_neb D_5_take_58 (fun c58 => ?_) (fun c58 => ?_)
      · refine x_aload_n D_5_take_64 rfl ?_
        refine x_invV (d' := d - 1) D_5_take_65 l_5_152 mi_5_remember (c_5_remember (by omega) hM hE hB hu.1) (hM0) rfl rfl (by omega) rfl (fun q => q) rfl rfl (fun r65 h65 q65 => ?_)
        obtain ⟨rfl, g1, ⟨bf', B', g2, g3⟩, g4⟩ := q65
        have hP2 := after_rem hP g1 g2 g4
        unfold Mn at g1
        have e0 := (g4 23 (by omega)).trans e0
        have e1 := (g4 24 (by omega)).trans e1
        have e2 := (g4 25 (by omega)).trans e2
        have e3 := (g4 26 (by omega)).trans e3
        have e4 := (g4 27 (by omega)).trans e4
        have hfr : ∀ q : Nat, (q < 23 ∨ 27 < q) → h65 q = h65 q := fun _ _ => rfl
        obtain ⟨b0, b1, b2, b3, b4, b5, b6, b7, b8⟩ := hP2.2.2.2.1
        refine x_aload_n D_5_take_68 rfl ?_
        refine x_getfield D_5_take_69 f_5_23 (by assumption) rfl ?_
        refine x_getfield D_5_take_72 f_5_139 (by assumption) rfl ?_
        refine x_iload_n D_5_take_75 rfl ?_
        refine x_iaload D_5_take_76 (by assumption) (by omega) (by omega) rfl ?_
        refine x_aload_n D_5_take_77 rfl ?_
        refine x_getfield D_5_take_78 f_5_33 (by assumption) rfl ?_
        refine x_getfield D_5_take_81 f_5_101 (by assumption) rfl ?_
        refine x_iload_n D_5_take_84 rfl ?_
        refine x_iaload D_5_take_85 (by assumption) (by omega) (by omega) rfl ?_
        rw [ri.1]
        refine x_imul D_5_take_86 ?_
        refine x_istore_n D_5_take_87 rfl rfl rfl ?_
        refine x_aload_n D_5_take_88 rfl ?_
        refine x_getfield D_5_take_89 f_5_33 (by assumption) rfl ?_
        refine x_dup D_5_take_92 rfl ?_
        refine x_getfield D_5_take_93 f_5_149 (by assumption) rfl ?_
        refine x_iconst D_5_take_96 ?_
        refine x_iload_n D_5_take_97 rfl ?_
        refine x_ishl D_5_take_98 ?_
        refine x_iconst D_5_take_99 ?_
        refine x_ixor D_5_take_100 ?_
        refine x_iand D_5_take_101 ?_
        refine x_putI D_5_take_102 f_5_149 (by assumption) (by decide +kernel) rfl (fun h102 e102 n102 => ?_)
        simp only [List.set_cons_zero, List.set_cons_succ] at e102
        first | (replace g1 := (n102 _ (by omega)).trans g1) | (replace g1 := e102)
        first | (replace e0 := (n102 _ (by omega)).trans e0) | (replace e0 := e102)
        first | (replace e1 := (n102 _ (by omega)).trans e1) | (replace e1 := e102)
        first | (replace e2 := (n102 _ (by omega)).trans e2) | (replace e2 := e102)
        first | (replace e3 := (n102 _ (by omega)).trans e3) | (replace e3 := e102)
        first | (replace e4 := (n102 _ (by omega)).trans e4) | (replace e4 := e102)
        replace hfr := fun q hq => (n102 q (by omega)).trans (hfr q hq)
        refine x_aload_n D_5_take_105 rfl ?_
        refine x_getfield D_5_take_106 f_5_33 (by assumption) rfl ?_
        refine x_iload_n D_5_take_109 rfl ?_
        refine x_putI D_5_take_110 f_5_155 (by assumption) (by decide +kernel) rfl (fun h110 e110 n110 => ?_)
        simp only [List.set_cons_zero, List.set_cons_succ] at e110
        first | (replace g1 := (n110 _ (by omega)).trans g1) | (replace g1 := e110)
        first | (replace e0 := (n110 _ (by omega)).trans e0) | (replace e0 := e110)
        first | (replace e1 := (n110 _ (by omega)).trans e1) | (replace e1 := e110)
        first | (replace e2 := (n110 _ (by omega)).trans e2) | (replace e2 := e110)
        first | (replace e3 := (n110 _ (by omega)).trans e3) | (replace e3 := e110)
        first | (replace e4 := (n110 _ (by omega)).trans e4) | (replace e4 := e110)
        replace hfr := fun q hq => (n110 q (by omega)).trans (hfr q hq)
        refine x_aload_n D_5_take_113 rfl ?_
        refine x_getfield D_5_take_114 f_5_33 (by assumption) rfl ?_
        refine x_aload_n D_5_take_117 rfl ?_
        refine x_getfield D_5_take_118 f_5_33 (by assumption) rfl ?_
        refine x_getfield D_5_take_121 f_5_146 (by assumption) rfl ?_
        rw [r0]
        refine x_iload_n D_5_take_124 rfl ?_
        refine x_iadd D_5_take_125 ?_
        refine x_putI D_5_take_126 f_5_158 (by assumption) (by decide +kernel) rfl (fun h126 e126 n126 => ?_)
        simp only [List.set_cons_zero, List.set_cons_succ] at e126
        first | (replace g1 := (n126 _ (by omega)).trans g1) | (replace g1 := e126)
        first | (replace e0 := (n126 _ (by omega)).trans e0) | (replace e0 := e126)
        first | (replace e1 := (n126 _ (by omega)).trans e1) | (replace e1 := e126)
        first | (replace e2 := (n126 _ (by omega)).trans e2) | (replace e2 := e126)
        first | (replace e3 := (n126 _ (by omega)).trans e3) | (replace e3 := e126)
        first | (replace e4 := (n126 _ (by omega)).trans e4) | (replace e4 := e126)
        replace hfr := fun q hq => (n126 q (by omega)).trans (hfr q hq)
        refine x_aload_n D_5_take_129 rfl ?_
        refine x_getfield D_5_take_130 f_5_33 (by assumption) rfl ?_
        refine x_getfield D_5_take_133 f_5_108 (by assumption) rfl ?_
        refine x_iload_n D_5_take_136 rfl ?_
        refine x_aload_n D_5_take_137 rfl ?_
        refine x_getfield D_5_take_138 f_5_33 (by assumption) rfl ?_
        refine x_getfield D_5_take_141 f_5_158 (by assumption) rfl ?_
        refine x_iload_n D_5_take_144 rfl ?_
        refine x_iadd D_5_take_145 ?_
        refine x_iastore D_5_take_146 (by assumption) (by omega) (by omega) rfl (fun h146 e146 n146 => ?_)
        first | (replace g1 := (n146 _ (by omega)).trans g1) | (replace g1 := e146)
        first | (replace e0 := (n146 _ (by omega)).trans e0) | (replace e0 := e146)
        first | (replace e1 := (n146 _ (by omega)).trans e1) | (replace e1 := e146)
        first | (replace e2 := (n146 _ (by omega)).trans e2) | (replace e2 := e146)
        first | (replace e3 := (n146 _ (by omega)).trans e3) | (replace e3 := e146)
        first | (replace e4 := (n146 _ (by omega)).trans e4) | (replace e4 := e146)
        replace hfr := fun q hq => (n146 q (by omega)).trans (hfr q hq)
        refine x_aload_n D_5_take_147 rfl ?_
        refine x_getfield D_5_take_148 f_5_33 (by assumption) rfl ?_
        refine x_getfield D_5_take_151 f_5_158 (by assumption) rfl ?_
        refine x_ireturn D_5_take_154 rfl (by first | rfl | exact nb_bi _ | decide +kernel) rfl ?_
        exact ⟨rfl, ⟨lt, dt, mkE (E 0 0) (iAnd (E 1 0) (iXor (iShl 1 g) (-1))) (E 2 0) (E 3 0) i (st 0 + T 3 g * st (11 + i)) (E 6) (E 7) (ups (E 8) i (st 0 + T 3 g * st (11 + i) + T 3 g * st (11 + i))) (E 9), bf', B', K, hP2.now hfr, ⟨e0, e1, e2, e3, e4⟩, hk, hln, hBt, ⟨rmU_le hu.1, hu.2.1, by omega, by omega⟩, ⟨p1, p2⟩, rem_ok hu.1 hRu hS (by omega) g3, hRk.mono (by omega)⟩, fun q hq => (hfr q (by omega)).trans (g4 q (by omega))⟩
      exact absurd hc4 c58
    exact absurd hcg c13
  · rw [if_neg hc, if_neg hc, if_neg hc]
    refine x_aload_n D_5_take_0 rfl ?_
    refine x_iload_n D_5_take_1 rfl ?_
    refine x_invV (d' := d - 1) D_5_take_2 l_5_97 mi_5_isPerson (c_5_isPerson (by omega) hM hT hk.1 hi) (by assumption) rfl rfl (by omega) rfl (fun q => q) rfl rfl (fun r2 h2 q2 => ?_)
    obtain ⟨rfl, rfl⟩ := q2
    refine x_if_eqb D_5_take_5 (fun c5 => ?_) (fun c5 => ?_)
    · refine x_iconst D_5_take_16 ?_
      refine x_ireturn D_5_take_17 rfl (by first | rfl | exact nb_bi _ | decide +kernel) rfl ?_
      first | exact CQ.eq hI0 (by omega) hbb (by unfold takeA; rw [if_neg (fun q => c5 q.1)]) | exact CQ.eq hI0 (by omega) hbb (by unfold takeA; rw [if_neg (fun q => c13 q.2)])
    refine x_aload_n D_5_take_8 rfl ?_
    refine x_iload_n D_5_take_9 rfl ?_
    refine x_invV (d' := d - 1) D_5_take_10 l_5_136 mi_5_isGrain (c_5_isGrain (by omega) hM hT hk.1 hg) (by assumption) rfl rfl (by omega) rfl (fun q => q) rfl rfl (fun r10 h10 q10 => ?_)
    obtain ⟨rfl, rfl⟩ := q10
    refine x_if_neb D_5_take_13 (fun c13 => ?_) (fun c13 => ?_)
    · refine x_aload_n D_5_take_18 rfl ?_
      refine x_getfield D_5_take_19 f_5_33 (by assumption) rfl ?_
      refine x_invV (d' := d - 1) D_5_take_22 l_5_142 mi_0_aGrainMelts (c_0_aGrainMelts (by omega) hE (by rw [r0]; exact ⟨by omega, by omega⟩) (by rw [r5]; exact ⟨by omega, by omega⟩)) (by assumption) rfl rfl (by omega) rfl (fun q => q) rfl rfl (fun r22 h22 q22 => ?_)
      obtain ⟨rfl, rfl⟩ := q22
      refine x_if_neb D_5_take_25 (fun c25 => ?_) (fun c25 => ?_)
      · refine x_bipush D_5_take_61 (by decide +kernel) ?_
        refine x_ireturn D_5_take_63 rfl (by first | rfl | exact nb_bi _ | decide +kernel) rfl ?_
        exact CQ.eq hI0 (by omega) hbb (by unfold takeA; rw [if_pos ⟨c5, c13⟩, if_neg hc])
      refine x_aload_n D_5_take_28 rfl ?_
      refine x_getfield D_5_take_29 f_5_33 (by assumption) rfl ?_
      refine x_getfield D_5_take_32 f_5_146 (by assumption) rfl ?_
      refine x_aload_n D_5_take_35 rfl ?_
      refine x_getfield D_5_take_36 f_5_33 (by assumption) rfl ?_
      refine x_getfield D_5_take_39 f_5_108 (by assumption) rfl ?_
      refine x_iload_n D_5_take_42 rfl ?_
      refine x_iaload D_5_take_43 (by assumption) (by omega) (by omega) rfl ?_
      have ri := r6 i c5.1 c5.2
      have si := hs6 i c5.1 c5.2
      rw [r0, ri.2.1]
      refine x_icmp_lt D_5_take_44 ⟨by omega, by omega⟩ ⟨by omega, by omega⟩ (fun c44 => ?_) (fun c44 => ?_)
      · refine x_bipush D_5_take_61 (by decide +kernel) ?_
        refine x_ireturn D_5_take_63 rfl (by first | rfl | exact nb_bi _ | decide +kernel) rfl ?_
        exact CQ.eq hI0 (by omega) hbb (by unfold takeA; rw [if_pos ⟨c5, c13⟩, if_neg hc])
      refine x_aload_n D_5_take_47 rfl ?_
      refine x_getfield D_5_take_48 f_5_33 (by assumption) rfl ?_
      refine x_getfield D_5_take_51 f_5_149 (by assumption) rfl ?_
      rw [r1]
      refine x_iload_n D_5_take_54 rfl ?_
      refine x_invS2 (d' := d - 1) D_5_take_55 l_5_129 mi_5_isIn (c_5_isIn (by omega))  rfl (by omega) rfl (fun q => q) rfl rfl (fun r55 h55 q55 => ?_)
      obtain ⟨rfl, rfl⟩ := q55
      refine x_if_neb D_5_take_58 (fun c58 => ?_) (fun c58 => ?_)
      · exact absurd ⟨⟨c5, c13⟩, by omega, by omega, c58⟩ hc
      refine x_bipush D_5_take_61 (by decide +kernel) ?_
      refine x_ireturn D_5_take_63 rfl (by first | rfl | exact nb_bi _ | decide +kernel) rfl ?_
      exact CQ.eq hI0 (by omega) hbb (by unfold takeA; rw [if_pos ⟨c5, c13⟩, if_neg hc])
    refine x_iconst D_5_take_16 ?_
    refine x_ireturn D_5_take_17 rfl (by first | rfl | exact nb_bi _ | decide +kernel) rfl ?_
    first | exact CQ.eq hI0 (by omega) hbb (by unfold takeA; rw [if_neg (fun q => c5 q.1)]) | exact CQ.eq hI0 (by omega) hbb (by unfold takeA; rw [if_neg (fun q => c13 q.2)])
end CM2
