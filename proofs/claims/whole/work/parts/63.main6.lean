noncomputable def leadT (T : TT) (st : SS) (i j : Int) : Int := sumSet (T 7) (iAnd (gvT T st) (soF T i (T 4 0).toNat)) (T 4 0).toNat - sumSet (T 7) (iAnd (gvT T st) (soF T j (T 4 0).toNat)) (T 4 0).toNat
theorem worth_rng {T : TT} (hk : TabOk T) (s : Int) : 0 ≤ sumSet (T 7) s (T 4 0).toNat ∧ sumSet (T 7) s (T 4 0).toNat ≤ 693 := by
  have h4 := hk.2.2.1
  obtain ⟨a, b⟩ := sumSet_le (F := T 7) (s := s) (M := 99) (by omega) (T 4 0).toNat (fun k hk2 => (hk.2.2.2.2.2.2.2.1 (k : Int) (by omega) (by omega)).2.2.1)
  exact ⟨a, by omega⟩
theorem lead_rng {T : TT} (hk : TabOk T) (st : SS) (i j : Int) : -693 ≤ leadT T st i j ∧ leadT T st i j ≤ 693 := by
  unfold leadT
  have a := worth_rng hk (iAnd (gvT T st) (soF T i (T 4 0).toNat))
  have b := worth_rng hk (iAnd (gvT T st) (soF T j (T 4 0).toNat))
  omega
section CM6
variable {d : Nat} {z : Nat × Nat} {h : Hp} {b len : Int} {Bt : Int → Int} {T : TT} {st : SS} {u : Nat} {un : Nat → SS} {kc : Nat} {ke : Nat → SS}
theorem c_5_giveE (hd : 3 ≤ d) {lt e : Nat} {E : TT} {gv0 : Int} {Go0 : Int → Int} (hT : TabAt h lt T) (hlt : lt = 5 ∨ lt = 14) (he : e = 23 ∨ e = 28) (hE : EvAt h e E) (hk : TabOk T) (hS : StOk T st b) (hR : ERel T E st) (hV : GvAt h 35 gv0 Go0) : Ct d m_1_give [.ref 35, .ref lt, .ref e] z z h (GvQ 35 h T (dryF st) (st 4) (st 3)) := by
  obtain ⟨k, q1, q2⟩ := hS.2.2.2.1
  have := c_1_give hd hV hT hE hk (hR.dr hS) (hR.2.1.trans q2) q1 (by omega) (by omega) (z := z)
  rw [hR.2.1, hR.2.2.1] at this
  exact this
theorem c_5_leadOf (hd : 4 ≤ d) {lt dt e : Nat} {uu kk : Int} {E : TT} {gv0 : Int} {Go0 : Int → Int} (hM : Mn h len lt dt uu kk) (hT : TabAt h lt T) (hlt : lt = 5 ∨ lt = 14) (he : e = 23 ∨ e = 28) (hE : EvAt h e E) (hk : TabOk T) (hS : StOk T st b) (hR : ERel T E st) (hV : GvAt h 35 gv0 Go0) {i j : Int} (hi : B3 i) (hj : B3 j) : Ct d m_5_leadOf [.ref 1, vi i, vi j, .ref e] z z h (fun r h' => r = some (vi (leadT T st i j)) ∧ (∃ (gv : Int) (Go : Int → Int), GvAt h' 35 gv Go) ∧ ∀ q : Nat, (q < 35 ∨ 45 < q) → h' q = h q) := by
  refine Ct.of (by decide) ⟨Nat.le_refl _, Nat.le_refl _⟩ (Nat.le_of_ble_eq_true rfl) ?_
  have hM0 := hM
  unfold Mn at hM0
  refine x_aload_n D_5_leadOf_0 rfl ?_
  refine x_getfield D_5_leadOf_1 f_5_50 (by assumption) rfl ?_
  refine x_aload_n D_5_leadOf_4 rfl ?_
  refine x_getfield D_5_leadOf_5 f_5_23 (by assumption) rfl ?_
  refine x_aload_n D_5_leadOf_8 rfl ?_
  refine x_invV (d' := d - 1) D_5_leadOf_9 l_5_186 mi_1_give (c_5_giveE (by omega) hT hlt he hE hk hS hR hV) (hV.1) rfl rfl (by omega) rfl (fun q => q) rfl rfl (fun r9 h9 q9 => ?_)
  obtain ⟨rfl, ⟨Go, w1, w2⟩, w3⟩ := q9
  have hM1 := (w3 1 (by omega)).trans hM0
  have hT1 : TabAt h9 lt T := hT.kept (fun q q1 q2 => w3 q (by omega))
  have v0 := w1.1
  have b0 := hT1.1
  refine x_aload_n D_5_leadOf_12 rfl ?_
  refine x_getfield D_5_leadOf_13 f_5_23 (by assumption) rfl ?_
  refine x_aload_n D_5_leadOf_16 rfl ?_
  refine x_getfield D_5_leadOf_17 f_5_50 (by assumption) rfl ?_
  refine x_getfield D_5_leadOf_20 f_5_190 (by assumption) rfl ?_
  refine x_aload_n D_5_leadOf_23 rfl ?_
  refine x_getfield D_5_leadOf_24 f_5_23 (by assumption) rfl ?_
  refine x_iload_n D_5_leadOf_27 rfl ?_
  refine x_invV (d' := d - 1) D_5_leadOf_28 l_5_246 mi_4_sayingsOf (c_4_sayingsOf (by omega) hT1 hk hi) (by assumption) rfl rfl (by omega) rfl (fun q => q) rfl rfl (fun r28 h28 q28 => ?_)
  obtain ⟨rfl, rfl⟩ := q28
  refine x_iand D_5_leadOf_31 ?_
  refine x_invV (d' := d - 1) D_5_leadOf_32 l_5_182 mi_4_worthOf (c_4_worthOf (by omega) hT1 hk) (by assumption) rfl rfl (by omega) rfl (fun q => q) rfl rfl (fun r32 h32 q32 => ?_)
  obtain ⟨rfl, rfl⟩ := q32
  refine x_aload_n D_5_leadOf_35 rfl ?_
  refine x_getfield D_5_leadOf_36 f_5_23 (by assumption) rfl ?_
  refine x_aload_n D_5_leadOf_39 rfl ?_
  refine x_getfield D_5_leadOf_40 f_5_50 (by assumption) rfl ?_
  refine x_getfield D_5_leadOf_43 f_5_190 (by assumption) rfl ?_
  refine x_aload_n D_5_leadOf_46 rfl ?_
  refine x_getfield D_5_leadOf_47 f_5_23 (by assumption) rfl ?_
  refine x_iload_n D_5_leadOf_50 rfl ?_
  refine x_invV (d' := d - 1) D_5_leadOf_51 l_5_246 mi_4_sayingsOf (c_4_sayingsOf (by omega) hT1 hk hj) (by assumption) rfl rfl (by omega) rfl (fun q => q) rfl rfl (fun r51 h51 q51 => ?_)
  obtain ⟨rfl, rfl⟩ := q51
  refine x_iand D_5_leadOf_54 ?_
  refine x_invV (d' := d - 1) D_5_leadOf_55 l_5_182 mi_4_worthOf (c_4_worthOf (by omega) hT1 hk) (by assumption) rfl rfl (by omega) rfl (fun q => q) rfl rfl (fun r55 h55 q55 => ?_)
  obtain ⟨rfl, rfl⟩ := q55
  refine x_isub D_5_leadOf_58 ?_
  refine x_ireturn D_5_leadOf_59 rfl (by first | rfl | exact nb_bi _ | decide +kernel) rfl ?_
  exact ⟨rfl, ⟨_, Go, w1⟩, w3⟩
noncomputable def dishF (T : TT) (st : SS) (i j : Int) : Nat → Int × Int
  | 0 => (leadT T st i j, -4)
  | k + 1 => if ¬ hasB (st 5) (k : Int) ∧ (dishF T st i j k).1 < leadT T (eatS T st (k : Int)) i j then (leadT T (eatS T st (k : Int)) i j, (k : Int)) else dishF T st i j k
theorem dishF_rng {T : TT} (hk : TabOk T) (st : SS) (i j : Int) : ∀ k : Nat, -693 ≤ (dishF T st i j k).1 ∧ (dishF T st i j k).1 ≤ 693 := by
  intro k
  induction k with
  | zero => exact lead_rng hk st i j
  | succ k ih =>
    simp only [dishF]
    split
    · exact lead_rng hk _ i j
    · exact ih
theorem dishF_t {T : TT} {st : SS} {i j : Int} {k : Nat} (h : ¬ hasB (st 5) (k : Int) ∧ (dishF T st i j k).1 < leadT T (eatS T st (k : Int)) i j) : dishF T st i j (k + 1) = (leadT T (eatS T st (k : Int)) i j, (k : Int)) := by
  simp only [dishF]
  rw [if_pos h]
theorem dishF_f {T : TT} {st : SS} {i j : Int} {k : Nat} (h : ¬ (¬ hasB (st 5) (k : Int) ∧ (dishF T st i j k).1 < leadT T (eatS T st (k : Int)) i j)) : dishF T st i j (k + 1) = dishF T st i j k := by
  simp only [dishF]
  rw [if_neg h]
abbrev dishC (T : TT) (i j : Int) : Prop := (0 ≤ i ∧ i < T 0 0) ∧ (0 ≤ j ∧ j < T 0 0) ∧ i ≠ j
noncomputable def dishA (T : TT) (st : SS) (i j : Int) : Int := if dishC T i j then (dishF T st i j (T 9 0).toNat).2 else -1
theorem c_5_dish (hd : 6 ≤ d) (hI : CInv h b len Bt T st u un kc ke) (hbb : b + 1000 ≤ 1000000) {i j : Int} (hi : B3 i) (hj : B3 j) : Ct d m_5_dish [.ref 1, vi i, vi j] z z h (CQ (dishA T st i j) h (b + 1000) len Bt T st u un kc ke) := by
  refine Ct.of (by decide) ⟨Nat.le_refl _, Nat.le_refl _⟩ (Nat.le_of_ble_eq_true rfl) ?_
  have hI0 := hI
  obtain ⟨lt, dt, E, bf, B, K, hP, hE, hk, hln, hBt, hu, hS, hRu, hRk⟩ := hI
  obtain ⟨hM, hId, hX, hT, hB, hK, hSc⟩ := id hP
  obtain ⟨-, -, ⟨E20, hE20⟩, ⟨gv0, Go0, hV⟩, hO⟩ := id hSc
  have hId0 := hId
  unfold Ids at hId
  have hM0 := hM
  unfold Mn at hM0
  have k9 := hk.1.2.2.2.1
  by_cases hc : dishC T i j
  · have hv : dishA T st i j = (dishF T st i j (T 9 0).toNat).2 := by unfold dishA; rw [if_pos hc]
    rw [hv]
    obtain ⟨hci, hcj, hij⟩ := hc
    have hlr := lead_rng hk.1 st i j
    have hlt : lt = 5 ∨ lt = 14 := by omega
    have loop : ∀ (n k : Nat) (hh : Hp), k + n = (T 9 0).toNat → (∃ E2 : TT, EvAt hh 28 E2) → (∃ (gv : Int) (Go : Int → Int), GvAt hh 35 gv Go) → (∀ q : Nat, (q < 28 ∨ 32 < q ∧ q < 35 ∨ 45 < q) → hh q = h q) →
        WW d m_5_dish z (CQ (dishF T st i j (T 9 0).toNat).2 h (b + 1000) len Bt T st u un kc ke) z hh 41 [(0, .ref 1), (1, vi i), (2, vi j), (3, vi (dishF T st i j k).1), (4, vi (dishF T st i j k).2), (5, vi (k : Int))] [] := by
      intro n
      induction n with
      | zero =>
        intro k hh hn hE2 hV2 hkp
        obtain rfl : k = (T 9 0).toNat := by omega
        have hM1 := (hkp 1 (by omega)).trans hM0
        have b0 := (hkp lt (by omega)).trans hT.1
        have fin : CInv hh (b + 1000) len Bt T st u un kc ke := by
          obtain ⟨m, S, gv, Fi, Me, En, y⟩ := hO
          exact CInv.scr hP hE hk hln hBt hu hS hRu hRk hbb (fun q hq => hkp q (by omega)) hE2 hV2 ⟨m, S, gv, Fi, Me, En, y.kept (fun q q1 q2 => hkp q (by omega))⟩
        clear hE2 hV2 hO
        refine x_iload D_5_dish_41 rfl ?_
        refine x_aload_n D_5_dish_43 rfl ?_
        refine x_getfield D_5_dish_44 f_5_23 (by assumption) rfl ?_
        refine x_getfield D_5_dish_47 f_5_216 (by assumption) rfl ?_
        refine x_icmp_ge D_5_dish_50 ⟨by omega, by omega⟩ ⟨by omega, by omega⟩ (fun c50 => ?_) (fun c50 => ?_)
        · refine x_iload D_5_dish_124 rfl ?_
          refine x_ireturn D_5_dish_126 rfl (by first | rfl | exact nb_bi _ | decide +kernel) rfl ?_
          exact ⟨rfl, fin, fun q hq => hkp q (by omega)⟩
        exact absurd c50 (by omega)
      | succ n ih =>
        intro k hh hn hE2 hV2 hkp
        have hM1 := (hkp 1 (by omega)).trans hM0
        have b0 := (hkp lt (by omega)).trans hT.1
        have hE1 : EvAt hh 23 E := hE.kept (fun q q1 q2 => hkp q (by omega))
        have e0 := hE1.1
        obtain ⟨E2, hE2⟩ := hE2
        obtain ⟨gv2, Go2, hV2⟩ := hV2
        have r3 := hS.2.2.2.2.1
        have hdr := hS.2.dr hS.1
        have hrng := dishF_rng hk.1 st i j k
        have hrng2 := lead_rng hk.1 (eatS T st (k : Int)) i j
        have hok := eat_ok hk.1 hS.1 hS.2 (show ((k : Nat) : Int) < T 9 0 by omega)
        clear hO
        refine x_iload D_5_dish_41 rfl ?_
        refine x_aload_n D_5_dish_43 rfl ?_
        refine x_getfield D_5_dish_44 f_5_23 (by assumption) rfl ?_
        refine x_getfield D_5_dish_47 f_5_216 (by assumption) rfl ?_
        refine x_icmp_ge D_5_dish_50 ⟨by omega, by omega⟩ ⟨by omega, by omega⟩ (fun c50 => ?_) (fun c50 => ?_)
        · exact absurd c50 (by omega)
        refine x_aload_n D_5_dish_53 rfl ?_
        refine x_getfield D_5_dish_54 f_5_33 (by assumption) rfl ?_
        refine x_getfield D_5_dish_57 f_5_167 (by assumption) rfl ?_
        rw [r3]
        refine x_iload D_5_dish_60 rfl ?_
        refine x_invS2 (d' := d - 1) D_5_dish_62 l_5_129 mi_5_isIn (c_5_isIn (by omega))  rfl (by omega) rfl (fun q => q) rfl rfl (fun r62 h62 q62 => ?_)
        obtain ⟨rfl, rfl⟩ := q62
        refine x_if_neb D_5_dish_65 (fun c65 => ?_) (fun c65 => ?_)
        · refine x_iinc D_5_dish_118 rfl rfl rfl rfl ?_
          refine x_goto D_5_dish_121 ?_
          first
          | exact (ih (k + 1) hh (by omega) ⟨E2, hE2⟩ ⟨gv2, Go2, hV2⟩ hkp).sub (by first | rw [dishF_f (fun q => q.1 c65)]; rfl | (rw [dishF_f (fun q => q.1 c65)]; simp [lg]))
          | skip
        refine x_aload_n D_5_dish_68 rfl ?_
        refine x_getfield D_5_dish_69 f_5_37 (by assumption) rfl ?_
        refine x_aload_n D_5_dish_72 rfl ?_
        refine x_getfield D_5_dish_73 f_5_33 (by assumption) rfl ?_
        refine x_invV (d' := d - 1) D_5_dish_76 l_5_174 mi_0_copyFrom (c_0_copyFrom (by omega) hE2 hE1 (by omega)) (hE2.1) rfl rfl (by omega) rfl (fun q => q) rfl rfl (fun r76 h76 q76 => ?_)
        obtain ⟨rfl, w1, w2⟩ := q76
        have hM1 := (w2 1 (by omega)).trans hM1
        have b0 := (w2 lt (by omega)).trans b0
        have hT1 : TabAt h76 lt T := hT.kept (fun q q1 q2 => (w2 q (by omega)).trans (hkp q (by omega)))
        refine x_aload_n D_5_dish_79 rfl ?_
        refine x_getfield D_5_dish_80 f_5_37 (by assumption) rfl ?_
        refine x_aload_n D_5_dish_83 rfl ?_
        refine x_getfield D_5_dish_84 f_5_23 (by assumption) rfl ?_
        refine x_iload D_5_dish_87 rfl ?_
        refine x_invV (d' := d - 1) D_5_dish_89 l_5_170 mi_0_eatDish (c_0_eatDish (by omega) w1 hT1 (by omega) hk.1 (by omega) (by omega) (fun i i0 i1 => by have := hdr i i0 i1; omega)) (w1.1) rfl rfl (by omega) rfl (fun q => q) rfl rfl (fun r89 h89 q89 => ?_)
        obtain ⟨rfl, y1, y2⟩ := q89
        have hM1 := (y2 1 (by omega)).trans hM1
        have b0 := (y2 lt (by omega)).trans b0
        have hT2 : TabAt h89 lt T := hT1.kept (fun q q1 q2 => y2 q (by omega))
        have hV3 : GvAt h89 35 gv2 Go2 := hV2.kept (fun q q1 q2 => (y2 q (by omega)).trans (w2 q (by omega)))
        have hM2 : Mn h89 len lt dt u kc := hM1
        refine x_pop D_5_dish_92 rfl ?_
        refine x_aload_n D_5_dish_93 rfl ?_
        refine x_iload_n D_5_dish_94 rfl ?_
        refine x_iload_n D_5_dish_95 rfl ?_
        refine x_aload_n D_5_dish_96 rfl ?_
        refine x_getfield D_5_dish_97 f_5_37 (by assumption) rfl ?_
        refine x_invV (d' := d - 1) D_5_dish_100 l_5_212 mi_5_leadOf (c_5_leadOf (by omega) hM2 hT2 hlt (Or.inr rfl) y1 hk.1 hok.1 hok.2 hV3 hi hj) (by assumption) rfl rfl (by omega) rfl (fun q => q) rfl rfl (fun r100 h100 q100 => ?_)
        obtain ⟨rfl, hV4, x2⟩ := q100
        have hkp2 : ∀ q : Nat, (q < 28 ∨ 32 < q ∧ q < 35 ∨ 45 < q) → h100 q = h q := fun q hq => (x2 q (by omega)).trans ((y2 q (by omega)).trans ((w2 q (by omega)).trans (hkp q hq)))
        have hE4 : ∃ E2 : TT, EvAt h100 28 E2 := ⟨_, y1.kept (fun q q1 q2 => x2 q (by omega))⟩
        refine x_istore D_5_dish_103 rfl rfl rfl ?_
        refine x_iload D_5_dish_105 rfl ?_
        refine x_iload_n D_5_dish_107 rfl ?_
        refine x_icmp_le D_5_dish_108 ⟨by omega, by omega⟩ ⟨by omega, by omega⟩ (fun c108 => ?_) (fun c108 => ?_)
        · refine x_iinc D_5_dish_118 rfl rfl rfl rfl ?_
          refine x_goto D_5_dish_121 ?_
          exact (ih (k + 1) h100 (by omega) hE4 hV4 hkp2).sub (by rw [dishF_f (fun q => absurd q.2 (by omega))]; rfl)
        refine x_iload D_5_dish_111 rfl ?_
        refine x_istore_n D_5_dish_113 rfl rfl rfl ?_
        refine x_iload D_5_dish_114 rfl ?_
        refine x_istore D_5_dish_116 rfl rfl rfl ?_
        refine x_iinc D_5_dish_118 rfl rfl rfl rfl ?_
        refine x_goto D_5_dish_121 ?_
        exact (ih (k + 1) h100 (by omega) hE4 hV4 hkp2).sub (by rw [dishF_t ⟨c65, by omega⟩]; rfl)
    refine x_aload_n D_5_dish_0 rfl ?_
    refine x_iload_n D_5_dish_1 rfl ?_
    refine x_invV (d' := d - 1) D_5_dish_2 l_5_97 mi_5_isPerson (c_5_isPerson (by omega) hM hT hk.1 hi) (by assumption) rfl rfl (by omega) rfl (fun q => q) rfl rfl (fun r2 h2 q2 => ?_)
    obtain ⟨rfl, rfl⟩ := q2
    refine x_if_eqb D_5_dish_5 (fun c5 => ?_) (fun c5 => ?_)
    · exact absurd hci c5
    refine x_aload_n D_5_dish_8 rfl ?_
    refine x_iload_n D_5_dish_9 rfl ?_
    refine x_invV (d' := d - 1) D_5_dish_10 l_5_97 mi_5_isPerson (c_5_isPerson (by omega) hM hT hk.1 hj) (by assumption) rfl rfl (by omega) rfl (fun q => q) rfl rfl (fun r10 h10 q10 => ?_)
    obtain ⟨rfl, rfl⟩ := q10
    refine x_if_eqb D_5_dish_13 (fun c13 => ?_) (fun c13 => ?_)
    · exact absurd hcj c13
    refine x_iload_n D_5_dish_16 rfl ?_
    refine x_iload_n D_5_dish_17 rfl ?_
    refine x_icmp_ne D_5_dish_18 ⟨by omega, by omega⟩ ⟨by omega, by omega⟩ (fun c18 => ?_) (fun c18 => ?_)
    · refine x_aload_n D_5_dish_23 rfl ?_
      refine x_iload_n D_5_dish_24 rfl ?_
      refine x_iload_n D_5_dish_25 rfl ?_
      refine x_aload_n D_5_dish_26 rfl ?_
      refine x_getfield D_5_dish_27 f_5_33 (by assumption) rfl ?_
      refine x_invV (d' := d - 1) D_5_dish_30 l_5_212 mi_5_leadOf (c_5_leadOf (by omega) hM hT hlt (Or.inl rfl) hE hk.1 hS.1 hS.2 hV hi hj) (by assumption) rfl rfl (by omega) rfl (fun q => q) rfl rfl (fun r30 h30 q30 => ?_)
      obtain ⟨rfl, hV4, x2⟩ := q30
      refine x_istore_n D_5_dish_33 rfl rfl rfl ?_
      refine x_bipush D_5_dish_34 (by decide +kernel) ?_
      refine x_istore D_5_dish_36 rfl rfl rfl ?_
      refine x_iconst D_5_dish_38 ?_
      refine x_istore D_5_dish_39 rfl rfl rfl ?_
      exact (loop (T 9 0).toNat 0 h30 (by omega) ⟨E20, hE20.kept (fun q q1 q2 => x2 q (by omega))⟩ hV4 (fun q hq => x2 q (by omega))).sub rfl
    exact absurd c18 hij
  · skip
    refine x_aload_n D_5_dish_0 rfl ?_
    refine x_iload_n D_5_dish_1 rfl ?_
    refine x_invV (d' := d - 1) D_5_dish_2 l_5_97 mi_5_isPerson (c_5_isPerson (by omega) hM hT hk.1 hi) (by assumption) rfl rfl (by omega) rfl (fun q => q) rfl rfl (fun r2 h2 q2 => ?_)
    obtain ⟨rfl, rfl⟩ := q2
    refine x_if_eqb D_5_dish_5 (fun c5 => ?_) (fun c5 => ?_)
    · refine x_iconst D_5_dish_21 ?_
      refine x_ireturn D_5_dish_22 rfl (by first | rfl | exact nb_bi _ | decide +kernel) rfl ?_
      exact CQ.eq hI0 (by omega) hbb (by unfold dishA; rw [if_neg hc])
    refine x_aload_n D_5_dish_8 rfl ?_
    refine x_iload_n D_5_dish_9 rfl ?_
    refine x_invV (d' := d - 1) D_5_dish_10 l_5_97 mi_5_isPerson (c_5_isPerson (by omega) hM hT hk.1 hj) (by assumption) rfl rfl (by omega) rfl (fun q => q) rfl rfl (fun r10 h10 q10 => ?_)
    obtain ⟨rfl, rfl⟩ := q10
    refine x_if_eqb D_5_dish_13 (fun c13 => ?_) (fun c13 => ?_)
    · refine x_iconst D_5_dish_21 ?_
      refine x_ireturn D_5_dish_22 rfl (by first | rfl | exact nb_bi _ | decide +kernel) rfl ?_
      exact CQ.eq hI0 (by omega) hbb (by unfold dishA; rw [if_neg hc])
    refine x_iload_n D_5_dish_16 rfl ?_
    refine x_iload_n D_5_dish_17 rfl ?_
    refine x_icmp_ne D_5_dish_18 ⟨by omega, by omega⟩ ⟨by omega, by omega⟩ (fun c18 => ?_) (fun c18 => ?_)
    · exact absurd ⟨c5, c13, by omega⟩ hc
    refine x_iconst D_5_dish_21 ?_
    refine x_ireturn D_5_dish_22 rfl (by first | rfl | exact nb_bi _ | decide +kernel) rfl ?_
    exact CQ.eq hI0 (by omega) hbb (by unfold dishA; rw [if_neg hc])
end CM6
