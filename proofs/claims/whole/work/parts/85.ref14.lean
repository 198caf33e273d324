theorem RF.keep {U W : TT} {hh : Hp} {len : Int} {Bt : Int → Int} {T : TT} {st : SS} {u : Nat} {un : Nat → SS} {kc : Nat} {ke : Nat → SS} (hF : RF U len Bt T st u un kc ke) (hm : MdAt hh W) (w5 : ∀ a : Nat, a < 20 → W a = U a) : RInv hh len Bt T st u un kc ke := by
  obtain ⟨f1, f2, ⟨f3, f4, f5⟩, f6, f7, f8⟩ := hF
  refine ⟨W, hm, ?_, ?_, ⟨?_, ?_, ?_⟩, ?_, ?_, ?_⟩
  · rw [tbU_same (U := U) (fun a ha => w5 a (by omega))]; exact f1
  · rw [w5 13 (by omega)]; exact f2
  · rw [w5 15 (by omega)]; exact f3
  · rw [w5 17 (by omega)]; exact f4
  · rw [w5 19 (by omega)]; exact f5
  · rw [w5 14 (by omega)]; exact f6
  · rw [w5 16 (by omega)]; exact f7
  · rw [w5 18 (by omega)]; exact f8
theorem unsaid_ok {T : TT} (hk : TabOk T) (said : Int) : ∀ set : Nat, set < 2 ^ (T 4 0).toNat → (iAnd (set : Int) (iXor (iAnd (iShl 1 (T 4 0) - 1) (iXor said (-1))) (-1)) = 0 ↔ ∀ s : Nat, s < (T 4 0).toNat → hasB (set : Int) (s : Int) → ¬ hasB said (s : Int)) := by
  intro set hset
  have k4 := hk.2.2.1
  have e : iShl 1 (T 4 0) - 1 = ((2 ^ (T 4 0).toNat - 1 : Nat) : Int) := by
    rw [← shl_pow (T 4 0).toNat (by omega), show (((T 4 0).toNat : Nat) : Int) = T 4 0 by omega]
  rw [e, tb_eq0 (iAnd_B3 _ _)]
  constructor
  · intro h s hs hb q
    have h1 := h s (by omega)
    rw [has_tb _ (by omega)] at hb q
    rw [tb_and, hb, tb_not _ (by omega), tb_and, tb_not _ (by omega), q] at h1
    simp at h1
  · intro h j hj
    rw [tb_and]
    by_cases e2 : j < (T 4 0).toNat
    · cases hb : tb (set : Int) j with
      | false => rfl
      | true =>
        have h1 := h j e2 ((has_tb _ (by omega)).mpr hb)
        rw [has_tb _ (by omega)] at h1
        have h2 : tb said j = false := by simpa using h1
        rw [tb_not _ hj, tb_and, tb_not _ hj, h2, tb_nat _ hj, Nat.testBit_two_pow_sub_one]
        simp [e2]
    · rw [tb_lt hset (by omega)]
      rfl
theorem none_ok {T : TT} (hk : TabOk T) : ∀ set : Nat, set < 2 ^ (T 4 0).toNat → (iAnd (set : Int) (iXor (-1) (-1)) = 0 ↔ ∀ s : Nat, s < (T 4 0).toNat → hasB (set : Int) (s : Int) → ¬ hasB 0 (s : Int)) := by
  intro set hset
  have k4 := hk.2.2.1
  constructor
  · intro _ s hs _
    exact no0 s (by omega)
  · intro _
    rw [tb_eq0 (iAnd_B3 _ _)]
    intro j hj
    rw [tb_and, show iXor (-1) (-1) = 0 by decide +kernel, tb_0]
    simp
section R14
variable {d : Nat} {z : Nat × Nat} {h : Hp} {b len : Int} {Bt : Int → Int} {T : TT} {st : SS} {u : Nat} {un : Nat → SS} {kc : Nat} {ke : Nat → SS}
theorem c_6_unsaid (hd : 0 ≤ d) {U : TT} (hm : MdAt h U) (t2 : U 2 0 = T 4 0) (f2 : U 13 = st) : Ct d m_6_unsaid [.ref 102] z z h (Pu (iAnd (iShl 1 (T 4 0) - 1) (iXor (st 4) (-1))) h) := by
  refine Ct.of (by decide) ⟨Nat.le_refl _, Nat.le_refl _⟩ (Nat.le_of_ble_eq_true rfl) ?_
  refine x_iconst D_6_unsaid_0 ?_
  refine x_aload_n D_6_unsaid_1 rfl ?_
  refine x_getfield D_6_unsaid_2 f_6_118 (md_o hm) rfl ?_
  rw [t2]
  refine x_ishl D_6_unsaid_5 ?_
  refine x_iconst D_6_unsaid_6 ?_
  refine x_isub D_6_unsaid_7 ?_
  refine x_aload_n D_6_unsaid_8 rfl ?_
  refine x_getfield D_6_unsaid_9 f_6_34 (md_o hm) rfl ?_
  refine x_iconst D_6_unsaid_12 ?_
  refine x_iaload D_6_unsaid_13 (md_a13 hm) (by omega) (by omega) rfl ?_
  rw [f2]
  refine x_iconst D_6_unsaid_14 ?_
  refine x_ixor D_6_unsaid_15 ?_
  refine x_iand D_6_unsaid_16 ?_
  refine x_ireturn D_6_unsaid_17 rfl (by first | rfl | exact nb_bi _ | decide +kernel) rfl ?_
  exact ⟨rfl, rfl⟩
theorem r_best (hd : 4 ≤ d) (hI : RInv h len Bt T st u un kc ke) (hG : Glob b len Bt T st u un kc ke) {i g w : Int} (hi : B3 i) (hg : B3 g) (hw : B3 w) : Ct d m_6_best [.ref 102, vi i, vi g, vi w] z z h (RQ (bestA T st i g w) h len Bt T st u un kc ke) := by
  refine Ct.of (by decide) ⟨Nat.le_refl _, Nat.le_refl _⟩ (Nat.le_of_ble_eq_true rfl) ?_
  have hI0 := hI
  obtain ⟨U, hm, hF⟩ := hI
  obtain ⟨⟨hk, k00, k22⟩, hln, hBt, hu, hS⟩ := hG
  obtain ⟨⟨t0, t1, t2, t3, t4⟩, t5, t6, t7, t8, t9, -⟩ := hF.tab
  have f2 := hF.2.1
  have k0 := hk.1
  have k2 := hk.2.1
  have k3 := hk.2.2.2.2.2.2.1
  have hs6 := hS.2.2.2.2.2.2.1
  have hf : ∀ q : Nat, (q < 102 ∨ 128 < q) → h q = h q := fun _ _ => rfl
  refine x_aload_n D_6_best_0 rfl ?_
  refine x_iload_n D_6_best_1 rfl ?_
  refine x_invV (d' := d - 1) D_6_best_2 l_6_181 mi_6_isPerson (c_6_isPerson (by omega) hm hk t0 hi) (md_o hm) rfl rfl (by omega) rfl (fun q => q) rfl rfl (fun r2 h2 q2 => ?_)
  obtain ⟨rfl, rfl⟩ := q2
  refine x_if_eqb D_6_best_5 (fun c5 => ?_) (fun c5 => ?_)
  · refine x_iconst D_6_best_25 ?_
    refine x_ireturn D_6_best_26 rfl (by first | rfl | exact nb_bi _ | decide +kernel) rfl ?_
    first
    | exact RQ.same hI0 (by unfold bestA; rw [if_neg (fun q => c5 q.1)])
    | exact RQ.same hI0 (by unfold bestA; rw [if_neg (fun q => c13 q.2.1)])
    | exact RQ.same hI0 (by unfold bestA; rw [if_neg (fun q => c22 q.2.2)])
  refine x_aload_n D_6_best_8 rfl ?_
  refine x_iload_n D_6_best_9 rfl ?_
  refine x_invV (d' := d - 1) D_6_best_10 l_6_191 mi_6_isGrain (c_6_isGrain (by omega) hm hk t1 hg) (md_o hm) rfl rfl (by omega) rfl (fun q => q) rfl rfl (fun r10 h10 q10 => ?_)
  obtain ⟨rfl, rfl⟩ := q10
  refine x_if_eqb D_6_best_13 (fun c13 => ?_) (fun c13 => ?_)
  · refine x_iconst D_6_best_25 ?_
    refine x_ireturn D_6_best_26 rfl (by first | rfl | exact nb_bi _ | decide +kernel) rfl ?_
    first
    | exact RQ.same hI0 (by unfold bestA; rw [if_neg (fun q => c5 q.1)])
    | exact RQ.same hI0 (by unfold bestA; rw [if_neg (fun q => c13 q.2.1)])
    | exact RQ.same hI0 (by unfold bestA; rw [if_neg (fun q => c22 q.2.2)])
  refine x_iload_n D_6_best_16 rfl ?_
  refine x_iconst D_6_best_17 ?_
  refine x_iconst D_6_best_18 ?_
  refine x_invS2 (d' := d - 1) D_6_best_19 l_6_111 mi_6_in (c_6_in (by omega) hw ⟨by omega, by omega⟩ ⟨by omega, by omega⟩)  rfl (by omega) rfl (fun q => q) rfl rfl (fun r19 h19 q19 => ?_)
  obtain ⟨rfl, rfl⟩ := q19
  refine x_if_neb D_6_best_22 (fun c22 => ?_) (fun c22 => ?_)
  · refine x_aload_n D_6_best_27 rfl ?_
    refine x_iload_n D_6_best_28 rfl ?_
    refine x_aload_n D_6_best_29 rfl ?_
    refine x_getfield D_6_best_30 f_6_13 (md_o hm) rfl ?_
    refine x_iload_n D_6_best_33 rfl ?_
    refine x_iaload D_6_best_34 (md_a6 hm) (by omega) (by omega) rfl ?_
    rw [t6 _ c13.1 c13.2]
    refine x_aload_n D_6_best_35 rfl ?_
    refine x_getfield D_6_best_36 f_6_34 (md_o hm) rfl ?_
    refine x_bipush D_6_best_39 (by decide +kernel) ?_
    refine x_iload_n D_6_best_41 rfl ?_
    refine x_iadd D_6_best_42 ?_
    refine x_iaload D_6_best_43 (md_a13 hm) (by omega) (by omega) rfl ?_
    rw [f2]
    refine x_imul D_6_best_44 ?_
    have hml := melt_rng (k3 g c13.1 c13.2) (hs6 i c5.1 c5.2).2
    refine x_aload_n D_6_best_45 rfl ?_
    refine x_invV (d' := d - 1) D_6_best_46 l_6_216 mi_6_unsaid (c_6_unsaid (by omega) hm t2 f2) (md_o hm) rfl rfl (by omega) rfl (fun q => q) rfl rfl (fun r46 h46 q46 => ?_)
    obtain ⟨rfl, rfl⟩ := q46
    refine x_invV (d' := d - 1) D_6_best_49 l_6_219 mi_6_findBest (c_6_findBest (said := st 4) (by omega) hm t2 t7 t8 t9 hk hi ⟨by omega, by omega⟩ (unsaid_ok hk (st 4))) (md_o hm) rfl rfl (by omega) rfl (fun q => q) rfl rfl (fun r49 h49 q49 => ?_)
    obtain ⟨rfl, ⟨W, hm, w34, w35, w36, ho⟩, hf⟩ := q49
    refine x_iload_n D_6_best_52 rfl ?_
    refine x_if_ne D_6_best_53 ⟨by omega, by omega⟩ (fun c53 => ?_) (fun c53 => ?_)
    · refine x_aload_n D_6_best_63 rfl ?_
      refine x_getfield D_6_best_64 f_6_210 (md_o hm) rfl ?_
      rw [w35]
      refine x_ireturn D_6_best_67 rfl (by first | rfl | exact nb_bi _ | decide +kernel) rfl ?_
      have hI2 := hF.keep hm (fun a ha => ho a (by omega))
      first
      | exact ⟨by unfold bestA; rw [if_pos ⟨c5, c13, c22⟩, if_pos c53]; rfl, hI2, hf⟩
      | exact ⟨by unfold bestA; rw [if_pos ⟨c5, c13, c22⟩, if_neg c53, bst_worth]; rfl, hI2, hf⟩
    refine x_aload_n D_6_best_56 rfl ?_
    refine x_getfield D_6_best_57 f_6_207 (md_o hm) rfl ?_
    rw [w34]
    refine x_goto D_6_best_60 ?_
    refine x_ireturn D_6_best_67 rfl (by first | rfl | exact nb_bi _ | decide +kernel) rfl ?_
    have hI2 := hF.keep hm (fun a ha => ho a (by omega))
    first
    | exact ⟨by unfold bestA; rw [if_pos ⟨c5, c13, c22⟩, if_pos c53]; rfl, hI2, hf⟩
    | exact ⟨by unfold bestA; rw [if_pos ⟨c5, c13, c22⟩, if_neg c53, bst_worth]; rfl, hI2, hf⟩
  refine x_iconst D_6_best_25 ?_
  refine x_ireturn D_6_best_26 rfl (by first | rfl | exact nb_bi _ | decide +kernel) rfl ?_
  first
  | exact RQ.same hI0 (by unfold bestA; rw [if_neg (fun q => c5 q.1)])
  | exact RQ.same hI0 (by unfold bestA; rw [if_neg (fun q => c13 q.2.1)])
  | exact RQ.same hI0 (by unfold bestA; rw [if_neg (fun q => c22 q.2.2)])
theorem iAnd_m1 : ∀ k : Nat, k < 256 → iAnd (-1) (k : Int) = (k : Int) := by decide +kernel
theorem r_spoke (hd : 4 ≤ d) (hI : RInv h len Bt T st u un kc ke) (hG : Glob b len Bt T st u un kc ke) {i n w : Int} (hi : B3 i) (hn : B3 n) (hw : B3 w) : Ct d m_6_spoke [.ref 102, vi i, vi n, vi w] z z h (RQ (spokeA T i n w) h len Bt T st u un kc ke) := by
  refine Ct.of (by decide) ⟨Nat.le_refl _, Nat.le_refl _⟩ (Nat.le_of_ble_eq_true rfl) ?_
  have hI0 := hI
  obtain ⟨U, hm, hF⟩ := hI
  obtain ⟨⟨hk, k00, k22⟩, hln, hBt, hu, hS⟩ := hG
  obtain ⟨⟨t0, t1, t2, t3, t4⟩, t5, t6, -⟩ := hF.tab
  have k0 := hk.1
  have k2 := hk.2.1
  by_cases hc : spokeC T i n w
  · obtain ⟨hci, hcn, hcw⟩ := id hc
    have hp : 2 ^ nGr T ≤ 256 := pow_le (m := 8) (by unfold nGr; omega)
    have he : iShl 1 (T 2 0) = ((2 ^ nGr T : Nat) : Int) := by
      rw [← shl_pow1 (nGr T) (by unfold nGr; omega), show ((nGr T : Nat) : Int) = T 2 0 by unfold nGr; omega]
    generalize hN : 2 ^ nGr T = N at hp he
    have outer : ∀ (f k : Nat), k + f = N → WW d m_6_spoke z (RQ (spokeA T i n w) h len Bt T st u un kc ke) z h 39 [(0, .ref 102), (1, vi i), (2, vi n), (3, vi w), (4, vi (spokeF T i n k).1), (5, vi (if (spokeF T i n k).1 = 0 then -1 else (spokeF T i n k).2)), (6, vi (k : Int))] [] := by
      intro f
      induction f with
      | zero =>
        intro k hkk
        obtain rfl : k = N := by omega
        have hr := spokeF_rng T i n k
        refine x_iload D_6_spoke_39 rfl ?_
        refine x_iconst D_6_spoke_41 ?_
        refine x_aload_n D_6_spoke_42 rfl ?_
        refine x_getfield D_6_spoke_43 f_6_115 (md_o hm) rfl ?_
        rw [t1]
        refine x_ishl D_6_spoke_46 ?_
        rw [he]
        refine x_icmp_ge D_6_spoke_47 ⟨by omega, by omega⟩ ⟨by omega, by omega⟩ (fun c47 => ?_) (fun c47 => ?_)
        · refine x_iload_n D_6_spoke_126 rfl ?_
          refine x_if_ne D_6_spoke_127 ⟨by omega, by omega⟩ (fun c127 => ?_) (fun c127 => ?_)
          · refine x_iload D_6_spoke_135 rfl ?_
            refine x_if_ne D_6_spoke_137 ⟨by omega, by omega⟩ (fun c137 => ?_) (fun c137 => ?_)
            · refine x_iload D_6_spoke_144 rfl ?_
              refine x_ireturn D_6_spoke_146 rfl (by first | rfl | exact nb_bi _ | decide +kernel) rfl ?_
              first
              | (exfalso; omega)
              | exact RQ.same hI0 (by unfold spokeA; rw [if_pos hc, if_pos c127, hN])
              | exact RQ.same hI0 (by unfold spokeA; rw [if_pos hc, if_neg c127, hN, if_neg c137])
              | exact RQ.same hI0 (by
                  unfold spokeA
                  rw [if_pos hc, if_neg c127, hN]
                  have h0 : ∀ m : Nat, (spokeF T i n m).1 = 0 → (spokeF T i n m).2 = 0 := by
                    intro m
                    induction m with
                    | zero => exact fun _ => rfl
                    | succ m ihm =>
                      intro q
                      have hrm := spokeF_rng T i n m
                      by_cases e : sumSet (T 3) (m : Int) (T 2 0).toNat * T 1 i = n
                      · rw [spokeF_t e] at q
                        have q2 : (spokeF T i n m).1 + 1 = 0 := q
                        omega
                      · rw [spokeF_f e] at q ⊢
                        exact ihm q
                  exact (h0 k c137).symm)
            refine x_iconst D_6_spoke_140 ?_
            refine x_goto D_6_spoke_141 ?_
            refine x_ireturn D_6_spoke_146 rfl (by first | rfl | exact nb_bi _ | decide +kernel) rfl ?_
            first
            | (exfalso; omega)
            | exact RQ.same hI0 (by unfold spokeA; rw [if_pos hc, if_pos c127, hN])
            | exact RQ.same hI0 (by unfold spokeA; rw [if_pos hc, if_neg c127, hN, if_neg c137])
            | exact RQ.same hI0 (by
                unfold spokeA
                rw [if_pos hc, if_neg c127, hN]
                have h0 : ∀ m : Nat, (spokeF T i n m).1 = 0 → (spokeF T i n m).2 = 0 := by
                  intro m
                  induction m with
                  | zero => exact fun _ => rfl
                  | succ m ihm =>
                    intro q
                    have hrm := spokeF_rng T i n m
                    by_cases e : sumSet (T 3) (m : Int) (T 2 0).toNat * T 1 i = n
                    · rw [spokeF_t e] at q
                      have q2 : (spokeF T i n m).1 + 1 = 0 := q
                      omega
                    · rw [spokeF_f e] at q ⊢
                      exact ihm q
                exact (h0 k c137).symm)
          refine x_iload D_6_spoke_130 rfl ?_
          refine x_goto D_6_spoke_132 ?_
          refine x_ireturn D_6_spoke_146 rfl (by first | rfl | exact nb_bi _ | decide +kernel) rfl ?_
          first
          | (exfalso; omega)
          | exact RQ.same hI0 (by unfold spokeA; rw [if_pos hc, if_pos c127, hN])
          | exact RQ.same hI0 (by unfold spokeA; rw [if_pos hc, if_neg c127, hN, if_neg c137])
          | exact RQ.same hI0 (by
              unfold spokeA
              rw [if_pos hc, if_neg c127, hN]
              have h0 : ∀ m : Nat, (spokeF T i n m).1 = 0 → (spokeF T i n m).2 = 0 := by
                intro m
                induction m with
                | zero => exact fun _ => rfl
                | succ m ihm =>
                  intro q
                  have hrm := spokeF_rng T i n m
                  by_cases e : sumSet (T 3) (m : Int) (T 2 0).toNat * T 1 i = n
                  · rw [spokeF_t e] at q
                    have q2 : (spokeF T i n m).1 + 1 = 0 := q
                    omega
                  · rw [spokeF_f e] at q ⊢
                    exact ihm q
              exact (h0 k c137).symm)
        exact absurd c47 (by omega)
      | succ f ih =>
        intro k hkk
        have hr := spokeF_rng T i n k
        have hg := grains_rng hk (k : Int) hci
        have inner : ∀ (y s : Nat), s + y = (T 2 0).toNat → WW d m_6_spoke z (RQ (spokeA T i n w) h len Bt T st u un kc ke) z h 56 [(0, .ref 102), (1, vi i), (2, vi n), (3, vi w), (4, vi (spokeF T i n k).1), (5, vi (if (spokeF T i n k).1 = 0 then -1 else (spokeF T i n k).2)), (6, vi (k : Int)), (7, vi (sumSet (T 3) (k : Int) s * T 1 i)), (8, vi (s : Int))] [] := by
          intro y
          induction y with
          | zero =>
            intro s hsy
            obtain rfl : s = (T 2 0).toNat := by omega
            have hsure : ∀ e : sumSet (T 3) (k : Int) (T 2 0).toNat * T 1 i = n, iAnd (if (spokeF T i n k).1 = 0 then -1 else (spokeF T i n k).2) (k : Int) = if (spokeF T i n (k + 1)).1 = 0 then -1 else (spokeF T i n (k + 1)).2 := by
              intro e
              rw [spokeF_t e]
              rw [if_neg (show ¬ (spokeF T i n k).1 + 1 = 0 by omega)]
              by_cases e0 : (spokeF T i n k).1 = 0
              · rw [if_pos e0]
                show _ = (if (spokeF T i n k).1 = 0 then (k : Int) else _)
                rw [if_pos e0]
                exact iAnd_m1 k (by omega)
              · rw [if_neg e0]
                show _ = (if (spokeF T i n k).1 = 0 then (k : Int) else _)
                rw [if_neg e0]
            refine x_iload D_6_spoke_56 rfl ?_
            refine x_aload_n D_6_spoke_58 rfl ?_
            refine x_getfield D_6_spoke_59 f_6_115 (md_o hm) rfl ?_
            rw [t1]
            refine x_icmp_ge D_6_spoke_62 ⟨by omega, by omega⟩ ⟨by omega, by omega⟩ (fun c62 => ?_) (fun c62 => ?_)
            · refine x_iload D_6_spoke_104 rfl ?_
              refine x_iload_n D_6_spoke_106 rfl ?_
              refine x_icmp_ne D_6_spoke_107 ⟨by omega, by omega⟩ ⟨by omega, by omega⟩ (fun c107 => ?_) (fun c107 => ?_)
              · skip
                refine x_iinc D_6_spoke_120 rfl rfl rfl rfl ?_
                refine x_goto D_6_spoke_123 ?_
                first
                | exact (ih (k + 1) (by omega)).sub (by rw [spokeF_f c107]; rfl)
                | exact (ih (k + 1) (by omega)).sub (by rw [← hsure c107, spokeF_t c107]; rfl)
              refine x_iinc D_6_spoke_110 rfl rfl rfl rfl ?_
              refine x_iload D_6_spoke_113 rfl ?_
              refine x_iload D_6_spoke_115 rfl ?_
              refine x_iand D_6_spoke_117 ?_
              refine x_istore D_6_spoke_118 rfl rfl rfl ?_
              skip
              refine x_iinc D_6_spoke_120 rfl rfl rfl rfl ?_
              refine x_goto D_6_spoke_123 ?_
              first
              | exact (ih (k + 1) (by omega)).sub (by rw [spokeF_f c107]; rfl)
              | exact (ih (k + 1) (by omega)).sub (by rw [← hsure c107, spokeF_t c107]; rfl)
            exact absurd c62 (by omega)
          | succ y ihy =>
            intro s hsy
            have hsn : (s : Int) < T 2 0 := by omega
            refine x_iload D_6_spoke_56 rfl ?_
            refine x_aload_n D_6_spoke_58 rfl ?_
            refine x_getfield D_6_spoke_59 f_6_115 (md_o hm) rfl ?_
            rw [t1]
            refine x_icmp_ge D_6_spoke_62 ⟨by omega, by omega⟩ ⟨by omega, by omega⟩ (fun c62 => ?_) (fun c62 => ?_)
            · exact absurd c62 (by omega)
            refine x_iload D_6_spoke_65 rfl ?_
            refine x_iload D_6_spoke_67 rfl ?_
            refine x_iload D_6_spoke_69 rfl ?_
            refine x_invS2 (d' := d - 1) D_6_spoke_71 l_6_177 mi_6_has (c_6_has (by omega))  rfl (by omega) rfl (fun q => q) rfl rfl (fun r71 h71 q71 => ?_)
            obtain ⟨rfl, rfl⟩ := q71
            refine x_if_eqb D_6_spoke_74 (fun c74 => ?_) (fun c74 => ?_)
            · refine x_iconst D_6_spoke_94 ?_
              refine x_iadd D_6_spoke_95 ?_
              refine x_istore D_6_spoke_96 rfl rfl rfl ?_
              refine x_iinc D_6_spoke_98 rfl rfl rfl rfl ?_
              refine x_goto D_6_spoke_101 ?_
              first
              | exact (ihy (s + 1) (by omega)).sub (by simp only [sumSet, if_pos c74, Int.add_mul]; rfl)
              | exact (ihy (s + 1) (by omega)).sub (by simp only [sumSet, if_neg c74, Int.add_zero]; rfl)
            refine x_aload_n D_6_spoke_77 rfl ?_
            refine x_getfield D_6_spoke_78 f_6_13 (md_o hm) rfl ?_
            refine x_iload D_6_spoke_81 rfl ?_
            refine x_iaload D_6_spoke_83 (md_a6 hm) (by omega) (by omega) rfl ?_
            rw [t6 _ (by omega) hsn]
            refine x_aload_n D_6_spoke_84 rfl ?_
            refine x_getfield D_6_spoke_85 f_6_7 (md_o hm) rfl ?_
            refine x_iload_n D_6_spoke_88 rfl ?_
            refine x_iaload D_6_spoke_89 (md_a5 hm) (by omega) (by omega) rfl ?_
            rw [t5 _ hci.1 hci.2]
            refine x_imul D_6_spoke_90 ?_
            refine x_goto D_6_spoke_91 ?_
            refine x_iadd D_6_spoke_95 ?_
            refine x_istore D_6_spoke_96 rfl rfl rfl ?_
            refine x_iinc D_6_spoke_98 rfl rfl rfl rfl ?_
            refine x_goto D_6_spoke_101 ?_
            first
            | exact (ihy (s + 1) (by omega)).sub (by simp only [sumSet, if_pos c74, Int.add_mul]; rfl)
            | exact (ihy (s + 1) (by omega)).sub (by simp only [sumSet, if_neg c74, Int.add_zero]; rfl)
        refine x_iload D_6_spoke_39 rfl ?_
        refine x_iconst D_6_spoke_41 ?_
        refine x_aload_n D_6_spoke_42 rfl ?_
        refine x_getfield D_6_spoke_43 f_6_115 (md_o hm) rfl ?_
        rw [t1]
        refine x_ishl D_6_spoke_46 ?_
        rw [he]
        refine x_icmp_ge D_6_spoke_47 ⟨by omega, by omega⟩ ⟨by omega, by omega⟩ (fun c47 => ?_) (fun c47 => ?_)
        · exact absurd c47 (by omega)
        refine x_iconst D_6_spoke_50 ?_
        refine x_istore D_6_spoke_51 rfl rfl rfl ?_
        refine x_iconst D_6_spoke_53 ?_
        refine x_istore D_6_spoke_54 rfl rfl rfl ?_
        exact (inner (T 2 0).toNat 0 (by omega)).sub (by simp only [sumSet, Int.zero_mul]; rfl)
    refine x_aload_n D_6_spoke_0 rfl ?_
    refine x_iload_n D_6_spoke_1 rfl ?_
    refine x_invV (d' := d - 1) D_6_spoke_2 l_6_181 mi_6_isPerson (c_6_isPerson (by omega) hm hk t0 hi) (md_o hm) rfl rfl (by omega) rfl (fun q => q) rfl rfl (fun r2 h2 q2 => ?_)
    obtain ⟨rfl, rfl⟩ := q2
    refine x_if_eqb D_6_spoke_5 (fun c5 => ?_) (fun c5 => ?_)
    · exact absurd hci c5
    refine x_iload_n D_6_spoke_8 rfl ?_
    refine x_iconst D_6_spoke_9 ?_
    refine x_sipush D_6_spoke_10 (by decide +kernel) ?_
    refine x_invS2 (d' := d - 1) D_6_spoke_13 l_6_111 mi_6_in (c_6_in (by omega) hn ⟨by omega, by omega⟩ ⟨by omega, by omega⟩)  rfl (by omega) rfl (fun q => q) rfl rfl (fun r13 h13 q13 => ?_)
    obtain ⟨rfl, rfl⟩ := q13
    refine x_if_eqb D_6_spoke_16 (fun c16 => ?_) (fun c16 => ?_)
    · exact absurd hcn c16
    refine x_iload_n D_6_spoke_19 rfl ?_
    refine x_iconst D_6_spoke_20 ?_
    refine x_iconst D_6_spoke_21 ?_
    refine x_invS2 (d' := d - 1) D_6_spoke_22 l_6_111 mi_6_in (c_6_in (by omega) hw ⟨by omega, by omega⟩ ⟨by omega, by omega⟩)  rfl (by omega) rfl (fun q => q) rfl rfl (fun r22 h22 q22 => ?_)
    obtain ⟨rfl, rfl⟩ := q22
    refine x_if_neb D_6_spoke_25 (fun c25 => ?_) (fun c25 => ?_)
    · refine x_iconst D_6_spoke_30 ?_
      refine x_istore D_6_spoke_31 rfl rfl rfl ?_
      refine x_iconst D_6_spoke_33 ?_
      refine x_istore D_6_spoke_34 rfl rfl rfl ?_
      refine x_iconst D_6_spoke_36 ?_
      refine x_istore D_6_spoke_37 rfl rfl rfl ?_
      exact (outer N 0 (by omega)).sub rfl
    exact absurd hcw c25
  · skip
    refine x_aload_n D_6_spoke_0 rfl ?_
    refine x_iload_n D_6_spoke_1 rfl ?_
    refine x_invV (d' := d - 1) D_6_spoke_2 l_6_181 mi_6_isPerson (c_6_isPerson (by omega) hm hk t0 hi) (md_o hm) rfl rfl (by omega) rfl (fun q => q) rfl rfl (fun r2 h2 q2 => ?_)
    obtain ⟨rfl, rfl⟩ := q2
    refine x_if_eqb D_6_spoke_5 (fun c5 => ?_) (fun c5 => ?_)
    · refine x_iconst D_6_spoke_28 ?_
      refine x_ireturn D_6_spoke_29 rfl (by first | rfl | exact nb_bi _ | decide +kernel) rfl ?_
      exact RQ.same hI0 (by unfold spokeA; rw [if_neg hc])
    refine x_iload_n D_6_spoke_8 rfl ?_
    refine x_iconst D_6_spoke_9 ?_
    refine x_sipush D_6_spoke_10 (by decide +kernel) ?_
    refine x_invS2 (d' := d - 1) D_6_spoke_13 l_6_111 mi_6_in (c_6_in (by omega) hn ⟨by omega, by omega⟩ ⟨by omega, by omega⟩)  rfl (by omega) rfl (fun q => q) rfl rfl (fun r13 h13 q13 => ?_)
    obtain ⟨rfl, rfl⟩ := q13
    refine x_if_eqb D_6_spoke_16 (fun c16 => ?_) (fun c16 => ?_)
    · refine x_iconst D_6_spoke_28 ?_
      refine x_ireturn D_6_spoke_29 rfl (by first | rfl | exact nb_bi _ | decide +kernel) rfl ?_
      exact RQ.same hI0 (by unfold spokeA; rw [if_neg hc])
    refine x_iload_n D_6_spoke_19 rfl ?_
    refine x_iconst D_6_spoke_20 ?_
    refine x_iconst D_6_spoke_21 ?_
    refine x_invS2 (d' := d - 1) D_6_spoke_22 l_6_111 mi_6_in (c_6_in (by omega) hw ⟨by omega, by omega⟩ ⟨by omega, by omega⟩)  rfl (by omega) rfl (fun q => q) rfl rfl (fun r22 h22 q22 => ?_)
    obtain ⟨rfl, rfl⟩ := q22
    refine x_if_neb D_6_spoke_25 (fun c25 => ?_) (fun c25 => ?_)
    · exact absurd ⟨c5, c16, c25⟩ hc
    refine x_iconst D_6_spoke_28 ?_
    refine x_ireturn D_6_spoke_29 rfl (by first | rfl | exact nb_bi _ | decide +kernel) rfl ?_
    exact RQ.same hI0 (by unfold spokeA; rw [if_neg hc])
end R14
