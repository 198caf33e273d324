theorem c_1_giveFirst {d : Nat} (hd : 2 ≤ d) {z : Nat × Nat} {h : Hp} {o t e k0 : Nat} {T E : TT} {D : Int → Int} {gv0 : Int} {Go0 : Int → Int} (hO : h o = some (ob 1 [.ref (o + 1), .ref (o + 10), vi gv0])) (hG : h (o + 1) = some (ra 1 8 (fun s => if s < 8 then some (o + 2 + s) else none))) (hGo : h (o + 10) = some (ia 0 7 Go0)) (hRow : ∀ s : Nat, s ≤ nSa T → ∃ M : Int → Int, h (o + 2 + s) = some (ia 0 256 M) ∧ ∀ q : Nat, q < 2 ^ nGr T → M (q : Int) = ms T D (E 2 0) s q) (hT : TabAt h t T) (hE : EvAt h e E) (hk : TabOk T) (hD : DrOk T E D) (hsh : E 1 0 = (k0 : Int)) (hk0 : k0 < 2 ^ nGr T) (ht : t + 8 < o ∨ o + 10 < t) (he : e + 4 < o ∨ o + 10 < e) :
    Ct d m_1_giveFirst [.ref o, .ref t, .ref e] z z h (fun r h' => r = none ∧ h' o = some (ob 1 [.ref (o + 1), .ref (o + 10), vi (gvn T D (E 2 0) (E 1 0) (nSa T))]) ∧ (∃ Go : Int → Int, h' (o + 10) = some (ia 0 7 Go) ∧ ∀ s : Nat, s < nSa T → Go (s : Int) = gOf T D (E 2 0) (E 1 0) s) ∧ ∀ q : Nat, (q ≠ o ∧ q ≠ o + 10) → h' q = h q) := by
  refine Ct.of (by decide) ⟨Nat.le_refl _, Nat.le_refl _⟩ (Nat.le_of_ble_eq_true rfl) ?_
  have k2 := hk.2.1
  have k4 := hk.2.2.1
  obtain ⟨c, hc⟩ : ∃ c : Nat, T 4 0 = (c : Int) := ⟨_, (Int.toNat_of_nonneg k4.1).symm⟩
  have hc2 : nSa T = c := by unfold nSa; omega
  have hn8 : nGr T ≤ 8 := by unfold nGr; omega
  have hp : 2 ^ nGr T ≤ 256 := pow_le (m := 8) hn8
  rw [hc2] at hRow ⊢
  have loop : ∀ (f s : Nat) (hh : Hp) (lf gv : Int) (Go : Int → Int), lf = lft T D (E 2 0) (E 1 0) s → gv = gvn T D (E 2 0) (E 1 0) s → (∀ q : Nat, q < s → Go (q : Int) = gOf T D (E 2 0) (E 1 0) q) → c = s + f → hh o = some (ob 1 [.ref (o + 1), .ref (o + 10), vi gv]) → hh (o + 10) = some (ia 0 7 Go) → (∀ q : Nat, (q ≠ o ∧ q ≠ o + 10) → hh q = h q) →
      WW d m_1_giveFirst z (fun r h' => r = none ∧ h' o = some (ob 1 [.ref (o + 1), .ref (o + 10), vi (gvn T D (E 2 0) (E 1 0) c)]) ∧ (∃ Go : Int → Int, h' (o + 10) = some (ia 0 7 Go) ∧ ∀ s : Nat, s < c → Go (s : Int) = gOf T D (E 2 0) (E 1 0) s) ∧ ∀ q : Nat, (q ≠ o ∧ q ≠ o + 10) → h' q = h q) z hh 13 [(0, .ref o), (1, .ref t), (2, .ref e), (3, vi lf), (4, vi s)] [] := by
    intro f
    induction f with
    | zero =>
      intro s hh lf gv Go hlf hgv hGs hf hO hGo hfr
      have hT1 : TabAt hh t T := hT.kept (fun q q1 q2 => hfr q (by omega))
      obtain ⟨b0, -⟩ := hT1
      refine x_iload D_1_giveFirst_13 rfl ?_
      refine x_aload_n D_1_giveFirst_15 rfl ?_
      refine x_getfield D_1_giveFirst_16 f_1_26 (by assumption) rfl ?_
      refine x_icmp_ge D_1_giveFirst_19 ⟨by omega, by omega⟩ ⟨by omega, by omega⟩ (fun c19 => ?_) (fun c19 => ?_)
      · refine x_return D_1_giveFirst_85 rfl rfl ?_
        refine ⟨rfl, ?_, ⟨Go, hGo, fun q hq => hGs q (by omega)⟩, hfr⟩
        rw [hO, hgv, hf]
        rfl
      exact absurd c19 (by omega)
    | succ f ih =>
      intro s hh lf gv Go hlf hgv hGs hf hO hGo hfr
      have hT1 : TabAt hh t T := hT.kept (fun q q1 q2 => hfr q (by omega))
      have hE1 : EvAt hh e E := hE.kept (fun q q1 q2 => hfr q (by omega))
      obtain ⟨b0, -⟩ := id hT1
      have hG1 := (hfr (o + 1) (by omega)).trans hG
      obtain ⟨M0, r0, r1⟩ := hRow s (by omega)
      obtain ⟨M1, r2, r3⟩ := hRow (s + 1) (by omega)
      have r0 := (hfr (o + 2 + s) (by omega)).trans r0
      have r2 := (hfr (o + 2 + (s + 1)) (by omega)).trans r2
      obtain ⟨k, hk1, hk2⟩ := lft_nat hk (D := D) (sd := E 2 0) hk0 s
      rw [← hsh] at hk2
      have hlk : lf = (k : Int) := hlf.trans hk2
      subst hlk
      have hgo : ffd T D (E 2 0) (s : Int) (ms T D (E 2 0) (s + 1)) (ms T D (E 2 0) s k) k (nGr T) = gOf T D (E 2 0) (E 1 0) s := by
        show _ = gAt T D (E 2 0) s (lft T D (E 2 0) (E 1 0) s)
        rw [hk2]
        rfl
      have hgr := gAt_rng T D (E 2 0) s (lft T D (E 2 0) (E 1 0) s)
      have hgr2 : -4 ≤ gOf T D (E 2 0) (E 1 0) s ∧ gOf T D (E 2 0) (E 1 0) s ≤ 8 := by
        rcases hgr with w | ⟨g, w1, w2, -⟩
        · show -4 ≤ gAt _ _ _ _ _ ∧ gAt _ _ _ _ _ ≤ 8
          omega
        · show -4 ≤ gAt _ _ _ _ _ ∧ gAt _ _ _ _ _ ≤ 8
          omega
      have hGs' : ∀ q : Nat, q < s + 1 → ups Go (s : Int) (gOf T D (E 2 0) (E 1 0) s) (q : Int) = gOf T D (E 2 0) (E 1 0) q := by
        intro q hq
        by_cases e1 : q = s
        · subst e1; simp [ups]
        · have : (q : Int) ≠ (s : Int) := by omega
          simp only [ups, if_neg this]
          exact hGs q (by omega)
      have hl0 : gOf T D (E 2 0) (E 1 0) s = -4 → (k : Int) = lft T D (E 2 0) (E 1 0) (s + 1) := by
        intro w
        have w2 : gAt T D (E 2 0) s (lft T D (E 2 0) (E 1 0) s) = -4 := w
        simp only [lft]
        rw [if_pos w2, hk2]
      have hl1 : gOf T D (E 2 0) (E 1 0) s ≠ -4 → iAnd (k : Int) (iXor (iShl 1 (gOf T D (E 2 0) (E 1 0) s)) (-1)) = lft T D (E 2 0) (E 1 0) (s + 1) := by
        intro w
        have w2 : gAt T D (E 2 0) s (lft T D (E 2 0) (E 1 0) s) ≠ -4 := w
        simp only [lft]
        rw [if_neg w2, hk2]
        show _ = clr _ _
        unfold clr gOf
        rw [hk2]
      have hv0 : gOf T D (E 2 0) (E 1 0) s = -4 → gv = gvn T D (E 2 0) (E 1 0) (s + 1) := by
        intro w
        simp only [gvn]
        rw [if_pos w, hgv]
      have hv1 : gOf T D (E 2 0) (E 1 0) s ≠ -4 → iOr gv (iShl 1 (s : Int)) = gvn T D (E 2 0) (E 1 0) (s + 1) := by
        intro w
        simp only [gvn]
        rw [if_neg w, hgv]
      refine x_iload D_1_giveFirst_13 rfl ?_
      refine x_aload_n D_1_giveFirst_15 rfl ?_
      refine x_getfield D_1_giveFirst_16 f_1_26 (by assumption) rfl ?_
      refine x_icmp_ge D_1_giveFirst_19 ⟨by omega, by omega⟩ ⟨by omega, by omega⟩ (fun c19 => ?_) (fun c19 => ?_)
      · exact absurd c19 (by omega)
      refine x_aload_n D_1_giveFirst_22 rfl ?_
      refine x_aload_n D_1_giveFirst_23 rfl ?_
      refine x_iload_n D_1_giveFirst_24 rfl ?_
      refine x_aload_n D_1_giveFirst_25 rfl ?_
      refine x_aload_n D_1_giveFirst_26 rfl ?_
      refine x_iload D_1_giveFirst_27 rfl ?_
      refine x_invS2 (d' := d - 1) D_1_giveFirst_29 l_1_29 mi_1_grainsFor (c_1_grainsFor (by omega) hT1 hE1 hk hD ⟨by omega, by omega⟩)  rfl (by omega) rfl (fun q => q) rfl rfl (fun r29 h29 q29 => ?_)
      obtain ⟨rfl, rfl⟩ := q29
      refine x_iand D_1_giveFirst_32 ?_
      refine x_iload D_1_giveFirst_33 rfl ?_
      refine x_iload_n D_1_giveFirst_35 rfl ?_
      refine x_invV (d' := d - 1) D_1_giveFirst_36 l_1_77 mi_1_firstGrain (c_1_firstGrain (D := D) (sd := E 2 0) (M := ms T D (E 2 0) (s + 1)) (B := ms T D (E 2 0) s k) (by omega) hO hG1 r2 r0 hT1 hk (by omega) hk1 r3 (fun q => ms_rng hk D (E 2 0) (s + 1) q) (r1 k hk1) (ms_rng hk D (E 2 0) s k)) (by assumption) rfl rfl (by omega) rfl (fun q => q) rfl rfl (fun r36 h36 q36 => ?_)
      obtain ⟨rfl, rfl⟩ := q36
      rw [hgo]
      refine x_istore D_1_giveFirst_39 rfl rfl rfl ?_
      refine x_aload_n D_1_giveFirst_41 rfl ?_
      refine x_getfield D_1_giveFirst_42 f_1_16 (by assumption) rfl ?_
      refine x_iload D_1_giveFirst_45 rfl ?_
      refine x_iload D_1_giveFirst_47 rfl ?_
      refine x_iastore D_1_giveFirst_49 (by assumption) (by omega) (by omega) rfl (fun h49 e49 n49 => ?_)
      first | (replace hO := (n49 _ (by omega)).trans hO) | (replace hO := e49)
      first | (replace hGo := (n49 _ (by omega)).trans hGo) | (replace hGo := e49)
      replace hfr := fun q hq => (n49 q (by omega)).trans (hfr q hq)
      refine x_iload D_1_giveFirst_50 rfl ?_
      refine x_bipush D_1_giveFirst_52 (by decide +kernel) ?_
      refine x_icmp_eq D_1_giveFirst_54 ⟨by omega, by omega⟩ ⟨by omega, by omega⟩ (fun c54 => ?_) (fun c54 => ?_)
      · refine x_iinc D_1_giveFirst_79 rfl rfl rfl rfl ?_
        refine x_goto D_1_giveFirst_82 ?_
        first | exact (ih (s + 1) _ _ _ _ (hl0 c54) (hv0 c54) hGs' (by omega) hO hGo hfr).sub rfl | exact (ih (s + 1) _ _ _ _ (hl1 c54) (hv1 c54) hGs' (by omega) hO hGo hfr).sub rfl
      refine x_aload_n D_1_giveFirst_57 rfl ?_
      refine x_dup D_1_giveFirst_58 rfl ?_
      refine x_getfield D_1_giveFirst_59 f_1_71 (by assumption) rfl ?_
      refine x_iconst D_1_giveFirst_62 ?_
      refine x_iload D_1_giveFirst_63 rfl ?_
      refine x_ishl D_1_giveFirst_65 ?_
      refine x_ior D_1_giveFirst_66 ?_
      refine x_putI D_1_giveFirst_67 f_1_71 (by assumption) (by decide +kernel) rfl (fun h67 e67 n67 => ?_)
      simp only [List.set_cons_zero, List.set_cons_succ] at e67
      first | (replace hO := (n67 _ (by omega)).trans hO) | (replace hO := e67)
      first | (replace hGo := (n67 _ (by omega)).trans hGo) | (replace hGo := e67)
      replace hfr := fun q hq => (n67 q (by omega)).trans (hfr q hq)
      refine x_iload_n D_1_giveFirst_70 rfl ?_
      refine x_iconst D_1_giveFirst_71 ?_
      refine x_iload D_1_giveFirst_72 rfl ?_
      refine x_ishl D_1_giveFirst_74 ?_
      refine x_iconst D_1_giveFirst_75 ?_
      refine x_ixor D_1_giveFirst_76 ?_
      refine x_iand D_1_giveFirst_77 ?_
      refine x_istore_n D_1_giveFirst_78 rfl rfl rfl ?_
      refine x_iinc D_1_giveFirst_79 rfl rfl rfl rfl ?_
      refine x_goto D_1_giveFirst_82 ?_
      first | exact (ih (s + 1) _ _ _ _ (hl0 c54) (hv0 c54) hGs' (by omega) hO hGo hfr).sub rfl | exact (ih (s + 1) _ _ _ _ (hl1 c54) (hv1 c54) hGs' (by omega) hO hGo hfr).sub rfl
  have hfr : ∀ q : Nat, (q ≠ o ∧ q ≠ o + 10) → h q = h q := fun _ _ => rfl
  obtain ⟨b0, b1, b2, b3, b4⟩ := id hE
  refine x_aload_n D_1_giveFirst_0 rfl ?_
  refine x_iconst D_1_giveFirst_1 ?_
  refine x_putI D_1_giveFirst_2 f_1_71 (by assumption) (by decide +kernel) rfl (fun h2 e2 n2 => ?_)
  simp only [List.set_cons_zero, List.set_cons_succ] at e2
  first | (replace hO := (n2 _ (by omega)).trans hO) | (replace hO := e2)
  first | (replace hGo := (n2 _ (by omega)).trans hGo) | (replace hGo := e2)
  first | (replace b0 := (n2 _ (by omega)).trans b0) | (replace b0 := e2)
  replace hfr := fun q hq => (n2 q (by omega)).trans (hfr q hq)
  refine x_aload_n D_1_giveFirst_5 rfl ?_
  refine x_getfield D_1_giveFirst_6 f_1_74 (by assumption) rfl ?_
  refine x_istore_n D_1_giveFirst_9 rfl rfl rfl ?_
  refine x_iconst D_1_giveFirst_10 ?_
  refine x_istore D_1_giveFirst_11 rfl rfl rfl ?_
  exact (loop c 0 _ _ _ _ rfl rfl (fun q hq => absurd hq (by omega)) (by omega) hO hGo hfr).sub rfl
/-- what give leaves -/
abbrev GvQ (o : Nat) (h : Hp) (T : TT) (D : Int → Int) (sd sh : Int) : Option Value → Hp → Prop := fun r h' => r = none ∧ (∃ Go : Int → Int, GvAt h' o (gvn T D sd sh (nSa T)) Go ∧ ∀ s : Nat, s < nSa T → Go (s : Int) = gOf T D sd sh s) ∧ ∀ q : Nat, (q < o ∨ o + 10 < q) → h' q = h q
theorem c_1_give {d : Nat} (hd : 3 ≤ d) {z : Nat × Nat} {h : Hp} {o t e k0 : Nat} {T E : TT} {D : Int → Int} {gv0 : Int} {Go0 : Int → Int} (hV : GvAt h o gv0 Go0) (hT : TabAt h t T) (hE : EvAt h e E) (hk : TabOk T) (hD : DrOk T E D) (hsh : E 1 0 = (k0 : Int)) (hk0 : k0 < 2 ^ nGr T) (ht : t + 8 < o ∨ o + 10 < t) (he : e + 4 < o ∨ o + 10 < e) :
    Ct d m_1_give [.ref o, .ref t, .ref e] z z h (GvQ o h T D (E 2 0) (E 1 0)) := by
  refine Ct.of (by decide) ⟨Nat.le_refl _, Nat.le_refl _⟩ (Nat.le_of_ble_eq_true rfl) ?_
  have k2 := hk.2.1
  have k4 := hk.2.2.1
  obtain ⟨c, hc⟩ : ∃ c : Nat, T 4 0 = (c : Int) := ⟨_, (Int.toNat_of_nonneg k4.1).symm⟩
  have hc2 : nSa T = c := by unfold nSa; omega
  obtain ⟨n, hn⟩ : ∃ n : Nat, T 2 0 = (n : Int) := ⟨_, (Int.toNat_of_nonneg k2.1).symm⟩
  have hn2 : nGr T = n := by unfold nGr; omega
  have hn8 : nGr T ≤ 8 := by omega
  have hp : 2 ^ nGr T ≤ 256 := pow_le (m := 8) hn8
  have hsl := shl1_pow n (by omega)
  obtain ⟨hO, hG, hGo, hRw⟩ := hV
  rw [hn2] at hp
  -- the end: rows are right, giveFirst
  have fin : ∀ (hh : Hp) (x : Int), (∀ s : Nat, s ≤ c → ∃ M : Int → Int, hh (o + 2 + s) = some (ia 0 256 M) ∧ ∀ q : Nat, q < 2 ^ n → M (q : Int) = ms T D (E 2 0) s q) → (∀ s : Nat, s < 8 → ∃ M : Int → Int, hh (o + 2 + s) = some (ia 0 256 M)) → (∀ q : Nat, (q < o + 2 ∨ o + 9 < q) → hh q = h q) → x = -1 →
      WW d m_1_give z (GvQ o h T D (E 2 0) (E 1 0)) z hh 37 [(0, .ref o), (1, .ref t), (2, .ref e), (3, vi x)] [] := by
    intro hh x hR hA hfr hx
    have hT1 : TabAt hh t T := hT.kept (fun q q1 q2 => hfr q (by omega))
    have hE1 : EvAt hh e E := hE.kept (fun q q1 q2 => hfr q (by omega))
    have hO1 := (hfr o (by omega)).trans hO
    have hG1 := (hfr (o + 1) (by omega)).trans hG
    have hGo1 := (hfr (o + 10) (by omega)).trans hGo
    refine x_iload_n D_1_give_37 rfl ?_
    refine x_if_lt D_1_give_38 ⟨by omega, by omega⟩ (fun c38 => ?_) (fun c38 => ?_)
    · refine x_aload_n D_1_give_94 rfl ?_
      refine x_aload_n D_1_give_95 rfl ?_
      refine x_aload_n D_1_give_96 rfl ?_
      refine x_invV (d' := d - 1) D_1_give_97 l_1_37 mi_1_giveFirst (c_1_giveFirst (D := D) (k0 := k0) (by omega) hO1 hG1 hGo1 (by rw [hc2, hn2]; exact hR) hT1 hE1 hk hD hsh hk0 ht he) (by assumption) rfl rfl (by omega) rfl (fun q => q) rfl rfl (fun r97 h97 q97 => ?_)
      obtain ⟨rfl, g1, ⟨Go, g2, g3⟩, g4⟩ := q97
      refine x_return D_1_give_100 rfl rfl ?_
      refine ⟨rfl, ⟨Go, ⟨g1, (g4 (o + 1) (by omega)).trans hG1, g2, fun s hs => ?_⟩, g3⟩, fun q hq => (g4 q (by omega)).trans (hfr q (by omega))⟩
      obtain ⟨M, hM⟩ := hA s hs
      exact ⟨M, (g4 (o + 2 + s) (by omega)).trans hM⟩
    exact absurd c38 (by omega)
  have outer : ∀ (s1 : Nat) (hh : Hp) (x : Int), s1 ≤ c → (∀ s : Nat, s1 ≤ s → s ≤ c → ∃ M : Int → Int, hh (o + 2 + s) = some (ia 0 256 M) ∧ ∀ q : Nat, q < 2 ^ n → M (q : Int) = ms T D (E 2 0) s q) → (∀ s : Nat, s < 8 → ∃ M : Int → Int, hh (o + 2 + s) = some (ia 0 256 M)) → (∀ q : Nat, (q < o + 2 ∨ o + 9 < q) → hh q = h q) → x = (s1 : Int) - 1 →
      WW d m_1_give z (GvQ o h T D (E 2 0) (E 1 0)) z hh 37 [(0, .ref o), (1, .ref t), (2, .ref e), (3, vi x)] [] := by
    intro s1
    induction s1 with
    | zero =>
      intro hh x h1 hR hA hfr hx
      exact fin hh x (fun s hs => hR s (by omega) hs) hA hfr (by omega)
    | succ s ihs =>
      intro hh x h1 hR hA hfr hx
      obtain rfl : x = (s : Int) := by omega
      have hs8 : (s : Int) < T 4 0 := by omega
      have inner : ∀ (f k : Nat) (hh : Hp) (M : Int → Int), 2 ^ n = k + f → (∀ q : Nat, q < k → M (q : Int) = ms T D (E 2 0) s q) → hh (o + 2 + s) = some (ia 0 256 M) → (∀ s' : Nat, s + 1 ≤ s' → s' ≤ c → ∃ M : Int → Int, hh (o + 2 + s') = some (ia 0 256 M) ∧ ∀ q : Nat, q < 2 ^ n → M (q : Int) = ms T D (E 2 0) s' q) → (∀ s : Nat, s < 8 → ∃ M : Int → Int, hh (o + 2 + s) = some (ia 0 256 M)) → (∀ q : Nat, (q < o + 2 ∨ o + 9 < q) → hh q = h q) →
          WW d m_1_give z (GvQ o h T D (E 2 0) (E 1 0)) z hh 52 [(0, .ref o), (1, .ref t), (2, .ref e), (3, vi s), (4, vi (gf T D (E 2 0) s)), (5, vi k)] [] := by
        intro f
        induction f with
        | zero =>
          intro k hh M hf hM hr hR hA hfr
          have hT1 : TabAt hh t T := hT.kept (fun q q1 q2 => hfr q (by omega))
          obtain ⟨b0, -⟩ := id hT1
          refine x_iload D_1_give_52 rfl ?_
          refine x_iconst D_1_give_54 ?_
          refine x_aload_n D_1_give_55 rfl ?_
          refine x_getfield D_1_give_56 f_1_20 (by assumption) rfl ?_
          refine x_ishl D_1_give_59 ?_
          rw [hn]
          refine x_icmp_ge D_1_give_60 ⟨by omega, by omega⟩ (iShl_B3 _ _) (fun c60 => ?_) (fun c60 => ?_)
          · refine x_iinc D_1_give_88 rfl rfl rfl rfl ?_
            refine x_goto D_1_give_91 ?_
            refine (ihs hh _ (by omega) (fun s' q1 q2 => ?_) hA hfr (by omega)).sub rfl
            by_cases e1 : s' = s
            · subst e1; exact ⟨M, hr, fun q hq => hM q (by omega)⟩
            · exact hR s' (by omega) q2
          exact absurd c60 (by rw [hsl]; omega)
        | succ f ih =>
          intro k hh M hf hM hr hR hA hfr
          have hT1 : TabAt hh t T := hT.kept (fun q q1 q2 => hfr q (by omega))
          have hE1 : EvAt hh e E := hE.kept (fun q q1 q2 => hfr q (by omega))
          obtain ⟨b0, -⟩ := id hT1
          have hO1 := (hfr o (by omega)).trans hO
          have hG1 := (hfr (o + 1) (by omega)).trans hG
          obtain ⟨M1, r2, r3⟩ := hR (s + 1) (by omega) (by omega)
          have hmm : mfold T D (E 2 0) (s : Int) (ms T D (E 2 0) (s + 1)) (k : Int) (nGr T) = ms T D (E 2 0) s (k : Int) := (ms_step T D (E 2 0) (by omega) (k : Int)).symm
          have hM' : ∀ q : Nat, q < k + 1 → ups M (k : Int) (ms T D (E 2 0) s (k : Int)) (q : Int) = ms T D (E 2 0) s q := by
            intro q hq
            by_cases e1 : q = k
            · subst e1; simp [ups]
            · have : (q : Int) ≠ (k : Int) := by omega
              simp only [ups, if_neg this]
              exact hM q (by omega)
          refine x_iload D_1_give_52 rfl ?_
          refine x_iconst D_1_give_54 ?_
          refine x_aload_n D_1_give_55 rfl ?_
          refine x_getfield D_1_give_56 f_1_20 (by assumption) rfl ?_
          refine x_ishl D_1_give_59 ?_
          rw [hn]
          refine x_icmp_ge D_1_give_60 ⟨by omega, by omega⟩ (iShl_B3 _ _) (fun c60 => ?_) (fun c60 => ?_)
          · exact absurd c60 (by rw [hsl]; omega)
          refine x_aload_n D_1_give_63 rfl ?_
          refine x_getfield D_1_give_64 f_1_11 (by assumption) rfl ?_
          refine x_iload_n D_1_give_67 rfl ?_
          refine x_aaload1 D_1_give_68 hG1 (by omega) (by omega) rfl (q0 := o + 2 + s) (rowG (s := s) (by omega)) ?_
          refine x_iload D_1_give_69 rfl ?_
          refine x_aload_n D_1_give_71 rfl ?_
          refine x_aload_n D_1_give_72 rfl ?_
          refine x_iload D_1_give_73 rfl ?_
          refine x_iload_n D_1_give_75 rfl ?_
          refine x_iload D_1_give_76 rfl ?_
          refine x_invV (d' := d - 1) D_1_give_78 l_1_33 mi_1_mostFrom (c_1_mostFrom (D := D) (sd := E 2 0) (M := ms T D (E 2 0) (s + 1)) (by omega) hO1 hG1 r2 hT1 hk (by omega) (by rw [hn2]; omega) (by rw [hn2]; exact r3) (fun q => ms_rng hk D (E 2 0) (s + 1) q)) (by assumption) rfl rfl (by omega) rfl (fun q => q) rfl rfl (fun r78 h78 q78 => ?_)
          obtain ⟨rfl, rfl⟩ := q78
          rw [hmm]
          refine x_iastore D_1_give_81 (by assumption) (by omega) (by omega) rfl (fun h81 e81 n81 => ?_)
          first | (replace hr := (n81 _ (by omega)).trans hr) | (replace hr := e81)
          replace hfr := fun q hq => (n81 q (by omega)).trans (hfr q hq)
          have hR2 : ∀ s' : Nat, s + 1 ≤ s' → s' ≤ c → ∃ M : Int → Int, h81 (o + 2 + s') = some (ia 0 256 M) ∧ ∀ q : Nat, q < 2 ^ n → M (q : Int) = ms T D (E 2 0) s' q := by
            intro s' q1 q2
            obtain ⟨M', w1, w2⟩ := hR s' q1 q2
            exact ⟨M', (n81 _ (by omega)).trans w1, w2⟩
          have hA2 : ∀ s' : Nat, s' < 8 → ∃ M : Int → Int, h81 (o + 2 + s') = some (ia 0 256 M) := by
            intro s' q1
            by_cases e1 : s' = s
            · subst e1; exact ⟨_, hr⟩
            · obtain ⟨M', w1⟩ := hA s' q1
              exact ⟨M', (n81 _ (by omega)).trans w1⟩
          refine x_iinc D_1_give_82 rfl rfl rfl rfl ?_
          refine x_goto D_1_give_85 ?_
          exact (ih (k + 1) _ _ (by omega) hM' hr hR2 hA2 hfr).sub rfl
      have hT1 : TabAt hh t T := hT.kept (fun q q1 q2 => hfr q (by omega))
      obtain ⟨b0, -⟩ := id hT1
      have hE1 : EvAt hh e E := hE.kept (fun q q1 q2 => hfr q (by omega))
      obtain ⟨M, hM⟩ := hA s (by omega)
      refine x_iload_n D_1_give_37 rfl ?_
      refine x_if_lt D_1_give_38 ⟨by omega, by omega⟩ (fun c38 => ?_) (fun c38 => ?_)
      · exact absurd c38 (by omega)
      refine x_aload_n D_1_give_41 rfl ?_
      refine x_aload_n D_1_give_42 rfl ?_
      refine x_iload_n D_1_give_43 rfl ?_
      refine x_invS2 (d' := d - 1) D_1_give_44 l_1_29 mi_1_grainsFor (c_1_grainsFor (by omega) hT1 hE1 hk hD ⟨by omega, hs8⟩)  rfl (by omega) rfl (fun q => q) rfl rfl (fun r44 h44 q44 => ?_)
      obtain ⟨rfl, rfl⟩ := q44
      refine x_istore D_1_give_47 rfl rfl rfl ?_
      refine x_iconst D_1_give_49 ?_
      refine x_istore D_1_give_50 rfl rfl rfl ?_
      exact (inner (2 ^ n) 0 hh M (by omega) (fun q hq => absurd hq (by omega)) hM (fun s' q1 q2 => hR s' q1 q2) hA hfr).sub rfl
  have zero : ∀ (f k : Nat) (hh : Hp) (M : Int → Int), 2 ^ n = k + f → (∀ q : Nat, q < k → M (q : Int) = 0) → hh (o + 2 + c) = some (ia 0 256 M) → (∀ s : Nat, s < 8 → ∃ M : Int → Int, hh (o + 2 + s) = some (ia 0 256 M)) → (∀ q : Nat, (q < o + 2 ∨ o + 9 < q) → hh q = h q) →
      WW d m_1_give z (GvQ o h T D (E 2 0) (E 1 0)) z hh 2 [(0, .ref o), (1, .ref t), (2, .ref e), (3, vi k)] [] := by
    intro f
    induction f with
    | zero =>
      intro k hh M hf hM hr hA hfr
      have hT1 : TabAt hh t T := hT.kept (fun q q1 q2 => hfr q (by omega))
      obtain ⟨b0, -⟩ := id hT1
      refine x_iload_n D_1_give_2 rfl ?_
      refine x_iconst D_1_give_3 ?_
      refine x_aload_n D_1_give_4 rfl ?_
      refine x_getfield D_1_give_5 f_1_20 (by assumption) rfl ?_
      refine x_ishl D_1_give_8 ?_
      rw [hn]
      refine x_icmp_ge D_1_give_9 ⟨by omega, by omega⟩ (iShl_B3 _ _) (fun c9 => ?_) (fun c9 => ?_)
      · refine x_aload_n D_1_give_30 rfl ?_
        refine x_getfield D_1_give_31 f_1_26 (by assumption) rfl ?_
        refine x_iconst D_1_give_34 ?_
        refine x_isub D_1_give_35 ?_
        refine x_istore_n D_1_give_36 rfl rfl rfl ?_
        refine (outer c hh _ (Nat.le_refl _) (fun s q1 q2 => ?_) hA hfr (by omega)).sub rfl
        obtain rfl : s = c := by omega
        exact ⟨M, hr, fun q hq => by rw [hM q (by omega), ← hc2, ms_end]⟩
      exact absurd c9 (by rw [hsl]; omega)
    | succ f ih =>
      intro k hh M hf hM hr hA hfr
      have hT1 : TabAt hh t T := hT.kept (fun q q1 q2 => hfr q (by omega))
      obtain ⟨b0, -⟩ := id hT1
      have hO1 := (hfr o (by omega)).trans hO
      have hG1 := (hfr (o + 1) (by omega)).trans hG
      refine x_iload_n D_1_give_2 rfl ?_
      refine x_iconst D_1_give_3 ?_
      refine x_aload_n D_1_give_4 rfl ?_
      refine x_getfield D_1_give_5 f_1_20 (by assumption) rfl ?_
      refine x_ishl D_1_give_8 ?_
      rw [hn]
      refine x_icmp_ge D_1_give_9 ⟨by omega, by omega⟩ (iShl_B3 _ _) (fun c9 => ?_) (fun c9 => ?_)
      · exact absurd c9 (by rw [hsl]; omega)
      refine x_aload_n D_1_give_12 rfl ?_
      refine x_getfield D_1_give_13 f_1_11 (by assumption) rfl ?_
      refine x_aload_n D_1_give_16 rfl ?_
      refine x_getfield D_1_give_17 f_1_26 (by assumption) rfl ?_
      rw [hc]
      refine x_aaload1 D_1_give_20 hG1 (by omega) (by omega) rfl (q0 := o + 2 + c) (rowG (s := c) (by omega)) ?_
      refine x_iload_n D_1_give_21 rfl ?_
      refine x_iconst D_1_give_22 ?_
      refine x_iastore D_1_give_23 (by assumption) (by omega) (by omega) rfl (fun h23 e23 n23 => ?_)
      first | (replace hr := (n23 _ (by omega)).trans hr) | (replace hr := e23)
      replace hfr := fun q hq => (n23 q (by omega)).trans (hfr q hq)
      have hA2 : ∀ s' : Nat, s' < 8 → ∃ M : Int → Int, h23 (o + 2 + s') = some (ia 0 256 M) := by
        intro s' q1
        by_cases e1 : s' = c
        · subst e1; exact ⟨_, hr⟩
        · obtain ⟨M', w1⟩ := hA s' q1
          exact ⟨M', (n23 _ (by omega)).trans w1⟩
      refine x_iinc D_1_give_24 rfl rfl rfl rfl ?_
      refine x_goto D_1_give_27 ?_
      refine (ih (k + 1) _ _ (by omega) (fun q hq => ?_) hr hA2 hfr).sub rfl
      by_cases e1 : q = k
      · subst e1; simp [ups]
      · have : (q : Int) ≠ (k : Int) := by omega
        simp only [ups, if_neg this]
        exact hM q (by omega)
  obtain ⟨M, hM⟩ := hRw c (by omega)
  refine x_iconst D_1_give_0 ?_
  refine x_istore_n D_1_give_1 rfl rfl rfl ?_
  exact (zero (2 ^ n) 0 _ M (by omega) (fun q hq => absurd hq (by omega)) hM hRw (fun q hq => rfl)).sub rfl
