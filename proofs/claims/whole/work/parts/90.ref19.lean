theorem mfold_att (T : TT) (D : Int → Int) (sd s : Int) (M : Int → Int) (set : Int) : ∀ n : Nat, mfold T D sd s M set n = M set ∨ ∃ g : Nat, g < n ∧ may T D sd s (g : Int) set ∧ mfold T D sd s M set n = T 7 s + M (clr set (g : Int)) := by
  intro n
  induction n with
  | zero => exact Or.inl rfl
  | succ n ih =>
    by_cases h : may T D sd s (n : Int) set
    · rw [mfold_t h]
      by_cases e : mfold T D sd s M set n < T 7 s + M (clr set (n : Int))
      · rw [mx_gt e]
        exact Or.inr ⟨n, by omega, h, rfl⟩
      · rw [mx_le2 e]
        rcases ih with q | ⟨g, g1, g2, g3⟩
        · exact Or.inl q
        · exact Or.inr ⟨g, by omega, g2, g3⟩
    · rw [mfold_f h]
      rcases ih with q | ⟨g, g1, g2, g3⟩
      · exact Or.inl q
      · exact Or.inr ⟨g, by omega, g2, g3⟩
theorem ffd_val {T : TT} {D : Int → Int} {sd s : Int} {M : Int → Int} {B set : Int} : ∀ k : Nat, k ≤ nGr T → (ffd T D sd s M B set k = -4 ∧ ∀ g : Nat, nGr T ≤ g + k → g < nGr T → ¬ (may T D sd s (g : Int) set ∧ T 7 s + M (clr set (g : Int)) = B)) ∨ ∃ g : Nat, g < nGr T ∧ ffd T D sd s M B set k = (g : Int) ∧ T 7 s + M (clr set (g : Int)) = B := by
  intro k
  induction k with
  | zero => intro _; exact Or.inl ⟨rfl, fun g h1 h2 => absurd h2 (by omega)⟩
  | succ k ih =>
    intro hk
    have hg : (nGr T - (k + 1)) + (k + 1) = nGr T := by omega
    by_cases h : may T D sd s ((nGr T - (k + 1) : Nat) : Int) set ∧ T 7 s + M (clr set ((nGr T - (k + 1) : Nat) : Int)) = B
    · exact Or.inr ⟨nGr T - (k + 1), by omega, ffd_t hg h, h.2⟩
    · rw [ffd_f hg h]
      rcases ih (by omega) with ⟨q1, q2⟩ | q
      · refine Or.inl ⟨q1, fun g h1 h2 => ?_⟩
        by_cases e : g = nGr T - (k + 1)
        · rw [e]; exact h
        · exact q2 g (by omega) h2
      · exact Or.inr q
theorem ms_next {T : TT} {D : Int → Int} {sd sh : Int} {s : Nat} (hs : s < nSa T) : ms T D sd s (lft T D sd sh s) = (if gOf T D sd sh s = -4 then 0 else T 7 (s : Int)) + ms T D sd (s + 1) (lft T D sd sh (s + 1)) := by
  have hl : lft T D sd sh (s + 1) = if gOf T D sd sh s = -4 then lft T D sd sh s else clr (lft T D sd sh s) (gOf T D sd sh s) := rfl
  rcases ffd_val (T := T) (D := D) (sd := sd) (s := (s : Int)) (M := ms T D sd (s + 1)) (B := ms T D sd s (lft T D sd sh s)) (set := lft T D sd sh s) (nGr T) (Nat.le_refl _) with ⟨q1, q2⟩ | ⟨g, g1, g2, g3⟩
  · have e : gOf T D sd sh s = -4 := q1
    rw [hl, if_pos e, if_pos e]
    rcases mfold_att T D sd (s : Int) (ms T D sd (s + 1)) (lft T D sd sh s) (nGr T) with w | ⟨g, w1, w2, w3⟩
    · rw [ms_step T D sd hs, w]; omega
    · exact absurd ⟨w2, by rw [ms_step T D sd hs, w3]⟩ (q2 g (by omega) w1)
  · have e : gOf T D sd sh s = (g : Int) := g2
    rw [hl, e, if_neg (by omega), if_neg (by omega), g3]
def gsum (T : TT) (G : Nat → Int) : Nat → Int
  | 0 => 0
  | s + 1 => gsum T G s + (if G s = -4 then 0 else T 7 (s : Int))
theorem ms_gsum {T : TT} {D : Int → Int} {sd sh : Int} : ∀ s : Nat, s ≤ nSa T → ms T D sd 0 sh = gsum T (gOf T D sd sh) s + ms T D sd s (lft T D sd sh s) := by
  intro s
  induction s with
  | zero => intro _; show ms T D sd 0 sh = 0 + ms T D sd 0 sh; omega
  | succ s ih =>
    intro hs
    rw [ih (by omega), ms_next (by omega)]
    simp only [gsum]
    omega
theorem gsum_set {T : TT} (hk : TabOk T) {D : Int → Int} {sd sh : Int} : ∀ s : Nat, s ≤ nSa T → sumSet (T 7) (gvn T D sd sh (nSa T)) s = gsum T (gOf T D sd sh) s := by
  have k4 := hk.2.2.1
  have hn : nSa T ≤ 7 := by unfold nSa; omega
  intro s
  induction s with
  | zero => intro _; rfl
  | succ s ih =>
    intro hs
    simp only [sumSet, gsum]
    rw [ih (by omega)]
    by_cases e : gOf T D sd sh s = -4
    · rw [if_pos e, if_neg (fun q => ?_)]
      rw [has_tb _ (by omega), tb_gvn T D sd sh (nSa T) (by omega) s (by omega), decide_eq_true_iff] at q
      exact q.2 e
    · rw [if_neg e, if_pos ((has_tb _ (by omega)).mpr ?_)]
      rw [tb_gvn T D sd sh (nSa T) (by omega) s (by omega), decide_eq_true_iff]
      exact ⟨by omega, e⟩
theorem worth_ms {T : TT} (hk : TabOk T) {D : Int → Int} {sd sh : Int} : ms T D sd 0 sh = sumSet (T 7) (gvn T D sd sh (nSa T)) (nSa T) := by
  rw [gsum_set hk (nSa T) (Nat.le_refl _), ms_gsum (nSa T) (Nat.le_refl _), ms_end]
  omega
section R19
variable {d : Nat} {z : Nat × Nat} {h : Hp} {b len : Int} {Bt : Int → Int} {T : TT} {st : SS} {u : Nat} {un : Nat → SS} {kc : Nat} {ke : Nat → SS}
theorem MtF.mk {U V : TT} (hF : RF U len Bt T st u un kc ke) (hS : StOk T st b) (hm : ∀ p : Int, 0 ≤ p → p < T 0 0 → V 38 p = st (11 + p)) (ho : ∀ a : Nat, a ≠ 38 → V a = U a) : MtF V T (dryF st) st := by
  obtain ⟨⟨t0, t1, t2, t3, t4⟩, t5, t6, t7, t8, t9, -⟩ := hF.tab
  unfold MtF
  rw [ho 1 (by omega), ho 2 (by omega), ho 6 (by omega), ho 7 (by omega), ho 8 (by omega), ho 9 (by omega), ho 13 (by omega)]
  exact ⟨⟨t1, t2⟩, t6, fun s s0 s1 => ⟨t7 s s0 s1, t8 s s0 s1, t9 s s0 s1⟩, hF.2.1, fun p p0 p1 => ⟨hm p p0 p1, hS.dr p p0 p1⟩⟩
theorem r_match (hd : 4 ≤ d) (hI : RInv h len Bt T st u un kc ke) (hG : Glob b len Bt T st u un kc ke) {s : Int} (hs : B3 s) : Ct d m_6_match [.ref 102, vi s] z z h (RQ (matchA T st s) h len Bt T st u un kc ke) := by
  refine Ct.of (by decide) ⟨Nat.le_refl _, Nat.le_refl _⟩ (Nat.le_of_ble_eq_true rfl) ?_
  have hI0 := hI
  obtain ⟨U, hm, hF⟩ := hI
  obtain ⟨⟨hk, k00, k22⟩, hln, hBt, hu, hS⟩ := hG
  obtain ⟨⟨t0, t1, t2, t3, t4⟩, -⟩ := hF.tab
  have f2 := hF.2.1
  have k4 := hk.2.2.1
  obtain ⟨k0, hsh, hk0⟩ : ∃ k0 : Nat, st 3 = (k0 : Int) ∧ k0 < 2 ^ nGr T := by
    obtain ⟨k, q1, q2⟩ := hS.2.2.2.1
    exact ⟨k, q2, q1⟩
  have hsB := hs
  by_cases hc : matchC T s
  · skip
    refine x_iload_n D_6_match_0 rfl ?_
    refine x_iconst D_6_match_1 ?_
    refine x_icmp_eq D_6_match_2 hsB ⟨by omega, by omega⟩ (fun c2 => ?_) (fun c2 => ?_)
    · refine x_aload_n D_6_match_15 rfl ?_
      refine x_invV (d' := d - 1) D_6_match_16 l_6_230 mi_6_layMouths (c_6_layMouths (by omega) hm t0 hk f2) (md_o hm) rfl rfl (by omega) rfl (fun q => q) rfl rfl (fun r16 h16 q16 => ?_)
      obtain ⟨rfl, ⟨V, hm, v38, vo⟩, hf⟩ := q16
      have hMt : MtF V T (dryF st) st := MtF.mk hF hS v38 vo
      refine x_aload_n D_6_match_19 rfl ?_
      refine x_invV (d' := d - 1) D_6_match_20 l_6_233 mi_6_matches (c_6_matches (by omega) hm hMt hk hsh hk0) (md_o hm) rfl rfl (by omega) rfl (fun q => q) rfl rfl (fun r20 h20 q20 => ?_)
      obtain ⟨rfl, ⟨W, hm, w39, wo⟩, hf2⟩ := q20
      have hf : ∀ q : Nat, (q < 102 ∨ 128 < q) → h20 q = h q := fun q hq => (hf2 q hq).trans (hf q hq)
      have hI2 : RInv h20 len Bt T st u un kc ke := hF.keep hm (fun a ha => (wo a (by omega) (by omega)).trans (vo a (by omega)))
      refine x_istore_n D_6_match_23 rfl rfl rfl ?_
      refine x_iload_n D_6_match_24 rfl ?_
      refine x_iconst D_6_match_25 ?_
      refine x_icmp_ne D_6_match_26 hsB ⟨by omega, by omega⟩ (fun c26 => ?_) (fun c26 => ?_)
      · refine x_aload_n D_6_match_33 rfl ?_
        refine x_getfield D_6_match_34 f_6_76 (md_o hm) rfl ?_
        refine x_iload_n D_6_match_37 rfl ?_
        refine x_iaload D_6_match_38 (md_a39 hm) (by omega) (by omega) rfl ?_
        refine x_ireturn D_6_match_39 rfl (by first | rfl | exact nb_bi _ | decide +kernel) rfl ?_
        first
        | (exfalso; omega)
        | (rw [show matchA T st s = sumSet (T 7) (gvT T st) (T 4 0).toNat by unfold matchA; rw [if_pos hc, if_pos (by omega)]]; exact ⟨by rw [worth_ms hk]; rfl, hI2, hf⟩)
        | (rw [show matchA T st s = GT T st s by unfold matchA; rw [if_pos hc, if_neg (by omega)]]; obtain ⟨n, rfl⟩ : ∃ n : Nat, s = (n : Int) := ⟨s.toNat, by omega⟩; exact ⟨by rw [w39 n (by unfold nSa; omega)]; rfl, hI2, hf⟩)
      refine x_iload_n D_6_match_29 rfl ?_
      refine x_goto D_6_match_30 ?_
      refine x_ireturn D_6_match_39 rfl (by first | rfl | exact nb_bi _ | decide +kernel) rfl ?_
      first
      | (exfalso; omega)
      | (rw [show matchA T st s = sumSet (T 7) (gvT T st) (T 4 0).toNat by unfold matchA; rw [if_pos hc, if_pos (by omega)]]; exact ⟨by rw [worth_ms hk]; rfl, hI2, hf⟩)
      | (rw [show matchA T st s = GT T st s by unfold matchA; rw [if_pos hc, if_neg (by omega)]]; obtain ⟨n, rfl⟩ : ∃ n : Nat, s = (n : Int) := ⟨s.toNat, by omega⟩; exact ⟨by rw [w39 n (by unfold nSa; omega)]; rfl, hI2, hf⟩)
    refine x_aload_n D_6_match_5 rfl ?_
    refine x_iload_n D_6_match_6 rfl ?_
    refine x_invV (d' := d - 1) D_6_match_7 l_6_188 mi_6_isSaying (c_6_isSaying (by omega) hm hk t2 hs) (md_o hm) rfl rfl (by omega) rfl (fun q => q) rfl rfl (fun r7 h7 q7 => ?_)
    obtain ⟨rfl, rfl⟩ := q7
    refine x_if_neb D_6_match_10 (fun c10 => ?_) (fun c10 => ?_)
    · refine x_aload_n D_6_match_15 rfl ?_
      refine x_invV (d' := d - 1) D_6_match_16 l_6_230 mi_6_layMouths (c_6_layMouths (by omega) hm t0 hk f2) (md_o hm) rfl rfl (by omega) rfl (fun q => q) rfl rfl (fun r16 h16 q16 => ?_)
      obtain ⟨rfl, ⟨V, hm, v38, vo⟩, hf⟩ := q16
      have hMt : MtF V T (dryF st) st := MtF.mk hF hS v38 vo
      refine x_aload_n D_6_match_19 rfl ?_
      refine x_invV (d' := d - 1) D_6_match_20 l_6_233 mi_6_matches (c_6_matches (by omega) hm hMt hk hsh hk0) (md_o hm) rfl rfl (by omega) rfl (fun q => q) rfl rfl (fun r20 h20 q20 => ?_)
      obtain ⟨rfl, ⟨W, hm, w39, wo⟩, hf2⟩ := q20
      have hf : ∀ q : Nat, (q < 102 ∨ 128 < q) → h20 q = h q := fun q hq => (hf2 q hq).trans (hf q hq)
      have hI2 : RInv h20 len Bt T st u un kc ke := hF.keep hm (fun a ha => (wo a (by omega) (by omega)).trans (vo a (by omega)))
      refine x_istore_n D_6_match_23 rfl rfl rfl ?_
      refine x_iload_n D_6_match_24 rfl ?_
      refine x_iconst D_6_match_25 ?_
      refine x_icmp_ne D_6_match_26 hsB ⟨by omega, by omega⟩ (fun c26 => ?_) (fun c26 => ?_)
      · refine x_aload_n D_6_match_33 rfl ?_
        refine x_getfield D_6_match_34 f_6_76 (md_o hm) rfl ?_
        refine x_iload_n D_6_match_37 rfl ?_
        refine x_iaload D_6_match_38 (md_a39 hm) (by omega) (by omega) rfl ?_
        refine x_ireturn D_6_match_39 rfl (by first | rfl | exact nb_bi _ | decide +kernel) rfl ?_
        first
        | (exfalso; omega)
        | (rw [show matchA T st s = sumSet (T 7) (gvT T st) (T 4 0).toNat by unfold matchA; rw [if_pos hc, if_pos (by omega)]]; exact ⟨by rw [worth_ms hk]; rfl, hI2, hf⟩)
        | (rw [show matchA T st s = GT T st s by unfold matchA; rw [if_pos hc, if_neg (by omega)]]; obtain ⟨n, rfl⟩ : ∃ n : Nat, s = (n : Int) := ⟨s.toNat, by omega⟩; exact ⟨by rw [w39 n (by unfold nSa; omega)]; rfl, hI2, hf⟩)
      refine x_iload_n D_6_match_29 rfl ?_
      refine x_goto D_6_match_30 ?_
      refine x_ireturn D_6_match_39 rfl (by first | rfl | exact nb_bi _ | decide +kernel) rfl ?_
      first
      | (exfalso; omega)
      | (rw [show matchA T st s = sumSet (T 7) (gvT T st) (T 4 0).toNat by unfold matchA; rw [if_pos hc, if_pos (by omega)]]; exact ⟨by rw [worth_ms hk]; rfl, hI2, hf⟩)
      | (rw [show matchA T st s = GT T st s by unfold matchA; rw [if_pos hc, if_neg (by omega)]]; obtain ⟨n, rfl⟩ : ∃ n : Nat, s = (n : Int) := ⟨s.toNat, by omega⟩; exact ⟨by rw [w39 n (by unfold nSa; omega)]; rfl, hI2, hf⟩)
    exact absurd (hc.resolve_left c2) c10
  · skip
    refine x_iload_n D_6_match_0 rfl ?_
    refine x_iconst D_6_match_1 ?_
    refine x_icmp_eq D_6_match_2 hsB ⟨by omega, by omega⟩ (fun c2 => ?_) (fun c2 => ?_)
    · exact absurd (Or.inl (by omega)) hc
    refine x_aload_n D_6_match_5 rfl ?_
    refine x_iload_n D_6_match_6 rfl ?_
    refine x_invV (d' := d - 1) D_6_match_7 l_6_188 mi_6_isSaying (c_6_isSaying (by omega) hm hk t2 hs) (md_o hm) rfl rfl (by omega) rfl (fun q => q) rfl rfl (fun r7 h7 q7 => ?_)
    obtain ⟨rfl, rfl⟩ := q7
    refine x_if_neb D_6_match_10 (fun c10 => ?_) (fun c10 => ?_)
    · exact absurd (Or.inr c10) hc
    refine x_iconst D_6_match_13 ?_
    refine x_ireturn D_6_match_14 rfl (by first | rfl | exact nb_bi _ | decide +kernel) rfl ?_
    exact RQ.same hI0 (by unfold matchA; rw [if_neg hc])
end R19
