/-! steps of an evening -/
theorem tb_bound {a : Int} {n : Nat} (ha : B3 a) (hn : n ≤ 30) (h : ∀ i, i < 32 → tb a i = true → i < n) : ∃ k : Nat, k < 2 ^ n ∧ a = (k : Int) := by
  have hp : 2 ^ n ≤ 2 ^ 30 := pow_le hn
  have hp0 : 0 < 2 ^ n := Nat.pow_pos (by omega)
  have e : a = iAnd ((2 ^ n - 1 : Nat) : Int) a := by
    refine tb_ext ha (iAnd_B3 _ _) fun i hi => ?_
    rw [tb_and, tb_nat _ hi, Nat.testBit_two_pow_sub_one]
    cases hx : tb a i with
    | false => simp
    | true => simp [h i hi hx]
  obtain ⟨k, h1, h2⟩ := iAnd_le (k := 2 ^ n - 1) (by omega) a
  exact ⟨k, by omega, e.trans h2⟩
theorem nat_B3 {k n : Nat} (h : k < 2 ^ n) (hn : n ≤ 30) : B3 (k : Int) := by
  have hp : 2 ^ n ≤ 2 ^ 30 := pow_le hn
  exact ⟨by omega, by omega⟩
theorem has_or (a : Int) {s s0 : Nat} (hs : s < 32) (h0 : s0 < 32) : hasB (iOr a (iShl 1 (s0 : Int))) (s : Int) ↔ hasB a (s : Int) ∨ s = s0 := by
  rw [has_tb _ hs, has_tb _ hs, tb_or, tb_shl1 s0 h0 s hs]
  simp
theorem shS_or (T : TT) (sd i : Int) {s0 : Nat} (h0 : s0 < 32) (hn : ¬ hasB sd (s0 : Int)) : ∀ n : Nat, n ≤ 32 → shS T (iOr sd (iShl 1 (s0 : Int))) i n = shS T sd i n + (if s0 < n ∧ T 5 (s0 : Int) = i then T 6 (s0 : Int) else 0) := by
  intro n
  induction n with
  | zero => intro _; simp [shS]
  | succ n ih =>
    intro hnn
    have ih := ih (by omega)
    simp only [shS]
    rw [ih]
    have hh := has_or sd (s := n) (by omega) h0
    by_cases e : n = s0
    · subst e
      have e1 : ¬ n < n := by omega
      have e2 : n < n + 1 := by omega
      have h3 : hasB (iOr sd (iShl 1 (n : Int))) (n : Int) := hh.mpr (Or.inr rfl)
      by_cases h5 : T 5 (n : Int) = i
      · rw [if_neg (fun q => e1 q.1), if_pos ⟨h3, h5⟩, if_neg (fun q => hn q.1), if_pos ⟨e2, h5⟩]
        all_goals omega
      · rw [if_neg (fun q => e1 q.1), if_neg (fun q => h5 q.2), if_neg (fun q => hn q.1), if_neg (fun q => h5 q.2)]
    · have h4 : hasB (iOr sd (iShl 1 (s0 : Int))) (n : Int) ↔ hasB sd (n : Int) := by
        rw [hh]
        exact ⟨fun q => q.resolve_right e, Or.inl⟩
      have e3 : (s0 < n + 1 ∧ T 5 (s0 : Int) = i) ↔ (s0 < n ∧ T 5 (s0 : Int) = i) := by
        constructor
        · rintro ⟨q1, q2⟩; exact ⟨by omega, q2⟩
        · rintro ⟨q1, q2⟩; exact ⟨by omega, q2⟩
      simp only [h4, e3]
      omega
abbrev melting (st : SS) : Prop := st 1 ≠ -4 ∧ st 0 < st 2
theorem melt_iff {T : TT} {st : SS} {b : Int} (h : StOk T st b) : st 0 < st 2 ↔ melting st := by
  obtain ⟨h0, h1, h2, -⟩ := h
  unfold melting
  omega
def takeS (T : TT) (st : SS) (i g : Int) : SS := fun q => if q = 1 then i else if q = 2 then st 0 + T 3 g * st (11 + i) else if q = 3 then clr (st 3) g else if q = 6 + i then st 0 + 2 * (T 3 g * st (11 + i)) else st q
def sayS (T : TT) (st : SS) (s : Int) : SS := fun q => if q = 0 then st 0 + T 6 s else if q = 4 then iOr (st 4) (iShl 1 s) else if q = 16 + s then st 0 + T 6 s else st q
def passS (st : SS) (n : Int) : SS := fun q => if q = 0 then st 0 + n else st q
def eatS (T : TT) (st : SS) (k : Int) : SS := fun q => if q = 5 then iOr (st 5) (iShl 1 k) else if q = 11 + T 10 k then dryBy (st (11 + T 10 k)) (T 11 k) else st q
theorem dryBy_rng (a b : Int) : 1 ≤ dryBy a b ∧ dryBy a b ≤ 9 := by unfold dryBy; split; omega; split <;> omega
theorem take_ok {T E : TT} {st : SS} {b i g : Int} (hk : TabOk T) (hS : StOk T st b) (hR : ERel T E st) (hi : 0 ≤ i ∧ i < T 0 0) (hg : 0 ≤ g ∧ g < T 2 0) : StOk T (takeS T st i g) (b + 1000) ∧ ERel T (mkE (E 0 0) (iAnd (E 1 0) (iXor (iShl 1 g) (-1))) (E 2 0) (E 3 0) i (st 0 + T 3 g * st (11 + i)) (E 6) (E 7) (ups (E 8) i (st 0 + T 3 g * st (11 + i) + T 3 g * st (11 + i))) (E 9)) (takeS T st i g) := by
  obtain ⟨s0, s1, s2, ⟨k3, s3, s3e⟩, s4, s5, s6, s9⟩ := hS
  obtain ⟨r0, r1, r2, r3, r5, r4, r6, r9⟩ := hR
  have k0 := hk.1
  have k2 := hk.2.1
  have k4 := hk.2.2.1
  have hm := melt_rng (hk.2.2.2.2.2.2.1 g hg.1 hg.2) (s6 i hi.1 hi.2).2
  have hp : 2 ^ nGr T ≤ 256 := pow_le (m := 8) (by unfold nGr; omega)
  obtain ⟨k', hk1, hk2⟩ := iAnd_le (k := k3) (by omega) (iXor (iShl 1 g) (-1))
  have q0 : takeS T st i g 0 = st 0 := by unfold takeS; rw [if_neg (by omega), if_neg (by omega), if_neg (by omega), if_neg (by omega)]
  have q1 : takeS T st i g 1 = i := by unfold takeS; rw [if_pos rfl]
  have q2 : takeS T st i g 2 = st 0 + T 3 g * st (11 + i) := by unfold takeS; rw [if_neg (by omega), if_pos rfl]
  have q3 : takeS T st i g 3 = clr (st 3) g := by unfold takeS; rw [if_neg (by omega), if_neg (by omega), if_pos rfl]
  have q4 : takeS T st i g 4 = st 4 := by unfold takeS; rw [if_neg (by omega), if_neg (by omega), if_neg (by omega), if_neg (by omega)]
  have q5 : takeS T st i g 5 = st 5 := by unfold takeS; rw [if_neg (by omega), if_neg (by omega), if_neg (by omega), if_neg (by omega)]
  have q6 : ∀ j : Int, 0 ≤ j → takeS T st i g (6 + j) = if j = i then st 0 + 2 * (T 3 g * st (11 + i)) else st (6 + j) := by
    intro j hj
    unfold takeS
    rw [if_neg (by omega), if_neg (by omega), if_neg (by omega)]
    by_cases e : j = i
    · rw [if_pos (by omega), if_pos e]
    · rw [if_neg (by omega), if_neg e]
  have q11 : ∀ j : Int, 0 ≤ j → takeS T st i g (11 + j) = st (11 + j) := by
    intro j hj
    unfold takeS
    rw [if_neg (by omega), if_neg (by omega), if_neg (by omega), if_neg (by omega)]
  have q16 : ∀ j : Int, 0 ≤ j → takeS T st i g (16 + j) = st (16 + j) := by
    intro j hj
    unfold takeS
    rw [if_neg (by omega), if_neg (by omega), if_neg (by omega), if_neg (by omega)]
  constructor
  · refine ⟨by rw [q0]; omega, Or.inr (by rw [q1]; exact hi), by rw [q2]; omega, ⟨k', by omega, by rw [q3, s3e]; exact hk2⟩, by rw [q4]; exact s4, by rw [q5]; exact s5, fun j j0 j1 => ?_, fun s h0 h1 => ?_⟩
    · rw [q6 j j0, q11 j j0]
      have := s6 j j0 j1
      refine ⟨?_, this.2⟩
      split <;> omega
    · rw [q4, q16 s h0]
      rcases s9 s h0 h1 with w | w
      · exact Or.inl ⟨w.1, w.2.1, by omega⟩
      · exact Or.inr w
  · refine ⟨by rw [q0]; exact r0, by rw [q3, ← r1]; rfl, by rw [q4]; exact r2, by rw [q5]; exact r3, by rw [q2]; rfl, Or.inr ⟨by rw [q1]; exact hi.1, by rw [q1]; rfl⟩, fun j j0 j1 => ?_, fun s h0 h1 => ?_⟩
    · rw [q6 j j0, q11 j j0, q4]
      have := r6 j j0 j1
      refine ⟨this.1, ?_, this.2.2⟩
      show ups (E 8) i _ j = _
      unfold ups
      by_cases e : j = i
      · rw [if_pos e, if_pos e]; omega
      · rw [if_neg e, if_neg e]; exact this.2.1
    · rw [q4, q16 s h0]
      exact r9 s h0 h1
theorem pass_ok {T E : TT} {st : SS} {b n : Int} (hS : StOk T st b) (hR : ERel T E st) (hn : 1 ≤ n ∧ n ≤ 600) : StOk T (passS st n) (b + 1000) ∧ ERel T (mkE (st 0 + n) (E 1 0) (E 2 0) (E 3 0) (E 4 0) (E 5 0) (E 6) (E 7) (E 8) (E 9)) (passS st n) := by
  have hS2 := hS.mono (show b ≤ b + 1000 by omega)
  obtain ⟨s0, s1, s2, s3, s4, s5, s6, s9⟩ := hS2
  obtain ⟨r0, r1, r2, r3, r5, r4, r6, r9⟩ := hR
  obtain ⟨t0, -⟩ := hS
  have q0 : passS st n 0 = st 0 + n := if_pos rfl
  have q : ∀ j : Int, j ≠ 0 → passS st n j = st j := fun j hj => if_neg hj
  constructor
  · refine ⟨by rw [q0]; omega, by rw [q 1 (by omega), q 2 (by omega)]; exact s1, by rw [q 2 (by omega)]; exact s2, by rw [q 3 (by omega)]; exact s3, by rw [q 4 (by omega)]; exact s4, by rw [q 5 (by omega)]; exact s5, fun j j0 j1 => by rw [q _ (by omega), q _ (by omega)]; exact s6 j j0 j1, fun s h0 h1 => by rw [q 4 (by omega), q _ (by omega)]; exact s9 s h0 h1⟩
  · refine ⟨by rw [q0]; rfl, by rw [q 3 (by omega)]; exact r1, by rw [q 4 (by omega)]; exact r2, by rw [q 5 (by omega)]; exact r3, by rw [q 2 (by omega)]; exact r5, by rw [q 1 (by omega)]; exact r4, fun j j0 j1 => by rw [q _ (by omega), q _ (by omega), q 4 (by omega)]; exact r6 j j0 j1, fun s h0 h1 => by rw [q 4 (by omega), q _ (by omega)]; exact r9 s h0 h1⟩
theorem say_ok {T E : TT} {st : SS} {b : Int} {s0 : Nat} (hk : TabOk T) (hS : StOk T st b) (hR : ERel T E st) (hs : (s0 : Int) < T 4 0) (hc : canSay T st (s0 : Int)) : StOk T (sayS T st (s0 : Int)) (b + 1000) ∧ ERel T (mkE (st 0 + T 6 (s0 : Int)) (E 1 0) (iOr (E 2 0) (iShl 1 (s0 : Int))) (E 3 0) (E 4 0) (E 5 0) (E 6) (ups (E 7) (E 4 0) (E 7 (E 4 0) + T 6 (s0 : Int))) (E 8) (ups (E 9) (s0 : Int) (st 0 + T 6 (s0 : Int)))) (sayS T st (s0 : Int)) := by
  obtain ⟨s0', s1, s2, s3, ⟨k4', s4, s4e⟩, s5, s6, s9⟩ := hS.mono (show b ≤ b + 1000 by omega)
  obtain ⟨t0, -⟩ := hS
  obtain ⟨r0, r1, r2, r3, r5, r4, r6, r9⟩ := hR
  have k4 := hk.2.2.1
  have hn7 : nSa T ≤ 7 := by unfold nSa; omega
  have k6 := (hk.2.2.2.2.2.2.2.1 (s0 : Int) (by omega) hs).2.1
  obtain ⟨c1, c2, c3, c4, c5⟩ := hc
  have hsn : s0 < nSa T := by unfold nSa; omega
  have q0 : sayS T st (s0 : Int) 0 = st 0 + T 6 (s0 : Int) := if_pos rfl
  have q4 : sayS T st (s0 : Int) 4 = iOr (st 4) (iShl 1 (s0 : Int)) := by unfold sayS; rw [if_neg (by omega), if_pos rfl]
  have q : ∀ j : Int, j ≠ 0 → j ≠ 4 → j < 16 → sayS T st (s0 : Int) j = st j := by
    intro j h1 h2 h3
    unfold sayS
    rw [if_neg h1, if_neg h2, if_neg (by omega)]
  have q16 : ∀ j : Int, 0 ≤ j → sayS T st (s0 : Int) (16 + j) = if j = (s0 : Int) then st 0 + T 6 (s0 : Int) else st (16 + j) := by
    intro j hj
    unfold sayS
    rw [if_neg (by omega), if_neg (by omega)]
    by_cases e : j = (s0 : Int)
    · rw [if_pos (by omega), if_pos e]
    · rw [if_neg (by omega), if_neg e]
  have hho : ∀ s : Int, 0 ≤ s → s < T 4 0 → (hasB (iOr (st 4) (iShl 1 (s0 : Int))) s ↔ hasB (st 4) s ∨ s = (s0 : Int)) := by
    intro s h0 h1
    obtain ⟨n, rfl⟩ : ∃ n : Nat, s = (n : Int) := ⟨s.toNat, by omega⟩
    rw [has_or _ (by omega) (by omega)]
    constructor
    · rintro (w | w)
      · exact Or.inl w
      · exact Or.inr (by omega)
    · rintro (w | w)
      · exact Or.inl w
      · exact Or.inr (by omega)
  constructor
  · refine ⟨by rw [q0]; omega, by rw [q 1 (by omega) (by omega) (by omega), q 2 (by omega) (by omega) (by omega)]; exact s1, by rw [q 2 (by omega) (by omega) (by omega)]; exact s2, by rw [q 3 (by omega) (by omega) (by omega)]; exact s3, ?_, by rw [q 5 (by omega) (by omega) (by omega)]; exact s5, fun j j0 j1 => ?_, fun s h0 h1 => ?_⟩
    · rw [q4]
      refine tb_bound (iOr_B3 _ _) (by omega) fun i hi hb => ?_
      rw [tb_or, s4e, tb_shl1 s0 (by omega) i hi, Bool.or_eq_true] at hb
      rcases hb with w | w
      · by_cases e : i < nSa T
        · exact e
        · rw [tb_lt s4 (by omega)] at w; cases w
      · have := of_decide_eq_true w; omega
    · rw [q (6 + j) (by omega) (by omega) (by have := hk.1; omega), q (11 + j) (by omega) (by omega) (by have := hk.1; omega)]
      exact s6 j j0 j1
    · rw [q4, q16 s h0, hho s h0 h1]
      by_cases e : s = (s0 : Int)
      · left
        rw [if_pos e]
        exact ⟨Or.inr e, by omega, by omega⟩
      · rw [if_neg e]
        rcases s9 s h0 h1 with w | w
        · exact Or.inl ⟨Or.inl w.1, w.2⟩
        · exact Or.inr ⟨fun z => z.elim w.1 e, w.2⟩
  · have htg : E 4 0 = T 5 (s0 : Int) := by rcases r4 with w | w <;> omega
    refine ⟨by rw [q0]; rfl, by rw [q 3 (by omega) (by omega) (by omega)]; exact r1, by rw [q4, ← r2]; rfl, by rw [q 5 (by omega) (by omega) (by omega)]; exact r3, by rw [q 2 (by omega) (by omega) (by omega)]; exact r5, by rw [q 1 (by omega) (by omega) (by omega)]; exact r4, fun j j0 j1 => ?_, fun s h0 h1 hb => ?_⟩
    · rw [q (6 + j) (by omega) (by omega) (by have := hk.1; omega), q (11 + j) (by omega) (by omega) (by have := hk.1; omega), q4, shS_or T (st 4) j (by omega) c3 (nSa T) (by omega)]
      have := r6 j j0 j1
      refine ⟨this.1, this.2.1, ?_⟩
      show ups (E 7) (E 4 0) _ j = _
      unfold ups
      rw [htg]
      by_cases e : j = T 5 (s0 : Int)
      · rw [if_pos e, if_pos ⟨hsn, e.symm⟩, ← e, this.2.2]
      · rw [if_neg e, if_neg (fun z => e z.2.symm), this.2.2]; omega
    · rw [q4] at hb
      rw [q16 s h0]
      show ups (E 9) (s0 : Int) _ s = _
      unfold ups
      by_cases e : s = (s0 : Int)
      · rw [if_pos e, if_pos e]
      · rw [if_neg e, if_neg e]
        exact r9 s h0 h1 (((hho s h0 h1).mp hb).resolve_right e)
theorem eat_ok {T E : TT} {st : SS} {b : Int} {k : Nat} (hk : TabOk T) (hS : StOk T st b) (hR : ERel T E st) (hkk : (k : Int) < T 9 0) : StOk T (eatS T st (k : Int)) (b + 1000) ∧ ERel T (mkE (E 0 0) (E 1 0) (E 2 0) (iOr (E 3 0) (iShl 1 (k : Int))) (E 4 0) (E 5 0) (ups (E 6) (T 10 (k : Int)) (dryBy (E 6 (T 10 (k : Int))) (T 11 (k : Int)))) (E 7) (E 8) (E 9)) (eatS T st (k : Int)) := by
  obtain ⟨s0, s1, s2, s3, s4, ⟨k5, s5, s5e⟩, s6, s9⟩ := hS.mono (show b ≤ b + 1000 by omega)
  obtain ⟨r0, r1, r2, r3, r5, r4, r6, r9⟩ := hR
  have k9 := hk.2.2.2.1
  have k0 := hk.1
  have k10 := hk.2.2.2.2.2.2.2.2 (k : Int) (by omega) hkk
  have q5 : eatS T st (k : Int) 5 = iOr (st 5) (iShl 1 (k : Int)) := if_pos rfl
  have q : ∀ j : Int, j ≠ 5 → (j < 11 ∨ 16 ≤ j) → eatS T st (k : Int) j = st j := by
    intro j h1 h2
    unfold eatS
    rw [if_neg h1, if_neg (by omega)]
  have q11 : ∀ j : Int, 0 ≤ j → eatS T st (k : Int) (11 + j) = if j = T 10 (k : Int) then dryBy (st (11 + T 10 (k : Int))) (T 11 (k : Int)) else st (11 + j) := by
    intro j hj
    unfold eatS
    rw [if_neg (by omega)]
    by_cases e : j = T 10 (k : Int)
    · rw [if_pos (by omega), if_pos e]
    · rw [if_neg (by omega), if_neg e]
  constructor
  · refine ⟨by rw [q 0 (by omega) (by omega)]; exact s0, by rw [q 1 (by omega) (by omega), q 2 (by omega) (by omega)]; exact s1, by rw [q 2 (by omega) (by omega)]; exact s2, by rw [q 3 (by omega) (by omega)]; exact s3, by rw [q 4 (by omega) (by omega)]; exact s4, ?_, fun j j0 j1 => ?_, fun s h0 h1 => by rw [q 4 (by omega) (by omega), q _ (by omega) (by omega)]; exact s9 s h0 h1⟩
    · rw [q5]
      refine tb_bound (n := 4) (iOr_B3 _ _) (by omega) fun i hi hb => ?_
      rw [tb_or, s5e, tb_shl1 k (by omega) i hi, Bool.or_eq_true] at hb
      rcases hb with w | w
      · by_cases e : i < 4
        · exact e
        · rw [tb_lt (n := 4) s5 (by omega)] at w; cases w
      · have := of_decide_eq_true w; omega
    · rw [q (6 + j) (by omega) (by omega), q11 j j0]
      have := s6 j j0 j1
      refine ⟨this.1, ?_⟩
      split
      · exact dryBy_rng _ _
      · exact this.2
  · refine ⟨by rw [q 0 (by omega) (by omega)]; exact r0, by rw [q 3 (by omega) (by omega)]; exact r1, by rw [q 4 (by omega) (by omega)]; exact r2, by rw [q5, ← r3]; rfl, by rw [q 2 (by omega) (by omega)]; exact r5, by rw [q 1 (by omega) (by omega)]; exact r4, fun j j0 j1 => ?_, fun s h0 h1 => by rw [q 4 (by omega) (by omega), q _ (by omega) (by omega)]; exact r9 s h0 h1⟩
    rw [q (6 + j) (by omega) (by omega), q11 j j0, q 4 (by omega) (by omega)]
    have := r6 j j0 j1
    refine ⟨?_, this.2⟩
    show ups (E 6) (T 10 (k : Int)) _ j = _
    unfold ups
    have h10 := (r6 (T 10 (k : Int)) k10.1.1 k10.1.2).1
    by_cases e : j = T 10 (k : Int)
    · rw [if_pos e, if_pos e, h10]
    · rw [if_neg e, if_neg e]; exact this.1
