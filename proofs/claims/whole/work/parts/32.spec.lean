/-! bits of whole numbers -/
def tb (a : Int) (i : Nat) : Bool := (ii a).toBitVec.getLsbD i
abbrev hasB (a k : Int) : Prop := iAnd (iShr a k) 1 = 1
theorem iAnd_B3 (a b : Int) : B3 (iAnd a b) := B3_toInt _
theorem iOr_B3 (a b : Int) : B3 (iOr a b) := B3_toInt _
theorem iXor_B3 (a b : Int) : B3 (iXor a b) := B3_toInt _
theorem iShl_B3 (a b : Int) : B3 (iShl a b) := B3_toInt _
theorem iShr_B3 (a b : Int) : B3 (iShr a b) := B3_toInt _
theorem ii_iAnd (a b : Int) : ii (iAnd a b) = ii a &&& ii b := ii_toInt _
theorem ii_iOr (a b : Int) : ii (iOr a b) = ii a ||| ii b := ii_toInt _
theorem ii_iXor (a b : Int) : ii (iXor a b) = ii a ^^^ ii b := ii_toInt _
theorem ii_iShl (a b : Int) : ii (iShl a b) = ii a <<< (ii b &&& 31) := ii_toInt _
theorem ii_iShr (a b : Int) : ii (iShr a b) = ii a >>> (ii b &&& 31) := ii_toInt _
theorem tb_and (a b : Int) (i : Nat) : tb (iAnd a b) i = (tb a i && tb b i) := by unfold tb; rw [ii_iAnd, Int32.toBitVec_and, BitVec.getLsbD_and]
theorem tb_or (a b : Int) (i : Nat) : tb (iOr a b) i = (tb a i || tb b i) := by unfold tb; rw [ii_iOr, Int32.toBitVec_or, BitVec.getLsbD_or]
theorem tb_xor (a b : Int) (i : Nat) : tb (iXor a b) i = (tb a i ^^ tb b i) := by unfold tb; rw [ii_iXor, Int32.toBitVec_xor, BitVec.getLsbD_xor]
theorem tb_m1 : ∀ i, i < 32 → tb (-1) i = true := by decide +kernel
theorem tb_0 (i : Nat) : tb 0 i = false := BitVec.getLsbD_zero
theorem tb_big {a : Int} {i : Nat} (h : 32 ≤ i) : tb a i = false := BitVec.getLsbD_of_ge _ _ h
theorem tb_not (a : Int) {i : Nat} (h : i < 32) : tb (iXor a (-1)) i = !tb a i := by rw [tb_xor, tb_m1 i h]; cases tb a i <;> rfl
theorem tb_shl1 : ∀ g : Nat, g < 32 → ∀ i, i < 32 → tb (iShl 1 (g : Int)) i = decide (i = g) := by decide +kernel
theorem sm_ii : ∀ n : Nat, n < 32 → ((ii (n : Int) &&& 31).toBitVec.smod 32).toNat = n := by decide +kernel
theorem tb_shr (a : Int) {g : Nat} (hg : g < 32) {i : Nat} (hi : g + i < 32) : tb (iShr a (g : Int)) i = tb a (g + i) := by
  unfold tb
  rw [ii_iShr, Int32.toBitVec_shiftRight]
  show ((ii a).toBitVec.sshiftRight ((ii (g : Int) &&& 31).toBitVec.smod 32).toNat).getLsbD i = _
  rw [sm_ii g hg, BitVec.getLsbD_sshiftRight]
  have : i < 32 := by omega
  simp [this, hi]
theorem tb_ext {a b : Int} (ha : B3 a) (hb : B3 b) (h : ∀ i, i < 32 → tb a i = tb b i) : a = b :=
  ii_inj ha hb (Int32.toBitVec_inj.mp (BitVec.eq_of_getLsbD_eq (fun i hi => h i hi)))
theorem tb_1 : ∀ i, i < 32 → tb 1 i = decide (i = 0) := by decide +kernel
theorem has_tb (a : Int) {k : Nat} (hk : k < 32) : hasB a (k : Int) ↔ tb a k = true := by
  have h0 : tb (iAnd (iShr a (k : Int)) 1) 0 = tb a k := by
    rw [tb_and, tb_shr a hk (by omega), tb_1 0 (by omega)]
    simp
  constructor
  · intro h
    rw [← h0, show iAnd (iShr a (k : Int)) 1 = 1 from h]
    decide +kernel
  · intro h
    show iAnd (iShr a (k : Int)) 1 = 1
    refine tb_ext (iAnd_B3 _ _) ⟨by omega, by omega⟩ fun i hi => ?_
    rw [tb_and, tb_1 i hi]
    by_cases e : i = 0
    · subst e
      rw [tb_shr a hk (by omega)]
      simp [h]
    · simp [e]
/-! sums over a set; the told table T by the class's fields: 0 persons 1 dry 2 grains 3 size 4 sayings 5 speaker 6 seconds 7 worth 8 answered 9 dishes 10 eater 11 drier 12 window -/
abbrev TT : Type := Nat → Int → Int
def sumSet (F : Int → Int) (s : Int) : Nat → Int
  | 0 => 0
  | k + 1 => sumSet F s k + (if hasB s (k : Int) then F (k : Int) else 0)
theorem sumSet_le {F : Int → Int} {s M : Int} (hM : 0 ≤ M) (n : Nat) (h : ∀ k : Nat, k < n → 0 ≤ F k ∧ F k ≤ M) : 0 ≤ sumSet F s n ∧ sumSet F s n ≤ M * n := by
  induction n with
  | zero => simp [sumSet]
  | succ n ih =>
    obtain ⟨h1, h2⟩ := ih (fun k hk => h k (by omega))
    obtain ⟨h3, h4⟩ := h n (by omega)
    have e : M * ((n + 1 : Nat) : Int) = M * n + M := by rw [Int.natCast_add, Int.mul_add]; simp
    rw [e]
    simp only [sumSet]
    split <;> omega
def TabAt (h : Hp) (t : Nat) (T : TT) : Prop :=
  h t = some (ob 4 [vi (T 0 0), .ref (t + 1), vi (T 2 0), .ref (t + 2), vi (T 4 0), .ref (t + 3), .ref (t + 4), .ref (t + 5), .ref (t + 6), vi (T 9 0), .ref (t + 7), .ref (t + 8), vi (T 12 0)]) ∧
  h (t + 1) = some (ia 0 5 (T 1)) ∧ h (t + 2) = some (ia 0 8 (T 3)) ∧ h (t + 3) = some (ia 0 7 (T 5)) ∧ h (t + 4) = some (ia 0 7 (T 6)) ∧ h (t + 5) = some (ia 0 7 (T 7)) ∧ h (t + 6) = some (ia 0 7 (T 8)) ∧ h (t + 7) = some (ia 0 4 (T 10)) ∧ h (t + 8) = some (ia 0 4 (T 11))
theorem TabAt.kept {h h1 : Hp} {t : Nat} {T : TT} (H : TabAt h t T) (hk : ∀ q : Nat, t ≤ q → q ≤ t + 8 → h1 q = h q) : TabAt h1 t T := by
  obtain ⟨a0, a1, a2, a3, a4, a5, a6, a7, a8⟩ := H
  exact ⟨(hk _ (by omega) (by omega)).trans a0, (hk _ (by omega) (by omega)).trans a1, (hk _ (by omega) (by omega)).trans a2, (hk _ (by omega) (by omega)).trans a3, (hk _ (by omega) (by omega)).trans a4, (hk _ (by omega) (by omega)).trans a5, (hk _ (by omega) (by omega)).trans a6, (hk _ (by omega) (by omega)).trans a7, (hk _ (by omega) (by omega)).trans a8⟩
/-- an evening by the class's fields: 0 second 1 shaker 2 said 3 eaten 4 tongue 5 melted 6 dry 7 share 8 listensUntil 9 ended -/
def EvAt (h : Hp) (e : Nat) (E : TT) : Prop :=
  h e = some (ob 0 [vi (E 0 0), vi (E 1 0), vi (E 2 0), vi (E 3 0), vi (E 4 0), vi (E 5 0), .ref (e + 1), .ref (e + 2), .ref (e + 3), .ref (e + 4)]) ∧
  h (e + 1) = some (ia 0 5 (E 6)) ∧ h (e + 2) = some (ia 0 5 (E 7)) ∧ h (e + 3) = some (ia 0 5 (E 8)) ∧ h (e + 4) = some (ia 0 7 (E 9))
theorem EvAt.kept {h h1 : Hp} {t : Nat} {T : TT} (H : EvAt h t T) (hk : ∀ q : Nat, t ≤ q → q ≤ t + 4 → h1 q = h q) : EvAt h1 t T := by
  obtain ⟨a0, a1, a2, a3, a4⟩ := H
  exact ⟨(hk _ (by omega) (by omega)).trans a0, (hk _ (by omega) (by omega)).trans a1, (hk _ (by omega) (by omega)).trans a2, (hk _ (by omega) (by omega)).trans a3, (hk _ (by omega) (by omega)).trans a4⟩
/-- what a told table's numbers are -/
def TabOk (T : TT) : Prop := (0 ≤ T 0 0 ∧ T 0 0 ≤ 5) ∧ (0 ≤ T 2 0 ∧ T 2 0 ≤ 8) ∧ (0 ≤ T 4 0 ∧ T 4 0 ≤ 7) ∧ (0 ≤ T 9 0 ∧ T 9 0 ≤ 4) ∧ (0 ≤ T 12 0 ∧ T 12 0 ≤ 99) ∧
  (∀ i : Int, 0 ≤ i → i < T 0 0 → 1 ≤ T 1 i ∧ T 1 i ≤ 9) ∧ (∀ g : Int, 0 ≤ g → g < T 2 0 → 1 ≤ T 3 g ∧ T 3 g ≤ 9) ∧
  (∀ s : Int, 0 ≤ s → s < T 4 0 → (0 ≤ T 5 s ∧ T 5 s < T 0 0) ∧ (1 ≤ T 6 s ∧ T 6 s ≤ 60) ∧ (0 ≤ T 7 s ∧ T 7 s ≤ 99) ∧ (T 8 s = -4 ∨ 0 ≤ T 8 s ∧ T 8 s < s ∧ T 5 (T 8 s) ≠ T 5 s)) ∧
  (∀ k : Int, 0 ≤ k → k < T 9 0 → (0 ≤ T 10 k ∧ T 10 k < T 0 0) ∧ -5 ≤ T 11 k ∧ T 11 k ≤ 4)
