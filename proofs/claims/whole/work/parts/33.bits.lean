theorem tb_nat (k : Nat) {i : Nat} (hi : i < 32) : tb (k : Int) i = k.testBit i := by
  unfold tb ii
  rw [Int32.ofInt_eq_ofNat]
  show (BitVec.ofNat 32 k).getLsbD i = _
  rw [BitVec.getLsbD_ofNat]
  simp [hi]
theorem tb_lt {k n i : Nat} (hk : k < 2 ^ n) (hi : n ≤ i) : tb (k : Int) i = false := by
  by_cases h : i < 32
  · rw [tb_nat k h]
    exact Nat.testBit_lt_two_pow (Nat.lt_of_lt_of_le hk (Nat.pow_le_pow_right (by omega) hi))
  · exact tb_big (by omega)
theorem shl1_pow : ∀ n : Nat, n < 9 → iShl 1 (n : Int) = ((2 ^ n : Nat) : Int) := by decide +kernel
theorem pow_le {n m : Nat} (h : n ≤ m) : 2 ^ n ≤ 2 ^ m := Nat.pow_le_pow_right (by omega) h
theorem tb_eq0 {a : Int} (ha : B3 a) : a = 0 ↔ ∀ i, i < 32 → tb a i = false := by
  constructor
  · intro h i _
    rw [h]
    exact tb_0 i
  · intro h
    exact tb_ext ha ⟨by omega, by omega⟩ fun i hi => by rw [h i hi, tb_0]
/-- the sayings of i among the first k, as bits -/
def soF (T : TT) (i : Int) : Nat → Int
  | 0 => 0
  | k + 1 => if T 5 (k : Int) = i then iOr (soF T i k) (iShl 1 (k : Int)) else soF T i k
theorem soF_B3 (T : TT) (i : Int) (k : Nat) : B3 (soF T i k) := by
  induction k with
  | zero => exact ⟨by simp [soF], by simp [soF]⟩
  | succ k ih =>
    simp only [soF]
    split
    · exact iOr_B3 _ _
    · exact ih
theorem tb_soF (T : TT) (i : Int) (k : Nat) (hk : k ≤ 31) (j : Nat) (hj : j < 32) : tb (soF T i k) j = decide (j < k ∧ T 5 (j : Int) = i) := by
  induction k with
  | zero => simp [soF, tb_0]
  | succ k ih =>
    have ih := ih (by omega)
    simp only [soF]
    by_cases h : T 5 (k : Int) = i
    · rw [if_pos h, tb_or, ih, tb_shl1 k (by omega) j hj]
      by_cases e : j = k
      · subst e
        simp [h]
      · have : j < k + 1 ↔ j < k := by omega
        simp [e, this]
    · rw [if_neg h, ih]
      by_cases e : j = k
      · subst e
        simp [h]
      · have : j < k + 1 ↔ j < k := by omega
        simp [this]
/-- may i say all of the set, none said -/
def okS (T : TT) (i said : Int) (set : Nat) : Prop := ∀ s : Nat, s < (T 4 0).toNat → hasB (set : Int) (s : Int) → T 5 (s : Int) = i ∧ ¬ hasB said (s : Int)
def okD (T : TT) (i said : Int) (set : Nat) : Decidable (okS T i said set) := inferInstanceAs (Decidable (∀ s : Nat, s < (T 4 0).toNat → hasB (set : Int) (s : Int) → T 5 (s : Int) = i ∧ ¬ hasB said (s : Int)))
def bstC (T : TT) (i said m most : Int) (k : Nat) : Prop := okS T i said k ∧ sumSet (T 6) k (T 4 0).toNat ≤ m ∧ most < sumSet (T 7) k (T 4 0).toNat
/-- of the first k sets the one of most worth, and that worth -/
noncomputable def bst (T : TT) (i said m : Int) : Nat → Int × Int
  | 0 => (0, 0)
  | k + 1 => @ite _ (bstC T i said m (bst T i said m k).2 k) (Classical.propDecidable _) ((k : Int), sumSet (T 7) k (T 4 0).toNat) (bst T i said m k)
theorem bst_t {T : TT} {i said m : Int} {k : Nat} (h : bstC T i said m (bst T i said m k).2 k) : bst T i said m (k + 1) = ((k : Int), sumSet (T 7) k (T 4 0).toNat) := by
  simp only [bst]
  rw [if_pos h]
theorem bst_f {T : TT} {i said m : Int} {k : Nat} (h : ¬ bstC T i said m (bst T i said m k).2 k) : bst T i said m (k + 1) = bst T i said m k := by
  simp only [bst]
  rw [if_neg h]
theorem bst_rng {T : TT} (hk : TabOk T) {i said m : Int} (n : Nat) (hn : n ≤ 128) : (0 ≤ (bst T i said m n).1 ∧ (bst T i said m n).1 ≤ 128) ∧ 0 ≤ (bst T i said m n).2 ∧ (bst T i said m n).2 ≤ 693 := by
  induction n with
  | zero => simp [bst]
  | succ n ih =>
    have ih := ih (by omega)
    by_cases h : bstC T i said m (bst T i said m n).2 n
    · rw [bst_t h]
      have h7 := hk.2.2.1
      have h1 := sumSet_le (F := T 7) (s := (n : Int)) (M := 99) (by omega) (T 4 0).toNat (fun k hk2 => (hk.2.2.2.2.2.2.2.1 (k : Int) (by omega) (by omega)).2.2.1)
      refine ⟨⟨by show 0 ≤ (n : Int); omega, by show (n : Int) ≤ 128; omega⟩, h1.1, ?_⟩
      show sumSet (T 7) (n : Int) (T 4 0).toNat ≤ 693
      omega
    · rw [bst_f h]; exact ih
theorem others_0 {T : TT} (hk : TabOk T) {i said : Int} {set : Nat} (hs : set < 2 ^ (T 4 0).toNat) : iAnd (set : Int) (iOr (iXor (soF T i (T 4 0).toNat) (-1)) said) = 0 ↔ okS T i said set := by
  have h7 := hk.2.2.1
  rw [tb_eq0 (iAnd_B3 _ _)]
  constructor
  · intro h s hs2 hb
    have h1 := h s (by omega)
    rw [has_tb _ (by omega)] at hb
    rw [tb_and, hb, tb_or, tb_not _ (by omega), tb_soF _ _ _ (by omega) _ (by omega)] at h1
    rw [has_tb _ (by omega)]
    simp at h1
    refine ⟨(h1.1).2, by simp [h1.2]⟩
  · intro h j hj
    rw [tb_and]
    by_cases e : j < (T 4 0).toNat
    · cases hb : tb (set : Int) j with
      | false => rfl
      | true =>
        obtain ⟨h1, h2⟩ := h j e ((has_tb _ (by omega)).mpr hb)
        rw [has_tb _ (by omega)] at h2
        rw [tb_or, tb_not _ hj, tb_soF _ _ _ (by omega) _ hj]
        simp [e, h1, h2]
    · rw [tb_lt hs (by omega)]
      rfl
