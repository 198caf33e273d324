/-! the machine's judgement over a heap of numbered cells and whole numbers: the rows of the kit, once each -/
def ii (z : Int) : Int32 := Int32.ofInt z
def vi (z : Int) : Value := .int (ii z)
def ll (z : Int) : Int64 := Int64.ofInt z
def vl (z : Int) : Value := .long (ll z)
abbrev B3 (a : Int) : Prop := -2147483648 ≤ a ∧ a ≤ 2147483647
theorem ii_toInt (x : Int32) : ii x.toInt = x := Int32.ofInt_toInt x
theorem toInt_ii {a : Int} (h : B3 a) : (ii a).toInt = a := Int32.toInt_ofInt_of_le (by have := h.1; omega) (by have := h.2; omega)
theorem B3_toInt (x : Int32) : B3 x.toInt := ⟨by have := x.le_toInt; omega, by have := x.toInt_lt; omega⟩
theorem ii_add (a b : Int) : ii a + ii b = ii (a + b) := (Int32.ofInt_add a b).symm
theorem ii_sub (a b : Int) : ii a - ii b = ii (a - b) := (Int32.ofInt_sub a b).symm
theorem ii_mul (a b : Int) : ii a * ii b = ii (a * b) := (Int32.ofInt_mul a b).symm
theorem ll_add (a b : Int) : ll a + ll b = ll (a + b) := (Int64.ofInt_add a b).symm
theorem ll_mul (a b : Int) : ll a * ll b = ll (a * b) := (Int64.ofInt_mul a b).symm
theorem ii_inj {a b : Int} (ha : B3 a) (hb : B3 b) (h : ii a = ii b) : a = b := by rw [← toInt_ii ha, ← toInt_ii hb, h]
theorem ii_lt {a b : Int} (ha : B3 a) (hb : B3 b) : ii a < ii b ↔ a < b := by rw [Int32.lt_iff_toInt_lt, toInt_ii ha, toInt_ii hb]
theorem ii_le {a b : Int} (ha : B3 a) (hb : B3 b) : ii a ≤ ii b ↔ a ≤ b := by rw [Int32.le_iff_toInt_le, toInt_ii ha, toInt_ii hb]
theorem ii_zero : ii 0 = 0 := rfl
theorem ii_clamp {a : Int} (ha : B3 a) : (ii a).toNatClampNeg = a.toNat := Int32.toNatClampNeg_ofInt_of_le (by have := ha.1; omega) (by have := ha.2; omega)
theorem vp_ii {j : Int} {n : Nat} (h0 : 0 ≤ j) (h1 : j < n) (hn : n ≤ 2147483647) : vp_in (ii j) n := by
  have hb : B3 j := ⟨by omega, by omega⟩
  rintro (h | h)
  · rw [← ii_zero, ii_lt hb ⟨by omega, by omega⟩] at h; omega
  · rw [ii_clamp hb] at h; omega
def iAnd (a b : Int) : Int := (ii a &&& ii b).toInt
def iOr (a b : Int) : Int := (ii a ||| ii b).toInt
def iXor (a b : Int) : Int := (ii a ^^^ ii b).toInt
def iShl (a b : Int) : Int := (ii a <<< (ii b &&& 31)).toInt
def iShr (a b : Int) : Int := (ii a >>> (ii b &&& 31)).toInt
def iUshr (a b : Int) : Int := ((ii a).toUInt32 >>> ((ii b).toUInt32 &&& Int32.toUInt32 31)).toInt32.toInt
def iByte (a : Int) : Int := ((ii a).toInt8.toInt32).toInt
theorem ii_div {a b : Int} (ha0 : 0 ≤ a) (ha : B3 a) (hb0 : 0 < b) (hb : B3 b) : ii a / ii b = ii (a / b) := by
  rw [← ii_toInt (ii a / ii b), Int32.toInt_div_of_ne_right, toInt_ii ha, toInt_ii hb, Int.tdiv_eq_ediv_of_nonneg ha0]
  intro h
  have := ii_inj hb ⟨by omega, by omega⟩ (show ii b = ii (-1) from h)
  omega
theorem ll_div {a b : Int} (ha0 : 0 ≤ a) (ha : a < 9223372036854775808) (hb0 : 0 < b) (hb : b < 9223372036854775808) : ll a / ll b = ll (a / b) := by
  unfold ll
  rw [← Int.tdiv_eq_ediv_of_nonneg ha0, Int64.ofInt_tdiv] <;> simp only [Int64.toInt_minValue, Int64.toInt_maxValue] <;> omega
theorem ii_ne0 {a : Int} (ha : B3 a) (h : a ≠ 0) : ¬ ii a = 0 := fun e => h (ii_inj ha ⟨by omega, by omega⟩ (e.trans ii_zero.symm))
abbrev Ce : Type := (Nat × Nat × (Int → Int)) ⊕ (Nat × Nat × (Nat → Option Nat)) ⊕ (Nat × List Value)
abbrev Hp : Type := Nat → Option Ce
/-- an array of whole numbers (0: int, 1: byte) -/
def ia (t n : Nat) (F : Int → Int) : Ce := .inl (t, n, fun j => if 0 ≤ j ∧ j < (n : Int) then F j else 0)
def ra (t n : Nat) (G : Nat → Option Nat) : Ce := .inr (.inl (t, n, G))
def ob (c : Nat) (fs : List Value) : Ce := .inr (.inr (c, fs))
def hset (h : Hp) (o : Nat) (c : Ce) : Hp := fun q => if q = o then some c else h q
def ups (F : Int → Int) (j v : Int) : Int → Int := fun q => if q = j then v else F q
theorem ia_ext {t n : Nat} {F G : Int → Int} (h : ∀ j : Int, 0 ≤ j → j < n → F j = G j) : ia t n F = ia t n G := by
  unfold ia
  congr 3
  funext j
  by_cases hj : 0 ≤ j ∧ j < (n : Int)
  · rw [if_pos hj, if_pos hj, h j hj.1 hj.2]
  · rw [if_neg hj, if_neg hj]
/-- classes, arrays' classes; the script's address; where the numbered cells begin; the heap ahead of them -/
abbrev Cx : Type := (va_G × (Nat → ClassId) × (Nat → ClassId)) × Nat × Nat × Heap
def ad (X : Cx) : Nat → Nat
  | 0 => X.2.1
  | k + 1 => X.2.2.1 + k
def vr (X : Cx) : Value → Value
  | .ref k => .ref (ad X k)
  | v => v
theorem vr_cat (X : Cx) (v : Value) : (vr X v).category = v.category := by cases v <;> rfl
def rl (X : Cx) (c : Ce) : va_E := match c with
  | .inl (t, n, F) => .inl (X.1.2.1 t, n, .inl (fun j => ii (F (j : Int))))
  | .inr (.inl (t, n, G)) => .inl (X.1.2.2 t, n, .inr (.inr (.inr (.inr (fun j => (G j).map (ad X))))))
  | .inr (.inr (ci, fs)) => .inr (ci, fs.map (vr X))
def tysX (X : Cx) : List (ClassId × FieldType) := [(X.1.2.1 0, .int), (X.1.2.1 1, .byte), (X.1.2.2 0, .object "WhileSaltMelts$Evening"), (X.1.2.2 1, .array .int)]
/-- the text that the class has at first: its string q, its bytes' array t, the machine's own statics that its methods read -/
def sT : String := "p3;p5;g4;g6;w0,10,5,99;w1,20,7,0;"
def sB : List Int32 := [112, 51, 59, 112, 53, 59, 103, 52, 59, 103, 54, 59, 119, 48, 44, 49, 48, 44, 53, 44, 57, 57, 59, 119, 49, 44, 50, 48, 44, 55, 44, 48, 59]
def Sx (X : Cx) (q t : Nat) (U : State) : Prop := vk_R "WhileSaltMelts" 61 sT q U ∧ va_O "java/lang/String" q (fun q : Nat => X.2.2.1 ≤ q) U X.2.2.2 ∧ va_OF "java/lang/String" "coder" "B" (.int 0) q (fun q : Nat => X.2.2.1 ≤ q) U X.2.2.2 ∧ va_OF "java/lang/String" "value" "[B" (.ref t) q (fun q : Nat => X.2.2.1 ≤ q) U X.2.2.2 ∧ va_T .byte t 33 (fun j => .int (sB.getD j 0)) (fun q : Nat => X.2.2.1 ≤ q) U X.2.2.2 ∧ va_Z "java/lang/String" "COMPACT_STRINGS" "Z" (.int 1) (fun q : Nat => X.2.2.1 ≤ q) U X.2.2.2 ∧ va_Zq "jdk/internal/util/Preconditions" "SIOOBE_FORMATTER" "Ljava/util/function/BiFunction;" (fun q : Nat => X.2.2.1 ≤ q) U X.2.2.2
theorem Sx.of {X : Cx} {q t : Nat} {s U : State} (ha : s.vm.Alike U.vm) (hr : vk_R "WhileSaltMelts" 61 sT q U) (h : Sx X q t s) : Sx X q t U := ⟨hr, va_O.moved ha h.2.1, va_OF.moved ha h.2.2.1, va_OF.moved ha h.2.2.2.1, va_T.moved ha h.2.2.2.2.1, va_Z.moved ha h.2.2.2.2.2.1, va_Zq.moved ha h.2.2.2.2.2.2⟩
theorem Sx.warm {X : Cx} {q t : Nat} {s U : State} (hW : s.WarmedH U.vm) (h : Sx X q t s) : Sx X q t U := Sx.of hW.alike (vk_R.warm hW h.1) h
theorem Sx.same {X : Cx} {q t : Nat} {u U : State} (e : u.vm = U.vm) (h : Sx X q t u) : Sx X q t U := Sx.of (by rw [e]; exact Vm.Alike.refl _) (vk_R.same e.symm h.1) h
def Kn (X : Cx) (U : State) : Prop := va_K X.1.1 cls (tysX X) U ∧ (∀ w ∈ NW, va_Nw w U) ∧ va_AO "WhileSaltMelts$Evening" U ∧ (Cond.arrayOver (.array .int)).before #[] U = true ∧ ∃ q t : Nat, Sx X q t U
theorem nw_warm {s U : State} (hW : s.WarmedH U.vm) (h : ∀ w ∈ NW, va_Nw w s) : ∀ w ∈ NW, va_Nw w U := by
  intro w hw
  have hZ := h w hw
  simp only [NW, List.mem_cons, List.not_mem_nil, or_false] at hw
  rcases hw with rfl | rfl | rfl | rfl | rfl | rfl | rfl | rfl <;> exact va_Nw.warmM hW hZ
theorem nw_same {u U : State} (e : u.vm = U.vm) (h : ∀ w ∈ NW, va_Nw w u) : ∀ w ∈ NW, va_Nw w U := by
  intro w hw
  have hZ := h w hw
  simp only [NW, List.mem_cons, List.not_mem_nil, or_false] at hw
  rcases hw with rfl | rfl | rfl | rfl | rfl | rfl | rfl | rfl <;> exact va_Nw.same rfl e hZ
theorem Kn.warm {X : Cx} {s U : State} (hW : s.WarmedH U.vm) (h : Kn X s) : Kn X U := ⟨va_K.moved hW.alike h.1, nw_warm hW h.2.1, h.2.2.1.moved hW.alike, over_moved hW.alike h.2.2.2.1, h.2.2.2.2.imp fun _ w => w.imp fun _ w => w.warm hW⟩
theorem Kn.same {X : Cx} {u U : State} (e : u.vm = U.vm) (h : Kn X u) : Kn X U := by
  have ha : u.vm.Alike U.vm := by rw [e]; exact Vm.Alike.refl _
  exact ⟨va_K.moved ha h.1, nw_same e h.2.1, h.2.2.1.moved ha, over_moved ha h.2.2.2.1, h.2.2.2.2.imp fun _ w => w.imp fun _ w => w.same e⟩
def Rp (X : Cx) (z : Nat × Nat) (h : Hp) (H : Heap) : Prop := h 0 = none ∧ H.size = X.2.2.1 + z.1 ∧ (∀ q : Nat, q < X.2.2.1 → H[q]? = X.2.2.2[q]?) ∧ ∀ (k : Nat) (c : Ce), h (k + 1) = some c → va_at X.1.1 cls (X.2.2.1 + k, rl X c) H
theorem Rp.at {X : Cx} {z : Nat × Nat} {h : Hp} {H : Heap} (hR : Rp X z h H) {o : Nat} {c : Ce} (ho : h o = some c) : va_at X.1.1 cls (ad X o, rl X c) H := by
  cases o with
  | zero => rw [hR.1] at ho; cases ho
  | succ k => exact hR.2.2.2 k c ho
theorem Rp.base {X : Cx} {z : Nat × Nat} {h : Hp} {H : Heap} (hR : Rp X z h H) {o : Nat} {c : Ce} (ho : h o = some c) : X.2.2.1 ≤ ad X o := by
  cases o with
  | zero => rw [hR.1] at ho; cases ho
  | succ k => exact Nat.le_add_right _ _
theorem Rp.set {X : Cx} {z : Nat × Nat} {h : Hp} {H H1 : Heap} (hR : Rp X z h H) {o : Nat} {c0 c : Ce} (ho : h o = some c0) (he : va_at X.1.1 cls (ad X o, rl X c) H1) (hn : ∀ q : Nat, q ≠ ad X o → H1[q]? = H[q]?) (hs : H1.size = H.size) : Rp X z (hset h o c) H1 := by
  cases o with
  | zero => rw [hR.1] at ho; cases ho
  | succ k0 =>
    refine ⟨by simp [hset, hR.1], hs.trans hR.2.1, fun q hq => ?_, fun k c' hk => ?_⟩
    · rw [hn q (by show q ≠ X.2.2.1 + k0; omega)]; exact hR.2.2.1 q hq
    · by_cases hkk : k = k0
      · subst hkk
        simp [hset] at hk
        subst hk
        exact he
      · have hk' : h (k + 1) = some c' := by simpa [hset, hkk] using hk
        exact (hR.2.2.2 k c' hk').kept (hn _ (by show X.2.2.1 + k ≠ X.2.2.1 + k0; omega))
theorem va_P1 {D : va_G} {cl : List vw_C} {q : Nat × va_E} {H : Heap} (h : va_at D cl q H) : va_P D cl [q] H := by
  intro k x hx
  cases k with
  | zero => cases hx; exact h
  | succ k => simp at hx
/-! locals -/
def lg : List (Nat × Value) → Nat → Option Value
  | [], _ => none
  | (i, v) :: t, k => cond (Nat.beq i k) (some v) (lg t k)
def lpa : List (Nat × Value) → Nat → Value → Bool → List (Nat × Value) → Option (List (Nat × Value))
  | [], _, _, true, acc => some acc
  | [], k, v, false, acc => some ((k, v) :: acc)
  | (i, w) :: t, k, v, b, acc => cond (Nat.beq i k) (lpa t k v true ((k, v) :: acc)) (lpa t k v b ((i, w) :: acc))
def okp (ls : List (Nat × Value)) (k : Nat) : Bool := ls.all (fun q => cond (Nat.beq (q.1 + 1) k) (!(Nat.beq q.2.category 2)) true)
def okp2 (ls : List (Nat × Value)) (k : Nat) : Bool := ls.all (fun q => cond (Nat.beq (q.1 + 1) k) (!(Nat.beq q.2.category 2)) true && !(Nat.beq q.1 (k + 1)))
theorem nbeq_f {i k : Nat} (h : i ≠ k) : Nat.beq i k = false := by
  cases hx : Nat.beq i k with
  | true => exact absurd (Nat.eq_of_beq_eq_true hx) h
  | false => rfl
theorem lg_mem {ls : List (Nat × Value)} {k : Nat} {v : Value} (h : lg ls k = some v) : (k, v) ∈ ls := by
  induction ls with
  | nil => cases h
  | cons q t ih =>
    obtain ⟨i, w⟩ := q
    by_cases e : i = k
    · subst e
      simp [lg] at h
      subst h
      exact List.mem_cons_self
    · have : Nat.beq i k = false := nbeq_f e
      simp [lg, this] at h
      exact List.mem_cons_of_mem _ (ih h)
abbrev lm (X : Cx) (ls : List (Nat × Value)) : List (Nat × Value) := ls.map (fun q => (q.1, vr X q.2))
theorem lh_at {X : Cx} {L : Array Slot} {n k : Nat} {v : Value} {ls : List (Nat × Value)} (hl : lv_has L n (lm X ls)) (h : lg ls k = some v) : L[k]? = some (.val (vr X v)) :=
  hl.2.2 (k, vr X v) (List.mem_map.mpr ⟨(k, v), lg_mem h, rfl⟩)
theorem lpa_mem {k : Nat} {v : Value} : ∀ (ls : List (Nat × Value)) (b : Bool) (acc ls2 : List (Nat × Value)), lpa ls k v b acc = some ls2 → ∀ q ∈ ls2, q = (k, v) ∨ (q ∈ ls ∧ q.1 ≠ k) ∨ q ∈ acc := by
  intro ls
  induction ls with
  | nil =>
    intro b acc ls2 h q hq
    cases b with
    | true => cases h; exact Or.inr (Or.inr hq)
    | false =>
      cases h
      rcases List.mem_cons.mp hq with h | h
      · exact Or.inl h
      · exact Or.inr (Or.inr h)
  | cons p t ih =>
    obtain ⟨i, w⟩ := p
    intro b acc ls2 h q hq
    by_cases e : i = k
    · have e1 : Nat.beq i k = true := by simp [Nat.beq_eq, e]
      simp only [lpa, e1, cond_true] at h
      rcases ih _ _ _ h q hq with h1 | h1 | h1
      · exact Or.inl h1
      · exact Or.inr (Or.inl ⟨List.mem_cons_of_mem _ h1.1, h1.2⟩)
      · rcases List.mem_cons.mp h1 with h2 | h2
        · exact Or.inl h2
        · exact Or.inr (Or.inr h2)
    · have e1 : Nat.beq i k = false := nbeq_f e
      simp only [lpa, e1, cond_false] at h
      rcases ih _ _ _ h q hq with h1 | h1 | h1
      · exact Or.inl h1
      · exact Or.inr (Or.inl ⟨List.mem_cons_of_mem _ h1.1, h1.2⟩)
      · rcases List.mem_cons.mp h1 with h2 | h2
        · subst h2
          exact Or.inr (Or.inl ⟨List.mem_cons_self, e⟩)
        · exact Or.inr (Or.inr h2)
theorem lp_mem {ls ls2 : List (Nat × Value)} {k : Nat} {v : Value} (h : lpa ls k v false [] = some ls2) {q : Nat × Value} (hq : q ∈ ls2) : q = (k, v) ∨ (q ∈ ls ∧ q.1 ≠ k) := by
  rcases lpa_mem ls false [] ls2 h q hq with h1 | h1 | h1
  · exact Or.inl h1
  · exact Or.inr h1
  · cases h1
theorem lh_put {X : Cx} {L' : Array Slot} {n k : Nat} {v : Value} {ls ls2 : List (Nat × Value)} (hlp : lpa ls k v false [] = some ls2) (ho : okp ls k = true)
    (h : lv_has L' n ((k, vr X v) :: (lm X ls).filter (fun q => !(q.1 == k) && !(q.1 + 1 == k && q.2.category == 2)))) : lv_has L' n (lm X ls2) := by
  refine ⟨h.1, h.2.1, fun q hq => h.2.2 q ?_⟩
  obtain ⟨w, hw, rfl⟩ := List.mem_map.mp hq
  rcases lp_mem hlp hw with rfl | ⟨h1, h2⟩
  · exact List.mem_cons_self
  · refine List.mem_cons_of_mem _ (List.mem_filter.mpr ⟨List.mem_map.mpr ⟨w, h1, rfl⟩, ?_⟩)
    have h3 := List.all_eq_true.mp ho w h1
    by_cases e : w.1 + 1 = k
    · have : Nat.beq (w.1 + 1) k = true := by simp [Nat.beq_eq, e]
      rw [this] at h3
      have h4 : w.2.category ≠ 2 := by
        intro e2
        rw [e2] at h3
        cases h3
      simp [h2, vr_cat, h4]
    · simp [h2, e]
theorem lh_put2 {X : Cx} {L' : Array Slot} {n k : Nat} {v : Value} {ls ls2 : List (Nat × Value)} (hlp : lpa ls k v false [] = some ls2) (ho : okp2 ls k = true)
    (h : lv_has L' n ((k, vr X v) :: (lm X ls).filter (fun q => !(q.1 == k) && (!(q.1 == k + 1) && !(q.1 + 1 == k && q.2.category == 2))))) : lv_has L' n (lm X ls2) := by
  refine ⟨h.1, h.2.1, fun q hq => h.2.2 q ?_⟩
  obtain ⟨w, hw, rfl⟩ := List.mem_map.mp hq
  rcases lp_mem hlp hw with rfl | ⟨h1, h2⟩
  · exact List.mem_cons_self
  · refine List.mem_cons_of_mem _ (List.mem_filter.mpr ⟨List.mem_map.mpr ⟨w, h1, rfl⟩, ?_⟩)
    have h3 := List.all_eq_true.mp ho w h1
    rw [Bool.and_eq_true] at h3
    have h5 : w.1 ≠ k + 1 := by
      intro e
      have : Nat.beq w.1 (k + 1) = true := by simp [Nat.beq_eq, e]
      rw [this] at h3
      exact absurd h3.2 (by decide)
    by_cases e : w.1 + 1 = k
    · have : Nat.beq (w.1 + 1) k = true := by simp [Nat.beq_eq, e]
      rw [this] at h3
      have h4 : w.2.category ≠ 2 := by
        intro e2
        rw [e2] at h3
        cases h3.1
      simp [h2, h5, vr_cat, h4]
    · simp [h2, h5, e]
theorem lh_sub {X : Cx} {L : Array Slot} {n : Nat} {ls ls' : List (Nat × Value)} (hl : lv_has L n (lm X ls)) (h : ls'.map (fun q => lg ls q.1) = ls'.map (fun q => some q.2)) : lv_has L n (lm X ls') := by
  refine ⟨hl.1, hl.2.1, fun q hq => ?_⟩
  obtain ⟨w, hw, rfl⟩ := List.mem_map.mp hq
  have : lg ls w.1 = some w.2 := List.map_inj_left.mp h w hw
  exact lh_at hl this
theorem la_map (X : Cx) (as : List Value) : ∀ i : Nat, lv_args i (as.map (vr X)) = (lv_args i as).map (fun q => (q.1, vr X q.2)) := by
  induction as with
  | nil => intro i; rfl
  | cons v t ih =>
    intro i
    show (i, vr X v) :: lv_args _ (t.map (vr X)) = (i, vr X v) :: (lv_args _ t).map _
    rw [vr_cat, ih]
theorem sl_len (X : Cx) (as : List Value) : (lg_sl (as.map (vr X))).length = (lg_sl as).length := by
  induction as with
  | nil => rfl
  | cons v t ih =>
    simp only [lg_sl, List.map_cons, List.flatMap_cons, List.length_append, vr_cat] at ih ⊢
    rw [ih]
    split <;> rfl
/-! the judgement -/
def Fx (X : Cx) (d : Nat) (y : Mt) (p : Program) (R : Room) (s : State) (m : MethodId) (args : Array Value) (meth : Method) (c : Code) (mc ms : Nat) : Prop :=
  CallFix p m c y.2.1 y.2.2.1 s args WS y.1.cls ∧ meth.sig.returnType = y.2.2.2 ∧ meth.locks = false ∧ meth.name = y.1.name ∧ Kn X s ∧ d ≤ R.frames ∧ 40 * d ≤ R.locals ∧ mc ≤ R.cells ∧ ms ≤ R.slots
def QX (X : Cx) (zf : Nat × Nat) (Q : Option Value → Hp → Prop) : Array Value → State → Outcome → State → Prop := fun _ _ oc t => ∃ (r : Option Value) (h' : Hp), oc = .returned (r.map (vr X)) ∧ Q r h' ∧ Rp X zf h' t.heap
def PX (X : Cx) (as : List Value) (z : Nat × Nat) (h : Hp) : Array Value → State → Prop := fun a U => a = (as.map (vr X)).toArray ∧ Kn X U ∧ Rp X z h U.heap
def FX (X : Cx) : Addr → Prop := fun q => X.2.2.1 ≤ q
def WW (d : Nat) (y : Mt) (zf : Nat × Nat) (Q : Option Value → Hp → Prop) (z : Nat × Nat) (h : Hp) (pc : Nat) (ls : List (Nat × Value)) (st : List Value) : Prop :=
  ∀ (X : Cx) (l : Launch) (p : Program) (e : Env) (R : Room) (s : State) (m : MethodId) (args : Array Value) (below : List Frame) (meth : Method) (c : Code) (H : Heap) (locs : List Loc) (cells slots mc ms : Nat) (L : Array Slot),
    Fx X d y p R s m args meth c mc ms → Rp X z h H → (∀ q ∈ locs, FX X q.base) → lv_has L y.2.2.1 (lm X ls) → cells + zf.1 = mc + z.1 → slots + zf.2 = ms + z.2 → z.1 ≤ zf.1 → z.2 ≤ zf.2 →
    W p l e R s m args below meth c H locs cells slots (MQ below (QX X zf Q) args s mc ms (FX X)) (F0 m pc L (st.map (vr X)))
def wsm (y : Mt) : List Cond := Cond.code y.1 y.2.1 y.2.2.1 y.2.2.2 :: WS
def rmX (d : Nat) (z zf : Nat × Nat) : Room := { frames := d, cells := zf.1 - z.1, slots := zf.2 - z.2, locals := 40 * d }
/-- a method's contract: from these arguments and this heap it comes to an end with Q -/
def Ct (d : Nat) (y : Mt) (as : List Value) (z zf : Nat × Nat) (h : Hp) (Q : Option Value → Hp → Prop) : Prop := (z.1 ≤ zf.1 ∧ z.2 ≤ zf.2) ∧ ∀ (X : Cx) (l : Launch), Met l y.1 (wsm y) (rmX d z zf) (PX X as z h) (QX X zf Q) (zf.1 - z.1) (zf.2 - z.2) (FX X)
theorem Ct.of {d : Nat} {y : Mt} {as : List Value} {z zf : Nat × Nat} {h : Hp} {Q : Option Value → Hp → Prop} (hp : plainName y.1.cls = true) (hz : z.1 ≤ zf.1 ∧ z.2 ≤ zf.2) (hn : (lg_sl as).length ≤ y.2.2.1) (body : WW d y zf Q z h 0 (lv_args 0 as) []) : Ct d y as z zf h Q := by
  refine ⟨hz, fun X l => Met.ofW (cc := y.2.1) (maxL := y.2.2.1) (ret := y.2.2.2) hp rfl ?_⟩
  intro p e s m args below meth c s₁ B hml hv
  obtain ⟨rfl, hK, hR⟩ := hv
  have hts := atoms_spec (ws := wsm y) B.pre
  rw [lg_entry_eq]
  have hl := lv_entry (as.map (vr X)) (n := y.2.2.1) (by rw [sl_len]; exact hn)
  rw [la_map] at hl
  refine body X l p e _ s m _ below meth c s.heap [] 0 0 _ _ _ ⟨⟨B.exec, B.bytes, hml, findClass_of_methodNamed B.named, fun w hw => hts w (List.mem_cons_of_mem _ hw)⟩, B.returns, B.notSynchronized, (name_of_methodNamed B.named B.method).1, hK, Nat.le_refl _, Nat.le_refl _, Nat.le_refl _, Nat.le_refl _⟩ hR (fun q hq => by cases hq) hl ?_ ?_ hz.1 hz.2
  · have := hz.1; omega
  · have := hz.2; omega
theorem Ct.weaken {d d' : Nat} {y : Mt} {as : List Value} {z zf : Nat × Nat} {h : Hp} {Q Q' : Option Value → Hp → Prop} (hc : Ct d y as z zf h Q) (hQ : ∀ r h', Q r h' → Q' r h') : Ct d y as z zf h Q' := by
  refine ⟨hc.1, fun X l => ?_⟩
  intro p e ha hcc hk s m args below hf h1 h2 h3
  obtain ⟨k, o, g1, g2, g3, g4, g5⟩ := hc.2 X l p e ha hcc hk s m args below hf h1 h2 h3
  obtain ⟨r, h', q1, q2, q3⟩ := g4
  exact ⟨k, o, g1, g2, g3, ⟨r, h', q1, hQ r h' q2, q3⟩, g5⟩
theorem gw {w : Cond} (h : w ∈ WS) : w ∈ WS ∧ ((w.onTables && w.keeps) = true ∨ ∃ ty, w = .arrayClass ty) := ⟨h, good_of_word (List.mem_filter.mp h).2⟩
theorem gws {y : Mt} (h : Cond.code y.1 y.2.1 y.2.2.1 y.2.2.2 ∈ WS) : GoodIn WS (wsm y) := by
  intro w hw
  rcases List.mem_cons.mp hw with rfl | hw
  · exact gw h
  · exact gw hw
theorem blindX (X : Cx) (as : List Value) (z : Nat × Nat) (h : Hp) : FrameBlind (PX X as z h) := fun a U g mk q => ⟨q.1, Kn.same (u := U) rfl q.2.1, q.2.2⟩

section XR
variable {d : Nat} {y : Mt} {zf : Nat × Nat} {Q : Option Value → Hp → Prop} {z : Nat × Nat} {h : Hp} {pc pc2 tgt : Nat} {ls : List (Nat × Value)} {st : List Value}

theorem x_iadd {a b : Int} (hd : Dec y pc (.iadd) 1 pc2) (K : WW d y zf Q z h pc2 ls (vi (a + b) :: st)) : WW d y zf Q z h pc ls (vi b :: vi a :: st) := by
  intro X l p e R s m args below meth c H locs cells slots mc ms L F hR hq hl e1 e2 e3 e4
  obtain ⟨hd, rfl⟩ := hd
  exact lv_iadd F.1.1 F.1.2.1 (x := ii a) (y := ii b) hd (by rw [ii_add]; exact K X l p e R s m args below meth c H locs cells slots mc ms L F hR hq hl e1 e2 e3 e4)
theorem x_isub {a b : Int} (hd : Dec y pc (.isub) 1 pc2) (K : WW d y zf Q z h pc2 ls (vi (a - b) :: st)) : WW d y zf Q z h pc ls (vi b :: vi a :: st) := by
  intro X l p e R s m args below meth c H locs cells slots mc ms L F hR hq hl e1 e2 e3 e4
  obtain ⟨hd, rfl⟩ := hd
  exact lv_isub F.1.1 F.1.2.1 (x := ii a) (y := ii b) hd (by rw [ii_sub]; exact K X l p e R s m args below meth c H locs cells slots mc ms L F hR hq hl e1 e2 e3 e4)
theorem x_imul {a b : Int} (hd : Dec y pc (.imul) 1 pc2) (K : WW d y zf Q z h pc2 ls (vi (a * b) :: st)) : WW d y zf Q z h pc ls (vi b :: vi a :: st) := by
  intro X l p e R s m args below meth c H locs cells slots mc ms L F hR hq hl e1 e2 e3 e4
  obtain ⟨hd, rfl⟩ := hd
  exact lv_imul F.1.1 F.1.2.1 (x := ii a) (y := ii b) hd (by rw [ii_mul]; exact K X l p e R s m args below meth c H locs cells slots mc ms L F hR hq hl e1 e2 e3 e4)
theorem x_iand {a b : Int} (hd : Dec y pc (.iand) 1 pc2) (K : WW d y zf Q z h pc2 ls (vi (iAnd a b) :: st)) : WW d y zf Q z h pc ls (vi b :: vi a :: st) := by
  intro X l p e R s m args below meth c H locs cells slots mc ms L F hR hq hl e1 e2 e3 e4
  obtain ⟨hd, rfl⟩ := hd
  exact lv_iand F.1.1 F.1.2.1 (x := ii a) (y := ii b) hd (by rw [← ii_toInt (ii a &&& ii b)]; exact K X l p e R s m args below meth c H locs cells slots mc ms L F hR hq hl e1 e2 e3 e4)
theorem x_ior {a b : Int} (hd : Dec y pc (.ior) 1 pc2) (K : WW d y zf Q z h pc2 ls (vi (iOr a b) :: st)) : WW d y zf Q z h pc ls (vi b :: vi a :: st) := by
  intro X l p e R s m args below meth c H locs cells slots mc ms L F hR hq hl e1 e2 e3 e4
  obtain ⟨hd, rfl⟩ := hd
  exact lv_ior F.1.1 F.1.2.1 (x := ii a) (y := ii b) hd (by rw [← ii_toInt (ii a ||| ii b)]; exact K X l p e R s m args below meth c H locs cells slots mc ms L F hR hq hl e1 e2 e3 e4)
theorem x_ixor {a b : Int} (hd : Dec y pc (.ixor) 1 pc2) (K : WW d y zf Q z h pc2 ls (vi (iXor a b) :: st)) : WW d y zf Q z h pc ls (vi b :: vi a :: st) := by
  intro X l p e R s m args below meth c H locs cells slots mc ms L F hR hq hl e1 e2 e3 e4
  obtain ⟨hd, rfl⟩ := hd
  exact lv_ixor F.1.1 F.1.2.1 (x := ii a) (y := ii b) hd (by rw [← ii_toInt (ii a ^^^ ii b)]; exact K X l p e R s m args below meth c H locs cells slots mc ms L F hR hq hl e1 e2 e3 e4)
theorem x_ishl {a b : Int} (hd : Dec y pc (.ishl) 1 pc2) (K : WW d y zf Q z h pc2 ls (vi (iShl a b) :: st)) : WW d y zf Q z h pc ls (vi b :: vi a :: st) := by
  intro X l p e R s m args below meth c H locs cells slots mc ms L F hR hq hl e1 e2 e3 e4
  obtain ⟨hd, rfl⟩ := hd
  exact lv_ishl F.1.1 F.1.2.1 (x := ii a) (y := ii b) hd (by rw [← ii_toInt (ii a <<< (ii b &&& 31))]; exact K X l p e R s m args below meth c H locs cells slots mc ms L F hR hq hl e1 e2 e3 e4)
theorem x_ishr {a b : Int} (hd : Dec y pc (.ishr) 1 pc2) (K : WW d y zf Q z h pc2 ls (vi (iShr a b) :: st)) : WW d y zf Q z h pc ls (vi b :: vi a :: st) := by
  intro X l p e R s m args below meth c H locs cells slots mc ms L F hR hq hl e1 e2 e3 e4
  obtain ⟨hd, rfl⟩ := hd
  exact lv_ishr F.1.1 F.1.2.1 (x := ii a) (y := ii b) hd (by rw [← ii_toInt (ii a >>> (ii b &&& 31))]; exact K X l p e R s m args below meth c H locs cells slots mc ms L F hR hq hl e1 e2 e3 e4)
theorem x_iushr {a b : Int} (hd : Dec y pc (.iushr) 1 pc2) (K : WW d y zf Q z h pc2 ls (vi (iUshr a b) :: st)) : WW d y zf Q z h pc ls (vi b :: vi a :: st) := by
  intro X l p e R s m args below meth c H locs cells slots mc ms L F hR hq hl e1 e2 e3 e4
  obtain ⟨hd, rfl⟩ := hd
  exact lv_iushr F.1.1 F.1.2.1 (x := ii a) (y := ii b) (v := ii (iUshr a b)) hd (ii_toInt _).symm (K X l p e R s m args below meth c H locs cells slots mc ms L F hR hq hl e1 e2 e3 e4)
theorem x_idiv {a b : Int} (hd : Dec y pc (.idiv) 1 pc2) (ha0 : 0 ≤ a) (ha : B3 a) (hb0 : 0 < b) (hb : B3 b) (K : WW d y zf Q z h pc2 ls (vi (a / b) :: st)) : WW d y zf Q z h pc ls (vi b :: vi a :: st) := by
  intro X l p e R s m args below meth c H locs cells slots mc ms L F hR hq hl e1 e2 e3 e4
  obtain ⟨hd, rfl⟩ := hd
  exact lv_idiv F.1.1 F.1.2.1 (x := ii a) (y := ii b) hd (ii_ne0 hb (by omega)) (by rw [ii_div ha0 ha hb0 hb]; exact K X l p e R s m args below meth c H locs cells slots mc ms L F hR hq hl e1 e2 e3 e4)
theorem x_irem {a b : Int} (hd : Dec y pc (.irem) 1 pc2) (ha0 : 0 ≤ a) (ha : B3 a) (hb0 : 0 < b) (hb : B3 b) (K : WW d y zf Q z h pc2 ls (vi (a % b) :: st)) : WW d y zf Q z h pc ls (vi b :: vi a :: st) := by
  intro X l p e R s m args below meth c H locs cells slots mc ms L F hR hq hl e1 e2 e3 e4
  obtain ⟨hd, rfl⟩ := hd
  exact lv_irem F.1.1 F.1.2.1 (x := ii a) (y := ii b) hd (ii_ne0 hb (by omega)) (by rw [ii_div ha0 ha hb0 hb, ii_mul, ii_sub, show a - a / b * b = a % b by rw [Int.emod_def, Int.mul_comm]]; exact K X l p e R s m args below meth c H locs cells slots mc ms L F hR hq hl e1 e2 e3 e4)
theorem x_ladd {a b : Int} (hd : Dec y pc (.ladd) 1 pc2) (K : WW d y zf Q z h pc2 ls (vl (a + b) :: st)) : WW d y zf Q z h pc ls (vl b :: vl a :: st) := by
  intro X l p e R s m args below meth c H locs cells slots mc ms L F hR hq hl e1 e2 e3 e4
  obtain ⟨hd, rfl⟩ := hd
  exact lv_ladd F.1.1 F.1.2.1 (x := ll a) (y := ll b) hd (by rw [ll_add]; exact K X l p e R s m args below meth c H locs cells slots mc ms L F hR hq hl e1 e2 e3 e4)
theorem x_lmul {a b : Int} (hd : Dec y pc (.lmul) 1 pc2) (K : WW d y zf Q z h pc2 ls (vl (a * b) :: st)) : WW d y zf Q z h pc ls (vl b :: vl a :: st) := by
  intro X l p e R s m args below meth c H locs cells slots mc ms L F hR hq hl e1 e2 e3 e4
  obtain ⟨hd, rfl⟩ := hd
  exact lv_lmul F.1.1 F.1.2.1 (x := ll a) (y := ll b) hd (by rw [ll_mul]; exact K X l p e R s m args below meth c H locs cells slots mc ms L F hR hq hl e1 e2 e3 e4)
theorem x_lrem {a b : Int} (hd : Dec y pc (.lrem) 1 pc2) (ha0 : 0 ≤ a) (ha : a < 9223372036854775808) (hb0 : 0 < b) (hb : b < 9223372036854775808) (K : WW d y zf Q z h pc2 ls (vl (a % b) :: st)) : WW d y zf Q z h pc ls (vl b :: vl a :: st) := by
  intro X l p e R s m args below meth c H locs cells slots mc ms L F hR hq hl e1 e2 e3 e4
  obtain ⟨hd, rfl⟩ := hd
  refine lv_lrem F.1.1 F.1.2.1 (x := ll a) (y := ll b) hd (fun e => ?_) (by rw [ll_div ha0 ha hb0 hb, ll_mul, show ll a - ll (a / b * b) = ll (a % b) by rw [Int.emod_def, Int.mul_comm]; exact (Int64.ofInt_sub _ _).symm]; exact K X l p e R s m args below meth c H locs cells slots mc ms L F hR hq hl e1 e2 e3 e4)
  have h9 : (ll b).toInt = b := Int64.toInt_ofInt_of_le (by omega) (by omega)
  rw [e] at h9
  have h8 : (0 : Int64).toInt = 0 := by decide
  omega
theorem x_land {a b : Int64} (hd : Dec y pc (.land) 1 pc2) (K : WW d y zf Q z h pc2 ls (.long (a &&& b) :: st)) : WW d y zf Q z h pc ls (.long b :: .long a :: st) := by
  intro X l p e R s m args below meth c H locs cells slots mc ms L F hR hq hl e1 e2 e3 e4
  obtain ⟨hd, rfl⟩ := hd
  exact lv_land F.1.1 F.1.2.1 (x := a) (y := b) hd (K X l p e R s m args below meth c H locs cells slots mc ms L F hR hq hl e1 e2 e3 e4)
theorem x_lor {a b : Int64} (hd : Dec y pc (.lor) 1 pc2) (K : WW d y zf Q z h pc2 ls (.long (a ||| b) :: st)) : WW d y zf Q z h pc ls (.long b :: .long a :: st) := by
  intro X l p e R s m args below meth c H locs cells slots mc ms L F hR hq hl e1 e2 e3 e4
  obtain ⟨hd, rfl⟩ := hd
  exact lv_lor F.1.1 F.1.2.1 (x := a) (y := b) hd (K X l p e R s m args below meth c H locs cells slots mc ms L F hR hq hl e1 e2 e3 e4)
theorem x_lushr {a : Int64} {b : Int} (hd : Dec y pc (.lushr) 1 pc2) (K : WW d y zf Q z h pc2 ls (.long ((a.toUInt64 >>> ((ii b).toInt64.toUInt64 &&& Int64.toUInt64 63)).toInt64) :: st)) : WW d y zf Q z h pc ls (vi b :: .long a :: st) := by
  intro X l p e R s m args below meth c H locs cells slots mc ms L F hR hq hl e1 e2 e3 e4
  obtain ⟨hd, rfl⟩ := hd
  exact lv_lushr F.1.1 F.1.2.1 (x := a) (y := ii b) hd rfl (K X l p e R s m args below meth c H locs cells slots mc ms L F hR hq hl e1 e2 e3 e4)
theorem x_lshr {a : Int64} {b : Int} (hd : Dec y pc (.lshr) 1 pc2) (K : WW d y zf Q z h pc2 ls (.long (a >>> ((ii b).toInt64 &&& 63)) :: st)) : WW d y zf Q z h pc ls (vi b :: .long a :: st) := by
  intro X l p e R s m args below meth c H locs cells slots mc ms L F hR hq hl e1 e2 e3 e4
  obtain ⟨hd, rfl⟩ := hd
  exact lv_lshr F.1.1 F.1.2.1 (x := a) (y := ii b) hd rfl (K X l p e R s m args below meth c H locs cells slots mc ms L F hR hq hl e1 e2 e3 e4)
theorem x_lshl {a : Int64} {b : Int} (hd : Dec y pc (.lshl) 1 pc2) (K : WW d y zf Q z h pc2 ls (.long (a <<< ((ii b).toInt64 &&& 63)) :: st)) : WW d y zf Q z h pc ls (vi b :: .long a :: st) := by
  intro X l p e R s m args below meth c H locs cells slots mc ms L F hR hq hl e1 e2 e3 e4
  obtain ⟨hd, rfl⟩ := hd
  exact lv_lshl F.1.1 F.1.2.1 (x := a) (y := ii b) hd rfl (K X l p e R s m args below meth c H locs cells slots mc ms L F hR hq hl e1 e2 e3 e4)
theorem x_i2l {a : Int} (hd : Dec y pc (.i2l) 1 pc2) (ha : B3 a) (K : WW d y zf Q z h pc2 ls (vl a :: st)) : WW d y zf Q z h pc ls (vi a :: st) := by
  intro X l p e R s m args below meth c H locs cells slots mc ms L F hR hq hl e1 e2 e3 e4
  obtain ⟨hd, rfl⟩ := hd
  exact lv_i2l F.1.1 F.1.2.1 (x := ii a) (v := ll a) hd (Int64.toInt.inj (by rw [Int32.toInt_toInt64, toInt_ii ha]; exact (Int64.toInt_ofInt_of_le (by have := ha.1; omega) (by have := ha.2; omega)).symm)) (K X l p e R s m args below meth c H locs cells slots mc ms L F hR hq hl e1 e2 e3 e4)
theorem x_i2lr {a : Int} (hd : Dec y pc (.i2l) 1 pc2) (K : WW d y zf Q z h pc2 ls (.long (ii a).toInt64 :: st)) : WW d y zf Q z h pc ls (vi a :: st) := by
  intro X l p e R s m args below meth c H locs cells slots mc ms L F hR hq hl e1 e2 e3 e4
  obtain ⟨hd, rfl⟩ := hd
  exact lv_i2l F.1.1 F.1.2.1 (x := ii a) hd rfl (K X l p e R s m args below meth c H locs cells slots mc ms L F hR hq hl e1 e2 e3 e4)
theorem x_l2i {a : Int64} (hd : Dec y pc (.l2i) 1 pc2) (K : WW d y zf Q z h pc2 ls (vi a.toInt32.toInt :: st)) : WW d y zf Q z h pc ls (.long a :: st) := by
  intro X l p e R s m args below meth c H locs cells slots mc ms L F hR hq hl e1 e2 e3 e4
  obtain ⟨hd, rfl⟩ := hd
  exact lv_l2i F.1.1 F.1.2.1 (x := a) (v := ii a.toInt32.toInt) hd (ii_toInt _).symm (K X l p e R s m args below meth c H locs cells slots mc ms L F hR hq hl e1 e2 e3 e4)
theorem x_l2il {a : Int} (hd : Dec y pc (.l2i) 1 pc2) (K : WW d y zf Q z h pc2 ls (vi a :: st)) : WW d y zf Q z h pc ls (vl a :: st) := by
  intro X l p e R s m args below meth c H locs cells slots mc ms L F hR hq hl e1 e2 e3 e4
  obtain ⟨hd, rfl⟩ := hd
  exact lv_l2i F.1.1 F.1.2.1 (x := ll a) (v := ii a) hd Int64.toInt32_ofInt (K X l p e R s m args below meth c H locs cells slots mc ms L F hR hq hl e1 e2 e3 e4)
theorem x_i2b {a : Int} (hd : Dec y pc (.i2b) 1 pc2) (K : WW d y zf Q z h pc2 ls (vi (iByte a) :: st)) : WW d y zf Q z h pc ls (vi a :: st) := by
  intro X l p e R s m args below meth c H locs cells slots mc ms L F hR hq hl e1 e2 e3 e4
  obtain ⟨hd, rfl⟩ := hd
  exact lv_i2b F.1.1 F.1.2.1 (x := ii a) (v := ii (iByte a)) hd (ii_toInt _).symm (K X l p e R s m args below meth c H locs cells slots mc ms L F hR hq hl e1 e2 e3 e4)
theorem x_iconst {n : Int} (hd : Dec y pc (.iconst n) 1 pc2) (K : WW d y zf Q z h pc2 ls (vi n :: st)) : WW d y zf Q z h pc ls (st) := by
  intro X l p e R s m args below meth c H locs cells slots mc ms L F hR hq hl e1 e2 e3 e4
  obtain ⟨hd, rfl⟩ := hd
  exact lv_iconst F.1.1 F.1.2.1 (v := ii n) hd rfl (K X l p e R s m args below meth c H locs cells slots mc ms L F hR hq hl e1 e2 e3 e4)
theorem x_bipush {n : Int} (hd : Dec y pc (.bipush n) 2 pc2) (hv : (Int8.ofInt n).toInt32 = ii n) (K : WW d y zf Q z h pc2 ls (vi n :: st)) : WW d y zf Q z h pc ls (st) := by
  intro X l p e R s m args below meth c H locs cells slots mc ms L F hR hq hl e1 e2 e3 e4
  obtain ⟨hd, rfl⟩ := hd
  exact lv_bipush F.1.1 F.1.2.1 (v := ii n) hd hv (K X l p e R s m args below meth c H locs cells slots mc ms L F hR hq hl e1 e2 e3 e4)
theorem x_sipush {n : Int} (hd : Dec y pc (.sipush n) 3 pc2) (hv : (Int16.ofInt n).toInt32 = ii n) (K : WW d y zf Q z h pc2 ls (vi n :: st)) : WW d y zf Q z h pc ls (st) := by
  intro X l p e R s m args below meth c H locs cells slots mc ms L F hR hq hl e1 e2 e3 e4
  obtain ⟨hd, rfl⟩ := hd
  exact lv_sipush F.1.1 F.1.2.1 (v := ii n) hd hv (K X l p e R s m args below meth c H locs cells slots mc ms L F hR hq hl e1 e2 e3 e4)
theorem x_lconst {n : Fin 2} {k : Int} (hd : Dec y pc (.lconst n) 1 pc2) (hv : Int64.ofNat (n : Nat) = ll k) (K : WW d y zf Q z h pc2 ls (vl k :: st)) : WW d y zf Q z h pc ls (st) := by
  intro X l p e R s m args below meth c H locs cells slots mc ms L F hR hq hl e1 e2 e3 e4
  obtain ⟨hd, rfl⟩ := hd
  exact lv_lconst F.1.1 F.1.2.1 (v := ll k) hd hv (K X l p e R s m args below meth c H locs cells slots mc ms L F hR hq hl e1 e2 e3 e4)
theorem x_ldc {idx : Nat} {n : Int} (hd : Dec y pc (.ldc idx) 2 pc2) (hk : Cond.constant y.1.cls idx (ii n) ∈ WS) (K : WW d y zf Q z h pc2 ls (vi n :: st)) : WW d y zf Q z h pc ls (st) := by
  intro X l p e R s m args below meth c H locs cells slots mc ms L F hR hq hl e1 e2 e3 e4
  obtain ⟨hd, rfl⟩ := hd
  exact lv_ldc F.1.1 F.1.2.1 (v := ii n) F.1.2.2.2.1 (F.1.2.2.2.2 _ hk) hd (K X l p e R s m args below meth c H locs cells slots mc ms L F hR hq hl e1 e2 e3 e4)
theorem x_ldcw {idx : Nat} {n : Int} (hd : Dec y pc (.ldc_w idx) 3 pc2) (hk : Cond.constant y.1.cls idx (ii n) ∈ WS) (K : WW d y zf Q z h pc2 ls (vi n :: st)) : WW d y zf Q z h pc ls (st) := by
  intro X l p e R s m args below meth c H locs cells slots mc ms L F hR hq hl e1 e2 e3 e4
  obtain ⟨hd, rfl⟩ := hd
  exact lv_ldcw F.1.1 F.1.2.1 (v := ii n) F.1.2.2.2.1 (F.1.2.2.2.2 _ hk) hd (K X l p e R s m args below meth c H locs cells slots mc ms L F hR hq hl e1 e2 e3 e4)
theorem x_ldc2 {idx : Nat} {n : Int} (hd : Dec y pc (.ldc2_w idx) 3 pc2) (hk : Cond.constantLong y.1.cls idx (ll n) ∈ WS) (K : WW d y zf Q z h pc2 ls (vl n :: st)) : WW d y zf Q z h pc ls (st) := by
  intro X l p e R s m args below meth c H locs cells slots mc ms L F hR hq hl e1 e2 e3 e4
  obtain ⟨hd, rfl⟩ := hd
  exact lv_ldc2 F.1.1 F.1.2.1 (v := ll n) F.1.2.2.2.1 (F.1.2.2.2.2 _ hk) hd (K X l p e R s m args below meth c H locs cells slots mc ms L F hR hq hl e1 e2 e3 e4)
theorem x_dup {v : Value} (hd : Dec y pc (.dup) 1 pc2) (hc : v.category = 1) (K : WW d y zf Q z h pc2 ls (v :: v :: st)) : WW d y zf Q z h pc ls (v :: st) := by
  intro X l p e R s m args below meth c H locs cells slots mc ms L F hR hq hl e1 e2 e3 e4
  obtain ⟨hd, rfl⟩ := hd
  exact lv_dup F.1.1 F.1.2.1 hd ((vr_cat X v).trans hc) (K X l p e R s m args below meth c H locs cells slots mc ms L F hR hq hl e1 e2 e3 e4)
theorem x_pop {v : Value} (hd : Dec y pc (.pop) 1 pc2) (hc : v.category = 1) (K : WW d y zf Q z h pc2 ls (st)) : WW d y zf Q z h pc ls (v :: st) := by
  intro X l p e R s m args below meth c H locs cells slots mc ms L F hR hq hl e1 e2 e3 e4
  obtain ⟨hd, rfl⟩ := hd
  exact lv_pop F.1.1 F.1.2.1 (va := vr X v) hd ((vr_cat X v).trans hc) (K X l p e R s m args below meth c H locs cells slots mc ms L F hR hq hl e1 e2 e3 e4)
theorem x_dup2 {v w : Value} (hd : Dec y pc (.dup2) 1 pc2) (hc : v.category = 1) (hw : w.category = 1) (K : WW d y zf Q z h pc2 ls (v :: w :: v :: w :: st)) : WW d y zf Q z h pc ls (v :: w :: st) := by
  intro X l p e R s m args below meth c H locs cells slots mc ms L F hR hq hl e1 e2 e3 e4
  obtain ⟨hd, rfl⟩ := hd
  exact lv_dup2_11 F.1.1 F.1.2.1 (va := vr X v) (vb := vr X w) hd ((vr_cat X v).trans hc) ((vr_cat X w).trans hw) (K X l p e R s m args below meth c H locs cells slots mc ms L F hR hq hl e1 e2 e3 e4)
theorem x_iload_n {k : Fin 4} {a : Int} (hd : Dec y pc (.iload_n k) 1 pc2) (hv : lg ls (k : Nat) = some (vi a)) (K : WW d y zf Q z h pc2 ls (vi a :: st)) : WW d y zf Q z h pc ls (st) := by
  intro X l p e R s m args below meth c H locs cells slots mc ms L F hR hq hl e1 e2 e3 e4
  obtain ⟨hd, rfl⟩ := hd
  exact lv_iload_n F.1.1 F.1.2.1 hd rfl (lh_at hl hv) (K X l p e R s m args below meth c H locs cells slots mc ms L F hR hq hl e1 e2 e3 e4)
theorem x_iload {k : Nat} {a : Int} (hd : Dec y pc (.iload k) 2 pc2) (hv : lg ls k = some (vi a)) (K : WW d y zf Q z h pc2 ls (vi a :: st)) : WW d y zf Q z h pc ls (st) := by
  intro X l p e R s m args below meth c H locs cells slots mc ms L F hR hq hl e1 e2 e3 e4
  obtain ⟨hd, rfl⟩ := hd
  exact lv_iload F.1.1 F.1.2.1 hd (lh_at hl hv) (K X l p e R s m args below meth c H locs cells slots mc ms L F hR hq hl e1 e2 e3 e4)
theorem x_aload_n {k : Fin 4} {a : Nat} (hd : Dec y pc (.aload_n k) 1 pc2) (hv : lg ls (k : Nat) = some (.ref a)) (K : WW d y zf Q z h pc2 ls (.ref a :: st)) : WW d y zf Q z h pc ls (st) := by
  intro X l p e R s m args below meth c H locs cells slots mc ms L F hR hq hl e1 e2 e3 e4
  obtain ⟨hd, rfl⟩ := hd
  exact lv_aload_n F.1.1 F.1.2.1 hd rfl (lh_at hl hv) (K X l p e R s m args below meth c H locs cells slots mc ms L F hR hq hl e1 e2 e3 e4)
theorem x_aload {k : Nat} {a : Nat} (hd : Dec y pc (.aload k) 2 pc2) (hv : lg ls k = some (.ref a)) (K : WW d y zf Q z h pc2 ls (.ref a :: st)) : WW d y zf Q z h pc ls (st) := by
  intro X l p e R s m args below meth c H locs cells slots mc ms L F hR hq hl e1 e2 e3 e4
  obtain ⟨hd, rfl⟩ := hd
  exact lv_aload F.1.1 F.1.2.1 hd (lh_at hl hv) (K X l p e R s m args below meth c H locs cells slots mc ms L F hR hq hl e1 e2 e3 e4)
theorem x_lload_n {k : Fin 4} {a : Int64} (hd : Dec y pc (.lload_n k) 1 pc2) (hv : lg ls (k : Nat) = some (.long a)) (K : WW d y zf Q z h pc2 ls (.long a :: st)) : WW d y zf Q z h pc ls (st) := by
  intro X l p e R s m args below meth c H locs cells slots mc ms L F hR hq hl e1 e2 e3 e4
  obtain ⟨hd, rfl⟩ := hd
  exact lv_lload_n F.1.1 F.1.2.1 hd rfl (lh_at hl hv) (K X l p e R s m args below meth c H locs cells slots mc ms L F hR hq hl e1 e2 e3 e4)
theorem x_lload {k : Nat} {a : Int64} (hd : Dec y pc (.lload k) 2 pc2) (hv : lg ls k = some (.long a)) (K : WW d y zf Q z h pc2 ls (.long a :: st)) : WW d y zf Q z h pc ls (st) := by
  intro X l p e R s m args below meth c H locs cells slots mc ms L F hR hq hl e1 e2 e3 e4
  obtain ⟨hd, rfl⟩ := hd
  exact lv_lload F.1.1 F.1.2.1 hd (lh_at hl hv) (K X l p e R s m args below meth c H locs cells slots mc ms L F hR hq hl e1 e2 e3 e4)
theorem x_istore_n {k : Fin 4} {a : Int} (hd : Dec y pc (.istore_n k) 1 pc2) (hn : Nat.ble ((k : Nat) + 1) y.2.2.1 = true) (hok : okp ls (k : Nat) = true) {ls2 : List (Nat × Value)} (hlp : lpa ls (k : Nat) (vi a) false [] = some ls2) (K : WW d y zf Q z h pc2 ls2 st) : WW d y zf Q z h pc ls (vi a :: st) := by
  intro X l p e R s m args below meth c H locs cells slots mc ms L F hR hq hl e1 e2 e3 e4
  obtain ⟨hd, rfl⟩ := hd
  exact lv_istore_n F.1.1 F.1.2.1 hd rfl hl (Nat.le_of_ble_eq_true hn) rfl (fun L' hl' => K X l p e R s m args below meth c H locs cells slots mc ms L' F hR hq (lh_put hlp hok hl') e1 e2 e3 e4)
theorem x_istore {k : Nat} {a : Int} (hd : Dec y pc (.istore k) 2 pc2) (hn : Nat.ble (k + 1) y.2.2.1 = true) (hok : okp ls k = true) {ls2 : List (Nat × Value)} (hlp : lpa ls k (vi a) false [] = some ls2) (K : WW d y zf Q z h pc2 ls2 st) : WW d y zf Q z h pc ls (vi a :: st) := by
  intro X l p e R s m args below meth c H locs cells slots mc ms L F hR hq hl e1 e2 e3 e4
  obtain ⟨hd, rfl⟩ := hd
  exact lv_istore F.1.1 F.1.2.1 hd hl (Nat.le_of_ble_eq_true hn) rfl (fun L' hl' => K X l p e R s m args below meth c H locs cells slots mc ms L' F hR hq (lh_put hlp hok hl') e1 e2 e3 e4)
theorem x_astore_n {k : Fin 4} {a : Nat} (hd : Dec y pc (.astore_n k) 1 pc2) (hn : Nat.ble ((k : Nat) + 1) y.2.2.1 = true) (hok : okp ls (k : Nat) = true) {ls2 : List (Nat × Value)} (hlp : lpa ls (k : Nat) (.ref a) false [] = some ls2) (K : WW d y zf Q z h pc2 ls2 st) : WW d y zf Q z h pc ls (.ref a :: st) := by
  intro X l p e R s m args below meth c H locs cells slots mc ms L F hR hq hl e1 e2 e3 e4
  obtain ⟨hd, rfl⟩ := hd
  exact lv_astore_n F.1.1 F.1.2.1 hd rfl hl (Nat.le_of_ble_eq_true hn) rfl (fun L' hl' => K X l p e R s m args below meth c H locs cells slots mc ms L' F hR hq (lh_put hlp hok hl') e1 e2 e3 e4)
theorem x_astore {k : Nat} {a : Nat} (hd : Dec y pc (.astore k) 2 pc2) (hn : Nat.ble (k + 1) y.2.2.1 = true) (hok : okp ls k = true) {ls2 : List (Nat × Value)} (hlp : lpa ls k (.ref a) false [] = some ls2) (K : WW d y zf Q z h pc2 ls2 st) : WW d y zf Q z h pc ls (.ref a :: st) := by
  intro X l p e R s m args below meth c H locs cells slots mc ms L F hR hq hl e1 e2 e3 e4
  obtain ⟨hd, rfl⟩ := hd
  exact lv_astore F.1.1 F.1.2.1 hd hl (Nat.le_of_ble_eq_true hn) rfl (fun L' hl' => K X l p e R s m args below meth c H locs cells slots mc ms L' F hR hq (lh_put hlp hok hl') e1 e2 e3 e4)
theorem x_lstore_n {k : Fin 4} {a : Int64} (hd : Dec y pc (.lstore_n k) 1 pc2) (hn : Nat.ble ((k : Nat) + 2) y.2.2.1 = true) (hok : okp2 ls (k : Nat) = true) {ls2 : List (Nat × Value)} (hlp : lpa ls (k : Nat) (.long a) false [] = some ls2) (K : WW d y zf Q z h pc2 ls2 st) : WW d y zf Q z h pc ls (.long a :: st) := by
  intro X l p e R s m args below meth c H locs cells slots mc ms L F hR hq hl e1 e2 e3 e4
  obtain ⟨hd, rfl⟩ := hd
  exact lv_lstore_n F.1.1 F.1.2.1 hd rfl hl (Nat.le_of_ble_eq_true hn) rfl (fun L' hl' => K X l p e R s m args below meth c H locs cells slots mc ms L' F hR hq (lh_put2 hlp hok hl') e1 e2 e3 e4)
theorem x_lstore {k : Nat} {a : Int64} (hd : Dec y pc (.lstore k) 2 pc2) (hn : Nat.ble (k + 2) y.2.2.1 = true) (hok : okp2 ls k = true) {ls2 : List (Nat × Value)} (hlp : lpa ls k (.long a) false [] = some ls2) (K : WW d y zf Q z h pc2 ls2 st) : WW d y zf Q z h pc ls (.long a :: st) := by
  intro X l p e R s m args below meth c H locs cells slots mc ms L F hR hq hl e1 e2 e3 e4
  obtain ⟨hd, rfl⟩ := hd
  exact lv_lstore F.1.1 F.1.2.1 hd hl (Nat.le_of_ble_eq_true hn) rfl (fun L' hl' => K X l p e R s m args below meth c H locs cells slots mc ms L' F hR hq (lh_put2 hlp hok hl') e1 e2 e3 e4)
theorem x_iinc {k : Nat} {n a : Int} (hd : Dec y pc (.iinc k n) 3 pc2) (hv : lg ls k = some (vi a)) (hn : Nat.ble (k + 1) y.2.2.1 = true) (hok : okp ls k = true) {ls2 : List (Nat × Value)} (hlp : lpa ls k (vi (a + n)) false [] = some ls2) (K : WW d y zf Q z h pc2 ls2 st) : WW d y zf Q z h pc ls st := by
  intro X l p e R s m args below meth c H locs cells slots mc ms L F hR hq hl e1 e2 e3 e4
  obtain ⟨hd, rfl⟩ := hd
  obtain ⟨j, hj⟩ := List.getElem?_of_mem (lg_mem hv)
  exact lv_iinc F.1.1 F.1.2.1 (v := ii (a + n)) hd hl (k := j) (x := ii a) (by rw [List.getElem?_map, hj]; rfl) (ii_add a n) (Nat.le_of_ble_eq_true hn) rfl (fun L' hl' => K X l p e R s m args below meth c H locs cells slots mc ms L' F hR hq (lh_put hlp hok hl') e1 e2 e3 e4)
theorem x_icmp_eq {a b : Int} (hd : DecJ y pc (.if_icmp .eq) pc2 tgt) (ha : B3 a) (hb : B3 b) (K1 : a = b → WW d y zf Q z h tgt ls st) (K2 : a ≠ b → WW d y zf Q z h pc2 ls st) : WW d y zf Q z h pc ls (vi b :: vi a :: st) := by
  intro X l p e R s m args below meth c H locs cells slots mc ms L F hR hq hl e1 e2 e3 e4
  obtain ⟨off, hd, rfl, ht⟩ := hd
  exact lv_icmp_eq F.1.1 F.1.2.1 (x := ii a) (y := ii b) hd ht (fun q => K1 (ii_inj ha hb q) X l p e R s m args below meth c H locs cells slots mc ms L F hR hq hl e1 e2 e3 e4) (fun q => K2 (fun e => q (congrArg ii e)) X l p e R s m args below meth c H locs cells slots mc ms L F hR hq hl e1 e2 e3 e4)
theorem x_if_eq {a : Int} (hd : DecJ y pc (.ifCond .eq) pc2 tgt) (ha : B3 a) (K1 : a = 0 → WW d y zf Q z h tgt ls st) (K2 : a ≠ 0 → WW d y zf Q z h pc2 ls st) : WW d y zf Q z h pc ls (vi a :: st) := by
  intro X l p e R s m args below meth c H locs cells slots mc ms L F hR hq hl e1 e2 e3 e4
  obtain ⟨off, hd, rfl, ht⟩ := hd
  exact lv_if_eq F.1.1 F.1.2.1 (x := ii a) hd ht (fun q => K1 (ii_inj ha (show B3 0 from ⟨by omega, by omega⟩) q) X l p e R s m args below meth c H locs cells slots mc ms L F hR hq hl e1 e2 e3 e4) (fun q => K2 (fun e => q (congrArg ii e)) X l p e R s m args below meth c H locs cells slots mc ms L F hR hq hl e1 e2 e3 e4)
theorem x_icmp_ne {a b : Int} (hd : DecJ y pc (.if_icmp .ne) pc2 tgt) (ha : B3 a) (hb : B3 b) (K1 : a ≠ b → WW d y zf Q z h tgt ls st) (K2 : a = b → WW d y zf Q z h pc2 ls st) : WW d y zf Q z h pc ls (vi b :: vi a :: st) := by
  intro X l p e R s m args below meth c H locs cells slots mc ms L F hR hq hl e1 e2 e3 e4
  obtain ⟨off, hd, rfl, ht⟩ := hd
  exact lv_icmp_ne F.1.1 F.1.2.1 (x := ii a) (y := ii b) hd ht (fun q => K1 (fun e => q (congrArg ii e)) X l p e R s m args below meth c H locs cells slots mc ms L F hR hq hl e1 e2 e3 e4) (fun q => K2 (ii_inj ha hb q) X l p e R s m args below meth c H locs cells slots mc ms L F hR hq hl e1 e2 e3 e4)
theorem x_if_ne {a : Int} (hd : DecJ y pc (.ifCond .ne) pc2 tgt) (ha : B3 a) (K1 : a ≠ 0 → WW d y zf Q z h tgt ls st) (K2 : a = 0 → WW d y zf Q z h pc2 ls st) : WW d y zf Q z h pc ls (vi a :: st) := by
  intro X l p e R s m args below meth c H locs cells slots mc ms L F hR hq hl e1 e2 e3 e4
  obtain ⟨off, hd, rfl, ht⟩ := hd
  exact lv_if_ne F.1.1 F.1.2.1 (x := ii a) hd ht (fun q => K1 (fun e => q (congrArg ii e)) X l p e R s m args below meth c H locs cells slots mc ms L F hR hq hl e1 e2 e3 e4) (fun q => K2 (ii_inj ha (show B3 0 from ⟨by omega, by omega⟩) q) X l p e R s m args below meth c H locs cells slots mc ms L F hR hq hl e1 e2 e3 e4)
theorem x_icmp_lt {a b : Int} (hd : DecJ y pc (.if_icmp .lt) pc2 tgt) (ha : B3 a) (hb : B3 b) (K1 : a < b → WW d y zf Q z h tgt ls st) (K2 : b ≤ a → WW d y zf Q z h pc2 ls st) : WW d y zf Q z h pc ls (vi b :: vi a :: st) := by
  intro X l p e R s m args below meth c H locs cells slots mc ms L F hR hq hl e1 e2 e3 e4
  obtain ⟨off, hd, rfl, ht⟩ := hd
  exact lv_icmp_lt F.1.1 F.1.2.1 (x := ii a) (y := ii b) hd ht (fun q => K1 ((ii_lt ha hb).mp q) X l p e R s m args below meth c H locs cells slots mc ms L F hR hq hl e1 e2 e3 e4) (fun q => K2 (Int.not_lt.mp (fun e => q ((ii_lt ha hb).mpr e))) X l p e R s m args below meth c H locs cells slots mc ms L F hR hq hl e1 e2 e3 e4)
theorem x_if_lt {a : Int} (hd : DecJ y pc (.ifCond .lt) pc2 tgt) (ha : B3 a) (K1 : a < 0 → WW d y zf Q z h tgt ls st) (K2 : 0 ≤ a → WW d y zf Q z h pc2 ls st) : WW d y zf Q z h pc ls (vi a :: st) := by
  intro X l p e R s m args below meth c H locs cells slots mc ms L F hR hq hl e1 e2 e3 e4
  obtain ⟨off, hd, rfl, ht⟩ := hd
  exact lv_if_lt F.1.1 F.1.2.1 (x := ii a) hd ht (fun q => K1 ((ii_lt ha (show B3 0 from ⟨by omega, by omega⟩)).mp q) X l p e R s m args below meth c H locs cells slots mc ms L F hR hq hl e1 e2 e3 e4) (fun q => K2 (Int.not_lt.mp (fun e => q ((ii_lt ha (show B3 0 from ⟨by omega, by omega⟩)).mpr e))) X l p e R s m args below meth c H locs cells slots mc ms L F hR hq hl e1 e2 e3 e4)
theorem x_icmp_ge {a b : Int} (hd : DecJ y pc (.if_icmp .ge) pc2 tgt) (ha : B3 a) (hb : B3 b) (K1 : b ≤ a → WW d y zf Q z h tgt ls st) (K2 : a < b → WW d y zf Q z h pc2 ls st) : WW d y zf Q z h pc ls (vi b :: vi a :: st) := by
  intro X l p e R s m args below meth c H locs cells slots mc ms L F hR hq hl e1 e2 e3 e4
  obtain ⟨off, hd, rfl, ht⟩ := hd
  exact lv_icmp_ge F.1.1 F.1.2.1 (x := ii a) (y := ii b) hd ht (fun q => K1 ((ii_le hb ha).mp q) X l p e R s m args below meth c H locs cells slots mc ms L F hR hq hl e1 e2 e3 e4) (fun q => K2 (Int.not_le.mp (fun e => q ((ii_le hb ha).mpr e))) X l p e R s m args below meth c H locs cells slots mc ms L F hR hq hl e1 e2 e3 e4)
theorem x_if_ge {a : Int} (hd : DecJ y pc (.ifCond .ge) pc2 tgt) (ha : B3 a) (K1 : 0 ≤ a → WW d y zf Q z h tgt ls st) (K2 : a < 0 → WW d y zf Q z h pc2 ls st) : WW d y zf Q z h pc ls (vi a :: st) := by
  intro X l p e R s m args below meth c H locs cells slots mc ms L F hR hq hl e1 e2 e3 e4
  obtain ⟨off, hd, rfl, ht⟩ := hd
  exact lv_if_ge F.1.1 F.1.2.1 (x := ii a) hd ht (fun q => K1 ((ii_le (show B3 0 from ⟨by omega, by omega⟩) ha).mp q) X l p e R s m args below meth c H locs cells slots mc ms L F hR hq hl e1 e2 e3 e4) (fun q => K2 (Int.not_le.mp (fun e => q ((ii_le (show B3 0 from ⟨by omega, by omega⟩) ha).mpr e))) X l p e R s m args below meth c H locs cells slots mc ms L F hR hq hl e1 e2 e3 e4)
theorem x_icmp_gt {a b : Int} (hd : DecJ y pc (.if_icmp .gt) pc2 tgt) (ha : B3 a) (hb : B3 b) (K1 : b < a → WW d y zf Q z h tgt ls st) (K2 : a ≤ b → WW d y zf Q z h pc2 ls st) : WW d y zf Q z h pc ls (vi b :: vi a :: st) := by
  intro X l p e R s m args below meth c H locs cells slots mc ms L F hR hq hl e1 e2 e3 e4
  obtain ⟨off, hd, rfl, ht⟩ := hd
  exact lv_icmp_gt F.1.1 F.1.2.1 (x := ii a) (y := ii b) hd ht (fun q => K1 ((ii_lt hb ha).mp q) X l p e R s m args below meth c H locs cells slots mc ms L F hR hq hl e1 e2 e3 e4) (fun q => K2 (Int.not_lt.mp (fun e => q ((ii_lt hb ha).mpr e))) X l p e R s m args below meth c H locs cells slots mc ms L F hR hq hl e1 e2 e3 e4)
theorem x_if_gt {a : Int} (hd : DecJ y pc (.ifCond .gt) pc2 tgt) (ha : B3 a) (K1 : 0 < a → WW d y zf Q z h tgt ls st) (K2 : a ≤ 0 → WW d y zf Q z h pc2 ls st) : WW d y zf Q z h pc ls (vi a :: st) := by
  intro X l p e R s m args below meth c H locs cells slots mc ms L F hR hq hl e1 e2 e3 e4
  obtain ⟨off, hd, rfl, ht⟩ := hd
  exact lv_if_gt F.1.1 F.1.2.1 (x := ii a) hd ht (fun q => K1 ((ii_lt (show B3 0 from ⟨by omega, by omega⟩) ha).mp q) X l p e R s m args below meth c H locs cells slots mc ms L F hR hq hl e1 e2 e3 e4) (fun q => K2 (Int.not_lt.mp (fun e => q ((ii_lt (show B3 0 from ⟨by omega, by omega⟩) ha).mpr e))) X l p e R s m args below meth c H locs cells slots mc ms L F hR hq hl e1 e2 e3 e4)
theorem x_icmp_le {a b : Int} (hd : DecJ y pc (.if_icmp .le) pc2 tgt) (ha : B3 a) (hb : B3 b) (K1 : a ≤ b → WW d y zf Q z h tgt ls st) (K2 : b < a → WW d y zf Q z h pc2 ls st) : WW d y zf Q z h pc ls (vi b :: vi a :: st) := by
  intro X l p e R s m args below meth c H locs cells slots mc ms L F hR hq hl e1 e2 e3 e4
  obtain ⟨off, hd, rfl, ht⟩ := hd
  exact lv_icmp_le F.1.1 F.1.2.1 (x := ii a) (y := ii b) hd ht (fun q => K1 ((ii_le ha hb).mp q) X l p e R s m args below meth c H locs cells slots mc ms L F hR hq hl e1 e2 e3 e4) (fun q => K2 (Int.not_le.mp (fun e => q ((ii_le ha hb).mpr e))) X l p e R s m args below meth c H locs cells slots mc ms L F hR hq hl e1 e2 e3 e4)
theorem x_if_le {a : Int} (hd : DecJ y pc (.ifCond .le) pc2 tgt) (ha : B3 a) (K1 : a ≤ 0 → WW d y zf Q z h tgt ls st) (K2 : 0 < a → WW d y zf Q z h pc2 ls st) : WW d y zf Q z h pc ls (vi a :: st) := by
  intro X l p e R s m args below meth c H locs cells slots mc ms L F hR hq hl e1 e2 e3 e4
  obtain ⟨off, hd, rfl, ht⟩ := hd
  exact lv_if_le F.1.1 F.1.2.1 (x := ii a) hd ht (fun q => K1 ((ii_le ha (show B3 0 from ⟨by omega, by omega⟩)).mp q) X l p e R s m args below meth c H locs cells slots mc ms L F hR hq hl e1 e2 e3 e4) (fun q => K2 (Int.not_le.mp (fun e => q ((ii_le ha (show B3 0 from ⟨by omega, by omega⟩)).mpr e))) X l p e R s m args below meth c H locs cells slots mc ms L F hR hq hl e1 e2 e3 e4)
def bi (c : Prop) [Decidable c] : Int := if c then 1 else 0
theorem bi_B3 (c : Prop) [Decidable c] : B3 (bi c) := by unfold bi; split <;> exact ⟨by omega, by omega⟩
theorem bi_0 {c : Prop} [Decidable c] (hh : bi c = 0) : ¬ c := fun hc => by rw [bi, if_pos hc] at hh; omega
theorem bi_1 {c : Prop} [Decidable c] (hh : bi c ≠ 0) : c := by by_cases hc : c; exact hc; rw [bi, if_neg hc] at hh; omega
theorem bi_t {c : Prop} [Decidable c] (hc : c) : bi c = 1 := if_pos hc
theorem bi_f {c : Prop} [Decidable c] (hc : ¬ c) : bi c = 0 := if_neg hc
theorem x_if_eqb {cc : Prop} [Decidable cc] (hd : DecJ y pc (.ifCond .eq) pc2 tgt) (K1 : ¬ cc → WW d y zf Q z h tgt ls st) (K2 : cc → WW d y zf Q z h pc2 ls st) : WW d y zf Q z h pc ls (vi (bi cc) :: st) := x_if_eq hd (bi_B3 cc) (fun q => K1 (bi_0 q)) (fun q => K2 (bi_1 q))
theorem x_if_neb {cc : Prop} [Decidable cc] (hd : DecJ y pc (.ifCond .ne) pc2 tgt) (K1 : cc → WW d y zf Q z h tgt ls st) (K2 : ¬ cc → WW d y zf Q z h pc2 ls st) : WW d y zf Q z h pc ls (vi (bi cc) :: st) := x_if_ne hd (bi_B3 cc) (fun q => K1 (bi_1 q)) (fun q => K2 (bi_0 q))
theorem x_goto (hd : DecJ y pc .goto pc2 tgt) (K : WW d y zf Q z h tgt ls st) : WW d y zf Q z h pc ls st := by
  intro X l p e R s m args below meth c H locs cells slots mc ms L F hR hq hl e1 e2 e3 e4
  obtain ⟨off, hd, -, ht⟩ := hd
  exact lv_goto F.1.1 F.1.2.1 hd ht (K X l p e R s m args below meth c H locs cells slots mc ms L F hR hq hl e1 e2 e3 e4)
theorem x_tswOut {dflt lo hi : Int} {offs : Array Int} {len : Nat} {a : Int} (hd : Dec y pc (.tableswitch dflt lo hi offs) len pc2) (ha : B3 a) (hh : a < lo ∨ hi < a) (ht : (pc : Int) + dflt = (tgt : Int)) (K : WW d y zf Q z h tgt ls st) : WW d y zf Q z h pc ls (vi a :: st) := by
  intro X l p e R s m args below meth c H locs cells slots mc ms L F hR hq hl e1 e2 e3 e4
  exact lv_tableOut F.1.1 F.1.2.1 (x := ii a) hd.1 (by rw [toInt_ii ha]; exact hh) ht (K X l p e R s m args below meth c H locs cells slots mc ms L F hR hq hl e1 e2 e3 e4)
theorem x_tswIn {dflt lo hi : Int} {offs : Array Int} {len : Nat} {a off : Int} (hd : Dec y pc (.tableswitch dflt lo hi offs) len pc2) (ha : B3 a) (h1 : lo ≤ a) (h2 : a ≤ hi) (ho : offs[(a - lo).toNat]? = some off) (ht : (pc : Int) + off = (tgt : Int)) (K : WW d y zf Q z h tgt ls st) : WW d y zf Q z h pc ls (vi a :: st) := by
  intro X l p e R s m args below meth c H locs cells slots mc ms L F hR hq hl e1 e2 e3 e4
  exact lv_tableIn F.1.1 F.1.2.1 (x := ii a) hd.1 (by rw [toInt_ii ha]; omega) (by rw [toInt_ii ha]; omega) (by rw [toInt_ii ha]; exact ho) ht (K X l p e R s m args below meth c H locs cells slots mc ms L F hR hq hl e1 e2 e3 e4)
theorem x_lsw {dflt : Int} {ps : Array (Int × Int)} {len : Nat} {a off : Int} (hd : Dec y pc (.lookupswitch dflt ps) len pc2) (ha : B3 a) (hp : (ps.toList.zip (ps.toList.drop 1)).all (fun (a, next) => a.1 < next.1) = true) (ho : Op.lookupswitch.offset ps.toList dflt a = off) (ht : (pc : Int) + off = (tgt : Int)) (K : WW d y zf Q z h tgt ls st) : WW d y zf Q z h pc ls (vi a :: st) := by
  intro X l p e R s m args below meth c H locs cells slots mc ms L F hR hq hl e1 e2 e3 e4
  exact lv_lookup F.1.1 F.1.2.1 (x := ii a) hd.1 hp (by rw [toInt_ii ha]; exact ho) ht (K X l p e R s m args below meth c H locs cells slots mc ms L F hR hq hl e1 e2 e3 e4)
theorem WW.sub {ls' : List (Nat × Value)} (K : WW d y zf Q z h pc ls' st) (hh : ls'.map (fun q => lg ls q.1) = ls'.map (fun q => some q.2)) : WW d y zf Q z h pc ls st := by
  intro X l p e R s m args below meth c H locs cells slots mc ms L F hR hq hl e1 e2 e3 e4
  exact K X l p e R s m args below meth c H locs cells slots mc ms L F hR hq (lh_sub hl hh) e1 e2 e3 e4
/-! returns -/
theorem x_ireturn {v : Int} {ty : FieldType} (hd : Dec y pc .ireturn 1 pc2) (hr : y.2.2.2 = some ty) (hn : narrow ty (vi v) = vi v) (hz : z = zf) (hQ : Q (some (vi v)) h) : WW d y zf Q z h pc ls [vi v] := by
  intro X l p e R s m args below meth c H locs cells slots mc ms L F hR hq hl e1 e2 e3 e4
  subst hz
  obtain rfl : cells = mc := by omega
  obtain rfl : slots = ms := by omega
  have hlocks : meth.locks = false := F.2.2.1
  exact W.zret (v := ii v) F.1.1 F.1.2.1 (F.2.1.trans hr) hn (fun t ht hW => ⟨some (vi v), h, rfl, hQ, by rw [ht]; exact hR⟩) hq hd.1
theorem x_return (hd : Dec y pc .return_ 1 pc2) (hr : y.2.2.2 = none) (hz : z = zf) (hQ : Q none h) : WW d y zf Q z h pc ls [] := by
  intro X l p e R s m args below meth c H locs cells slots mc ms L F hR hq hl e1 e2 e3 e4
  subst hz
  obtain rfl : cells = mc := by omega
  obtain rfl : slots = ms := by omega
  have hlocks : meth.locks = false := F.2.2.1
  exact W.vret F.1.1 F.1.2.1 (F.2.1.trans hr) (fun t ht hW => ⟨none, h, rfl, hQ, by rw [ht]; exact hR⟩) hq hd.1
end XR
