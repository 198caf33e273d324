/-! the class's constructor -/
theorem WW.zz {d : Nat} {y : Mt} {zf : Nat × Nat} {Q : Option Value → Hp → Prop} {a b a' b' : Nat} {h : Hp} {pc : Nat} {ls : List (Nat × Value)} {st : List Value} (ha : a = a') (hb : b = b') (K : WW d y zf Q (a', b') h pc ls st) : WW d y zf Q (a, b) h pc ls st := by
  subst ha
  subst hb
  exact K
def txt (k : Nat) : Int → Int := fun j => if 0 ≤ j ∧ j < (k : Int) then sC j.toNat else 0
theorem sC_ok : ∀ j : Fin 33, iByte (iByte (sC j.val)) = sC j.val ∧ 0 ≤ sC j.val ∧ sC j.val ≤ 127 := by decide +kernel
theorem txt_1 {k : Nat} (hk : k < 33) : ups (txt k) (k : Int) (iByte (iByte (sC k))) = txt (k + 1) := by
  funext j
  rw [(sC_ok ⟨k, hk⟩).1]
  unfold ups txt
  by_cases e : j = (k : Int)
  · rw [if_pos e, e, if_pos (by omega), show ((k : Int)).toNat = k by omega]
  · rw [if_neg e]
    by_cases c : 0 ≤ j ∧ j < (k : Int)
    · rw [if_pos c, if_pos (by omega)]
    · rw [if_neg c, if_neg (by omega)]
theorem txt_rng (j : Int) : -128 ≤ txt 33 j ∧ txt 33 j ≤ 127 := by
  unfold txt
  split
  next c =>
    have w : iByte (iByte (sC j.toNat)) = sC j.toNat ∧ 0 ≤ sC j.toNat ∧ sC j.toNat ≤ 127 := sC_ok ⟨j.toNat, by omega⟩
    exact ⟨by omega, w.2.2⟩
  next => omega
theorem told_1 : prsR (txt 33) 33 33 (clr0 Z0) 0 (-4) tab1 := by
  refine Or.inr (Or.inl ⟨by decide, 3, [3], addP (clr0 Z0) 3, by decide +kernel, Or.inl ⟨by decide +kernel, 3, rfl, by decide +kernel, rfl⟩, ?_⟩)
  refine Or.inr (Or.inl ⟨by decide, 6, [5], addP (addP (clr0 Z0) 3) 5, by decide +kernel, Or.inl ⟨by decide +kernel, 5, rfl, by decide +kernel, rfl⟩, ?_⟩)
  refine Or.inr (Or.inl ⟨by decide, 9, [4], addG (addP (addP (clr0 Z0) 3) 5) 4, by decide +kernel, Or.inr (Or.inl ⟨by decide +kernel, 4, rfl, by decide +kernel, rfl⟩), ?_⟩)
  refine Or.inr (Or.inl ⟨by decide, 12, [6], addG (addG (addP (addP (clr0 Z0) 3) 5) 4) 6, by decide +kernel, Or.inr (Or.inl ⟨by decide +kernel, 6, rfl, by decide +kernel, rfl⟩), ?_⟩)
  refine Or.inr (Or.inl ⟨by decide, 23, [0, 10, 5, 99], addW (addG (addG (addP (addP (clr0 Z0) 3) 5) 4) 6) 0 10 5 99, by decide +kernel, Or.inr (Or.inr (Or.inl ⟨by decide +kernel, 0, 10, 5, 99, rfl, by decide +kernel, rfl⟩)), ?_⟩)
  refine Or.inr (Or.inl ⟨by decide, 33, [1, 20, 7, 0], tab1, by decide +kernel, Or.inr (Or.inr (Or.inl ⟨by decide +kernel, 1, 20, 7, 0, rfl, by decide +kernel, rfl⟩)), ?_⟩)
  exact Or.inl ⟨by decide, rfl, rfl⟩
section XK
variable {d zf : Nat} {Q : Option Value → Hp → Prop}
theorem i5_bef (hd : 3 ≤ d) {sf s : Nat} (hsf : 101 ≤ zf ∧ s + 256 ≤ sf) : ∀ (f k : Nat) (h : Hp), k + f = 8 → h 1 = some (ob 5 [.ref 2, vi 0, .ref 3, .ref 5, .ref 14, .ref 23, .ref 28, .ref 33, vi 0, .ref 34, vi 0, .ref 35, .ref 46]) → h 33 = some (ra 0 8 (fun j => if j < k then some (52 + 5 * j) else none)) → (∀ j : Nat, j < k → EvAt h (52 + 5 * j) Z0) → (∀ h' : Hp, h' 33 = some (ra 0 8 (fun j => if j < 8 then some (52 + 5 * j) else none)) → (∀ j : Nat, j < 8 → EvAt h' (52 + 5 * j) Z0) → (∀ q : Nat, (q < 33 ∨ 33 < q ∧ q < 52) → h' q = h q) → WW d m_5_init (zf, sf) Q (91, s + 256) h' 134 [(0, .ref 1)] []) → WW d m_5_init (zf, sf) Q (51 + 5 * k, s + 32 * k) h 109 [(0, .ref 1), (1, vi (k : Int))] [] := by
  intro f
  induction f with
  | zero =>
    intro k h hk ho ha hE K
    obtain rfl : k = 8 := by omega
    have K2 := K h ha hE (fun _ _ => rfl)
    refine x_iload_n D_5_init_109 rfl ?_
    refine x_bipush D_5_init_110 (by decide +kernel) ?_
    refine x_icmp_ge D_5_init_112 ⟨by omega, by omega⟩ ⟨by omega, by omega⟩ (fun c112 => ?_) (fun c112 => ?_)
    · exact K2.sub rfl
    exact absurd c112 (by omega)
  | succ f ih =>
    intro k h hk ho ha hE K
    refine x_iload_n D_5_init_109 rfl ?_
    refine x_bipush D_5_init_110 (by decide +kernel) ?_
    refine x_icmp_ge D_5_init_112 ⟨by omega, by omega⟩ ⟨by omega, by omega⟩ (fun c112 => ?_) (fun c112 => ?_)
    · exact absurd c112 (by omega)
    refine x_aload_n D_5_init_115 rfl ?_
    refine x_getfield D_5_init_116 f_5_40 (by assumption) rfl ?_
    refine x_iload_n D_5_init_119 rfl ?_
    refine x_new' (a1 := 52 + 5 * k) (b1 := s + 32 * k + 10) D_5_init_120 nl_5_30 (by omega) (by show _ = _ + 10; omega) (by constructor <;> (dsimp only; omega)) (fun h120 e120 n120 => ?_)
    refine x_dup D_5_init_123 rfl ?_
    refine x_invIN D_5_init_124 l_5_32 mi_0_init rfl (c_0_init (d := d - 1) (by omega) e120) (as := []) rfl (by omega) rfl (fun _ => by constructor <;> (dsimp only; omega)) rfl rfl (fun r h124 q124 => ?_)
    obtain ⟨rfl, c124, n124⟩ := q124
    dsimp only [pushR]
    have ho2 : h124 1 = _ := (n124 1 (by omega)).trans ((n120 1 (by omega)).trans ho)
    have ha2 : h124 33 = _ := (n124 33 (by omega)).trans ((n120 33 (by omega)).trans ha)
    refine x_aastore D_5_init_127 ha2 c124.1 (by omega) (by omega) rfl (fun h127 e127 n127 => ?_)
    refine x_iinc D_5_init_128 rfl rfl rfl rfl ?_
    refine x_goto D_5_init_131 ?_
    have hfr : ∀ q : Nat, (q < 33 ∨ 33 < q ∧ q < 52 + 5 * k) → h127 q = h q := fun q hq => (n127 q (by omega)).trans ((n124 q (by omega)).trans (n120 q (by omega)))
    have ea : h127 33 = some (ra 0 8 (fun j => if j < k + 1 then some (52 + 5 * j) else none)) := by
      rw [e127]
      congr 2
      funext j
      unfold upo
      rw [show ((k : Int)).toNat = k by omega]
      by_cases ej : j = k
      · rw [if_pos ej, if_pos (by omega), ej]
      · rw [if_neg ej]
        show (if j < k then some (52 + 5 * j) else none) = _
        by_cases lj : j < k
        · rw [if_pos lj, if_pos (by omega)]
        · rw [if_neg lj, if_neg (by omega)]
    refine WW.zz (a' := 51 + 5 * (k + 1)) (b' := s + 32 * (k + 1)) (by omega) (by omega) ?_
    refine (ih (k + 1) h127 (by omega) ((n127 1 (by omega)).trans ho2) ea (fun j hj => ?_) (fun h' a1 a2 a3 => K h' a1 a2 (fun q hq => (a3 q hq).trans (hfr q (by omega))))).sub rfl
    by_cases ej : j = k
    · rw [ej]
      exact c124.kept (fun q q1 q2 => n127 q (by omega))
    · exact (hE j (by omega)).kept (fun q q1 q2 => hfr q (by omega))
theorem i5_kep (hd : 3 ≤ d) {sf s : Nat} (hsf : 101 ≤ zf ∧ s + 64 ≤ sf) : ∀ (f k : Nat) (h : Hp), k + f = 2 → h 1 = some (ob 5 [.ref 2, vi 0, .ref 3, .ref 5, .ref 14, .ref 23, .ref 28, .ref 33, vi 0, .ref 34, vi 0, .ref 35, .ref 46]) → h 34 = some (ra 0 2 (fun j => if j < k then some (92 + 5 * j) else none)) → (∀ j : Nat, j < k → EvAt h (92 + 5 * j) Z0) → (∀ h' : Hp, h' 34 = some (ra 0 2 (fun j => if j < 2 then some (92 + 5 * j) else none)) → (∀ j : Nat, j < 2 → EvAt h' (92 + 5 * j) Z0) → (∀ q : Nat, (q < 34 ∨ 34 < q ∧ q < 92) → h' q = h q) → WW d m_5_init (zf, sf) Q (101, s + 64) h' 160 [(0, .ref 1)] []) → WW d m_5_init (zf, sf) Q (91 + 5 * k, s + 32 * k) h 136 [(0, .ref 1), (1, vi (k : Int))] [] := by
  intro f
  induction f with
  | zero =>
    intro k h hk ho ha hE K
    obtain rfl : k = 2 := by omega
    have K2 := K h ha hE (fun _ _ => rfl)
    refine x_iload_n D_5_init_136 rfl ?_
    refine x_iconst D_5_init_137 ?_
    refine x_icmp_ge D_5_init_138 ⟨by omega, by omega⟩ ⟨by omega, by omega⟩ (fun c138 => ?_) (fun c138 => ?_)
    · exact K2.sub rfl
    exact absurd c138 (by omega)
  | succ f ih =>
    intro k h hk ho ha hE K
    refine x_iload_n D_5_init_136 rfl ?_
    refine x_iconst D_5_init_137 ?_
    refine x_icmp_ge D_5_init_138 ⟨by omega, by omega⟩ ⟨by omega, by omega⟩ (fun c138 => ?_) (fun c138 => ?_)
    · exact absurd c138 (by omega)
    refine x_aload_n D_5_init_141 rfl ?_
    refine x_getfield D_5_init_142 f_5_44 (by assumption) rfl ?_
    refine x_iload_n D_5_init_145 rfl ?_
    refine x_new' (a1 := 92 + 5 * k) (b1 := s + 32 * k + 10) D_5_init_146 nl_5_30 (by omega) (by show _ = _ + 10; omega) (by constructor <;> (dsimp only; omega)) (fun h146 e146 n146 => ?_)
    refine x_dup D_5_init_149 rfl ?_
    refine x_invIN D_5_init_150 l_5_32 mi_0_init rfl (c_0_init (d := d - 1) (by omega) e146) (as := []) rfl (by omega) rfl (fun _ => by constructor <;> (dsimp only; omega)) rfl rfl (fun r h150 q150 => ?_)
    obtain ⟨rfl, c150, n150⟩ := q150
    dsimp only [pushR]
    have ho2 : h150 1 = _ := (n150 1 (by omega)).trans ((n146 1 (by omega)).trans ho)
    have ha2 : h150 34 = _ := (n150 34 (by omega)).trans ((n146 34 (by omega)).trans ha)
    refine x_aastore D_5_init_153 ha2 c150.1 (by omega) (by omega) rfl (fun h153 e153 n153 => ?_)
    refine x_iinc D_5_init_154 rfl rfl rfl rfl ?_
    refine x_goto D_5_init_157 ?_
    have hfr : ∀ q : Nat, (q < 34 ∨ 34 < q ∧ q < 92 + 5 * k) → h153 q = h q := fun q hq => (n153 q (by omega)).trans ((n150 q (by omega)).trans (n146 q (by omega)))
    have ea : h153 34 = some (ra 0 2 (fun j => if j < k + 1 then some (92 + 5 * j) else none)) := by
      rw [e153]
      congr 2
      funext j
      unfold upo
      rw [show ((k : Int)).toNat = k by omega]
      by_cases ej : j = k
      · rw [if_pos ej, if_pos (by omega), ej]
      · rw [if_neg ej]
        show (if j < k then some (92 + 5 * j) else none) = _
        by_cases lj : j < k
        · rw [if_pos lj, if_pos (by omega)]
        · rw [if_neg lj, if_neg (by omega)]
    refine WW.zz (a' := 91 + 5 * (k + 1)) (b' := s + 32 * (k + 1)) (by omega) (by omega) ?_
    refine (ih (k + 1) h153 (by omega) ((n153 1 (by omega)).trans ho2) ea (fun j hj => ?_) (fun h' a1 a2 a3 => K h' a1 a2 (fun q hq => (a3 q hq).trans (hfr q (by omega))))).sub rfl
    by_cases ej : j = k
    · rw [ej]
      exact c150.kept (fun q q1 q2 => n153 q (by omega))
    · exact (hE j (by omega)).kept (fun q q1 q2 => hfr q (by omega))
theorem i5_txt (hd : 4 ≤ d) {sf : Nat} {z : Nat × Nat} : ∀ (f k : Nat) (h : Hp), k + f = 33 → h 1 = some (ob 5 [.ref 2, vi 0, .ref 3, .ref 5, .ref 14, .ref 23, .ref 28, .ref 33, vi 0, .ref 34, vi 0, .ref 35, .ref 46]) → h 2 = some (ia 1 300 (txt k)) → (∀ h' : Hp, h' 2 = some (ia 1 300 (txt 33)) → (∀ q : Nat, q ≠ 2 → h' q = h q) → WW d m_5_init (zf, sf) Q z h' 199 [(0, .ref 1), (1, vi 33)] []) → WW d m_5_init (zf, sf) Q z h 168 [(0, .ref 1), (1, vi 33), (2, vi (k : Int))] [] := by
  intro f
  induction f with
  | zero =>
    intro k h hk ho ha K
    obtain rfl : k = 33 := by omega
    have K2 := K h ha (fun _ _ => rfl)
    refine x_iload_n D_5_init_168 rfl ?_
    refine x_iload_n D_5_init_169 rfl ?_
    refine x_icmp_ge D_5_init_170 ⟨by omega, by omega⟩ ⟨by omega, by omega⟩ (fun c170 => ?_) (fun c170 => ?_)
    · exact K2.sub rfl
    exact absurd c170 (by omega)
  | succ f ih =>
    intro k h hk ho ha K
    refine x_iload_n D_5_init_168 rfl ?_
    refine x_iload_n D_5_init_169 rfl ?_
    refine x_icmp_ge D_5_init_170 ⟨by omega, by omega⟩ ⟨by omega, by omega⟩ (fun c170 => ?_) (fun c170 => ?_)
    · exact absurd c170 (by omega)
    refine x_iload_n D_5_init_173 rfl ?_
    refine x_sipush D_5_init_174 (by decide +kernel) ?_
    refine x_icmp_ge D_5_init_177 ⟨by omega, by omega⟩ ⟨by omega, by omega⟩ (fun c177 => ?_) (fun c177 => ?_)
    · exact absurd c177 (by omega)
    refine x_aload_n D_5_init_180 rfl ?_
    refine x_getfield D_5_init_181 f_5_9 (by assumption) rfl ?_
    refine x_iload_n D_5_init_184 rfl ?_
    refine x_strAt (j := k) D_5_init_185 D_5_init_187 D_5_init_188 rfl rfl (by omega) (by omega) rfl ?_
    skip
    skip
    refine x_i2b D_5_init_191 ?_
    refine x_bastore D_5_init_192 (by assumption) (by omega) (by omega) rfl (fun h192 e192 n192 => ?_)
    refine x_iinc D_5_init_193 rfl rfl rfl rfl ?_
    refine x_goto D_5_init_196 ?_
    rw [txt_1 (by omega)] at e192
    exact (ih (k + 1) h192 (by omega) ((n192 1 (by omega)).trans ho) e192 (fun h' a1 a2 => K h' a1 (fun q hq => (a2 q hq).trans (n192 q hq)))).sub rfl
theorem c_5_init (hd : 6 ≤ d) {s : Nat} {h : Hp} (ho : h 1 = some (ob 5 [.null, vi 0, .null, .null, .null, .null, .null, .null, vi 0, .null, vi 0, .null, .null])) : Ct d m_5_init [.ref 1] (1, s) (101, s + 2932) h (fun r h' => r = none ∧ ∀ un ke : Nat → SS, CInv h' 0 0 (txt 33) tab1 (layS tab1) 0 un 0 ke) := by
  refine Ct.of (by decide) ⟨by show 1 ≤ 101; omega, by show s ≤ s + 2932; omega⟩ (by show 1 ≤ 3; omega) ?_
  show WW d m_5_init _ _ _ _ 0 [(0, .ref 1)] []
  refine x_aload_n D_5_init_0 rfl ?_
  refine x_obj D_5_init_1 ol_5 (by omega) rfl ?_
  refine x_aload_n D_5_init_4 rfl ?_
  refine x_sipush D_5_init_5 (by decide +kernel) ?_
  refine x_newB' (n := 300) (a1 := 2) (b1 := s + 300) D_5_init_8 rfl rfl (by omega) (by omega) (by constructor <;> (dsimp only; omega)) (fun h8 e8 n8 => ?_)
  replace ho := (n8 _ (by omega)).trans ho
  have k1 := e8
  refine x_putF (.array .byte) D_5_init_10 f_5_9 rfl ho (by decide +kernel) (fun _ => rfl) (fun _ => rfl) rfl (fun h10 e10 n10 => ?_)
  simp only [List.set_cons_zero, List.set_cons_succ] at e10
  replace ho := e10
  replace k1 := (n10 _ (by omega)).trans k1
  refine x_aload_n D_5_init_13 rfl ?_
  refine x_new' (a1 := 3) (b1 := s + 303) D_5_init_14 nl_5_13 (by omega) (by show _ = _ + 3; omega) (by constructor <;> (dsimp only; omega)) (fun h14 e14 n14 => ?_)
  replace ho := (n14 _ (by omega)).trans ho
  replace k1 := (n14 _ (by omega)).trans k1
  have kN := e14
  refine x_dup D_5_init_17 rfl ?_
  refine x_invIN D_5_init_18 l_5_15 mi_3_init rfl (c_3_init (d := d - 1) (by omega) kN) (as := []) rfl (by omega) rfl (fun _ => by constructor <;> (dsimp only; omega)) rfl rfl (fun r h18 q18 => ?_)
  obtain ⟨rfl, c18, n18⟩ := q18
  replace n18 := fun (q : Nat) (hq : q < 3) => n18 q hq
  replace ho := (n18 _ (by omega)).trans ho
  replace k1 := (n18 _ (by omega)).trans k1
  have kRd := c18
  dsimp only [pushR]
  show WW d m_5_init _ _ (4, s + 307) _ _ _ _
  refine x_putF (.object "WhileSaltMelts$Reader") D_5_init_21 f_5_16 rfl ho (by decide +kernel) (fun _ => rfl) (fun _ => rfl) rfl (fun h21 e21 n21 => ?_)
  simp only [List.set_cons_zero, List.set_cons_succ] at e21
  replace ho := e21
  replace k1 := (n21 _ (by omega)).trans k1
  replace kRd := And.intro ((n21 _ (by omega)).trans kRd.1) ((n21 _ (by omega)).trans kRd.2)
  refine x_aload_n D_5_init_24 rfl ?_
  refine x_new' (a1 := 5) (b1 := s + 320) D_5_init_25 nl_5_20 (by omega) (by show _ = _ + 13; omega) (by constructor <;> (dsimp only; omega)) (fun h25 e25 n25 => ?_)
  replace ho := (n25 _ (by omega)).trans ho
  replace k1 := (n25 _ (by omega)).trans k1
  replace kRd := And.intro ((n25 _ (by omega)).trans kRd.1) ((n25 _ (by omega)).trans kRd.2)
  have kN := e25
  refine x_dup D_5_init_28 rfl ?_
  refine x_invIN D_5_init_29 l_5_22 mi_4_init rfl (c_4_init (d := d - 1) (by omega) kN) (as := []) rfl (by omega) rfl (fun _ => by constructor <;> (dsimp only; omega)) rfl rfl (fun r h29 q29 => ?_)
  obtain ⟨rfl, c29, n29⟩ := q29
  replace n29 := fun (q : Nat) (hq : q < 5) => n29 q hq
  replace ho := (n29 _ (by omega)).trans ho
  replace k1 := (n29 _ (by omega)).trans k1
  replace kRd := And.intro ((n29 _ (by omega)).trans kRd.1) ((n29 _ (by omega)).trans kRd.2)
  have kT5 := c29
  dsimp only [pushR]
  show WW d m_5_init _ _ (13, s + 369) _ _ _ _
  refine x_put (.object "WhileSaltMelts$Table") D_5_init_32 f_5_23 ho (by decide +kernel) (fun _ => rfl) (fun _ => rfl) rfl (fun h32 e32 n32 => ?_)
  simp only [List.set_cons_zero, List.set_cons_succ] at e32
  replace ho := e32
  replace k1 := (n32 _ (by omega)).trans k1
  replace kRd := And.intro ((n32 _ (by omega)).trans kRd.1) ((n32 _ (by omega)).trans kRd.2)
  replace kT5 := kT5.kept (fun q q1 q2 => n32 q (by omega))
  refine x_aload_n D_5_init_35 rfl ?_
  refine x_new' (a1 := 14) (b1 := s + 382) D_5_init_36 nl_5_20 (by omega) (by show _ = _ + 13; omega) (by constructor <;> (dsimp only; omega)) (fun h36 e36 n36 => ?_)
  replace ho := (n36 _ (by omega)).trans ho
  replace k1 := (n36 _ (by omega)).trans k1
  replace kRd := And.intro ((n36 _ (by omega)).trans kRd.1) ((n36 _ (by omega)).trans kRd.2)
  replace kT5 := kT5.kept (fun q q1 q2 => n36 q (by omega))
  have kN := e36
  refine x_dup D_5_init_39 rfl ?_
  refine x_invIN D_5_init_40 l_5_22 mi_4_init rfl (c_4_init (d := d - 1) (by omega) kN) (as := []) rfl (by omega) rfl (fun _ => by constructor <;> (dsimp only; omega)) rfl rfl (fun r h40 q40 => ?_)
  obtain ⟨rfl, c40, n40⟩ := q40
  replace n40 := fun (q : Nat) (hq : q < 14) => n40 q hq
  replace ho := (n40 _ (by omega)).trans ho
  replace k1 := (n40 _ (by omega)).trans k1
  replace kRd := And.intro ((n40 _ (by omega)).trans kRd.1) ((n40 _ (by omega)).trans kRd.2)
  replace kT5 := kT5.kept (fun q q1 q2 => n40 q (by omega))
  have kT14 := c40
  dsimp only [pushR]
  show WW d m_5_init _ _ (22, s + 431) _ _ _ _
  refine x_put (.object "WhileSaltMelts$Table") D_5_init_43 f_5_27 ho (by decide +kernel) (fun _ => rfl) (fun _ => rfl) rfl (fun h43 e43 n43 => ?_)
  simp only [List.set_cons_zero, List.set_cons_succ] at e43
  replace ho := e43
  replace k1 := (n43 _ (by omega)).trans k1
  replace kRd := And.intro ((n43 _ (by omega)).trans kRd.1) ((n43 _ (by omega)).trans kRd.2)
  replace kT5 := kT5.kept (fun q q1 q2 => n43 q (by omega))
  replace kT14 := kT14.kept (fun q q1 q2 => n43 q (by omega))
  refine x_aload_n D_5_init_46 rfl ?_
  refine x_new' (a1 := 23) (b1 := s + 441) D_5_init_47 nl_5_30 (by omega) (by show _ = _ + 10; omega) (by constructor <;> (dsimp only; omega)) (fun h47 e47 n47 => ?_)
  replace ho := (n47 _ (by omega)).trans ho
  replace k1 := (n47 _ (by omega)).trans k1
  replace kRd := And.intro ((n47 _ (by omega)).trans kRd.1) ((n47 _ (by omega)).trans kRd.2)
  replace kT5 := kT5.kept (fun q q1 q2 => n47 q (by omega))
  replace kT14 := kT14.kept (fun q q1 q2 => n47 q (by omega))
  have kN := e47
  refine x_dup D_5_init_50 rfl ?_
  refine x_invIN D_5_init_51 l_5_32 mi_0_init rfl (c_0_init (d := d - 1) (by omega) kN) (as := []) rfl (by omega) rfl (fun _ => by constructor <;> (dsimp only; omega)) rfl rfl (fun r h51 q51 => ?_)
  obtain ⟨rfl, c51, n51⟩ := q51
  replace n51 := fun (q : Nat) (hq : q < 23) => n51 q hq
  replace ho := (n51 _ (by omega)).trans ho
  replace k1 := (n51 _ (by omega)).trans k1
  replace kRd := And.intro ((n51 _ (by omega)).trans kRd.1) ((n51 _ (by omega)).trans kRd.2)
  replace kT5 := kT5.kept (fun q q1 q2 => n51 q (by omega))
  replace kT14 := kT14.kept (fun q q1 q2 => n51 q (by omega))
  have kE23 := c51
  dsimp only [pushR]
  show WW d m_5_init _ _ (27, s + 463) _ _ _ _
  refine x_putF (.object "WhileSaltMelts$Evening") D_5_init_54 f_5_33 rfl ho (by decide +kernel) (fun _ => rfl) (fun _ => rfl) rfl (fun h54 e54 n54 => ?_)
  simp only [List.set_cons_zero, List.set_cons_succ] at e54
  replace ho := e54
  replace k1 := (n54 _ (by omega)).trans k1
  replace kRd := And.intro ((n54 _ (by omega)).trans kRd.1) ((n54 _ (by omega)).trans kRd.2)
  replace kT5 := kT5.kept (fun q q1 q2 => n54 q (by omega))
  replace kT14 := kT14.kept (fun q q1 q2 => n54 q (by omega))
  replace kE23 := kE23.kept (fun q q1 q2 => n54 q (by omega))
  refine x_aload_n D_5_init_57 rfl ?_
  refine x_new' (a1 := 28) (b1 := s + 473) D_5_init_58 nl_5_30 (by omega) (by show _ = _ + 10; omega) (by constructor <;> (dsimp only; omega)) (fun h58 e58 n58 => ?_)
  replace ho := (n58 _ (by omega)).trans ho
  replace k1 := (n58 _ (by omega)).trans k1
  replace kRd := And.intro ((n58 _ (by omega)).trans kRd.1) ((n58 _ (by omega)).trans kRd.2)
  replace kT5 := kT5.kept (fun q q1 q2 => n58 q (by omega))
  replace kT14 := kT14.kept (fun q q1 q2 => n58 q (by omega))
  replace kE23 := kE23.kept (fun q q1 q2 => n58 q (by omega))
  have kN := e58
  refine x_dup D_5_init_61 rfl ?_
  refine x_invIN D_5_init_62 l_5_32 mi_0_init rfl (c_0_init (d := d - 1) (by omega) kN) (as := []) rfl (by omega) rfl (fun _ => by constructor <;> (dsimp only; omega)) rfl rfl (fun r h62 q62 => ?_)
  obtain ⟨rfl, c62, n62⟩ := q62
  replace n62 := fun (q : Nat) (hq : q < 28) => n62 q hq
  replace ho := (n62 _ (by omega)).trans ho
  replace k1 := (n62 _ (by omega)).trans k1
  replace kRd := And.intro ((n62 _ (by omega)).trans kRd.1) ((n62 _ (by omega)).trans kRd.2)
  replace kT5 := kT5.kept (fun q q1 q2 => n62 q (by omega))
  replace kT14 := kT14.kept (fun q q1 q2 => n62 q (by omega))
  replace kE23 := kE23.kept (fun q q1 q2 => n62 q (by omega))
  have kE28 := c62
  dsimp only [pushR]
  show WW d m_5_init _ _ (32, s + 495) _ _ _ _
  refine x_putF (.object "WhileSaltMelts$Evening") D_5_init_65 f_5_37 rfl ho (by decide +kernel) (fun _ => rfl) (fun _ => rfl) rfl (fun h65 e65 n65 => ?_)
  simp only [List.set_cons_zero, List.set_cons_succ] at e65
  replace ho := e65
  replace k1 := (n65 _ (by omega)).trans k1
  replace kRd := And.intro ((n65 _ (by omega)).trans kRd.1) ((n65 _ (by omega)).trans kRd.2)
  replace kT5 := kT5.kept (fun q q1 q2 => n65 q (by omega))
  replace kT14 := kT14.kept (fun q q1 q2 => n65 q (by omega))
  replace kE23 := kE23.kept (fun q q1 q2 => n65 q (by omega))
  replace kE28 := kE28.kept (fun q q1 q2 => n65 q (by omega))
  refine x_aload_n D_5_init_68 rfl ?_
  refine x_bipush D_5_init_69 (by decide +kernel) ?_
  refine x_newE' (n := 8) (a1 := 33) (b1 := s + 503) D_5_init_71 w5_30 rfl rfl (by omega) (by omega) (by constructor <;> (dsimp only; omega)) (fun h71 e71 n71 => ?_)
  replace ho := (n71 _ (by omega)).trans ho
  replace k1 := (n71 _ (by omega)).trans k1
  replace kRd := And.intro ((n71 _ (by omega)).trans kRd.1) ((n71 _ (by omega)).trans kRd.2)
  replace kT5 := kT5.kept (fun q q1 q2 => n71 q (by omega))
  replace kT14 := kT14.kept (fun q q1 q2 => n71 q (by omega))
  replace kE23 := kE23.kept (fun q q1 q2 => n71 q (by omega))
  replace kE28 := kE28.kept (fun q q1 q2 => n71 q (by omega))
  have k32 := e71
  refine x_putF (.array (.object "WhileSaltMelts$Evening")) D_5_init_74 f_5_40 rfl ho (by decide +kernel) (fun _ => rfl) (fun _ => rfl) rfl (fun h74 e74 n74 => ?_)
  simp only [List.set_cons_zero, List.set_cons_succ] at e74
  replace ho := e74
  replace k1 := (n74 _ (by omega)).trans k1
  replace kRd := And.intro ((n74 _ (by omega)).trans kRd.1) ((n74 _ (by omega)).trans kRd.2)
  replace kT5 := kT5.kept (fun q q1 q2 => n74 q (by omega))
  replace kT14 := kT14.kept (fun q q1 q2 => n74 q (by omega))
  replace kE23 := kE23.kept (fun q q1 q2 => n74 q (by omega))
  replace kE28 := kE28.kept (fun q q1 q2 => n74 q (by omega))
  replace k32 := (n74 _ (by omega)).trans k32
  refine x_aload_n D_5_init_77 rfl ?_
  refine x_iconst D_5_init_78 ?_
  refine x_newE' (n := 2) (a1 := 34) (b1 := s + 505) D_5_init_79 w5_30 rfl rfl (by omega) (by omega) (by constructor <;> (dsimp only; omega)) (fun h79 e79 n79 => ?_)
  replace ho := (n79 _ (by omega)).trans ho
  replace k1 := (n79 _ (by omega)).trans k1
  replace kRd := And.intro ((n79 _ (by omega)).trans kRd.1) ((n79 _ (by omega)).trans kRd.2)
  replace kT5 := kT5.kept (fun q q1 q2 => n79 q (by omega))
  replace kT14 := kT14.kept (fun q q1 q2 => n79 q (by omega))
  replace kE23 := kE23.kept (fun q q1 q2 => n79 q (by omega))
  replace kE28 := kE28.kept (fun q q1 q2 => n79 q (by omega))
  replace k32 := (n79 _ (by omega)).trans k32
  have k33 := e79
  refine x_putF (.array (.object "WhileSaltMelts$Evening")) D_5_init_82 f_5_44 rfl ho (by decide +kernel) (fun _ => rfl) (fun _ => rfl) rfl (fun h82 e82 n82 => ?_)
  simp only [List.set_cons_zero, List.set_cons_succ] at e82
  replace ho := e82
  replace k1 := (n82 _ (by omega)).trans k1
  replace kRd := And.intro ((n82 _ (by omega)).trans kRd.1) ((n82 _ (by omega)).trans kRd.2)
  replace kT5 := kT5.kept (fun q q1 q2 => n82 q (by omega))
  replace kT14 := kT14.kept (fun q q1 q2 => n82 q (by omega))
  replace kE23 := kE23.kept (fun q q1 q2 => n82 q (by omega))
  replace kE28 := kE28.kept (fun q q1 q2 => n82 q (by omega))
  replace k32 := (n82 _ (by omega)).trans k32
  replace k33 := (n82 _ (by omega)).trans k33
  refine x_aload_n D_5_init_85 rfl ?_
  refine x_new' (a1 := 35) (b1 := s + 508) D_5_init_86 nl_5_47 (by omega) (by show _ = _ + 3; omega) (by constructor <;> (dsimp only; omega)) (fun h86 e86 n86 => ?_)
  replace ho := (n86 _ (by omega)).trans ho
  replace k1 := (n86 _ (by omega)).trans k1
  replace kRd := And.intro ((n86 _ (by omega)).trans kRd.1) ((n86 _ (by omega)).trans kRd.2)
  replace kT5 := kT5.kept (fun q q1 q2 => n86 q (by omega))
  replace kT14 := kT14.kept (fun q q1 q2 => n86 q (by omega))
  replace kE23 := kE23.kept (fun q q1 q2 => n86 q (by omega))
  replace kE28 := kE28.kept (fun q q1 q2 => n86 q (by omega))
  replace k32 := (n86 _ (by omega)).trans k32
  replace k33 := (n86 _ (by omega)).trans k33
  have kN := e86
  refine x_dup D_5_init_89 rfl ?_
  refine x_invIN D_5_init_90 l_5_49 mi_1_init rfl (c_1_init (d := d - 1) (by omega) kN) (as := []) rfl (by omega) rfl (fun _ => by constructor <;> (dsimp only; omega)) rfl rfl (fun r h90 q90 => ?_)
  obtain ⟨rfl, c90, n90⟩ := q90
  replace n90 := fun (q : Nat) (hq : q < 35) => n90 q hq
  replace ho := (n90 _ (by omega)).trans ho
  replace k1 := (n90 _ (by omega)).trans k1
  replace kRd := And.intro ((n90 _ (by omega)).trans kRd.1) ((n90 _ (by omega)).trans kRd.2)
  replace kT5 := kT5.kept (fun q q1 q2 => n90 q (by omega))
  replace kT14 := kT14.kept (fun q q1 q2 => n90 q (by omega))
  replace kE23 := kE23.kept (fun q q1 q2 => n90 q (by omega))
  replace kE28 := kE28.kept (fun q q1 q2 => n90 q (by omega))
  replace k32 := (n90 _ (by omega)).trans k32
  replace k33 := (n90 _ (by omega)).trans k33
  have kG := c90
  dsimp only [pushR]
  show WW d m_5_init _ _ (45, s + 2571) _ _ _ _
  refine x_putF (.object "WhileSaltMelts$Giving") D_5_init_93 f_5_50 rfl ho (by decide +kernel) (fun _ => rfl) (fun _ => rfl) rfl (fun h93 e93 n93 => ?_)
  simp only [List.set_cons_zero, List.set_cons_succ] at e93
  replace ho := e93
  replace k1 := (n93 _ (by omega)).trans k1
  replace kRd := And.intro ((n93 _ (by omega)).trans kRd.1) ((n93 _ (by omega)).trans kRd.2)
  replace kT5 := kT5.kept (fun q q1 q2 => n93 q (by omega))
  replace kT14 := kT14.kept (fun q q1 q2 => n93 q (by omega))
  replace kE23 := kE23.kept (fun q q1 q2 => n93 q (by omega))
  replace kE28 := kE28.kept (fun q q1 q2 => n93 q (by omega))
  replace k32 := (n93 _ (by omega)).trans k32
  replace k33 := (n93 _ (by omega)).trans k33
  replace kG := kG.kept (fun q q1 q2 => n93 q (by omega))
  refine x_aload_n D_5_init_96 rfl ?_
  refine x_new' (a1 := 46) (b1 := s + 2579) D_5_init_97 nl_5_54 (by omega) (by show _ = _ + 8; omega) (by constructor <;> (dsimp only; omega)) (fun h97 e97 n97 => ?_)
  replace ho := (n97 _ (by omega)).trans ho
  replace k1 := (n97 _ (by omega)).trans k1
  replace kRd := And.intro ((n97 _ (by omega)).trans kRd.1) ((n97 _ (by omega)).trans kRd.2)
  replace kT5 := kT5.kept (fun q q1 q2 => n97 q (by omega))
  replace kT14 := kT14.kept (fun q q1 q2 => n97 q (by omega))
  replace kE23 := kE23.kept (fun q q1 q2 => n97 q (by omega))
  replace kE28 := kE28.kept (fun q q1 q2 => n97 q (by omega))
  replace k32 := (n97 _ (by omega)).trans k32
  replace k33 := (n97 _ (by omega)).trans k33
  replace kG := kG.kept (fun q q1 q2 => n97 q (by omega))
  have kN := e97
  refine x_dup D_5_init_100 rfl ?_
  refine x_invIN D_5_init_101 l_5_56 mi_2_init rfl (c_2_init (d := d - 1) (by omega) kN) (as := []) rfl (by omega) rfl (fun _ => by constructor <;> (dsimp only; omega)) rfl rfl (fun r h101 q101 => ?_)
  obtain ⟨rfl, c101, n101⟩ := q101
  replace n101 := fun (q : Nat) (hq : q < 46) => n101 q hq
  replace ho := (n101 _ (by omega)).trans ho
  replace k1 := (n101 _ (by omega)).trans k1
  replace kRd := And.intro ((n101 _ (by omega)).trans kRd.1) ((n101 _ (by omega)).trans kRd.2)
  replace kT5 := kT5.kept (fun q q1 q2 => n101 q (by omega))
  replace kT14 := kT14.kept (fun q q1 q2 => n101 q (by omega))
  replace kE23 := kE23.kept (fun q q1 q2 => n101 q (by omega))
  replace kE28 := kE28.kept (fun q q1 q2 => n101 q (by omega))
  replace k32 := (n101 _ (by omega)).trans k32
  replace k33 := (n101 _ (by omega)).trans k33
  replace kG := kG.kept (fun q q1 q2 => n101 q (by omega))
  have kO := c101
  dsimp only [pushR]
  show WW d m_5_init _ _ (51, s + 2612) _ _ _ _
  refine x_putF (.object "WhileSaltMelts$Order") D_5_init_104 f_5_57 rfl ho (by decide +kernel) (fun _ => rfl) (fun _ => rfl) rfl (fun h104 e104 n104 => ?_)
  simp only [List.set_cons_zero, List.set_cons_succ] at e104
  replace ho := e104
  replace k1 := (n104 _ (by omega)).trans k1
  replace kRd := And.intro ((n104 _ (by omega)).trans kRd.1) ((n104 _ (by omega)).trans kRd.2)
  replace kT5 := kT5.kept (fun q q1 q2 => n104 q (by omega))
  replace kT14 := kT14.kept (fun q q1 q2 => n104 q (by omega))
  replace kE23 := kE23.kept (fun q q1 q2 => n104 q (by omega))
  replace kE28 := kE28.kept (fun q q1 q2 => n104 q (by omega))
  replace k32 := (n104 _ (by omega)).trans k32
  replace k33 := (n104 _ (by omega)).trans k33
  replace kG := kG.kept (fun q q1 q2 => n104 q (by omega))
  replace kO := kO.kept (fun q q1 q2 => n104 q (by omega))
  refine x_iconst D_5_init_107 ?_
  refine x_istore_n D_5_init_108 rfl rfl rfl ?_
  have hR3 : ∃ (l m : Int) (N : Int → Int), _ := ⟨0, 0, fun _ => 0, kRd⟩
  refine WW.zz (a' := 51 + 5 * 0) (b' := s + 2612 + 32 * 0) (by omega) (by omega) ?_
  refine (i5_bef (by omega) (by constructor <;> omega) 8 0 _ (by omega) ho (by rw [k32]; congr 2) (fun j hj => absurd hj (by omega)) (fun h1 b33 bE n1 => ?_)).sub rfl
  replace ho := (n1 1 (by omega)).trans ho
  replace k1 := (n1 2 (by omega)).trans k1
  replace kRd := And.intro ((n1 3 (by omega)).trans kRd.1) ((n1 4 (by omega)).trans kRd.2)
  replace kT5 := kT5.kept (fun q q1 q2 => n1 q (by omega))
  replace kT14 := kT14.kept (fun q q1 q2 => n1 q (by omega))
  replace kE23 := kE23.kept (fun q q1 q2 => n1 q (by omega))
  replace kE28 := kE28.kept (fun q q1 q2 => n1 q (by omega))
  replace k33 := (n1 34 (by omega)).trans k33
  replace kG := kG.kept (fun q q1 q2 => n1 q (by omega))
  replace kO := kO.kept (fun q q1 q2 => n1 q (by omega))
  refine x_iconst D_5_init_134 ?_
  refine x_istore_n D_5_init_135 rfl rfl rfl ?_
  refine WW.zz (a' := 91 + 5 * 0) (b' := s + 2868 + 32 * 0) (by omega) (by omega) ?_
  refine (i5_kep (by omega) (by constructor <;> omega) 2 0 _ (by omega) ho (by rw [k33]; congr 2) (fun j hj => absurd hj (by omega)) (fun h2 b34 bK n2 => ?_)).sub rfl
  replace ho := (n2 1 (by omega)).trans ho
  replace k1 := (n2 2 (by omega)).trans k1
  replace kRd := And.intro ((n2 3 (by omega)).trans kRd.1) ((n2 4 (by omega)).trans kRd.2)
  replace kT5 := kT5.kept (fun q q1 q2 => n2 q (by omega))
  replace kT14 := kT14.kept (fun q q1 q2 => n2 q (by omega))
  replace kE23 := kE23.kept (fun q q1 q2 => n2 q (by omega))
  replace kE28 := kE28.kept (fun q q1 q2 => n2 q (by omega))
  replace kG := kG.kept (fun q q1 q2 => n2 q (by omega))
  replace kO := kO.kept (fun q q1 q2 => n2 q (by omega))
  replace b33 := (n2 33 (by omega)).trans b33
  have bE2 : ∀ j : Nat, j < 8 → EvAt h2 (52 + 5 * j) Z0 := fun j hj => (bE j hj).kept (fun q q1 q2 => n2 q (by omega))
  refine x_strLen D_5_init_160 D_5_init_162 rfl (by omega) rfl ?_
  refine x_istore_n D_5_init_165 rfl rfl rfl ?_
  refine x_iconst D_5_init_166 ?_
  refine x_istore_n D_5_init_167 rfl rfl rfl ?_
  refine (i5_txt (by omega) 33 0 _ (by omega) ho (by rw [k1]; congr 2; funext j; exact (if_neg (by omega)).symm) (fun h3 b2 n3 => ?_)).sub rfl
  replace ho := (n3 1 (by omega)).trans ho
  replace kRd := And.intro ((n3 3 (by omega)).trans kRd.1) ((n3 4 (by omega)).trans kRd.2)
  replace kT5 := kT5.kept (fun q q1 q2 => n3 q (by omega))
  replace kT14 := kT14.kept (fun q q1 q2 => n3 q (by omega))
  replace kE23 := kE23.kept (fun q q1 q2 => n3 q (by omega))
  replace kE28 := kE28.kept (fun q q1 q2 => n3 q (by omega))
  replace kG := kG.kept (fun q q1 q2 => n3 q (by omega))
  replace kO := kO.kept (fun q q1 q2 => n3 q (by omega))
  replace b33 := (n3 33 (by omega)).trans b33
  replace b34 := (n3 34 (by omega)).trans b34
  have bE3 : ∀ j : Nat, j < 8 → EvAt h3 (52 + 5 * j) Z0 := fun j hj => (bE2 j hj).kept (fun q q1 q2 => n3 q (by omega))
  have bK3 : ∀ j : Nat, j < 2 → EvAt h3 (92 + 5 * j) Z0 := fun j hj => (bK j hj).kept (fun q q1 q2 => n3 q (by omega))
  obtain ⟨r0, r1⟩ := kRd
  refine x_aload_n D_5_init_199 rfl ?_
  refine x_getfield D_5_init_200 f_5_16 (by assumption) rfl ?_
  refine x_aload_n D_5_init_203 rfl ?_
  refine x_getfield D_5_init_204 f_5_9 (by assumption) rfl ?_
  refine x_iload_n D_5_init_207 rfl ?_
  refine x_aload_n D_5_init_208 rfl ?_
  refine x_getfield D_5_init_209 f_5_23 (by assumption) rfl ?_
  refine x_invV (d' := d - 1) D_5_init_212 l_5_73 mi_3_readTable (c_3_readTable (by omega) r0 r1 b2 kT5 (by omega) (by omega) (by omega) (by omega) txt_rng) (r0) rfl rfl (by omega) rfl (fun q => q) rfl rfl (fun r212 h212 q212 => ?_)
  obtain ⟨f, T', lt, m, N, rfl, hp, hT', r0, r1, n4⟩ := q212
  obtain ⟨-, rfl⟩ := prsR_fun _ _ _ _ _ _ _ hp told_1
  have ho := (n4 1 (by omega) (by omega)).trans ho
  have kE23 := kE23.kept (fun q q1 q2 => n4 q (by omega) (by omega))
  refine x_pop D_5_init_215 rfl ?_
  refine x_aload_n D_5_init_216 rfl ?_
  refine x_getfield D_5_init_217 f_5_33 (by assumption) rfl ?_
  refine x_aload_n D_5_init_220 rfl ?_
  refine x_getfield D_5_init_221 f_5_23 (by assumption) rfl ?_
  refine x_invV (d' := d - 1) D_5_init_224 l_5_77 mi_0_begin (c_0_begin (by omega) kE23 hT' (by omega)) (kE23.1) rfl rfl (by omega) rfl (fun q => q) rfl rfl (fun r224 h224 q224 => ?_)
  obtain ⟨rfl, hE, n5⟩ := q224
  refine x_return D_5_init_227 rfl rfl ?_
  have n6 : ∀ q : Nat, (q < 3 ∨ 4 < q ∧ q < 5 ∨ 13 < q ∧ q < 23 ∨ 27 < q) → h224 q = h3 q := fun q hq => (n5 q (by omega)).trans (n4 q (by omega) (by omega))
  obtain ⟨l1, l2⟩ := lay_ok ok_1 (b := 0) (Int.le_refl 0)
  refine ⟨rfl, fun un ke => ⟨5, 14, _, fun k => 52 + 5 * k, fun _ => Z0, fun _ => Z0, ⟨(n5 1 (by omega)).trans ho, Or.inl ⟨rfl, rfl⟩, (n6 2 (by omega)).trans b2, hT'.kept (fun q q1 q2 => n5 q (by omega)), ⟨(n6 33 (by omega)).trans b33, fun k hk => by (show 52 ≤ 52 + 5 * k ∧ 52 + 5 * k ≤ 87; omega), fun j k hj hk hjk => by (show 52 + 5 * j + 5 ≤ 52 + 5 * k ∨ 52 + 5 * k + 5 ≤ 52 + 5 * j; omega), fun k hk => (bE3 k hk).kept (fun q q1 q2 => n6 q (by omega))⟩, ⟨(n6 34 (by omega)).trans b34, fun k hk => (bK3 k hk).kept (fun q q1 q2 => n6 q (by omega))⟩, ⟨_, _, _, (n5 3 (by omega)).trans r0, (n5 4 (by omega)).trans r1⟩, ⟨_, kT14.kept (fun q q1 q2 => n6 q (by omega))⟩, ⟨_, kE28.kept (fun q q1 q2 => n6 q (by omega))⟩, ⟨_, _, kG.kept (fun q q1 q2 => n6 q (by omega))⟩, ⟨_, _, _, _, _, _, kO.kept (fun q q1 q2 => n6 q (by omega))⟩⟩, hE, ⟨ok_1, by decide +kernel, by decide +kernel⟩, by omega, txt_rng, by omega, ⟨l1, l2⟩, fun j hj => absurd hj (by omega), fun j hj => absurd hj (by omega)⟩⟩
end XK
