/-! the class's picture, against a state: st by the reference's numbers: 0 second 1 whose grain 2 till 3 shaker 4 said 5 eaten 6.. listens till 11.. dry 16.. ended -/
abbrev SS : Type := Int → Int
/-- how many seconds i has said -/
def shS (T : TT) (sd i : Int) : Nat → Int
  | 0 => 0
  | s + 1 => shS T sd i s + (if hasB sd (s : Int) ∧ T 5 (s : Int) = i then T 6 (s : Int) else 0)
def StOk (T : TT) (st : SS) (b : Int) : Prop := (0 ≤ st 0 ∧ st 0 ≤ b) ∧ (st 1 = -4 ∧ st 2 = 0 ∨ 0 ≤ st 1 ∧ st 1 < T 0 0) ∧ (0 ≤ st 2 ∧ st 2 ≤ b) ∧ (∃ k : Nat, k < 2 ^ nGr T ∧ st 3 = (k : Int)) ∧ (∃ k : Nat, k < 2 ^ nSa T ∧ st 4 = (k : Int)) ∧ (∃ k : Nat, k < 16 ∧ st 5 = (k : Int)) ∧
  (∀ i : Int, 0 ≤ i → i < T 0 0 → (0 ≤ st (6 + i) ∧ st (6 + i) ≤ b) ∧ 1 ≤ st (11 + i) ∧ st (11 + i) ≤ 9) ∧ (∀ s : Int, 0 ≤ s → s < T 4 0 → (hasB (st 4) s ∧ 0 ≤ st (16 + s) ∧ st (16 + s) ≤ b) ∨ (¬ hasB (st 4) s ∧ st (16 + s) = -4))
def ERel (T E : TT) (st : SS) : Prop := E 0 0 = st 0 ∧ E 1 0 = st 3 ∧ E 2 0 = st 4 ∧ E 3 0 = st 5 ∧ E 5 0 = st 2 ∧ (st 1 = -4 ∧ E 4 0 = 0 ∨ 0 ≤ st 1 ∧ E 4 0 = st 1) ∧ (∀ i : Int, 0 ≤ i → i < T 0 0 → E 6 i = st (11 + i) ∧ E 8 i = st (6 + i) ∧ E 7 i = shS T (st 4) i (nSa T)) ∧ ∀ s : Int, 0 ≤ s → s < T 4 0 → hasB (st 4) s → E 9 s = st (16 + s)
theorem StOk.mono {T : TT} {st : SS} {b b2 : Int} (h : StOk T st b) (hb : b ≤ b2) : StOk T st b2 := by
  obtain ⟨h1, h2, h3, h4, h5, h6, h7, h8⟩ := h
  refine ⟨⟨h1.1, by omega⟩, h2, ⟨h3.1, by omega⟩, h4, h5, h6, fun i i0 i1 => ?_, fun s s0 s1 => ?_⟩
  · have := h7 i i0 i1
    exact ⟨⟨this.1.1, by omega⟩, this.2⟩
  · rcases h8 s s0 s1 with w | w
    · exact Or.inl ⟨w.1, w.2.1, by omega⟩
    · exact Or.inr w
def Mn (h : Hp) (len : Int) (lt dt : Nat) (u kc : Int) : Prop := h 1 = some (ob 5 [.ref 2, vi len, .ref 3, .ref lt, .ref dt, .ref 23, .ref 28, .ref 33, vi u, .ref 34, vi kc, .ref 35, .ref 46])
abbrev Ids (lt dt : Nat) : Prop := (lt = 5 ∧ dt = 14) ∨ (lt = 14 ∧ dt = 5)
def Bf (h : Hp) (bf : Nat → Nat) (B : Nat → TT) : Prop := h 33 = some (ra 0 8 (fun k => if k < 8 then some (bf k) else none)) ∧ (∀ k : Nat, k < 8 → 52 ≤ bf k ∧ bf k ≤ 87) ∧ (∀ j k : Nat, j < 8 → k < 8 → j ≠ k → bf j + 5 ≤ bf k ∨ bf k + 5 ≤ bf j) ∧ ∀ k : Nat, k < 8 → EvAt h (bf k) (B k)
def Kp (h : Hp) (K : Nat → TT) : Prop := h 34 = some (ra 0 2 (fun k => if k < 2 then some (92 + 5 * k) else none)) ∧ ∀ k : Nat, k < 2 → EvAt h (92 + 5 * k) (K k)
def Rdr (h : Hp) : Prop := ∃ (l m : Int) (N : Int → Int), h 3 = some (ob 3 [vi l, .ref 4, vi m]) ∧ h 4 = some (ia 0 4 N)
def Scr (h : Hp) (dt : Nat) : Prop := Rdr h ∧ (∃ T2 : TT, TabAt h dt T2) ∧ (∃ E2 : TT, EvAt h 28 E2) ∧ (∃ (gv : Int) (Go : Int → Int), GvAt h 35 gv Go) ∧ ∃ (m S gv : Int) (Fi Me En : Int → Int), OrAt h 46 m S gv Fi Me En
theorem Bf.kept {h h1 : Hp} {bf : Nat → Nat} {B : Nat → TT} (H : Bf h bf B) (hk : ∀ q : Nat, (q = 33 ∨ 52 ≤ q ∧ q ≤ 91) → h1 q = h q) : Bf h1 bf B := by
  obtain ⟨a, b, c, e⟩ := H
  exact ⟨(hk _ (by omega)).trans a, b, c, fun k hk2 => (e k hk2).kept (fun q q1 q2 => hk q (by have := b k hk2; omega))⟩
theorem Kp.kept {h h1 : Hp} {K : Nat → TT} (H : Kp h K) (hk : ∀ q : Nat, (q = 34 ∨ 92 ≤ q ∧ q ≤ 101) → h1 q = h q) : Kp h1 K := by
  obtain ⟨a, e⟩ := H
  exact ⟨(hk _ (by omega)).trans a, fun k hk2 => (e k hk2).kept (fun q q1 q2 => hk q (by omega))⟩
theorem Rdr.kept {h h1 : Hp} (H : Rdr h) (hk : ∀ q : Nat, (q = 3 ∨ q = 4) → h1 q = h q) : Rdr h1 := by
  obtain ⟨l, m, N, a, b⟩ := H
  exact ⟨l, m, N, (hk _ (by omega)).trans a, (hk _ (by omega)).trans b⟩
theorem Scr.kept {h h1 : Hp} {dt : Nat} (H : Scr h dt) (hk : ∀ q : Nat, (q = 3 ∨ q = 4 ∨ dt ≤ q ∧ q ≤ dt + 8 ∨ 28 ≤ q ∧ q ≤ 32 ∨ 35 ≤ q ∧ q ≤ 51) → h1 q = h q) : Scr h1 dt := by
  obtain ⟨a, ⟨T2, b⟩, ⟨E2, c⟩, ⟨gv, Go, e⟩, ⟨m, S, g2, Fi, Me, En, f⟩⟩ := H
  exact ⟨a.kept (fun q hq => hk q (by omega)), ⟨T2, b.kept (fun q q1 q2 => hk q (by omega))⟩, ⟨E2, c.kept (fun q q1 q2 => hk q (by omega))⟩, ⟨gv, Go, e.kept (fun q q1 q2 => hk q (by omega))⟩, ⟨m, S, g2, Fi, Me, En, f.kept (fun q q1 q2 => hk q (by omega))⟩⟩
/-- what is remembered: k of them are as un says -/
abbrev Rem (T : TT) (b : Int) (k : Nat) (B : Nat → TT) (un : Nat → SS) : Prop := ∀ j : Nat, j < k → StOk T (un j) b ∧ ERel T (B j) (un j)
def Parts (h : Hp) (len : Int) (Bt : Int → Int) (lt dt : Nat) (T : TT) (u kc : Int) (bf : Nat → Nat) (B K : Nat → TT) : Prop := Mn h len lt dt u kc ∧ Ids lt dt ∧ h 2 = some (ia 1 300 Bt) ∧ TabAt h lt T ∧ Bf h bf B ∧ Kp h K ∧ Scr h dt
theorem Parts.now {h h1 : Hp} {len : Int} {Bt : Int → Int} {lt dt : Nat} {T : TT} {u kc : Int} {bf : Nat → Nat} {B K : Nat → TT} (H : Parts h len Bt lt dt T u kc bf B K) (hk : ∀ q : Nat, (q < 23 ∨ 27 < q) → h1 q = h q) : Parts h1 len Bt lt dt T u kc bf B K := by
  obtain ⟨a1, a2, a3, a4, a5, a6, a7⟩ := H
  unfold Ids at a2
  exact ⟨(hk 1 (by omega)).trans a1, a2, (hk 2 (by omega)).trans a3, a4.kept (fun q q1 q2 => hk q (by omega)), a5.kept (fun q hq => hk q (by omega)), a6.kept (fun q hq => hk q (by omega)), a7.kept (fun q hq => hk q (by omega))⟩
def CInv (h : Hp) (b len : Int) (Bt : Int → Int) (T : TT) (st : SS) (u : Nat) (un : Nat → SS) (kc : Nat) (ke : Nat → SS) : Prop :=
  ∃ (lt dt : Nat) (E : TT) (bf : Nat → Nat) (B K : Nat → TT), Parts h len Bt lt dt T u kc bf B K ∧ EvAt h 23 E ∧
    (TabOk T ∧ 1 ≤ T 0 0 ∧ 1 ≤ T 2 0) ∧ (0 ≤ len ∧ len ≤ 300) ∧ (∀ j : Int, -128 ≤ Bt j ∧ Bt j ≤ 127) ∧ (u ≤ 8 ∧ kc ≤ 2 ∧ 0 ≤ b ∧ b ≤ 1000000) ∧ (StOk T st b ∧ ERel T E st) ∧ Rem T b u B un ∧ Rem T b kc K ke
/-- a public method's end: its answer, and the picture of the state behind -/
abbrev CQ (v : Int) (h0 : Hp) (b len : Int) (Bt : Int → Int) (T : TT) (st : SS) (u : Nat) (un : Nat → SS) (kc : Nat) (ke : Nat → SS) : Option Value → Hp → Prop := fun r h' => r = some (vi v) ∧ CInv h' b len Bt T st u un kc ke ∧ ∀ q : Nat, (q = 0 ∨ 101 < q) → h' q = h0 q
theorem CQ.same {v b b2 len : Int} {h : Hp} {Bt : Int → Int} {T : TT} {st : SS} {u : Nat} {un : Nat → SS} {kc : Nat} {ke : Nat → SS} (hI : CInv h b len Bt T st u un kc ke) (hb : b ≤ b2) (hb2 : b2 ≤ 1000000) : CQ v h b2 len Bt T st u un kc ke (some (vi v)) h := by
  refine ⟨rfl, ?_, fun q _ => rfl⟩
  obtain ⟨lt, dt, E, bf, B, K, a1, a2, a9, a10, a11, a12, a13, a14, a15⟩ := hI
  exact ⟨lt, dt, E, bf, B, K, a1, a2, a9, a10, a11, ⟨a12.1, a12.2.1, by omega, hb2⟩, ⟨a13.1.mono hb, a13.2⟩, fun j hj => ⟨(a14 j hj).1.mono hb, (a14 j hj).2⟩, fun j hj => ⟨(a15 j hj).1.mono hb, (a15 j hj).2⟩⟩
theorem CQ.eq {v w b b2 len : Int} {h : Hp} {Bt : Int → Int} {T : TT} {st : SS} {u : Nat} {un : Nat → SS} {kc : Nat} {ke : Nat → SS} (hI : CInv h b len Bt T st u un kc ke) (hb : b ≤ b2) (hb2 : b2 ≤ 1000000) (e : v = w) : CQ w h b2 len Bt T st u un kc ke (some (vi v)) h := by
  subst e
  exact CQ.same hI hb hb2
theorem c_5_isPerson {d : Nat} (hd : 0 ≤ d) {z : Nat × Nat} {h : Hp} {len u kc i : Int} {lt dt : Nat} {T : TT} (hM : Mn h len lt dt u kc) (hT : TabAt h lt T) (hk : TabOk T) (hi : B3 i) : Ct d m_5_isPerson [.ref 1, vi i] z z h (Pu (bi (0 ≤ i ∧ i < T 0 0)) h) := by
  refine Ct.of (by decide) ⟨Nat.le_refl _, Nat.le_refl _⟩ (Nat.le_of_ble_eq_true rfl) ?_
  unfold Mn at hM
  obtain ⟨b0, -⟩ := hT
  have k0 := hk.1
  refine x_iload_n D_5_isPerson_0 rfl ?_
  refine x_if_lt D_5_isPerson_1 hi (fun c1 => ?_) (fun c1 => ?_)
  · refine x_iconst D_5_isPerson_24 ?_
    refine x_ireturn D_5_isPerson_25 rfl (by first | rfl | exact nb_bi _ | decide +kernel) rfl ?_
    first | exact Pu.t (by omega) | exact Pu.f (by omega)
  refine x_iload_n D_5_isPerson_4 rfl ?_
  refine x_aload_n D_5_isPerson_5 rfl ?_
  refine x_getfield D_5_isPerson_6 f_5_23 (by assumption) rfl ?_
  refine x_getfield D_5_isPerson_9 f_5_85 (by assumption) rfl ?_
  refine x_icmp_ge D_5_isPerson_12 ⟨by omega, by omega⟩ ⟨by omega, by omega⟩ (fun c12 => ?_) (fun c12 => ?_)
  · refine x_iconst D_5_isPerson_24 ?_
    refine x_ireturn D_5_isPerson_25 rfl (by first | rfl | exact nb_bi _ | decide +kernel) rfl ?_
    first | exact Pu.t (by omega) | exact Pu.f (by omega)
  refine x_iload_n D_5_isPerson_15 rfl ?_
  refine x_iconst D_5_isPerson_16 ?_
  refine x_icmp_ge D_5_isPerson_17 ⟨by omega, by omega⟩ ⟨by omega, by omega⟩ (fun c17 => ?_) (fun c17 => ?_)
  · refine x_iconst D_5_isPerson_24 ?_
    refine x_ireturn D_5_isPerson_25 rfl (by first | rfl | exact nb_bi _ | decide +kernel) rfl ?_
    first | exact Pu.t (by omega) | exact Pu.f (by omega)
  refine x_iconst D_5_isPerson_20 ?_
  refine x_goto D_5_isPerson_21 ?_
  refine x_ireturn D_5_isPerson_25 rfl (by first | rfl | exact nb_bi _ | decide +kernel) rfl ?_
  first | exact Pu.t (by omega) | exact Pu.f (by omega)
theorem c_5_isGrain {d : Nat} (hd : 0 ≤ d) {z : Nat × Nat} {h : Hp} {len u kc i : Int} {lt dt : Nat} {T : TT} (hM : Mn h len lt dt u kc) (hT : TabAt h lt T) (hk : TabOk T) (hi : B3 i) : Ct d m_5_isGrain [.ref 1, vi i] z z h (Pu (bi (0 ≤ i ∧ i < T 2 0)) h) := by
  refine Ct.of (by decide) ⟨Nat.le_refl _, Nat.le_refl _⟩ (Nat.le_of_ble_eq_true rfl) ?_
  unfold Mn at hM
  obtain ⟨b0, -⟩ := hT
  have k0 := hk.2.1
  refine x_iload_n D_5_isGrain_0 rfl ?_
  refine x_if_lt D_5_isGrain_1 hi (fun c1 => ?_) (fun c1 => ?_)
  · refine x_iconst D_5_isGrain_25 ?_
    refine x_ireturn D_5_isGrain_26 rfl (by first | rfl | exact nb_bi _ | decide +kernel) rfl ?_
    first | exact Pu.t (by omega) | exact Pu.f (by omega)
  refine x_iload_n D_5_isGrain_4 rfl ?_
  refine x_aload_n D_5_isGrain_5 rfl ?_
  refine x_getfield D_5_isGrain_6 f_5_23 (by assumption) rfl ?_
  refine x_getfield D_5_isGrain_9 f_5_88 (by assumption) rfl ?_
  refine x_icmp_ge D_5_isGrain_12 ⟨by omega, by omega⟩ ⟨by omega, by omega⟩ (fun c12 => ?_) (fun c12 => ?_)
  · refine x_iconst D_5_isGrain_25 ?_
    refine x_ireturn D_5_isGrain_26 rfl (by first | rfl | exact nb_bi _ | decide +kernel) rfl ?_
    first | exact Pu.t (by omega) | exact Pu.f (by omega)
  refine x_iload_n D_5_isGrain_15 rfl ?_
  refine x_bipush D_5_isGrain_16 (by decide +kernel) ?_
  refine x_icmp_ge D_5_isGrain_18 ⟨by omega, by omega⟩ ⟨by omega, by omega⟩ (fun c18 => ?_) (fun c18 => ?_)
  · refine x_iconst D_5_isGrain_25 ?_
    refine x_ireturn D_5_isGrain_26 rfl (by first | rfl | exact nb_bi _ | decide +kernel) rfl ?_
    first | exact Pu.t (by omega) | exact Pu.f (by omega)
  refine x_iconst D_5_isGrain_21 ?_
  refine x_goto D_5_isGrain_22 ?_
  refine x_ireturn D_5_isGrain_26 rfl (by first | rfl | exact nb_bi _ | decide +kernel) rfl ?_
  first | exact Pu.t (by omega) | exact Pu.f (by omega)
theorem c_5_isSaying {d : Nat} (hd : 0 ≤ d) {z : Nat × Nat} {h : Hp} {len u kc i : Int} {lt dt : Nat} {T : TT} (hM : Mn h len lt dt u kc) (hT : TabAt h lt T) (hk : TabOk T) (hi : B3 i) : Ct d m_5_isSaying [.ref 1, vi i] z z h (Pu (bi (0 ≤ i ∧ i < T 4 0)) h) := by
  refine Ct.of (by decide) ⟨Nat.le_refl _, Nat.le_refl _⟩ (Nat.le_of_ble_eq_true rfl) ?_
  unfold Mn at hM
  obtain ⟨b0, -⟩ := hT
  have k0 := hk.2.2.1
  refine x_iload_n D_5_isSaying_0 rfl ?_
  refine x_if_lt D_5_isSaying_1 hi (fun c1 => ?_) (fun c1 => ?_)
  · refine x_iconst D_5_isSaying_25 ?_
    refine x_ireturn D_5_isSaying_26 rfl (by first | rfl | exact nb_bi _ | decide +kernel) rfl ?_
    first | exact Pu.t (by omega) | exact Pu.f (by omega)
  refine x_iload_n D_5_isSaying_4 rfl ?_
  refine x_aload_n D_5_isSaying_5 rfl ?_
  refine x_getfield D_5_isSaying_6 f_5_23 (by assumption) rfl ?_
  refine x_getfield D_5_isSaying_9 f_5_233 (by assumption) rfl ?_
  refine x_icmp_ge D_5_isSaying_12 ⟨by omega, by omega⟩ ⟨by omega, by omega⟩ (fun c12 => ?_) (fun c12 => ?_)
  · refine x_iconst D_5_isSaying_25 ?_
    refine x_ireturn D_5_isSaying_26 rfl (by first | rfl | exact nb_bi _ | decide +kernel) rfl ?_
    first | exact Pu.t (by omega) | exact Pu.f (by omega)
  refine x_iload_n D_5_isSaying_15 rfl ?_
  refine x_bipush D_5_isSaying_16 (by decide +kernel) ?_
  refine x_icmp_ge D_5_isSaying_18 ⟨by omega, by omega⟩ ⟨by omega, by omega⟩ (fun c18 => ?_) (fun c18 => ?_)
  · refine x_iconst D_5_isSaying_25 ?_
    refine x_ireturn D_5_isSaying_26 rfl (by first | rfl | exact nb_bi _ | decide +kernel) rfl ?_
    first | exact Pu.t (by omega) | exact Pu.f (by omega)
  refine x_iconst D_5_isSaying_21 ?_
  refine x_goto D_5_isSaying_22 ?_
  refine x_ireturn D_5_isSaying_26 rfl (by first | rfl | exact nb_bi _ | decide +kernel) rfl ?_
  first | exact Pu.t (by omega) | exact Pu.f (by omega)
theorem c_5_isDish {d : Nat} (hd : 0 ≤ d) {z : Nat × Nat} {h : Hp} {len u kc i : Int} {lt dt : Nat} {T : TT} (hM : Mn h len lt dt u kc) (hT : TabAt h lt T) (hk : TabOk T) (hi : B3 i) : Ct d m_5_isDish [.ref 1, vi i] z z h (Pu (bi (0 ≤ i ∧ i < T 9 0)) h) := by
  refine Ct.of (by decide) ⟨Nat.le_refl _, Nat.le_refl _⟩ (Nat.le_of_ble_eq_true rfl) ?_
  unfold Mn at hM
  obtain ⟨b0, -⟩ := hT
  have k0 := hk.2.2.2.1
  refine x_iload_n D_5_isDish_0 rfl ?_
  refine x_if_lt D_5_isDish_1 hi (fun c1 => ?_) (fun c1 => ?_)
  · refine x_iconst D_5_isDish_24 ?_
    refine x_ireturn D_5_isDish_25 rfl (by first | rfl | exact nb_bi _ | decide +kernel) rfl ?_
    first | exact Pu.t (by omega) | exact Pu.f (by omega)
  refine x_iload_n D_5_isDish_4 rfl ?_
  refine x_aload_n D_5_isDish_5 rfl ?_
  refine x_getfield D_5_isDish_6 f_5_23 (by assumption) rfl ?_
  refine x_getfield D_5_isDish_9 f_5_216 (by assumption) rfl ?_
  refine x_icmp_ge D_5_isDish_12 ⟨by omega, by omega⟩ ⟨by omega, by omega⟩ (fun c12 => ?_) (fun c12 => ?_)
  · refine x_iconst D_5_isDish_24 ?_
    refine x_ireturn D_5_isDish_25 rfl (by first | rfl | exact nb_bi _ | decide +kernel) rfl ?_
    first | exact Pu.t (by omega) | exact Pu.f (by omega)
  refine x_iload_n D_5_isDish_15 rfl ?_
  refine x_iconst D_5_isDish_16 ?_
  refine x_icmp_ge D_5_isDish_17 ⟨by omega, by omega⟩ ⟨by omega, by omega⟩ (fun c17 => ?_) (fun c17 => ?_)
  · refine x_iconst D_5_isDish_24 ?_
    refine x_ireturn D_5_isDish_25 rfl (by first | rfl | exact nb_bi _ | decide +kernel) rfl ?_
    first | exact Pu.t (by omega) | exact Pu.f (by omega)
  refine x_iconst D_5_isDish_20 ?_
  refine x_goto D_5_isDish_21 ?_
  refine x_ireturn D_5_isDish_25 rfl (by first | rfl | exact nb_bi _ | decide +kernel) rfl ?_
  first | exact Pu.t (by omega) | exact Pu.f (by omega)
/-- may the answer begin now -/
abbrev ansNow (T : TT) (st : SS) (a : Int) : Prop := a = -4 ∨ hasB (st 4) a ∧ st 0 - st (16 + a) ≤ T 12 0
theorem c_5_mayAnswerNow {d : Nat} (hd : 1 ≤ d) {z : Nat × Nat} {h : Hp} {len u kc b a : Int} {lt dt : Nat} {T E : TT} {st : SS} (hM : Mn h len lt dt u kc) (hT : TabAt h lt T) (hE : EvAt h 23 E) (hk : TabOk T) (hS : StOk T st b) (hR : ERel T E st) (hb : b ≤ 1000000) (ha : a = -4 ∨ 0 ≤ a ∧ a < T 4 0) : Ct d m_5_mayAnswerNow [.ref 1, vi a] z z h (Pu (bi (ansNow T st a)) h) := by
  refine Ct.of (by decide) ⟨Nat.le_refl _, Nat.le_refl _⟩ (Nat.le_of_ble_eq_true rfl) ?_
  have hM' := hM
  unfold Mn at hM
  have hT' := hT
  obtain ⟨b0, b1, b2, b3, b4, b5, b6, b7, b8⟩ := hT
  obtain ⟨e0, e1, e2, e3, e4⟩ := hE
  have k4 := hk.2.2.1
  have k12 := hk.2.2.2.2.1
  obtain ⟨r0, r1, r2, r3, r5, r4, r6, r9⟩ := hR
  obtain ⟨s0, s1, s2, s3, s4, s5, s6, s9⟩ := hS
  rw [r0, r1, r2, r3, r5] at e0
  refine x_aload_n D_5_mayAnswerNow_0 rfl ?_
  refine x_iload_n D_5_mayAnswerNow_1 rfl ?_
  refine x_invV (d' := d - 1) D_5_mayAnswerNow_2 l_5_111 mi_5_isSaying (c_5_isSaying (by omega) hM' hT' hk ⟨by omega, by omega⟩) (by assumption) rfl rfl (by omega) rfl (fun q => q) rfl rfl (fun r2 h2 q2 => ?_)
  obtain ⟨rfl, rfl⟩ := q2
  refine x_if_neb D_5_mayAnswerNow_5 (fun c5 => ?_) (fun c5 => ?_)
  · refine x_aload_n D_5_mayAnswerNow_10 rfl ?_
    refine x_getfield D_5_mayAnswerNow_11 f_5_33 (by assumption) rfl ?_
    refine x_getfield D_5_mayAnswerNow_14 f_5_126 (by assumption) rfl ?_
    refine x_iload_n D_5_mayAnswerNow_17 rfl ?_
    refine x_invS2 (d' := d - 1) D_5_mayAnswerNow_18 l_5_129 mi_5_isIn (c_5_isIn (by omega))  rfl (by omega) rfl (fun q => q) rfl rfl (fun r18 h18 q18 => ?_)
    obtain ⟨rfl, rfl⟩ := q18
    refine x_if_eqb D_5_mayAnswerNow_21 (fun c21 => ?_) (fun c21 => ?_)
    · refine x_iconst D_5_mayAnswerNow_55 ?_
      refine x_ireturn D_5_mayAnswerNow_56 rfl (by first | rfl | exact nb_bi _ | decide +kernel) rfl ?_
      first
      | exact Pu.t (Or.inr ⟨c21, by omega⟩)
      | exact Pu.f (fun q => by rcases q with q | q <;> first | omega | exact c21 q.1 | exact absurd q.2 (by omega))
    refine x_aload_n D_5_mayAnswerNow_24 rfl ?_
    refine x_getfield D_5_mayAnswerNow_25 f_5_33 (by assumption) rfl ?_
    refine x_getfield D_5_mayAnswerNow_28 f_5_133 (by assumption) rfl ?_
    refine x_iload_n D_5_mayAnswerNow_31 rfl ?_
    refine x_iaload D_5_mayAnswerNow_32 (by assumption) (by omega) (by omega) rfl ?_
    have hr := r9 a (by omega) (by omega) c21
    have hs := s9 a (by omega) (by omega)
    have hs2 : 0 ≤ st (16 + a) ∧ st (16 + a) ≤ b := by
      rcases hs with w | w
      · exact w.2
      · exact absurd c21 w.1
    rw [hr]
    refine x_aload_n D_5_mayAnswerNow_33 rfl ?_
    refine x_getfield D_5_mayAnswerNow_34 f_5_23 (by assumption) rfl ?_
    refine x_getfield D_5_mayAnswerNow_37 f_5_239 (by assumption) rfl ?_
    refine x_iadd D_5_mayAnswerNow_40 ?_
    refine x_aload_n D_5_mayAnswerNow_41 rfl ?_
    refine x_getfield D_5_mayAnswerNow_42 f_5_33 (by assumption) rfl ?_
    refine x_getfield D_5_mayAnswerNow_45 f_5_146 (by assumption) rfl ?_
    refine x_icmp_lt D_5_mayAnswerNow_48 ⟨by omega, by omega⟩ ⟨by omega, by omega⟩ (fun c48 => ?_) (fun c48 => ?_)
    · refine x_iconst D_5_mayAnswerNow_55 ?_
      refine x_ireturn D_5_mayAnswerNow_56 rfl (by first | rfl | exact nb_bi _ | decide +kernel) rfl ?_
      first
      | exact Pu.t (Or.inr ⟨c21, by omega⟩)
      | exact Pu.f (fun q => by rcases q with q | q <;> first | omega | exact c21 q.1 | exact absurd q.2 (by omega))
    refine x_iconst D_5_mayAnswerNow_51 ?_
    refine x_goto D_5_mayAnswerNow_52 ?_
    refine x_ireturn D_5_mayAnswerNow_56 rfl (by first | rfl | exact nb_bi _ | decide +kernel) rfl ?_
    first
    | exact Pu.t (Or.inr ⟨c21, by omega⟩)
    | exact Pu.f (fun q => by rcases q with q | q <;> first | omega | exact c21 q.1 | exact absurd q.2 (by omega))
  refine x_iconst D_5_mayAnswerNow_8 ?_
  refine x_ireturn D_5_mayAnswerNow_9 rfl (by first | rfl | exact nb_bi _ | decide +kernel) rfl ?_
  exact Pu.t (Or.inl (by omega))
abbrev canSay (T : TT) (st : SS) (s : Int) : Prop := (st 1 ≠ -4 ∧ st 0 < st 2) ∧ st 1 = T 5 s ∧ ¬ hasB (st 4) s ∧ st 0 + T 6 s ≤ st 2 ∧ ansNow T st (T 8 s)
theorem c_5_canBeSaid {d : Nat} (hd : 2 ≤ d) {z : Nat × Nat} {h : Hp} {len u kc b s : Int} {lt dt : Nat} {T E : TT} {st : SS} (hM : Mn h len lt dt u kc) (hT : TabAt h lt T) (hE : EvAt h 23 E) (hk : TabOk T) (hS : StOk T st b) (hR : ERel T E st) (hb : b ≤ 1000000) (hs : 0 ≤ s ∧ s < T 4 0) : Ct d m_5_canBeSaid [.ref 1, vi s] z z h (Pu (bi (canSay T st s)) h) := by
  refine Ct.of (by decide) ⟨Nat.le_refl _, Nat.le_refl _⟩ (Nat.le_of_ble_eq_true rfl) ?_
  have hM' := hM
  unfold Mn at hM
  have hT' := hT
  have hE' := hE
  obtain ⟨b0, b1, b2, b3, b4, b5, b6, b7, b8⟩ := hT
  obtain ⟨e0, e1, e2, e3, e4⟩ := hE
  have k4 := hk.2.2.1
  have k0 := hk.1
  have k5 := hk.2.2.2.2.2.2.2.1 s hs.1 hs.2
  obtain ⟨r0, r1, r2, r3, r5, r4, r6, r9⟩ := id hR
  obtain ⟨s0, s1, s2, s3, s4, s5, s6, s9⟩ := id hS
  refine x_aload_n D_5_canBeSaid_0 rfl ?_
  refine x_getfield D_5_canBeSaid_1 f_5_33 (by assumption) rfl ?_
  refine x_invV (d' := d - 1) D_5_canBeSaid_4 l_5_142 mi_0_aGrainMelts (c_0_aGrainMelts (by omega) hE' (by rw [r0]; exact ⟨by omega, by omega⟩) (by rw [r5]; exact ⟨by omega, by omega⟩)) (by assumption) rfl rfl (by omega) rfl (fun q => q) rfl rfl (fun r4 h4 q4 => ?_)
  obtain ⟨rfl, rfl⟩ := q4
  refine x_if_eqb D_5_canBeSaid_7 (fun c7 => ?_) (fun c7 => ?_)
  · refine x_iconst D_5_canBeSaid_104 ?_
    refine x_ireturn D_5_canBeSaid_105 rfl (by first | rfl | exact nb_bi _ | decide +kernel) rfl ?_
    first
    | exact Pu.t ⟨⟨by omega, by omega⟩, by omega, by assumption, by omega, by assumption⟩
    | exact Pu.f (fun q => absurd q.1 (by omega))
    | exact Pu.f (fun q => absurd q.2.1 (by omega))
    | exact Pu.f (fun q => absurd (by assumption) q.2.2.1)
    | exact Pu.f (fun q => absurd q.2.2.2.1 (by omega))
    | exact Pu.f (fun q => absurd q.2.2.2.2 (by assumption))
  refine x_aload_n D_5_canBeSaid_10 rfl ?_
  refine x_aload_n D_5_canBeSaid_11 rfl ?_
  refine x_getfield D_5_canBeSaid_12 f_5_33 (by assumption) rfl ?_
  refine x_getfield D_5_canBeSaid_15 f_5_155 (by assumption) rfl ?_
  refine x_invV (d' := d - 1) D_5_canBeSaid_18 l_5_97 mi_5_isPerson (c_5_isPerson (by omega) hM' hT' hk ⟨by omega, by omega⟩) (by assumption) rfl rfl (by omega) rfl (fun q => q) rfl rfl (fun r18 h18 q18 => ?_)
  obtain ⟨rfl, rfl⟩ := q18
  refine x_if_eqb D_5_canBeSaid_21 (fun c21 => ?_) (fun c21 => ?_)
  · refine x_iconst D_5_canBeSaid_104 ?_
    refine x_ireturn D_5_canBeSaid_105 rfl (by first | rfl | exact nb_bi _ | decide +kernel) rfl ?_
    first
    | exact Pu.t ⟨⟨by omega, by omega⟩, by omega, by assumption, by omega, by assumption⟩
    | exact Pu.f (fun q => absurd q.1 (by omega))
    | exact Pu.f (fun q => absurd q.2.1 (by omega))
    | exact Pu.f (fun q => absurd (by assumption) q.2.2.1)
    | exact Pu.f (fun q => absurd q.2.2.2.1 (by omega))
    | exact Pu.f (fun q => absurd q.2.2.2.2 (by assumption))
  refine x_aload_n D_5_canBeSaid_24 rfl ?_
  refine x_getfield D_5_canBeSaid_25 f_5_33 (by assumption) rfl ?_
  refine x_getfield D_5_canBeSaid_28 f_5_155 (by assumption) rfl ?_
  refine x_aload_n D_5_canBeSaid_31 rfl ?_
  refine x_getfield D_5_canBeSaid_32 f_5_23 (by assumption) rfl ?_
  refine x_getfield D_5_canBeSaid_35 f_5_114 (by assumption) rfl ?_
  refine x_iload_n D_5_canBeSaid_38 rfl ?_
  refine x_iaload D_5_canBeSaid_39 (by assumption) (by omega) (by omega) rfl ?_
  refine x_icmp_ne D_5_canBeSaid_40 ⟨by omega, by omega⟩ ⟨by omega, by omega⟩ (fun c40 => ?_) (fun c40 => ?_)
  · refine x_iconst D_5_canBeSaid_104 ?_
    refine x_ireturn D_5_canBeSaid_105 rfl (by first | rfl | exact nb_bi _ | decide +kernel) rfl ?_
    first
    | exact Pu.t ⟨⟨by omega, by omega⟩, by omega, by assumption, by omega, by assumption⟩
    | exact Pu.f (fun q => absurd q.1 (by omega))
    | exact Pu.f (fun q => absurd q.2.1 (by omega))
    | exact Pu.f (fun q => absurd (by assumption) q.2.2.1)
    | exact Pu.f (fun q => absurd q.2.2.2.1 (by omega))
    | exact Pu.f (fun q => absurd q.2.2.2.2 (by assumption))
  refine x_aload_n D_5_canBeSaid_43 rfl ?_
  refine x_getfield D_5_canBeSaid_44 f_5_33 (by assumption) rfl ?_
  refine x_getfield D_5_canBeSaid_47 f_5_126 (by assumption) rfl ?_
  refine x_iload_n D_5_canBeSaid_50 rfl ?_
  refine x_invS2 (d' := d - 1) D_5_canBeSaid_51 l_5_129 mi_5_isIn (c_5_isIn (by omega))  rfl (by omega) rfl (fun q => q) rfl rfl (fun r51 h51 q51 => ?_)
  obtain ⟨rfl, rfl⟩ := q51
  rw [r2]
  refine x_if_neb D_5_canBeSaid_54 (fun c54 => ?_) (fun c54 => ?_)
  · refine x_iconst D_5_canBeSaid_104 ?_
    refine x_ireturn D_5_canBeSaid_105 rfl (by first | rfl | exact nb_bi _ | decide +kernel) rfl ?_
    first
    | exact Pu.t ⟨⟨by omega, by omega⟩, by omega, by assumption, by omega, by assumption⟩
    | exact Pu.f (fun q => absurd q.1 (by omega))
    | exact Pu.f (fun q => absurd q.2.1 (by omega))
    | exact Pu.f (fun q => absurd (by assumption) q.2.2.1)
    | exact Pu.f (fun q => absurd q.2.2.2.1 (by omega))
    | exact Pu.f (fun q => absurd q.2.2.2.2 (by assumption))
  refine x_aload_n D_5_canBeSaid_57 rfl ?_
  refine x_getfield D_5_canBeSaid_58 f_5_33 (by assumption) rfl ?_
  refine x_getfield D_5_canBeSaid_61 f_5_146 (by assumption) rfl ?_
  refine x_aload_n D_5_canBeSaid_64 rfl ?_
  refine x_getfield D_5_canBeSaid_65 f_5_23 (by assumption) rfl ?_
  refine x_getfield D_5_canBeSaid_68 f_5_117 (by assumption) rfl ?_
  refine x_iload_n D_5_canBeSaid_71 rfl ?_
  refine x_iaload D_5_canBeSaid_72 (by assumption) (by omega) (by omega) rfl ?_
  rw [r0]
  refine x_iadd D_5_canBeSaid_73 ?_
  refine x_aload_n D_5_canBeSaid_74 rfl ?_
  refine x_getfield D_5_canBeSaid_75 f_5_33 (by assumption) rfl ?_
  refine x_getfield D_5_canBeSaid_78 f_5_158 (by assumption) rfl ?_
  rw [r5]
  refine x_icmp_gt D_5_canBeSaid_81 ⟨by omega, by omega⟩ ⟨by omega, by omega⟩ (fun c81 => ?_) (fun c81 => ?_)
  · refine x_iconst D_5_canBeSaid_104 ?_
    refine x_ireturn D_5_canBeSaid_105 rfl (by first | rfl | exact nb_bi _ | decide +kernel) rfl ?_
    first
    | exact Pu.t ⟨⟨by omega, by omega⟩, by omega, by assumption, by omega, by assumption⟩
    | exact Pu.f (fun q => absurd q.1 (by omega))
    | exact Pu.f (fun q => absurd q.2.1 (by omega))
    | exact Pu.f (fun q => absurd (by assumption) q.2.2.1)
    | exact Pu.f (fun q => absurd q.2.2.2.1 (by omega))
    | exact Pu.f (fun q => absurd q.2.2.2.2 (by assumption))
  refine x_aload_n D_5_canBeSaid_84 rfl ?_
  refine x_aload_n D_5_canBeSaid_85 rfl ?_
  refine x_getfield D_5_canBeSaid_86 f_5_23 (by assumption) rfl ?_
  refine x_getfield D_5_canBeSaid_89 f_5_123 (by assumption) rfl ?_
  refine x_iload_n D_5_canBeSaid_92 rfl ?_
  refine x_iaload D_5_canBeSaid_93 (by assumption) (by omega) (by omega) rfl ?_
  refine x_invV (d' := d - 1) D_5_canBeSaid_94 l_5_236 mi_5_mayAnswerNow (c_5_mayAnswerNow (by omega) hM' hT' hE' hk hS hR hb (by rcases k5.2.2.2 with w | w <;> omega)) (by assumption) rfl rfl (by omega) rfl (fun q => q) rfl rfl (fun r94 h94 q94 => ?_)
  obtain ⟨rfl, rfl⟩ := q94
  refine x_if_eqb D_5_canBeSaid_97 (fun c97 => ?_) (fun c97 => ?_)
  · refine x_iconst D_5_canBeSaid_104 ?_
    refine x_ireturn D_5_canBeSaid_105 rfl (by first | rfl | exact nb_bi _ | decide +kernel) rfl ?_
    first
    | exact Pu.t ⟨⟨by omega, by omega⟩, by omega, by assumption, by omega, by assumption⟩
    | exact Pu.f (fun q => absurd q.1 (by omega))
    | exact Pu.f (fun q => absurd q.2.1 (by omega))
    | exact Pu.f (fun q => absurd (by assumption) q.2.2.1)
    | exact Pu.f (fun q => absurd q.2.2.2.1 (by omega))
    | exact Pu.f (fun q => absurd q.2.2.2.2 (by assumption))
  refine x_iconst D_5_canBeSaid_100 ?_
  refine x_goto D_5_canBeSaid_101 ?_
  refine x_ireturn D_5_canBeSaid_105 rfl (by first | rfl | exact nb_bi _ | decide +kernel) rfl ?_
  first
  | exact Pu.t ⟨⟨by omega, by omega⟩, by omega, by assumption, by omega, by assumption⟩
  | exact Pu.f (fun q => absurd q.1 (by omega))
  | exact Pu.f (fun q => absurd q.2.1 (by omega))
  | exact Pu.f (fun q => absurd (by assumption) q.2.2.1)
  | exact Pu.f (fun q => absurd q.2.2.2.1 (by omega))
  | exact Pu.f (fun q => absurd q.2.2.2.2 (by assumption))
