/-! the law's own rows: the machine at one context, its script in sight -/
def WX (X : Cx) (L0 : Nat) (xs : Nat → Int32) (d : Nat) (y : Mt) (zf : Nat × Nat) (Q : Option Value → Hp → Prop) (z : Nat × Nat) (h : Hp) (pc : Nat) (ls : List (Nat × Value)) (st : List Value) : Prop :=
  ∀ (l : Launch) (p : Program) (e : Env) (R : Room) (s : State) (m : MethodId) (args : Array Value) (below : List Frame) (meth : Method) (c : Code) (H : Heap) (locs : List Loc) (cells slots mc ms : Nat) (L : Array Slot),
    Fx X d y p R s m args meth c mc ms → (va_X X.2.1 L0 xs s X.2.2.2 ∧ X.2.1 < X.2.2.1) → Rp X z h H → (∀ q ∈ locs, FX X q.base) → lv_has L y.2.2.1 (lm X ls) → cells + zf.1 = mc + z.1 → slots + zf.2 = ms + z.2 → z.1 ≤ zf.1 → z.2 ≤ zf.2 →
    W p l e R s m args below meth c H locs cells slots (MQ below (QX X zf Q) args s mc ms (FX X)) (F0 m pc L (st.map (vr X)))
section XL
variable {X : Cx} {L0 : Nat} {xs : Nat → Int32} {d : Nat} {y : Mt} {zf : Nat × Nat} {Q : Option Value → Hp → Prop} {z : Nat × Nat} {h : Hp} {pc pc2 tgt : Nat} {ls : List (Nat × Value)} {st : List Value}
theorem y_aload_n {k : Fin 4} {a : Nat} (hd : Dec y pc (.aload_n k) 1 pc2) (hv : lg ls (k : Nat) = some (.ref a)) (K : WX X L0 xs d y zf Q z h pc2 ls (.ref a :: st)) : WX X L0 xs d y zf Q z h pc ls (st) := by
  intro l p e R s m args below meth c H locs cells slots mc ms L F hX hR hq hl e1 e2 e3 e4
  obtain ⟨hd, rfl⟩ := hd
  exact lv_aload_n F.1.1 F.1.2.1 hd rfl (lh_at hl hv) (K l p e R s m args below meth c H locs cells slots mc ms L F hX hR hq hl e1 e2 e3 e4)
theorem y_iload_n {k : Fin 4} {a : Int} (hd : Dec y pc (.iload_n k) 1 pc2) (hv : lg ls (k : Nat) = some (vi a)) (K : WX X L0 xs d y zf Q z h pc2 ls (vi a :: st)) : WX X L0 xs d y zf Q z h pc ls (st) := by
  intro l p e R s m args below meth c H locs cells slots mc ms L F hX hR hq hl e1 e2 e3 e4
  obtain ⟨hd, rfl⟩ := hd
  exact lv_iload_n F.1.1 F.1.2.1 hd rfl (lh_at hl hv) (K l p e R s m args below meth c H locs cells slots mc ms L F hX hR hq hl e1 e2 e3 e4)
theorem y_iconst {n : Int} (hd : Dec y pc (.iconst n) 1 pc2) (K : WX X L0 xs d y zf Q z h pc2 ls (vi n :: st)) : WX X L0 xs d y zf Q z h pc ls (st) := by
  intro l p e R s m args below meth c H locs cells slots mc ms L F hX hR hq hl e1 e2 e3 e4
  obtain ⟨hd, rfl⟩ := hd
  exact lv_iconst F.1.1 F.1.2.1 (v := ii n) hd rfl (K l p e R s m args below meth c H locs cells slots mc ms L F hX hR hq hl e1 e2 e3 e4)
theorem y_iadd {a b : Int} (hd : Dec y pc (.iadd) 1 pc2) (K : WX X L0 xs d y zf Q z h pc2 ls (vi (a + b) :: st)) : WX X L0 xs d y zf Q z h pc ls (vi b :: vi a :: st) := by
  intro l p e R s m args below meth c H locs cells slots mc ms L F hX hR hq hl e1 e2 e3 e4
  obtain ⟨hd, rfl⟩ := hd
  exact lv_iadd F.1.1 F.1.2.1 (x := ii a) (y := ii b) hd (by rw [ii_add]; exact K l p e R s m args below meth c H locs cells slots mc ms L F hX hR hq hl e1 e2 e3 e4)
theorem y_isub {a b : Int} (hd : Dec y pc (.isub) 1 pc2) (K : WX X L0 xs d y zf Q z h pc2 ls (vi (a - b) :: st)) : WX X L0 xs d y zf Q z h pc ls (vi b :: vi a :: st) := by
  intro l p e R s m args below meth c H locs cells slots mc ms L F hX hR hq hl e1 e2 e3 e4
  obtain ⟨hd, rfl⟩ := hd
  exact lv_isub F.1.1 F.1.2.1 (x := ii a) (y := ii b) hd (by rw [ii_sub]; exact K l p e R s m args below meth c H locs cells slots mc ms L F hX hR hq hl e1 e2 e3 e4)
theorem y_bipush {n : Int} (hd : Dec y pc (.bipush n) 2 pc2) (hv : (Int8.ofInt n).toInt32 = ii n) (K : WX X L0 xs d y zf Q z h pc2 ls (vi n :: st)) : WX X L0 xs d y zf Q z h pc ls (st) := by
  intro l p e R s m args below meth c H locs cells slots mc ms L F hX hR hq hl e1 e2 e3 e4
  obtain ⟨hd, rfl⟩ := hd
  exact lv_bipush F.1.1 F.1.2.1 (v := ii n) hd hv (K l p e R s m args below meth c H locs cells slots mc ms L F hX hR hq hl e1 e2 e3 e4)
theorem y_iand {a b : Int} (hd : Dec y pc (.iand) 1 pc2) (K : WX X L0 xs d y zf Q z h pc2 ls (vi (iAnd a b) :: st)) : WX X L0 xs d y zf Q z h pc ls (vi b :: vi a :: st) := by
  intro l p e R s m args below meth c H locs cells slots mc ms L F hX hR hq hl e1 e2 e3 e4
  obtain ⟨hd, rfl⟩ := hd
  exact lv_iand F.1.1 F.1.2.1 (x := ii a) (y := ii b) hd (by rw [← ii_toInt (ii a &&& ii b)]; exact K l p e R s m args below meth c H locs cells slots mc ms L F hX hR hq hl e1 e2 e3 e4)
theorem y_iinc {k : Nat} {n a : Int} (hd : Dec y pc (.iinc k n) 3 pc2) (hv : lg ls k = some (vi a)) (hn : Nat.ble (k + 1) y.2.2.1 = true) (hok : okp ls k = true) {ls2 : List (Nat × Value)} (hlp : lpa ls k (vi (a + n)) false [] = some ls2) (K : WX X L0 xs d y zf Q z h pc2 ls2 st) : WX X L0 xs d y zf Q z h pc ls st := by
  intro l p e R s m args below meth c H locs cells slots mc ms L F hX hR hq hl e1 e2 e3 e4
  obtain ⟨hd, rfl⟩ := hd
  obtain ⟨j, hj⟩ := List.getElem?_of_mem (lg_mem hv)
  exact lv_iinc F.1.1 F.1.2.1 (v := ii (a + n)) hd hl (k := j) (x := ii a) (by rw [List.getElem?_map, hj]; rfl) (ii_add a n) (Nat.le_of_ble_eq_true hn) rfl (fun L' hl' => K l p e R s m args below meth c H locs cells slots mc ms L' F hX hR hq (lh_put hlp hok hl') e1 e2 e3 e4)
theorem y_goto (hd : DecJ y pc .goto pc2 tgt) (K : WX X L0 xs d y zf Q z h tgt ls st) : WX X L0 xs d y zf Q z h pc ls st := by
  intro l p e R s m args below meth c H locs cells slots mc ms L F hX hR hq hl e1 e2 e3 e4
  obtain ⟨off, hd, -, ht⟩ := hd
  exact lv_goto F.1.1 F.1.2.1 hd ht (K l p e R s m args below meth c H locs cells slots mc ms L F hX hR hq hl e1 e2 e3 e4)
theorem y_icmp_gt {a b : Int} (hd : DecJ y pc (.if_icmp .gt) pc2 tgt) (ha : B3 a) (hb : B3 b) (K1 : b < a → WX X L0 xs d y zf Q z h tgt ls st) (K2 : a ≤ b → WX X L0 xs d y zf Q z h pc2 ls st) : WX X L0 xs d y zf Q z h pc ls (vi b :: vi a :: st) := by
  intro l p e R s m args below meth c H locs cells slots mc ms L F hX hR hq hl e1 e2 e3 e4
  obtain ⟨off, hd, rfl, ht⟩ := hd
  exact lv_icmp_gt F.1.1 F.1.2.1 (x := ii a) (y := ii b) hd ht (fun q => K1 ((ii_lt hb ha).mp q) l p e R s m args below meth c H locs cells slots mc ms L F hX hR hq hl e1 e2 e3 e4) (fun q => K2 (Int.not_lt.mp (fun e => q ((ii_lt hb ha).mpr e))) l p e R s m args below meth c H locs cells slots mc ms L F hX hR hq hl e1 e2 e3 e4)
theorem y_tswIn {dflt lo hi : Int} {offs : Array Int} {len : Nat} {a off : Int} (hd : Dec y pc (.tableswitch dflt lo hi offs) len pc2) (ha : B3 a) (h1 : lo ≤ a) (h2 : a ≤ hi) (ho : offs[(a - lo).toNat]? = some off) (ht : (pc : Int) + off = (tgt : Int)) (K : WX X L0 xs d y zf Q z h tgt ls st) : WX X L0 xs d y zf Q z h pc ls (vi a :: st) := by
  intro l p e R s m args below meth c H locs cells slots mc ms L F hX hR hq hl e1 e2 e3 e4
  exact lv_tableIn F.1.1 F.1.2.1 (x := ii a) hd.1 (by rw [toInt_ii ha]; omega) (by rw [toInt_ii ha]; omega) (by rw [toInt_ii ha]; exact ho) ht (K l p e R s m args below meth c H locs cells slots mc ms L F hX hR hq hl e1 e2 e3 e4)
theorem y_tswOut {dflt lo hi : Int} {offs : Array Int} {len : Nat} {a : Int} (hd : Dec y pc (.tableswitch dflt lo hi offs) len pc2) (ha : B3 a) (hh : a < lo ∨ hi < a) (ht : (pc : Int) + dflt = (tgt : Int)) (K : WX X L0 xs d y zf Q z h tgt ls st) : WX X L0 xs d y zf Q z h pc ls (vi a :: st) := by
  intro l p e R s m args below meth c H locs cells slots mc ms L F hX hR hq hl e1 e2 e3 e4
  exact lv_tableOut F.1.1 F.1.2.1 (x := ii a) hd.1 (by rw [toInt_ii ha]; exact hh) ht (K l p e R s m args below meth c H locs cells slots mc ms L F hX hR hq hl e1 e2 e3 e4)
theorem y_istore_n {k : Fin 4} {a : Int} (hd : Dec y pc (.istore_n k) 1 pc2) (hn : Nat.ble ((k : Nat) + 1) y.2.2.1 = true) (hok : okp ls (k : Nat) = true) {ls2 : List (Nat × Value)} (hlp : lpa ls (k : Nat) (vi a) false [] = some ls2) (K : WX X L0 xs d y zf Q z h pc2 ls2 st) : WX X L0 xs d y zf Q z h pc ls (vi a :: st) := by
  intro l p e R s m args below meth c H locs cells slots mc ms L F hX hR hq hl e1 e2 e3 e4
  obtain ⟨hd, rfl⟩ := hd
  exact lv_istore_n F.1.1 F.1.2.1 hd rfl hl (Nat.le_of_ble_eq_true hn) rfl (fun L' hl' => K l p e R s m args below meth c H locs cells slots mc ms L' F hX hR hq (lh_put hlp hok hl') e1 e2 e3 e4)
theorem y_astore_n {k : Fin 4} {a : Nat} (hd : Dec y pc (.astore_n k) 1 pc2) (hn : Nat.ble ((k : Nat) + 1) y.2.2.1 = true) (hok : okp ls (k : Nat) = true) {ls2 : List (Nat × Value)} (hlp : lpa ls (k : Nat) (.ref a) false [] = some ls2) (K : WX X L0 xs d y zf Q z h pc2 ls2 st) : WX X L0 xs d y zf Q z h pc ls (.ref a :: st) := by
  intro l p e R s m args below meth c H locs cells slots mc ms L F hX hR hq hl e1 e2 e3 e4
  obtain ⟨hd, rfl⟩ := hd
  exact lv_astore_n F.1.1 F.1.2.1 hd rfl hl (Nat.le_of_ble_eq_true hn) rfl (fun L' hl' => K l p e R s m args below meth c H locs cells slots mc ms L' F hX hR hq (lh_put hlp hok hl') e1 e2 e3 e4)
theorem y_dup {v : Value} (hd : Dec y pc (.dup) 1 pc2) (hc : v.category = 1) (K : WX X L0 xs d y zf Q z h pc2 ls (v :: v :: st)) : WX X L0 xs d y zf Q z h pc ls (v :: st) := by
  intro l p e R s m args below meth c H locs cells slots mc ms L F hX hR hq hl e1 e2 e3 e4
  obtain ⟨hd, rfl⟩ := hd
  exact lv_dup F.1.1 F.1.2.1 hd ((vr_cat X v).trans hc) (K l p e R s m args below meth c H locs cells slots mc ms L F hX hR hq hl e1 e2 e3 e4)
theorem y_i2lr {a : Int} (hd : Dec y pc (.i2l) 1 pc2) (K : WX X L0 xs d y zf Q z h pc2 ls (.long (ii a).toInt64 :: st)) : WX X L0 xs d y zf Q z h pc ls (vi a :: st) := by
  intro l p e R s m args below meth c H locs cells slots mc ms L F hX hR hq hl e1 e2 e3 e4
  obtain ⟨hd, rfl⟩ := hd
  exact lv_i2l F.1.1 F.1.2.1 (x := ii a) hd rfl (K l p e R s m args below meth c H locs cells slots mc ms L F hX hR hq hl e1 e2 e3 e4)
theorem y_lshl {a : Int64} {b : Int} (hd : Dec y pc (.lshl) 1 pc2) (K : WX X L0 xs d y zf Q z h pc2 ls (.long (a <<< ((ii b).toInt64 &&& 63)) :: st)) : WX X L0 xs d y zf Q z h pc ls (vi b :: .long a :: st) := by
  intro l p e R s m args below meth c H locs cells slots mc ms L F hX hR hq hl e1 e2 e3 e4
  obtain ⟨hd, rfl⟩ := hd
  exact lv_lshl F.1.1 F.1.2.1 (x := a) (y := ii b) hd rfl (K l p e R s m args below meth c H locs cells slots mc ms L F hX hR hq hl e1 e2 e3 e4)
theorem y_ldc2 {idx : Nat} {n : Int} (hd : Dec y pc (.ldc2_w idx) 3 pc2) (hk : Cond.constantLong y.1.cls idx (ll n) ∈ WS) (K : WX X L0 xs d y zf Q z h pc2 ls (vl n :: st)) : WX X L0 xs d y zf Q z h pc ls (st) := by
  intro l p e R s m args below meth c H locs cells slots mc ms L F hX hR hq hl e1 e2 e3 e4
  obtain ⟨hd, rfl⟩ := hd
  exact lv_ldc2 F.1.1 F.1.2.1 (v := ll n) F.1.2.2.2.1 (F.1.2.2.2.2 _ hk) hd (K l p e R s m args below meth c H locs cells slots mc ms L F hX hR hq hl e1 e2 e3 e4)
theorem y_land {a b : Int64} (hd : Dec y pc (.land) 1 pc2) (K : WX X L0 xs d y zf Q z h pc2 ls (.long (a &&& b) :: st)) : WX X L0 xs d y zf Q z h pc ls (.long b :: .long a :: st) := by
  intro l p e R s m args below meth c H locs cells slots mc ms L F hX hR hq hl e1 e2 e3 e4
  obtain ⟨hd, rfl⟩ := hd
  exact lv_land F.1.1 F.1.2.1 (x := a) (y := b) hd (K l p e R s m args below meth c H locs cells slots mc ms L F hX hR hq hl e1 e2 e3 e4)
theorem y_lor {a b : Int64} (hd : Dec y pc (.lor) 1 pc2) (K : WX X L0 xs d y zf Q z h pc2 ls (.long (a ||| b) :: st)) : WX X L0 xs d y zf Q z h pc ls (.long b :: .long a :: st) := by
  intro l p e R s m args below meth c H locs cells slots mc ms L F hX hR hq hl e1 e2 e3 e4
  obtain ⟨hd, rfl⟩ := hd
  exact lv_lor F.1.1 F.1.2.1 (x := a) (y := b) hd (K l p e R s m args below meth c H locs cells slots mc ms L F hX hR hq hl e1 e2 e3 e4)
theorem y_ireturn {v : Int} {ty : FieldType} (hd : Dec y pc .ireturn 1 pc2) (hr : y.2.2.2 = some ty) (hn : narrow ty (vi v) = vi v) (hz : z = zf) (hQ : Q (some (vi v)) h) : WX X L0 xs d y zf Q z h pc ls [vi v] := by
  intro l p e R s m args below meth c H locs cells slots mc ms L F hX hR hq hl e1 e2 e3 e4
  subst hz
  obtain rfl : cells = mc := by omega
  obtain rfl : slots = ms := by omega
  have hlocks : meth.locks = false := F.2.2.1
  exact W.zret (v := ii v) F.1.1 F.1.2.1 (F.2.1.trans hr) hn (fun t ht hW => ⟨some (vi v), h, rfl, hQ, by rw [ht]; exact hR⟩) hq hd.1
theorem WX.call {rest : List Value} {z2 : Nat × Nat} {Q' : Option Value → Hp → Prop} (K : ∀ r h', Q' r h' → WX X L0 xs d y zf Q z2 h' (pc + 3) ls (pushR r rest)) (hz2 : z.1 ≤ zf.1 ∧ z.2 ≤ zf.2 → z2.1 ≤ zf.1 ∧ z2.2 ≤ zf.2) (hz : z.1 ≤ z2.1 ∧ z.2 ≤ z2.2)
    {l : Launch} {p : Program} {e : Env} {R : Room} {s : State} {m : MethodId} {args : Array Value} {below : List Frame} {meth : Method} {c : Code} {H : Heap} {locs : List Loc} {cells slots mc ms : Nat} {L : Array Slot} {a : Array Value} {st0 : List Value}
    (F : Fx X d y p R s m args meth c mc ms) (hX : va_X X.2.1 L0 xs s X.2.2.2 ∧ X.2.1 < X.2.2.1) (hq : ∀ q ∈ locs, FX X q.base) (hl : lv_has L y.2.2.1 (lm X ls)) (e1 : cells + zf.1 = mc + z.1) (e2 : slots + zf.2 = ms + z.2) (e3 : z.1 ≤ zf.1) (e4 : z.2 ≤ zf.2)
    (hr : va_Run p l e R s m args below meth c H locs cells slots (z2.1 - z.1) (z2.2 - z.2) (F0 m pc L st0) (rest.map (vr X)) (QX X z2 Q' a) (FX X)) : W p l e R s m args below meth c H locs cells slots (MQ below (QX X zf Q) args s mc ms (FX X)) (F0 m pc L st0) := by
  intro T hT XX
  obtain ⟨v, s0, t, T', L', h0, X', hL, g1, g2, ⟨r, h', q1, q2, q3⟩, stp⟩ := hr T hT XX
  cases q1
  have h9 := hz2 ⟨e3, e4⟩
  have hst : (r.map (vr X)).toList ++ rest.map (vr X) = (pushR r rest).map (vr X) := by cases r <;> rfl
  have hW := K r h' q2 l p e R s m args below meth c T'.heap (locs ++ L') (cells + (z2.1 - z.1)) (slots + (z2.2 - z.2)) mc ms L F hX (by rw [g1]; exact q3) (fun q hq' => (List.mem_append.mp hq').elim (hq q) (hL q)) hl (by omega) (by omega) h9.1 h9.2
  rw [← hst] at hW
  obtain ⟨t2, a1, b1⟩ := hW T' rfl X'
  exact ⟨t2, stp t2 a1, b1⟩
theorem y_invV {d' idx n o ci : Nat} {fs : List Value} {y' : Mt} {as rest : List Value} {z2 : Nat × Nat} {Q' : Option Value → Hp → Prop} (hd : Dec y pc (.invokevirtual idx) 3 pc2) (hk : LV y.1.cls idx y') (hm : MI y' n) (hc : Ct d' y' (.ref o :: as) z z2 h Q') (ho : h o = some (ob ci fs)) (hC : (cls[ci]?).map (fun r => r.1) = some y'.1.cls) (hn : as.length = n) (hdd : d' + 1 ≤ d) (hml : Nat.ble y'.2.2.1 21 = true) (hz2 : z.1 ≤ zf.1 ∧ z.2 ≤ zf.2 → z2.1 ≤ zf.1 ∧ z2.2 ≤ zf.2) (hst : st = as.reverse ++ .ref o :: rest) (hcat : Nat.ble ((rest.map fun v => v.category).sum) 8 = true)
    (K : ∀ r h', Q' r h' → WX X L0 xs d y zf Q z2 h' pc2 ls (pushR r rest)) : WX X L0 xs d y zf Q z h pc ls st := by
  intro l p e R s m args below meth c H locs cells slots mc ms L F hX hR hq hl e1 e2 e3 e4
  obtain ⟨hd, rfl⟩ := hd
  have h9 := hz2 ⟨e3, e4⟩
  have hz := hc.1
  have hts := F.1.2.2.2.2
  refine WX.call K hz2 hz F hX hq hl e1 e2 e3 e4 (va_runV (As := as.map (vr X)) (n := n) (C := y'.1.cls) F.1 (hc.2 X l) ⟨callB_of n hts (gws hm.1.1) rfl rfl rfl (hts _ hm.1.2) (hts _ hk.1) hm.2 (room_ok hdd hml F.2.2.2.2.2.1 F.2.2.2.2.2.2.1), hts _ hk.2.1, hts _ hk.2.2⟩ ⟨blindX X (.ref o :: as) z h, x_recv hR F.2.2.2.2.1 ho hC, fun U hU hW => ⟨rfl, Kn.warm hW F.2.2.2.2.1, by rw [hU]; exact hR⟩⟩ rfl (by rw [List.length_map]; exact hn) hl.1 (by rw [hst, List.map_append, List.map_reverse]; rfl) (by rw [cat_vr]; show 2 * 0 + _ ≤ 8; have := Nat.le_of_ble_eq_true hcat; omega) hd ?_)
  have := F.2.2.2.2.2.2.2.1
  have := F.2.2.2.2.2.2.2.2
  constructor <;> omega
theorem y_new {idx ci : Nat} {fs : List Value} (hd : Dec y pc (.new idx) 3 pc2) (hk : NL y.1.cls idx ci fs) (hz : z.1 + 1 ≤ zf.1 ∧ z.2 + fs.length ≤ zf.2) (K : WX X L0 xs d y zf Q (z.1 + 1, z.2 + fs.length) (hset h (z.1 + 1) (ob ci fs)) pc2 ls (.ref (z.1 + 1) :: st)) : WX X L0 xs d y zf Q z h pc ls st := by
  intro l p e R s m args below meth c H locs cells slots mc ms L F hX hR hq hl e1 e2 e3 e4
  obtain ⟨hd, rfl⟩ := hd
  obtain ⟨r, hc, ⟨k1, k2, k3⟩, hlen, ty, hty, hfs⟩ := hk
  have hts := F.1.2.2.2.2
  have hKn := F.2.2.2.2.1.1.1 ci _ hc
  have r3 := F.2.2.2.2.2.2.2.1
  have r4 := F.2.2.2.2.2.2.2.2
  have hsz := hR.2.1
  refine W.newcK F.1.1 F.1.2.1 F.1.2.2.2.1 (hts _ k1) (hts _ k2) (hts _ k3) rfl hd (by omega) (by rw [← hlen]; omega) hKn.2.1 rfl fun H1 kC hkC b1 z1 o1 => ?_
  have hat : va_at X.1.1 cls (X.2.2.1 + z.1, rl X (ob ci fs)) H1 := by
    rw [hsz] at b1
    exact ⟨_, hc, (u_born ty hts (uwAll hc) hKn hkC b1 hty).to (hfs X)⟩
  have hW := K l p e R s m args below meth c H1 locs (cells + 1) (slots + fs.length) mc ms L F hX (hR.push hat z1 o1) hq hl (by show cells + 1 + zf.1 = mc + (z.1 + 1); omega) (by show slots + fs.length + zf.2 = ms + (z.2 + fs.length); omega) hz.1 hz.2
  rw [← hlen, hsz]
  exact hW
theorem y_invI {d' idx n o : Nat} {nm : MethodName} {bc : ByteArray} {ml : Nat} {as rest : List Value} {z2 : Nat × Nat} {Q' : Option Value → Hp → Prop} (hd : Dec y pc (.invokespecial idx) 3 pc2) (hk : LI y.1.cls idx (nm, bc, ml, none)) (hm : MI (nm, bc, ml, none) n) (hy : nm.name = "<init>") (hc : Ct d' (nm, bc, ml, none) (.ref o :: as) z z2 h Q') (hn : as.length = n) (hdd : d' + 1 ≤ d) (hml : Nat.ble ml 21 = true) (hz2 : z.1 ≤ zf.1 ∧ z.2 ≤ zf.2 → z2.1 ≤ zf.1 ∧ z2.2 ≤ zf.2) (hst : st = as.reverse ++ .ref o :: rest) (hcat : Nat.ble ((rest.map fun v => v.category).sum) 8 = true)
    (K : ∀ r h', Q' r h' → WX X L0 xs d y zf Q z2 h' pc2 ls (pushR r rest)) : WX X L0 xs d y zf Q z h pc ls st := by
  intro l p e R s m args below meth c H locs cells slots mc ms L F hX hR hq hl e1 e2 e3 e4
  obtain ⟨hd, rfl⟩ := hd
  have h9 := hz2 ⟨e3, e4⟩
  have hz := hc.1
  have hts := F.1.2.2.2.2
  refine WX.call K hz2 hz F hX hq hl e1 e2 e3 e4 (va_runI (As := as.map (vr X)) (n := n) (b := ad X o) F.1 (hc.2 X l) ⟨callB_of n hts (gws hm.1.1) rfl rfl rfl (hts _ hm.1.2) (hts _ hk.1) hm.2 (room_ok (y' := (nm, bc, ml, none)) hdd hml F.2.2.2.2.2.1 F.2.2.2.2.2.2.1), hy, hts _ hk.2⟩ ⟨blindX X (.ref o :: as) z h, fun U hU hW => ⟨rfl, Kn.warm hW F.2.2.2.2.1, by rw [hU]; exact hR⟩⟩ rfl (by rw [List.length_map]; exact hn) hl.1 (by rw [hst, List.map_append, List.map_reverse]; rfl) (by rw [cat_vr]; show 2 * 0 + _ ≤ 8; have := Nat.le_of_ble_eq_true hcat; omega) hd ?_)
  have := F.2.2.2.2.2.2.2.1
  have := F.2.2.2.2.2.2.2.2
  constructor <;> omega
theorem WX.sub {ls' : List (Nat × Value)} (K : WX X L0 xs d y zf Q z h pc ls' st) (hh : ls'.map (fun q => lg ls q.1) = ls'.map (fun q => some q.2)) : WX X L0 xs d y zf Q z h pc ls st := by
  intro l p e R s m args below meth c H locs cells slots mc ms L F hX hR hq hl e1 e2 e3 e4
  exact K l p e R s m args below meth c H locs cells slots mc ms L F hX hR hq (lh_sub hl hh) e1 e2 e3 e4
theorem y_slen (hd : Dec y pc .arraylength 1 pc2) (K : WX X L0 xs d y zf Q z h pc2 ls (vi (L0 : Int) :: st)) : WX X L0 xs d y zf Q z h pc ls (.ref 0 :: st) := by
  intro l p e R s m args below meth c H locs cells slots mc ms L F hX hR hq hl e1 e2 e3 e4
  obtain ⟨hd, rfl⟩ := hd
  obtain ⟨scr, h1, h2, h3, h4, h5⟩ := hX.1
  exact W.alen (n := ii (L0 : Int)) F.1.1 F.1.2.1 ((hR.2.2.1 _ hX.2).trans h1) h2 (by rw [h4]; rfl) rfl rfl hd (K l p e R s m args below meth c H locs cells slots mc ms L F hX hR hq hl e1 e2 e3 e4)
theorem y_sload {a : Int} (hd : Dec y pc .iaload 1 pc2) (h0 : 0 ≤ a) (h9 : a < (L0 : Int)) (hL : L0 ≤ 2048) (K : WX X L0 xs d y zf Q z h pc2 ls (vi (xs a.toNat).toInt :: st)) : WX X L0 xs d y zf Q z h pc ls (vi a :: .ref 0 :: st) := by
  intro l p e R s m args below meth c H locs cells slots mc ms L F hX hR hq hl e1 e2 e3 e4
  obtain ⟨hd, rfl⟩ := hd
  obtain ⟨scr, h1, h2, h3, h4, h5⟩ := hX.1
  have hb : B3 a := ⟨by omega, by omega⟩
  have hcn : (ii a).toNatClampNeg = a.toNat := ii_clamp hb
  have hv : vi (xs a.toNat).toInt = .int (xs a.toNat) := congrArg Value.int (ii_toInt _)
  rw [hv] at K
  exact W.iald (v := .int (xs a.toNat)) F.1.1 F.1.2.1 ((hR.2.2.1 _ hX.2).trans h1) h2 h3 (by rw [h4]; exact vp_ii h0 h9 (by omega)) (by rw [hcn]; exact h5 _ (by omega)) rfl rfl hd (K l p e R s m args below meth c H locs cells slots mc ms L F hX hR hq hl e1 e2 e3 e4)
theorem y_icmp_same {a : Int} (hd : DecJ y pc (.if_icmp .eq) pc2 tgt) (K : WX X L0 xs d y zf Q z h tgt ls st) : WX X L0 xs d y zf Q z h pc ls (vi a :: vi a :: st) := by
  intro l p e R s m args below meth c H locs cells slots mc ms L F hX hR hq hl e1 e2 e3 e4
  obtain ⟨off, hd, rfl, ht⟩ := hd
  exact lv_icmp_eq F.1.1 F.1.2.1 (x := ii a) (y := ii a) hd ht (fun _ => K l p e R s m args below meth c H locs cells slots mc ms L F hX hR hq hl e1 e2 e3 e4) (fun q => absurd rfl q)
end XL
