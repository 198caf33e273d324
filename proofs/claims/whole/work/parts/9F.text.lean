/-! the text that the class has at first: the string's own methods -/
def Cr (d : Nat) (y : Mt) (X : Cx) (q t : Nat) (as : List Value) (z : Nat × Nat) (h : Hp) (v : Option Value) : Prop := ∀ l : Launch, Met l y.1 (wsm y) (rmX d z z) (fun a U => a = as.toArray ∧ (Kn X U ∧ Sx X q t U) ∧ Rp X z h U.heap) (QX X z (fun r h' => r = v ∧ h' = h)) (z.1 - z.1) (z.2 - z.2) (FX X)
def BR (d : Nat) (y : Mt) (X : Cx) (q t : Nat) (z : Nat × Nat) (h : Hp) (v : Option Value) (pc : Nat) (ls : List (Nat × Value)) (st : List Value) : Prop := ∀ (l : Launch) (p : Program) (e : Env) (R : Room) (s : State) (m : MethodId) (args : Array Value) (below : List Frame) (meth : Method) (c : Code) (H : Heap) (locs : List Loc) (cells slots mc ms : Nat) (L : Array Slot),
    Fx X d y p R s m args meth c mc ms → Sx X q t s → Rp X z h H → (∀ q ∈ locs, FX X q.base) → lv_has L y.2.2.1 ls → cells = mc → slots = ms →
    W p l e R s m args below meth c H locs cells slots (MQ below (QX X z (fun r h' => r = v ∧ h' = h)) args s mc ms (FX X)) (F0 m pc L st)
theorem Cr.of {d : Nat} {y : Mt} {X : Cx} {q t : Nat} {as : List Value} {z : Nat × Nat} {h : Hp} {v : Option Value} (hp : plainName y.1.cls = true) (hn : (lg_sl as).length ≤ y.2.2.1) (body : BR d y X q t z h v 0 (lv_args 0 as) []) : Cr d y X q t as z h v := by
  intro l
  refine Met.ofW (cc := y.2.1) (maxL := y.2.2.1) (ret := y.2.2.2) hp rfl ?_
  intro p e s m args below meth c s₁ B hml hv
  obtain ⟨rfl, hK, hR⟩ := hv
  have hts := atoms_spec (ws := wsm y) B.pre
  rw [lg_entry_eq]
  have hl := lv_entry as (n := y.2.2.1) hn
  refine body l p e _ s m _ below meth c s.heap [] 0 0 _ _ _ ⟨⟨B.exec, B.bytes, hml, findClass_of_methodNamed B.named, fun w hw => hts w (List.mem_cons_of_mem _ hw)⟩, B.returns, B.notSynchronized, (name_of_methodNamed B.named B.method).1, hK.1, Nat.le_refl _, Nat.le_refl _, Nat.le_refl _, Nat.le_refl _⟩ hK.2 hR (fun q hq => by cases hq) hl ?_ ?_
  · exact (Nat.sub_self _).symm
  · exact (Nat.sub_self _).symm
theorem blindR (X : Cx) (q t : Nat) (as : List Value) (z : Nat × Nat) (h : Hp) : FrameBlind (fun a U => a = as.toArray ∧ (Kn X U ∧ Sx X q t U) ∧ Rp X z h U.heap) := fun a U g mk w => ⟨w.1, ⟨Kn.same (u := U) rfl w.2.1.1, Sx.same (u := U) rfl w.2.1.2⟩, w.2.2⟩
theorem raw_call {X : Cx} {z : Nat × Nat} {h : Hp} {v : Option Value} {pc : Nat} {l : Launch} {p : Program} {e : Env} {R : Room} {s : State} {m : MethodId} {args : Array Value} {below : List Frame} {meth : Method} {c : Code} {H : Heap} {locs : List Loc} {cells slots : Nat} {L : Array Slot} {a : Array Value} {st0 rest : List Value} {Q : State → Prop}
    (hr : va_Run p l e R s m args below meth c H locs cells slots (z.1 - z.1) (z.2 - z.2) (F0 m pc L st0) rest (QX X z (fun r h' => r = v ∧ h' = h) a) (FX X)) (hq : ∀ q ∈ locs, FX X q.base)
    (K : ∀ (H1 : Heap) (locs1 : List Loc), Rp X z h H1 → (∀ q ∈ locs1, FX X q.base) → W p l e R s m args below meth c H1 locs1 cells slots Q (F0 m (pc + 3) L ((v.map (vr X)).toList ++ rest))) : W p l e R s m args below meth c H locs cells slots Q (F0 m pc L st0) := by
  intro T hT XX
  obtain ⟨v1, s0, t, T', L', h0, X', hL, g1, g2, ⟨r, h', q1, ⟨rfl, rfl⟩, q3⟩, stp⟩ := hr T hT XX
  cases q1
  rw [Nat.sub_self, Nat.sub_self, Nat.add_zero, Nat.add_zero] at X'
  obtain ⟨t2, a1, b1⟩ := K T'.heap (locs ++ L') (by rw [g1]; exact q3) (fun q hq' => (List.mem_append.mp hq').elim (hq q) (hL q)) T' rfl X'
  exact ⟨t2, stp t2 a1, b1⟩
theorem Rp.old {X : Cx} {z : Nat × Nat} {h : Hp} {H : Heap} (hR : Rp X z h H) : ∀ a : Nat, a < X.2.2.2.size → ¬ (fun q : Nat => X.2.2.1 ≤ q) a → H[a]? = X.2.2.2[a]? := fun a _ ha => hR.2.2.1 a (Nat.not_le.mp ha)
theorem raw_at {L : Array Slot} {n k : Nat} {v : Value} {ls : List (Nat × Value)} (hl : lv_has L n ls) (h : lg ls k = some v) : L[k]? = some (.val v) := hl.2.2 (k, v) (lg_mem h)
section XT
variable {d : Nat} {y : Mt} {X : Cx} {q t : Nat} {z : Nat × Nat} {h : Hp} {v0 : Option Value} {pc pc2 tgt : Nat} {ls : List (Nat × Value)} {st : List Value}
theorem b_aload {k : Fin 4} {a : Nat} (hd : Dec y pc (.aload_n k) 1 pc2) (hv : lg ls (k : Nat) = some (.ref a)) (K : BR d y X q t z h v0 pc2 ls (.ref a :: st)) : BR d y X q t z h v0 pc ls st := by
  intro l p e R s m args below meth c H locs cells slots mc ms L F hS hR hq hl e1 e2
  obtain ⟨hd, rfl⟩ := hd
  exact lv_aload_n F.1.1 F.1.2.1 hd rfl (raw_at hl hv) (K l p e R s m args below meth c H locs cells slots mc ms L F hS hR hq hl e1 e2)
theorem b_iload {k : Fin 4} {a : Int32} (hd : Dec y pc (.iload_n k) 1 pc2) (hv : lg ls (k : Nat) = some (.int a)) (K : BR d y X q t z h v0 pc2 ls (.int a :: st)) : BR d y X q t z h v0 pc ls st := by
  intro l p e R s m args below meth c H locs cells slots mc ms L F hS hR hq hl e1 e2
  obtain ⟨hd, rfl⟩ := hd
  exact lv_iload_n F.1.1 F.1.2.1 hd rfl (raw_at hl hv) (K l p e R s m args below meth c H locs cells slots mc ms L F hS hR hq hl e1 e2)
theorem b_iconst {n : Int} (hd : Dec y pc (.iconst n) 1 pc2) (K : BR d y X q t z h v0 pc2 ls (.int (Int32.ofInt n) :: st)) : BR d y X q t z h v0 pc ls st := by
  intro l p e R s m args below meth c H locs cells slots mc ms L F hS hR hq hl e1 e2
  obtain ⟨hd, rfl⟩ := hd
  exact lv_iconst F.1.1 F.1.2.1 (v := Int32.ofInt n) hd rfl (K l p e R s m args below meth c H locs cells slots mc ms L F hS hR hq hl e1 e2)
theorem b_sipush {n : Int} {w : Int32} (hd : Dec y pc (.sipush n) 3 pc2) (hv : (Int16.ofInt n).toInt32 = w) (K : BR d y X q t z h v0 pc2 ls (.int w :: st)) : BR d y X q t z h v0 pc ls st := by
  intro l p e R s m args below meth c H locs cells slots mc ms L F hS hR hq hl e1 e2
  obtain ⟨hd, rfl⟩ := hd
  exact lv_sipush F.1.1 F.1.2.1 (v := w) hd hv (K l p e R s m args below meth c H locs cells slots mc ms L F hS hR hq hl e1 e2)
theorem b_iand {a b : Int32} (hd : Dec y pc (.iand) 1 pc2) (K : BR d y X q t z h v0 pc2 ls (.int (a &&& b) :: st)) : BR d y X q t z h v0 pc ls (.int b :: .int a :: st) := by
  intro l p e R s m args below meth c H locs cells slots mc ms L F hS hR hq hl e1 e2
  obtain ⟨hd, rfl⟩ := hd
  exact lv_iand F.1.1 F.1.2.1 (x := a) (y := b) hd (K l p e R s m args below meth c H locs cells slots mc ms L F hS hR hq hl e1 e2)
theorem b_ishr {a b : Int32} (hd : Dec y pc (.ishr) 1 pc2) (K : BR d y X q t z h v0 pc2 ls (.int (a >>> (b &&& 31)) :: st)) : BR d y X q t z h v0 pc ls (.int b :: .int a :: st) := by
  intro l p e R s m args below meth c H locs cells slots mc ms L F hS hR hq hl e1 e2
  obtain ⟨hd, rfl⟩ := hd
  exact lv_ishr F.1.1 F.1.2.1 (x := a) (y := b) hd (K l p e R s m args below meth c H locs cells slots mc ms L F hS hR hq hl e1 e2)
theorem b_i2c {a w : Int32} (hd : Dec y pc (.i2c) 1 pc2) (hv : (a.toUInt32 % 65536).toInt32 = w) (K : BR d y X q t z h v0 pc2 ls (.int w :: st)) : BR d y X q t z h v0 pc ls (.int a :: st) := by
  intro l p e R s m args below meth c H locs cells slots mc ms L F hS hR hq hl e1 e2
  obtain ⟨hd, rfl⟩ := hd
  exact lv_i2c F.1.1 F.1.2.1 hd hv (K l p e R s m args below meth c H locs cells slots mc ms L F hS hR hq hl e1 e2)
theorem b_pop {w : Value} (hd : Dec y pc (.pop) 1 pc2) (hc : w.category = 1) (K : BR d y X q t z h v0 pc2 ls (st)) : BR d y X q t z h v0 pc ls (w :: st) := by
  intro l p e R s m args below meth c H locs cells slots mc ms L F hS hR hq hl e1 e2
  obtain ⟨hd, rfl⟩ := hd
  exact lv_pop F.1.1 F.1.2.1 hd hc (K l p e R s m args below meth c H locs cells slots mc ms L F hS hR hq hl e1 e2)
theorem b_if_eq_f {a : Int32} (hd : DecJ y pc (.ifCond .eq) pc2 tgt) (ha : ¬ a = 0) (K : BR d y X q t z h v0 pc2 ls (st)) : BR d y X q t z h v0 pc ls (.int a :: st) := by
  intro l p e R s m args below meth c H locs cells slots mc ms L F hS hR hq hl e1 e2
  obtain ⟨off, hd, rfl, ht⟩ := hd
  exact lv_if_eq F.1.1 F.1.2.1 (x := a) hd ht (fun w => absurd w ha) (fun _ => K l p e R s m args below meth c H locs cells slots mc ms L F hS hR hq hl e1 e2)
theorem b_if_ne_f {a : Int32} (hd : DecJ y pc (.ifCond .ne) pc2 tgt) (ha : a = 0) (K : BR d y X q t z h v0 pc2 ls (st)) : BR d y X q t z h v0 pc ls (.int a :: st) := by
  intro l p e R s m args below meth c H locs cells slots mc ms L F hS hR hq hl e1 e2
  obtain ⟨off, hd, rfl, ht⟩ := hd
  exact lv_if_ne F.1.1 F.1.2.1 (x := a) hd ht (fun w => absurd ha w) (fun _ => K l p e R s m args below meth c H locs cells slots mc ms L F hS hR hq hl e1 e2)
theorem b_if_lt_f {a : Int32} (hd : DecJ y pc (.ifCond .lt) pc2 tgt) (ha : ¬ a < 0) (K : BR d y X q t z h v0 pc2 ls (st)) : BR d y X q t z h v0 pc ls (.int a :: st) := by
  intro l p e R s m args below meth c H locs cells slots mc ms L F hS hR hq hl e1 e2
  obtain ⟨off, hd, rfl, ht⟩ := hd
  exact lv_if_lt F.1.1 F.1.2.1 (x := a) hd ht (fun w => absurd w ha) (fun _ => K l p e R s m args below meth c H locs cells slots mc ms L F hS hR hq hl e1 e2)
theorem b_icmp_lt_t {a b : Int32} (hd : DecJ y pc (.if_icmp .lt) pc2 tgt) (ha : a < b) (K : BR d y X q t z h v0 tgt ls (st)) : BR d y X q t z h v0 pc ls (.int b :: .int a :: st) := by
  intro l p e R s m args below meth c H locs cells slots mc ms L F hS hR hq hl e1 e2
  obtain ⟨off, hd, rfl, ht⟩ := hd
  exact lv_icmp_lt F.1.1 F.1.2.1 (x := a) (y := b) hd ht (fun _ => K l p e R s m args below meth c H locs cells slots mc ms L F hS hR hq hl e1 e2) (fun w => absurd ha w)
theorem b_goto (hd : DecJ y pc .goto pc2 tgt) (K : BR d y X q t z h v0 tgt ls st) : BR d y X q t z h v0 pc ls st := by
  intro l p e R s m args below meth c H locs cells slots mc ms L F hS hR hq hl e1 e2
  obtain ⟨off, hd, -, ht⟩ := hd
  exact lv_goto F.1.1 F.1.2.1 hd ht (K l p e R s m args below meth c H locs cells slots mc ms L F hS hR hq hl e1 e2)
theorem b_ireturn {v : Int32} {ty : FieldType} (hd : Dec y pc .ireturn 1 pc2) (hr : y.2.2.2 = some ty) (hn : narrow ty (.int v) = .int v) (hv : v0 = some (.int v)) : BR d y X q t z h v0 pc ls [.int v] := by
  intro l p e R s m args below meth c H locs cells slots mc ms L F hS hR hq hl e1 e2
  subst e1
  subst e2
  have hlocks : meth.locks = false := F.2.2.1
  exact W.zret (v := v) F.1.1 F.1.2.1 (F.2.1.trans hr) hn (fun u hu hW => ⟨some (.int v), h, rfl, ⟨hv.symm, rfl⟩, by rw [hu]; exact hR⟩) hq hd.1
theorem b_return (hd : Dec y pc .return_ 1 pc2) (hr : y.2.2.2 = none) (hv : v0 = none) : BR d y X q t z h v0 pc ls [] := by
  intro l p e R s m args below meth c H locs cells slots mc ms L F hS hR hq hl e1 e2
  subst e1
  subst e2
  have hlocks : meth.locks = false := F.2.2.1
  exact W.vret F.1.1 F.1.2.1 (F.2.1.trans hr) (fun u hu hW => ⟨none, h, rfl, ⟨hv.symm, rfl⟩, by rw [hu]; exact hR⟩) hq hd.1
theorem b_compact {idx : Nat} (hd : Dec y pc (.getstatic idx) 3 pc2) (hk : Cond.fieldLink y.1.cls idx "java/lang/String" "COMPACT_STRINGS" "Z" ∈ WS) (K : BR d y X q t z h v0 pc2 ls (.int 1 :: st)) : BR d y X q t z h v0 pc ls st := by
  intro l p e R s m args below meth c H locs cells slots mc ms L F hS hR hq hl e1 e2
  obtain ⟨hd, rfl⟩ := hd
  obtain ⟨cf, kf, fi, f, a, cell, h1, h2, h3, h4, h5, h6, h7, h8⟩ := hS.2.2.2.2.2.1.kept hR.old
  exact W.gets F.1.1 F.1.2.1 F.1.2.2.2.1 (F.1.2.2.2.2 _ hk) h1 h2 h3 h4 h5 (fun w => by rw [w] at h6; cases h6) h7 rfl hd (K l p e R s m args below meth c H locs cells slots mc ms L F hS hR hq hl e1 e2)
theorem b_format {idx : Nat} (hd : Dec y pc (.getstatic idx) 3 pc2) (hk : Cond.fieldLink y.1.cls idx "jdk/internal/util/Preconditions" "SIOOBE_FORMATTER" "Ljava/util/function/BiFunction;" ∈ WS) (K : ∀ w : Value, w.category = 1 → BR d y X q t z h v0 pc2 ls (w :: st)) : BR d y X q t z h v0 pc ls st := by
  intro l p e R s m args below meth c H locs cells slots mc ms L F hS hR hq hl e1 e2
  obtain ⟨hd, rfl⟩ := hd
  rcases hS.2.2.2.2.2.2.kept hR.old with hZ | ⟨u, hZ⟩
  · obtain ⟨cf, kf, fi, f, a, cell, h1, h2, h3, h4, h5, h6, h7, h8⟩ := hZ
    exact W.gets F.1.1 F.1.2.1 F.1.2.2.2.1 (F.1.2.2.2.2 _ hk) h1 h2 h3 h4 h5 (fun w => by rw [w] at h6; cases h6) h7 rfl hd (K .null rfl l p e R s m args below meth c H locs cells slots mc ms L F hS hR hq hl e1 e2)
  · obtain ⟨cf, kf, fi, f, a, cell, h1, h2, h3, h4, h5, h6, h7, h8⟩ := hZ
    exact W.gets F.1.1 F.1.2.1 F.1.2.2.2.1 (F.1.2.2.2.2 _ hk) h1 h2 h3 h4 h5 (fun w => by rw [w] at h6; cases h6) h7 rfl hd (K (.ref u) rfl l p e R s m args below meth c H locs cells slots mc ms L F hS hR hq hl e1 e2)
theorem b_coder {idx : Nat} (hd : Dec y pc (.getfield idx) 3 pc2) (hk : Cond.fieldLink y.1.cls idx "java/lang/String" "coder" "B" ∈ WS) (K : BR d y X q t z h v0 pc2 ls (.int 0 :: st)) : BR d y X q t z h v0 pc ls (.ref q :: st) := by
  intro l p e R s m args below meth c H locs cells slots mc ms L F hS hR hq hl e1 e2
  obtain ⟨hd, rfl⟩ := hd
  obtain ⟨cf, k, fi, f, cell, h1, h2, h3, h4, h5, h6⟩ := hS.2.2.1.kept hR.old
  exact W.getf F.1.1 F.1.2.1 F.1.2.2.2.1 (F.1.2.2.2.2 _ hk) h1 h2 h3 h4 (v := .int 0) h5 rfl rfl hd (K l p e R s m args below meth c H locs cells slots mc ms L F hS hR hq hl e1 e2)
theorem b_value {idx : Nat} (hd : Dec y pc (.getfield idx) 3 pc2) (hk : Cond.fieldLink y.1.cls idx "java/lang/String" "value" "[B" ∈ WS) (K : BR d y X q t z h v0 pc2 ls (.ref t :: st)) : BR d y X q t z h v0 pc ls (.ref q :: st) := by
  intro l p e R s m args below meth c H locs cells slots mc ms L F hS hR hq hl e1 e2
  obtain ⟨hd, rfl⟩ := hd
  obtain ⟨cf, k, fi, f, cell, h1, h2, h3, h4, h5, h6⟩ := hS.2.2.2.1.kept hR.old
  exact W.getf F.1.1 F.1.2.1 F.1.2.2.2.1 (F.1.2.2.2.2 _ hk) h1 h2 h3 h4 (v := .ref t) h5 rfl rfl hd (K l p e R s m args below meth c H locs cells slots mc ms L F hS hR hq hl e1 e2)
theorem b_alen (hd : Dec y pc .arraylength 1 pc2) (K : BR d y X q t z h v0 pc2 ls (.int 33 :: st)) : BR d y X q t z h v0 pc ls (.ref t :: st) := by
  intro l p e R s m args below meth c H locs cells slots mc ms L F hS hR hq hl e1 e2
  obtain ⟨hd, rfl⟩ := hd
  obtain ⟨cell, h1, h2, h3, h4, h5, h6, h7⟩ := hS.2.2.2.2.1.kept hR.old
  exact W.alen (n := 33) F.1.1 F.1.2.1 h1 h2 h5 rfl rfl hd (K l p e R s m args below meth c H locs cells slots mc ms L F hS hR hq hl e1 e2)
theorem b_baload {j : Nat} (hd : Dec y pc .baload 1 pc2) (hj : j < 33) (K : BR d y X q t z h v0 pc2 ls (.int (sB.getD j 0) :: st)) : BR d y X q t z h v0 pc ls (.int (ii (j : Int)) :: .ref t :: st) := by
  intro l p e R s m args below meth c H locs cells slots mc ms L F hS hR hq hl e1 e2
  obtain ⟨hd, rfl⟩ := hd
  obtain ⟨cell, h1, h2, h3, h4, h5, h6, h7⟩ := hS.2.2.2.2.1.kept hR.old
  have hb : B3 (j : Int) := ⟨by omega, by omega⟩
  have hcn : (ii (j : Int)).toNatClampNeg = j := by rw [ii_clamp hb]; omega
  refine W.bald (v := .int (sB.getD j 0)) F.1.1 F.1.2.1 h1 h2 h3 (fun w => ?_) (by rw [hcn]; exact h6 j hj) rfl rfl hd (K l p e R s m args below meth c H locs cells slots mc ms L F hS hR hq hl e1 e2)
  rcases w with w | w
  · rw [← ii_zero, ii_lt hb ⟨by omega, by omega⟩] at w; omega
  · rw [hcn] at w; omega
theorem b_invV {d' idx n : Nat} {y' : Mt} {as rest : List Value} {v : Option Value} (hd : Dec y pc (.invokevirtual idx) 3 pc2) (hk : LV y.1.cls idx y') (hm : MI y' n) (hC : y'.1.cls = "java/lang/String") (hc : Cr d' y' X q t (.ref q :: as) z h v) (hn : as.length = n) (hdd : d' + 1 ≤ d) (hml : Nat.ble y'.2.2.1 21 = true) (hst : st = as.reverse ++ .ref q :: rest) (hcat : Nat.ble ((rest.map fun v => v.category).sum) 8 = true)
    (K : BR d y X q t z h v0 pc2 ls ((v.map (vr X)).toList ++ rest)) : BR d y X q t z h v0 pc ls st := by
  intro l p e R s m args below meth c H locs cells slots mc ms L F hS hR hq hl e1 e2
  obtain ⟨hd, rfl⟩ := hd
  have hts := F.1.2.2.2.2
  refine raw_call (va_runV (As := as) (n := n) (C := y'.1.cls) F.1 (hc l) ⟨callB_of n hts (gws hm.1.1) rfl rfl rfl (hts _ hm.1.2) (hts _ hk.1) hm.2 (room_ok hdd hml F.2.2.2.2.2.1 F.2.2.2.2.2.2.1), hts _ hk.2.1, hts _ hk.2.2⟩ ⟨blindR X q t (.ref q :: as) z h, ?_, fun U hU hW => ⟨rfl, ⟨Kn.warm hW F.2.2.2.2.1, Sx.warm hW hS⟩, by rw [hU]; exact hR⟩⟩ rfl hn hl.1 hst (by show 2 * 0 + _ ≤ 8; have := Nat.le_of_ble_eq_true hcat; omega) hd ?_) hq (fun H1 locs1 hR1 hq1 => K l p e R s m args below meth c H1 locs1 cells slots mc ms L F hS hR1 hq1 hl e1 e2)
  · obtain ⟨cell, h1, h2, h3, h4⟩ := hS.2.1.kept hR.old
    exact ⟨cell, h1, h2, by rw [hC]; exact h3⟩
  · have := F.2.2.2.2.2.2.2.1
    have := F.2.2.2.2.2.2.2.2
    constructor <;> omega
theorem b_invS {d' idx n : Nat} {y' : Mt} {as rest : List Value} {v : Option Value} (hd : Dec y pc (.invokestatic idx) 3 pc2) (hk : LTS y.1.cls idx y') (hm : MI y' n) (hc : Cr d' y' X q t as z h v) (hn : as.length = n) (hdd : d' + 1 ≤ d) (hml : Nat.ble y'.2.2.1 21 = true) (hst : st = as.reverse ++ rest) (hcat : Nat.ble ((rest.map fun v => v.category).sum) 8 = true)
    (K : BR d y X q t z h v0 pc2 ls ((v.map (vr X)).toList ++ rest)) : BR d y X q t z h v0 pc ls st := by
  intro l p e R s m args below meth c H locs cells slots mc ms L F hS hR hq hl e1 e2
  obtain ⟨hd, rfl⟩ := hd
  have hts := F.1.2.2.2.2
  refine raw_call (va_runS (As := as) (n := n) F.1 (hc l) ⟨callB_of n hts (gws hm.1.1) rfl rfl rfl (hts _ hm.1.2) (hts _ hk.1) hm.2 (room_ok hdd hml F.2.2.2.2.2.1 F.2.2.2.2.2.2.1), hts _ hk.2⟩ ⟨blindR X q t as z h, fun U hU hW => ⟨rfl, ⟨Kn.warm hW F.2.2.2.2.1, Sx.warm hW hS⟩, by rw [hU]; exact hR⟩⟩ rfl hn hl.1 hst (by show 2 * 0 + _ ≤ 8; have := Nat.le_of_ble_eq_true hcat; omega) hd ?_) hq (fun H1 locs1 hR1 hq1 => K l p e R s m args below meth c H1 locs1 cells slots mc ms L F hS hR1 hq1 hl e1 e2)
  have := F.2.2.2.2.2.2.2.1
  have := F.2.2.2.2.2.2.2.2
  constructor <;> omega
/-! the methods -/
theorem sB_ok : ∀ j : Fin 33, ((sB.getD j.val 0 &&& 255).toUInt32 % 65536).toInt32 = sB.getD j.val 0 ∧ (Int8.ofInt (sB.getD j.val 0).toInt).toInt32 = sB.getD j.val 0 ∧ 0 ≤ (sB.getD j.val 0).toInt ∧ (sB.getD j.val 0).toInt ≤ 127 := by decide +kernel
theorem sB_nar : ∀ j : Fin 33, narrow .char (.int (sB.getD j.val 0)) = .int (sB.getD j.val 0) := by decide +kernel
theorem s_coder : Cr 0 m_J0_coder_7d493 X q t [.ref q] z h (some (.int 0)) := by
  refine Cr.of (by decide +kernel) (by show 1 ≤ 1; omega) ?_
  refine b_compact D_J0_coder_7d493_0 (wm 230 (by decide +kernel) (by decide +kernel)) ?_
  refine b_if_eq_f D_J0_coder_7d493_3 (by decide) ?_
  refine b_aload D_J0_coder_7d493_6 rfl ?_
  refine b_coder D_J0_coder_7d493_7 (wm 958 (by decide +kernel) (by decide +kernel)) ?_
  refine b_goto D_J0_coder_7d493_10 ?_
  exact b_ireturn D_J0_coder_7d493_14 rfl (by decide +kernel) rfl
theorem s_latin : Cr 0 m_J0_isLatin1_aae02 X q t [.ref q] z h (some (.int 1)) := by
  refine Cr.of (by decide +kernel) (by show 1 ≤ 1; omega) ?_
  refine b_compact D_J0_isLatin1_aae02_0 (wm 230 (by decide +kernel) (by decide +kernel)) ?_
  refine b_if_eq_f D_J0_isLatin1_aae02_3 (by decide) ?_
  refine b_aload D_J0_isLatin1_aae02_6 rfl ?_
  refine b_coder D_J0_isLatin1_aae02_7 (wm 958 (by decide +kernel) (by decide +kernel)) ?_
  refine b_if_ne_f D_J0_isLatin1_aae02_10 rfl ?_
  refine b_iconst D_J0_isLatin1_aae02_13 ?_
  refine b_goto D_J0_isLatin1_aae02_14 ?_
  exact b_ireturn D_J0_isLatin1_aae02_18 rfl (by decide +kernel) rfl
theorem s_length : Cr 1 m_J0_length_8abf5 X q t [.ref q] z h (some (.int 33)) := by
  refine Cr.of (by decide +kernel) (by show 1 ≤ 1; omega) ?_
  refine b_aload D_J0_length_8abf5_0 rfl ?_
  refine b_value D_J0_length_8abf5_1 (wm 957 (by decide +kernel) (by decide +kernel)) ?_
  refine b_alen D_J0_length_8abf5_4 ?_
  refine b_aload D_J0_length_8abf5_5 rfl ?_
  refine b_invV D_J0_length_8abf5_6 l_J0_335 mi_J0_coder_7d493 rfl s_coder rfl (by omega) rfl (as := []) (rest := [.int 33]) rfl rfl ?_
  refine b_ishr D_J0_length_8abf5_9 ?_
  exact b_ireturn D_J0_length_8abf5_10 rfl (by decide +kernel) (by decide +kernel)
theorem s_pre {j : Nat} (hj : j < 33) {w : Value} (hw : w.category = 1) : Cr 0 m_J3_checkIndex_8e157 X q t [.int (ii (j : Int)), .int 33, w] z h (some (.int (ii (j : Int)))) := by
  have hb : B3 (j : Int) := ⟨by omega, by omega⟩
  refine Cr.of (by decide +kernel) ?_ ?_
  · show (lg_sl [.int (ii (j : Int)), .int 33, w]).length ≤ 3
    simp only [lg_sl, List.flatMap_cons, List.flatMap_nil, List.length_append, hw]
    show 1 + (1 + (1 + 0)) ≤ 3
    omega
  have hla : lv_args 0 [.int (ii (j : Int)), .int 33, w] = [(0, .int (ii (j : Int))), (1, .int 33), (2, w)] := rfl
  rw [hla]
  refine b_iload D_J3_checkIndex_8e157_0 rfl ?_
  refine b_if_lt_f D_J3_checkIndex_8e157_1 (fun q => by rw [← ii_zero, ii_lt hb ⟨by omega, by omega⟩] at q; omega) ?_
  refine b_iload D_J3_checkIndex_8e157_4 rfl ?_
  refine b_iload D_J3_checkIndex_8e157_5 rfl ?_
  refine b_icmp_lt_t D_J3_checkIndex_8e157_6 (by rw [show (33 : Int32) = ii 33 from rfl, ii_lt hb ⟨by omega, by omega⟩]; omega) ?_
  refine b_iload D_J3_checkIndex_8e157_16 rfl ?_
  exact b_ireturn D_J3_checkIndex_8e157_17 rfl rfl rfl
theorem s_check {j : Nat} (hj : j < 33) : Cr 1 m_J0_checkIndex_df160 X q t [.int (ii (j : Int)), .int 33] z h none := by
  refine Cr.of (by decide +kernel) (by show 2 ≤ 2; omega) ?_
  refine b_iload D_J0_checkIndex_df160_0 rfl ?_
  refine b_iload D_J0_checkIndex_df160_1 rfl ?_
  refine b_format D_J0_checkIndex_df160_2 (wm 246 (by decide +kernel) (by decide +kernel)) (fun w hw => ?_)
  refine b_invS D_J0_checkIndex_df160_5 l_J0_1059 mi_J3_checkIndex_8e157 (s_pre hj hw) rfl (by omega) rfl (rest := []) rfl rfl ?_
  refine b_pop D_J0_checkIndex_df160_8 rfl ?_
  exact b_return D_J0_checkIndex_df160_9 rfl rfl
theorem s_latAt {j : Nat} (hj : j < 33) : Cr 2 m_J1_charAt_3b067 X q t [.ref t, .int (ii (j : Int))] z h (some (.int (sB.getD j 0))) := by
  refine Cr.of (by decide +kernel) (by show 2 ≤ 2; omega) ?_
  refine b_iload D_J1_charAt_3b067_0 rfl ?_
  refine b_aload D_J1_charAt_3b067_1 rfl ?_
  refine b_alen D_J1_charAt_3b067_2 ?_
  refine b_invS D_J1_charAt_3b067_3 l_J1_9 mi_J0_checkIndex_df160 (s_check hj) rfl (by omega) rfl (rest := []) rfl rfl ?_
  refine b_aload D_J1_charAt_3b067_6 rfl ?_
  refine b_iload D_J1_charAt_3b067_7 rfl ?_
  refine b_baload D_J1_charAt_3b067_8 hj ?_
  refine b_sipush D_J1_charAt_3b067_9 (w := 255) (by decide +kernel) ?_
  refine b_iand D_J1_charAt_3b067_12 ?_
  refine b_i2c D_J1_charAt_3b067_13 (sB_ok ⟨j, hj⟩).1 ?_
  exact b_ireturn D_J1_charAt_3b067_14 rfl (sB_nar ⟨j, hj⟩) rfl
theorem s_charAt {j : Nat} (hj : j < 33) : Cr 3 m_J0_charAt_5068e X q t [.ref q, .int (ii (j : Int))] z h (some (.int (sB.getD j 0))) := by
  refine Cr.of (by decide +kernel) (by show 2 ≤ 2; omega) ?_
  refine b_aload D_J0_charAt_5068e_0 rfl ?_
  refine b_invV D_J0_charAt_5068e_1 l_J0_492 mi_J0_isLatin1_aae02 rfl s_latin rfl (by omega) rfl (as := []) (rest := []) rfl rfl ?_
  refine b_if_eq_f D_J0_charAt_5068e_4 (by decide) ?_
  refine b_aload D_J0_charAt_5068e_7 rfl ?_
  refine b_value D_J0_charAt_5068e_8 (wm 957 (by decide +kernel) (by decide +kernel)) ?_
  refine b_iload D_J0_charAt_5068e_11 rfl ?_
  refine b_invS D_J0_charAt_5068e_12 l_J0_495 mi_J1_charAt_3b067 (s_latAt hj) rfl (by omega) rfl (rest := []) rfl rfl ?_
  exact b_ireturn D_J0_charAt_5068e_15 rfl (sB_nar ⟨j, hj⟩) rfl
end XT
/-! the constructor's two uses of it -/
def sC (j : Nat) : Int := (sB.getD j 0).toInt
section XU
variable {d : Nat} {y : Mt} {zf : Nat × Nat} {Q : Option Value → Hp → Prop} {z : Nat × Nat} {h : Hp} {pc pc1 pc2 pc3 : Nat} {ls : List (Nat × Value)} {st : List Value}
theorem x_strLen (hd1 : Dec y pc (.ldc 61) 2 pc1) (hd2 : Dec y pc1 (.invokevirtual 63) 3 pc2) (hy : y.1.cls = "WhileSaltMelts") (hdd : 2 ≤ d) (hcat : Nat.ble ((st.map fun v => v.category).sum) 8 = true) (K : WW d y zf Q z h pc2 ls (vi 33 :: st)) : WW d y zf Q z h pc ls st := by
  intro X l p e R s m args below meth c H locs cells slots mc ms L F hR hq hl e1 e2 e3 e4
  obtain ⟨hd1, rfl⟩ := hd1
  obtain ⟨hd2, rfl⟩ := hd2
  obtain ⟨q, t, hS⟩ := F.2.2.2.2.1.2.2.2.2
  have hts := F.1.2.2.2.2
  have hk : LV y.1.cls 63 m_J0_length_8abf5 := by rw [hy]; exact l_5_63
  have hown : s.vm.findClass "WhileSaltMelts" = some m.cls := by rw [← hy]; exact F.1.2.2.2.1
  refine va_ldcS F.1.1 F.1.2.1 hown hS.1 hd1 ?_
  refine raw_call (va_runV (As := []) (n := 0) (C := "java/lang/String") F.1 (s_length (X := X) (q := q) (t := t) (z := z) (h := h) l) ⟨callB_of 0 hts (gws mi_J0_length_8abf5.1.1) rfl rfl rfl (hts _ mi_J0_length_8abf5.1.2) (hts _ hk.1) mi_J0_length_8abf5.2 (room_ok hdd rfl F.2.2.2.2.2.1 F.2.2.2.2.2.2.1), hts _ hk.2.1, hts _ hk.2.2⟩ ⟨blindR X q t [.ref q] z h, ?_, fun U hU hW => ⟨rfl, ⟨Kn.warm hW F.2.2.2.2.1, Sx.warm hW hS⟩, by rw [hU]; exact hR⟩⟩ rfl rfl hl.1 rfl (by rw [cat_vr]; show 2 * 0 + _ ≤ 8; have := Nat.le_of_ble_eq_true hcat; omega) hd2 ?_) hq (fun H1 locs1 hR1 hq1 => K X l p e R s m args below meth c H1 locs1 cells slots mc ms L F hR1 hq1 hl e1 e2 e3 e4)
  · obtain ⟨cell, h1, h2, h3, h4⟩ := hS.2.1.kept hR.old
    exact ⟨cell, h1, h2, h3⟩
  · have := F.2.2.2.2.2.2.2.1
    have := F.2.2.2.2.2.2.2.2
    constructor <;> omega
theorem x_strAt {k : Fin 4} {j : Nat} (hd1 : Dec y pc (.ldc 61) 2 pc1) (hd0 : Dec y pc1 (.iload_n k) 1 pc2) (hd2 : Dec y pc2 (.invokevirtual 69) 3 pc3) (hy : y.1.cls = "WhileSaltMelts") (hv : lg ls (k : Nat) = some (vi (j : Int))) (hj : j < 33) (hdd : 4 ≤ d) (hcat : Nat.ble ((st.map fun v => v.category).sum) 8 = true) (K : WW d y zf Q z h pc3 ls (vi (sC j) :: st)) : WW d y zf Q z h pc ls st := by
  intro X l p e R s m args below meth c H locs cells slots mc ms L F hR hq hl e1 e2 e3 e4
  obtain ⟨hd1, rfl⟩ := hd1
  obtain ⟨hd0, rfl⟩ := hd0
  obtain ⟨hd2, rfl⟩ := hd2
  obtain ⟨q, t, hS⟩ := F.2.2.2.2.1.2.2.2.2
  have hts := F.1.2.2.2.2
  have hk : LV y.1.cls 69 m_J0_charAt_5068e := by rw [hy]; exact l_5_69
  have hown : s.vm.findClass "WhileSaltMelts" = some m.cls := by rw [← hy]; exact F.1.2.2.2.1
  refine va_ldcS F.1.1 F.1.2.1 hown hS.1 hd1 ?_
  refine lv_iload_n F.1.1 F.1.2.1 hd0 rfl (lh_at hl hv) ?_
  have hK := fun (H1 : Heap) (locs1 : List Loc) (hR1 : Rp X z h H1) (hq1 : ∀ q ∈ locs1, FX X q.base) => K X l p e R s m args below meth c H1 locs1 cells slots mc ms L F hR1 hq1 hl e1 e2 e3 e4
  have hsC : vi (sC j) = .int (sB.getD j 0) := congrArg Value.int (ii_toInt _)
  rw [hsC] at hK
  refine raw_call (va_runV (As := [.int (ii (j : Int))]) (n := 1) (C := "java/lang/String") F.1 (s_charAt (X := X) (q := q) (t := t) (z := z) (h := h) hj l) ⟨callB_of 1 hts (gws mi_J0_charAt_5068e.1.1) rfl rfl rfl (hts _ mi_J0_charAt_5068e.1.2) (hts _ hk.1) mi_J0_charAt_5068e.2 (room_ok hdd rfl F.2.2.2.2.2.1 F.2.2.2.2.2.2.1), hts _ hk.2.1, hts _ hk.2.2⟩ ⟨blindR X q t [.ref q, .int (ii (j : Int))] z h, ?_, fun U hU hW => ⟨rfl, ⟨Kn.warm hW F.2.2.2.2.1, Sx.warm hW hS⟩, by rw [hU]; exact hR⟩⟩ rfl rfl hl.1 rfl (by rw [cat_vr]; show 2 * 0 + _ ≤ 8; have := Nat.le_of_ble_eq_true hcat; omega) hd2 ?_) hq hK
  · obtain ⟨cell, h1, h2, h3, h4⟩ := hS.2.1.kept hR.old
    exact ⟨cell, h1, h2, h3⟩
  · have := F.2.2.2.2.2.2.2.1
    have := F.2.2.2.2.2.2.2.2
    constructor <;> omega
end XU
