/-! multianewarray of two sizes, over the model's own step: the outer array full of null; then, row by row, an array of ints is made and its number put in its place -/
/-- the outer array (cell o) when i rows stand -/
def mn_at (o i j : Nat) : Value := va_rf (if j < i then some (o + 1 + j) else none)
theorem mn_at_zero (o : Nat) : mn_at o 0 = fun _ => Value.null := by
  funext j
  simp [mn_at, va_rf]
theorem mn_at_succ (o i : Nat) : updV (mn_at o i) i (.ref (o + 1 + i)) = mn_at o (i + 1) := by
  funext j
  by_cases e : j = i
  · subst e
    simp [updV, mn_at, va_rf]
  · by_cases q : j < i
    · simp [updV, mn_at, e, q, Nat.lt_succ_of_lt q]
    · simp [updV, mn_at, e, q, show ¬ j < i + 1 by omega]
/-- a row: k ints, all 0 -/
abbrev mn_line (cI : ClassId) (k : Nat) : Cell := arrV cI k (fun _ => .int 0)
/-- the state when i rows stand -/
def mn_st (U : State) (cA cI : ClassId) (n k : Nat) : Nat → State
  | 0 => U.pushCell (arrV cA n (mn_at U.heap.size 0))
  | i + 1 => ((mn_st U cA cI n k i).pushCell (mn_line cI k)).setCell U.heap.size (arrV cA n (mn_at U.heap.size (i + 1)))
theorem mn_st_is (U : State) (cA cI : ClassId) (n k : Nat) (i : Nat) : (mn_st U cA cI n k i).heap.size = U.heap.size + 1 + i ∧ (mn_st U cA cI n k i).heap[U.heap.size]? = some (arrV cA n (mn_at U.heap.size i)) ∧ (mn_st U cA cI n k i).vm = U.vm ∧ (∀ j, j < i → (mn_st U cA cI n k i).heap[U.heap.size + 1 + j]? = some (mn_line cI k)) ∧ (∀ q, q < U.heap.size → (mn_st U cA cI n k i).heap[q]? = U.heap[q]?) := by
  induction i with
  | zero =>
    refine ⟨by simp [mn_st], by simp [mn_st], rfl, fun j hj => absurd hj (Nat.not_lt_zero j), fun q hq => ?_⟩
    exact State.heap_pushCell_of_lt _ _ hq
  | succ i ih =>
    obtain ⟨z1, c1, v1, r1, o1⟩ := ih
    have c2 : ((mn_st U cA cI n k i).pushCell (mn_line cI k)).heap[U.heap.size]? = some (arrV cA n (mn_at U.heap.size i)) := (State.heap_pushCell_of_lt _ _ (show U.heap.size < (mn_st U cA cI n k i).heap.size by omega)).trans c1
    refine ⟨?_, State.heap_setCell_self c2, v1, fun j hj => ?_, fun q hq => ?_⟩
    · show (((mn_st U cA cI n k i).heap.push (mn_line cI k)).setIfInBounds U.heap.size _).size = _
      rw [Array.size_setIfInBounds, Array.size_push, z1]
      rfl
    · show (((mn_st U cA cI n k i).pushCell (mn_line cI k)).setCell U.heap.size _).heap[U.heap.size + 1 + j]? = _
      rw [State.heap_setCell_other (show U.heap.size ≠ U.heap.size + 1 + j by omega)]
      by_cases e : j = i
      · subst e
        rw [← z1]
        exact State.heap_pushCell_size _ _
      · exact (State.heap_pushCell_of_lt _ _ (show U.heap.size + 1 + j < (mn_st U cA cI n k i).heap.size by omega)).trans (r1 j (by omega))
    · show (((mn_st U cA cI n k i).pushCell (mn_line cI k)).setCell U.heap.size _).heap[q]? = _
      rw [State.heap_setCell_other (show U.heap.size ≠ q by omega)]
      exact (State.heap_pushCell_of_lt _ _ (show q < (mn_st U cA cI n k i).heap.size by omega)).trans (o1 q hq)
theorem mn_st_top (U : State) (f : JFrame) (cA cI : ClassId) (n k : Nat) (i : Nat) : mn_st (U.setTop f) cA cI n k i = (mn_st U cA cI n k i).setTop f := by
  induction i with
  | zero => rfl
  | succ i ih =>
    show ((mn_st (U.setTop f) cA cI n k i).pushCell (mn_line cI k)).setCell U.heap.size (arrV cA n (mn_at U.heap.size (i + 1))) = _
    rw [ih]
    rfl
section MN
variable {p : Program} {l : Launch} {e : Env} {R : Room} {s : State} {m : MethodId} {args : Array Value} {below : List Frame} {meth : Method} {c : Code} {H : Heap} {T : State} {locs : List Loc} {cells slots : Nat} {Q : State → Prop}
theorem mn_st_on (X : Stand p l e R s m args below meth c T locs cells slots) (cA cI : ClassId) (n k : Nat) (i : Nat) : Stand p l e R s m args below meth c (mn_st T cA cI n k i) locs (cells + 1 + i) (slots + n + i * k) := by
  induction i with
  | zero =>
    have h := X.pushed (arrV cA n (mn_at T.heap.size 0))
    rw [arrV_size] at h
    rw [Nat.zero_mul]
    exact h
  | succ i ih =>
    obtain ⟨z1, c1, -, -, -⟩ := mn_st_is T cA cI n k i
    have c2 : ((mn_st T cA cI n k i).pushCell (mn_line cI k)).heap[T.heap.size]? = some (arrV cA n (mn_at T.heap.size i)) := (State.heap_pushCell_of_lt _ _ (show T.heap.size < (mn_st T cA cI n k i).heap.size by omega)).trans c1
    have h := ((ih.pushed (mn_line cI k)).stored c2 i (.ref (T.heap.size + 1 + i))).dropFresh (fun q hq => by rw [List.mem_singleton.mp hq]; exact X.heapGrown)
    rw [arrV_store, mn_at_succ, arrV_size] at h
    rw [show slots + n + (i + 1) * k = slots + n + i * k + k by rw [Nat.succ_mul]; omega]
    exact h
section MW
variable {E : CtlPost} {dd : Bool} {acts : List Action} {U : State}
/-- one array is made -/
theorem mn_one {cA comp : ClassId} {r : Class} {ty : FieldType} {n : Nat} {v : Value} (hr : U.vm.classes[cA]? = some r) (hkd : r.kind = .array comp ty) (hl : ¬ n > e.platform.arrayLengthLimit) (hh : ¬ n * componentBytes ty > e.platform.maxHeapBytes) (hf : fits ty v = true) (hv : v.isDefault = true) (h1 : U.heap.size + 1 ≤ e.platform.maxCells) (h2 : U.slotsUsed + n ≤ e.platform.maxSlots) {P : Addr → Pre} (hP : P U.heap.size dd acts (U.pushCell (arrV cA n (fun _ => v)))) : Sem.wp (Jvm.newArray cA n v) P E e dd acts U := by
  have ha : allocActs (Array.replicate n v) U.heap.size acts = acts := by
    unfold allocActs
    rw [if_pos (by rw [Array.all_replicate]; split <;> simp [hv])]
  have hs : ∀ (i : Nat) (w : Value), (Array.replicate n v)[i]? = some w → U.fitsSlot cA .none i w = true := by
    intro i w hw
    obtain ⟨h9, e9⟩ := Array.getElem?_eq_some_iff.mp hw
    rw [Array.getElem_replicate] at e9
    subst e9
    simp [State.fitsSlot, State.slotType?, hr, hkd, hf]
  rw [← arrV_new] at hP
  simp only [Jvm.newArray, Jvm.arrayFits, wp_bind', W.ask, W.ite, hl, if_false, wp_pure', W.theClass, hr, hkd, hh, W.alloc, W.stop, Option.some.injEq, exists_eq_left', Array.size_replicate, ha]
  rw [if_neg (by omega)]
  exact ⟨h1, h2, hs, hP⟩
/-- a row is made -/
theorem mn_row {cI comp : ClassId} {r : Class} {k : Int32} (hr : U.vm.classes[cI]? = some r) (hkd : r.kind = .array comp .int) (h0 : ¬ k < 0) (hl : ¬ k.toNatClampNeg > e.platform.arrayLengthLimit) (hh : ¬ k.toNatClampNeg * 4 > e.platform.maxHeapBytes) (h1 : U.heap.size + 1 ≤ e.platform.maxCells) (h2 : U.slotsUsed + k.toNatClampNeg ≤ e.platform.maxSlots) {P : Addr → Pre} (hP : P U.heap.size dd acts (U.pushCell (mn_line cI k.toNatClampNeg))) : Sem.wp (multianewarray.make cI [k]) P E e dd acts U := by
  rw [multianewarray.make]
  simp only [wp_bind', W.ite, h0, if_false, wp_pure', W.theClass, hr, hkd, Option.some.injEq, exists_eq_left']
  exact mn_one hr hkd hl hh rfl rfl h1 h2 hP
/-- all of it is made -/
theorem mn_make {cA cI comp : ClassId} {r rI : Class} {n k : Int32} (hr : U.vm.classes[cA]? = some r) (hkd : r.kind = .array cI (.array .int)) (hrI : U.vm.classes[cI]? = some rI) (hkI : rI.kind = .array comp .int) (hn : ¬ n < 0) (hk : ¬ k < 0) (hl : ¬ n.toNatClampNeg > e.platform.arrayLengthLimit) (hh : ¬ n.toNatClampNeg * 4 > e.platform.maxHeapBytes) (hlk : ¬ k.toNatClampNeg > e.platform.arrayLengthLimit) (hhk : ¬ k.toNatClampNeg * 4 > e.platform.maxHeapBytes)
    (hroom : ∀ i, i < n.toNatClampNeg → (mn_st U cA cI n.toNatClampNeg k.toNatClampNeg i).heap.size + 1 ≤ e.platform.maxCells ∧ (mn_st U cA cI n.toNatClampNeg k.toNatClampNeg i).slotsUsed + k.toNatClampNeg ≤ e.platform.maxSlots) (h1 : U.heap.size + 1 ≤ e.platform.maxCells) (h2 : U.slotsUsed + n.toNatClampNeg ≤ e.platform.maxSlots)
    {P : Addr → Pre} (hP : ∀ dd' acts', P U.heap.size dd' acts' (mn_st U cA cI n.toNatClampNeg k.toNatClampNeg n.toNatClampNeg)) : Sem.wp (multianewarray.make cA [n, k]) P E e dd acts U := by
  have hfind : ([k].find? (· < 0)) = none := by simp [hk]
  rw [multianewarray.make]
  simp only [wp_bind', W.ite, hn, if_false, wp_pure', W.theClass, hr, hkd, Option.some.injEq, exists_eq_left']
  refine mn_one hr hkd hl hh rfl rfl h1 h2 ?_
  rw [← mn_at_zero U.heap.size]
  generalize hN : n.toNatClampNeg = N at hroom hP
  simp only [hfind]
  rw [ite_self, wp_bind', Std.Legacy.Range.forIn_eq_forIn_range', show ([:N] : Std.Legacy.Range).size = N by simp [Std.Legacy.Range.size]]
  show Sem.wp (forIn (List.range' 0 N 1) PUnit.unit _) _ E e dd acts (mn_st U cA cI N k.toNatClampNeg 0)
  refine wp_forIn_inv (fun left V => ∃ i, i + left.length = N ∧ left = List.range' i left.length ∧ V = mn_st U cA cI N k.toNatClampNeg i) _ _ ⟨0, by simp, by simp, rfl⟩ ?_ ?_
  · rintro x left V d' acts' Q' ⟨i, hi, hl', rfl⟩ next
    rw [List.length_cons] at hi
    rw [List.length_cons, List.range'_succ] at hl'
    obtain ⟨rfl, hl2⟩ := List.cons.inj hl'
    obtain ⟨z1, c1, v1, -, -⟩ := mn_st_is U cA cI N k.toNatClampNeg x
    obtain ⟨m1, m2⟩ := hroom x (by omega)
    simp only [wp_bind']
    refine mn_row (by rw [v1]; exact hrI) hkI hk hlk hhk m1 m2 ?_
    simp only [wp_bind', W.writeLoc, wp_pure']
    refine ⟨arrV cA N (mn_at U.heap.size x), (State.heap_pushCell_of_lt _ _ (show U.heap.size < (mn_st U cA cI N k.toNatClampNeg x).heap.size by omega)).trans c1, by simp [arrV], by rw [arrV_size]; omega, ?_, next _ _ _ ⟨x + 1, by omega, hl2, ?_⟩⟩
    · simp [State.fitsSlot, State.slotType?, arrV, v1, hr, hkd, fits]
    · rw [arrV_store, z1, mn_at_succ]
      rfl
  · rintro V d' acts' ⟨i, hi, -, rfl⟩
    obtain rfl : i = N := by simpa using hi
    simp only [wp_pure']
    exact hP _ _
end MW
/-- multianewarray of two sizes -/
theorem W_mna {cc : ByteArray} (hexec : p.tables.exec = Jvm.exec) (hb : c.code = cc) {own : String} {index : Nat} (hown : s.vm.findClass own = some m.cls) (hclink : (Cond.classLink own index ("[" ++ (FieldType.array .int).toString)).before args s = true) (hover : (Cond.arrayOver (.array .int)).before args s = true) (hint : (Cond.arrayClass .int).before args s = true)
    {g : JFrame} (hg : g.method = m) (hdg : decode cc g.pc = .ok (.multianewarray index 2, 4)) {n k : Int32} {N M : Nat} {rest : List Value} (hstack : g.stack = .int k :: .int n :: rest) (hn : ¬ n < 0) (hk : ¬ k < 0) (hN : n.toNatClampNeg = N) (hM : k.toNatClampNeg = M) (hbN : N * 4 ≤ 536870912) (hbM : M * 4 ≤ 536870912) (hcells : cells + (1 + N) ≤ R.cells) (hslots : slots + (N + N * M) ≤ R.slots)
    (kk : ∀ (H' : Heap) (cA cI : ClassId), s.vm.findClass ("[" ++ (FieldType.array .int).toString) = some cA → s.vm.findClass (FieldType.array .int).toString = some cI → H'.size = H.size + 1 + N → H'[H.size]? = some (arrV cA N (mn_at H.size N)) → (∀ j, j < N → H'[H.size + 1 + j]? = some (mn_line cI M)) → (∀ q, q < H.size → H'[q]? = H[q]?) →
      W p l e R s m args below meth c H' locs (cells + 1 + N) (slots + N + N * M) Q { g with pc := g.pc + 4, stack := .ref H.size :: rest }) : W p l e R s m args below meth c H locs cells slots Q g := by
  intro T hT X
  subst hT; subst hb; subst hg; subst hN; subst hM
  have hpl : e.platform.magicAccessors = ({} : Platform).magicAccessors := by rw [X.admits.platform]
  obtain ⟨cI, cA, kA, nI, -, hkA, hkd, nA⟩ := arrayOverA_spec hover
  obtain ⟨cI', kI, comp, nI', hkI, hkdI⟩ := Cond.arrayClass_spec hint
  obtain rfl : cI' = cI := Option.some.inj (nI'.symm.trans nI)
  obtain ⟨cL, nL, hcl⟩ := Cond.classLink_spec hown hclink e.platform hpl
  obtain rfl : cL = cA := Option.some.inj (nL.symm.trans nA)
  obtain ⟨gives, warm, -⟩ := State.classEntry (e := e) X.warmed hcl
  generalize T.vm.noted g.method.cls index (.cls cL) = vm₁ at gives warm
  obtain ⟨kA1, hkA1, eA⟩ := warm.alike.2.2 _ _ hkA
  obtain ⟨kI1, hkI1, eI⟩ := warm.alike.2.2 _ _ hkI
  have X₁ := X.noted warm
  have XF := mn_st_on X₁ cL cI' n.toNatClampNeg k.toNatClampNeg
  obtain ⟨f1, f2, -, f4, f5⟩ := mn_st_is (T.setVm vm₁) cL cI' n.toNatClampNeg k.toNatClampNeg n.toNatClampNeg
  obtain ⟨t, t1, t2⟩ := kk _ cL cI' nA nI f1 f2 f4 f5 _ rfl (XF n.toNatClampNeg)
  refine ⟨t, ?_, t2⟩
  have hl : ∀ q : Nat, q * 4 ≤ 536870912 → ¬ q > e.platform.arrayLengthLimit ∧ ¬ q * 4 > e.platform.maxHeapBytes := fun q hq => by
    rw [Launch.admits_arrayLengthLimit X.admits, Launch.admits_maxHeapBytes X.admits]
    omega
  obtain ⟨r1, r2⟩ := X.roomAbove (a := 1) (b := n.toNatClampNeg) (by omega) (by omega)
  have hroom : ∀ i, i < n.toNatClampNeg → (mn_st (T.setVm vm₁) cL cI' n.toNatClampNeg k.toNatClampNeg i).heap.size + 1 ≤ e.platform.maxCells ∧ (mn_st (T.setVm vm₁) cL cI' n.toNatClampNeg k.toNatClampNeg i).slotsUsed + k.toNatClampNeg ≤ e.platform.maxSlots := fun i hi => by
    have hm := Nat.mul_le_mul_right k.toNatClampNeg (show i + 1 ≤ n.toNatClampNeg from hi)
    rw [Nat.succ_mul] at hm
    exact (XF i).roomAbove (by omega) (by omega)
  jvm_step X.here [hexec, hdg]
  simp only [multianewarray.sem, wp_bind', W.resolveClassAt_links (State.method?_setTop g X.here.top) gives]
  rw [W.popN, if_neg (by decide)]
  refine ⟨g, State.topJava?_setTop' (s := T.setVm vm₁) g X.here.top, [.int n, .int k], rest, rfl, hstack, ?_⟩
  simp only [List.mapM_cons, List.mapM_nil, wp_bind', wp_pure']
  have eS : ((T.setTop g).setVm vm₁).setTop { g with stack := rest } = (T.setVm vm₁).setTop { g with stack := rest } := by
    show ((T.setVm vm₁).setTop g).setTop _ = _
    rw [State.setTop_setTop]
  rw [eS]
  refine mn_make (U := (T.setVm vm₁).setTop { g with stack := rest }) hkA1 (by rw [eA]; exact hkd) hkI1 (by rw [eI]; exact hkdI) hn hk (hl _ hbN).1 (hl _ hbN).2 (hl _ hbM).1 (hl _ hbM).2 (fun i hi => by rw [mn_st_top]; exact hroom i hi) r1 r2 fun d' acts' => ?_
  rw [mn_st_top]
  have htop := (XF n.toNatClampNeg).here.top
  simp only [wp_bind', W.mark, W.pushRef, State.topJava?_setTop' _ htop, Option.some.injEq, exists_eq_left', State.setTop_setTop, State.heap_setTop]
  intro acts
  simp [jvm, htop]
  exact t1
end MN
