/-! making: new cells get the next numbers -/
theorem Rp.push {X : Cx} {z : Nat × Nat} {h : Hp} {H H1 : Heap} (hR : Rp X z h H) {c : Ce} {n : Nat} (he : va_at X.1.1 cls (X.2.2.1 + z.1, rl X c) H1) (hs : H1.size = H.size + 1) (ho : ∀ q : Nat, q < H.size → H1[q]? = H[q]?) : Rp X (z.1 + 1, z.2 + n) (hset h (z.1 + 1) c) H1 := by
  refine ⟨by simp [hset, hR.1], by rw [hs, hR.2.1]; rfl, fun q hq => ?_, fun k c' hk => ?_⟩
  · rw [ho q (by have := hR.2.1; omega)]; exact hR.2.2.1 q hq
  · by_cases e : k = z.1
    · subst e
      simp [hset] at hk
      subst hk
      exact he
    · have hk' : h (k + 1) = some c' := by simpa [hset, e] using hk
      have hat := hR.2.2.2 k c' hk'
      exact hat.kept (ho _ hat.lt)
/-- a class that 'new' makes, and its fields at first -/
def NL (own : String) (idx ci : Nat) (fs : List Value) : Prop := ∃ r : vw_C, cls[ci]? = some r ∧ (Cond.classLink own idx r.1 ∈ WS ∧ Cond.instantiable r.1 r.2.2 ∈ WS ∧ Cond.initialized r.1 ∈ WS) ∧ fs.length = r.2.2 ∧ ∃ ty : Nat → FieldType, (∀ k, k < r.2.2 → parseFieldDescriptor (r.2.1 k).2.2.1 = some (ty k)) ∧ ∀ (X : Cx) (j : Nat), j < r.2.2 → defaultValue (ty j) = vp_V (fs.map (vr X)) j
section XA
variable {d : Nat} {y : Mt} {zf : Nat × Nat} {Q : Option Value → Hp → Prop} {z : Nat × Nat} {h : Hp} {pc pc2 : Nat} {ls : List (Nat × Value)} {st : List Value}
theorem x_new {idx ci : Nat} {fs : List Value} (hd : Dec y pc (.new idx) 3 pc2) (hk : NL y.1.cls idx ci fs) (hz : z.1 + 1 ≤ zf.1 ∧ z.2 + fs.length ≤ zf.2) (K : WW d y zf Q (z.1 + 1, z.2 + fs.length) (hset h (z.1 + 1) (ob ci fs)) pc2 ls (.ref (z.1 + 1) :: st)) : WW d y zf Q z h pc ls st := by
  intro X l p e R s m args below meth c H locs cells slots mc ms L F hR hq hl e1 e2 e3 e4
  obtain ⟨hd, rfl⟩ := hd
  obtain ⟨r, hc, ⟨k1, k2, k3⟩, hlen, ty, hty, hfs⟩ := hk
  have hts := F.1.2.2.2.2
  have hKn := F.2.2.2.2.1.1.1 ci _ hc
  have r3 := F.2.2.2.2.2.2.2.1
  have r4 := F.2.2.2.2.2.2.2.2
  have hsz := hR.2.1
  refine W.newcK F.1.1 F.1.2.1 F.1.2.2.2.1 (hts _ k1) (hts _ k2) (hts _ k3) rfl hd (by omega) (by rw [← hlen]; omega) hKn.2.1 rfl fun H1 kC hkC b1 z1 o1 => ?_
  have hat : va_at X.1.1 cls (X.2.2.1 + z.1, rl X (ob ci fs)) H1 := by
    rw [hsz] at b1
    exact ⟨_, hc, (u_born ty hts (uwAll hc) hKn hkC b1 hty).to (hfs X)⟩
  have hW := K X l p e R s m args below meth c H1 locs (cells + 1) (slots + fs.length) mc ms L F (hR.push hat z1 o1) hq hl (by show cells + 1 + zf.1 = mc + (z.1 + 1); omega) (by show slots + fs.length + zf.2 = ms + (z.2 + fs.length); omega) hz.1 hz.2
  rw [← hlen, hsz]
  exact hW
theorem ia_new {X : Cx} {z : Nat × Nat} {H H1 : Heap} {h : Hp} (hR : Rp X z h H) {t n : Nat} {cA : ClassId} (hc : cA = X.1.2.1 t) (e : H1[H.size]? = some (arrV cA n (fun _ => .int 0))) : va_at X.1.1 cls (X.2.2.1 + z.1, rl X (ia t n (fun _ => 0))) H1 := by
  rw [hR.2.1] at e
  subst hc
  refine e.trans ?_
  show _ = some (arrV (X.1.2.1 t) n (fun j => .int (ii (if 0 ≤ (j : Int) ∧ (j : Int) < (n : Int) then 0 else 0))))
  congr 2
  funext j
  split <;> rfl
theorem wint : Cond.arrayClass .int ∈ WS := wm 39 (by decide +kernel) (by decide +kernel)
theorem wbyte : Cond.arrayClass .byte ∈ WS := wm 38 (by decide +kernel) (by decide +kernel)
theorem x_newI {n : Nat} {m0 : Int} (hd : Dec y pc (.newarray .int) 2 pc2) (hm0 : m0 = (n : Int)) (hn : Nat.ble n 100000 = true) (hz : z.1 + 1 ≤ zf.1 ∧ z.2 + n ≤ zf.2) (K : WW d y zf Q (z.1 + 1, z.2 + n) (hset h (z.1 + 1) (ia 0 n (fun _ => 0))) pc2 ls (.ref (z.1 + 1) :: st)) : WW d y zf Q z h pc ls (vi m0 :: st) := by
  subst hm0
  intro X l p e R s m args below meth c H locs cells slots mc ms L F hR hq hl e1 e2 e3 e4
  obtain ⟨hd, rfl⟩ := hd
  have hn' := Nat.le_of_ble_eq_true hn
  have hts := F.1.2.2.2.2
  have r3 := F.2.2.2.2.2.2.2.1
  have r4 := F.2.2.2.2.2.2.2.2
  have hsz := hR.2.1
  have hb : B3 (n : Int) := ⟨by omega, by omega⟩
  refine va_newaK (atype := .int) F.1.1 F.1.2.1 (hts _ wint) rfl hd rfl (n := ii (n : Int)) (fun q => ?_) (N := n) (by rw [ii_clamp hb]; omega) (by show n * 4 ≤ 536870912; omega) (by omega) (by omega) rfl fun H1 cA b1 z1 o1 hA hN => ?_
  · rw [← ii_zero, ii_lt hb ⟨by omega, by omega⟩] at q; omega
  have hcA : cA = X.1.2.1 0 := Option.some.inj (hN.symm.trans (F.2.2.2.2.1.1.2 0 (X.1.2.1 0, .int) rfl).2)
  have hW := K X l p e R s m args below meth c H1 locs (cells + 1) (slots + n) mc ms L F (hR.push (ia_new hR hcA b1) z1 o1) hq hl (by show cells + 1 + zf.1 = mc + (z.1 + 1); omega) (by show slots + n + zf.2 = ms + (z.2 + n); omega) hz.1 hz.2
  rw [hsz]
  exact hW
theorem x_newB {n : Nat} {m0 : Int} (hd : Dec y pc (.newarray .byte) 2 pc2) (hm0 : m0 = (n : Int)) (hn : Nat.ble n 100000 = true) (hz : z.1 + 1 ≤ zf.1 ∧ z.2 + n ≤ zf.2) (K : WW d y zf Q (z.1 + 1, z.2 + n) (hset h (z.1 + 1) (ia 1 n (fun _ => 0))) pc2 ls (.ref (z.1 + 1) :: st)) : WW d y zf Q z h pc ls (vi m0 :: st) := by
  subst hm0
  intro X l p e R s m args below meth c H locs cells slots mc ms L F hR hq hl e1 e2 e3 e4
  obtain ⟨hd, rfl⟩ := hd
  have hn' := Nat.le_of_ble_eq_true hn
  have hts := F.1.2.2.2.2
  have r3 := F.2.2.2.2.2.2.2.1
  have r4 := F.2.2.2.2.2.2.2.2
  have hsz := hR.2.1
  have hb : B3 (n : Int) := ⟨by omega, by omega⟩
  refine va_newaK (atype := .byte) F.1.1 F.1.2.1 (hts _ wbyte) rfl hd rfl (n := ii (n : Int)) (fun q => ?_) (N := n) (by rw [ii_clamp hb]; omega) (by show n * 1 ≤ 536870912; omega) (by omega) (by omega) rfl fun H1 cA b1 z1 o1 hA hN => ?_
  · rw [← ii_zero, ii_lt hb ⟨by omega, by omega⟩] at q; omega
  have hcA : cA = X.1.2.1 1 := Option.some.inj (hN.symm.trans (F.2.2.2.2.1.1.2 1 (X.1.2.1 1, .byte) rfl).2)
  have hW := K X l p e R s m args below meth c H1 locs (cells + 1) (slots + n) mc ms L F (hR.push (ia_new hR hcA b1) z1 o1) hq hl (by show cells + 1 + zf.1 = mc + (z.1 + 1); omega) (by show slots + n + zf.2 = ms + (z.2 + n); omega) hz.1 hz.2
  rw [hsz]
  exact hW
theorem x_newE {idx n : Nat} {m0 : Int} (hd : Dec y pc (.anewarray idx) 3 pc2) (hcl : Cond.classLink y.1.cls idx "WhileSaltMelts$Evening" ∈ WS) (hm0 : m0 = (n : Int)) (hn : Nat.ble n 100000 = true) (hz : z.1 + 1 ≤ zf.1 ∧ z.2 + n ≤ zf.2) (K : WW d y zf Q (z.1 + 1, z.2 + n) (hset h (z.1 + 1) (ra 0 n (fun _ => none))) pc2 ls (.ref (z.1 + 1) :: st)) : WW d y zf Q z h pc ls (vi m0 :: st) := by
  subst hm0
  intro X l p e R s m args below meth c H locs cells slots mc ms L F hR hq hl e1 e2 e3 e4
  obtain ⟨hd, rfl⟩ := hd
  have hn' := Nat.le_of_ble_eq_true hn
  have hts := F.1.2.2.2.2
  have r3 := F.2.2.2.2.2.2.2.1
  have r4 := F.2.2.2.2.2.2.2.2
  have hsz := hR.2.1
  have hb : B3 (n : Int) := ⟨by omega, by omega⟩
  have hcn : (ii (n : Int)).toNatClampNeg = n := by rw [ii_clamp hb]; omega
  refine W.anew (C := "WhileSaltMelts$Evening") F.1.1 F.1.2.1 F.1.2.2.2.1 (hts _ hcl) (va_AO.use F.2.2.2.2.1.2.2.1) rfl hd (n := ii (n : Int)) rfl (fun q => ?_) (by rw [hcn]; omega) (by omega) (by rw [hcn]; omega) fun cA kA comp h1 h2 h3 h4 => ?_
  · rw [← ii_zero, ii_lt hb ⟨by omega, by omega⟩] at q; omega
  obtain ⟨kA', comp', g1, g2, g3, g4⟩ := (F.2.2.2.2.1.1.2 2 (X.1.2.2 0, .object "WhileSaltMelts$Evening") rfl).2
  have hcA : cA = X.1.2.2 0 := Option.some.inj (h1.symm.trans g4)
  subst hcA
  rw [hcn]
  generalize hH1 : H.push ({ cls := X.1.2.2 0, slots := Array.replicate n .null, vm := .none } : Cell) = H1
  have z1 : H1.size = H.size + 1 := by rw [← hH1, Array.size_push]
  have o1 : ∀ q : Nat, q < H.size → H1[q]? = H[q]? := fun q hq => by rw [← hH1, Array.getElem?_push, if_neg (Nat.ne_of_lt hq)]
  have b1 : H1[H.size]? = some (arrV (X.1.2.2 0) n (fun _ => .null)) := by rw [← hH1, ← arrV_new]; simp
  have hat : va_at X.1.1 cls (X.2.2.1 + z.1, rl X (ra 0 n (fun _ => none))) H1 := by rw [hsz] at b1; exact b1
  have hW := K X l p e R s m args below meth c H1 locs (cells + 1) (slots + n) mc ms L F (hR.push hat z1 o1) hq hl (by show cells + 1 + zf.1 = mc + (z.1 + 1); omega) (by show slots + n + zf.2 = ms + (z.2 + n); omega) hz.1 hz.2
  rw [hsz]
  exact hW
/-! an array of arrays -/
theorem x_mna {idx n k : Nat} {n0 k0 : Int} (hd : Dec y pc (.multianewarray idx 2) 4 pc2) (hcl : Cond.classLink y.1.cls idx "[[I" ∈ WS) (hn0 : n0 = (n : Int)) (hk0 : k0 = (k : Int)) (hn : Nat.ble n 1000 = true) (hk : Nat.ble k 1000 = true) (hz : z.1 + (1 + n) ≤ zf.1 ∧ z.2 + (n + n * k) ≤ zf.2)
    (K : ∀ h1 : Hp, h1 (z.1 + 1) = some (ra 1 n (fun i => if i < n then some (z.1 + 2 + i) else none)) → (∀ i : Nat, i < n → h1 (z.1 + 2 + i) = some (ia 0 k (fun _ => 0))) → (∀ q : Nat, q < z.1 + 1 ∨ z.1 + 1 + n < q → h1 q = h q) → WW d y zf Q (z.1 + 1 + n, z.2 + n + n * k) h1 pc2 ls (.ref (z.1 + 1) :: st)) : WW d y zf Q z h pc ls (vi k0 :: vi n0 :: st) := by
  subst hn0
  subst hk0
  intro X l p e R s m args below meth c H locs cells slots mc ms L F hR hq hl e1 e2 e3 e4
  obtain ⟨hd, rfl⟩ := hd
  have hn' := Nat.le_of_ble_eq_true hn
  have hk' := Nat.le_of_ble_eq_true hk
  have hts := F.1.2.2.2.2
  have r3 := F.2.2.2.2.2.2.2.1
  have r4 := F.2.2.2.2.2.2.2.2
  have hsz := hR.2.1
  have hbn : B3 (n : Int) := ⟨by omega, by omega⟩
  have hbk : B3 (k : Int) := ⟨by omega, by omega⟩
  have hcn : (ii (n : Int)).toNatClampNeg = n := by rw [ii_clamp hbn]; omega
  have hck : (ii (k : Int)).toNatClampNeg = k := by rw [ii_clamp hbk]; omega
  have hKn := F.2.2.2.2.1
  refine W_mna (own := y.1.cls) (n := ii (n : Int)) (k := ii (k : Int)) (N := n) (M := k) F.1.1 F.1.2.1 F.1.2.2.2.1 (hts _ hcl) (over_moved (a := #[]) (a' := args) (Vm.Alike.refl _) hKn.2.2.2.1) (hts _ wint) rfl hd rfl (fun q => by rw [← ii_zero, ii_lt hbn ⟨by omega, by omega⟩] at q; omega) (fun q => by rw [← ii_zero, ii_lt hbk ⟨by omega, by omega⟩] at q; omega) hcn hck (by omega) (by omega) (by omega) (by omega) fun H1 cA cI fA fC f1 f2 hrow hold => ?_
  obtain rfl : cA = X.1.2.2 1 := Option.some.inj (fA.symm.trans (hKn.1.2 3 (X.1.2.2 1, .array .int) rfl).2)
  obtain rfl : cI = X.1.2.1 0 := Option.some.inj (fC.symm.trans (hKn.1.2 0 (X.1.2.1 0, .int) rfl).2)
  obtain ⟨h1, hh1⟩ : ∃ h1 : Hp, h1 = fun q => if q = z.1 + 1 then some (ra 1 n (fun i => if i < n then some (z.1 + 2 + i) else none)) else if z.1 + 1 < q ∧ q ≤ z.1 + 1 + n then some (ia 0 k (fun _ => 0)) else h q := ⟨_, rfl⟩
  have hRp : Rp X (z.1 + 1 + n, z.2 + n + n * k) h1 H1 := by
    refine ⟨?_, ?_, fun q hq => ?_, fun j c' hj => ?_⟩
    · rw [hh1]
      show (if 0 = z.1 + 1 then _ else _) = none
      rw [if_neg (by omega), if_neg (by omega)]
      exact hR.1
    · rw [f1, hsz]
      show _ = X.2.2.1 + (z.1 + 1 + n)
      omega
    · rw [hold q (by omega)]
      exact hR.2.2.1 q hq
    · rw [hh1] at hj
      have hj : (if j + 1 = z.1 + 1 then some (ra 1 n (fun i => if i < n then some (z.1 + 2 + i) else none)) else if z.1 + 1 < j + 1 ∧ j + 1 ≤ z.1 + 1 + n then some (ia 0 k (fun _ => 0)) else h (j + 1)) = some c' := hj
      by_cases a1 : j + 1 = z.1 + 1
      · rw [if_pos a1] at hj
        cases hj
        have ej : j = z.1 := by omega
        subst ej
        show H1[X.2.2.1 + z.1]? = some (arrV (X.1.2.2 1) n (fun q => va_rf ((if q < n then some (z.1 + 2 + q) else none).map (ad X))))
        rw [← hsz, f2]
        congr 2
        funext q
        show va_rf (if q < n then some (H.size + 1 + q) else none) = _
        by_cases hqn : q < n
        · rw [if_pos hqn, if_pos hqn]
          show va_rf (some (H.size + 1 + q)) = va_rf (some (ad X (z.1 + 2 + q)))
          have : ad X (z.1 + 2 + q) = H.size + 1 + q := by
            rw [show z.1 + 2 + q = (z.1 + 1 + q) + 1 by omega]
            show X.2.2.1 + (z.1 + 1 + q) = _
            omega
          rw [this]
        · rw [if_neg hqn, if_neg hqn]
          rfl
      · rw [if_neg a1] at hj
        by_cases a2 : z.1 + 1 < j + 1 ∧ j + 1 ≤ z.1 + 1 + n
        · rw [if_pos a2] at hj
          cases hj
          have e9 := hrow (j - z.1 - 1) (by omega)
          rw [show H.size + 1 + (j - z.1 - 1) = X.2.2.1 + j by omega] at e9
          refine e9.trans ?_
          show some (arrV (X.1.2.1 0) k (fun _ => .int 0)) = some (arrV (X.1.2.1 0) k (fun q => .int (ii (if 0 ≤ (q : Int) ∧ (q : Int) < (k : Int) then 0 else 0))))
          congr 2
          funext q
          split <;> rfl
        · rw [if_neg a2] at hj
          have hat := hR.2.2.2 j c' hj
          exact hat.kept (hold _ hat.lt)
  have hW := K h1 (by rw [hh1]; exact if_pos rfl) (fun i hi => by rw [hh1]; show (if z.1 + 2 + i = z.1 + 1 then _ else _) = _; rw [if_neg (by omega), if_pos (by omega)]) (fun q hq => by rw [hh1]; show (if q = z.1 + 1 then _ else _) = _; rw [if_neg (by omega), if_neg (by omega)]) X l p e R s m args below meth c H1 locs (cells + 1 + n) (slots + n + n * k) mc ms L F hRp hq hl (by show cells + 1 + n + zf.1 = mc + (z.1 + 1 + n); omega) (by show slots + n + n * k + zf.2 = ms + (z.2 + n + n * k); omega) (by show z.1 + 1 + n ≤ zf.1; omega) (by show z.2 + n + n * k ≤ zf.2; omega)
  rw [hsz]
  exact hW
/-! constructors: Object's, a final field, the calls -/
def OL (own : String) (idx : Nat) : Prop := Cond.methodLink own idx Lib.objectInit ∈ WS ∧ Cond.instanceMethod Lib.objectInit ∈ WS ∧ Cond.code Lib.objectInit ⟨#[0xb1]⟩ 1 none ∈ WS
theorem x_obj {idx o : Nat} (hd : Dec y pc (.invokespecial idx) 3 pc2) (hk : OL y.1.cls idx) (hdd : 1 ≤ d) (hcat : Nat.ble ((st.map fun v => v.category).sum) 8 = true) (K : WW d y zf Q z h pc2 ls st) : WW d y zf Q z h pc ls (.ref o :: st) := by
  intro X l p e R s m args below meth c H locs cells slots mc ms L F hR hq hl e1 e2 e3 e4
  obtain ⟨hd, rfl⟩ := hd
  have hts := F.1.2.2.2.2
  have r1 := F.2.2.2.2.2.1
  have r2 := F.2.2.2.2.2.2.1
  have hc8 := Nat.le_of_ble_eq_true hcat
  exact W.objInit (own := y.1.cls) F.1.1 F.1.2.1 F.1.2.2.2.1 (hts _ hk.1) (hts _ hk.2.1) (hts _ hk.2.2) rfl (F.1.2.2.1.trans hl.1.symm).symm rfl hd (by omega) (by show 2 * 0 + (((st.map (vr X)).map fun v => v.category).sum) + 12 ≤ _; rw [cat_vr]; omega) (K X l p e R s m args below meth c H locs cells slots mc ms L F hR hq hl e1 e2 e3 e4)
theorem x_putF {idx ci k o : Nat} {fs : List Value} {v : Value} (ty : FieldType) (hd : Dec y pc (.putfield idx) 3 pc2) (hf : FL y.1.cls idx ci k) (hin : y.1.name = "<init>") (ho : h o = some (ob ci fs)) (hx : cls[ci]?.map (fun r => ((r.2.1 k).2.2.2, parseFieldDescriptor (r.2.1 k).2.2.1, (r.2.1 k).1)) = some (true, some ty, y.1.cls)) (hn : ∀ X : Cx, narrow ty (vr X v) = vr X v) (hfit : ∀ X : Cx, fits ty (vr X v) = true) (hl9 : Nat.ble (k + 1) fs.length = true)
    (K : ∀ h1 : Hp, h1 o = some (ob ci (fs.set k v)) → (∀ q, q ≠ o → h1 q = h q) → WW d y zf Q z h1 pc2 ls st) : WW d y zf Q z h pc ls (v :: .ref o :: st) := by
  intro X l p e R s m args below meth c H locs cells slots mc ms L F hR hq hl e1 e2 e3 e4
  obtain ⟨hd, rfl⟩ := hd
  obtain ⟨r, hc, hk, hw⟩ := hf
  rw [hc] at hx
  have hx1 : (r.2.1 k).2.2.2 = true := congrArg Prod.fst (Option.some.inj hx)
  have hx2 : parseFieldDescriptor (r.2.1 k).2.2.1 = some ty := congrArg (fun q => q.2.1) (Option.some.inj hx)
  have hx3 : (r.2.1 k).1 = y.1.cls := congrArg (fun q => q.2.2) (Option.some.inj hx)
  obtain ⟨ty0, t1, t2⟩ := tyAll hc
  have hts := F.1.2.2.2.2
  have hK := F.2.2.2.2.1.1
  have hap := va_apart (own := y.1.cls) hts (uwAll hc) ty0 t1 t2 hK (C := r.1) (T := r.2.1) (N := r.2.2) hc
  obtain ⟨r', h1, cell, q1, q2, q3, q4⟩ := hR.at ho
  have hr : r' = r := Option.some.inj (h1.symm.trans hc)
  subst hr
  obtain ⟨hS, hfc, kC, hkC, hkind⟩ := hK.1 ci _ hc
  obtain ⟨cf, kf, fi, f, hi, hsl⟩ := hS k hk
  have hlay := hts _ (uwAll hc _ (u_in_lay hk))
  unfold u_lay at hlay
  rw [if_pos hx1] at hlay
  have hst := (u_facts hfc hkC (u_lays hts (uwAll hc) hk) hi).1
  have hcf : m.cls = cf := by
    obtain ⟨_, _, c', _, _, _, -, -, hf', -, -, -, hown2, -⟩ := Cond.laysFinal_spec hlay
    have e9 : c' = cf := by have := hi.symm.trans hf'; simp at this; exact this.1.symm
    rw [hx3] at hown2
    rw [← e9]; exact Option.some.inj (F.1.2.2.2.1.symm.trans hown2)
  have h6 := u_fits hfc hkC hkind (Or.inr hlay) hi hx2 (hn X) (hfit X)
  refine W.putFinK F.1.1 F.1.2.1 (f := f) F.1.2.2.2.1 (hts _ hw) hi hst hcf (F.2.2.2.1.trans hin) (by rw [q2]; exact h6) q1 q3 (by rw [hsl]; exact k2_hasslot (q4 k hk)) rfl rfl hd fun H' e1' e2' e3' => ?_
  rw [hsl] at e1' ⊢
  have hat : va_at X.1.1 cls (ad X o, rl X (ob ci (fs.set k v))) H' := by
    refine ⟨r', hc, t_OB.to (V := updV (vp_V (fs.map (vr X))) k (vr X v)) ⟨_, e1', q2, q3, t_set q4 hap hk _⟩ (fun j _ => ?_)⟩
    rw [vp_updV_set (by rw [List.length_map]; exact Nat.le_of_ble_eq_true hl9) (vr X v) j, ← List.map_set]
  refine K (hset h o (ob ci (fs.set k v))) (hset_eq _ _ _) (fun q hq => hset_ne _ _ hq) X l p e R s m args below meth c H' _ cells slots mc ms L F (hR.set ho hat e3' e2') (fun q hq' => ?_) hl e1 e2 e3 e4
  rcases List.mem_append.mp hq' with h9 | h9
  · exact hq q h9
  · rw [List.mem_singleton.mp h9]; exact hR.base ho
theorem x_invI {d' idx n o : Nat} {nm : MethodName} {bc : ByteArray} {ml : Nat} {as rest : List Value} {z2 : Nat × Nat} {Q' : Option Value → Hp → Prop} (hd : Dec y pc (.invokespecial idx) 3 pc2) (hk : LI y.1.cls idx (nm, bc, ml, none)) (hm : MI (nm, bc, ml, none) n) (hy : nm.name = "<init>") (hc : Ct d' (nm, bc, ml, none) (.ref o :: as) z z2 h Q') (hn : as.length = n) (hdd : d' + 1 ≤ d) (hml : Nat.ble ml 21 = true) (hz2 : z.1 ≤ zf.1 ∧ z.2 ≤ zf.2 → z2.1 ≤ zf.1 ∧ z2.2 ≤ zf.2) (hst : st = as.reverse ++ .ref o :: rest) (hcat : Nat.ble ((rest.map fun v => v.category).sum) 8 = true)
    (K : ∀ r h', Q' r h' → WW d y zf Q z2 h' pc2 ls (pushR r rest)) : WW d y zf Q z h pc ls st := by
  intro X l p e R s m args below meth c H locs cells slots mc ms L F hR hq hl e1 e2 e3 e4
  obtain ⟨hd, rfl⟩ := hd
  have h9 := hz2 ⟨e3, e4⟩
  have hz := hc.1
  have hts := F.1.2.2.2.2
  refine WW.call K hz2 hz F hq hl e1 e2 e3 e4 (va_runI (As := as.map (vr X)) (n := n) (b := ad X o) F.1 (hc.2 X l) ⟨callB_of n hts (gws hm.1.1) rfl rfl rfl (hts _ hm.1.2) (hts _ hk.1) hm.2 (room_ok (y' := (nm, bc, ml, none)) hdd hml F.2.2.2.2.2.1 F.2.2.2.2.2.2.1), hy, hts _ hk.2⟩ ⟨blindX X (.ref o :: as) z h, fun U hU hW => ⟨rfl, Kn.warm hW F.2.2.2.2.1, by rw [hU]; exact hR⟩⟩ rfl (by rw [List.length_map]; exact hn) hl.1 (by rw [hst, List.map_append, List.map_reverse]; rfl) (by rw [cat_vr]; show 2 * 0 + _ ≤ 8; have := Nat.le_of_ble_eq_true hcat; omega) hd ?_)
  have := F.2.2.2.2.2.2.2.1
  have := F.2.2.2.2.2.2.2.2
  constructor <;> omega
theorem x_invIN {d' idx n o : Nat} {nm : MethodName} {bc : ByteArray} {ml : Nat} {as rest : List Value} {z2 : Nat × Nat} {Q' : Option Value → Hp → Prop} (hd : Dec y pc (.invokespecial idx) 3 pc2) (hk : LIN y.1.cls idx (nm, bc, ml, none)) (hm : MI (nm, bc, ml, none) n) (hy : nm.name = "<init>") (hc : Ct d' (nm, bc, ml, none) (.ref o :: as) z z2 h Q') (hn : as.length = n) (hdd : d' + 1 ≤ d) (hml : Nat.ble ml 21 = true) (hz2 : z.1 ≤ zf.1 ∧ z.2 ≤ zf.2 → z2.1 ≤ zf.1 ∧ z2.2 ≤ zf.2) (hst : st = as.reverse ++ .ref o :: rest) (hcat : Nat.ble ((rest.map fun v => v.category).sum) 8 = true)
    (K : ∀ r h', Q' r h' → WW d y zf Q z2 h' pc2 ls (pushR r rest)) : WW d y zf Q z h pc ls st := by
  intro X l p e R s m args below meth c H locs cells slots mc ms L F hR hq hl e1 e2 e3 e4
  obtain ⟨hd, rfl⟩ := hd
  have h9 := hz2 ⟨e3, e4⟩
  have hz := hc.1
  have hts := F.1.2.2.2.2
  obtain ⟨⟨host, hh⟩, hs⟩ := hk
  refine WW.call K hz2 hz F hq hl e1 e2 e3 e4 (va_runIN (As := as.map (vr X)) (n := n) (b := ad X o) (host := host) F.1 (hc.2 X l) ⟨va_cnB n hts (gws hm.1.1) rfl rfl rfl (F.2.2.2.2.1.2.1 _ hh) (hts _ hm.1.2) hm.2 (room_ok (y' := (nm, bc, ml, none)) hdd hml F.2.2.2.2.2.1 F.2.2.2.2.2.2.1), hy, hts _ hs⟩ ⟨blindX X (.ref o :: as) z h, fun U hU hW => ⟨rfl, Kn.warm hW F.2.2.2.2.1, by rw [hU]; exact hR⟩⟩ rfl (by rw [List.length_map]; exact hn) hl.1 (by rw [hst, List.map_append, List.map_reverse]; rfl) (by rw [cat_vr]; show 2 * 0 + _ ≤ 8; have := Nat.le_of_ble_eq_true hcat; omega) hd ?_)
  have := F.2.2.2.2.2.2.2.1
  have := F.2.2.2.2.2.2.2.2
  constructor <;> omega
end XA
