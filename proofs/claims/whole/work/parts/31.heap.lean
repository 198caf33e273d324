theorem uwAll {ci : Nat} {r : vw_C} (hc : cls[ci]? = some r) : ∀ w ∈ u_ws r.1 r.2.1 r.2.2, w ∈ WS := by
  match ci, hc with
  | 0, hc => cases hc; exact uw0
  | 1, hc => cases hc; exact uw1
  | 2, hc => cases hc; exact uw2
  | 3, hc => cases hc; exact uw3
  | 4, hc => cases hc; exact uw4
  | 5, hc => cases hc; exact uw5
  | 6, hc => cases hc; exact uw6
  | n + 7, hc => simp [cls] at hc
theorem tyAll {ci : Nat} {r : vw_C} (hc : cls[ci]? = some r) : ∃ ty0 : Nat → FieldType, (∀ k, k < r.2.2 → parseFieldDescriptor (r.2.1 k).2.2.1 = some (ty0 k)) ∧ ∀ a, a < r.2.2 → ∀ b, b < r.2.2 → a ≠ b → (r.2.1 a).2.1 ≠ (r.2.1 b).2.1 := by
  match ci, hc with
  | 0, hc => cases hc; exact ⟨tyX0, tyX0_ok, nmX0⟩
  | 1, hc => cases hc; exact ⟨tyX1, tyX1_ok, nmX1⟩
  | 2, hc => cases hc; exact ⟨tyX2, tyX2_ok, nmX2⟩
  | 3, hc => cases hc; exact ⟨tyX3, tyX3_ok, nmX3⟩
  | 4, hc => cases hc; exact ⟨tyX4, tyX4_ok, nmX4⟩
  | 5, hc => cases hc; exact ⟨tyX5, tyX5_ok, nmX5⟩
  | 6, hc => cases hc; exact ⟨tyX6, tyX6_ok, nmX6⟩
  | n + 7, hc => simp [cls] at hc
theorem wmax : Cond.code Lib.Math.max.name Lib.Math.max.code 2 (some .int) ∈ WS := wm 446 (by decide +kernel) (by decide +kernel)
theorem wmin : Cond.code Lib.Math.min.name Lib.Math.min.code 2 (some .int) ∈ WS := wm 284 (by decide +kernel) (by decide +kernel)
theorem wmath : Cond.initialized "java/lang/Math" ∈ WS := wm 11 (by decide +kernel) (by decide +kernel)
section XH
variable {d : Nat} {y : Mt} {zf : Nat × Nat} {Q : Option Value → Hp → Prop} {z : Nat × Nat} {h : Hp} {pc pc2 tgt : Nat} {ls : List (Nat × Value)} {st : List Value}
theorem hset_eq (h : Hp) (o : Nat) (c : Ce) : hset h o c o = some c := if_pos rfl
theorem hset_ne (h : Hp) {o q : Nat} (c : Ce) (hq : q ≠ o) : hset h o c q = h q := if_neg hq
theorem x_getfield {idx ci k o : Nat} {fs : List Value} {v : Value} (hd : Dec y pc (.getfield idx) 3 pc2) (hf : FL y.1.cls idx ci k) (ho : h o = some (ob ci fs)) (hv : fs[k]? = some v) (K : WW d y zf Q z h pc2 ls (v :: st)) : WW d y zf Q z h pc ls (.ref o :: st) := by
  intro X l p e R s m args below meth c H locs cells slots mc ms L F hR hq hl e1 e2 e3 e4
  obtain ⟨hd, rfl⟩ := hd
  obtain ⟨r, hc, hk, hw⟩ := hf
  exact va_get (ws := [(ad X o, rl X (ob ci fs))]) (D := X.1.1) (cl := cls) (tys := tysX X) F.1.1 F.1.2.1 F.1.2.2.2.2 (uwAll hc) F.1.2.2.2.1 F.2.2.2.2.1.1 (va_P1 (hR.at ho)) 0 rfl (C := r.1) (T := r.2.1) (N := r.2.2) hc k hk (F.1.2.2.2.2 _ hw) (fun _ h9 => h9) (v := vr X v) (by rw [List.getElem?_map, hv]; rfl) hd (K X l p e R s m args below meth c H locs cells slots mc ms L F hR hq hl e1 e2 e3 e4)
/-- a store into a field, its value of the field's type -/
theorem x_put {idx ci k o : Nat} {fs : List Value} {v : Value} (ty : FieldType) (hd : Dec y pc (.putfield idx) 3 pc2) (hf : FL y.1.cls idx ci k) (ho : h o = some (ob ci fs)) (hx : cls[ci]?.map (fun r => ((r.2.1 k).2.2.2, parseFieldDescriptor (r.2.1 k).2.2.1)) = some (false, some ty)) (hn : ∀ X : Cx, narrow ty (vr X v) = vr X v) (hfit : ∀ X : Cx, fits ty (vr X v) = true) (hl9 : Nat.ble (k + 1) fs.length = true)
    (K : ∀ h1 : Hp, h1 o = some (ob ci (fs.set k v)) → (∀ q, q ≠ o → h1 q = h q) → WW d y zf Q z h1 pc2 ls st) : WW d y zf Q z h pc ls (v :: .ref o :: st) := by
  intro X l p e R s m args below meth c H locs cells slots mc ms L F hR hq hl e1 e2 e3 e4
  obtain ⟨hd, rfl⟩ := hd
  obtain ⟨r, hc, hk, hw⟩ := hf
  rw [hc] at hx
  have hx1 : (r.2.1 k).2.2.2 = false := congrArg Prod.fst (Option.some.inj hx)
  have hx2 : parseFieldDescriptor (r.2.1 k).2.2.1 = some ty := congrArg Prod.snd (Option.some.inj hx)
  obtain ⟨ty0, t1, t2⟩ := tyAll hc
  have hts := F.1.2.2.2.2
  have hK := F.2.2.2.2.1.1
  have hap := va_apart (own := y.1.cls) hts (uwAll hc) ty0 t1 t2 hK (C := r.1) (T := r.2.1) (N := r.2.2) hc
  obtain ⟨r', h1, cell, q1, q2, q3, q4⟩ := hR.at ho
  have hr : r' = r := Option.some.inj (h1.symm.trans hc)
  subst hr
  obtain ⟨hS, hfc, kC, hkC, hkind⟩ := hK.1 ci _ hc
  obtain ⟨cf, kf, fi, f, hi, hsl⟩ := hS k hk
  have hlay := hts _ (uwAll hc _ (u_in_lay hk))
  unfold u_lay at hlay
  rw [if_neg (by rw [hx1]; decide)] at hlay
  have hst := (u_facts hfc hkC (u_lays hts (uwAll hc) hk) hi).1
  have h6 := u_store hfc hkC hkind hlay hi hx2 (hn X) (hfit X)
  refine W.putK F.1.1 F.1.2.1 (f := f) ⟨F.1.2.2.2.1, hts _ hw, ⟨_, _, _, hi⟩, hst⟩ (by rw [q2]; exact h6) q1 q3 (by rw [hsl]; exact k2_hasslot (q4 k hk)) rfl rfl hd fun H' e1' e2' e3' => ?_
  rw [hsl] at e1' ⊢
  have hat : va_at X.1.1 cls (ad X o, rl X (ob ci (fs.set k v))) H' := by
    refine ⟨r', hc, t_OB.to (V := updV (vp_V (fs.map (vr X))) k (vr X v)) ⟨_, e1', q2, q3, t_set q4 hap hk _⟩ (fun j _ => ?_)⟩
    rw [vp_updV_set (by rw [List.length_map]; exact Nat.le_of_ble_eq_true hl9) (vr X v) j, ← List.map_set]
  refine K (hset h o (ob ci (fs.set k v))) (hset_eq _ _ _) (fun q hq => hset_ne _ _ hq) X l p e R s m args below meth c H' _ cells slots mc ms L F (hR.set ho hat e3' e2') (fun q hq' => ?_) hl e1 e2 e3 e4
  rcases List.mem_append.mp hq' with h9 | h9
  · exact hq q h9
  · rw [List.mem_singleton.mp h9]; exact hR.base ho
theorem x_putI {idx ci k o : Nat} {fs : List Value} {a : Int} (hd : Dec y pc (.putfield idx) 3 pc2) (hf : FL y.1.cls idx ci k) (ho : h o = some (ob ci fs)) (hx : cls[ci]?.map (fun r => ((r.2.1 k).2.2.2, parseFieldDescriptor (r.2.1 k).2.2.1)) = some (false, some .int)) (hl9 : Nat.ble (k + 1) fs.length = true)
    (K : ∀ h1 : Hp, h1 o = some (ob ci (fs.set k (vi a))) → (∀ q, q ≠ o → h1 q = h q) → WW d y zf Q z h1 pc2 ls st) : WW d y zf Q z h pc ls (vi a :: .ref o :: st) := x_put .int hd hf ho hx (fun _ => rfl) (fun _ => rfl) hl9 K
theorem x_putR {idx ci k o o2 : Nat} {fs : List Value} (C : String) (hd : Dec y pc (.putfield idx) 3 pc2) (hf : FL y.1.cls idx ci k) (ho : h o = some (ob ci fs)) (hx : cls[ci]?.map (fun r => ((r.2.1 k).2.2.2, parseFieldDescriptor (r.2.1 k).2.2.1)) = some (false, some (.object C))) (hl9 : Nat.ble (k + 1) fs.length = true)
    (K : ∀ h1 : Hp, h1 o = some (ob ci (fs.set k (.ref o2))) → (∀ q, q ≠ o → h1 q = h q) → WW d y zf Q z h1 pc2 ls st) : WW d y zf Q z h pc ls (.ref o2 :: .ref o :: st) := x_put (.object C) hd hf ho hx (fun _ => rfl) (fun _ => rfl) hl9 K
/-! arrays of whole numbers -/
theorem ia_read {X : Cx} {z : Nat × Nat} {h : Hp} {H : Heap} (hR : Rp X z h H) {o t n : Nat} {Fn : Int → Int} (ho : h o = some (ia t n Fn)) : H[ad X o]? = some (arrV (X.1.2.1 t) n (fun j => .int (ii (if 0 ≤ (j : Int) ∧ (j : Int) < (n : Int) then Fn j else 0)))) := by
  have := hR.at ho
  exact this
theorem ia_val {n : Nat} {Fn : Int → Int} {j : Int} (h0 : 0 ≤ j) (h1 : j < n) (hb : B3 j) : (if 0 ≤ (((ii j).toNatClampNeg : Nat) : Int) ∧ (((ii j).toNatClampNeg : Nat) : Int) < (n : Int) then Fn ((ii j).toNatClampNeg : Nat) else 0) = Fn j := by
  rw [ii_clamp hb, Int.toNat_of_nonneg h0, if_pos ⟨h0, h1⟩]
theorem x_iaload {o n : Nat} {Fn : Int → Int} {j : Int} (hd : Dec y pc .iaload 1 pc2) (ho : h o = some (ia 0 n Fn)) (h0 : 0 ≤ j) (h1 : j < n) (hn : Nat.ble n 100000 = true) (K : WW d y zf Q z h pc2 ls (vi (Fn j) :: st)) : WW d y zf Q z h pc ls (vi j :: .ref o :: st) := by
  intro X l p e R s m args below meth c H locs cells slots mc ms L F hR hq hl e1 e2 e3 e4
  obtain ⟨hd, rfl⟩ := hd
  have hn' := Nat.le_of_ble_eq_true hn
  have hb : B3 j := ⟨by omega, by omega⟩
  have hlt : (ii j).toNatClampNeg < n := by rw [ii_clamp hb]; omega
  refine W.iald (j := ii j) (v := .int (ii (Fn j))) F.1.1 F.1.2.1 (ia_read hR ho) ((F.2.2.2.2.1.1.2 0 (X.1.2.1 0, .int) rfl).1 _ _) (fun q => by cases q) (by rw [arrV_size]; exact vp_ii h0 h1 (by omega)) ?_ rfl rfl hd (K X l p e R s m args below meth c H locs cells slots mc ms L F hR hq hl e1 e2 e3 e4)
  rw [arrV_read _ _ hlt, ia_val h0 h1 hb]
theorem x_baload {o n : Nat} {Fn : Int → Int} {j : Int} (hd : Dec y pc .baload 1 pc2) (ho : h o = some (ia 1 n Fn)) (h0 : 0 ≤ j) (h1 : j < n) (hn : Nat.ble n 100000 = true) (K : WW d y zf Q z h pc2 ls (vi (Fn j) :: st)) : WW d y zf Q z h pc ls (vi j :: .ref o :: st) := by
  intro X l p e R s m args below meth c H locs cells slots mc ms L F hR hq hl e1 e2 e3 e4
  obtain ⟨hd, rfl⟩ := hd
  have hn' := Nat.le_of_ble_eq_true hn
  have hb : B3 j := ⟨by omega, by omega⟩
  have hlt : (ii j).toNatClampNeg < n := by rw [ii_clamp hb]; omega
  refine W.bald (j := ii j) (v := .int (ii (Fn j))) F.1.1 F.1.2.1 (ia_read hR ho) ((F.2.2.2.2.1.1.2 1 (X.1.2.1 1, .byte) rfl).1 _ _) (fun q => by cases q) (by rw [arrV_size]; exact vp_ii h0 h1 (by omega)) ?_ rfl rfl hd (K X l p e R s m args below meth c H locs cells slots mc ms L F hR hq hl e1 e2 e3 e4)
  rw [arrV_read _ _ hlt, ia_val h0 h1 hb]
theorem ia_wrote {X : Cx} {t n : Nat} {Fn : Int → Int} {j v : Int} (h0 : 0 ≤ j) (h1 : j < n) (hb : B3 j) : (arrV (X.1.2.1 t) n (fun j => .int (ii (if 0 ≤ (j : Int) ∧ (j : Int) < (n : Int) then Fn j else 0)))).setSlot (ii j).toNatClampNeg (.int (ii v)) = arrV (X.1.2.1 t) n (fun q => .int (ii (if 0 ≤ (q : Int) ∧ (q : Int) < (n : Int) then ups Fn j v q else 0))) := by
  rw [arrV_store]
  congr 1
  funext q
  rw [ii_clamp hb]
  by_cases e : q = j.toNat
  · subst e
    have e2 : ((j.toNat : Nat) : Int) = j := Int.toNat_of_nonneg h0
    simp [updV, ups, e2, h0, h1]
  · have e2 : (q : Int) ≠ j := by omega
    simp [updV, ups, e, e2]
theorem x_iastore {o n : Nat} {Fn : Int → Int} {j v : Int} (hd : Dec y pc .iastore 1 pc2) (ho : h o = some (ia 0 n Fn)) (h0 : 0 ≤ j) (h1 : j < n) (hn : Nat.ble n 100000 = true)
    (K : ∀ h1 : Hp, h1 o = some (ia 0 n (ups Fn j v)) → (∀ q, q ≠ o → h1 q = h q) → WW d y zf Q z h1 pc2 ls st) : WW d y zf Q z h pc ls (vi v :: vi j :: .ref o :: st) := by
  intro X l p e R s m args below meth c H locs cells slots mc ms L F hR hq hl e1 e2 e3 e4
  obtain ⟨hd, rfl⟩ := hd
  have hn' := Nat.le_of_ble_eq_true hn
  have hb : B3 j := ⟨by omega, by omega⟩
  refine W.iast (j := ii j) (x := ii v) F.1.1 F.1.2.1 (ia_read hR ho) ((F.2.2.2.2.1.1.2 0 (X.1.2.1 0, .int) rfl).1 _ _) (fun q => by cases q) (by rw [arrV_size]; exact vp_ii h0 h1 (by omega)) rfl rfl hd fun H' e1' e2' e3' => ?_
  rw [ia_wrote h0 h1 hb] at e1'
  refine K (hset h o (ia 0 n (ups Fn j v))) (hset_eq _ _ _) (fun q hq => hset_ne _ _ hq) X l p e R s m args below meth c H' _ cells slots mc ms L F (hR.set ho e1' e3' e2') (fun q hq' => ?_) hl e1 e2 e3 e4
  rcases List.mem_append.mp hq' with h9 | h9
  · exact hq q h9
  · rw [List.mem_singleton.mp h9]; exact hR.base ho
theorem x_bastore {o n : Nat} {Fn : Int → Int} {j v : Int} (hd : Dec y pc .bastore 1 pc2) (ho : h o = some (ia 1 n Fn)) (h0 : 0 ≤ j) (h1 : j < n) (hn : Nat.ble n 100000 = true)
    (K : ∀ h1 : Hp, h1 o = some (ia 1 n (ups Fn j (iByte v))) → (∀ q, q ≠ o → h1 q = h q) → WW d y zf Q z h1 pc2 ls st) : WW d y zf Q z h pc ls (vi v :: vi j :: .ref o :: st) := by
  intro X l p e R s m args below meth c H locs cells slots mc ms L F hR hq hl e1 e2 e3 e4
  obtain ⟨hd, rfl⟩ := hd
  have hn' := Nat.le_of_ble_eq_true hn
  have hb : B3 j := ⟨by omega, by omega⟩
  refine W.bast (j := ii j) (x := ii v) F.1.1 F.1.2.1 (ia_read hR ho) ((F.2.2.2.2.1.1.2 1 (X.1.2.1 1, .byte) rfl).1 _ _) (fun q => by cases q) (by rw [arrV_size]; exact vp_ii h0 h1 (by omega)) rfl rfl hd fun H' e1' e2' e3' => ?_
  have ev : narrow .byte (.int (ii v)) = .int (ii (iByte v)) := congrArg Value.int (ii_toInt _).symm
  rw [ev, ia_wrote h0 h1 hb] at e1'
  refine K (hset h o (ia 1 n (ups Fn j (iByte v)))) (hset_eq _ _ _) (fun q hq => hset_ne _ _ hq) X l p e R s m args below meth c H' _ cells slots mc ms L F (hR.set ho e1' e3' e2') (fun q hq' => ?_) hl e1 e2 e3 e4
  rcases List.mem_append.mp hq' with h9 | h9
  · exact hq q h9
  · rw [List.mem_singleton.mp h9]; exact hR.base ho
theorem x_alen {o n : Nat} {Fn : Int → Int} (hd : Dec y pc .arraylength 1 pc2) (ho : h o = some (ia 0 n Fn)) (K : WW d y zf Q z h pc2 ls (vi n :: st)) : WW d y zf Q z h pc ls (.ref o :: st) := by
  intro X l p e R s m args below meth c H locs cells slots mc ms L F hR hq hl e1 e2 e3 e4
  obtain ⟨hd, rfl⟩ := hd
  exact va_alen (ws := [(ad X o, rl X (ia 0 n Fn))]) (D := X.1.1) (cl := cls) (tys := tysX X) F.1.1 F.1.2.1 F.2.2.2.2.1.1 (va_P1 (hR.at ho)) 0 0 (cA := X.1.2.1 0) rfl (ty := .int) rfl (v := ii n) rfl hd (K X l p e R s m args below meth c H locs cells slots mc ms L F hR hq hl e1 e2 e3 e4)
theorem x_alenB {o n : Nat} {Fn : Int → Int} (hd : Dec y pc .arraylength 1 pc2) (ho : h o = some (ia 1 n Fn)) (K : WW d y zf Q z h pc2 ls (vi n :: st)) : WW d y zf Q z h pc ls (.ref o :: st) := by
  intro X l p e R s m args below meth c H locs cells slots mc ms L F hR hq hl e1 e2 e3 e4
  obtain ⟨hd, rfl⟩ := hd
  exact va_alen (ws := [(ad X o, rl X (ia 1 n Fn))]) (D := X.1.1) (cl := cls) (tys := tysX X) F.1.1 F.1.2.1 F.2.2.2.2.1.1 (va_P1 (hR.at ho)) 0 1 (cA := X.1.2.1 1) rfl (ty := .byte) rfl (v := ii n) rfl hd (K X l p e R s m args below meth c H locs cells slots mc ms L F hR hq hl e1 e2 e3 e4)
/-! arrays of references -/
theorem ra_read {X : Cx} {z : Nat × Nat} {h : Hp} {H : Heap} (hR : Rp X z h H) {o t n : Nat} {G : Nat → Option Nat} (ho : h o = some (ra t n G)) : H[ad X o]? = some (arrV (X.1.2.2 t) n (fun j => va_rf ((G j).map (ad X)))) := by
  have := hR.at ho
  exact this
theorem x_aaload0 {o n q0 : Nat} {G : Nat → Option Nat} {j : Int} (hd : Dec y pc .aaload 1 pc2) (ho : h o = some (ra 0 n G)) (h0 : 0 ≤ j) (h1 : j < n) (hn : Nat.ble n 100000 = true) (hg : G j.toNat = some q0) (K : WW d y zf Q z h pc2 ls (.ref q0 :: st)) : WW d y zf Q z h pc ls (vi j :: .ref o :: st) := by
  intro X l p e R s m args below meth c H locs cells slots mc ms L F hR hq hl e1 e2 e3 e4
  obtain ⟨hd, rfl⟩ := hd
  have hn' := Nat.le_of_ble_eq_true hn
  have hb : B3 j := ⟨by omega, by omega⟩
  have hlt : (ii j).toNatClampNeg < n := by rw [ii_clamp hb]; omega
  refine W.aald (j := ii j) (v := .ref (ad X q0)) (ty := .object "WhileSaltMelts$Evening") F.1.1 F.1.2.1 (ra_read hR ho) ((F.2.2.2.2.1.1.2 2 (X.1.2.2 0, .object "WhileSaltMelts$Evening") rfl).1 _ _) rfl (fun q => by cases q) (by rw [arrV_size]; exact vp_ii h0 h1 (by omega)) ?_ rfl rfl hd (K X l p e R s m args below meth c H locs cells slots mc ms L F hR hq hl e1 e2 e3 e4)
  rw [arrV_read _ _ hlt, ii_clamp hb, hg]
  rfl
theorem x_aaload1 {o n q0 : Nat} {G : Nat → Option Nat} {j : Int} (hd : Dec y pc .aaload 1 pc2) (ho : h o = some (ra 1 n G)) (h0 : 0 ≤ j) (h1 : j < n) (hn : Nat.ble n 100000 = true) (hg : G j.toNat = some q0) (K : WW d y zf Q z h pc2 ls (.ref q0 :: st)) : WW d y zf Q z h pc ls (vi j :: .ref o :: st) := by
  intro X l p e R s m args below meth c H locs cells slots mc ms L F hR hq hl e1 e2 e3 e4
  obtain ⟨hd, rfl⟩ := hd
  have hn' := Nat.le_of_ble_eq_true hn
  have hb : B3 j := ⟨by omega, by omega⟩
  have hlt : (ii j).toNatClampNeg < n := by rw [ii_clamp hb]; omega
  refine W.aald (j := ii j) (v := .ref (ad X q0)) (ty := .array .int) F.1.1 F.1.2.1 (ra_read hR ho) ((F.2.2.2.2.1.1.2 3 (X.1.2.2 1, .array .int) rfl).1 _ _) rfl (fun q => by cases q) (by rw [arrV_size]; exact vp_ii h0 h1 (by omega)) ?_ rfl rfl hd (K X l p e R s m args below meth c H locs cells slots mc ms L F hR hq hl e1 e2 e3 e4)
  rw [arrV_read _ _ hlt, ii_clamp hb, hg]
  rfl
def upo (G : Nat → Option Nat) (j : Int) (v : Nat) : Nat → Option Nat := fun q => if q = j.toNat then some v else G q
theorem x_aastore {o n v : Nat} {vs : List Value} {G : Nat → Option Nat} {j : Int} (hd : Dec y pc .aastore 1 pc2) (ho : h o = some (ra 0 n G)) (hv : h v = some (ob 0 vs)) (h0 : 0 ≤ j) (h1 : j < n) (hn : Nat.ble n 100000 = true)
    (K : ∀ h1 : Hp, h1 o = some (ra 0 n (upo G j v)) → (∀ q, q ≠ o → h1 q = h q) → WW d y zf Q z h1 pc2 ls st) : WW d y zf Q z h pc ls (.ref v :: vi j :: .ref o :: st) := by
  intro X l p e R s m args below meth c H locs cells slots mc ms L F hR hq hl e1 e2 e3 e4
  obtain ⟨hd, rfl⟩ := hd
  have hn' := Nat.le_of_ble_eq_true hn
  have hb : B3 j := ⟨by omega, by omega⟩
  have hlt : (ii j).toNatClampNeg < n := by rw [ii_clamp hb]; omega
  have hin := vp_ii h0 h1 (show n ≤ 2147483647 by omega)
  have hK := F.2.2.2.2.1.1
  obtain ⟨r', hr', cellV, g1, g2, g3, -⟩ := hR.at hv
  have hcls := (hK.1 0 _ rfl).2
  obtain ⟨kA, comp, k1, k2, k3, -⟩ := (hK.2 2 (X.1.2.2 0, .object "WhileSaltMelts$Evening") rfl).2
  have hcomp : comp = X.1.1.1 0 := Option.some.inj (k3.symm.trans hcls.1)
  subst hcomp
  obtain ⟨kC, hkC, -⟩ := hcls.2
  refine W.aast (j := ii j) F.1.1 F.1.2.1 (ra_read hR ho) (fun q h => by cases h) (fun h => by cases h) k1 k2 rfl hkC ⟨fun q => hin (Or.inl q), by rw [arrV_size]; exact hlt⟩ g1 (fun q h => by rw [g3] at h; cases h) (by rw [g2]; exact hkC) (by rw [g2]; exact va_assign hcls) rfl rfl hd fun H' e1' e2' e3' => ?_
  have hat : va_at X.1.1 cls (ad X o, rl X (ra 0 n (upo G j v))) H' := by
    show H'[ad X o]? = some (arrV (X.1.2.2 0) n (fun q => va_rf ((upo G j v q).map (ad X))))
    rw [e1', arrV_store, ii_clamp hb]
    congr 2
    funext q
    by_cases e : q = j.toNat
    · subst e
      simp [updV, upo, va_rf]
    · simp [updV, upo, e]
  refine K (hset h o (ra 0 n (upo G j v))) (hset_eq _ _ _) (fun q hq => hset_ne _ _ hq) X l p e R s m args below meth c H' _ cells slots mc ms L F (hR.set ho hat e3' e2') (fun q hq' => ?_) hl e1 e2 e3 e4
  rcases List.mem_append.mp hq' with h9 | h9
  · exact hq q h9
  · rw [List.mem_singleton.mp h9]; exact hR.base ho
/-! calls -/
def pushR : Option Value → List Value → List Value
  | some v, r => v :: r
  | none, r => r
theorem cat_vr (X : Cx) (st : List Value) : ((st.map (vr X)).map fun v => v.category) = st.map fun v => v.category := by
  rw [List.map_map]
  exact List.map_congr_left (fun v _ => vr_cat X v)
theorem WW.call {rest : List Value} {z2 : Nat × Nat} {Q' : Option Value → Hp → Prop} (K : ∀ r h', Q' r h' → WW d y zf Q z2 h' (pc + 3) ls (pushR r rest)) (hz2 : z.1 ≤ zf.1 ∧ z.2 ≤ zf.2 → z2.1 ≤ zf.1 ∧ z2.2 ≤ zf.2) (hz : z.1 ≤ z2.1 ∧ z.2 ≤ z2.2)
    {X : Cx} {l : Launch} {p : Program} {e : Env} {R : Room} {s : State} {m : MethodId} {args : Array Value} {below : List Frame} {meth : Method} {c : Code} {H : Heap} {locs : List Loc} {cells slots mc ms : Nat} {L : Array Slot} {a : Array Value} {st0 : List Value}
    (F : Fx X d y p R s m args meth c mc ms) (hq : ∀ q ∈ locs, FX X q.base) (hl : lv_has L y.2.2.1 (lm X ls)) (e1 : cells + zf.1 = mc + z.1) (e2 : slots + zf.2 = ms + z.2) (e3 : z.1 ≤ zf.1) (e4 : z.2 ≤ zf.2)
    (hr : va_Run p l e R s m args below meth c H locs cells slots (z2.1 - z.1) (z2.2 - z.2) (F0 m pc L st0) (rest.map (vr X)) (QX X z2 Q' a) (FX X)) : W p l e R s m args below meth c H locs cells slots (MQ below (QX X zf Q) args s mc ms (FX X)) (F0 m pc L st0) := by
  intro T hT XX
  obtain ⟨v, s0, t, T', L', h0, X', hL, g1, g2, ⟨r, h', q1, q2, q3⟩, stp⟩ := hr T hT XX
  cases q1
  have h9 := hz2 ⟨e3, e4⟩
  have hst : (r.map (vr X)).toList ++ rest.map (vr X) = (pushR r rest).map (vr X) := by cases r <;> rfl
  have hW := K r h' q2 X l p e R s m args below meth c T'.heap (locs ++ L') (cells + (z2.1 - z.1)) (slots + (z2.2 - z.2)) mc ms L F (by rw [g1]; exact q3) (fun q hq' => (List.mem_append.mp hq').elim (hq q) (hL q)) hl (by omega) (by omega) h9.1 h9.2
  rw [← hst] at hW
  obtain ⟨t2, a1, b1⟩ := hW T' rfl X'
  exact ⟨t2, stp t2 a1, b1⟩
theorem room_ok {d d' : Nat} {y' : Mt} {R : Room} {z z2 : Nat × Nat} (hdd : d' + 1 ≤ d) (hml : Nat.ble y'.2.2.1 21 = true) (h1 : d ≤ R.frames) (h2 : 40 * d ≤ R.locals) : (rmX d' z z2).frames + 1 ≤ R.frames ∧ 8 + (y'.2.2.1 + 11) + (rmX d' z z2).locals ≤ R.locals := by
  have := Nat.le_of_ble_eq_true hml
  refine ⟨by show d' + 1 ≤ _; omega, by show 8 + (y'.2.2.1 + 11) + 40 * d' ≤ _; omega⟩
theorem x_invS {d' idx n : Nat} {y' : Mt} {as rest : List Value} {z2 : Nat × Nat} {Q' : Option Value → Hp → Prop} (hd : Dec y pc (.invokestatic idx) 3 pc2) (hk : LTS y.1.cls idx y') (hm : MI y' n) (hc : Ct d' y' as z z2 h Q') (hown : y'.1.cls = y.1.cls) (hn : as.length = n) (hdd : d' + 1 ≤ d) (hml : Nat.ble y'.2.2.1 21 = true) (hz2 : z.1 ≤ zf.1 ∧ z.2 ≤ zf.2 → z2.1 ≤ zf.1 ∧ z2.2 ≤ zf.2) (hst : st = as.reverse ++ rest) (hcat : Nat.ble ((rest.map fun v => v.category).sum) 8 = true)
    (K : ∀ r h', Q' r h' → WW d y zf Q z2 h' pc2 ls (pushR r rest)) : WW d y zf Q z h pc ls st := by
  intro X l p e R s m args below meth c H locs cells slots mc ms L F hR hq hl e1 e2 e3 e4
  obtain ⟨hd, rfl⟩ := hd
  have h9 := hz2 ⟨e3, e4⟩
  have hz := hc.1
  refine WW.call K hz2 hz F hq hl e1 e2 e3 e4 (va_runS (As := as.map (vr X)) (n := n) F.1 (hc.2 X l) (cwS n F.1.2.2.2.2 (fun w hw => ?_) rfl rfl rfl ⟨hown, hm.2.1, hm.2.2.1, hm.2.2.2⟩ (room_ok hdd hml F.2.2.2.2.2.1 F.2.2.2.2.2.2.1)) ⟨blindX X as z h, fun U hU hW => ⟨rfl, Kn.warm hW F.2.2.2.2.1, by rw [hU]; exact hR⟩⟩ rfl (by rw [List.length_map]; exact hn) hl.1 (by rw [hst, List.map_append, List.map_reverse]) (by rw [cat_vr]; show 2 * 0 + _ ≤ 8; have := Nat.le_of_ble_eq_true hcat; omega) hd ?_)
  · rcases List.mem_append.mp hw with hw | hw
    · simp only [List.mem_cons, List.not_mem_nil, or_false] at hw
      rcases hw with rfl | rfl | rfl
      · exact gw hk.1
      · exact gw hk.2
      · rw [← hown]; exact gw hm.1.2
    · exact gws hm.1.1 w hw
  · have := F.2.2.2.2.2.2.2.1
    have := F.2.2.2.2.2.2.2.2
    constructor <;> omega
theorem x_invS2 {d' idx n : Nat} {y' : Mt} {as rest : List Value} {z2 : Nat × Nat} {Q' : Option Value → Hp → Prop} (hd : Dec y pc (.invokestatic idx) 3 pc2) (hk : LTS y.1.cls idx y') (hm : MI y' n) (hc : Ct d' y' as z z2 h Q') (hn : as.length = n) (hdd : d' + 1 ≤ d) (hml : Nat.ble y'.2.2.1 21 = true) (hz2 : z.1 ≤ zf.1 ∧ z.2 ≤ zf.2 → z2.1 ≤ zf.1 ∧ z2.2 ≤ zf.2) (hst : st = as.reverse ++ rest) (hcat : Nat.ble ((rest.map fun v => v.category).sum) 8 = true)
    (K : ∀ r h', Q' r h' → WW d y zf Q z2 h' pc2 ls (pushR r rest)) : WW d y zf Q z h pc ls st := by
  intro X l p e R s m args below meth c H locs cells slots mc ms L F hR hq hl e1 e2 e3 e4
  obtain ⟨hd, rfl⟩ := hd
  have h9 := hz2 ⟨e3, e4⟩
  have hz := hc.1
  have hts := F.1.2.2.2.2
  refine WW.call K hz2 hz F hq hl e1 e2 e3 e4 (va_runS (As := as.map (vr X)) (n := n) F.1 (hc.2 X l) ⟨callB_of n hts (gws hm.1.1) rfl rfl rfl (hts _ hm.1.2) (hts _ hk.1) hm.2 (room_ok hdd hml F.2.2.2.2.2.1 F.2.2.2.2.2.2.1), hts _ hk.2⟩ ⟨blindX X as z h, fun U hU hW => ⟨rfl, Kn.warm hW F.2.2.2.2.1, by rw [hU]; exact hR⟩⟩ rfl (by rw [List.length_map]; exact hn) hl.1 (by rw [hst, List.map_append, List.map_reverse]) (by rw [cat_vr]; show 2 * 0 + _ ≤ 8; have := Nat.le_of_ble_eq_true hcat; omega) hd ?_)
  have := F.2.2.2.2.2.2.2.1
  have := F.2.2.2.2.2.2.2.2
  constructor <;> omega
theorem x_invSN {d' idx n : Nat} {y' : Mt} {as rest : List Value} {z2 : Nat × Nat} {Q' : Option Value → Hp → Prop} (hd : Dec y pc (.invokestatic idx) 3 pc2) (hk : LSN y.1.cls idx y') (hm : MI y' n) (hc : Ct d' y' as z z2 h Q') (hn : as.length = n) (hdd : d' + 1 ≤ d) (hml : Nat.ble y'.2.2.1 21 = true) (hz2 : z.1 ≤ zf.1 ∧ z.2 ≤ zf.2 → z2.1 ≤ zf.1 ∧ z2.2 ≤ zf.2) (hst : st = as.reverse ++ rest) (hcat : Nat.ble ((rest.map fun v => v.category).sum) 8 = true)
    (K : ∀ r h', Q' r h' → WW d y zf Q z2 h' pc2 ls (pushR r rest)) : WW d y zf Q z h pc ls st := by
  intro X l p e R s m args below meth c H locs cells slots mc ms L F hR hq hl e1 e2 e3 e4
  obtain ⟨hd, rfl⟩ := hd
  have h9 := hz2 ⟨e3, e4⟩
  have hz := hc.1
  have hts := F.1.2.2.2.2
  obtain ⟨⟨host, hh⟩, hs⟩ := hk
  refine WW.call K hz2 hz F hq hl e1 e2 e3 e4 (va_runSN (As := as.map (vr X)) (n := n) (host := host) F.1 (hc.2 X l) ⟨va_cnB n hts (gws hm.1.1) rfl rfl rfl (F.2.2.2.2.1.2.1 _ hh) (hts _ hm.1.2) hm.2 (room_ok hdd hml F.2.2.2.2.2.1 F.2.2.2.2.2.2.1), hts _ hs, trivial⟩ ⟨blindX X as z h, fun U hU hW => ⟨rfl, Kn.warm hW F.2.2.2.2.1, by rw [hU]; exact hR⟩⟩ rfl (by rw [List.length_map]; exact hn) hl.1 (by rw [hst, List.map_append, List.map_reverse]) (by rw [cat_vr]; show 2 * 0 + _ ≤ 8; have := Nat.le_of_ble_eq_true hcat; omega) hd ?_)
  have := F.2.2.2.2.2.2.2.1
  have := F.2.2.2.2.2.2.2.2
  constructor <;> omega
theorem x_recv {X : Cx} {H : Heap} {s : State} {o ci : Nat} {fs : List Value} {C : String} (hR : Rp X z h H) (hK : Kn X s) (ho : h o = some (ob ci fs)) (hC : (cls[ci]?).map (fun r => r.1) = some C) : ∃ cell : Cell, H[ad X o]? = some cell ∧ cell.vm.isStatics = false ∧ s.vm.findClass C = some cell.cls := by
  obtain ⟨r, hr⟩ : ∃ r, cls[ci]? = some r := by
    cases hx : cls[ci]? with
    | none => rw [hx] at hC; cases hC
    | some r => exact ⟨r, rfl⟩
  rw [hr] at hC
  have hC' : r.1 = C := Option.some.inj hC
  rw [← hC']
  exact va_recv (ws := [(ad X o, rl X (ob ci fs))]) hK.1 (va_P1 (hR.at ho)) hr (q0 := 0) rfl
theorem x_invV {d' idx n o ci : Nat} {fs : List Value} {y' : Mt} {as rest : List Value} {z2 : Nat × Nat} {Q' : Option Value → Hp → Prop} (hd : Dec y pc (.invokevirtual idx) 3 pc2) (hk : LV y.1.cls idx y') (hm : MI y' n) (hc : Ct d' y' (.ref o :: as) z z2 h Q') (ho : h o = some (ob ci fs)) (hC : (cls[ci]?).map (fun r => r.1) = some y'.1.cls) (hn : as.length = n) (hdd : d' + 1 ≤ d) (hml : Nat.ble y'.2.2.1 21 = true) (hz2 : z.1 ≤ zf.1 ∧ z.2 ≤ zf.2 → z2.1 ≤ zf.1 ∧ z2.2 ≤ zf.2) (hst : st = as.reverse ++ .ref o :: rest) (hcat : Nat.ble ((rest.map fun v => v.category).sum) 8 = true)
    (K : ∀ r h', Q' r h' → WW d y zf Q z2 h' pc2 ls (pushR r rest)) : WW d y zf Q z h pc ls st := by
  intro X l p e R s m args below meth c H locs cells slots mc ms L F hR hq hl e1 e2 e3 e4
  obtain ⟨hd, rfl⟩ := hd
  have h9 := hz2 ⟨e3, e4⟩
  have hz := hc.1
  have hts := F.1.2.2.2.2
  refine WW.call K hz2 hz F hq hl e1 e2 e3 e4 (va_runV (As := as.map (vr X)) (n := n) (C := y'.1.cls) F.1 (hc.2 X l) ⟨callB_of n hts (gws hm.1.1) rfl rfl rfl (hts _ hm.1.2) (hts _ hk.1) hm.2 (room_ok hdd hml F.2.2.2.2.2.1 F.2.2.2.2.2.2.1), hts _ hk.2.1, hts _ hk.2.2⟩ ⟨blindX X (.ref o :: as) z h, x_recv hR F.2.2.2.2.1 ho hC, fun U hU hW => ⟨rfl, Kn.warm hW F.2.2.2.2.1, by rw [hU]; exact hR⟩⟩ rfl (by rw [List.length_map]; exact hn) hl.1 (by rw [hst, List.map_append, List.map_reverse]; rfl) (by rw [cat_vr]; show 2 * 0 + _ ≤ 8; have := Nat.le_of_ble_eq_true hcat; omega) hd ?_)
  have := F.2.2.2.2.2.2.2.1
  have := F.2.2.2.2.2.2.2.2
  constructor <;> omega
theorem x_max {idx : Nat} {a b : Int} (hd : Dec y pc (.invokestatic idx) 3 pc2) (hk : LTS y.1.cls idx m_J9_max_7cf53) (ha : B3 a) (hb : B3 b) (hdd : 1 ≤ d) (hcat : Nat.ble ((st.map fun v => v.category).sum) 8 = true) (K : WW d y zf Q z h pc2 ls (vi (if a < b then b else a) :: st)) : WW d y zf Q z h pc ls (vi b :: vi a :: st) := by
  intro X l p e R s m args below meth c H locs cells slots mc ms L F hR hq hl e1 e2 e3 e4
  obtain ⟨hd, rfl⟩ := hd
  have hts := F.1.2.2.2.2
  have r1 := F.2.2.2.2.2.1
  have r2 := F.2.2.2.2.2.2.1
  have r3 := F.2.2.2.2.2.2.2.1
  have r4 := F.2.2.2.2.2.2.2.2
  refine va_mmax F.1.1 F.1.2.1 (F.1.2.2.1.trans hl.1.symm) F.1.2.2.2.1 (hts _ hk.1) (hts _ hk.2) (hts _ wmath) (hts _ wmax) (by omega) (by rw [cat_vr]; have := Nat.le_of_ble_eq_true hcat; omega) (by omega) (by omega) (x := ii a) (y := ii b) hd ?_
  have e9 : (if ii a < ii b then ii b else ii a) = ii (if a < b then b else a) := by
    by_cases hc : a < b
    · rw [if_pos hc, if_pos ((ii_lt ha hb).mpr hc)]
    · rw [if_neg hc, if_neg (fun q => hc ((ii_lt ha hb).mp q))]
  rw [e9]
  exact K X l p e R s m args below meth c H locs cells slots mc ms L F hR hq hl e1 e2 e3 e4
theorem x_min {idx : Nat} {a b : Int} (hd : Dec y pc (.invokestatic idx) 3 pc2) (hk : LTS y.1.cls idx m_J9_min_7cf53) (ha : B3 a) (hb : B3 b) (hdd : 1 ≤ d) (hcat : Nat.ble ((st.map fun v => v.category).sum) 8 = true) (K : WW d y zf Q z h pc2 ls (vi (if b < a then b else a) :: st)) : WW d y zf Q z h pc ls (vi b :: vi a :: st) := by
  intro X l p e R s m args below meth c H locs cells slots mc ms L F hR hq hl e1 e2 e3 e4
  obtain ⟨hd, rfl⟩ := hd
  have hts := F.1.2.2.2.2
  have r1 := F.2.2.2.2.2.1
  have r2 := F.2.2.2.2.2.2.1
  have r3 := F.2.2.2.2.2.2.2.1
  have r4 := F.2.2.2.2.2.2.2.2
  refine va_mmin F.1.1 F.1.2.1 (F.1.2.2.1.trans hl.1.symm) F.1.2.2.2.1 (hts _ hk.1) (hts _ hk.2) (hts _ wmath) (hts _ wmin) (by omega) (by rw [cat_vr]; have := Nat.le_of_ble_eq_true hcat; omega) (by omega) (by omega) (x := ii a) (y := ii b) hd ?_
  have e9 : (if ii b < ii a then ii b else ii a) = ii (if b < a then b else a) := by
    by_cases hc : b < a
    · rw [if_pos hc, if_pos ((ii_lt hb ha).mpr hc)]
    · rw [if_neg hc, if_neg (fun q => hc ((ii_lt hb ha).mp q))]
  rw [e9]
  exact K X l p e R s m args below meth c H locs cells slots mc ms L F hR hq hl e1 e2 e3 e4
end XH
