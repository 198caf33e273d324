/-! rows of making, with the numbers written out -/
section XB
variable {d : Nat} {y : Mt} {zf : Nat × Nat} {Q : Option Value → Hp → Prop} {a b a1 b1 : Nat} {h : Hp} {pc pc2 : Nat} {ls : List (Nat × Value)} {st : List Value}
theorem x_newI' {n : Nat} {m0 : Int} (hd : Dec y pc (.newarray .int) 2 pc2) (hm0 : m0 = (n : Int)) (hn : Nat.ble n 100000 = true) (ha : a1 = a + 1) (hb : b1 = b + n) (hz : a1 ≤ zf.1 ∧ b1 ≤ zf.2) (K : ∀ h1 : Hp, h1 a1 = some (ia 0 n (fun _ => 0)) → (∀ q : Nat, q ≠ a1 → h1 q = h q) → WW d y zf Q (a1, b1) h1 pc2 ls (.ref a1 :: st)) : WW d y zf Q (a, b) h pc ls (vi m0 :: st) := by
  subst ha
  subst hb
  exact x_newI hd hm0 hn hz (K _ (hset_eq _ _ _) (fun q hq => hset_ne _ _ hq))
theorem x_newB' {n : Nat} {m0 : Int} (hd : Dec y pc (.newarray .byte) 2 pc2) (hm0 : m0 = (n : Int)) (hn : Nat.ble n 100000 = true) (ha : a1 = a + 1) (hb : b1 = b + n) (hz : a1 ≤ zf.1 ∧ b1 ≤ zf.2) (K : ∀ h1 : Hp, h1 a1 = some (ia 1 n (fun _ => 0)) → (∀ q : Nat, q ≠ a1 → h1 q = h q) → WW d y zf Q (a1, b1) h1 pc2 ls (.ref a1 :: st)) : WW d y zf Q (a, b) h pc ls (vi m0 :: st) := by
  subst ha
  subst hb
  exact x_newB hd hm0 hn hz (K _ (hset_eq _ _ _) (fun q hq => hset_ne _ _ hq))
theorem x_newE' {idx n : Nat} {m0 : Int} (hd : Dec y pc (.anewarray idx) 3 pc2) (hcl : Cond.classLink y.1.cls idx "WhileSaltMelts$Evening" ∈ WS) (hm0 : m0 = (n : Int)) (hn : Nat.ble n 100000 = true) (ha : a1 = a + 1) (hb : b1 = b + n) (hz : a1 ≤ zf.1 ∧ b1 ≤ zf.2) (K : ∀ h1 : Hp, h1 a1 = some (ra 0 n (fun _ => none)) → (∀ q : Nat, q ≠ a1 → h1 q = h q) → WW d y zf Q (a1, b1) h1 pc2 ls (.ref a1 :: st)) : WW d y zf Q (a, b) h pc ls (vi m0 :: st) := by
  subst ha
  subst hb
  exact x_newE hd hcl hm0 hn hz (K _ (hset_eq _ _ _) (fun q hq => hset_ne _ _ hq))
theorem x_new' {idx ci : Nat} {fs : List Value} (hd : Dec y pc (.new idx) 3 pc2) (hk : NL y.1.cls idx ci fs) (ha : a1 = a + 1) (hb : b1 = b + fs.length) (hz : a1 ≤ zf.1 ∧ b1 ≤ zf.2) (K : ∀ h1 : Hp, h1 a1 = some (ob ci fs) → (∀ q : Nat, q ≠ a1 → h1 q = h q) → WW d y zf Q (a1, b1) h1 pc2 ls (.ref a1 :: st)) : WW d y zf Q (a, b) h pc ls st := by
  subst ha
  subst hb
  exact x_new hd hk hz (K _ (hset_eq _ _ _) (fun q hq => hset_ne _ _ hq))
theorem x_mna' {idx n k : Nat} {n0 k0 : Int} (hd : Dec y pc (.multianewarray idx 2) 4 pc2) (hcl : Cond.classLink y.1.cls idx "[[I" ∈ WS) (hn0 : n0 = (n : Int)) (hk0 : k0 = (k : Int)) (hn : Nat.ble n 1000 = true) (hk : Nat.ble k 1000 = true) (ha : a1 = a + 1 + n) (hb : b1 = b + n + n * k) (hz : a1 ≤ zf.1 ∧ b1 ≤ zf.2)
    (K : ∀ h1 : Hp, h1 (a + 1) = some (ra 1 n (fun i => if i < n then some (a + 2 + i) else none)) → (∀ i : Nat, i < n → h1 (a + 2 + i) = some (ia 0 k (fun _ => 0))) → (∀ q : Nat, q < a + 1 ∨ a1 < q → h1 q = h q) → WW d y zf Q (a1, b1) h1 pc2 ls (.ref (a + 1) :: st)) : WW d y zf Q (a, b) h pc ls (vi k0 :: vi n0 :: st) := by
  subst ha
  subst hb
  have := hz.1
  have := hz.2
  exact x_mna hd hcl hn0 hk0 hn hk ⟨by show a + (1 + n) ≤ _; omega, by show b + (n + n * k) ≤ _; omega⟩ K
end XB

theorem nl_5_13 : NL "WhileSaltMelts" 13 3 [vi 0, .null, vi 0] := ⟨_, rfl, ⟨wm 22 (by decide +kernel) (by decide +kernel), wm 23 (by decide +kernel) (by decide +kernel), wm 2 (by decide +kernel) (by decide +kernel)⟩, rfl, tyX3, tyX3_ok, fun X j hj => by
  have hj : j < 3 := hj
  rcases (show j = 0 ∨ j = 1 ∨ j = 2 by omega) with rfl | rfl | rfl <;> rfl⟩
theorem nl_5_20 : NL "WhileSaltMelts" 20 4 [vi 0, .null, vi 0, .null, vi 0, .null, .null, .null, .null, vi 0, .null, .null, vi 0] := ⟨_, rfl, ⟨wm 40 (by decide +kernel) (by decide +kernel), wm 41 (by decide +kernel) (by decide +kernel), wm 3 (by decide +kernel) (by decide +kernel)⟩, rfl, tyX4, tyX4_ok, fun X j hj => by
  have hj : j < 13 := hj
  rcases (show j = 0 ∨ j = 1 ∨ j = 2 ∨ j = 3 ∨ j = 4 ∨ j = 5 ∨ j = 6 ∨ j = 7 ∨ j = 8 ∨ j = 9 ∨ j = 10 ∨ j = 11 ∨ j = 12 by omega) with rfl | rfl | rfl | rfl | rfl | rfl | rfl | rfl | rfl | rfl | rfl | rfl | rfl <;> rfl⟩
theorem nl_5_30 : NL "WhileSaltMelts" 30 0 [vi 0, vi 0, vi 0, vi 0, vi 0, vi 0, .null, .null, .null, .null] := ⟨_, rfl, ⟨wm 113 (by decide +kernel) (by decide +kernel), wm 114 (by decide +kernel) (by decide +kernel), wm 4 (by decide +kernel) (by decide +kernel)⟩, rfl, tyX0, tyX0_ok, fun X j hj => by
  have hj : j < 10 := hj
  rcases (show j = 0 ∨ j = 1 ∨ j = 2 ∨ j = 3 ∨ j = 4 ∨ j = 5 ∨ j = 6 ∨ j = 7 ∨ j = 8 ∨ j = 9 by omega) with rfl | rfl | rfl | rfl | rfl | rfl | rfl | rfl | rfl | rfl <;> rfl⟩
theorem nl_5_47 : NL "WhileSaltMelts" 47 1 [.null, .null, vi 0] := ⟨_, rfl, ⟨wm 165 (by decide +kernel) (by decide +kernel), wm 166 (by decide +kernel) (by decide +kernel), wm 5 (by decide +kernel) (by decide +kernel)⟩, rfl, tyX1, tyX1_ok, fun X j hj => by
  have hj : j < 3 := hj
  rcases (show j = 0 ∨ j = 1 ∨ j = 2 by omega) with rfl | rfl | rfl <;> rfl⟩
theorem nl_5_54 : NL "WhileSaltMelts" 54 2 [vi 0, vi 0, .null, vi 0, .null, .null, .null, .null] := ⟨_, rfl, ⟨wm 187 (by decide +kernel) (by decide +kernel), wm 188 (by decide +kernel) (by decide +kernel), wm 6 (by decide +kernel) (by decide +kernel)⟩, rfl, tyX2, tyX2_ok, fun X j hj => by
  have hj : j < 8 := hj
  rcases (show j = 0 ∨ j = 1 ∨ j = 2 ∨ j = 3 ∨ j = 4 ∨ j = 5 ∨ j = 6 ∨ j = 7 by omega) with rfl | rfl | rfl | rfl | rfl | rfl | rfl | rfl <;> rfl⟩
theorem nl_L_7 : NL "WhileSaltMeltsLaw" 7 5 [.null, vi 0, .null, .null, .null, .null, .null, .null, vi 0, .null, vi 0, .null, .null] := ⟨_, rfl, ⟨wm 14 (by decide +kernel) (by decide +kernel), wm 15 (by decide +kernel) (by decide +kernel), wm 1 (by decide +kernel) (by decide +kernel)⟩, rfl, tyX5, tyX5_ok, fun X j hj => by
  have hj : j < 13 := hj
  rcases (show j = 0 ∨ j = 1 ∨ j = 2 ∨ j = 3 ∨ j = 4 ∨ j = 5 ∨ j = 6 ∨ j = 7 ∨ j = 8 ∨ j = 9 ∨ j = 10 ∨ j = 11 ∨ j = 12 by omega) with rfl | rfl | rfl | rfl | rfl | rfl | rfl | rfl | rfl | rfl | rfl | rfl | rfl <;> rfl⟩
theorem nl_L_10 : NL "WhileSaltMeltsLaw" 10 6 [vi 0, vi 0, vi 0, vi 0, vi 0, .null, .null, .null, .null, .null, .null, .null, .null, .null, .null, vi 0, .null, vi 0, .null, vi 0, vi 0, vi 0, vi 0, vi 0, vi 0, vi 0, .null, .null, .null, .null, .null, .null, .null, .null, vi 0, vi 0, vi 0, .null, .null, .null, .null, .null, .null, vi 0] := ⟨_, rfl, ⟨wm 592 (by decide +kernel) (by decide +kernel), wm 593 (by decide +kernel) (by decide +kernel), wm 12 (by decide +kernel) (by decide +kernel)⟩, rfl, tyX6, tyX6_ok, fun X j hj => by
  have hj : j < 44 := hj
  rcases (show j = 0 ∨ j = 1 ∨ j = 2 ∨ j = 3 ∨ j = 4 ∨ j = 5 ∨ j = 6 ∨ j = 7 ∨ j = 8 ∨ j = 9 ∨ j = 10 ∨ j = 11 ∨ j = 12 ∨ j = 13 ∨ j = 14 ∨ j = 15 ∨ j = 16 ∨ j = 17 ∨ j = 18 ∨ j = 19 ∨ j = 20 ∨ j = 21 ∨ j = 22 ∨ j = 23 ∨ j = 24 ∨ j = 25 ∨ j = 26 ∨ j = 27 ∨ j = 28 ∨ j = 29 ∨ j = 30 ∨ j = 31 ∨ j = 32 ∨ j = 33 ∨ j = 34 ∨ j = 35 ∨ j = 36 ∨ j = 37 ∨ j = 38 ∨ j = 39 ∨ j = 40 ∨ j = 41 ∨ j = 42 ∨ j = 43 by omega) with rfl | rfl | rfl | rfl | rfl | rfl | rfl | rfl | rfl | rfl | rfl | rfl | rfl | rfl | rfl | rfl | rfl | rfl | rfl | rfl | rfl | rfl | rfl | rfl | rfl | rfl | rfl | rfl | rfl | rfl | rfl | rfl | rfl | rfl | rfl | rfl | rfl | rfl | rfl | rfl | rfl | rfl | rfl | rfl <;> rfl⟩
theorem w5_30 : Cond.classLink "WhileSaltMelts" 30 "WhileSaltMelts$Evening" ∈ WS := wm 113 (by decide +kernel) (by decide +kernel)
theorem ol_0 : OL "WhileSaltMelts$Evening" 3 := ⟨wm 118 (by decide +kernel) (by decide +kernel), wm 20 (by decide +kernel) (by decide +kernel), wm 21 (by decide +kernel) (by decide +kernel)⟩
theorem ol_1 : OL "WhileSaltMelts$Giving" 3 := ⟨wm 170 (by decide +kernel) (by decide +kernel), wm 20 (by decide +kernel) (by decide +kernel), wm 21 (by decide +kernel) (by decide +kernel)⟩
theorem ol_2 : OL "WhileSaltMelts$Order" 3 := ⟨wm 192 (by decide +kernel) (by decide +kernel), wm 20 (by decide +kernel) (by decide +kernel), wm 21 (by decide +kernel) (by decide +kernel)⟩
theorem ol_3 : OL "WhileSaltMelts$Reader" 3 := ⟨wm 27 (by decide +kernel) (by decide +kernel), wm 20 (by decide +kernel) (by decide +kernel), wm 21 (by decide +kernel) (by decide +kernel)⟩
theorem ol_4 : OL "WhileSaltMelts$Table" 3 := ⟨wm 45 (by decide +kernel) (by decide +kernel), wm 20 (by decide +kernel) (by decide +kernel), wm 21 (by decide +kernel) (by decide +kernel)⟩
theorem ol_5 : OL "WhileSaltMelts" 1 := ⟨wm 19 (by decide +kernel) (by decide +kernel), wm 20 (by decide +kernel) (by decide +kernel), wm 21 (by decide +kernel) (by decide +kernel)⟩
theorem ol_6 : OL "WhileSaltMeltsModel" 1 := ⟨wm 597 (by decide +kernel) (by decide +kernel), wm 20 (by decide +kernel) (by decide +kernel), wm 21 (by decide +kernel) (by decide +kernel)⟩
section XI
variable {d o s : Nat} {h : Hp}
def Z0 : TT := fun _ _ => 0
theorem c_3_init (hd : 1 ≤ d) (ho : h o = some (ob 3 [vi 0, .null, vi 0])) : Ct d m_3_init [.ref o] (o, s) (o + 1, s + 4) h (fun r h' => r = none ∧ (h' o = some (ob 3 [vi 0, .ref (o + 1), vi 0]) ∧ h' (o + 1) = some (ia 0 4 (fun _ => 0))) ∧ ∀ q : Nat, q < o → h' q = h q) := by
  refine Ct.of (by decide) ⟨by show o ≤ o + 1; omega, by show s ≤ s + 4; omega⟩ (by show 1 ≤ 1; omega) ?_
  show WW d m_3_init _ _ _ _ 0 [(0, .ref o)] []
  have hf : ∀ q : Nat, q < o → h q = h q := fun _ _ => rfl
  refine x_aload_n D_3_init_0 rfl ?_
  refine x_obj D_3_init_1 ol_3 (by omega) rfl ?_
  refine x_aload_n D_3_init_4 rfl ?_
  refine x_iconst D_3_init_5 ?_
  refine x_newI' (n := 4) (a1 := o + 1) (b1 := s + 4) D_3_init_6 rfl rfl (by omega) (by omega) (by constructor <;> (dsimp only; omega)) (fun h6 e6 n6 => ?_)
  replace ho := (n6 _ (by omega)).trans ho
  replace hf := fun q hq => (n6 q (by omega)).trans (hf q hq)
  have k1 := e6
  refine x_putF (.array .int) D_3_init_8 f_3_9 rfl ho (by decide +kernel) (fun _ => rfl) (fun _ => rfl) rfl (fun h8 e8 n8 => ?_)
  simp only [List.set_cons_zero, List.set_cons_succ] at e8
  replace ho := e8
  replace hf := fun q hq => (n8 q (by omega)).trans (hf q hq)
  replace k1 := (n8 _ (by omega)).trans k1
  exact x_return D_3_init_11 rfl rfl ⟨rfl, ⟨ho, k1⟩, hf⟩

theorem c_4_init (hd : 1 ≤ d) (ho : h o = some (ob 4 [vi 0, .null, vi 0, .null, vi 0, .null, .null, .null, .null, vi 0, .null, .null, vi 0])) : Ct d m_4_init [.ref o] (o, s) (o + 8, s + 49) h (fun r h' => r = none ∧ TabAt h' o Z0 ∧ ∀ q : Nat, q < o → h' q = h q) := by
  refine Ct.of (by decide) ⟨by show o ≤ o + 8; omega, by show s ≤ s + 49; omega⟩ (by show 1 ≤ 1; omega) ?_
  show WW d m_4_init _ _ _ _ 0 [(0, .ref o)] []
  have hf : ∀ q : Nat, q < o → h q = h q := fun _ _ => rfl
  refine x_aload_n D_4_init_0 rfl ?_
  refine x_obj D_4_init_1 ol_4 (by omega) rfl ?_
  refine x_aload_n D_4_init_4 rfl ?_
  refine x_iconst D_4_init_5 ?_
  refine x_newI' (n := 5) (a1 := o + 1) (b1 := s + 5) D_4_init_6 rfl rfl (by omega) (by omega) (by constructor <;> (dsimp only; omega)) (fun h6 e6 n6 => ?_)
  replace ho := (n6 _ (by omega)).trans ho
  replace hf := fun q hq => (n6 q (by omega)).trans (hf q hq)
  have k1 := e6
  refine x_putF (.array .int) D_4_init_8 f_4_9 rfl ho (by decide +kernel) (fun _ => rfl) (fun _ => rfl) rfl (fun h8 e8 n8 => ?_)
  simp only [List.set_cons_zero, List.set_cons_succ] at e8
  replace ho := e8
  replace hf := fun q hq => (n8 q (by omega)).trans (hf q hq)
  replace k1 := (n8 _ (by omega)).trans k1
  refine x_aload_n D_4_init_11 rfl ?_
  refine x_bipush D_4_init_12 (by decide +kernel) ?_
  refine x_newI' (n := 8) (a1 := o + 2) (b1 := s + 13) D_4_init_14 rfl rfl (by omega) (by omega) (by constructor <;> (dsimp only; omega)) (fun h14 e14 n14 => ?_)
  replace ho := (n14 _ (by omega)).trans ho
  replace hf := fun q hq => (n14 q (by omega)).trans (hf q hq)
  replace k1 := (n14 _ (by omega)).trans k1
  have k2 := e14
  refine x_putF (.array .int) D_4_init_16 f_4_15 rfl ho (by decide +kernel) (fun _ => rfl) (fun _ => rfl) rfl (fun h16 e16 n16 => ?_)
  simp only [List.set_cons_zero, List.set_cons_succ] at e16
  replace ho := e16
  replace hf := fun q hq => (n16 q (by omega)).trans (hf q hq)
  replace k1 := (n16 _ (by omega)).trans k1
  replace k2 := (n16 _ (by omega)).trans k2
  refine x_aload_n D_4_init_19 rfl ?_
  refine x_bipush D_4_init_20 (by decide +kernel) ?_
  refine x_newI' (n := 7) (a1 := o + 3) (b1 := s + 20) D_4_init_22 rfl rfl (by omega) (by omega) (by constructor <;> (dsimp only; omega)) (fun h22 e22 n22 => ?_)
  replace ho := (n22 _ (by omega)).trans ho
  replace hf := fun q hq => (n22 q (by omega)).trans (hf q hq)
  replace k1 := (n22 _ (by omega)).trans k1
  replace k2 := (n22 _ (by omega)).trans k2
  have k3 := e22
  refine x_putF (.array .int) D_4_init_24 f_4_18 rfl ho (by decide +kernel) (fun _ => rfl) (fun _ => rfl) rfl (fun h24 e24 n24 => ?_)
  simp only [List.set_cons_zero, List.set_cons_succ] at e24
  replace ho := e24
  replace hf := fun q hq => (n24 q (by omega)).trans (hf q hq)
  replace k1 := (n24 _ (by omega)).trans k1
  replace k2 := (n24 _ (by omega)).trans k2
  replace k3 := (n24 _ (by omega)).trans k3
  refine x_aload_n D_4_init_27 rfl ?_
  refine x_bipush D_4_init_28 (by decide +kernel) ?_
  refine x_newI' (n := 7) (a1 := o + 4) (b1 := s + 27) D_4_init_30 rfl rfl (by omega) (by omega) (by constructor <;> (dsimp only; omega)) (fun h30 e30 n30 => ?_)
  replace ho := (n30 _ (by omega)).trans ho
  replace hf := fun q hq => (n30 q (by omega)).trans (hf q hq)
  replace k1 := (n30 _ (by omega)).trans k1
  replace k2 := (n30 _ (by omega)).trans k2
  replace k3 := (n30 _ (by omega)).trans k3
  have k4 := e30
  refine x_putF (.array .int) D_4_init_32 f_4_21 rfl ho (by decide +kernel) (fun _ => rfl) (fun _ => rfl) rfl (fun h32 e32 n32 => ?_)
  simp only [List.set_cons_zero, List.set_cons_succ] at e32
  replace ho := e32
  replace hf := fun q hq => (n32 q (by omega)).trans (hf q hq)
  replace k1 := (n32 _ (by omega)).trans k1
  replace k2 := (n32 _ (by omega)).trans k2
  replace k3 := (n32 _ (by omega)).trans k3
  replace k4 := (n32 _ (by omega)).trans k4
  refine x_aload_n D_4_init_35 rfl ?_
  refine x_bipush D_4_init_36 (by decide +kernel) ?_
  refine x_newI' (n := 7) (a1 := o + 5) (b1 := s + 34) D_4_init_38 rfl rfl (by omega) (by omega) (by constructor <;> (dsimp only; omega)) (fun h38 e38 n38 => ?_)
  replace ho := (n38 _ (by omega)).trans ho
  replace hf := fun q hq => (n38 q (by omega)).trans (hf q hq)
  replace k1 := (n38 _ (by omega)).trans k1
  replace k2 := (n38 _ (by omega)).trans k2
  replace k3 := (n38 _ (by omega)).trans k3
  replace k4 := (n38 _ (by omega)).trans k4
  have k5 := e38
  refine x_putF (.array .int) D_4_init_40 f_4_24 rfl ho (by decide +kernel) (fun _ => rfl) (fun _ => rfl) rfl (fun h40 e40 n40 => ?_)
  simp only [List.set_cons_zero, List.set_cons_succ] at e40
  replace ho := e40
  replace hf := fun q hq => (n40 q (by omega)).trans (hf q hq)
  replace k1 := (n40 _ (by omega)).trans k1
  replace k2 := (n40 _ (by omega)).trans k2
  replace k3 := (n40 _ (by omega)).trans k3
  replace k4 := (n40 _ (by omega)).trans k4
  replace k5 := (n40 _ (by omega)).trans k5
  refine x_aload_n D_4_init_43 rfl ?_
  refine x_bipush D_4_init_44 (by decide +kernel) ?_
  refine x_newI' (n := 7) (a1 := o + 6) (b1 := s + 41) D_4_init_46 rfl rfl (by omega) (by omega) (by constructor <;> (dsimp only; omega)) (fun h46 e46 n46 => ?_)
  replace ho := (n46 _ (by omega)).trans ho
  replace hf := fun q hq => (n46 q (by omega)).trans (hf q hq)
  replace k1 := (n46 _ (by omega)).trans k1
  replace k2 := (n46 _ (by omega)).trans k2
  replace k3 := (n46 _ (by omega)).trans k3
  replace k4 := (n46 _ (by omega)).trans k4
  replace k5 := (n46 _ (by omega)).trans k5
  have k6 := e46
  refine x_putF (.array .int) D_4_init_48 f_4_27 rfl ho (by decide +kernel) (fun _ => rfl) (fun _ => rfl) rfl (fun h48 e48 n48 => ?_)
  simp only [List.set_cons_zero, List.set_cons_succ] at e48
  replace ho := e48
  replace hf := fun q hq => (n48 q (by omega)).trans (hf q hq)
  replace k1 := (n48 _ (by omega)).trans k1
  replace k2 := (n48 _ (by omega)).trans k2
  replace k3 := (n48 _ (by omega)).trans k3
  replace k4 := (n48 _ (by omega)).trans k4
  replace k5 := (n48 _ (by omega)).trans k5
  replace k6 := (n48 _ (by omega)).trans k6
  refine x_aload_n D_4_init_51 rfl ?_
  refine x_iconst D_4_init_52 ?_
  refine x_newI' (n := 4) (a1 := o + 7) (b1 := s + 45) D_4_init_53 rfl rfl (by omega) (by omega) (by constructor <;> (dsimp only; omega)) (fun h53 e53 n53 => ?_)
  replace ho := (n53 _ (by omega)).trans ho
  replace hf := fun q hq => (n53 q (by omega)).trans (hf q hq)
  replace k1 := (n53 _ (by omega)).trans k1
  replace k2 := (n53 _ (by omega)).trans k2
  replace k3 := (n53 _ (by omega)).trans k3
  replace k4 := (n53 _ (by omega)).trans k4
  replace k5 := (n53 _ (by omega)).trans k5
  replace k6 := (n53 _ (by omega)).trans k6
  have k7 := e53
  refine x_putF (.array .int) D_4_init_55 f_4_30 rfl ho (by decide +kernel) (fun _ => rfl) (fun _ => rfl) rfl (fun h55 e55 n55 => ?_)
  simp only [List.set_cons_zero, List.set_cons_succ] at e55
  replace ho := e55
  replace hf := fun q hq => (n55 q (by omega)).trans (hf q hq)
  replace k1 := (n55 _ (by omega)).trans k1
  replace k2 := (n55 _ (by omega)).trans k2
  replace k3 := (n55 _ (by omega)).trans k3
  replace k4 := (n55 _ (by omega)).trans k4
  replace k5 := (n55 _ (by omega)).trans k5
  replace k6 := (n55 _ (by omega)).trans k6
  replace k7 := (n55 _ (by omega)).trans k7
  refine x_aload_n D_4_init_58 rfl ?_
  refine x_iconst D_4_init_59 ?_
  refine x_newI' (n := 4) (a1 := o + 8) (b1 := s + 49) D_4_init_60 rfl rfl (by omega) (by omega) (by constructor <;> (dsimp only; omega)) (fun h60 e60 n60 => ?_)
  replace ho := (n60 _ (by omega)).trans ho
  replace hf := fun q hq => (n60 q (by omega)).trans (hf q hq)
  replace k1 := (n60 _ (by omega)).trans k1
  replace k2 := (n60 _ (by omega)).trans k2
  replace k3 := (n60 _ (by omega)).trans k3
  replace k4 := (n60 _ (by omega)).trans k4
  replace k5 := (n60 _ (by omega)).trans k5
  replace k6 := (n60 _ (by omega)).trans k6
  replace k7 := (n60 _ (by omega)).trans k7
  have k8 := e60
  refine x_putF (.array .int) D_4_init_62 f_4_33 rfl ho (by decide +kernel) (fun _ => rfl) (fun _ => rfl) rfl (fun h62 e62 n62 => ?_)
  simp only [List.set_cons_zero, List.set_cons_succ] at e62
  replace ho := e62
  replace hf := fun q hq => (n62 q (by omega)).trans (hf q hq)
  replace k1 := (n62 _ (by omega)).trans k1
  replace k2 := (n62 _ (by omega)).trans k2
  replace k3 := (n62 _ (by omega)).trans k3
  replace k4 := (n62 _ (by omega)).trans k4
  replace k5 := (n62 _ (by omega)).trans k5
  replace k6 := (n62 _ (by omega)).trans k6
  replace k7 := (n62 _ (by omega)).trans k7
  replace k8 := (n62 _ (by omega)).trans k8
  exact x_return D_4_init_65 rfl rfl ⟨rfl, ⟨ho, k1, k2, k3, k4, k5, k6, k7, k8⟩, hf⟩

theorem c_0_init (hd : 1 ≤ d) (ho : h o = some (ob 0 [vi 0, vi 0, vi 0, vi 0, vi 0, vi 0, .null, .null, .null, .null])) : Ct d m_0_init [.ref o] (o, s) (o + 4, s + 22) h (fun r h' => r = none ∧ EvAt h' o Z0 ∧ ∀ q : Nat, q < o → h' q = h q) := by
  refine Ct.of (by decide) ⟨by show o ≤ o + 4; omega, by show s ≤ s + 22; omega⟩ (by show 1 ≤ 1; omega) ?_
  show WW d m_0_init _ _ _ _ 0 [(0, .ref o)] []
  have hf : ∀ q : Nat, q < o → h q = h q := fun _ _ => rfl
  refine x_aload_n D_0_init_0 rfl ?_
  refine x_obj D_0_init_1 ol_0 (by omega) rfl ?_
  refine x_aload_n D_0_init_4 rfl ?_
  refine x_iconst D_0_init_5 ?_
  refine x_newI' (n := 5) (a1 := o + 1) (b1 := s + 5) D_0_init_6 rfl rfl (by omega) (by omega) (by constructor <;> (dsimp only; omega)) (fun h6 e6 n6 => ?_)
  replace ho := (n6 _ (by omega)).trans ho
  replace hf := fun q hq => (n6 q (by omega)).trans (hf q hq)
  have k1 := e6
  refine x_putF (.array .int) D_0_init_8 f_0_9 rfl ho (by decide +kernel) (fun _ => rfl) (fun _ => rfl) rfl (fun h8 e8 n8 => ?_)
  simp only [List.set_cons_zero, List.set_cons_succ] at e8
  replace ho := e8
  replace hf := fun q hq => (n8 q (by omega)).trans (hf q hq)
  replace k1 := (n8 _ (by omega)).trans k1
  refine x_aload_n D_0_init_11 rfl ?_
  refine x_iconst D_0_init_12 ?_
  refine x_newI' (n := 5) (a1 := o + 2) (b1 := s + 10) D_0_init_13 rfl rfl (by omega) (by omega) (by constructor <;> (dsimp only; omega)) (fun h13 e13 n13 => ?_)
  replace ho := (n13 _ (by omega)).trans ho
  replace hf := fun q hq => (n13 q (by omega)).trans (hf q hq)
  replace k1 := (n13 _ (by omega)).trans k1
  have k2 := e13
  refine x_putF (.array .int) D_0_init_15 f_0_15 rfl ho (by decide +kernel) (fun _ => rfl) (fun _ => rfl) rfl (fun h15 e15 n15 => ?_)
  simp only [List.set_cons_zero, List.set_cons_succ] at e15
  replace ho := e15
  replace hf := fun q hq => (n15 q (by omega)).trans (hf q hq)
  replace k1 := (n15 _ (by omega)).trans k1
  replace k2 := (n15 _ (by omega)).trans k2
  refine x_aload_n D_0_init_18 rfl ?_
  refine x_iconst D_0_init_19 ?_
  refine x_newI' (n := 5) (a1 := o + 3) (b1 := s + 15) D_0_init_20 rfl rfl (by omega) (by omega) (by constructor <;> (dsimp only; omega)) (fun h20 e20 n20 => ?_)
  replace ho := (n20 _ (by omega)).trans ho
  replace hf := fun q hq => (n20 q (by omega)).trans (hf q hq)
  replace k1 := (n20 _ (by omega)).trans k1
  replace k2 := (n20 _ (by omega)).trans k2
  have k3 := e20
  refine x_putF (.array .int) D_0_init_22 f_0_18 rfl ho (by decide +kernel) (fun _ => rfl) (fun _ => rfl) rfl (fun h22 e22 n22 => ?_)
  simp only [List.set_cons_zero, List.set_cons_succ] at e22
  replace ho := e22
  replace hf := fun q hq => (n22 q (by omega)).trans (hf q hq)
  replace k1 := (n22 _ (by omega)).trans k1
  replace k2 := (n22 _ (by omega)).trans k2
  replace k3 := (n22 _ (by omega)).trans k3
  refine x_aload_n D_0_init_25 rfl ?_
  refine x_bipush D_0_init_26 (by decide +kernel) ?_
  refine x_newI' (n := 7) (a1 := o + 4) (b1 := s + 22) D_0_init_28 rfl rfl (by omega) (by omega) (by constructor <;> (dsimp only; omega)) (fun h28 e28 n28 => ?_)
  replace ho := (n28 _ (by omega)).trans ho
  replace hf := fun q hq => (n28 q (by omega)).trans (hf q hq)
  replace k1 := (n28 _ (by omega)).trans k1
  replace k2 := (n28 _ (by omega)).trans k2
  replace k3 := (n28 _ (by omega)).trans k3
  have k4 := e28
  refine x_putF (.array .int) D_0_init_30 f_0_21 rfl ho (by decide +kernel) (fun _ => rfl) (fun _ => rfl) rfl (fun h30 e30 n30 => ?_)
  simp only [List.set_cons_zero, List.set_cons_succ] at e30
  replace ho := e30
  replace hf := fun q hq => (n30 q (by omega)).trans (hf q hq)
  replace k1 := (n30 _ (by omega)).trans k1
  replace k2 := (n30 _ (by omega)).trans k2
  replace k3 := (n30 _ (by omega)).trans k3
  replace k4 := (n30 _ (by omega)).trans k4
  exact x_return D_0_init_33 rfl rfl ⟨rfl, ⟨ho, k1, k2, k3, k4⟩, hf⟩

theorem c_1_init (hd : 1 ≤ d) (ho : h o = some (ob 1 [.null, .null, vi 0])) : Ct d m_1_init [.ref o] (o, s) (o + 10, s + 2063) h (fun r h' => r = none ∧ GvAt h' o 0 (fun _ => 0) ∧ ∀ q : Nat, q < o → h' q = h q) := by
  refine Ct.of (by decide) ⟨by show o ≤ o + 10; omega, by show s ≤ s + 2063; omega⟩ (by show 1 ≤ 1; omega) ?_
  show WW d m_1_init _ _ _ _ 0 [(0, .ref o)] []
  have hf : ∀ q : Nat, q < o → h q = h q := fun _ _ => rfl
  refine x_aload_n D_1_init_0 rfl ?_
  refine x_obj D_1_init_1 ol_1 (by omega) rfl ?_
  refine x_aload_n D_1_init_4 rfl ?_
  refine x_bipush D_1_init_5 (by decide +kernel) ?_
  refine x_sipush D_1_init_7 (by decide +kernel) ?_
  refine x_mna' (n := 8) (k := 256) (a1 := o + 9) (b1 := s + 2056) D_1_init_10 (wm 171 (by decide +kernel) (by decide +kernel)) rfl rfl rfl rfl (by omega) (by omega) (by constructor <;> (dsimp only; omega)) (fun h10 e10 g10 n10 => ?_)
  replace ho := (n10 _ (by omega)).trans ho
  replace hf := fun q hq => (n10 q (by omega)).trans (hf q hq)
  have k1 := e10
  have kR := g10
  refine x_putF (.array (.array .int)) D_1_init_14 f_1_11 rfl ho (by decide +kernel) (fun _ => rfl) (fun _ => rfl) rfl (fun h14 e14 n14 => ?_)
  simp only [List.set_cons_zero, List.set_cons_succ] at e14
  replace ho := e14
  replace hf := fun q hq => (n14 q (by omega)).trans (hf q hq)
  replace k1 := (n14 _ (by omega)).trans k1
  replace kR := fun i hi => (n14 _ (by omega)).trans (kR i hi)
  refine x_aload_n D_1_init_17 rfl ?_
  refine x_bipush D_1_init_18 (by decide +kernel) ?_
  refine x_newI' (n := 7) (a1 := o + 10) (b1 := s + 2063) D_1_init_20 rfl rfl (by omega) (by omega) (by constructor <;> (dsimp only; omega)) (fun h20 e20 n20 => ?_)
  replace ho := (n20 _ (by omega)).trans ho
  replace hf := fun q hq => (n20 q (by omega)).trans (hf q hq)
  replace k1 := (n20 _ (by omega)).trans k1
  replace kR := fun i hi => (n20 _ (by omega)).trans (kR i hi)
  have k10 := e20
  refine x_putF (.array .int) D_1_init_22 f_1_16 rfl ho (by decide +kernel) (fun _ => rfl) (fun _ => rfl) rfl (fun h22 e22 n22 => ?_)
  simp only [List.set_cons_zero, List.set_cons_succ] at e22
  replace ho := e22
  replace hf := fun q hq => (n22 q (by omega)).trans (hf q hq)
  replace k1 := (n22 _ (by omega)).trans k1
  replace kR := fun i hi => (n22 _ (by omega)).trans (kR i hi)
  replace k10 := (n22 _ (by omega)).trans k10
  exact x_return D_1_init_25 rfl rfl ⟨rfl, ⟨ho, k1, k10, fun i hi => ⟨_, kR i hi⟩⟩, hf⟩

theorem c_2_init (hd : 1 ≤ d) (ho : h o = some (ob 2 [vi 0, vi 0, .null, vi 0, .null, .null, .null, .null])) : Ct d m_2_init [.ref o] (o, s) (o + 5, s + 33) h (fun r h' => r = none ∧ OrAt h' o 0 0 0 (fun _ => 0) (fun _ => 0) (fun _ => 0) ∧ ∀ q : Nat, q < o → h' q = h q) := by
  refine Ct.of (by decide) ⟨by show o ≤ o + 5; omega, by show s ≤ s + 33; omega⟩ (by show 1 ≤ 1; omega) ?_
  show WW d m_2_init _ _ _ _ 0 [(0, .ref o)] []
  have hf : ∀ q : Nat, q < o → h q = h q := fun _ _ => rfl
  refine x_aload_n D_2_init_0 rfl ?_
  refine x_obj D_2_init_1 ol_2 (by omega) rfl ?_
  refine x_aload_n D_2_init_4 rfl ?_
  refine x_bipush D_2_init_5 (by decide +kernel) ?_
  refine x_newI' (n := 7) (a1 := o + 1) (b1 := s + 7) D_2_init_7 rfl rfl (by omega) (by omega) (by constructor <;> (dsimp only; omega)) (fun h7 e7 n7 => ?_)
  replace ho := (n7 _ (by omega)).trans ho
  replace hf := fun q hq => (n7 q (by omega)).trans (hf q hq)
  have k1 := e7
  refine x_putF (.array .int) D_2_init_9 f_2_9 rfl ho (by decide +kernel) (fun _ => rfl) (fun _ => rfl) rfl (fun h9 e9 n9 => ?_)
  simp only [List.set_cons_zero, List.set_cons_succ] at e9
  replace ho := e9
  replace hf := fun q hq => (n9 q (by omega)).trans (hf q hq)
  replace k1 := (n9 _ (by omega)).trans k1
  refine x_aload_n D_2_init_12 rfl ?_
  refine x_bipush D_2_init_13 (by decide +kernel) ?_
  refine x_newI' (n := 7) (a1 := o + 2) (b1 := s + 14) D_2_init_15 rfl rfl (by omega) (by omega) (by constructor <;> (dsimp only; omega)) (fun h15 e15 n15 => ?_)
  replace ho := (n15 _ (by omega)).trans ho
  replace hf := fun q hq => (n15 q (by omega)).trans (hf q hq)
  replace k1 := (n15 _ (by omega)).trans k1
  have k2 := e15
  refine x_putF (.array .int) D_2_init_17 f_2_15 rfl ho (by decide +kernel) (fun _ => rfl) (fun _ => rfl) rfl (fun h17 e17 n17 => ?_)
  simp only [List.set_cons_zero, List.set_cons_succ] at e17
  replace ho := e17
  replace hf := fun q hq => (n17 q (by omega)).trans (hf q hq)
  replace k1 := (n17 _ (by omega)).trans k1
  replace k2 := (n17 _ (by omega)).trans k2
  refine x_aload_n D_2_init_20 rfl ?_
  refine x_bipush D_2_init_21 (by decide +kernel) ?_
  refine x_newI' (n := 7) (a1 := o + 3) (b1 := s + 21) D_2_init_23 rfl rfl (by omega) (by omega) (by constructor <;> (dsimp only; omega)) (fun h23 e23 n23 => ?_)
  replace ho := (n23 _ (by omega)).trans ho
  replace hf := fun q hq => (n23 q (by omega)).trans (hf q hq)
  replace k1 := (n23 _ (by omega)).trans k1
  replace k2 := (n23 _ (by omega)).trans k2
  have k3 := e23
  refine x_putF (.array .int) D_2_init_25 f_2_18 rfl ho (by decide +kernel) (fun _ => rfl) (fun _ => rfl) rfl (fun h25 e25 n25 => ?_)
  simp only [List.set_cons_zero, List.set_cons_succ] at e25
  replace ho := e25
  replace hf := fun q hq => (n25 q (by omega)).trans (hf q hq)
  replace k1 := (n25 _ (by omega)).trans k1
  replace k2 := (n25 _ (by omega)).trans k2
  replace k3 := (n25 _ (by omega)).trans k3
  refine x_aload_n D_2_init_28 rfl ?_
  refine x_iconst D_2_init_29 ?_
  refine x_newI' (n := 5) (a1 := o + 4) (b1 := s + 26) D_2_init_30 rfl rfl (by omega) (by omega) (by constructor <;> (dsimp only; omega)) (fun h30 e30 n30 => ?_)
  replace ho := (n30 _ (by omega)).trans ho
  replace hf := fun q hq => (n30 q (by omega)).trans (hf q hq)
  replace k1 := (n30 _ (by omega)).trans k1
  replace k2 := (n30 _ (by omega)).trans k2
  replace k3 := (n30 _ (by omega)).trans k3
  have k4 := e30
  refine x_putF (.array .int) D_2_init_32 f_2_21 rfl ho (by decide +kernel) (fun _ => rfl) (fun _ => rfl) rfl (fun h32 e32 n32 => ?_)
  simp only [List.set_cons_zero, List.set_cons_succ] at e32
  replace ho := e32
  replace hf := fun q hq => (n32 q (by omega)).trans (hf q hq)
  replace k1 := (n32 _ (by omega)).trans k1
  replace k2 := (n32 _ (by omega)).trans k2
  replace k3 := (n32 _ (by omega)).trans k3
  replace k4 := (n32 _ (by omega)).trans k4
  refine x_aload_n D_2_init_35 rfl ?_
  refine x_bipush D_2_init_36 (by decide +kernel) ?_
  refine x_newI' (n := 7) (a1 := o + 5) (b1 := s + 33) D_2_init_38 rfl rfl (by omega) (by omega) (by constructor <;> (dsimp only; omega)) (fun h38 e38 n38 => ?_)
  replace ho := (n38 _ (by omega)).trans ho
  replace hf := fun q hq => (n38 q (by omega)).trans (hf q hq)
  replace k1 := (n38 _ (by omega)).trans k1
  replace k2 := (n38 _ (by omega)).trans k2
  replace k3 := (n38 _ (by omega)).trans k3
  replace k4 := (n38 _ (by omega)).trans k4
  have k5 := e38
  refine x_putF (.array .int) D_2_init_40 f_2_24 rfl ho (by decide +kernel) (fun _ => rfl) (fun _ => rfl) rfl (fun h40 e40 n40 => ?_)
  simp only [List.set_cons_zero, List.set_cons_succ] at e40
  replace ho := e40
  replace hf := fun q hq => (n40 q (by omega)).trans (hf q hq)
  replace k1 := (n40 _ (by omega)).trans k1
  replace k2 := (n40 _ (by omega)).trans k2
  replace k3 := (n40 _ (by omega)).trans k3
  replace k4 := (n40 _ (by omega)).trans k4
  replace k5 := (n40 _ (by omega)).trans k5
  exact x_return D_2_init_43 rfl rfl ⟨rfl, ⟨ho, k1, k2, ⟨_, k3⟩, ⟨_, k4⟩, k5⟩, hf⟩

end XI
