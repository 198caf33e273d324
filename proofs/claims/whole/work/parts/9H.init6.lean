/-! the reference's constructor -/
def tab1 : TT := addW (addW (addG (addG (addP (addP (clr0 Z0) 3) 5) 4) 6) 0 10 5 99) 1 20 7 0
theorem agt_1 {U : TT} (h0 : U 21 0 = 2) (h2 : U 22 0 = 2) (h4 : U 23 0 = 2) (h9 : U 24 0 = 0) (h12 : U 25 0 = 20) (a0 : U 26 0 = 3 ∧ U 26 1 = 5) (b0 : U 27 0 = 4 ∧ U 27 1 = 6) (c0 : U 28 0 = 0 ∧ U 29 0 = 10 ∧ U 30 0 = 5 ∧ U 31 0 = -4) (c1 : U 28 1 = 1 ∧ U 29 1 = 20 ∧ U 30 1 = 7 ∧ U 31 1 = 0) : AgT tab1 (sdU U) := by
  have e0 : tab1 0 0 = 2 := by decide +kernel
  have e2 : tab1 2 0 = 2 := by decide +kernel
  have e4 : tab1 4 0 = 2 := by decide +kernel
  have e9 : tab1 9 0 = 0 := by decide +kernel
  have e12 : tab1 12 0 = 20 := by decide +kernel
  refine ⟨⟨e0.trans h0.symm, e2.trans h2.symm, e4.trans h4.symm, e9.trans h9.symm, e12.trans h12.symm⟩, fun i i0 i1 => ?_, fun i i0 i1 => ?_, fun i i0 i1 => ?_, fun i i0 i1 => ?_⟩
  · rw [e0] at i1
    rcases (show i = 0 ∨ i = 1 by omega) with rfl | rfl
    · exact (show tab1 1 0 = 3 by decide +kernel).trans a0.1.symm
    · exact (show tab1 1 1 = 5 by decide +kernel).trans a0.2.symm
  · rw [e2] at i1
    rcases (show i = 0 ∨ i = 1 by omega) with rfl | rfl
    · exact (show tab1 3 0 = 4 by decide +kernel).trans b0.1.symm
    · exact (show tab1 3 1 = 6 by decide +kernel).trans b0.2.symm
  · rw [e4] at i1
    rcases (show i = 0 ∨ i = 1 by omega) with rfl | rfl
    · exact ⟨(show tab1 5 0 = 0 by decide +kernel).trans c0.1.symm, (show tab1 6 0 = 10 by decide +kernel).trans c0.2.1.symm, (show tab1 7 0 = 5 by decide +kernel).trans c0.2.2.1.symm, (show tab1 8 0 = -4 by decide +kernel).trans c0.2.2.2.symm⟩
    · exact ⟨(show tab1 5 1 = 1 by decide +kernel).trans c1.1.symm, (show tab1 6 1 = 20 by decide +kernel).trans c1.2.1.symm, (show tab1 7 1 = 7 by decide +kernel).trans c1.2.2.1.symm, (show tab1 8 1 = 0 by decide +kernel).trans c1.2.2.2.symm⟩
  · rw [e9] at i1
    omega
theorem ok_1 : TabOk tab1 := by
  have e0 : tab1 0 0 = 2 := by decide +kernel
  have e2 : tab1 2 0 = 2 := by decide +kernel
  have e4 : tab1 4 0 = 2 := by decide +kernel
  have e9 : tab1 9 0 = 0 := by decide +kernel
  have e12 : tab1 12 0 = 20 := by decide +kernel
  refine ⟨by omega, by omega, by omega, by omega, by omega, fun i i0 i1 => ?_, fun i i0 i1 => ?_, fun i i0 i1 => ?_, fun i i0 i1 => ?_⟩
  · rw [e0] at i1
    rcases (show i = 0 ∨ i = 1 by omega) with rfl | rfl <;> decide +kernel
  · rw [e2] at i1
    rcases (show i = 0 ∨ i = 1 by omega) with rfl | rfl <;> decide +kernel
  · rw [e4] at i1
    rcases (show i = 0 ∨ i = 1 by omega) with rfl | rfl <;> decide +kernel
  · rw [e9] at i1
    omega
section XJ
variable {d s : Nat} {h : Hp}
theorem c_6_init (hd : 2 ≤ d) (ho : h 102 = some (ob 6 [vi 0, vi 0, vi 0, vi 0, vi 0, .null, .null, .null, .null, .null, .null, .null, .null, .null, .null, vi 0, .null, vi 0, .null, vi 0, vi 0, vi 0, vi 0, vi 0, vi 0, vi 0, .null, .null, .null, .null, .null, .null, .null, .null, vi 0, vi 0, vi 0, .null, .null, .null, .null, .null, .null, vi 0])) : Ct d m_6_init [.ref 102] (102, s) (128, s + 2732) h (fun r h' => r = none ∧ (∀ (Bt : Int → Int) (un ke : Nat → SS), RInv h' 0 Bt tab1 (layS tab1) 0 un 0 ke) ∧ ∀ q : Nat, (q < 102 ∨ 128 < q) → h' q = h q) := by
  refine Ct.of (by decide) ⟨by show 102 ≤ 128; omega, by show s ≤ s + 2732; omega⟩ (by show 1 ≤ 1; omega) ?_
  show WW d m_6_init _ _ _ _ 0 [(0, .ref 102)] []
  have hf : ∀ q : Nat, (q < 102 ∨ 128 < q) → h q = h q := fun _ _ => rfl
  refine x_aload_n D_6_init_0 rfl ?_
  refine x_obj D_6_init_1 ol_6 (by omega) rfl ?_
  refine x_aload_n D_6_init_4 rfl ?_
  refine x_iconst D_6_init_5 ?_
  refine x_newI' (n := 5) (a1 := 103) (b1 := s + 5) D_6_init_6 rfl rfl (by omega) (by omega) (by constructor <;> (dsimp only; omega)) (fun h6 e6 n6 => ?_)
  replace ho := (n6 _ (by omega)).trans ho
  replace hf := fun q hq => (n6 q (by omega)).trans (hf q hq)
  have k1 := e6
  refine x_putF (.array .int) D_6_init_8 f_6_7 rfl ho (by decide +kernel) (fun _ => rfl) (fun _ => rfl) rfl (fun h8 e8 n8 => ?_)
  simp only [List.set_cons_zero, List.set_cons_succ] at e8
  replace ho := e8
  replace hf := fun q hq => (n8 q (by omega)).trans (hf q hq)
  replace k1 := (n8 _ (by omega)).trans k1
  refine x_aload_n D_6_init_11 rfl ?_
  refine x_bipush D_6_init_12 (by decide +kernel) ?_
  refine x_newI' (n := 8) (a1 := 104) (b1 := s + 13) D_6_init_14 rfl rfl (by omega) (by omega) (by constructor <;> (dsimp only; omega)) (fun h14 e14 n14 => ?_)
  replace ho := (n14 _ (by omega)).trans ho
  replace hf := fun q hq => (n14 q (by omega)).trans (hf q hq)
  replace k1 := (n14 _ (by omega)).trans k1
  have k2 := e14
  refine x_putF (.array .int) D_6_init_16 f_6_13 rfl ho (by decide +kernel) (fun _ => rfl) (fun _ => rfl) rfl (fun h16 e16 n16 => ?_)
  simp only [List.set_cons_zero, List.set_cons_succ] at e16
  replace ho := e16
  replace hf := fun q hq => (n16 q (by omega)).trans (hf q hq)
  replace k1 := (n16 _ (by omega)).trans k1
  replace k2 := (n16 _ (by omega)).trans k2
  refine x_aload_n D_6_init_19 rfl ?_
  refine x_bipush D_6_init_20 (by decide +kernel) ?_
  refine x_newI' (n := 7) (a1 := 105) (b1 := s + 20) D_6_init_22 rfl rfl (by omega) (by omega) (by constructor <;> (dsimp only; omega)) (fun h22 e22 n22 => ?_)
  replace ho := (n22 _ (by omega)).trans ho
  replace hf := fun q hq => (n22 q (by omega)).trans (hf q hq)
  replace k1 := (n22 _ (by omega)).trans k1
  replace k2 := (n22 _ (by omega)).trans k2
  have k3 := e22
  refine x_putF (.array .int) D_6_init_24 f_6_16 rfl ho (by decide +kernel) (fun _ => rfl) (fun _ => rfl) rfl (fun h24 e24 n24 => ?_)
  simp only [List.set_cons_zero, List.set_cons_succ] at e24
  replace ho := e24
  replace hf := fun q hq => (n24 q (by omega)).trans (hf q hq)
  replace k1 := (n24 _ (by omega)).trans k1
  replace k2 := (n24 _ (by omega)).trans k2
  replace k3 := (n24 _ (by omega)).trans k3
  refine x_aload_n D_6_init_27 rfl ?_
  refine x_bipush D_6_init_28 (by decide +kernel) ?_
  refine x_newI' (n := 7) (a1 := 106) (b1 := s + 27) D_6_init_30 rfl rfl (by omega) (by omega) (by constructor <;> (dsimp only; omega)) (fun h30 e30 n30 => ?_)
  replace ho := (n30 _ (by omega)).trans ho
  replace hf := fun q hq => (n30 q (by omega)).trans (hf q hq)
  replace k1 := (n30 _ (by omega)).trans k1
  replace k2 := (n30 _ (by omega)).trans k2
  replace k3 := (n30 _ (by omega)).trans k3
  have k4 := e30
  refine x_putF (.array .int) D_6_init_32 f_6_19 rfl ho (by decide +kernel) (fun _ => rfl) (fun _ => rfl) rfl (fun h32 e32 n32 => ?_)
  simp only [List.set_cons_zero, List.set_cons_succ] at e32
  replace ho := e32
  replace hf := fun q hq => (n32 q (by omega)).trans (hf q hq)
  replace k1 := (n32 _ (by omega)).trans k1
  replace k2 := (n32 _ (by omega)).trans k2
  replace k3 := (n32 _ (by omega)).trans k3
  replace k4 := (n32 _ (by omega)).trans k4
  refine x_aload_n D_6_init_35 rfl ?_
  refine x_bipush D_6_init_36 (by decide +kernel) ?_
  refine x_newI' (n := 7) (a1 := 107) (b1 := s + 34) D_6_init_38 rfl rfl (by omega) (by omega) (by constructor <;> (dsimp only; omega)) (fun h38 e38 n38 => ?_)
  replace ho := (n38 _ (by omega)).trans ho
  replace hf := fun q hq => (n38 q (by omega)).trans (hf q hq)
  replace k1 := (n38 _ (by omega)).trans k1
  replace k2 := (n38 _ (by omega)).trans k2
  replace k3 := (n38 _ (by omega)).trans k3
  replace k4 := (n38 _ (by omega)).trans k4
  have k5 := e38
  refine x_putF (.array .int) D_6_init_40 f_6_22 rfl ho (by decide +kernel) (fun _ => rfl) (fun _ => rfl) rfl (fun h40 e40 n40 => ?_)
  simp only [List.set_cons_zero, List.set_cons_succ] at e40
  replace ho := e40
  replace hf := fun q hq => (n40 q (by omega)).trans (hf q hq)
  replace k1 := (n40 _ (by omega)).trans k1
  replace k2 := (n40 _ (by omega)).trans k2
  replace k3 := (n40 _ (by omega)).trans k3
  replace k4 := (n40 _ (by omega)).trans k4
  replace k5 := (n40 _ (by omega)).trans k5
  refine x_aload_n D_6_init_43 rfl ?_
  refine x_bipush D_6_init_44 (by decide +kernel) ?_
  refine x_newI' (n := 7) (a1 := 108) (b1 := s + 41) D_6_init_46 rfl rfl (by omega) (by omega) (by constructor <;> (dsimp only; omega)) (fun h46 e46 n46 => ?_)
  replace ho := (n46 _ (by omega)).trans ho
  replace hf := fun q hq => (n46 q (by omega)).trans (hf q hq)
  replace k1 := (n46 _ (by omega)).trans k1
  replace k2 := (n46 _ (by omega)).trans k2
  replace k3 := (n46 _ (by omega)).trans k3
  replace k4 := (n46 _ (by omega)).trans k4
  replace k5 := (n46 _ (by omega)).trans k5
  have k6 := e46
  refine x_putF (.array .int) D_6_init_48 f_6_25 rfl ho (by decide +kernel) (fun _ => rfl) (fun _ => rfl) rfl (fun h48 e48 n48 => ?_)
  simp only [List.set_cons_zero, List.set_cons_succ] at e48
  replace ho := e48
  replace hf := fun q hq => (n48 q (by omega)).trans (hf q hq)
  replace k1 := (n48 _ (by omega)).trans k1
  replace k2 := (n48 _ (by omega)).trans k2
  replace k3 := (n48 _ (by omega)).trans k3
  replace k4 := (n48 _ (by omega)).trans k4
  replace k5 := (n48 _ (by omega)).trans k5
  replace k6 := (n48 _ (by omega)).trans k6
  refine x_aload_n D_6_init_51 rfl ?_
  refine x_iconst D_6_init_52 ?_
  refine x_newI' (n := 4) (a1 := 109) (b1 := s + 45) D_6_init_53 rfl rfl (by omega) (by omega) (by constructor <;> (dsimp only; omega)) (fun h53 e53 n53 => ?_)
  replace ho := (n53 _ (by omega)).trans ho
  replace hf := fun q hq => (n53 q (by omega)).trans (hf q hq)
  replace k1 := (n53 _ (by omega)).trans k1
  replace k2 := (n53 _ (by omega)).trans k2
  replace k3 := (n53 _ (by omega)).trans k3
  replace k4 := (n53 _ (by omega)).trans k4
  replace k5 := (n53 _ (by omega)).trans k5
  replace k6 := (n53 _ (by omega)).trans k6
  have k7 := e53
  refine x_putF (.array .int) D_6_init_55 f_6_28 rfl ho (by decide +kernel) (fun _ => rfl) (fun _ => rfl) rfl (fun h55 e55 n55 => ?_)
  simp only [List.set_cons_zero, List.set_cons_succ] at e55
  replace ho := e55
  replace hf := fun q hq => (n55 q (by omega)).trans (hf q hq)
  replace k1 := (n55 _ (by omega)).trans k1
  replace k2 := (n55 _ (by omega)).trans k2
  replace k3 := (n55 _ (by omega)).trans k3
  replace k4 := (n55 _ (by omega)).trans k4
  replace k5 := (n55 _ (by omega)).trans k5
  replace k6 := (n55 _ (by omega)).trans k6
  replace k7 := (n55 _ (by omega)).trans k7
  refine x_aload_n D_6_init_58 rfl ?_
  refine x_iconst D_6_init_59 ?_
  refine x_newI' (n := 4) (a1 := 110) (b1 := s + 49) D_6_init_60 rfl rfl (by omega) (by omega) (by constructor <;> (dsimp only; omega)) (fun h60 e60 n60 => ?_)
  replace ho := (n60 _ (by omega)).trans ho
  replace hf := fun q hq => (n60 q (by omega)).trans (hf q hq)
  replace k1 := (n60 _ (by omega)).trans k1
  replace k2 := (n60 _ (by omega)).trans k2
  replace k3 := (n60 _ (by omega)).trans k3
  replace k4 := (n60 _ (by omega)).trans k4
  replace k5 := (n60 _ (by omega)).trans k5
  replace k6 := (n60 _ (by omega)).trans k6
  replace k7 := (n60 _ (by omega)).trans k7
  have k8 := e60
  refine x_putF (.array .int) D_6_init_62 f_6_31 rfl ho (by decide +kernel) (fun _ => rfl) (fun _ => rfl) rfl (fun h62 e62 n62 => ?_)
  simp only [List.set_cons_zero, List.set_cons_succ] at e62
  replace ho := e62
  replace hf := fun q hq => (n62 q (by omega)).trans (hf q hq)
  replace k1 := (n62 _ (by omega)).trans k1
  replace k2 := (n62 _ (by omega)).trans k2
  replace k3 := (n62 _ (by omega)).trans k3
  replace k4 := (n62 _ (by omega)).trans k4
  replace k5 := (n62 _ (by omega)).trans k5
  replace k6 := (n62 _ (by omega)).trans k6
  replace k7 := (n62 _ (by omega)).trans k7
  replace k8 := (n62 _ (by omega)).trans k8
  refine x_aload_n D_6_init_65 rfl ?_
  refine x_bipush D_6_init_66 (by decide +kernel) ?_
  refine x_newI' (n := 23) (a1 := 111) (b1 := s + 72) D_6_init_68 rfl rfl (by omega) (by omega) (by constructor <;> (dsimp only; omega)) (fun h68 e68 n68 => ?_)
  replace ho := (n68 _ (by omega)).trans ho
  replace hf := fun q hq => (n68 q (by omega)).trans (hf q hq)
  replace k1 := (n68 _ (by omega)).trans k1
  replace k2 := (n68 _ (by omega)).trans k2
  replace k3 := (n68 _ (by omega)).trans k3
  replace k4 := (n68 _ (by omega)).trans k4
  replace k5 := (n68 _ (by omega)).trans k5
  replace k6 := (n68 _ (by omega)).trans k6
  replace k7 := (n68 _ (by omega)).trans k7
  replace k8 := (n68 _ (by omega)).trans k8
  have k9 := e68
  refine x_putF (.array .int) D_6_init_70 f_6_34 rfl ho (by decide +kernel) (fun _ => rfl) (fun _ => rfl) rfl (fun h70 e70 n70 => ?_)
  simp only [List.set_cons_zero, List.set_cons_succ] at e70
  replace ho := e70
  replace hf := fun q hq => (n70 q (by omega)).trans (hf q hq)
  replace k1 := (n70 _ (by omega)).trans k1
  replace k2 := (n70 _ (by omega)).trans k2
  replace k3 := (n70 _ (by omega)).trans k3
  replace k4 := (n70 _ (by omega)).trans k4
  replace k5 := (n70 _ (by omega)).trans k5
  replace k6 := (n70 _ (by omega)).trans k6
  replace k7 := (n70 _ (by omega)).trans k7
  replace k8 := (n70 _ (by omega)).trans k8
  replace k9 := (n70 _ (by omega)).trans k9
  refine x_aload_n D_6_init_73 rfl ?_
  refine x_sipush D_6_init_74 (by decide +kernel) ?_
  refine x_newI' (n := 184) (a1 := 112) (b1 := s + 256) D_6_init_77 rfl rfl (by omega) (by omega) (by constructor <;> (dsimp only; omega)) (fun h77 e77 n77 => ?_)
  replace ho := (n77 _ (by omega)).trans ho
  replace hf := fun q hq => (n77 q (by omega)).trans (hf q hq)
  replace k1 := (n77 _ (by omega)).trans k1
  replace k2 := (n77 _ (by omega)).trans k2
  replace k3 := (n77 _ (by omega)).trans k3
  replace k4 := (n77 _ (by omega)).trans k4
  replace k5 := (n77 _ (by omega)).trans k5
  replace k6 := (n77 _ (by omega)).trans k6
  replace k7 := (n77 _ (by omega)).trans k7
  replace k8 := (n77 _ (by omega)).trans k8
  replace k9 := (n77 _ (by omega)).trans k9
  have k10 := e77
  refine x_putF (.array .int) D_6_init_79 f_6_37 rfl ho (by decide +kernel) (fun _ => rfl) (fun _ => rfl) rfl (fun h79 e79 n79 => ?_)
  simp only [List.set_cons_zero, List.set_cons_succ] at e79
  replace ho := e79
  replace hf := fun q hq => (n79 q (by omega)).trans (hf q hq)
  replace k1 := (n79 _ (by omega)).trans k1
  replace k2 := (n79 _ (by omega)).trans k2
  replace k3 := (n79 _ (by omega)).trans k3
  replace k4 := (n79 _ (by omega)).trans k4
  replace k5 := (n79 _ (by omega)).trans k5
  replace k6 := (n79 _ (by omega)).trans k6
  replace k7 := (n79 _ (by omega)).trans k7
  replace k8 := (n79 _ (by omega)).trans k8
  replace k9 := (n79 _ (by omega)).trans k9
  replace k10 := (n79 _ (by omega)).trans k10
  refine x_aload_n D_6_init_82 rfl ?_
  refine x_bipush D_6_init_83 (by decide +kernel) ?_
  refine x_newI' (n := 46) (a1 := 113) (b1 := s + 302) D_6_init_85 rfl rfl (by omega) (by omega) (by constructor <;> (dsimp only; omega)) (fun h85 e85 n85 => ?_)
  replace ho := (n85 _ (by omega)).trans ho
  replace hf := fun q hq => (n85 q (by omega)).trans (hf q hq)
  replace k1 := (n85 _ (by omega)).trans k1
  replace k2 := (n85 _ (by omega)).trans k2
  replace k3 := (n85 _ (by omega)).trans k3
  replace k4 := (n85 _ (by omega)).trans k4
  replace k5 := (n85 _ (by omega)).trans k5
  replace k6 := (n85 _ (by omega)).trans k6
  replace k7 := (n85 _ (by omega)).trans k7
  replace k8 := (n85 _ (by omega)).trans k8
  replace k9 := (n85 _ (by omega)).trans k9
  replace k10 := (n85 _ (by omega)).trans k10
  have k11 := e85
  refine x_putF (.array .int) D_6_init_87 f_6_40 rfl ho (by decide +kernel) (fun _ => rfl) (fun _ => rfl) rfl (fun h87 e87 n87 => ?_)
  simp only [List.set_cons_zero, List.set_cons_succ] at e87
  replace ho := e87
  replace hf := fun q hq => (n87 q (by omega)).trans (hf q hq)
  replace k1 := (n87 _ (by omega)).trans k1
  replace k2 := (n87 _ (by omega)).trans k2
  replace k3 := (n87 _ (by omega)).trans k3
  replace k4 := (n87 _ (by omega)).trans k4
  replace k5 := (n87 _ (by omega)).trans k5
  replace k6 := (n87 _ (by omega)).trans k6
  replace k7 := (n87 _ (by omega)).trans k7
  replace k8 := (n87 _ (by omega)).trans k8
  replace k9 := (n87 _ (by omega)).trans k9
  replace k10 := (n87 _ (by omega)).trans k10
  replace k11 := (n87 _ (by omega)).trans k11
  refine x_aload_n D_6_init_90 rfl ?_
  refine x_sipush D_6_init_91 (by decide +kernel) ?_
  refine x_newI' (n := 300) (a1 := 114) (b1 := s + 602) D_6_init_94 rfl rfl (by omega) (by omega) (by constructor <;> (dsimp only; omega)) (fun h94 e94 n94 => ?_)
  replace ho := (n94 _ (by omega)).trans ho
  replace hf := fun q hq => (n94 q (by omega)).trans (hf q hq)
  replace k1 := (n94 _ (by omega)).trans k1
  replace k2 := (n94 _ (by omega)).trans k2
  replace k3 := (n94 _ (by omega)).trans k3
  replace k4 := (n94 _ (by omega)).trans k4
  replace k5 := (n94 _ (by omega)).trans k5
  replace k6 := (n94 _ (by omega)).trans k6
  replace k7 := (n94 _ (by omega)).trans k7
  replace k8 := (n94 _ (by omega)).trans k8
  replace k9 := (n94 _ (by omega)).trans k9
  replace k10 := (n94 _ (by omega)).trans k10
  replace k11 := (n94 _ (by omega)).trans k11
  have k12 := e94
  refine x_putF (.array .int) D_6_init_96 f_6_43 rfl ho (by decide +kernel) (fun _ => rfl) (fun _ => rfl) rfl (fun h96 e96 n96 => ?_)
  simp only [List.set_cons_zero, List.set_cons_succ] at e96
  replace ho := e96
  replace hf := fun q hq => (n96 q (by omega)).trans (hf q hq)
  replace k1 := (n96 _ (by omega)).trans k1
  replace k2 := (n96 _ (by omega)).trans k2
  replace k3 := (n96 _ (by omega)).trans k3
  replace k4 := (n96 _ (by omega)).trans k4
  replace k5 := (n96 _ (by omega)).trans k5
  replace k6 := (n96 _ (by omega)).trans k6
  replace k7 := (n96 _ (by omega)).trans k7
  replace k8 := (n96 _ (by omega)).trans k8
  replace k9 := (n96 _ (by omega)).trans k9
  replace k10 := (n96 _ (by omega)).trans k10
  replace k11 := (n96 _ (by omega)).trans k11
  replace k12 := (n96 _ (by omega)).trans k12
  refine x_aload_n D_6_init_99 rfl ?_
  refine x_iconst D_6_init_100 ?_
  refine x_newI' (n := 5) (a1 := 115) (b1 := s + 607) D_6_init_101 rfl rfl (by omega) (by omega) (by constructor <;> (dsimp only; omega)) (fun h101 e101 n101 => ?_)
  replace ho := (n101 _ (by omega)).trans ho
  replace hf := fun q hq => (n101 q (by omega)).trans (hf q hq)
  replace k1 := (n101 _ (by omega)).trans k1
  replace k2 := (n101 _ (by omega)).trans k2
  replace k3 := (n101 _ (by omega)).trans k3
  replace k4 := (n101 _ (by omega)).trans k4
  replace k5 := (n101 _ (by omega)).trans k5
  replace k6 := (n101 _ (by omega)).trans k6
  replace k7 := (n101 _ (by omega)).trans k7
  replace k8 := (n101 _ (by omega)).trans k8
  replace k9 := (n101 _ (by omega)).trans k9
  replace k10 := (n101 _ (by omega)).trans k10
  replace k11 := (n101 _ (by omega)).trans k11
  replace k12 := (n101 _ (by omega)).trans k12
  have k13 := e101
  refine x_putF (.array .int) D_6_init_103 f_6_46 rfl ho (by decide +kernel) (fun _ => rfl) (fun _ => rfl) rfl (fun h103 e103 n103 => ?_)
  simp only [List.set_cons_zero, List.set_cons_succ] at e103
  replace ho := e103
  replace hf := fun q hq => (n103 q (by omega)).trans (hf q hq)
  replace k1 := (n103 _ (by omega)).trans k1
  replace k2 := (n103 _ (by omega)).trans k2
  replace k3 := (n103 _ (by omega)).trans k3
  replace k4 := (n103 _ (by omega)).trans k4
  replace k5 := (n103 _ (by omega)).trans k5
  replace k6 := (n103 _ (by omega)).trans k6
  replace k7 := (n103 _ (by omega)).trans k7
  replace k8 := (n103 _ (by omega)).trans k8
  replace k9 := (n103 _ (by omega)).trans k9
  replace k10 := (n103 _ (by omega)).trans k10
  replace k11 := (n103 _ (by omega)).trans k11
  replace k12 := (n103 _ (by omega)).trans k12
  replace k13 := (n103 _ (by omega)).trans k13
  refine x_aload_n D_6_init_106 rfl ?_
  refine x_bipush D_6_init_107 (by decide +kernel) ?_
  refine x_newI' (n := 8) (a1 := 116) (b1 := s + 615) D_6_init_109 rfl rfl (by omega) (by omega) (by constructor <;> (dsimp only; omega)) (fun h109 e109 n109 => ?_)
  replace ho := (n109 _ (by omega)).trans ho
  replace hf := fun q hq => (n109 q (by omega)).trans (hf q hq)
  replace k1 := (n109 _ (by omega)).trans k1
  replace k2 := (n109 _ (by omega)).trans k2
  replace k3 := (n109 _ (by omega)).trans k3
  replace k4 := (n109 _ (by omega)).trans k4
  replace k5 := (n109 _ (by omega)).trans k5
  replace k6 := (n109 _ (by omega)).trans k6
  replace k7 := (n109 _ (by omega)).trans k7
  replace k8 := (n109 _ (by omega)).trans k8
  replace k9 := (n109 _ (by omega)).trans k9
  replace k10 := (n109 _ (by omega)).trans k10
  replace k11 := (n109 _ (by omega)).trans k11
  replace k12 := (n109 _ (by omega)).trans k12
  replace k13 := (n109 _ (by omega)).trans k13
  have k14 := e109
  refine x_putF (.array .int) D_6_init_111 f_6_49 rfl ho (by decide +kernel) (fun _ => rfl) (fun _ => rfl) rfl (fun h111 e111 n111 => ?_)
  simp only [List.set_cons_zero, List.set_cons_succ] at e111
  replace ho := e111
  replace hf := fun q hq => (n111 q (by omega)).trans (hf q hq)
  replace k1 := (n111 _ (by omega)).trans k1
  replace k2 := (n111 _ (by omega)).trans k2
  replace k3 := (n111 _ (by omega)).trans k3
  replace k4 := (n111 _ (by omega)).trans k4
  replace k5 := (n111 _ (by omega)).trans k5
  replace k6 := (n111 _ (by omega)).trans k6
  replace k7 := (n111 _ (by omega)).trans k7
  replace k8 := (n111 _ (by omega)).trans k8
  replace k9 := (n111 _ (by omega)).trans k9
  replace k10 := (n111 _ (by omega)).trans k10
  replace k11 := (n111 _ (by omega)).trans k11
  replace k12 := (n111 _ (by omega)).trans k12
  replace k13 := (n111 _ (by omega)).trans k13
  replace k14 := (n111 _ (by omega)).trans k14
  refine x_aload_n D_6_init_114 rfl ?_
  refine x_bipush D_6_init_115 (by decide +kernel) ?_
  refine x_newI' (n := 7) (a1 := 117) (b1 := s + 622) D_6_init_117 rfl rfl (by omega) (by omega) (by constructor <;> (dsimp only; omega)) (fun h117 e117 n117 => ?_)
  replace ho := (n117 _ (by omega)).trans ho
  replace hf := fun q hq => (n117 q (by omega)).trans (hf q hq)
  replace k1 := (n117 _ (by omega)).trans k1
  replace k2 := (n117 _ (by omega)).trans k2
  replace k3 := (n117 _ (by omega)).trans k3
  replace k4 := (n117 _ (by omega)).trans k4
  replace k5 := (n117 _ (by omega)).trans k5
  replace k6 := (n117 _ (by omega)).trans k6
  replace k7 := (n117 _ (by omega)).trans k7
  replace k8 := (n117 _ (by omega)).trans k8
  replace k9 := (n117 _ (by omega)).trans k9
  replace k10 := (n117 _ (by omega)).trans k10
  replace k11 := (n117 _ (by omega)).trans k11
  replace k12 := (n117 _ (by omega)).trans k12
  replace k13 := (n117 _ (by omega)).trans k13
  replace k14 := (n117 _ (by omega)).trans k14
  have k15 := e117
  refine x_putF (.array .int) D_6_init_119 f_6_52 rfl ho (by decide +kernel) (fun _ => rfl) (fun _ => rfl) rfl (fun h119 e119 n119 => ?_)
  simp only [List.set_cons_zero, List.set_cons_succ] at e119
  replace ho := e119
  replace hf := fun q hq => (n119 q (by omega)).trans (hf q hq)
  replace k1 := (n119 _ (by omega)).trans k1
  replace k2 := (n119 _ (by omega)).trans k2
  replace k3 := (n119 _ (by omega)).trans k3
  replace k4 := (n119 _ (by omega)).trans k4
  replace k5 := (n119 _ (by omega)).trans k5
  replace k6 := (n119 _ (by omega)).trans k6
  replace k7 := (n119 _ (by omega)).trans k7
  replace k8 := (n119 _ (by omega)).trans k8
  replace k9 := (n119 _ (by omega)).trans k9
  replace k10 := (n119 _ (by omega)).trans k10
  replace k11 := (n119 _ (by omega)).trans k11
  replace k12 := (n119 _ (by omega)).trans k12
  replace k13 := (n119 _ (by omega)).trans k13
  replace k14 := (n119 _ (by omega)).trans k14
  replace k15 := (n119 _ (by omega)).trans k15
  refine x_aload_n D_6_init_122 rfl ?_
  refine x_bipush D_6_init_123 (by decide +kernel) ?_
  refine x_newI' (n := 7) (a1 := 118) (b1 := s + 629) D_6_init_125 rfl rfl (by omega) (by omega) (by constructor <;> (dsimp only; omega)) (fun h125 e125 n125 => ?_)
  replace ho := (n125 _ (by omega)).trans ho
  replace hf := fun q hq => (n125 q (by omega)).trans (hf q hq)
  replace k1 := (n125 _ (by omega)).trans k1
  replace k2 := (n125 _ (by omega)).trans k2
  replace k3 := (n125 _ (by omega)).trans k3
  replace k4 := (n125 _ (by omega)).trans k4
  replace k5 := (n125 _ (by omega)).trans k5
  replace k6 := (n125 _ (by omega)).trans k6
  replace k7 := (n125 _ (by omega)).trans k7
  replace k8 := (n125 _ (by omega)).trans k8
  replace k9 := (n125 _ (by omega)).trans k9
  replace k10 := (n125 _ (by omega)).trans k10
  replace k11 := (n125 _ (by omega)).trans k11
  replace k12 := (n125 _ (by omega)).trans k12
  replace k13 := (n125 _ (by omega)).trans k13
  replace k14 := (n125 _ (by omega)).trans k14
  replace k15 := (n125 _ (by omega)).trans k15
  have k16 := e125
  refine x_putF (.array .int) D_6_init_127 f_6_55 rfl ho (by decide +kernel) (fun _ => rfl) (fun _ => rfl) rfl (fun h127 e127 n127 => ?_)
  simp only [List.set_cons_zero, List.set_cons_succ] at e127
  replace ho := e127
  replace hf := fun q hq => (n127 q (by omega)).trans (hf q hq)
  replace k1 := (n127 _ (by omega)).trans k1
  replace k2 := (n127 _ (by omega)).trans k2
  replace k3 := (n127 _ (by omega)).trans k3
  replace k4 := (n127 _ (by omega)).trans k4
  replace k5 := (n127 _ (by omega)).trans k5
  replace k6 := (n127 _ (by omega)).trans k6
  replace k7 := (n127 _ (by omega)).trans k7
  replace k8 := (n127 _ (by omega)).trans k8
  replace k9 := (n127 _ (by omega)).trans k9
  replace k10 := (n127 _ (by omega)).trans k10
  replace k11 := (n127 _ (by omega)).trans k11
  replace k12 := (n127 _ (by omega)).trans k12
  replace k13 := (n127 _ (by omega)).trans k13
  replace k14 := (n127 _ (by omega)).trans k14
  replace k15 := (n127 _ (by omega)).trans k15
  replace k16 := (n127 _ (by omega)).trans k16
  refine x_aload_n D_6_init_130 rfl ?_
  refine x_bipush D_6_init_131 (by decide +kernel) ?_
  refine x_newI' (n := 7) (a1 := 119) (b1 := s + 636) D_6_init_133 rfl rfl (by omega) (by omega) (by constructor <;> (dsimp only; omega)) (fun h133 e133 n133 => ?_)
  replace ho := (n133 _ (by omega)).trans ho
  replace hf := fun q hq => (n133 q (by omega)).trans (hf q hq)
  replace k1 := (n133 _ (by omega)).trans k1
  replace k2 := (n133 _ (by omega)).trans k2
  replace k3 := (n133 _ (by omega)).trans k3
  replace k4 := (n133 _ (by omega)).trans k4
  replace k5 := (n133 _ (by omega)).trans k5
  replace k6 := (n133 _ (by omega)).trans k6
  replace k7 := (n133 _ (by omega)).trans k7
  replace k8 := (n133 _ (by omega)).trans k8
  replace k9 := (n133 _ (by omega)).trans k9
  replace k10 := (n133 _ (by omega)).trans k10
  replace k11 := (n133 _ (by omega)).trans k11
  replace k12 := (n133 _ (by omega)).trans k12
  replace k13 := (n133 _ (by omega)).trans k13
  replace k14 := (n133 _ (by omega)).trans k14
  replace k15 := (n133 _ (by omega)).trans k15
  replace k16 := (n133 _ (by omega)).trans k16
  have k17 := e133
  refine x_putF (.array .int) D_6_init_135 f_6_58 rfl ho (by decide +kernel) (fun _ => rfl) (fun _ => rfl) rfl (fun h135 e135 n135 => ?_)
  simp only [List.set_cons_zero, List.set_cons_succ] at e135
  replace ho := e135
  replace hf := fun q hq => (n135 q (by omega)).trans (hf q hq)
  replace k1 := (n135 _ (by omega)).trans k1
  replace k2 := (n135 _ (by omega)).trans k2
  replace k3 := (n135 _ (by omega)).trans k3
  replace k4 := (n135 _ (by omega)).trans k4
  replace k5 := (n135 _ (by omega)).trans k5
  replace k6 := (n135 _ (by omega)).trans k6
  replace k7 := (n135 _ (by omega)).trans k7
  replace k8 := (n135 _ (by omega)).trans k8
  replace k9 := (n135 _ (by omega)).trans k9
  replace k10 := (n135 _ (by omega)).trans k10
  replace k11 := (n135 _ (by omega)).trans k11
  replace k12 := (n135 _ (by omega)).trans k12
  replace k13 := (n135 _ (by omega)).trans k13
  replace k14 := (n135 _ (by omega)).trans k14
  replace k15 := (n135 _ (by omega)).trans k15
  replace k16 := (n135 _ (by omega)).trans k16
  replace k17 := (n135 _ (by omega)).trans k17
  refine x_aload_n D_6_init_138 rfl ?_
  refine x_bipush D_6_init_139 (by decide +kernel) ?_
  refine x_newI' (n := 7) (a1 := 120) (b1 := s + 643) D_6_init_141 rfl rfl (by omega) (by omega) (by constructor <;> (dsimp only; omega)) (fun h141 e141 n141 => ?_)
  replace ho := (n141 _ (by omega)).trans ho
  replace hf := fun q hq => (n141 q (by omega)).trans (hf q hq)
  replace k1 := (n141 _ (by omega)).trans k1
  replace k2 := (n141 _ (by omega)).trans k2
  replace k3 := (n141 _ (by omega)).trans k3
  replace k4 := (n141 _ (by omega)).trans k4
  replace k5 := (n141 _ (by omega)).trans k5
  replace k6 := (n141 _ (by omega)).trans k6
  replace k7 := (n141 _ (by omega)).trans k7
  replace k8 := (n141 _ (by omega)).trans k8
  replace k9 := (n141 _ (by omega)).trans k9
  replace k10 := (n141 _ (by omega)).trans k10
  replace k11 := (n141 _ (by omega)).trans k11
  replace k12 := (n141 _ (by omega)).trans k12
  replace k13 := (n141 _ (by omega)).trans k13
  replace k14 := (n141 _ (by omega)).trans k14
  replace k15 := (n141 _ (by omega)).trans k15
  replace k16 := (n141 _ (by omega)).trans k16
  replace k17 := (n141 _ (by omega)).trans k17
  have k18 := e141
  refine x_putF (.array .int) D_6_init_143 f_6_61 rfl ho (by decide +kernel) (fun _ => rfl) (fun _ => rfl) rfl (fun h143 e143 n143 => ?_)
  simp only [List.set_cons_zero, List.set_cons_succ] at e143
  replace ho := e143
  replace hf := fun q hq => (n143 q (by omega)).trans (hf q hq)
  replace k1 := (n143 _ (by omega)).trans k1
  replace k2 := (n143 _ (by omega)).trans k2
  replace k3 := (n143 _ (by omega)).trans k3
  replace k4 := (n143 _ (by omega)).trans k4
  replace k5 := (n143 _ (by omega)).trans k5
  replace k6 := (n143 _ (by omega)).trans k6
  replace k7 := (n143 _ (by omega)).trans k7
  replace k8 := (n143 _ (by omega)).trans k8
  replace k9 := (n143 _ (by omega)).trans k9
  replace k10 := (n143 _ (by omega)).trans k10
  replace k11 := (n143 _ (by omega)).trans k11
  replace k12 := (n143 _ (by omega)).trans k12
  replace k13 := (n143 _ (by omega)).trans k13
  replace k14 := (n143 _ (by omega)).trans k14
  replace k15 := (n143 _ (by omega)).trans k15
  replace k16 := (n143 _ (by omega)).trans k16
  replace k17 := (n143 _ (by omega)).trans k17
  replace k18 := (n143 _ (by omega)).trans k18
  refine x_aload_n D_6_init_146 rfl ?_
  refine x_iconst D_6_init_147 ?_
  refine x_newI' (n := 4) (a1 := 121) (b1 := s + 647) D_6_init_148 rfl rfl (by omega) (by omega) (by constructor <;> (dsimp only; omega)) (fun h148 e148 n148 => ?_)
  replace ho := (n148 _ (by omega)).trans ho
  replace hf := fun q hq => (n148 q (by omega)).trans (hf q hq)
  replace k1 := (n148 _ (by omega)).trans k1
  replace k2 := (n148 _ (by omega)).trans k2
  replace k3 := (n148 _ (by omega)).trans k3
  replace k4 := (n148 _ (by omega)).trans k4
  replace k5 := (n148 _ (by omega)).trans k5
  replace k6 := (n148 _ (by omega)).trans k6
  replace k7 := (n148 _ (by omega)).trans k7
  replace k8 := (n148 _ (by omega)).trans k8
  replace k9 := (n148 _ (by omega)).trans k9
  replace k10 := (n148 _ (by omega)).trans k10
  replace k11 := (n148 _ (by omega)).trans k11
  replace k12 := (n148 _ (by omega)).trans k12
  replace k13 := (n148 _ (by omega)).trans k13
  replace k14 := (n148 _ (by omega)).trans k14
  replace k15 := (n148 _ (by omega)).trans k15
  replace k16 := (n148 _ (by omega)).trans k16
  replace k17 := (n148 _ (by omega)).trans k17
  replace k18 := (n148 _ (by omega)).trans k18
  have k19 := e148
  refine x_putF (.array .int) D_6_init_150 f_6_64 rfl ho (by decide +kernel) (fun _ => rfl) (fun _ => rfl) rfl (fun h150 e150 n150 => ?_)
  simp only [List.set_cons_zero, List.set_cons_succ] at e150
  replace ho := e150
  replace hf := fun q hq => (n150 q (by omega)).trans (hf q hq)
  replace k1 := (n150 _ (by omega)).trans k1
  replace k2 := (n150 _ (by omega)).trans k2
  replace k3 := (n150 _ (by omega)).trans k3
  replace k4 := (n150 _ (by omega)).trans k4
  replace k5 := (n150 _ (by omega)).trans k5
  replace k6 := (n150 _ (by omega)).trans k6
  replace k7 := (n150 _ (by omega)).trans k7
  replace k8 := (n150 _ (by omega)).trans k8
  replace k9 := (n150 _ (by omega)).trans k9
  replace k10 := (n150 _ (by omega)).trans k10
  replace k11 := (n150 _ (by omega)).trans k11
  replace k12 := (n150 _ (by omega)).trans k12
  replace k13 := (n150 _ (by omega)).trans k13
  replace k14 := (n150 _ (by omega)).trans k14
  replace k15 := (n150 _ (by omega)).trans k15
  replace k16 := (n150 _ (by omega)).trans k16
  replace k17 := (n150 _ (by omega)).trans k17
  replace k18 := (n150 _ (by omega)).trans k18
  replace k19 := (n150 _ (by omega)).trans k19
  refine x_aload_n D_6_init_153 rfl ?_
  refine x_iconst D_6_init_154 ?_
  refine x_newI' (n := 4) (a1 := 122) (b1 := s + 651) D_6_init_155 rfl rfl (by omega) (by omega) (by constructor <;> (dsimp only; omega)) (fun h155 e155 n155 => ?_)
  replace ho := (n155 _ (by omega)).trans ho
  replace hf := fun q hq => (n155 q (by omega)).trans (hf q hq)
  replace k1 := (n155 _ (by omega)).trans k1
  replace k2 := (n155 _ (by omega)).trans k2
  replace k3 := (n155 _ (by omega)).trans k3
  replace k4 := (n155 _ (by omega)).trans k4
  replace k5 := (n155 _ (by omega)).trans k5
  replace k6 := (n155 _ (by omega)).trans k6
  replace k7 := (n155 _ (by omega)).trans k7
  replace k8 := (n155 _ (by omega)).trans k8
  replace k9 := (n155 _ (by omega)).trans k9
  replace k10 := (n155 _ (by omega)).trans k10
  replace k11 := (n155 _ (by omega)).trans k11
  replace k12 := (n155 _ (by omega)).trans k12
  replace k13 := (n155 _ (by omega)).trans k13
  replace k14 := (n155 _ (by omega)).trans k14
  replace k15 := (n155 _ (by omega)).trans k15
  replace k16 := (n155 _ (by omega)).trans k16
  replace k17 := (n155 _ (by omega)).trans k17
  replace k18 := (n155 _ (by omega)).trans k18
  replace k19 := (n155 _ (by omega)).trans k19
  have k20 := e155
  refine x_putF (.array .int) D_6_init_157 f_6_67 rfl ho (by decide +kernel) (fun _ => rfl) (fun _ => rfl) rfl (fun h157 e157 n157 => ?_)
  simp only [List.set_cons_zero, List.set_cons_succ] at e157
  replace ho := e157
  replace hf := fun q hq => (n157 q (by omega)).trans (hf q hq)
  replace k1 := (n157 _ (by omega)).trans k1
  replace k2 := (n157 _ (by omega)).trans k2
  replace k3 := (n157 _ (by omega)).trans k3
  replace k4 := (n157 _ (by omega)).trans k4
  replace k5 := (n157 _ (by omega)).trans k5
  replace k6 := (n157 _ (by omega)).trans k6
  replace k7 := (n157 _ (by omega)).trans k7
  replace k8 := (n157 _ (by omega)).trans k8
  replace k9 := (n157 _ (by omega)).trans k9
  replace k10 := (n157 _ (by omega)).trans k10
  replace k11 := (n157 _ (by omega)).trans k11
  replace k12 := (n157 _ (by omega)).trans k12
  replace k13 := (n157 _ (by omega)).trans k13
  replace k14 := (n157 _ (by omega)).trans k14
  replace k15 := (n157 _ (by omega)).trans k15
  replace k16 := (n157 _ (by omega)).trans k16
  replace k17 := (n157 _ (by omega)).trans k17
  replace k18 := (n157 _ (by omega)).trans k18
  replace k19 := (n157 _ (by omega)).trans k19
  replace k20 := (n157 _ (by omega)).trans k20
  refine x_aload_n D_6_init_160 rfl ?_
  refine x_sipush D_6_init_161 (by decide +kernel) ?_
  refine x_newI' (n := 2048) (a1 := 123) (b1 := s + 2699) D_6_init_164 rfl rfl (by omega) (by omega) (by constructor <;> (dsimp only; omega)) (fun h164 e164 n164 => ?_)
  replace ho := (n164 _ (by omega)).trans ho
  replace hf := fun q hq => (n164 q (by omega)).trans (hf q hq)
  replace k1 := (n164 _ (by omega)).trans k1
  replace k2 := (n164 _ (by omega)).trans k2
  replace k3 := (n164 _ (by omega)).trans k3
  replace k4 := (n164 _ (by omega)).trans k4
  replace k5 := (n164 _ (by omega)).trans k5
  replace k6 := (n164 _ (by omega)).trans k6
  replace k7 := (n164 _ (by omega)).trans k7
  replace k8 := (n164 _ (by omega)).trans k8
  replace k9 := (n164 _ (by omega)).trans k9
  replace k10 := (n164 _ (by omega)).trans k10
  replace k11 := (n164 _ (by omega)).trans k11
  replace k12 := (n164 _ (by omega)).trans k12
  replace k13 := (n164 _ (by omega)).trans k13
  replace k14 := (n164 _ (by omega)).trans k14
  replace k15 := (n164 _ (by omega)).trans k15
  replace k16 := (n164 _ (by omega)).trans k16
  replace k17 := (n164 _ (by omega)).trans k17
  replace k18 := (n164 _ (by omega)).trans k18
  replace k19 := (n164 _ (by omega)).trans k19
  replace k20 := (n164 _ (by omega)).trans k20
  have k21 := e164
  refine x_putF (.array .int) D_6_init_166 f_6_70 rfl ho (by decide +kernel) (fun _ => rfl) (fun _ => rfl) rfl (fun h166 e166 n166 => ?_)
  simp only [List.set_cons_zero, List.set_cons_succ] at e166
  replace ho := e166
  replace hf := fun q hq => (n166 q (by omega)).trans (hf q hq)
  replace k1 := (n166 _ (by omega)).trans k1
  replace k2 := (n166 _ (by omega)).trans k2
  replace k3 := (n166 _ (by omega)).trans k3
  replace k4 := (n166 _ (by omega)).trans k4
  replace k5 := (n166 _ (by omega)).trans k5
  replace k6 := (n166 _ (by omega)).trans k6
  replace k7 := (n166 _ (by omega)).trans k7
  replace k8 := (n166 _ (by omega)).trans k8
  replace k9 := (n166 _ (by omega)).trans k9
  replace k10 := (n166 _ (by omega)).trans k10
  replace k11 := (n166 _ (by omega)).trans k11
  replace k12 := (n166 _ (by omega)).trans k12
  replace k13 := (n166 _ (by omega)).trans k13
  replace k14 := (n166 _ (by omega)).trans k14
  replace k15 := (n166 _ (by omega)).trans k15
  replace k16 := (n166 _ (by omega)).trans k16
  replace k17 := (n166 _ (by omega)).trans k17
  replace k18 := (n166 _ (by omega)).trans k18
  replace k19 := (n166 _ (by omega)).trans k19
  replace k20 := (n166 _ (by omega)).trans k20
  replace k21 := (n166 _ (by omega)).trans k21
  refine x_aload_n D_6_init_169 rfl ?_
  refine x_iconst D_6_init_170 ?_
  refine x_newI' (n := 5) (a1 := 124) (b1 := s + 2704) D_6_init_171 rfl rfl (by omega) (by omega) (by constructor <;> (dsimp only; omega)) (fun h171 e171 n171 => ?_)
  replace ho := (n171 _ (by omega)).trans ho
  replace hf := fun q hq => (n171 q (by omega)).trans (hf q hq)
  replace k1 := (n171 _ (by omega)).trans k1
  replace k2 := (n171 _ (by omega)).trans k2
  replace k3 := (n171 _ (by omega)).trans k3
  replace k4 := (n171 _ (by omega)).trans k4
  replace k5 := (n171 _ (by omega)).trans k5
  replace k6 := (n171 _ (by omega)).trans k6
  replace k7 := (n171 _ (by omega)).trans k7
  replace k8 := (n171 _ (by omega)).trans k8
  replace k9 := (n171 _ (by omega)).trans k9
  replace k10 := (n171 _ (by omega)).trans k10
  replace k11 := (n171 _ (by omega)).trans k11
  replace k12 := (n171 _ (by omega)).trans k12
  replace k13 := (n171 _ (by omega)).trans k13
  replace k14 := (n171 _ (by omega)).trans k14
  replace k15 := (n171 _ (by omega)).trans k15
  replace k16 := (n171 _ (by omega)).trans k16
  replace k17 := (n171 _ (by omega)).trans k17
  replace k18 := (n171 _ (by omega)).trans k18
  replace k19 := (n171 _ (by omega)).trans k19
  replace k20 := (n171 _ (by omega)).trans k20
  replace k21 := (n171 _ (by omega)).trans k21
  have k22 := e171
  refine x_putF (.array .int) D_6_init_173 f_6_73 rfl ho (by decide +kernel) (fun _ => rfl) (fun _ => rfl) rfl (fun h173 e173 n173 => ?_)
  simp only [List.set_cons_zero, List.set_cons_succ] at e173
  replace ho := e173
  replace hf := fun q hq => (n173 q (by omega)).trans (hf q hq)
  replace k1 := (n173 _ (by omega)).trans k1
  replace k2 := (n173 _ (by omega)).trans k2
  replace k3 := (n173 _ (by omega)).trans k3
  replace k4 := (n173 _ (by omega)).trans k4
  replace k5 := (n173 _ (by omega)).trans k5
  replace k6 := (n173 _ (by omega)).trans k6
  replace k7 := (n173 _ (by omega)).trans k7
  replace k8 := (n173 _ (by omega)).trans k8
  replace k9 := (n173 _ (by omega)).trans k9
  replace k10 := (n173 _ (by omega)).trans k10
  replace k11 := (n173 _ (by omega)).trans k11
  replace k12 := (n173 _ (by omega)).trans k12
  replace k13 := (n173 _ (by omega)).trans k13
  replace k14 := (n173 _ (by omega)).trans k14
  replace k15 := (n173 _ (by omega)).trans k15
  replace k16 := (n173 _ (by omega)).trans k16
  replace k17 := (n173 _ (by omega)).trans k17
  replace k18 := (n173 _ (by omega)).trans k18
  replace k19 := (n173 _ (by omega)).trans k19
  replace k20 := (n173 _ (by omega)).trans k20
  replace k21 := (n173 _ (by omega)).trans k21
  replace k22 := (n173 _ (by omega)).trans k22
  refine x_aload_n D_6_init_176 rfl ?_
  refine x_bipush D_6_init_177 (by decide +kernel) ?_
  refine x_newI' (n := 7) (a1 := 125) (b1 := s + 2711) D_6_init_179 rfl rfl (by omega) (by omega) (by constructor <;> (dsimp only; omega)) (fun h179 e179 n179 => ?_)
  replace ho := (n179 _ (by omega)).trans ho
  replace hf := fun q hq => (n179 q (by omega)).trans (hf q hq)
  replace k1 := (n179 _ (by omega)).trans k1
  replace k2 := (n179 _ (by omega)).trans k2
  replace k3 := (n179 _ (by omega)).trans k3
  replace k4 := (n179 _ (by omega)).trans k4
  replace k5 := (n179 _ (by omega)).trans k5
  replace k6 := (n179 _ (by omega)).trans k6
  replace k7 := (n179 _ (by omega)).trans k7
  replace k8 := (n179 _ (by omega)).trans k8
  replace k9 := (n179 _ (by omega)).trans k9
  replace k10 := (n179 _ (by omega)).trans k10
  replace k11 := (n179 _ (by omega)).trans k11
  replace k12 := (n179 _ (by omega)).trans k12
  replace k13 := (n179 _ (by omega)).trans k13
  replace k14 := (n179 _ (by omega)).trans k14
  replace k15 := (n179 _ (by omega)).trans k15
  replace k16 := (n179 _ (by omega)).trans k16
  replace k17 := (n179 _ (by omega)).trans k17
  replace k18 := (n179 _ (by omega)).trans k18
  replace k19 := (n179 _ (by omega)).trans k19
  replace k20 := (n179 _ (by omega)).trans k20
  replace k21 := (n179 _ (by omega)).trans k21
  replace k22 := (n179 _ (by omega)).trans k22
  have k23 := e179
  refine x_putF (.array .int) D_6_init_181 f_6_76 rfl ho (by decide +kernel) (fun _ => rfl) (fun _ => rfl) rfl (fun h181 e181 n181 => ?_)
  simp only [List.set_cons_zero, List.set_cons_succ] at e181
  replace ho := e181
  replace hf := fun q hq => (n181 q (by omega)).trans (hf q hq)
  replace k1 := (n181 _ (by omega)).trans k1
  replace k2 := (n181 _ (by omega)).trans k2
  replace k3 := (n181 _ (by omega)).trans k3
  replace k4 := (n181 _ (by omega)).trans k4
  replace k5 := (n181 _ (by omega)).trans k5
  replace k6 := (n181 _ (by omega)).trans k6
  replace k7 := (n181 _ (by omega)).trans k7
  replace k8 := (n181 _ (by omega)).trans k8
  replace k9 := (n181 _ (by omega)).trans k9
  replace k10 := (n181 _ (by omega)).trans k10
  replace k11 := (n181 _ (by omega)).trans k11
  replace k12 := (n181 _ (by omega)).trans k12
  replace k13 := (n181 _ (by omega)).trans k13
  replace k14 := (n181 _ (by omega)).trans k14
  replace k15 := (n181 _ (by omega)).trans k15
  replace k16 := (n181 _ (by omega)).trans k16
  replace k17 := (n181 _ (by omega)).trans k17
  replace k18 := (n181 _ (by omega)).trans k18
  replace k19 := (n181 _ (by omega)).trans k19
  replace k20 := (n181 _ (by omega)).trans k20
  replace k21 := (n181 _ (by omega)).trans k21
  replace k22 := (n181 _ (by omega)).trans k22
  replace k23 := (n181 _ (by omega)).trans k23
  refine x_aload_n D_6_init_184 rfl ?_
  refine x_bipush D_6_init_185 (by decide +kernel) ?_
  refine x_newI' (n := 7) (a1 := 126) (b1 := s + 2718) D_6_init_187 rfl rfl (by omega) (by omega) (by constructor <;> (dsimp only; omega)) (fun h187 e187 n187 => ?_)
  replace ho := (n187 _ (by omega)).trans ho
  replace hf := fun q hq => (n187 q (by omega)).trans (hf q hq)
  replace k1 := (n187 _ (by omega)).trans k1
  replace k2 := (n187 _ (by omega)).trans k2
  replace k3 := (n187 _ (by omega)).trans k3
  replace k4 := (n187 _ (by omega)).trans k4
  replace k5 := (n187 _ (by omega)).trans k5
  replace k6 := (n187 _ (by omega)).trans k6
  replace k7 := (n187 _ (by omega)).trans k7
  replace k8 := (n187 _ (by omega)).trans k8
  replace k9 := (n187 _ (by omega)).trans k9
  replace k10 := (n187 _ (by omega)).trans k10
  replace k11 := (n187 _ (by omega)).trans k11
  replace k12 := (n187 _ (by omega)).trans k12
  replace k13 := (n187 _ (by omega)).trans k13
  replace k14 := (n187 _ (by omega)).trans k14
  replace k15 := (n187 _ (by omega)).trans k15
  replace k16 := (n187 _ (by omega)).trans k16
  replace k17 := (n187 _ (by omega)).trans k17
  replace k18 := (n187 _ (by omega)).trans k18
  replace k19 := (n187 _ (by omega)).trans k19
  replace k20 := (n187 _ (by omega)).trans k20
  replace k21 := (n187 _ (by omega)).trans k21
  replace k22 := (n187 _ (by omega)).trans k22
  replace k23 := (n187 _ (by omega)).trans k23
  have k24 := e187
  refine x_putF (.array .int) D_6_init_189 f_6_79 rfl ho (by decide +kernel) (fun _ => rfl) (fun _ => rfl) rfl (fun h189 e189 n189 => ?_)
  simp only [List.set_cons_zero, List.set_cons_succ] at e189
  replace ho := e189
  replace hf := fun q hq => (n189 q (by omega)).trans (hf q hq)
  replace k1 := (n189 _ (by omega)).trans k1
  replace k2 := (n189 _ (by omega)).trans k2
  replace k3 := (n189 _ (by omega)).trans k3
  replace k4 := (n189 _ (by omega)).trans k4
  replace k5 := (n189 _ (by omega)).trans k5
  replace k6 := (n189 _ (by omega)).trans k6
  replace k7 := (n189 _ (by omega)).trans k7
  replace k8 := (n189 _ (by omega)).trans k8
  replace k9 := (n189 _ (by omega)).trans k9
  replace k10 := (n189 _ (by omega)).trans k10
  replace k11 := (n189 _ (by omega)).trans k11
  replace k12 := (n189 _ (by omega)).trans k12
  replace k13 := (n189 _ (by omega)).trans k13
  replace k14 := (n189 _ (by omega)).trans k14
  replace k15 := (n189 _ (by omega)).trans k15
  replace k16 := (n189 _ (by omega)).trans k16
  replace k17 := (n189 _ (by omega)).trans k17
  replace k18 := (n189 _ (by omega)).trans k18
  replace k19 := (n189 _ (by omega)).trans k19
  replace k20 := (n189 _ (by omega)).trans k20
  replace k21 := (n189 _ (by omega)).trans k21
  replace k22 := (n189 _ (by omega)).trans k22
  replace k23 := (n189 _ (by omega)).trans k23
  replace k24 := (n189 _ (by omega)).trans k24
  refine x_aload_n D_6_init_192 rfl ?_
  refine x_bipush D_6_init_193 (by decide +kernel) ?_
  refine x_newI' (n := 7) (a1 := 127) (b1 := s + 2725) D_6_init_195 rfl rfl (by omega) (by omega) (by constructor <;> (dsimp only; omega)) (fun h195 e195 n195 => ?_)
  replace ho := (n195 _ (by omega)).trans ho
  replace hf := fun q hq => (n195 q (by omega)).trans (hf q hq)
  replace k1 := (n195 _ (by omega)).trans k1
  replace k2 := (n195 _ (by omega)).trans k2
  replace k3 := (n195 _ (by omega)).trans k3
  replace k4 := (n195 _ (by omega)).trans k4
  replace k5 := (n195 _ (by omega)).trans k5
  replace k6 := (n195 _ (by omega)).trans k6
  replace k7 := (n195 _ (by omega)).trans k7
  replace k8 := (n195 _ (by omega)).trans k8
  replace k9 := (n195 _ (by omega)).trans k9
  replace k10 := (n195 _ (by omega)).trans k10
  replace k11 := (n195 _ (by omega)).trans k11
  replace k12 := (n195 _ (by omega)).trans k12
  replace k13 := (n195 _ (by omega)).trans k13
  replace k14 := (n195 _ (by omega)).trans k14
  replace k15 := (n195 _ (by omega)).trans k15
  replace k16 := (n195 _ (by omega)).trans k16
  replace k17 := (n195 _ (by omega)).trans k17
  replace k18 := (n195 _ (by omega)).trans k18
  replace k19 := (n195 _ (by omega)).trans k19
  replace k20 := (n195 _ (by omega)).trans k20
  replace k21 := (n195 _ (by omega)).trans k21
  replace k22 := (n195 _ (by omega)).trans k22
  replace k23 := (n195 _ (by omega)).trans k23
  replace k24 := (n195 _ (by omega)).trans k24
  have k25 := e195
  refine x_putF (.array .int) D_6_init_197 f_6_82 rfl ho (by decide +kernel) (fun _ => rfl) (fun _ => rfl) rfl (fun h197 e197 n197 => ?_)
  simp only [List.set_cons_zero, List.set_cons_succ] at e197
  replace ho := e197
  replace hf := fun q hq => (n197 q (by omega)).trans (hf q hq)
  replace k1 := (n197 _ (by omega)).trans k1
  replace k2 := (n197 _ (by omega)).trans k2
  replace k3 := (n197 _ (by omega)).trans k3
  replace k4 := (n197 _ (by omega)).trans k4
  replace k5 := (n197 _ (by omega)).trans k5
  replace k6 := (n197 _ (by omega)).trans k6
  replace k7 := (n197 _ (by omega)).trans k7
  replace k8 := (n197 _ (by omega)).trans k8
  replace k9 := (n197 _ (by omega)).trans k9
  replace k10 := (n197 _ (by omega)).trans k10
  replace k11 := (n197 _ (by omega)).trans k11
  replace k12 := (n197 _ (by omega)).trans k12
  replace k13 := (n197 _ (by omega)).trans k13
  replace k14 := (n197 _ (by omega)).trans k14
  replace k15 := (n197 _ (by omega)).trans k15
  replace k16 := (n197 _ (by omega)).trans k16
  replace k17 := (n197 _ (by omega)).trans k17
  replace k18 := (n197 _ (by omega)).trans k18
  replace k19 := (n197 _ (by omega)).trans k19
  replace k20 := (n197 _ (by omega)).trans k20
  replace k21 := (n197 _ (by omega)).trans k21
  replace k22 := (n197 _ (by omega)).trans k22
  replace k23 := (n197 _ (by omega)).trans k23
  replace k24 := (n197 _ (by omega)).trans k24
  replace k25 := (n197 _ (by omega)).trans k25
  refine x_aload_n D_6_init_200 rfl ?_
  refine x_bipush D_6_init_201 (by decide +kernel) ?_
  refine x_newI' (n := 7) (a1 := 128) (b1 := s + 2732) D_6_init_203 rfl rfl (by omega) (by omega) (by constructor <;> (dsimp only; omega)) (fun h203 e203 n203 => ?_)
  replace ho := (n203 _ (by omega)).trans ho
  replace hf := fun q hq => (n203 q (by omega)).trans (hf q hq)
  replace k1 := (n203 _ (by omega)).trans k1
  replace k2 := (n203 _ (by omega)).trans k2
  replace k3 := (n203 _ (by omega)).trans k3
  replace k4 := (n203 _ (by omega)).trans k4
  replace k5 := (n203 _ (by omega)).trans k5
  replace k6 := (n203 _ (by omega)).trans k6
  replace k7 := (n203 _ (by omega)).trans k7
  replace k8 := (n203 _ (by omega)).trans k8
  replace k9 := (n203 _ (by omega)).trans k9
  replace k10 := (n203 _ (by omega)).trans k10
  replace k11 := (n203 _ (by omega)).trans k11
  replace k12 := (n203 _ (by omega)).trans k12
  replace k13 := (n203 _ (by omega)).trans k13
  replace k14 := (n203 _ (by omega)).trans k14
  replace k15 := (n203 _ (by omega)).trans k15
  replace k16 := (n203 _ (by omega)).trans k16
  replace k17 := (n203 _ (by omega)).trans k17
  replace k18 := (n203 _ (by omega)).trans k18
  replace k19 := (n203 _ (by omega)).trans k19
  replace k20 := (n203 _ (by omega)).trans k20
  replace k21 := (n203 _ (by omega)).trans k21
  replace k22 := (n203 _ (by omega)).trans k22
  replace k23 := (n203 _ (by omega)).trans k23
  replace k24 := (n203 _ (by omega)).trans k24
  replace k25 := (n203 _ (by omega)).trans k25
  have k26 := e203
  refine x_putF (.array .int) D_6_init_205 f_6_85 rfl ho (by decide +kernel) (fun _ => rfl) (fun _ => rfl) rfl (fun h205 e205 n205 => ?_)
  simp only [List.set_cons_zero, List.set_cons_succ] at e205
  replace ho := e205
  replace hf := fun q hq => (n205 q (by omega)).trans (hf q hq)
  replace k1 := (n205 _ (by omega)).trans k1
  replace k2 := (n205 _ (by omega)).trans k2
  replace k3 := (n205 _ (by omega)).trans k3
  replace k4 := (n205 _ (by omega)).trans k4
  replace k5 := (n205 _ (by omega)).trans k5
  replace k6 := (n205 _ (by omega)).trans k6
  replace k7 := (n205 _ (by omega)).trans k7
  replace k8 := (n205 _ (by omega)).trans k8
  replace k9 := (n205 _ (by omega)).trans k9
  replace k10 := (n205 _ (by omega)).trans k10
  replace k11 := (n205 _ (by omega)).trans k11
  replace k12 := (n205 _ (by omega)).trans k12
  replace k13 := (n205 _ (by omega)).trans k13
  replace k14 := (n205 _ (by omega)).trans k14
  replace k15 := (n205 _ (by omega)).trans k15
  replace k16 := (n205 _ (by omega)).trans k16
  replace k17 := (n205 _ (by omega)).trans k17
  replace k18 := (n205 _ (by omega)).trans k18
  replace k19 := (n205 _ (by omega)).trans k19
  replace k20 := (n205 _ (by omega)).trans k20
  replace k21 := (n205 _ (by omega)).trans k21
  replace k22 := (n205 _ (by omega)).trans k22
  replace k23 := (n205 _ (by omega)).trans k23
  replace k24 := (n205 _ (by omega)).trans k24
  replace k25 := (n205 _ (by omega)).trans k25
  replace k26 := (n205 _ (by omega)).trans k26
  have hm : MdAt h205 Z0 := ⟨ho, k1, k2, k3, k4, k5, k6, k7, k8, k9, k10, k11, k12, k13, k14, k15, k16, k17, k18, k19, k20, k21, k22, k23, k24, k25, k26⟩
  refine x_aload_n D_6_init_208 rfl ?_
  refine x_invV (d' := d - 1) D_6_init_209 l_6_88 mi_6_begins (c_6_begins (by omega) hm) (md_o hm) rfl rfl (by omega) rfl (fun q => q) rfl rfl (fun r209 h209 q209 => ?_)
  obtain ⟨rfl, ⟨W, hm, hag, -, hold⟩, hf2⟩ := q209
  have hf : ∀ q : Nat, (q < 102 ∨ 128 < q) → h209 q = h q := fun q hq => (hf2 q hq).trans (hf q hq)
  refine x_aload_n D_6_init_212 rfl ?_
  refine x_iconst D_6_init_213 ?_
  refine x_putI D_6_init_214 f_6_91 (md_o hm) (by decide +kernel) rfl (fun h214 e214 n214 => ?_)
  replace hm := md_p21 hm e214 n214
  replace hf := fun q hq => (n214 q (by omega)).trans (hf q hq)
  refine x_aload_n D_6_init_217 rfl ?_
  refine x_iconst D_6_init_218 ?_
  refine x_putI D_6_init_219 f_6_95 (md_o hm) (by decide +kernel) rfl (fun h219 e219 n219 => ?_)
  replace hm := md_p22 hm e219 n219
  try simp only [upr, Nat.reduceEqDiff, ↓reduceIte] at hm
  replace hf := fun q hq => (n219 q (by omega)).trans (hf q hq)
  refine x_aload_n D_6_init_222 rfl ?_
  refine x_iconst D_6_init_223 ?_
  refine x_putI D_6_init_224 f_6_98 (md_o hm) (by decide +kernel) rfl (fun h224 e224 n224 => ?_)
  replace hm := md_p23 hm e224 n224
  try simp only [upr, Nat.reduceEqDiff, ↓reduceIte] at hm
  replace hf := fun q hq => (n224 q (by omega)).trans (hf q hq)
  refine x_aload_n D_6_init_227 rfl ?_
  refine x_getfield D_6_init_228 f_6_46 (md_o hm) rfl ?_
  refine x_iconst D_6_init_231 ?_
  refine x_iconst D_6_init_232 ?_
  refine x_iastore D_6_init_233 (md_a26 hm) (by omega) (by omega) rfl (fun h233 e233 n233 => ?_)
  replace hm := md_s26 hm e233 n233
  try simp only [upr, Nat.reduceEqDiff, ↓reduceIte] at hm
  try rw [upr_upr] at hm
  replace hf := fun q hq => (n233 q (by omega)).trans (hf q hq)
  refine x_aload_n D_6_init_234 rfl ?_
  refine x_getfield D_6_init_235 f_6_46 (md_o hm) rfl ?_
  refine x_iconst D_6_init_238 ?_
  refine x_iconst D_6_init_239 ?_
  refine x_iastore D_6_init_240 (md_a26 hm) (by omega) (by omega) rfl (fun h240 e240 n240 => ?_)
  replace hm := md_s26 hm e240 n240
  try simp only [upr, Nat.reduceEqDiff, ↓reduceIte] at hm
  try rw [upr_upr] at hm
  replace hf := fun q hq => (n240 q (by omega)).trans (hf q hq)
  refine x_aload_n D_6_init_241 rfl ?_
  refine x_getfield D_6_init_242 f_6_49 (md_o hm) rfl ?_
  refine x_iconst D_6_init_245 ?_
  refine x_iconst D_6_init_246 ?_
  refine x_iastore D_6_init_247 (md_a27 hm) (by omega) (by omega) rfl (fun h247 e247 n247 => ?_)
  replace hm := md_s27 hm e247 n247
  try simp only [upr, Nat.reduceEqDiff, ↓reduceIte] at hm
  try rw [upr_upr] at hm
  replace hf := fun q hq => (n247 q (by omega)).trans (hf q hq)
  refine x_aload_n D_6_init_248 rfl ?_
  refine x_getfield D_6_init_249 f_6_49 (md_o hm) rfl ?_
  refine x_iconst D_6_init_252 ?_
  refine x_bipush D_6_init_253 (by decide +kernel) ?_
  refine x_iastore D_6_init_255 (md_a27 hm) (by omega) (by omega) rfl (fun h255 e255 n255 => ?_)
  replace hm := md_s27 hm e255 n255
  try simp only [upr, Nat.reduceEqDiff, ↓reduceIte] at hm
  try rw [upr_upr] at hm
  replace hf := fun q hq => (n255 q (by omega)).trans (hf q hq)
  refine x_aload_n D_6_init_256 rfl ?_
  refine x_iconst D_6_init_257 ?_
  refine x_iconst D_6_init_258 ?_
  refine x_bipush D_6_init_259 (by decide +kernel) ?_
  refine x_iconst D_6_init_261 ?_
  refine x_bipush D_6_init_262 (by decide +kernel) ?_
  refine x_invV (d' := d - 1) D_6_init_264 l_6_101 mi_6_tells (c_6_tells (by omega) hm (by omega)) (md_o hm) rfl rfl (by omega) rfl (fun q => q) rfl rfl (fun r264 h264 q264 => ?_)
  obtain ⟨rfl, hm, hf2⟩ := q264
  have hf : ∀ q : Nat, (q < 102 ∨ 128 < q) → h264 q = h q := fun q hq => (hf2 q hq).trans (hf q hq)
  refine x_aload_n D_6_init_267 rfl ?_
  refine x_iconst D_6_init_268 ?_
  refine x_iconst D_6_init_269 ?_
  refine x_bipush D_6_init_270 (by decide +kernel) ?_
  refine x_bipush D_6_init_272 (by decide +kernel) ?_
  refine x_iconst D_6_init_274 ?_
  refine x_invV (d' := d - 1) D_6_init_275 l_6_101 mi_6_tells (c_6_tells (by omega) hm (by omega)) (md_o hm) rfl rfl (by omega) rfl (fun q => q) rfl rfl (fun r275 h275 q275 => ?_)
  obtain ⟨rfl, hm, hf2⟩ := q275
  have hf : ∀ q : Nat, (q < 102 ∨ 128 < q) → h275 q = h q := fun q hq => (hf2 q hq).trans (hf q hq)
  refine x_aload_n D_6_init_278 rfl ?_
  refine x_invV (d' := d - 1) D_6_init_279 l_6_105 mi_6_lays (c_6_lays (by omega) hm ok_1 (agt_1 rfl rfl rfl hag.1.2.2.2.1.symm hag.1.2.2.2.2.symm ⟨rfl, rfl⟩ ⟨rfl, rfl⟩ ⟨rfl, rfl, rfl, rfl⟩ ⟨rfl, rfl, rfl, rfl⟩)) (md_o hm) rfl rfl (by omega) rfl (fun q => q) rfl rfl (fun r279 h279 q279 => ?_)
  obtain ⟨rfl, ⟨W2, hm, hag2, w13, w15, w17, w18, w19⟩, hf2⟩ := q279
  have hf : ∀ q : Nat, (q < 102 ∨ 128 < q) → h279 q = h q := fun q hq => (hf2 q hq).trans (hf q hq)
  refine x_return D_6_init_282 rfl rfl ?_
  exact ⟨rfl, fun Bt un ke => ⟨W2, hm, hag2, w13, ⟨w15, w17, (congrFun w19 0).trans (congrFun (hold 19 (by omega)) 0)⟩, fun j hj => absurd hj (by omega), fun j hj => absurd hj (by omega), fun j j0 j1 => absurd j1 (by omega)⟩, hf⟩
end XJ
