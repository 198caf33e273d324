section R11
variable {d : Nat} {z : Nat × Nat} {h : Hp} {len : Int} {Bt : Int → Int} {T : TT} {Q : Option Value → Hp → Prop} {h0 : Hp} {U : TT}
theorem ly_A (hm : MdAt h U) (hf : ∀ q : Nat, (q < 102 ∨ 128 < q) → h q = h0 q)
    (K : ∀ (hh : Hp) (V : TT), MdAt hh V → (∀ x : Int, 0 ≤ x → x < 23 → V 13 x = 0) → (∀ a : Nat, a ≠ 13 → V a = U a) → (∀ q : Nat, (q < 102 ∨ 128 < q) → hh q = h0 q) → WW d m_6_lays z Q z hh 61 [(0, .ref 102)] []) : WW d m_6_lays z Q z h 40 [(0, .ref 102)] [] := by
  have loop : ∀ (f k : Nat) (hh : Hp) (V : TT), k + f = 23 → MdAt hh V → (∀ x : Int, 0 ≤ x → x < k → V 13 x = 0) → (∀ a : Nat, a ≠ 13 → V a = U a) → (∀ q : Nat, (q < 102 ∨ 128 < q) → hh q = h0 q) → WW d m_6_lays z Q z hh 42 [(0, .ref 102), (1, vi (k : Int))] [] := by
    intro f
    induction f with
    | zero =>
      intro k hh V hk hm hx ho hf
      refine x_iload_n D_6_lays_42 rfl ?_
      refine x_bipush D_6_lays_43 (by decide +kernel) ?_
      refine x_icmp_ge D_6_lays_45 ⟨by omega, by omega⟩ ⟨by omega, by omega⟩ (fun c45 => ?_) (fun c45 => ?_)
      · exact (K hh V hm (fun x x0 x1 => hx x x0 (by omega)) ho hf).sub rfl
      exact absurd c45 (by omega)
    | succ f ih =>
      intro k hh V hk hm hx ho hf
      refine x_iload_n D_6_lays_42 rfl ?_
      refine x_bipush D_6_lays_43 (by decide +kernel) ?_
      refine x_icmp_ge D_6_lays_45 ⟨by omega, by omega⟩ ⟨by omega, by omega⟩ (fun c45 => ?_) (fun c45 => ?_)
      · exact absurd c45 (by omega)
      refine x_aload_n D_6_lays_48 rfl ?_
      refine x_getfield D_6_lays_49 f_6_34 (md_o hm) rfl ?_
      refine x_iload_n D_6_lays_52 rfl ?_
      refine x_iconst D_6_lays_53 ?_
      refine x_iastore D_6_lays_54 (md_a13 hm) (by omega) (by omega) rfl (fun h54 e54 n54 => ?_)
      replace hm := md_s13 hm e54 n54
      replace hf := fun q hq => (n54 q (by omega)).trans (hf q hq)
      refine x_iinc D_6_lays_55 rfl rfl rfl rfl ?_
      refine x_goto D_6_lays_58 ?_
      refine (ih (k + 1) _ _ (by omega) hm (fun x x0 x1 => ?_) (fun a a1 => (upr_ne _ _ a1).trans (ho a a1)) hf).sub rfl
      rw [upr_eq]
      by_cases e : x = (k : Int)
      · rw [e, ups_eq]
      · rw [ups_ne _ _ e]; exact hx x x0 (by omega)
  refine x_iconst D_6_lays_40 ?_
  refine x_istore_n D_6_lays_41 rfl rfl rfl ?_
  exact (loop 23 0 h U (by omega) hm (fun x x0 x1 => absurd x1 (by omega)) (fun _ _ => rfl) hf).sub rfl
theorem ly_B (hm : MdAt h U) (hf : ∀ q : Nat, (q < 102 ∨ 128 < q) → h q = h0 q) {n : Nat} (hn : n ≤ 5) (hU : U 0 0 = (n : Int))
    (K : ∀ (hh : Hp) (V : TT), MdAt hh V → (∀ x : Int, 0 ≤ x → x < n → V 5 x = U 26 x) → (∀ x : Int, 0 ≤ x → V 13 x = if 11 ≤ x ∧ x < 11 + n then U 26 (x - 11) else U 13 x) → (∀ a : Nat, a ≠ 13 → a ≠ 5 → V a = U a) → (∀ q : Nat, (q < 102 ∨ 128 < q) → hh q = h0 q) → WW d m_6_lays z Q z hh 126 [(0, .ref 102)] []) : WW d m_6_lays z Q z h 83 [(0, .ref 102)] [] := by
  have loop : ∀ (f k : Nat) (hh : Hp) (V : TT), k + f = n → MdAt hh V → (∀ x : Int, 0 ≤ x → x < k → V 5 x = U 26 x) → (∀ x : Int, 0 ≤ x → V 13 x = if 11 ≤ x ∧ x < 11 + k then U 26 (x - 11) else U 13 x) → (∀ a : Nat, a ≠ 13 → a ≠ 5 → V a = U a) → (∀ q : Nat, (q < 102 ∨ 128 < q) → hh q = h0 q) → WW d m_6_lays z Q z hh 85 [(0, .ref 102), (1, vi (k : Int))] [] := by
    intro f
    induction f with
    | zero =>
      intro k hh V hk hm hx hy ho hf
      obtain rfl : k = n := by omega
      have v0 : V 0 0 = (k : Int) := (congrFun (ho 0 (by omega) (by omega)) 0).trans hU
      refine x_iload_n D_6_lays_85 rfl ?_
      refine x_aload_n D_6_lays_86 rfl ?_
      refine x_getfield D_6_lays_87 f_6_108 (md_o hm) rfl ?_
      rw [v0]
      refine x_icmp_ge D_6_lays_90 ⟨by omega, by omega⟩ ⟨by omega, by omega⟩ (fun c90 => ?_) (fun c90 => ?_)
      · exact (K hh V hm hx hy ho hf).sub rfl
      exact absurd c90 (by omega)
    | succ f ih =>
      intro k hh V hk hm hx hy ho hf
      have v0 : V 0 0 = (n : Int) := (congrFun (ho 0 (by omega) (by omega)) 0).trans hU
      have v26 : V 26 = U 26 := ho 26 (by omega) (by omega)
      refine x_iload_n D_6_lays_85 rfl ?_
      refine x_aload_n D_6_lays_86 rfl ?_
      refine x_getfield D_6_lays_87 f_6_108 (md_o hm) rfl ?_
      rw [v0]
      refine x_icmp_ge D_6_lays_90 ⟨by omega, by omega⟩ ⟨by omega, by omega⟩ (fun c90 => ?_) (fun c90 => ?_)
      · exact absurd c90 (by omega)
      refine x_aload_n D_6_lays_93 rfl ?_
      refine x_getfield D_6_lays_94 f_6_7 (md_o hm) rfl ?_
      refine x_iload_n D_6_lays_97 rfl ?_
      refine x_aload_n D_6_lays_98 rfl ?_
      refine x_getfield D_6_lays_99 f_6_46 (md_o hm) rfl ?_
      refine x_iload_n D_6_lays_102 rfl ?_
      refine x_iaload D_6_lays_103 (md_a26 hm) (by omega) (by omega) rfl ?_
      rw [v26]
      refine x_iastore D_6_lays_104 (md_a5 hm) (by omega) (by omega) rfl (fun h104 e104 n104 => ?_)
      replace hm := md_s5 hm e104 n104
      replace hf := fun q hq => (n104 q (by omega)).trans (hf q hq)
      refine x_aload_n D_6_lays_105 rfl ?_
      refine x_getfield D_6_lays_106 f_6_34 (md_o hm) rfl ?_
      refine x_bipush D_6_lays_109 (by decide +kernel) ?_
      refine x_iload_n D_6_lays_111 rfl ?_
      refine x_iadd D_6_lays_112 ?_
      refine x_aload_n D_6_lays_113 rfl ?_
      refine x_getfield D_6_lays_114 f_6_46 (md_o hm) rfl ?_
      refine x_iload_n D_6_lays_117 rfl ?_
      refine x_iaload D_6_lays_118 (md_a26 hm) (by omega) (by omega) rfl ?_
      try simp only [upr, Nat.reduceEqDiff, ↓reduceIte]
      rw [v26]
      refine x_iastore D_6_lays_119 (md_a13 hm) (by omega) (by omega) rfl (fun h119 e119 n119 => ?_)
      replace hm := md_s13 hm e119 n119
      try simp only [upr, Nat.reduceEqDiff, ↓reduceIte] at hm
      try rw [upr_upr] at hm
      replace hf := fun q hq => (n119 q (by omega)).trans (hf q hq)
      refine x_iinc D_6_lays_120 rfl rfl rfl rfl ?_
      refine x_goto D_6_lays_123 ?_
      refine (ih (k + 1) _ _ (by omega) hm (fun x x0 x1 => ?_) (fun x x0 => ?_) (fun a a1 a2 => (upr_ne _ _ a1).trans ((upr_ne _ _ a2).trans (ho a a1 a2))) hf).sub rfl
      · rw [upr_ne _ _ (by omega), upr_eq]
        by_cases e : x = (k : Int)
        · rw [e, ups_eq]
        · rw [ups_ne _ _ e]; exact hx x x0 (by omega)
      · rw [upr_eq]
        by_cases e : x = 11 + (k : Int)
        · rw [e, ups_eq, if_pos (by omega)]
          congr 1
          omega
        · rw [ups_ne _ _ e, hy x x0]
          by_cases e2 : 11 ≤ x ∧ x < 11 + (k : Int)
          · rw [if_pos e2, if_pos (by omega)]
          · rw [if_neg e2, if_neg (by omega)]
  refine x_iconst D_6_lays_83 ?_
  refine x_istore_n D_6_lays_84 rfl rfl rfl ?_
  exact (loop n 0 h U (by omega) hm (fun x x0 x1 => absurd x1 (by omega)) (fun x x0 => by rw [if_neg (by omega)]) (fun _ _ _ => rfl) hf).sub rfl
theorem ly_C (hm : MdAt h U) (hf : ∀ q : Nat, (q < 102 ∨ 128 < q) → h q = h0 q) {n : Nat} (hn : n ≤ 8) (hU : U 1 0 = (n : Int))
    (K : ∀ (hh : Hp) (V : TT), MdAt hh V → (∀ x : Int, 0 ≤ x → x < n → V 6 x = U 27 x) → (∀ a : Nat, a ≠ 6 → V a = U a) → (∀ q : Nat, (q < 102 ∨ 128 < q) → hh q = h0 q) → WW d m_6_lays z Q z hh 154 [(0, .ref 102)] []) : WW d m_6_lays z Q z h 126 [(0, .ref 102)] [] := by
  have loop : ∀ (f k : Nat) (hh : Hp) (V : TT), k + f = n → MdAt hh V → (∀ x : Int, 0 ≤ x → x < k → V 6 x = U 27 x) → (∀ a : Nat, a ≠ 6 → V a = U a) → (∀ q : Nat, (q < 102 ∨ 128 < q) → hh q = h0 q) → WW d m_6_lays z Q z hh 128 [(0, .ref 102), (1, vi (k : Int))] [] := by
    intro f
    induction f with
    | zero =>
      intro k hh V hk hm hx ho hf
      obtain rfl : k = n := by omega
      have v0 : V 1 0 = (k : Int) := (congrFun (ho 1 (by omega)) 0).trans hU
      refine x_iload_n D_6_lays_128 rfl ?_
      refine x_aload_n D_6_lays_129 rfl ?_
      refine x_getfield D_6_lays_130 f_6_115 (md_o hm) rfl ?_
      rw [v0]
      refine x_icmp_ge D_6_lays_133 ⟨by omega, by omega⟩ ⟨by omega, by omega⟩ (fun c133 => ?_) (fun c133 => ?_)
      · exact (K hh V hm hx ho hf).sub rfl
      exact absurd c133 (by omega)
    | succ f ih =>
      intro k hh V hk hm hx ho hf
      have v0 : V 1 0 = (n : Int) := (congrFun (ho 1 (by omega)) 0).trans hU
      have v27 : V 27 = U 27 := ho 27 (by omega)
      refine x_iload_n D_6_lays_128 rfl ?_
      refine x_aload_n D_6_lays_129 rfl ?_
      refine x_getfield D_6_lays_130 f_6_115 (md_o hm) rfl ?_
      rw [v0]
      refine x_icmp_ge D_6_lays_133 ⟨by omega, by omega⟩ ⟨by omega, by omega⟩ (fun c133 => ?_) (fun c133 => ?_)
      · exact absurd c133 (by omega)
      refine x_aload_n D_6_lays_136 rfl ?_
      refine x_getfield D_6_lays_137 f_6_13 (md_o hm) rfl ?_
      refine x_iload_n D_6_lays_140 rfl ?_
      refine x_aload_n D_6_lays_141 rfl ?_
      refine x_getfield D_6_lays_142 f_6_49 (md_o hm) rfl ?_
      refine x_iload_n D_6_lays_145 rfl ?_
      refine x_iaload D_6_lays_146 (md_a27 hm) (by omega) (by omega) rfl ?_
      rw [v27]
      refine x_iastore D_6_lays_147 (md_a6 hm) (by omega) (by omega) rfl (fun h147 e147 n147 => ?_)
      replace hm := md_s6 hm e147 n147
      replace hf := fun q hq => (n147 q (by omega)).trans (hf q hq)
      refine x_iinc D_6_lays_148 rfl rfl rfl rfl ?_
      refine x_goto D_6_lays_151 ?_
      refine (ih (k + 1) _ _ (by omega) hm (fun x x0 x1 => ?_) (fun a a1 => (upr_ne _ _ a1).trans (ho a a1)) hf).sub rfl
      rw [upr_eq]
      by_cases e : x = (k : Int)
      · rw [e, ups_eq]
      · rw [ups_ne _ _ e]; exact hx x x0 (by omega)
  refine x_iconst D_6_lays_126 ?_
  refine x_istore_n D_6_lays_127 rfl rfl rfl ?_
  exact (loop n 0 h U (by omega) hm (fun x x0 x1 => absurd x1 (by omega)) (fun _ _ => rfl) hf).sub rfl
theorem ly_D (hm : MdAt h U) (hf : ∀ q : Nat, (q < 102 ∨ 128 < q) → h q = h0 q)
    (K : ∀ (hh : Hp) (V : TT), MdAt hh V → (∀ x : Int, 0 ≤ x → x < 7 → V 7 x = U 28 x ∧ V 8 x = U 29 x ∧ V 9 x = U 30 x ∧ V 10 x = U 31 x) → (∀ x : Int, V 13 x = if 16 ≤ x ∧ x < 23 then -4 else U 13 x) → (∀ a : Nat, (a < 7 ∨ 10 < a) → a ≠ 13 → V a = U a) → (∀ q : Nat, (q < 102 ∨ 128 < q) → hh q = h0 q) → WW d m_6_lays z Q z hh 227 [(0, .ref 102)] []) : WW d m_6_lays z Q z h 154 [(0, .ref 102)] [] := by
  have loop : ∀ (f k : Nat) (hh : Hp) (V : TT), k + f = 7 → MdAt hh V → (∀ x : Int, 0 ≤ x → x < k → V 7 x = U 28 x ∧ V 8 x = U 29 x ∧ V 9 x = U 30 x ∧ V 10 x = U 31 x) → (∀ x : Int, V 13 x = if 16 ≤ x ∧ x < 16 + k then -4 else U 13 x) → (∀ a : Nat, (a < 7 ∨ 10 < a) → a ≠ 13 → V a = U a) → (∀ q : Nat, (q < 102 ∨ 128 < q) → hh q = h0 q) → WW d m_6_lays z Q z hh 156 [(0, .ref 102), (1, vi (k : Int))] [] := by
    intro f
    induction f with
    | zero =>
      intro k hh V hk hm hx hy ho hf
      obtain rfl : k = 7 := by omega
      refine x_iload_n D_6_lays_156 rfl ?_
      refine x_bipush D_6_lays_157 (by decide +kernel) ?_
      refine x_icmp_ge D_6_lays_159 ⟨by omega, by omega⟩ ⟨by omega, by omega⟩ (fun c159 => ?_) (fun c159 => ?_)
      · exact (K hh V hm hx hy ho hf).sub rfl
      exact absurd c159 (by omega)
    | succ f ih =>
      intro k hh V hk hm hx hy ho hf
      have v28 : V 28 = U 28 := ho 28 (by omega) (by omega)
      have v29 : V 29 = U 29 := ho 29 (by omega) (by omega)
      have v30 : V 30 = U 30 := ho 30 (by omega) (by omega)
      have v31 : V 31 = U 31 := ho 31 (by omega) (by omega)
      refine x_iload_n D_6_lays_156 rfl ?_
      refine x_bipush D_6_lays_157 (by decide +kernel) ?_
      refine x_icmp_ge D_6_lays_159 ⟨by omega, by omega⟩ ⟨by omega, by omega⟩ (fun c159 => ?_) (fun c159 => ?_)
      · exact absurd c159 (by omega)
      refine x_aload_n D_6_lays_162 rfl ?_
      refine x_getfield D_6_lays_163 f_6_16 (md_o hm) rfl ?_
      refine x_iload_n D_6_lays_166 rfl ?_
      refine x_aload_n D_6_lays_167 rfl ?_
      refine x_getfield D_6_lays_168 f_6_52 (md_o hm) rfl ?_
      refine x_iload_n D_6_lays_171 rfl ?_
      refine x_iaload D_6_lays_172 (md_a28 hm) (by omega) (by omega) rfl ?_
      rw [v28]
      refine x_iastore D_6_lays_173 (md_a7 hm) (by omega) (by omega) rfl (fun h173 e173 n173 => ?_)
      replace hm := md_s7 hm e173 n173
      replace hf := fun q hq => (n173 q (by omega)).trans (hf q hq)
      refine x_aload_n D_6_lays_174 rfl ?_
      refine x_getfield D_6_lays_175 f_6_19 (md_o hm) rfl ?_
      refine x_iload_n D_6_lays_178 rfl ?_
      refine x_aload_n D_6_lays_179 rfl ?_
      refine x_getfield D_6_lays_180 f_6_55 (md_o hm) rfl ?_
      refine x_iload_n D_6_lays_183 rfl ?_
      refine x_iaload D_6_lays_184 (md_a29 hm) (by omega) (by omega) rfl ?_
      try simp only [upr, Nat.reduceEqDiff, ↓reduceIte]
      rw [v29]
      refine x_iastore D_6_lays_185 (md_a8 hm) (by omega) (by omega) rfl (fun h185 e185 n185 => ?_)
      replace hm := md_s8 hm e185 n185
      try simp only [upr, Nat.reduceEqDiff, ↓reduceIte] at hm
      try rw [upr_upr] at hm
      replace hf := fun q hq => (n185 q (by omega)).trans (hf q hq)
      refine x_aload_n D_6_lays_186 rfl ?_
      refine x_getfield D_6_lays_187 f_6_22 (md_o hm) rfl ?_
      refine x_iload_n D_6_lays_190 rfl ?_
      refine x_aload_n D_6_lays_191 rfl ?_
      refine x_getfield D_6_lays_192 f_6_58 (md_o hm) rfl ?_
      refine x_iload_n D_6_lays_195 rfl ?_
      refine x_iaload D_6_lays_196 (md_a30 hm) (by omega) (by omega) rfl ?_
      try simp only [upr, Nat.reduceEqDiff, ↓reduceIte]
      rw [v30]
      refine x_iastore D_6_lays_197 (md_a9 hm) (by omega) (by omega) rfl (fun h197 e197 n197 => ?_)
      replace hm := md_s9 hm e197 n197
      try simp only [upr, Nat.reduceEqDiff, ↓reduceIte] at hm
      try rw [upr_upr] at hm
      replace hf := fun q hq => (n197 q (by omega)).trans (hf q hq)
      refine x_aload_n D_6_lays_198 rfl ?_
      refine x_getfield D_6_lays_199 f_6_25 (md_o hm) rfl ?_
      refine x_iload_n D_6_lays_202 rfl ?_
      refine x_aload_n D_6_lays_203 rfl ?_
      refine x_getfield D_6_lays_204 f_6_61 (md_o hm) rfl ?_
      refine x_iload_n D_6_lays_207 rfl ?_
      refine x_iaload D_6_lays_208 (md_a31 hm) (by omega) (by omega) rfl ?_
      try simp only [upr, Nat.reduceEqDiff, ↓reduceIte]
      rw [v31]
      refine x_iastore D_6_lays_209 (md_a10 hm) (by omega) (by omega) rfl (fun h209 e209 n209 => ?_)
      replace hm := md_s10 hm e209 n209
      try simp only [upr, Nat.reduceEqDiff, ↓reduceIte] at hm
      try rw [upr_upr] at hm
      replace hf := fun q hq => (n209 q (by omega)).trans (hf q hq)
      refine x_aload_n D_6_lays_210 rfl ?_
      refine x_getfield D_6_lays_211 f_6_34 (md_o hm) rfl ?_
      refine x_bipush D_6_lays_214 (by decide +kernel) ?_
      refine x_iload_n D_6_lays_216 rfl ?_
      refine x_iadd D_6_lays_217 ?_
      refine x_bipush D_6_lays_218 (by decide +kernel) ?_
      refine x_iastore D_6_lays_220 (md_a13 hm) (by omega) (by omega) rfl (fun h220 e220 n220 => ?_)
      replace hm := md_s13 hm e220 n220
      try simp only [upr, Nat.reduceEqDiff, ↓reduceIte] at hm
      try rw [upr_upr] at hm
      replace hf := fun q hq => (n220 q (by omega)).trans (hf q hq)
      refine x_iinc D_6_lays_221 rfl rfl rfl rfl ?_
      refine x_goto D_6_lays_224 ?_
      refine (ih (k + 1) _ _ (by omega) hm (fun x x0 x1 => ?_) (fun x => ?_) (fun a a1 a2 => (upr_ne _ _ a2).trans ((upr_ne _ _ (by omega)).trans ((upr_ne _ _ (by omega)).trans ((upr_ne _ _ (by omega)).trans ((upr_ne _ _ (by omega)).trans (ho a a1 a2)))))) hf).sub rfl
      · have e7 : ∀ (W : TT) (F1 F2 F3 F4 F5 : Int → Int), upr (upr (upr (upr (upr W 7 F1) 8 F2) 9 F3) 10 F4) 13 F5 7 = F1 := fun _ _ _ _ _ _ => rfl
        have e8 : ∀ (W : TT) (F1 F2 F3 F4 F5 : Int → Int), upr (upr (upr (upr (upr W 7 F1) 8 F2) 9 F3) 10 F4) 13 F5 8 = F2 := fun _ _ _ _ _ _ => rfl
        have e9 : ∀ (W : TT) (F1 F2 F3 F4 F5 : Int → Int), upr (upr (upr (upr (upr W 7 F1) 8 F2) 9 F3) 10 F4) 13 F5 9 = F3 := fun _ _ _ _ _ _ => rfl
        have e10 : ∀ (W : TT) (F1 F2 F3 F4 F5 : Int → Int), upr (upr (upr (upr (upr W 7 F1) 8 F2) 9 F3) 10 F4) 13 F5 10 = F4 := fun _ _ _ _ _ _ => rfl
        rw [e7, e8, e9, e10]
        by_cases e : x = (k : Int)
        · rw [e, ups_eq, ups_eq, ups_eq, ups_eq]
          exact ⟨rfl, rfl, rfl, rfl⟩
        · rw [ups_ne _ _ e, ups_ne _ _ e, ups_ne _ _ e, ups_ne _ _ e]; exact hx x x0 (by omega)
      · rw [upr_eq]
        by_cases e : x = 16 + (k : Int)
        · rw [e, ups_eq, if_pos (by omega)]
        · rw [ups_ne _ _ e, hy x]
          by_cases e2 : 16 ≤ x ∧ x < 16 + (k : Int)
          · rw [if_pos e2, if_pos (by omega)]
          · rw [if_neg e2, if_neg (by omega)]
  refine x_iconst D_6_lays_154 ?_
  refine x_istore_n D_6_lays_155 rfl rfl rfl ?_
  exact (loop 7 0 h U (by omega) hm (fun x x0 x1 => absurd x1 (by omega)) (fun x => by rw [if_neg (by omega)]) (fun _ _ _ => rfl) hf).sub rfl
theorem ly_E (hm : MdAt h U) (hf : ∀ q : Nat, (q < 102 ∨ 128 < q) → h q = h0 q)
    (K : ∀ (hh : Hp) (V : TT), MdAt hh V → (∀ x : Int, 0 ≤ x → x < 4 → V 11 x = U 32 x ∧ V 12 x = U 33 x) → (∀ a : Nat, a ≠ 11 → a ≠ 12 → V a = U a) → (∀ q : Nat, (q < 102 ∨ 128 < q) → hh q = h0 q) → WW d m_6_lays z Q z hh 264 [(0, .ref 102)] []) : WW d m_6_lays z Q z h 227 [(0, .ref 102)] [] := by
  have loop : ∀ (f k : Nat) (hh : Hp) (V : TT), k + f = 4 → MdAt hh V → (∀ x : Int, 0 ≤ x → x < k → V 11 x = U 32 x ∧ V 12 x = U 33 x) → (∀ a : Nat, a ≠ 11 → a ≠ 12 → V a = U a) → (∀ q : Nat, (q < 102 ∨ 128 < q) → hh q = h0 q) → WW d m_6_lays z Q z hh 229 [(0, .ref 102), (1, vi (k : Int))] [] := by
    intro f
    induction f with
    | zero =>
      intro k hh V hk hm hx ho hf
      obtain rfl : k = 4 := by omega
      refine x_iload_n D_6_lays_229 rfl ?_
      refine x_iconst D_6_lays_230 ?_
      refine x_icmp_ge D_6_lays_231 ⟨by omega, by omega⟩ ⟨by omega, by omega⟩ (fun c231 => ?_) (fun c231 => ?_)
      · exact (K hh V hm hx ho hf).sub rfl
      exact absurd c231 (by omega)
    | succ f ih =>
      intro k hh V hk hm hx ho hf
      have v32 : V 32 = U 32 := ho 32 (by omega) (by omega)
      have v33 : V 33 = U 33 := ho 33 (by omega) (by omega)
      refine x_iload_n D_6_lays_229 rfl ?_
      refine x_iconst D_6_lays_230 ?_
      refine x_icmp_ge D_6_lays_231 ⟨by omega, by omega⟩ ⟨by omega, by omega⟩ (fun c231 => ?_) (fun c231 => ?_)
      · exact absurd c231 (by omega)
      refine x_aload_n D_6_lays_234 rfl ?_
      refine x_getfield D_6_lays_235 f_6_28 (md_o hm) rfl ?_
      refine x_iload_n D_6_lays_238 rfl ?_
      refine x_aload_n D_6_lays_239 rfl ?_
      refine x_getfield D_6_lays_240 f_6_64 (md_o hm) rfl ?_
      refine x_iload_n D_6_lays_243 rfl ?_
      refine x_iaload D_6_lays_244 (md_a32 hm) (by omega) (by omega) rfl ?_
      rw [v32]
      refine x_iastore D_6_lays_245 (md_a11 hm) (by omega) (by omega) rfl (fun h245 e245 n245 => ?_)
      replace hm := md_s11 hm e245 n245
      replace hf := fun q hq => (n245 q (by omega)).trans (hf q hq)
      refine x_aload_n D_6_lays_246 rfl ?_
      refine x_getfield D_6_lays_247 f_6_31 (md_o hm) rfl ?_
      refine x_iload_n D_6_lays_250 rfl ?_
      refine x_aload_n D_6_lays_251 rfl ?_
      refine x_getfield D_6_lays_252 f_6_67 (md_o hm) rfl ?_
      refine x_iload_n D_6_lays_255 rfl ?_
      refine x_iaload D_6_lays_256 (md_a33 hm) (by omega) (by omega) rfl ?_
      try simp only [upr, Nat.reduceEqDiff, ↓reduceIte]
      rw [v33]
      refine x_iastore D_6_lays_257 (md_a12 hm) (by omega) (by omega) rfl (fun h257 e257 n257 => ?_)
      replace hm := md_s12 hm e257 n257
      try simp only [upr, Nat.reduceEqDiff, ↓reduceIte] at hm
      try rw [upr_upr] at hm
      replace hf := fun q hq => (n257 q (by omega)).trans (hf q hq)
      refine x_iinc D_6_lays_258 rfl rfl rfl rfl ?_
      refine x_goto D_6_lays_261 ?_
      refine (ih (k + 1) _ _ (by omega) hm (fun x x0 x1 => ?_) (fun a a1 a2 => (upr_ne _ _ a2).trans ((upr_ne _ _ a1).trans (ho a a1 a2))) hf).sub rfl
      rw [upr_ne _ _ (by omega), upr_eq, upr_eq]
      by_cases e : x = (k : Int)
      · rw [e, ups_eq, ups_eq]
        exact ⟨rfl, rfl⟩
      · rw [ups_ne _ _ e, ups_ne _ _ e]; exact hx x x0 (by omega)
  refine x_iconst D_6_lays_227 ?_
  refine x_istore_n D_6_lays_228 rfl rfl rfl ?_
  exact (loop 4 0 h U (by omega) hm (fun x x0 x1 => absurd x1 (by omega)) (fun _ _ _ => rfl) hf).sub rfl
end R11
