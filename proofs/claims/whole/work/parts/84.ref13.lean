theorem bst_worth {T : TT} {i said m : Int} (n : Nat) : (bst T i said m n).2 = sumSet (T 7) (bst T i said m n).1 (T 4 0).toNat := by
  induction n with
  | zero =>
    show (0 : Int) = sumSet (T 7) 0 (T 4 0).toNat
    have : ∀ k : Nat, sumSet (T 7) 0 k = 0 := by
      intro k
      induction k with
      | zero => rfl
      | succ k ih =>
        simp only [sumSet]
        rw [ih, if_neg (fun q => ?_)]
        · rfl
        · have h0 : iAnd (iShr 0 (k : Int)) 1 = 0 := by
            have e : iShr 0 (k : Int) = 0 := by
              refine tb_ext (iShr_B3 _ _) ⟨by omega, by omega⟩ fun j hj => ?_
              unfold tb
              rw [ii_iShr, Int32.toBitVec_shiftRight]
              show ((0 : BitVec 32).sshiftRight _).getLsbD j = (0 : BitVec 32).getLsbD j
              simp
            rw [e]
            decide +kernel
          have q2 : iAnd (iShr 0 (k : Int)) 1 = 1 := q
          rw [h0] at q2
          omega
    exact (this _).symm
  | succ n ih =>
    by_cases h : bstC T i said m (bst T i said m n).2 n
    · rw [bst_t h]
    · rw [bst_f h]; exact ih
def PS (T : TT) (i : Int) (ok : Prop) (set s : Nat) : Prop := ok ∧ ∀ j : Nat, j < s → hasB (set : Int) (j : Int) → T 5 (j : Int) = i
theorem PS_succ {T : TT} {i : Int} {ok : Prop} {set s : Nat} : PS T i ok set (s + 1) ↔ PS T i ok set s ∧ (hasB (set : Int) (s : Int) → T 5 (s : Int) = i) := by
  constructor
  · rintro ⟨a, c⟩
    exact ⟨⟨a, fun j hj => c j (by omega)⟩, c s (by omega)⟩
  · rintro ⟨⟨a, c⟩, e⟩
    refine ⟨a, fun j hj => ?_⟩
    by_cases h : j = s
    · rw [h]; exact e
    · exact c j (by omega)
section R13
variable {d : Nat} {z : Nat × Nat} {h : Hp} {b len : Int} {Bt : Int → Int} {T : TT} {st : SS} {u : Nat} {un : Nat → SS} {kc : Nat} {ke : Nat → SS}
theorem c_6_findBest (hd : 1 ≤ d) {U : TT} (hm : MdAt h U) (t2 : U 2 0 = T 4 0) (t7 : ∀ s : Int, 0 ≤ s → s < T 4 0 → U 7 s = T 5 s) (t8 : ∀ s : Int, 0 ≤ s → s < T 4 0 → U 8 s = T 6 s) (t9 : ∀ s : Int, 0 ≤ s → s < T 4 0 → U 9 s = T 7 s) (hk : TabOk T) {i m of said : Int} (hi : B3 i) (hmB : B3 m) (hof : ∀ set : Nat, set < 2 ^ (T 4 0).toNat → (iAnd (set : Int) (iXor of (-1)) = 0 ↔ ∀ s : Nat, s < (T 4 0).toNat → hasB (set : Int) (s : Int) → ¬ hasB said (s : Int))) :
    Ct d m_6_findBest [.ref 102, vi i, vi m, vi of] z z h (fun r h' => r = none ∧ (∃ W : TT, MdAt h' W ∧ W 34 0 = (bst T i said m (2 ^ (T 4 0).toNat)).1 ∧ W 35 0 = (bst T i said m (2 ^ (T 4 0).toNat)).2 ∧ W 36 0 = sumSet (T 6) (bst T i said m (2 ^ (T 4 0).toNat)).1 (T 4 0).toNat ∧ ∀ a : Nat, (a < 34 ∨ 36 < a) → W a = U a) ∧ ∀ q : Nat, (q < 102 ∨ 128 < q) → h' q = h q) := by
  refine Ct.of (by decide) ⟨Nat.le_refl _, Nat.le_refl _⟩ (Nat.le_of_ble_eq_true rfl) ?_
  have k4 := hk.2.2.1
  have k0 := hk.1
  have k8 := hk.2.2.2.2.2.2.2.1
  have hp : 2 ^ (T 4 0).toNat ≤ 128 := pow_le (m := 7) (by omega)
  have he : iShl 1 (T 4 0) = ((2 ^ (T 4 0).toNat : Nat) : Int) := by
    rw [← shl_pow1 (T 4 0).toNat (by omega), show (((T 4 0).toNat : Nat) : Int) = T 4 0 by omega]
  have hs0 : sumSet (T 6) 0 (T 4 0).toNat = 0 := by
    have : ∀ k : Nat, k ≤ 32 → sumSet (T 6) 0 k = 0 := by
      intro k
      induction k with
      | zero => exact fun _ => rfl
      | succ k ih =>
        intro hk3
        simp only [sumSet]
        rw [ih (by omega), if_neg (no0 k (by omega))]
        rfl
    exact this _ (by omega)
  generalize hN : 2 ^ (T 4 0).toNat = N at hp he hof ⊢
  have outer : ∀ (f k : Nat) (hh : Hp) (V : TT), k + f = N → MdAt hh V → V 34 0 = (bst T i said m k).1 → V 35 0 = (bst T i said m k).2 → V 36 0 = sumSet (T 6) (bst T i said m k).1 (T 4 0).toNat → (∀ a : Nat, (a < 34 ∨ 36 < a) → V a = U a) → (∀ q : Nat, (q < 102 ∨ 128 < q) → hh q = h q) →
      WW d m_6_findBest z (fun r h' => r = none ∧ (∃ W : TT, MdAt h' W ∧ W 34 0 = (bst T i said m (N)).1 ∧ W 35 0 = (bst T i said m (N)).2 ∧ W 36 0 = sumSet (T 6) (bst T i said m (N)).1 (T 4 0).toNat ∧ ∀ a : Nat, (a < 34 ∨ 36 < a) → W a = U a) ∧ ∀ q : Nat, (q < 102 ∨ 128 < q) → h' q = h q) z hh 18 [(0, .ref 102), (1, vi i), (2, vi m), (3, vi of), (4, vi (k : Int))] [] := by
    intro f
    induction f with
    | zero =>
      intro k hh V hkk hm x34 x35 x36 ho hf
      obtain rfl : k = N := by omega
      have v2 : V 2 0 = T 4 0 := (congrFun (ho 2 (by omega)) 0).trans t2
      refine x_iload D_6_findBest_18 rfl ?_
      refine x_iconst D_6_findBest_20 ?_
      refine x_aload_n D_6_findBest_21 rfl ?_
      refine x_getfield D_6_findBest_22 f_6_118 (md_o hm) rfl ?_
      rw [v2]
      refine x_ishl D_6_findBest_25 ?_
      rw [he]
      refine x_icmp_ge D_6_findBest_26 ⟨by omega, by omega⟩ ⟨by omega, by omega⟩ (fun c26 => ?_) (fun c26 => ?_)
      · refine x_return D_6_findBest_170 rfl rfl ?_
        exact ⟨rfl, ⟨V, hm, x34, x35, x36, ho⟩, hf⟩
      exact absurd c26 (by omega)
    | succ f ih =>
      intro k hh V hkk hm x34 x35 x36 ho hf
      have v2 : V 2 0 = T 4 0 := (congrFun (ho 2 (by omega)) 0).trans t2
      have v7 : ∀ s : Int, 0 ≤ s → s < T 4 0 → V 7 s = T 5 s := fun s s0 s1 => (congrFun (ho 7 (by omega)) s).trans (t7 s s0 s1)
      have v8 : ∀ s : Int, 0 ≤ s → s < T 4 0 → V 8 s = T 6 s := fun s s0 s1 => (congrFun (ho 8 (by omega)) s).trans (t8 s s0 s1)
      have v9 : ∀ s : Int, 0 ≤ s → s < T 4 0 → V 9 s = T 7 s := fun s s0 s1 => (congrFun (ho 9 (by omega)) s).trans (t9 s s0 s1)
      have hk2 : k < N := by omega
      have hbr := (bst_rng hk (i := i) (said := said) (m := m) k (by omega)).2
      have h6 := sumSet_le (F := T 6) (s := (k : Int)) (M := 60) (by omega) (T 4 0).toNat (fun j hj => by have := (k8 (j : Int) (by omega) (by omega)).2.1; omega)
      have h7 := sumSet_le (F := T 7) (s := (k : Int)) (M := 99) (by omega) (T 4 0).toNat (fun j hj => (k8 (j : Int) (by omega) (by omega)).2.2.1)
      have hPS : PS T i (iAnd (k : Int) (iXor of (-1)) = 0) k (T 4 0).toNat ↔ okS T i said k := by
        unfold PS okS
        rw [hof k hk2]
        constructor
        · rintro ⟨a, c⟩ s s1 s2
          exact ⟨c s s1 s2, a s s1 s2⟩
        · intro a
          exact ⟨fun s s1 s2 => (a s s1 s2).2, fun s s1 s2 => (a s s1 s2).1⟩
      have inner : ∀ (g s : Nat) (x : Int), s + g = (T 4 0).toNat → (x = 1 ∧ PS T i (iAnd (k : Int) (iXor of (-1)) = 0) k s ∨ x = 0 ∧ ¬ PS T i (iAnd (k : Int) (iXor of (-1)) = 0) k s) →
          WW d m_6_findBest z (fun r h' => r = none ∧ (∃ W : TT, MdAt h' W ∧ W 34 0 = (bst T i said m (N)).1 ∧ W 35 0 = (bst T i said m (N)).2 ∧ W 36 0 = sumSet (T 6) (bst T i said m (N)).1 (T 4 0).toNat ∧ ∀ a : Nat, (a < 34 ∨ 36 < a) → W a = U a) ∧ ∀ q : Nat, (q < 102 ∨ 128 < q) → h' q = h q) z hh 54 [(0, .ref 102), (1, vi i), (2, vi m), (3, vi of), (4, vi (k : Int)), (5, vi (sumSet (T 6) (k : Int) s)), (6, vi (sumSet (T 7) (k : Int) s)), (7, vi x), (8, vi (s : Int))] [] := by
        intro g
        induction g with
        | zero =>
          intro s x hsg hx
          obtain rfl : s = (T 4 0).toNat := by omega
          refine x_iload D_6_findBest_54 rfl ?_
          refine x_aload_n D_6_findBest_56 rfl ?_
          refine x_getfield D_6_findBest_57 f_6_118 (md_o hm) rfl ?_
          rw [v2]
          refine x_icmp_ge D_6_findBest_60 ⟨by omega, by omega⟩ ⟨by omega, by omega⟩ (fun c60 => ?_) (fun c60 => ?_)
          · refine x_iload D_6_findBest_126 rfl ?_
            refine x_if_eq D_6_findBest_128 ⟨by omega, by omega⟩ (fun c128 => ?_) (fun c128 => ?_)
            · refine x_iinc D_6_findBest_164 rfl rfl rfl rfl ?_
              refine x_goto D_6_findBest_167 ?_
              first
              | exact (ih (k + 1) _ _ (by omega) hm (by rw [bst_t ⟨hPS.mp (hx.resolve_right (fun q => c128 q.1)).2, c134, c143⟩]; rfl) (by rw [bst_t ⟨hPS.mp (hx.resolve_right (fun q => c128 q.1)).2, c134, c143⟩]; rfl) (by rw [bst_t ⟨hPS.mp (hx.resolve_right (fun q => c128 q.1)).2, c134, c143⟩]; rfl) (fun a ha => (upr_ne _ _ (by omega)).trans ((upr_ne _ _ (by omega)).trans ((upr_ne _ _ (by omega)).trans (ho a ha)))) hf).sub rfl
              | (have hn : ¬ bstC T i said m (bst T i said m k).2 k := fun q => absurd q.2.2 (by omega)
                 exact (ih (k + 1) _ _ (by omega) hm (by rw [bst_f hn]; exact x34) (by rw [bst_f hn]; exact x35) (by rw [bst_f hn]; exact x36) ho hf).sub rfl)
              | (have hn : ¬ bstC T i said m (bst T i said m k).2 k := fun q => absurd q.2.1 (by omega)
                 exact (ih (k + 1) _ _ (by omega) hm (by rw [bst_f hn]; exact x34) (by rw [bst_f hn]; exact x35) (by rw [bst_f hn]; exact x36) ho hf).sub rfl)
              | (have hn : ¬ bstC T i said m (bst T i said m k).2 k := fun q => (hx.resolve_left (fun w => absurd w.1 (by omega))).2 (hPS.mpr q.1)
                 exact (ih (k + 1) _ _ (by omega) hm (by rw [bst_f hn]; exact x34) (by rw [bst_f hn]; exact x35) (by rw [bst_f hn]; exact x36) ho hf).sub rfl)
            refine x_iload D_6_findBest_131 rfl ?_
            refine x_iload_n D_6_findBest_133 rfl ?_
            refine x_icmp_gt D_6_findBest_134 ⟨by omega, by omega⟩ hmB (fun c134 => ?_) (fun c134 => ?_)
            · refine x_iinc D_6_findBest_164 rfl rfl rfl rfl ?_
              refine x_goto D_6_findBest_167 ?_
              first
              | exact (ih (k + 1) _ _ (by omega) hm (by rw [bst_t ⟨hPS.mp (hx.resolve_right (fun q => c128 q.1)).2, c134, c143⟩]; rfl) (by rw [bst_t ⟨hPS.mp (hx.resolve_right (fun q => c128 q.1)).2, c134, c143⟩]; rfl) (by rw [bst_t ⟨hPS.mp (hx.resolve_right (fun q => c128 q.1)).2, c134, c143⟩]; rfl) (fun a ha => (upr_ne _ _ (by omega)).trans ((upr_ne _ _ (by omega)).trans ((upr_ne _ _ (by omega)).trans (ho a ha)))) hf).sub rfl
              | (have hn : ¬ bstC T i said m (bst T i said m k).2 k := fun q => absurd q.2.2 (by omega)
                 exact (ih (k + 1) _ _ (by omega) hm (by rw [bst_f hn]; exact x34) (by rw [bst_f hn]; exact x35) (by rw [bst_f hn]; exact x36) ho hf).sub rfl)
              | (have hn : ¬ bstC T i said m (bst T i said m k).2 k := fun q => absurd q.2.1 (by omega)
                 exact (ih (k + 1) _ _ (by omega) hm (by rw [bst_f hn]; exact x34) (by rw [bst_f hn]; exact x35) (by rw [bst_f hn]; exact x36) ho hf).sub rfl)
              | (have hn : ¬ bstC T i said m (bst T i said m k).2 k := fun q => (hx.resolve_left (fun w => absurd w.1 (by omega))).2 (hPS.mpr q.1)
                 exact (ih (k + 1) _ _ (by omega) hm (by rw [bst_f hn]; exact x34) (by rw [bst_f hn]; exact x35) (by rw [bst_f hn]; exact x36) ho hf).sub rfl)
            refine x_iload D_6_findBest_137 rfl ?_
            refine x_aload_n D_6_findBest_139 rfl ?_
            refine x_getfield D_6_findBest_140 f_6_210 (md_o hm) rfl ?_
            rw [x35]
            refine x_icmp_le D_6_findBest_143 ⟨by omega, by omega⟩ ⟨by omega, by omega⟩ (fun c143 => ?_) (fun c143 => ?_)
            · refine x_iinc D_6_findBest_164 rfl rfl rfl rfl ?_
              refine x_goto D_6_findBest_167 ?_
              first
              | exact (ih (k + 1) _ _ (by omega) hm (by rw [bst_t ⟨hPS.mp (hx.resolve_right (fun q => c128 q.1)).2, c134, c143⟩]; rfl) (by rw [bst_t ⟨hPS.mp (hx.resolve_right (fun q => c128 q.1)).2, c134, c143⟩]; rfl) (by rw [bst_t ⟨hPS.mp (hx.resolve_right (fun q => c128 q.1)).2, c134, c143⟩]; rfl) (fun a ha => (upr_ne _ _ (by omega)).trans ((upr_ne _ _ (by omega)).trans ((upr_ne _ _ (by omega)).trans (ho a ha)))) hf).sub rfl
              | (have hn : ¬ bstC T i said m (bst T i said m k).2 k := fun q => absurd q.2.2 (by omega)
                 exact (ih (k + 1) _ _ (by omega) hm (by rw [bst_f hn]; exact x34) (by rw [bst_f hn]; exact x35) (by rw [bst_f hn]; exact x36) ho hf).sub rfl)
              | (have hn : ¬ bstC T i said m (bst T i said m k).2 k := fun q => absurd q.2.1 (by omega)
                 exact (ih (k + 1) _ _ (by omega) hm (by rw [bst_f hn]; exact x34) (by rw [bst_f hn]; exact x35) (by rw [bst_f hn]; exact x36) ho hf).sub rfl)
              | (have hn : ¬ bstC T i said m (bst T i said m k).2 k := fun q => (hx.resolve_left (fun w => absurd w.1 (by omega))).2 (hPS.mpr q.1)
                 exact (ih (k + 1) _ _ (by omega) hm (by rw [bst_f hn]; exact x34) (by rw [bst_f hn]; exact x35) (by rw [bst_f hn]; exact x36) ho hf).sub rfl)
            refine x_aload_n D_6_findBest_146 rfl ?_
            refine x_iload D_6_findBest_147 rfl ?_
            refine x_putI D_6_findBest_149 f_6_207 (md_o hm) (by decide +kernel) rfl (fun h149 e149 n149 => ?_)
            replace hm := md_p34 hm e149 n149
            replace hf := fun q hq => (n149 q (by omega)).trans (hf q hq)
            refine x_aload_n D_6_findBest_152 rfl ?_
            refine x_iload D_6_findBest_153 rfl ?_
            refine x_putI D_6_findBest_155 f_6_210 (md_o hm) (by decide +kernel) rfl (fun h155 e155 n155 => ?_)
            replace hm := md_p35 hm e155 n155
            try simp only [upr, Nat.reduceEqDiff, ↓reduceIte] at hm
            replace hf := fun q hq => (n155 q (by omega)).trans (hf q hq)
            refine x_aload_n D_6_findBest_158 rfl ?_
            refine x_iload D_6_findBest_159 rfl ?_
            refine x_putI D_6_findBest_161 f_6_213 (md_o hm) (by decide +kernel) rfl (fun h161 e161 n161 => ?_)
            replace hm := md_p36 hm e161 n161
            try simp only [upr, Nat.reduceEqDiff, ↓reduceIte] at hm
            replace hf := fun q hq => (n161 q (by omega)).trans (hf q hq)
            refine x_iinc D_6_findBest_164 rfl rfl rfl rfl ?_
            refine x_goto D_6_findBest_167 ?_
            first
            | exact (ih (k + 1) _ _ (by omega) hm (by rw [bst_t ⟨hPS.mp (hx.resolve_right (fun q => c128 q.1)).2, c134, c143⟩]; rfl) (by rw [bst_t ⟨hPS.mp (hx.resolve_right (fun q => c128 q.1)).2, c134, c143⟩]; rfl) (by rw [bst_t ⟨hPS.mp (hx.resolve_right (fun q => c128 q.1)).2, c134, c143⟩]; rfl) (fun a ha => (upr_ne _ _ (by omega)).trans ((upr_ne _ _ (by omega)).trans ((upr_ne _ _ (by omega)).trans (ho a ha)))) hf).sub rfl
            | (have hn : ¬ bstC T i said m (bst T i said m k).2 k := fun q => absurd q.2.2 (by omega)
               exact (ih (k + 1) _ _ (by omega) hm (by rw [bst_f hn]; exact x34) (by rw [bst_f hn]; exact x35) (by rw [bst_f hn]; exact x36) ho hf).sub rfl)
            | (have hn : ¬ bstC T i said m (bst T i said m k).2 k := fun q => absurd q.2.1 (by omega)
               exact (ih (k + 1) _ _ (by omega) hm (by rw [bst_f hn]; exact x34) (by rw [bst_f hn]; exact x35) (by rw [bst_f hn]; exact x36) ho hf).sub rfl)
            | (have hn : ¬ bstC T i said m (bst T i said m k).2 k := fun q => (hx.resolve_left (fun w => absurd w.1 (by omega))).2 (hPS.mpr q.1)
               exact (ih (k + 1) _ _ (by omega) hm (by rw [bst_f hn]; exact x34) (by rw [bst_f hn]; exact x35) (by rw [bst_f hn]; exact x36) ho hf).sub rfl)
          exact absurd c60 (by omega)
        | succ g ihg =>
          intro s x hsg hx
          have hsn : (s : Int) < T 4 0 := by omega
          have k8s := (k8 (s : Int) (by omega) hsn).1
          have hx2 : 0 ≤ x ∧ x ≤ 1 := by rcases hx with q | q <;> omega
          refine x_iload D_6_findBest_54 rfl ?_
          refine x_aload_n D_6_findBest_56 rfl ?_
          refine x_getfield D_6_findBest_57 f_6_118 (md_o hm) rfl ?_
          rw [v2]
          refine x_icmp_ge D_6_findBest_60 ⟨by omega, by omega⟩ ⟨by omega, by omega⟩ (fun c60 => ?_) (fun c60 => ?_)
          · exact absurd c60 (by omega)
          refine x_iload D_6_findBest_63 rfl ?_
          refine x_iload D_6_findBest_65 rfl ?_
          refine x_invS2 (d' := d - 1) D_6_findBest_67 l_6_177 mi_6_has (c_6_has (by omega))  rfl (by omega) rfl (fun q => q) rfl rfl (fun r67 h67 q67 => ?_)
          obtain ⟨rfl, rfl⟩ := q67
          refine x_if_eqb D_6_findBest_70 (fun c70 => ?_) (fun c70 => ?_)
          · refine x_iinc D_6_findBest_120 rfl rfl rfl rfl ?_
            refine x_goto D_6_findBest_123 ?_
            have hx3 : x = 1 ∧ PS T i (iAnd (k : Int) (iXor of (-1)) = 0) k (s + 1) ∨ x = 0 ∧ ¬ PS T i (iAnd (k : Int) (iXor of (-1)) = 0) k (s + 1) := by
              rw [PS_succ]
              rcases hx with q | q
              · exact Or.inl ⟨q.1, q.2, fun w => absurd w c70⟩
              · exact Or.inr ⟨q.1, fun w => q.2 w.1⟩
            exact (ihg (s + 1) x (by omega) hx3).sub (by simp only [sumSet, if_neg c70, Int.add_zero]; rfl)
          refine x_iload D_6_findBest_73 rfl ?_
          refine x_if_eq D_6_findBest_75 ⟨by omega, by omega⟩ (fun c75 => ?_) (fun c75 => ?_)
          · refine x_iconst D_6_findBest_93 ?_
            refine x_istore D_6_findBest_94 rfl rfl rfl ?_
            refine x_iload D_6_findBest_96 rfl ?_
            refine x_aload_n D_6_findBest_98 rfl ?_
            refine x_getfield D_6_findBest_99 f_6_19 (md_o hm) rfl ?_
            refine x_iload D_6_findBest_102 rfl ?_
            refine x_iaload D_6_findBest_104 (md_a8 hm) (by omega) (by omega) rfl ?_
            rw [v8 _ (by omega) hsn]
            refine x_iadd D_6_findBest_105 ?_
            refine x_istore D_6_findBest_106 rfl rfl rfl ?_
            refine x_iload D_6_findBest_108 rfl ?_
            refine x_aload_n D_6_findBest_110 rfl ?_
            refine x_getfield D_6_findBest_111 f_6_22 (md_o hm) rfl ?_
            refine x_iload D_6_findBest_114 rfl ?_
            refine x_iaload D_6_findBest_116 (md_a9 hm) (by omega) (by omega) rfl ?_
            rw [v9 _ (by omega) hsn]
            refine x_iadd D_6_findBest_117 ?_
            refine x_istore D_6_findBest_118 rfl rfl rfl ?_
            refine x_iinc D_6_findBest_120 rfl rfl rfl rfl ?_
            refine x_goto D_6_findBest_123 ?_
            first
            | (have hx3 : (1 : Int) = 1 ∧ PS T i (iAnd (k : Int) (iXor of (-1)) = 0) k (s + 1) ∨ (1 : Int) = 0 ∧ ¬ PS T i (iAnd (k : Int) (iXor of (-1)) = 0) k (s + 1) := Or.inl ⟨rfl, PS_succ.mpr ⟨(hx.resolve_right (fun q => c75 q.1)).2, fun _ => c86⟩⟩
               exact (ihg (s + 1) 1 (by omega) hx3).sub (by simp only [sumSet, if_pos c70]; rfl))
            | (have hx3 : (0 : Int) = 1 ∧ PS T i (iAnd (k : Int) (iXor of (-1)) = 0) k (s + 1) ∨ (0 : Int) = 0 ∧ ¬ PS T i (iAnd (k : Int) (iXor of (-1)) = 0) k (s + 1) := Or.inr ⟨rfl, fun w => c86 ((PS_succ.mp w).2 c70)⟩
               exact (ihg (s + 1) 0 (by omega) hx3).sub (by simp only [sumSet, if_pos c70]; rfl))
            | (have hx3 : (0 : Int) = 1 ∧ PS T i (iAnd (k : Int) (iXor of (-1)) = 0) k (s + 1) ∨ (0 : Int) = 0 ∧ ¬ PS T i (iAnd (k : Int) (iXor of (-1)) = 0) k (s + 1) := Or.inr ⟨rfl, fun w => (hx.resolve_left (fun q => absurd q.1 (by omega))).2 (PS_succ.mp w).1⟩
               exact (ihg (s + 1) 0 (by omega) hx3).sub (by simp only [sumSet, if_pos c70]; rfl))
          refine x_aload_n D_6_findBest_78 rfl ?_
          refine x_getfield D_6_findBest_79 f_6_16 (md_o hm) rfl ?_
          refine x_iload D_6_findBest_82 rfl ?_
          refine x_iaload D_6_findBest_84 (md_a7 hm) (by omega) (by omega) rfl ?_
          rw [v7 _ (by omega) hsn]
          refine x_iload_n D_6_findBest_85 rfl ?_
          refine x_icmp_ne D_6_findBest_86 ⟨by omega, by omega⟩ ⟨by omega, by omega⟩ (fun c86 => ?_) (fun c86 => ?_)
          · refine x_iconst D_6_findBest_93 ?_
            refine x_istore D_6_findBest_94 rfl rfl rfl ?_
            refine x_iload D_6_findBest_96 rfl ?_
            refine x_aload_n D_6_findBest_98 rfl ?_
            refine x_getfield D_6_findBest_99 f_6_19 (md_o hm) rfl ?_
            refine x_iload D_6_findBest_102 rfl ?_
            refine x_iaload D_6_findBest_104 (md_a8 hm) (by omega) (by omega) rfl ?_
            rw [v8 _ (by omega) hsn]
            refine x_iadd D_6_findBest_105 ?_
            refine x_istore D_6_findBest_106 rfl rfl rfl ?_
            refine x_iload D_6_findBest_108 rfl ?_
            refine x_aload_n D_6_findBest_110 rfl ?_
            refine x_getfield D_6_findBest_111 f_6_22 (md_o hm) rfl ?_
            refine x_iload D_6_findBest_114 rfl ?_
            refine x_iaload D_6_findBest_116 (md_a9 hm) (by omega) (by omega) rfl ?_
            rw [v9 _ (by omega) hsn]
            refine x_iadd D_6_findBest_117 ?_
            refine x_istore D_6_findBest_118 rfl rfl rfl ?_
            refine x_iinc D_6_findBest_120 rfl rfl rfl rfl ?_
            refine x_goto D_6_findBest_123 ?_
            first
            | (have hx3 : (1 : Int) = 1 ∧ PS T i (iAnd (k : Int) (iXor of (-1)) = 0) k (s + 1) ∨ (1 : Int) = 0 ∧ ¬ PS T i (iAnd (k : Int) (iXor of (-1)) = 0) k (s + 1) := Or.inl ⟨rfl, PS_succ.mpr ⟨(hx.resolve_right (fun q => c75 q.1)).2, fun _ => c86⟩⟩
               exact (ihg (s + 1) 1 (by omega) hx3).sub (by simp only [sumSet, if_pos c70]; rfl))
            | (have hx3 : (0 : Int) = 1 ∧ PS T i (iAnd (k : Int) (iXor of (-1)) = 0) k (s + 1) ∨ (0 : Int) = 0 ∧ ¬ PS T i (iAnd (k : Int) (iXor of (-1)) = 0) k (s + 1) := Or.inr ⟨rfl, fun w => c86 ((PS_succ.mp w).2 c70)⟩
               exact (ihg (s + 1) 0 (by omega) hx3).sub (by simp only [sumSet, if_pos c70]; rfl))
            | (have hx3 : (0 : Int) = 1 ∧ PS T i (iAnd (k : Int) (iXor of (-1)) = 0) k (s + 1) ∨ (0 : Int) = 0 ∧ ¬ PS T i (iAnd (k : Int) (iXor of (-1)) = 0) k (s + 1) := Or.inr ⟨rfl, fun w => (hx.resolve_left (fun q => absurd q.1 (by omega))).2 (PS_succ.mp w).1⟩
               exact (ihg (s + 1) 0 (by omega) hx3).sub (by simp only [sumSet, if_pos c70]; rfl))
          refine x_iconst D_6_findBest_89 ?_
          refine x_goto D_6_findBest_90 ?_
          refine x_istore D_6_findBest_94 rfl rfl rfl ?_
          refine x_iload D_6_findBest_96 rfl ?_
          refine x_aload_n D_6_findBest_98 rfl ?_
          refine x_getfield D_6_findBest_99 f_6_19 (md_o hm) rfl ?_
          refine x_iload D_6_findBest_102 rfl ?_
          refine x_iaload D_6_findBest_104 (md_a8 hm) (by omega) (by omega) rfl ?_
          rw [v8 _ (by omega) hsn]
          refine x_iadd D_6_findBest_105 ?_
          refine x_istore D_6_findBest_106 rfl rfl rfl ?_
          refine x_iload D_6_findBest_108 rfl ?_
          refine x_aload_n D_6_findBest_110 rfl ?_
          refine x_getfield D_6_findBest_111 f_6_22 (md_o hm) rfl ?_
          refine x_iload D_6_findBest_114 rfl ?_
          refine x_iaload D_6_findBest_116 (md_a9 hm) (by omega) (by omega) rfl ?_
          rw [v9 _ (by omega) hsn]
          refine x_iadd D_6_findBest_117 ?_
          refine x_istore D_6_findBest_118 rfl rfl rfl ?_
          refine x_iinc D_6_findBest_120 rfl rfl rfl rfl ?_
          refine x_goto D_6_findBest_123 ?_
          first
          | (have hx3 : (1 : Int) = 1 ∧ PS T i (iAnd (k : Int) (iXor of (-1)) = 0) k (s + 1) ∨ (1 : Int) = 0 ∧ ¬ PS T i (iAnd (k : Int) (iXor of (-1)) = 0) k (s + 1) := Or.inl ⟨rfl, PS_succ.mpr ⟨(hx.resolve_right (fun q => c75 q.1)).2, fun _ => c86⟩⟩
             exact (ihg (s + 1) 1 (by omega) hx3).sub (by simp only [sumSet, if_pos c70]; rfl))
          | (have hx3 : (0 : Int) = 1 ∧ PS T i (iAnd (k : Int) (iXor of (-1)) = 0) k (s + 1) ∨ (0 : Int) = 0 ∧ ¬ PS T i (iAnd (k : Int) (iXor of (-1)) = 0) k (s + 1) := Or.inr ⟨rfl, fun w => c86 ((PS_succ.mp w).2 c70)⟩
             exact (ihg (s + 1) 0 (by omega) hx3).sub (by simp only [sumSet, if_pos c70]; rfl))
          | (have hx3 : (0 : Int) = 1 ∧ PS T i (iAnd (k : Int) (iXor of (-1)) = 0) k (s + 1) ∨ (0 : Int) = 0 ∧ ¬ PS T i (iAnd (k : Int) (iXor of (-1)) = 0) k (s + 1) := Or.inr ⟨rfl, fun w => (hx.resolve_left (fun q => absurd q.1 (by omega))).2 (PS_succ.mp w).1⟩
             exact (ihg (s + 1) 0 (by omega) hx3).sub (by simp only [sumSet, if_pos c70]; rfl))
      refine x_iload D_6_findBest_18 rfl ?_
      refine x_iconst D_6_findBest_20 ?_
      refine x_aload_n D_6_findBest_21 rfl ?_
      refine x_getfield D_6_findBest_22 f_6_118 (md_o hm) rfl ?_
      rw [v2]
      refine x_ishl D_6_findBest_25 ?_
      rw [he]
      refine x_icmp_ge D_6_findBest_26 ⟨by omega, by omega⟩ ⟨by omega, by omega⟩ (fun c26 => ?_) (fun c26 => ?_)
      · exact absurd c26 (by omega)
      refine x_iconst D_6_findBest_29 ?_
      refine x_istore D_6_findBest_30 rfl rfl rfl ?_
      refine x_iconst D_6_findBest_32 ?_
      refine x_istore D_6_findBest_33 rfl rfl rfl ?_
      refine x_iload D_6_findBest_35 rfl ?_
      refine x_iload_n D_6_findBest_37 rfl ?_
      refine x_iconst D_6_findBest_38 ?_
      refine x_ixor D_6_findBest_39 ?_
      refine x_iand D_6_findBest_40 ?_
      refine x_if_ne D_6_findBest_41 (iAnd_B3 _ _) (fun c41 => ?_) (fun c41 => ?_)
      · refine x_iconst D_6_findBest_48 ?_
        refine x_istore D_6_findBest_49 rfl rfl rfl ?_
        refine x_iconst D_6_findBest_51 ?_
        refine x_istore D_6_findBest_52 rfl rfl rfl ?_
        first
        | exact (inner (T 4 0).toNat 0 1 (by omega) (Or.inl ⟨rfl, c41, fun j hj => absurd hj (by omega)⟩)).sub rfl
        | exact (inner (T 4 0).toNat 0 0 (by omega) (Or.inr ⟨rfl, fun q => c41 q.1⟩)).sub rfl
      refine x_iconst D_6_findBest_44 ?_
      refine x_goto D_6_findBest_45 ?_
      refine x_istore D_6_findBest_49 rfl rfl rfl ?_
      refine x_iconst D_6_findBest_51 ?_
      refine x_istore D_6_findBest_52 rfl rfl rfl ?_
      first
      | exact (inner (T 4 0).toNat 0 1 (by omega) (Or.inl ⟨rfl, c41, fun j hj => absurd hj (by omega)⟩)).sub rfl
      | exact (inner (T 4 0).toNat 0 0 (by omega) (Or.inr ⟨rfl, fun q => c41 q.1⟩)).sub rfl
  have hf : ∀ q : Nat, (q < 102 ∨ 128 < q) → h q = h q := fun _ _ => rfl
  refine x_aload_n D_6_findBest_0 rfl ?_
  refine x_iconst D_6_findBest_1 ?_
  refine x_putI D_6_findBest_2 f_6_207 (md_o hm) (by decide +kernel) rfl (fun h2 e2 n2 => ?_)
  replace hm := md_p34 hm e2 n2
  replace hf := fun q hq => (n2 q (by omega)).trans (hf q hq)
  refine x_aload_n D_6_findBest_5 rfl ?_
  refine x_iconst D_6_findBest_6 ?_
  refine x_putI D_6_findBest_7 f_6_210 (md_o hm) (by decide +kernel) rfl (fun h7 e7 n7 => ?_)
  replace hm := md_p35 hm e7 n7
  try simp only [upr, Nat.reduceEqDiff, ↓reduceIte] at hm
  replace hf := fun q hq => (n7 q (by omega)).trans (hf q hq)
  refine x_aload_n D_6_findBest_10 rfl ?_
  refine x_iconst D_6_findBest_11 ?_
  refine x_putI D_6_findBest_12 f_6_213 (md_o hm) (by decide +kernel) rfl (fun h12 e12 n12 => ?_)
  replace hm := md_p36 hm e12 n12
  try simp only [upr, Nat.reduceEqDiff, ↓reduceIte] at hm
  replace hf := fun q hq => (n12 q (by omega)).trans (hf q hq)
  refine x_iconst D_6_findBest_15 ?_
  refine x_istore D_6_findBest_16 rfl rfl rfl ?_
  exact (outer (N) 0 _ _ (by omega) hm rfl rfl (by rw [show (bst T i said m 0).1 = 0 from rfl, hs0]; rfl) (fun a ha => (upr_ne _ _ (by omega)).trans ((upr_ne _ _ (by omega)).trans (upr_ne _ _ (by omega)))) hf).sub rfl
end R13
