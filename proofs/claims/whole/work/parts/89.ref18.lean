theorem iAnd_m1r {k : Nat} (hk : k < 256) : iAnd (k : Int) (-1) = (k : Int) := by
  refine tb_ext (iAnd_B3 _ _) ⟨by omega, by omega⟩ fun j hj => ?_
  rw [tb_and, tb_m1 j hj]
  simp
def MtQ (h0 : Hp) (U T : TT) (D : Int → Int) (st : SS) : Option Value → Hp → Prop := fun r h' => r = some (vi (ms T D (st 4) 0 (st 3))) ∧ (∃ W : TT, MdAt h' W ∧ (∀ s : Nat, s < nSa T → W 39 (s : Int) = gOf T D (st 4) (st 3) s) ∧ ∀ a : Nat, a ≠ 37 → a ≠ 39 → W a = U a) ∧ ∀ q : Nat, (q < 102 ∨ 128 < q) → h' q = h0 q
section R18
variable {d : Nat} {z : Nat × Nat} {h : Hp} {T : TT} {st : SS} {D : Int → Int} {Q : Option Value → Hp → Prop} {U : TT} {h0 : Hp}
theorem mt_O (hd : 2 ≤ d) (hm : MdAt h U) (hF : MtF U T D st) (hk : TabOk T) (hf : ∀ q : Nat, (q < 102 ∨ 128 < q) → h q = h0 q) (h37 : ∀ x : Int, 0 ≤ x → x < 256 → U 37 (256 * T 4 0 + x) = 0)
    (K : ∀ (hh : Hp) (V : TT), MdAt hh V → (∀ j : Nat, j ≤ nSa T → ∀ q : Nat, q < 2 ^ nGr T → V 37 (256 * (j : Int) + (q : Int)) = ms T D (st 4) j (q : Int)) → (∀ a : Nat, a ≠ 37 → V a = U a) → (∀ q : Nat, (q < 102 ∨ 128 < q) → hh q = h0 q) → WW d m_6_matches z Q z hh 150 [(0, .ref 102)] []) : WW d m_6_matches z Q z h 31 [(0, .ref 102)] [] := by
  have k2 := hk.2.1
  have k4 := hk.2.2.1
  have hp : 2 ^ nGr T ≤ 256 := pow_le (m := 8) (by unfold nGr; omega)
  have t2 := hF.1.2
  have loop : ∀ (s : Nat) (x : Int) (hh : Hp) (V : TT), x = (s : Int) - 1 → s ≤ nSa T → MdAt hh V → (∀ j : Nat, s ≤ j → j ≤ nSa T → ∀ q : Nat, q < 2 ^ nGr T → V 37 (256 * (j : Int) + (q : Int)) = ms T D (st 4) j (q : Int)) → (∀ a : Nat, a ≠ 37 → V a = U a) → (∀ q : Nat, (q < 102 ∨ 128 < q) → hh q = h0 q) → WW d m_6_matches z Q z hh 38 [(0, .ref 102), (1, vi x)] [] := by
    intro s
    induction s with
    | zero =>
      intro x hh V hx hs hm hM ho hf
      refine x_iload_n D_6_matches_38 rfl ?_
      refine x_if_lt D_6_matches_39 ⟨by omega, by omega⟩ (fun c39 => ?_) (fun c39 => ?_)
      · exact (K hh V hm (fun j j1 => hM j (by omega) j1) ho hf).sub rfl
      exact absurd c39 (by omega)
    | succ s ih =>
      intro x hh V hx hs hm hM ho hf
      obtain rfl : x = (s : Int) := by omega
      have hF1 : MtF V T D st := hF.of (fun a a1 _ => ho a a1)
      have hs4 : (s : Int) < T 4 0 := by unfold nSa at hs; omega
      refine x_iload_n D_6_matches_38 rfl ?_
      refine x_if_lt D_6_matches_39 ⟨by omega, by omega⟩ (fun c39 => ?_) (fun c39 => ?_)
      · exact absurd c39 (by omega)
      refine (mt_T hd hm hF1 hk hf hs4 (fun j j1 j2 => hM j (by omega) j2) (fun h2 V2 hm hM2 ho2 hf => ?_)).sub rfl
      refine x_iinc D_6_matches_144 rfl rfl rfl rfl ?_
      refine x_goto D_6_matches_147 ?_
      exact (ih ((s : Int) - 1) h2 V2 rfl (by omega) hm hM2 (fun a a1 => (ho2 a a1).trans (ho a a1)) hf).sub rfl
  have hn : ((nSa T : Nat) : Int) = T 4 0 := by unfold nSa; omega
  refine x_aload_n D_6_matches_31 rfl ?_
  refine x_getfield D_6_matches_32 f_6_118 (md_o hm) rfl ?_
  rw [t2]
  refine x_iconst D_6_matches_35 ?_
  refine x_isub D_6_matches_36 ?_
  refine x_istore_n D_6_matches_37 rfl rfl rfl ?_
  refine (loop (nSa T) (T 4 0 - 1) h U (by omega) (by omega) hm (fun j j1 j2 q hq => ?_) (fun _ _ => rfl) hf).sub rfl
  obtain rfl : j = nSa T := by omega
  rw [hn, ms_end]
  exact h37 (q : Int) (by omega) (by omega)
theorem c_6_matches (hd : 2 ≤ d) (hm : MdAt h U) (hF : MtF U T D st) (hk : TabOk T) {k0 : Nat} (hsh : st 3 = (k0 : Int)) (hk0 : k0 < 2 ^ nGr T) : Ct d m_6_matches [.ref 102] z z h (MtQ h U T D st) := by
  refine Ct.of (by decide) ⟨Nat.le_refl _, Nat.le_refl _⟩ (Nat.le_of_ble_eq_true rfl) ?_
  have k2 := hk.2.1
  have k4 := hk.2.2.1
  have hp : 2 ^ nGr T ≤ 256 := pow_le (m := 8) (by unfold nGr; omega)
  refine (mt_A hm hF hk (fun _ _ => rfl) (fun h1 V1 hm hx1 ho1 hf => ?_)).sub rfl
  refine mt_O hd hm (hF.of (fun a a1 _ => ho1 a a1)) hk hf hx1 (fun h2 V2 hm hM ho2 hf => ?_)
  have ho : ∀ a : Nat, a ≠ 37 → V2 a = U a := fun a a1 => (ho2 a a1).trans (ho1 a a1)
  have hF2 : MtF V2 T D st := hF.of (fun a a1 _ => ho a a1)
  have v13 := hF2.2.2.2.1
  have loop : ∀ (f s : Nat) (hh : Hp) (V : TT), s + f = nSa T → MdAt hh V → (∀ j : Nat, j < s → V 39 (j : Int) = gOf T D (st 4) (st 3) j) → (∀ a : Nat, a ≠ 39 → V a = V2 a) → (∀ q : Nat, (q < 102 ∨ 128 < q) → hh q = h q) →
      WW d m_6_matches z (MtQ h U T D st) z hh 166 [(0, .ref 102), (1, vi (lft T D (st 4) (st 3) s)), (2, vi (ms T D (st 4) 0 (st 3))), (3, vi (s : Int))] [] := by
    intro f
    induction f with
    | zero =>
      intro s hh V hs hm hg hv hf
      have v2 : V 2 0 = T 4 0 := (congrFun (hv 2 (by omega)) 0).trans hF2.1.2
      have hsn : s = nSa T := by omega
      have hn : (s : Int) = T 4 0 := by rw [hsn]; unfold nSa; omega
      refine x_iload_n D_6_matches_166 rfl ?_
      refine x_aload_n D_6_matches_167 rfl ?_
      refine x_getfield D_6_matches_168 f_6_118 (md_o hm) rfl ?_
      rw [v2]
      refine x_icmp_ge D_6_matches_171 ⟨by omega, by omega⟩ ⟨by omega, by omega⟩ (fun c171 => ?_) (fun c171 => ?_)
      · refine x_iload_n D_6_matches_274 rfl ?_
        refine x_ireturn D_6_matches_275 rfl (by first | rfl | exact nb_bi _ | decide +kernel) rfl ?_
        exact ⟨rfl, ⟨V, hm, fun j hj => hg j (by omega), fun a a1 a2 => (hv a a2).trans (ho a a1)⟩, hf⟩
      exact absurd c171 (by omega)
    | succ f ih =>
      intro s hh V hs hm hg hv hf
      have v2 : V 2 0 = T 4 0 := (congrFun (hv 2 (by omega)) 0).trans hF2.1.2
      have v1 : V 1 0 = T 2 0 := (congrFun (hv 1 (by omega)) 0).trans hF2.1.1
      have hF3 : MtF V T D st := hF2.of (fun a _ a2 => hv a a2)
      have hsn : (s : Int) < T 4 0 := by unfold nSa at hs; omega
      obtain ⟨k, hk1, hk2⟩ := lft_nat hk (D := D) (sd := st 4) hk0 s
      rw [← hsh] at hk2
      have hM3 : ∀ j : Nat, j ≤ nSa T → ∀ q : Nat, q < 2 ^ nGr T → V 37 (256 * (j : Int) + (q : Int)) = ms T D (st 4) j (q : Int) := fun j hj q hq => (congrFun (hv 37 (by omega)) _).trans (hM j hj q hq)
      have hMs := hM3 s (by omega) k hk1
      have hM1 : ∀ q : Nat, q < 2 ^ nGr T → V 37 (256 * ((s : Int) + 1) + (q : Int)) = ms T D (st 4) (s + 1) (q : Int) := fun q hq => by
        have := hM3 (s + 1) (by omega) q hq
        rw [show (256 * ((s + 1 : Nat) : Int) + (q : Int)) = 256 * ((s : Int) + 1) + (q : Int) by omega] at this
        exact this
      have hk256 : k < 256 := by omega
      have k8 := hk.2.2.2.2.2.2.2.1 (s : Int) (by omega) hsn
      have hMr := ms_rng hk D (st 4) (s + 1)
      have hMr2 := ms_rng hk D (st 4) s (k : Int)
      have hgo : gOf T D (st 4) (st 3) s = ffd T D (st 4) (s : Int) (ms T D (st 4) (s + 1)) (ms T D (st 4) s (k : Int)) (k : Int) (nGr T) := by
        unfold gOf gAt
        rw [hk2]
      have inner : ∀ (g : Nat) (x : Int), x = (g : Int) - 1 → g ≤ nGr T → WW d m_6_matches z (MtQ h U T D st) z hh 186 [(0, .ref 102), (1, vi (k : Int)), (2, vi (ms T D (st 4) 0 (st 3))), (3, vi (s : Int)), (4, vi (ffd T D (st 4) (s : Int) (ms T D (st 4) (s + 1)) (ms T D (st 4) s (k : Int)) (k : Int) (nGr T - g))), (5, vi x)] [] := by
        intro g
        induction g with
        | zero =>
          intro x hx hg0
          rw [Nat.sub_zero, ← hgo]
          have hgr := gAt_rng T D (st 4) s (lft T D (st 4) (st 3) s)
          have hgr2 : gOf T D (st 4) (st 3) s = -4 ∨ ∃ g : Nat, g < nGr T ∧ gOf T D (st 4) (st 3) s = (g : Int) := by
            rcases hgr with q | ⟨g, q1, q2, -⟩
            · exact Or.inl q
            · exact Or.inr ⟨g, q1, q2⟩
          have hgB : -4 ≤ gOf T D (st 4) (st 3) s ∧ gOf T D (st 4) (st 3) s ≤ 8 := by
            rcases hgr2 with q | ⟨g, q1, q2⟩
            · omega
            · have : g < 8 := by unfold nGr at q1; omega
              omega
          have hfin : ∀ (h5 : Hp) (V5 : TT), MdAt h5 V5 → V5 39 = ups (V 39) (s : Int) (gOf T D (st 4) (st 3) s) → (∀ a : Nat, a ≠ 39 → V5 a = V2 a) → (∀ q : Nat, (q < 102 ∨ 128 < q) → h5 q = h q) → WW d m_6_matches z (MtQ h U T D st) z h5 166 [(0, .ref 102), (1, vi (lft T D (st 4) (st 3) (s + 1))), (2, vi (ms T D (st 4) 0 (st 3))), (3, vi ((s + 1 : Nat) : Int))] [] := by
            intro h5 V5 hm5 h39 hv5 hf5
            refine ih (s + 1) h5 V5 (by omega) hm5 (fun j hj => ?_) hv5 hf5
            rw [h39]
            by_cases e : j = s
            · rw [e, ups_eq]
            · rw [ups_ne _ _ (by omega)]; exact hg j (by omega)
          clear hgr2 ih
          refine x_iload D_6_matches_186 rfl ?_
          refine x_if_lt D_6_matches_188 ⟨by omega, by omega⟩ (fun c188 => ?_) (fun c188 => ?_)
          · refine x_aload_n D_6_matches_240 rfl ?_
            refine x_getfield D_6_matches_241 f_6_76 (md_o hm) rfl ?_
            refine x_iload_n D_6_matches_244 rfl ?_
            refine x_iload D_6_matches_245 rfl ?_
            refine x_iastore D_6_matches_247 (md_a39 hm) (by omega) (by omega) rfl (fun h247 e247 n247 => ?_)
            replace hm := md_s39 hm e247 n247
            replace hf := fun q hq => (n247 q (by omega)).trans (hf q hq)
            refine x_iload_n D_6_matches_248 rfl ?_
            refine x_iload D_6_matches_249 rfl ?_
            refine x_bipush D_6_matches_251 (by decide +kernel) ?_
            refine x_icmp_ne D_6_matches_253 ⟨by omega, by omega⟩ ⟨by omega, by omega⟩ (fun c253 => ?_) (fun c253 => ?_)
            · refine x_iconst D_6_matches_260 ?_
              refine x_iload D_6_matches_261 rfl ?_
              refine x_ishl D_6_matches_263 ?_
              refine x_iconst D_6_matches_264 ?_
              refine x_ixor D_6_matches_265 ?_
              refine x_iand D_6_matches_266 ?_
              refine x_istore_n D_6_matches_267 rfl rfl rfl ?_
              refine x_iinc D_6_matches_268 rfl rfl rfl rfl ?_
              refine x_goto D_6_matches_271 ?_
              first
              | (exact (hfin _ _ hm (upr_eq _ _ _) (fun a a1 => (upr_ne _ _ a1).trans (hv a a1)) hf).sub (by
                  have e : lft T D (st 4) (st 3) (s + 1) = iAnd (k : Int) (-1) := by
                    show (if gOf T D (st 4) (st 3) s = -4 then lft T D (st 4) (st 3) s else _) = _
                    rw [if_pos c253, hk2, iAnd_m1r hk256]
                  rw [e]; rfl))
              | (exact (hfin _ _ hm (upr_eq _ _ _) (fun a a1 => (upr_ne _ _ a1).trans (hv a a1)) hf).sub (by
                  have e : lft T D (st 4) (st 3) (s + 1) = iAnd (k : Int) (iXor (iShl 1 (gOf T D (st 4) (st 3) s)) (-1)) := by
                    show (if gOf T D (st 4) (st 3) s = -4 then _ else clr (lft T D (st 4) (st 3) s) (gOf T D (st 4) (st 3) s)) = _
                    rw [if_neg c253, hk2]
                    rfl
                  rw [e]; rfl))
            refine x_iconst D_6_matches_256 ?_
            refine x_goto D_6_matches_257 ?_
            refine x_iand D_6_matches_266 ?_
            refine x_istore_n D_6_matches_267 rfl rfl rfl ?_
            refine x_iinc D_6_matches_268 rfl rfl rfl rfl ?_
            refine x_goto D_6_matches_271 ?_
            first
            | (exact (hfin _ _ hm (upr_eq _ _ _) (fun a a1 => (upr_ne _ _ a1).trans (hv a a1)) hf).sub (by
                have e : lft T D (st 4) (st 3) (s + 1) = iAnd (k : Int) (-1) := by
                  show (if gOf T D (st 4) (st 3) s = -4 then lft T D (st 4) (st 3) s else _) = _
                  rw [if_pos c253, hk2, iAnd_m1r hk256]
                rw [e]; rfl))
            | (exact (hfin _ _ hm (upr_eq _ _ _) (fun a a1 => (upr_ne _ _ a1).trans (hv a a1)) hf).sub (by
                have e : lft T D (st 4) (st 3) (s + 1) = iAnd (k : Int) (iXor (iShl 1 (gOf T D (st 4) (st 3) s)) (-1)) := by
                  show (if gOf T D (st 4) (st 3) s = -4 then _ else clr (lft T D (st 4) (st 3) s) (gOf T D (st 4) (st 3) s)) = _
                  rw [if_neg c253, hk2]
                  rfl
                rw [e]; rfl))
          exact absurd c188 (by omega)
        | succ g ihg =>
          intro x hx hg0
          obtain rfl : x = (g : Int) := by omega
          have hgn : (g : Int) < T 2 0 := by unfold nGr at hg0; omega
          have hr2 := hMr (clr (k : Int) (g : Int))
          have e1 : nGr T - g = nGr T - (g + 1) + 1 := by omega
          refine x_iload D_6_matches_186 rfl ?_
          refine x_if_lt D_6_matches_188 ⟨by omega, by omega⟩ (fun c188 => ?_) (fun c188 => ?_)
          · exact absurd c188 (by omega)
          refine x_aload_n D_6_matches_191 rfl ?_
          refine x_iload_n D_6_matches_192 rfl ?_
          refine x_iload D_6_matches_193 rfl ?_
          refine x_iload_n D_6_matches_195 rfl ?_
          refine x_invV (d' := d - 1) D_6_matches_196 l_6_223 mi_6_mayGive (c_6_mayGive (by omega) hm hF3 hk ⟨by omega, hsn⟩ ⟨by omega, hgn⟩) (md_o hm) rfl rfl (by omega) rfl (fun q => q) rfl rfl (fun r196 h196 q196 => ?_)
          obtain ⟨rfl, rfl⟩ := q196
          refine x_if_eqb D_6_matches_199 (fun c199 => ?_) (fun c199 => ?_)
          · refine x_iload D_6_matches_230 rfl ?_
            refine x_istore D_6_matches_232 rfl rfl rfl ?_
            refine x_iinc D_6_matches_234 rfl rfl rfl rfl ?_
            refine x_goto D_6_matches_237 ?_
            first
            | exact (ihg ((g : Int) - 1) rfl (by omega)).sub (by rw [e1, ffd_t (g := g) (by omega) ⟨c199, c222⟩]; rfl)
            | exact (ihg ((g : Int) - 1) rfl (by omega)).sub (by rw [e1, ffd_f (g := g) (by omega) (fun q => c222 q.2)]; rfl)
            | exact (ihg ((g : Int) - 1) rfl (by omega)).sub (by rw [e1, ffd_f (g := g) (by omega) (fun q => c199 q.1)]; rfl)
          refine x_aload_n D_6_matches_202 rfl ?_
          refine x_iload_n D_6_matches_203 rfl ?_
          refine x_iload D_6_matches_204 rfl ?_
          refine x_iload_n D_6_matches_206 rfl ?_
          refine x_invV (d' := d - 1) D_6_matches_207 l_6_226 mi_6_givenBy (c_6_givenBy (by omega) hm hF3 hk hsn ⟨by omega, hgn⟩ hk1 hM1) (md_o hm) rfl rfl (by omega) rfl (fun q => q) rfl rfl (fun r207 h207 q207 => ?_)
          obtain ⟨rfl, rfl⟩ := q207
          refine x_aload_n D_6_matches_210 rfl ?_
          refine x_getfield D_6_matches_211 f_6_70 (md_o hm) rfl ?_
          refine x_sipush D_6_matches_214 (by decide +kernel) ?_
          refine x_iload_n D_6_matches_217 rfl ?_
          refine x_imul D_6_matches_218 ?_
          refine x_iload_n D_6_matches_219 rfl ?_
          refine x_iadd D_6_matches_220 ?_
          refine x_iaload D_6_matches_221 (md_a37 hm) (by omega) (by omega) rfl ?_
          rw [hMs]
          refine x_icmp_ne D_6_matches_222 ⟨by omega, by omega⟩ ⟨by omega, by omega⟩ (fun c222 => ?_) (fun c222 => ?_)
          · refine x_iload D_6_matches_230 rfl ?_
            refine x_istore D_6_matches_232 rfl rfl rfl ?_
            refine x_iinc D_6_matches_234 rfl rfl rfl rfl ?_
            refine x_goto D_6_matches_237 ?_
            first
            | exact (ihg ((g : Int) - 1) rfl (by omega)).sub (by rw [e1, ffd_t (g := g) (by omega) ⟨c199, c222⟩]; rfl)
            | exact (ihg ((g : Int) - 1) rfl (by omega)).sub (by rw [e1, ffd_f (g := g) (by omega) (fun q => c222 q.2)]; rfl)
            | exact (ihg ((g : Int) - 1) rfl (by omega)).sub (by rw [e1, ffd_f (g := g) (by omega) (fun q => c199 q.1)]; rfl)
          refine x_iload D_6_matches_225 rfl ?_
          refine x_goto D_6_matches_227 ?_
          refine x_istore D_6_matches_232 rfl rfl rfl ?_
          refine x_iinc D_6_matches_234 rfl rfl rfl rfl ?_
          refine x_goto D_6_matches_237 ?_
          first
          | exact (ihg ((g : Int) - 1) rfl (by omega)).sub (by rw [e1, ffd_t (g := g) (by omega) ⟨c199, c222⟩]; rfl)
          | exact (ihg ((g : Int) - 1) rfl (by omega)).sub (by rw [e1, ffd_f (g := g) (by omega) (fun q => c222 q.2)]; rfl)
          | exact (ihg ((g : Int) - 1) rfl (by omega)).sub (by rw [e1, ffd_f (g := g) (by omega) (fun q => c199 q.1)]; rfl)
      rw [hk2]
      have hgn2 : ((nGr T : Nat) : Int) = T 2 0 := by unfold nGr; omega
      refine x_iload_n D_6_matches_166 rfl ?_
      refine x_aload_n D_6_matches_167 rfl ?_
      refine x_getfield D_6_matches_168 f_6_118 (md_o hm) rfl ?_
      rw [v2]
      refine x_icmp_ge D_6_matches_171 ⟨by omega, by omega⟩ ⟨by omega, by omega⟩ (fun c171 => ?_) (fun c171 => ?_)
      · exact absurd c171 (by omega)
      refine x_bipush D_6_matches_174 (by decide +kernel) ?_
      refine x_istore D_6_matches_176 rfl rfl rfl ?_
      refine x_aload_n D_6_matches_178 rfl ?_
      refine x_getfield D_6_matches_179 f_6_115 (md_o hm) rfl ?_
      rw [v1]
      refine x_iconst D_6_matches_182 ?_
      refine x_isub D_6_matches_183 ?_
      refine x_istore D_6_matches_184 rfl rfl rfl ?_
      exact (inner (nGr T) (T 2 0 - 1) (by omega) (Nat.le_refl _)).sub (by rw [Nat.sub_self]; rfl)
  have hm0 := hM 0 (by omega) k0 hk0
  have hk256 : k0 < 256 := by omega
  rw [show (256 * ((0 : Nat) : Int) + (k0 : Int)) = (k0 : Int) by omega] at hm0
  refine x_aload_n D_6_matches_150 rfl ?_
  refine x_getfield D_6_matches_151 f_6_34 (md_o hm) rfl ?_
  refine x_iconst D_6_matches_154 ?_
  refine x_iaload D_6_matches_155 (md_a13 hm) (by omega) (by omega) rfl ?_
  rw [v13, hsh]
  refine x_istore_n D_6_matches_156 rfl rfl rfl ?_
  refine x_aload_n D_6_matches_157 rfl ?_
  refine x_getfield D_6_matches_158 f_6_70 (md_o hm) rfl ?_
  refine x_iload_n D_6_matches_161 rfl ?_
  refine x_iaload D_6_matches_162 (md_a37 hm) (by omega) (by omega) rfl ?_
  rw [hm0]
  refine x_istore_n D_6_matches_163 rfl rfl rfl ?_
  refine x_iconst D_6_matches_164 ?_
  refine x_istore_n D_6_matches_165 rfl rfl rfl ?_
  exact (loop (nSa T) 0 h2 V2 (by omega) hm (fun j hj => absurd hj (by omega)) (fun _ _ => rfl) hf).sub (by rw [hsh]; rfl)
end R18
