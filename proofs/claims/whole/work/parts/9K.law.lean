/-! the law -/
def mL (nm : String) : Mt := (⟨"WhileSaltMeltsLaw", nm, "([I)Z"⟩, code, 4, some .boolean)
section XM
variable {X : Cx} {L0 : Nat} {xs : Nat → Int32} {d : Nat} {nm : String} {zf : Nat × Nat} {Q : Option Value → Hp → Prop} {z : Nat × Nat} {h : Hp} {k : Nat} {len : Int} {Bt : Int → Int} {T : TT} {st : SS} {u : Nat} {un : Nat → SS} {kc : Nat} {ke : Nat → SS}
theorem CInv.after {h1 : Hp} {b : Int} (hI : CInv h b len Bt T st u un kc ke) (n : ∀ q : Nat, (q < 102 ∨ 128 < q) → h1 q = h q) : CInv h1 b len Bt T st u un kc ke := by
  obtain ⟨lt, dt, E, bf, B, K, hP, hE, hrest⟩ := hI
  obtain ⟨hM, hId, hX, hT, hB, hK, hSc⟩ := hP
  obtain ⟨hR0, ⟨T2, y2⟩, ⟨E2, y3⟩, ⟨gv, Go, y4⟩, ⟨m, S, g2, Fi, Me, En, y5⟩⟩ := hSc
  have hId0 := hId
  unfold Ids at hId
  exact ⟨lt, dt, E, bf, B, K, ⟨(n 1 (by omega)).trans hM, hId0, (n 2 (by omega)).trans hX, hT.kept (fun q q1 q2 => n q (by omega)), hB.kept (fun q hq => n q (by omega)), hK.kept (fun q hq => n q (by omega)), ⟨hR0.kept (fun q hq => n q (by omega)), ⟨T2, y2.kept (fun q q1 q2 => n q (by omega))⟩, ⟨E2, y3.kept (fun q q1 q2 => n q (by omega))⟩, ⟨gv, Go, y4.kept (fun q q1 q2 => n q (by omega))⟩, ⟨m, S, g2, Fi, Me, En, y5.kept (fun q q1 q2 => n q (by omega))⟩⟩⟩, hE.kept (fun q q1 q2 => n q (by omega)), hrest⟩
theorem RInv.after {h1 : Hp} (hI : RInv h len Bt T st u un kc ke) (n : ∀ q : Nat, (q = 0 ∨ 101 < q) → h1 q = h q) : RInv h1 len Bt T st u un kc ke := by
  obtain ⟨U, hm, hF⟩ := hI
  exact ⟨U, hm.kept (fun q q1 q2 => n q (by omega)), hF⟩
theorem CInv.at1 {b : Int} (hI : CInv h b len Bt T st u un kc ke) : ∃ fs : List Value, h 1 = some (ob 5 fs) := by
  obtain ⟨lt, dt, E, bf, B, K, hP, -⟩ := hI
  exact ⟨_, hP.1⟩
theorem RInv.at1 (hI : RInv h len Bt T st u un kc ke) : ∃ fs : List Value, h 102 = some (ob 6 fs) := by
  obtain ⟨U, hm, -⟩ := hI
  exact ⟨_, md_o hm⟩
/-- the loop goes on behind a call that both answered alike -/
abbrev NX (X : Cx) (L0 : Nat) (xs : Nat → Int32) (d : Nat) (nm : String) (zf : Nat × Nat) (Q : Option Value → Hp → Prop) (z : Nat × Nat) (k : Nat) : Prop := ∀ (h : Hp) (len : Int) (Bt : Int → Int) (T : TT) (st : SS) (u : Nat) (un : Nat → SS) (kc : Nat) (ke : Nat → SS), CInv h (1000 * (k : Int) + 1000) len Bt T st u un kc ke → RInv h len Bt T st u un kc ke → WX X L0 xs d (mL nm) zf Q z h 722 [(0, .ref 0), (1, .ref 1), (2, .ref 102), (3, vi ((4 * k : Nat) : Int))] []
theorem law_0 (hd : 20 ≤ d) (hL : L0 ≤ 2048) (hk : 4 * k + 4 ≤ L0) (hC : CInv h (1000 * (k : Int)) len Bt T st u un kc ke) (hR : RInv h len Bt T st u un kc ke) (nx : NX X L0 xs d nm zf Q z k) : WX X L0 xs d (mL nm) zf Q z h 136 [(0, .ref 0), (1, .ref 1), (2, .ref 102), (3, vi ((4 * k : Nat) : Int))] [] := by
  have hG := hC.glob (by omega)
  obtain ⟨fs1, ho1⟩ := hC.at1
  refine y_aload_n D_L_law_136 rfl ?_
  refine y_aload_n D_L_law_137 rfl ?_
  refine y_iload_n D_L_law_138 rfl ?_
  refine y_iconst D_L_law_139 ?_
  refine y_iadd D_L_law_140 ?_
  refine y_sload D_L_law_141 (by omega) (by omega) hL ?_
  refine y_aload_n D_L_law_142 rfl ?_
  refine y_iload_n D_L_law_143 rfl ?_
  refine y_iconst D_L_law_144 ?_
  refine y_iadd D_L_law_145 ?_
  refine y_sload D_L_law_146 (by omega) (by omega) hL ?_
  refine y_i2lr D_L_law_147 ?_
  refine y_bipush D_L_law_148 (by decide +kernel) ?_
  refine y_lshl D_L_law_150 ?_
  refine y_aload_n D_L_law_151 rfl ?_
  refine y_iload_n D_L_law_152 rfl ?_
  refine y_iconst D_L_law_153 ?_
  refine y_iadd D_L_law_154 ?_
  refine y_sload D_L_law_155 (by omega) (by omega) hL ?_
  refine y_i2lr D_L_law_156 ?_
  refine y_ldc2 (n := 4294967295) D_L_law_157 k_L_13 ?_
  refine y_land D_L_law_160 ?_
  refine y_lor D_L_law_161 ?_
  refine y_invV (d' := d - 1) D_L_law_162 l_L_15 mi_5_write (c_5_write (by omega) hC (by omega) (B3_toInt _)) (ho1) rfl rfl (by omega) rfl (fun q => q) rfl rfl (fun r162 h162 q162 => ?_)
  obtain ⟨rfl, hC2, n1⟩ := q162
  have hR2 := hR.after n1
  obtain ⟨fs2, ho2⟩ := hR2.at1
  refine y_aload_n D_L_law_165 rfl ?_
  refine y_aload_n D_L_law_166 rfl ?_
  refine y_iload_n D_L_law_167 rfl ?_
  refine y_iconst D_L_law_168 ?_
  refine y_iadd D_L_law_169 ?_
  refine y_sload D_L_law_170 (by omega) (by omega) hL ?_
  refine y_aload_n D_L_law_171 rfl ?_
  refine y_iload_n D_L_law_172 rfl ?_
  refine y_iconst D_L_law_173 ?_
  refine y_iadd D_L_law_174 ?_
  refine y_sload D_L_law_175 (by omega) (by omega) hL ?_
  refine y_i2lr D_L_law_176 ?_
  refine y_bipush D_L_law_177 (by decide +kernel) ?_
  refine y_lshl D_L_law_179 ?_
  refine y_aload_n D_L_law_180 rfl ?_
  refine y_iload_n D_L_law_181 rfl ?_
  refine y_iconst D_L_law_182 ?_
  refine y_iadd D_L_law_183 ?_
  refine y_sload D_L_law_184 (by omega) (by omega) hL ?_
  refine y_i2lr D_L_law_185 ?_
  refine y_ldc2 (n := 4294967295) D_L_law_186 k_L_13 ?_
  refine y_land D_L_law_189 ?_
  refine y_lor D_L_law_190 ?_
  refine y_invV (d' := d - 1) D_L_law_191 l_L_19 mi_6_write (r_write (by omega) hR2 hG (B3_toInt _)) (ho2) rfl rfl (by omega) rfl (fun q => q) rfl rfl (fun r191 h191 q191 => ?_)
  obtain ⟨rfl, hR3, n2⟩ := q191
  have hC3 := hC2.after n2
  refine y_icmp_same D_L_law_194 ?_
  exact (nx _ _ _ _ _ _ _ _ _ hC3 hR3).sub rfl
theorem law_1 (hd : 20 ≤ d) (hL : L0 ≤ 2048) (hk : 4 * k + 4 ≤ L0) (hC : CInv h (1000 * (k : Int)) len Bt T st u un kc ke) (hR : RInv h len Bt T st u un kc ke) (nx : NX X L0 xs d nm zf Q z k) : WX X L0 xs d (mL nm) zf Q z h 199 [(0, .ref 0), (1, .ref 1), (2, .ref 102), (3, vi ((4 * k : Nat) : Int))] [] := by
  have hG := hC.glob (by omega)
  obtain ⟨fs1, ho1⟩ := hC.at1
  refine y_aload_n D_L_law_199 rfl ?_
  refine y_invV (d' := d - 1) D_L_law_200 l_L_20 mi_5_wipe (c_5_wipe (by omega) hC (by omega)) (ho1) rfl rfl (by omega) rfl (fun q => q) rfl rfl (fun r200 h200 q200 => ?_)
  obtain ⟨rfl, hC2, n1⟩ := q200
  have hR2 := hR.after n1
  obtain ⟨fs2, ho2⟩ := hR2.at1
  refine y_aload_n D_L_law_203 rfl ?_
  refine y_invV (d' := d - 1) D_L_law_204 l_L_24 mi_6_wipe (r_wipe (by omega) hR2 hG) (ho2) rfl rfl (by omega) rfl (fun q => q) rfl rfl (fun r204 h204 q204 => ?_)
  obtain ⟨rfl, hR3, n2⟩ := q204
  have hC3 := hC2.after n2
  refine y_icmp_same D_L_law_207 ?_
  exact (nx _ _ _ _ _ _ _ _ _ hC3 hR3).sub rfl
theorem law_2 (hd : 20 ≤ d) (hL : L0 ≤ 2048) (hk : 4 * k + 4 ≤ L0) (hC : CInv h (1000 * (k : Int)) len Bt T st u un kc ke) (hR : RInv h len Bt T st u un kc ke) (nx : NX X L0 xs d nm zf Q z k) : WX X L0 xs d (mL nm) zf Q z h 212 [(0, .ref 0), (1, .ref 1), (2, .ref 102), (3, vi ((4 * k : Nat) : Int))] [] := by
  have hG := hC.glob (by omega)
  obtain ⟨fs1, ho1⟩ := hC.at1
  refine y_aload_n D_L_law_212 rfl ?_
  refine y_invV (d' := d - 1) D_L_law_213 l_L_25 mi_5_fault (c_5_fault (by omega) hC (by omega)) (ho1) rfl rfl (by omega) rfl (fun q => q) rfl rfl (fun r213 h213 q213 => ?_)
  obtain ⟨f, T0, hT0, rfl, hC2, n1⟩ := q213
  have hR2 := hR.after n1
  obtain ⟨fs2, ho2⟩ := hR2.at1
  refine y_aload_n D_L_law_216 rfl ?_
  refine y_invV (d' := d - 1) D_L_law_217 l_L_28 mi_6_fault (r_fault (by omega) hR2 hG) (ho2) rfl rfl (by omega) rfl (fun q => q) rfl rfl (fun r217 h217 q217 => ?_)
  obtain ⟨f2, T2, hT2, rfl, hR3, n2⟩ := q217
  obtain ⟨rfl, rfl⟩ := told_fun hT0 hT2
  have hC3 := hC2.after n2
  refine y_icmp_same D_L_law_220 ?_
  exact (nx _ _ _ _ _ _ _ _ _ hC3 hR3).sub rfl
theorem law_3 (hd : 20 ≤ d) (hL : L0 ≤ 2048) (hk : 4 * k + 4 ≤ L0) (hC : CInv h (1000 * (k : Int)) len Bt T st u un kc ke) (hR : RInv h len Bt T st u un kc ke) (nx : NX X L0 xs d nm zf Q z k) : WX X L0 xs d (mL nm) zf Q z h 225 [(0, .ref 0), (1, .ref 1), (2, .ref 102), (3, vi ((4 * k : Nat) : Int))] [] := by
  have hG := hC.glob (by omega)
  obtain ⟨fs1, ho1⟩ := hC.at1
  have layA : ∀ (h1 : Hp) (f : Int) (T0 T' : TT), Told Bt len f T0 → layC f T0 → AgT T0 T' → CInv h1 (1000 * (k : Int) + 1000) len Bt T' (layS T') 0 un 0 ke → RInv h1 len Bt T st u un kc ke → WX X L0 xs d (mL nm) zf Q z h1 229 [(0, .ref 0), (1, .ref 1), (2, .ref 102), (3, vi ((4 * k : Nat) : Int))] [vi (T0 0 0)] := by
    intro h1 f T0 T' hTo hlc hag hC2 hR2
    obtain ⟨fs2, ho2⟩ := hR2.at1
    refine y_aload_n D_L_law_229 rfl ?_
    refine y_invV (d' := d - 1) D_L_law_230 l_L_32 mi_6_lay (r_lay (by omega) hR2 hG) (ho2) rfl rfl (by omega) rfl (fun q => q) rfl rfl (fun r230 h230 q230 => ?_)
    obtain ⟨f2, T2, hT2, hcs⟩ := q230
    obtain ⟨rfl, rfl⟩ := told_fun hTo hT2
    obtain ⟨rfl, hR3, n2⟩ := (hcs.resolve_right (fun w => w.1 hlc)).2 T' hag
    have hC3 := hC2.after n2
    refine y_icmp_same D_L_law_233 ?_
    exact (nx _ _ _ _ _ _ _ _ _ hC3 hR3).sub rfl
  have layB : ∀ (h1 : Hp) (f : Int) (T0 : TT), Told Bt len f T0 → ¬ layC f T0 → CInv h1 (1000 * (k : Int) + 1000) len Bt T st u un kc ke → RInv h1 len Bt T st u un kc ke → WX X L0 xs d (mL nm) zf Q z h1 229 [(0, .ref 0), (1, .ref 1), (2, .ref 102), (3, vi ((4 * k : Nat) : Int))] [vi (-2)] := by
    intro h1 f T0 hTo hlc hC2 hR2
    obtain ⟨fs2, ho2⟩ := hR2.at1
    refine y_aload_n D_L_law_229 rfl ?_
    refine y_invV (d' := d - 1) D_L_law_230 l_L_32 mi_6_lay (r_lay (by omega) hR2 hG) (ho2) rfl rfl (by omega) rfl (fun q => q) rfl rfl (fun r230 h230 q230 => ?_)
    obtain ⟨f2, T2, hT2, hcs⟩ := q230
    obtain ⟨rfl, rfl⟩ := told_fun hTo hT2
    obtain ⟨rfl, hR3, n2⟩ := (hcs.resolve_left (fun w => hlc w.1)).2
    have hC3 := hC2.after n2
    refine y_icmp_same D_L_law_233 ?_
    exact (nx _ _ _ _ _ _ _ _ _ hC3 hR3).sub rfl
  refine y_aload_n D_L_law_225 rfl ?_
  refine y_invV (d' := d - 1) D_L_law_226 l_L_29 mi_5_lay (c_5_lay (by omega) hC (by omega)) (ho1) rfl rfl (by omega) rfl (fun q => q) rfl rfl (fun r226 h226 q226 => ?_)
  obtain ⟨f, T0, hTo, hcs⟩ := q226
  rcases hcs with ⟨hlc, T', hag, rfl, hC2, n1⟩ | ⟨hlc, rfl, hC2, n1⟩
  · exact (layA _ f T0 T' hTo hlc hag hC2 (hR.after n1)).sub rfl
  · exact (layB _ f T0 hTo hlc hC2 (hR.after n1)).sub rfl
theorem law_4 (hd : 20 ≤ d) (hL : L0 ≤ 2048) (hk : 4 * k + 4 ≤ L0) (hC : CInv h (1000 * (k : Int)) len Bt T st u un kc ke) (hR : RInv h len Bt T st u un kc ke) (nx : NX X L0 xs d nm zf Q z k) : WX X L0 xs d (mL nm) zf Q z h 238 [(0, .ref 0), (1, .ref 1), (2, .ref 102), (3, vi ((4 * k : Nat) : Int))] [] := by
  have hG := hC.glob (by omega)
  obtain ⟨fs1, ho1⟩ := hC.at1
  refine y_aload_n D_L_law_238 rfl ?_
  refine y_aload_n D_L_law_239 rfl ?_
  refine y_iload_n D_L_law_240 rfl ?_
  refine y_iconst D_L_law_241 ?_
  refine y_iadd D_L_law_242 ?_
  refine y_sload D_L_law_243 (by omega) (by omega) hL ?_
  refine y_aload_n D_L_law_244 rfl ?_
  refine y_iload_n D_L_law_245 rfl ?_
  refine y_iconst D_L_law_246 ?_
  refine y_iadd D_L_law_247 ?_
  refine y_sload D_L_law_248 (by omega) (by omega) hL ?_
  refine y_invV (d' := d - 1) D_L_law_249 l_L_33 mi_5_person (c_5_person (by omega) hC (by omega) (B3_toInt _) (B3_toInt _)) (ho1) rfl rfl (by omega) rfl (fun q => q) rfl rfl (fun r249 h249 q249 => ?_)
  obtain ⟨rfl, hC2, n1⟩ := q249
  have hR2 := hR.after n1
  obtain ⟨fs2, ho2⟩ := hR2.at1
  refine y_aload_n D_L_law_252 rfl ?_
  refine y_aload_n D_L_law_253 rfl ?_
  refine y_iload_n D_L_law_254 rfl ?_
  refine y_iconst D_L_law_255 ?_
  refine y_iadd D_L_law_256 ?_
  refine y_sload D_L_law_257 (by omega) (by omega) hL ?_
  refine y_aload_n D_L_law_258 rfl ?_
  refine y_iload_n D_L_law_259 rfl ?_
  refine y_iconst D_L_law_260 ?_
  refine y_iadd D_L_law_261 ?_
  refine y_sload D_L_law_262 (by omega) (by omega) hL ?_
  refine y_invV (d' := d - 1) D_L_law_263 l_L_37 mi_6_person (r_person (by omega) hR2 hG (B3_toInt _) (B3_toInt _)) (ho2) rfl rfl (by omega) rfl (fun q => q) rfl rfl (fun r263 h263 q263 => ?_)
  obtain ⟨rfl, hR3, n2⟩ := q263
  have hC3 := hC2.after n2
  refine y_icmp_same D_L_law_266 ?_
  exact (nx _ _ _ _ _ _ _ _ _ hC3 hR3).sub rfl
theorem law_5 (hd : 20 ≤ d) (hL : L0 ≤ 2048) (hk : 4 * k + 4 ≤ L0) (hC : CInv h (1000 * (k : Int)) len Bt T st u un kc ke) (hR : RInv h len Bt T st u un kc ke) (nx : NX X L0 xs d nm zf Q z k) : WX X L0 xs d (mL nm) zf Q z h 271 [(0, .ref 0), (1, .ref 1), (2, .ref 102), (3, vi ((4 * k : Nat) : Int))] [] := by
  have hG := hC.glob (by omega)
  obtain ⟨fs1, ho1⟩ := hC.at1
  refine y_aload_n D_L_law_271 rfl ?_
  refine y_aload_n D_L_law_272 rfl ?_
  refine y_iload_n D_L_law_273 rfl ?_
  refine y_iconst D_L_law_274 ?_
  refine y_iadd D_L_law_275 ?_
  refine y_sload D_L_law_276 (by omega) (by omega) hL ?_
  refine y_aload_n D_L_law_277 rfl ?_
  refine y_iload_n D_L_law_278 rfl ?_
  refine y_iconst D_L_law_279 ?_
  refine y_iadd D_L_law_280 ?_
  refine y_sload D_L_law_281 (by omega) (by omega) hL ?_
  refine y_invV (d' := d - 1) D_L_law_282 l_L_38 mi_5_saying (c_5_saying (by omega) hC (by omega) (B3_toInt _) (B3_toInt _)) (ho1) rfl rfl (by omega) rfl (fun q => q) rfl rfl (fun r282 h282 q282 => ?_)
  obtain ⟨rfl, hC2, n1⟩ := q282
  have hR2 := hR.after n1
  obtain ⟨fs2, ho2⟩ := hR2.at1
  refine y_aload_n D_L_law_285 rfl ?_
  refine y_aload_n D_L_law_286 rfl ?_
  refine y_iload_n D_L_law_287 rfl ?_
  refine y_iconst D_L_law_288 ?_
  refine y_iadd D_L_law_289 ?_
  refine y_sload D_L_law_290 (by omega) (by omega) hL ?_
  refine y_aload_n D_L_law_291 rfl ?_
  refine y_iload_n D_L_law_292 rfl ?_
  refine y_iconst D_L_law_293 ?_
  refine y_iadd D_L_law_294 ?_
  refine y_sload D_L_law_295 (by omega) (by omega) hL ?_
  refine y_invV (d' := d - 1) D_L_law_296 l_L_41 mi_6_saying (r_saying (by omega) hR2 hG (B3_toInt _) (B3_toInt _)) (ho2) rfl rfl (by omega) rfl (fun q => q) rfl rfl (fun r296 h296 q296 => ?_)
  obtain ⟨rfl, hR3, n2⟩ := q296
  have hC3 := hC2.after n2
  refine y_icmp_same D_L_law_299 ?_
  exact (nx _ _ _ _ _ _ _ _ _ hC3 hR3).sub rfl
theorem law_6 (hd : 20 ≤ d) (hL : L0 ≤ 2048) (hk : 4 * k + 4 ≤ L0) (hC : CInv h (1000 * (k : Int)) len Bt T st u un kc ke) (hR : RInv h len Bt T st u un kc ke) (nx : NX X L0 xs d nm zf Q z k) : WX X L0 xs d (mL nm) zf Q z h 304 [(0, .ref 0), (1, .ref 1), (2, .ref 102), (3, vi ((4 * k : Nat) : Int))] [] := by
  have hG := hC.glob (by omega)
  obtain ⟨fs1, ho1⟩ := hC.at1
  refine y_aload_n D_L_law_304 rfl ?_
  refine y_aload_n D_L_law_305 rfl ?_
  refine y_iload_n D_L_law_306 rfl ?_
  refine y_iconst D_L_law_307 ?_
  refine y_iadd D_L_law_308 ?_
  refine y_sload D_L_law_309 (by omega) (by omega) hL ?_
  refine y_aload_n D_L_law_310 rfl ?_
  refine y_iload_n D_L_law_311 rfl ?_
  refine y_iconst D_L_law_312 ?_
  refine y_iadd D_L_law_313 ?_
  refine y_sload D_L_law_314 (by omega) (by omega) hL ?_
  refine y_invV (d' := d - 1) D_L_law_315 l_L_42 mi_5_melts (c_5_melts (by omega) hC (by omega) (B3_toInt _) (B3_toInt _)) (ho1) rfl rfl (by omega) rfl (fun q => q) rfl rfl (fun r315 h315 q315 => ?_)
  obtain ⟨rfl, hC2, n1⟩ := q315
  have hR2 := hR.after n1
  obtain ⟨fs2, ho2⟩ := hR2.at1
  refine y_aload_n D_L_law_318 rfl ?_
  refine y_aload_n D_L_law_319 rfl ?_
  refine y_iload_n D_L_law_320 rfl ?_
  refine y_iconst D_L_law_321 ?_
  refine y_iadd D_L_law_322 ?_
  refine y_sload D_L_law_323 (by omega) (by omega) hL ?_
  refine y_aload_n D_L_law_324 rfl ?_
  refine y_iload_n D_L_law_325 rfl ?_
  refine y_iconst D_L_law_326 ?_
  refine y_iadd D_L_law_327 ?_
  refine y_sload D_L_law_328 (by omega) (by omega) hL ?_
  refine y_invV (d' := d - 1) D_L_law_329 l_L_45 mi_6_melts (r_melts (by omega) hR2 hG (B3_toInt _) (B3_toInt _)) (ho2) rfl rfl (by omega) rfl (fun q => q) rfl rfl (fun r329 h329 q329 => ?_)
  obtain ⟨rfl, hR3, n2⟩ := q329
  have hC3 := hC2.after n2
  refine y_icmp_same D_L_law_332 ?_
  exact (nx _ _ _ _ _ _ _ _ _ hC3 hR3).sub rfl
theorem law_7 (hd : 20 ≤ d) (hL : L0 ≤ 2048) (hk : 4 * k + 4 ≤ L0) (hC : CInv h (1000 * (k : Int)) len Bt T st u un kc ke) (hR : RInv h len Bt T st u un kc ke) (nx : NX X L0 xs d nm zf Q z k) : WX X L0 xs d (mL nm) zf Q z h 337 [(0, .ref 0), (1, .ref 1), (2, .ref 102), (3, vi ((4 * k : Nat) : Int))] [] := by
  have hG := hC.glob (by omega)
  obtain ⟨fs1, ho1⟩ := hC.at1
  refine y_aload_n D_L_law_337 rfl ?_
  refine y_aload_n D_L_law_338 rfl ?_
  refine y_iload_n D_L_law_339 rfl ?_
  refine y_iconst D_L_law_340 ?_
  refine y_iadd D_L_law_341 ?_
  refine y_sload D_L_law_342 (by omega) (by omega) hL ?_
  refine y_aload_n D_L_law_343 rfl ?_
  refine y_iload_n D_L_law_344 rfl ?_
  refine y_iconst D_L_law_345 ?_
  refine y_iadd D_L_law_346 ?_
  refine y_sload D_L_law_347 (by omega) (by omega) hL ?_
  refine y_invV (d' := d - 1) D_L_law_348 l_L_46 mi_5_take (c_5_take (by omega) hC (by omega) (B3_toInt _) (B3_toInt _)) (ho1) rfl rfl (by omega) rfl (fun q => q) rfl rfl (fun r348 h348 q348 => ?_)
  obtain ⟨rfl, hC2, n1⟩ := q348
  have hR2 := hR.after n1
  obtain ⟨fs2, ho2⟩ := hR2.at1
  refine y_aload_n D_L_law_351 rfl ?_
  refine y_aload_n D_L_law_352 rfl ?_
  refine y_iload_n D_L_law_353 rfl ?_
  refine y_iconst D_L_law_354 ?_
  refine y_iadd D_L_law_355 ?_
  refine y_sload D_L_law_356 (by omega) (by omega) hL ?_
  refine y_aload_n D_L_law_357 rfl ?_
  refine y_iload_n D_L_law_358 rfl ?_
  refine y_iconst D_L_law_359 ?_
  refine y_iadd D_L_law_360 ?_
  refine y_sload D_L_law_361 (by omega) (by omega) hL ?_
  refine y_invV (d' := d - 1) D_L_law_362 l_L_49 mi_6_take (r_take (by omega) hR2 hG (B3_toInt _) (B3_toInt _)) (ho2) rfl rfl (by omega) rfl (fun q => q) rfl rfl (fun r362 h362 q362 => ?_)
  obtain ⟨rfl, hR3, n2⟩ := q362
  have hC3 := hC2.after n2
  refine y_icmp_same D_L_law_365 ?_
  exact (nx _ _ _ _ _ _ _ _ _ hC3 hR3).sub rfl
theorem law_8 (hd : 20 ≤ d) (hL : L0 ≤ 2048) (hk : 4 * k + 4 ≤ L0) (hC : CInv h (1000 * (k : Int)) len Bt T st u un kc ke) (hR : RInv h len Bt T st u un kc ke) (nx : NX X L0 xs d nm zf Q z k) : WX X L0 xs d (mL nm) zf Q z h 370 [(0, .ref 0), (1, .ref 1), (2, .ref 102), (3, vi ((4 * k : Nat) : Int))] [] := by
  have hG := hC.glob (by omega)
  obtain ⟨fs1, ho1⟩ := hC.at1
  refine y_aload_n D_L_law_370 rfl ?_
  refine y_aload_n D_L_law_371 rfl ?_
  refine y_iload_n D_L_law_372 rfl ?_
  refine y_iconst D_L_law_373 ?_
  refine y_iadd D_L_law_374 ?_
  refine y_sload D_L_law_375 (by omega) (by omega) hL ?_
  refine y_invV (d' := d - 1) D_L_law_376 l_L_50 mi_5_say (c_5_say (by omega) hC (by omega) (B3_toInt _)) (ho1) rfl rfl (by omega) rfl (fun q => q) rfl rfl (fun r376 h376 q376 => ?_)
  obtain ⟨rfl, hC2, n1⟩ := q376
  have hR2 := hR.after n1
  obtain ⟨fs2, ho2⟩ := hR2.at1
  refine y_aload_n D_L_law_379 rfl ?_
  refine y_aload_n D_L_law_380 rfl ?_
  refine y_iload_n D_L_law_381 rfl ?_
  refine y_iconst D_L_law_382 ?_
  refine y_iadd D_L_law_383 ?_
  refine y_sload D_L_law_384 (by omega) (by omega) hL ?_
  refine y_invV (d' := d - 1) D_L_law_385 l_L_54 mi_6_say (r_say (by omega) hR2 hG (B3_toInt _)) (ho2) rfl rfl (by omega) rfl (fun q => q) rfl rfl (fun r385 h385 q385 => ?_)
  obtain ⟨rfl, hR3, n2⟩ := q385
  have hC3 := hC2.after n2
  refine y_icmp_same D_L_law_388 ?_
  exact (nx _ _ _ _ _ _ _ _ _ hC3 hR3).sub rfl
theorem law_9 (hd : 20 ≤ d) (hL : L0 ≤ 2048) (hk : 4 * k + 4 ≤ L0) (hC : CInv h (1000 * (k : Int)) len Bt T st u un kc ke) (hR : RInv h len Bt T st u un kc ke) (nx : NX X L0 xs d nm zf Q z k) : WX X L0 xs d (mL nm) zf Q z h 393 [(0, .ref 0), (1, .ref 1), (2, .ref 102), (3, vi ((4 * k : Nat) : Int))] [] := by
  have hG := hC.glob (by omega)
  obtain ⟨fs1, ho1⟩ := hC.at1
  refine y_aload_n D_L_law_393 rfl ?_
  refine y_aload_n D_L_law_394 rfl ?_
  refine y_iload_n D_L_law_395 rfl ?_
  refine y_iconst D_L_law_396 ?_
  refine y_iadd D_L_law_397 ?_
  refine y_sload D_L_law_398 (by omega) (by omega) hL ?_
  refine y_invV (d' := d - 1) D_L_law_399 l_L_55 mi_5_pass (c_5_pass (by omega) hC (by omega) (B3_toInt _)) (ho1) rfl rfl (by omega) rfl (fun q => q) rfl rfl (fun r399 h399 q399 => ?_)
  obtain ⟨rfl, hC2, n1⟩ := q399
  have hR2 := hR.after n1
  obtain ⟨fs2, ho2⟩ := hR2.at1
  refine y_aload_n D_L_law_402 rfl ?_
  refine y_aload_n D_L_law_403 rfl ?_
  refine y_iload_n D_L_law_404 rfl ?_
  refine y_iconst D_L_law_405 ?_
  refine y_iadd D_L_law_406 ?_
  refine y_sload D_L_law_407 (by omega) (by omega) hL ?_
  refine y_invV (d' := d - 1) D_L_law_408 l_L_58 mi_6_pass (r_pass (by omega) hR2 hG (B3_toInt _)) (ho2) rfl rfl (by omega) rfl (fun q => q) rfl rfl (fun r408 h408 q408 => ?_)
  obtain ⟨rfl, hR3, n2⟩ := q408
  have hC3 := hC2.after n2
  refine y_icmp_same D_L_law_411 ?_
  exact (nx _ _ _ _ _ _ _ _ _ hC3 hR3).sub rfl
theorem law_10 (hd : 20 ≤ d) (hL : L0 ≤ 2048) (hk : 4 * k + 4 ≤ L0) (hC : CInv h (1000 * (k : Int)) len Bt T st u un kc ke) (hR : RInv h len Bt T st u un kc ke) (nx : NX X L0 xs d nm zf Q z k) : WX X L0 xs d (mL nm) zf Q z h 416 [(0, .ref 0), (1, .ref 1), (2, .ref 102), (3, vi ((4 * k : Nat) : Int))] [] := by
  have hG := hC.glob (by omega)
  obtain ⟨fs1, ho1⟩ := hC.at1
  refine y_aload_n D_L_law_416 rfl ?_
  refine y_aload_n D_L_law_417 rfl ?_
  refine y_iload_n D_L_law_418 rfl ?_
  refine y_iconst D_L_law_419 ?_
  refine y_iadd D_L_law_420 ?_
  refine y_sload D_L_law_421 (by omega) (by omega) hL ?_
  refine y_invV (d' := d - 1) D_L_law_422 l_L_59 mi_5_eat (c_5_eat (by omega) hC (by omega) (B3_toInt _)) (ho1) rfl rfl (by omega) rfl (fun q => q) rfl rfl (fun r422 h422 q422 => ?_)
  obtain ⟨rfl, hC2, n1⟩ := q422
  have hR2 := hR.after n1
  obtain ⟨fs2, ho2⟩ := hR2.at1
  refine y_aload_n D_L_law_425 rfl ?_
  refine y_aload_n D_L_law_426 rfl ?_
  refine y_iload_n D_L_law_427 rfl ?_
  refine y_iconst D_L_law_428 ?_
  refine y_iadd D_L_law_429 ?_
  refine y_sload D_L_law_430 (by omega) (by omega) hL ?_
  refine y_invV (d' := d - 1) D_L_law_431 l_L_62 mi_6_eat (r_eat (by omega) hR2 hG (B3_toInt _)) (ho2) rfl rfl (by omega) rfl (fun q => q) rfl rfl (fun r431 h431 q431 => ?_)
  obtain ⟨rfl, hR3, n2⟩ := q431
  have hC3 := hC2.after n2
  refine y_icmp_same D_L_law_434 ?_
  exact (nx _ _ _ _ _ _ _ _ _ hC3 hR3).sub rfl
theorem law_11 (hd : 20 ≤ d) (hL : L0 ≤ 2048) (hk : 4 * k + 4 ≤ L0) (hC : CInv h (1000 * (k : Int)) len Bt T st u un kc ke) (hR : RInv h len Bt T st u un kc ke) (nx : NX X L0 xs d nm zf Q z k) : WX X L0 xs d (mL nm) zf Q z h 439 [(0, .ref 0), (1, .ref 1), (2, .ref 102), (3, vi ((4 * k : Nat) : Int))] [] := by
  have hG := hC.glob (by omega)
  obtain ⟨fs1, ho1⟩ := hC.at1
  refine y_aload_n D_L_law_439 rfl ?_
  refine y_invV (d' := d - 1) D_L_law_440 l_L_63 mi_5_undo (c_5_undo (by omega) hC (by omega)) (ho1) rfl rfl (by omega) rfl (fun q => q) rfl rfl (fun r440 h440 q440 => ?_)
  obtain ⟨rfl, hC2, n1⟩ := q440
  have hR2 := hR.after n1
  obtain ⟨fs2, ho2⟩ := hR2.at1
  refine y_aload_n D_L_law_443 rfl ?_
  refine y_invV (d' := d - 1) D_L_law_444 l_L_66 mi_6_undo (r_undo (by omega) hR2 hG) (ho2) rfl rfl (by omega) rfl (fun q => q) rfl rfl (fun r444 h444 q444 => ?_)
  obtain ⟨rfl, hR3, n2⟩ := q444
  have hC3 := hC2.after n2
  refine y_icmp_same D_L_law_447 ?_
  exact (nx _ _ _ _ _ _ _ _ _ hC3 hR3).sub rfl
theorem law_12 (hd : 20 ≤ d) (hL : L0 ≤ 2048) (hk : 4 * k + 4 ≤ L0) (hC : CInv h (1000 * (k : Int)) len Bt T st u un kc ke) (hR : RInv h len Bt T st u un kc ke) (nx : NX X L0 xs d nm zf Q z k) : WX X L0 xs d (mL nm) zf Q z h 452 [(0, .ref 0), (1, .ref 1), (2, .ref 102), (3, vi ((4 * k : Nat) : Int))] [] := by
  have hG := hC.glob (by omega)
  obtain ⟨fs1, ho1⟩ := hC.at1
  refine y_aload_n D_L_law_452 rfl ?_
  refine y_aload_n D_L_law_453 rfl ?_
  refine y_iload_n D_L_law_454 rfl ?_
  refine y_iconst D_L_law_455 ?_
  refine y_iadd D_L_law_456 ?_
  refine y_sload D_L_law_457 (by omega) (by omega) hL ?_
  refine y_aload_n D_L_law_458 rfl ?_
  refine y_iload_n D_L_law_459 rfl ?_
  refine y_iconst D_L_law_460 ?_
  refine y_iadd D_L_law_461 ?_
  refine y_sload D_L_law_462 (by omega) (by omega) hL ?_
  refine y_aload_n D_L_law_463 rfl ?_
  refine y_iload_n D_L_law_464 rfl ?_
  refine y_iconst D_L_law_465 ?_
  refine y_iadd D_L_law_466 ?_
  refine y_sload D_L_law_467 (by omega) (by omega) hL ?_
  refine y_invV (d' := d - 1) D_L_law_468 l_L_67 mi_5_best (c_5_best (by omega) hC (by omega) (B3_toInt _) (B3_toInt _) (B3_toInt _)) (ho1) rfl rfl (by omega) rfl (fun q => q) rfl rfl (fun r468 h468 q468 => ?_)
  obtain ⟨rfl, hC2, n1⟩ := q468
  have hR2 := hR.after n1
  obtain ⟨fs2, ho2⟩ := hR2.at1
  refine y_aload_n D_L_law_471 rfl ?_
  refine y_aload_n D_L_law_472 rfl ?_
  refine y_iload_n D_L_law_473 rfl ?_
  refine y_iconst D_L_law_474 ?_
  refine y_iadd D_L_law_475 ?_
  refine y_sload D_L_law_476 (by omega) (by omega) hL ?_
  refine y_aload_n D_L_law_477 rfl ?_
  refine y_iload_n D_L_law_478 rfl ?_
  refine y_iconst D_L_law_479 ?_
  refine y_iadd D_L_law_480 ?_
  refine y_sload D_L_law_481 (by omega) (by omega) hL ?_
  refine y_aload_n D_L_law_482 rfl ?_
  refine y_iload_n D_L_law_483 rfl ?_
  refine y_iconst D_L_law_484 ?_
  refine y_iadd D_L_law_485 ?_
  refine y_sload D_L_law_486 (by omega) (by omega) hL ?_
  refine y_invV (d' := d - 1) D_L_law_487 l_L_71 mi_6_best (r_best (by omega) hR2 hG (B3_toInt _) (B3_toInt _) (B3_toInt _)) (ho2) rfl rfl (by omega) rfl (fun q => q) rfl rfl (fun r487 h487 q487 => ?_)
  obtain ⟨rfl, hR3, n2⟩ := q487
  have hC3 := hC2.after n2
  refine y_icmp_same D_L_law_490 ?_
  exact (nx _ _ _ _ _ _ _ _ _ hC3 hR3).sub rfl
theorem law_13 (hd : 20 ≤ d) (hL : L0 ≤ 2048) (hk : 4 * k + 4 ≤ L0) (hC : CInv h (1000 * (k : Int)) len Bt T st u un kc ke) (hR : RInv h len Bt T st u un kc ke) (nx : NX X L0 xs d nm zf Q z k) : WX X L0 xs d (mL nm) zf Q z h 495 [(0, .ref 0), (1, .ref 1), (2, .ref 102), (3, vi ((4 * k : Nat) : Int))] [] := by
  have hG := hC.glob (by omega)
  obtain ⟨fs1, ho1⟩ := hC.at1
  refine y_aload_n D_L_law_495 rfl ?_
  refine y_aload_n D_L_law_496 rfl ?_
  refine y_iload_n D_L_law_497 rfl ?_
  refine y_iconst D_L_law_498 ?_
  refine y_iadd D_L_law_499 ?_
  refine y_sload D_L_law_500 (by omega) (by omega) hL ?_
  refine y_invV (d' := d - 1) D_L_law_501 l_L_72 mi_5_match (c_5_match (by omega) hC (by omega) (B3_toInt _)) (ho1) rfl rfl (by omega) rfl (fun q => q) rfl rfl (fun r501 h501 q501 => ?_)
  obtain ⟨rfl, hC2, n1⟩ := q501
  have hR2 := hR.after n1
  obtain ⟨fs2, ho2⟩ := hR2.at1
  refine y_aload_n D_L_law_504 rfl ?_
  refine y_aload_n D_L_law_505 rfl ?_
  refine y_iload_n D_L_law_506 rfl ?_
  refine y_iconst D_L_law_507 ?_
  refine y_iadd D_L_law_508 ?_
  refine y_sload D_L_law_509 (by omega) (by omega) hL ?_
  refine y_invV (d' := d - 1) D_L_law_510 l_L_75 mi_6_match (r_match (by omega) hR2 hG (B3_toInt _)) (ho2) rfl rfl (by omega) rfl (fun q => q) rfl rfl (fun r510 h510 q510 => ?_)
  obtain ⟨rfl, hR3, n2⟩ := q510
  have hC3 := hC2.after n2
  refine y_icmp_same D_L_law_513 ?_
  exact (nx _ _ _ _ _ _ _ _ _ hC3 hR3).sub rfl
theorem law_14 (hd : 20 ≤ d) (hL : L0 ≤ 2048) (hk : 4 * k + 4 ≤ L0) (hC : CInv h (1000 * (k : Int)) len Bt T st u un kc ke) (hR : RInv h len Bt T st u un kc ke) (nx : NX X L0 xs d nm zf Q z k) : WX X L0 xs d (mL nm) zf Q z h 518 [(0, .ref 0), (1, .ref 1), (2, .ref 102), (3, vi ((4 * k : Nat) : Int))] [] := by
  have hG := hC.glob (by omega)
  obtain ⟨fs1, ho1⟩ := hC.at1
  refine y_aload_n D_L_law_518 rfl ?_
  refine y_aload_n D_L_law_519 rfl ?_
  refine y_iload_n D_L_law_520 rfl ?_
  refine y_iconst D_L_law_521 ?_
  refine y_iadd D_L_law_522 ?_
  refine y_sload D_L_law_523 (by omega) (by omega) hL ?_
  refine y_invV (d' := d - 1) D_L_law_524 l_L_76 mi_5_soonest (c_5_soonest (by omega) hC (by omega) (B3_toInt _)) (ho1) rfl rfl (by omega) rfl (fun q => q) rfl rfl (fun r524 h524 q524 => ?_)
  obtain ⟨rfl, hC2, n1⟩ := q524
  have hR2 := hR.after n1
  obtain ⟨fs2, ho2⟩ := hR2.at1
  refine y_aload_n D_L_law_527 rfl ?_
  refine y_aload_n D_L_law_528 rfl ?_
  refine y_iload_n D_L_law_529 rfl ?_
  refine y_iconst D_L_law_530 ?_
  refine y_iadd D_L_law_531 ?_
  refine y_sload D_L_law_532 (by omega) (by omega) hL ?_
  refine y_invV (d' := d - 1) D_L_law_533 l_L_79 mi_6_soonest (r_soonest (by omega) hR2 hG (B3_toInt _)) (ho2) rfl rfl (by omega) rfl (fun q => q) rfl rfl (fun r533 h533 q533 => ?_)
  obtain ⟨rfl, hR3, n2⟩ := q533
  have hC3 := hC2.after n2
  refine y_icmp_same D_L_law_536 ?_
  exact (nx _ _ _ _ _ _ _ _ _ hC3 hR3).sub rfl
theorem law_15 (hd : 20 ≤ d) (hL : L0 ≤ 2048) (hk : 4 * k + 4 ≤ L0) (hC : CInv h (1000 * (k : Int)) len Bt T st u un kc ke) (hR : RInv h len Bt T st u un kc ke) (nx : NX X L0 xs d nm zf Q z k) : WX X L0 xs d (mL nm) zf Q z h 541 [(0, .ref 0), (1, .ref 1), (2, .ref 102), (3, vi ((4 * k : Nat) : Int))] [] := by
  have hG := hC.glob (by omega)
  obtain ⟨fs1, ho1⟩ := hC.at1
  refine y_aload_n D_L_law_541 rfl ?_
  refine y_invV (d' := d - 1) D_L_law_542 l_L_80 mi_5_late (c_5_late (by omega) hC (by omega)) (ho1) rfl rfl (by omega) rfl (fun q => q) rfl rfl (fun r542 h542 q542 => ?_)
  obtain ⟨rfl, hC2, n1⟩ := q542
  have hR2 := hR.after n1
  obtain ⟨fs2, ho2⟩ := hR2.at1
  refine y_aload_n D_L_law_545 rfl ?_
  refine y_invV (d' := d - 1) D_L_law_546 l_L_83 mi_6_late (r_late (by omega) hR2 hG) (ho2) rfl rfl (by omega) rfl (fun q => q) rfl rfl (fun r546 h546 q546 => ?_)
  obtain ⟨rfl, hR3, n2⟩ := q546
  have hC3 := hC2.after n2
  refine y_icmp_same D_L_law_549 ?_
  exact (nx _ _ _ _ _ _ _ _ _ hC3 hR3).sub rfl
theorem law_16 (hd : 20 ≤ d) (hL : L0 ≤ 2048) (hk : 4 * k + 4 ≤ L0) (hC : CInv h (1000 * (k : Int)) len Bt T st u un kc ke) (hR : RInv h len Bt T st u un kc ke) (nx : NX X L0 xs d nm zf Q z k) : WX X L0 xs d (mL nm) zf Q z h 554 [(0, .ref 0), (1, .ref 1), (2, .ref 102), (3, vi ((4 * k : Nat) : Int))] [] := by
  have hG := hC.glob (by omega)
  obtain ⟨fs1, ho1⟩ := hC.at1
  refine y_aload_n D_L_law_554 rfl ?_
  refine y_aload_n D_L_law_555 rfl ?_
  refine y_iload_n D_L_law_556 rfl ?_
  refine y_iconst D_L_law_557 ?_
  refine y_iadd D_L_law_558 ?_
  refine y_sload D_L_law_559 (by omega) (by omega) hL ?_
  refine y_aload_n D_L_law_560 rfl ?_
  refine y_iload_n D_L_law_561 rfl ?_
  refine y_iconst D_L_law_562 ?_
  refine y_iadd D_L_law_563 ?_
  refine y_sload D_L_law_564 (by omega) (by omega) hL ?_
  refine y_invV (d' := d - 1) D_L_law_565 l_L_84 mi_5_dish (c_5_dish (by omega) hC (by omega) (B3_toInt _) (B3_toInt _)) (ho1) rfl rfl (by omega) rfl (fun q => q) rfl rfl (fun r565 h565 q565 => ?_)
  obtain ⟨rfl, hC2, n1⟩ := q565
  have hR2 := hR.after n1
  obtain ⟨fs2, ho2⟩ := hR2.at1
  refine y_aload_n D_L_law_568 rfl ?_
  refine y_aload_n D_L_law_569 rfl ?_
  refine y_iload_n D_L_law_570 rfl ?_
  refine y_iconst D_L_law_571 ?_
  refine y_iadd D_L_law_572 ?_
  refine y_sload D_L_law_573 (by omega) (by omega) hL ?_
  refine y_aload_n D_L_law_574 rfl ?_
  refine y_iload_n D_L_law_575 rfl ?_
  refine y_iconst D_L_law_576 ?_
  refine y_iadd D_L_law_577 ?_
  refine y_sload D_L_law_578 (by omega) (by omega) hL ?_
  refine y_invV (d' := d - 1) D_L_law_579 l_L_87 mi_6_dish (r_dish (by omega) hR2 hG (B3_toInt _) (B3_toInt _)) (ho2) rfl rfl (by omega) rfl (fun q => q) rfl rfl (fun r579 h579 q579 => ?_)
  obtain ⟨rfl, hR3, n2⟩ := q579
  have hC3 := hC2.after n2
  refine y_icmp_same D_L_law_582 ?_
  exact (nx _ _ _ _ _ _ _ _ _ hC3 hR3).sub rfl
theorem law_17 (hd : 20 ≤ d) (hL : L0 ≤ 2048) (hk : 4 * k + 4 ≤ L0) (hC : CInv h (1000 * (k : Int)) len Bt T st u un kc ke) (hR : RInv h len Bt T st u un kc ke) (nx : NX X L0 xs d nm zf Q z k) : WX X L0 xs d (mL nm) zf Q z h 587 [(0, .ref 0), (1, .ref 1), (2, .ref 102), (3, vi ((4 * k : Nat) : Int))] [] := by
  have hG := hC.glob (by omega)
  obtain ⟨fs1, ho1⟩ := hC.at1
  refine y_aload_n D_L_law_587 rfl ?_
  refine y_aload_n D_L_law_588 rfl ?_
  refine y_iload_n D_L_law_589 rfl ?_
  refine y_iconst D_L_law_590 ?_
  refine y_iadd D_L_law_591 ?_
  refine y_sload D_L_law_592 (by omega) (by omega) hL ?_
  refine y_aload_n D_L_law_593 rfl ?_
  refine y_iload_n D_L_law_594 rfl ?_
  refine y_iconst D_L_law_595 ?_
  refine y_iadd D_L_law_596 ?_
  refine y_sload D_L_law_597 (by omega) (by omega) hL ?_
  refine y_aload_n D_L_law_598 rfl ?_
  refine y_iload_n D_L_law_599 rfl ?_
  refine y_iconst D_L_law_600 ?_
  refine y_iadd D_L_law_601 ?_
  refine y_sload D_L_law_602 (by omega) (by omega) hL ?_
  refine y_invV (d' := d - 1) D_L_law_603 l_L_88 mi_5_spoke (c_5_spoke (by omega) hC (by omega) (B3_toInt _) (B3_toInt _) (B3_toInt _)) (ho1) rfl rfl (by omega) rfl (fun q => q) rfl rfl (fun r603 h603 q603 => ?_)
  obtain ⟨rfl, hC2, n1⟩ := q603
  have hR2 := hR.after n1
  obtain ⟨fs2, ho2⟩ := hR2.at1
  refine y_aload_n D_L_law_606 rfl ?_
  refine y_aload_n D_L_law_607 rfl ?_
  refine y_iload_n D_L_law_608 rfl ?_
  refine y_iconst D_L_law_609 ?_
  refine y_iadd D_L_law_610 ?_
  refine y_sload D_L_law_611 (by omega) (by omega) hL ?_
  refine y_aload_n D_L_law_612 rfl ?_
  refine y_iload_n D_L_law_613 rfl ?_
  refine y_iconst D_L_law_614 ?_
  refine y_iadd D_L_law_615 ?_
  refine y_sload D_L_law_616 (by omega) (by omega) hL ?_
  refine y_aload_n D_L_law_617 rfl ?_
  refine y_iload_n D_L_law_618 rfl ?_
  refine y_iconst D_L_law_619 ?_
  refine y_iadd D_L_law_620 ?_
  refine y_sload D_L_law_621 (by omega) (by omega) hL ?_
  refine y_invV (d' := d - 1) D_L_law_622 l_L_91 mi_6_spoke (r_spoke (by omega) hR2 hG (B3_toInt _) (B3_toInt _) (B3_toInt _)) (ho2) rfl rfl (by omega) rfl (fun q => q) rfl rfl (fun r622 h622 q622 => ?_)
  obtain ⟨rfl, hR3, n2⟩ := q622
  have hC3 := hC2.after n2
  refine y_icmp_same D_L_law_625 ?_
  exact (nx _ _ _ _ _ _ _ _ _ hC3 hR3).sub rfl
theorem law_18 (hd : 20 ≤ d) (hL : L0 ≤ 2048) (hk : 4 * k + 4 ≤ L0) (hC : CInv h (1000 * (k : Int)) len Bt T st u un kc ke) (hR : RInv h len Bt T st u un kc ke) (nx : NX X L0 xs d nm zf Q z k) : WX X L0 xs d (mL nm) zf Q z h 630 [(0, .ref 0), (1, .ref 1), (2, .ref 102), (3, vi ((4 * k : Nat) : Int))] [] := by
  have hG := hC.glob (by omega)
  obtain ⟨fs1, ho1⟩ := hC.at1
  refine y_aload_n D_L_law_630 rfl ?_
  refine y_aload_n D_L_law_631 rfl ?_
  refine y_iload_n D_L_law_632 rfl ?_
  refine y_iconst D_L_law_633 ?_
  refine y_iadd D_L_law_634 ?_
  refine y_sload D_L_law_635 (by omega) (by omega) hL ?_
  refine y_aload_n D_L_law_636 rfl ?_
  refine y_iload_n D_L_law_637 rfl ?_
  refine y_iconst D_L_law_638 ?_
  refine y_iadd D_L_law_639 ?_
  refine y_sload D_L_law_640 (by omega) (by omega) hL ?_
  refine y_aload_n D_L_law_641 rfl ?_
  refine y_iload_n D_L_law_642 rfl ?_
  refine y_iconst D_L_law_643 ?_
  refine y_iadd D_L_law_644 ?_
  refine y_sload D_L_law_645 (by omega) (by omega) hL ?_
  refine y_invV (d' := d - 1) D_L_law_646 l_L_92 mi_5_winter (c_5_winter (by omega) hC (by omega) (B3_toInt _) (B3_toInt _) (B3_toInt _)) (ho1) rfl rfl (by omega) rfl (fun q => q) rfl rfl (fun r646 h646 q646 => ?_)
  obtain ⟨rfl, hC2, n1⟩ := q646
  have hR2 := hR.after n1
  obtain ⟨fs2, ho2⟩ := hR2.at1
  refine y_aload_n D_L_law_649 rfl ?_
  refine y_aload_n D_L_law_650 rfl ?_
  refine y_iload_n D_L_law_651 rfl ?_
  refine y_iconst D_L_law_652 ?_
  refine y_iadd D_L_law_653 ?_
  refine y_sload D_L_law_654 (by omega) (by omega) hL ?_
  refine y_aload_n D_L_law_655 rfl ?_
  refine y_iload_n D_L_law_656 rfl ?_
  refine y_iconst D_L_law_657 ?_
  refine y_iadd D_L_law_658 ?_
  refine y_sload D_L_law_659 (by omega) (by omega) hL ?_
  refine y_aload_n D_L_law_660 rfl ?_
  refine y_iload_n D_L_law_661 rfl ?_
  refine y_iconst D_L_law_662 ?_
  refine y_iadd D_L_law_663 ?_
  refine y_sload D_L_law_664 (by omega) (by omega) hL ?_
  refine y_invV (d' := d - 1) D_L_law_665 l_L_95 mi_6_winter (r_winter (by omega) hR2 hG (B3_toInt _) (B3_toInt _) (B3_toInt _)) (ho2) rfl rfl (by omega) rfl (fun q => q) rfl rfl (fun r665 h665 q665 => ?_)
  obtain ⟨rfl, hR3, n2⟩ := q665
  have hC3 := hC2.after n2
  refine y_icmp_same D_L_law_668 ?_
  exact (nx _ _ _ _ _ _ _ _ _ hC3 hR3).sub rfl
theorem law_19 (hd : 20 ≤ d) (hL : L0 ≤ 2048) (hk : 4 * k + 4 ≤ L0) (hC : CInv h (1000 * (k : Int)) len Bt T st u un kc ke) (hR : RInv h len Bt T st u un kc ke) (nx : NX X L0 xs d nm zf Q z k) : WX X L0 xs d (mL nm) zf Q z h 673 [(0, .ref 0), (1, .ref 1), (2, .ref 102), (3, vi ((4 * k : Nat) : Int))] [] := by
  have hG := hC.glob (by omega)
  obtain ⟨fs1, ho1⟩ := hC.at1
  refine y_aload_n D_L_law_673 rfl ?_
  refine y_invV (d' := d - 1) D_L_law_674 l_L_96 mi_5_keep (c_5_keep (by omega) hC (by omega)) (ho1) rfl rfl (by omega) rfl (fun q => q) rfl rfl (fun r674 h674 q674 => ?_)
  obtain ⟨rfl, hC2, n1⟩ := q674
  have hR2 := hR.after n1
  obtain ⟨fs2, ho2⟩ := hR2.at1
  refine y_aload_n D_L_law_677 rfl ?_
  refine y_invV (d' := d - 1) D_L_law_678 l_L_99 mi_6_keep (r_keep (by omega) hR2 hG) (ho2) rfl rfl (by omega) rfl (fun q => q) rfl rfl (fun r678 h678 q678 => ?_)
  obtain ⟨rfl, hR3, n2⟩ := q678
  have hC3 := hC2.after n2
  refine y_icmp_same D_L_law_681 ?_
  exact (nx _ _ _ _ _ _ _ _ _ hC3 hR3).sub rfl
theorem law_20 (hd : 20 ≤ d) (hL : L0 ≤ 2048) (hk : 4 * k + 4 ≤ L0) (hC : CInv h (1000 * (k : Int)) len Bt T st u un kc ke) (hR : RInv h len Bt T st u un kc ke) (nx : NX X L0 xs d nm zf Q z k) : WX X L0 xs d (mL nm) zf Q z h 686 [(0, .ref 0), (1, .ref 1), (2, .ref 102), (3, vi ((4 * k : Nat) : Int))] [] := by
  have hG := hC.glob (by omega)
  obtain ⟨fs1, ho1⟩ := hC.at1
  refine y_aload_n D_L_law_686 rfl ?_
  refine y_invV (d' := d - 1) D_L_law_687 l_L_100 mi_5_back (c_5_back (by omega) hC (by omega)) (ho1) rfl rfl (by omega) rfl (fun q => q) rfl rfl (fun r687 h687 q687 => ?_)
  obtain ⟨rfl, hC2, n1⟩ := q687
  have hR2 := hR.after n1
  obtain ⟨fs2, ho2⟩ := hR2.at1
  refine y_aload_n D_L_law_690 rfl ?_
  refine y_invV (d' := d - 1) D_L_law_691 l_L_103 mi_6_back (r_back (by omega) hR2 hG) (ho2) rfl rfl (by omega) rfl (fun q => q) rfl rfl (fun r691 h691 q691 => ?_)
  obtain ⟨rfl, hR3, n2⟩ := q691
  have hC3 := hC2.after n2
  refine y_icmp_same D_L_law_694 ?_
  exact (nx _ _ _ _ _ _ _ _ _ hC3 hR3).sub rfl
theorem law_21 (hd : 20 ≤ d) (hL : L0 ≤ 2048) (hk : 4 * k + 4 ≤ L0) (hC : CInv h (1000 * (k : Int)) len Bt T st u un kc ke) (hR : RInv h len Bt T st u un kc ke) (nx : NX X L0 xs d nm zf Q z k) : WX X L0 xs d (mL nm) zf Q z h 699 [(0, .ref 0), (1, .ref 1), (2, .ref 102), (3, vi ((4 * k : Nat) : Int))] [] := by
  have hG := hC.glob (by omega)
  obtain ⟨fs1, ho1⟩ := hC.at1
  refine y_aload_n D_L_law_699 rfl ?_
  refine y_aload_n D_L_law_700 rfl ?_
  refine y_iload_n D_L_law_701 rfl ?_
  refine y_iconst D_L_law_702 ?_
  refine y_iadd D_L_law_703 ?_
  refine y_sload D_L_law_704 (by omega) (by omega) hL ?_
  refine y_invV (d' := d - 1) D_L_law_705 l_L_104 mi_5_count (c_5_count (by omega) hC (by omega) (B3_toInt _)) (ho1) rfl rfl (by omega) rfl (fun q => q) rfl rfl (fun r705 h705 q705 => ?_)
  obtain ⟨rfl, hC2, n1⟩ := q705
  have hR2 := hR.after n1
  obtain ⟨fs2, ho2⟩ := hR2.at1
  refine y_aload_n D_L_law_708 rfl ?_
  refine y_aload_n D_L_law_709 rfl ?_
  refine y_iload_n D_L_law_710 rfl ?_
  refine y_iconst D_L_law_711 ?_
  refine y_iadd D_L_law_712 ?_
  refine y_sload D_L_law_713 (by omega) (by omega) hL ?_
  refine y_invV (d' := d - 1) D_L_law_714 l_L_107 mi_6_count (r_count (by omega) hR2 hG (B3_toInt _)) (ho2) rfl rfl (by omega) rfl (fun q => q) rfl rfl (fun r714 h714 q714 => ?_)
  obtain ⟨rfl, hR3, n2⟩ := q714
  have hC3 := hC2.after n2
  refine y_icmp_same D_L_law_717 ?_
  exact (nx _ _ _ _ _ _ _ _ _ hC3 hR3).sub rfl
theorem law_step (hd : 20 ≤ d) (hL : L0 ≤ 2048) (hk : 4 * k + 4 ≤ L0) (hC : CInv h (1000 * (k : Int)) len Bt T st u un kc ke) (hR : RInv h len Bt T st u un kc ke) (nx : NX X L0 xs d nm zf Q z k) : WX X L0 xs d (mL nm) zf Q z h 32 [(0, .ref 0), (1, .ref 1), (2, .ref 102), (3, vi ((4 * k : Nat) : Int))] [vi (iAnd (xs ((4 * k : Nat) : Int).toNat).toInt 31)] := by
  by_cases w0 : iAnd (xs ((4 * k : Nat) : Int).toNat).toInt 31 = 0
  · refine y_tswIn D_L_law_32 (tgt := 136) (off := 104) (B3_toInt _) (by omega) (by omega) (by rw [w0]; decide +kernel) (by omega) ?_
    exact law_0 hd hL (by omega) hC hR nx
  by_cases w1 : iAnd (xs ((4 * k : Nat) : Int).toNat).toInt 31 = 1
  · refine y_tswIn D_L_law_32 (tgt := 199) (off := 167) (B3_toInt _) (by omega) (by omega) (by rw [w1]; decide +kernel) (by omega) ?_
    exact law_1 hd hL (by omega) hC hR nx
  by_cases w2 : iAnd (xs ((4 * k : Nat) : Int).toNat).toInt 31 = 2
  · refine y_tswIn D_L_law_32 (tgt := 212) (off := 180) (B3_toInt _) (by omega) (by omega) (by rw [w2]; decide +kernel) (by omega) ?_
    exact law_2 hd hL (by omega) hC hR nx
  by_cases w3 : iAnd (xs ((4 * k : Nat) : Int).toNat).toInt 31 = 3
  · refine y_tswIn D_L_law_32 (tgt := 225) (off := 193) (B3_toInt _) (by omega) (by omega) (by rw [w3]; decide +kernel) (by omega) ?_
    exact law_3 hd hL (by omega) hC hR nx
  by_cases w4 : iAnd (xs ((4 * k : Nat) : Int).toNat).toInt 31 = 4
  · refine y_tswIn D_L_law_32 (tgt := 238) (off := 206) (B3_toInt _) (by omega) (by omega) (by rw [w4]; decide +kernel) (by omega) ?_
    exact law_4 hd hL (by omega) hC hR nx
  by_cases w5 : iAnd (xs ((4 * k : Nat) : Int).toNat).toInt 31 = 5
  · refine y_tswIn D_L_law_32 (tgt := 271) (off := 239) (B3_toInt _) (by omega) (by omega) (by rw [w5]; decide +kernel) (by omega) ?_
    exact law_5 hd hL (by omega) hC hR nx
  by_cases w6 : iAnd (xs ((4 * k : Nat) : Int).toNat).toInt 31 = 6
  · refine y_tswIn D_L_law_32 (tgt := 304) (off := 272) (B3_toInt _) (by omega) (by omega) (by rw [w6]; decide +kernel) (by omega) ?_
    exact law_6 hd hL (by omega) hC hR nx
  by_cases w7 : iAnd (xs ((4 * k : Nat) : Int).toNat).toInt 31 = 7
  · refine y_tswIn D_L_law_32 (tgt := 337) (off := 305) (B3_toInt _) (by omega) (by omega) (by rw [w7]; decide +kernel) (by omega) ?_
    exact law_7 hd hL (by omega) hC hR nx
  by_cases w8 : iAnd (xs ((4 * k : Nat) : Int).toNat).toInt 31 = 8
  · refine y_tswIn D_L_law_32 (tgt := 370) (off := 338) (B3_toInt _) (by omega) (by omega) (by rw [w8]; decide +kernel) (by omega) ?_
    exact law_8 hd hL (by omega) hC hR nx
  by_cases w9 : iAnd (xs ((4 * k : Nat) : Int).toNat).toInt 31 = 9
  · refine y_tswIn D_L_law_32 (tgt := 393) (off := 361) (B3_toInt _) (by omega) (by omega) (by rw [w9]; decide +kernel) (by omega) ?_
    exact law_9 hd hL (by omega) hC hR nx
  by_cases w10 : iAnd (xs ((4 * k : Nat) : Int).toNat).toInt 31 = 10
  · refine y_tswIn D_L_law_32 (tgt := 416) (off := 384) (B3_toInt _) (by omega) (by omega) (by rw [w10]; decide +kernel) (by omega) ?_
    exact law_10 hd hL (by omega) hC hR nx
  by_cases w11 : iAnd (xs ((4 * k : Nat) : Int).toNat).toInt 31 = 11
  · refine y_tswIn D_L_law_32 (tgt := 439) (off := 407) (B3_toInt _) (by omega) (by omega) (by rw [w11]; decide +kernel) (by omega) ?_
    exact law_11 hd hL (by omega) hC hR nx
  by_cases w12 : iAnd (xs ((4 * k : Nat) : Int).toNat).toInt 31 = 12
  · refine y_tswIn D_L_law_32 (tgt := 452) (off := 420) (B3_toInt _) (by omega) (by omega) (by rw [w12]; decide +kernel) (by omega) ?_
    exact law_12 hd hL (by omega) hC hR nx
  by_cases w13 : iAnd (xs ((4 * k : Nat) : Int).toNat).toInt 31 = 13
  · refine y_tswIn D_L_law_32 (tgt := 495) (off := 463) (B3_toInt _) (by omega) (by omega) (by rw [w13]; decide +kernel) (by omega) ?_
    exact law_13 hd hL (by omega) hC hR nx
  by_cases w14 : iAnd (xs ((4 * k : Nat) : Int).toNat).toInt 31 = 14
  · refine y_tswIn D_L_law_32 (tgt := 518) (off := 486) (B3_toInt _) (by omega) (by omega) (by rw [w14]; decide +kernel) (by omega) ?_
    exact law_14 hd hL (by omega) hC hR nx
  by_cases w15 : iAnd (xs ((4 * k : Nat) : Int).toNat).toInt 31 = 15
  · refine y_tswIn D_L_law_32 (tgt := 541) (off := 509) (B3_toInt _) (by omega) (by omega) (by rw [w15]; decide +kernel) (by omega) ?_
    exact law_15 hd hL (by omega) hC hR nx
  by_cases w16 : iAnd (xs ((4 * k : Nat) : Int).toNat).toInt 31 = 16
  · refine y_tswIn D_L_law_32 (tgt := 554) (off := 522) (B3_toInt _) (by omega) (by omega) (by rw [w16]; decide +kernel) (by omega) ?_
    exact law_16 hd hL (by omega) hC hR nx
  by_cases w17 : iAnd (xs ((4 * k : Nat) : Int).toNat).toInt 31 = 17
  · refine y_tswIn D_L_law_32 (tgt := 587) (off := 555) (B3_toInt _) (by omega) (by omega) (by rw [w17]; decide +kernel) (by omega) ?_
    exact law_17 hd hL (by omega) hC hR nx
  by_cases w18 : iAnd (xs ((4 * k : Nat) : Int).toNat).toInt 31 = 18
  · refine y_tswIn D_L_law_32 (tgt := 630) (off := 598) (B3_toInt _) (by omega) (by omega) (by rw [w18]; decide +kernel) (by omega) ?_
    exact law_18 hd hL (by omega) hC hR nx
  by_cases w19 : iAnd (xs ((4 * k : Nat) : Int).toNat).toInt 31 = 19
  · refine y_tswIn D_L_law_32 (tgt := 673) (off := 641) (B3_toInt _) (by omega) (by omega) (by rw [w19]; decide +kernel) (by omega) ?_
    exact law_19 hd hL (by omega) hC hR nx
  by_cases w20 : iAnd (xs ((4 * k : Nat) : Int).toNat).toInt 31 = 20
  · refine y_tswIn D_L_law_32 (tgt := 686) (off := 654) (B3_toInt _) (by omega) (by omega) (by rw [w20]; decide +kernel) (by omega) ?_
    exact law_20 hd hL (by omega) hC hR nx
  by_cases w21 : iAnd (xs ((4 * k : Nat) : Int).toNat).toInt 31 = 21
  · refine y_tswIn D_L_law_32 (tgt := 699) (off := 667) (B3_toInt _) (by omega) (by omega) (by rw [w21]; decide +kernel) (by omega) ?_
    exact law_21 hd hL (by omega) hC hR nx
  refine y_tswOut D_L_law_32 (tgt := 722) (B3_toInt _) (by omega) (by omega) ?_
  refine (nx h len Bt T st u un kc ke ?_ hR).sub rfl
  obtain ⟨lt, dt, E, bf, B, K, a1, a2, a9, a10, a11, a12, a13, a14, a15⟩ := hC
  exact ⟨lt, dt, E, bf, B, K, a1, a2, a9, a10, a11, ⟨a12.1, a12.2.1, by omega, by omega⟩, ⟨a13.1.mono (by omega), a13.2⟩, fun j hj => ⟨(a14 j hj).1.mono (by omega), (a14 j hj).2⟩, fun j hj => ⟨(a15 j hj).1.mono (by omega), (a15 j hj).2⟩⟩
theorem law_loop (hd : 20 ≤ d) (hL : L0 ≤ 2048) (hQ : ∀ h : Hp, Q (some (vi 1)) h) : ∀ (f k : Nat) (h : Hp) (len : Int) (Bt : Int → Int) (T : TT) (st : SS) (u : Nat) (un : Nat → SS) (kc : Nat) (ke : Nat → SS), k + f = 513 → CInv h (1000 * (k : Int)) len Bt T st u un kc ke → RInv h len Bt T st u un kc ke → WX X L0 xs d (mL nm) zf Q zf h 18 [(0, .ref 0), (1, .ref 1), (2, .ref 102), (3, vi ((4 * k : Nat) : Int))] [] := by
  intro f
  induction f with
  | zero =>
    intro k h len Bt T st u un kc ke hkf hC hR
    refine y_iload_n D_L_law_18 rfl ?_
    refine y_aload_n D_L_law_19 rfl ?_
    refine y_slen D_L_law_20 ?_
    refine y_iconst D_L_law_21 ?_
    refine y_isub D_L_law_22 ?_
    refine y_icmp_gt D_L_law_23 ⟨by omega, by omega⟩ ⟨by omega, by omega⟩ (fun c23 => ?_) (fun c23 => ?_)
    · refine y_iconst D_L_law_728 ?_
      refine y_ireturn D_L_law_729 rfl (by first | rfl | exact nb_bi _ | decide +kernel) rfl ?_
      exact hQ _
    exact absurd c23 (by omega)
  | succ f ih =>
    intro k h len Bt T st u un kc ke hkf hC hR
    refine y_iload_n D_L_law_18 rfl ?_
    refine y_aload_n D_L_law_19 rfl ?_
    refine y_slen D_L_law_20 ?_
    refine y_iconst D_L_law_21 ?_
    refine y_isub D_L_law_22 ?_
    refine y_icmp_gt D_L_law_23 ⟨by omega, by omega⟩ ⟨by omega, by omega⟩ (fun c23 => ?_) (fun c23 => ?_)
    · refine y_iconst D_L_law_728 ?_
      refine y_ireturn D_L_law_729 rfl (by first | rfl | exact nb_bi _ | decide +kernel) rfl ?_
      exact hQ _
    refine y_aload_n D_L_law_26 rfl ?_
    refine y_iload_n D_L_law_27 rfl ?_
    refine y_sload D_L_law_28 (by omega) (by omega) hL ?_
    refine y_bipush D_L_law_29 (by decide +kernel) ?_
    refine y_iand D_L_law_31 ?_
    refine (law_step hd hL (by omega) hC hR (fun h1 len1 Bt1 T1 st1 u1 un1 kc1 ke1 hC1 hR1 => ?_)).sub rfl
    refine y_iinc D_L_law_722 rfl rfl rfl rfl ?_
    refine y_goto D_L_law_725 ?_
    refine (ih (k + 1) h1 len1 Bt1 T1 st1 u1 un1 kc1 ke1 (by omega) ?_ hR1).sub ?_
    · rw [show (1000 : Int) * ((k + 1 : Nat) : Int) = 1000 * (k : Int) + 1000 by omega]
      exact hC1
    · rw [show ((4 * (k + 1) : Nat) : Int) = ((4 * k : Nat) : Int) + 4 by omega]
      rfl
end XM
