theorem CInv.low {h h1 : Hp} {b len : Int} {Bt : Int → Int} {T : TT} {st : SS} {u : Nat} {un : Nat → SS} {kc : Nat} {ke : Nat → SS} (hI : CInv h b len Bt T st u un kc ke) (n : ∀ q : Nat, q < 102 → h1 q = h q) : CInv h1 b len Bt T st u un kc ke := by
  obtain ⟨lt, dt, E, bf, B, K, hP, hE, hrest⟩ := hI
  obtain ⟨hM, hId, hX, hT, hB, hK, hSc⟩ := hP
  obtain ⟨hR0, ⟨T2, y2⟩, ⟨E2, y3⟩, ⟨gv, Go, y4⟩, ⟨m, S, g2, Fi, Me, En, y5⟩⟩ := hSc
  have hId0 := hId
  unfold Ids at hId
  exact ⟨lt, dt, E, bf, B, K, ⟨(n 1 (by omega)).trans hM, hId0, (n 2 (by omega)).trans hX, hT.kept (fun q q1 q2 => n q (by omega)), hB.kept (fun q hq => n q (by omega)), hK.kept (fun q hq => n q (by omega)), ⟨hR0.kept (fun q hq => n q (by omega)), ⟨T2, y2.kept (fun q q1 q2 => n q (by omega))⟩, ⟨E2, y3.kept (fun q q1 q2 => n q (by omega))⟩, ⟨gv, Go, y4.kept (fun q q1 q2 => n q (by omega))⟩, ⟨m, S, g2, Fi, Me, En, y5.kept (fun q q1 q2 => n q (by omega))⟩⟩⟩, hE.kept (fun q q1 q2 => n q (by omega)), hrest⟩
section XN
variable {X : Cx} {L0 : Nat} {xs : Nat → Int32} {d : Nat} {nm : String}
theorem law_start (hd : 20 ≤ d) (hL : L0 ≤ 2048) : WX X L0 xs d (mL nm) (128, 5721) (fun r _ => r = some (vi 1)) (0, 0) (fun _ => none) 0 [(0, .ref 0)] [] := by
  refine y_new D_L_law_0 nl_L_7 ⟨by decide, by decide⟩ ?_
  have ho : hset (fun _ => none) 1 (ob 5 [.null, vi 0, .null, .null, .null, .null, .null, .null, vi 0, .null, vi 0, .null, .null]) 1 = some (ob 5 [.null, vi 0, .null, .null, .null, .null, .null, .null, vi 0, .null, vi 0, .null, .null]) := hset_eq _ _ _
  show WX X L0 xs d (mL nm) (128, 5721) _ (1, 13) (hset (fun _ => none) 1 (ob 5 [.null, vi 0, .null, .null, .null, .null, .null, .null, vi 0, .null, vi 0, .null, .null])) 3 _ [.ref 1]
  generalize hset (fun _ => none) 1 (ob 5 [.null, vi 0, .null, .null, .null, .null, .null, .null, vi 0, .null, vi 0, .null, .null]) = h1 at ho
  refine y_dup D_L_law_3 rfl ?_
  refine y_invI D_L_law_4 l_L_9 mi_5_init rfl (c_5_init (d := d - 1) (s := 13) (by omega) ho) (as := []) rfl (by omega) rfl (fun _ => ⟨by decide, by decide⟩) rfl rfl (fun r h2 q2 => ?_)
  obtain ⟨rfl, hC⟩ := q2
  refine y_astore_n D_L_law_7 rfl rfl rfl ?_
  refine y_new D_L_law_8 nl_L_10 ⟨by decide, by decide⟩ ?_
  have hn : ∀ q : Nat, q < 102 → hset h2 102 (ob 6 [vi 0, vi 0, vi 0, vi 0, vi 0, .null, .null, .null, .null, .null, .null, .null, .null, .null, .null, vi 0, .null, vi 0, .null, vi 0, vi 0, vi 0, vi 0, vi 0, vi 0, vi 0, .null, .null, .null, .null, .null, .null, .null, .null, vi 0, vi 0, vi 0, .null, .null, .null, .null, .null, .null, vi 0]) q = h2 q := fun q hq => hset_ne _ _ (by omega)
  have ho2 : hset h2 102 (ob 6 [vi 0, vi 0, vi 0, vi 0, vi 0, .null, .null, .null, .null, .null, .null, .null, .null, .null, .null, vi 0, .null, vi 0, .null, vi 0, vi 0, vi 0, vi 0, vi 0, vi 0, vi 0, .null, .null, .null, .null, .null, .null, .null, .null, vi 0, vi 0, vi 0, .null, .null, .null, .null, .null, .null, vi 0]) 102 = some (ob 6 [vi 0, vi 0, vi 0, vi 0, vi 0, .null, .null, .null, .null, .null, .null, .null, .null, .null, .null, vi 0, .null, vi 0, .null, vi 0, vi 0, vi 0, vi 0, vi 0, vi 0, vi 0, .null, .null, .null, .null, .null, .null, .null, .null, vi 0, vi 0, vi 0, .null, .null, .null, .null, .null, .null, vi 0]) := hset_eq _ _ _
  show WX X L0 xs d (mL nm) (128, 5721) _ (102, 2989) (hset h2 102 (ob 6 [vi 0, vi 0, vi 0, vi 0, vi 0, .null, .null, .null, .null, .null, .null, .null, .null, .null, .null, vi 0, .null, vi 0, .null, vi 0, vi 0, vi 0, vi 0, vi 0, vi 0, vi 0, .null, .null, .null, .null, .null, .null, .null, .null, vi 0, vi 0, vi 0, .null, .null, .null, .null, .null, .null, vi 0])) 11 _ [.ref 102]
  generalize hset h2 102 (ob 6 [vi 0, vi 0, vi 0, vi 0, vi 0, .null, .null, .null, .null, .null, .null, .null, .null, .null, .null, vi 0, .null, vi 0, .null, vi 0, vi 0, vi 0, vi 0, vi 0, vi 0, vi 0, .null, .null, .null, .null, .null, .null, .null, .null, vi 0, vi 0, vi 0, .null, .null, .null, .null, .null, .null, vi 0]) = h3 at ho2 hn
  refine y_dup D_L_law_11 rfl ?_
  refine y_invI D_L_law_12 l_L_12 mi_6_init rfl (c_6_init (d := d - 1) (s := 2989) (by omega) ho2) (as := []) rfl (by omega) rfl (fun _ => ⟨by decide, by decide⟩) rfl rfl (fun r h4 q4 => ?_)
  obtain ⟨rfl, hR, n4⟩ := q4
  refine y_astore_n D_L_law_15 rfl rfl rfl ?_
  refine y_iconst D_L_law_16 ?_
  refine y_istore_n D_L_law_17 rfl rfl rfl ?_
  have hC4 : CInv h4 (1000 * ((0 : Nat) : Int)) 0 (txt 33) tab1 (layS tab1) 0 (fun _ _ => 0) 0 (fun _ _ => 0) := (hC (fun _ _ => 0) (fun _ _ => 0)).low (fun q hq => (n4 q (by omega)).trans (hn q (by omega)))
  exact (law_loop hd hL (fun _ => rfl) 513 0 h4 0 (txt 33) tab1 (layS tab1) 0 _ 0 _ rfl hC4 (hR _ _ _)).sub rfl
end XN
theorem W.mono {p : Program} {l : Launch} {e : Env} {R : Room} {s : State} {m : MethodId} {args : Array Value} {below : List Frame} {meth : Method} {c : Code} {H : Heap} {locs : List Loc} {cells slots : Nat} {Q Q' : State → Prop} {g : JFrame} (h : W p l e R s m args below meth c H locs cells slots Q g) (hQ : ∀ t, Q t → Q' t) : W p l e R s m args below meth c H locs cells slots Q' g := fun T hT X => by
  obtain ⟨t, a, b⟩ := h T hT X
  exact ⟨t, a, hQ t b⟩
theorem el_in : ∀ j : Fin 33, Cond.eq (.elem (.field (.string "WhileSaltMelts" 61) "java/lang/String" "value" "[B") (.int (Int32.ofNat j.val))) (.int (sB.getD j.val 0)) ∈ flatC (Jvm.Cond.and given_1 narrow_1) := by decide +kernel
theorem kn_start {s : State} {b : Nat} (hts : ∀ w ∈ lw_tbl, w.before #[Value.ref b] s = true) (hgv : (Jvm.Cond.and given_1 narrow_1).before #[Value.ref b] s = true) : ∃ G : va_G × (Nat → ClassId) × (Nat → ClassId), Kn (G, b, s.heap.size, s.heap) s := by
  have htsW : ∀ w ∈ WS, w.before #[Value.ref b] s = true := fun w hw => hts w (List.mem_filter.mp hw).1
  have hs := flat_of_before _ hgv
  obtain ⟨c0, i0, K0⟩ := u_known (C := RX0) (T := TX0) (N := 10) (n := 10) htsW (uwAll (ci := 0) rfl) (htsW _ (wm 114 (by decide +kernel) (by decide +kernel)))
  obtain ⟨c1, i1, K1⟩ := u_known (C := RX1) (T := TX1) (N := 3) (n := 3) htsW (uwAll (ci := 1) rfl) (htsW _ (wm 166 (by decide +kernel) (by decide +kernel)))
  obtain ⟨c2, i2, K2⟩ := u_known (C := RX2) (T := TX2) (N := 8) (n := 8) htsW (uwAll (ci := 2) rfl) (htsW _ (wm 188 (by decide +kernel) (by decide +kernel)))
  obtain ⟨c3, i3, K3⟩ := u_known (C := RX3) (T := TX3) (N := 3) (n := 3) htsW (uwAll (ci := 3) rfl) (htsW _ (wm 23 (by decide +kernel) (by decide +kernel)))
  obtain ⟨c4, i4, K4⟩ := u_known (C := RX4) (T := TX4) (N := 13) (n := 13) htsW (uwAll (ci := 4) rfl) (htsW _ (wm 41 (by decide +kernel) (by decide +kernel)))
  obtain ⟨c5, i5, K5⟩ := u_known (C := RX5) (T := TX5) (N := 13) (n := 13) htsW (uwAll (ci := 5) rfl) (htsW _ (wm 15 (by decide +kernel) (by decide +kernel)))
  obtain ⟨c6, i6, K6⟩ := u_known (C := RX6) (T := TX6) (N := 44) (n := 44) htsW (uwAll (ci := 6) rfl) (htsW _ (wm 593 (by decide +kernel) (by decide +kernel)))
  obtain ⟨a0, ka0, co0, f0, g0, d0⟩ := Cond.arrayClass_spec (htsW _ wint)
  obtain ⟨a1, ka1, co1, f1, g1, d1⟩ := Cond.arrayClass_spec (htsW _ wbyte)
  have ho2 := hts (.arrayOver (.object "WhileSaltMelts$Evening")) (List.mem_append_right _ (List.mem_of_getElem? (i := 164) (by decide +kernel)))
  have ho3 := hts (.arrayOver (.array .int)) (List.mem_append_right _ (List.mem_of_getElem? (i := 172) (by decide +kernel)))
  obtain ⟨co2, a2, ka2, e2, -, g2, d2, f2⟩ := Cond.arrayOver_spec ho2
  obtain ⟨co3, a3, ka3, e3, -, g3, d3, f3⟩ := arrayOverA_spec ho3
  have hA : ∀ a : Nat, a < s.heap.size → ¬ (fun q : Nat => s.heap.size ≤ q) a := fun a ha => Nat.not_le.mpr ha
  obtain ⟨adK, adV, hS, hev⟩ := vk_Sof (args := #[Value.ref b]) (s := s) (N := 1) (tm := fun _ => .string "WhileSaltMelts" 61) (len := [33]) (byt := [sB]) (A := fun q : Nat => s.heap.size ≤ q) (fun i hi => by
    obtain rfl : i = 0 := by omega
    decide) (fun i _ => hs _ (by decide +kernel)) (fun i _ => hs _ (by decide +kernel)) (fun i _ => hs _ (by decide +kernel)) (fun i hi => by
    obtain rfl : i = 0 := by omega
    exact hs _ (by decide +kernel)) (fun i hi j hj => by
    obtain rfl : i = 0 := by omega
    exact hs _ (el_in ⟨j, hj⟩)) (fun i j hi hj hij => absurd hij (by omega)) hA
  have hS0 := hS.1 0 (by omega)
  have hZ1 : va_Z "java/lang/String" "COMPACT_STRINGS" "Z" (.int 1) (fun q : Nat => s.heap.size ≤ q) s s.heap := va_Zof (hts (.laysStatic "java/lang/String" "COMPACT_STRINGS" "Z") (List.mem_append_right _ (List.mem_of_getElem? (i := 231) (by decide +kernel)))) (hts (.initialized "java/lang/String") (List.mem_append_right _ (List.mem_of_getElem? (i := 7) (by decide +kernel)))) (va_eqt (hs _ (by decide +kernel))) hA
  have hZ2 : va_Zq "jdk/internal/util/Preconditions" "SIOOBE_FORMATTER" "Ljava/util/function/BiFunction;" (fun q : Nat => s.heap.size ≤ q) s s.heap := va_Zqof (hts (.laysStatic "jdk/internal/util/Preconditions" "SIOOBE_FORMATTER" "Ljava/util/function/BiFunction;") (List.mem_append_right _ (List.mem_of_getElem? (i := 247) (by decide +kernel)))) (hts (.initialized "jdk/internal/util/Preconditions") (List.mem_append_right _ (List.mem_of_getElem? (i := 9) (by decide +kernel)))) (hs _ (by decide +kernel)) hA
  have hRf := vk_R.of (hts (.stringRef "WhileSaltMelts" 61 sT) (List.mem_append_right _ (List.mem_of_getElem? (i := 221) (by decide +kernel)))) (hev 0 (by omega))
  refine ⟨((fun k => match k with | 0 => c0 | 1 => c1 | 2 => c2 | 3 => c3 | 4 => c4 | 5 => c5 | _ => c6, fun k => match k with | 0 => i0 | 1 => i1 | 2 => i2 | 3 => i3 | 4 => i4 | 5 => i5 | _ => i6), fun k => match k with | 0 => a0 | _ => a1, fun k => match k with | 0 => a2 | _ => a3), ⟨fun k q hq => ?_, fun k q hq => ?_⟩, fun w hw => ?_, va_AO.of ho2, over_moved (a := #[Value.ref b]) (a' := #[]) (Vm.Alike.refl _) ho3, adK 0, adV 0, hRf, hS0.1, hS0.2.1, hS0.2.2.1, hS0.2.2.2, hZ1, hZ2⟩
  · match k, hq with
    | 0, hq => cases hq; exact K0
    | 1, hq => cases hq; exact K1
    | 2, hq => cases hq; exact K2
    | 3, hq => cases hq; exact K3
    | 4, hq => cases hq; exact K4
    | 5, hq => cases hq; exact K5
    | 6, hq => cases hq; exact K6
    | n + 7, hq => simp [cls] at hq
  · match k, hq with
    | 0, hq => cases hq; exact ⟨fun n z => ⟨fun k h => (by cases h), ka0, g0, co0, d0⟩, f0⟩
    | 1, hq => cases hq; exact ⟨fun n z => ⟨fun k h => (by cases h), ka1, g1, co1, d1⟩, f1⟩
    | 2, hq => cases hq; exact ⟨fun n z => ⟨fun k h => (by cases h), ka2, g2, co2, d2⟩, ka2, co2, g2, d2, e2, f2⟩
    | 3, hq => cases hq; exact ⟨fun n z => ⟨fun k h => (by cases h), ka3, g3, co3, d3⟩, f3⟩
    | n + 4, hq => simp [tysX] at hq
  · simp only [NW, List.mem_cons, List.not_mem_nil, or_false] at hw
    rcases hw with rfl | rfl | rfl | rfl | rfl | rfl | rfl | rfl
    · exact va_Nw.of (A := #[Value.ref b]) rfl (hts _ (List.mem_append_right _ (List.mem_of_getElem? (i := 24) (by decide +kernel))))
    · exact va_Nw.of (A := #[Value.ref b]) rfl (hts _ (List.mem_append_right _ (List.mem_of_getElem? (i := 42) (by decide +kernel))))
    · exact va_Nw.of (A := #[Value.ref b]) rfl (hts _ (List.mem_append_right _ (List.mem_of_getElem? (i := 115) (by decide +kernel))))
    · exact va_Nw.of (A := #[Value.ref b]) rfl (hts _ (List.mem_append_right _ (List.mem_of_getElem? (i := 167) (by decide +kernel))))
    · exact va_Nw.of (A := #[Value.ref b]) rfl (hts _ (List.mem_append_right _ (List.mem_of_getElem? (i := 189) (by decide +kernel))))
    · exact va_Nw.of (A := #[Value.ref b]) rfl (hts _ (List.mem_append_right _ (List.mem_of_getElem? (i := 470) (by decide +kernel))))
    · exact va_Nw.of (A := #[Value.ref b]) rfl (hts _ (List.mem_append_right _ (List.mem_of_getElem? (i := 487) (by decide +kernel))))
    · exact va_Nw.of (A := #[Value.ref b]) rfl (hts _ (List.mem_append_right _ (List.mem_of_getElem? (i := 535) (by decide +kernel))))
