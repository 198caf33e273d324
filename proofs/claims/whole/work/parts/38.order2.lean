theorem Rows_InS {T : TT} (hk : TabOk T) {G : Int → Int} {k : Nat} {pre r : List Int} (hp : InS T pre) (h : r ∈ Rows T G k pre) : InS T r := by
  obtain ⟨l, h1, -, h3⟩ := Rows_mem T G k pre r h
  have h4 := hk.2.2.1
  subst h1
  intro s hs
  rcases List.mem_append.mp hs with h | h
  · exact hp s h
  · have := (h3 s h).1
    unfold nSa at this
    exact ⟨this.1, by omega⟩
theorem stp_fr (T : TT) (mel : Int → Int) (st : (Int → Int) × Int) (s p : Int) (hp : p ≠ T 5 s) : (stp T mel st s).1 p = st.1 p := by
  simp only [stp, ups]
  rw [if_neg hp]
/-- how many bits, of a number below 128 -/
def pcN (v : Nat) : Nat := ((List.range 7).filter (fun j => v.testBit j)).length
def bcE (v : Int) : Int :=
  iAnd (iAnd (iAnd (v - iAnd (iUshr v 1) 1431655765) 858993459 + iAnd (iUshr (v - iAnd (iUshr v 1) 1431655765) 2) 858993459 + iUshr (iAnd (v - iAnd (iUshr v 1) 1431655765) 858993459 + iAnd (iUshr (v - iAnd (iUshr v 1) 1431655765) 2) 858993459) 4) 252645135 + iUshr (iAnd (iAnd (v - iAnd (iUshr v 1) 1431655765) 858993459 + iAnd (iUshr (v - iAnd (iUshr v 1) 1431655765) 2) 858993459 + iUshr (iAnd (v - iAnd (iUshr v 1) 1431655765) 858993459 + iAnd (iUshr (v - iAnd (iUshr v 1) 1431655765) 2) 858993459) 4) 252645135) 8 + iUshr (iAnd (iAnd (v - iAnd (iUshr v 1) 1431655765) 858993459 + iAnd (iUshr (v - iAnd (iUshr v 1) 1431655765) 2) 858993459 + iUshr (iAnd (v - iAnd (iUshr v 1) 1431655765) 858993459 + iAnd (iUshr (v - iAnd (iUshr v 1) 1431655765) 2) 858993459) 4) 252645135 + iUshr (iAnd (iAnd (v - iAnd (iUshr v 1) 1431655765) 858993459 + iAnd (iUshr (v - iAnd (iUshr v 1) 1431655765) 2) 858993459 + iUshr (iAnd (v - iAnd (iUshr v 1) 1431655765) 858993459 + iAnd (iUshr (v - iAnd (iUshr v 1) 1431655765) 2) 858993459) 4) 252645135) 8) 16) 63
theorem bc_ok : ∀ v : Nat, v < 128 → bcE (v : Int) = ((pcN v : Nat) : Int) := by decide +kernel
theorem filter_range (n : Nat) (hn : n ≤ 7) (P : Nat → Bool) : (List.range 7).filter (fun j => decide (j < n) && P j) = (List.range n).filter P := by
  have e : List.range 7 = List.range n ++ (List.range (7 - n)).map (fun x => n + x) := by
    have := List.range_add (n := n) (m := 7 - n)
    rw [show n + (7 - n) = 7 by omega] at this
    exact this
  rw [e, List.filter_append]
  have e1 : (List.range n).filter (fun j => decide (j < n) && P j) = (List.range n).filter P := by
    apply List.filter_congr
    intro x hx
    have := List.mem_range.mp hx
    simp [this]
  have e2 : ((List.range (7 - n)).map (fun x => n + x)).filter (fun j => decide (j < n) && P j) = [] := by
    rw [List.filter_eq_nil_iff]
    intro x hx
    obtain ⟨y, -, rfl⟩ := List.mem_map.mp hx
    have : decide (n + y < n) = false := decide_eq_false (by omega)
    rw [this]
    simp
  rw [e1, e2, List.append_nil]
/-- the sayings that get a grain -/
def chL (T : TT) (G : Int → Int) : List Nat := (List.range (nSa T)).filter (fun s => decide (G (s : Int) ≠ -4))
theorem chL_len {T : TT} (hk : TabOk T) (G : Int → Int) : (chL T G).length ≤ 7 := by
  have h4 := hk.2.2.1
  have := List.length_filter_le (fun s : Nat => decide (G (s : Int) ≠ -4)) (List.range (nSa T))
  rw [List.length_range] at this
  unfold chL nSa at *
  omega
theorem pc_gvn {T : TT} (hk : TabOk T) {D : Int → Int} {sd sh : Int} {G : Int → Int} (hG : ∀ s : Nat, s < nSa T → G (s : Int) = gOf T D sd sh s) {v : Nat} (hv : gvn T D sd sh (nSa T) = (v : Int)) : pcN v = (chL T G).length := by
  have h4 := hk.2.2.1
  have hn : nSa T ≤ 7 := by unfold nSa; omega
  have hlt := (gvn_nat hk (D := D) (sd := sd) (sh := sh)).2
  unfold pcN chL
  rw [← filter_range (nSa T) hn]
  congr 1
  apply List.filter_congr
  intro j hj
  have hj := List.mem_range.mp hj
  have h1 := tb_gvn T D sd sh (nSa T) (by omega) j (by omega)
  rw [hv, tb_nat v (by omega)] at h1
  rw [h1]
  by_cases e : j < nSa T
  · rw [hG j e]; simp [e]
  · simp [e]
