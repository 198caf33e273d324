abbrev AQ (t : Nat) (h0 : Hp) (T : TT) (lt : Int) (l : List Int) : Option Value → Hp → Prop := fun r h' => ((∃ T', addI T lt l T' ∧ r = some (vi 1) ∧ TabAt h' t T') ∨ ((∀ T', ¬ addI T lt l T') ∧ r = some (vi 0) ∧ TabAt h' t T)) ∧ ∀ q : Nat, (q < t ∨ t + 8 < q) → h' q = h0 q
theorem c_4_add {d : Nat} (hd : 1 ≤ d) {z : Nat × Nat} {h : Hp} {t nr : Nat} {T : TT} {N : Int → Int} {lt : Int} {l : List Int} (hT : TabAt h t T) (hk : TabOk T) (hN : h nr = some (ia 0 4 N)) (hlt : B3 lt) (hl : l.length ≤ 4) (hNl : ∀ j : Nat, j < l.length → N (j : Int) = l.getD j 0) (hv : ∀ v ∈ l, 0 ≤ v ∧ v ≤ 99) : Ct d m_4_add [.ref t, vi lt, .ref nr, vi (l.length : Int)] z z h (AQ t h T lt l) := by
  refine Ct.of (by decide) ⟨Nat.le_refl _, Nat.le_refl _⟩ (Nat.le_of_ble_eq_true rfl) ?_
  have hfr : ∀ q : Nat, (q < t ∨ t + 8 < q) → h q = h q := fun _ _ => rfl
  have bad : ∀ h' : Hp, (∀ q : Nat, (q < t ∨ t + 8 < q) → h' q = h q) → TabAt h' t T → (∀ T', ¬ addI T lt l T') → AQ t h T lt l (some (vi 0)) h' := fun h' hf ht hn => ⟨Or.inr ⟨hn, rfl, ht⟩, hf⟩
  refine x_aload_n D_4_add_0 rfl ?_
  refine x_alen D_4_add_1 (by assumption) ?_
  refine x_iconst D_4_add_2 ?_
  refine x_icmp_ge D_4_add_3 ⟨by omega, by omega⟩ ⟨by omega, by omega⟩ (fun c3 => ?_) (fun c3 => ?_)
  · refine x_iload_n D_4_add_8 rfl ?_
    by_cases w9_97 : lt = 97
    · refine x_lsw D_4_add_9 (tgt := 132) (off := 123) ⟨by omega, by omega⟩ (by decide +kernel) (by rw [w9_97]; decide +kernel) (by omega) ?_
      refine x_iload_n D_4_add_132 rfl ?_
      refine x_iconst D_4_add_133 ?_
      refine x_icmp_ne D_4_add_134 ⟨by omega, by omega⟩ ⟨by omega, by omega⟩ (fun c134 => ?_) (fun c134 => ?_)
      · refine x_iconst D_4_add_151 ?_
        refine x_ireturn D_4_add_152 rfl nb_0 rfl ?_
        refine bad _ hfr hT fun T' e => ?_
        rcases e with ⟨e, v, e2, -⟩ | ⟨e, v, e2, -⟩ | ⟨e, a, b, c, k, e2, -⟩ | ⟨e, v, e2, -⟩ | ⟨e, a, b, e2, -⟩ <;> first | omega | (rw [e2] at c134; exact c134 rfl)
      obtain ⟨v, rfl⟩ := len1 (l := l) (by omega)
      have hN0 : N 0 = v := hNl 0 (by simp)
      refine x_aload_n D_4_add_137 rfl ?_
      refine x_aload_n D_4_add_138 rfl ?_
      refine x_iconst D_4_add_139 ?_
      refine x_iaload D_4_add_140 (by assumption) (by omega) (by omega) rfl ?_
      refine x_invV (d' := d - 1) D_4_add_141 l_4_63 mi_4_setWindow (c_4_setWindow (v := N 0) (by omega) hT) (hT.1) rfl rfl (by omega) rfl (fun q => q) rfl rfl (fun r141 h141 q141 => ?_)
      obtain ⟨rfl, hT2, hf2⟩ := q141
      rw [hN0] at hT2
      rw [show vi 1 = vi (bi True) from by rw [bi_t trivial]]
      refine x_if_eqb D_4_add_144 (fun c144 => ?_) (fun c144 => ?_)
      · refine x_iconst D_4_add_151 ?_
        refine x_ireturn D_4_add_152 rfl (by first | rfl | exact nb_bi _ | decide +kernel) rfl ?_
        first
        | exact absurd trivial c144
        | exact ⟨Or.inl ⟨_, Or.inr (Or.inr (Or.inr (Or.inl ⟨by omega, v, rfl, rfl⟩))), rfl, hT2⟩, hf2⟩
      refine x_iconst D_4_add_147 ?_
      refine x_goto D_4_add_148 ?_
      refine x_ireturn D_4_add_152 rfl (by first | rfl | exact nb_bi _ | decide +kernel) rfl ?_
      first
      | exact absurd trivial c144
      | exact ⟨Or.inl ⟨_, Or.inr (Or.inr (Or.inr (Or.inl ⟨by omega, v, rfl, rfl⟩))), rfl, hT2⟩, hf2⟩
    by_cases w9_100 : lt = 100
    · refine x_lsw D_4_add_9 (tgt := 153) (off := 144) ⟨by omega, by omega⟩ (by decide +kernel) (by rw [w9_100]; decide +kernel) (by omega) ?_
      refine x_iload_n D_4_add_153 rfl ?_
      refine x_iconst D_4_add_154 ?_
      refine x_icmp_ne D_4_add_155 ⟨by omega, by omega⟩ ⟨by omega, by omega⟩ (fun c155 => ?_) (fun c155 => ?_)
      · refine x_iconst D_4_add_175 ?_
        refine x_ireturn D_4_add_176 rfl nb_0 rfl ?_
        refine bad _ hfr hT fun T' e => ?_
        rcases e with ⟨e, v, e2, -⟩ | ⟨e, v, e2, -⟩ | ⟨e, a, b, c, k, e2, -⟩ | ⟨e, v, e2, -⟩ | ⟨e, a, b, e2, -⟩ <;> first | omega | (rw [e2] at c155; exact c155 rfl)
      obtain ⟨v0, v1, rfl⟩ := len2 (l := l) (by omega)
      have hv0 := hv v0 (by simp)
      have hv1 := hv v1 (by simp)
      have hN0 : N 0 = v0 := hNl 0 (by simp)
      have hN1 : N 1 = v1 := hNl 1 (by simp)
      refine x_aload_n D_4_add_158 rfl ?_
      refine x_aload_n D_4_add_159 rfl ?_
      refine x_iconst D_4_add_160 ?_
      refine x_iaload D_4_add_161 (by assumption) (by omega) (by omega) rfl ?_
      refine x_aload_n D_4_add_162 rfl ?_
      refine x_iconst D_4_add_163 ?_
      refine x_iaload D_4_add_164 (by assumption) (by omega) (by omega) rfl ?_
      refine x_invV (d' := d - 1) D_4_add_165 l_4_66 mi_4_addDish (c_4_addDish (a := N 0) (b := N 1) (by omega) hT hk (by rw [hN0]; exact hv0) (by rw [hN1]; exact hv1)) (hT.1) rfl rfl (by omega) rfl (fun q => q) rfl rfl (fun r165 h165 q165 => ?_)
      obtain ⟨rfl, hT2, hf2⟩ := q165
      rw [hN0, hN1] at hT2
      refine x_if_eqb D_4_add_168 (fun c168 => ?_) (fun c168 => ?_)
      · refine x_iconst D_4_add_175 ?_
        refine x_ireturn D_4_add_176 rfl (by first | rfl | exact nb_bi _ | decide +kernel) rfl ?_
        first
        | (rw [hN0, hN1] at c168; rw [if_pos c168] at hT2; exact ⟨Or.inl ⟨_, Or.inr (Or.inr (Or.inr (Or.inr ⟨by omega, v0, v1, rfl, c168, rfl⟩))), rfl, hT2⟩, hf2⟩)
        | (rw [hN0, hN1] at c168; rw [if_neg c168] at hT2; refine bad _ hf2 hT2 fun T' e => ?_; rcases e with ⟨e, -⟩ | ⟨e, -⟩ | ⟨e, -⟩ | ⟨e, -⟩ | ⟨e, a, b, e2, e3, -⟩ <;> first | omega | (cases e2; exact c168 e3))
      refine x_iconst D_4_add_171 ?_
      refine x_goto D_4_add_172 ?_
      refine x_ireturn D_4_add_176 rfl (by first | rfl | exact nb_bi _ | decide +kernel) rfl ?_
      first
      | (rw [hN0, hN1] at c168; rw [if_pos c168] at hT2; exact ⟨Or.inl ⟨_, Or.inr (Or.inr (Or.inr (Or.inr ⟨by omega, v0, v1, rfl, c168, rfl⟩))), rfl, hT2⟩, hf2⟩)
      | (rw [hN0, hN1] at c168; rw [if_neg c168] at hT2; refine bad _ hf2 hT2 fun T' e => ?_; rcases e with ⟨e, -⟩ | ⟨e, -⟩ | ⟨e, -⟩ | ⟨e, -⟩ | ⟨e, a, b, e2, e3, -⟩ <;> first | omega | (cases e2; exact c168 e3))
    by_cases w9_103 : lt = 103
    · refine x_lsw D_4_add_9 (tgt := 81) (off := 72) ⟨by omega, by omega⟩ (by decide +kernel) (by rw [w9_103]; decide +kernel) (by omega) ?_
      refine x_iload_n D_4_add_81 rfl ?_
      refine x_iconst D_4_add_82 ?_
      refine x_icmp_ne D_4_add_83 ⟨by omega, by omega⟩ ⟨by omega, by omega⟩ (fun c83 => ?_) (fun c83 => ?_)
      · refine x_iconst D_4_add_100 ?_
        refine x_ireturn D_4_add_101 rfl nb_0 rfl ?_
        refine bad _ hfr hT fun T' e => ?_
        rcases e with ⟨e, v, e2, -⟩ | ⟨e, v, e2, -⟩ | ⟨e, a, b, c, k, e2, -⟩ | ⟨e, v, e2, -⟩ | ⟨e, a, b, e2, -⟩ <;> first | omega | (rw [e2] at c83; exact c83 rfl)
      obtain ⟨v, rfl⟩ := len1 (l := l) (by omega)
      have hv0 := hv v (List.mem_singleton.mpr rfl)
      have hN0 : N 0 = v := hNl 0 (by simp)
      refine x_aload_n D_4_add_86 rfl ?_
      refine x_aload_n D_4_add_87 rfl ?_
      refine x_iconst D_4_add_88 ?_
      refine x_iaload D_4_add_89 (by assumption) (by omega) (by omega) rfl ?_
      refine x_invV (d' := d - 1) D_4_add_90 l_4_56 mi_4_addGrain (c_4_addGrain (v := N 0) (by omega) hT hk (by rw [hN0]; exact ⟨by omega, by omega⟩)) (hT.1) rfl rfl (by omega) rfl (fun q => q) rfl rfl (fun r90 h90 q90 => ?_)
      obtain ⟨rfl, hT2, hf2⟩ := q90
      rw [hN0] at hT2
      refine x_if_eqb D_4_add_93 (fun c93 => ?_) (fun c93 => ?_)
      · refine x_iconst D_4_add_100 ?_
        refine x_ireturn D_4_add_101 rfl (by first | rfl | exact nb_bi _ | decide +kernel) rfl ?_
        first
        | (rw [hN0] at c93; rw [if_pos c93] at hT2; exact ⟨Or.inl ⟨_, Or.inr (Or.inl ⟨by omega, v, rfl, c93, rfl⟩), rfl, hT2⟩, hf2⟩)
        | (rw [hN0] at c93; rw [if_neg c93] at hT2; refine bad _ hf2 hT2 fun T' e => ?_; rcases e with ⟨e, -⟩ | ⟨e, v', e2, e3, -⟩ | ⟨e, -⟩ | ⟨e, -⟩ | ⟨e, -⟩ <;> first | omega | (cases e2; exact c93 e3))
      refine x_iconst D_4_add_96 ?_
      refine x_goto D_4_add_97 ?_
      refine x_ireturn D_4_add_101 rfl (by first | rfl | exact nb_bi _ | decide +kernel) rfl ?_
      first
      | (rw [hN0] at c93; rw [if_pos c93] at hT2; exact ⟨Or.inl ⟨_, Or.inr (Or.inl ⟨by omega, v, rfl, c93, rfl⟩), rfl, hT2⟩, hf2⟩)
      | (rw [hN0] at c93; rw [if_neg c93] at hT2; refine bad _ hf2 hT2 fun T' e => ?_; rcases e with ⟨e, -⟩ | ⟨e, v', e2, e3, -⟩ | ⟨e, -⟩ | ⟨e, -⟩ | ⟨e, -⟩ <;> first | omega | (cases e2; exact c93 e3))
    by_cases w9_112 : lt = 112
    · refine x_lsw D_4_add_9 (tgt := 60) (off := 51) ⟨by omega, by omega⟩ (by decide +kernel) (by rw [w9_112]; decide +kernel) (by omega) ?_
      refine x_iload_n D_4_add_60 rfl ?_
      refine x_iconst D_4_add_61 ?_
      refine x_icmp_ne D_4_add_62 ⟨by omega, by omega⟩ ⟨by omega, by omega⟩ (fun c62 => ?_) (fun c62 => ?_)
      · refine x_iconst D_4_add_79 ?_
        refine x_ireturn D_4_add_80 rfl nb_0 rfl ?_
        refine bad _ hfr hT fun T' e => ?_
        rcases e with ⟨e, v, e2, -⟩ | ⟨e, v, e2, -⟩ | ⟨e, a, b, c, k, e2, -⟩ | ⟨e, v, e2, -⟩ | ⟨e, a, b, e2, -⟩ <;> first | omega | (rw [e2] at c62; exact c62 rfl)
      obtain ⟨v, rfl⟩ := len1 (l := l) (by omega)
      have hv0 := hv v (List.mem_singleton.mpr rfl)
      have hN0 : N 0 = v := hNl 0 (by simp)
      refine x_aload_n D_4_add_65 rfl ?_
      refine x_aload_n D_4_add_66 rfl ?_
      refine x_iconst D_4_add_67 ?_
      refine x_iaload D_4_add_68 (by assumption) (by omega) (by omega) rfl ?_
      refine x_invV (d' := d - 1) D_4_add_69 l_4_52 mi_4_addPerson (c_4_addPerson (v := N 0) (by omega) hT hk (by rw [hN0]; exact ⟨by omega, by omega⟩)) (hT.1) rfl rfl (by omega) rfl (fun q => q) rfl rfl (fun r69 h69 q69 => ?_)
      obtain ⟨rfl, hT2, hf2⟩ := q69
      rw [hN0] at hT2
      refine x_if_eqb D_4_add_72 (fun c72 => ?_) (fun c72 => ?_)
      · refine x_iconst D_4_add_79 ?_
        refine x_ireturn D_4_add_80 rfl (by first | rfl | exact nb_bi _ | decide +kernel) rfl ?_
        first
        | (rw [hN0] at c72; rw [if_pos c72] at hT2; exact ⟨Or.inl ⟨_, Or.inl ⟨by omega, v, rfl, c72, rfl⟩, rfl, hT2⟩, hf2⟩)
        | (rw [hN0] at c72; rw [if_neg c72] at hT2; refine bad _ hf2 hT2 fun T' e => ?_; rcases e with ⟨e, v', e2, e3, -⟩ | ⟨e, -⟩ | ⟨e, -⟩ | ⟨e, -⟩ | ⟨e, -⟩ <;> first | omega | (cases e2; exact c72 e3))
      refine x_iconst D_4_add_75 ?_
      refine x_goto D_4_add_76 ?_
      refine x_ireturn D_4_add_80 rfl (by first | rfl | exact nb_bi _ | decide +kernel) rfl ?_
      first
      | (rw [hN0] at c72; rw [if_pos c72] at hT2; exact ⟨Or.inl ⟨_, Or.inl ⟨by omega, v, rfl, c72, rfl⟩, rfl, hT2⟩, hf2⟩)
      | (rw [hN0] at c72; rw [if_neg c72] at hT2; refine bad _ hf2 hT2 fun T' e => ?_; rcases e with ⟨e, v', e2, e3, -⟩ | ⟨e, -⟩ | ⟨e, -⟩ | ⟨e, -⟩ | ⟨e, -⟩ <;> first | omega | (cases e2; exact c72 e3))
    by_cases w9_119 : lt = 119
    · refine x_lsw D_4_add_9 (tgt := 102) (off := 93) ⟨by omega, by omega⟩ (by decide +kernel) (by rw [w9_119]; decide +kernel) (by omega) ?_
      refine x_iload_n D_4_add_102 rfl ?_
      refine x_iconst D_4_add_103 ?_
      refine x_icmp_ne D_4_add_104 ⟨by omega, by omega⟩ ⟨by omega, by omega⟩ (fun c104 => ?_) (fun c104 => ?_)
      · refine x_iconst D_4_add_130 ?_
        refine x_ireturn D_4_add_131 rfl nb_0 rfl ?_
        refine bad _ hfr hT fun T' e => ?_
        rcases e with ⟨e, v, e2, -⟩ | ⟨e, v, e2, -⟩ | ⟨e, a, b, c, k, e2, -⟩ | ⟨e, v, e2, -⟩ | ⟨e, a, b, e2, -⟩ <;> first | omega | (rw [e2] at c104; exact c104 rfl)
      obtain ⟨v0, v1, v2, v3, rfl⟩ := len4 (l := l) (by omega)
      have hv0 := hv v0 (by simp)
      have hv1 := hv v1 (by simp)
      have hv2 := hv v2 (by simp)
      have hv3 := hv v3 (by simp)
      have hN0 : N 0 = v0 := hNl 0 (by simp)
      have hN1 : N 1 = v1 := hNl 1 (by simp)
      have hN2 : N 2 = v2 := hNl 2 (by simp)
      have hN3 : N 3 = v3 := hNl 3 (by simp)
      refine x_aload_n D_4_add_107 rfl ?_
      refine x_aload_n D_4_add_108 rfl ?_
      refine x_iconst D_4_add_109 ?_
      refine x_iaload D_4_add_110 (by assumption) (by omega) (by omega) rfl ?_
      refine x_aload_n D_4_add_111 rfl ?_
      refine x_iconst D_4_add_112 ?_
      refine x_iaload D_4_add_113 (by assumption) (by omega) (by omega) rfl ?_
      refine x_aload_n D_4_add_114 rfl ?_
      refine x_iconst D_4_add_115 ?_
      refine x_iaload D_4_add_116 (by assumption) (by omega) (by omega) rfl ?_
      refine x_aload_n D_4_add_117 rfl ?_
      refine x_iconst D_4_add_118 ?_
      refine x_iaload D_4_add_119 (by assumption) (by omega) (by omega) rfl ?_
      refine x_invV (d' := d - 1) D_4_add_120 l_4_59 mi_4_addSaying (c_4_addSaying (a := N 0) (b := N 1) (c := N 2) (k := N 3) (by omega) hT hk (by rw [hN0]; exact hv0) (by rw [hN1]; exact hv1) (by rw [hN2]; exact hv2) (by rw [hN3]; exact hv3)) (hT.1) rfl rfl (by omega) rfl (fun q => q) rfl rfl (fun r120 h120 q120 => ?_)
      obtain ⟨rfl, hT2, hf2⟩ := q120
      rw [hN0, hN1, hN2, hN3] at hT2
      refine x_if_eqb D_4_add_123 (fun c123 => ?_) (fun c123 => ?_)
      · refine x_iconst D_4_add_130 ?_
        refine x_ireturn D_4_add_131 rfl (by first | rfl | exact nb_bi _ | decide +kernel) rfl ?_
        first
        | (rw [hN0, hN1, hN2, hN3] at c123; rw [if_pos c123] at hT2; exact ⟨Or.inl ⟨_, Or.inr (Or.inr (Or.inl ⟨by omega, v0, v1, v2, v3, rfl, c123, rfl⟩)), rfl, hT2⟩, hf2⟩)
        | (rw [hN0, hN1, hN2, hN3] at c123; rw [if_neg c123] at hT2; refine bad _ hf2 hT2 fun T' e => ?_; rcases e with ⟨e, -⟩ | ⟨e, -⟩ | ⟨e, a, b, c, k, e2, e3, -⟩ | ⟨e, -⟩ | ⟨e, -⟩ <;> first | omega | (cases e2; exact c123 e3))
      refine x_iconst D_4_add_126 ?_
      refine x_goto D_4_add_127 ?_
      refine x_ireturn D_4_add_131 rfl (by first | rfl | exact nb_bi _ | decide +kernel) rfl ?_
      first
      | (rw [hN0, hN1, hN2, hN3] at c123; rw [if_pos c123] at hT2; exact ⟨Or.inl ⟨_, Or.inr (Or.inr (Or.inl ⟨by omega, v0, v1, v2, v3, rfl, c123, rfl⟩)), rfl, hT2⟩, hf2⟩)
      | (rw [hN0, hN1, hN2, hN3] at c123; rw [if_neg c123] at hT2; refine bad _ hf2 hT2 fun T' e => ?_; rcases e with ⟨e, -⟩ | ⟨e, -⟩ | ⟨e, a, b, c, k, e2, e3, -⟩ | ⟨e, -⟩ | ⟨e, -⟩ <;> first | omega | (cases e2; exact c123 e3))
    refine x_lsw D_4_add_9 (tgt := 177) (off := 168) ⟨by omega, by omega⟩ (by decide +kernel) (by simp [Op.lookupswitch.offset, Ne.symm w9_97, Ne.symm w9_100, Ne.symm w9_103, Ne.symm w9_112, Ne.symm w9_119]) (by omega) ?_
    refine x_iconst D_4_add_177 ?_
    refine x_ireturn D_4_add_178 rfl (by first | rfl | exact nb_bi _ | decide +kernel) rfl ?_
    refine bad _ hfr hT fun T' e => ?_
    rcases e with ⟨e, -⟩ | ⟨e, -⟩ | ⟨e, -⟩ | ⟨e, -⟩ | ⟨e, -⟩ <;> omega
  exact absurd c3 (by omega)
