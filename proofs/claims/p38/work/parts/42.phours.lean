/-! THE PURE SIDE: banquets are held and dropped by the class; hours -/
theorem pr_s {n : Nat} : pr (n + 1) = nI n := (rfl)
theorem GZ_eff {N k : Nat} {g : Nat → Int32} (hb : GB N g) (H : GZ g) (hk : k < 6) : GZ (effG g k) := by
  have hA := b_atb hb hk
  have h5 : iN (g (86 + k)) ≤ 5 := by
    rcases hA with q | ⟨n, q, q2⟩
    · rw [q]; decide +kernel
    · rw [q, i_clamp (by omega)]; exact q2
  have e : ∀ j, j < 30 ∨ 42 ≤ j → j ≠ 1 → j ≠ 98 → j ≠ 97 → j ≠ 93 → j ≠ 94 → effG g k j = g j := fun j h1 h2 h3 h4 h5' h6 => effG_o h2 h3 h4 h5' h6 (by omega) (by omega)
  have ez : ∀ j, j = 30 + iN (g (86 + k)) ∨ j = 36 + iN (g (86 + k)) → effG g k j = nI 0 ∨ effG g k j = g j := fun j hj => by
    unfold effG
    split
    · left
      simp only [upd_ap]
      rw [if_neg (by omega)]
      by_cases q : j = 30 + iN (g (86 + k))
      · rw [if_pos q]
      · rw [if_neg q, if_pos (by omega)]
    · right; rw [upd_ap, if_neg (by omega)]
  have eo : ∀ j, 30 ≤ j → j < 42 → effG g k j = nI 0 ∨ effG g k j = g j := fun j h1 h2 => by
    by_cases q : j = 30 + iN (g (86 + k)) ∨ j = 36 + iN (g (86 + k))
    · exact ez j q
    · right; exact effG_o (by omega) (by omega) (by omega) (by omega) (by omega) (by omega) (by omega)
  refine ⟨fun t h1 h2 => ?_, fun i h1 h2 => ?_, fun i h1 h2 => ?_⟩
  · rw [e 29 (by omega) (by omega) (by omega) (by omega) (by omega) (by omega)] at h2
    obtain ⟨a1, a2, a3⟩ := H.1 t h1 h2
    refine ⟨?_, ?_, ?_⟩
    · rcases eo (30 + t) (by omega) (by omega) with q | q
      · exact q
      · rw [q]; exact a1
    · rcases eo (36 + t) (by omega) (by omega) with q | q
      · exact q
      · rw [q]; exact a2
    · rw [e (42 + t) (by omega) (by omega) (by omega) (by omega) (by omega) (by omega)]; exact a3
  · rw [e 48 (by omega) (by omega) (by omega) (by omega) (by omega) (by omega)] at h2
    rw [e (53 + i) (by omega) (by omega) (by omega) (by omega) (by omega) (by omega), e (57 + i) (by omega) (by omega) (by omega) (by omega) (by omega) (by omega)]
    exact H.2.1 i h1 h2
  · rw [e 61 (by omega) (by omega) (by omega) (by omega) (by omega) (by omega)] at h2
    rw [e (74 + i) (by omega) (by omega) (by omega) (by omega) (by omega) (by omega)]
    exact H.2.2 i h1 h2
theorem GZ_dr {k : Nat} {g : Nat → Int32} (hB : iN (g 61) ≤ 6) (H : GZ g) : GZ (drG g k) := by
  refine ⟨fun t h1 h2 => ?_, fun i h1 h2 => ?_, fun i h1 h2 => ?_⟩
  · rw [drG_o (by omega)] at h2
    rw [drG_o (by omega), drG_o (by omega), drG_o (by omega)]; exact H.1 t h1 h2
  · rw [drG_o (by omega)] at h2
    rw [drG_o (by omega), drG_o (by omega)]; exact H.2.1 i h1 h2
  · rw [dr_61 hB] at h2
    unfold drG
    rw [if_neg (by omega)]
    split
    · rw [show 74 + i + 1 = 74 + (i + 1) by omega]; exact H.2.2 (i + 1) (by omega) (by omega)
    · exact H.2.2 i h1 (by omega)
section
variable {σ0 : gMem} {h N : Nat}
theorem cy_hold_L (hh : HF h) (hN : N ≤ 1000000) : ∀ (n k fuel X : Nat) (g : Nat → Int32) (σ : gMem), n < fuel → k + n = iN (g 61) → GB N g → GZ g → (∃ c : Nat, g 1 = nI c ∧ c ≤ X) → X + 200 * n ≤ 100 + 1200 * N → qF σ0 σ h g → ∃ σ', L_X2_holdBanquets_2 h fuel (nI k) σ = some ((), σ') ∧ qF σ0 σ' h (heG k n g) ∧ GB N (heG k n g) ∧ GZ (heG k n g) := by
  intro n
  induction n with
  | zero =>
    intro k fuel X g σ hf hk hb hz hc hX H
    obtain ⟨f, rfl⟩ : ∃ f, fuel = f + 1 := ⟨fuel - 1, by omega⟩
    have h6 := (n_B hb).2
    have e := e_B H hb
    refine ⟨σ, ?_, H, hb, hz⟩
    simp (disch := omega) only [neg1, li_0, li_1, li_2, li_3, li_4, li_5, li_6, li_7, li_8, li_9, li_10, li_11, li_12, li_13, li_14, li_15, li_16, li_20, li_23, li_24, li_26, li_29, li_30, li_36, li_39, li_40, li_42, li_43, li_47, li_48, li_49, li_50, li_53, li_57, li_58, li_59, li_60, li_61, li_62, li_64, li_68, li_71, li_72, li_74, li_80, li_86, li_92, li_93, li_94, li_95, li_96, li_97, li_98, li_99, li_100, li_104, li_108, li_110, li_115, li_116, li_160, li_200, li_220, li_300, li_9999, nI_add, nI_mul, p_clamp, p_le, p_lt, p_eq, p_m1lt, p_m1eq, p_m1ge, p_eqm1, i_clamp, p_leT, p_leF, p_ltT, p_ltF, p_eqT, p_eqF, or_self, or_false, false_or, or_true, true_or, not_false_eq_true, not_true_eq_false, ↓reduceIte, and_self, and_true, true_and, and_false, false_and, ↓gv_e, g1, g2, gnl, Nat.reduceAdd, Nat.add_zero, reduceCtorEq, L_X2_holdBanquets_2, e]
  | succ n ih =>
    intro k fuel X g σ hf hk hb hz hc hX H
    obtain ⟨f, rfl⟩ : ∃ f, fuel = f + 1 := ⟨fuel - 1, by omega⟩
    have h6 := (n_B hb).2
    have e := e_B H hb
    rw [heG]
    by_cases q : g (68 + k) = g 0
    · rw [if_pos q]
      obtain ⟨σ1, s1, s2⟩ := cy_eff hh hb hz hc (by omega) hN H (k := k) (by omega) f q
      obtain ⟨g1', g2'⟩ := GB_eff hb hc (by omega) hN (k := k) (by omega)
      rw [s1]
      exact ih (k + 1) f (X + 200) (effG g k) σ1 (by omega) (by rw [eff5_61 (wk5_of hb) (by omega)]; omega) g1' (GZ_eff hb hz (by omega)) g2' (by omega) s2
    · rw [if_neg q]
      obtain ⟨σ', i1, i2⟩ := ih (k + 1) f X g σ (by omega) (by omega) hb hz hc (by omega) H
      refine ⟨σ', ?_, i2⟩
      have e1 := r_whn H (i := k) (by omega) (by omega)
      have e2 := r_hour H
      simp (disch := omega) only [neg1, li_0, li_1, li_2, li_3, li_4, li_5, li_6, li_7, li_8, li_9, li_10, li_11, li_12, li_13, li_14, li_15, li_16, li_20, li_23, li_24, li_26, li_29, li_30, li_36, li_39, li_40, li_42, li_43, li_47, li_48, li_49, li_50, li_53, li_57, li_58, li_59, li_60, li_61, li_62, li_64, li_68, li_71, li_72, li_74, li_80, li_86, li_92, li_93, li_94, li_95, li_96, li_97, li_98, li_99, li_100, li_104, li_108, li_110, li_115, li_116, li_160, li_200, li_220, li_300, li_9999, nI_add, nI_mul, p_clamp, p_le, p_lt, p_eq, p_m1lt, p_m1eq, p_m1ge, p_eqm1, i_clamp, p_leT, p_leF, p_ltT, p_ltF, p_eqT, p_eqF, or_self, or_false, false_or, or_true, true_or, not_false_eq_true, not_true_eq_false, ↓reduceIte, and_self, and_true, true_and, and_false, false_and, ↓gv_e, g1, g2, gnl, Nat.reduceAdd, Nat.add_zero, reduceCtorEq, L_X2_holdBanquets_2, e, hh.2.2.2.2.2.2.1, e1, e2, q, i1]
def drM (g : Nat → Int32) (k i : Nat) : Nat → Int32 := fun j => if 62 ≤ j ∧ j < 92 ∧ k ≤ (j - 62) % 6 ∧ (j - 62) % 6 < i then g (j + 1) else g j
theorem c_cpB {cd cs : Nat} {σ : gMem} (hne : cd ≠ cs) : f_X0_copyFrom cd cs σ = some ((), ms (ms (ms (ms (ms σ cd 0 (σ cs 0)) cd 1 (σ cs 1)) cd 2 (σ cs 2)) cd 3 (σ cs 3)) cd 4 (σ cs 4)) := by
  have e : ∀ (s : gMem) j v, ms s cd j v cs = s cs := fun s j v => ms_cell (Ne.symm hne)
  unfold f_X0_copyFrom gv
  simp only [e]
theorem cy_drop_L (hh : HF h) {g : Nat → Int32} {k : Nat} (h61 : g 61 = nI (iN (g 61))) (h6 : iN (g 61) ≤ 6) : ∀ (n i fuel : Nat) (σ : gMem), n < fuel → i + n = iN (g 61) - 1 → k ≤ i → 0 < iN (g 61) → qF σ0 σ h (drM g k i) → ∃ σ', L_X2_dropBanquet_11 h fuel (nI i) σ = some ((), σ') ∧ qF σ0 σ' h (drG g k) := by
  intro n
  induction n with
  | zero =>
    intro i fuel σ hf hi hk h0 H
    obtain ⟨f, rfl⟩ : ∃ f, fuel = f + 1 := ⟨fuel - 1, by omega⟩
    have em : drM g k i 61 = g 61 := by unfold drM; rw [if_neg (by omega)]
    have e := r_nB H
    rw [em, h61] at e
    have e1 : nI (iN (g 61)) - nI 1 = nI (iN (g 61) - 1) := nI_sub (by omega)
    have h1 := w_nB H (nI (iN (g 61) - 1)) (by rw [i_clamp (by omega), em]; omega)
    refine ⟨ms σ h 10 (nI (iN (g 61) - 1)), ?_, qF_g h1 (fun j hj => ?_)⟩
    · simp (disch := omega) only [neg1, li_0, li_1, li_2, li_3, li_4, li_5, li_6, li_7, li_8, li_9, li_10, li_11, li_12, li_13, li_14, li_15, li_16, li_20, li_23, li_24, li_26, li_29, li_30, li_36, li_39, li_40, li_42, li_43, li_47, li_48, li_49, li_50, li_53, li_57, li_58, li_59, li_60, li_61, li_62, li_64, li_68, li_71, li_72, li_74, li_80, li_86, li_92, li_93, li_94, li_95, li_96, li_97, li_98, li_99, li_100, li_104, li_108, li_110, li_115, li_116, li_160, li_200, li_220, li_300, li_9999, nI_add, nI_mul, p_clamp, p_le, p_lt, p_eq, p_m1lt, p_m1eq, p_m1ge, p_eqm1, i_clamp, p_leT, p_leF, p_ltT, p_ltF, p_eqT, p_eqF, or_self, or_false, false_or, or_true, true_or, not_false_eq_true, not_true_eq_false, ↓reduceIte, and_self, and_true, true_and, and_false, false_and, ↓gv_e, g1, g2, gnl, Nat.reduceAdd, Nat.add_zero, reduceCtorEq, L_X2_dropBanquet_11, e, e1]
    · unfold drG drM
      rw [upd_ap]
      by_cases q : j = 61
      · rw [if_pos q, if_pos q]
      · rw [if_neg q, if_neg q, show i = iN (g 61) - 1 by omega]
  | succ n ih =>
    intro i fuel σ hf hi hk h0 H
    obtain ⟨f, rfl⟩ : ∃ f, fuel = f + 1 := ⟨fuel - 1, by omega⟩
    have em : drM g k i 61 = g 61 := by unfold drM; rw [if_neg (by omega)]
    have hl : i + 1 < iN (drM g k i 61) := by rw [em]; omega
    have e := r_nB H
    rw [em, h61] at e
    have e1 : nI (iN (g 61)) - nI 1 = nI (iN (g 61) - 1) := nI_sub (by omega)
    have a0 := r_num H (i := i + 1) (by omega) hl
    have a1 := r_whn H (i := i + 1) (by omega) hl
    have a2 := r_wnt H (i := i + 1) (by omega) hl
    have a3 := r_brg H (i := i + 1) (by omega) hl
    have a4 := r_atb H (i := i + 1) (by omega) hl
    have c := c_cpB (σ := σ) (cd := (h + 6) + (23 + i)) (cs := (h + 6) + (23 + (i + 1))) (by omega)
    rw [a0, a1, a2, a3, a4] at c
    have h1 := w_num H (i := i) (by omega) (drM g k i (62 + (i + 1)))
    have h2 := w_whn h1 (i := i) (by omega) (drM g k i (68 + (i + 1)))
    have h3 := w_wnt h2 (i := i) (by omega) (drM g k i (74 + (i + 1)))
    have h4 := w_brg h3 (i := i) (by omega) (drM g k i (80 + (i + 1)))
    have h5 := w_atb h4 (i := i) (by omega) (drM g k i (86 + (i + 1)))
    have hg := qF_g h5 (g' := drM g k (i + 1)) (fun j hj => by
      have ed : ∀ p, p < 5 → drM g k i (62 + 6 * p + (i + 1)) = g (62 + 6 * p + (i + 1)) := fun p hp => by unfold drM; rw [if_neg (by omega)]
      have d0 := ed 0 (by omega)
      have d1 := ed 1 (by omega)
      have d2 := ed 2 (by omega)
      have d3 := ed 3 (by omega)
      have d4 := ed 4 (by omega)
      simp only [Nat.mul_zero, Nat.add_zero, Nat.mul_one, Nat.reduceMul, Nat.reduceAdd] at d0 d1 d2 d3 d4
      simp only [upd_ap]
      rw [d0, d1, d2, d3, d4]
      by_cases q0 : j = 86 + i
      · rw [if_pos q0]; unfold drM; rw [if_pos (by omega), q0]; congr 1
      · rw [if_neg q0]
        by_cases q1 : j = 80 + i
        · rw [if_pos q1]; unfold drM; rw [if_pos (by omega), q1]; congr 1
        · rw [if_neg q1]
          by_cases q2 : j = 74 + i
          · rw [if_pos q2]; unfold drM; rw [if_pos (by omega), q2]; congr 1
          · rw [if_neg q2]
            by_cases q3 : j = 68 + i
            · rw [if_pos q3]; unfold drM; rw [if_pos (by omega), q3]; congr 1
            · rw [if_neg q3]
              by_cases q4 : j = 62 + i
              · rw [if_pos q4]; unfold drM; rw [if_pos (by omega), q4]; congr 1
              · rw [if_neg q4]; unfold drM
                by_cases q5 : 62 ≤ j ∧ j < 92 ∧ k ≤ (j - 62) % 6 ∧ (j - 62) % 6 < i
                · rw [if_pos q5, if_pos (by omega)]
                · rw [if_neg q5, if_neg (by omega)])
    obtain ⟨σ', i1, i2⟩ := ih (i + 1) f _ (by omega) (by omega) (by omega) h0 hg
    refine ⟨σ', ?_, i2⟩
    simp (disch := omega) only [neg1, li_0, li_1, li_2, li_3, li_4, li_5, li_6, li_7, li_8, li_9, li_10, li_11, li_12, li_13, li_14, li_15, li_16, li_20, li_23, li_24, li_26, li_29, li_30, li_36, li_39, li_40, li_42, li_43, li_47, li_48, li_49, li_50, li_53, li_57, li_58, li_59, li_60, li_61, li_62, li_64, li_68, li_71, li_72, li_74, li_80, li_86, li_92, li_93, li_94, li_95, li_96, li_97, li_98, li_99, li_100, li_104, li_108, li_110, li_115, li_116, li_160, li_200, li_220, li_300, li_9999, nI_add, nI_mul, p_clamp, p_le, p_lt, p_eq, p_m1lt, p_m1eq, p_m1ge, p_eqm1, i_clamp, p_leT, p_leF, p_ltT, p_ltF, p_eqT, p_eqF, or_self, or_false, false_or, or_true, true_or, not_false_eq_true, not_true_eq_false, ↓reduceIte, and_self, and_true, true_and, and_false, false_and, ↓gv_e, g1, g2, gnl, Nat.reduceAdd, Nat.add_zero, reduceCtorEq, L_X2_dropBanquet_11, e, e1, hh.2.2.2.2.2.2.1, c]
    exact i1
theorem cy_drop (hh : HF h) {g : Nat → Int32} {σ : gMem} {k : Nat} (hb : GB N g) (H : qF σ0 σ h g) (hk : k < iN (g 61)) : ∃ σ', f_X2_dropBanquet h (nI k) σ = some ((), σ') ∧ qF σ0 σ' h (drG g k) := by
  obtain ⟨h61, h6⟩ := n_B hb
  have e := c_banqAt H hh hb hk
  have e0 : drM g k k = g := by funext j; unfold drM; rw [if_neg (by omega)]
  obtain ⟨σ', i1, i2⟩ := cy_drop_L hh (g := g) (k := k) h61 h6 (iN (g 61) - 1 - k) k gF σ (by unfold gF; omega) (by omega) (Nat.le_refl k) (by omega) (by rw [e0]; exact H)
  refine ⟨σ', ?_, i2⟩
  unfold f_X2_dropBanquet
  refine (g1_e e).trans ?_
  show (if gk ((h + 6) + (23 + k)) = 0 then _ else none) = _
  rw [if_pos (hh.2.2.2.2.2.2.2.2.2 k (by omega))]
  exact i1
theorem cy_dh_L (hh : HF h) : ∀ (n fuel : Nat) (g : Nat → Int32) (σ : gMem), n < fuel → n ≤ 6 → GB N g → qF σ0 σ h g → ∃ σ', L_X2_dropHeldBanquets_2 h fuel (pr n) σ = some ((), σ') ∧ qF σ0 σ' h (ddG n g) := by
  intro n
  induction n with
  | zero =>
    intro fuel g σ hf hn hb H
    obtain ⟨f, rfl⟩ : ∃ f, fuel = f + 1 := ⟨fuel - 1, by omega⟩
    exact ⟨σ, by rw [L_X2_dropHeldBanquets_2, if_pos (by decide +kernel)], H⟩
  | succ n ih =>
    intro fuel g σ hf hn hb H
    obtain ⟨f, rfl⟩ : ∃ f, fuel = f + 1 := ⟨fuel - 1, by omega⟩
    have h6 := (n_B hb).2
    have e := e_B H hb
    have e2 := r_hour H
    rw [ddG]
    by_cases q0 : n < iN (g 61)
    · have e1 := r_whn H (i := n) (by omega) q0
      by_cases q : g (68 + n) = g 0
      · rw [if_pos ⟨q0, q⟩]
        obtain ⟨σ1, s1, s2⟩ := cy_drop hh hb H q0
        obtain ⟨σ', i1, i2⟩ := ih f (drG g n) σ1 (by omega) (by omega) (GB_drG hb q0) s2
        refine ⟨σ', ?_, i2⟩
        simp (disch := omega) only [neg1, li_0, li_1, li_2, li_3, li_4, li_5, li_6, li_7, li_8, li_9, li_10, li_11, li_12, li_13, li_14, li_15, li_16, li_20, li_23, li_24, li_26, li_29, li_30, li_36, li_39, li_40, li_42, li_43, li_47, li_48, li_49, li_50, li_53, li_57, li_58, li_59, li_60, li_61, li_62, li_64, li_68, li_71, li_72, li_74, li_80, li_86, li_92, li_93, li_94, li_95, li_96, li_97, li_98, li_99, li_100, li_104, li_108, li_110, li_115, li_116, li_160, li_200, li_220, li_300, li_9999, nI_add, nI_mul, p_clamp, p_le, p_lt, p_eq, p_m1lt, p_m1eq, p_m1ge, p_eqm1, i_clamp, p_leT, p_leF, p_ltT, p_ltF, p_eqT, p_eqF, or_self, or_false, false_or, or_true, true_or, not_false_eq_true, not_true_eq_false, ↓reduceIte, and_self, and_true, true_and, and_false, false_and, ↓gv_e, g1, g2, gnl, Nat.reduceAdd, Nat.add_zero, reduceCtorEq, L_X2_dropHeldBanquets_2, pr_s, e, hh.2.2.2.2.2.2.1, e1, e2, q, s1, pr_pred, i1]
      · rw [if_neg (fun p => q p.2)]
        obtain ⟨σ', i1, i2⟩ := ih f g σ (by omega) (by omega) hb H
        refine ⟨σ', ?_, i2⟩
        simp (disch := omega) only [neg1, li_0, li_1, li_2, li_3, li_4, li_5, li_6, li_7, li_8, li_9, li_10, li_11, li_12, li_13, li_14, li_15, li_16, li_20, li_23, li_24, li_26, li_29, li_30, li_36, li_39, li_40, li_42, li_43, li_47, li_48, li_49, li_50, li_53, li_57, li_58, li_59, li_60, li_61, li_62, li_64, li_68, li_71, li_72, li_74, li_80, li_86, li_92, li_93, li_94, li_95, li_96, li_97, li_98, li_99, li_100, li_104, li_108, li_110, li_115, li_116, li_160, li_200, li_220, li_300, li_9999, nI_add, nI_mul, p_clamp, p_le, p_lt, p_eq, p_m1lt, p_m1eq, p_m1ge, p_eqm1, i_clamp, p_leT, p_leF, p_ltT, p_ltF, p_eqT, p_eqF, or_self, or_false, false_or, or_true, true_or, not_false_eq_true, not_true_eq_false, ↓reduceIte, and_self, and_true, true_and, and_false, false_and, ↓gv_e, g1, g2, gnl, Nat.reduceAdd, Nat.add_zero, reduceCtorEq, L_X2_dropHeldBanquets_2, pr_s, e, hh.2.2.2.2.2.2.1, e1, e2, q, pr_pred, i1]
    · rw [if_neg (fun p => q0 p.1)]
      obtain ⟨σ', i1, i2⟩ := ih f g σ (by omega) (by omega) hb H
      refine ⟨σ', ?_, i2⟩
      simp (disch := omega) only [neg1, li_0, li_1, li_2, li_3, li_4, li_5, li_6, li_7, li_8, li_9, li_10, li_11, li_12, li_13, li_14, li_15, li_16, li_20, li_23, li_24, li_26, li_29, li_30, li_36, li_39, li_40, li_42, li_43, li_47, li_48, li_49, li_50, li_53, li_57, li_58, li_59, li_60, li_61, li_62, li_64, li_68, li_71, li_72, li_74, li_80, li_86, li_92, li_93, li_94, li_95, li_96, li_97, li_98, li_99, li_100, li_104, li_108, li_110, li_115, li_116, li_160, li_200, li_220, li_300, li_9999, nI_add, nI_mul, p_clamp, p_le, p_lt, p_eq, p_m1lt, p_m1eq, p_m1ge, p_eqm1, i_clamp, p_leT, p_leF, p_ltT, p_ltF, p_eqT, p_eqF, or_self, or_false, false_or, or_true, true_or, not_false_eq_true, not_true_eq_false, ↓reduceIte, and_self, and_true, true_and, and_false, false_and, ↓gv_e, g1, g2, gnl, Nat.reduceAdd, Nat.add_zero, reduceCtorEq, L_X2_dropHeldBanquets_2, pr_s, e, pr_pred, i1]
theorem GZ_hr4 {g : Nat → Int32} (hb : GB N g) (H : GZ g) : GZ (hr4 g) := by
  have h6 := (n_W hb).2
  have h4 := (n_T hb).2
  have e : ∀ j, j ≠ 0 → j ≠ 96 → (j < 30 ∨ 30 + iN (g 29) ≤ j) → (j < 36 ∨ 36 + iN (g 29) ≤ j) → (j < 42 ∨ 42 + iN (g 29) ≤ j) → (j < 53 ∨ 53 + iN (g 48) ≤ j) → hr4 g j = g j := fun j h0 h1 h2 h3 h4' h5 => by
    unfold hr4 hr3 hr2 hr1
    rw [upd_ap, if_neg h0, rstL_o _ _ _ (by omega), brkS_o _ _ _ h1 (by omega) (by omega), dmpL_o _ _ _ (by omega)]
  exact GZ_g H (e 29 (by omega) (by omega) (by omega) (by omega) (by omega) (by omega)) (e 48 (by omega) (by omega) (by omega) (by omega) (by omega) (by omega)) (e 61 (by omega) (by omega) (by omega) (by omega) (by omega) (by omega))
    (fun t h1 h2 => ⟨e _ (by omega) (by omega) (by omega) (by omega) (by omega) (by omega), e _ (by omega) (by omega) (by omega) (by omega) (by omega) (by omega), e _ (by omega) (by omega) (by omega) (by omega) (by omega) (by omega)⟩)
    (fun t h1 h2 => ⟨e _ (by omega) (by omega) (by omega) (by omega) (by omega) (by omega), e _ (by omega) (by omega) (by omega) (by omega) (by omega) (by omega)⟩)
    (fun k _ => e _ (by omega) (by omega) (by omega) (by omega) (by omega) (by omega))
theorem GZ_hlG (hN : N ≤ 1000000) : ∀ (n k X : Nat) (g : Nat → Int32), k + n = iN (g 61) → GB N g → GZ g → (∃ c : Nat, g 1 = nI c ∧ c ≤ X) → X + 200 * n ≤ 100 + 1200 * N → GZ (hlG k n g) := by
  intro n
  induction n with
  | zero => intro k X g _ _ h _ _; exact h
  | succ n ih =>
    intro k X g hk hb hz hc hX
    have h6 := (n_B hb).2
    rw [hlG]
    by_cases q : g (68 + k) = g 0
    · rw [if_pos q]
      obtain ⟨g1', g2'⟩ := GB_eff hb hc (by omega) hN (k := k) (by omega)
      have e61 : effG g k 61 = g 61 := eff5_61 (wk5_of hb) (by omega)
      have h1 : drG (effG g k) k 1 = effG g k 1 := drG_o (by omega)
      exact ih k (X + 200) _ (by rw [dr_61 (by rw [e61]; exact h6), e61]; omega) (GB_drG g1' (by rw [e61]; omega)) (GZ_dr (by rw [e61]; exact h6) (GZ_eff hb hz (by omega))) (by rw [h1]; exact g2') (by omega)
    · rw [if_neg q]
      exact ih (k + 1) X g (by omega) hb hz hc (by omega)
theorem GI_hour {g : Nat → Int32} (H : GI N g) (hN : N + 1 ≤ 1000000) : GI (N + 1) (hrG g) := by
  obtain ⟨-, -, -, b4, e61, e1⟩ := GB_hr4 H.1 hN
  obtain ⟨c, hc, hc2⟩ := b_coin H.1
  have h6 := (n_B H.1).2
  exact ⟨GB_hrG H.1 hN, GZ_hlG hN (iN (g 61)) 0 (100 + 1200 * N) (hr4 g) (by rw [e61]; omega) b4 (GZ_hr4 H.1 H.2) ⟨c, by rw [e1]; exact hc, hc2⟩ (by omega)⟩
theorem cy_hour (hh : HF h) {g : Nat → Int32} {σ : gMem} (hb : GI N g) (hN : N + 1 ≤ 1000000) (H : qF σ0 σ h g) {u f : Nat} (a : Int32) {i : Nat} (hi : i < u) (hu : u < 1000) : ∃ σ', L_X2_letHoursGoBy_4 h (nI u) (f + 1) a (nI i) σ = L_X2_letHoursGoBy_4 h (nI u) f (a + hrA g (nI 0)) (nI (i + 1)) σ' ∧ qF σ0 σ' h (hrG g) := by
  obtain ⟨b1, b2, b3, b4, e61, e1⟩ := GB_hr4 hb.1 hN
  obtain ⟨c, hc, hc2⟩ := b_coin hb.1
  have h6 := (n_B hb.1).2
  have h6W := (n_W hb.1).2
  obtain ⟨σ1, s1, t1⟩ := cy_dmp hh hb.1 (by omega) H
  obtain ⟨σ2, s2, t2⟩ := cy_brk hh b1 t1
  have eW : hr1 g 29 = g 29 := by unfold hr1; exact dmpL_o _ _ _ (by omega)
  rw [eW] at s2 t2
  have eT : hr2 g 48 = g 48 := by unfold hr2 hr1; rw [brkS_o _ _ _ (by omega) (by omega) (by omega), dmpL_o _ _ _ (by omega)]
  have t2 : qF σ0 σ2 h (hr2 g) := t2
  obtain ⟨σ3, s3, t3⟩ := cy_rst hh b2 t2
  rw [eT] at t3
  have t3 : qF σ0 σ3 h (hr3 g) := t3
  have t4 := w_hour t3 (hr3 g 0 + nI 1)
  have t4 : qF σ0 (ms σ3 h 0 (hr3 g 0 + nI 1)) h (hr4 g) := t4
  have e3 := r_hour t3
  obtain ⟨σ5, s5, t5, b5, z5⟩ := cy_hold_L hh hN (iN (g 61)) 0 gF (100 + 1200 * N) (hr4 g) (ms σ3 h 0 (hr3 g 0 + nI 1)) (by unfold gF; omega) (by rw [e61]; omega) b4 (GZ_hr4 hb.1 hb.2) ⟨c, by rw [e1]; exact hc, hc2⟩ (by omega) t4
  obtain ⟨σ6, s6, t6⟩ := cy_dh_L hh 6 gF (heG 0 (iN (g 61)) (hr4 g)) σ5 (by unfold gF; omega) (Nat.le_refl 6) b5 t5
  have hl := lvE_hold (wk5_of b4)
  rw [e61] at hl
  have t7 : qF σ0 σ6 h (hrG g) := lvE_qF t6 hl
  have s5' : f_X2_holdBanquets h (ms σ3 h 0 (hr3 g 0 + nI 1)) = some ((), σ5) := by unfold f_X2_holdBanquets; rw [li_0]; exact s5
  have s6' : f_X2_dropHeldBanquets h σ5 = some ((), σ6) := by unfold f_X2_dropHeldBanquets; rw [li_5]; exact s6
  have sA : brkA 0 (iN (g 29)) (nI 0) (hr1 g) = hrA g (nI 0) := rfl
  rw [sA] at s2
  refine ⟨σ6, ?_, t7⟩
  rw [L_X2_letHoursGoBy_4]
  simp (disch := omega) only [neg1, li_0, li_1, li_2, li_3, li_4, li_5, li_6, li_7, li_8, li_9, li_10, li_11, li_12, li_13, li_14, li_15, li_16, li_20, li_23, li_24, li_26, li_29, li_30, li_36, li_39, li_40, li_42, li_43, li_47, li_48, li_49, li_50, li_53, li_57, li_58, li_59, li_60, li_61, li_62, li_64, li_68, li_71, li_72, li_74, li_80, li_86, li_92, li_93, li_94, li_95, li_96, li_97, li_98, li_99, li_100, li_104, li_108, li_110, li_115, li_116, li_160, li_200, li_220, li_300, li_9999, nI_add, nI_mul, p_clamp, p_le, p_lt, p_eq, p_m1lt, p_m1eq, p_m1ge, p_eqm1, i_clamp, p_leT, p_leF, p_ltT, p_ltF, p_eqT, p_eqF, or_self, or_false, false_or, or_true, true_or, not_false_eq_true, not_true_eq_false, ↓reduceIte, and_self, and_true, true_and, and_false, false_and, ↓gv_e, g1, g2, gnl, Nat.reduceAdd, Nat.add_zero, reduceCtorEq, s1, s2, s3, e3, s5', s6']
theorem cy_hours_L (hh : HF h) {u : Nat} (hu : u < 1000) : ∀ (n i fuel N : Nat) (a : Int32) (g : Nat → Int32) (σ : gMem), n < fuel → i + n = u → GI N g → N + n ≤ 1000000 → qF σ0 σ h g → ∃ σ', L_X2_letHoursGoBy_4 h (nI u) fuel a (nI i) σ = some (psA n a g, σ') ∧ qF σ0 σ' h (psS n g) := by
  intro n
  induction n with
  | zero =>
    intro i fuel N a g σ hf hi hb hN H
    obtain ⟨f, rfl⟩ : ∃ f, fuel = f + 1 := ⟨fuel - 1, by omega⟩
    refine ⟨σ, ?_, H⟩
    simp (disch := omega) only [neg1, li_0, li_1, li_2, li_3, li_4, li_5, li_6, li_7, li_8, li_9, li_10, li_11, li_12, li_13, li_14, li_15, li_16, li_20, li_23, li_24, li_26, li_29, li_30, li_36, li_39, li_40, li_42, li_43, li_47, li_48, li_49, li_50, li_53, li_57, li_58, li_59, li_60, li_61, li_62, li_64, li_68, li_71, li_72, li_74, li_80, li_86, li_92, li_93, li_94, li_95, li_96, li_97, li_98, li_99, li_100, li_104, li_108, li_110, li_115, li_116, li_160, li_200, li_220, li_300, li_9999, nI_add, nI_mul, p_clamp, p_le, p_lt, p_eq, p_m1lt, p_m1eq, p_m1ge, p_eqm1, i_clamp, p_leT, p_leF, p_ltT, p_ltF, p_eqT, p_eqF, or_self, or_false, false_or, or_true, true_or, not_false_eq_true, not_true_eq_false, ↓reduceIte, and_self, and_true, true_and, and_false, false_and, ↓gv_e, g1, g2, gnl, Nat.reduceAdd, Nat.add_zero, reduceCtorEq, L_X2_letHoursGoBy_4, psA]
  | succ n ih =>
    intro i fuel N a g σ hf hi hb hN H
    obtain ⟨f, rfl⟩ : ∃ f, fuel = f + 1 := ⟨fuel - 1, by omega⟩
    obtain ⟨σ1, s1, t1⟩ := cy_hour hh hb (by omega) H (u := u) (f := f) a (i := i) (by omega) hu
    rw [s1]
    exact ih (i + 1) f (N + 1) _ _ σ1 (by omega) (by omega) (GI_hour hb (by omega)) (by omega) t1
theorem cy_hours (hh : HF h) {u : Nat} (hu : u ≤ 72) {g : Nat → Int32} {σ : gMem} (hb : GI N g) (hN : N + 72 ≤ 1000000) (H : qF σ0 σ h g) : ∃ σ', f_X2_letHoursGoBy h (nI u) σ = some (psA u (nI 0) g, σ') ∧ qF σ0 σ' h (psS u g) := by
  unfold f_X2_letHoursGoBy
  rw [li_0]
  exact cy_hours_L hh (by omega) u 0 gF N (nI 0) g σ (by unfold gF; omega) (by omega) hb (by omega) H
theorem GI_psS : ∀ (n N : Nat) (g : Nat → Int32), GI N g → N + n ≤ 1000000 → GI (N + n) (psS n g) := by
  intro n
  induction n with
  | zero => intro N g h _; exact h
  | succ n ih =>
    intro N g h hN
    rw [psS, show N + (n + 1) = N + 1 + n by omega]
    exact ih (N + 1) _ (GI_hour h (by omega)) (by omega)
end

