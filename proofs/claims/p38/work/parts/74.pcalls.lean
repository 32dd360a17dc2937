/-! THE PURE SIDE OF THE LAW: calls that change -/
theorem gcx_0 {k : Nat} {v : Int32} {s : gMem} : gcx k (some (0, v, s)) = some (v, s) := (rfl)
theorem gcx_3 {v : Int32} {s : gMem} : gcx 3 (some (3, v, s)) = some ((-1 : Int32), s) := (rfl)
section
variable {N cnt n : Nat} {σ : gMem} {g f t : Nat → Int32} {gs : Option (Nat → Int32)}
theorem d_humidity (H : CR N σ g f cnt gs n t) {i w : Nat} (hi : i < 24) (hw : w ≤ 99) : ∃ σ', f_X8_humidity 0 (nI i) (nI w) σ = some (0, g (2 + i), σ') ∧ CR N σ' (upd g (2 + i) (nI w)) (KH f g cnt) (K8 cnt) gs n t := by
  have e1 := c_btw (nI 0) (nI i) (nI 23) σ
  have e2 := c_btw (nI 0) (nI w) (nI 99) σ
  rw [if_pos ⟨by rw [p_le (by omega) (by omega)]; omega, by rw [p_le (by omega) (by omega)]; omega⟩] at e1 e2
  obtain ⟨σk, hk, -, H2⟩ := ch_pre H
  have s2 := w_hum (CR_F H2) (i := i) (by omega) (nI w)
  have r := r_hum (CR_F H2) (i := i) (by omega)
  have fm := p_fmod (a := i) (b := 24) (by omega) (by decide) (by decide) σk
  rw [Nat.mod_eq_of_lt (by omega)] at fm
  refine ⟨ms σk (1 + 1) i (nI w), ?_, ch_post H2 s2 (GA_hum (CR_G H) hi hw) (Nat.le_refl _)⟩
  unfold f_X8_humidity f_X2_setHumidity
  simp (disch := omega) only [neg1, li_0, li_1, li_2, li_3, li_4, li_5, li_6, li_7, li_8, li_9, li_10, li_11, li_12, li_13, li_14, li_15, li_16, li_20, li_23, li_24, li_26, li_29, li_30, li_36, li_39, li_40, li_42, li_43, li_47, li_48, li_49, li_50, li_53, li_57, li_58, li_59, li_60, li_61, li_62, li_64, li_68, li_71, li_72, li_74, li_80, li_86, li_92, li_93, li_94, li_95, li_96, li_97, li_98, li_99, li_100, li_104, li_108, li_110, li_115, li_116, li_160, li_200, li_220, li_300, li_9999, nI_add, nI_mul, p_clamp, p_le, p_lt, p_eq, p_m1lt, p_m1eq, p_m1ge, p_eqm1, i_clamp, p_leT, p_leF, p_ltT, p_ltF, p_eqT, p_eqF, or_self, or_false, false_or, or_true, true_or, not_false_eq_true, not_true_eq_false, ↓reduceIte, and_self, and_true, true_and, and_false, false_and, ↓gv_e, g1, g2, gnl, Nat.reduceAdd, Nat.add_zero, reduceCtorEq, e1, e2, hk, fm, HF_1.2.1, r]
theorem d_tongs (H : CR N σ g f cnt gs n t) {T w : Nat} (hT : iN (g 48) = T) (h4 : T < 4) (hw1 : 1 ≤ w) (hw : w ≤ 10) : ∃ σ', f_X8_tongs 0 (nI w) σ = some (0, nI T, σ') ∧ CR N σ' (tonG g T (nI w)) (KH f g cnt) (K8 cnt) gs n t := by
  have e1 := c_btw (nI 1) (nI w) (nI 10) σ
  rw [if_pos ⟨by rw [p_le (by omega) (by omega)]; omega, by rw [p_le (by omega) (by omega)]; omega⟩] at e1
  have e0 := e_T (CR_F H) (CR_B H)
  rw [hT] at e0
  obtain ⟨σk, hk, -, H2⟩ := ch_pre H
  obtain ⟨σ', s1, s2⟩ := c_addTongs (CR_F H2) HF_1 (CR_B H) (CR_Z H) hT h4 (nI w)
  refine ⟨σ', ?_, ch_post H2 s2 (GA_ton (CR_G H) hT h4 hw) (Nat.le_refl _)⟩
  unfold f_X8_tongs
  simp (disch := omega) only [neg1, li_0, li_1, li_2, li_3, li_4, li_5, li_6, li_7, li_8, li_9, li_10, li_11, li_12, li_13, li_14, li_15, li_16, li_20, li_23, li_24, li_26, li_29, li_30, li_36, li_39, li_40, li_42, li_43, li_47, li_48, li_49, li_50, li_53, li_57, li_58, li_59, li_60, li_61, li_62, li_64, li_68, li_71, li_72, li_74, li_80, li_86, li_92, li_93, li_94, li_95, li_96, li_97, li_98, li_99, li_100, li_104, li_108, li_110, li_115, li_116, li_160, li_200, li_220, li_300, li_9999, nI_add, nI_mul, p_clamp, p_le, p_lt, p_eq, p_m1lt, p_m1eq, p_m1ge, p_eqm1, i_clamp, p_leT, p_leF, p_ltT, p_ltF, p_eqT, p_eqF, or_self, or_false, false_or, or_true, true_or, not_false_eq_true, not_true_eq_false, ↓reduceIte, and_self, and_true, true_and, and_false, false_and, ↓gv_e, g1, g2, gnl, Nat.reduceAdd, Nat.add_zero, reduceCtorEq, e1, e0, hk, s1]
theorem d_tower (H : CR N σ g f cnt gs n t) {W : Nat} (hW : iN (g 29) = W) (h6 : W < 6) : ∃ σ', f_X8_tower 0 σ = some (0, nI W, σ') ∧ CR N σ' (towG g W) (KH f g cnt) (K8 cnt) gs n t := by
  have e0 := e_W (CR_F H) (CR_B H)
  rw [hW] at e0
  obtain ⟨σk, hk, -, H2⟩ := ch_pre H
  obtain ⟨σ', s1, s2⟩ := c_addTower (CR_F H2) HF_1 (CR_B H) (CR_Z H) hW h6
  refine ⟨σ', ?_, ch_post H2 s2 (GA_tow (CR_G H) hW h6) (Nat.le_refl _)⟩
  unfold f_X8_tower
  simp (disch := omega) only [neg1, li_0, li_1, li_2, li_3, li_4, li_5, li_6, li_7, li_8, li_9, li_10, li_11, li_12, li_13, li_14, li_15, li_16, li_20, li_23, li_24, li_26, li_29, li_30, li_36, li_39, li_40, li_42, li_43, li_47, li_48, li_49, li_50, li_53, li_57, li_58, li_59, li_60, li_61, li_62, li_64, li_68, li_71, li_72, li_74, li_80, li_86, li_92, li_93, li_94, li_95, li_96, li_97, li_98, li_99, li_100, li_104, li_108, li_110, li_115, li_116, li_160, li_200, li_220, li_300, li_9999, nI_add, nI_mul, p_clamp, p_le, p_lt, p_eq, p_m1lt, p_m1eq, p_m1ge, p_eqm1, i_clamp, p_leT, p_leF, p_ltT, p_ltF, p_eqT, p_eqF, or_self, or_false, false_or, or_true, true_or, not_false_eq_true, not_true_eq_false, ↓reduceIte, and_self, and_true, true_and, and_false, false_and, ↓gv_e, g1, g2, gnl, Nat.reduceAdd, Nat.add_zero, reduceCtorEq, e0, hk, s1]
theorem isP_ok {i q : Nat} (hi : i < 3) (hq1 : 1 ≤ q) (hq : q ≤ 99) : (nI 0 ≤ nI i ∧ nI i ≤ nI 2) ∧ (nI 1 ≤ nI q ∧ nI q ≤ nI 99) := by
  refine ⟨⟨?_, ?_⟩, ?_, ?_⟩ <;> rw [p_le (by omega) (by omega)] <;> omega
theorem isC_ok {i q : Nat} (hi : i < 3) (hq1 : 1 ≤ q) (hq : q ≤ 20) : (nI 0 ≤ nI i ∧ nI i ≤ nI 2) ∧ (nI 1 ≤ nI q ∧ nI q ≤ nI 20) := by
  refine ⟨⟨?_, ?_⟩, ?_, ?_⟩ <;> rw [p_le (by omega) (by omega)] <;> omega
/-- buy: why not, or what then -/
def byR (g : Nat → Int32) (i q : Nat) : Int32 := if nI 300 < g (26 + i) + nI q then nI 3 else if g 1 < nI (q * (i + 1)) then nI 2 else nI 0
def byD (g : Nat → Int32) (i q : Nat) : Int32 := if nI 300 < g (26 + i) + nI q then g (26 + i) else nI (q * (i + 1)) - g 1
theorem d_buy (H : CR N σ g f cnt gs n t) (hN : N ≤ 1000000) {i q : Nat} (hi : i < 3) (hq1 : 1 ≤ q) (hq : q ≤ 99) (hr : byR g i q = nI 0) : ∃ σ', f_X8_buy 0 (nI i) (nI q) σ = some (0, g (26 + i) + nI q, σ') ∧ CR N σ' (buyG g i q) (KH f g cnt) (K8 cnt) gs n t := by
  have hg := CR_G H
  have e1 := c_isP (nI i) (nI q) σ
  rw [if_pos (isP_ok hi hq1 hq)] at e1
  have e2 := c_buyW (CR_F H) HF_1 hg.1.1 hN hi hq 431
  have p1 : ¬ nI 300 < g (26 + i) + nI q := fun h => by
    unfold byR at hr
    rw [if_pos h] at hr
    exact absurd hr (by decide)
  have p2 : ¬ g 1 < nI (q * (i + 1)) := fun h => by
    unfold byR at hr
    rw [if_neg p1, if_pos h] at hr
    exact absurd hr (by decide)
  rw [if_neg p1, if_neg p2] at e2
  obtain ⟨σk, hk, -, H2⟩ := ch_pre H
  obtain ⟨σ', s1, s2⟩ := c_buy (CR_F H2) HF_1 (i := i) (q := q) hi
  refine ⟨σ', ?_, ch_post H2 s2 (GA_buy hg hN hi hq p1 p2) (Nat.le_refl _)⟩
  unfold f_X8_buy
  simp (disch := omega) only [neg1, li_0, li_1, li_2, li_3, li_4, li_5, li_6, li_7, li_8, li_9, li_10, li_11, li_12, li_13, li_14, li_15, li_16, li_20, li_23, li_24, li_26, li_29, li_30, li_36, li_39, li_40, li_42, li_43, li_47, li_48, li_49, li_50, li_53, li_57, li_58, li_59, li_60, li_61, li_62, li_64, li_68, li_71, li_72, li_74, li_80, li_86, li_92, li_93, li_94, li_95, li_96, li_97, li_98, li_99, li_100, li_104, li_108, li_110, li_115, li_116, li_160, li_200, li_220, li_300, li_9999, nI_add, nI_mul, p_clamp, p_le, p_lt, p_eq, p_m1lt, p_m1eq, p_m1ge, p_eqm1, i_clamp, p_leT, p_leF, p_ltT, p_ltF, p_eqT, p_eqF, or_self, or_false, false_or, or_true, true_or, not_false_eq_true, not_true_eq_false, ↓reduceIte, and_self, and_true, true_and, and_false, false_and, ↓gv_e, g1, g2, gnl, Nat.reduceAdd, Nat.add_zero, reduceCtorEq, e1, e2, hk, s1]
theorem d_buyN (H : CR N σ g f cnt gs n t) (hN : N ≤ 1000000) {i q : Nat} (hi : i < 3) (hq1 : 1 ≤ q) (hq : q ≤ 99) (hr : byR g i q ≠ nI 0) : f_X8_buy 0 (nI i) (nI q) σ = some (3, nI 0, rfM σ (byR g i q) (byD g i q)) := by
  have hg := CR_G H
  have e1 := c_isP (nI i) (nI q) σ
  rw [if_pos (isP_ok hi hq1 hq)] at e1
  have e2 := c_buyW (CR_F H) HF_1 hg.1.1 hN hi hq 431
  unfold byR at hr ⊢
  unfold byD rfM
  by_cases p1 : nI 300 < g (26 + i) + nI q
  · rw [if_pos p1] at e2 ⊢
    rw [if_pos p1, c_because] at *
    unfold f_X8_buy
    simp (disch := omega) only [neg1, li_0, li_1, li_2, li_3, li_4, li_5, li_6, li_7, li_8, li_9, li_10, li_11, li_12, li_13, li_14, li_15, li_16, li_20, li_23, li_24, li_26, li_29, li_30, li_36, li_39, li_40, li_42, li_43, li_47, li_48, li_49, li_50, li_53, li_57, li_58, li_59, li_60, li_61, li_62, li_64, li_68, li_71, li_72, li_74, li_80, li_86, li_92, li_93, li_94, li_95, li_96, li_97, li_98, li_99, li_100, li_104, li_108, li_110, li_115, li_116, li_160, li_200, li_220, li_300, li_9999, nI_add, nI_mul, p_clamp, p_le, p_lt, p_eq, p_m1lt, p_m1eq, p_m1ge, p_eqm1, i_clamp, p_leT, p_leF, p_ltT, p_ltF, p_eqT, p_eqF, or_self, or_false, false_or, or_true, true_or, not_false_eq_true, not_true_eq_false, ↓reduceIte, and_self, and_true, true_and, and_false, false_and, ↓gv_e, g1, g2, gnl, Nat.reduceAdd, Nat.add_zero, reduceCtorEq, e1, e2]
  · rw [if_neg p1] at e2 hr ⊢
    rw [if_neg p1]
    by_cases p2 : g 1 < nI (q * (i + 1))
    · rw [if_pos p2] at e2 ⊢
      rw [c_because] at e2
      unfold f_X8_buy
      simp (disch := omega) only [neg1, li_0, li_1, li_2, li_3, li_4, li_5, li_6, li_7, li_8, li_9, li_10, li_11, li_12, li_13, li_14, li_15, li_16, li_20, li_23, li_24, li_26, li_29, li_30, li_36, li_39, li_40, li_42, li_43, li_47, li_48, li_49, li_50, li_53, li_57, li_58, li_59, li_60, li_61, li_62, li_64, li_68, li_71, li_72, li_74, li_80, li_86, li_92, li_93, li_94, li_95, li_96, li_97, li_98, li_99, li_100, li_104, li_108, li_110, li_115, li_116, li_160, li_200, li_220, li_300, li_9999, nI_add, nI_mul, p_clamp, p_le, p_lt, p_eq, p_m1lt, p_m1eq, p_m1ge, p_eqm1, i_clamp, p_leT, p_leF, p_ltT, p_ltF, p_eqT, p_eqF, or_self, or_false, false_or, or_true, true_or, not_false_eq_true, not_true_eq_false, ↓reduceIte, and_self, and_true, true_and, and_false, false_and, ↓gv_e, g1, g2, gnl, Nat.reduceAdd, Nat.add_zero, reduceCtorEq, e1, e2]
    · rw [if_neg p2] at hr
      exact absurd rfl hr
theorem d_lay (H : CR N σ g f cnt gs n t) {w k i q : Nat} (hw : w < iN (g 29)) (hk : k < iN (g 48)) (hi : i < 3) (hq1 : 1 ≤ q) (hq : q ≤ 20) (hr : whyR g w k i q = nI 0) : ∃ σ', f_X8_lay 0 (nI w) (nI k) (nI i) (nI q) σ = some (0, nI (gC g w), σ') ∧ CR N σ' (layG g w k i q) (KH f g cnt) (K8 cnt) gs n t := by
  have hg := CR_G H
  have hW := (n_W hg.1.1).2
  have hT := (n_T hg.1.1).2
  have e0 := k_tower H hw
  have g0 := (HF_1.2.2.2.2.2.2.2.2.1 w (by omega)).1
  have e1 := k_tongs H hk
  have g1' := HF_1.2.2.2.2.2.2.2.1 k (by omega)
  have e2 := c_isC (nI i) (nI q) σ
  rw [if_pos (isC_ok hi hq1 hq)] at e2
  have e3 := c_layW (CR_F H) HF_1 hg.1.1 hw hk hi hq 431
  rw [if_pos hr] at e3
  obtain ⟨a1, -⟩ := whyR_10 hr
  obtain ⟨σk, hke, -, H2⟩ := ch_pre H
  obtain ⟨σ', s1, s2⟩ := c_lay (CR_F H2) HF_1 hg.1.1 hw hk hi hq a1
  refine ⟨σ', ?_, ch_post H2 s2 (GA_lay hg hw hk hi hq hr) (Nat.le_refl _)⟩
  unfold f_X8_lay f_X8_reasonAgainstCourse
  simp (disch := omega) only [neg1, li_0, li_1, li_2, li_3, li_4, li_5, li_6, li_7, li_8, li_9, li_10, li_11, li_12, li_13, li_14, li_15, li_16, li_20, li_23, li_24, li_26, li_29, li_30, li_36, li_39, li_40, li_42, li_43, li_47, li_48, li_49, li_50, li_53, li_57, li_58, li_59, li_60, li_61, li_62, li_64, li_68, li_71, li_72, li_74, li_80, li_86, li_92, li_93, li_94, li_95, li_96, li_97, li_98, li_99, li_100, li_104, li_108, li_110, li_115, li_116, li_160, li_200, li_220, li_300, li_9999, nI_add, nI_mul, p_clamp, p_le, p_lt, p_eq, p_m1lt, p_m1eq, p_m1ge, p_eqm1, i_clamp, p_leT, p_leF, p_ltT, p_ltF, p_eqT, p_eqF, or_self, or_false, false_or, or_true, true_or, not_false_eq_true, not_true_eq_false, ↓reduceIte, and_self, and_true, true_and, and_false, false_and, ↓gv_e, g1, g2, gnl, Nat.reduceAdd, Nat.add_zero, reduceCtorEq, e0, g0, e1, g1', e2, e3, hke, s1]
theorem d_layN (H : CR N σ g f cnt gs n t) {w k i q : Nat} (hw : w < iN (g 29)) (hk : k < iN (g 48)) (hi : i < 3) (hq1 : 1 ≤ q) (hq : q ≤ 20) (hr : whyR g w k i q ≠ nI 0) : f_X8_lay 0 (nI w) (nI k) (nI i) (nI q) σ = some (3, nI 0, rfM σ (whyR g w k i q) (whyD g w k i q)) := by
  have hg := CR_G H
  have hW := (n_W hg.1.1).2
  have hT := (n_T hg.1.1).2
  have e0 := k_tower H hw
  have g0 := (HF_1.2.2.2.2.2.2.2.2.1 w (by omega)).1
  have e1 := k_tongs H hk
  have g1' := HF_1.2.2.2.2.2.2.2.1 k (by omega)
  have e2 := c_isC (nI i) (nI q) σ
  rw [if_pos (isC_ok hi hq1 hq)] at e2
  have e3 := c_layW (CR_F H) HF_1 hg.1.1 hw hk hi hq 431
  rw [if_neg hr, c_because] at e3
  unfold f_X8_lay f_X8_reasonAgainstCourse rfM
  simp (disch := omega) only [neg1, li_0, li_1, li_2, li_3, li_4, li_5, li_6, li_7, li_8, li_9, li_10, li_11, li_12, li_13, li_14, li_15, li_16, li_20, li_23, li_24, li_26, li_29, li_30, li_36, li_39, li_40, li_42, li_43, li_47, li_48, li_49, li_50, li_53, li_57, li_58, li_59, li_60, li_61, li_62, li_64, li_68, li_71, li_72, li_74, li_80, li_86, li_92, li_93, li_94, li_95, li_96, li_97, li_98, li_99, li_100, li_104, li_108, li_110, li_115, li_116, li_160, li_200, li_220, li_300, li_9999, nI_add, nI_mul, p_clamp, p_le, p_lt, p_eq, p_m1lt, p_m1eq, p_m1ge, p_eqm1, i_clamp, p_leT, p_leF, p_ltT, p_ltF, p_eqT, p_eqF, or_self, or_false, false_or, or_true, true_or, not_false_eq_true, not_true_eq_false, ↓reduceIte, and_self, and_true, true_and, and_false, false_and, ↓gv_e, g1, g2, gnl, Nat.reduceAdd, Nat.add_zero, reduceCtorEq, e0, g0, e1, g1', e2, e3, hr]
theorem d_why (H : CR N σ g f cnt gs n t) {w k i q : Nat} (hw : w < iN (g 29)) (hk : k < iN (g 48)) (hi : i < 3) (hq1 : 1 ≤ q) (hq : q ≤ 20) : ∃ σ', f_X8_why 0 (nI w) (nI k) (nI i) (nI q) σ = some (0, whyR g w k i q, σ') ∧ CR N σ' g f cnt gs n t := by
  have hg := CR_G H
  have hW := (n_W hg.1.1).2
  have hT := (n_T hg.1.1).2
  have e0 := k_tower H hw
  have g0 := (HF_1.2.2.2.2.2.2.2.2.1 w (by omega)).1
  have e1 := k_tongs H hk
  have g1' := HF_1.2.2.2.2.2.2.2.1 k (by omega)
  have e2 := c_isC (nI i) (nI q) σ
  rw [if_pos (isC_ok hi hq1 hq)] at e2
  have e3 := c_layW (CR_F H) HF_1 hg.1.1 hw hk hi hq 432
  by_cases p : whyR g w k i q = nI 0
  · rw [if_pos p] at e3
    refine ⟨σ, ?_, H⟩
    rw [p]
    unfold f_X8_why f_X8_reasonAgainstCourse
    simp (disch := omega) only [neg1, li_0, li_1, li_2, li_3, li_4, li_5, li_6, li_7, li_8, li_9, li_10, li_11, li_12, li_13, li_14, li_15, li_16, li_20, li_23, li_24, li_26, li_29, li_30, li_36, li_39, li_40, li_42, li_43, li_47, li_48, li_49, li_50, li_53, li_57, li_58, li_59, li_60, li_61, li_62, li_64, li_68, li_71, li_72, li_74, li_80, li_86, li_92, li_93, li_94, li_95, li_96, li_97, li_98, li_99, li_100, li_104, li_108, li_110, li_115, li_116, li_160, li_200, li_220, li_300, li_9999, nI_add, nI_mul, p_clamp, p_le, p_lt, p_eq, p_m1lt, p_m1eq, p_m1ge, p_eqm1, i_clamp, p_leT, p_leF, p_ltT, p_ltF, p_eqT, p_eqF, or_self, or_false, false_or, or_true, true_or, not_false_eq_true, not_true_eq_false, ↓reduceIte, and_self, and_true, true_and, and_false, false_and, ↓gv_e, g1, g2, gnl, Nat.reduceAdd, Nat.add_zero, reduceCtorEq, e0, g0, e1, g1', e2, e3]
  · rw [if_neg p, c_because] at e3
    refine ⟨ms (ms σ 432 0 (whyR g w k i q)) 432 1 (whyD g w k i q), ?_, CR_own H (fun c q1 q2 q3 => by rw [ms_cell (by omega), ms_cell (by omega)]) (by rw [ms_cell (by decide), ms_cell (by decide)]) (by rw [ms_cell (by decide), ms_cell (by decide)]) (by rw [ms_cell (by decide), ms_cell (by decide)])⟩
    unfold f_X8_why f_X8_reasonAgainstCourse
    simp (disch := omega) only [neg1, li_0, li_1, li_2, li_3, li_4, li_5, li_6, li_7, li_8, li_9, li_10, li_11, li_12, li_13, li_14, li_15, li_16, li_20, li_23, li_24, li_26, li_29, li_30, li_36, li_39, li_40, li_42, li_43, li_47, li_48, li_49, li_50, li_53, li_57, li_58, li_59, li_60, li_61, li_62, li_64, li_68, li_71, li_72, li_74, li_80, li_86, li_92, li_93, li_94, li_95, li_96, li_97, li_98, li_99, li_100, li_104, li_108, li_110, li_115, li_116, li_160, li_200, li_220, li_300, li_9999, nI_add, nI_mul, p_clamp, p_le, p_lt, p_eq, p_m1lt, p_m1eq, p_m1ge, p_eqm1, i_clamp, p_leT, p_leF, p_ltT, p_ltF, p_eqT, p_eqF, or_self, or_false, false_or, or_true, true_or, not_false_eq_true, not_true_eq_false, ↓reduceIte, and_self, and_true, true_and, and_false, false_and, ↓gv_e, g1, g2, gnl, Nat.reduceAdd, Nat.add_zero, reduceCtorEq, e0, g0, e1, g1', e2, e3]
theorem d_take (H : CR N σ g f cnt gs n t) {w : Nat} (hw : w < iN (g 29)) (hC : 0 < gC g w) : ∃ σ', f_X8_take 0 (nI w) σ = some (0, cub g w (gC g w - 1), σ') ∧ CR N σ' (takG g w) (KH f g cnt) (K8 cnt) gs n t := by
  have hg := CR_G H
  have hW := (n_W hg.1.1).2
  have e0 := k_tower H hw
  have g0 := (HF_1.2.2.2.2.2.2.2.2.1 w (by omega)).1
  obtain ⟨k4, k5⟩ := gC_of hg.1.1 (t := w) (by omega)
  have e1 := r_crs (CR_F H) (t := w) (by omega) hw
  rw [k4] at e1
  have p : ¬ gC g w = 0 := by omega
  obtain ⟨σk, hk, -, H2⟩ := ch_pre H
  obtain ⟨σ', s1, s2⟩ := c_take (CR_F H2) HF_1 hg.1.1 hw hC
  refine ⟨σ', ?_, ch_post H2 s2 (GA_take hg hw hC) (Nat.le_refl _)⟩
  unfold f_X8_take
  simp (disch := omega) only [neg1, li_0, li_1, li_2, li_3, li_4, li_5, li_6, li_7, li_8, li_9, li_10, li_11, li_12, li_13, li_14, li_15, li_16, li_20, li_23, li_24, li_26, li_29, li_30, li_36, li_39, li_40, li_42, li_43, li_47, li_48, li_49, li_50, li_53, li_57, li_58, li_59, li_60, li_61, li_62, li_64, li_68, li_71, li_72, li_74, li_80, li_86, li_92, li_93, li_94, li_95, li_96, li_97, li_98, li_99, li_100, li_104, li_108, li_110, li_115, li_116, li_160, li_200, li_220, li_300, li_9999, nI_add, nI_mul, p_clamp, p_le, p_lt, p_eq, p_m1lt, p_m1eq, p_m1ge, p_eqm1, i_clamp, p_leT, p_leF, p_ltT, p_ltF, p_eqT, p_eqF, or_self, or_false, false_or, or_true, true_or, not_false_eq_true, not_true_eq_false, ↓reduceIte, and_self, and_true, true_and, and_false, false_and, ↓gv_e, g1, g2, gnl, Nat.reduceAdd, Nat.add_zero, reduceCtorEq, e0, g0, e1, p, hk, s1]
theorem d_takeN (H : CR N σ g f cnt gs n t) {w : Nat} (hw : w < iN (g 29)) (hC : gC g w = 0) : f_X8_take 0 (nI w) σ = some (3, nI 0, rfM σ (nI 9) (nI w)) := by
  have hg := CR_G H
  have hW := (n_W hg.1.1).2
  have e0 := k_tower H hw
  have g0 := (HF_1.2.2.2.2.2.2.2.2.1 w (by omega)).1
  obtain ⟨k4, k5⟩ := gC_of hg.1.1 (t := w) (by omega)
  have e1 := r_crs (CR_F H) (t := w) (by omega) hw
  rw [k4] at e1
  unfold f_X8_take rfM
  simp (disch := omega) only [neg1, li_0, li_1, li_2, li_3, li_4, li_5, li_6, li_7, li_8, li_9, li_10, li_11, li_12, li_13, li_14, li_15, li_16, li_20, li_23, li_24, li_26, li_29, li_30, li_36, li_39, li_40, li_42, li_43, li_47, li_48, li_49, li_50, li_53, li_57, li_58, li_59, li_60, li_61, li_62, li_64, li_68, li_71, li_72, li_74, li_80, li_86, li_92, li_93, li_94, li_95, li_96, li_97, li_98, li_99, li_100, li_104, li_108, li_110, li_115, li_116, li_160, li_200, li_220, li_300, li_9999, nI_add, nI_mul, p_clamp, p_le, p_lt, p_eq, p_m1lt, p_m1eq, p_m1ge, p_eqm1, i_clamp, p_leT, p_leF, p_ltT, p_ltF, p_eqT, p_eqF, or_self, or_false, false_or, or_true, true_or, not_false_eq_true, not_true_eq_false, ↓reduceIte, and_self, and_true, true_and, and_false, false_and, ↓gv_e, g1, g2, gnl, Nat.reduceAdd, Nat.add_zero, reduceCtorEq, e0, g0, e1, hC, c_because]
def bqR (g : Nat → Int32) (u : Nat) : Int32 := if iN (g 61) = 6 then nI 1 else if g 0 < nI u then nI 0 else nI 10
def bqD (g : Nat → Int32) : Int32 := if iN (g 61) = 6 then nI 6 else g 0
theorem d_banquet (H : CR N σ g f cnt gs n t) {u a b : Nat} (hu : u ≤ 9999) (ha1 : 1 ≤ a) (ha : a ≤ 10) (hb1 : 1 ≤ b) (hb : b ≤ 200) (hr : bqR g u = nI 0) : ∃ σ', f_X8_banquet 0 (nI u) (nI a) (nI b) σ = some (0, g 92, σ') ∧ CR N σ' (bnqG g (iN (g 61)) (nI u) (nI a) (nI b)) (KH f g cnt) (K8 cnt) gs n t := by
  have hg := CR_G H
  have e1 := c_btw (nI 0) (nI u) (nI 9999) σ
  have e2 := c_btw (nI 1) (nI a) (nI 10) σ
  have e3 := c_btw (nI 1) (nI b) (nI 200) σ
  rw [if_pos ⟨by rw [p_le (by omega) (by omega)]; omega, by rw [p_le (by omega) (by omega)]; omega⟩] at e1 e2 e3
  have e0 := e_B (CR_F H) (CR_B H)
  have ho := r_hour (CR_F H)
  have h6 := (n_B (CR_B H)).2
  have p : iN (g 61) ≠ 6 := fun h => by
    unfold bqR at hr
    rw [if_pos h] at hr
    exact absurd hr (by decide)
  have p2 : g 0 < nI u := by
    unfold bqR at hr
    rw [if_neg p] at hr
    by_cases q : g 0 < nI u
    · exact q
    · rw [if_neg q] at hr
      exact absurd hr (by decide)
  obtain ⟨σk, hk, -, H2⟩ := ch_pre H
  obtain ⟨σ', s1, s2⟩ := c_addBanquet (CR_F H2) HF_1 (CR_B H) rfl (by omega) (nI u) (nI a) (nI b)
  refine ⟨σ', ?_, ch_post H2 s2 (GA_bnq hg rfl (by omega) ha1 ha hb) (Nat.le_refl _)⟩
  obtain ⟨B, hB⟩ : ∃ B, iN (g 61) = B := ⟨_, rfl⟩
  rw [hB] at e0 p h6
  unfold f_X8_banquet f_X2_reasonAgainstBanquet
  simp (disch := omega) only [neg1, li_0, li_1, li_2, li_3, li_4, li_5, li_6, li_7, li_8, li_9, li_10, li_11, li_12, li_13, li_14, li_15, li_16, li_20, li_23, li_24, li_26, li_29, li_30, li_36, li_39, li_40, li_42, li_43, li_47, li_48, li_49, li_50, li_53, li_57, li_58, li_59, li_60, li_61, li_62, li_64, li_68, li_71, li_72, li_74, li_80, li_86, li_92, li_93, li_94, li_95, li_96, li_97, li_98, li_99, li_100, li_104, li_108, li_110, li_115, li_116, li_160, li_200, li_220, li_300, li_9999, nI_add, nI_mul, p_clamp, p_le, p_lt, p_eq, p_m1lt, p_m1eq, p_m1ge, p_eqm1, i_clamp, p_leT, p_leF, p_ltT, p_ltF, p_eqT, p_eqF, or_self, or_false, false_or, or_true, true_or, not_false_eq_true, not_true_eq_false, ↓reduceIte, and_self, and_true, true_and, and_false, false_and, ↓gv_e, g1, g2, gnl, Nat.reduceAdd, Nat.add_zero, reduceCtorEq, e1, e2, e3, e0, ho, p2, hk, s1]
theorem d_banquetN (H : CR N σ g f cnt gs n t) {u a b : Nat} (hu : u ≤ 9999) (ha1 : 1 ≤ a) (ha : a ≤ 10) (hb1 : 1 ≤ b) (hb : b ≤ 200) (hr : bqR g u ≠ nI 0) : f_X8_banquet 0 (nI u) (nI a) (nI b) σ = some (3, nI 0, rfM σ (bqR g u) (bqD g)) := by
  have e1 := c_btw (nI 0) (nI u) (nI 9999) σ
  have e2 := c_btw (nI 1) (nI a) (nI 10) σ
  have e3 := c_btw (nI 1) (nI b) (nI 200) σ
  rw [if_pos ⟨by rw [p_le (by omega) (by omega)]; omega, by rw [p_le (by omega) (by omega)]; omega⟩] at e1 e2 e3
  have e0 := e_B (CR_F H) (CR_B H)
  have ho := r_hour (CR_F H)
  have h6 := (n_B (CR_B H)).2
  unfold bqR at hr ⊢
  unfold bqD rfM
  by_cases p : iN (g 61) = 6
  · rw [if_pos p, if_pos p]
    rw [p] at e0
    unfold f_X8_banquet f_X2_reasonAgainstBanquet
    simp (disch := omega) only [neg1, li_0, li_1, li_2, li_3, li_4, li_5, li_6, li_7, li_8, li_9, li_10, li_11, li_12, li_13, li_14, li_15, li_16, li_20, li_23, li_24, li_26, li_29, li_30, li_36, li_39, li_40, li_42, li_43, li_47, li_48, li_49, li_50, li_53, li_57, li_58, li_59, li_60, li_61, li_62, li_64, li_68, li_71, li_72, li_74, li_80, li_86, li_92, li_93, li_94, li_95, li_96, li_97, li_98, li_99, li_100, li_104, li_108, li_110, li_115, li_116, li_160, li_200, li_220, li_300, li_9999, nI_add, nI_mul, p_clamp, p_le, p_lt, p_eq, p_m1lt, p_m1eq, p_m1ge, p_eqm1, i_clamp, p_leT, p_leF, p_ltT, p_ltF, p_eqT, p_eqF, or_self, or_false, false_or, or_true, true_or, not_false_eq_true, not_true_eq_false, ↓reduceIte, and_self, and_true, true_and, and_false, false_and, ↓gv_e, g1, g2, gnl, Nat.reduceAdd, Nat.add_zero, reduceCtorEq, e1, e2, e3, e0, c_because]
  · rw [if_neg p] at hr ⊢
    rw [if_neg p]
    by_cases p2 : g 0 < nI u
    · rw [if_pos p2] at hr
      exact absurd rfl hr
    · rw [if_neg p2]
      obtain ⟨B, hB⟩ : ∃ B, iN (g 61) = B := ⟨_, rfl⟩
      rw [hB] at e0 p h6
      unfold f_X8_banquet f_X2_reasonAgainstBanquet
      simp (disch := omega) only [neg1, li_0, li_1, li_2, li_3, li_4, li_5, li_6, li_7, li_8, li_9, li_10, li_11, li_12, li_13, li_14, li_15, li_16, li_20, li_23, li_24, li_26, li_29, li_30, li_36, li_39, li_40, li_42, li_43, li_47, li_48, li_49, li_50, li_53, li_57, li_58, li_59, li_60, li_61, li_62, li_64, li_68, li_71, li_72, li_74, li_80, li_86, li_92, li_93, li_94, li_95, li_96, li_97, li_98, li_99, li_100, li_104, li_108, li_110, li_115, li_116, li_160, li_200, li_220, li_300, li_9999, nI_add, nI_mul, p_clamp, p_le, p_lt, p_eq, p_m1lt, p_m1eq, p_m1ge, p_eqm1, i_clamp, p_leT, p_leF, p_ltT, p_ltF, p_eqT, p_eqF, or_self, or_false, false_or, or_true, true_or, not_false_eq_true, not_true_eq_false, ↓reduceIte, and_self, and_true, true_and, and_false, false_and, ↓gv_e, g1, g2, gnl, Nat.reduceAdd, Nat.add_zero, reduceCtorEq, e1, e2, e3, e0, ho, p2, c_because]
theorem d_show (H : CR N σ g f cnt gs n t) {u : Int32} {k w : Nat} (hp : plcN g u = nI k) (hk : k < iN (g 61)) (hw : w < iN (g 29)) : ∃ σ', f_X8_show 0 u (nI w) σ = some (0, mis (upd g (86 + k) (nI w)) k, σ') ∧ CR N σ' (upd g (86 + k) (nI w)) (KH f g cnt) (K8 cnt) gs n t := by
  have hg := CR_G H
  have hW := (n_W hg.1.1).2
  have hB := (n_B hg.1.1).2
  have e0 := k_banq H hp hk
  have g0 := HF_1.2.2.2.2.2.2.2.2.2 k (by omega)
  have e1 := k_tower H hw
  have g1' := (HF_1.2.2.2.2.2.2.2.2.1 w (by omega)).1
  obtain ⟨σk, hke, -, H2⟩ := ch_pre H
  have s2 := w_atb (CR_F H2) (i := k) (by omega) (nI w)
  have hgs := GA_show hg (k := k) (t := w) (by omega) (by omega)
  have e2 := c_miss s2 HF_1 hgs.1.1 hgs.1.2 (k := k) (by rw [upd_ap, if_neg (by omega)]; exact hk)
  refine ⟨ms σk ((1 + 6) + (23 + k)) 4 (nI w), ?_, ch_post H2 s2 hgs (Nat.le_refl _)⟩
  unfold f_X8_show
  simp (disch := omega) only [neg1, li_0, li_1, li_2, li_3, li_4, li_5, li_6, li_7, li_8, li_9, li_10, li_11, li_12, li_13, li_14, li_15, li_16, li_20, li_23, li_24, li_26, li_29, li_30, li_36, li_39, li_40, li_42, li_43, li_47, li_48, li_49, li_50, li_53, li_57, li_58, li_59, li_60, li_61, li_62, li_64, li_68, li_71, li_72, li_74, li_80, li_86, li_92, li_93, li_94, li_95, li_96, li_97, li_98, li_99, li_100, li_104, li_108, li_110, li_115, li_116, li_160, li_200, li_220, li_300, li_9999, nI_add, nI_mul, p_clamp, p_le, p_lt, p_eq, p_m1lt, p_m1eq, p_m1ge, p_eqm1, i_clamp, p_leT, p_leF, p_ltT, p_ltF, p_eqT, p_eqF, or_self, or_false, false_or, or_true, true_or, not_false_eq_true, not_true_eq_false, ↓reduceIte, and_self, and_true, true_and, and_false, false_and, ↓gv_e, g1, g2, gnl, Nat.reduceAdd, Nat.add_zero, reduceCtorEq, e0, g0, e1, g1', hke, e2]
theorem d_cancel (H : CR N σ g f cnt gs n t) {u : Int32} {k : Nat} (hp : plcN g u = nI k) (hk : k < iN (g 61)) : ∃ σ', f_X8_cancel 0 u σ = some (0, drG g k 61, σ') ∧ CR N σ' (drG g k) (KH f g cnt) (K8 cnt) gs n t := by
  have hg := CR_G H
  have hB := (n_B hg.1.1).2
  have e0 := k_banq H hp hk
  have g0 := HF_1.2.2.2.2.2.2.2.2.2 k (by omega)
  obtain ⟨σk, hke, -, H2⟩ := ch_pre H
  have ep := c_place (CR_F H2) HF_1 hg.1.1 u
  rw [hp] at ep
  obtain ⟨σ', s1, s2⟩ := cy_drop HF_1 hg.1.1 (CR_F H2) hk
  have r := r_nB s2
  refine ⟨σ', ?_, ch_post H2 s2 (GA_dr hg hk) (Nat.le_refl _)⟩
  unfold f_X8_cancel
  simp (disch := omega) only [neg1, li_0, li_1, li_2, li_3, li_4, li_5, li_6, li_7, li_8, li_9, li_10, li_11, li_12, li_13, li_14, li_15, li_16, li_20, li_23, li_24, li_26, li_29, li_30, li_36, li_39, li_40, li_42, li_43, li_47, li_48, li_49, li_50, li_53, li_57, li_58, li_59, li_60, li_61, li_62, li_64, li_68, li_71, li_72, li_74, li_80, li_86, li_92, li_93, li_94, li_95, li_96, li_97, li_98, li_99, li_100, li_104, li_108, li_110, li_115, li_116, li_160, li_200, li_220, li_300, li_9999, nI_add, nI_mul, p_clamp, p_le, p_lt, p_eq, p_m1lt, p_m1eq, p_m1ge, p_eqm1, i_clamp, p_leT, p_leF, p_ltT, p_ltF, p_eqT, p_eqF, or_self, or_false, false_or, or_true, true_or, not_false_eq_true, not_true_eq_false, ↓reduceIte, and_self, and_true, true_and, and_false, false_and, ↓gv_e, g1, g2, gnl, Nat.reduceAdd, Nat.add_zero, reduceCtorEq, e0, g0, hke, ep, s1, r]
theorem d_pass (H : CR N σ g f cnt gs n t) (hN : N + 72 ≤ 1000000) {u : Nat} (hu1 : 1 ≤ u) (hu : u ≤ 72) : ∃ σ', f_X8_pass 0 (nI u) σ = some (0, psA u (nI 0) g, σ') ∧ CR (N + u) σ' (psS u g) (KH f g cnt) (K8 cnt) gs n t := by
  have hg := CR_G H
  have e0 := c_btw (nI 1) (nI u) (nI 72) σ
  rw [if_pos ⟨by rw [p_le (by omega) (by omega)]; omega, by rw [p_le (by omega) (by omega)]; omega⟩] at e0
  obtain ⟨σk, hk, -, H2⟩ := ch_pre H
  obtain ⟨σ', s1, s2⟩ := cy_hours HF_1 hu hg.1 hN (CR_F H2)
  refine ⟨σ', ?_, ch_post H2 s2 (GA_psS u N _ hg (by omega)) (by omega)⟩
  unfold f_X8_pass
  simp (disch := omega) only [neg1, li_0, li_1, li_2, li_3, li_4, li_5, li_6, li_7, li_8, li_9, li_10, li_11, li_12, li_13, li_14, li_15, li_16, li_20, li_23, li_24, li_26, li_29, li_30, li_36, li_39, li_40, li_42, li_43, li_47, li_48, li_49, li_50, li_53, li_57, li_58, li_59, li_60, li_61, li_62, li_64, li_68, li_71, li_72, li_74, li_80, li_86, li_92, li_93, li_94, li_95, li_96, li_97, li_98, li_99, li_100, li_104, li_108, li_110, li_115, li_116, li_160, li_200, li_220, li_300, li_9999, nI_add, nI_mul, p_clamp, p_le, p_lt, p_eq, p_m1lt, p_m1eq, p_m1ge, p_eqm1, i_clamp, p_leT, p_leF, p_ltT, p_ltF, p_eqT, p_eqF, or_self, or_false, false_or, or_true, true_or, not_false_eq_true, not_true_eq_false, ↓reduceIte, and_self, and_true, true_and, and_false, false_and, ↓gv_e, g1, g2, gnl, Nat.reduceAdd, Nat.add_zero, reduceCtorEq, e0, hk, s1]
/-- the latest change is undone -/
theorem d_undo (H : CR N σ g f cnt gs n t) (hc : 1 ≤ cnt) : ∃ σ', f_X8_undo 0 σ = some (0, nI (cnt - 1), σ') ∧ CR N σ' (hG f (cnt - 1)) f (cnt - 1) gs n t := by
  obtain ⟨a1, ⟨h8, nw, hnw, b1, b2, b3⟩, a3, a4, a5, a6⟩ := H
  have p : cnt ≠ 0 := by omega
  have f0 := p_fmod (a := nw) (b := 8) (by omega) (by decide) (by decide) σ
  rw [Nat.mod_eq_of_lt hnw] at f0
  have hr := HF_ring nw hnw
  have hq := b3 0 (by omega)
  rw [show (nw + 8 - 0) % 8 = nw by omega, Nat.sub_zero] at hq
  obtain ⟨σ2, c1, c2⟩ := c_copyR (σ0 := σ) (d := 1) (s := 108 + 35 * nw) (g := hG f (cnt - 1)) (by omega) HF_1 hr hq.1
  have ea : (106 + 1) + (1 + 35 * nw) = 108 + 35 * nw := by omega
  have k1 : σ2 106 1 = nI nw := by rw [c2.2 106 (by omega)]; exact b2
  have k2 : σ2 106 2 = nI cnt := by rw [c2.2 106 (by omega)]; exact b1
  have k3 : ∀ c, 36 ≤ c ∨ c = 0 → σ2 c = σ c := fun c q => c2.2 c (by omega)
  have f1 : f_J9_floorMod_7cf53 (nI nw - nI 1) (nI 8) σ2 = some (nI ((nw + 7) % 8), σ2) := by
    by_cases q : nw = 0
    · subst q
      rw [show nI 0 - nI 1 = m1 by decide]
      exact p_fmod_m1 σ2
    · rw [nI_sub (by omega), p_fmod (by omega) (by decide) (by decide)]
      congr 3; omega
  have e3 : nI cnt - nI 1 = nI (cnt - 1) := nI_sub (by omega)
  have k4 : ms σ2 106 1 (nI ((nw + 7) % 8)) 106 2 = nI cnt := by rw [ms_ap, if_neg (by decide)]; exact k2
  refine ⟨ms (ms σ2 106 1 (nI ((nw + 7) % 8))) 106 2 (nI (cnt - 1)), ?_, HQ_own (σ := σ2) ⟨c2.1, hq.2⟩ (fun c q1 q2 => by rw [ms_cell (by omega), ms_cell (by omega)]), ⟨by omega, (nw + 7) % 8, Nat.mod_lt _ (by decide), ms_ss, by rw [ms_ap, if_neg (by decide)]; exact ms_ss, fun k hk => ?_⟩, fun s hs => ⟨?_, HQ_own (a3 s hs).2 (fun c q1 q2 => ?_)⟩, a4, ?_, fun j hj => ?_⟩
  · unfold f_X8_undo f_X1_giveBackTo
    simp (disch := omega) only [neg1, li_0, li_1, li_2, li_3, li_4, li_5, li_6, li_7, li_8, li_9, li_10, li_11, li_12, li_13, li_14, li_15, li_16, li_20, li_23, li_24, li_26, li_29, li_30, li_36, li_39, li_40, li_42, li_43, li_47, li_48, li_49, li_50, li_53, li_57, li_58, li_59, li_60, li_61, li_62, li_64, li_68, li_71, li_72, li_74, li_80, li_86, li_92, li_93, li_94, li_95, li_96, li_97, li_98, li_99, li_100, li_104, li_108, li_110, li_115, li_116, li_160, li_200, li_220, li_300, li_9999, nI_add, nI_mul, p_clamp, p_le, p_lt, p_eq, p_m1lt, p_m1eq, p_m1ge, p_eqm1, i_clamp, p_leT, p_leF, p_ltT, p_ltF, p_eqT, p_eqF, or_self, or_false, false_or, or_true, true_or, not_false_eq_true, not_true_eq_false, ↓reduceIte, and_self, and_true, true_and, and_false, false_and, ↓gv_e, g1, g2, gnl, Nat.reduceAdd, Nat.add_zero, reduceCtorEq, b1, b2, p, f0, gl107, ea, c1, k1, k2, f1, k4, e3, ms_ss]
  · have hb := b3 (k + 1) (by omega)
    rw [show ((nw + 7) % 8 + 8 - k) % 8 = (nw + 8 - (k + 1)) % 8 by omega, show cnt - 1 - 1 - k = cnt - 1 - (k + 1) by omega]
    have hl : (nw + 8 - (k + 1)) % 8 < 8 := Nat.mod_lt _ (by decide)
    exact HQ_own hb (fun c q1 q2 => by rw [ms_cell (by omega), ms_cell (by omega), k3 c (by omega)])
  · rw [ms_cell (by decide), ms_cell (by decide), k3 0 (by decide)]; exact (a3 s hs).1
  · rw [ms_cell (by omega), ms_cell (by omega), k3 c (by omega)]
  · rw [ms_cell (by decide), ms_cell (by decide), k3 388 (by decide)]; exact a5
  · rw [ms_cell (by decide), ms_cell (by decide), k3 389 (by decide)]; exact a6 j hj
theorem d_save (H : CR N σ g f cnt gs n t) : ∃ σ', f_X8_save 0 σ = some (g 29, σ') ∧ CR N σ' g f cnt (some g) n t := by
  obtain ⟨a1, a2, a3, a4, a5, a6⟩ := H
  obtain ⟨σ2, c1, c2⟩ := c_copyR (σ0 := σ) (d := 71) (s := 1) (g := g) (by omega) HF_71 HF_1 a1.1
  have k3 : ∀ c, c < 71 ∨ 106 ≤ c → σ2 c = σ c := fun c q => c2.2 c (by omega)
  have r := r_nW (σ0 := σ) (σ := σ2) (h := 71) c2
  have r2 : ms σ2 0 3 (nI 1) 71 8 = g 29 := by rw [ms_cell (by decide)]; exact r
  refine ⟨ms σ2 0 3 (nI 1), ?_, HQ_own a1 (fun c q1 q2 => by rw [ms_cell (by omega), k3 c (by omega)]), HI_own a2 (fun c q1 q2 => by rw [ms_cell (by omega), k3 c (by omega)]), fun s hs => ⟨ms_ss, ?_⟩, a4, by rw [ms_cell (by decide), k3 388 (by decide)]; exact a5, fun j hj => by rw [ms_cell (by decide), k3 389 (by decide)]; exact a6 j hj⟩
  · unfold f_X8_save
    simp (disch := omega) only [neg1, li_0, li_1, li_2, li_3, li_4, li_5, li_6, li_7, li_8, li_9, li_10, li_11, li_12, li_13, li_14, li_15, li_16, li_20, li_23, li_24, li_26, li_29, li_30, li_36, li_39, li_40, li_42, li_43, li_47, li_48, li_49, li_50, li_53, li_57, li_58, li_59, li_60, li_61, li_62, li_64, li_68, li_71, li_72, li_74, li_80, li_86, li_92, li_93, li_94, li_95, li_96, li_97, li_98, li_99, li_100, li_104, li_108, li_110, li_115, li_116, li_160, li_200, li_220, li_300, li_9999, nI_add, nI_mul, p_clamp, p_le, p_lt, p_eq, p_m1lt, p_m1eq, p_m1ge, p_eqm1, i_clamp, p_leT, p_leF, p_ltT, p_ltF, p_eqT, p_eqF, or_self, or_false, false_or, or_true, true_or, not_false_eq_true, not_true_eq_false, ↓reduceIte, and_self, and_true, true_and, and_false, false_and, ↓gv_e, g1, g2, gnl, Nat.reduceAdd, Nat.add_zero, reduceCtorEq, c1, r2]
  · cases hs
    exact HQ_own (σ := σ2) ⟨c2.1, a1.2⟩ (fun c q1 q2 => by rw [ms_cell (by omega)])
theorem d_restore {s : Nat → Int32} (H : CR N σ g f cnt (some s) n t) : ∃ σ', f_X8_restore 0 σ = some (0, s 29, σ') ∧ CR N σ' s f 0 (some s) n t := by
  obtain ⟨a1, ⟨h8, nw, hnw, b1, b2, b3⟩, a3, a4, a5, a6⟩ := H
  obtain ⟨v1, v2⟩ := a3 s rfl
  obtain ⟨σ2, c1, c2⟩ := c_copyR (σ0 := σ) (d := 1) (s := 71) (g := s) (by omega) HF_1 HF_71 v2.1
  have k3 : ∀ c, 36 ≤ c ∨ c = 0 → σ2 c = σ c := fun c q => c2.2 c (by omega)
  have r := r_nW (σ0 := σ) (σ := σ2) (h := 1) c2
  have r2 : ms σ2 106 2 (nI 0) 1 8 = s 29 := by rw [ms_cell (by decide)]; exact r
  have v1' : ¬ σ 0 3 = nI 0 := by rw [v1]; decide
  refine ⟨ms σ2 106 2 (nI 0), ?_, HQ_own (σ := σ2) ⟨c2.1, v2.2⟩ (fun c q1 q2 => by rw [ms_cell (by omega)]), ⟨by decide, nw, hnw, ms_ss, by rw [ms_ap, if_neg (by decide), k3 106 (by decide)]; exact b2, fun k hk => absurd hk (by omega)⟩, fun s' hs => ⟨by rw [ms_cell (by decide), k3 0 (by decide)]; exact v1, ?_⟩, a4, by rw [ms_cell (by decide), k3 388 (by decide)]; exact a5, fun j hj => by rw [ms_cell (by decide), k3 389 (by decide)]; exact a6 j hj⟩
  · unfold f_X8_restore
    simp (disch := omega) only [neg1, li_0, li_1, li_2, li_3, li_4, li_5, li_6, li_7, li_8, li_9, li_10, li_11, li_12, li_13, li_14, li_15, li_16, li_20, li_23, li_24, li_26, li_29, li_30, li_36, li_39, li_40, li_42, li_43, li_47, li_48, li_49, li_50, li_53, li_57, li_58, li_59, li_60, li_61, li_62, li_64, li_68, li_71, li_72, li_74, li_80, li_86, li_92, li_93, li_94, li_95, li_96, li_97, li_98, li_99, li_100, li_104, li_108, li_110, li_115, li_116, li_160, li_200, li_220, li_300, li_9999, nI_add, nI_mul, p_clamp, p_le, p_lt, p_eq, p_m1lt, p_m1eq, p_m1ge, p_eqm1, i_clamp, p_leT, p_leF, p_ltT, p_ltF, p_eqT, p_eqF, or_self, or_false, false_or, or_true, true_or, not_false_eq_true, not_true_eq_false, ↓reduceIte, and_self, and_true, true_and, and_false, false_and, ↓gv_e, g1, g2, gnl, Nat.reduceAdd, Nat.add_zero, reduceCtorEq, v1, c1, r2]
  · cases hs
    exact HQ_own v2 (fun c q1 q2 => by rw [ms_cell (by omega), k3 c (by omega)])
/-! act -/
theorem a_lay (H : CR N σ g f cnt gs n t) {w k i q : Nat} (hw : w < iN (g 29)) (hk : k < iN (g 48)) (hi : i < 3) (hq1 : 1 ≤ q) (hq : q ≤ 20) (hr : whyR g w k i q = nI 0) : ∃ σ', f_L_act 0 (0 : Int32) (nI w) (nI k) (nI i) (nI q) σ = some (nI (gC g w), σ') ∧ CR N σ' (layG g w k i q) (KH f g cnt) (K8 cnt) gs n t := by
  obtain ⟨σ', e, h⟩ := d_lay H hw hk hi hq1 hq hr
  refine ⟨σ', ?_, h⟩
  unfold f_L_act
  rw [if_pos rfl, e, gcx_0]
theorem a_layN (H : CR N σ g f cnt gs n t) {w k i q : Nat} (hw : w < iN (g 29)) (hk : k < iN (g 48)) (hi : i < 3) (hq1 : 1 ≤ q) (hq : q ≤ 20) (hr : whyR g w k i q ≠ nI 0) : f_L_act 0 (0 : Int32) (nI w) (nI k) (nI i) (nI q) σ = some ((-1 : Int32), rfM σ (whyR g w k i q) (whyD g w k i q)) := by
  unfold f_L_act
  rw [if_pos rfl, d_layN H hw hk hi hq1 hq hr, gcx_3]
theorem a_take (H : CR N σ g f cnt gs n t) {w : Nat} (hw : w < iN (g 29)) (hC : 0 < gC g w) (x y z : Int32) : ∃ σ', f_L_act 0 (1 : Int32) (nI w) x y z σ = some (cub g w (gC g w - 1), σ') ∧ CR N σ' (takG g w) (KH f g cnt) (K8 cnt) gs n t := by
  obtain ⟨σ', e, h⟩ := d_take H hw hC
  refine ⟨σ', ?_, h⟩
  unfold f_L_act
  rw [if_neg (by decide), if_pos rfl, e, gcx_0]
theorem a_takeN (H : CR N σ g f cnt gs n t) {w : Nat} (hw : w < iN (g 29)) (hC : gC g w = 0) (x y z : Int32) : f_L_act 0 (1 : Int32) (nI w) x y z σ = some ((-1 : Int32), rfM σ (nI 9) (nI w)) := by
  unfold f_L_act
  rw [if_neg (by decide), if_pos rfl, d_takeN H hw hC, gcx_3]
theorem a_buy (H : CR N σ g f cnt gs n t) (hN : N ≤ 1000000) {i q : Nat} (hi : i < 3) (hq1 : 1 ≤ q) (hq : q ≤ 99) (hr : byR g i q = nI 0) (y z : Int32) : ∃ σ', f_L_act 0 (2 : Int32) (nI i) (nI q) y z σ = some (g (26 + i) + nI q, σ') ∧ CR N σ' (buyG g i q) (KH f g cnt) (K8 cnt) gs n t := by
  obtain ⟨σ', e, h⟩ := d_buy H hN hi hq1 hq hr
  refine ⟨σ', ?_, h⟩
  unfold f_L_act
  rw [if_neg (by decide), if_neg (by decide), if_pos rfl, e, gcx_0]
theorem a_buyN (H : CR N σ g f cnt gs n t) (hN : N ≤ 1000000) {i q : Nat} (hi : i < 3) (hq1 : 1 ≤ q) (hq : q ≤ 99) (hr : byR g i q ≠ nI 0) (y z : Int32) : f_L_act 0 (2 : Int32) (nI i) (nI q) y z σ = some ((-1 : Int32), rfM σ (byR g i q) (byD g i q)) := by
  unfold f_L_act
  rw [if_neg (by decide), if_neg (by decide), if_pos rfl, d_buyN H hN hi hq1 hq hr, gcx_3]
theorem a_banquet (H : CR N σ g f cnt gs n t) {u a b : Nat} (hu : u ≤ 9999) (ha1 : 1 ≤ a) (ha : a ≤ 10) (hb1 : 1 ≤ b) (hb : b ≤ 200) (hr : bqR g u = nI 0) (z : Int32) : ∃ σ', f_L_act 0 (3 : Int32) (nI u) (nI a) (nI b) z σ = some (g 92, σ') ∧ CR N σ' (bnqG g (iN (g 61)) (nI u) (nI a) (nI b)) (KH f g cnt) (K8 cnt) gs n t := by
  obtain ⟨σ', e, h⟩ := d_banquet H hu ha1 ha hb1 hb hr
  refine ⟨σ', ?_, h⟩
  unfold f_L_act
  rw [if_neg (by decide), if_neg (by decide), if_neg (by decide), e, gcx_0]
theorem a_banquetN (H : CR N σ g f cnt gs n t) {u a b : Nat} (hu : u ≤ 9999) (ha1 : 1 ≤ a) (ha : a ≤ 10) (hb1 : 1 ≤ b) (hb : b ≤ 200) (hr : bqR g u ≠ nI 0) (z : Int32) : f_L_act 0 (3 : Int32) (nI u) (nI a) (nI b) z σ = some ((-1 : Int32), rfM σ (bqR g u) (bqD g)) := by
  unfold f_L_act
  rw [if_neg (by decide), if_neg (by decide), if_neg (by decide), d_banquetN H hu ha1 ha hb1 hb hr, gcx_3]
end
