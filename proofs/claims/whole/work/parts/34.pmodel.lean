/-! THE PURE SIDE: what the model's reading methods answer -/
theorem gl434 : gl 434 = 220 := by decide +kernel
theorem gl435 : gl 435 = 220 := by decide +kernel
theorem gl436 : gl 436 = 1760 := by decide +kernel
theorem gl437 : gl 437 = 220 := by decide +kernel
theorem gl438 : gl 438 = 60 := by decide +kernel
theorem gl439 : gl 439 = 300 := by decide +kernel
theorem x_in (x l u : Int32) (m : gMem) : f_X9_in x l u m = some (if l ≤ x ∧ x ≤ u then nI 1 else nI 0, m) := by
  unfold f_X9_in
  by_cases h1 : x < l
  · rw [if_pos h1, if_neg (fun q => absurd q.1 (Int32.not_le.mpr h1))]; rfl
  · rw [if_neg h1]
    by_cases h2 : u < x
    · rw [if_pos h2, if_neg (fun q => absurd q.2 (Int32.not_le.mpr h2))]; rfl
    · rw [if_neg h2, if_pos ⟨Int32.not_lt.mp h1, Int32.not_lt.mp h2⟩]; rfl
theorem x_grade (x : Int32) (m : gMem) : f_X9_isGrade x m = some (if nI 0 ≤ x ∧ x ≤ nI 2 then nI 1 else nI 0, m) := by
  unfold f_X9_isGrade
  rw [x_in]
  simp only [li_0, li_1, li_2, li_3, li_4, li_5, li_6, li_7, li_8, li_9, li_10, li_11, li_12, li_13, li_14, li_15, li_16, li_20, li_23, li_24, li_26, li_29, li_30, li_36, li_39, li_40, li_42, li_43, li_47, li_48, li_49, li_50, li_53, li_57, li_58, li_59, li_60, li_61, li_62, li_64, li_68, li_71, li_72, li_74, li_80, li_86, li_92, li_93, li_94, li_95, li_96, li_97, li_98, li_99, li_100, li_104, li_108, li_110, li_115, li_116, li_160, li_200, li_220, li_300, li_9999, g1]
  split
  · rw [if_pos (Or.inr rfl)]
  · rw [if_pos (Or.inl rfl)]
theorem x_strength (x : Int32) (m : gMem) : f_X9_strength x m = some (str x, m) := by
  unfold f_X9_strength str
  simp only [li_0, li_1, li_2, li_3, li_4, li_5, li_6, li_7, li_8, li_9, li_10, li_11, li_12, li_13, li_14, li_15, li_16, li_20, li_23, li_24, li_26, li_29, li_30, li_36, li_39, li_40, li_42, li_43, li_47, li_48, li_49, li_50, li_53, li_57, li_58, li_59, li_60, li_61, li_62, li_64, li_68, li_71, li_72, li_74, li_80, li_86, li_92, li_93, li_94, li_95, li_96, li_97, li_98, li_99, li_100, li_104, li_108, li_110, li_115, li_116, li_160, li_200, li_220, li_300, li_9999]
  by_cases h0 : x = nI 0
  · rw [if_pos h0, if_pos h0]
  · by_cases h1 : x = nI 1
    · rw [if_neg h0, if_pos h1, if_neg h0, if_pos h1]
    · rw [if_neg h0, if_neg h1, if_neg h0, if_neg h1]
theorem nI_m1 {a : Nat} (h : 0 < a) : nI a + m1 = nI (a - 1) := by
  rw [← nI_sub (a := a) (b := 1) h, Int32.sub_eq_add_neg, neg1]
theorem x_damp {a b : Nat} (ha : a ≤ 99) (hb : b ≤ 99) (m : gMem) : f_X9_damper (nI a) (nI b) m = some (nI (dN a b), m) := by
  unfold f_X9_damper dN
  by_cases h1 : b ≤ 50
  · by_cases h2 : 40 ≤ b
    · simp (disch := omega) only [neg1, li_0, li_1, li_2, li_3, li_4, li_5, li_6, li_7, li_8, li_9, li_10, li_11, li_12, li_13, li_14, li_15, li_16, li_20, li_23, li_24, li_26, li_29, li_30, li_36, li_39, li_40, li_42, li_43, li_47, li_48, li_49, li_50, li_53, li_57, li_58, li_59, li_60, li_61, li_62, li_64, li_68, li_71, li_72, li_74, li_80, li_86, li_92, li_93, li_94, li_95, li_96, li_97, li_98, li_99, li_100, li_104, li_108, li_110, li_115, li_116, li_160, li_200, li_220, li_300, li_9999, nI_add, nI_mul, p_clamp, p_le, p_lt, p_eq, p_m1lt, p_m1eq, p_m1ge, p_eqm1, i_clamp, p_leT, p_leF, p_ltT, p_ltF, p_eqT, p_eqF, or_self, or_false, false_or, or_true, true_or, not_false_eq_true, not_true_eq_false, ↓reduceIte, and_self, and_true, true_and, and_false, false_and, ↓gv_e, g1, g2, gnl, Nat.reduceAdd, Nat.add_zero, reduceCtorEq]
    · rcases Nat.eq_zero_or_pos a with rfl | h3
      · have e : ¬ nI 0 ≤ pr 0 := by decide +kernel
        simp (disch := omega) only [neg1, li_0, li_1, li_2, li_3, li_4, li_5, li_6, li_7, li_8, li_9, li_10, li_11, li_12, li_13, li_14, li_15, li_16, li_20, li_23, li_24, li_26, li_29, li_30, li_36, li_39, li_40, li_42, li_43, li_47, li_48, li_49, li_50, li_53, li_57, li_58, li_59, li_60, li_61, li_62, li_64, li_68, li_71, li_72, li_74, li_80, li_86, li_92, li_93, li_94, li_95, li_96, li_97, li_98, li_99, li_100, li_104, li_108, li_110, li_115, li_116, li_160, li_200, li_220, li_300, li_9999, nI_add, nI_mul, p_clamp, p_le, p_lt, p_eq, p_m1lt, p_m1eq, p_m1ge, p_eqm1, i_clamp, p_leT, p_leF, p_ltT, p_ltF, p_eqT, p_eqF, or_self, or_false, false_or, or_true, true_or, not_false_eq_true, not_true_eq_false, ↓reduceIte, and_self, and_true, true_and, and_false, false_and, ↓gv_e, g1, g2, gnl, Nat.reduceAdd, Nat.add_zero, reduceCtorEq, pr_pred, e]
      · have e := nI_m1 h3
        have k1 : nI b ≤ 50 := nI_le (b := 50) h1 (by omega)
        have k2 : ¬ (40 : Int32) ≤ nI b := nI_ge (b := 40) (by omega) (by omega)
        have k3 : (0 : Int32) ≤ nI (a - 1) := nI_pos' (by omega)
        have k4 : nI (a - 1) ≤ 99 := nI_le (b := 99) (by omega) (by omega)
        rw [if_pos k1, if_neg k2, m1_d, e]
        unfold gv
        dsimp only
        rw [if_pos k3, if_pos k4, if_pos h1, if_neg h2]
  · have e : nI b - nI 50 = nI (b - 50) := nI_sub (by omega)
    have e2 : nI (b - 50) / nI 10 = nI ((b - 50) / 10) := p_div (by omega) (by omega)
    simp (disch := omega) only [neg1, li_0, li_1, li_2, li_3, li_4, li_5, li_6, li_7, li_8, li_9, li_10, li_11, li_12, li_13, li_14, li_15, li_16, li_20, li_23, li_24, li_26, li_29, li_30, li_36, li_39, li_40, li_42, li_43, li_47, li_48, li_49, li_50, li_53, li_57, li_58, li_59, li_60, li_61, li_62, li_64, li_68, li_71, li_72, li_74, li_80, li_86, li_92, li_93, li_94, li_95, li_96, li_97, li_98, li_99, li_100, li_104, li_108, li_110, li_115, li_116, li_160, li_200, li_220, li_300, li_9999, nI_add, nI_mul, p_clamp, p_le, p_lt, p_eq, p_m1lt, p_m1eq, p_m1ge, p_eqm1, i_clamp, p_leT, p_leF, p_ltT, p_ltF, p_eqT, p_eqF, or_self, or_false, false_or, or_true, true_or, not_false_eq_true, not_true_eq_false, ↓reduceIte, and_self, and_true, true_and, and_false, false_and, ↓gv_e, g1, g2, gnl, Nat.reduceAdd, Nat.add_zero, reduceCtorEq, e, e2]
    by_cases h4 : a + (b - 50) / 10 ≤ 99
    · simp (disch := omega) only [neg1, li_0, li_1, li_2, li_3, li_4, li_5, li_6, li_7, li_8, li_9, li_10, li_11, li_12, li_13, li_14, li_15, li_16, li_20, li_23, li_24, li_26, li_29, li_30, li_36, li_39, li_40, li_42, li_43, li_47, li_48, li_49, li_50, li_53, li_57, li_58, li_59, li_60, li_61, li_62, li_64, li_68, li_71, li_72, li_74, li_80, li_86, li_92, li_93, li_94, li_95, li_96, li_97, li_98, li_99, li_100, li_104, li_108, li_110, li_115, li_116, li_160, li_200, li_220, li_300, li_9999, nI_add, nI_mul, p_clamp, p_le, p_lt, p_eq, p_m1lt, p_m1eq, p_m1ge, p_eqm1, i_clamp, p_leT, p_leF, p_ltT, p_ltF, p_eqT, p_eqF, or_self, or_false, false_or, or_true, true_or, not_false_eq_true, not_true_eq_false, ↓reduceIte, and_self, and_true, true_and, and_false, false_and, ↓gv_e, g1, g2, gnl, Nat.reduceAdd, Nat.add_zero, reduceCtorEq]
      rw [Nat.min_eq_right (by omega)]
    · simp (disch := omega) only [neg1, li_0, li_1, li_2, li_3, li_4, li_5, li_6, li_7, li_8, li_9, li_10, li_11, li_12, li_13, li_14, li_15, li_16, li_20, li_23, li_24, li_26, li_29, li_30, li_36, li_39, li_40, li_42, li_43, li_47, li_48, li_49, li_50, li_53, li_57, li_58, li_59, li_60, li_61, li_62, li_64, li_68, li_71, li_72, li_74, li_80, li_86, li_92, li_93, li_94, li_95, li_96, li_97, li_98, li_99, li_100, li_104, li_108, li_110, li_115, li_116, li_160, li_200, li_220, li_300, li_9999, nI_add, nI_mul, p_clamp, p_le, p_lt, p_eq, p_m1lt, p_m1eq, p_m1ge, p_eqm1, i_clamp, p_leT, p_leF, p_ltT, p_ltF, p_eqT, p_eqF, or_self, or_false, false_or, or_true, true_or, not_false_eq_true, not_true_eq_false, ↓reduceIte, and_self, and_true, true_and, and_false, false_and, ↓gv_e, g1, g2, gnl, Nat.reduceAdd, Nat.add_zero, reduceCtorEq]
      rw [Nat.min_eq_left (by omega)]
def mn3 (x y : Int32) : Int32 := if x ≤ y then x else y
theorem mn_int (a b : Int32) : (mn a b).toInt = min a.toInt b.toInt := by
  unfold mn
  by_cases h : a < b
  · rw [if_pos h, Int.min_eq_left (Int.le_of_lt (Int32.lt_iff_toInt_lt.mp h))]
  · rw [if_neg h, Int.min_eq_right (Int32.le_iff_toInt_le.mp (Int32.not_lt.mp h))]
theorem mn3_int (a b : Int32) : (mn3 a b).toInt = min a.toInt b.toInt := by
  unfold mn3
  by_cases h : a ≤ b
  · rw [if_pos h, Int.min_eq_left (Int32.le_iff_toInt_le.mp h)]
  · rw [if_neg h, Int.min_eq_right (Int.le_of_lt (Int32.lt_iff_toInt_lt.mp (Int32.not_le.mp h)))]
section
variable {m : gMem} {N : Nat}
theorem x_hum {k : Nat} (hs : k < 2147483648) : f_X9_humidAt 433 (nI k) m = some (m 434 (2 + k % 24), m) := by
  unfold f_X9_humidAt
  have e := p_rem (a := k) (b := 24) hs (by decide)
  have hm : k % 24 < 24 := Nat.mod_lt _ (by decide)
  simp (disch := omega) only [neg1, li_0, li_1, li_2, li_3, li_4, li_5, li_6, li_7, li_8, li_9, li_10, li_11, li_12, li_13, li_14, li_15, li_16, li_20, li_23, li_24, li_26, li_29, li_30, li_36, li_39, li_40, li_42, li_43, li_47, li_48, li_49, li_50, li_53, li_57, li_58, li_59, li_60, li_61, li_62, li_64, li_68, li_71, li_72, li_74, li_80, li_86, li_92, li_93, li_94, li_95, li_96, li_97, li_98, li_99, li_100, li_104, li_108, li_110, li_115, li_116, li_160, li_200, li_220, li_300, li_9999, nI_add, nI_mul, p_clamp, p_le, p_lt, p_eq, p_m1lt, p_m1eq, p_m1ge, p_eqm1, i_clamp, p_leT, p_leF, p_ltT, p_ltF, p_eqT, p_eqF, or_self, or_false, false_or, or_true, true_or, not_false_eq_true, not_true_eq_false, ↓reduceIte, and_self, and_true, true_and, and_false, false_and, ↓gv_e, g1, g2, gnl, Nat.reduceAdd, Nat.add_zero, reduceCtorEq, gl434, e]
theorem x_tower (hb : GB N (m 434)) {t : Nat} (ht : t < iN (m 434 29)) : f_X9_isTower 433 (nI t) m = some (nI 1, m) := by
  obtain ⟨W, hW, h6⟩ := b_nW hb
  rw [hW, i_clamp (by omega)] at ht
  have e : nI W - nI 1 = nI (W - 1) := nI_sub (by omega)
  unfold f_X9_isTower
  simp (disch := omega) only [neg1, li_0, li_1, li_2, li_3, li_4, li_5, li_6, li_7, li_8, li_9, li_10, li_11, li_12, li_13, li_14, li_15, li_16, li_20, li_23, li_24, li_26, li_29, li_30, li_36, li_39, li_40, li_42, li_43, li_47, li_48, li_49, li_50, li_53, li_57, li_58, li_59, li_60, li_61, li_62, li_64, li_68, li_71, li_72, li_74, li_80, li_86, li_92, li_93, li_94, li_95, li_96, li_97, li_98, li_99, li_100, li_104, li_108, li_110, li_115, li_116, li_160, li_200, li_220, li_300, li_9999, nI_add, nI_mul, p_clamp, p_le, p_lt, p_eq, p_m1lt, p_m1eq, p_m1ge, p_eqm1, i_clamp, p_leT, p_leF, p_ltT, p_ltF, p_eqT, p_eqF, or_self, or_false, false_or, or_true, true_or, not_false_eq_true, not_true_eq_false, ↓reduceIte, and_self, and_true, true_and, and_false, false_and, ↓gv_e, g1, g2, gnl, Nat.reduceAdd, Nat.add_zero, reduceCtorEq, gl434, hW, x_in, e]
theorem x_towerN (hb : GB N (m 434)) {u : Int32} (hu : u < 0 ∨ (0 ≤ u ∧ nI (iN (m 434 29)) ≤ u)) : f_X9_isTower 433 u m = some (nI 0, m) := by
  obtain ⟨W, hW, h6⟩ := b_nW hb
  rw [hW, i_clamp (by omega)] at hu
  have e : ¬ (nI 0 ≤ u ∧ u ≤ pr W) := by
    rintro ⟨q1, q2⟩
    rcases hu with q | ⟨q, q3⟩
    · exact absurd q (Int32.not_lt.mpr q1)
    · cases W with
      | zero => exact absurd (Int32.le_trans q1 q2) (by decide +kernel)
      | succ W =>
        have := Int32.le_trans q3 q2
        rw [pr, p_le (by omega) (by omega)] at this
        omega
  unfold f_X9_isTower
  simp (disch := omega) only [neg1, li_0, li_1, li_2, li_3, li_4, li_5, li_6, li_7, li_8, li_9, li_10, li_11, li_12, li_13, li_14, li_15, li_16, li_20, li_23, li_24, li_26, li_29, li_30, li_36, li_39, li_40, li_42, li_43, li_47, li_48, li_49, li_50, li_53, li_57, li_58, li_59, li_60, li_61, li_62, li_64, li_68, li_71, li_72, li_74, li_80, li_86, li_92, li_93, li_94, li_95, li_96, li_97, li_98, li_99, li_100, li_104, li_108, li_110, li_115, li_116, li_160, li_200, li_220, li_300, li_9999, nI_add, nI_mul, p_clamp, p_le, p_lt, p_eq, p_m1lt, p_m1eq, p_m1ge, p_eqm1, i_clamp, p_leT, p_leF, p_ltT, p_ltF, p_eqT, p_eqF, or_self, or_false, false_or, or_true, true_or, not_false_eq_true, not_true_eq_false, ↓reduceIte, and_self, and_true, true_and, and_false, false_and, ↓gv_e, g1, g2, gnl, Nat.reduceAdd, Nat.add_zero, reduceCtorEq, gl434, hW, x_in, pr_sub, e]
theorem x_tongs (hb : GB N (m 434)) {t : Nat} (ht : t < iN (m 434 48)) : f_X9_isTongs 433 (nI t) m = some (nI 1, m) := by
  obtain ⟨W, hW, h6⟩ := b_nT hb
  rw [hW, i_clamp (by omega)] at ht
  have e : nI W - nI 1 = nI (W - 1) := nI_sub (by omega)
  unfold f_X9_isTongs
  simp (disch := omega) only [neg1, li_0, li_1, li_2, li_3, li_4, li_5, li_6, li_7, li_8, li_9, li_10, li_11, li_12, li_13, li_14, li_15, li_16, li_20, li_23, li_24, li_26, li_29, li_30, li_36, li_39, li_40, li_42, li_43, li_47, li_48, li_49, li_50, li_53, li_57, li_58, li_59, li_60, li_61, li_62, li_64, li_68, li_71, li_72, li_74, li_80, li_86, li_92, li_93, li_94, li_95, li_96, li_97, li_98, li_99, li_100, li_104, li_108, li_110, li_115, li_116, li_160, li_200, li_220, li_300, li_9999, nI_add, nI_mul, p_clamp, p_le, p_lt, p_eq, p_m1lt, p_m1eq, p_m1ge, p_eqm1, i_clamp, p_leT, p_leF, p_ltT, p_ltF, p_eqT, p_eqF, or_self, or_false, false_or, or_true, true_or, not_false_eq_true, not_true_eq_false, ↓reduceIte, and_self, and_true, true_and, and_false, false_and, ↓gv_e, g1, g2, gnl, Nat.reduceAdd, Nat.add_zero, reduceCtorEq, gl434, hW, x_in, e]
theorem x_tongsN (hb : GB N (m 434)) {u : Int32} (hu : u < 0 ∨ (0 ≤ u ∧ nI (iN (m 434 48)) ≤ u)) : f_X9_isTongs 433 u m = some (nI 0, m) := by
  obtain ⟨W, hW, h6⟩ := b_nT hb
  rw [hW, i_clamp (by omega)] at hu
  have e : ¬ (nI 0 ≤ u ∧ u ≤ pr W) := by
    rintro ⟨q1, q2⟩
    rcases hu with q | ⟨q, q3⟩
    · exact absurd q (Int32.not_lt.mpr q1)
    · cases W with
      | zero => exact absurd (Int32.le_trans q1 q2) (by decide +kernel)
      | succ W =>
        have := Int32.le_trans q3 q2
        rw [pr, p_le (by omega) (by omega)] at this
        omega
  unfold f_X9_isTongs
  simp (disch := omega) only [neg1, li_0, li_1, li_2, li_3, li_4, li_5, li_6, li_7, li_8, li_9, li_10, li_11, li_12, li_13, li_14, li_15, li_16, li_20, li_23, li_24, li_26, li_29, li_30, li_36, li_39, li_40, li_42, li_43, li_47, li_48, li_49, li_50, li_53, li_57, li_58, li_59, li_60, li_61, li_62, li_64, li_68, li_71, li_72, li_74, li_80, li_86, li_92, li_93, li_94, li_95, li_96, li_97, li_98, li_99, li_100, li_104, li_108, li_110, li_115, li_116, li_160, li_200, li_220, li_300, li_9999, nI_add, nI_mul, p_clamp, p_le, p_lt, p_eq, p_m1lt, p_m1eq, p_m1ge, p_eqm1, i_clamp, p_leT, p_leF, p_ltT, p_ltF, p_eqT, p_eqF, or_self, or_false, false_or, or_true, true_or, not_false_eq_true, not_true_eq_false, ↓reduceIte, and_self, and_true, true_and, and_false, false_and, ↓gv_e, g1, g2, gnl, Nat.reduceAdd, Nat.add_zero, reduceCtorEq, gl434, hW, x_in, pr_sub, e]
theorem x_course (hb : GB N (m 434)) {t c : Nat} (ht : t < iN (m 434 29)) (hc : c < gC (m 434) t) : f_X9_isCourse 433 (nI t) (nI c) m = some (nI 1, m) := by
  have hW := (n_W hb).2
  obtain ⟨hC, hC2⟩ := gC_of hb (t := t) (by omega)
  have e : nI (gC (m 434) t) - nI 1 = nI (gC (m 434) t - 1) := nI_sub (by omega)
  unfold f_X9_isCourse
  rw [x_tower hb ht]
  simp (disch := omega) only [neg1, li_0, li_1, li_2, li_3, li_4, li_5, li_6, li_7, li_8, li_9, li_10, li_11, li_12, li_13, li_14, li_15, li_16, li_20, li_23, li_24, li_26, li_29, li_30, li_36, li_39, li_40, li_42, li_43, li_47, li_48, li_49, li_50, li_53, li_57, li_58, li_59, li_60, li_61, li_62, li_64, li_68, li_71, li_72, li_74, li_80, li_86, li_92, li_93, li_94, li_95, li_96, li_97, li_98, li_99, li_100, li_104, li_108, li_110, li_115, li_116, li_160, li_200, li_220, li_300, li_9999, nI_add, nI_mul, p_clamp, p_le, p_lt, p_eq, p_m1lt, p_m1eq, p_m1ge, p_eqm1, i_clamp, p_leT, p_leF, p_ltT, p_ltF, p_eqT, p_eqF, or_self, or_false, false_or, or_true, true_or, not_false_eq_true, not_true_eq_false, ↓reduceIte, and_self, and_true, true_and, and_false, false_and, ↓gv_e, g1, g2, gnl, Nat.reduceAdd, Nat.add_zero, reduceCtorEq, gl434, hC, x_in, e]
theorem x_courseN (hb : GB N (m 434)) {t : Nat} {u : Int32} (ht : t < iN (m 434 29)) (hu : u < 0 ∨ (0 ≤ u ∧ nI (gC (m 434) t) ≤ u)) : f_X9_isCourse 433 (nI t) u m = some (nI 0, m) := by
  have hW := (n_W hb).2
  obtain ⟨hC, hC2⟩ := gC_of hb (t := t) (by omega)
  have e : ¬ (nI 0 ≤ u ∧ u ≤ pr (gC (m 434) t)) := by
    generalize gC (m 434) t = W at hu hC2
    rintro ⟨q1, q2⟩
    rcases hu with q | ⟨q, q3⟩
    · exact absurd q (Int32.not_lt.mpr q1)
    · cases W with
      | zero => exact absurd (Int32.le_trans q1 q2) (by decide +kernel)
      | succ W =>
        have := Int32.le_trans q3 q2
        rw [pr, p_le (by omega) (by omega)] at this
        omega
  unfold f_X9_isCourse
  rw [x_tower hb ht]
  simp (disch := omega) only [neg1, li_0, li_1, li_2, li_3, li_4, li_5, li_6, li_7, li_8, li_9, li_10, li_11, li_12, li_13, li_14, li_15, li_16, li_20, li_23, li_24, li_26, li_29, li_30, li_36, li_39, li_40, li_42, li_43, li_47, li_48, li_49, li_50, li_53, li_57, li_58, li_59, li_60, li_61, li_62, li_64, li_68, li_71, li_72, li_74, li_80, li_86, li_92, li_93, li_94, li_95, li_96, li_97, li_98, li_99, li_100, li_104, li_108, li_110, li_115, li_116, li_160, li_200, li_220, li_300, li_9999, nI_add, nI_mul, p_clamp, p_le, p_lt, p_eq, p_m1lt, p_m1eq, p_m1ge, p_eqm1, i_clamp, p_leT, p_leF, p_ltT, p_ltF, p_eqT, p_eqF, or_self, or_false, false_or, or_true, true_or, not_false_eq_true, not_true_eq_false, ↓reduceIte, and_self, and_true, true_and, and_false, false_and, ↓gv_e, g1, g2, gnl, Nat.reduceAdd, Nat.add_zero, reduceCtorEq, gl434, hC, x_in, pr_sub, e]
theorem x_cubes {t c : Nat} (ht : t < 6) (hc : c < 10) : f_X9_cubesOf 433 (nI t) (nI c) m = some (cub (m 434) t c, m) := by
  unfold f_X9_cubesOf
  simp (disch := omega) only [neg1, li_0, li_1, li_2, li_3, li_4, li_5, li_6, li_7, li_8, li_9, li_10, li_11, li_12, li_13, li_14, li_15, li_16, li_20, li_23, li_24, li_26, li_29, li_30, li_36, li_39, li_40, li_42, li_43, li_47, li_48, li_49, li_50, li_53, li_57, li_58, li_59, li_60, li_61, li_62, li_64, li_68, li_71, li_72, li_74, li_80, li_86, li_92, li_93, li_94, li_95, li_96, li_97, li_98, li_99, li_100, li_104, li_108, li_110, li_115, li_116, li_160, li_200, li_220, li_300, li_9999, nI_add, nI_mul, p_clamp, p_le, p_lt, p_eq, p_m1lt, p_m1eq, p_m1ge, p_eqm1, i_clamp, p_leT, p_leF, p_ltT, p_ltF, p_eqT, p_eqF, or_self, or_false, false_or, or_true, true_or, not_false_eq_true, not_true_eq_false, ↓reduceIte, and_self, and_true, true_and, and_false, false_and, ↓gv_e, g1, g2, gnl, Nat.reduceAdd, Nat.add_zero, reduceCtorEq, gl434]
theorem x_bears {t c : Nat} (ht : t < 6) (hc : c < 10) (d : Int32) : f_X9_bearsAt 433 (nI t) (nI c) d m = some (bear (m 434) t c d, m) := by
  unfold f_X9_bearsAt bear
  simp (disch := omega) only [neg1, li_0, li_1, li_2, li_3, li_4, li_5, li_6, li_7, li_8, li_9, li_10, li_11, li_12, li_13, li_14, li_15, li_16, li_20, li_23, li_24, li_26, li_29, li_30, li_36, li_39, li_40, li_42, li_43, li_47, li_48, li_49, li_50, li_53, li_57, li_58, li_59, li_60, li_61, li_62, li_64, li_68, li_71, li_72, li_74, li_80, li_86, li_92, li_93, li_94, li_95, li_96, li_97, li_98, li_99, li_100, li_104, li_108, li_110, li_115, li_116, li_160, li_200, li_220, li_300, li_9999, nI_add, nI_mul, p_clamp, p_le, p_lt, p_eq, p_m1lt, p_m1eq, p_m1ge, p_eqm1, i_clamp, p_leT, p_leF, p_ltT, p_ltF, p_eqT, p_eqF, or_self, or_false, false_or, or_true, true_or, not_false_eq_true, not_true_eq_false, ↓reduceIte, and_self, and_true, true_and, and_false, false_and, ↓gv_e, g1, g2, gnl, Nat.reduceAdd, Nat.add_zero, reduceCtorEq, gl434, x_strength, x_cubes ht hc]
  split <;> rfl
theorem x_ab_L (hb : GB N (m 434)) {t : Nat} (ht : t < 6) : ∀ (n i fuel : Nat) (acc : Int32), n < fuel → n = gC (m 434) t - i → L_X9_above_7 433 (nI t) fuel acc (nI i) m = some (acc + sm (fun j => cub (m 434) t j) i n, m) ∨ 2147483648 ≤ i := by
  obtain ⟨hC, hC2⟩ := gC_of hb ht
  intro n
  induction n with
  | zero =>
    intro i fuel acc hf hi
    by_cases hi2 : 2147483648 ≤ i
    · exact Or.inr hi2
    left
    obtain ⟨f, rfl⟩ : ∃ f, fuel = f + 1 := ⟨fuel - 1, by omega⟩
    simp (disch := omega) only [neg1, li_0, li_1, li_2, li_3, li_4, li_5, li_6, li_7, li_8, li_9, li_10, li_11, li_12, li_13, li_14, li_15, li_16, li_20, li_23, li_24, li_26, li_29, li_30, li_36, li_39, li_40, li_42, li_43, li_47, li_48, li_49, li_50, li_53, li_57, li_58, li_59, li_60, li_61, li_62, li_64, li_68, li_71, li_72, li_74, li_80, li_86, li_92, li_93, li_94, li_95, li_96, li_97, li_98, li_99, li_100, li_104, li_108, li_110, li_115, li_116, li_160, li_200, li_220, li_300, li_9999, nI_add, nI_mul, p_clamp, p_le, p_lt, p_eq, p_m1lt, p_m1eq, p_m1ge, p_eqm1, i_clamp, p_leT, p_leF, p_ltT, p_ltF, p_eqT, p_eqF, or_self, or_false, false_or, or_true, true_or, not_false_eq_true, not_true_eq_false, ↓reduceIte, and_self, and_true, true_and, and_false, false_and, ↓gv_e, g1, g2, gnl, Nat.reduceAdd, Nat.add_zero, reduceCtorEq, L_X9_above_7, gl434, hC, sm]
    rw [show nI 0 = 0 from rfl, Int32.add_zero]
  | succ n ih =>
    intro i fuel acc hf hi
    left
    obtain ⟨f, rfl⟩ : ∃ f, fuel = f + 1 := ⟨fuel - 1, by omega⟩
    have e := (ih (i + 1) f (acc + cub (m 434) t i) (by omega) (by omega)).resolve_right (by omega)
    simp (disch := omega) only [neg1, li_0, li_1, li_2, li_3, li_4, li_5, li_6, li_7, li_8, li_9, li_10, li_11, li_12, li_13, li_14, li_15, li_16, li_20, li_23, li_24, li_26, li_29, li_30, li_36, li_39, li_40, li_42, li_43, li_47, li_48, li_49, li_50, li_53, li_57, li_58, li_59, li_60, li_61, li_62, li_64, li_68, li_71, li_72, li_74, li_80, li_86, li_92, li_93, li_94, li_95, li_96, li_97, li_98, li_99, li_100, li_104, li_108, li_110, li_115, li_116, li_160, li_200, li_220, li_300, li_9999, nI_add, nI_mul, p_clamp, p_le, p_lt, p_eq, p_m1lt, p_m1eq, p_m1ge, p_eqm1, i_clamp, p_leT, p_leF, p_ltT, p_ltF, p_eqT, p_eqF, or_self, or_false, false_or, or_true, true_or, not_false_eq_true, not_true_eq_false, ↓reduceIte, and_self, and_true, true_and, and_false, false_and, ↓gv_e, g1, g2, gnl, Nat.reduceAdd, Nat.add_zero, reduceCtorEq, L_X9_above_7, gl434, hC, x_cubes ht (show i < 10 by omega), sm, e]
    rw [Int32.add_assoc]
theorem x_ab (hb : GB N (m 434)) {t c : Nat} (ht : t < 6) (hc : c < 1000) : f_X9_above 433 (nI t) (nI c) m = some (ab (m 434) t c, m) := by
  obtain ⟨hC, hC2⟩ := gC_of hb ht
  have e := (x_ab_L hb ht (gC (m 434) t - (c + 1)) (c + 1) gF 0 (by unfold gF; omega) rfl).resolve_right (by omega)
  unfold f_X9_above gv
  rw [li_1, nI_add, li_0]
  rw [show (0 : Int32) = nI 0 from rfl] at e
  dsimp only
  rw [e, show nI 0 = 0 from rfl, Int32.zero_add]
  rfl
theorem x_weak_L (hb : GB N (m 434)) {t : Nat} (ht : t < 6) (d more : Int32) : ∀ (n i fuel : Nat), n < fuel → i + n = gC (m 434) t → L_X9_weakAt_3 433 (nI t) d more fuel (nI i) m = some (wk (m 434) t d more i n, m) := by
  obtain ⟨hC, hC2⟩ := gC_of hb ht
  intro n
  induction n with
  | zero =>
    intro i fuel hf hi
    obtain ⟨f, rfl⟩ : ∃ f, fuel = f + 1 := ⟨fuel - 1, by omega⟩
    simp (disch := omega) only [neg1, li_0, li_1, li_2, li_3, li_4, li_5, li_6, li_7, li_8, li_9, li_10, li_11, li_12, li_13, li_14, li_15, li_16, li_20, li_23, li_24, li_26, li_29, li_30, li_36, li_39, li_40, li_42, li_43, li_47, li_48, li_49, li_50, li_53, li_57, li_58, li_59, li_60, li_61, li_62, li_64, li_68, li_71, li_72, li_74, li_80, li_86, li_92, li_93, li_94, li_95, li_96, li_97, li_98, li_99, li_100, li_104, li_108, li_110, li_115, li_116, li_160, li_200, li_220, li_300, li_9999, nI_add, nI_mul, p_clamp, p_le, p_lt, p_eq, p_m1lt, p_m1eq, p_m1ge, p_eqm1, i_clamp, p_leT, p_leF, p_ltT, p_ltF, p_eqT, p_eqF, or_self, or_false, false_or, or_true, true_or, not_false_eq_true, not_true_eq_false, ↓reduceIte, and_self, and_true, true_and, and_false, false_and, ↓gv_e, g1, g2, gnl, Nat.reduceAdd, Nat.add_zero, reduceCtorEq, L_X9_weakAt_3, gl434, hC, wk]
  | succ n ih =>
    intro i fuel hf hi
    obtain ⟨f, rfl⟩ : ∃ f, fuel = f + 1 := ⟨fuel - 1, by omega⟩
    simp (disch := omega) only [neg1, li_0, li_1, li_2, li_3, li_4, li_5, li_6, li_7, li_8, li_9, li_10, li_11, li_12, li_13, li_14, li_15, li_16, li_20, li_23, li_24, li_26, li_29, li_30, li_36, li_39, li_40, li_42, li_43, li_47, li_48, li_49, li_50, li_53, li_57, li_58, li_59, li_60, li_61, li_62, li_64, li_68, li_71, li_72, li_74, li_80, li_86, li_92, li_93, li_94, li_95, li_96, li_97, li_98, li_99, li_100, li_104, li_108, li_110, li_115, li_116, li_160, li_200, li_220, li_300, li_9999, nI_add, nI_mul, p_clamp, p_le, p_lt, p_eq, p_m1lt, p_m1eq, p_m1ge, p_eqm1, i_clamp, p_leT, p_leF, p_ltT, p_ltF, p_eqT, p_eqF, or_self, or_false, false_or, or_true, true_or, not_false_eq_true, not_true_eq_false, ↓reduceIte, and_self, and_true, true_and, and_false, false_and, ↓gv_e, g1, g2, gnl, Nat.reduceAdd, Nat.add_zero, reduceCtorEq, L_X9_weakAt_3, gl434, hC, x_bears ht (show i < 10 by omega), x_ab hb ht (show i < 1000 by omega), wk, ih]
    by_cases q : ab (m 434) t i + more ≤ bear (m 434) t i d
    · rw [if_pos q, if_neg (Int32.not_lt.mpr q)]
    · rw [if_neg q, if_pos (Int32.not_le.mp q)]
theorem x_weak (hb : GB N (m 434)) {t : Nat} (ht : t < 6) (d more : Int32) : f_X9_weakAt 433 (nI t) d more m = some (weak (m 434) t d more, m) := by
  obtain ⟨hC, hC2⟩ := gC_of hb ht
  unfold f_X9_weakAt
  rw [li_0]
  exact x_weak_L hb ht d more _ 0 gF (by unfold gF; omega) (by omega)
theorem x_sum_L {a k : Nat} (ha : a + k ≤ 220) : ∀ (n i fuel : Nat) (acc : Int32), n < fuel → i + n = k → L_X9_sum_5 433 (nI a) (nI k) fuel acc (nI i) m = some (acc + sm (fun j => m 434 (a + j)) i n, m) := by
  intro n
  induction n with
  | zero =>
    intro i fuel acc hf hi
    obtain ⟨f, rfl⟩ : ∃ f, fuel = f + 1 := ⟨fuel - 1, by omega⟩
    simp (disch := omega) only [neg1, li_0, li_1, li_2, li_3, li_4, li_5, li_6, li_7, li_8, li_9, li_10, li_11, li_12, li_13, li_14, li_15, li_16, li_20, li_23, li_24, li_26, li_29, li_30, li_36, li_39, li_40, li_42, li_43, li_47, li_48, li_49, li_50, li_53, li_57, li_58, li_59, li_60, li_61, li_62, li_64, li_68, li_71, li_72, li_74, li_80, li_86, li_92, li_93, li_94, li_95, li_96, li_97, li_98, li_99, li_100, li_104, li_108, li_110, li_115, li_116, li_160, li_200, li_220, li_300, li_9999, nI_add, nI_mul, p_clamp, p_le, p_lt, p_eq, p_m1lt, p_m1eq, p_m1ge, p_eqm1, i_clamp, p_leT, p_leF, p_ltT, p_ltF, p_eqT, p_eqF, or_self, or_false, false_or, or_true, true_or, not_false_eq_true, not_true_eq_false, ↓reduceIte, and_self, and_true, true_and, and_false, false_and, ↓gv_e, g1, g2, gnl, Nat.reduceAdd, Nat.add_zero, reduceCtorEq, L_X9_sum_5, gl434, sm]
    rw [show nI 0 = 0 from rfl, Int32.add_zero]
  | succ n ih =>
    intro i fuel acc hf hi
    obtain ⟨f, rfl⟩ : ∃ f, fuel = f + 1 := ⟨fuel - 1, by omega⟩
    simp (disch := omega) only [neg1, li_0, li_1, li_2, li_3, li_4, li_5, li_6, li_7, li_8, li_9, li_10, li_11, li_12, li_13, li_14, li_15, li_16, li_20, li_23, li_24, li_26, li_29, li_30, li_36, li_39, li_40, li_42, li_43, li_47, li_48, li_49, li_50, li_53, li_57, li_58, li_59, li_60, li_61, li_62, li_64, li_68, li_71, li_72, li_74, li_80, li_86, li_92, li_93, li_94, li_95, li_96, li_97, li_98, li_99, li_100, li_104, li_108, li_110, li_115, li_116, li_160, li_200, li_220, li_300, li_9999, nI_add, nI_mul, p_clamp, p_le, p_lt, p_eq, p_m1lt, p_m1eq, p_m1ge, p_eqm1, i_clamp, p_leT, p_leF, p_ltT, p_ltF, p_eqT, p_eqF, or_self, or_false, false_or, or_true, true_or, not_false_eq_true, not_true_eq_false, ↓reduceIte, and_self, and_true, true_and, and_false, false_and, ↓gv_e, g1, g2, gnl, Nat.reduceAdd, Nat.add_zero, reduceCtorEq, L_X9_sum_5, gl434, sm, ih]
    rw [Int32.add_assoc]
theorem x_sum {a k : Nat} (ha : a + k ≤ 220) : f_X9_sum 433 (nI a) (nI k) m = some (sm (fun j => m 434 (a + j)) 0 k, m) := by
  unfold f_X9_sum
  rw [li_0, x_sum_L ha k 0 gF _ (by unfold gF; omega) (by omega), show nI 0 = 0 from rfl, Int32.zero_add]
theorem x_cubesIn (hb : GB N (m 434)) {t : Nat} (ht : t < 6) : f_X9_cubesIn 433 (nI t) m = some (sm (fun j => cub (m 434) t j) 0 (gC (m 434) t), m) := by
  obtain ⟨hC, hC2⟩ := gC_of hb ht
  have e := x_sum (m := m) (a := 160 + 10 * t) (k := gC (m 434) t) (by omega)
  unfold f_X9_cubesIn
  simp (disch := omega) only [neg1, li_0, li_1, li_2, li_3, li_4, li_5, li_6, li_7, li_8, li_9, li_10, li_11, li_12, li_13, li_14, li_15, li_16, li_20, li_23, li_24, li_26, li_29, li_30, li_36, li_39, li_40, li_42, li_43, li_47, li_48, li_49, li_50, li_53, li_57, li_58, li_59, li_60, li_61, li_62, li_64, li_68, li_71, li_72, li_74, li_80, li_86, li_92, li_93, li_94, li_95, li_96, li_97, li_98, li_99, li_100, li_104, li_108, li_110, li_115, li_116, li_160, li_200, li_220, li_300, li_9999, nI_add, nI_mul, p_clamp, p_le, p_lt, p_eq, p_m1lt, p_m1eq, p_m1ge, p_eqm1, i_clamp, p_leT, p_leF, p_ltT, p_ltF, p_eqT, p_eqF, or_self, or_false, false_or, or_true, true_or, not_false_eq_true, not_true_eq_false, ↓reduceIte, and_self, and_true, true_and, and_false, false_and, ↓gv_e, g1, g2, gnl, Nat.reduceAdd, Nat.add_zero, reduceCtorEq, gl434, hC, e]
theorem x_shown_L (hb : GB N (m 434)) (u : Int32) : ∀ (n k fuel : Nat) (a : Int32), n < fuel → k + n = iN (m 434 61) → L_X9_shownAt_4 433 u fuel a (nI k) m = some (bwt (m 434) u k n a, m) := by
  obtain ⟨B, hB, h6⟩ := b_nB hb
  rw [hB, i_clamp (by omega)]
  intro n
  induction n with
  | zero =>
    intro k fuel a hf hk
    obtain ⟨f, rfl⟩ : ∃ f, fuel = f + 1 := ⟨fuel - 1, by omega⟩
    simp (disch := omega) only [neg1, li_0, li_1, li_2, li_3, li_4, li_5, li_6, li_7, li_8, li_9, li_10, li_11, li_12, li_13, li_14, li_15, li_16, li_20, li_23, li_24, li_26, li_29, li_30, li_36, li_39, li_40, li_42, li_43, li_47, li_48, li_49, li_50, li_53, li_57, li_58, li_59, li_60, li_61, li_62, li_64, li_68, li_71, li_72, li_74, li_80, li_86, li_92, li_93, li_94, li_95, li_96, li_97, li_98, li_99, li_100, li_104, li_108, li_110, li_115, li_116, li_160, li_200, li_220, li_300, li_9999, nI_add, nI_mul, p_clamp, p_le, p_lt, p_eq, p_m1lt, p_m1eq, p_m1ge, p_eqm1, i_clamp, p_leT, p_leF, p_ltT, p_ltF, p_eqT, p_eqF, or_self, or_false, false_or, or_true, true_or, not_false_eq_true, not_true_eq_false, ↓reduceIte, and_self, and_true, true_and, and_false, false_and, ↓gv_e, g1, g2, gnl, Nat.reduceAdd, Nat.add_zero, reduceCtorEq, L_X9_shownAt_4, gl434, hB, bwt]
  | succ n ih =>
    intro k fuel a hf hk
    obtain ⟨f, rfl⟩ : ∃ f, fuel = f + 1 := ⟨fuel - 1, by omega⟩
    simp (disch := omega) only [neg1, li_0, li_1, li_2, li_3, li_4, li_5, li_6, li_7, li_8, li_9, li_10, li_11, li_12, li_13, li_14, li_15, li_16, li_20, li_23, li_24, li_26, li_29, li_30, li_36, li_39, li_40, li_42, li_43, li_47, li_48, li_49, li_50, li_53, li_57, li_58, li_59, li_60, li_61, li_62, li_64, li_68, li_71, li_72, li_74, li_80, li_86, li_92, li_93, li_94, li_95, li_96, li_97, li_98, li_99, li_100, li_104, li_108, li_110, li_115, li_116, li_160, li_200, li_220, li_300, li_9999, nI_add, nI_mul, p_clamp, p_le, p_lt, p_eq, p_m1lt, p_m1eq, p_m1ge, p_eqm1, i_clamp, p_leT, p_leF, p_ltT, p_ltF, p_eqT, p_eqF, or_self, or_false, false_or, or_true, true_or, not_false_eq_true, not_true_eq_false, ↓reduceIte, and_self, and_true, true_and, and_false, false_and, ↓gv_e, g1, g2, gnl, Nat.reduceAdd, Nat.add_zero, reduceCtorEq, L_X9_shownAt_4, gl434, hB, bwt, ih]
    split <;> rfl
theorem x_shown (hb : GB N (m 434)) (u : Int32) : f_X9_shownAt 433 u m = some (bwt (m 434) u 0 (iN (m 434 61)) (nI 0), m) := by
  have := (n_B hb).2
  unfold f_X9_shownAt
  rw [li_0]
  exact x_shown_L hb u _ 0 gF _ (by unfold gF; omega) (by omega)
theorem x_spare_L (hb : GB N (m 434)) {t : Nat} (ht : t < 6) : ∀ (n i fuel : Nat) (y : Int32), n < fuel → i + n = gC (m 434) t → y ≤ nI 20 → L_X9_spareOf_5 433 (nI t) fuel y (nI i) m = some (if nI 0 ≤ mn y (spr (m 434) t i n) then mn y (spr (m 434) t i n) else nI 0, m) := by
  obtain ⟨hC, hC2⟩ := gC_of hb ht
  intro n
  induction n with
  | zero =>
    intro i fuel y hf hi hy
    obtain ⟨f, rfl⟩ : ∃ f, fuel = f + 1 := ⟨fuel - 1, by omega⟩
    have e : mn y (nI 20) = y := by
      apply Int32.toInt_inj.mp
      rw [mn_int, Int.min_eq_left (Int32.le_iff_toInt_le.mp hy)]
    simp (disch := omega) only [neg1, li_0, li_1, li_2, li_3, li_4, li_5, li_6, li_7, li_8, li_9, li_10, li_11, li_12, li_13, li_14, li_15, li_16, li_20, li_23, li_24, li_26, li_29, li_30, li_36, li_39, li_40, li_42, li_43, li_47, li_48, li_49, li_50, li_53, li_57, li_58, li_59, li_60, li_61, li_62, li_64, li_68, li_71, li_72, li_74, li_80, li_86, li_92, li_93, li_94, li_95, li_96, li_97, li_98, li_99, li_100, li_104, li_108, li_110, li_115, li_116, li_160, li_200, li_220, li_300, li_9999, nI_add, nI_mul, p_clamp, p_le, p_lt, p_eq, p_m1lt, p_m1eq, p_m1ge, p_eqm1, i_clamp, p_leT, p_leF, p_ltT, p_ltF, p_eqT, p_eqF, or_self, or_false, false_or, or_true, true_or, not_false_eq_true, not_true_eq_false, ↓reduceIte, and_self, and_true, true_and, and_false, false_and, ↓gv_e, g1, g2, gnl, Nat.reduceAdd, Nat.add_zero, reduceCtorEq, L_X9_spareOf_5, gl434, hC, spr, e]
    split <;> rfl
  | succ n ih =>
    intro i fuel y hf hi hy
    obtain ⟨f, rfl⟩ : ∃ f, fuel = f + 1 := ⟨fuel - 1, by omega⟩
    obtain ⟨x, hx⟩ : ∃ x, bear (m 434) t i (m 434 (30 + t)) - ab (m 434) t i = x := ⟨_, rfl⟩
    simp (disch := omega) only [neg1, li_0, li_1, li_2, li_3, li_4, li_5, li_6, li_7, li_8, li_9, li_10, li_11, li_12, li_13, li_14, li_15, li_16, li_20, li_23, li_24, li_26, li_29, li_30, li_36, li_39, li_40, li_42, li_43, li_47, li_48, li_49, li_50, li_53, li_57, li_58, li_59, li_60, li_61, li_62, li_64, li_68, li_71, li_72, li_74, li_80, li_86, li_92, li_93, li_94, li_95, li_96, li_97, li_98, li_99, li_100, li_104, li_108, li_110, li_115, li_116, li_160, li_200, li_220, li_300, li_9999, nI_add, nI_mul, p_clamp, p_le, p_lt, p_eq, p_m1lt, p_m1eq, p_m1ge, p_eqm1, i_clamp, p_leT, p_leF, p_ltT, p_ltF, p_eqT, p_eqF, or_self, or_false, false_or, or_true, true_or, not_false_eq_true, not_true_eq_false, ↓reduceIte, and_self, and_true, true_and, and_false, false_and, ↓gv_e, g1, g2, gnl, Nat.reduceAdd, Nat.add_zero, reduceCtorEq, L_X9_spareOf_5, gl434, hC, x_bears ht (show i < 10 by omega), x_ab hb ht (show i < 1000 by omega), spr, hx]
    have ea : ∀ z, mn (mn3 y x) z = mn y (mn x z) := fun z => by
      apply Int32.toInt_inj.mp
      rw [mn_int, mn_int, mn_int, mn3_int]; omega
    by_cases q : y ≤ x
    · rw [if_pos q, ih (i + 1) f y (by omega) (by omega) hy, ← ea, mn3, if_pos q]
    · rw [if_neg q, ih (i + 1) f x (by omega) (by omega) (Int32.le_trans (Int32.le_of_lt (Int32.not_le.mp q)) hy), ← ea, mn3, if_neg q]
theorem spr_le {g : Nat → Int32} {t : Nat} : ∀ n i, spr g t i n ≤ nI 20 := by
  intro n
  induction n with
  | zero => intro i; exact Int32.le_refl _
  | succ n ih =>
    intro i
    have := Int32.le_iff_toInt_le.mp (ih (i + 1))
    rw [Int32.le_iff_toInt_le, spr, mn_int]
    omega
theorem x_spare (hb : GB N (m 434)) {t : Nat} (ht : t < 6) : f_X9_spareOf 433 (nI t) m = some (if nI 0 ≤ spr (m 434) t 0 (gC (m 434) t) then spr (m 434) t 0 (gC (m 434) t) else nI 0, m) := by
  obtain ⟨hC, hC2⟩ := gC_of hb ht
  have e : mn (nI 20) (spr (m 434) t 0 (gC (m 434) t)) = spr (m 434) t 0 (gC (m 434) t) := by
    apply Int32.toInt_inj.mp
    rw [mn_int, Int.min_eq_right (Int32.le_iff_toInt_le.mp (spr_le _ _))]
  unfold f_X9_spareOf
  rw [li_0, li_20, x_spare_L hb ht (gC (m 434) t) 0 gF (nI 20) (by unfold gF; omega) (by omega) (Int32.le_refl _), e]
theorem x_miss (hb : GB N (m 434)) {k : Nat} (hk : k < 6) : f_X9_missing 433 (nI k) m = some (mis (m 434) k, m) := by
  unfold f_X9_missing mis
  rcases b_atb hb hk with q | ⟨n, q, q2⟩
  · simp (disch := omega) only [neg1, li_0, li_1, li_2, li_3, li_4, li_5, li_6, li_7, li_8, li_9, li_10, li_11, li_12, li_13, li_14, li_15, li_16, li_20, li_23, li_24, li_26, li_29, li_30, li_36, li_39, li_40, li_42, li_43, li_47, li_48, li_49, li_50, li_53, li_57, li_58, li_59, li_60, li_61, li_62, li_64, li_68, li_71, li_72, li_74, li_80, li_86, li_92, li_93, li_94, li_95, li_96, li_97, li_98, li_99, li_100, li_104, li_108, li_110, li_115, li_116, li_160, li_200, li_220, li_300, li_9999, nI_add, nI_mul, p_clamp, p_le, p_lt, p_eq, p_m1lt, p_m1eq, p_m1ge, p_eqm1, i_clamp, p_leT, p_leF, p_ltT, p_ltF, p_eqT, p_eqF, or_self, or_false, false_or, or_true, true_or, not_false_eq_true, not_true_eq_false, ↓reduceIte, and_self, and_true, true_and, and_false, false_and, ↓gv_e, g1, g2, gnl, Nat.reduceAdd, Nat.add_zero, reduceCtorEq, gl434, q]
    split <;> rfl
  · simp (disch := omega) only [neg1, li_0, li_1, li_2, li_3, li_4, li_5, li_6, li_7, li_8, li_9, li_10, li_11, li_12, li_13, li_14, li_15, li_16, li_20, li_23, li_24, li_26, li_29, li_30, li_36, li_39, li_40, li_42, li_43, li_47, li_48, li_49, li_50, li_53, li_57, li_58, li_59, li_60, li_61, li_62, li_64, li_68, li_71, li_72, li_74, li_80, li_86, li_92, li_93, li_94, li_95, li_96, li_97, li_98, li_99, li_100, li_104, li_108, li_110, li_115, li_116, li_160, li_200, li_220, li_300, li_9999, nI_add, nI_mul, p_clamp, p_le, p_lt, p_eq, p_m1lt, p_m1eq, p_m1ge, p_eqm1, i_clamp, p_leT, p_leF, p_ltT, p_ltF, p_eqT, p_eqF, or_self, or_false, false_or, or_true, true_or, not_false_eq_true, not_true_eq_false, ↓reduceIte, and_self, and_true, true_and, and_false, false_and, ↓gv_e, g1, g2, gnl, Nat.reduceAdd, Nat.add_zero, reduceCtorEq, gl434, q]
    split <;> rfl
theorem x_place_L (hb : GB N (m 434)) (b : Int32) : ∀ (n k fuel : Nat), n < fuel → k + n = iN (m 434 61) → L_X9_placeOf_2 433 b fuel (nI k) m = some (plc (m 434) b k n, m) := by
  obtain ⟨B, hB, h6⟩ := b_nB hb
  rw [hB, i_clamp (by omega)]
  intro n
  induction n with
  | zero =>
    intro k fuel hf hk
    obtain ⟨f, rfl⟩ : ∃ f, fuel = f + 1 := ⟨fuel - 1, by omega⟩
    simp (disch := omega) only [neg1, li_0, li_1, li_2, li_3, li_4, li_5, li_6, li_7, li_8, li_9, li_10, li_11, li_12, li_13, li_14, li_15, li_16, li_20, li_23, li_24, li_26, li_29, li_30, li_36, li_39, li_40, li_42, li_43, li_47, li_48, li_49, li_50, li_53, li_57, li_58, li_59, li_60, li_61, li_62, li_64, li_68, li_71, li_72, li_74, li_80, li_86, li_92, li_93, li_94, li_95, li_96, li_97, li_98, li_99, li_100, li_104, li_108, li_110, li_115, li_116, li_160, li_200, li_220, li_300, li_9999, nI_add, nI_mul, p_clamp, p_le, p_lt, p_eq, p_m1lt, p_m1eq, p_m1ge, p_eqm1, i_clamp, p_leT, p_leF, p_ltT, p_ltF, p_eqT, p_eqF, or_self, or_false, false_or, or_true, true_or, not_false_eq_true, not_true_eq_false, ↓reduceIte, and_self, and_true, true_and, and_false, false_and, ↓gv_e, g1, g2, gnl, Nat.reduceAdd, Nat.add_zero, reduceCtorEq, L_X9_placeOf_2, gl434, hB, plc]
  | succ n ih =>
    intro k fuel hf hk
    obtain ⟨f, rfl⟩ : ∃ f, fuel = f + 1 := ⟨fuel - 1, by omega⟩
    simp (disch := omega) only [neg1, li_0, li_1, li_2, li_3, li_4, li_5, li_6, li_7, li_8, li_9, li_10, li_11, li_12, li_13, li_14, li_15, li_16, li_20, li_23, li_24, li_26, li_29, li_30, li_36, li_39, li_40, li_42, li_43, li_47, li_48, li_49, li_50, li_53, li_57, li_58, li_59, li_60, li_61, li_62, li_64, li_68, li_71, li_72, li_74, li_80, li_86, li_92, li_93, li_94, li_95, li_96, li_97, li_98, li_99, li_100, li_104, li_108, li_110, li_115, li_116, li_160, li_200, li_220, li_300, li_9999, nI_add, nI_mul, p_clamp, p_le, p_lt, p_eq, p_m1lt, p_m1eq, p_m1ge, p_eqm1, i_clamp, p_leT, p_leF, p_ltT, p_ltF, p_eqT, p_eqF, or_self, or_false, false_or, or_true, true_or, not_false_eq_true, not_true_eq_false, ↓reduceIte, and_self, and_true, true_and, and_false, false_and, ↓gv_e, g1, g2, gnl, Nat.reduceAdd, Nat.add_zero, reduceCtorEq, L_X9_placeOf_2, gl434, hB, plc, ih]
    split <;> rfl
theorem x_place (hb : GB N (m 434)) (b : Int32) : f_X9_placeOf 433 b m = some (plcN (m 434) b, m) := by
  have := (n_B hb).2
  unfold f_X9_placeOf
  rw [li_0]
  exact x_place_L hb b _ 0 gF (by unfold gF; omega) (by omega)
theorem x_done (v : Int32) : f_X9_done 433 v m = some (v, ms m 433 12 (nI 0)) := (rfl)
theorem x_fails (v : Int32) : f_X9_fails 433 v m = some (nI 0, ms (ms m 433 12 v) 433 11 (nI 0)) := (rfl)
theorem x_refused (r d c : Int32) : f_X9_refused 433 r d c m = some (nI 0, ms (ms (ms (ms m 433 9 r) 433 10 d) 433 12 c) 433 11 (nI 1)) := (rfl)
theorem x_tf_L (hb : GB N (m 434)) (c : Int32) : ∀ (n k fuel : Nat) (b : Int32), n < fuel → k + n = iN (m 434 48) → (b = m1 ∨ ∃ j, j < iN (m 434 48) ∧ b = nI j) → L_X9_tongsFor_20 433 c fuel b (nI k) m = if tf (m 434) c k n b = m1 then f_X9_fails 433 (nI 2) m else f_X9_done 433 (tf (m 434) c k n b) m := by
  obtain ⟨B, hB, h6⟩ := b_nT hb
  rw [hB, i_clamp (by omega)]
  intro n
  induction n with
  | zero =>
    intro k fuel b hf hk hl
    obtain ⟨f, rfl⟩ : ∃ f, fuel = f + 1 := ⟨fuel - 1, by omega⟩
    simp (disch := omega) only [neg1, li_0, li_1, li_2, li_3, li_4, li_5, li_6, li_7, li_8, li_9, li_10, li_11, li_12, li_13, li_14, li_15, li_16, li_20, li_23, li_24, li_26, li_29, li_30, li_36, li_39, li_40, li_42, li_43, li_47, li_48, li_49, li_50, li_53, li_57, li_58, li_59, li_60, li_61, li_62, li_64, li_68, li_71, li_72, li_74, li_80, li_86, li_92, li_93, li_94, li_95, li_96, li_97, li_98, li_99, li_100, li_104, li_108, li_110, li_115, li_116, li_160, li_200, li_220, li_300, li_9999, nI_add, nI_mul, p_clamp, p_le, p_lt, p_eq, p_m1lt, p_m1eq, p_m1ge, p_eqm1, i_clamp, p_leT, p_leF, p_ltT, p_ltF, p_eqT, p_eqF, or_self, or_false, false_or, or_true, true_or, not_false_eq_true, not_true_eq_false, ↓reduceIte, and_self, and_true, true_and, and_false, false_and, ↓gv_e, g1, g2, gnl, Nat.reduceAdd, Nat.add_zero, reduceCtorEq, L_X9_tongsFor_20, gl434, hB, tf, x_done, x_fails]
  | succ n ih =>
    intro k fuel b hf hk hl
    obtain ⟨f, rfl⟩ : ∃ f, fuel = f + 1 := ⟨fuel - 1, by omega⟩
    rw [L_X9_tongsFor_20]
    by_cases q1 : m 434 (53 + k) = nI 0
    · by_cases q2 : m 434 (49 + k) ≤ c
      · have q3 : ¬ c < m 434 (49 + k) := Int32.not_lt.mpr q2
        simp (disch := omega) only [neg1, li_0, li_1, li_2, li_3, li_4, li_5, li_6, li_7, li_8, li_9, li_10, li_11, li_12, li_13, li_14, li_15, li_16, li_20, li_23, li_24, li_26, li_29, li_30, li_36, li_39, li_40, li_42, li_43, li_47, li_48, li_49, li_50, li_53, li_57, li_58, li_59, li_60, li_61, li_62, li_64, li_68, li_71, li_72, li_74, li_80, li_86, li_92, li_93, li_94, li_95, li_96, li_97, li_98, li_99, li_100, li_104, li_108, li_110, li_115, li_116, li_160, li_200, li_220, li_300, li_9999, nI_add, nI_mul, p_clamp, p_le, p_lt, p_eq, p_m1lt, p_m1eq, p_m1ge, p_eqm1, i_clamp, p_leT, p_leF, p_ltT, p_ltF, p_eqT, p_eqF, or_self, or_false, false_or, or_true, true_or, not_false_eq_true, not_true_eq_false, ↓reduceIte, and_self, and_true, true_and, and_false, false_and, ↓gv_e, g1, g2, gnl, Nat.reduceAdd, Nat.add_zero, reduceCtorEq, gl434, hB, q1, q2, q3, tf]
        rw [ih (k + 1) f b (by omega) (by omega) hl]
      · rcases hl with rfl | ⟨j, p1, rfl⟩
        · have q3 : c < m 434 (49 + k) := Int32.not_le.mp q2
          simp (disch := omega) only [neg1, li_0, li_1, li_2, li_3, li_4, li_5, li_6, li_7, li_8, li_9, li_10, li_11, li_12, li_13, li_14, li_15, li_16, li_20, li_23, li_24, li_26, li_29, li_30, li_36, li_39, li_40, li_42, li_43, li_47, li_48, li_49, li_50, li_53, li_57, li_58, li_59, li_60, li_61, li_62, li_64, li_68, li_71, li_72, li_74, li_80, li_86, li_92, li_93, li_94, li_95, li_96, li_97, li_98, li_99, li_100, li_104, li_108, li_110, li_115, li_116, li_160, li_200, li_220, li_300, li_9999, nI_add, nI_mul, p_clamp, p_le, p_lt, p_eq, p_m1lt, p_m1eq, p_m1ge, p_eqm1, i_clamp, p_leT, p_leF, p_ltT, p_ltF, p_eqT, p_eqF, or_self, or_false, false_or, or_true, true_or, not_false_eq_true, not_true_eq_false, ↓reduceIte, and_self, and_true, true_and, and_false, false_and, ↓gv_e, g1, g2, gnl, Nat.reduceAdd, Nat.add_zero, reduceCtorEq, gl434, hB, q1, q2, tf, q3]
          rw [ih (k + 1) f (nI k) (by omega) (by omega) (Or.inr ⟨k, by omega, rfl⟩)]
        · have q3 : c < m 434 (49 + k) := Int32.not_le.mp q2
          by_cases q4 : m 434 (49 + j) ≤ m 434 (49 + k)
          · have q5 := Int32.not_lt.mpr q4
            simp (disch := omega) only [neg1, li_0, li_1, li_2, li_3, li_4, li_5, li_6, li_7, li_8, li_9, li_10, li_11, li_12, li_13, li_14, li_15, li_16, li_20, li_23, li_24, li_26, li_29, li_30, li_36, li_39, li_40, li_42, li_43, li_47, li_48, li_49, li_50, li_53, li_57, li_58, li_59, li_60, li_61, li_62, li_64, li_68, li_71, li_72, li_74, li_80, li_86, li_92, li_93, li_94, li_95, li_96, li_97, li_98, li_99, li_100, li_104, li_108, li_110, li_115, li_116, li_160, li_200, li_220, li_300, li_9999, nI_add, nI_mul, p_clamp, p_le, p_lt, p_eq, p_m1lt, p_m1eq, p_m1ge, p_eqm1, i_clamp, p_leT, p_leF, p_ltT, p_ltF, p_eqT, p_eqF, or_self, or_false, false_or, or_true, true_or, not_false_eq_true, not_true_eq_false, ↓reduceIte, and_self, and_true, true_and, and_false, false_and, ↓gv_e, g1, g2, gnl, Nat.reduceAdd, Nat.add_zero, reduceCtorEq, gl434, hB, q1, q2, tf, q3, q4, q5]
            rw [ih (k + 1) f (nI j) (by omega) (by omega) (Or.inr ⟨j, by omega, rfl⟩)]
          · have q5 := Int32.not_le.mp q4
            simp (disch := omega) only [neg1, li_0, li_1, li_2, li_3, li_4, li_5, li_6, li_7, li_8, li_9, li_10, li_11, li_12, li_13, li_14, li_15, li_16, li_20, li_23, li_24, li_26, li_29, li_30, li_36, li_39, li_40, li_42, li_43, li_47, li_48, li_49, li_50, li_53, li_57, li_58, li_59, li_60, li_61, li_62, li_64, li_68, li_71, li_72, li_74, li_80, li_86, li_92, li_93, li_94, li_95, li_96, li_97, li_98, li_99, li_100, li_104, li_108, li_110, li_115, li_116, li_160, li_200, li_220, li_300, li_9999, nI_add, nI_mul, p_clamp, p_le, p_lt, p_eq, p_m1lt, p_m1eq, p_m1ge, p_eqm1, i_clamp, p_leT, p_leF, p_ltT, p_ltF, p_eqT, p_eqF, or_self, or_false, false_or, or_true, true_or, not_false_eq_true, not_true_eq_false, ↓reduceIte, and_self, and_true, true_and, and_false, false_and, ↓gv_e, g1, g2, gnl, Nat.reduceAdd, Nat.add_zero, reduceCtorEq, gl434, hB, q1, q2, tf, q3, q4, q5]
            rw [ih (k + 1) f (nI k) (by omega) (by omega) (Or.inr ⟨k, by omega, rfl⟩)]
    · simp (disch := omega) only [neg1, li_0, li_1, li_2, li_3, li_4, li_5, li_6, li_7, li_8, li_9, li_10, li_11, li_12, li_13, li_14, li_15, li_16, li_20, li_23, li_24, li_26, li_29, li_30, li_36, li_39, li_40, li_42, li_43, li_47, li_48, li_49, li_50, li_53, li_57, li_58, li_59, li_60, li_61, li_62, li_64, li_68, li_71, li_72, li_74, li_80, li_86, li_92, li_93, li_94, li_95, li_96, li_97, li_98, li_99, li_100, li_104, li_108, li_110, li_115, li_116, li_160, li_200, li_220, li_300, li_9999, nI_add, nI_mul, p_clamp, p_le, p_lt, p_eq, p_m1lt, p_m1eq, p_m1ge, p_eqm1, i_clamp, p_leT, p_leF, p_ltT, p_ltF, p_eqT, p_eqF, or_self, or_false, false_or, or_true, true_or, not_false_eq_true, not_true_eq_false, ↓reduceIte, and_self, and_true, true_and, and_false, false_and, ↓gv_e, g1, g2, gnl, Nat.reduceAdd, Nat.add_zero, reduceCtorEq, gl434, hB, q1, tf]
      rw [ih (k + 1) f b (by omega) (by omega) hl]
theorem x_busy_L (hb : GB N (m 434)) : ∀ (n k fuel : Nat) (a : Int32), n < fuel → k + n = iN (m 434 48) → L_X9_busy_4 433 fuel a (nI k) m = some (bsy (m 434) k n a, m) := by
  obtain ⟨B, hB, h6⟩ := b_nT hb
  rw [hB, i_clamp (by omega)]
  intro n
  induction n with
  | zero =>
    intro k fuel a hf hk
    obtain ⟨f, rfl⟩ : ∃ f, fuel = f + 1 := ⟨fuel - 1, by omega⟩
    simp (disch := omega) only [neg1, li_0, li_1, li_2, li_3, li_4, li_5, li_6, li_7, li_8, li_9, li_10, li_11, li_12, li_13, li_14, li_15, li_16, li_20, li_23, li_24, li_26, li_29, li_30, li_36, li_39, li_40, li_42, li_43, li_47, li_48, li_49, li_50, li_53, li_57, li_58, li_59, li_60, li_61, li_62, li_64, li_68, li_71, li_72, li_74, li_80, li_86, li_92, li_93, li_94, li_95, li_96, li_97, li_98, li_99, li_100, li_104, li_108, li_110, li_115, li_116, li_160, li_200, li_220, li_300, li_9999, nI_add, nI_mul, p_clamp, p_le, p_lt, p_eq, p_m1lt, p_m1eq, p_m1ge, p_eqm1, i_clamp, p_leT, p_leF, p_ltT, p_ltF, p_eqT, p_eqF, or_self, or_false, false_or, or_true, true_or, not_false_eq_true, not_true_eq_false, ↓reduceIte, and_self, and_true, true_and, and_false, false_and, ↓gv_e, g1, g2, gnl, Nat.reduceAdd, Nat.add_zero, reduceCtorEq, L_X9_busy_4, gl434, hB, bsy]
  | succ n ih =>
    intro k fuel a hf hk
    obtain ⟨f, rfl⟩ : ∃ f, fuel = f + 1 := ⟨fuel - 1, by omega⟩
    simp (disch := omega) only [neg1, li_0, li_1, li_2, li_3, li_4, li_5, li_6, li_7, li_8, li_9, li_10, li_11, li_12, li_13, li_14, li_15, li_16, li_20, li_23, li_24, li_26, li_29, li_30, li_36, li_39, li_40, li_42, li_43, li_47, li_48, li_49, li_50, li_53, li_57, li_58, li_59, li_60, li_61, li_62, li_64, li_68, li_71, li_72, li_74, li_80, li_86, li_92, li_93, li_94, li_95, li_96, li_97, li_98, li_99, li_100, li_104, li_108, li_110, li_115, li_116, li_160, li_200, li_220, li_300, li_9999, nI_add, nI_mul, p_clamp, p_le, p_lt, p_eq, p_m1lt, p_m1eq, p_m1ge, p_eqm1, i_clamp, p_leT, p_leF, p_ltT, p_ltF, p_eqT, p_eqF, or_self, or_false, false_or, or_true, true_or, not_false_eq_true, not_true_eq_false, ↓reduceIte, and_self, and_true, true_and, and_false, false_and, ↓gv_e, g1, g2, gnl, Nat.reduceAdd, Nat.add_zero, reduceCtorEq, L_X9_busy_4, gl434, hB, bsy, ih]
    by_cases q : m 434 (53 + k) ≤ nI 0
    · rw [if_pos q, if_neg (Int32.not_lt.mpr q)]
    · rw [if_neg q, if_pos (Int32.not_le.mp q)]
theorem x_busy (hb : GB N (m 434)) : f_X9_busy 433 m = some (bsy (m 434) 0 (iN (m 434 48)) (nI 0), m) := by
  have := (n_T hb).2
  unfold f_X9_busy
  rw [li_0]
  exact x_busy_L hb _ 0 gF _ (by unfold gF; omega) (by omega)
theorem x_inT_L (hb : GB N (m 434)) : ∀ (n k fuel : Nat) (a : Int32), n < fuel → k + n = iN (m 434 29) → L_X9_inTowers_4 433 fuel a (nI k) m = some (cit (m 434) k n a, m) := by
  obtain ⟨B, hB, h6⟩ := b_nW hb
  rw [hB, i_clamp (by omega)]
  intro n
  induction n with
  | zero =>
    intro k fuel a hf hk
    obtain ⟨f, rfl⟩ : ∃ f, fuel = f + 1 := ⟨fuel - 1, by omega⟩
    simp (disch := omega) only [neg1, li_0, li_1, li_2, li_3, li_4, li_5, li_6, li_7, li_8, li_9, li_10, li_11, li_12, li_13, li_14, li_15, li_16, li_20, li_23, li_24, li_26, li_29, li_30, li_36, li_39, li_40, li_42, li_43, li_47, li_48, li_49, li_50, li_53, li_57, li_58, li_59, li_60, li_61, li_62, li_64, li_68, li_71, li_72, li_74, li_80, li_86, li_92, li_93, li_94, li_95, li_96, li_97, li_98, li_99, li_100, li_104, li_108, li_110, li_115, li_116, li_160, li_200, li_220, li_300, li_9999, nI_add, nI_mul, p_clamp, p_le, p_lt, p_eq, p_m1lt, p_m1eq, p_m1ge, p_eqm1, i_clamp, p_leT, p_leF, p_ltT, p_ltF, p_eqT, p_eqF, or_self, or_false, false_or, or_true, true_or, not_false_eq_true, not_true_eq_false, ↓reduceIte, and_self, and_true, true_and, and_false, false_and, ↓gv_e, g1, g2, gnl, Nat.reduceAdd, Nat.add_zero, reduceCtorEq, L_X9_inTowers_4, gl434, hB, cit]
  | succ n ih =>
    intro k fuel a hf hk
    obtain ⟨f, rfl⟩ : ∃ f, fuel = f + 1 := ⟨fuel - 1, by omega⟩
    simp (disch := omega) only [neg1, li_0, li_1, li_2, li_3, li_4, li_5, li_6, li_7, li_8, li_9, li_10, li_11, li_12, li_13, li_14, li_15, li_16, li_20, li_23, li_24, li_26, li_29, li_30, li_36, li_39, li_40, li_42, li_43, li_47, li_48, li_49, li_50, li_53, li_57, li_58, li_59, li_60, li_61, li_62, li_64, li_68, li_71, li_72, li_74, li_80, li_86, li_92, li_93, li_94, li_95, li_96, li_97, li_98, li_99, li_100, li_104, li_108, li_110, li_115, li_116, li_160, li_200, li_220, li_300, li_9999, nI_add, nI_mul, p_clamp, p_le, p_lt, p_eq, p_m1lt, p_m1eq, p_m1ge, p_eqm1, i_clamp, p_leT, p_leF, p_ltT, p_ltF, p_eqT, p_eqF, or_self, or_false, false_or, or_true, true_or, not_false_eq_true, not_true_eq_false, ↓reduceIte, and_self, and_true, true_and, and_false, false_and, ↓gv_e, g1, g2, gnl, Nat.reduceAdd, Nat.add_zero, reduceCtorEq, L_X9_inTowers_4, gl434, hB, cit, x_cubesIn hb (show k < 6 by omega), ih]
theorem x_inT (hb : GB N (m 434)) : f_X9_inTowers 433 m = some (cit (m 434) 0 (iN (m 434 29)) (nI 0), m) := by
  have := (n_W hb).2
  unfold f_X9_inTowers
  rw [li_0]
  exact x_inT_L hb _ 0 gF _ (by unfold gF; omega) (by omega)
theorem x_hub_L (hb : GB N (m 434)) {t hr : Nat} (ht : t < 6) (h0 : m 434 0 = nI hr) (hs : hr + 100 < 2147483648) : ∀ (n j fuel d : Nat), n < fuel → j + n = 72 → d ≤ 99 → L_X9_breaksIn_26 433 (nI t) fuel (nI d) (nI (j + 1)) m = if hub (m 434) t hr j n d = m1 then f_X9_fails 433 (nI 2) m else f_X9_done 433 (hub (m 434) t hr j n d) m := by
  intro n
  induction n with
  | zero =>
    intro j fuel d hf hj hd
    obtain ⟨f, rfl⟩ : ∃ f, fuel = f + 1 := ⟨fuel - 1, by omega⟩
    simp (disch := omega) only [neg1, li_0, li_1, li_2, li_3, li_4, li_5, li_6, li_7, li_8, li_9, li_10, li_11, li_12, li_13, li_14, li_15, li_16, li_20, li_23, li_24, li_26, li_29, li_30, li_36, li_39, li_40, li_42, li_43, li_47, li_48, li_49, li_50, li_53, li_57, li_58, li_59, li_60, li_61, li_62, li_64, li_68, li_71, li_72, li_74, li_80, li_86, li_92, li_93, li_94, li_95, li_96, li_97, li_98, li_99, li_100, li_104, li_108, li_110, li_115, li_116, li_160, li_200, li_220, li_300, li_9999, nI_add, nI_mul, p_clamp, p_le, p_lt, p_eq, p_m1lt, p_m1eq, p_m1ge, p_eqm1, i_clamp, p_leT, p_leF, p_ltT, p_ltF, p_eqT, p_eqF, or_self, or_false, false_or, or_true, true_or, not_false_eq_true, not_true_eq_false, ↓reduceIte, and_self, and_true, true_and, and_false, false_and, ↓gv_e, g1, g2, gnl, Nat.reduceAdd, Nat.add_zero, reduceCtorEq, L_X9_breaksIn_26, hub, x_fails]
  | succ n ih =>
    intro j fuel d hf hj hd
    obtain ⟨f, rfl⟩ : ∃ f, fuel = f + 1 := ⟨fuel - 1, by omega⟩
    have e1 : nI (hr + (j + 1)) - nI 1 = nI (hr + j) := nI_pred (hr + j)
    have e2 := x_hum (m := m) (k := hr + j) (by omega)
    have hm : (hr + j) % 24 < 24 := Nat.mod_lt _ (by decide)
    obtain ⟨p, hp1, hp2⟩ := b_hum hb hm
    have e4 : iN (m 434 (2 + (hr + j) % 24)) = p := by rw [hp1]; exact p_clamp (by omega)
    have e3 := x_damp (a := d) (b := p) hd hp2 m
    have e5 := x_weak hb ht (nI (dN d p)) (nI 0)
    rw [hp1] at e2
    simp (disch := omega) only [neg1, li_0, li_1, li_2, li_3, li_4, li_5, li_6, li_7, li_8, li_9, li_10, li_11, li_12, li_13, li_14, li_15, li_16, li_20, li_23, li_24, li_26, li_29, li_30, li_36, li_39, li_40, li_42, li_43, li_47, li_48, li_49, li_50, li_53, li_57, li_58, li_59, li_60, li_61, li_62, li_64, li_68, li_71, li_72, li_74, li_80, li_86, li_92, li_93, li_94, li_95, li_96, li_97, li_98, li_99, li_100, li_104, li_108, li_110, li_115, li_116, li_160, li_200, li_220, li_300, li_9999, nI_add, nI_mul, p_clamp, p_le, p_lt, p_eq, p_m1lt, p_m1eq, p_m1ge, p_eqm1, i_clamp, p_leT, p_leF, p_ltT, p_ltF, p_eqT, p_eqF, or_self, or_false, false_or, or_true, true_or, not_false_eq_true, not_true_eq_false, ↓reduceIte, and_self, and_true, true_and, and_false, false_and, ↓gv_e, g1, g2, gnl, Nat.reduceAdd, Nat.add_zero, reduceCtorEq, L_X9_breaksIn_26, gl434, h0, e1, e2, e3, e5, hub, e4, x_done]
    by_cases q : weak (m 434) t (nI (dN d p)) (nI 0) = m1
    · rw [if_pos q, if_pos q]
      exact ih (j + 1) f (dN d p) (by omega) (by omega) (dN_le hd)
    · rw [if_neg q, if_neg q, if_neg (by rw [p_eqm1 (by omega)]; exact id)]
/-- the courses' widths, all towers from one on -/
theorem x_wid_L (hb : GB N (m 434)) {t : Nat} (ht : t < 6) (k : Int32 → Int32 → gMem → Option (Int32 × gMem)) : ∀ (n i fuel : Nat) (y : Int32), n < fuel → i + n = gC (m 434) t ∨ (n = 0 ∧ gC (m 434) t ≤ i ∧ i ≤ 10) → 1 ≤ i → y = nI 0 ∨ y = nI 1 → ∃ j, (y = nI 1 ∧ wid (m 434) t i n → L_X9_isWell_91 433 (nI t) k fuel y (nI i) m = k (nI 1) j m) ∧ (¬ (y = nI 1 ∧ wid (m 434) t i n) → L_X9_isWell_91 433 (nI t) k fuel y (nI i) m = k (nI 0) j m) := by
  obtain ⟨hC, hC2⟩ := gC_of hb ht
  intro n
  induction n with
  | zero =>
    intro i fuel y hf hi h1 hy
    obtain ⟨f, rfl⟩ : ∃ f, fuel = f + 1 := ⟨fuel - 1, by omega⟩
    have e : L_X9_isWell_91 433 (nI t) k (f + 1) y (nI i) m = k y (nI i) m := by
      simp (disch := omega) only [neg1, li_0, li_1, li_2, li_3, li_4, li_5, li_6, li_7, li_8, li_9, li_10, li_11, li_12, li_13, li_14, li_15, li_16, li_20, li_23, li_24, li_26, li_29, li_30, li_36, li_39, li_40, li_42, li_43, li_47, li_48, li_49, li_50, li_53, li_57, li_58, li_59, li_60, li_61, li_62, li_64, li_68, li_71, li_72, li_74, li_80, li_86, li_92, li_93, li_94, li_95, li_96, li_97, li_98, li_99, li_100, li_104, li_108, li_110, li_115, li_116, li_160, li_200, li_220, li_300, li_9999, nI_add, nI_mul, p_clamp, p_le, p_lt, p_eq, p_m1lt, p_m1eq, p_m1ge, p_eqm1, i_clamp, p_leT, p_leF, p_ltT, p_ltF, p_eqT, p_eqF, or_self, or_false, false_or, or_true, true_or, not_false_eq_true, not_true_eq_false, ↓reduceIte, and_self, and_true, true_and, and_false, false_and, ↓gv_e, g1, g2, gnl, Nat.reduceAdd, Nat.add_zero, reduceCtorEq, L_X9_isWell_91, gl434, hC]
    refine ⟨nI i, fun q => by rw [e, q.1], fun q => ?_⟩
    rw [e]
    rcases hy with rfl | rfl
    · rfl
    · exact absurd ⟨rfl, trivial⟩ q
  | succ n ih =>
    intro i fuel y hf hi h1 hy
    obtain ⟨f, rfl⟩ : ∃ f, fuel = f + 1 := ⟨fuel - 1, by omega⟩
    have e1 := x_cubes (m := m) ht (show i < 10 by omega)
    have e2 := x_cubes (m := m) ht (show i - 1 < 10 by omega)
    have e3 : nI i - nI 1 = nI (i - 1) := nI_sub h1
    rcases hy with rfl | rfl
    · obtain ⟨j, j1, j2⟩ := ih (i + 1) f (nI 0) (by omega) (by omega) (by omega) (Or.inl rfl)
      have e : L_X9_isWell_91 433 (nI t) k (f + 1) (nI 0) (nI i) m = L_X9_isWell_91 433 (nI t) k f (nI 0) (nI (i + 1)) m := by
        rw [L_X9_isWell_91]
        simp (disch := omega) only [neg1, li_0, li_1, li_2, li_3, li_4, li_5, li_6, li_7, li_8, li_9, li_10, li_11, li_12, li_13, li_14, li_15, li_16, li_20, li_23, li_24, li_26, li_29, li_30, li_36, li_39, li_40, li_42, li_43, li_47, li_48, li_49, li_50, li_53, li_57, li_58, li_59, li_60, li_61, li_62, li_64, li_68, li_71, li_72, li_74, li_80, li_86, li_92, li_93, li_94, li_95, li_96, li_97, li_98, li_99, li_100, li_104, li_108, li_110, li_115, li_116, li_160, li_200, li_220, li_300, li_9999, nI_add, nI_mul, p_clamp, p_le, p_lt, p_eq, p_m1lt, p_m1eq, p_m1ge, p_eqm1, i_clamp, p_leT, p_leF, p_ltT, p_ltF, p_eqT, p_eqF, or_self, or_false, false_or, or_true, true_or, not_false_eq_true, not_true_eq_false, ↓reduceIte, and_self, and_true, true_and, and_false, false_and, ↓gv_e, g1, g2, gnl, Nat.reduceAdd, Nat.add_zero, reduceCtorEq, gl434, hC]
      have hn : ¬ nI 0 = nI 1 := by decide +kernel
      exact ⟨j, fun q => absurd q.1 hn, fun q => by rw [e, j2 (fun q => hn q.1)]⟩
    · by_cases q : cub (m 434) t (i - 1) < cub (m 434) t i
      · obtain ⟨j, j1, j2⟩ := ih (i + 1) f (nI 0) (by omega) (by omega) (by omega) (Or.inl rfl)
        have e : L_X9_isWell_91 433 (nI t) k (f + 1) (nI 1) (nI i) m = L_X9_isWell_91 433 (nI t) k f (nI 0) (nI (i + 1)) m := by
          rw [L_X9_isWell_91]
          simp (disch := omega) only [neg1, li_0, li_1, li_2, li_3, li_4, li_5, li_6, li_7, li_8, li_9, li_10, li_11, li_12, li_13, li_14, li_15, li_16, li_20, li_23, li_24, li_26, li_29, li_30, li_36, li_39, li_40, li_42, li_43, li_47, li_48, li_49, li_50, li_53, li_57, li_58, li_59, li_60, li_61, li_62, li_64, li_68, li_71, li_72, li_74, li_80, li_86, li_92, li_93, li_94, li_95, li_96, li_97, li_98, li_99, li_100, li_104, li_108, li_110, li_115, li_116, li_160, li_200, li_220, li_300, li_9999, nI_add, nI_mul, p_clamp, p_le, p_lt, p_eq, p_m1lt, p_m1eq, p_m1ge, p_eqm1, i_clamp, p_leT, p_leF, p_ltT, p_ltF, p_eqT, p_eqF, or_self, or_false, false_or, or_true, true_or, not_false_eq_true, not_true_eq_false, ↓reduceIte, and_self, and_true, true_and, and_false, false_and, ↓gv_e, g1, g2, gnl, Nat.reduceAdd, Nat.add_zero, reduceCtorEq, gl434, hC, e1, e2, e3, q]
        have hn : ¬ nI 0 = nI 1 := by decide +kernel
        exact ⟨j, fun p => absurd p.2.1 (Int32.not_le.mpr q), fun p => by rw [e, j2 (fun q => hn q.1)]⟩
      · obtain ⟨j, j1, j2⟩ := ih (i + 1) f (nI 1) (by omega) (by omega) (by omega) (Or.inr rfl)
        have e : L_X9_isWell_91 433 (nI t) k (f + 1) (nI 1) (nI i) m = L_X9_isWell_91 433 (nI t) k f (nI 1) (nI (i + 1)) m := by
          rw [L_X9_isWell_91]
          simp (disch := omega) only [neg1, li_0, li_1, li_2, li_3, li_4, li_5, li_6, li_7, li_8, li_9, li_10, li_11, li_12, li_13, li_14, li_15, li_16, li_20, li_23, li_24, li_26, li_29, li_30, li_36, li_39, li_40, li_42, li_43, li_47, li_48, li_49, li_50, li_53, li_57, li_58, li_59, li_60, li_61, li_62, li_64, li_68, li_71, li_72, li_74, li_80, li_86, li_92, li_93, li_94, li_95, li_96, li_97, li_98, li_99, li_100, li_104, li_108, li_110, li_115, li_116, li_160, li_200, li_220, li_300, li_9999, nI_add, nI_mul, p_clamp, p_le, p_lt, p_eq, p_m1lt, p_m1eq, p_m1ge, p_eqm1, i_clamp, p_leT, p_leF, p_ltT, p_ltF, p_eqT, p_eqF, or_self, or_false, false_or, or_true, true_or, not_false_eq_true, not_true_eq_false, ↓reduceIte, and_self, and_true, true_and, and_false, false_and, ↓gv_e, g1, g2, gnl, Nat.reduceAdd, Nat.add_zero, reduceCtorEq, gl434, hC, e1, e2, e3, q]
        exact ⟨j, fun p => by rw [e, j1 ⟨rfl, p.2.2⟩], fun p => by rw [e, j2 (fun r => p ⟨rfl, Int32.not_lt.mp q, r.2⟩)]⟩
theorem x_wdA_L (hb : GB N (m 434)) : ∀ (n k fuel : Nat) (y : Int32), n < fuel → k + n = iN (m 434 29) → y = nI 0 ∨ y = nI 1 → (y = nI 1 ∧ wdA (m 434) k n → L_X9_isWell_78 433 fuel y (nI k) m = some (nI 1, m)) ∧ (¬ (y = nI 1 ∧ wdA (m 434) k n) → L_X9_isWell_78 433 fuel y (nI k) m = some (nI 0, m)) := by
  obtain ⟨B, hB, h6⟩ := b_nW hb
  rw [hB, i_clamp (by omega)]
  intro n
  induction n with
  | zero =>
    intro k fuel y hf hk hy
    obtain ⟨f, rfl⟩ : ∃ f, fuel = f + 1 := ⟨fuel - 1, by omega⟩
    have e : L_X9_isWell_78 433 (f + 1) y (nI k) m = some (y, m) := by
      rw [L_X9_isWell_78]
      simp (disch := omega) only [neg1, li_0, li_1, li_2, li_3, li_4, li_5, li_6, li_7, li_8, li_9, li_10, li_11, li_12, li_13, li_14, li_15, li_16, li_20, li_23, li_24, li_26, li_29, li_30, li_36, li_39, li_40, li_42, li_43, li_47, li_48, li_49, li_50, li_53, li_57, li_58, li_59, li_60, li_61, li_62, li_64, li_68, li_71, li_72, li_74, li_80, li_86, li_92, li_93, li_94, li_95, li_96, li_97, li_98, li_99, li_100, li_104, li_108, li_110, li_115, li_116, li_160, li_200, li_220, li_300, li_9999, nI_add, nI_mul, p_clamp, p_le, p_lt, p_eq, p_m1lt, p_m1eq, p_m1ge, p_eqm1, i_clamp, p_leT, p_leF, p_ltT, p_ltF, p_eqT, p_eqF, or_self, or_false, false_or, or_true, true_or, not_false_eq_true, not_true_eq_false, ↓reduceIte, and_self, and_true, true_and, and_false, false_and, ↓gv_e, g1, g2, gnl, Nat.reduceAdd, Nat.add_zero, reduceCtorEq, gl434, hB]
      rw [if_pos hy]
    refine ⟨fun q => by rw [e, q.1], fun q => ?_⟩
    rw [e]
    rcases hy with rfl | rfl
    · rfl
    · exact absurd ⟨rfl, trivial⟩ q
  | succ n ih =>
    intro k fuel y hf hk hy
    obtain ⟨f, rfl⟩ : ∃ f, fuel = f + 1 := ⟨fuel - 1, by omega⟩
    obtain ⟨hC, hC2⟩ := gC_of hb (t := k) (by omega)
    obtain ⟨j, j1, j2⟩ := x_wid_L hb (t := k) (by omega) (fun y31 y32 m33 => L_X9_isWell_78 433 f y31 (nI (k + 1)) m33) (gC (m 434) k - 1) 1 gF y (by unfold gF; omega) (by omega) (Nat.le_refl 1) hy
    have e : L_X9_isWell_78 433 (f + 1) y (nI k) m = L_X9_isWell_91 433 (nI k) (fun y31 y32 m33 => L_X9_isWell_78 433 f y31 (nI (k + 1)) m33) gF y (nI 1) m := by
      rw [L_X9_isWell_78]
      simp (disch := omega) only [neg1, li_0, li_1, li_2, li_3, li_4, li_5, li_6, li_7, li_8, li_9, li_10, li_11, li_12, li_13, li_14, li_15, li_16, li_20, li_23, li_24, li_26, li_29, li_30, li_36, li_39, li_40, li_42, li_43, li_47, li_48, li_49, li_50, li_53, li_57, li_58, li_59, li_60, li_61, li_62, li_64, li_68, li_71, li_72, li_74, li_80, li_86, li_92, li_93, li_94, li_95, li_96, li_97, li_98, li_99, li_100, li_104, li_108, li_110, li_115, li_116, li_160, li_200, li_220, li_300, li_9999, nI_add, nI_mul, p_clamp, p_le, p_lt, p_eq, p_m1lt, p_m1eq, p_m1ge, p_eqm1, i_clamp, p_leT, p_leF, p_ltT, p_ltF, p_eqT, p_eqF, or_self, or_false, false_or, or_true, true_or, not_false_eq_true, not_true_eq_false, ↓reduceIte, and_self, and_true, true_and, and_false, false_and, ↓gv_e, g1, g2, gnl, Nat.reduceAdd, Nat.add_zero, reduceCtorEq, gl434, hB]
    obtain ⟨i1, i2⟩ := ih (k + 1) f (nI 1) (by omega) (by omega) (Or.inr rfl)
    obtain ⟨i3, i4⟩ := ih (k + 1) f (nI 0) (by omega) (by omega) (Or.inl rfl)
    have hn : ¬ nI 0 = nI 1 := by decide +kernel
    refine ⟨fun q => by rw [e, j1 ⟨q.1, q.2.1⟩]; exact i1 ⟨rfl, q.2.2⟩, fun q => ?_⟩
    by_cases p : y = nI 1 ∧ wid (m 434) k 1 (gC (m 434) k - 1)
    · rw [e, j1 p]
      exact i2 (fun r => q ⟨p.1, p.2, r.2⟩)
    · rw [e, j2 p]
      exact i4 (fun r => hn r.1)
end
