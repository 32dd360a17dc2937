/-! THE PURE SIDE: what the class' hotel answers, by the model's numbers -/
theorem n_W {N : Nat} {g : Nat → Int32} (H : GB N g) : g 29 = nI (iN (g 29)) ∧ iN (g 29) ≤ 6 := by
  obtain ⟨C, h1, h2⟩ := b_nW H
  have : iN (g 29) = C := by rw [h1]; exact p_clamp (by omega)
  rw [this]; exact ⟨h1, h2⟩
theorem n_T {N : Nat} {g : Nat → Int32} (H : GB N g) : g 48 = nI (iN (g 48)) ∧ iN (g 48) ≤ 4 := by
  obtain ⟨C, h1, h2⟩ := b_nT H
  have : iN (g 48) = C := by rw [h1]; exact p_clamp (by omega)
  rw [this]; exact ⟨h1, h2⟩
theorem n_B {N : Nat} {g : Nat → Int32} (H : GB N g) : g 61 = nI (iN (g 61)) ∧ iN (g 61) ≤ 6 := by
  obtain ⟨C, h1, h2⟩ := b_nB H
  have : iN (g 61) = C := by rw [h1]; exact p_clamp (by omega)
  rw [this]; exact ⟨h1, h2⟩
theorem c_btw (l x u : Int32) (m : gMem) : f_X8_isBetween l x u m = some (if l ≤ x ∧ x ≤ u then nI 1 else nI 0, m) := by
  unfold f_X8_isBetween
  by_cases h1 : x < l
  · rw [if_pos h1, if_neg (fun q => absurd q.1 (Int32.not_le.mpr h1))]; rfl
  · rw [if_neg h1]
    by_cases h2 : u < x
    · rw [if_pos h2, if_neg (fun q => absurd q.2 (Int32.not_le.mpr h2))]; rfl
    · rw [if_neg h2, if_pos ⟨Int32.not_lt.mp h1, Int32.not_lt.mp h2⟩]; rfl
theorem c_grade (x : Int32) (m : gMem) : f_X8_isGrade x m = some (if nI 0 ≤ x ∧ x ≤ nI 2 then nI 1 else nI 0, m) := by
  unfold f_X8_isGrade
  by_cases h1 : x < 0
  · rw [if_pos h1, if_neg (fun q => absurd q.1 (Int32.not_le.mpr h1))]; rfl
  · rw [if_neg h1]
    by_cases h2 : (3 : Int32) ≤ x
    · rw [if_pos h2, if_neg (fun q => ?_)]; rfl
      have := Int32.le_iff_toInt_le.mp q.2
      have h3 := Int32.le_iff_toInt_le.mp h2
      rw [p_int (by decide)] at this
      rw [li_3, p_int (by decide)] at h3
      omega
    · have h4 : x ≤ nI 2 := by
        have h3 := Int32.lt_iff_toInt_lt.mp (Int32.not_le.mp h2)
        rw [li_3, p_int (by decide)] at h3
        rw [Int32.le_iff_toInt_le, p_int (by decide)]; omega
      rw [if_neg h2, if_pos ⟨Int32.not_lt.mp h1, h4⟩]; rfl
theorem grade_in {x : Int32} (h : nI 0 ≤ x ∧ x ≤ nI 2) : ∃ i, i < 3 ∧ x = nI i := by
  have h1 := Int32.le_iff_toInt_le.mp h.1
  have h2 := Int32.le_iff_toInt_le.mp h.2
  rw [p_int (by decide)] at h1 h2
  obtain ⟨n, q1, q2, q3⟩ := p_ex h1
  exact ⟨n, by omega, q1⟩
theorem rng_in {x : Int32} {a b : Nat} (hb : b < 2147483648) (h : nI a ≤ x ∧ x ≤ nI b) (ha : a ≤ b) : ∃ i, a ≤ i ∧ i ≤ b ∧ x = nI i := by
  have h1 := Int32.le_iff_toInt_le.mp h.1
  have h2 := Int32.le_iff_toInt_le.mp h.2
  rw [p_int (by omega)] at h1 h2
  obtain ⟨n, q1, q2, q3⟩ := p_ex (x := x) (by omega)
  exact ⟨n, by omega, by omega, q1⟩
theorem c_price {i : Nat} (hi : i < 3) (m : gMem) : f_X8_priceOfCube (nI i) m = some (nI (i + 1), m) := by
  rcases (by omega : i = 0 ∨ i = 1 ∨ i = 2) with rfl | rfl | rfl <;> rfl
/-- dampness behind an hour -/
def dN (a b : Nat) : Nat := if b ≤ 50 then (if 40 ≤ b then a else a - 1) else min 99 (a + (b - 50) / 10)
theorem dN_le {a b : Nat} (ha : a ≤ 99) : dN a b ≤ 99 := by unfold dN; split <;> (try split) <;> omega
theorem c_damp {a b : Nat} (ha : a ≤ 99) (hb : b ≤ 99) (m : gMem) : f_X8_dampnessAfterHour (nI a) (nI b) m = some (nI (dN a b), m) := by
  unfold f_X8_dampnessAfterHour dN
  by_cases h1 : b ≤ 50
  · by_cases h2 : 40 ≤ b
    · simp (disch := omega) only [neg1, li_0, li_1, li_2, li_3, li_4, li_5, li_6, li_7, li_8, li_9, li_10, li_11, li_12, li_13, li_14, li_15, li_16, li_20, li_23, li_24, li_26, li_29, li_30, li_36, li_39, li_40, li_42, li_43, li_47, li_48, li_49, li_50, li_53, li_57, li_58, li_59, li_60, li_61, li_62, li_64, li_68, li_71, li_72, li_74, li_80, li_86, li_92, li_93, li_94, li_95, li_96, li_97, li_98, li_99, li_100, li_104, li_108, li_110, li_115, li_116, li_160, li_200, li_220, li_300, li_9999, nI_add, nI_mul, p_clamp, p_le, p_lt, p_eq, p_m1lt, p_m1eq, p_m1ge, p_eqm1, i_clamp, p_leT, p_leF, p_ltT, p_ltF, p_eqT, p_eqF, or_self, or_false, false_or, or_true, true_or, not_false_eq_true, not_true_eq_false, ↓reduceIte, and_self, and_true, true_and, and_false, false_and, ↓gv_e, g1, g2, gnl, Nat.reduceAdd, Nat.add_zero, reduceCtorEq]
    · rcases Nat.eq_zero_or_pos a with rfl | h3
      · simp (disch := omega) only [neg1, li_0, li_1, li_2, li_3, li_4, li_5, li_6, li_7, li_8, li_9, li_10, li_11, li_12, li_13, li_14, li_15, li_16, li_20, li_23, li_24, li_26, li_29, li_30, li_36, li_39, li_40, li_42, li_43, li_47, li_48, li_49, li_50, li_53, li_57, li_58, li_59, li_60, li_61, li_62, li_64, li_68, li_71, li_72, li_74, li_80, li_86, li_92, li_93, li_94, li_95, li_96, li_97, li_98, li_99, li_100, li_104, li_108, li_110, li_115, li_116, li_160, li_200, li_220, li_300, li_9999, nI_add, nI_mul, p_clamp, p_le, p_lt, p_eq, p_m1lt, p_m1eq, p_m1ge, p_eqm1, i_clamp, p_leT, p_leF, p_ltT, p_ltF, p_eqT, p_eqF, or_self, or_false, false_or, or_true, true_or, not_false_eq_true, not_true_eq_false, ↓reduceIte, and_self, and_true, true_and, and_false, false_and, ↓gv_e, g1, g2, gnl, Nat.reduceAdd, Nat.add_zero, reduceCtorEq, pr_sub, pr]
        rfl
      · have e : nI a - nI 1 = nI (a - 1) := nI_sub h3
        simp (disch := omega) only [neg1, li_0, li_1, li_2, li_3, li_4, li_5, li_6, li_7, li_8, li_9, li_10, li_11, li_12, li_13, li_14, li_15, li_16, li_20, li_23, li_24, li_26, li_29, li_30, li_36, li_39, li_40, li_42, li_43, li_47, li_48, li_49, li_50, li_53, li_57, li_58, li_59, li_60, li_61, li_62, li_64, li_68, li_71, li_72, li_74, li_80, li_86, li_92, li_93, li_94, li_95, li_96, li_97, li_98, li_99, li_100, li_104, li_108, li_110, li_115, li_116, li_160, li_200, li_220, li_300, li_9999, nI_add, nI_mul, p_clamp, p_le, p_lt, p_eq, p_m1lt, p_m1eq, p_m1ge, p_eqm1, i_clamp, p_leT, p_leF, p_ltT, p_ltF, p_eqT, p_eqF, or_self, or_false, false_or, or_true, true_or, not_false_eq_true, not_true_eq_false, ↓reduceIte, and_self, and_true, true_and, and_false, false_and, ↓gv_e, g1, g2, gnl, Nat.reduceAdd, Nat.add_zero, reduceCtorEq, e]
        by_cases h4 : 0 < a - 1
        · simp (disch := omega) only [neg1, li_0, li_1, li_2, li_3, li_4, li_5, li_6, li_7, li_8, li_9, li_10, li_11, li_12, li_13, li_14, li_15, li_16, li_20, li_23, li_24, li_26, li_29, li_30, li_36, li_39, li_40, li_42, li_43, li_47, li_48, li_49, li_50, li_53, li_57, li_58, li_59, li_60, li_61, li_62, li_64, li_68, li_71, li_72, li_74, li_80, li_86, li_92, li_93, li_94, li_95, li_96, li_97, li_98, li_99, li_100, li_104, li_108, li_110, li_115, li_116, li_160, li_200, li_220, li_300, li_9999, nI_add, nI_mul, p_clamp, p_le, p_lt, p_eq, p_m1lt, p_m1eq, p_m1ge, p_eqm1, i_clamp, p_leT, p_leF, p_ltT, p_ltF, p_eqT, p_eqF, or_self, or_false, false_or, or_true, true_or, not_false_eq_true, not_true_eq_false, ↓reduceIte, and_self, and_true, true_and, and_false, false_and, ↓gv_e, g1, g2, gnl, Nat.reduceAdd, Nat.add_zero, reduceCtorEq]
        · have : a - 1 = 0 := by omega
          simp (disch := omega) only [neg1, li_0, li_1, li_2, li_3, li_4, li_5, li_6, li_7, li_8, li_9, li_10, li_11, li_12, li_13, li_14, li_15, li_16, li_20, li_23, li_24, li_26, li_29, li_30, li_36, li_39, li_40, li_42, li_43, li_47, li_48, li_49, li_50, li_53, li_57, li_58, li_59, li_60, li_61, li_62, li_64, li_68, li_71, li_72, li_74, li_80, li_86, li_92, li_93, li_94, li_95, li_96, li_97, li_98, li_99, li_100, li_104, li_108, li_110, li_115, li_116, li_160, li_200, li_220, li_300, li_9999, nI_add, nI_mul, p_clamp, p_le, p_lt, p_eq, p_m1lt, p_m1eq, p_m1ge, p_eqm1, i_clamp, p_leT, p_leF, p_ltT, p_ltF, p_eqT, p_eqF, or_self, or_false, false_or, or_true, true_or, not_false_eq_true, not_true_eq_false, ↓reduceIte, and_self, and_true, true_and, and_false, false_and, ↓gv_e, g1, g2, gnl, Nat.reduceAdd, Nat.add_zero, reduceCtorEq, this]
  · have e : nI b - nI 50 = nI (b - 50) := nI_sub (by omega)
    have e2 : nI (b - 50) / nI 10 = nI ((b - 50) / 10) := p_div (by omega) (by omega)
    simp (disch := omega) only [neg1, li_0, li_1, li_2, li_3, li_4, li_5, li_6, li_7, li_8, li_9, li_10, li_11, li_12, li_13, li_14, li_15, li_16, li_20, li_23, li_24, li_26, li_29, li_30, li_36, li_39, li_40, li_42, li_43, li_47, li_48, li_49, li_50, li_53, li_57, li_58, li_59, li_60, li_61, li_62, li_64, li_68, li_71, li_72, li_74, li_80, li_86, li_92, li_93, li_94, li_95, li_96, li_97, li_98, li_99, li_100, li_104, li_108, li_110, li_115, li_116, li_160, li_200, li_220, li_300, li_9999, nI_add, nI_mul, p_clamp, p_le, p_lt, p_eq, p_m1lt, p_m1eq, p_m1ge, p_eqm1, i_clamp, p_leT, p_leF, p_ltT, p_ltF, p_eqT, p_eqF, or_self, or_false, false_or, or_true, true_or, not_false_eq_true, not_true_eq_false, ↓reduceIte, and_self, and_true, true_and, and_false, false_and, ↓gv_e, g1, g2, gnl, Nat.reduceAdd, Nat.add_zero, reduceCtorEq, e, e2]
    by_cases h4 : a + (b - 50) / 10 < 99
    · simp (disch := omega) only [neg1, li_0, li_1, li_2, li_3, li_4, li_5, li_6, li_7, li_8, li_9, li_10, li_11, li_12, li_13, li_14, li_15, li_16, li_20, li_23, li_24, li_26, li_29, li_30, li_36, li_39, li_40, li_42, li_43, li_47, li_48, li_49, li_50, li_53, li_57, li_58, li_59, li_60, li_61, li_62, li_64, li_68, li_71, li_72, li_74, li_80, li_86, li_92, li_93, li_94, li_95, li_96, li_97, li_98, li_99, li_100, li_104, li_108, li_110, li_115, li_116, li_160, li_200, li_220, li_300, li_9999, nI_add, nI_mul, p_clamp, p_le, p_lt, p_eq, p_m1lt, p_m1eq, p_m1ge, p_eqm1, i_clamp, p_leT, p_leF, p_ltT, p_ltF, p_eqT, p_eqF, or_self, or_false, false_or, or_true, true_or, not_false_eq_true, not_true_eq_false, ↓reduceIte, and_self, and_true, true_and, and_false, false_and, ↓gv_e, g1, g2, gnl, Nat.reduceAdd, Nat.add_zero, reduceCtorEq]
      rw [Nat.min_eq_right (by omega)]
    · simp (disch := omega) only [neg1, li_0, li_1, li_2, li_3, li_4, li_5, li_6, li_7, li_8, li_9, li_10, li_11, li_12, li_13, li_14, li_15, li_16, li_20, li_23, li_24, li_26, li_29, li_30, li_36, li_39, li_40, li_42, li_43, li_47, li_48, li_49, li_50, li_53, li_57, li_58, li_59, li_60, li_61, li_62, li_64, li_68, li_71, li_72, li_74, li_80, li_86, li_92, li_93, li_94, li_95, li_96, li_97, li_98, li_99, li_100, li_104, li_108, li_110, li_115, li_116, li_160, li_200, li_220, li_300, li_9999, nI_add, nI_mul, p_clamp, p_le, p_lt, p_eq, p_m1lt, p_m1eq, p_m1ge, p_eqm1, i_clamp, p_leT, p_leF, p_ltT, p_ltF, p_eqT, p_eqF, or_self, or_false, false_or, or_true, true_or, not_false_eq_true, not_true_eq_false, ↓reduceIte, and_self, and_true, true_and, and_false, false_and, ↓gv_e, g1, g2, gnl, Nat.reduceAdd, Nat.add_zero, reduceCtorEq]
      rw [Nat.min_eq_left (by omega)]
/-- the place of a banquet -/
def plc (g : Nat → Int32) (b : Int32) : Nat → Nat → Int32
  | _, 0 => m1
  | k, n + 1 => if g (62 + k) = b then nI k else plc g b (k + 1) n
def plcN (g : Nat → Int32) (b : Int32) : Int32 := plc g b 0 (iN (g 61))
theorem plc_in {g : Nat → Int32} {b : Int32} : ∀ n k, plc g b k n = m1 ∨ ∃ j, k ≤ j ∧ j < k + n ∧ plc g b k n = nI j := by
  intro n
  induction n with
  | zero => intro k; exact Or.inl rfl
  | succ n ih =>
    intro k
    rw [plc]
    split
    · exact Or.inr ⟨k, Nat.le_refl _, by omega, rfl⟩
    · rcases ih (k + 1) with h | ⟨j, h1, h2, h3⟩
      · exact Or.inl h
      · exact Or.inr ⟨j, by omega, by omega, h3⟩
theorem plcN_in (g : Nat → Int32) (b : Int32) : plcN g b = m1 ∨ ∃ j, j < iN (g 61) ∧ plcN g b = nI j := by
  rcases plc_in (g := g) (b := b) (iN (g 61)) 0 with h | ⟨j, h1, h2, h3⟩
  · exact Or.inl h
  · exact Or.inr ⟨j, by omega, h3⟩
/-- the tongs for a course -/
def tf (g : Nat → Int32) (c : Int32) : Nat → Nat → Int32 → Int32
  | _, 0, b => b
  | k, n + 1, b => tf g c (k + 1) n (if g (53 + k) = nI 0 ∧ c < g (49 + k) ∧ (b = m1 ∨ g (49 + k) < g (49 + iN b)) then nI k else b)
def bsy (g : Nat → Int32) : Nat → Nat → Int32 → Int32
  | _, 0, a => a
  | k, n + 1, a => bsy g (k + 1) n (a + (if nI 0 < g (53 + k) then nI 1 else nI 0))
def bwt (g : Nat → Int32) (t : Int32) : Nat → Nat → Int32 → Int32
  | _, 0, a => a
  | k, n + 1, a => bwt g t (k + 1) n (a + (if g (86 + k) = t then nI 1 else nI 0))
def mis (g : Nat → Int32) (k : Nat) : Int32 :=
  let v := g (74 + k) - (if g (86 + k) = m1 then nI 0 else g (36 + iN (g (86 + k))))
  if nI 0 ≤ v then v else nI 0
def nxb (g : Nat → Int32) : Nat → Nat → Nat → Nat
  | _, 0, b => b
  | k, n + 1, b => nxb g (k + 1) n (if g (68 + k) < g (68 + b) then k else b)
def cit (g : Nat → Int32) : Nat → Nat → Int32 → Int32
  | _, 0, a => a
  | t, n + 1, a => cit g (t + 1) n (a + sm (fun j => cub g t j) 0 (gC g t))
def hub (g : Nat → Int32) (t hr : Nat) : Nat → Nat → Nat → Int32
  | _, 0, _ => m1
  | j, n + 1, d => if weak g t (nI (dN d (iN (g (2 + (hr + j) % 24))))) (nI 0) = m1 then hub g t hr (j + 1) n (dN d (iN (g (2 + (hr + j) % 24)))) else nI (j + 1)
def wdA (g : Nat → Int32) : Nat → Nat → Prop
  | _, 0 => True
  | t, n + 1 => wid g t 1 (gC g t - 1) ∧ wdA g (t + 1) n
section
variable {σ0 σ : gMem} {h N : Nat} {g : Nat → Int32}
theorem e_W (H : qF σ0 σ h g) (hb : GB N g) : σ h 8 = nI (iN (g 29)) := by rw [r_nW H]; exact (n_W hb).1
theorem e_T (H : qF σ0 σ h g) (hb : GB N g) : σ h 6 = nI (iN (g 48)) := by rw [r_nT H]; exact (n_T hb).1
theorem e_B (H : qF σ0 σ h g) (hb : GB N g) : σ h 10 = nI (iN (g 61)) := by rw [r_nB H]; exact (n_B hb).1
theorem c_hum (H : qF σ0 σ h g) (hh : HF h) {hr k : Nat} (h0 : g 0 = nI hr) (hs : hr + k < 2147483648) : f_X2_humidityAfter h (nI k) σ = some (g (2 + (hr + k) % 24), σ) := by
  unfold f_X2_humidityAfter
  have e := p_fmod (a := hr + k) (b := 24) hs (by decide) (by decide) σ
  have hm : (hr + k) % 24 < 24 := Nat.mod_lt _ (by decide)
  have e2 := r_hum H hm
  rw [r_hour H, h0, nI_add, li_24, e]
  simp (disch := omega) only [neg1, li_0, li_1, li_2, li_3, li_4, li_5, li_6, li_7, li_8, li_9, li_10, li_11, li_12, li_13, li_14, li_15, li_16, li_20, li_23, li_24, li_26, li_29, li_30, li_36, li_39, li_40, li_42, li_43, li_47, li_48, li_49, li_50, li_53, li_57, li_58, li_59, li_60, li_61, li_62, li_64, li_68, li_71, li_72, li_74, li_80, li_86, li_92, li_93, li_94, li_95, li_96, li_97, li_98, li_99, li_100, li_104, li_108, li_110, li_115, li_116, li_160, li_200, li_220, li_300, li_9999, nI_add, nI_mul, p_clamp, p_le, p_lt, p_eq, p_m1lt, p_m1eq, p_m1ge, p_eqm1, i_clamp, p_leT, p_leF, p_ltT, p_ltF, p_eqT, p_eqF, or_self, or_false, false_or, or_true, true_or, not_false_eq_true, not_true_eq_false, ↓reduceIte, and_self, and_true, true_and, and_false, false_and, ↓gv_e, g1, g2, gnl, Nat.reduceAdd, Nat.add_zero, reduceCtorEq, hh.2.1, e2]
theorem c_stock (H : qF σ0 σ h g) (hh : HF h) {i : Nat} (hi : i < 3) : f_X2_stockOf h (nI i) σ = some (g (26 + i), σ) := by
  unfold f_X2_stockOf
  rw [c_grade]
  simp (disch := omega) only [neg1, li_0, li_1, li_2, li_3, li_4, li_5, li_6, li_7, li_8, li_9, li_10, li_11, li_12, li_13, li_14, li_15, li_16, li_20, li_23, li_24, li_26, li_29, li_30, li_36, li_39, li_40, li_42, li_43, li_47, li_48, li_49, li_50, li_53, li_57, li_58, li_59, li_60, li_61, li_62, li_64, li_68, li_71, li_72, li_74, li_80, li_86, li_92, li_93, li_94, li_95, li_96, li_97, li_98, li_99, li_100, li_104, li_108, li_110, li_115, li_116, li_160, li_200, li_220, li_300, li_9999, nI_add, nI_mul, p_clamp, p_le, p_lt, p_eq, p_m1lt, p_m1eq, p_m1ge, p_eqm1, i_clamp, p_leT, p_leF, p_ltT, p_ltF, p_eqT, p_eqF, or_self, or_false, false_or, or_true, true_or, not_false_eq_true, not_true_eq_false, ↓reduceIte, and_self, and_true, true_and, and_false, false_and, ↓gv_e, g1, g2, gnl, Nat.reduceAdd, Nat.add_zero, reduceCtorEq, hh.2.2.1, r_stk H hi]
theorem c_towerAt (H : qF σ0 σ h g) (hh : HF h) (hb : GB N g) {t : Nat} (ht : t < iN (g 29)) : f_X2_towerAt h (nI t) σ = some (some ((h + 5) + (6 + 3 * t)), σ) := by
  unfold f_X2_towerAt
  have := (n_W hb).2
  simp (disch := omega) only [neg1, li_0, li_1, li_2, li_3, li_4, li_5, li_6, li_7, li_8, li_9, li_10, li_11, li_12, li_13, li_14, li_15, li_16, li_20, li_23, li_24, li_26, li_29, li_30, li_36, li_39, li_40, li_42, li_43, li_47, li_48, li_49, li_50, li_53, li_57, li_58, li_59, li_60, li_61, li_62, li_64, li_68, li_71, li_72, li_74, li_80, li_86, li_92, li_93, li_94, li_95, li_96, li_97, li_98, li_99, li_100, li_104, li_108, li_110, li_115, li_116, li_160, li_200, li_220, li_300, li_9999, nI_add, nI_mul, p_clamp, p_le, p_lt, p_eq, p_m1lt, p_m1eq, p_m1ge, p_eqm1, i_clamp, p_leT, p_leF, p_ltT, p_ltF, p_eqT, p_eqF, or_self, or_false, false_or, or_true, true_or, not_false_eq_true, not_true_eq_false, ↓reduceIte, and_self, and_true, true_and, and_false, false_and, ↓gv_e, g1, g2, gnl, Nat.reduceAdd, Nat.add_zero, reduceCtorEq, e_W H hb, hh.2.2.2.2.2.1]
theorem c_towerAtN (H : qF σ0 σ h g) (hb : GB N g) {u : Int32} (hu : u < 0 ∨ (0 ≤ u ∧ nI (iN (g 29)) ≤ u)) : f_X2_towerAt h u σ = some (none, σ) := by
  unfold f_X2_towerAt
  rcases hu with q | ⟨q, q2⟩
  · rw [if_pos q]
  · rw [if_neg (Int32.not_lt.mpr q), e_W H hb, if_pos q2]
theorem c_tongsAt (H : qF σ0 σ h g) (hh : HF h) (hb : GB N g) {t : Nat} (ht : t < iN (g 48)) : f_X2_tongsAt h (nI t) σ = some (some ((h + 4) + (3 + t)), σ) := by
  unfold f_X2_tongsAt
  have := (n_T hb).2
  simp (disch := omega) only [neg1, li_0, li_1, li_2, li_3, li_4, li_5, li_6, li_7, li_8, li_9, li_10, li_11, li_12, li_13, li_14, li_15, li_16, li_20, li_23, li_24, li_26, li_29, li_30, li_36, li_39, li_40, li_42, li_43, li_47, li_48, li_49, li_50, li_53, li_57, li_58, li_59, li_60, li_61, li_62, li_64, li_68, li_71, li_72, li_74, li_80, li_86, li_92, li_93, li_94, li_95, li_96, li_97, li_98, li_99, li_100, li_104, li_108, li_110, li_115, li_116, li_160, li_200, li_220, li_300, li_9999, nI_add, nI_mul, p_clamp, p_le, p_lt, p_eq, p_m1lt, p_m1eq, p_m1ge, p_eqm1, i_clamp, p_leT, p_leF, p_ltT, p_ltF, p_eqT, p_eqF, or_self, or_false, false_or, or_true, true_or, not_false_eq_true, not_true_eq_false, ↓reduceIte, and_self, and_true, true_and, and_false, false_and, ↓gv_e, g1, g2, gnl, Nat.reduceAdd, Nat.add_zero, reduceCtorEq, e_T H hb, hh.2.2.2.2.1]
theorem c_tongsAtN (H : qF σ0 σ h g) (hb : GB N g) {u : Int32} (hu : u < 0 ∨ (0 ≤ u ∧ nI (iN (g 48)) ≤ u)) : f_X2_tongsAt h u σ = some (none, σ) := by
  unfold f_X2_tongsAt
  rcases hu with q | ⟨q, q2⟩
  · rw [if_pos q]
  · rw [if_neg (Int32.not_lt.mpr q), e_T H hb, if_pos q2]
theorem c_banqAt (H : qF σ0 σ h g) (hh : HF h) (hb : GB N g) {t : Nat} (ht : t < iN (g 61)) : f_X2_banquetAt h (nI t) σ = some (some ((h + 6) + (23 + t)), σ) := by
  unfold f_X2_banquetAt
  have := (n_B hb).2
  simp (disch := omega) only [neg1, li_0, li_1, li_2, li_3, li_4, li_5, li_6, li_7, li_8, li_9, li_10, li_11, li_12, li_13, li_14, li_15, li_16, li_20, li_23, li_24, li_26, li_29, li_30, li_36, li_39, li_40, li_42, li_43, li_47, li_48, li_49, li_50, li_53, li_57, li_58, li_59, li_60, li_61, li_62, li_64, li_68, li_71, li_72, li_74, li_80, li_86, li_92, li_93, li_94, li_95, li_96, li_97, li_98, li_99, li_100, li_104, li_108, li_110, li_115, li_116, li_160, li_200, li_220, li_300, li_9999, nI_add, nI_mul, p_clamp, p_le, p_lt, p_eq, p_m1lt, p_m1eq, p_m1ge, p_eqm1, i_clamp, p_leT, p_leF, p_ltT, p_ltF, p_eqT, p_eqF, or_self, or_false, false_or, or_true, true_or, not_false_eq_true, not_true_eq_false, ↓reduceIte, and_self, and_true, true_and, and_false, false_and, ↓gv_e, g1, g2, gnl, Nat.reduceAdd, Nat.add_zero, reduceCtorEq, e_B H hb, hh.2.2.2.2.2.2.1]
theorem c_banqAtN (H : qF σ0 σ h g) (hb : GB N g) : f_X2_banquetAt h m1 σ = some (none, σ) := by
  unfold f_X2_banquetAt
  rw [if_pos (by decide +kernel)]
theorem c_place_L (H : qF σ0 σ h g) (hh : HF h) (hb : GB N g) (b : Int32) : ∀ (n k fuel : Nat), n < fuel → k + n = iN (g 61) → L_X2_placeOfBanquet_2 h b fuel (nI k) σ = some (plc g b k n, σ) := by
  have hB := (n_B hb).2
  intro n
  induction n with
  | zero =>
    intro k fuel hf hk
    obtain ⟨f, rfl⟩ : ∃ f, fuel = f + 1 := ⟨fuel - 1, by omega⟩
    simp (disch := omega) only [neg1, li_0, li_1, li_2, li_3, li_4, li_5, li_6, li_7, li_8, li_9, li_10, li_11, li_12, li_13, li_14, li_15, li_16, li_20, li_23, li_24, li_26, li_29, li_30, li_36, li_39, li_40, li_42, li_43, li_47, li_48, li_49, li_50, li_53, li_57, li_58, li_59, li_60, li_61, li_62, li_64, li_68, li_71, li_72, li_74, li_80, li_86, li_92, li_93, li_94, li_95, li_96, li_97, li_98, li_99, li_100, li_104, li_108, li_110, li_115, li_116, li_160, li_200, li_220, li_300, li_9999, nI_add, nI_mul, p_clamp, p_le, p_lt, p_eq, p_m1lt, p_m1eq, p_m1ge, p_eqm1, i_clamp, p_leT, p_leF, p_ltT, p_ltF, p_eqT, p_eqF, or_self, or_false, false_or, or_true, true_or, not_false_eq_true, not_true_eq_false, ↓reduceIte, and_self, and_true, true_and, and_false, false_and, ↓gv_e, g1, g2, gnl, Nat.reduceAdd, Nat.add_zero, reduceCtorEq, L_X2_placeOfBanquet_2, e_B H hb, plc]
  | succ n ih =>
    intro k fuel hf hk
    obtain ⟨f, rfl⟩ : ∃ f, fuel = f + 1 := ⟨fuel - 1, by omega⟩
    have e := r_num H (i := k) (by omega) (by omega)
    simp (disch := omega) only [neg1, li_0, li_1, li_2, li_3, li_4, li_5, li_6, li_7, li_8, li_9, li_10, li_11, li_12, li_13, li_14, li_15, li_16, li_20, li_23, li_24, li_26, li_29, li_30, li_36, li_39, li_40, li_42, li_43, li_47, li_48, li_49, li_50, li_53, li_57, li_58, li_59, li_60, li_61, li_62, li_64, li_68, li_71, li_72, li_74, li_80, li_86, li_92, li_93, li_94, li_95, li_96, li_97, li_98, li_99, li_100, li_104, li_108, li_110, li_115, li_116, li_160, li_200, li_220, li_300, li_9999, nI_add, nI_mul, p_clamp, p_le, p_lt, p_eq, p_m1lt, p_m1eq, p_m1ge, p_eqm1, i_clamp, p_leT, p_leF, p_ltT, p_ltF, p_eqT, p_eqF, or_self, or_false, false_or, or_true, true_or, not_false_eq_true, not_true_eq_false, ↓reduceIte, and_self, and_true, true_and, and_false, false_and, ↓gv_e, g1, g2, gnl, Nat.reduceAdd, Nat.add_zero, reduceCtorEq, L_X2_placeOfBanquet_2, e_B H hb, hh.2.2.2.2.2.2.1, e, plc, ih]
    split <;> rfl
theorem c_place (H : qF σ0 σ h g) (hh : HF h) (hb : GB N g) (b : Int32) : f_X2_placeOfBanquet h b σ = some (plcN g b, σ) := by
  have hB := (n_B hb).2
  unfold f_X2_placeOfBanquet
  rw [li_0]
  exact c_place_L H hh hb b _ 0 gF (by unfold gF; omega) (by omega)
theorem c_busy_L (H : qF σ0 σ h g) (hh : HF h) (hb : GB N g) : ∀ (n k fuel : Nat) (a : Int32), n < fuel → k + n = iN (g 48) → L_X2_busyTongs_4 h fuel a (nI k) σ = some (bsy g k n a, σ) := by
  have hB := (n_T hb).2
  intro n
  induction n with
  | zero =>
    intro k fuel a hf hk
    obtain ⟨f, rfl⟩ : ∃ f, fuel = f + 1 := ⟨fuel - 1, by omega⟩
    simp (disch := omega) only [neg1, li_0, li_1, li_2, li_3, li_4, li_5, li_6, li_7, li_8, li_9, li_10, li_11, li_12, li_13, li_14, li_15, li_16, li_20, li_23, li_24, li_26, li_29, li_30, li_36, li_39, li_40, li_42, li_43, li_47, li_48, li_49, li_50, li_53, li_57, li_58, li_59, li_60, li_61, li_62, li_64, li_68, li_71, li_72, li_74, li_80, li_86, li_92, li_93, li_94, li_95, li_96, li_97, li_98, li_99, li_100, li_104, li_108, li_110, li_115, li_116, li_160, li_200, li_220, li_300, li_9999, nI_add, nI_mul, p_clamp, p_le, p_lt, p_eq, p_m1lt, p_m1eq, p_m1ge, p_eqm1, i_clamp, p_leT, p_leF, p_ltT, p_ltF, p_eqT, p_eqF, or_self, or_false, false_or, or_true, true_or, not_false_eq_true, not_true_eq_false, ↓reduceIte, and_self, and_true, true_and, and_false, false_and, ↓gv_e, g1, g2, gnl, Nat.reduceAdd, Nat.add_zero, reduceCtorEq, L_X2_busyTongs_4, e_T H hb, bsy]
  | succ n ih =>
    intro k fuel a hf hk
    obtain ⟨f, rfl⟩ : ∃ f, fuel = f + 1 := ⟨fuel - 1, by omega⟩
    have e2 := r_bsy H (i := k) (by omega) (by omega)
    simp (disch := omega) only [neg1, li_0, li_1, li_2, li_3, li_4, li_5, li_6, li_7, li_8, li_9, li_10, li_11, li_12, li_13, li_14, li_15, li_16, li_20, li_23, li_24, li_26, li_29, li_30, li_36, li_39, li_40, li_42, li_43, li_47, li_48, li_49, li_50, li_53, li_57, li_58, li_59, li_60, li_61, li_62, li_64, li_68, li_71, li_72, li_74, li_80, li_86, li_92, li_93, li_94, li_95, li_96, li_97, li_98, li_99, li_100, li_104, li_108, li_110, li_115, li_116, li_160, li_200, li_220, li_300, li_9999, nI_add, nI_mul, p_clamp, p_le, p_lt, p_eq, p_m1lt, p_m1eq, p_m1ge, p_eqm1, i_clamp, p_leT, p_leF, p_ltT, p_ltF, p_eqT, p_eqF, or_self, or_false, false_or, or_true, true_or, not_false_eq_true, not_true_eq_false, ↓reduceIte, and_self, and_true, true_and, and_false, false_and, ↓gv_e, g1, g2, gnl, Nat.reduceAdd, Nat.add_zero, reduceCtorEq, L_X2_busyTongs_4, e_T H hb, hh.2.2.2.2.1, e2, bsy, ih]
    by_cases q : g (53 + k) ≤ nI 0
    · rw [if_pos q, if_neg (Int32.not_lt.mpr q)]
    · rw [if_neg q, if_pos (Int32.not_le.mp q)]
theorem c_busy (H : qF σ0 σ h g) (hh : HF h) (hb : GB N g) : f_X2_busyTongs h σ = some (bsy g 0 (iN (g 48)) (nI 0), σ) := by
  have hB := (n_T hb).2
  unfold f_X2_busyTongs
  rw [li_0]
  exact c_busy_L H hh hb _ 0 gF _ (by unfold gF; omega) (by omega)
theorem c_with_L (H : qF σ0 σ h g) (hh : HF h) (hb : GB N g) (u : Int32) : ∀ (n k fuel : Nat) (a : Int32), n < fuel → k + n = iN (g 61) → L_X2_banquetsWith_4 h u fuel a (nI k) σ = some (bwt g u k n a, σ) := by
  have hB := (n_B hb).2
  intro n
  induction n with
  | zero =>
    intro k fuel a hf hk
    obtain ⟨f, rfl⟩ : ∃ f, fuel = f + 1 := ⟨fuel - 1, by omega⟩
    simp (disch := omega) only [neg1, li_0, li_1, li_2, li_3, li_4, li_5, li_6, li_7, li_8, li_9, li_10, li_11, li_12, li_13, li_14, li_15, li_16, li_20, li_23, li_24, li_26, li_29, li_30, li_36, li_39, li_40, li_42, li_43, li_47, li_48, li_49, li_50, li_53, li_57, li_58, li_59, li_60, li_61, li_62, li_64, li_68, li_71, li_72, li_74, li_80, li_86, li_92, li_93, li_94, li_95, li_96, li_97, li_98, li_99, li_100, li_104, li_108, li_110, li_115, li_116, li_160, li_200, li_220, li_300, li_9999, nI_add, nI_mul, p_clamp, p_le, p_lt, p_eq, p_m1lt, p_m1eq, p_m1ge, p_eqm1, i_clamp, p_leT, p_leF, p_ltT, p_ltF, p_eqT, p_eqF, or_self, or_false, false_or, or_true, true_or, not_false_eq_true, not_true_eq_false, ↓reduceIte, and_self, and_true, true_and, and_false, false_and, ↓gv_e, g1, g2, gnl, Nat.reduceAdd, Nat.add_zero, reduceCtorEq, L_X2_banquetsWith_4, e_B H hb, bwt]
  | succ n ih =>
    intro k fuel a hf hk
    obtain ⟨f, rfl⟩ : ∃ f, fuel = f + 1 := ⟨fuel - 1, by omega⟩
    have e2 := r_atb H (i := k) (by omega) (by omega)
    simp (disch := omega) only [neg1, li_0, li_1, li_2, li_3, li_4, li_5, li_6, li_7, li_8, li_9, li_10, li_11, li_12, li_13, li_14, li_15, li_16, li_20, li_23, li_24, li_26, li_29, li_30, li_36, li_39, li_40, li_42, li_43, li_47, li_48, li_49, li_50, li_53, li_57, li_58, li_59, li_60, li_61, li_62, li_64, li_68, li_71, li_72, li_74, li_80, li_86, li_92, li_93, li_94, li_95, li_96, li_97, li_98, li_99, li_100, li_104, li_108, li_110, li_115, li_116, li_160, li_200, li_220, li_300, li_9999, nI_add, nI_mul, p_clamp, p_le, p_lt, p_eq, p_m1lt, p_m1eq, p_m1ge, p_eqm1, i_clamp, p_leT, p_leF, p_ltT, p_ltF, p_eqT, p_eqF, or_self, or_false, false_or, or_true, true_or, not_false_eq_true, not_true_eq_false, ↓reduceIte, and_self, and_true, true_and, and_false, false_and, ↓gv_e, g1, g2, gnl, Nat.reduceAdd, Nat.add_zero, reduceCtorEq, L_X2_banquetsWith_4, e_B H hb, hh.2.2.2.2.2.2.1, e2, bwt, ih]
    split <;> rfl
theorem c_with (H : qF σ0 σ h g) (hh : HF h) (hb : GB N g) (u : Int32) : f_X2_banquetsWith h u σ = some (bwt g u 0 (iN (g 61)) (nI 0), σ) := by
  have hB := (n_B hb).2
  unfold f_X2_banquetsWith
  rw [li_0]
  exact c_with_L H hh hb u _ 0 gF _ (by unfold gF; omega) (by omega)
theorem mx0 (v : Int32) : (if nI 0 < v then v else nI 0) = if nI 0 ≤ v then v else nI 0 := by
  by_cases q : nI 0 < v
  · rw [if_pos q, if_pos (Int32.le_of_lt q)]
  · rw [if_neg q]
    by_cases q2 : nI 0 ≤ v
    · rw [if_pos q2]; exact (Int32.le_antisymm (Int32.not_lt.mp q) q2).symm
    · rw [if_neg q2]
theorem c_miss (H : qF σ0 σ h g) (hh : HF h) (hb : GB N g) (hz : GZ g) {k : Nat} (hk : k < iN (g 61)) : f_X2_missingCourses h ((h + 6) + (23 + k)) σ = some (mis g k, σ) := by
  have hB := (n_B hb).2
  have hW := (n_W hb).2
  unfold f_X2_missingCourses mis
  have e := r_atb H (i := k) (by omega) hk
  have e2 := r_wnt H (i := k) (by omega) hk
  rw [e]
  rcases b_atb hb (i := k) (by omega) with q | ⟨n, q, q2⟩
  · rw [q, c_towerAtN H hb (Or.inl (by decide +kernel))]
    simp (disch := omega) only [neg1, li_0, li_1, li_2, li_3, li_4, li_5, li_6, li_7, li_8, li_9, li_10, li_11, li_12, li_13, li_14, li_15, li_16, li_20, li_23, li_24, li_26, li_29, li_30, li_36, li_39, li_40, li_42, li_43, li_47, li_48, li_49, li_50, li_53, li_57, li_58, li_59, li_60, li_61, li_62, li_64, li_68, li_71, li_72, li_74, li_80, li_86, li_92, li_93, li_94, li_95, li_96, li_97, li_98, li_99, li_100, li_104, li_108, li_110, li_115, li_116, li_160, li_200, li_220, li_300, li_9999, nI_add, nI_mul, p_clamp, p_le, p_lt, p_eq, p_m1lt, p_m1eq, p_m1ge, p_eqm1, i_clamp, p_leT, p_leF, p_ltT, p_ltF, p_eqT, p_eqF, or_self, or_false, false_or, or_true, true_or, not_false_eq_true, not_true_eq_false, ↓reduceIte, and_self, and_true, true_and, and_false, false_and, ↓gv_e, g1, g2, gnl, Nat.reduceAdd, Nat.add_zero, reduceCtorEq, e2]
    exact congrArg some (congrArg (·, σ) (mx0 _))
  · by_cases q3 : n < iN (g 29)
    · rw [q, c_towerAt H hh hb q3]
      have e3 := (hh.2.2.2.2.2.2.2.2.1 n (by omega)).1
      have e4 := r_crs H (t := n) (by omega) q3
      simp (disch := omega) only [neg1, li_0, li_1, li_2, li_3, li_4, li_5, li_6, li_7, li_8, li_9, li_10, li_11, li_12, li_13, li_14, li_15, li_16, li_20, li_23, li_24, li_26, li_29, li_30, li_36, li_39, li_40, li_42, li_43, li_47, li_48, li_49, li_50, li_53, li_57, li_58, li_59, li_60, li_61, li_62, li_64, li_68, li_71, li_72, li_74, li_80, li_86, li_92, li_93, li_94, li_95, li_96, li_97, li_98, li_99, li_100, li_104, li_108, li_110, li_115, li_116, li_160, li_200, li_220, li_300, li_9999, nI_add, nI_mul, p_clamp, p_le, p_lt, p_eq, p_m1lt, p_m1eq, p_m1ge, p_eqm1, i_clamp, p_leT, p_leF, p_ltT, p_ltF, p_eqT, p_eqF, or_self, or_false, false_or, or_true, true_or, not_false_eq_true, not_true_eq_false, ↓reduceIte, and_self, and_true, true_and, and_false, false_and, ↓gv_e, g1, g2, gnl, Nat.reduceAdd, Nat.add_zero, reduceCtorEq, e2, e3, e4]
      exact congrArg some (congrArg (·, σ) (mx0 _))
    · rw [q, c_towerAtN H hb (Or.inr ⟨nI_pos' (by omega), nI_le (by omega) (by omega)⟩)]
      have e4 := (hz.1 n (by omega) (by omega)).2.1
      simp (disch := omega) only [neg1, li_0, li_1, li_2, li_3, li_4, li_5, li_6, li_7, li_8, li_9, li_10, li_11, li_12, li_13, li_14, li_15, li_16, li_20, li_23, li_24, li_26, li_29, li_30, li_36, li_39, li_40, li_42, li_43, li_47, li_48, li_49, li_50, li_53, li_57, li_58, li_59, li_60, li_61, li_62, li_64, li_68, li_71, li_72, li_74, li_80, li_86, li_92, li_93, li_94, li_95, li_96, li_97, li_98, li_99, li_100, li_104, li_108, li_110, li_115, li_116, li_160, li_200, li_220, li_300, li_9999, nI_add, nI_mul, p_clamp, p_le, p_lt, p_eq, p_m1lt, p_m1eq, p_m1ge, p_eqm1, i_clamp, p_leT, p_leF, p_ltT, p_ltF, p_eqT, p_eqF, or_self, or_false, false_or, or_true, true_or, not_false_eq_true, not_true_eq_false, ↓reduceIte, and_self, and_true, true_and, and_false, false_and, ↓gv_e, g1, g2, gnl, Nat.reduceAdd, Nat.add_zero, reduceCtorEq, e2, e4]
      exact congrArg some (congrArg (·, σ) (mx0 _))
theorem c_cit_L (H : qF σ0 σ h g) (hh : HF h) (hb : GB N g) : ∀ (n k fuel : Nat) (a : Int32), n < fuel → k + n = iN (g 29) → L_X2_cubesInTowers_4 h fuel a (nI k) σ = some (cit g k n a, σ) := by
  have hB := (n_W hb).2
  intro n
  induction n with
  | zero =>
    intro k fuel a hf hk
    obtain ⟨f, rfl⟩ : ∃ f, fuel = f + 1 := ⟨fuel - 1, by omega⟩
    simp (disch := omega) only [neg1, li_0, li_1, li_2, li_3, li_4, li_5, li_6, li_7, li_8, li_9, li_10, li_11, li_12, li_13, li_14, li_15, li_16, li_20, li_23, li_24, li_26, li_29, li_30, li_36, li_39, li_40, li_42, li_43, li_47, li_48, li_49, li_50, li_53, li_57, li_58, li_59, li_60, li_61, li_62, li_64, li_68, li_71, li_72, li_74, li_80, li_86, li_92, li_93, li_94, li_95, li_96, li_97, li_98, li_99, li_100, li_104, li_108, li_110, li_115, li_116, li_160, li_200, li_220, li_300, li_9999, nI_add, nI_mul, p_clamp, p_le, p_lt, p_eq, p_m1lt, p_m1eq, p_m1ge, p_eqm1, i_clamp, p_leT, p_leF, p_ltT, p_ltF, p_eqT, p_eqF, or_self, or_false, false_or, or_true, true_or, not_false_eq_true, not_true_eq_false, ↓reduceIte, and_self, and_true, true_and, and_false, false_and, ↓gv_e, g1, g2, gnl, Nat.reduceAdd, Nat.add_zero, reduceCtorEq, L_X2_cubesInTowers_4, e_W H hb, cit]
  | succ n ih =>
    intro k fuel a hf hk
    obtain ⟨f, rfl⟩ : ∃ f, fuel = f + 1 := ⟨fuel - 1, by omega⟩
    have e := c_from (TQ_of H hh hb (t := k) (by omega) (by omega)) (Nat.zero_le _)
    simp (disch := omega) only [neg1, li_0, li_1, li_2, li_3, li_4, li_5, li_6, li_7, li_8, li_9, li_10, li_11, li_12, li_13, li_14, li_15, li_16, li_20, li_23, li_24, li_26, li_29, li_30, li_36, li_39, li_40, li_42, li_43, li_47, li_48, li_49, li_50, li_53, li_57, li_58, li_59, li_60, li_61, li_62, li_64, li_68, li_71, li_72, li_74, li_80, li_86, li_92, li_93, li_94, li_95, li_96, li_97, li_98, li_99, li_100, li_104, li_108, li_110, li_115, li_116, li_160, li_200, li_220, li_300, li_9999, nI_add, nI_mul, p_clamp, p_le, p_lt, p_eq, p_m1lt, p_m1eq, p_m1ge, p_eqm1, i_clamp, p_leT, p_leF, p_ltT, p_ltF, p_eqT, p_eqF, or_self, or_false, false_or, or_true, true_or, not_false_eq_true, not_true_eq_false, ↓reduceIte, and_self, and_true, true_and, and_false, false_and, ↓gv_e, g1, g2, gnl, Nat.reduceAdd, Nat.add_zero, reduceCtorEq, L_X2_cubesInTowers_4, e_W H hb, hh.2.2.2.2.2.1, e, cit, ih, Nat.sub_zero]
theorem c_cit (H : qF σ0 σ h g) (hh : HF h) (hb : GB N g) : f_X2_cubesInTowers h σ = some (cit g 0 (iN (g 29)) (nI 0), σ) := by
  have hB := (n_W hb).2
  unfold f_X2_cubesInTowers
  rw [li_0]
  exact c_cit_L H hh hb _ 0 gF _ (by unfold gF; omega) (by omega)
theorem ccrs_L (H : qF σ0 σ h g) (hh : HF h) (hb : GB N g) : ∀ (n k fuel : Nat) (a : Int32), n < fuel → k + n = iN (g 29) → L_X2_coursesInTowers_4 h fuel a (nI k) σ = some (a + sm (fun j => g (36 + j)) k n, σ) := by
  have hB := (n_W hb).2
  intro n
  induction n with
  | zero =>
    intro k fuel a hf hk
    obtain ⟨f, rfl⟩ : ∃ f, fuel = f + 1 := ⟨fuel - 1, by omega⟩
    simp (disch := omega) only [neg1, li_0, li_1, li_2, li_3, li_4, li_5, li_6, li_7, li_8, li_9, li_10, li_11, li_12, li_13, li_14, li_15, li_16, li_20, li_23, li_24, li_26, li_29, li_30, li_36, li_39, li_40, li_42, li_43, li_47, li_48, li_49, li_50, li_53, li_57, li_58, li_59, li_60, li_61, li_62, li_64, li_68, li_71, li_72, li_74, li_80, li_86, li_92, li_93, li_94, li_95, li_96, li_97, li_98, li_99, li_100, li_104, li_108, li_110, li_115, li_116, li_160, li_200, li_220, li_300, li_9999, nI_add, nI_mul, p_clamp, p_le, p_lt, p_eq, p_m1lt, p_m1eq, p_m1ge, p_eqm1, i_clamp, p_leT, p_leF, p_ltT, p_ltF, p_eqT, p_eqF, or_self, or_false, false_or, or_true, true_or, not_false_eq_true, not_true_eq_false, ↓reduceIte, and_self, and_true, true_and, and_false, false_and, ↓gv_e, g1, g2, gnl, Nat.reduceAdd, Nat.add_zero, reduceCtorEq, L_X2_coursesInTowers_4, e_W H hb, sm]
    rw [show nI 0 = 0 from rfl, Int32.add_zero]
  | succ n ih =>
    intro k fuel a hf hk
    obtain ⟨f, rfl⟩ : ∃ f, fuel = f + 1 := ⟨fuel - 1, by omega⟩
    have e := r_crs H (t := k) (by omega) (by omega)
    simp (disch := omega) only [neg1, li_0, li_1, li_2, li_3, li_4, li_5, li_6, li_7, li_8, li_9, li_10, li_11, li_12, li_13, li_14, li_15, li_16, li_20, li_23, li_24, li_26, li_29, li_30, li_36, li_39, li_40, li_42, li_43, li_47, li_48, li_49, li_50, li_53, li_57, li_58, li_59, li_60, li_61, li_62, li_64, li_68, li_71, li_72, li_74, li_80, li_86, li_92, li_93, li_94, li_95, li_96, li_97, li_98, li_99, li_100, li_104, li_108, li_110, li_115, li_116, li_160, li_200, li_220, li_300, li_9999, nI_add, nI_mul, p_clamp, p_le, p_lt, p_eq, p_m1lt, p_m1eq, p_m1ge, p_eqm1, i_clamp, p_leT, p_leF, p_ltT, p_ltF, p_eqT, p_eqF, or_self, or_false, false_or, or_true, true_or, not_false_eq_true, not_true_eq_false, ↓reduceIte, and_self, and_true, true_and, and_false, false_and, ↓gv_e, g1, g2, gnl, Nat.reduceAdd, Nat.add_zero, reduceCtorEq, L_X2_coursesInTowers_4, e_W H hb, hh.2.2.2.2.2.1, e, sm, ih]
    rw [Int32.add_assoc]
theorem ccrs (H : qF σ0 σ h g) (hh : HF h) (hb : GB N g) : f_X2_coursesInTowers h σ = some (sm (fun j => g (36 + j)) 0 (iN (g 29)), σ) := by
  have hB := (n_W hb).2
  unfold f_X2_coursesInTowers
  rw [li_0, ccrs_L H hh hb (iN (g 29)) 0 gF _ (by unfold gF; omega) (by omega), show nI 0 = 0 from rfl, Int32.zero_add]
theorem c_sum3 {c : Nat} (hg : gl c = 3) : f_X8_sumOf c σ = some (σ c 0 + σ c 1 + σ c 2, σ) := by
  unfold f_X8_sumOf gF
  rw [hg, show Int32.ofNat 3 = nI 3 from rfl, show (4000 : Nat) = 3996 + 1 + 1 + 1 + 1 from rfl]
  simp (disch := omega) only [neg1, li_0, li_1, li_2, li_3, li_4, li_5, li_6, li_7, li_8, li_9, li_10, li_11, li_12, li_13, li_14, li_15, li_16, li_20, li_23, li_24, li_26, li_29, li_30, li_36, li_39, li_40, li_42, li_43, li_47, li_48, li_49, li_50, li_53, li_57, li_58, li_59, li_60, li_61, li_62, li_64, li_68, li_71, li_72, li_74, li_80, li_86, li_92, li_93, li_94, li_95, li_96, li_97, li_98, li_99, li_100, li_104, li_108, li_110, li_115, li_116, li_160, li_200, li_220, li_300, li_9999, nI_add, nI_mul, p_clamp, p_le, p_lt, p_eq, p_m1lt, p_m1eq, p_m1ge, p_eqm1, i_clamp, p_leT, p_leF, p_ltT, p_ltF, p_eqT, p_eqF, or_self, or_false, false_or, or_true, true_or, not_false_eq_true, not_true_eq_false, ↓reduceIte, and_self, and_true, true_and, and_false, false_and, ↓gv_e, g1, g2, gnl, Nat.reduceAdd, Nat.add_zero, reduceCtorEq, L_X8_sumOf_10, hg]
  rw [show nI 0 = 0 from rfl, Int32.zero_add]
theorem c_bought (H : qF σ0 σ h g) (hh : HF h) : f_X8_sumOf (h + 3) σ = some (g 95, σ) := by
  rw [c_sum3 hh.2.2.2.1, H.1.2.1]
theorem c_stocks (H : qF σ0 σ h g) (hh : HF h) : f_X8_sumOf (h + 2) σ = some (sm (fun j => g (26 + j)) 0 3, σ) := by
  rw [c_sum3 hh.2.2.1, r_stk H (i := 0) (by decide), r_stk H (i := 1) (by decide), r_stk H (i := 2) (by decide)]
  simp only [sm, show nI 0 = 0 from rfl, Int32.add_zero, Int32.add_assoc]
end

