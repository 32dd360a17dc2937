/-! THE PURE SIDE: towers, on both sides -/
theorem i_clamp {n : Nat} (h : n < 2147483648) : iN (nI n) = n := nI_clamp h
theorem p_leT {a b : Nat} (h : a ≤ b) : (a ≤ b) = True := eq_true h
theorem p_leF {a b : Nat} (h : b < a) : (a ≤ b) = False := eq_false (by omega)
theorem p_ltT {a b : Nat} (h : a < b) : (a < b) = True := eq_true h
theorem p_ltF {a b : Nat} (h : b ≤ a) : (a < b) = False := eq_false (by omega)
theorem p_eqT {a b : Nat} (h : a = b) : (a = b) = True := eq_true h
theorem p_eqF {a b : Nat} (h : a ≠ b) : (a = b) = False := eq_false h
def str (x : Int32) : Int32 := if x = nI 0 then nI 4 else if x = nI 1 then nI 8 else nI 15
abbrev cub (g : Nat → Int32) (t c : Nat) : Int32 := g (160 + 10 * t + c)
abbrev grd (g : Nat → Int32) (t c : Nat) : Int32 := g (100 + 10 * t + c)
def bear (g : Nat → Int32) (t c : Nat) (d : Int32) : Int32 := if nI 0 ≤ str (grd g t c) - d / nI 10 then (str (grd g t c) - d / nI 10) * cub g t c else nI 0
def sm (f : Nat → Int32) : Nat → Nat → Int32
  | _, 0 => nI 0
  | a, n + 1 => f a + sm f (a + 1) n
def gC (g : Nat → Int32) (t : Nat) : Nat := iN (g (36 + t))
def ab (g : Nat → Int32) (t c : Nat) : Int32 := sm (fun j => cub g t j) (c + 1) (gC g t - (c + 1))
def wk (g : Nat → Int32) (t : Nat) (d more : Int32) : Nat → Nat → Int32
  | _, 0 => m1
  | c, n + 1 => if bear g t c d < ab g t c + more then nI c else wk g t d more (c + 1) n
def weak (g : Nat → Int32) (t : Nat) (d more : Int32) : Int32 := wk g t d more 0 (gC g t)
def mn (x y : Int32) : Int32 := if x < y then x else y
def spr (g : Nat → Int32) (t : Nat) : Nat → Nat → Int32
  | _, 0 => nI 20
  | c, n + 1 => mn (bear g t c (g (30 + t)) - ab g t c) (spr g t (c + 1) n)
def pr : Nat → Int32
  | 0 => m1
  | n + 1 => nI n
theorem pr_pred (n : Nat) : nI n + m1 = pr n := by
  cases n with
  | zero => decide +kernel
  | succ n =>
    show nI (n + 1) + -1 = nI n
    rw [← Int32.sub_eq_add_neg]
    exact nI_pred n
theorem pr_sub (n : Nat) : nI n - nI 1 = pr n := by rw [← pr_pred, Int32.sub_eq_add_neg]; rfl
theorem pr_neg (n : Nat) (h : n < 2147483648) : (pr n < nI 0) = (n = 0) := by
  cases n with
  | zero => simp only [pr]; exact eq_true (by decide +kernel)
  | succ n => simp only [pr]; rw [p_lt (by omega) (by omega)]; exact propext (by omega)
/-- a tower of the class at its cell, and of the model -/
def TQ (σ : gMem) (q : Nat) (g : Nat → Int32) (t : Nat) : Prop := σ q 2 = g (36 + t) ∧ σ q 3 = g (30 + t) ∧ σ q 4 = g (42 + t) ∧ (∀ c, c < 10 → c < gC g t → σ (q + 1) c = grd g t c ∧ σ (q + 2) c = cub g t c) ∧ gl (q + 1) = 10 ∧ gl (q + 2) = 10 ∧ gk q = 7 ∧ g (36 + t) = nI (gC g t) ∧ gC g t ≤ 10
theorem gC_of {N : Nat} {g : Nat → Int32} {t : Nat} (H : GB N g) (ht : t < 6) : g (36 + t) = nI (gC g t) ∧ gC g t ≤ 10 := by
  obtain ⟨C, h1, h2⟩ := b_crs H ht
  have : gC g t = C := by unfold gC; rw [h1]; exact p_clamp (by omega)
  rw [this]; exact ⟨h1, h2⟩
theorem TQ_of {σ0 σ : gMem} {h t N : Nat} {g : Nat → Int32} (H : qF σ0 σ h g) (hh : HF h) (hb : GB N g) (ht : t < 6) (hl : t < iN (g 29)) : TQ σ ((h + 5) + (6 + 3 * t)) g t := by
  obtain ⟨h1, h2, h3, h4, h5, h6, h7, h8, h9, h10⟩ := hh
  obtain ⟨k1, k2, k3⟩ := h9 t ht
  obtain ⟨k4, k5⟩ := gC_of hb ht
  exact ⟨r_crs H ht hl, r_dmp H ht hl, r_brk H ht hl, fun c hc hc2 => ⟨r_grd H ht hc hl hc2, r_cub H ht hc hl hc2⟩, k2, k3, k1, k4, k5⟩
theorem c_bears (x d : Int32) (m : gMem) : f_X8_cubeBears x d m = some (if nI 0 < str x - d / nI 10 then str x - d / nI 10 else nI 0, m) := by
  unfold f_X8_cubeBears str
  simp only [li_0, li_1, li_2, li_3, li_4, li_5, li_6, li_7, li_8, li_9, li_10, li_11, li_12, li_13, li_14, li_15, li_16, li_20, li_23, li_24, li_26, li_29, li_30, li_36, li_39, li_40, li_42, li_43, li_47, li_48, li_49, li_50, li_53, li_57, li_58, li_59, li_60, li_61, li_62, li_64, li_68, li_71, li_72, li_74, li_80, li_86, li_92, li_93, li_94, li_95, li_96, li_97, li_98, li_99, li_100, li_104, li_108, li_110, li_115, li_116, li_160, li_200, li_220, li_300, li_9999]
  by_cases h0 : x = nI 0
  · simp only [h0, ↓reduceIte]
  · by_cases h1 : x = nI 1
    · simp only [h1, ↓reduceIte, p_eq (show 1 < 2147483648 by decide) (show 0 < 2147483648 by decide), Nat.one_ne_zero]
    · simp only [h0, h1, ↓reduceIte]
theorem bear_c (g : Nat → Int32) (t c : Nat) (d : Int32) : cub g t c * (if nI 0 < str (grd g t c) - d / nI 10 then str (grd g t c) - d / nI 10 else nI 0) = bear g t c d := by
  unfold bear
  generalize str (grd g t c) - d / nI 10 = e
  by_cases h : nI 0 < e
  · rw [if_pos h, if_pos (Int32.le_of_lt h), Int32.mul_comm]
  · rw [if_neg h]
    by_cases h2 : nI 0 ≤ e
    · have : e = nI 0 := Int32.le_antisymm (Int32.not_lt.mp h) h2
      rw [if_pos h2, this, Int32.mul_comm]
    · rw [if_neg h2]; exact Int32.mul_zero
section
variable {σ : gMem} {q t : Nat} {g : Nat → Int32}
theorem c_has (H : TQ σ q g t) {c : Nat} (hc : c < 2147483648) : f_X7_hasCourse q (nI c) σ = some (if c < gC g t then nI 1 else nI 0, σ) := by
  obtain ⟨h2, -, -, -, -, -, -, hC, hC2⟩ := H
  unfold f_X7_hasCourse
  simp (disch := omega) only [neg1, li_0, li_1, li_2, li_3, li_4, li_5, li_6, li_7, li_8, li_9, li_10, li_11, li_12, li_13, li_14, li_15, li_16, li_20, li_23, li_24, li_26, li_29, li_30, li_36, li_39, li_40, li_42, li_43, li_47, li_48, li_49, li_50, li_53, li_57, li_58, li_59, li_60, li_61, li_62, li_64, li_68, li_71, li_72, li_74, li_80, li_86, li_92, li_93, li_94, li_95, li_96, li_97, li_98, li_99, li_100, li_104, li_108, li_110, li_115, li_116, li_160, li_200, li_220, li_300, li_9999, nI_add, nI_mul, p_clamp, p_le, p_lt, p_eq, p_m1lt, p_m1eq, p_m1ge, p_eqm1, i_clamp, p_leT, p_leF, p_ltT, p_ltF, p_eqT, p_eqF, or_self, or_false, false_or, or_true, true_or, not_false_eq_true, not_true_eq_false, ↓reduceIte, and_self, and_true, true_and, and_false, false_and, ↓gv_e, g1, g2, gnl, Nat.reduceAdd, Nat.add_zero, reduceCtorEq, h2, hC]
  by_cases h : c < gC g t
  · simp (disch := omega) only [neg1, li_0, li_1, li_2, li_3, li_4, li_5, li_6, li_7, li_8, li_9, li_10, li_11, li_12, li_13, li_14, li_15, li_16, li_20, li_23, li_24, li_26, li_29, li_30, li_36, li_39, li_40, li_42, li_43, li_47, li_48, li_49, li_50, li_53, li_57, li_58, li_59, li_60, li_61, li_62, li_64, li_68, li_71, li_72, li_74, li_80, li_86, li_92, li_93, li_94, li_95, li_96, li_97, li_98, li_99, li_100, li_104, li_108, li_110, li_115, li_116, li_160, li_200, li_220, li_300, li_9999, nI_add, nI_mul, p_clamp, p_le, p_lt, p_eq, p_m1lt, p_m1eq, p_m1ge, p_eqm1, i_clamp, p_leT, p_leF, p_ltT, p_ltF, p_eqT, p_eqF, or_self, or_false, false_or, or_true, true_or, not_false_eq_true, not_true_eq_false, ↓reduceIte, and_self, and_true, true_and, and_false, false_and, ↓gv_e, g1, g2, gnl, Nat.reduceAdd, Nat.add_zero, reduceCtorEq, h]
  · simp (disch := omega) only [neg1, li_0, li_1, li_2, li_3, li_4, li_5, li_6, li_7, li_8, li_9, li_10, li_11, li_12, li_13, li_14, li_15, li_16, li_20, li_23, li_24, li_26, li_29, li_30, li_36, li_39, li_40, li_42, li_43, li_47, li_48, li_49, li_50, li_53, li_57, li_58, li_59, li_60, li_61, li_62, li_64, li_68, li_71, li_72, li_74, li_80, li_86, li_92, li_93, li_94, li_95, li_96, li_97, li_98, li_99, li_100, li_104, li_108, li_110, li_115, li_116, li_160, li_200, li_220, li_300, li_9999, nI_add, nI_mul, p_clamp, p_le, p_lt, p_eq, p_m1lt, p_m1eq, p_m1ge, p_eqm1, i_clamp, p_leT, p_leF, p_ltT, p_ltF, p_eqT, p_eqF, or_self, or_false, false_or, or_true, true_or, not_false_eq_true, not_true_eq_false, ↓reduceIte, and_self, and_true, true_and, and_false, false_and, ↓gv_e, g1, g2, gnl, Nat.reduceAdd, Nat.add_zero, reduceCtorEq, h]
theorem c_hasN (H : TQ σ q g t) {u : Int32} (hu : u < 0 ∨ (0 ≤ u ∧ nI (gC g t) ≤ u)) : f_X7_hasCourse q u σ = some (nI 0, σ) := by
  obtain ⟨h2, -, -, -, -, -, -, hC, hC2⟩ := H
  unfold f_X7_hasCourse
  rcases hu with h | ⟨h, h3⟩
  · rw [if_pos h]; rfl
  · rw [if_neg (Int32.not_lt.mpr h), h2, hC, if_pos h3]; rfl
theorem c_cubesAt (H : TQ σ q g t) {c : Nat} (hc : c < gC g t) : f_X7_cubesAt q (nI c) σ = some (cub g t c, σ) := by
  unfold f_X7_cubesAt
  have h10 : gC g t ≤ 10 := H.2.2.2.2.2.2.2.2
  rw [c_has H (by omega)]
  simp (disch := omega) only [neg1, li_0, li_1, li_2, li_3, li_4, li_5, li_6, li_7, li_8, li_9, li_10, li_11, li_12, li_13, li_14, li_15, li_16, li_20, li_23, li_24, li_26, li_29, li_30, li_36, li_39, li_40, li_42, li_43, li_47, li_48, li_49, li_50, li_53, li_57, li_58, li_59, li_60, li_61, li_62, li_64, li_68, li_71, li_72, li_74, li_80, li_86, li_92, li_93, li_94, li_95, li_96, li_97, li_98, li_99, li_100, li_104, li_108, li_110, li_115, li_116, li_160, li_200, li_220, li_300, li_9999, nI_add, nI_mul, p_clamp, p_le, p_lt, p_eq, p_m1lt, p_m1eq, p_m1ge, p_eqm1, i_clamp, p_leT, p_leF, p_ltT, p_ltF, p_eqT, p_eqF, or_self, or_false, false_or, or_true, true_or, not_false_eq_true, not_true_eq_false, ↓reduceIte, and_self, and_true, true_and, and_false, false_and, ↓gv_e, g1, g2, gnl, Nat.reduceAdd, Nat.add_zero, reduceCtorEq, hc, H.2.2.2.2.2.1, (H.2.2.2.1 c (by omega) hc).2]
theorem c_gradeAt (H : TQ σ q g t) {c : Nat} (hc : c < gC g t) : f_X7_gradeAt q (nI c) σ = some (grd g t c, σ) := by
  unfold f_X7_gradeAt
  have h10 : gC g t ≤ 10 := H.2.2.2.2.2.2.2.2
  rw [c_has H (by omega)]
  simp (disch := omega) only [neg1, li_0, li_1, li_2, li_3, li_4, li_5, li_6, li_7, li_8, li_9, li_10, li_11, li_12, li_13, li_14, li_15, li_16, li_20, li_23, li_24, li_26, li_29, li_30, li_36, li_39, li_40, li_42, li_43, li_47, li_48, li_49, li_50, li_53, li_57, li_58, li_59, li_60, li_61, li_62, li_64, li_68, li_71, li_72, li_74, li_80, li_86, li_92, li_93, li_94, li_95, li_96, li_97, li_98, li_99, li_100, li_104, li_108, li_110, li_115, li_116, li_160, li_200, li_220, li_300, li_9999, nI_add, nI_mul, p_clamp, p_le, p_lt, p_eq, p_m1lt, p_m1eq, p_m1ge, p_eqm1, i_clamp, p_leT, p_leF, p_ltT, p_ltF, p_eqT, p_eqF, or_self, or_false, false_or, or_true, true_or, not_false_eq_true, not_true_eq_false, ↓reduceIte, and_self, and_true, true_and, and_false, false_and, ↓gv_e, g1, g2, gnl, Nat.reduceAdd, Nat.add_zero, reduceCtorEq, hc, H.2.2.2.2.1, (H.2.2.2.1 c (by omega) hc).1]
theorem c_from_L (H : TQ σ q g t) : ∀ (n i fuel : Nat) (acc : Int32), n < fuel → i + n = gC g t → L_X7_cubesFrom_8 q fuel acc (nI i) σ = some (acc + sm (fun j => cub g t j) i n, σ) := by
  obtain ⟨h2, -, -, hv, -, hg, -, hC, hC2⟩ := H
  intro n
  induction n with
  | zero =>
    intro i fuel acc hf hi
    obtain ⟨f, rfl⟩ : ∃ f, fuel = f + 1 := ⟨fuel - 1, by omega⟩
    simp (disch := omega) only [neg1, li_0, li_1, li_2, li_3, li_4, li_5, li_6, li_7, li_8, li_9, li_10, li_11, li_12, li_13, li_14, li_15, li_16, li_20, li_23, li_24, li_26, li_29, li_30, li_36, li_39, li_40, li_42, li_43, li_47, li_48, li_49, li_50, li_53, li_57, li_58, li_59, li_60, li_61, li_62, li_64, li_68, li_71, li_72, li_74, li_80, li_86, li_92, li_93, li_94, li_95, li_96, li_97, li_98, li_99, li_100, li_104, li_108, li_110, li_115, li_116, li_160, li_200, li_220, li_300, li_9999, nI_add, nI_mul, p_clamp, p_le, p_lt, p_eq, p_m1lt, p_m1eq, p_m1ge, p_eqm1, i_clamp, p_leT, p_leF, p_ltT, p_ltF, p_eqT, p_eqF, or_self, or_false, false_or, or_true, true_or, not_false_eq_true, not_true_eq_false, ↓reduceIte, and_self, and_true, true_and, and_false, false_and, ↓gv_e, g1, g2, gnl, Nat.reduceAdd, Nat.add_zero, reduceCtorEq, L_X7_cubesFrom_8, h2, hC, sm]
    rw [show nI 0 = 0 from rfl, Int32.add_zero]
  | succ n ih =>
    intro i fuel acc hf hi
    obtain ⟨f, rfl⟩ : ∃ f, fuel = f + 1 := ⟨fuel - 1, by omega⟩
    have hv2 := (hv i (by omega) (by omega)).2
    simp (disch := omega) only [neg1, li_0, li_1, li_2, li_3, li_4, li_5, li_6, li_7, li_8, li_9, li_10, li_11, li_12, li_13, li_14, li_15, li_16, li_20, li_23, li_24, li_26, li_29, li_30, li_36, li_39, li_40, li_42, li_43, li_47, li_48, li_49, li_50, li_53, li_57, li_58, li_59, li_60, li_61, li_62, li_64, li_68, li_71, li_72, li_74, li_80, li_86, li_92, li_93, li_94, li_95, li_96, li_97, li_98, li_99, li_100, li_104, li_108, li_110, li_115, li_116, li_160, li_200, li_220, li_300, li_9999, nI_add, nI_mul, p_clamp, p_le, p_lt, p_eq, p_m1lt, p_m1eq, p_m1ge, p_eqm1, i_clamp, p_leT, p_leF, p_ltT, p_ltF, p_eqT, p_eqF, or_self, or_false, false_or, or_true, true_or, not_false_eq_true, not_true_eq_false, ↓reduceIte, and_self, and_true, true_and, and_false, false_and, ↓gv_e, g1, g2, gnl, Nat.reduceAdd, Nat.add_zero, reduceCtorEq, L_X7_cubesFrom_8, h2, hC, hg, hv2, sm, ih]
    rw [Int32.add_assoc]
theorem c_from (H : TQ σ q g t) {c : Nat} (hc : c ≤ gC g t) : f_X7_cubesFrom q (nI c) σ = some (sm (fun j => cub g t j) c (gC g t - c), σ) := by
  have h10 : gC g t ≤ 10 := H.2.2.2.2.2.2.2.2
  unfold f_X7_cubesFrom gv
  have e : (if (0 : Int32) < nI c then nI c else 0) = nI c := by
    by_cases h : c = 0
    · subst h; rfl
    · simp (disch := omega) only [neg1, li_0, li_1, li_2, li_3, li_4, li_5, li_6, li_7, li_8, li_9, li_10, li_11, li_12, li_13, li_14, li_15, li_16, li_20, li_23, li_24, li_26, li_29, li_30, li_36, li_39, li_40, li_42, li_43, li_47, li_48, li_49, li_50, li_53, li_57, li_58, li_59, li_60, li_61, li_62, li_64, li_68, li_71, li_72, li_74, li_80, li_86, li_92, li_93, li_94, li_95, li_96, li_97, li_98, li_99, li_100, li_104, li_108, li_110, li_115, li_116, li_160, li_200, li_220, li_300, li_9999, nI_add, nI_mul, p_clamp, p_le, p_lt, p_eq, p_m1lt, p_m1eq, p_m1ge, p_eqm1, i_clamp, p_leT, p_leF, p_ltT, p_ltF, p_eqT, p_eqF, or_self, or_false, false_or, or_true, true_or, not_false_eq_true, not_true_eq_false, ↓reduceIte, and_self, and_true, true_and, and_false, false_and, ↓gv_e, g1, g2, gnl, Nat.reduceAdd, Nat.add_zero, reduceCtorEq]
  rw [e]
  dsimp only
  rw [c_from_L H (gC g t - c) c gF 0 (by unfold gF; omega) (by omega), Int32.zero_add]
theorem c_weak_L (H : TQ σ q g t) (d more : Int32) : ∀ (n fuel : Nat) (w a : Int32), n < fuel → n ≤ gC g t → w = wk g t d more n (gC g t - n) → a = more + sm (fun j => cub g t j) n (gC g t - n) → L_X7_lowestWeakCourse_18 q d fuel w a (pr n) σ = some (weak g t d more, σ) := by
  obtain ⟨h2, -, -, hv, hg1, hg, -, hC, hC2⟩ := H
  intro n
  induction n with
  | zero =>
    intro fuel w a hf hi hw ha
    obtain ⟨f, rfl⟩ : ∃ f, fuel = f + 1 := ⟨fuel - 1, by omega⟩
    rw [L_X7_lowestWeakCourse_18, if_pos (by decide +kernel), hw]
    rfl
  | succ n ih =>
    intro fuel w a hf hi hw ha
    obtain ⟨f, rfl⟩ : ∃ f, fuel = f + 1 := ⟨fuel - 1, by omega⟩
    obtain ⟨hv1, hv2⟩ := hv n (by omega) (by omega)
    have e1 : gC g t - n = (gC g t - (n + 1)) + 1 := by omega
    have ea : a = ab g t n + more := by rw [ha, ab, Int32.add_comm]
    have e2 : a + cub g t n = more + sm (fun j => cub g t j) n (gC g t - n) := by
      rw [e1, sm, ha, Int32.add_assoc, Int32.add_comm (sm _ _ _)]
    have e3 : wk g t d more n (gC g t - n) = if bear g t n d < a then nI n else w := by rw [e1, wk, ← ea, ← hw]
    simp (disch := omega) only [neg1, li_0, li_1, li_2, li_3, li_4, li_5, li_6, li_7, li_8, li_9, li_10, li_11, li_12, li_13, li_14, li_15, li_16, li_20, li_23, li_24, li_26, li_29, li_30, li_36, li_39, li_40, li_42, li_43, li_47, li_48, li_49, li_50, li_53, li_57, li_58, li_59, li_60, li_61, li_62, li_64, li_68, li_71, li_72, li_74, li_80, li_86, li_92, li_93, li_94, li_95, li_96, li_97, li_98, li_99, li_100, li_104, li_108, li_110, li_115, li_116, li_160, li_200, li_220, li_300, li_9999, nI_add, nI_mul, p_clamp, p_le, p_lt, p_eq, p_m1lt, p_m1eq, p_m1ge, p_eqm1, i_clamp, p_leT, p_leF, p_ltT, p_ltF, p_eqT, p_eqF, or_self, or_false, false_or, or_true, true_or, not_false_eq_true, not_true_eq_false, ↓reduceIte, and_self, and_true, true_and, and_false, false_and, ↓gv_e, g1, g2, gnl, Nat.reduceAdd, Nat.add_zero, reduceCtorEq, L_X7_lowestWeakCourse_18, pr, hg, hg1, hv1, hv2, c_bears, bear_c, pr_pred]
    by_cases hb : bear g t n d < a
    · rw [if_neg (Int32.not_le.mpr hb)]
      exact ih f _ _ (by omega) (by omega) (by rw [e3, if_pos hb]) e2
    · rw [if_pos (Int32.not_lt.mp hb)]
      exact ih f _ _ (by omega) (by omega) (by rw [e3, if_neg hb]) e2
theorem c_min10 {C : Nat} (h : C ≤ 10) : (if (10 : Int32) < nI C then (10 : Int32) else nI C) - 1 = pr C := by
  have : ¬ (10 : Int32) < nI C := by rw [li_10, p_lt (by omega) (by omega)]; omega
  rw [if_neg this, ← pr_sub]; rfl
theorem c_weak (H : TQ σ q g t) (d more : Int32) : f_X7_lowestWeakCourse q d more σ = some (weak g t d more, σ) := by
  have h2 := H.1
  obtain ⟨hC, hC2⟩ := H.2.2.2.2.2.2.2
  unfold f_X7_lowestWeakCourse gv
  rw [h2, hC, c_min10 hC2]
  exact c_weak_L H d more (gC g t) gF _ _ (by unfold gF; omega) (Nat.le_refl _) (by rw [Nat.sub_self]; rfl) (by rw [Nat.sub_self, sm, show nI 0 = 0 from rfl, Int32.add_zero])
theorem c_spare_L (H : TQ σ q g t) : ∀ (n fuel : Nat) (w a : Int32), n < fuel → n ≤ gC g t → w = spr g t n (gC g t - n) → a = sm (fun j => cub g t j) n (gC g t - n) → L_X7_spareCubes_17 q fuel w a (pr n) σ = some (spr g t 0 (gC g t), σ) := by
  obtain ⟨h2, hd, -, hv, hg1, hg, -, hC, hC2⟩ := H
  intro n
  induction n with
  | zero =>
    intro fuel w a hf hi hw ha
    obtain ⟨f, rfl⟩ : ∃ f, fuel = f + 1 := ⟨fuel - 1, by omega⟩
    rw [L_X7_spareCubes_17, if_pos (by decide +kernel), hw]
    rfl
  | succ n ih =>
    intro fuel w a hf hi hw ha
    obtain ⟨f, rfl⟩ : ∃ f, fuel = f + 1 := ⟨fuel - 1, by omega⟩
    obtain ⟨hv1, hv2⟩ := hv n (by omega) (by omega)
    have e1 : gC g t - n = (gC g t - (n + 1)) + 1 := by omega
    have e2 : a + cub g t n = sm (fun j => cub g t j) n (gC g t - n) := by
      rw [e1, sm, ha, Int32.add_comm]
    simp (disch := omega) only [neg1, li_0, li_1, li_2, li_3, li_4, li_5, li_6, li_7, li_8, li_9, li_10, li_11, li_12, li_13, li_14, li_15, li_16, li_20, li_23, li_24, li_26, li_29, li_30, li_36, li_39, li_40, li_42, li_43, li_47, li_48, li_49, li_50, li_53, li_57, li_58, li_59, li_60, li_61, li_62, li_64, li_68, li_71, li_72, li_74, li_80, li_86, li_92, li_93, li_94, li_95, li_96, li_97, li_98, li_99, li_100, li_104, li_108, li_110, li_115, li_116, li_160, li_200, li_220, li_300, li_9999, nI_add, nI_mul, p_clamp, p_le, p_lt, p_eq, p_m1lt, p_m1eq, p_m1ge, p_eqm1, i_clamp, p_leT, p_leF, p_ltT, p_ltF, p_eqT, p_eqF, or_self, or_false, false_or, or_true, true_or, not_false_eq_true, not_true_eq_false, ↓reduceIte, and_self, and_true, true_and, and_false, false_and, ↓gv_e, g1, g2, gnl, Nat.reduceAdd, Nat.add_zero, reduceCtorEq, L_X7_spareCubes_17, pr, hg, hg1, hv1, hv2, hd, c_bears, bear_c, pr_pred]
    refine ih f _ _ (by omega) (by omega) ?_ e2
    rw [e1, spr, ← hw, ha, ab]
    rfl
theorem c_spare (H : TQ σ q g t) : f_X7_spareCubes q σ = some (spr g t 0 (gC g t), σ) := by
  have h2 := H.1
  obtain ⟨hC, hC2⟩ := H.2.2.2.2.2.2.2
  unfold f_X7_spareCubes gv
  rw [h2, hC, c_min10 hC2]
  exact c_spare_L H (gC g t) gF _ _ (by unfold gF; omega) (Nat.le_refl _) (by rw [Nat.sub_self]; rfl) (by rw [Nat.sub_self]; rfl)
/-- no course is wider than the one below it, from one course on -/
def wid (g : Nat → Int32) (t : Nat) : Nat → Nat → Prop
  | _, 0 => True
  | c, n + 1 => cub g t c ≤ cub g t (c - 1) ∧ wid g t (c + 1) n
end

