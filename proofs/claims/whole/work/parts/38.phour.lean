/-! THE PURE SIDE: an hour goes by, the model -/
theorem wk_in {g : Nat → Int32} {t : Nat} {d more : Int32} : ∀ n c, wk g t d more c n = m1 ∨ ∃ j, c ≤ j ∧ j < c + n ∧ wk g t d more c n = nI j := by
  intro n
  induction n with
  | zero => intro c; exact Or.inl rfl
  | succ n ih =>
    intro c
    rw [wk]
    split
    · exact Or.inr ⟨c, Nat.le_refl _, by omega, rfl⟩
    · rcases ih (c + 1) with h | ⟨j, h1, h2, h3⟩
      · exact Or.inl h
      · exact Or.inr ⟨j, by omega, by omega, h3⟩
theorem weak_in (g : Nat → Int32) (t : Nat) (d more : Int32) : weak g t d more = m1 ∨ ∃ j, j < gC g t ∧ weak g t d more = nI j := by
  rcases wk_in (g := g) (t := t) (d := d) (more := more) (gC g t) 0 with h | ⟨j, h1, h2, h3⟩
  · exact Or.inl h
  · exact Or.inr ⟨j, by omega, h3⟩
def dmpL (p : Nat) : Nat → Nat → (Nat → Int32) → (Nat → Int32)
  | _, 0, g => g
  | t, n + 1, g => dmpL p (t + 1) n (upd g (30 + t) (nI (dN (iN (g (30 + t))) p)))
def brkG (g : Nat → Int32) (t : Nat) (w : Int32) : Nat → Int32 := upd (upd (upd g 96 (g 96 + (cub g t (iN w) + ab g t (iN w)))) (36 + t) w) (42 + t) (g (42 + t) + (nI (gC g t) - w))
def brk1 (g : Nat → Int32) (t : Nat) : Nat → Int32 := if weak g t (g (30 + t)) (nI 0) = m1 then g else brkG g t (weak g t (g (30 + t)) (nI 0))
def brkS : Nat → Nat → (Nat → Int32) → (Nat → Int32)
  | _, 0, g => g
  | t, n + 1, g => brkS (t + 1) n (brk1 g t)
def brkA : Nat → Nat → Int32 → (Nat → Int32) → Int32
  | _, 0, a, _ => a
  | t, n + 1, a, g => brkA (t + 1) n (if weak g t (g (30 + t)) (nI 0) = m1 then a else a + (nI (gC g t) - weak g t (g (30 + t)) (nI 0))) (brk1 g t)
def rstL : Nat → Nat → (Nat → Int32) → (Nat → Int32)
  | _, 0, g => g
  | k, n + 1, g => rstL (k + 1) n (upd g (53 + k) (nI (iN (g (53 + k)) - 1)))
def effG (g : Nat → Int32) (k : Nat) : Nat → Int32 :=
  if g (86 + k) ≠ m1 ∧ mis g k = nI 0 then
    upd (upd (upd (upd (upd (upd g 1 (g 1 + g (80 + k))) 98 (g 98 + g (80 + k))) 97 (g 97 + sm (fun j => cub g (iN (g (86 + k))) j) 0 (gC g (iN (g (86 + k)))))) (36 + iN (g (86 + k))) (nI 0)) (30 + iN (g (86 + k))) (nI 0)) 93 (g 93 + nI 1)
  else upd g 94 (g 94 + nI 1)
def drG (g : Nat → Int32) (k : Nat) : Nat → Int32 := fun j => if j = 61 then nI (iN (g 61) - 1) else if 62 ≤ j ∧ j < 92 ∧ k ≤ (j - 62) % 6 ∧ (j - 62) % 6 < iN (g 61) - 1 then g (j + 1) else g j
def hlG : Nat → Nat → (Nat → Int32) → (Nat → Int32)
  | _, 0, g => g
  | k, n + 1, g => if g (68 + k) = g 0 then hlG k n (drG (effG g k) k) else hlG (k + 1) n g
/-- the hour before banquets -/
def hr1 (g : Nat → Int32) : Nat → Int32 := dmpL (iN (g (2 + iN (g 0) % 24))) 0 (iN (g 29)) g
def hr2 (g : Nat → Int32) : Nat → Int32 := brkS 0 (iN (g 29)) (hr1 g)
def hr3 (g : Nat → Int32) : Nat → Int32 := rstL 0 (iN (g 48)) (hr2 g)
def hr4 (g : Nat → Int32) : Nat → Int32 := upd (hr3 g) 0 (hr3 g 0 + nI 1)
def hrG (g : Nat → Int32) : Nat → Int32 := hlG 0 (iN (g 61)) (hr4 g)
def hrA (g : Nat → Int32) (a : Int32) : Int32 := brkA 0 (iN (g 29)) a (hr1 g)
/-! what stays -/
theorem dmpL_o {p j : Nat} : ∀ n t (g : Nat → Int32), (j < 30 + t ∨ 30 + t + n ≤ j) → dmpL p t n g j = g j := by
  intro n
  induction n with
  | zero => intro t g h; rfl
  | succ n ih => intro t g h; rw [dmpL, ih (t + 1) _ (by omega), upd_ap, if_neg (by omega)]
theorem rstL_o {j : Nat} : ∀ n t (g : Nat → Int32), (j < 53 + t ∨ 53 + t + n ≤ j) → rstL t n g j = g j := by
  intro n
  induction n with
  | zero => intro t g h; rfl
  | succ n ih => intro t g h; rw [rstL, ih (t + 1) _ (by omega), upd_ap, if_neg (by omega)]
theorem brkG_o {g : Nat → Int32} {t j : Nat} {w : Int32} (h1 : j ≠ 96) (h2 : j ≠ 36 + t) (h3 : j ≠ 42 + t) : brkG g t w j = g j := by
  unfold brkG; simp only [upd_ap]; rw [if_neg h3, if_neg h2, if_neg h1]
theorem brk1_o {g : Nat → Int32} {t j : Nat} (h1 : j ≠ 96) (h2 : j ≠ 36 + t) (h3 : j ≠ 42 + t) : brk1 g t j = g j := by
  unfold brk1; split
  · rfl
  · exact brkG_o h1 h2 h3
theorem brkS_o {j : Nat} : ∀ n t (g : Nat → Int32), j ≠ 96 → (j < 36 + t ∨ 36 + t + n ≤ j) → (j < 42 + t ∨ 42 + t + n ≤ j) → brkS t n g j = g j := by
  intro n
  induction n with
  | zero => intro t g h1 h2 h3; rfl
  | succ n ih => intro t g h1 h2 h3; rw [brkS, ih (t + 1) _ h1 (by omega) (by omega), brk1_o h1 (by omega) (by omega)]
theorem effG_o {g : Nat → Int32} {k j : Nat} (h1 : j ≠ 1) (h2 : j ≠ 98) (h3 : j ≠ 97) (h4 : j ≠ 93) (h5 : j ≠ 94) (h6 : j ≠ 36 + iN (g (86 + k))) (h7 : j ≠ 30 + iN (g (86 + k))) : effG g k j = g j := by
  unfold effG; split
  · simp only [upd_ap]; rw [if_neg h4, if_neg h7, if_neg h6, if_neg h3, if_neg h2, if_neg h1]
  · rw [upd_ap, if_neg h5]
theorem drG_o {g : Nat → Int32} {k j : Nat} (h : j < 61 ∨ 92 ≤ j) : drG g k j = g j := by
  unfold drG; rw [if_neg (by omega), if_neg (by omega)]
/-! bounds -/
theorem GB_dmpL {N p : Nat} (hp : p ≤ 99) : ∀ n t (g : Nat → Int32), GB N g → t + n ≤ 6 → GB N (dmpL p t n g) := by
  intro n
  induction n with
  | zero => intro t g h _; exact h
  | succ n ih =>
    intro t g h ht
    obtain ⟨d, h1, h2⟩ := b_dmp h (t := t) (by omega)
    rw [dmpL]
    exact ih (t + 1) _ (v_dmp h (by omega) (by rw [h1, i_clamp (by omega)]; exact dN_le h2)) (by omega)
theorem GB_brk1 {N t : Nat} {g : Nat → Int32} (h : GB N g) (ht : t < 6) : GB N (brk1 g t) := by
  unfold brk1
  split
  · exact h
  · rename_i hw
    obtain ⟨k4, k5⟩ := gC_of h ht
    rcases weak_in g t (g (30 + t)) (nI 0) with q | ⟨j, q1, q2⟩
    · exact absurd q hw
    · rw [q2]; unfold brkG
      exact v_brk (v_crs (v_brn h _) ht (by omega)) ht _
theorem GB_brkS {N : Nat} : ∀ n t (g : Nat → Int32), GB N g → t + n ≤ 6 → GB N (brkS t n g) := by
  intro n
  induction n with
  | zero => intro t g h _; exact h
  | succ n ih =>
    intro t g h ht
    rw [brkS]
    exact ih (t + 1) _ (GB_brk1 h (by omega)) (by omega)
theorem GB_rstL {N : Nat} : ∀ n t (g : Nat → Int32), GB N g → t + n ≤ 4 → GB N (rstL t n g) := by
  intro n
  induction n with
  | zero => intro t g h _; exact h
  | succ n ih =>
    intro t g h ht
    obtain ⟨d, h1, h2⟩ := b_bsy h (i := t) (by omega)
    rw [rstL]
    exact ih (t + 1) _ (v_bsy h (by omega) (by rw [h1, i_clamp (by omega)]; omega)) (by omega)
theorem GB_up {N N' : Nat} {g : Nat → Int32} (h : GB N g) (hN : N ≤ N') : GB N' g := fun k hk => by
  refine ⟨(h k hk).1, Int.le_trans (h k hk).2 ?_⟩
  unfold bh
  by_cases q0 : k = 0
  · rw [if_pos q0, if_pos q0]; omega
  · rw [if_neg q0, if_neg q0]
    by_cases q1 : k = 1
    · rw [if_pos q1, if_pos q1]; omega
    · rw [if_neg q1, if_neg q1]; exact Int.le_refl _
theorem GB_drG {N k : Nat} {g : Nat → Int32} (h : GB N g) (hk : k < iN (g 61)) : GB N (drG g k) := by
  obtain ⟨hB, hB6⟩ := n_B h
  intro j hj
  unfold drG
  by_cases q : j = 61
  · rw [if_pos q, q, p_int (by omega), bl_nB, bh_nB]; omega
  · rw [if_neg q]
    by_cases q2 : 62 ≤ j ∧ j < 92 ∧ k ≤ (j - 62) % 6 ∧ (j - 62) % 6 < iN (g 61) - 1
    · rw [if_pos q2]
      have e1 : bl j = bl (j + 1) := by
        have q3 : (j - 62) % 6 < 5 := by omega
        unfold bl
        by_cases p1 : j < 74
        · rw [if_pos (by omega), if_pos (by omega)]
        · rw [if_neg (by omega), if_neg (c := 42 ≤ j + 1 ∧ _ ∨ _) (by omega)]
          by_cases p2 : 86 ≤ j
          · rw [if_pos (by omega), if_pos (by omega)]
          · rw [if_neg (by omega), if_neg (by omega)]
      have e2 : bh N j = bh N (j + 1) := by
        have q3 : (j - 62) % 6 < 5 := by omega
        unfold bh
        rcases (by omega : j < 73 ∨ (74 ≤ j ∧ j < 79) ∨ (80 ≤ j ∧ j < 85) ∨ (86 ≤ j ∧ j < 91)) with p | p | p | p <;> repeat (first | rw [if_neg (by omega : ¬ j = _)] | rw [if_neg (by omega : ¬ j + 1 = _)] | rw [if_neg (by omega : ¬ j < _)] | rw [if_neg (by omega : ¬ j + 1 < _)] | rw [if_pos (by omega : j < _)] | rw [if_pos (by omega : j + 1 < _)])
      rw [e1, e2]; exact h (j + 1) (by omega)
    · rw [if_neg q2]; exact h j hj
section
variable {m : gMem} {N : Nat}
theorem x_dmp_L {hr p : Nat} (hs : hr < 2147483648) (hp : p ≤ 99) (u : Int32) (K : Int32 → gMem → Option (Int32 × gMem)) : ∀ (n t fuel : Nat) (g : Nat → Int32), n < fuel → t + n = iN (g 29) → GB N g → g 0 = nI hr → g (2 + hr % 24) = nI p → L_X9_goesHour_4 433 u K fuel (nI t) (mc m 434 g) = K (nI (t + n)) (mc m 434 (dmpL p t n g)) := by
  intro n
  induction n with
  | zero =>
    intro t fuel g hf ht hb h0 hpp
    obtain ⟨f, rfl⟩ : ∃ f, fuel = f + 1 := ⟨fuel - 1, by omega⟩
    obtain ⟨hW, h6⟩ := n_W hb
    rw [← ht] at hW
    have e : mc m 434 g 434 29 = nI (t + 0) := by rw [mc_s]; exact hW
    simp (disch := omega) only [neg1, li_0, li_1, li_2, li_3, li_4, li_5, li_6, li_7, li_8, li_9, li_10, li_11, li_12, li_13, li_14, li_15, li_16, li_20, li_23, li_24, li_26, li_29, li_30, li_36, li_39, li_40, li_42, li_43, li_47, li_48, li_49, li_50, li_53, li_57, li_58, li_59, li_60, li_61, li_62, li_64, li_68, li_71, li_72, li_74, li_80, li_86, li_92, li_93, li_94, li_95, li_96, li_97, li_98, li_99, li_100, li_104, li_108, li_110, li_115, li_116, li_160, li_200, li_220, li_300, li_9999, nI_add, nI_mul, p_clamp, p_le, p_lt, p_eq, p_m1lt, p_m1eq, p_m1ge, p_eqm1, i_clamp, p_leT, p_leF, p_ltT, p_ltF, p_eqT, p_eqF, or_self, or_false, false_or, or_true, true_or, not_false_eq_true, not_true_eq_false, ↓reduceIte, and_self, and_true, true_and, and_false, false_and, ↓gv_e, g1, g2, gnl, Nat.reduceAdd, Nat.add_zero, reduceCtorEq, L_X9_goesHour_4, gl434, e, dmpL]
  | succ n ih =>
    intro t fuel g hf ht hb h0 hpp
    obtain ⟨f, rfl⟩ : ∃ f, fuel = f + 1 := ⟨fuel - 1, by omega⟩
    obtain ⟨hW, h6⟩ := n_W hb
    obtain ⟨d, hd, hd2⟩ := b_dmp hb (t := t) (by omega)
    have hm : hr % 24 < 24 := Nat.mod_lt _ (by decide)
    have e : mc m 434 g 434 29 = nI (t + (n + 1)) := by rw [mc_s, ht]; exact hW
    have e0 : mc m 434 g 434 0 = nI hr := by rw [mc_s]; exact h0
    have e1 : mc m 434 g 434 (30 + t) = nI d := by rw [mc_s]; exact hd
    have e2 := x_hum (m := mc m 434 g) hs
    rw [mc_s, hpp] at e2
    have e3 := x_damp hd2 hp (mc m 434 g)
    simp (disch := omega) only [neg1, li_0, li_1, li_2, li_3, li_4, li_5, li_6, li_7, li_8, li_9, li_10, li_11, li_12, li_13, li_14, li_15, li_16, li_20, li_23, li_24, li_26, li_29, li_30, li_36, li_39, li_40, li_42, li_43, li_47, li_48, li_49, li_50, li_53, li_57, li_58, li_59, li_60, li_61, li_62, li_64, li_68, li_71, li_72, li_74, li_80, li_86, li_92, li_93, li_94, li_95, li_96, li_97, li_98, li_99, li_100, li_104, li_108, li_110, li_115, li_116, li_160, li_200, li_220, li_300, li_9999, nI_add, nI_mul, p_clamp, p_le, p_lt, p_eq, p_m1lt, p_m1eq, p_m1ge, p_eqm1, i_clamp, p_leT, p_leF, p_ltT, p_ltF, p_eqT, p_eqF, or_self, or_false, false_or, or_true, true_or, not_false_eq_true, not_true_eq_false, ↓reduceIte, and_self, and_true, true_and, and_false, false_and, ↓gv_e, g1, g2, gnl, Nat.reduceAdd, Nat.add_zero, reduceCtorEq, L_X9_goesHour_4, gl434, e, e0, e1, e2, e3, ms_mc]
    have eW : upd g (30 + t) (nI (dN d p)) 29 = g 29 := by rw [upd_ap, if_neg (by omega)]
    rw [ih (t + 1) f (upd g (30 + t) (nI (dN d p))) (by omega) (by rw [eW]; omega) (v_dmp hb (by omega) (dN_le hd2)) (by rw [upd_ap, if_neg (by omega)]; exact h0) (by rw [upd_ap, if_neg (by omega)]; exact hpp), dmpL, hd, i_clamp (by omega), show t + 1 + n = t + (n + 1) by omega]
theorem x_brk (hb : GB N (m 434)) {t : Nat} (ht : t < 6) : f_X9_breaks 433 (nI t) m = some (if weak (m 434) t (m 434 (30 + t)) (nI 0) = m1 then nI 0 else nI (gC (m 434) t) - weak (m 434) t (m 434 (30 + t)) (nI 0), mc m 434 (brk1 (m 434) t)) := by
  obtain ⟨hC, hC2⟩ := gC_of hb ht
  have e1 := x_weak hb ht (m 434 (30 + t)) (nI 0)
  unfold f_X9_breaks brk1
  rcases weak_in (m 434) t (m 434 (30 + t)) (nI 0) with q | ⟨j, q1, q2⟩
  · rw [q] at e1
    simp (disch := omega) only [neg1, li_0, li_1, li_2, li_3, li_4, li_5, li_6, li_7, li_8, li_9, li_10, li_11, li_12, li_13, li_14, li_15, li_16, li_20, li_23, li_24, li_26, li_29, li_30, li_36, li_39, li_40, li_42, li_43, li_47, li_48, li_49, li_50, li_53, li_57, li_58, li_59, li_60, li_61, li_62, li_64, li_68, li_71, li_72, li_74, li_80, li_86, li_92, li_93, li_94, li_95, li_96, li_97, li_98, li_99, li_100, li_104, li_108, li_110, li_115, li_116, li_160, li_200, li_220, li_300, li_9999, nI_add, nI_mul, p_clamp, p_le, p_lt, p_eq, p_m1lt, p_m1eq, p_m1ge, p_eqm1, i_clamp, p_leT, p_leF, p_ltT, p_ltF, p_eqT, p_eqF, or_self, or_false, false_or, or_true, true_or, not_false_eq_true, not_true_eq_false, ↓reduceIte, and_self, and_true, true_and, and_false, false_and, ↓gv_e, g1, g2, gnl, Nat.reduceAdd, Nat.add_zero, reduceCtorEq, gl434, e1, q, mc_self]
  · rw [q2] at e1
    have e2 := x_cubes (m := m) ht (show j < 10 by omega)
    have e3 := x_ab hb ht (show j < 1000 by omega)
    simp (disch := omega) only [neg1, li_0, li_1, li_2, li_3, li_4, li_5, li_6, li_7, li_8, li_9, li_10, li_11, li_12, li_13, li_14, li_15, li_16, li_20, li_23, li_24, li_26, li_29, li_30, li_36, li_39, li_40, li_42, li_43, li_47, li_48, li_49, li_50, li_53, li_57, li_58, li_59, li_60, li_61, li_62, li_64, li_68, li_71, li_72, li_74, li_80, li_86, li_92, li_93, li_94, li_95, li_96, li_97, li_98, li_99, li_100, li_104, li_108, li_110, li_115, li_116, li_160, li_200, li_220, li_300, li_9999, nI_add, nI_mul, p_clamp, p_le, p_lt, p_eq, p_m1lt, p_m1eq, p_m1ge, p_eqm1, i_clamp, p_leT, p_leF, p_ltT, p_ltF, p_eqT, p_eqF, or_self, or_false, false_or, or_true, true_or, not_false_eq_true, not_true_eq_false, ↓reduceIte, and_self, and_true, true_and, and_false, false_and, ↓gv_e, g1, g2, gnl, Nat.reduceAdd, Nat.add_zero, reduceCtorEq, gl434, e1, q2, e2, e3, hC, ms_434, mc_s, mc_mc, upd_ap]
    unfold brkG
    rw [i_clamp (by omega)]
theorem x_brk_L (K : Int32 → Int32 → gMem → Option (Int32 × gMem)) : ∀ (n t fuel : Nat) (a : Int32) (g : Nat → Int32), n < fuel → t + n = iN (g 29) → GB N g → L_X9_goesHour_54 433 K fuel a (nI t) (mc m 434 g) = K (brkA t n a g) (nI (t + n)) (mc m 434 (brkS t n g)) := by
  intro n
  induction n with
  | zero =>
    intro t fuel a g hf ht hb
    obtain ⟨f, rfl⟩ : ∃ f, fuel = f + 1 := ⟨fuel - 1, by omega⟩
    obtain ⟨hW, h6⟩ := n_W hb
    rw [← ht] at hW
    have e : mc m 434 g 434 29 = nI (t + 0) := by rw [mc_s]; exact hW
    simp (disch := omega) only [neg1, li_0, li_1, li_2, li_3, li_4, li_5, li_6, li_7, li_8, li_9, li_10, li_11, li_12, li_13, li_14, li_15, li_16, li_20, li_23, li_24, li_26, li_29, li_30, li_36, li_39, li_40, li_42, li_43, li_47, li_48, li_49, li_50, li_53, li_57, li_58, li_59, li_60, li_61, li_62, li_64, li_68, li_71, li_72, li_74, li_80, li_86, li_92, li_93, li_94, li_95, li_96, li_97, li_98, li_99, li_100, li_104, li_108, li_110, li_115, li_116, li_160, li_200, li_220, li_300, li_9999, nI_add, nI_mul, p_clamp, p_le, p_lt, p_eq, p_m1lt, p_m1eq, p_m1ge, p_eqm1, i_clamp, p_leT, p_leF, p_ltT, p_ltF, p_eqT, p_eqF, or_self, or_false, false_or, or_true, true_or, not_false_eq_true, not_true_eq_false, ↓reduceIte, and_self, and_true, true_and, and_false, false_and, ↓gv_e, g1, g2, gnl, Nat.reduceAdd, Nat.add_zero, reduceCtorEq, L_X9_goesHour_54, gl434, e, brkA, brkS]
  | succ n ih =>
    intro t fuel a g hf ht hb
    obtain ⟨f, rfl⟩ : ∃ f, fuel = f + 1 := ⟨fuel - 1, by omega⟩
    obtain ⟨hW, h6⟩ := n_W hb
    have e : mc m 434 g 434 29 = nI (t + (n + 1)) := by rw [mc_s, ht]; exact hW
    have e1 := x_brk (m := mc m 434 g) (N := N) (by rw [mc_s]; exact hb) (t := t) (by omega)
    rw [mc_s, mc_mc] at e1
    have hb1 := GB_brk1 hb (t := t) (by omega)
    have eW : brk1 g t 29 = g 29 := brk1_o (by omega) (by omega) (by omega)
    simp (disch := omega) only [neg1, li_0, li_1, li_2, li_3, li_4, li_5, li_6, li_7, li_8, li_9, li_10, li_11, li_12, li_13, li_14, li_15, li_16, li_20, li_23, li_24, li_26, li_29, li_30, li_36, li_39, li_40, li_42, li_43, li_47, li_48, li_49, li_50, li_53, li_57, li_58, li_59, li_60, li_61, li_62, li_64, li_68, li_71, li_72, li_74, li_80, li_86, li_92, li_93, li_94, li_95, li_96, li_97, li_98, li_99, li_100, li_104, li_108, li_110, li_115, li_116, li_160, li_200, li_220, li_300, li_9999, nI_add, nI_mul, p_clamp, p_le, p_lt, p_eq, p_m1lt, p_m1eq, p_m1ge, p_eqm1, i_clamp, p_leT, p_leF, p_ltT, p_ltF, p_eqT, p_eqF, or_self, or_false, false_or, or_true, true_or, not_false_eq_true, not_true_eq_false, ↓reduceIte, and_self, and_true, true_and, and_false, false_and, ↓gv_e, g1, g2, gnl, Nat.reduceAdd, Nat.add_zero, reduceCtorEq, L_X9_goesHour_54, gl434, e, e1]
    rw [ih (t + 1) f _ _ (by omega) (by rw [eW]; omega) hb1, brkA, brkS, show t + 1 + n = t + (n + 1) by omega]
    congr 2
    by_cases q : weak g t (g (30 + t)) (nI 0) = m1
    · rw [if_pos q, if_pos q, show nI 0 = 0 from rfl, Int32.add_zero]
    · rw [if_neg q, if_neg q]
theorem x_rst_L (u : Int32) (K : Int32 → gMem → Option (Int32 × gMem)) : ∀ (n t fuel : Nat) (g : Nat → Int32), n < fuel → t + n = iN (g 48) → GB N g → L_X9_goesHour_81 433 u K fuel (nI t) (mc m 434 g) = K (nI (t + n)) (mc m 434 (rstL t n g)) := by
  intro n
  induction n with
  | zero =>
    intro t fuel g hf ht hb
    obtain ⟨f, rfl⟩ : ∃ f, fuel = f + 1 := ⟨fuel - 1, by omega⟩
    obtain ⟨hW, h6⟩ := n_T hb
    rw [← ht] at hW
    have e : mc m 434 g 434 48 = nI (t + 0) := by rw [mc_s]; exact hW
    simp (disch := omega) only [neg1, li_0, li_1, li_2, li_3, li_4, li_5, li_6, li_7, li_8, li_9, li_10, li_11, li_12, li_13, li_14, li_15, li_16, li_20, li_23, li_24, li_26, li_29, li_30, li_36, li_39, li_40, li_42, li_43, li_47, li_48, li_49, li_50, li_53, li_57, li_58, li_59, li_60, li_61, li_62, li_64, li_68, li_71, li_72, li_74, li_80, li_86, li_92, li_93, li_94, li_95, li_96, li_97, li_98, li_99, li_100, li_104, li_108, li_110, li_115, li_116, li_160, li_200, li_220, li_300, li_9999, nI_add, nI_mul, p_clamp, p_le, p_lt, p_eq, p_m1lt, p_m1eq, p_m1ge, p_eqm1, i_clamp, p_leT, p_leF, p_ltT, p_ltF, p_eqT, p_eqF, or_self, or_false, false_or, or_true, true_or, not_false_eq_true, not_true_eq_false, ↓reduceIte, and_self, and_true, true_and, and_false, false_and, ↓gv_e, g1, g2, gnl, Nat.reduceAdd, Nat.add_zero, reduceCtorEq, L_X9_goesHour_81, gl434, e, rstL]
  | succ n ih =>
    intro t fuel g hf ht hb
    obtain ⟨f, rfl⟩ : ∃ f, fuel = f + 1 := ⟨fuel - 1, by omega⟩
    obtain ⟨hW, h6⟩ := n_T hb
    obtain ⟨d, hd, hd2⟩ := b_bsy hb (i := t) (by omega)
    have e : mc m 434 g 434 48 = nI (t + (n + 1)) := by rw [mc_s, ht]; exact hW
    have e1 : mc m 434 g 434 (53 + t) = nI d := by rw [mc_s]; exact hd
    have eW : ∀ v, upd g (53 + t) v 48 = g 48 := fun v => by rw [upd_ap, if_neg (by omega)]
    have hi := ih (t + 1) f (upd g (53 + t) (nI (d - 1))) (by omega) (by rw [eW]; omega) (v_bsy hb (by omega) (by omega))
    rw [rstL, hd, i_clamp (by omega), show t + (n + 1) = t + 1 + n by omega, ← hi]
    by_cases q : d ≤ 0
    · have e2 : nI d - nI 0 = nI (d - 1) := by rw [nI_sub (by omega)]; congr 1; omega
      simp (disch := omega) only [neg1, li_0, li_1, li_2, li_3, li_4, li_5, li_6, li_7, li_8, li_9, li_10, li_11, li_12, li_13, li_14, li_15, li_16, li_20, li_23, li_24, li_26, li_29, li_30, li_36, li_39, li_40, li_42, li_43, li_47, li_48, li_49, li_50, li_53, li_57, li_58, li_59, li_60, li_61, li_62, li_64, li_68, li_71, li_72, li_74, li_80, li_86, li_92, li_93, li_94, li_95, li_96, li_97, li_98, li_99, li_100, li_104, li_108, li_110, li_115, li_116, li_160, li_200, li_220, li_300, li_9999, nI_add, nI_mul, p_clamp, p_le, p_lt, p_eq, p_m1lt, p_m1eq, p_m1ge, p_eqm1, i_clamp, p_leT, p_leF, p_ltT, p_ltF, p_eqT, p_eqF, or_self, or_false, false_or, or_true, true_or, not_false_eq_true, not_true_eq_false, ↓reduceIte, and_self, and_true, true_and, and_false, false_and, ↓gv_e, g1, g2, gnl, Nat.reduceAdd, Nat.add_zero, reduceCtorEq, L_X9_goesHour_81, gl434, e, e1, e2, ms_mc]
    · have e2 : nI d - nI 1 = nI (d - 1) := nI_sub (by omega)
      simp (disch := omega) only [neg1, li_0, li_1, li_2, li_3, li_4, li_5, li_6, li_7, li_8, li_9, li_10, li_11, li_12, li_13, li_14, li_15, li_16, li_20, li_23, li_24, li_26, li_29, li_30, li_36, li_39, li_40, li_42, li_43, li_47, li_48, li_49, li_50, li_53, li_57, li_58, li_59, li_60, li_61, li_62, li_64, li_68, li_71, li_72, li_74, li_80, li_86, li_92, li_93, li_94, li_95, li_96, li_97, li_98, li_99, li_100, li_104, li_108, li_110, li_115, li_116, li_160, li_200, li_220, li_300, li_9999, nI_add, nI_mul, p_clamp, p_le, p_lt, p_eq, p_m1lt, p_m1eq, p_m1ge, p_eqm1, i_clamp, p_leT, p_leF, p_ltT, p_ltF, p_eqT, p_eqF, or_self, or_false, false_or, or_true, true_or, not_false_eq_true, not_true_eq_false, ↓reduceIte, and_self, and_true, true_and, and_false, false_and, ↓gv_e, g1, g2, gnl, Nat.reduceAdd, Nat.add_zero, reduceCtorEq, L_X9_goesHour_81, gl434, e, e1, e2, ms_mc]
/-! the model drops a banquet -/
def dr1 (g : Nat → Int32) (k p i : Nat) : Nat → Int32 := fun j => if 62 + 6 * p + k ≤ j ∧ j < 62 + 6 * p + i then g (j + 1) else g j
theorem dr1_s {g : Nat → Int32} {k p i : Nat} (hi : k ≤ i) : upd (dr1 g k p i) (62 + 6 * p + i) (g (62 + 6 * p + i + 1)) = dr1 g k p (i + 1) := by
  funext j
  rw [upd_ap]
  unfold dr1
  by_cases q : j = 62 + 6 * p + i
  · rw [if_pos q, if_pos (by omega), q]
  · rw [if_neg q]
    by_cases q2 : 62 + 6 * p + k ≤ j ∧ j < 62 + 6 * p + i
    · rw [if_pos q2, if_pos (by omega)]
    · rw [if_neg q2, if_neg (by omega)]
theorem x_dr20 {k p B : Nat} (hp : p < 5) (hB : B < 6) (K : Int32 → gMem → Option (Unit × gMem)) (g : Nat → Int32) (h61 : g 61 = nI B) : ∀ (n i fuel : Nat), n < fuel → i + n = B → k ≤ i → L_X9_drops_20 433 (nI k) (nI p) K fuel (nI i) (mc m 434 (dr1 g k p i)) = K (nI B) (mc m 434 (dr1 g k p B)) := by
  intro n
  induction n with
  | zero =>
    intro i fuel hf hi hk
    obtain ⟨f, rfl⟩ : ∃ f, fuel = f + 1 := ⟨fuel - 1, by omega⟩
    obtain rfl : i = B := by omega
    have e : mc m 434 (dr1 g k p i) 434 61 = nI i := by rw [mc_s]; unfold dr1; rw [if_neg (by omega)]; exact h61
    simp (disch := omega) only [neg1, li_0, li_1, li_2, li_3, li_4, li_5, li_6, li_7, li_8, li_9, li_10, li_11, li_12, li_13, li_14, li_15, li_16, li_20, li_23, li_24, li_26, li_29, li_30, li_36, li_39, li_40, li_42, li_43, li_47, li_48, li_49, li_50, li_53, li_57, li_58, li_59, li_60, li_61, li_62, li_64, li_68, li_71, li_72, li_74, li_80, li_86, li_92, li_93, li_94, li_95, li_96, li_97, li_98, li_99, li_100, li_104, li_108, li_110, li_115, li_116, li_160, li_200, li_220, li_300, li_9999, nI_add, nI_mul, p_clamp, p_le, p_lt, p_eq, p_m1lt, p_m1eq, p_m1ge, p_eqm1, i_clamp, p_leT, p_leF, p_ltT, p_ltF, p_eqT, p_eqF, or_self, or_false, false_or, or_true, true_or, not_false_eq_true, not_true_eq_false, ↓reduceIte, and_self, and_true, true_and, and_false, false_and, ↓gv_e, g1, g2, gnl, Nat.reduceAdd, Nat.add_zero, reduceCtorEq, L_X9_drops_20, gl434, e]
  | succ n ih =>
    intro i fuel hf hi hk
    obtain ⟨f, rfl⟩ : ∃ f, fuel = f + 1 := ⟨fuel - 1, by omega⟩
    have e : mc m 434 (dr1 g k p i) 434 61 = nI B := by rw [mc_s]; unfold dr1; rw [if_neg (by omega)]; exact h61
    have e2 : mc m 434 (dr1 g k p i) 434 (62 + 6 * p + i + 1) = g (62 + 6 * p + i + 1) := by rw [mc_s]; unfold dr1; rw [if_neg (by omega)]
    simp (disch := omega) only [neg1, li_0, li_1, li_2, li_3, li_4, li_5, li_6, li_7, li_8, li_9, li_10, li_11, li_12, li_13, li_14, li_15, li_16, li_20, li_23, li_24, li_26, li_29, li_30, li_36, li_39, li_40, li_42, li_43, li_47, li_48, li_49, li_50, li_53, li_57, li_58, li_59, li_60, li_61, li_62, li_64, li_68, li_71, li_72, li_74, li_80, li_86, li_92, li_93, li_94, li_95, li_96, li_97, li_98, li_99, li_100, li_104, li_108, li_110, li_115, li_116, li_160, li_200, li_220, li_300, li_9999, nI_add, nI_mul, p_clamp, p_le, p_lt, p_eq, p_m1lt, p_m1eq, p_m1ge, p_eqm1, i_clamp, p_leT, p_leF, p_ltT, p_ltF, p_eqT, p_eqF, or_self, or_false, false_or, or_true, true_or, not_false_eq_true, not_true_eq_false, ↓reduceIte, and_self, and_true, true_and, and_false, false_and, ↓gv_e, g1, g2, gnl, Nat.reduceAdd, Nat.add_zero, reduceCtorEq, L_X9_drops_20, gl434, e, e2, ms_mc, dr1_s hk]
    exact ih (i + 1) f (by omega) (by omega) (by omega)
def dr2 (g : Nat → Int32) (k B p : Nat) : Nat → Int32 := fun j => if 62 ≤ j ∧ j < 62 + 6 * p ∧ k ≤ (j - 62) % 6 ∧ (j - 62) % 6 < B then g (j + 1) else g j
theorem dr2_s {g : Nat → Int32} {k B p : Nat} (hB : B < 6) : dr1 (dr2 g k B p) k p B = dr2 g k B (p + 1) := by
  funext j
  unfold dr1 dr2
  by_cases q : 62 + 6 * p + k ≤ j ∧ j < 62 + 6 * p + B
  · rw [if_pos q, if_neg (by omega), if_pos (by omega)]
  · rw [if_neg q]
    by_cases q2 : 62 ≤ j ∧ j < 62 + 6 * p ∧ k ≤ (j - 62) % 6 ∧ (j - 62) % 6 < B
    · rw [if_pos q2, if_pos (by omega)]
    · rw [if_neg q2, if_neg (by omega)]
theorem x_dr13 {k B : Nat} (hk : k ≤ B) (hB : B < 6) (g : Nat → Int32) (h61 : g 61 = nI B) : ∀ (n p fuel : Nat), n < fuel → p + n = 5 → L_X9_drops_13 433 (nI k) fuel (nI p) (mc m 434 (dr2 g k B p)) = some ((), mc m 434 (dr2 g k B 5)) := by
  intro n
  induction n with
  | zero =>
    intro p fuel hf hp
    obtain ⟨f, rfl⟩ : ∃ f, fuel = f + 1 := ⟨fuel - 1, by omega⟩
    obtain rfl : p = 5 := by omega
    simp (disch := omega) only [neg1, li_0, li_1, li_2, li_3, li_4, li_5, li_6, li_7, li_8, li_9, li_10, li_11, li_12, li_13, li_14, li_15, li_16, li_20, li_23, li_24, li_26, li_29, li_30, li_36, li_39, li_40, li_42, li_43, li_47, li_48, li_49, li_50, li_53, li_57, li_58, li_59, li_60, li_61, li_62, li_64, li_68, li_71, li_72, li_74, li_80, li_86, li_92, li_93, li_94, li_95, li_96, li_97, li_98, li_99, li_100, li_104, li_108, li_110, li_115, li_116, li_160, li_200, li_220, li_300, li_9999, nI_add, nI_mul, p_clamp, p_le, p_lt, p_eq, p_m1lt, p_m1eq, p_m1ge, p_eqm1, i_clamp, p_leT, p_leF, p_ltT, p_ltF, p_eqT, p_eqF, or_self, or_false, false_or, or_true, true_or, not_false_eq_true, not_true_eq_false, ↓reduceIte, and_self, and_true, true_and, and_false, false_and, ↓gv_e, g1, g2, gnl, Nat.reduceAdd, Nat.add_zero, reduceCtorEq, L_X9_drops_13]
  | succ n ih =>
    intro p fuel hf hp
    obtain ⟨f, rfl⟩ : ∃ f, fuel = f + 1 := ⟨fuel - 1, by omega⟩
    have h0 : dr1 (dr2 g k B p) k p k = dr2 g k B p := by funext j; unfold dr1; rw [if_neg (by omega)]
    have e := x_dr20 (m := m) (k := k) (p := p) (B := B) (by omega) hB (fun y12 m13 => gv ((nI p) + (1 : Int32)) (fun x14 => L_X9_drops_13 433 (nI k) f x14 m13)) (dr2 g k B p) (by unfold dr2; rw [if_neg (by omega)]; exact h61) (B - k) k gF (by unfold gF; omega) (by omega) (Nat.le_refl k)
    rw [h0, dr2_s hB] at e
    rw [L_X9_drops_13, if_neg (by rw [li_5, p_le (by omega) (by omega)]; omega)]
    refine e.trans ?_
    unfold gv
    rw [li_1, nI_add]
    exact ih (p + 1) f (by omega) (by omega)
theorem x_drops (hb : GB N (m 434)) {k : Nat} (hk : k < iN (m 434 61)) : f_X9_drops 433 (nI k) m = some ((), mc m 434 (drG (m 434) k)) := by
  obtain ⟨hB, hB6⟩ := n_B hb
  have e1 : nI (iN (m 434 61)) - nI 1 = nI (iN (m 434 61) - 1) := nI_sub (by omega)
  have e2 := x_dr13 (m := m) (k := k) (B := iN (m 434 61) - 1) (by omega) (by omega) (upd (m 434) 61 (nI (iN (m 434 61) - 1))) (by rw [upd_ap, if_pos rfl]) 5 0 gF (by unfold gF; omega) rfl
  have h0 : dr2 (upd (m 434) 61 (nI (iN (m 434 61) - 1))) k (iN (m 434 61) - 1) 0 = upd (m 434) 61 (nI (iN (m 434 61) - 1)) := by funext j; unfold dr2; rw [if_neg (by omega)]
  rw [h0] at e2
  have h5 : dr2 (upd (m 434) 61 (nI (iN (m 434 61) - 1))) k (iN (m 434 61) - 1) 5 = drG (m 434) k := by
    funext j
    unfold dr2 drG
    by_cases q : j = 61
    · rw [if_pos q, if_neg (by omega), upd_ap, if_pos q]
    · rw [if_neg q]
      by_cases q2 : 62 ≤ j ∧ j < 92 ∧ k ≤ (j - 62) % 6 ∧ (j - 62) % 6 < iN (m 434 61) - 1
      · rw [if_pos q2, if_pos (by omega), upd_ap, if_neg (by omega)]
      · rw [if_neg q2, if_neg (by omega), upd_ap, if_neg (by omega)]
  rw [h5] at e2
  unfold f_X9_drops
  have e3 : m 434 61 - nI 1 = nI (iN (m 434 61) - 1) := by
    have : m 434 61 - nI 1 = nI (iN (m 434 61)) - nI 1 := congrArg (· - nI 1) hB
    rw [this, e1]
  simp (disch := omega) only [neg1, li_0, li_1, li_2, li_3, li_4, li_5, li_6, li_7, li_8, li_9, li_10, li_11, li_12, li_13, li_14, li_15, li_16, li_20, li_23, li_24, li_26, li_29, li_30, li_36, li_39, li_40, li_42, li_43, li_47, li_48, li_49, li_50, li_53, li_57, li_58, li_59, li_60, li_61, li_62, li_64, li_68, li_71, li_72, li_74, li_80, li_86, li_92, li_93, li_94, li_95, li_96, li_97, li_98, li_99, li_100, li_104, li_108, li_110, li_115, li_116, li_160, li_200, li_220, li_300, li_9999, nI_add, nI_mul, p_clamp, p_le, p_lt, p_eq, p_m1lt, p_m1eq, p_m1ge, p_eqm1, i_clamp, p_leT, p_leF, p_ltT, p_ltF, p_eqT, p_eqF, or_self, or_false, false_or, or_true, true_or, not_false_eq_true, not_true_eq_false, ↓reduceIte, and_self, and_true, true_and, and_false, false_and, ↓gv_e, g1, g2, gnl, Nat.reduceAdd, Nat.add_zero, reduceCtorEq, gl434, e3, ms_434]
  exact e2
end
