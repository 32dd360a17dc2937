/-! THE PURE SIDE: an order of a text, on both sides -/
def hr (s : Nat → Int32) (n p : Nat) : Int32 := if p < n then s p else m1
def isD (x : Int32) : Prop := nI 48 ≤ x ∧ x ≤ nI 57
theorem isD_n {x : Int32} (h : isD x) : ∃ d, d ≤ 9 ∧ x = nI (48 + d) := by
  obtain ⟨i, h1, h2, h3⟩ := rng_in (a := 48) (b := 57) (by decide) h (by decide)
  exact ⟨i - 48, by omega, by rw [h3]; congr 1; omega⟩
theorem isD_lt {s : Nat → Int32} {n p : Nat} (h : isD (hr s n p)) : p < n := by
  unfold hr at h
  by_cases q : p < n
  · exact q
  · rw [if_neg q] at h
    exact absurd h.1 (by decide +kernel)
theorem hr_lt {s : Nat → Int32} {n p c : Nat} (hc : c < 1000) (h : hr s n p = nI c) : p < n := by
  unfold hr at h
  by_cases q : p < n
  · exact q
  · rw [if_neg q, p_m1eq (by omega)] at h
    exact h.elim
/-- the model's memory in a text: the place, whether it is wrong, what is told -/
def tM (m : gMem) (p w : Nat) (t : Nat → Int32) : gMem := mc (mc m 433 (upd (upd (m 433) 15 (nI p)) 16 (nI w))) 439 t
/-- the class' memory in an order: the place, the letter, the parts -/
def cM (σ : gMem) (c1 p : Nat) (l : Int32) (a : Nat → Int32) : gMem := mc (mc (ms σ 388 2 (nI p)) c1 (upd (σ c1) 0 l)) (c1 + 1) a
section
variable {m : gMem} {p w k : Nat} {t : Nat → Int32} {v : Int32}
theorem tM_16 : tM m p w t 433 16 = nI w := by unfold tM; rw [mc_n (by decide), mc_s, upd_ap, if_pos rfl]
theorem tM_15 : tM m p w t 433 15 = nI p := by unfold tM; rw [mc_n (by decide), mc_s, upd_ap, if_neg (by decide), upd_ap, if_pos rfl]
theorem tM_7 : tM m p w t 433 7 = m 433 7 := by unfold tM; rw [mc_n (by decide), mc_s, upd_ap, if_neg (by decide), upd_ap, if_neg (by decide)]
theorem tM_438 : tM m p w t 438 = m 438 := by unfold tM; rw [mc_n (by decide), mc_n (by decide)]
theorem tM_439 : tM m p w t 439 = t := by unfold tM; rw [mc_s]
theorem tM_w16 {w' : Nat} : ms (tM m p w t) 433 16 (nI w') = tM m p w' t := by
  apply gMem_ext; intro c j; unfold tM
  simp only [ms_ap, mc_ap, upd_ap]
  by_cases q : c = 433
  · subst q
    by_cases q2 : j = 16
    · simp [q2, upd_ap]
    · simp [q2, upd_ap]
  · simp [q]
theorem tM_w15 {p' : Nat} : ms (tM m p w t) 433 15 (nI p') = tM m p' w t := by
  apply gMem_ext; intro c j; unfold tM
  simp only [ms_ap, mc_ap, upd_ap]
  by_cases q : c = 433
  · subst q
    by_cases q2 : j = 15
    · simp [q2, upd_ap]
    · by_cases q3 : j = 16
      · simp [q3, upd_ap]
      · simp [q2, q3, upd_ap]
  · simp [q]
theorem tM_w439 : ms (tM m p w t) 439 k v = tM m p w (upd t k v) := by
  apply gMem_ext; intro c j; unfold tM
  simp only [ms_ap, mc_ap, upd_ap]
  by_cases q : c = 439
  · subst q
    by_cases q2 : j = k
    · simp [q2, upd_ap]
    · simp [q2, upd_ap]
  · simp [q]
end
section
variable {σ : gMem} {c1 p k : Nat} {l : Int32} {a : Nat → Int32} {v : Int32}
theorem cM_2 (h : 391 ≤ c1) : cM σ c1 p l a 388 2 = nI p := by unfold cM; rw [mc_n (by omega), mc_n (by omega)]; exact ms_ss
theorem cM_1 (h : 391 ≤ c1) : cM σ c1 p l a 388 1 = σ 388 1 := by unfold cM; rw [mc_n (by omega), mc_n (by omega), ms_ap, if_neg (by decide)]
theorem cM_389 (h : 391 ≤ c1) : cM σ c1 p l a 389 = σ 389 := by unfold cM; rw [mc_n (by omega), mc_n (by omega), ms_cell (by decide)]
theorem cM_l : cM σ c1 p l a c1 0 = l := by unfold cM; rw [mc_n (by omega), mc_s, upd_ap, if_pos rfl]
theorem cM_a : cM σ c1 p l a (c1 + 1) = a := by unfold cM; rw [mc_s]
theorem cM_w2 (h : 391 ≤ c1) {p' : Nat} : ms (cM σ c1 p l a) 388 2 (nI p') = cM σ c1 p' l a := by
  apply gMem_ext; intro c j; unfold cM
  simp only [ms_ap, mc_ap, upd_ap]
  by_cases q : c = 388
  · subst q
    by_cases q2 : j = 2
    · simp [q2]; rw [if_neg (by omega), if_neg (by omega)]
      exact ms_ss.symm
    · simp [q2]; rw [if_neg (by omega), if_neg (by omega), if_neg (by omega), if_neg (by omega), ms_ap, if_neg (fun q => q2 q.2), ms_ap, if_neg (fun q => q2 q.2)]
  · simp [q]
    by_cases q2 : c = c1 + 1
    · simp [q2]
    · simp [q2]
      by_cases q3 : c = c1
      · simp [q3]
      · simp [q3]; rw [ms_cell q, ms_cell q]
theorem cM_wa : ms (cM σ c1 p l a) (c1 + 1) k v = cM σ c1 p l (upd a k v) := by
  unfold cM; rw [ms_mc]
theorem c_here {n : Nat} (hc : 391 ≤ c1) (h1 : σ 388 1 = nI n) (hn : n ≤ 60) (hp : p ≤ 60) : f_X5_signHere 388 (cM σ c1 p l a) = some (hr (σ 389) n p, cM σ c1 p l a) := by
  unfold f_X5_signHere hr
  have e : gl 389 = 60 := by decide +kernel
  by_cases q : p < n
  · simp (disch := omega) only [neg1, li_0, li_1, li_2, li_3, li_4, li_5, li_6, li_7, li_8, li_9, li_10, li_11, li_12, li_13, li_14, li_15, li_16, li_20, li_23, li_24, li_26, li_29, li_30, li_36, li_39, li_40, li_42, li_43, li_47, li_48, li_49, li_50, li_53, li_57, li_58, li_59, li_60, li_61, li_62, li_64, li_68, li_71, li_72, li_74, li_80, li_86, li_92, li_93, li_94, li_95, li_96, li_97, li_98, li_99, li_100, li_104, li_108, li_110, li_115, li_116, li_160, li_200, li_220, li_300, li_9999, nI_add, nI_mul, p_clamp, p_le, p_lt, p_eq, p_m1lt, p_m1eq, p_m1ge, p_eqm1, i_clamp, p_leT, p_leF, p_ltT, p_ltF, p_eqT, p_eqF, or_self, or_false, false_or, or_true, true_or, not_false_eq_true, not_true_eq_false, ↓reduceIte, and_self, and_true, true_and, and_false, false_and, ↓gv_e, g1, g2, gnl, Nat.reduceAdd, Nat.add_zero, reduceCtorEq, cM_2 hc, cM_1 hc, cM_389 hc, h1, e, q]
  · simp (disch := omega) only [neg1, li_0, li_1, li_2, li_3, li_4, li_5, li_6, li_7, li_8, li_9, li_10, li_11, li_12, li_13, li_14, li_15, li_16, li_20, li_23, li_24, li_26, li_29, li_30, li_36, li_39, li_40, li_42, li_43, li_47, li_48, li_49, li_50, li_53, li_57, li_58, li_59, li_60, li_61, li_62, li_64, li_68, li_71, li_72, li_74, li_80, li_86, li_92, li_93, li_94, li_95, li_96, li_97, li_98, li_99, li_100, li_104, li_108, li_110, li_115, li_116, li_160, li_200, li_220, li_300, li_9999, nI_add, nI_mul, p_clamp, p_le, p_lt, p_eq, p_m1lt, p_m1eq, p_m1ge, p_eqm1, i_clamp, p_leT, p_leF, p_ltT, p_ltF, p_eqT, p_eqF, or_self, or_false, false_or, or_true, true_or, not_false_eq_true, not_true_eq_false, ↓reduceIte, and_self, and_true, true_and, and_false, false_and, ↓gv_e, g1, g2, gnl, Nat.reduceAdd, Nat.add_zero, reduceCtorEq, cM_2 hc, cM_1 hc, cM_389 hc, h1, e, q]
theorem isD_c {x : Int32} (h : isD x) : ¬ x < nI 48 ∧ x ≤ nI 57 := ⟨Int32.not_lt.mpr h.1, h.2⟩
theorem isD_v {x : Int32} (h : isD x) : ∃ d, d ≤ 9 ∧ x - nI 48 = nI d := by
  obtain ⟨d, h1, h2⟩ := isD_n h
  exact ⟨d, h1, by rw [h2, nI_sub (by omega)]; congr 1; omega⟩
theorem c_num0 {n u : Nat} (hu : 1 ≤ u) (hu2 : u ≤ 2) (hc : 391 ≤ c1) (h1 : σ 388 1 = nI n) (hn : n ≤ 60) (hp : p ≤ 60) (hd : ¬ isD (hr (σ 389) n p)) : f_X5_parseNumber 388 (nI u) (cM σ c1 p l a) = some (m1, cM σ c1 p l a) := by
  have e := c_here (l := l) (a := a) hc h1 hn hp
  obtain ⟨F, hF⟩ : ∃ F, gF = F + 1 := ⟨3999, rfl⟩
  unfold f_X5_parseNumber
  rw [hF]; clear hF
  rw [li_0, L_X5_parseNumber_4, if_neg (by rw [p_le (by omega) (by omega)]; omega)]
  refine (g1_e e).trans ?_
  by_cases q : hr (σ 389) n p < 48
  · rw [if_pos q]; rfl
  · rw [if_neg q, if_neg (show ¬ hr (σ 389) n p ≤ (57 : Int32) from fun q2 => hd ⟨Int32.not_lt.mp q, q2⟩)]; rfl
theorem c_num1 {n : Nat} (hc : 391 ≤ c1) (h1 : σ 388 1 = nI n) (hn : n ≤ 60) (hp : p + 1 ≤ 60) (hd : isD (hr (σ 389) n p)) : f_X5_parseNumber 388 (nI 1) (cM σ c1 p l a) = some (hr (σ 389) n p - nI 48, cM σ c1 (p + 1) l a) := by
  have e := c_here (l := l) (a := a) hc h1 hn (show p ≤ 60 by omega)
  obtain ⟨q1, q2⟩ := isD_c hd
  obtain ⟨F, hF⟩ : ∃ F, gF = F + 1 + 1 := ⟨3998, rfl⟩
  unfold f_X5_parseNumber
  rw [hF]; clear hF
  rw [L_X5_parseNumber_4]
  simp (disch := omega) only [neg1, li_0, li_1, li_2, li_3, li_4, li_5, li_6, li_7, li_8, li_9, li_10, li_11, li_12, li_13, li_14, li_15, li_16, li_20, li_23, li_24, li_26, li_29, li_30, li_36, li_39, li_40, li_42, li_43, li_47, li_48, li_49, li_50, li_53, li_57, li_58, li_59, li_60, li_61, li_62, li_64, li_68, li_71, li_72, li_74, li_80, li_86, li_92, li_93, li_94, li_95, li_96, li_97, li_98, li_99, li_100, li_104, li_108, li_110, li_115, li_116, li_160, li_200, li_220, li_300, li_9999, nI_add, nI_mul, p_clamp, p_le, p_lt, p_eq, p_m1lt, p_m1eq, p_m1ge, p_eqm1, i_clamp, p_leT, p_leF, p_ltT, p_ltF, p_eqT, p_eqF, or_self, or_false, false_or, or_true, true_or, not_false_eq_true, not_true_eq_false, ↓reduceIte, and_self, and_true, true_and, and_false, false_and, ↓gv_e, g1, g2, gnl, Nat.reduceAdd, Nat.add_zero, reduceCtorEq, e, q1, q2, cM_2 hc, cM_w2 hc, cM_wa, cM_l]
  rw [L_X5_parseNumber_4]
  simp (disch := omega) only [neg1, li_0, li_1, li_2, li_3, li_4, li_5, li_6, li_7, li_8, li_9, li_10, li_11, li_12, li_13, li_14, li_15, li_16, li_20, li_23, li_24, li_26, li_29, li_30, li_36, li_39, li_40, li_42, li_43, li_47, li_48, li_49, li_50, li_53, li_57, li_58, li_59, li_60, li_61, li_62, li_64, li_68, li_71, li_72, li_74, li_80, li_86, li_92, li_93, li_94, li_95, li_96, li_97, li_98, li_99, li_100, li_104, li_108, li_110, li_115, li_116, li_160, li_200, li_220, li_300, li_9999, nI_add, nI_mul, p_clamp, p_le, p_lt, p_eq, p_m1lt, p_m1eq, p_m1ge, p_eqm1, i_clamp, p_leT, p_leF, p_ltT, p_ltF, p_eqT, p_eqF, or_self, or_false, false_or, or_true, true_or, not_false_eq_true, not_true_eq_false, ↓reduceIte, and_self, and_true, true_and, and_false, false_and, ↓gv_e, g1, g2, gnl, Nat.reduceAdd, Nat.add_zero, reduceCtorEq]
  rw [show nI 0 = 0 from rfl, Int32.zero_add]
theorem c_numA {n : Nat} (hc : 391 ≤ c1) (h1 : σ 388 1 = nI n) (hn : n ≤ 60) (hp : p + 1 ≤ 60) (hd : isD (hr (σ 389) n p)) (hd2 : ¬ isD (hr (σ 389) n (p + 1))) : f_X5_parseNumber 388 (nI 2) (cM σ c1 p l a) = some (hr (σ 389) n p - nI 48, cM σ c1 (p + 1) l a) := by
  have e := c_here (l := l) (a := a) hc h1 hn (show p ≤ 60 by omega)
  have e2 := c_here (l := l) (a := a) hc h1 hn hp
  obtain ⟨q1, q2⟩ := isD_c hd
  obtain ⟨F, hF⟩ : ∃ F, gF = F + 1 + 1 := ⟨3998, rfl⟩
  unfold f_X5_parseNumber
  rw [hF]; clear hF
  rw [L_X5_parseNumber_4]
  simp (disch := omega) only [neg1, li_0, li_1, li_2, li_3, li_4, li_5, li_6, li_7, li_8, li_9, li_10, li_11, li_12, li_13, li_14, li_15, li_16, li_20, li_23, li_24, li_26, li_29, li_30, li_36, li_39, li_40, li_42, li_43, li_47, li_48, li_49, li_50, li_53, li_57, li_58, li_59, li_60, li_61, li_62, li_64, li_68, li_71, li_72, li_74, li_80, li_86, li_92, li_93, li_94, li_95, li_96, li_97, li_98, li_99, li_100, li_104, li_108, li_110, li_115, li_116, li_160, li_200, li_220, li_300, li_9999, nI_add, nI_mul, p_clamp, p_le, p_lt, p_eq, p_m1lt, p_m1eq, p_m1ge, p_eqm1, i_clamp, p_leT, p_leF, p_ltT, p_ltF, p_eqT, p_eqF, or_self, or_false, false_or, or_true, true_or, not_false_eq_true, not_true_eq_false, ↓reduceIte, and_self, and_true, true_and, and_false, false_and, ↓gv_e, g1, g2, gnl, Nat.reduceAdd, Nat.add_zero, reduceCtorEq, e, q1, q2, cM_2 hc, cM_w2 hc, cM_wa, cM_l]
  rw [L_X5_parseNumber_4]
  by_cases q : hr (σ 389) n (p + 1) < nI 48
  · simp (disch := omega) only [neg1, li_0, li_1, li_2, li_3, li_4, li_5, li_6, li_7, li_8, li_9, li_10, li_11, li_12, li_13, li_14, li_15, li_16, li_20, li_23, li_24, li_26, li_29, li_30, li_36, li_39, li_40, li_42, li_43, li_47, li_48, li_49, li_50, li_53, li_57, li_58, li_59, li_60, li_61, li_62, li_64, li_68, li_71, li_72, li_74, li_80, li_86, li_92, li_93, li_94, li_95, li_96, li_97, li_98, li_99, li_100, li_104, li_108, li_110, li_115, li_116, li_160, li_200, li_220, li_300, li_9999, nI_add, nI_mul, p_clamp, p_le, p_lt, p_eq, p_m1lt, p_m1eq, p_m1ge, p_eqm1, i_clamp, p_leT, p_leF, p_ltT, p_ltF, p_eqT, p_eqF, or_self, or_false, false_or, or_true, true_or, not_false_eq_true, not_true_eq_false, ↓reduceIte, and_self, and_true, true_and, and_false, false_and, ↓gv_e, g1, g2, gnl, Nat.reduceAdd, Nat.add_zero, reduceCtorEq, e2, q]
    rw [show nI 0 = 0 from rfl, Int32.zero_add]
  · have q3 : ¬ hr (σ 389) n (p + 1) ≤ nI 57 := fun q3 => hd2 ⟨Int32.not_lt.mp q, q3⟩
    simp (disch := omega) only [neg1, li_0, li_1, li_2, li_3, li_4, li_5, li_6, li_7, li_8, li_9, li_10, li_11, li_12, li_13, li_14, li_15, li_16, li_20, li_23, li_24, li_26, li_29, li_30, li_36, li_39, li_40, li_42, li_43, li_47, li_48, li_49, li_50, li_53, li_57, li_58, li_59, li_60, li_61, li_62, li_64, li_68, li_71, li_72, li_74, li_80, li_86, li_92, li_93, li_94, li_95, li_96, li_97, li_98, li_99, li_100, li_104, li_108, li_110, li_115, li_116, li_160, li_200, li_220, li_300, li_9999, nI_add, nI_mul, p_clamp, p_le, p_lt, p_eq, p_m1lt, p_m1eq, p_m1ge, p_eqm1, i_clamp, p_leT, p_leF, p_ltT, p_ltF, p_eqT, p_eqF, or_self, or_false, false_or, or_true, true_or, not_false_eq_true, not_true_eq_false, ↓reduceIte, and_self, and_true, true_and, and_false, false_and, ↓gv_e, g1, g2, gnl, Nat.reduceAdd, Nat.add_zero, reduceCtorEq, e2, q, q3]
    rw [show nI 0 = 0 from rfl, Int32.zero_add]
theorem c_numB {n : Nat} (hc : 391 ≤ c1) (h1 : σ 388 1 = nI n) (hn : n ≤ 60) (hp : p + 2 ≤ 60) (hd : isD (hr (σ 389) n p)) (hd2 : isD (hr (σ 389) n (p + 1))) : f_X5_parseNumber 388 (nI 2) (cM σ c1 p l a) = some (nI 10 * (hr (σ 389) n p - nI 48) + (hr (σ 389) n (p + 1) - nI 48), cM σ c1 (p + 2) l a) := by
  have e := c_here (l := l) (a := a) hc h1 hn (show p ≤ 60 by omega)
  have e2 := c_here (l := l) (a := a) hc h1 hn (show p + 1 ≤ 60 by omega)
  obtain ⟨q1, q2⟩ := isD_c hd
  obtain ⟨q3, q4⟩ := isD_c hd2
  obtain ⟨d, hd1, hd3⟩ := isD_v hd
  have hd4 : nI 0 + hr (σ 389) n p - nI 48 = nI d := by rw [show nI 0 = 0 from rfl, Int32.zero_add]; exact hd3
  have hd5 : nI (d * 10) + hr (σ 389) n (p + 1) - nI 48 = nI (10 * d) + (hr (σ 389) n (p + 1) - nI 48) := by
    rw [Int32.sub_eq_add_neg, Int32.sub_eq_add_neg, Int32.add_assoc, Nat.mul_comm]
  obtain ⟨F, hF⟩ : ∃ F, gF = F + 1 + 1 + 1 := ⟨3997, rfl⟩
  unfold f_X5_parseNumber
  rw [hF]; clear hF
  rw [L_X5_parseNumber_4]
  simp (disch := omega) only [neg1, li_0, li_1, li_2, li_3, li_4, li_5, li_6, li_7, li_8, li_9, li_10, li_11, li_12, li_13, li_14, li_15, li_16, li_20, li_23, li_24, li_26, li_29, li_30, li_36, li_39, li_40, li_42, li_43, li_47, li_48, li_49, li_50, li_53, li_57, li_58, li_59, li_60, li_61, li_62, li_64, li_68, li_71, li_72, li_74, li_80, li_86, li_92, li_93, li_94, li_95, li_96, li_97, li_98, li_99, li_100, li_104, li_108, li_110, li_115, li_116, li_160, li_200, li_220, li_300, li_9999, nI_add, nI_mul, p_clamp, p_le, p_lt, p_eq, p_m1lt, p_m1eq, p_m1ge, p_eqm1, i_clamp, p_leT, p_leF, p_ltT, p_ltF, p_eqT, p_eqF, or_self, or_false, false_or, or_true, true_or, not_false_eq_true, not_true_eq_false, ↓reduceIte, and_self, and_true, true_and, and_false, false_and, ↓gv_e, g1, g2, gnl, Nat.reduceAdd, Nat.add_zero, reduceCtorEq, e, q1, q2, cM_2 hc, cM_w2 hc, cM_wa, cM_l, hd4]
  rw [L_X5_parseNumber_4]
  simp (disch := omega) only [neg1, li_0, li_1, li_2, li_3, li_4, li_5, li_6, li_7, li_8, li_9, li_10, li_11, li_12, li_13, li_14, li_15, li_16, li_20, li_23, li_24, li_26, li_29, li_30, li_36, li_39, li_40, li_42, li_43, li_47, li_48, li_49, li_50, li_53, li_57, li_58, li_59, li_60, li_61, li_62, li_64, li_68, li_71, li_72, li_74, li_80, li_86, li_92, li_93, li_94, li_95, li_96, li_97, li_98, li_99, li_100, li_104, li_108, li_110, li_115, li_116, li_160, li_200, li_220, li_300, li_9999, nI_add, nI_mul, p_clamp, p_le, p_lt, p_eq, p_m1lt, p_m1eq, p_m1ge, p_eqm1, i_clamp, p_leT, p_leF, p_ltT, p_ltF, p_eqT, p_eqF, or_self, or_false, false_or, or_true, true_or, not_false_eq_true, not_true_eq_false, ↓reduceIte, and_self, and_true, true_and, and_false, false_and, ↓gv_e, g1, g2, gnl, Nat.reduceAdd, Nat.add_zero, reduceCtorEq, e2, q3, q4, cM_2 hc, cM_w2 hc, cM_wa, cM_l, hd5]
  rw [L_X5_parseNumber_4]
  simp (disch := omega) only [neg1, li_0, li_1, li_2, li_3, li_4, li_5, li_6, li_7, li_8, li_9, li_10, li_11, li_12, li_13, li_14, li_15, li_16, li_20, li_23, li_24, li_26, li_29, li_30, li_36, li_39, li_40, li_42, li_43, li_47, li_48, li_49, li_50, li_53, li_57, li_58, li_59, li_60, li_61, li_62, li_64, li_68, li_71, li_72, li_74, li_80, li_86, li_92, li_93, li_94, li_95, li_96, li_97, li_98, li_99, li_100, li_104, li_108, li_110, li_115, li_116, li_160, li_200, li_220, li_300, li_9999, nI_add, nI_mul, p_clamp, p_le, p_lt, p_eq, p_m1lt, p_m1eq, p_m1ge, p_eqm1, i_clamp, p_leT, p_leF, p_ltT, p_ltF, p_eqT, p_eqF, or_self, or_false, false_or, or_true, true_or, not_false_eq_true, not_true_eq_false, ↓reduceIte, and_self, and_true, true_and, and_false, false_and, ↓gv_e, g1, g2, gnl, Nat.reduceAdd, Nat.add_zero, reduceCtorEq, hd3]
end

