/-! THE PURE SIDE: one order, read by both sides -/
section
variable {σ : gMem} {c1 p : Nat} {l v : Int32} {a : Nat → Int32}
def fLen (u : Nat) : Nat := if u = 0 then 3 else if u = 1 then 7 else if u = 2 then 1 else if u = 3 then 3 else 1
theorem j_len {u : Nat} (hu : u < 5) (s : gMem) : f_J0_length_8abf5 u s = some (nI (fLen u), s) := by
  rcases (by omega : u = 0 ∨ u = 1 ∨ u = 2 ∨ u = 3 ∨ u = 4) with rfl | rfl | rfl | rfl | rfl <;> rfl
theorem j_ch_0_0 (s : gMem) : f_J0_charAt_5068e 0 (nI 0) s = some (nI 100, s) := by unfold f_J0_charAt_5068e; rw [if_pos (by decide +kernel)]; rfl
theorem j_ch_0_1 (s : gMem) : f_J0_charAt_5068e 0 (nI 1) s = some (nI 43, s) := by unfold f_J0_charAt_5068e; rw [if_pos (by decide +kernel)]; rfl
theorem j_ch_0_2 (s : gMem) : f_J0_charAt_5068e 0 (nI 2) s = some (nI 110, s) := by unfold f_J0_charAt_5068e; rw [if_pos (by decide +kernel)]; rfl
theorem j_ch_1_0 (s : gMem) : f_J0_charAt_5068e 1 (nI 0) s = some (nI 100, s) := by unfold f_J0_charAt_5068e; rw [if_pos (by decide +kernel)]; rfl
theorem j_ch_1_1 (s : gMem) : f_J0_charAt_5068e 1 (nI 1) s = some (nI 47, s) := by unfold f_J0_charAt_5068e; rw [if_pos (by decide +kernel)]; rfl
theorem j_ch_1_2 (s : gMem) : f_J0_charAt_5068e 1 (nI 2) s = some (nI 100, s) := by unfold f_J0_charAt_5068e; rw [if_pos (by decide +kernel)]; rfl
theorem j_ch_1_3 (s : gMem) : f_J0_charAt_5068e 1 (nI 3) s = some (nI 58, s) := by unfold f_J0_charAt_5068e; rw [if_pos (by decide +kernel)]; rfl
theorem j_ch_1_4 (s : gMem) : f_J0_charAt_5068e 1 (nI 4) s = some (nI 100, s) := by unfold f_J0_charAt_5068e; rw [if_pos (by decide +kernel)]; rfl
theorem j_ch_1_5 (s : gMem) : f_J0_charAt_5068e 1 (nI 5) s = some (nI 42, s) := by unfold f_J0_charAt_5068e; rw [if_pos (by decide +kernel)]; rfl
theorem j_ch_1_6 (s : gMem) : f_J0_charAt_5068e 1 (nI 6) s = some (nI 110, s) := by unfold f_J0_charAt_5068e; rw [if_pos (by decide +kernel)]; rfl
theorem j_ch_2_0 (s : gMem) : f_J0_charAt_5068e 2 (nI 0) s = some (nI 100, s) := by unfold f_J0_charAt_5068e; rw [if_pos (by decide +kernel)]; rfl
theorem j_ch_3_0 (s : gMem) : f_J0_charAt_5068e 3 (nI 0) s = some (nI 110, s) := by unfold f_J0_charAt_5068e; rw [if_pos (by decide +kernel)]; rfl
theorem j_ch_3_1 (s : gMem) : f_J0_charAt_5068e 3 (nI 1) s = some (nI 64, s) := by unfold f_J0_charAt_5068e; rw [if_pos (by decide +kernel)]; rfl
theorem j_ch_3_2 (s : gMem) : f_J0_charAt_5068e 3 (nI 2) s = some (nI 100, s) := by unfold f_J0_charAt_5068e; rw [if_pos (by decide +kernel)]; rfl
theorem j_ch_4_0 (s : gMem) : f_J0_charAt_5068e 4 (nI 0) s = some (nI 110, s) := by unfold f_J0_charAt_5068e; rw [if_pos (by decide +kernel)]; rfl
theorem o_E {u f i pt : Nat} (hu : u < 5) (hi : i = fLen u) : L_X5_parseOrder_40 388 c1 u (f + 1) (nI pt) (nI i) (cM σ c1 p l a) = some (nI 1, cM σ c1 p l a) := by
  rw [L_X5_parseOrder_40]
  refine (g1_e (j_len hu _)).trans ?_
  rw [hi, if_pos (Int32.le_refl _)]; rfl
theorem fLen_le (u : Nat) : fLen u ≤ 7 := by unfold fLen; repeat' split <;> try omega
theorem o_D1 {u f i pt n : Nat} (hu : u < 5) (hi : i < fLen u) (hpt : pt < 4) (hch : ∀ s, f_J0_charAt_5068e u (nI i) s = some (nI 100, s)) (hc : 391 ≤ c1) (hg : gl (c1 + 1) = 4) (h1 : σ 388 1 = nI n) (hn : n ≤ 60) (hp : p + 1 ≤ 60) (hd : isD (hr (σ 389) n p)) : L_X5_parseOrder_40 388 c1 u (f + 1) (nI pt) (nI i) (cM σ c1 p l a) = L_X5_parseOrder_40 388 c1 u f (nI (pt + 1)) (nI (i + 1)) (cM σ c1 (p + 1) l (upd a pt (hr (σ 389) n p - nI 48))) := by
  have e := c_num1 (l := l) (a := a) hc h1 hn hp hd
  have h7 := fLen_le u
  obtain ⟨d, hd1, hd2⟩ := isD_v hd
  rw [hd2] at e ⊢
  have e1 := j_len hu (cM σ c1 p l a)
  rw [L_X5_parseOrder_40]
  simp (disch := omega) only [neg1, li_0, li_1, li_2, li_3, li_4, li_5, li_6, li_7, li_8, li_9, li_10, li_11, li_12, li_13, li_14, li_15, li_16, li_20, li_23, li_24, li_26, li_29, li_30, li_36, li_39, li_40, li_42, li_43, li_47, li_48, li_49, li_50, li_53, li_57, li_58, li_59, li_60, li_61, li_62, li_64, li_68, li_71, li_72, li_74, li_80, li_86, li_92, li_93, li_94, li_95, li_96, li_97, li_98, li_99, li_100, li_104, li_108, li_110, li_115, li_116, li_160, li_200, li_220, li_300, li_9999, nI_add, nI_mul, p_clamp, p_le, p_lt, p_eq, p_m1lt, p_m1eq, p_m1ge, p_eqm1, i_clamp, p_leT, p_leF, p_ltT, p_ltF, p_eqT, p_eqF, or_self, or_false, false_or, or_true, true_or, not_false_eq_true, not_true_eq_false, ↓reduceIte, and_self, and_true, true_and, and_false, false_and, ↓gv_e, g1, g2, gnl, Nat.reduceAdd, Nat.add_zero, reduceCtorEq, e1, hch, e, hg, cM_wa]
theorem o_D0 {u f i pt n : Nat} (hu : u < 5) (hi : i < fLen u) (hpt : pt < 4) (hch : ∀ s, f_J0_charAt_5068e u (nI i) s = some (nI 100, s)) (hc : 391 ≤ c1) (h1 : σ 388 1 = nI n) (hn : n ≤ 60) (hp : p ≤ 60) (hd : ¬ isD (hr (σ 389) n p)) : L_X5_parseOrder_40 388 c1 u (f + 1) (nI pt) (nI i) (cM σ c1 p l a) = some (nI 0, cM σ c1 p l a) := by
  have e := c_num0 (l := l) (a := a) (u := 1) (by omega) (by omega) hc h1 hn hp hd
  have h7 := fLen_le u
  have e1 := j_len hu (cM σ c1 p l a)
  rw [L_X5_parseOrder_40]
  simp (disch := omega) only [neg1, li_0, li_1, li_2, li_3, li_4, li_5, li_6, li_7, li_8, li_9, li_10, li_11, li_12, li_13, li_14, li_15, li_16, li_20, li_23, li_24, li_26, li_29, li_30, li_36, li_39, li_40, li_42, li_43, li_47, li_48, li_49, li_50, li_53, li_57, li_58, li_59, li_60, li_61, li_62, li_64, li_68, li_71, li_72, li_74, li_80, li_86, li_92, li_93, li_94, li_95, li_96, li_97, li_98, li_99, li_100, li_104, li_108, li_110, li_115, li_116, li_160, li_200, li_220, li_300, li_9999, nI_add, nI_mul, p_clamp, p_le, p_lt, p_eq, p_m1lt, p_m1eq, p_m1ge, p_eqm1, i_clamp, p_leT, p_leF, p_ltT, p_ltF, p_eqT, p_eqF, or_self, or_false, false_or, or_true, true_or, not_false_eq_true, not_true_eq_false, ↓reduceIte, and_self, and_true, true_and, and_false, false_and, ↓gv_e, g1, g2, gnl, Nat.reduceAdd, Nat.add_zero, reduceCtorEq, e1, hch, e]
theorem o_N0 {u f i pt n : Nat} (hu : u < 5) (hi : i < fLen u) (hpt : pt < 4) (hch : ∀ s, f_J0_charAt_5068e u (nI i) s = some (nI 110, s)) (hc : 391 ≤ c1) (h1 : σ 388 1 = nI n) (hn : n ≤ 60) (hp : p ≤ 60) (hd : ¬ isD (hr (σ 389) n p)) : L_X5_parseOrder_40 388 c1 u (f + 1) (nI pt) (nI i) (cM σ c1 p l a) = some (nI 0, cM σ c1 p l a) := by
  have e := c_num0 (l := l) (a := a) (u := 2) (by omega) (by omega) hc h1 hn hp hd
  have h7 := fLen_le u
  have e1 := j_len hu (cM σ c1 p l a)
  rw [L_X5_parseOrder_40]
  simp (disch := omega) only [neg1, li_0, li_1, li_2, li_3, li_4, li_5, li_6, li_7, li_8, li_9, li_10, li_11, li_12, li_13, li_14, li_15, li_16, li_20, li_23, li_24, li_26, li_29, li_30, li_36, li_39, li_40, li_42, li_43, li_47, li_48, li_49, li_50, li_53, li_57, li_58, li_59, li_60, li_61, li_62, li_64, li_68, li_71, li_72, li_74, li_80, li_86, li_92, li_93, li_94, li_95, li_96, li_97, li_98, li_99, li_100, li_104, li_108, li_110, li_115, li_116, li_160, li_200, li_220, li_300, li_9999, nI_add, nI_mul, p_clamp, p_le, p_lt, p_eq, p_m1lt, p_m1eq, p_m1ge, p_eqm1, i_clamp, p_leT, p_leF, p_ltT, p_ltF, p_eqT, p_eqF, or_self, or_false, false_or, or_true, true_or, not_false_eq_true, not_true_eq_false, ↓reduceIte, and_self, and_true, true_and, and_false, false_and, ↓gv_e, g1, g2, gnl, Nat.reduceAdd, Nat.add_zero, reduceCtorEq, e1, hch, e]
theorem o_N1 {u f i pt n : Nat} (hu : u < 5) (hi : i < fLen u) (hpt : pt < 4) (hch : ∀ s, f_J0_charAt_5068e u (nI i) s = some (nI 110, s)) (hc : 391 ≤ c1) (hg : gl (c1 + 1) = 4) (h1 : σ 388 1 = nI n) (hn : n ≤ 60) (hp : p + 1 ≤ 60) (hd : isD (hr (σ 389) n p)) (hd2 : ¬ isD (hr (σ 389) n (p + 1))) : L_X5_parseOrder_40 388 c1 u (f + 1) (nI pt) (nI i) (cM σ c1 p l a) = L_X5_parseOrder_40 388 c1 u f (nI (pt + 1)) (nI (i + 1)) (cM σ c1 (p + 1) l (upd a pt (hr (σ 389) n p - nI 48))) := by
  have e := c_numA (l := l) (a := a) hc h1 hn hp hd hd2
  have h7 := fLen_le u
  obtain ⟨d, hd1, hd2⟩ := isD_v hd
  rw [hd2] at e ⊢
  have e1 := j_len hu (cM σ c1 p l a)
  rw [L_X5_parseOrder_40]
  simp (disch := omega) only [neg1, li_0, li_1, li_2, li_3, li_4, li_5, li_6, li_7, li_8, li_9, li_10, li_11, li_12, li_13, li_14, li_15, li_16, li_20, li_23, li_24, li_26, li_29, li_30, li_36, li_39, li_40, li_42, li_43, li_47, li_48, li_49, li_50, li_53, li_57, li_58, li_59, li_60, li_61, li_62, li_64, li_68, li_71, li_72, li_74, li_80, li_86, li_92, li_93, li_94, li_95, li_96, li_97, li_98, li_99, li_100, li_104, li_108, li_110, li_115, li_116, li_160, li_200, li_220, li_300, li_9999, nI_add, nI_mul, p_clamp, p_le, p_lt, p_eq, p_m1lt, p_m1eq, p_m1ge, p_eqm1, i_clamp, p_leT, p_leF, p_ltT, p_ltF, p_eqT, p_eqF, or_self, or_false, false_or, or_true, true_or, not_false_eq_true, not_true_eq_false, ↓reduceIte, and_self, and_true, true_and, and_false, false_and, ↓gv_e, g1, g2, gnl, Nat.reduceAdd, Nat.add_zero, reduceCtorEq, e1, hch, e, hg, cM_wa]
theorem o_N2 {u f i pt n : Nat} (hu : u < 5) (hi : i < fLen u) (hpt : pt < 4) (hch : ∀ s, f_J0_charAt_5068e u (nI i) s = some (nI 110, s)) (hc : 391 ≤ c1) (hg : gl (c1 + 1) = 4) (h1 : σ 388 1 = nI n) (hn : n ≤ 60) (hp : p + 2 ≤ 60) (hd : isD (hr (σ 389) n p)) (hd2 : isD (hr (σ 389) n (p + 1))) : L_X5_parseOrder_40 388 c1 u (f + 1) (nI pt) (nI i) (cM σ c1 p l a) = L_X5_parseOrder_40 388 c1 u f (nI (pt + 1)) (nI (i + 1)) (cM σ c1 (p + 2) l (upd a pt (nI 10 * (hr (σ 389) n p - nI 48) + (hr (σ 389) n (p + 1) - nI 48)))) := by
  have e := c_numB (l := l) (a := a) hc h1 hn hp hd hd2
  have h7 := fLen_le u
  obtain ⟨d, hd1, hd3⟩ := isD_v hd
  obtain ⟨d2, hd4, hd5⟩ := isD_v hd2
  rw [hd3, hd5, nI_mul, nI_add] at e ⊢
  have e1 := j_len hu (cM σ c1 p l a)
  rw [L_X5_parseOrder_40]
  simp (disch := omega) only [neg1, li_0, li_1, li_2, li_3, li_4, li_5, li_6, li_7, li_8, li_9, li_10, li_11, li_12, li_13, li_14, li_15, li_16, li_20, li_23, li_24, li_26, li_29, li_30, li_36, li_39, li_40, li_42, li_43, li_47, li_48, li_49, li_50, li_53, li_57, li_58, li_59, li_60, li_61, li_62, li_64, li_68, li_71, li_72, li_74, li_80, li_86, li_92, li_93, li_94, li_95, li_96, li_97, li_98, li_99, li_100, li_104, li_108, li_110, li_115, li_116, li_160, li_200, li_220, li_300, li_9999, nI_add, nI_mul, p_clamp, p_le, p_lt, p_eq, p_m1lt, p_m1eq, p_m1ge, p_eqm1, i_clamp, p_leT, p_leF, p_ltT, p_ltF, p_eqT, p_eqF, or_self, or_false, false_or, or_true, true_or, not_false_eq_true, not_true_eq_false, ↓reduceIte, and_self, and_true, true_and, and_false, false_and, ↓gv_e, g1, g2, gnl, Nat.reduceAdd, Nat.add_zero, reduceCtorEq, e1, hch, e, hg, cM_wa]
theorem o_C1 {u f i pt n c : Nat} (hu : u < 5) (hi : i < fLen u) (hcc : c < 100) (hch : ∀ s, f_J0_charAt_5068e u (nI i) s = some (nI c, s)) (hc : 391 ≤ c1) (h1 : σ 388 1 = nI n) (hn : n ≤ 60) (hp : p + 1 ≤ 60) (hd : hr (σ 389) n p = nI c) : L_X5_parseOrder_40 388 c1 u (f + 1) (nI pt) (nI i) (cM σ c1 p l a) = L_X5_parseOrder_40 388 c1 u f (nI pt) (nI (i + 1)) (cM σ c1 (p + 1) l a) := by
  have e := c_here (l := l) (a := a) hc h1 hn (show p ≤ 60 by omega)
  have h7 := fLen_le u
  rw [hd] at e
  have e1 := j_len hu (cM σ c1 p l a)
  rw [L_X5_parseOrder_40]
  simp (disch := omega) only [neg1, li_0, li_1, li_2, li_3, li_4, li_5, li_6, li_7, li_8, li_9, li_10, li_11, li_12, li_13, li_14, li_15, li_16, li_20, li_23, li_24, li_26, li_29, li_30, li_36, li_39, li_40, li_42, li_43, li_47, li_48, li_49, li_50, li_53, li_57, li_58, li_59, li_60, li_61, li_62, li_64, li_68, li_71, li_72, li_74, li_80, li_86, li_92, li_93, li_94, li_95, li_96, li_97, li_98, li_99, li_100, li_104, li_108, li_110, li_115, li_116, li_160, li_200, li_220, li_300, li_9999, nI_add, nI_mul, p_clamp, p_le, p_lt, p_eq, p_m1lt, p_m1eq, p_m1ge, p_eqm1, i_clamp, p_leT, p_leF, p_ltT, p_ltF, p_eqT, p_eqF, or_self, or_false, false_or, or_true, true_or, not_false_eq_true, not_true_eq_false, ↓reduceIte, and_self, and_true, true_and, and_false, false_and, ↓gv_e, g1, g2, gnl, Nat.reduceAdd, Nat.add_zero, reduceCtorEq, e1, hch, e, cM_2 hc, cM_w2 hc, cM_wa, cM_l]
theorem o_C0 {u f i pt n c : Nat} (hu : u < 5) (hi : i < fLen u) (hcc : c < 100) (hch : ∀ s, f_J0_charAt_5068e u (nI i) s = some (nI c, s)) (hc : 391 ≤ c1) (h1 : σ 388 1 = nI n) (hn : n ≤ 60) (hp : p ≤ 60) (hd : ¬ hr (σ 389) n p = nI c) : L_X5_parseOrder_40 388 c1 u (f + 1) (nI pt) (nI i) (cM σ c1 p l a) = some (nI 0, cM σ c1 p l a) := by
  have e := c_here (l := l) (a := a) hc h1 hn hp
  have h7 := fLen_le u
  have e1 := j_len hu (cM σ c1 p l a)
  rw [L_X5_parseOrder_40]
  simp (disch := omega) only [neg1, li_0, li_1, li_2, li_3, li_4, li_5, li_6, li_7, li_8, li_9, li_10, li_11, li_12, li_13, li_14, li_15, li_16, li_20, li_23, li_24, li_26, li_29, li_30, li_36, li_39, li_40, li_42, li_43, li_47, li_48, li_49, li_50, li_53, li_57, li_58, li_59, li_60, li_61, li_62, li_64, li_68, li_71, li_72, li_74, li_80, li_86, li_92, li_93, li_94, li_95, li_96, li_97, li_98, li_99, li_100, li_104, li_108, li_110, li_115, li_116, li_160, li_200, li_220, li_300, li_9999, nI_add, nI_mul, p_clamp, p_le, p_lt, p_eq, p_m1lt, p_m1eq, p_m1ge, p_eqm1, i_clamp, p_leT, p_leF, p_ltT, p_ltF, p_eqT, p_eqF, or_self, or_false, false_or, or_true, true_or, not_false_eq_true, not_true_eq_false, ↓reduceIte, and_self, and_true, true_and, and_false, false_and, ↓gv_e, g1, g2, gnl, Nat.reduceAdd, Nat.add_zero, reduceCtorEq, e1, hch, e, hd]
theorem cM_wl : ms (cM σ c1 p l a) c1 0 v = cM σ c1 p v a := by
  apply gMem_ext; intro c j; unfold cM
  simp only [ms_ap, mc_ap, upd_ap]
  by_cases q : c = c1
  · subst q
    by_cases q2 : j = 0
    · simp [q2, upd_ap]
    · simp [q2, upd_ap]
  · simp [q]
/-- a letter begins an order -/
theorem o_beg {n u : Nat} {x : Int32} (hx : (u = 0 ∧ x = nI 98) ∨ (u = 1 ∧ x = nI 108) ∨ (u = 2 ∧ x = nI 116) ∨ (u = 3 ∧ x = nI 115) ∨ (u = 4 ∧ x = nI 104)) (hc : 391 ≤ c1) (h1 : σ 388 1 = nI n) (hn : n ≤ 60) (hp : p + 1 ≤ 60) (hd : hr (σ 389) n p = x) : f_X5_parseOrder 388 c1 (cM σ c1 p l a) = L_X5_parseOrder_40 388 c1 u gF (nI 0) (nI 0) (cM σ c1 (p + 1) x a) := by
  have e := c_here (l := l) (a := a) hc h1 hn (show p ≤ 60 by omega)
  rw [hd] at e
  have ef : ∀ s, f_X5_formOf x s = some (u, s) := fun s => by rcases hx with ⟨rfl, rfl⟩ | ⟨rfl, rfl⟩ | ⟨rfl, rfl⟩ | ⟨rfl, rfl⟩ | ⟨rfl, rfl⟩ <;> rfl
  have ei : ∀ s, f_J0_isEmpty_aae02 u s = some (nI 0, s) := fun s => by rcases hx with ⟨rfl, -⟩ | ⟨rfl, -⟩ | ⟨rfl, -⟩ | ⟨rfl, -⟩ | ⟨rfl, -⟩ <;> rfl
  unfold f_X5_parseOrder
  obtain ⟨F, hF⟩ : ∃ F, gF = F := ⟨gF, rfl⟩
  rw [hF]; clear hF
  simp (disch := omega) only [neg1, li_0, li_1, li_2, li_3, li_4, li_5, li_6, li_7, li_8, li_9, li_10, li_11, li_12, li_13, li_14, li_15, li_16, li_20, li_23, li_24, li_26, li_29, li_30, li_36, li_39, li_40, li_42, li_43, li_47, li_48, li_49, li_50, li_53, li_57, li_58, li_59, li_60, li_61, li_62, li_64, li_68, li_71, li_72, li_74, li_80, li_86, li_92, li_93, li_94, li_95, li_96, li_97, li_98, li_99, li_100, li_104, li_108, li_110, li_115, li_116, li_160, li_200, li_220, li_300, li_9999, nI_add, nI_mul, p_clamp, p_le, p_lt, p_eq, p_m1lt, p_m1eq, p_m1ge, p_eqm1, i_clamp, p_leT, p_leF, p_ltT, p_ltF, p_eqT, p_eqF, or_self, or_false, false_or, or_true, true_or, not_false_eq_true, not_true_eq_false, ↓reduceIte, and_self, and_true, true_and, and_false, false_and, ↓gv_e, g1, g2, gnl, Nat.reduceAdd, Nat.add_zero, reduceCtorEq, e, cM_wl, cM_l, ef, ei, cM_2 hc, cM_w2 hc, cM_wa, cM_l]
theorem o_begN {n : Nat} (hc : 391 ≤ c1) (h1 : σ 388 1 = nI n) (hn : n ≤ 60) (hp : p ≤ 60) (hd : ¬ (hr (σ 389) n p = nI 98 ∨ hr (σ 389) n p = nI 108 ∨ hr (σ 389) n p = nI 116 ∨ hr (σ 389) n p = nI 115 ∨ hr (σ 389) n p = nI 104)) : f_X5_parseOrder 388 c1 (cM σ c1 p l a) = some (nI 0, cM σ c1 p (hr (σ 389) n p) a) := by
  have e := c_here (l := l) (a := a) hc h1 hn hp
  simp only [not_or] at hd
  obtain ⟨d1, d2, d3, d4, d5⟩ := hd
  have ei : ∀ s, f_J0_isEmpty_aae02 5 s = some (nI 1, s) := fun s => rfl
  unfold f_X5_parseOrder
  obtain ⟨F, hF⟩ : ∃ F, gF = F := ⟨gF, rfl⟩
  rw [hF]; clear hF
  simp (disch := omega) only [neg1, li_0, li_1, li_2, li_3, li_4, li_5, li_6, li_7, li_8, li_9, li_10, li_11, li_12, li_13, li_14, li_15, li_16, li_20, li_23, li_24, li_26, li_29, li_30, li_36, li_39, li_40, li_42, li_43, li_47, li_48, li_49, li_50, li_53, li_57, li_58, li_59, li_60, li_61, li_62, li_64, li_68, li_71, li_72, li_74, li_80, li_86, li_92, li_93, li_94, li_95, li_96, li_97, li_98, li_99, li_100, li_104, li_108, li_110, li_115, li_116, li_160, li_200, li_220, li_300, li_9999, nI_add, nI_mul, p_clamp, p_le, p_lt, p_eq, p_m1lt, p_m1eq, p_m1ge, p_eqm1, i_clamp, p_leT, p_leF, p_ltT, p_ltF, p_eqT, p_eqF, or_self, or_false, false_or, or_true, true_or, not_false_eq_true, not_true_eq_false, ↓reduceIte, and_self, and_true, true_and, and_false, false_and, ↓gv_e, g1, g2, gnl, Nat.reduceAdd, Nat.add_zero, reduceCtorEq, e, cM_wl, cM_l, f_X5_formOf, d1, d2, d3, d4, d5, ei]
end

