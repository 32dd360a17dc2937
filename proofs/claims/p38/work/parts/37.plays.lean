/-! THE PURE SIDE: laying, taking, showing -/
theorem g1_e {α β : Type} {o : Option (α × gMem)} {k : α → gMem → Option β} {x : α} {s : gMem} (h : o = some (x, s)) : g1 o k = k x s := by rw [h]; rfl
theorem ms_434 {m : gMem} {k : Nat} {v : Int32} : ms m 434 k v = mc m 434 (upd (m 434) k v) := (rfl)
section
variable {m : gMem} {N : Nat}
/-- the model's memory behind a look -/
def xLk (m : gMem) (t n i q : Nat) : gMem := ms (ms m 433 13 (whyR (m 434) t n i q)) 433 14 (whyD (m 434) t n i q)
theorem xLk_434 {t n i q : Nat} : xLk m t n i q 434 = m 434 := by unfold xLk; rw [ms_cell (by decide), ms_cell (by decide)]
theorem xLk_13 {t n i q : Nat} : xLk m t n i q 433 13 = whyR (m 434) t n i q := by unfold xLk; rw [ms_ap, if_neg (by decide)]; exact ms_ss
theorem xLk_14 {t n i q : Nat} : xLk m t n i q 433 14 = whyD (m 434) t n i q := by unfold xLk; exact ms_ss
theorem whyR_10 {g : Nat → Int32} {t n i q : Nat} (h : whyR g t n i q = nI 0) : gC g t ≠ 10 ∧ ¬ nI 0 < g (53 + n) ∧ ¬ g (49 + n) ≤ nI (gC g t) ∧ ¬ g (26 + i) < nI q ∧ weak g t (g (30 + t)) (nI q) = m1 := by
  unfold whyR at h
  have e : ∀ k, 0 < k → k < 9 → ¬ nI k = nI 0 := fun k h1 h2 => by rw [p_eq (by omega) (by omega)]; omega
  by_cases p0 : gC g t = 10
  · rw [if_pos p0] at h; exact absurd h (e 1 (by decide) (by decide))
  rw [if_neg p0] at h
  by_cases p1 : nI 0 < g (53 + n)
  · rw [if_pos p1] at h; exact absurd h (e 4 (by decide) (by decide))
  rw [if_neg p1] at h
  by_cases p2 : g (49 + n) ≤ nI (gC g t)
  · rw [if_pos p2] at h; exact absurd h (e 5 (by decide) (by decide))
  rw [if_neg p2] at h
  by_cases p3 : g (26 + i) < nI q
  · rw [if_pos p3] at h; exact absurd h (e 6 (by decide) (by decide))
  rw [if_neg p3] at h
  by_cases p4 : (if gC g t = 0 then nI 20 else cub g t (gC g t - 1)) < nI q
  · rw [if_pos p4] at h; exact absurd h (e 7 (by decide) (by decide))
  rw [if_neg p4] at h
  by_cases p5 : weak g t (g (30 + t)) (nI q) = m1
  · exact ⟨p0, p1, p2, p3, p5⟩
  · rw [if_neg p5] at h; exact absurd h (e 8 (by decide) (by decide))
end
section
variable {σ0 σ : gMem} {h N : Nat} {g : Nat → Int32}
theorem w_lay3 (H : qF σ0 σ h g) {t : Nat} (ht : t < 6) (hC : gC g t < 10) (x y : Int32) : qF σ0 (ms (ms (ms σ (((h + 5) + (6 + 3 * t)) + 1) (gC g t) x) (((h + 5) + (6 + 3 * t)) + 2) (gC g t) y) ((h + 5) + (6 + 3 * t)) 2 (nI (gC g t + 1))) h (upd (upd (upd g (100 + 10 * t + gC g t) x) (160 + 10 * t + gC g t) y) (36 + t) (nI (gC g t + 1))) := by
  have h1 := qL_w (v := x) (k := 100 + 10 * t + gC g t) (cell := ((h + 5) + (6 + 3 * t)) + 1) H (by omega) (by omega) (by omega) (lo_grd t ht _ hC) (by omega)
  have h2 := qL_w (v := y) (k := 160 + 10 * t + gC g t) (cell := ((h + 5) + (6 + 3 * t)) + 2) h1 (by omega) (by omega) (by omega) (lo_cub t ht _ hC) (by omega)
  have h3 := qL_w (v := nI (gC g t + 1)) (k := 36 + t) (cell := (h + 5) + (6 + 3 * t)) h2 (by omega) (by omega) (by omega) (lo_crs t ht) (by omega)
  refine qL_mono h3 (fun j hj hL => ?_)
  by_cases q1 : j = 36 + t
  · exact Or.inr q1
  by_cases q2 : j = 160 + 10 * t + gC g t
  · exact Or.inl (Or.inr q2)
  by_cases q3 : j = 100 + 10 * t + gC g t
  · exact Or.inl (Or.inl (Or.inr q3))
  refine Or.inl (Or.inl (Or.inl ?_))
  have e : ∀ i, i < 100 → i ≠ 36 + t → upd (upd (upd g (100 + 10 * t + gC g t) x) (160 + 10 * t + gC g t) y) (36 + t) (nI (gC g t + 1)) i = g i := fun i h1 h2 => by
    simp only [upd_ap]; rw [if_neg h2, if_neg (by omega), if_neg (by omega)]
  obtain ⟨l1, l2, l3, l4, l5, l6⟩ := hL
  rw [e 29 (by omega) (by omega)] at l3 l6
  rw [e 48 (by omega) (by omega)] at l4
  rw [e 61 (by omega) (by omega)] at l5
  refine ⟨l1, l2, l3, l4, l5, fun q => ?_⟩
  obtain ⟨p1, p2⟩ := l6 q
  refine ⟨p1, ?_⟩
  by_cases q4 : (j - 100) / 10 % 6 = t
  · rw [q4, upd_ap, if_pos rfl, i_clamp (by omega)] at p2
    rw [q4]
    show _ < gC g t
    omega
  · rw [e _ (by omega) (by omega)] at p2
    exact p2
theorem c_addC {q C : Nat} {x y : Int32} (h2 : σ q 2 = nI C) (hC : C < 10) (g1' : gl (q + 1) = 10) (g2' : gl (q + 2) = 10) : f_X7_addCourse q x y σ = some (nI C, ms (ms (ms σ (q + 1) C x) (q + 2) C y) q 2 (nI (C + 1))) := by
  have e : ms (ms σ (q + 1) C x) (q + 2) C y q 2 = nI C := by rw [ms_cell (by omega), ms_cell (by omega), h2]
  unfold f_X7_addCourse
  simp (disch := omega) only [neg1, li_0, li_1, li_2, li_3, li_4, li_5, li_6, li_7, li_8, li_9, li_10, li_11, li_12, li_13, li_14, li_15, li_16, li_20, li_23, li_24, li_26, li_29, li_30, li_36, li_39, li_40, li_42, li_43, li_47, li_48, li_49, li_50, li_53, li_57, li_58, li_59, li_60, li_61, li_62, li_64, li_68, li_71, li_72, li_74, li_80, li_86, li_92, li_93, li_94, li_95, li_96, li_97, li_98, li_99, li_100, li_104, li_108, li_110, li_115, li_116, li_160, li_200, li_220, li_300, li_9999, nI_add, nI_mul, p_clamp, p_le, p_lt, p_eq, p_m1lt, p_m1eq, p_m1ge, p_eqm1, i_clamp, p_leT, p_leF, p_ltT, p_ltF, p_eqT, p_eqF, or_self, or_false, false_or, or_true, true_or, not_false_eq_true, not_true_eq_false, ↓reduceIte, and_self, and_true, true_and, and_false, false_and, ↓gv_e, g1, g2, gnl, Nat.reduceAdd, Nat.add_zero, reduceCtorEq, h2, g1', g2', e]
theorem c_lay (H : qF σ0 σ h g) (hh : HF h) (hb : GB N g) {t n i q : Nat} (ht : t < iN (g 29)) (hn : n < iN (g 48)) (hi : i < 3) (hq : q ≤ 20) (hC : gC g t ≠ 10) : ∃ σ', f_X2_layCourse h (nI t) (nI n) (nI i) (nI q) σ = some (nI (gC g t), σ') ∧ qF σ0 σ' h (layG g t n i q) := by
  have hW := (n_W hb).2
  have hT := (n_T hb).2
  obtain ⟨k4, k5⟩ := gC_of hb (t := t) (by omega)
  obtain ⟨k1, k2, k3⟩ := hh.2.2.2.2.2.2.2.2.1 t (by omega)
  have a2 := hh.2.2.2.2.2.2.2.1 n (by omega)
  have h1 := w_stk H hi (g (26 + i) - nI q)
  have h2 := w_bsy h1 (i := n) (by omega) (nI (q / 5 + 1))
  have h3 := w_lad h2 (i := n) (by omega) (g (57 + n) + nI q)
  have e0 : ms (ms σ (h + 2) i (g (26 + i) - nI q)) ((h + 4) + (3 + n)) 1 (nI (q / 5 + 1)) ((h + 4) + (3 + n)) 2 = g (57 + n) := by
    rw [ms_ap, if_neg (by omega), ms_cell (by omega)]; exact r_lad H (by omega) hn
  have e5 : nI q / nI 5 = nI (q / 5) := p_div (by omega) (by omega)
  have eC : gC (upd (upd (upd g (26 + i) (g (26 + i) - nI q)) (53 + n) (nI (q / 5 + 1))) (57 + n) (g (57 + n) + nI q)) t = gC g t := by
    unfold gC; simp only [upd_ap]; rw [if_neg (by omega), if_neg (by omega), if_neg (by omega)]
  have h4 := w_lay3 h3 (t := t) (by omega) (by rw [eC]; omega) (nI i) (nI q)
  rw [eC] at h4
  have e6 := c_addC (σ := ms (ms (ms σ (h + 2) i (g (26 + i) - nI q)) ((h + 4) + (3 + n)) 1 (nI (q / 5 + 1))) ((h + 4) + (3 + n)) 2 (g (57 + n) + nI q)) (q := (h + 5) + (6 + 3 * t)) (C := gC g t) (x := nI i) (y := nI q) (by rw [ms_cell (by omega), ms_cell (by omega), ms_cell (by omega), r_crs H (by omega) ht]; exact k4) (by omega) k2 k3
  refine ⟨_, ?_, qF_g h4 (g' := layG g t n i q) ?_⟩
  · unfold f_X2_layCourse
    rw [c_towerAt H hh hb ht]
    simp (disch := omega) only [neg1, li_0, li_1, li_2, li_3, li_4, li_5, li_6, li_7, li_8, li_9, li_10, li_11, li_12, li_13, li_14, li_15, li_16, li_20, li_23, li_24, li_26, li_29, li_30, li_36, li_39, li_40, li_42, li_43, li_47, li_48, li_49, li_50, li_53, li_57, li_58, li_59, li_60, li_61, li_62, li_64, li_68, li_71, li_72, li_74, li_80, li_86, li_92, li_93, li_94, li_95, li_96, li_97, li_98, li_99, li_100, li_104, li_108, li_110, li_115, li_116, li_160, li_200, li_220, li_300, li_9999, nI_add, nI_mul, p_clamp, p_le, p_lt, p_eq, p_m1lt, p_m1eq, p_m1ge, p_eqm1, i_clamp, p_leT, p_leF, p_ltT, p_ltF, p_eqT, p_eqF, or_self, or_false, false_or, or_true, true_or, not_false_eq_true, not_true_eq_false, ↓reduceIte, and_self, and_true, true_and, and_false, false_and, ↓gv_e, g1, g2, gnl, Nat.reduceAdd, Nat.add_zero, reduceCtorEq, k1, c_tongsAt H hh hb hn, a2, c_grade, hh.2.2.1, r_stk H hi, e5, e0, e6]
  · unfold layG
    intro j hj; simp only [upd_ap]; (repeat' split) <;> first | rfl | omega | (exfalso; omega)
/-! take -/
def takM (g : Nat → Int32) (t : Nat) : Nat := if 300 < iN (g (26 + iN (grd g t (gC g t - 1)))) + iN (cub g t (gC g t - 1)) then 300 - iN (g (26 + iN (grd g t (gC g t - 1)))) else iN (cub g t (gC g t - 1))
def takG (g : Nat → Int32) (t : Nat) : Nat → Int32 := upd (upd (upd g (36 + t) (nI (gC g t - 1))) (26 + iN (grd g t (gC g t - 1))) (g (26 + iN (grd g t (gC g t - 1))) + nI (takM g t))) 96 (g 96 + (nI (iN (cub g t (gC g t - 1))) - nI (takM g t)))
theorem c_remove {q t : Nat} (H : TQ σ q g t) {c : Nat} (hc : c < gC g t) : f_X7_removeFrom q (nI c) σ = some (sm (fun j => cub g t j) c (gC g t - c), ms σ q 2 (nI c)) := by
  have h10 : gC g t ≤ 10 := H.2.2.2.2.2.2.2.2
  unfold f_X7_removeFrom
  rw [c_from H (by omega)]
  simp (disch := omega) only [neg1, li_0, li_1, li_2, li_3, li_4, li_5, li_6, li_7, li_8, li_9, li_10, li_11, li_12, li_13, li_14, li_15, li_16, li_20, li_23, li_24, li_26, li_29, li_30, li_36, li_39, li_40, li_42, li_43, li_47, li_48, li_49, li_50, li_53, li_57, li_58, li_59, li_60, li_61, li_62, li_64, li_68, li_71, li_72, li_74, li_80, li_86, li_92, li_93, li_94, li_95, li_96, li_97, li_98, li_99, li_100, li_104, li_108, li_110, li_115, li_116, li_160, li_200, li_220, li_300, li_9999, nI_add, nI_mul, p_clamp, p_le, p_lt, p_eq, p_m1lt, p_m1eq, p_m1ge, p_eqm1, i_clamp, p_leT, p_leF, p_ltT, p_ltF, p_eqT, p_eqF, or_self, or_false, false_or, or_true, true_or, not_false_eq_true, not_true_eq_false, ↓reduceIte, and_self, and_true, true_and, and_false, false_and, ↓gv_e, g1, g2, gnl, Nat.reduceAdd, Nat.add_zero, reduceCtorEq, c_has H (show c < 2147483648 by omega), hc]
theorem c_take (H : qF σ0 σ h g) (hh : HF h) (hb : GB N g) {t : Nat} (ht : t < iN (g 29)) (hC : 0 < gC g t) : ∃ σ', f_X2_takeCourse h ((h + 5) + (6 + 3 * t)) σ = some (cub g t (gC g t - 1), σ') ∧ qF σ0 σ' h (takG g t) := by
  have hW := (n_W hb).2
  obtain ⟨k4, k5⟩ := gC_of hb (t := t) (by omega)
  have hT := TQ_of H hh hb (t := t) (by omega) ht
  have e1 : nI (gC g t) - nI 1 = nI (gC g t - 1) := nI_sub hC
  have e2 := c_gradeAt hT (c := gC g t - 1) (by omega)
  have e3 := c_remove hT (c := gC g t - 1) (by omega)
  have e4 : sm (fun j => cub g t j) (gC g t - 1) (gC g t - (gC g t - 1)) = cub g t (gC g t - 1) := by
    rw [show gC g t - (gC g t - 1) = 1 by omega, sm, sm, show nI 0 = 0 from rfl, Int32.add_zero]
  rw [e4] at e3
  obtain ⟨r, hr, hr2⟩ := b_grd hb (t := t) (c := gC g t - 1) (by omega) (by omega)
  obtain ⟨k, hk, hk2⟩ := b_cub hb (t := t) (c := gC g t - 1) (by omega) (by omega)
  have hr : grd g t (gC g t - 1) = nI r := hr
  have hk : cub g t (gC g t - 1) = nI k := hk
  obtain ⟨s, hs, hs2⟩ := b_stk hb (i := r) (by omega)
  have h1 := w_crs H (t := t) (by omega) (nI (gC g t - 1)) (by rw [i_clamp (by omega)]; show _ ≤ gC g t; omega)
  have e5 := c_stock h1 hh (i := r) (by omega)
  rw [upd_ap, if_neg (by omega), hs] at e5
  have hM : takM g t = if 300 < s + k then 300 - s else k := by
    unfold takM; rw [hr, i_clamp (by omega), hs, hk, i_clamp (by omega), i_clamp (by omega)]
  have h2 := w_stk h1 (i := r) (by omega) (nI s + nI (takM g t))
  have h3 := w_brn h2 (g 96 + (nI k - nI (takM g t)))
  have e6 : (if (300 : Int32) - nI s < nI k then (300 : Int32) - nI s else nI k) = nI (takM g t) := by
    rw [li_300, nI_sub hs2, hM]
    by_cases p : 300 < s + k
    · rw [if_pos p, if_pos (by rw [p_lt (by omega) (by omega)]; omega)]
    · rw [if_neg p, if_neg (by rw [p_lt (by omega) (by omega)]; omega)]
  have e7 : ms σ ((h + 5) + (6 + 3 * t)) 2 (nI (gC g t - 1)) (h + 2) r = nI s := by rw [ms_cell (by omega), r_stk H (by omega), hs]
  have e8 : ms (ms σ ((h + 5) + (6 + 3 * t)) 2 (nI (gC g t - 1))) (h + 2) r (nI s + nI (takM g t)) h 15 = g 96 := by rw [ms_cell (by omega), ms_cell (by omega), r_brn H]
  refine ⟨_, ?_, qF_g h3 (g' := takG g t) ?_⟩
  · unfold f_X2_takeCourse
    rw [hT.1, k4, li_1, e1]
    unfold gv
    dsimp only
    rw [e2, hr]
    unfold g1
    dsimp only
    rw [e3]
    dsimp only
    rw [e5, hk]
    dsimp only
    rw [e6, c_grade]
    have c1 : nI 0 ≤ nI r ∧ nI r ≤ nI 2 := ⟨nI_pos' (by omega), nI_le (by omega) (by omega)⟩
    rw [if_pos c1]
    dsimp only
    rw [if_neg (by decide +kernel), hh.2.2.1, if_pos (nI_in (by omega) (by omega)), p_clamp (by omega), e7, e8]
  · unfold takG
    rw [hr, i_clamp (by omega), hs, hk, i_clamp (by omega)]
    intro j _; rfl
end
/-! show -/
