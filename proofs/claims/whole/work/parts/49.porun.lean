/-! THE PURE SIDE: orders are carried out alike -/
theorem g1_id {α : Type} {o : Option (α × gMem)} : g1 o (fun r s => some (r, s)) = o := by cases o <;> rfl
def xF (m m' : gMem) : Prop := (∀ c, c ≠ 433 → c ≠ 434 → m' c = m c) ∧ ∀ j, j < 9 ∨ 15 ≤ j → m' 433 j = m 433 j
def eOk (m m' : gMem) (g' : Nat → Int32) : Prop := xF m m' ∧ m' 434 = g' ∧ m' 433 12 = nI 0 ∧ m' 433 9 = m 433 9 ∧ m' 433 10 = m 433 10
def eBad (m m' : gMem) : Prop := xF m m' ∧ (∃ c : Nat, m' 433 12 = nI c ∧ 0 < c ∧ c < 5) ∧ m' 433 11 = nI 0 ∧ m' 433 9 = m 433 9 ∧ m' 433 10 = m 433 10 ∧ m' 434 = m 434
def eRef (m m' : gMem) (r d : Int32) (c : Nat) : Prop := xF m m' ∧ m' 433 12 = nI c ∧ 0 < c ∧ c < 5 ∧ m' 433 11 = nI 1 ∧ m' 433 9 = r ∧ m' 433 10 = d ∧ m' 434 = m 434
theorem xF_rf {m : gMem} : xF m m := ⟨fun _ _ _ => rfl, fun _ _ => rfl⟩
theorem end_ok {m M : gMem} {g' : Nat → Int32} (h : xF m M) (h9 : M 433 9 = m 433 9) (h10 : M 433 10 = m 433 10) (v : Int32) : ∃ m', f_X9_done 433 v (mc M 434 g') = some (v, m') ∧ eOk m m' g' := by
  refine ⟨ms (mc M 434 g') 433 12 (nI 0), x_done v, ⟨fun c h1 h2 => ?_, fun j hj => ?_⟩, ?_, ms_ss, ?_, ?_⟩
  · rw [ms_cell h1, mc_n h2]; exact h.1 c h1 h2
  · rw [ms_ap, if_neg (by omega), mc_n (by decide)]; exact h.2 j hj
  · rw [ms_cell (by decide), mc_s]
  · rw [ms_ap, if_neg (by decide), mc_n (by decide)]; exact h9
  · rw [ms_ap, if_neg (by decide), mc_n (by decide)]; exact h10
theorem end_bad {m : gMem} {c : Nat} (h0 : 0 < c) (h5 : c < 5) : ∃ m', f_X9_fails 433 (nI c) m = some (nI 0, m') ∧ eBad m m' := by
  refine ⟨_, x_fails _, ⟨fun c h1 h2 => ?_, fun j hj => ?_⟩, ⟨c, ?_, h0, h5⟩, ms_ss, ?_, ?_, ?_⟩
  · rw [ms_cell h1, ms_cell h1]
  · rw [ms_ap, if_neg (by omega), ms_ap, if_neg (by omega)]
  · rw [ms_ap, if_neg (by decide)]; exact ms_ss
  · rw [ms_ap, if_neg (by decide), ms_ap, if_neg (by decide)]
  · rw [ms_ap, if_neg (by decide), ms_ap, if_neg (by decide)]
  · rw [ms_cell (by decide), ms_cell (by decide)]
theorem end_ref {m M : gMem} {c : Nat} {r d : Int32} (h : xF m M) (hg : M 434 = m 434) (h0 : 0 < c) (h5 : c < 5) : ∃ m', f_X9_refused 433 r d (nI c) M = some (nI 0, m') ∧ eRef m m' r d c := by
  refine ⟨_, x_refused _ _ _, ⟨fun c h1 h2 => ?_, fun j hj => ?_⟩, ?_, h0, h5, ms_ss, ?_, ?_, ?_⟩
  · rw [ms_cell h1, ms_cell h1, ms_cell h1, ms_cell h1]; exact h.1 c h1 h2
  · rw [ms_ap, if_neg (by omega), ms_ap, if_neg (by omega), ms_ap, if_neg (by omega), ms_ap, if_neg (by omega)]; exact h.2 j hj
  · rw [ms_ap, if_neg (by decide)]; exact ms_ss
  · rw [ms_ap, if_neg (by decide), ms_ap, if_neg (by decide), ms_ap, if_neg (by decide)]; exact ms_ss
  · rw [ms_ap, if_neg (by decide), ms_ap, if_neg (by decide)]; exact ms_ss
  · rw [ms_cell (by decide), ms_cell (by decide), ms_cell (by decide), ms_cell (by decide)]; exact hg
theorem xF_Lk {m : gMem} {t n i q : Nat} : xF m (xLk m t n i q) ∧ xLk m t n i q 433 9 = m 433 9 ∧ xLk m t n i q 433 10 = m 433 10 := by
  unfold xLk
  refine ⟨⟨fun c h1 h2 => by rw [ms_cell h1, ms_cell h1], fun j hj => by rw [ms_ap, if_neg (by omega), ms_ap, if_neg (by omega)]⟩, ?_, ?_⟩
  · rw [ms_ap, if_neg (by decide), ms_ap, if_neg (by decide)]
  · rw [ms_ap, if_neg (by decide), ms_ap, if_neg (by decide)]
/-- one order's end, on both sides -/
def OUT (σ0 σ m : gMem) (N : Nat) (cl md : Option (Int32 × gMem)) : Prop :=
  (∃ (σ' : gMem) (g' : Nat → Int32) (r : Int32) (m' : gMem), cl = some (nI 0, σ') ∧ md = some (r, m') ∧ qF σ0 σ' 36 g' ∧ GA (N + 72) g' ∧ eOk m m' g')
  ∨ (∃ (r : Int32) (m' : gMem), cl = some (nI 1, σ) ∧ md = some (r, m') ∧ eBad m m')
  ∨ (∃ (r : Nat) (d : Int32) (c : Nat) (r' : Int32) (m' : gMem), cl = some (nI 2, ms (ms σ 431 0 (nI r)) 431 1 d) ∧ md = some (r', m') ∧ eRef m m' (nI r) d c ∧ 0 < r ∧ r < 11)
theorem c_isP (u v : Int32) (s : gMem) : f_X8_isPurchase u v s = some (if (nI 0 ≤ u ∧ u ≤ nI 2) ∧ (nI 1 ≤ v ∧ v ≤ nI 99) then nI 1 else nI 0, s) := by
  unfold f_X8_isPurchase
  refine (g1_e (c_grade u s)).trans ?_
  by_cases h : nI 0 ≤ u ∧ u ≤ nI 2
  · rw [if_pos h, if_neg (show ¬ nI 1 = (0 : Int32) by decide +kernel)]
    refine (g1_e (c_btw _ _ _ _)).trans ?_
    by_cases h2 : nI 1 ≤ v ∧ v ≤ nI 99
    · rw [if_pos (show (1 : Int32) ≤ v ∧ v ≤ (99 : Int32) from h2), if_neg (show ¬ nI 1 = (0 : Int32) by decide +kernel), if_pos ⟨h, h2⟩]; rfl
    · rw [if_neg (show ¬ ((1 : Int32) ≤ v ∧ v ≤ (99 : Int32)) from h2), if_pos (show nI 0 = (0 : Int32) from rfl), if_neg (fun q => h2 q.2)]; rfl
  · rw [if_neg h, if_pos (show nI 0 = (0 : Int32) from rfl), if_neg (fun q => h q.1)]; rfl
theorem c_isC (u v : Int32) (s : gMem) : f_X8_isCourse u v s = some (if (nI 0 ≤ u ∧ u ≤ nI 2) ∧ (nI 1 ≤ v ∧ v ≤ nI 20) then nI 1 else nI 0, s) := by
  unfold f_X8_isCourse
  refine (g1_e (c_grade u s)).trans ?_
  by_cases h : nI 0 ≤ u ∧ u ≤ nI 2
  · rw [if_pos h, if_neg (show ¬ nI 1 = (0 : Int32) by decide +kernel)]
    refine (g1_e (c_btw _ _ _ _)).trans ?_
    by_cases h2 : nI 1 ≤ v ∧ v ≤ nI 20
    · rw [if_pos (show (1 : Int32) ≤ v ∧ v ≤ (20 : Int32) from h2), if_neg (show ¬ nI 1 = (0 : Int32) by decide +kernel), if_pos ⟨h, h2⟩]; rfl
    · rw [if_neg (show ¬ ((1 : Int32) ≤ v ∧ v ≤ (20 : Int32)) from h2), if_pos (show nI 0 = (0 : Int32) from rfl), if_neg (fun q => h2 q.2)]; rfl
  · rw [if_neg h, if_pos (show nI 0 = (0 : Int32) from rfl), if_neg (fun q => h q.1)]; rfl
theorem whyR_n {g : Nat → Int32} {t n i q : Nat} (h : whyR g t n i q ≠ nI 0) : ∃ r : Nat, whyR g t n i q = nI r ∧ 0 < r ∧ r < 11 := by
  unfold whyR at h ⊢
  by_cases p0 : gC g t = 10
  · rw [if_pos p0]; exact ⟨1, rfl, by decide, by decide⟩
  rw [if_neg p0] at h ⊢
  by_cases p1 : nI 0 < g (53 + n)
  · rw [if_pos p1]; exact ⟨4, rfl, by decide, by decide⟩
  rw [if_neg p1] at h ⊢
  by_cases p2 : g (49 + n) ≤ nI (gC g t)
  · rw [if_pos p2]; exact ⟨5, rfl, by decide, by decide⟩
  rw [if_neg p2] at h ⊢
  by_cases p3 : g (26 + i) < nI q
  · rw [if_pos p3]; exact ⟨6, rfl, by decide, by decide⟩
  rw [if_neg p3] at h ⊢
  by_cases p4 : (if gC g t = 0 then nI 20 else cub g t (gC g t - 1)) < nI q
  · rw [if_pos p4]; exact ⟨7, rfl, by decide, by decide⟩
  rw [if_neg p4] at h ⊢
  by_cases p5 : weak g t (g (30 + t)) (nI q) = m1
  · rw [if_pos p5] at h; exact absurd rfl h
  · rw [if_neg p5]; exact ⟨8, rfl, by decide, by decide⟩
section
variable {σ0 σ m : gMem} {N : Nat}
theorem tt_buy (H : qF σ0 σ 36 (m 434)) (hg : GA N (m 434)) (hN : N + 72 ≤ 1000000) (u v : Int32) : OUT σ0 σ m N (f_X8_tryToBuy 0 u v σ) (f_X9_buys 433 u v m) := by
  by_cases h : (nI 0 ≤ u ∧ u ≤ nI 2) ∧ (nI 1 ≤ v ∧ v ≤ nI 99)
  · obtain ⟨i, hi, rfl⟩ := grade_in h.1
    obtain ⟨q, q1, q2, rfl⟩ := rng_in (by decide) h.2 (by decide)
    have e1 := c_isP (nI i) (nI q) σ
    rw [if_pos h] at e1
    have e2 := c_buyW H HF_36 hg.1.1 (by omega) hi q2 431
    have e3 := x_buys hg.1.1 (by omega) hi q1 q2
    by_cases p1 : nI 300 < m 434 (26 + i) + nI q
    · rw [if_pos p1] at e2 e3
      obtain ⟨m', k1, k2⟩ := end_ref (m := m) (M := m) (c := 2) (r := nI 3) (d := m 434 (26 + i)) xF_rf rfl (by decide) (by decide)
      refine Or.inr (Or.inr ⟨3, _, 2, nI 0, m', ?_, e3.trans k1, k2, by decide, by decide⟩)
      unfold f_X8_tryToBuy
      rw [c_because] at e2
      simp (disch := omega) only [neg1, li_0, li_1, li_2, li_3, li_4, li_5, li_6, li_7, li_8, li_9, li_10, li_11, li_12, li_13, li_14, li_15, li_16, li_20, li_23, li_24, li_26, li_29, li_30, li_36, li_39, li_40, li_42, li_43, li_47, li_48, li_49, li_50, li_53, li_57, li_58, li_59, li_60, li_61, li_62, li_64, li_68, li_71, li_72, li_74, li_80, li_86, li_92, li_93, li_94, li_95, li_96, li_97, li_98, li_99, li_100, li_104, li_108, li_110, li_115, li_116, li_160, li_200, li_220, li_300, li_9999, nI_add, nI_mul, p_clamp, p_le, p_lt, p_eq, p_m1lt, p_m1eq, p_m1ge, p_eqm1, i_clamp, p_leT, p_leF, p_ltT, p_ltF, p_eqT, p_eqF, or_self, or_false, false_or, or_true, true_or, not_false_eq_true, not_true_eq_false, ↓reduceIte, and_self, and_true, true_and, and_false, false_and, ↓gv_e, g1, g2, gnl, Nat.reduceAdd, Nat.add_zero, reduceCtorEq, e1, e2]
    · rw [if_neg p1] at e2 e3
      by_cases p2 : m 434 1 < nI (q * (i + 1))
      · rw [if_pos p2] at e2 e3
        obtain ⟨m', k1, k2⟩ := end_ref (m := m) (M := m) (c := 2) (r := nI 2) (d := nI (q * (i + 1)) - m 434 1) xF_rf rfl (by decide) (by decide)
        refine Or.inr (Or.inr ⟨2, _, 2, nI 0, m', ?_, e3.trans k1, k2, by decide, by decide⟩)
        unfold f_X8_tryToBuy
        rw [c_because] at e2
        simp (disch := omega) only [neg1, li_0, li_1, li_2, li_3, li_4, li_5, li_6, li_7, li_8, li_9, li_10, li_11, li_12, li_13, li_14, li_15, li_16, li_20, li_23, li_24, li_26, li_29, li_30, li_36, li_39, li_40, li_42, li_43, li_47, li_48, li_49, li_50, li_53, li_57, li_58, li_59, li_60, li_61, li_62, li_64, li_68, li_71, li_72, li_74, li_80, li_86, li_92, li_93, li_94, li_95, li_96, li_97, li_98, li_99, li_100, li_104, li_108, li_110, li_115, li_116, li_160, li_200, li_220, li_300, li_9999, nI_add, nI_mul, p_clamp, p_le, p_lt, p_eq, p_m1lt, p_m1eq, p_m1ge, p_eqm1, i_clamp, p_leT, p_leF, p_ltT, p_ltF, p_eqT, p_eqF, or_self, or_false, false_or, or_true, true_or, not_false_eq_true, not_true_eq_false, ↓reduceIte, and_self, and_true, true_and, and_false, false_and, ↓gv_e, g1, g2, gnl, Nat.reduceAdd, Nat.add_zero, reduceCtorEq, e1, e2]
      · rw [if_neg p2] at e2 e3
        obtain ⟨σ', s1, s2⟩ := c_buy H HF_36 (i := i) (q := q) hi
        obtain ⟨m', k1, k2⟩ := end_ok (m := m) (M := m) (g' := buyG (m 434) i q) xF_rf rfl rfl (m 434 (26 + i) + nI q)
        refine Or.inl ⟨σ', _, _, m', ?_, e3.trans k1, s2, GA_up (GA_buy hg (by omega) hi q2 p1 p2) (by omega), k2⟩
        unfold f_X8_tryToBuy
        simp (disch := omega) only [neg1, li_0, li_1, li_2, li_3, li_4, li_5, li_6, li_7, li_8, li_9, li_10, li_11, li_12, li_13, li_14, li_15, li_16, li_20, li_23, li_24, li_26, li_29, li_30, li_36, li_39, li_40, li_42, li_43, li_47, li_48, li_49, li_50, li_53, li_57, li_58, li_59, li_60, li_61, li_62, li_64, li_68, li_71, li_72, li_74, li_80, li_86, li_92, li_93, li_94, li_95, li_96, li_97, li_98, li_99, li_100, li_104, li_108, li_110, li_115, li_116, li_160, li_200, li_220, li_300, li_9999, nI_add, nI_mul, p_clamp, p_le, p_lt, p_eq, p_m1lt, p_m1eq, p_m1ge, p_eqm1, i_clamp, p_leT, p_leF, p_ltT, p_ltF, p_eqT, p_eqF, or_self, or_false, false_or, or_true, true_or, not_false_eq_true, not_true_eq_false, ↓reduceIte, and_self, and_true, true_and, and_false, false_and, ↓gv_e, g1, g2, gnl, Nat.reduceAdd, Nat.add_zero, reduceCtorEq, e1, e2, s1]
  · have e1 := c_isP u v σ
    rw [if_neg h] at e1
    obtain ⟨m', k1, k2⟩ := end_bad (m := m) (c := 1) (by decide) (by decide)
    refine Or.inr (Or.inl ⟨nI 0, m', ?_, (x_buysN h).trans k1, k2⟩)
    unfold f_X8_tryToBuy
    simp (disch := omega) only [neg1, li_0, li_1, li_2, li_3, li_4, li_5, li_6, li_7, li_8, li_9, li_10, li_11, li_12, li_13, li_14, li_15, li_16, li_20, li_23, li_24, li_26, li_29, li_30, li_36, li_39, li_40, li_42, li_43, li_47, li_48, li_49, li_50, li_53, li_57, li_58, li_59, li_60, li_61, li_62, li_64, li_68, li_71, li_72, li_74, li_80, li_86, li_92, li_93, li_94, li_95, li_96, li_97, li_98, li_99, li_100, li_104, li_108, li_110, li_115, li_116, li_160, li_200, li_220, li_300, li_9999, nI_add, nI_mul, p_clamp, p_le, p_lt, p_eq, p_m1lt, p_m1eq, p_m1ge, p_eqm1, i_clamp, p_leT, p_leF, p_ltT, p_ltF, p_eqT, p_eqF, or_self, or_false, false_or, or_true, true_or, not_false_eq_true, not_true_eq_false, ↓reduceIte, and_self, and_true, true_and, and_false, false_and, ↓gv_e, g1, g2, gnl, Nat.reduceAdd, Nat.add_zero, reduceCtorEq, e1]
theorem tt_lay (H : qF σ0 σ 36 (m 434)) (hg : GA N (m 434)) (hN : N + 72 ≤ 1000000) (u v x y : Int32) : OUT σ0 σ m N (f_X8_tryToLay 0 u v x y σ) (f_X9_lays 433 u v x y m) := by
  have hW := (n_W hg.1.1).2
  have hT := (n_T hg.1.1).2
  rcases in_cases u (n := iN (m 434 29)) (by omega) with ⟨t, ht, rfl⟩ | hu
  · have e0 := c_towerAt H HF_36 hg.1.1 ht
    have g0 := (HF_36.2.2.2.2.2.2.2.2.1 t (by omega)).1
    rcases in_cases v (n := iN (m 434 48)) (by omega) with ⟨n, hn, rfl⟩ | hv
    · have e1 := c_tongsAt H HF_36 hg.1.1 hn
      have g1' := HF_36.2.2.2.2.2.2.2.1 n (by omega)
      have e2 := c_isC x y σ
      by_cases h : (nI 0 ≤ x ∧ x ≤ nI 2) ∧ (nI 1 ≤ y ∧ y ≤ nI 20)
      · rw [if_pos h] at e2
        obtain ⟨i, hi, rfl⟩ := grade_in h.1
        obtain ⟨q, q1, q2, rfl⟩ := rng_in (by decide) h.2 (by decide)
        have e3 := c_layW H HF_36 hg.1.1 ht hn hi q2 431
        have e4 := x_lays hg.1.1 ht hn hi q1 q2
        obtain ⟨f1, f2, f3⟩ := xF_Lk (m := m) (t := t) (n := n) (i := i) (q := q)
        by_cases p : whyR (m 434) t n i q = nI 0
        · rw [if_pos p] at e3 e4
          obtain ⟨a1, -⟩ := whyR_10 p
          obtain ⟨σ', s1, s2⟩ := c_lay H HF_36 hg.1.1 ht hn hi q2 a1
          obtain ⟨m', k1, k2⟩ := end_ok (m := m) (M := xLk m t n i q) (g' := layG (m 434) t n i q) f1 f2 f3 (nI (gC (m 434) t))
          refine Or.inl ⟨σ', _, _, m', ?_, e4.trans k1, s2, GA_up (GA_lay hg ht hn hi q2 p) (by omega), k2⟩
          unfold f_X8_tryToLay
          simp (disch := omega) only [neg1, li_0, li_1, li_2, li_3, li_4, li_5, li_6, li_7, li_8, li_9, li_10, li_11, li_12, li_13, li_14, li_15, li_16, li_20, li_23, li_24, li_26, li_29, li_30, li_36, li_39, li_40, li_42, li_43, li_47, li_48, li_49, li_50, li_53, li_57, li_58, li_59, li_60, li_61, li_62, li_64, li_68, li_71, li_72, li_74, li_80, li_86, li_92, li_93, li_94, li_95, li_96, li_97, li_98, li_99, li_100, li_104, li_108, li_110, li_115, li_116, li_160, li_200, li_220, li_300, li_9999, nI_add, nI_mul, p_clamp, p_le, p_lt, p_eq, p_m1lt, p_m1eq, p_m1ge, p_eqm1, i_clamp, p_leT, p_leF, p_ltT, p_ltF, p_eqT, p_eqF, or_self, or_false, false_or, or_true, true_or, not_false_eq_true, not_true_eq_false, ↓reduceIte, and_self, and_true, true_and, and_false, false_and, ↓gv_e, g1, g2, gnl, Nat.reduceAdd, Nat.add_zero, reduceCtorEq, Nat.zero_add, e0, g0, e1, g1', e2, e3, s1]
        · rw [if_neg p] at e3 e4
          obtain ⟨r, hr, hr0, hr1⟩ := whyR_n p
          obtain ⟨m', k1, k2⟩ := end_ref (m := m) (M := xLk m t n i q) (c := 3) (r := whyR (m 434) t n i q) (d := whyD (m 434) t n i q) f1 xLk_434 (by decide) (by decide)
          rw [hr] at k2
          refine Or.inr (Or.inr ⟨r, _, 3, nI 0, m', ?_, e4.trans k1, k2, hr0, hr1⟩)
          unfold f_X8_tryToLay
          rw [c_because, hr] at e3
          simp (disch := omega) only [neg1, li_0, li_1, li_2, li_3, li_4, li_5, li_6, li_7, li_8, li_9, li_10, li_11, li_12, li_13, li_14, li_15, li_16, li_20, li_23, li_24, li_26, li_29, li_30, li_36, li_39, li_40, li_42, li_43, li_47, li_48, li_49, li_50, li_53, li_57, li_58, li_59, li_60, li_61, li_62, li_64, li_68, li_71, li_72, li_74, li_80, li_86, li_92, li_93, li_94, li_95, li_96, li_97, li_98, li_99, li_100, li_104, li_108, li_110, li_115, li_116, li_160, li_200, li_220, li_300, li_9999, nI_add, nI_mul, p_clamp, p_le, p_lt, p_eq, p_m1lt, p_m1eq, p_m1ge, p_eqm1, i_clamp, p_leT, p_leF, p_ltT, p_ltF, p_eqT, p_eqF, or_self, or_false, false_or, or_true, true_or, not_false_eq_true, not_true_eq_false, ↓reduceIte, and_self, and_true, true_and, and_false, false_and, ↓gv_e, g1, g2, gnl, Nat.reduceAdd, Nat.add_zero, reduceCtorEq, Nat.zero_add, e0, g0, e1, g1', e2, e3]
      · rw [if_neg h] at e2
        obtain ⟨m', k1, k2⟩ := end_bad (m := m) (c := 2) (by decide) (by decide)
        refine Or.inr (Or.inl ⟨nI 0, m', ?_, (x_laysN2 hg.1.1 ht hn h).trans k1, k2⟩)
        unfold f_X8_tryToLay
        simp (disch := omega) only [neg1, li_0, li_1, li_2, li_3, li_4, li_5, li_6, li_7, li_8, li_9, li_10, li_11, li_12, li_13, li_14, li_15, li_16, li_20, li_23, li_24, li_26, li_29, li_30, li_36, li_39, li_40, li_42, li_43, li_47, li_48, li_49, li_50, li_53, li_57, li_58, li_59, li_60, li_61, li_62, li_64, li_68, li_71, li_72, li_74, li_80, li_86, li_92, li_93, li_94, li_95, li_96, li_97, li_98, li_99, li_100, li_104, li_108, li_110, li_115, li_116, li_160, li_200, li_220, li_300, li_9999, nI_add, nI_mul, p_clamp, p_le, p_lt, p_eq, p_m1lt, p_m1eq, p_m1ge, p_eqm1, i_clamp, p_leT, p_leF, p_ltT, p_ltF, p_eqT, p_eqF, or_self, or_false, false_or, or_true, true_or, not_false_eq_true, not_true_eq_false, ↓reduceIte, and_self, and_true, true_and, and_false, false_and, ↓gv_e, g1, g2, gnl, Nat.reduceAdd, Nat.add_zero, reduceCtorEq, Nat.zero_add, e0, g0, e1, g1', e2]
    · have e1 := c_tongsAtN H hg.1.1 hv
      obtain ⟨m', k1, k2⟩ := end_bad (m := m) (c := 1) (by decide) (by decide)
      refine Or.inr (Or.inl ⟨nI 0, m', ?_, (x_laysN1 hg.1.1 (Or.inr hv)).trans k1, k2⟩)
      unfold f_X8_tryToLay
      simp (disch := omega) only [neg1, li_0, li_1, li_2, li_3, li_4, li_5, li_6, li_7, li_8, li_9, li_10, li_11, li_12, li_13, li_14, li_15, li_16, li_20, li_23, li_24, li_26, li_29, li_30, li_36, li_39, li_40, li_42, li_43, li_47, li_48, li_49, li_50, li_53, li_57, li_58, li_59, li_60, li_61, li_62, li_64, li_68, li_71, li_72, li_74, li_80, li_86, li_92, li_93, li_94, li_95, li_96, li_97, li_98, li_99, li_100, li_104, li_108, li_110, li_115, li_116, li_160, li_200, li_220, li_300, li_9999, nI_add, nI_mul, p_clamp, p_le, p_lt, p_eq, p_m1lt, p_m1eq, p_m1ge, p_eqm1, i_clamp, p_leT, p_leF, p_ltT, p_ltF, p_eqT, p_eqF, or_self, or_false, false_or, or_true, true_or, not_false_eq_true, not_true_eq_false, ↓reduceIte, and_self, and_true, true_and, and_false, false_and, ↓gv_e, g1, g2, gnl, Nat.reduceAdd, Nat.add_zero, reduceCtorEq, Nat.zero_add, e0, g0, e1]
  · have e0 := c_towerAtN H hg.1.1 hu
    obtain ⟨m', k1, k2⟩ := end_bad (m := m) (c := 1) (by decide) (by decide)
    refine Or.inr (Or.inl ⟨nI 0, m', ?_, (x_laysN1 hg.1.1 (Or.inl hu)).trans k1, k2⟩)
    unfold f_X8_tryToLay
    simp (disch := omega) only [neg1, li_0, li_1, li_2, li_3, li_4, li_5, li_6, li_7, li_8, li_9, li_10, li_11, li_12, li_13, li_14, li_15, li_16, li_20, li_23, li_24, li_26, li_29, li_30, li_36, li_39, li_40, li_42, li_43, li_47, li_48, li_49, li_50, li_53, li_57, li_58, li_59, li_60, li_61, li_62, li_64, li_68, li_71, li_72, li_74, li_80, li_86, li_92, li_93, li_94, li_95, li_96, li_97, li_98, li_99, li_100, li_104, li_108, li_110, li_115, li_116, li_160, li_200, li_220, li_300, li_9999, nI_add, nI_mul, p_clamp, p_le, p_lt, p_eq, p_m1lt, p_m1eq, p_m1ge, p_eqm1, i_clamp, p_leT, p_leF, p_ltT, p_ltF, p_eqT, p_eqF, or_self, or_false, false_or, or_true, true_or, not_false_eq_true, not_true_eq_false, ↓reduceIte, and_self, and_true, true_and, and_false, false_and, ↓gv_e, g1, g2, gnl, Nat.reduceAdd, Nat.add_zero, reduceCtorEq, Nat.zero_add, e0]
theorem tt_take (H : qF σ0 σ 36 (m 434)) (hg : GA N (m 434)) (hN : N + 72 ≤ 1000000) (u : Int32) : OUT σ0 σ m N (f_X8_tryToTake 0 u σ) (f_X9_takes 433 u m) := by
  have hW := (n_W hg.1.1).2
  rcases in_cases u (n := iN (m 434 29)) (by omega) with ⟨t, ht, rfl⟩ | hu
  · have e0 := c_towerAt H HF_36 hg.1.1 ht
    have g0 := (HF_36.2.2.2.2.2.2.2.2.1 t (by omega)).1
    obtain ⟨k4, k5⟩ := gC_of hg.1.1 (t := t) (by omega)
    have e1 := r_crs H (t := t) (by omega) ht
    rw [k4] at e1
    by_cases p : gC (m 434) t = 0
    · obtain ⟨m', k1, k2⟩ := end_ref (m := m) (M := m) (c := 2) (r := nI 9) (d := nI t) xF_rf rfl (by decide) (by decide)
      refine Or.inr (Or.inr ⟨9, _, 2, nI 0, m', ?_, (x_takes0 hg.1.1 ht p).trans k1, k2, by decide, by decide⟩)
      unfold f_X8_tryToTake
      simp (disch := omega) only [neg1, li_0, li_1, li_2, li_3, li_4, li_5, li_6, li_7, li_8, li_9, li_10, li_11, li_12, li_13, li_14, li_15, li_16, li_20, li_23, li_24, li_26, li_29, li_30, li_36, li_39, li_40, li_42, li_43, li_47, li_48, li_49, li_50, li_53, li_57, li_58, li_59, li_60, li_61, li_62, li_64, li_68, li_71, li_72, li_74, li_80, li_86, li_92, li_93, li_94, li_95, li_96, li_97, li_98, li_99, li_100, li_104, li_108, li_110, li_115, li_116, li_160, li_200, li_220, li_300, li_9999, nI_add, nI_mul, p_clamp, p_le, p_lt, p_eq, p_m1lt, p_m1eq, p_m1ge, p_eqm1, i_clamp, p_leT, p_leF, p_ltT, p_ltF, p_eqT, p_eqF, or_self, or_false, false_or, or_true, true_or, not_false_eq_true, not_true_eq_false, ↓reduceIte, and_self, and_true, true_and, and_false, false_and, ↓gv_e, g1, g2, gnl, Nat.reduceAdd, Nat.add_zero, reduceCtorEq, Nat.zero_add, e0, g0, e1, c_because]
    · obtain ⟨σ', s1, s2⟩ := c_take H HF_36 hg.1.1 ht (by omega)
      obtain ⟨m', k1, k2⟩ := end_ok (m := m) (M := m) (g' := takG (m 434) t) xF_rf rfl rfl (cub (m 434) t (gC (m 434) t - 1))
      refine Or.inl ⟨σ', _, _, m', ?_, (x_takes hg.1.1 ht (by omega)).trans k1, s2, GA_up (GA_take hg ht (by omega)) (by omega), k2⟩
      unfold f_X8_tryToTake
      simp (disch := omega) only [neg1, li_0, li_1, li_2, li_3, li_4, li_5, li_6, li_7, li_8, li_9, li_10, li_11, li_12, li_13, li_14, li_15, li_16, li_20, li_23, li_24, li_26, li_29, li_30, li_36, li_39, li_40, li_42, li_43, li_47, li_48, li_49, li_50, li_53, li_57, li_58, li_59, li_60, li_61, li_62, li_64, li_68, li_71, li_72, li_74, li_80, li_86, li_92, li_93, li_94, li_95, li_96, li_97, li_98, li_99, li_100, li_104, li_108, li_110, li_115, li_116, li_160, li_200, li_220, li_300, li_9999, nI_add, nI_mul, p_clamp, p_le, p_lt, p_eq, p_m1lt, p_m1eq, p_m1ge, p_eqm1, i_clamp, p_leT, p_leF, p_ltT, p_ltF, p_eqT, p_eqF, or_self, or_false, false_or, or_true, true_or, not_false_eq_true, not_true_eq_false, ↓reduceIte, and_self, and_true, true_and, and_false, false_and, ↓gv_e, g1, g2, gnl, Nat.reduceAdd, Nat.add_zero, reduceCtorEq, Nat.zero_add, e0, g0, e1, s1]
  · have e0 := c_towerAtN H hg.1.1 hu
    obtain ⟨m', k1, k2⟩ := end_bad (m := m) (c := 1) (by decide) (by decide)
    refine Or.inr (Or.inl ⟨nI 0, m', ?_, (x_takesN hg.1.1 hu).trans k1, k2⟩)
    unfold f_X8_tryToTake
    simp (disch := omega) only [neg1, li_0, li_1, li_2, li_3, li_4, li_5, li_6, li_7, li_8, li_9, li_10, li_11, li_12, li_13, li_14, li_15, li_16, li_20, li_23, li_24, li_26, li_29, li_30, li_36, li_39, li_40, li_42, li_43, li_47, li_48, li_49, li_50, li_53, li_57, li_58, li_59, li_60, li_61, li_62, li_64, li_68, li_71, li_72, li_74, li_80, li_86, li_92, li_93, li_94, li_95, li_96, li_97, li_98, li_99, li_100, li_104, li_108, li_110, li_115, li_116, li_160, li_200, li_220, li_300, li_9999, nI_add, nI_mul, p_clamp, p_le, p_lt, p_eq, p_m1lt, p_m1eq, p_m1ge, p_eqm1, i_clamp, p_leT, p_leF, p_ltT, p_ltF, p_eqT, p_eqF, or_self, or_false, false_or, or_true, true_or, not_false_eq_true, not_true_eq_false, ↓reduceIte, and_self, and_true, true_and, and_false, false_and, ↓gv_e, g1, g2, gnl, Nat.reduceAdd, Nat.add_zero, reduceCtorEq, Nat.zero_add, e0]
theorem tt_show (H : qF σ0 σ 36 (m 434)) (hg : GA N (m 434)) (hN : N + 72 ≤ 1000000) (u v : Int32) : OUT σ0 σ m N (f_X8_tryToShow 0 u v σ) (f_X9_shows 433 u v m) := by
  have hW := (n_W hg.1.1).2
  have hB := (n_B hg.1.1).2
  have ep := c_place H HF_36 hg.1.1 u
  rcases plcN_in (m 434) u with q | ⟨k, hk, q⟩
  · rw [q] at ep
    have e0 := c_banqAtN H hg.1.1
    obtain ⟨m', k1, k2⟩ := end_bad (m := m) (c := 1) (by decide) (by decide)
    refine Or.inr (Or.inl ⟨nI 0, m', ?_, (x_showsN1 hg.1.1 q).trans k1, k2⟩)
    unfold f_X8_tryToShow
    simp (disch := omega) only [neg1, li_0, li_1, li_2, li_3, li_4, li_5, li_6, li_7, li_8, li_9, li_10, li_11, li_12, li_13, li_14, li_15, li_16, li_20, li_23, li_24, li_26, li_29, li_30, li_36, li_39, li_40, li_42, li_43, li_47, li_48, li_49, li_50, li_53, li_57, li_58, li_59, li_60, li_61, li_62, li_64, li_68, li_71, li_72, li_74, li_80, li_86, li_92, li_93, li_94, li_95, li_96, li_97, li_98, li_99, li_100, li_104, li_108, li_110, li_115, li_116, li_160, li_200, li_220, li_300, li_9999, nI_add, nI_mul, p_clamp, p_le, p_lt, p_eq, p_m1lt, p_m1eq, p_m1ge, p_eqm1, i_clamp, p_leT, p_leF, p_ltT, p_ltF, p_eqT, p_eqF, or_self, or_false, false_or, or_true, true_or, not_false_eq_true, not_true_eq_false, ↓reduceIte, and_self, and_true, true_and, and_false, false_and, ↓gv_e, g1, g2, gnl, Nat.reduceAdd, Nat.add_zero, reduceCtorEq, Nat.zero_add, ep, e0]
  · rw [q] at ep
    have e0 := c_banqAt H HF_36 hg.1.1 hk
    have g0 := HF_36.2.2.2.2.2.2.2.2.2 k (by omega)
    rcases in_cases v (n := iN (m 434 29)) (by omega) with ⟨t, ht, rfl⟩ | hv
    · have e1 := c_towerAt H HF_36 hg.1.1 ht
      have g1' := (HF_36.2.2.2.2.2.2.2.2.1 t (by omega)).1
      have s2 := w_atb H (i := k) (by omega) (nI t)
      obtain ⟨m', k1, k2⟩ := end_ok (m := m) (M := m) (g' := upd (m 434) (86 + k) (nI t)) xF_rf rfl rfl (mis (upd (m 434) (86 + k) (nI t)) k)
      refine Or.inl ⟨_, _, _, m', ?_, (x_shows hg.1.1 q hk ht).trans k1, s2, GA_up (GA_show hg (by omega) (by omega)) (by omega), k2⟩
      unfold f_X8_tryToShow
      simp (disch := omega) only [neg1, li_0, li_1, li_2, li_3, li_4, li_5, li_6, li_7, li_8, li_9, li_10, li_11, li_12, li_13, li_14, li_15, li_16, li_20, li_23, li_24, li_26, li_29, li_30, li_36, li_39, li_40, li_42, li_43, li_47, li_48, li_49, li_50, li_53, li_57, li_58, li_59, li_60, li_61, li_62, li_64, li_68, li_71, li_72, li_74, li_80, li_86, li_92, li_93, li_94, li_95, li_96, li_97, li_98, li_99, li_100, li_104, li_108, li_110, li_115, li_116, li_160, li_200, li_220, li_300, li_9999, nI_add, nI_mul, p_clamp, p_le, p_lt, p_eq, p_m1lt, p_m1eq, p_m1ge, p_eqm1, i_clamp, p_leT, p_leF, p_ltT, p_ltF, p_eqT, p_eqF, or_self, or_false, false_or, or_true, true_or, not_false_eq_true, not_true_eq_false, ↓reduceIte, and_self, and_true, true_and, and_false, false_and, ↓gv_e, g1, g2, gnl, Nat.reduceAdd, Nat.add_zero, reduceCtorEq, Nat.zero_add, ep, e0, g0, e1, g1']
    · have e1 := c_towerAtN H hg.1.1 hv
      obtain ⟨m', k1, k2⟩ := end_bad (m := m) (c := 2) (by decide) (by decide)
      refine Or.inr (Or.inl ⟨nI 0, m', ?_, (x_showsN2 hg.1.1 q hk hv).trans k1, k2⟩)
      unfold f_X8_tryToShow
      simp (disch := omega) only [neg1, li_0, li_1, li_2, li_3, li_4, li_5, li_6, li_7, li_8, li_9, li_10, li_11, li_12, li_13, li_14, li_15, li_16, li_20, li_23, li_24, li_26, li_29, li_30, li_36, li_39, li_40, li_42, li_43, li_47, li_48, li_49, li_50, li_53, li_57, li_58, li_59, li_60, li_61, li_62, li_64, li_68, li_71, li_72, li_74, li_80, li_86, li_92, li_93, li_94, li_95, li_96, li_97, li_98, li_99, li_100, li_104, li_108, li_110, li_115, li_116, li_160, li_200, li_220, li_300, li_9999, nI_add, nI_mul, p_clamp, p_le, p_lt, p_eq, p_m1lt, p_m1eq, p_m1ge, p_eqm1, i_clamp, p_leT, p_leF, p_ltT, p_ltF, p_eqT, p_eqF, or_self, or_false, false_or, or_true, true_or, not_false_eq_true, not_true_eq_false, ↓reduceIte, and_self, and_true, true_and, and_false, false_and, ↓gv_e, g1, g2, gnl, Nat.reduceAdd, Nat.add_zero, reduceCtorEq, Nat.zero_add, ep, e0, g0, e1]
theorem tt_pass (H : qF σ0 σ 36 (m 434)) (hg : GA N (m 434)) (hN : N + 72 ≤ 1000000) (u : Int32) : OUT σ0 σ m N (f_X8_tryToPass 0 u σ) (f_X9_passes 433 u m) := by
  have e0 := c_btw (nI 1) u (nI 72) σ
  by_cases h : nI 1 ≤ u ∧ u ≤ nI 72
  · rw [if_pos h] at e0
    obtain ⟨q, q1, q2, rfl⟩ := rng_in (by decide) h (by decide)
    obtain ⟨σ', s1, s2⟩ := cy_hours HF_36 q2 hg.1 hN H
    obtain ⟨m', k1, k2⟩ := end_ok (m := m) (M := m) (g' := psS q (m 434)) xF_rf rfl rfl (psA q (nI 0) (m 434))
    refine Or.inl ⟨σ', _, _, m', ?_, (x_passes hg.1.1 q1 q2 hN).trans k1, s2, GA_up (GA_psS q N _ hg (by omega)) (by omega), k2⟩
    unfold f_X8_tryToPass
    simp (disch := omega) only [neg1, li_0, li_1, li_2, li_3, li_4, li_5, li_6, li_7, li_8, li_9, li_10, li_11, li_12, li_13, li_14, li_15, li_16, li_20, li_23, li_24, li_26, li_29, li_30, li_36, li_39, li_40, li_42, li_43, li_47, li_48, li_49, li_50, li_53, li_57, li_58, li_59, li_60, li_61, li_62, li_64, li_68, li_71, li_72, li_74, li_80, li_86, li_92, li_93, li_94, li_95, li_96, li_97, li_98, li_99, li_100, li_104, li_108, li_110, li_115, li_116, li_160, li_200, li_220, li_300, li_9999, nI_add, nI_mul, p_clamp, p_le, p_lt, p_eq, p_m1lt, p_m1eq, p_m1ge, p_eqm1, i_clamp, p_leT, p_leF, p_ltT, p_ltF, p_eqT, p_eqF, or_self, or_false, false_or, or_true, true_or, not_false_eq_true, not_true_eq_false, ↓reduceIte, and_self, and_true, true_and, and_false, false_and, ↓gv_e, g1, g2, gnl, Nat.reduceAdd, Nat.add_zero, reduceCtorEq, Nat.zero_add, e0, s1]
  · rw [if_neg h] at e0
    obtain ⟨m', k1, k2⟩ := end_bad (m := m) (c := 1) (by decide) (by decide)
    refine Or.inr (Or.inl ⟨nI 0, m', ?_, (x_passesN h).trans k1, k2⟩)
    unfold f_X8_tryToPass
    simp (disch := omega) only [neg1, li_0, li_1, li_2, li_3, li_4, li_5, li_6, li_7, li_8, li_9, li_10, li_11, li_12, li_13, li_14, li_15, li_16, li_20, li_23, li_24, li_26, li_29, li_30, li_36, li_39, li_40, li_42, li_43, li_47, li_48, li_49, li_50, li_53, li_57, li_58, li_59, li_60, li_61, li_62, li_64, li_68, li_71, li_72, li_74, li_80, li_86, li_92, li_93, li_94, li_95, li_96, li_97, li_98, li_99, li_100, li_104, li_108, li_110, li_115, li_116, li_160, li_200, li_220, li_300, li_9999, nI_add, nI_mul, p_clamp, p_le, p_lt, p_eq, p_m1lt, p_m1eq, p_m1ge, p_eqm1, i_clamp, p_leT, p_leF, p_ltT, p_ltF, p_eqT, p_eqF, or_self, or_false, false_or, or_true, true_or, not_false_eq_true, not_true_eq_false, ↓reduceIte, and_self, and_true, true_and, and_false, false_and, ↓gv_e, g1, g2, gnl, Nat.reduceAdd, Nat.add_zero, reduceCtorEq, Nat.zero_add, e0]
/-- an order is carried out alike -/
theorem tt_all (H : qF σ0 σ 36 (m 434)) (hg : GA N (m 434)) (hN : N + 72 ≤ 1000000) {z k : Nat} (hz : gk z = 3) (hzl : gl (z + 1) = 4) (hk : k ≤ 100) (ho : oEq (σ z 0) (σ (z + 1)) (m 439) k) : OUT σ0 σ m N (f_X8_tryOrder 0 (some z) σ) (f_X9_does 433 (nI k) m) := by
  obtain ⟨o1, o2⟩ := ho
  unfold f_X8_tryOrder f_X9_does
  simp only [g1_id]
  rcases o2 with ⟨hl, a0, a1⟩ | ⟨hl, a0, a1, a2, a3⟩ | ⟨hl, a0, a1⟩ | ⟨hl, a0⟩ | ⟨hl, a0⟩
  · rw [hl] at o1
    simp (disch := omega) only [neg1, li_0, li_1, li_2, li_3, li_4, li_5, li_6, li_7, li_8, li_9, li_10, li_11, li_12, li_13, li_14, li_15, li_16, li_20, li_23, li_24, li_26, li_29, li_30, li_36, li_39, li_40, li_42, li_43, li_47, li_48, li_49, li_50, li_53, li_57, li_58, li_59, li_60, li_61, li_62, li_64, li_68, li_71, li_72, li_74, li_80, li_86, li_92, li_93, li_94, li_95, li_96, li_97, li_98, li_99, li_100, li_104, li_108, li_110, li_115, li_116, li_160, li_200, li_220, li_300, li_9999, nI_add, nI_mul, p_clamp, p_le, p_lt, p_eq, p_m1lt, p_m1eq, p_m1ge, p_eqm1, i_clamp, p_leT, p_leF, p_ltT, p_ltF, p_eqT, p_eqF, or_self, or_false, false_or, or_true, true_or, not_false_eq_true, not_true_eq_false, ↓reduceIte, and_self, and_true, true_and, and_false, false_and, ↓gv_e, g1, g2, gnl, Nat.reduceAdd, Nat.add_zero, reduceCtorEq, hz, hzl, hl, gl439, o1, a0, a1]
    exact tt_buy H hg hN _ _
  · rw [hl] at o1
    simp (disch := omega) only [neg1, li_0, li_1, li_2, li_3, li_4, li_5, li_6, li_7, li_8, li_9, li_10, li_11, li_12, li_13, li_14, li_15, li_16, li_20, li_23, li_24, li_26, li_29, li_30, li_36, li_39, li_40, li_42, li_43, li_47, li_48, li_49, li_50, li_53, li_57, li_58, li_59, li_60, li_61, li_62, li_64, li_68, li_71, li_72, li_74, li_80, li_86, li_92, li_93, li_94, li_95, li_96, li_97, li_98, li_99, li_100, li_104, li_108, li_110, li_115, li_116, li_160, li_200, li_220, li_300, li_9999, nI_add, nI_mul, p_clamp, p_le, p_lt, p_eq, p_m1lt, p_m1eq, p_m1ge, p_eqm1, i_clamp, p_leT, p_leF, p_ltT, p_ltF, p_eqT, p_eqF, or_self, or_false, false_or, or_true, true_or, not_false_eq_true, not_true_eq_false, ↓reduceIte, and_self, and_true, true_and, and_false, false_and, ↓gv_e, g1, g2, gnl, Nat.reduceAdd, Nat.add_zero, reduceCtorEq, hz, hzl, hl, gl439, o1, a0, a1, a2, a3]
    exact tt_lay H hg hN _ _ _ _
  · rw [hl] at o1
    simp (disch := omega) only [neg1, li_0, li_1, li_2, li_3, li_4, li_5, li_6, li_7, li_8, li_9, li_10, li_11, li_12, li_13, li_14, li_15, li_16, li_20, li_23, li_24, li_26, li_29, li_30, li_36, li_39, li_40, li_42, li_43, li_47, li_48, li_49, li_50, li_53, li_57, li_58, li_59, li_60, li_61, li_62, li_64, li_68, li_71, li_72, li_74, li_80, li_86, li_92, li_93, li_94, li_95, li_96, li_97, li_98, li_99, li_100, li_104, li_108, li_110, li_115, li_116, li_160, li_200, li_220, li_300, li_9999, nI_add, nI_mul, p_clamp, p_le, p_lt, p_eq, p_m1lt, p_m1eq, p_m1ge, p_eqm1, i_clamp, p_leT, p_leF, p_ltT, p_ltF, p_eqT, p_eqF, or_self, or_false, false_or, or_true, true_or, not_false_eq_true, not_true_eq_false, ↓reduceIte, and_self, and_true, true_and, and_false, false_and, ↓gv_e, g1, g2, gnl, Nat.reduceAdd, Nat.add_zero, reduceCtorEq, hz, hzl, hl, gl439, o1, a0, a1]
    exact tt_show H hg hN _ _
  · rw [hl] at o1
    simp (disch := omega) only [neg1, li_0, li_1, li_2, li_3, li_4, li_5, li_6, li_7, li_8, li_9, li_10, li_11, li_12, li_13, li_14, li_15, li_16, li_20, li_23, li_24, li_26, li_29, li_30, li_36, li_39, li_40, li_42, li_43, li_47, li_48, li_49, li_50, li_53, li_57, li_58, li_59, li_60, li_61, li_62, li_64, li_68, li_71, li_72, li_74, li_80, li_86, li_92, li_93, li_94, li_95, li_96, li_97, li_98, li_99, li_100, li_104, li_108, li_110, li_115, li_116, li_160, li_200, li_220, li_300, li_9999, nI_add, nI_mul, p_clamp, p_le, p_lt, p_eq, p_m1lt, p_m1eq, p_m1ge, p_eqm1, i_clamp, p_leT, p_leF, p_ltT, p_ltF, p_eqT, p_eqF, or_self, or_false, false_or, or_true, true_or, not_false_eq_true, not_true_eq_false, ↓reduceIte, and_self, and_true, true_and, and_false, false_and, ↓gv_e, g1, g2, gnl, Nat.reduceAdd, Nat.add_zero, reduceCtorEq, hz, hzl, hl, gl439, o1, a0]
    exact tt_take H hg hN _
  · rw [hl] at o1
    simp (disch := omega) only [neg1, li_0, li_1, li_2, li_3, li_4, li_5, li_6, li_7, li_8, li_9, li_10, li_11, li_12, li_13, li_14, li_15, li_16, li_20, li_23, li_24, li_26, li_29, li_30, li_36, li_39, li_40, li_42, li_43, li_47, li_48, li_49, li_50, li_53, li_57, li_58, li_59, li_60, li_61, li_62, li_64, li_68, li_71, li_72, li_74, li_80, li_86, li_92, li_93, li_94, li_95, li_96, li_97, li_98, li_99, li_100, li_104, li_108, li_110, li_115, li_116, li_160, li_200, li_220, li_300, li_9999, nI_add, nI_mul, p_clamp, p_le, p_lt, p_eq, p_m1lt, p_m1eq, p_m1ge, p_eqm1, i_clamp, p_leT, p_leF, p_ltT, p_ltF, p_eqT, p_eqF, or_self, or_false, false_or, or_true, true_or, not_false_eq_true, not_true_eq_false, ↓reduceIte, and_self, and_true, true_and, and_false, false_and, ↓gv_e, g1, g2, gnl, Nat.reduceAdd, Nat.add_zero, reduceCtorEq, hz, hzl, hl, gl439, o1, a0]
    exact tt_pass H hg hN _
end
