/-! THE PURE SIDE OF THE LAW: a course, or why not -/
theorem two_e {c d : Prop} [Decidable c] [Decidable d] {α : Type} {X Y : α} (h : c → d) : (if c then (if d then X else Y) else X) = X := by
  by_cases q : c
  · rw [if_pos q, if_pos (h q)]
  · rw [if_neg q]
/-- what is told with each reason -/
def blw (g : Nat → Int32) (w : Nat) : Int32 := if gC g w = 0 then nI 20 else cub g w (gC g w - 1)
theorem why_cases (g : Nat → Int32) (w k i q : Nat) : (whyR g w k i q = nI 1 ∧ whyD g w k i q = nI 10) ∨ (whyR g w k i q = nI 4 ∧ whyD g w k i q = g (53 + k)) ∨ (whyR g w k i q = nI 5 ∧ whyD g w k i q = g (49 + k)) ∨ (whyR g w k i q = nI 6 ∧ whyD g w k i q = g (26 + i)) ∨ (whyR g w k i q = nI 7 ∧ whyD g w k i q = blw g w) ∨ (whyR g w k i q = nI 0) ∨ (whyR g w k i q = nI 8 ∧ whyD g w k i q = weak g w (g (30 + w)) (nI q) ∧ weak g w (g (30 + w)) (nI q) ≠ m1) := by
  unfold whyR whyD blw
  by_cases q1 : gC g w = 10
  · rw [if_pos q1, if_pos q1]; exact Or.inl ⟨rfl, rfl⟩
  rw [if_neg q1, if_neg q1]
  by_cases q2 : nI 0 < g (53 + k)
  · rw [if_pos q2, if_pos q2]; exact Or.inr (Or.inl ⟨rfl, rfl⟩)
  rw [if_neg q2, if_neg q2]
  by_cases q3 : g (49 + k) ≤ nI (gC g w)
  · rw [if_pos q3, if_pos q3]; exact Or.inr (Or.inr (Or.inl ⟨rfl, rfl⟩))
  rw [if_neg q3, if_neg q3]
  by_cases q4 : g (26 + i) < nI q
  · rw [if_pos q4, if_pos q4]; exact Or.inr (Or.inr (Or.inr (Or.inl ⟨rfl, rfl⟩)))
  rw [if_neg q4, if_neg q4]
  by_cases q5 : (if gC g w = 0 then nI 20 else cub g w (gC g w - 1)) < nI q
  · rw [if_pos q5, if_pos q5]; exact Or.inr (Or.inr (Or.inr (Or.inr (Or.inl ⟨rfl, rfl⟩))))
  rw [if_neg q5, if_neg q5]
  by_cases q6 : weak g w (g (30 + w)) (nI q) = m1
  · rw [if_pos q6]; exact Or.inr (Or.inr (Or.inr (Or.inr (Or.inr (Or.inl rfl)))))
  rw [if_neg q6, if_neg q6]; exact Or.inr (Or.inr (Or.inr (Or.inr (Or.inr (Or.inr ⟨rfl, rfl, q6⟩)))))
theorem rf0 {σ : gMem} {r d : Int32} (hr : r ≠ nI 0) : f_X8_refusal 0 (0 : Int32) (rfM σ r d) = some (0, r, rfM σ r d) := d_refusal hr 0 (by decide)
theorem rf1 {σ : gMem} {r d : Int32} (hr : r ≠ nI 0) : f_X8_refusal 0 (1 : Int32) (rfM σ r d) = some (0, d, rfM σ r d) := d_refusal hr 1 (by decide)
section
variable {N cnt n L : Nat} {mx my : gMem} {g f t : Nat → Int32} {xs : Nat → Int32}
theorem S_636_ok {M w i q : Nat} {v6 r d : Int32} (H : CR N mx g f cnt (some g) n t) (hN : N ≤ 9000) (hM : M < 1000000) (hNB : NB M g) (hw : w < iN (g 29)) (hi : i < 3) (h8 : r = nI 8 → ∃ c, d = nI c ∧ c < gC g w ∧ bear g w c (g (30 + w)) < ab g w c + nI q) : S_636 xs L (g 29) (stG g) v6 (nI w) (nI i) (nI q) (g (36 + w)) (g (26 + i)) r d mx my = some 1 := by
  have hE : S_669 xs L (g 29) (stG g) v6 (nI w) (nI i) (g (36 + w)) (g (26 + i)) mx my = some 1 := S_784_ok H hN hM hNB hw hi
  unfold S_636
  by_cases q8 : r = nI 8
  · obtain ⟨c, c1, c2, c3⟩ := h8 q8
    subst c1
    refine (if_pos q8).trans ?_
    refine (gx0_e (d_courseOf H hw c2 (k := 3) (by decide))).trans ?_
    refine (gx0_e (d_courseOf H hw c2 (k := 2) (by decide))).trans ?_
    refine (if_pos ?_).trans hE
    exact c3
  · exact (if_neg q8).trans hE
theorem S_580_ok {M w i q : Nat} {v6 v12 v15 v16 r d : Int32} (H : CR N mx g f cnt (some g) n t) (hN : N ≤ 9000) (hM : M < 1000000) (hNB : NB M g) (hw : w < iN (g 29)) (hi : i < 3) (h4 : r = nI 4 → d = v15) (h5 : r = nI 5 → d = v16) (h6 : r = nI 6 → d = g (26 + i)) (h7 : r = nI 7 → d = v12) (h8 : r = nI 8 → ∃ c, d = nI c ∧ c < gC g w ∧ bear g w c (g (30 + w)) < ab g w c + nI q) : S_580 xs L (g 29) (stG g) v6 (nI w) (nI i) (nI q) (g (36 + w)) v12 (g (26 + i)) v15 v16 r d mx my = some 1 := by
  have hE := S_636_ok (xs := xs) (L := L) (my := my) (v6 := v6) H hN hM hNB hw hi h8
  unfold S_580
  refine (two_e h4).trans ?_
  unfold S_593
  refine (two_e h5).trans ?_
  unfold S_606
  refine (two_e h6).trans ?_
  unfold S_620
  exact (two_e h7).trans hE
theorem S_483_y {M w k i q : Nat} {v6 : Int32} (H : CR N mx g f cnt (some g) n t) (hN : N ≤ 9000) (hM : M < 1000000) (hNB : NB M g) (hw : w < iN (g 29)) (hk : k < iN (g 48)) (hi : i < 3) (hq1 : 1 ≤ q) (hq : q ≤ 20) (r0 : whyR g w k i q = nI 0) : S_483 xs L (g 29) (stG g) v6 (nI w) (nI k) (nI i) (nI q) (g (36 + w)) (blw g w) (g (26 + i)) (g (53 + k)) (g (49 + k)) (whyR g w k i q) mx my = some 1 := by
  obtain ⟨σ1, e1, H1⟩ := d_why H hw hk hi hq1 hq
  have hg := CR_G H
  have hW := (n_W hg.1.1).2
  have hT := (n_T hg.1.1).2
  obtain ⟨hC1, hC2⟩ := gC_of hg.1.1 (t := w) (by omega)
  unfold S_483
  refine (gx0_e e1).trans ?_
  refine (if_pos rfl).trans ?_
  refine (gx0_e (d_state H1)).trans ?_
  refine (if_pos rfl).trans ?_
  obtain ⟨a1, a2, a3, a4, a5⟩ := whyR_10 r0
  obtain ⟨st, hst, hst3⟩ := b_stk hg.1.1 hi
  rw [hst, p_lt (by omega) (by omega)] at a4
  obtain ⟨σ2, e2, H2⟩ := a_lay H1 hw hk hi hq1 hq r0
  obtain ⟨G, hG⟩ : ∃ G, G = layG g w k i q := ⟨_, rfl⟩
  have c29 : G 29 = g 29 := by rw [hG]; unfold layG; simp only [upd_ap]; rw [if_neg (by omega), if_neg (by omega), if_neg (by omega), if_neg (by omega), if_neg (by omega), if_neg (by omega)]
  have c48 : G 48 = g 48 := by rw [hG]; unfold layG; simp only [upd_ap]; rw [if_neg (by omega), if_neg (by omega), if_neg (by omega), if_neg (by omega), if_neg (by omega), if_neg (by omega)]
  have c36 : G (36 + w) = nI (gC g w + 1) := by rw [hG]; unfold layG; simp only [upd_ap]; rw [if_neg (by omega), if_neg (by omega), if_neg (by omega), if_pos trivial]
  have c26 : G (26 + i) = nI (st - q) := by rw [hG]; unfold layG; simp only [upd_ap]; rw [if_neg (by omega), if_neg (by omega), if_pos trivial, hst, nI_sub (by omega)]
  have c53 : G (53 + k) = nI (q / 5 + 1) := by rw [hG]; unfold layG; simp only [upd_ap]; rw [if_neg (by omega), if_pos trivial]
  have cg : G (100 + 10 * w + gC g w) = nI i := by rw [hG]; unfold layG; simp only [upd_ap]; rw [if_neg (by omega), if_neg (by omega), if_neg (by omega), if_neg (by omega), if_neg (by omega), if_pos trivial]
  have cc : G (160 + 10 * w + gC g w) = nI q := by rw [hG]; unfold layG; simp only [upd_ap]; rw [if_neg (by omega), if_neg (by omega), if_neg (by omega), if_neg (by omega), if_pos trivial]
  rw [← hG] at H2
  have hGC : gC G w = gC g w + 1 := by show iN (G (36 + w)) = _; rw [c36]; exact i_clamp (by omega)
  have hw2 : w < iN (G 29) := by rw [c29]; exact hw
  have hk2 : k < iN (G 48) := by rw [c48]; exact hk
  refine (g1_e e2).trans ?_
  refine (if_pos r0).trans ?_
  refine (if_pos hC1.symm).trans ?_
  have d0 : f_X8_courseOf 0 (nI w) (g (36 + w)) (0 : Int32) σ2 = some (0, nI i, σ2) := by
    have := d_courseOf H2 hw2 (c := gC g w) (by omega) (k := 0) (by decide)
    rw [show csv G w (gC g w) 0 = nI i from cg, ← hC1] at this
    exact this
  refine (gx0_e d0).trans ?_
  refine (if_pos rfl).trans ?_
  have d1 : f_X8_courseOf 0 (nI w) (g (36 + w)) (1 : Int32) σ2 = some (0, nI q, σ2) := by
    have := d_courseOf H2 hw2 (c := gC g w) (by omega) (k := 1) (by decide)
    rw [show csv G w (gC g w) 1 = nI q from cc, ← hC1] at this
    exact this
  refine (gx0_e d1).trans ?_
  refine (if_pos rfl).trans ?_
  refine (gx0_e (d_stock H2 hi)).trans ?_
  refine (if_pos (show G (26 + i) = g (26 + i) - nI q by rw [c26, hst, nI_sub (by omega)])).trans ?_
  have d3 : f_X8_tongsOf 0 (nI k) (1 : Int32) σ2 = some (0, nI (q / 5 + 1), σ2) := by
    have := d_tongsOf H2 hk2 (k := 1) (by decide)
    rw [show tgv G k 1 = nI (q / 5 + 1) from c53] at this
    exact this
  refine (gx0_e d3).trans ?_
  refine (if_pos (show nI (q / 5 + 1) = nI q / nI 5 + (1 : Int32) by rw [p_div (by omega) (by decide)]; exact (nI_add _ 1).symm)).trans ?_
  obtain ⟨σ3, e3, H3⟩ := a_take H2 hw2 (by omega) (0 : Int32) (0 : Int32) (0 : Int32)
  have hcu : cub G w (gC G w - 1) = nI q := by rw [hGC]; exact cc
  have hgr : grd G w (gC G w - 1) = nI i := by rw [hGC]; exact cg
  have htm : takM G w = q := by
    unfold takM
    rw [hgr, hcu, i_clamp (by omega), i_clamp (by omega), c26, i_clamp (by omega), if_neg (by omega)]
  rw [hcu] at e3
  refine (g1_e e3).trans ?_
  refine (if_pos rfl).trans ?_
  obtain ⟨Q, hQ⟩ : ∃ Q, Q = takG G w := ⟨_, rfl⟩
  have q29 : Q 29 = g 29 := by rw [hQ]; unfold takG; rw [hgr, i_clamp (by omega)]; simp only [upd_ap]; rw [if_neg (by omega), if_neg (by omega), if_neg (by omega)]; exact c29
  have q26 : Q (26 + i) = nI st := by rw [hQ]; unfold takG; rw [hgr, i_clamp (by omega)]; simp only [upd_ap]; rw [if_neg (by omega), if_pos trivial, c26, htm, nI_add, show st - q + q = st by omega]
  have q36 : Q (36 + w) = nI (gC g w) := by rw [hQ]; unfold takG; rw [hgr, i_clamp (by omega)]; simp only [upd_ap]; rw [if_neg (by omega), if_neg (by omega), if_pos trivial, hGC]; rfl
  rw [← hQ] at H3
  refine (gx0_e (d_stock H3 hi)).trans ?_
  refine (if_pos (show Q (26 + i) = g (26 + i) by rw [q26, hst])).trans ?_
  have d5 : f_X8_towerOf 0 (nI w) (0 : Int32) σ3 = some (0, Q (36 + w), σ3) := d_towerOf H3 (w := w) (by rw [q29]; exact hw) (k := 0) (by decide)
  refine (gx0_e d5).trans ?_
  refine (if_pos (show Q (36 + w) = g (36 + w) by rw [q36, hC1])).trans ?_
  obtain ⟨σ4, e4, H4⟩ := d_restore H3
  refine (gx0_e e4).trans ?_
  exact S_784_ok H4 hN hM hNB hw hi
theorem S_483_n {M w k i q : Nat} {v6 : Int32} (H : CR N mx g f cnt (some g) n t) (hN : N ≤ 9000) (hM : M < 1000000) (hNB : NB M g) (hw : w < iN (g 29)) (hk : k < iN (g 48)) (hi : i < 3) (hq1 : 1 ≤ q) (hq : q ≤ 20) (r0 : whyR g w k i q ≠ nI 0) : S_483 xs L (g 29) (stG g) v6 (nI w) (nI k) (nI i) (nI q) (g (36 + w)) (blw g w) (g (26 + i)) (g (53 + k)) (g (49 + k)) (whyR g w k i q) mx my = some 1 := by
  obtain ⟨σ1, e1, H1⟩ := d_why H hw hk hi hq1 hq
  have hg := CR_G H
  have hW := (n_W hg.1.1).2
  have hT := (n_T hg.1.1).2
  obtain ⟨hC1, hC2⟩ := gC_of hg.1.1 (t := w) (by omega)
  have hc := why_cases g w k i q
  have e2 := a_layN H1 hw hk hi hq1 hq r0
  obtain ⟨r, hr⟩ : ∃ r, r = whyR g w k i q := ⟨_, rfl⟩
  obtain ⟨d, hd⟩ : ∃ d, d = whyD g w k i q := ⟨_, rfl⟩
  rw [← hr, ← hd] at hc e2
  rw [← hr] at r0 e1 ⊢
  unfold S_483
  refine (gx0_e e1).trans ?_
  refine (if_pos rfl).trans ?_
  refine (gx0_e (d_state H1)).trans ?_
  refine (if_pos rfl).trans ?_
  refine (g1_e e2).trans ?_
  refine (if_neg r0).trans ?_
  refine (gx0_e (rf1 r0)).trans ?_
  refine (if_pos rfl).trans ?_
  refine (gx0_e (rf0 r0)).trans ?_
  refine (if_pos rfl).trans ?_
  have H2 := CR_ref H1 r d
  refine (gx0_e (d_state H2)).trans ?_
  refine (if_pos rfl).trans ?_
  refine (two_e (X := S_580 xs L (g 29) (stG g) v6 (nI w) (nI i) (nI q) (g (36 + w)) (blw g w) (g (26 + i)) (g (53 + k)) (g (49 + k)) r d (rfM σ1 r d) my) ?_).trans (S_580_ok H2 hN hM hNB hw hi ?_ ?_ ?_ ?_ ?_)
  · intro h
    rcases hc with ⟨c, z⟩ | ⟨c, z⟩ | ⟨c, z⟩ | ⟨c, z⟩ | ⟨c, z⟩ | c | ⟨c, z⟩
    · exact z
    all_goals exact absurd (c.symm.trans h) (by decide)
  · intro h
    rcases hc with ⟨c, z⟩ | ⟨c, z⟩ | ⟨c, z⟩ | ⟨c, z⟩ | ⟨c, z⟩ | c | ⟨c, z⟩
    · exact absurd (c.symm.trans h) (by decide)
    · exact z
    all_goals exact absurd (c.symm.trans h) (by decide)
  · intro h
    rcases hc with ⟨c, z⟩ | ⟨c, z⟩ | ⟨c, z⟩ | ⟨c, z⟩ | ⟨c, z⟩ | c | ⟨c, z⟩
    · exact absurd (c.symm.trans h) (by decide)
    · exact absurd (c.symm.trans h) (by decide)
    · exact z
    all_goals exact absurd (c.symm.trans h) (by decide)
  · intro h
    rcases hc with ⟨c, z⟩ | ⟨c, z⟩ | ⟨c, z⟩ | ⟨c, z⟩ | ⟨c, z⟩ | c | ⟨c, z⟩
    · exact absurd (c.symm.trans h) (by decide)
    · exact absurd (c.symm.trans h) (by decide)
    · exact absurd (c.symm.trans h) (by decide)
    · exact z
    all_goals exact absurd (c.symm.trans h) (by decide)
  · intro h
    rcases hc with ⟨c, z⟩ | ⟨c, z⟩ | ⟨c, z⟩ | ⟨c, z⟩ | ⟨c, z⟩ | c | ⟨c, z⟩
    · exact absurd (c.symm.trans h) (by decide)
    · exact absurd (c.symm.trans h) (by decide)
    · exact absurd (c.symm.trans h) (by decide)
    · exact absurd (c.symm.trans h) (by decide)
    · exact z
    all_goals exact absurd (c.symm.trans h) (by decide)
  · intro h
    rcases hc with ⟨c, z⟩ | ⟨c, z⟩ | ⟨c, z⟩ | ⟨c, z⟩ | ⟨c, z⟩ | c | ⟨c, z, z2⟩
    · exact absurd (c.symm.trans h) (by decide)
    · exact absurd (c.symm.trans h) (by decide)
    · exact absurd (c.symm.trans h) (by decide)
    · exact absurd (c.symm.trans h) (by decide)
    · exact absurd (c.symm.trans h) (by decide)
    · exact absurd (c.symm.trans h) (by decide)
    · rcases weak_in g w (g (30 + w)) (nI q) with q9 | ⟨j, j1, j2⟩
      · exact absurd q9 z2
      · refine ⟨j, z.trans j2, j1, ?_⟩
        unfold weak at j2
        exact (wk_hit (by omega) _ _ (by omega) j2).2.2
theorem S_483_ok {M w k i q : Nat} {v6 : Int32} (H : CR N mx g f cnt (some g) n t) (hN : N ≤ 9000) (hM : M < 1000000) (hNB : NB M g) (hw : w < iN (g 29)) (hk : k < iN (g 48)) (hi : i < 3) (hq1 : 1 ≤ q) (hq : q ≤ 20) : S_483 xs L (g 29) (stG g) v6 (nI w) (nI k) (nI i) (nI q) (g (36 + w)) (blw g w) (g (26 + i)) (g (53 + k)) (g (49 + k)) (whyR g w k i q) mx my = some 1 := by
  by_cases r0 : whyR g w k i q = nI 0
  · exact S_483_y H hN hM hNB hw hk hi hq1 hq r0
  · exact S_483_n H hN hM hNB hw hk hi hq1 hq r0
theorem S_379_ok {M w k i q : Nat} {v6 : Int32} (H : CR N mx g f cnt (some g) n t) (hN : N ≤ 9000) (hM : M < 1000000) (hNB : NB M g) (hw : w < iN (g 29)) (hk : k < iN (g 48)) (hi : i < 3) (hq1 : 1 ≤ q) (hq : q ≤ 20) : S_379 xs L (g 29) (stG g) v6 (nI w) (nI k) (nI i) (nI q) (g (36 + w)) (blw g w) mx my = some 1 := by
  have hE := S_483_ok (xs := xs) (L := L) (my := my) (v6 := v6) H hN hM hNB hw hk hi hq1 hq
  have hg := CR_G H
  have hW := (n_W hg.1.1).2
  obtain ⟨hC1, hC2⟩ := gC_of hg.1.1 (t := w) (by omega)
  obtain ⟨s, hs, hs2, hs3⟩ := spr_iff hg (t := w) (by omega) hq
  have d1 : f_X8_tongsOf 0 (nI k) (1 : Int32) mx = some (0, g (53 + k), mx) := d_tongsOf H hk (k := 1) (by decide)
  have d0 : f_X8_tongsOf 0 (nI k) (0 : Int32) mx = some (0, g (49 + k), mx) := d_tongsOf H hk (k := 0) (by decide)
  unfold S_379
  refine (gx0_e (d_stock H hi)).trans ?_
  refine (gx0_e (d_spare H hw)).trans ?_
  refine (gx0_e d1).trans ?_
  refine (gx0_e d0).trans ?_
  unfold whyR at hE
  by_cases q1 : gC g w = 10
  · rw [if_pos q1] at hE
    refine (if_pos (show g (36 + w) = nI 10 by rw [hC1, q1])).trans ?_
    exact hE
  rw [if_neg q1] at hE
  refine (if_neg (show ¬ g (36 + w) = nI 10 by rw [hC1, p_eq (by omega) (by decide)]; exact q1)).trans ?_
  by_cases q2 : nI 0 < g (53 + k)
  · rw [if_pos q2] at hE
    refine (if_neg (show ¬ g (53 + k) ≤ nI 0 from Int32.not_le.mpr q2)).trans ?_
    exact hE
  rw [if_neg q2] at hE
  refine (if_pos (show g (53 + k) ≤ nI 0 from Int32.not_lt.mp q2)).trans ?_
  by_cases q3 : g (49 + k) ≤ nI (gC g w)
  · rw [if_pos q3] at hE
    refine (if_neg (show ¬ g (36 + w) < g (49 + k) by rw [hC1]; exact Int32.not_lt.mpr q3)).trans ?_
    exact hE
  rw [if_neg q3] at hE
  refine (if_pos (show g (36 + w) < g (49 + k) by rw [hC1]; exact Int32.not_le.mp q3)).trans ?_
  by_cases q4 : g (26 + i) < nI q
  · rw [if_pos q4] at hE
    refine (if_neg (show ¬ nI q ≤ g (26 + i) from Int32.not_le.mpr q4)).trans ?_
    exact hE
  rw [if_neg q4] at hE
  refine (if_pos (show nI q ≤ g (26 + i) from Int32.not_lt.mp q4)).trans ?_
  by_cases q5 : (if gC g w = 0 then nI 20 else cub g w (gC g w - 1)) < nI q
  · rw [if_pos q5] at hE
    refine (if_neg (show ¬ nI q ≤ blw g w from Int32.not_le.mpr q5)).trans ?_
    exact hE
  rw [if_neg q5] at hE
  refine (if_pos (show nI q ≤ blw g w from Int32.not_lt.mp q5)).trans ?_
  by_cases q6 : weak g w (g (30 + w)) (nI q) = m1
  · rw [if_pos q6] at hE
    refine (if_pos (show nI q ≤ spr g w 0 (gC g w) by rw [hs, p_le (by omega) (by omega)]; exact Nat.le_of_not_lt (fun h => hs3.mp h q6))).trans ?_
    exact hE
  · rw [if_neg q6] at hE
    refine (if_neg (show ¬ nI q ≤ spr g w 0 (gC g w) by rw [hs, p_le (by omega) (by omega)]; have := hs3.mpr q6; omega)).trans ?_
    exact hE
end
