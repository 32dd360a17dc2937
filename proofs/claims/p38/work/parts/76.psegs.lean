/-! THE PURE SIDE OF THE LAW: its segments, the last first -/
theorem plc_cong {g g' : Nat → Int32} {b : Int32} : ∀ n k, (∀ i, k ≤ i → i < k + n → g' (62 + i) = g (62 + i)) → plc g' b k n = plc g b k n := by
  intro n
  induction n with
  | zero => intro k _; rfl
  | succ n ih =>
    intro k h
    rw [plc, plc, h k (Nat.le_refl _) (by omega), ih (k + 1) (fun i q1 q2 => h i (by omega) (by omega))]
section
variable {N cnt n L : Nat} {mx my : gMem} {g g' f t : Nat → Int32} {xs : Nat → Int32}
theorem S_1132_ok (H : CR N mx g' f cnt (some g) n t) : S_1132 xs L (g 29) (stG g) mx my = some 1 := by
  obtain ⟨σ', e, H2⟩ := d_restore H
  unfold S_1132
  refine (gx0_e e).trans ?_
  refine (if_pos rfl).trans ?_
  refine (gx0_e (d_account16 H2)).trans ?_
  refine (if_pos rfl).trans ?_
  refine (gx0_e (d_state H2)).trans ?_
  exact if_pos rfl
theorem S_927_ok {M w : Nat} (H : CR N mx g' f cnt (some g) n t) (hN : N ≤ 9000) (hM : M < 1000000) (hNB : NB M g) (hw : w < iN (g 29)) : S_927 xs L (g 29) (stG g) (nI w) (g (36 + w)) mx my = some 1 := by
  obtain ⟨σ', e, H2⟩ := d_restore H
  have hg := CR_G H2
  have hW := (n_W hg.1.1).2
  obtain ⟨h, hh, hhN⟩ := b_hour hg.1.1
  obtain ⟨B, hB, hB6⟩ := b_nB hg.1.1
  have hB' : iN (g 61) = B := by rw [hB, i_clamp (by omega)]
  obtain ⟨hC1, hC2⟩ := gC_of hg.1.1 (t := w) (by omega)
  unfold S_927
  refine (gx0_e e).trans ?_
  have a0 : f_X8_account 0 (0 : Int32) σ' = some (0, nI h, σ') := by
    have := d_account H2 (k := 0) (by decide)
    rw [show acc g 0 = nI h from hh] at this
    exact this
  have a5 : f_X8_account 0 (5 : Int32) σ' = some (0, nI B, σ') := by
    have := d_account H2 (k := 5) (by decide)
    rw [show acc g 5 = nI B from hB] at this
    exact this
  refine (gx0_e a0).trans ?_
  refine (gx0_e a5).trans ?_
  by_cases q : B = 6
  · subst q
    refine (if_pos (Int32.le_refl _)).trans ?_
    have r1 : bqR g (h + 9) = nI 1 := by unfold bqR; rw [if_pos hB']
    have r2 : bqD g = nI 6 := by unfold bqD; rw [if_pos hB']
    have ea : f_L_act 0 (3 : Int32) (nI h + (9 : Int32)) (2 : Int32) (7 : Int32) (0 : Int32) σ' = some ((-1 : Int32), rfM σ' (nI 1) (nI 6)) := by
      have ea := a_banquetN H2 (u := h + 9) (a := 2) (b := 7) (by omega) (by decide) (by decide) (by decide) (by decide) (by rw [r1]; decide) (0 : Int32)
      rw [r1, r2] at ea
      rw [show nI h + (9 : Int32) = nI (h + 9) from nI_add h 9]
      exact ea
    refine (g1_e ea).trans ?_
    refine (if_pos rfl).trans ?_
    refine (gx0_e (d_refusal (r := nI 1) (d := nI 6) (by decide) 0 (by decide))).trans ?_
    refine (if_pos rfl).trans ?_
    refine (gx0_e (d_refusal (r := nI 1) (d := nI 6) (by decide) 1 (by decide))).trans ?_
    refine (if_pos rfl).trans ?_
    exact S_1132_ok (CR_ref H2 _ _)
  · have hB5 : B < 6 := by omega
    refine (if_neg (show ¬ nI 6 ≤ nI B by rw [p_le (by omega) (by omega)]; omega)).trans ?_
    have r1 : bqR g h = nI 10 := by
      unfold bqR
      rw [hB', if_neg q, hh, if_neg (by rw [p_lt (by omega) (by omega)]; omega)]
    have r2 : bqD g = nI h := by unfold bqD; rw [hB', if_neg q]; exact hh
    have ea : f_L_act 0 (3 : Int32) (nI h) (1 : Int32) (1 : Int32) (0 : Int32) σ' = some ((-1 : Int32), rfM σ' (nI 10) (nI h)) := by
      have ea := a_banquetN H2 (u := h) (a := 1) (b := 1) (by omega) (by decide) (by decide) (by decide) (by decide) (by rw [r1]; decide) (0 : Int32)
      rw [r1, r2] at ea
      exact ea
    refine (g1_e ea).trans ?_
    refine (if_pos rfl).trans ?_
    refine (gx0_e (d_refusal (r := nI 10) (d := nI h) (by decide) 0 (by decide))).trans ?_
    refine (if_pos rfl).trans ?_
    refine (gx0_e (d_refusal (r := nI 10) (d := nI h) (by decide) 1 (by decide))).trans ?_
    refine (if_pos rfl).trans ?_
    have H3 := CR_ref H2 (nI 10) (nI h)
    have r3 : bqR g (h + 9) = nI 0 := by
      unfold bqR
      rw [hB', if_neg q, hh, if_pos (by rw [p_lt (by omega) (by omega)]; omega)]
    obtain ⟨σ5, e5, H5⟩ := a_banquet H3 (u := h + 9) (a := 2) (b := 7) (by omega) (by decide) (by decide) (by decide) (by decide) r3 (0 : Int32)
    rw [← show nI h + (9 : Int32) = nI (h + 9) from nI_add h 9] at e5
    refine (g1_e e5).trans ?_
    have hp := plc_new (u := nI (h + 9)) (v := nI 2) (x := nI 7) hNB hM hB' hB5
    obtain ⟨-, b61, -, -⟩ := NB_bnq (u := nI (h + 9)) (v := nI 2) (x := nI 7) hNB hB' hB5
    obtain ⟨b, b1, b2, b3⟩ := hNB
    rw [hB'] at H5
    obtain ⟨g5, hg5⟩ : ∃ g5, g5 = bnqG g B (nI (h + 9)) (nI 2) (nI 7) := ⟨_, rfl⟩
    have c29 : g5 29 = g 29 := by rw [hg5]; unfold bnqG; simp only [upd_ap]; rw [if_neg (by omega), if_neg (by omega), if_neg (by omega), if_neg (by omega), if_neg (by omega), if_neg (by omega), if_neg (by omega)]
    have cw : ∀ j, j < 61 → g5 j = g j := fun j hj => by rw [hg5]; unfold bnqG; simp only [upd_ap]; rw [if_neg (by omega), if_neg (by omega), if_neg (by omega), if_neg (by omega), if_neg (by omega), if_neg (by omega), if_neg (by omega)]
    have c86 : g5 (86 + B) = m1 := by rw [hg5]; unfold bnqG; simp only [upd_ap]; rw [if_neg (by omega), if_neg (by omega), if_pos trivial]
    have c74 : g5 (74 + B) = nI 2 := by rw [hg5]; unfold bnqG; simp only [upd_ap]; rw [if_neg (by omega), if_neg (by omega), if_neg (by omega), if_neg (by omega), if_pos trivial]
    rw [← hg5] at H5 hp b61
    have hk : B < iN (g5 61) := by rw [b61, i_clamp (by omega)]; omega
    refine (if_neg (show ¬ g 92 < nI 0 by rw [b2, p_lt (by omega) (by omega)]; omega)).trans ?_
    have a5' : f_X8_account 0 (5 : Int32) σ5 = some (0, nI (B + 1), σ5) := by
      have := d_account H5 (k := 5) (by decide)
      rw [show acc g5 5 = nI (B + 1) from b61] at this
      exact this
    refine (gx0_e a5').trans ?_
    refine (if_pos (show nI (B + 1) = nI B + (1 : Int32) from (nI_add B 1).symm)).trans ?_
    have d3 : f_X8_banquetOf 0 (g 92) (3 : Int32) σ5 = some (0, m1, σ5) := by
      have := d_banquetOf H5 hp hk (v := 3) (Or.inl rfl)
      rw [show bqv g5 B 3 = m1 from c86] at this
      exact this
    refine (gx0_e d3).trans ?_
    refine (if_pos rfl).trans ?_
    have d4 : f_X8_banquetOf 0 (g 92) (4 : Int32) σ5 = some (0, nI 2, σ5) := by
      have := d_banquetOf H5 hp hk (v := 4) (Or.inr rfl)
      have em : bqv g5 B 4 = nI 2 := by
        show mis g5 B = nI 2
        unfold mis
        rw [c86, c74, if_pos rfl]
        decide
      rw [em] at this
      exact this
    refine (gx0_e d4).trans ?_
    refine (if_pos rfl).trans ?_
    have hw5 : w < iN (g5 29) := by rw [c29]; exact hw
    obtain ⟨σ6, e6, H6⟩ := d_show H5 hp hk hw5
    obtain ⟨g6, hg6⟩ : ∃ g6, g6 = upd g5 (86 + B) (nI w) := ⟨_, rfl⟩
    rw [← hg6] at e6 H6
    have c6 : ∀ j, j ≠ 86 + B → g6 j = g5 j := fun j hj => by rw [hg6, upd_ap, if_neg hj]
    have c686 : g6 (86 + B) = nI w := by rw [hg6, upd_ap, if_pos rfl]
    have em : mis g6 B = if nI 0 < nI 2 - g (36 + w) then nI 2 - g (36 + w) else nI 0 := by
      have hv : g6 (74 + B) - (if g6 (86 + B) = m1 then nI 0 else g6 (36 + iN (g6 (86 + B)))) = nI 2 - g (36 + w) := by
        rw [c686, if_neg (show ¬ nI w = m1 from nI_nm (by omega)), i_clamp (by omega), c6 (74 + B) (by omega), c74, c6 (36 + w) (by omega), cw (36 + w) (by omega)]
      rw [mx0, ← hv]
      rfl
    rw [em] at e6
    refine (gx0_e e6).trans ?_
    refine (if_pos rfl).trans ?_
    have hp6 : plcN g6 (g 92) = nI B := by
      rw [← hp]
      unfold plcN
      rw [c6 61 (by omega), b61, i_clamp (by omega)]
      exact plc_cong _ _ (fun i q1 q2 => c6 _ (by omega))
    have hk6 : B < iN (g6 61) := by rw [c6 61 (by omega)]; exact hk
    have d3' : f_X8_banquetOf 0 (g 92) (3 : Int32) σ6 = some (0, nI w, σ6) := by
      have := d_banquetOf H6 hp6 hk6 (v := 3) (Or.inl rfl)
      rw [show bqv g6 B 3 = nI w from c686] at this
      exact this
    refine (gx0_e d3').trans ?_
    refine (if_pos rfl).trans ?_
    obtain ⟨σ7, e7, H7⟩ := d_cancel H6 hp6 hk6
    have e61 : drG g6 B 61 = nI B := by
      unfold drG
      rw [if_pos rfl, c6 61 (by omega), b61, i_clamp (by omega)]
      rfl
    rw [e61] at e7
    refine (gx0_e e7).trans ?_
    refine (if_pos rfl).trans ?_
    exact S_1132_ok H7
theorem S_784_ok {M w i : Nat} {v6 : Int32} (H : CR N mx g f cnt (some g) n t) (hN : N ≤ 9000) (hM : M < 1000000) (hNB : NB M g) (hw : w < iN (g 29)) (hi : i < 3) : S_784 xs L (g 29) (stG g) v6 (nI w) (nI i) (g (36 + w)) (g (26 + i)) mx my = some 1 := by
  have hg := CR_G H
  obtain ⟨c, hc, hcN⟩ := b_coin hg.1.1
  obtain ⟨st, hst, hst3⟩ := b_stk hg.1.1 hi
  obtain ⟨a, ha, ha2⟩ := and_n (v6 >>> ((9 : Int32) &&& 31)) (m := 31) (by decide)
  obtain ⟨p, hp⟩ : ∃ p, p = (1 + a) * (i + 1) := ⟨_, rfl⟩
  have hp1 : p ≤ 96 := by
    rw [hp]
    calc (1 + a) * (i + 1) ≤ 32 * 3 := Nat.mul_le_mul (by omega) (by omega)
      _ = 96 := rfl
  have x1 : (1 : Int32) + ((v6 >>> ((9 : Int32) &&& 31)) &&& (31 : Int32)) = nI (1 + a) := by
    rw [show (v6 >>> ((9 : Int32) &&& 31)) &&& (31 : Int32) = nI a from ha2]
    exact nI_add 1 a
  have x2 : nI (1 + a) * (nI i + (1 : Int32)) = nI p := by
    rw [show nI i + (1 : Int32) = nI (i + 1) from nI_add i 1, nI_mul, hp]
  have a1 : f_X8_account 0 (1 : Int32) mx = some (0, nI c, mx) := by
    have := d_account H (k := 1) (by decide)
    rw [show acc g 1 = nI c from hc] at this
    exact this
  unfold S_784
  refine (gx0_e a1).trans ?_
  rw [gv_e, x1, gv_e, x2]
  by_cases q1 : 300 < st + (1 + a)
  · have r1 : byR g i (1 + a) = nI 3 := by
      unfold byR
      rw [hst, nI_add, if_pos (by rw [p_lt (by omega) (by omega)]; omega)]
    have r2 : byD g i (1 + a) = nI st := by
      unfold byD
      rw [hst, nI_add, if_pos (by rw [p_lt (by omega) (by omega)]; omega)]
    have ea := a_buyN H (by omega) hi (q := 1 + a) (by omega) (by omega) (by rw [r1]; decide) (0 : Int32) (0 : Int32)
    rw [r1, r2] at ea
    refine (g1_e ea).trans ?_
    rw [hst]
    refine (if_neg (show ¬ nI st + nI (1 + a) ≤ nI 300 by rw [nI_add, p_le (by omega) (by omega)]; omega)).trans ?_
    refine (if_pos rfl).trans ?_
    refine (gx0_e (d_refusal (r := nI 3) (d := nI st) (by decide) 0 (by decide))).trans ?_
    refine (if_pos rfl).trans ?_
    refine (gx0_e (d_refusal (r := nI 3) (d := nI st) (by decide) 1 (by decide))).trans ?_
    refine (if_pos rfl).trans ?_
    exact S_927_ok (CR_ref H _ _) hN hM hNB hw
  · by_cases q2 : c < p
    · have r1 : byR g i (1 + a) = nI 2 := by
        unfold byR
        rw [hst, nI_add, if_neg (by rw [p_lt (by omega) (by omega)]; omega), hc, ← hp, if_pos (by rw [p_lt (by omega) (by omega)]; omega)]
      have r2 : byD g i (1 + a) = nI p - nI c := by
        unfold byD
        rw [hst, nI_add, if_neg (by rw [p_lt (by omega) (by omega)]; omega), hc, ← hp]
      have ea := a_buyN H (by omega) hi (q := 1 + a) (by omega) (by omega) (by rw [r1]; decide) (0 : Int32) (0 : Int32)
      rw [r1, r2] at ea
      refine (g1_e ea).trans ?_
      rw [hst]
      refine (if_pos (show nI st + nI (1 + a) ≤ nI 300 by rw [nI_add, p_le (by omega) (by omega)]; omega)).trans ?_
      refine (if_neg (show ¬ nI p ≤ nI c by rw [p_le (by omega) (by omega)]; omega)).trans ?_
      refine (if_pos rfl).trans ?_
      refine (gx0_e (d_refusal (r := nI 2) (d := nI p - nI c) (by decide) 0 (by decide))).trans ?_
      refine (if_pos rfl).trans ?_
      refine (gx0_e (d_refusal (r := nI 2) (d := nI p - nI c) (by decide) 1 (by decide))).trans ?_
      refine (if_pos rfl).trans ?_
      exact S_927_ok (CR_ref H _ _) hN hM hNB hw
    · have r1 : byR g i (1 + a) = nI 0 := by
        unfold byR
        rw [hst, nI_add, if_neg (by rw [p_lt (by omega) (by omega)]; omega), hc, ← hp, if_neg (by rw [p_lt (by omega) (by omega)]; omega)]
      obtain ⟨σ', ea, H2⟩ := a_buy H (by omega) hi (q := 1 + a) (by omega) (by omega) r1 (0 : Int32) (0 : Int32)
      refine (g1_e ea).trans ?_
      refine (if_pos (show g (26 + i) + nI (1 + a) ≤ nI 300 by rw [hst, nI_add, p_le (by omega) (by omega)]; omega)).trans ?_
      refine (if_pos (show nI p ≤ nI c by rw [p_le (by omega) (by omega)]; omega)).trans ?_
      refine (if_pos rfl).trans ?_
      have e1 : buyG g i (1 + a) 1 = nI c - nI p := by
        unfold buyG
        rw [upd_ap, if_neg (by omega), upd_ap, if_neg (by omega), upd_ap, if_neg (by omega), upd_ap, if_pos rfl, hc, ← hp]
      have a1' : f_X8_account 0 (1 : Int32) σ' = some (0, nI c - nI p, σ') := by
        have := d_account H2 (k := 1) (by decide)
        rw [show acc (buyG g i (1 + a)) 1 = nI c - nI p from e1] at this
        exact this
      refine (gx0_e a1').trans ?_
      refine (if_pos rfl).trans ?_
      exact S_927_ok H2 hN hM hNB hw
end
