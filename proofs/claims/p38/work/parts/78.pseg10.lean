/-! THE PURE SIDE OF THE LAW: orders are calls, all or none -/
theorem K8_b {c : Nat} (h : c ≤ 8) : K8 c ≤ 8 ∧ 1 ≤ K8 c ∧ (1 ≤ c → 2 ≤ K8 c) ∧ (2 ≤ c → 3 ≤ K8 c) := by
  unfold K8
  by_cases q : c = 8
  · rw [if_pos q]; omega
  · rw [if_neg q]; omega
theorem nI_nn {b : Nat} (h : b < 2147483648) : ¬ nI b < nI 0 := by rw [p_lt h (by decide)]; omega
section
variable {N cnt L : Nat} {mx my : gMem} {g f t t' : Nat → Int32} {xs : Nat → Int32} {gs gs' : Option (Nat → Int32)}
theorem CR_c8 {n : Nat} (H : CR N mx g f cnt gs n t) : cnt ≤ 8 := H.2.1.1
/-- three hours' calls and three times undone -/
theorem y_three (H : CR N my g f cnt gs 0 t) (hN : N + 300 ≤ 1000000) : ∃ b1 b2 b3 : Nat, ∃ s1 s2 s3 s4 s5 s6 : gMem, ∃ u1 u2 u3 : Nat, b1 ≤ 1000000 ∧ b2 ≤ 1000000 ∧ b3 ≤ 1000000 ∧ u1 ≤ 8 ∧ u2 ≤ 8 ∧ u3 ≤ 8 ∧ f_X8_pass 0 (3 : Int32) my = some (0, nI b1, s1) ∧ f_X8_pass 0 (1 : Int32) s1 = some (0, nI b2, s2) ∧ f_X8_pass 0 (2 : Int32) s2 = some (0, nI b3, s3) ∧ f_L_state 0 s3 = some (0, stG (psS 2 (psS 1 (psS 3 g))), s3) ∧ f_X8_undo 0 s3 = some (0, nI u1, s4) ∧ f_X8_undo 0 s4 = some (0, nI u2, s5) ∧ f_X8_undo 0 s5 = some (0, nI u3, s6) ∧ f_L_state 0 s6 = some (0, stG g, s6) := by
  have hg := CR_G H
  have h8 := CR_c8 H
  obtain ⟨s1, e1, H1⟩ := d_pass H (by omega) (u := 3) (by decide) (by decide)
  have g1' := GI_psS 3 N g hg.1 (by omega)
  obtain ⟨s2, e2, H2⟩ := d_pass H1 (by omega) (u := 1) (by decide) (by decide)
  have g2' := GI_psS 1 (N + 3) _ g1' (by omega)
  obtain ⟨s3, e3, H3⟩ := d_pass H2 (by omega) (u := 2) (by decide) (by decide)
  obtain ⟨b1, k1, k1'⟩ := psA_n 3 N 0 g hg.1 (by omega) (by omega)
  obtain ⟨b2, k2, k2'⟩ := psA_n 1 (N + 3) 0 _ g1' (by omega) (by omega)
  obtain ⟨b3, k3, k3'⟩ := psA_n 2 (N + 3 + 1) 0 _ g2' (by omega) (by omega)
  rw [k1'] at e1
  rw [k2'] at e2
  rw [k3'] at e3
  obtain ⟨c1, hc1⟩ : ∃ c, c = K8 cnt := ⟨_, rfl⟩
  obtain ⟨c2, hc2⟩ : ∃ c, c = K8 c1 := ⟨_, rfl⟩
  obtain ⟨c3, hc3⟩ : ∃ c, c = K8 c2 := ⟨_, rfl⟩
  obtain ⟨x1, x2, x3, x4⟩ := K8_b h8
  rw [← hc1] at x1 x2 x3 x4
  obtain ⟨y1, y2, y3, y4⟩ := K8_b x1
  rw [← hc2] at y1 y2 y3 y4
  obtain ⟨z1, z2, z3, z4⟩ := K8_b y1
  rw [← hc3] at z1 z2 z3 z4
  rw [← hc1] at H1 H2 H3
  rw [← hc2] at H2 H3
  rw [← hc3] at H3
  obtain ⟨G1, hG1⟩ : ∃ G, G = psS 3 g := ⟨_, rfl⟩
  obtain ⟨G2, hG2⟩ : ∃ G, G = psS 1 G1 := ⟨_, rfl⟩
  obtain ⟨f1, hf1⟩ : ∃ F, F = KH f g cnt := ⟨_, rfl⟩
  obtain ⟨f2, hf2⟩ : ∃ F, F = KH f1 G1 c1 := ⟨_, rfl⟩
  obtain ⟨f3, hf3⟩ : ∃ F, F = KH f2 G2 c2 := ⟨_, rfl⟩
  rw [← hG1] at H1 H2 H3
  rw [← hG2] at H2 H3
  rw [← hf1] at H1 H2 H3
  rw [← hf2] at H2 H3
  rw [← hf3] at H3
  obtain ⟨s4, e4, H4⟩ := d_undo H3 (by omega)
  obtain ⟨s5, e5, H5⟩ := d_undo H4 (by omega)
  obtain ⟨s6, e6, H6⟩ := d_undo H5 (by omega)
  have hE : ∀ j, j < 220 → g j = hG f3 (c3 - 1 - 1 - 1) j := fun j hj => by
    have a1 := KH_old (f := f2) (b := G2) (cnt := c2) (j := j) (k := 1) y1 hj (by rw [← hc3]; omega)
    have a2 := KH_old (f := f1) (b := G1) (cnt := c1) (j := j) (k := 0) x1 hj (by rw [← hc2]; omega)
    have a3 := KH_new (f := f) (b := g) (cnt := cnt) (j := j) h8 hj
    rw [← hf3, ← hc3] at a1
    rw [← hf2, ← hc2] at a2
    rw [← hf1, ← hc1] at a3
    rw [show c3 - 1 - 1 - 1 = c3 - 1 - (1 + 1) by omega, a1, show c2 - 1 - 1 = c2 - 1 - (0 + 1) by omega, a2, show c1 - 1 - 0 = c1 - 1 by omega, a3]
  have H7 := CR_g H6 hE
  have e7 := d_state H3
  refine ⟨b1, b2, b3, s1, s2, s3, s4, s5, s6, c3 - 1, c3 - 1 - 1, c3 - 1 - 1 - 1, by omega, by omega, by omega, by omega, by omega, by omega, e1, e2, e3, ?_, e4, e5, e6, d_state H7⟩
  rw [hG2, hG1] at e7
  exact e7
/-- what comes after the texts -/
def S_tail (xs : Nat → Int32) (L : Nat) (r200 r203 : Int32) (n335 o264 : gMem) : Option Int32 := (gv (((atv xs L (13 : Int32)) >>> ((4 : Int32) &&& 31))) (fun x338 => if ¬ r200 = 0 then gv (((x338 &&& (3 : Int32)) - (x338 &&& (3 : Int32)) / r200 * r200)) (fun x340 => gv (((x338 >>> ((2 : Int32) &&& 31)) &&& (1 : Int32))) (fun x341 => gv ((((x338 >>> ((3 : Int32) &&& 31)) &&& (3 : Int32)) - ((x338 >>> ((3 : Int32) &&& 31)) &&& (3 : Int32)) / (3 : Int32) * (3 : Int32))) (fun x342 => gv (((1 : Int32) + ((x338 >>> ((5 : Int32) &&& 31)) &&& (15 : Int32)))) (fun x343 => gx0 (f_X8_towerOf 0 x340 (0 : Int32) n335) (fun r344 n345 => if r344 = (0 : Int32) then (S_379 xs L r200 r203 x338 x340 x341 x342 x343 r344 (20 : Int32) n345 o264) else (gx0 (f_X8_courseOf 0 x340 (r344 - (1 : Int32)) (1 : Int32) n345) (fun r348 n349 => S_379 xs L r200 r203 x338 x340 x341 x342 x343 r344 r348 n349 o264))))))) else none))
theorem S_tail_ok {M : Nat} (H : CR N mx g f cnt (some g) 0 t) (hN : N ≤ 9000) (hM : M < 1000000) (hNB : NB M g) (h29 : g 29 = nI 3) (h48 : g 48 = nI 2) : S_tail xs L (g 29) (stG g) mx my = some 1 := by
  have hg := CR_G H
  have i29 : iN (g 29) = 3 := by rw [h29]; exact i_clamp (by decide)
  have i48 : iN (g 48) = 2 := by rw [h48]; exact i_clamp (by decide)
  unfold S_tail
  rw [gv_e]
  obtain ⟨v, hv⟩ : ∃ v, v = (atv xs L (13 : Int32)) >>> ((4 : Int32) &&& 31) := ⟨_, rfl⟩
  rw [← hv]
  refine (if_pos (show ¬ g 29 = nI 0 by rw [h29]; decide)).trans ?_
  obtain ⟨a, a1, a2⟩ := and_n v (m := 3) (by decide)
  obtain ⟨b, b1, b2⟩ := and_n (v >>> ((2 : Int32) &&& 31)) (m := 1) (by decide)
  obtain ⟨c, c1, c2⟩ := and_n (v >>> ((3 : Int32) &&& 31)) (m := 3) (by decide)
  obtain ⟨d, d1, d2⟩ := and_n (v >>> ((5 : Int32) &&& 31)) (m := 15) (by decide)
  have x1 : (v &&& (3 : Int32)) - (v &&& (3 : Int32)) / g 29 * g 29 = nI (a % 3) := by
    rw [h29, show v &&& (3 : Int32) = nI a from a2]
    exact p_rem (by omega) (by decide)
  have x2 : (v >>> ((2 : Int32) &&& 31)) &&& (1 : Int32) = nI b := b2
  have x3 : ((v >>> ((3 : Int32) &&& 31)) &&& (3 : Int32)) - ((v >>> ((3 : Int32) &&& 31)) &&& (3 : Int32)) / (3 : Int32) * (3 : Int32) = nI (c % 3) := by
    rw [show (v >>> ((3 : Int32) &&& 31)) &&& (3 : Int32) = nI c from c2]
    exact p_rem (by omega) (by decide)
  have x4 : (1 : Int32) + ((v >>> ((5 : Int32) &&& 31)) &&& (15 : Int32)) = nI (1 + d) := by
    rw [show (v >>> ((5 : Int32) &&& 31)) &&& (15 : Int32) = nI d from d2]
    exact nI_add 1 d
  rw [gv_e, x1, gv_e, x2, gv_e, x3, gv_e, x4]
  obtain ⟨w, hw⟩ : ∃ w, w = a % 3 := ⟨_, rfl⟩
  have hw3 : w < 3 := by omega
  rw [← hw]
  have hw' : w < iN (g 29) := by omega
  obtain ⟨hC1, hC2⟩ := gC_of hg.1.1 (t := w) (by omega)
  have dt : f_X8_towerOf 0 (nI w) (0 : Int32) mx = some (0, g (36 + w), mx) := d_towerOf H hw' (k := 0) (by decide)
  refine (gx0_e dt).trans ?_
  have hE := S_379_ok (xs := xs) (L := L) (my := my) (v6 := v) H hN hM hNB hw' (k := b) (by omega) (i := c % 3) (Nat.mod_lt _ (by decide)) (q := 1 + d) (by omega) (by omega)
  by_cases q : gC g w = 0
  · unfold blw at hE
    rw [if_pos q] at hE
    refine (if_pos (show g (36 + w) = nI 0 by rw [hC1, q])).trans ?_
    exact hE
  · unfold blw at hE
    rw [if_neg q] at hE
    refine (if_neg (show ¬ g (36 + w) = nI 0 by rw [hC1, p_eq (by omega) (by decide)]; exact q)).trans ?_
    have dc : f_X8_courseOf 0 (nI w) (g (36 + w) - (1 : Int32)) (1 : Int32) mx = some (0, cub g w (gC g w - 1), mx) := by
      have := d_courseOf H hw' (c := gC g w - 1) (by omega) (k := 1) (by decide)
      rw [show g (36 + w) - (1 : Int32) = nI (gC g w - 1) by rw [hC1]; exact nI_sub (b := 1) (by omega)]
      exact this
    refine (gx0_e dc).trans ?_
    exact hE
theorem S_10_ok {M : Nat} (Hx : CR N mx g f cnt gs 0 t) (Hy : CR N my g f cnt gs 0 t) (hN : N ≤ 8000) (hM : M < 1000000) (hNB : NB M g) (h29 : g 29 = nI 3) (h48 : g 48 = nI 2) : S_10 xs L mx my = some 1 := by
  have h8 := CR_c8 Hx
  obtain ⟨b1, b2, b3, s1, s2, s3, s4, s5, s6, u1, u2, u3, l1, l2, l3, l4, l5, l6, p1, p2, p3, p4, p5, p6, p7, p8⟩ := y_three Hy (by omega)
  obtain ⟨σ1, e1, H1⟩ := d_save Hx
  obtain ⟨σ2, e2, H2⟩ := d_put (i := 6) (by decide) (by decide) H1
  obtain ⟨σ3, e3, H3, k3⟩ := d_read6 H2 (by omega)
  have e4 := d_account15 H3
  have e5 := d_account16 H3
  obtain ⟨m1', m2', -, -⟩ := K8_b h8
  obtain ⟨σ4, e6, H4'⟩ := d_undo H3 (by omega)
  have H4 := CR_g (g' := g) H4' (fun j hj => (KH_new h8 hj).symm)
  obtain ⟨σ5, e7, H5⟩ := d_put (i := 7) (by decide) (by decide) H4
  obtain ⟨σ6, e8, H6, k6⟩ := d_reads7 H5 (by omega)
  obtain ⟨σ7, e9, H7⟩ := d_put (i := 8) (by decide) (by decide) H6
  obtain ⟨σ8, e10, H8, k8⟩ := d_reads8 H7
  obtain ⟨σ9, e11, H9⟩ := d_put (i := 9) (by decide) (by decide) H8
  obtain ⟨σ10, e12, H10, k10⟩ := d_reads9 H9
  obtain ⟨σ11, e13, H11⟩ := d_put (i := 10) (by decide) (by decide) H10
  obtain ⟨σ12, e14, H12, k12⟩ := d_reads10 H11
  obtain ⟨σ13, e15, H13⟩ := d_put (i := 11) (by decide) (by decide) H12
  obtain ⟨σ14, e16, H14, k14⟩ := d_reads11 H13
  obtain ⟨σ15, e17, H15, k15⟩ := d_reads_e H14
  have hT := S_tail_ok (xs := xs) (L := L) (my := s6) H15 (by omega) hM hNB h29 h48
  have ks : nI (K8 cnt - 1) = nI (K8 cnt) - (1 : Int32) := (nI_sub (b := 1) m2').symm
  unfold S_10
  refine (g1_e e1).trans ?_
  refine (gx0_e (d_state H1)).trans ?_
  refine (gx0_e e2).trans ?_
  refine (gx0_e e3).trans ?_
  refine (if_pos rfl).trans ?_
  refine (gx0_e p1).trans ?_
  refine (if_neg (nI_nn (by omega))).trans ?_
  refine (gx0_e p2).trans ?_
  refine (if_neg (nI_nn (by omega))).trans ?_
  refine (gx0_e p3).trans ?_
  refine (if_neg (nI_nn (by omega))).trans ?_
  refine (gx0_e (d_state H3)).trans ?_
  refine (gx0_e p4).trans ?_
  refine (if_pos rfl).trans ?_
  refine (gx0_e e4).trans ?_
  refine (if_pos rfl).trans ?_
  refine (g1_e (d_errorPosition σ3)).trans ?_
  refine (if_pos k3).trans ?_
  refine (gx0_e e5).trans ?_
  refine (gx0_e e6).trans ?_
  refine (if_pos ks).trans ?_
  refine (gx0_e (d_state H4)).trans ?_
  refine (if_pos rfl).trans ?_
  refine (gx0_e p5).trans ?_
  refine (if_neg (nI_nn (by omega))).trans ?_
  refine (gx0_e p6).trans ?_
  refine (if_neg (nI_nn (by omega))).trans ?_
  refine (gx0_e p7).trans ?_
  refine (if_neg (nI_nn (by omega))).trans ?_
  refine (gx0_e p8).trans ?_
  refine (if_pos rfl).trans ?_
  refine (gx0_e e7).trans ?_
  refine (g1_e e8).trans ?_
  refine (if_pos rfl).trans ?_
  refine (g1_e (d_errorPosition σ6)).trans ?_
  refine (if_pos k6).trans ?_
  refine (gx0_e (d_state H6)).trans ?_
  refine (if_pos rfl).trans ?_
  refine (gx0_e e9).trans ?_
  refine (g1_e e10).trans ?_
  refine (if_pos rfl).trans ?_
  refine (g1_e (d_errorPosition σ8)).trans ?_
  refine (if_pos k8).trans ?_
  refine (gx0_e e11).trans ?_
  refine (g1_e e12).trans ?_
  refine (if_pos rfl).trans ?_
  refine (g1_e (d_errorPosition σ10)).trans ?_
  refine (if_pos k10).trans ?_
  refine (gx0_e e13).trans ?_
  refine (g1_e e14).trans ?_
  refine (if_pos rfl).trans ?_
  refine (g1_e (d_errorPosition σ12)).trans ?_
  refine (if_pos k12).trans ?_
  refine (gx0_e e15).trans ?_
  refine (g1_e e16).trans ?_
  refine (if_pos rfl).trans ?_
  refine (g1_e (d_errorPosition σ14)).trans ?_
  refine (if_pos k14).trans ?_
  refine (g1_e e17).trans ?_
  refine (if_pos rfl).trans ?_
  refine (g1_e (d_errorPosition σ15)).trans ?_
  refine (if_pos k15).trans ?_
  refine (gx0_e (d_state H15)).trans ?_
  refine (if_pos rfl).trans ?_
  exact hT
end
