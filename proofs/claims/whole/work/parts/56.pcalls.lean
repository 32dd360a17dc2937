/-! THE PURE SIDE: calls that change -/
def KEP (f : gMem → Option (Int32 × gMem)) (m : gMem) : Option (Int32 × gMem) := g1 (f_X9_looksBack 433 m) (fun _ m1 => g1 (f m1) (fun r6 m4 => g1 (f_X9_kept 433 r6 m4) (fun r9 m7 => some (r9, m7))))
theorem KEP_e {f : gMem → Option (Int32 × gMem)} {m m2 m3 : gMem} {r r' : Int32} (h1 : f (xLB m) = some (r, m2)) (h2 : f_X9_kept 433 r m2 = some (r', m3)) : KEP f m = some (r', m3) := by
  unfold KEP
  rw [g1_e x_back, g1_e h1, g1_e h2]
section
variable {N : Nat} {σ m : gMem} {cl : Option (Nat × Int32 × gMem)} {L : List (Nat × Nat)} {f : gMem → Option (Int32 × gMem)}
theorem fin_bad (H : RR N σ m) {e c : Nat} {a : Int32} (hf : f (xLB m) = f_X9_fails 433 (nI c) (xLB m)) (h0 : 0 < c) (h5 : c < 5) (hc : cl = some (e, a, σ)) (he : e ≠ 0) (hL : (e, c) ∈ L) : RES N σ m cl (KEP f m) L := by
  obtain ⟨m2, k1, k2, ⟨c', k3, k4, k5⟩, k6, k7, k8, k9⟩ := end_bad (m := xLB m) h0 h5
  obtain ⟨rfl⟩ : c' = c := by
    have := x_fails (m := xLB m) (nI c)
    rw [k1] at this
    have e2 : m2 433 12 = nI c := by
      have e3 : m2 = ms (ms (xLB m) 433 12 (nI c)) 433 11 (nI 0) := congrArg Prod.snd (Option.some.inj this)
      rw [e3, ms_ap, if_neg (by decide)]; exact ms_ss
    rw [k3, p_eq (by omega) (by omega)] at e2
    exact e2
  obtain ⟨m3, j1, j2, j3⟩ := x_stay k2 k3 h0 h5 (nI 0)
  exact res_bad H hc (KEP_e (hf.trans k1) j1) j2 j3 k3 (by rw [k7, xLB_433]) (by rw [k8, xLB_433]) he hL
theorem fin_ref (H : RR N σ m) {e c : Nat} {a r d : Int32} {M : gMem} (hf : f (xLB m) = f_X9_refused 433 r d (nI c) M) (hM : xF (xLB m) M) (hM2 : M 434 = xLB m 434) (h0 : 0 < c) (h5 : c < 5) (hc : cl = some (e, a, ms (ms σ 431 0 r) 431 1 d)) (he : e ≠ 0) (hL : (e, c) ∈ L) : RES N σ m cl (KEP f m) L := by
  obtain ⟨m2, k1, k2, k3, -, -, k6, k7, k8, k9⟩ := end_ref (r := r) (d := d) hM hM2 h0 h5
  obtain ⟨m3, j1, j2, j3⟩ := x_stay k2 k3 h0 h5 (nI 0)
  exact res_ref H hc (KEP_e (hf.trans k1) j1) j2 j3 k3 k7 k8 he hL
theorem fin_ok (H : RR N σ m) {cnt : Nat} {σk σ1 M : gMem} {g' : Nat → Int32} {v : Int32} (h3 : m 433 3 = nI cnt) (h8 : cnt ≤ 8) (hK : KK N σ m σk cnt) (q : qF σk σ1 1 g') (hg : GA (N + 1440) g') (hf : f (xLB m) = f_X9_done 433 v (mc M 434 g')) (hM : xF (xLB m) M) (h9 : M 433 9 = xLB m 433 9) (h10 : M 433 10 = xLB m 433 10) (hc : cl = some (0, v, σ1)) (hL : (0, 0) ∈ L) : RES N σ m cl (KEP f m) L := by
  obtain ⟨m2, k1, k2⟩ := end_ok hM h9 h10 v
  obtain ⟨m3, j1, j2⟩ := x_end h3 h8 k2 v
  exact res_ch H hK hc (KEP_e (hf.trans k1) j1) q hg j2 hL
end
section
variable {N : Nat} {σ m : gMem}
theorem s_buy (H : RR N σ m) (hN : N ≤ 900000) (u v : Int32) : RES N σ m (f_X8_buy 0 u v σ) (f_X9_buy 433 u v m) [(0, 0), (2, 1), (3, 2)] := by
  have hg := RR_G H
  by_cases h : (nI 0 ≤ u ∧ u ≤ nI 2) ∧ (nI 1 ≤ v ∧ v ≤ nI 99)
  · obtain ⟨i, hi, rfl⟩ := grade_in h.1
    obtain ⟨q, q1, q2, rfl⟩ := rng_in (by decide) h.2 (by decide)
    have e1 := c_isP (nI i) (nI q) σ
    rw [if_pos h] at e1
    have e2 := c_buyW (RR_F H) HF_1 hg.1.1 (by omega) hi q2 431
    have e3 := x_buys (m := xLB m) (N := N) (by rw [xLB_434]; exact hg.1.1) (by omega) hi q1 q2
    rw [xLB_434] at e3
    by_cases p1 : nI 300 < m 434 (26 + i) + nI q
    · rw [if_pos p1] at e2 e3
      refine fin_ref H (f := f_X9_buys 433 (nI i) (nI q)) e3 xF_rf rfl (by decide) (by decide) (e := 3) (a := nI 0) ?_ (by decide) (by decide)
      unfold f_X8_buy
      rw [c_because] at e2
      simp (disch := omega) only [neg1, li_0, li_1, li_2, li_3, li_4, li_5, li_6, li_7, li_8, li_9, li_10, li_11, li_12, li_13, li_14, li_15, li_16, li_20, li_23, li_24, li_26, li_29, li_30, li_36, li_39, li_40, li_42, li_43, li_47, li_48, li_49, li_50, li_53, li_57, li_58, li_59, li_60, li_61, li_62, li_64, li_68, li_71, li_72, li_74, li_80, li_86, li_92, li_93, li_94, li_95, li_96, li_97, li_98, li_99, li_100, li_104, li_108, li_110, li_115, li_116, li_160, li_200, li_220, li_300, li_9999, nI_add, nI_mul, p_clamp, p_le, p_lt, p_eq, p_m1lt, p_m1eq, p_m1ge, p_eqm1, i_clamp, p_leT, p_leF, p_ltT, p_ltF, p_eqT, p_eqF, or_self, or_false, false_or, or_true, true_or, not_false_eq_true, not_true_eq_false, ↓reduceIte, and_self, and_true, true_and, and_false, false_and, ↓gv_e, g1, g2, gnl, Nat.reduceAdd, Nat.add_zero, reduceCtorEq, e1, e2]
    · rw [if_neg p1] at e2 e3
      by_cases p2 : m 434 1 < nI (q * (i + 1))
      · rw [if_pos p2] at e2 e3
        refine fin_ref H (f := f_X9_buys 433 (nI i) (nI q)) e3 xF_rf rfl (by decide) (by decide) (e := 3) (a := nI 0) ?_ (by decide) (by decide)
        unfold f_X8_buy
        rw [c_because] at e2
        simp (disch := omega) only [neg1, li_0, li_1, li_2, li_3, li_4, li_5, li_6, li_7, li_8, li_9, li_10, li_11, li_12, li_13, li_14, li_15, li_16, li_20, li_23, li_24, li_26, li_29, li_30, li_36, li_39, li_40, li_42, li_43, li_47, li_48, li_49, li_50, li_53, li_57, li_58, li_59, li_60, li_61, li_62, li_64, li_68, li_71, li_72, li_74, li_80, li_86, li_92, li_93, li_94, li_95, li_96, li_97, li_98, li_99, li_100, li_104, li_108, li_110, li_115, li_116, li_160, li_200, li_220, li_300, li_9999, nI_add, nI_mul, p_clamp, p_le, p_lt, p_eq, p_m1lt, p_m1eq, p_m1ge, p_eqm1, i_clamp, p_leT, p_leF, p_ltT, p_ltF, p_eqT, p_eqF, or_self, or_false, false_or, or_true, true_or, not_false_eq_true, not_true_eq_false, ↓reduceIte, and_self, and_true, true_and, and_false, false_and, ↓gv_e, g1, g2, gnl, Nat.reduceAdd, Nat.add_zero, reduceCtorEq, e1, e2]
      · rw [if_neg p2] at e2 e3
        obtain ⟨cnt, σk, h3, h8, hk, hF, hK⟩ := ch_pre H
        obtain ⟨σ', s1, s2⟩ := c_buy hF HF_1 (i := i) (q := q) hi
        refine fin_ok H (f := f_X9_buys 433 (nI i) (nI q)) h3 h8 hK s2 (GA_up (GA_buy hg (by omega) hi q2 p1 p2) (by omega)) e3 xF_rf rfl rfl ?_ (by decide)
        unfold f_X8_buy
        simp (disch := omega) only [neg1, li_0, li_1, li_2, li_3, li_4, li_5, li_6, li_7, li_8, li_9, li_10, li_11, li_12, li_13, li_14, li_15, li_16, li_20, li_23, li_24, li_26, li_29, li_30, li_36, li_39, li_40, li_42, li_43, li_47, li_48, li_49, li_50, li_53, li_57, li_58, li_59, li_60, li_61, li_62, li_64, li_68, li_71, li_72, li_74, li_80, li_86, li_92, li_93, li_94, li_95, li_96, li_97, li_98, li_99, li_100, li_104, li_108, li_110, li_115, li_116, li_160, li_200, li_220, li_300, li_9999, nI_add, nI_mul, p_clamp, p_le, p_lt, p_eq, p_m1lt, p_m1eq, p_m1ge, p_eqm1, i_clamp, p_leT, p_leF, p_ltT, p_ltF, p_eqT, p_eqF, or_self, or_false, false_or, or_true, true_or, not_false_eq_true, not_true_eq_false, ↓reduceIte, and_self, and_true, true_and, and_false, false_and, ↓gv_e, g1, g2, gnl, Nat.reduceAdd, Nat.add_zero, reduceCtorEq, e1, e2, hk, s1]
  · have e1 := c_isP u v σ
    rw [if_neg h] at e1
    refine fin_bad H (f := f_X9_buys 433 u v) (x_buysN h) (by decide) (by decide) (e := 2) (a := nI 0) ?_ (by decide) (by decide)
    unfold f_X8_buy
    simp (disch := omega) only [neg1, li_0, li_1, li_2, li_3, li_4, li_5, li_6, li_7, li_8, li_9, li_10, li_11, li_12, li_13, li_14, li_15, li_16, li_20, li_23, li_24, li_26, li_29, li_30, li_36, li_39, li_40, li_42, li_43, li_47, li_48, li_49, li_50, li_53, li_57, li_58, li_59, li_60, li_61, li_62, li_64, li_68, li_71, li_72, li_74, li_80, li_86, li_92, li_93, li_94, li_95, li_96, li_97, li_98, li_99, li_100, li_104, li_108, li_110, li_115, li_116, li_160, li_200, li_220, li_300, li_9999, nI_add, nI_mul, p_clamp, p_le, p_lt, p_eq, p_m1lt, p_m1eq, p_m1ge, p_eqm1, i_clamp, p_leT, p_leF, p_ltT, p_ltF, p_eqT, p_eqF, or_self, or_false, false_or, or_true, true_or, not_false_eq_true, not_true_eq_false, ↓reduceIte, and_self, and_true, true_and, and_false, false_and, ↓gv_e, g1, g2, gnl, Nat.reduceAdd, Nat.add_zero, reduceCtorEq, e1]
theorem s_lay (H : RR N σ m) (u v x y : Int32) : RES N σ m (f_X8_lay 0 u v x y σ) (f_X9_lay 433 u v x y m) [(0, 0), (1, 1), (2, 2), (3, 3)] := by
  have hg := RR_G H
  have hW := (n_W hg.1.1).2
  have hT := (n_T hg.1.1).2
  have hgx : GB N (xLB m 434) := by rw [xLB_434]; exact hg.1.1
  rcases in_cases u (n := iN (m 434 29)) (by omega) with ⟨t, ht, rfl⟩ | hu
  · have e0 := k_tower H ht
    have g0 := (HF_1.2.2.2.2.2.2.2.2.1 t (by omega)).1
    rcases in_cases v (n := iN (m 434 48)) (by omega) with ⟨n, hn, rfl⟩ | hv
    · have e1 := k_tongs H hn
      have g1' := HF_1.2.2.2.2.2.2.2.1 n (by omega)
      have e2 := c_isC x y σ
      by_cases h : (nI 0 ≤ x ∧ x ≤ nI 2) ∧ (nI 1 ≤ y ∧ y ≤ nI 20)
      · rw [if_pos h] at e2
        obtain ⟨i, hi, rfl⟩ := grade_in h.1
        obtain ⟨q, q1, q2, rfl⟩ := rng_in (by decide) h.2 (by decide)
        have e3 := c_layW (RR_F H) HF_1 hg.1.1 ht hn hi q2 431
        have e4 := x_lays hgx (by rw [xLB_434]; exact ht) (by rw [xLB_434]; exact hn) hi q1 q2
        obtain ⟨f1, f2, f3⟩ := xF_Lk (m := xLB m) (t := t) (n := n) (i := i) (q := q)
        rw [xLB_434] at e4
        by_cases p : whyR (m 434) t n i q = nI 0
        · rw [if_pos p] at e3 e4
          obtain ⟨a1, -⟩ := whyR_10 p
          obtain ⟨cnt, σk, h3, h8, hk, hF, hK⟩ := ch_pre H
          obtain ⟨σ', s1, s2⟩ := c_lay hF HF_1 hg.1.1 ht hn hi q2 a1
          refine fin_ok H (f := f_X9_lays 433 (nI t) (nI n) (nI i) (nI q)) h3 h8 hK s2 (GA_up (GA_lay hg ht hn hi q2 p) (by omega)) e4 f1 f2 f3 ?_ (by decide)
          unfold f_X8_lay f_X8_reasonAgainstCourse
          simp (disch := omega) only [neg1, li_0, li_1, li_2, li_3, li_4, li_5, li_6, li_7, li_8, li_9, li_10, li_11, li_12, li_13, li_14, li_15, li_16, li_20, li_23, li_24, li_26, li_29, li_30, li_36, li_39, li_40, li_42, li_43, li_47, li_48, li_49, li_50, li_53, li_57, li_58, li_59, li_60, li_61, li_62, li_64, li_68, li_71, li_72, li_74, li_80, li_86, li_92, li_93, li_94, li_95, li_96, li_97, li_98, li_99, li_100, li_104, li_108, li_110, li_115, li_116, li_160, li_200, li_220, li_300, li_9999, nI_add, nI_mul, p_clamp, p_le, p_lt, p_eq, p_m1lt, p_m1eq, p_m1ge, p_eqm1, i_clamp, p_leT, p_leF, p_ltT, p_ltF, p_eqT, p_eqF, or_self, or_false, false_or, or_true, true_or, not_false_eq_true, not_true_eq_false, ↓reduceIte, and_self, and_true, true_and, and_false, false_and, ↓gv_e, g1, g2, gnl, Nat.reduceAdd, Nat.add_zero, reduceCtorEq, e0, g0, e1, g1', e2, e3, hk, s1]
        · rw [if_neg p] at e3 e4
          refine fin_ref H (f := f_X9_lays 433 (nI t) (nI n) (nI i) (nI q)) e4 f1 xLk_434 (by decide) (by decide) (e := 3) (a := nI 0) ?_ (by decide) (by decide)
          unfold f_X8_lay f_X8_reasonAgainstCourse
          rw [c_because] at e3
          simp (disch := omega) only [neg1, li_0, li_1, li_2, li_3, li_4, li_5, li_6, li_7, li_8, li_9, li_10, li_11, li_12, li_13, li_14, li_15, li_16, li_20, li_23, li_24, li_26, li_29, li_30, li_36, li_39, li_40, li_42, li_43, li_47, li_48, li_49, li_50, li_53, li_57, li_58, li_59, li_60, li_61, li_62, li_64, li_68, li_71, li_72, li_74, li_80, li_86, li_92, li_93, li_94, li_95, li_96, li_97, li_98, li_99, li_100, li_104, li_108, li_110, li_115, li_116, li_160, li_200, li_220, li_300, li_9999, nI_add, nI_mul, p_clamp, p_le, p_lt, p_eq, p_m1lt, p_m1eq, p_m1ge, p_eqm1, i_clamp, p_leT, p_leF, p_ltT, p_ltF, p_eqT, p_eqF, or_self, or_false, false_or, or_true, true_or, not_false_eq_true, not_true_eq_false, ↓reduceIte, and_self, and_true, true_and, and_false, false_and, ↓gv_e, g1, g2, gnl, Nat.reduceAdd, Nat.add_zero, reduceCtorEq, e0, g0, e1, g1', e2, e3, p]
      · rw [if_neg h] at e2
        refine fin_bad H (f := f_X9_lays 433 (nI t) (nI n) x y) (x_laysN2 hgx (by rw [xLB_434]; exact ht) (by rw [xLB_434]; exact hn) h) (by decide) (by decide) (e := 2) (a := nI 0) ?_ (by decide) (by decide)
        unfold f_X8_lay f_X8_reasonAgainstCourse
        simp (disch := omega) only [neg1, li_0, li_1, li_2, li_3, li_4, li_5, li_6, li_7, li_8, li_9, li_10, li_11, li_12, li_13, li_14, li_15, li_16, li_20, li_23, li_24, li_26, li_29, li_30, li_36, li_39, li_40, li_42, li_43, li_47, li_48, li_49, li_50, li_53, li_57, li_58, li_59, li_60, li_61, li_62, li_64, li_68, li_71, li_72, li_74, li_80, li_86, li_92, li_93, li_94, li_95, li_96, li_97, li_98, li_99, li_100, li_104, li_108, li_110, li_115, li_116, li_160, li_200, li_220, li_300, li_9999, nI_add, nI_mul, p_clamp, p_le, p_lt, p_eq, p_m1lt, p_m1eq, p_m1ge, p_eqm1, i_clamp, p_leT, p_leF, p_ltT, p_ltF, p_eqT, p_eqF, or_self, or_false, false_or, or_true, true_or, not_false_eq_true, not_true_eq_false, ↓reduceIte, and_self, and_true, true_and, and_false, false_and, ↓gv_e, g1, g2, gnl, Nat.reduceAdd, Nat.add_zero, reduceCtorEq, e0, g0, e1, g1', e2]
    · have e1 := k_tongsN H hv
      refine fin_bad H (f := f_X9_lays 433 (nI t) v x y) (x_laysN1 hgx (Or.inr (by rw [xLB_434]; exact hv))) (by decide) (by decide) (e := 1) (a := nI 0) ?_ (by decide) (by decide)
      unfold f_X8_lay f_X8_reasonAgainstCourse
      simp (disch := omega) only [neg1, li_0, li_1, li_2, li_3, li_4, li_5, li_6, li_7, li_8, li_9, li_10, li_11, li_12, li_13, li_14, li_15, li_16, li_20, li_23, li_24, li_26, li_29, li_30, li_36, li_39, li_40, li_42, li_43, li_47, li_48, li_49, li_50, li_53, li_57, li_58, li_59, li_60, li_61, li_62, li_64, li_68, li_71, li_72, li_74, li_80, li_86, li_92, li_93, li_94, li_95, li_96, li_97, li_98, li_99, li_100, li_104, li_108, li_110, li_115, li_116, li_160, li_200, li_220, li_300, li_9999, nI_add, nI_mul, p_clamp, p_le, p_lt, p_eq, p_m1lt, p_m1eq, p_m1ge, p_eqm1, i_clamp, p_leT, p_leF, p_ltT, p_ltF, p_eqT, p_eqF, or_self, or_false, false_or, or_true, true_or, not_false_eq_true, not_true_eq_false, ↓reduceIte, and_self, and_true, true_and, and_false, false_and, ↓gv_e, g1, g2, gnl, Nat.reduceAdd, Nat.add_zero, reduceCtorEq, e0, g0, e1]
  · have e0 := k_towerN H hu
    refine fin_bad H (f := f_X9_lays 433 u v x y) (x_laysN1 hgx (Or.inl (by rw [xLB_434]; exact hu))) (by decide) (by decide) (e := 1) (a := nI 0) ?_ (by decide) (by decide)
    unfold f_X8_lay f_X8_reasonAgainstCourse
    simp (disch := omega) only [neg1, li_0, li_1, li_2, li_3, li_4, li_5, li_6, li_7, li_8, li_9, li_10, li_11, li_12, li_13, li_14, li_15, li_16, li_20, li_23, li_24, li_26, li_29, li_30, li_36, li_39, li_40, li_42, li_43, li_47, li_48, li_49, li_50, li_53, li_57, li_58, li_59, li_60, li_61, li_62, li_64, li_68, li_71, li_72, li_74, li_80, li_86, li_92, li_93, li_94, li_95, li_96, li_97, li_98, li_99, li_100, li_104, li_108, li_110, li_115, li_116, li_160, li_200, li_220, li_300, li_9999, nI_add, nI_mul, p_clamp, p_le, p_lt, p_eq, p_m1lt, p_m1eq, p_m1ge, p_eqm1, i_clamp, p_leT, p_leF, p_ltT, p_ltF, p_eqT, p_eqF, or_self, or_false, false_or, or_true, true_or, not_false_eq_true, not_true_eq_false, ↓reduceIte, and_self, and_true, true_and, and_false, false_and, ↓gv_e, g1, g2, gnl, Nat.reduceAdd, Nat.add_zero, reduceCtorEq, e0]
theorem s_take (H : RR N σ m) (u : Int32) : RES N σ m (f_X8_take 0 u σ) (f_X9_take 433 u m) [(0, 0), (1, 1), (3, 2)] := by
  have hg := RR_G H
  have hW := (n_W hg.1.1).2
  have hgx : GB N (xLB m 434) := by rw [xLB_434]; exact hg.1.1
  rcases in_cases u (n := iN (m 434 29)) (by omega) with ⟨t, ht, rfl⟩ | hu
  · have e0 := k_tower H ht
    have g0 := (HF_1.2.2.2.2.2.2.2.2.1 t (by omega)).1
    obtain ⟨k4, k5⟩ := gC_of hg.1.1 (t := t) (by omega)
    have e1 := r_crs (RR_F H) (t := t) (by omega) ht
    rw [k4] at e1
    by_cases p : gC (m 434) t = 0
    · have e4 := x_takes0 hgx (t := t) (by rw [xLB_434]; exact ht) (by rw [xLB_434]; exact p)
      refine fin_ref H (f := f_X9_takes 433 (nI t)) e4 xF_rf rfl (by decide) (by decide) (e := 3) (a := nI 0) ?_ (by decide) (by decide)
      unfold f_X8_take
      simp (disch := omega) only [neg1, li_0, li_1, li_2, li_3, li_4, li_5, li_6, li_7, li_8, li_9, li_10, li_11, li_12, li_13, li_14, li_15, li_16, li_20, li_23, li_24, li_26, li_29, li_30, li_36, li_39, li_40, li_42, li_43, li_47, li_48, li_49, li_50, li_53, li_57, li_58, li_59, li_60, li_61, li_62, li_64, li_68, li_71, li_72, li_74, li_80, li_86, li_92, li_93, li_94, li_95, li_96, li_97, li_98, li_99, li_100, li_104, li_108, li_110, li_115, li_116, li_160, li_200, li_220, li_300, li_9999, nI_add, nI_mul, p_clamp, p_le, p_lt, p_eq, p_m1lt, p_m1eq, p_m1ge, p_eqm1, i_clamp, p_leT, p_leF, p_ltT, p_ltF, p_eqT, p_eqF, or_self, or_false, false_or, or_true, true_or, not_false_eq_true, not_true_eq_false, ↓reduceIte, and_self, and_true, true_and, and_false, false_and, ↓gv_e, g1, g2, gnl, Nat.reduceAdd, Nat.add_zero, reduceCtorEq, e0, g0, e1, p, c_because]
    · obtain ⟨cnt, σk, h3, h8, hk, hF, hK⟩ := ch_pre H
      obtain ⟨σ', s1, s2⟩ := c_take hF HF_1 hg.1.1 ht (by omega)
      have e4 := x_takes hgx (t := t) (by rw [xLB_434]; exact ht) (by rw [xLB_434]; omega)
      rw [xLB_434] at e4
      refine fin_ok H (f := f_X9_takes 433 (nI t)) h3 h8 hK s2 (GA_up (GA_take hg ht (by omega)) (by omega)) e4 xF_rf rfl rfl ?_ (by decide)
      unfold f_X8_take
      simp (disch := omega) only [neg1, li_0, li_1, li_2, li_3, li_4, li_5, li_6, li_7, li_8, li_9, li_10, li_11, li_12, li_13, li_14, li_15, li_16, li_20, li_23, li_24, li_26, li_29, li_30, li_36, li_39, li_40, li_42, li_43, li_47, li_48, li_49, li_50, li_53, li_57, li_58, li_59, li_60, li_61, li_62, li_64, li_68, li_71, li_72, li_74, li_80, li_86, li_92, li_93, li_94, li_95, li_96, li_97, li_98, li_99, li_100, li_104, li_108, li_110, li_115, li_116, li_160, li_200, li_220, li_300, li_9999, nI_add, nI_mul, p_clamp, p_le, p_lt, p_eq, p_m1lt, p_m1eq, p_m1ge, p_eqm1, i_clamp, p_leT, p_leF, p_ltT, p_ltF, p_eqT, p_eqF, or_self, or_false, false_or, or_true, true_or, not_false_eq_true, not_true_eq_false, ↓reduceIte, and_self, and_true, true_and, and_false, false_and, ↓gv_e, g1, g2, gnl, Nat.reduceAdd, Nat.add_zero, reduceCtorEq, e0, g0, e1, p, hk, s1]
  · have e0 := k_towerN H hu
    refine fin_bad H (f := f_X9_takes 433 u) (x_takesN hgx (by rw [xLB_434]; exact hu)) (by decide) (by decide) (e := 1) (a := nI 0) ?_ (by decide) (by decide)
    unfold f_X8_take
    simp (disch := omega) only [neg1, li_0, li_1, li_2, li_3, li_4, li_5, li_6, li_7, li_8, li_9, li_10, li_11, li_12, li_13, li_14, li_15, li_16, li_20, li_23, li_24, li_26, li_29, li_30, li_36, li_39, li_40, li_42, li_43, li_47, li_48, li_49, li_50, li_53, li_57, li_58, li_59, li_60, li_61, li_62, li_64, li_68, li_71, li_72, li_74, li_80, li_86, li_92, li_93, li_94, li_95, li_96, li_97, li_98, li_99, li_100, li_104, li_108, li_110, li_115, li_116, li_160, li_200, li_220, li_300, li_9999, nI_add, nI_mul, p_clamp, p_le, p_lt, p_eq, p_m1lt, p_m1eq, p_m1ge, p_eqm1, i_clamp, p_leT, p_leF, p_ltT, p_ltF, p_eqT, p_eqF, or_self, or_false, false_or, or_true, true_or, not_false_eq_true, not_true_eq_false, ↓reduceIte, and_self, and_true, true_and, and_false, false_and, ↓gv_e, g1, g2, gnl, Nat.reduceAdd, Nat.add_zero, reduceCtorEq, e0]
theorem s_show (H : RR N σ m) (u v : Int32) : RES N σ m (f_X8_show 0 u v σ) (f_X9_show 433 u v m) [(0, 0), (4, 1), (1, 2)] := by
  have hg := RR_G H
  have hW := (n_W hg.1.1).2
  have hB := (n_B hg.1.1).2
  have hgx : GB N (xLB m 434) := by rw [xLB_434]; exact hg.1.1
  rcases plcN_in (m 434) u with q | ⟨k, hk, q⟩
  · have e0 := k_banqN H q
    refine fin_bad H (f := f_X9_shows 433 u v) (x_showsN1 hgx (by rw [xLB_434]; exact q)) (by decide) (by decide) (e := 4) (a := nI 0) ?_ (by decide) (by decide)
    unfold f_X8_show
    simp (disch := omega) only [neg1, li_0, li_1, li_2, li_3, li_4, li_5, li_6, li_7, li_8, li_9, li_10, li_11, li_12, li_13, li_14, li_15, li_16, li_20, li_23, li_24, li_26, li_29, li_30, li_36, li_39, li_40, li_42, li_43, li_47, li_48, li_49, li_50, li_53, li_57, li_58, li_59, li_60, li_61, li_62, li_64, li_68, li_71, li_72, li_74, li_80, li_86, li_92, li_93, li_94, li_95, li_96, li_97, li_98, li_99, li_100, li_104, li_108, li_110, li_115, li_116, li_160, li_200, li_220, li_300, li_9999, nI_add, nI_mul, p_clamp, p_le, p_lt, p_eq, p_m1lt, p_m1eq, p_m1ge, p_eqm1, i_clamp, p_leT, p_leF, p_ltT, p_ltF, p_eqT, p_eqF, or_self, or_false, false_or, or_true, true_or, not_false_eq_true, not_true_eq_false, ↓reduceIte, and_self, and_true, true_and, and_false, false_and, ↓gv_e, g1, g2, gnl, Nat.reduceAdd, Nat.add_zero, reduceCtorEq, e0]
  · have e0 := k_banq H q hk
    have g0 := HF_1.2.2.2.2.2.2.2.2.2 k (by omega)
    rcases in_cases v (n := iN (m 434 29)) (by omega) with ⟨t, ht, rfl⟩ | hv
    · have e1 := k_tower H ht
      have g1' := (HF_1.2.2.2.2.2.2.2.2.1 t (by omega)).1
      obtain ⟨cnt, σk, h3, h8, hke, hF, hK⟩ := ch_pre H
      have s2 := w_atb hF (i := k) (by omega) (nI t)
      have hgs := GA_show hg (k := k) (t := t) (by omega) (by omega)
      have e2 := c_miss s2 HF_1 hgs.1.1 hgs.1.2 (k := k) (by rw [upd_ap, if_neg (by omega)]; exact hk)
      have e4 := x_shows hgx (by rw [xLB_434]; exact q) (by rw [xLB_434]; exact hk) (t := t) (by rw [xLB_434]; exact ht)
      rw [xLB_434] at e4
      refine fin_ok H (f := f_X9_shows 433 u (nI t)) h3 h8 hK s2 (GA_up hgs (by omega)) e4 xF_rf rfl rfl ?_ (by decide)
      unfold f_X8_show
      simp (disch := omega) only [neg1, li_0, li_1, li_2, li_3, li_4, li_5, li_6, li_7, li_8, li_9, li_10, li_11, li_12, li_13, li_14, li_15, li_16, li_20, li_23, li_24, li_26, li_29, li_30, li_36, li_39, li_40, li_42, li_43, li_47, li_48, li_49, li_50, li_53, li_57, li_58, li_59, li_60, li_61, li_62, li_64, li_68, li_71, li_72, li_74, li_80, li_86, li_92, li_93, li_94, li_95, li_96, li_97, li_98, li_99, li_100, li_104, li_108, li_110, li_115, li_116, li_160, li_200, li_220, li_300, li_9999, nI_add, nI_mul, p_clamp, p_le, p_lt, p_eq, p_m1lt, p_m1eq, p_m1ge, p_eqm1, i_clamp, p_leT, p_leF, p_ltT, p_ltF, p_eqT, p_eqF, or_self, or_false, false_or, or_true, true_or, not_false_eq_true, not_true_eq_false, ↓reduceIte, and_self, and_true, true_and, and_false, false_and, ↓gv_e, g1, g2, gnl, Nat.reduceAdd, Nat.add_zero, reduceCtorEq, e0, g0, e1, g1', hke, e2]
    · have e1 := k_towerN H hv
      refine fin_bad H (f := f_X9_shows 433 u v) (x_showsN2 hgx (by rw [xLB_434]; exact q) (by rw [xLB_434]; exact hk) (by rw [xLB_434]; exact hv)) (by decide) (by decide) (e := 1) (a := nI 0) ?_ (by decide) (by decide)
      unfold f_X8_show
      simp (disch := omega) only [neg1, li_0, li_1, li_2, li_3, li_4, li_5, li_6, li_7, li_8, li_9, li_10, li_11, li_12, li_13, li_14, li_15, li_16, li_20, li_23, li_24, li_26, li_29, li_30, li_36, li_39, li_40, li_42, li_43, li_47, li_48, li_49, li_50, li_53, li_57, li_58, li_59, li_60, li_61, li_62, li_64, li_68, li_71, li_72, li_74, li_80, li_86, li_92, li_93, li_94, li_95, li_96, li_97, li_98, li_99, li_100, li_104, li_108, li_110, li_115, li_116, li_160, li_200, li_220, li_300, li_9999, nI_add, nI_mul, p_clamp, p_le, p_lt, p_eq, p_m1lt, p_m1eq, p_m1ge, p_eqm1, i_clamp, p_leT, p_leF, p_ltT, p_ltF, p_eqT, p_eqF, or_self, or_false, false_or, or_true, true_or, not_false_eq_true, not_true_eq_false, ↓reduceIte, and_self, and_true, true_and, and_false, false_and, ↓gv_e, g1, g2, gnl, Nat.reduceAdd, Nat.add_zero, reduceCtorEq, e0, g0, e1]
theorem s_pass (H : RR N σ m) (hN : N ≤ 900000) (u : Int32) : RES N σ m (f_X8_pass 0 u σ) (f_X9_pass 433 u m) [(0, 0), (2, 1)] := by
  have hg := RR_G H
  have hgx : GB N (xLB m 434) := by rw [xLB_434]; exact hg.1.1
  have e0 := c_btw (nI 1) u (nI 72) σ
  by_cases h : nI 1 ≤ u ∧ u ≤ nI 72
  · rw [if_pos h] at e0
    obtain ⟨q, q1, q2, rfl⟩ := rng_in (by decide) h (by decide)
    obtain ⟨cnt, σk, h3, h8, hk, hF, hK⟩ := ch_pre H
    obtain ⟨σ', s1, s2⟩ := cy_hours HF_1 q2 hg.1 (by omega) hF
    have e4 := x_passes hgx q1 q2 (by omega)
    rw [xLB_434] at e4
    refine fin_ok H (f := f_X9_passes 433 (nI q)) h3 h8 hK s2 (GA_up (GA_psS q N _ hg (by omega)) (by omega)) e4 xF_rf rfl rfl ?_ (by decide)
    unfold f_X8_pass
    simp (disch := omega) only [neg1, li_0, li_1, li_2, li_3, li_4, li_5, li_6, li_7, li_8, li_9, li_10, li_11, li_12, li_13, li_14, li_15, li_16, li_20, li_23, li_24, li_26, li_29, li_30, li_36, li_39, li_40, li_42, li_43, li_47, li_48, li_49, li_50, li_53, li_57, li_58, li_59, li_60, li_61, li_62, li_64, li_68, li_71, li_72, li_74, li_80, li_86, li_92, li_93, li_94, li_95, li_96, li_97, li_98, li_99, li_100, li_104, li_108, li_110, li_115, li_116, li_160, li_200, li_220, li_300, li_9999, nI_add, nI_mul, p_clamp, p_le, p_lt, p_eq, p_m1lt, p_m1eq, p_m1ge, p_eqm1, i_clamp, p_leT, p_leF, p_ltT, p_ltF, p_eqT, p_eqF, or_self, or_false, false_or, or_true, true_or, not_false_eq_true, not_true_eq_false, ↓reduceIte, and_self, and_true, true_and, and_false, false_and, ↓gv_e, g1, g2, gnl, Nat.reduceAdd, Nat.add_zero, reduceCtorEq, e0, hk, s1]
  · rw [if_neg h] at e0
    refine fin_bad H (f := f_X9_passes 433 u) (x_passesN h) (by decide) (by decide) (e := 2) (a := nI 0) ?_ (by decide) (by decide)
    unfold f_X8_pass
    simp (disch := omega) only [neg1, li_0, li_1, li_2, li_3, li_4, li_5, li_6, li_7, li_8, li_9, li_10, li_11, li_12, li_13, li_14, li_15, li_16, li_20, li_23, li_24, li_26, li_29, li_30, li_36, li_39, li_40, li_42, li_43, li_47, li_48, li_49, li_50, li_53, li_57, li_58, li_59, li_60, li_61, li_62, li_64, li_68, li_71, li_72, li_74, li_80, li_86, li_92, li_93, li_94, li_95, li_96, li_97, li_98, li_99, li_100, li_104, li_108, li_110, li_115, li_116, li_160, li_200, li_220, li_300, li_9999, nI_add, nI_mul, p_clamp, p_le, p_lt, p_eq, p_m1lt, p_m1eq, p_m1ge, p_eqm1, i_clamp, p_leT, p_leF, p_ltT, p_ltF, p_eqT, p_eqF, or_self, or_false, false_or, or_true, true_or, not_false_eq_true, not_true_eq_false, ↓reduceIte, and_self, and_true, true_and, and_false, false_and, ↓gv_e, g1, g2, gnl, Nat.reduceAdd, Nat.add_zero, reduceCtorEq, e0]
end
