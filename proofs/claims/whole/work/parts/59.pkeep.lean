/-! THE PURE SIDE: append, undo, save, restore -/
section
variable {N : Nat} {σ m : gMem}
/-- beside the text and its errors nothing changes -/
theorem RR_tx (H : RR N σ m) {σ' m' : gMem} (h1 : ∀ c, 1 ≤ c → c < 388 → σ' c = σ c) (h0 : σ' 0 3 = σ 0 3) (h2 : σ' 431 = σ 431) (e1 : ∀ c, c = 434 ∨ c = 436 ∨ c = 437 → m' c = m c) (e2 : ∀ j, j = 3 ∨ j = 5 ∨ j = 9 ∨ j = 10 → m' 433 j = m 433 j) (hT : TX σ' m') (hE : σ' 0 6 = m' 433 8) : RR N σ' m' := by
  obtain ⟨a1, ⟨a2, a3⟩, ⟨cnt, a4, a5⟩, -, -, a8, a9⟩ := H
  refine ⟨?_, ⟨by rw [h0, e2 5 (by decide)]; exact a2, fun h => ?_⟩, ⟨cnt, by rw [e2 3 (by decide)]; exact a4, ?_⟩, hT, hE, by rw [h2, e2 9 (by decide)]; exact a8, by rw [h2, e2 10 (by decide)]; exact a9⟩
  · rw [e1 434 (by decide)]; exact HQ_own a1 (fun c q1 q2 => h1 c (by omega) (by omega))
  · rw [e2 5 (by decide)] at h
    rw [e1 437 (by decide)]; exact HQ_own (a3 h) (fun c q1 q2 => h1 c (by omega) (by omega))
  · rw [e1 436 (by decide)]; exact HI_own a5 (fun c q1 q2 => h1 c (by omega) (by omega))
theorem gl389 : gl (388 + 1) = 60 := by decide +kernel
theorem s_append (H : RR N σ m) (u : Int32) : RES N σ m (f_X8_append 0 u σ) (f_X9_append 433 u m) [(0, 0), (5, 1)] := by
  obtain ⟨n, n1, n2, n3, n4⟩ := H.2.2.2.1
  by_cases p : n = 60
  · subst p
    refine res_fail H (e := 5) (c := 1) (a := nI 0) (b := nI 0) ?_ ?_ (by decide) (by decide)
    · unfold f_X8_append; simp (disch := omega) only [neg1, li_0, li_1, li_2, li_3, li_4, li_5, li_6, li_7, li_8, li_9, li_10, li_11, li_12, li_13, li_14, li_15, li_16, li_20, li_23, li_24, li_26, li_29, li_30, li_36, li_39, li_40, li_42, li_43, li_47, li_48, li_49, li_50, li_53, li_57, li_58, li_59, li_60, li_61, li_62, li_64, li_68, li_71, li_72, li_74, li_80, li_86, li_92, li_93, li_94, li_95, li_96, li_97, li_98, li_99, li_100, li_104, li_108, li_110, li_115, li_116, li_160, li_200, li_220, li_300, li_9999, nI_add, nI_mul, p_clamp, p_le, p_lt, p_eq, p_m1lt, p_m1eq, p_m1ge, p_eqm1, i_clamp, p_leT, p_leF, p_ltT, p_ltF, p_eqT, p_eqF, or_self, or_false, false_or, or_true, true_or, not_false_eq_true, not_true_eq_false, ↓reduceIte, and_self, and_true, true_and, and_false, false_and, ↓gv_e, g1, g2, gnl, Nat.reduceAdd, Nat.add_zero, reduceCtorEq, n2]
    · unfold f_X9_append; simp (disch := omega) only [neg1, li_0, li_1, li_2, li_3, li_4, li_5, li_6, li_7, li_8, li_9, li_10, li_11, li_12, li_13, li_14, li_15, li_16, li_20, li_23, li_24, li_26, li_29, li_30, li_36, li_39, li_40, li_42, li_43, li_47, li_48, li_49, li_50, li_53, li_57, li_58, li_59, li_60, li_61, li_62, li_64, li_68, li_71, li_72, li_74, li_80, li_86, li_92, li_93, li_94, li_95, li_96, li_97, li_98, li_99, li_100, li_104, li_108, li_110, li_115, li_116, li_160, li_200, li_220, li_300, li_9999, nI_add, nI_mul, p_clamp, p_le, p_lt, p_eq, p_m1lt, p_m1eq, p_m1ge, p_eqm1, i_clamp, p_leT, p_leF, p_ltT, p_ltF, p_eqT, p_eqF, or_self, or_false, false_or, or_true, true_or, not_false_eq_true, not_true_eq_false, ↓reduceIte, and_self, and_true, true_and, and_false, false_and, ↓gv_e, g1, g2, gnl, Nat.reduceAdd, Nat.add_zero, reduceCtorEq, n3, x_fails]
  · have e1 : ms σ 389 n (vp_nar .char u) 388 1 = nI n := by rw [ms_cell (by decide)]; exact n2
    have e2 : ms m 438 n (vp_nar .char u) 433 7 = nI n := by rw [ms_cell (by decide)]; exact n3
    refine ⟨0, nI (n + 1), ms (ms σ 389 n (vp_nar .char u)) 388 1 (nI (n + 1)), nI (n + 1), ms (ms (ms m 438 n (vp_nar .char u)) 433 7 (nI (n + 1))) 433 12 (nI 0), 0, ?_, ?_, ?_, ?_, RR_up (RR_tx H ?_ ?_ ?_ ?_ ?_ ⟨n + 1, by omega, ms_ss, ?_, ?_⟩ ?_) (by omega), ms_ss, by decide, fun _ => rfl⟩
    · have p1 : n < 60 := by omega
      unfold f_X8_append f_X5_addSign
      simp (disch := omega) only [neg1, li_0, li_1, li_2, li_3, li_4, li_5, li_6, li_7, li_8, li_9, li_10, li_11, li_12, li_13, li_14, li_15, li_16, li_20, li_23, li_24, li_26, li_29, li_30, li_36, li_39, li_40, li_42, li_43, li_47, li_48, li_49, li_50, li_53, li_57, li_58, li_59, li_60, li_61, li_62, li_64, li_68, li_71, li_72, li_74, li_80, li_86, li_92, li_93, li_94, li_95, li_96, li_97, li_98, li_99, li_100, li_104, li_108, li_110, li_115, li_116, li_160, li_200, li_220, li_300, li_9999, nI_add, nI_mul, p_clamp, p_le, p_lt, p_eq, p_m1lt, p_m1eq, p_m1ge, p_eqm1, i_clamp, p_leT, p_leF, p_ltT, p_ltF, p_eqT, p_eqF, or_self, or_false, false_or, or_true, true_or, not_false_eq_true, not_true_eq_false, ↓reduceIte, and_self, and_true, true_and, and_false, false_and, ↓gv_e, g1, g2, gnl, Nat.reduceAdd, Nat.add_zero, reduceCtorEq, n2, gl389, e1, ms_ss]
    · unfold f_X9_append
      simp (disch := omega) only [neg1, li_0, li_1, li_2, li_3, li_4, li_5, li_6, li_7, li_8, li_9, li_10, li_11, li_12, li_13, li_14, li_15, li_16, li_20, li_23, li_24, li_26, li_29, li_30, li_36, li_39, li_40, li_42, li_43, li_47, li_48, li_49, li_50, li_53, li_57, li_58, li_59, li_60, li_61, li_62, li_64, li_68, li_71, li_72, li_74, li_80, li_86, li_92, li_93, li_94, li_95, li_96, li_97, li_98, li_99, li_100, li_104, li_108, li_110, li_115, li_116, li_160, li_200, li_220, li_300, li_9999, nI_add, nI_mul, p_clamp, p_le, p_lt, p_eq, p_m1lt, p_m1eq, p_m1ge, p_eqm1, i_clamp, p_leT, p_leF, p_ltT, p_ltF, p_eqT, p_eqF, or_self, or_false, false_or, or_true, true_or, not_false_eq_true, not_true_eq_false, ↓reduceIte, and_self, and_true, true_and, and_false, false_and, ↓gv_e, g1, g2, gnl, Nat.reduceAdd, Nat.add_zero, reduceCtorEq, n3, gl438, e2, ms_ss, x_done]
    · intro c hc; rw [ms_cell (by omega), ms_cell (by omega)]
    · intro c hc; rw [ms_cell (by omega), ms_cell (by omega), ms_cell (by omega)]
    · intro c h1 h2; rw [ms_cell (by omega), ms_cell (by omega)]
    · rw [ms_cell (by decide), ms_cell (by decide)]
    · rw [ms_cell (by decide), ms_cell (by decide)]
    · intro c hc; rw [ms_cell (by omega), ms_cell (by omega), ms_cell (by omega)]
    · intro j hj; rw [ms_ap, if_neg (by omega), ms_ap, if_neg (by omega), ms_cell (by decide)]
    · rw [ms_ap, if_neg (by decide)]; exact ms_ss
    · intro j hj
      rw [ms_cell (by decide), ms_ap, ms_cell (by decide), ms_cell (by decide), ms_ap]
      by_cases q : j = n
      · rw [if_pos ⟨rfl, q⟩, if_pos ⟨rfl, q⟩]
      · rw [if_neg (fun e => q e.2), if_neg (fun e => q e.2)]; exact n4 j (by omega)
    · rw [ms_cell (by decide), ms_cell (by decide), ms_ap, if_neg (by decide), ms_ap, if_neg (by decide), ms_cell (by decide)]; exact H.2.2.2.2.1
theorem s_undo (H : RR N σ m) : RES N σ m (f_X8_undo 0 σ) (f_X9_undo 433 m) [(0, 0), (5, 1)] := by
  obtain ⟨a1, ⟨a2, a3⟩, ⟨cnt, a4, h8, nw, hnw, b1, b2, b3⟩, a6, a7, a8, a9⟩ := H
  have H : RR N σ m := ⟨a1, ⟨a2, a3⟩, ⟨cnt, a4, h8, nw, hnw, b1, b2, b3⟩, a6, a7, a8, a9⟩
  by_cases p : cnt = 0
  · subst p
    refine res_fail H (e := 5) (c := 1) (a := nI 0) (b := nI 0) ?_ ?_ (by decide) (by decide)
    · unfold f_X8_undo; simp (disch := omega) only [neg1, li_0, li_1, li_2, li_3, li_4, li_5, li_6, li_7, li_8, li_9, li_10, li_11, li_12, li_13, li_14, li_15, li_16, li_20, li_23, li_24, li_26, li_29, li_30, li_36, li_39, li_40, li_42, li_43, li_47, li_48, li_49, li_50, li_53, li_57, li_58, li_59, li_60, li_61, li_62, li_64, li_68, li_71, li_72, li_74, li_80, li_86, li_92, li_93, li_94, li_95, li_96, li_97, li_98, li_99, li_100, li_104, li_108, li_110, li_115, li_116, li_160, li_200, li_220, li_300, li_9999, nI_add, nI_mul, p_clamp, p_le, p_lt, p_eq, p_m1lt, p_m1eq, p_m1ge, p_eqm1, i_clamp, p_leT, p_leF, p_ltT, p_ltF, p_eqT, p_eqF, or_self, or_false, false_or, or_true, true_or, not_false_eq_true, not_true_eq_false, ↓reduceIte, and_self, and_true, true_and, and_false, false_and, ↓gv_e, g1, g2, gnl, Nat.reduceAdd, Nat.add_zero, reduceCtorEq, b1]
    · unfold f_X9_undo; simp (disch := omega) only [neg1, li_0, li_1, li_2, li_3, li_4, li_5, li_6, li_7, li_8, li_9, li_10, li_11, li_12, li_13, li_14, li_15, li_16, li_20, li_23, li_24, li_26, li_29, li_30, li_36, li_39, li_40, li_42, li_43, li_47, li_48, li_49, li_50, li_53, li_57, li_58, li_59, li_60, li_61, li_62, li_64, li_68, li_71, li_72, li_74, li_80, li_86, li_92, li_93, li_94, li_95, li_96, li_97, li_98, li_99, li_100, li_104, li_108, li_110, li_115, li_116, li_160, li_200, li_220, li_300, li_9999, nI_add, nI_mul, p_clamp, p_le, p_lt, p_eq, p_m1lt, p_m1eq, p_m1ge, p_eqm1, i_clamp, p_leT, p_leF, p_ltT, p_ltF, p_eqT, p_eqF, or_self, or_false, false_or, or_true, true_or, not_false_eq_true, not_true_eq_false, ↓reduceIte, and_self, and_true, true_and, and_false, false_and, ↓gv_e, g1, g2, gnl, Nat.reduceAdd, Nat.add_zero, reduceCtorEq, a4, x_fails]
  · have f0 := p_fmod (a := nw) (b := 8) (by omega) (by decide) (by decide) σ
    rw [Nat.mod_eq_of_lt hnw] at f0
    have hr := HF_ring nw hnw
    have hq := b3 0 (by omega)
    rw [show (nw + 8 - 0) % 8 = nw by omega, Nat.sub_zero] at hq
    obtain ⟨σ2, c1, c2⟩ := c_copyR (σ0 := σ) (d := 1) (s := 108 + 35 * nw) (g := hG (m 436) (cnt - 1)) (by omega) HF_1 hr hq.1
    have ea : (106 + 1) + (1 + 35 * nw) = 108 + 35 * nw := by omega
    have k1 : σ2 106 1 = nI nw := by rw [c2.2 106 (by omega)]; exact b2
    have k2 : σ2 106 2 = nI cnt := by rw [c2.2 106 (by omega)]; exact b1
    have k3 : ∀ c, 36 ≤ c ∨ c = 0 → σ2 c = σ c := fun c q => c2.2 c (by omega)
    have f1 : f_J9_floorMod_7cf53 (nI nw - nI 1) (nI 8) σ2 = some (nI ((nw + 7) % 8), σ2) := by
      by_cases q : nw = 0
      · subst q
        rw [show nI 0 - nI 1 = m1 by decide]
        exact p_fmod_m1 σ2
      · rw [nI_sub (by omega), p_fmod (by omega) (by decide) (by decide)]
        congr 3; omega
    have e3 : nI cnt - nI 1 = nI (cnt - 1) := nI_sub (by omega)
    have k4 : ms σ2 106 1 (nI ((nw + 7) % 8)) 106 2 = nI cnt := by rw [ms_ap, if_neg (by decide)]; exact k2
    obtain ⟨m2, hm2⟩ : ∃ m2, m2 = ms m 433 3 (nI (cnt - 1)) := ⟨_, rfl⟩
    have m23 : m2 433 3 = nI (cnt - 1) := by rw [hm2]; exact ms_ss
    have xc := x_copy (m := m2) (src := 436) (dst := 434) (a := 220 * (cnt - 1)) (b := 0) (by decide) (by rw [gl436]; omega) (by decide +kernel) (by decide +kernel) (by decide +kernel)
    have e4 : nI (cnt - 1) * nI 220 = nI (220 * (cnt - 1)) := by rw [nI_mul, Nat.mul_comm]
    obtain ⟨G, hG'⟩ : ∃ G, G = va_cpy (m2 436) (m2 434) (220 * (cnt - 1)) 0 220 := ⟨_, rfl⟩
    have gG : ∀ j, j < 220 → G j = hG (m 436) (cnt - 1) j := fun j hj => by
      rw [hG', va_cpy_ap, if_pos (by omega), hm2, ms_cell (by decide)]; exact congrArg (m 436) (by omega)
    rw [← hG'] at xc
    have m33 : mc m2 434 G 433 3 = nI (cnt - 1) := by rw [mc_n (by decide)]; exact m23
    have pe : ¬ cnt = 0 := p
    have mo : ∀ c, c ≠ 433 → c ≠ 434 → ms (mc m2 434 G) 433 12 (nI 0) c = m c := fun c q1 q2 => by rw [ms_cell q1, mc_n q2, hm2, ms_cell q1]
    have mj : ∀ j, j ≠ 3 → j ≠ 12 → ms (mc m2 434 G) 433 12 (nI 0) 433 j = m 433 j := fun j q1 q2 => by rw [ms_ap, if_neg (by omega), mc_n (by decide), hm2, ms_ap, if_neg (by omega)]
    refine ⟨0, nI (cnt - 1), ms (ms σ2 106 1 (nI ((nw + 7) % 8))) 106 2 (nI (cnt - 1)), nI (cnt - 1), ms (mc m2 434 G) 433 12 (nI 0), 0, ?_, ?_, ?_, ?_, RR_up (N := N) ⟨?_, ⟨?_, ?_⟩, ⟨cnt - 1, ?_, by omega, (nw + 7) % 8, Nat.mod_lt _ (by decide), ms_ss, ?_, ?_⟩, TX_own a6 ?_ ?_ ?_ ?_, ?_, ?_, ?_⟩ (by omega), ms_ss, by decide, fun _ => rfl⟩
    · unfold f_X8_undo f_X1_giveBackTo
      simp (disch := omega) only [neg1, li_0, li_1, li_2, li_3, li_4, li_5, li_6, li_7, li_8, li_9, li_10, li_11, li_12, li_13, li_14, li_15, li_16, li_20, li_23, li_24, li_26, li_29, li_30, li_36, li_39, li_40, li_42, li_43, li_47, li_48, li_49, li_50, li_53, li_57, li_58, li_59, li_60, li_61, li_62, li_64, li_68, li_71, li_72, li_74, li_80, li_86, li_92, li_93, li_94, li_95, li_96, li_97, li_98, li_99, li_100, li_104, li_108, li_110, li_115, li_116, li_160, li_200, li_220, li_300, li_9999, nI_add, nI_mul, p_clamp, p_le, p_lt, p_eq, p_m1lt, p_m1eq, p_m1ge, p_eqm1, i_clamp, p_leT, p_leF, p_ltT, p_ltF, p_eqT, p_eqF, or_self, or_false, false_or, or_true, true_or, not_false_eq_true, not_true_eq_false, ↓reduceIte, and_self, and_true, true_and, and_false, false_and, ↓gv_e, g1, g2, gnl, Nat.reduceAdd, Nat.add_zero, reduceCtorEq, b1, pe, b2, f0, gl107, ea, c1, k1, f1, k4, e3, ms_ss]
    · unfold f_X9_undo
      simp (disch := omega) only [neg1, li_0, li_1, li_2, li_3, li_4, li_5, li_6, li_7, li_8, li_9, li_10, li_11, li_12, li_13, li_14, li_15, li_16, li_20, li_23, li_24, li_26, li_29, li_30, li_36, li_39, li_40, li_42, li_43, li_47, li_48, li_49, li_50, li_53, li_57, li_58, li_59, li_60, li_61, li_62, li_64, li_68, li_71, li_72, li_74, li_80, li_86, li_92, li_93, li_94, li_95, li_96, li_97, li_98, li_99, li_100, li_104, li_108, li_110, li_115, li_116, li_160, li_200, li_220, li_300, li_9999, nI_add, nI_mul, p_clamp, p_le, p_lt, p_eq, p_m1lt, p_m1eq, p_m1ge, p_eqm1, i_clamp, p_leT, p_leF, p_ltT, p_ltF, p_eqT, p_eqF, or_self, or_false, false_or, or_true, true_or, not_false_eq_true, not_true_eq_false, ↓reduceIte, and_self, and_true, true_and, and_false, false_and, ↓gv_e, g1, g2, gnl, Nat.reduceAdd, Nat.add_zero, reduceCtorEq, a4, pe, e3, ← hm2, m23, e4, xc, m33, x_done]
    · intro c hc; rw [ms_cell (by omega), ms_cell (by omega), k3 c (by omega)]
    · intro c hc; exact mo c (by omega) (by omega)
    · rw [ms_cell (by decide), mc_s]
      refine HQ_g (HQ_own (σ := σ2) (g := hG (m 436) (cnt - 1)) ⟨c2.1, hq.2⟩ (fun c q1 q2 => by rw [ms_cell (by omega), ms_cell (by omega)])) gG
    · rw [ms_cell (by decide), ms_cell (by decide), k3 0 (by decide), mj 5 (by decide) (by decide)]; exact a2
    · intro h
      rw [mj 5 (by decide) (by decide)] at h
      rw [mo 437 (by decide) (by decide)]
      exact HQ_own (a3 h) (fun c q1 q2 => by rw [ms_cell (by omega), ms_cell (by omega), k3 c (by omega)])
    · rw [ms_ap, if_neg (by decide)]; exact m33
    · rw [ms_ap, if_neg (by decide)]; exact ms_ss
    · intro k hk
      have hq := b3 (k + 1) (by omega)
      rw [mo 436 (by decide) (by decide), show ((nw + 7) % 8 + 8 - k) % 8 = (nw + 8 - (k + 1)) % 8 by omega, show cnt - 1 - 1 - k = cnt - 1 - (k + 1) by omega]
      exact HQ_own hq (fun c q1 q2 => by rw [ms_cell (by omega), ms_cell (by omega), k3 c (by omega)])
    · rw [ms_cell (by decide), ms_cell (by decide), k3 388 (by decide)]
    · rw [ms_cell (by decide), ms_cell (by decide), k3 389 (by decide)]
    · exact mj 7 (by decide) (by decide)
    · exact mo 438 (by decide) (by decide)
    · rw [ms_cell (by decide), ms_cell (by decide), k3 0 (by decide), mj 8 (by decide) (by decide)]; exact a7
    · rw [ms_cell (by decide), ms_cell (by decide), k3 431 (by decide), mj 9 (by decide) (by decide)]; exact a8
    · rw [ms_cell (by decide), ms_cell (by decide), k3 431 (by decide), mj 10 (by decide) (by decide)]; exact a9
theorem s_save (H : RR N σ m) : RES N σ m (g1 (f_X8_save 0 σ) (fun a s => some (0, a, s))) (f_X9_save 433 m) [(0, 0)] := by
  obtain ⟨a1, ⟨a2, a3⟩, ⟨cnt, a4, a5⟩, a6, a7, a8, a9⟩ := H
  obtain ⟨σ2, c1, c2⟩ := c_copyR (σ0 := σ) (d := 71) (s := 1) (g := m 434) (by omega) HF_71 HF_1 a1.1
  have k3 : ∀ c, c < 71 ∨ 106 ≤ c → σ2 c = σ c := fun c q => c2.2 c (by omega)
  have r := r_nW c2
  have e1 : ms σ2 0 3 (nI 1) 71 8 = m 434 29 := by rw [ms_cell (by decide)]; exact r
  have xc := x_copy (m := m) (src := 434) (dst := 437) (a := 0) (b := 0) (by decide) (by decide +kernel) (by decide +kernel) (by decide +kernel) (by decide +kernel)
  obtain ⟨G, hG'⟩ : ∃ G, G = va_cpy (m 434) (m 437) 0 0 220 := ⟨_, rfl⟩
  have gG : ∀ j, j < 220 → G j = m 434 j := fun j hj => by
    rw [hG', va_cpy_ap, if_pos (by omega)]; exact congrArg (m 434) (by omega)
  rw [← hG'] at xc
  have e2 : ms (mc m 437 G) 433 5 (nI 1) 434 29 = m 434 29 := by rw [ms_cell (by decide), mc_n (by decide)]
  have mo : ∀ c, c ≠ 433 → c ≠ 437 → ms (ms (mc m 437 G) 433 5 (nI 1)) 433 12 (nI 0) c = m c := fun c q1 q2 => by rw [ms_cell q1, ms_cell q1, mc_n q2]
  have mj : ∀ j, j ≠ 5 → j ≠ 12 → ms (ms (mc m 437 G) 433 5 (nI 1)) 433 12 (nI 0) 433 j = m 433 j := fun j q1 q2 => by rw [ms_ap, if_neg (by omega), ms_ap, if_neg (by omega), mc_n (by decide)]
  refine ⟨0, m 434 29, ms σ2 0 3 (nI 1), m 434 29, ms (ms (mc m 437 G) 433 5 (nI 1)) 433 12 (nI 0), 0, ?_, ?_, ?_, ?_, RR_up (N := N) ⟨?_, ⟨?_, ?_⟩, ⟨cnt, ?_, ?_⟩, TX_own a6 ?_ ?_ ?_ ?_, ?_, ?_, ?_⟩ (by omega), ms_ss, by decide, fun _ => rfl⟩
  · unfold f_X8_save
    simp (disch := omega) only [neg1, li_0, li_1, li_2, li_3, li_4, li_5, li_6, li_7, li_8, li_9, li_10, li_11, li_12, li_13, li_14, li_15, li_16, li_20, li_23, li_24, li_26, li_29, li_30, li_36, li_39, li_40, li_42, li_43, li_47, li_48, li_49, li_50, li_53, li_57, li_58, li_59, li_60, li_61, li_62, li_64, li_68, li_71, li_72, li_74, li_80, li_86, li_92, li_93, li_94, li_95, li_96, li_97, li_98, li_99, li_100, li_104, li_108, li_110, li_115, li_116, li_160, li_200, li_220, li_300, li_9999, nI_add, nI_mul, p_clamp, p_le, p_lt, p_eq, p_m1lt, p_m1eq, p_m1ge, p_eqm1, i_clamp, p_leT, p_leF, p_ltT, p_ltF, p_eqT, p_eqF, or_self, or_false, false_or, or_true, true_or, not_false_eq_true, not_true_eq_false, ↓reduceIte, and_self, and_true, true_and, and_false, false_and, ↓gv_e, g1, g2, gnl, Nat.reduceAdd, Nat.add_zero, reduceCtorEq, c1, e1]
  · unfold f_X9_save
    simp (disch := omega) only [neg1, li_0, li_1, li_2, li_3, li_4, li_5, li_6, li_7, li_8, li_9, li_10, li_11, li_12, li_13, li_14, li_15, li_16, li_20, li_23, li_24, li_26, li_29, li_30, li_36, li_39, li_40, li_42, li_43, li_47, li_48, li_49, li_50, li_53, li_57, li_58, li_59, li_60, li_61, li_62, li_64, li_68, li_71, li_72, li_74, li_80, li_86, li_92, li_93, li_94, li_95, li_96, li_97, li_98, li_99, li_100, li_104, li_108, li_110, li_115, li_116, li_160, li_200, li_220, li_300, li_9999, nI_add, nI_mul, p_clamp, p_le, p_lt, p_eq, p_m1lt, p_m1eq, p_m1ge, p_eqm1, i_clamp, p_leT, p_leF, p_ltT, p_ltF, p_eqT, p_eqF, or_self, or_false, false_or, or_true, true_or, not_false_eq_true, not_true_eq_false, ↓reduceIte, and_self, and_true, true_and, and_false, false_and, ↓gv_e, g1, g2, gnl, Nat.reduceAdd, Nat.add_zero, reduceCtorEq, xc, gl434, e2, x_done]
  · intro c hc; rw [ms_cell (by omega), k3 c (by omega)]
  · intro c hc; exact mo c (by omega) (by omega)
  · rw [mo 434 (by decide) (by decide)]
    exact HQ_own a1 (fun c q1 q2 => by rw [ms_cell (by omega), k3 c (by omega)])
  · rw [ms_ss, ms_ap, if_neg (by decide)]; exact ms_ss.symm
  · intro _
    rw [ms_cell (by decide), ms_cell (by decide), mc_s]
    exact HQ_g (HQ_own (σ := σ2) (g := m 434) ⟨c2.1, a1.2⟩ (fun c q1 q2 => by rw [ms_cell (by omega)])) gG
  · rw [mj 3 (by decide) (by decide)]; exact a4
  · rw [mo 436 (by decide) (by decide)]
    exact HI_own a5 (fun c q1 q2 => by rw [ms_cell (by omega), k3 c (by omega)])
  · rw [ms_cell (by decide), k3 388 (by decide)]
  · rw [ms_cell (by decide), k3 389 (by decide)]
  · exact mj 7 (by decide) (by decide)
  · exact mo 438 (by decide) (by decide)
  · rw [ms_ap, if_neg (by decide), k3 0 (by decide), mj 8 (by decide) (by decide)]; exact a7
  · rw [ms_cell (by decide), k3 431 (by decide), mj 9 (by decide) (by decide)]; exact a8
  · rw [ms_cell (by decide), k3 431 (by decide), mj 10 (by decide) (by decide)]; exact a9
theorem s_restore (H : RR N σ m) : RES N σ m (f_X8_restore 0 σ) (f_X9_restore 433 m) [(0, 0), (5, 1)] := by
  obtain ⟨a1, ⟨a2, a3⟩, ⟨cnt, a4, h8, nw, hnw, b1, b2, b3⟩, a6, a7, a8, a9⟩ := H
  have H : RR N σ m := ⟨a1, ⟨a2, a3⟩, ⟨cnt, a4, h8, nw, hnw, b1, b2, b3⟩, a6, a7, a8, a9⟩
  by_cases p : m 433 5 = nI 0
  · refine res_fail H (e := 5) (c := 1) (a := nI 0) (b := nI 0) ?_ ?_ (by decide) (by decide)
    · unfold f_X8_restore; simp (disch := omega) only [neg1, li_0, li_1, li_2, li_3, li_4, li_5, li_6, li_7, li_8, li_9, li_10, li_11, li_12, li_13, li_14, li_15, li_16, li_20, li_23, li_24, li_26, li_29, li_30, li_36, li_39, li_40, li_42, li_43, li_47, li_48, li_49, li_50, li_53, li_57, li_58, li_59, li_60, li_61, li_62, li_64, li_68, li_71, li_72, li_74, li_80, li_86, li_92, li_93, li_94, li_95, li_96, li_97, li_98, li_99, li_100, li_104, li_108, li_110, li_115, li_116, li_160, li_200, li_220, li_300, li_9999, nI_add, nI_mul, p_clamp, p_le, p_lt, p_eq, p_m1lt, p_m1eq, p_m1ge, p_eqm1, i_clamp, p_leT, p_leF, p_ltT, p_ltF, p_eqT, p_eqF, or_self, or_false, false_or, or_true, true_or, not_false_eq_true, not_true_eq_false, ↓reduceIte, and_self, and_true, true_and, and_false, false_and, ↓gv_e, g1, g2, gnl, Nat.reduceAdd, Nat.add_zero, reduceCtorEq, a2, p]
    · unfold f_X9_restore; simp (disch := omega) only [neg1, li_0, li_1, li_2, li_3, li_4, li_5, li_6, li_7, li_8, li_9, li_10, li_11, li_12, li_13, li_14, li_15, li_16, li_20, li_23, li_24, li_26, li_29, li_30, li_36, li_39, li_40, li_42, li_43, li_47, li_48, li_49, li_50, li_53, li_57, li_58, li_59, li_60, li_61, li_62, li_64, li_68, li_71, li_72, li_74, li_80, li_86, li_92, li_93, li_94, li_95, li_96, li_97, li_98, li_99, li_100, li_104, li_108, li_110, li_115, li_116, li_160, li_200, li_220, li_300, li_9999, nI_add, nI_mul, p_clamp, p_le, p_lt, p_eq, p_m1lt, p_m1eq, p_m1ge, p_eqm1, i_clamp, p_leT, p_leF, p_ltT, p_ltF, p_eqT, p_eqF, or_self, or_false, false_or, or_true, true_or, not_false_eq_true, not_true_eq_false, ↓reduceIte, and_self, and_true, true_and, and_false, false_and, ↓gv_e, g1, g2, gnl, Nat.reduceAdd, Nat.add_zero, reduceCtorEq, p, x_fails]
  · have hq := a3 p
    obtain ⟨σ2, c1, c2⟩ := c_copyR (σ0 := σ) (d := 1) (s := 71) (g := m 437) (by omega) HF_1 HF_71 hq.1
    have k3 : ∀ c, 36 ≤ c ∨ c = 0 → σ2 c = σ c := fun c q => c2.2 c (by omega)
    have r := r_nW c2
    have e1 : ms σ2 106 2 (nI 0) 1 8 = m 437 29 := by rw [ms_cell (by decide)]; exact r
    have xc := x_copy (m := m) (src := 437) (dst := 434) (a := 0) (b := 0) (by decide) (by decide +kernel) (by decide +kernel) (by decide +kernel) (by decide +kernel)
    obtain ⟨G, hG'⟩ : ∃ G, G = va_cpy (m 437) (m 434) 0 0 220 := ⟨_, rfl⟩
    have gG : ∀ j, j < 220 → G j = m 437 j := fun j hj => by
      rw [hG', va_cpy_ap, if_pos (by omega)]; exact congrArg (m 437) (by omega)
    rw [← hG'] at xc
    have e2 : ms (mc m 434 G) 433 3 (nI 0) 434 29 = m 437 29 := by rw [ms_cell (by decide), mc_s]; exact gG 29 (by decide)
    have mo : ∀ c, c ≠ 433 → c ≠ 434 → ms (ms (mc m 434 G) 433 3 (nI 0)) 433 12 (nI 0) c = m c := fun c q1 q2 => by rw [ms_cell q1, ms_cell q1, mc_n q2]
    have mj : ∀ j, j ≠ 3 → j ≠ 12 → ms (ms (mc m 434 G) 433 3 (nI 0)) 433 12 (nI 0) 433 j = m 433 j := fun j q1 q2 => by rw [ms_ap, if_neg (by omega), ms_ap, if_neg (by omega), mc_n (by decide)]
    refine ⟨0, m 437 29, ms σ2 106 2 (nI 0), m 437 29, ms (ms (mc m 434 G) 433 3 (nI 0)) 433 12 (nI 0), 0, ?_, ?_, ?_, ?_, RR_up (N := N) ⟨?_, ⟨?_, ?_⟩, ⟨0, ?_, by omega, nw, hnw, ms_ss, ?_, fun k hk => absurd hk (by omega)⟩, TX_own a6 ?_ ?_ ?_ ?_, ?_, ?_, ?_⟩ (by omega), ms_ss, by decide, fun _ => rfl⟩
    · unfold f_X8_restore
      simp (disch := omega) only [neg1, li_0, li_1, li_2, li_3, li_4, li_5, li_6, li_7, li_8, li_9, li_10, li_11, li_12, li_13, li_14, li_15, li_16, li_20, li_23, li_24, li_26, li_29, li_30, li_36, li_39, li_40, li_42, li_43, li_47, li_48, li_49, li_50, li_53, li_57, li_58, li_59, li_60, li_61, li_62, li_64, li_68, li_71, li_72, li_74, li_80, li_86, li_92, li_93, li_94, li_95, li_96, li_97, li_98, li_99, li_100, li_104, li_108, li_110, li_115, li_116, li_160, li_200, li_220, li_300, li_9999, nI_add, nI_mul, p_clamp, p_le, p_lt, p_eq, p_m1lt, p_m1eq, p_m1ge, p_eqm1, i_clamp, p_leT, p_leF, p_ltT, p_ltF, p_eqT, p_eqF, or_self, or_false, false_or, or_true, true_or, not_false_eq_true, not_true_eq_false, ↓reduceIte, and_self, and_true, true_and, and_false, false_and, ↓gv_e, g1, g2, gnl, Nat.reduceAdd, Nat.add_zero, reduceCtorEq, a2, p, c1, e1]
    · unfold f_X9_restore
      simp (disch := omega) only [neg1, li_0, li_1, li_2, li_3, li_4, li_5, li_6, li_7, li_8, li_9, li_10, li_11, li_12, li_13, li_14, li_15, li_16, li_20, li_23, li_24, li_26, li_29, li_30, li_36, li_39, li_40, li_42, li_43, li_47, li_48, li_49, li_50, li_53, li_57, li_58, li_59, li_60, li_61, li_62, li_64, li_68, li_71, li_72, li_74, li_80, li_86, li_92, li_93, li_94, li_95, li_96, li_97, li_98, li_99, li_100, li_104, li_108, li_110, li_115, li_116, li_160, li_200, li_220, li_300, li_9999, nI_add, nI_mul, p_clamp, p_le, p_lt, p_eq, p_m1lt, p_m1eq, p_m1ge, p_eqm1, i_clamp, p_leT, p_leF, p_ltT, p_ltF, p_eqT, p_eqF, or_self, or_false, false_or, or_true, true_or, not_false_eq_true, not_true_eq_false, ↓reduceIte, and_self, and_true, true_and, and_false, false_and, ↓gv_e, g1, g2, gnl, Nat.reduceAdd, Nat.add_zero, reduceCtorEq, p, xc, gl434, e2, x_done]
    · intro c hc; rw [ms_cell (by omega), k3 c (by omega)]
    · intro c hc; exact mo c (by omega) (by omega)
    · rw [ms_cell (by decide), ms_cell (by decide), mc_s]
      exact HQ_g (HQ_own (σ := σ2) (g := m 437) ⟨c2.1, hq.2⟩ (fun c q1 q2 => by rw [ms_cell (by omega)])) gG
    · rw [ms_cell (by decide), k3 0 (by decide), mj 5 (by decide) (by decide)]; exact a2
    · intro h
      rw [mo 437 (by decide) (by decide)]
      exact HQ_own hq (fun c q1 q2 => by rw [ms_cell (by omega), k3 c (by omega)])
    · rw [ms_ap, if_neg (by decide)]; exact ms_ss
    · rw [ms_ap, if_neg (by decide), k3 106 (by decide)]; exact b2
    · rw [ms_cell (by decide), k3 388 (by decide)]
    · rw [ms_cell (by decide), k3 389 (by decide)]
    · exact mj 7 (by decide) (by decide)
    · exact mo 438 (by decide) (by decide)
    · rw [ms_cell (by decide), k3 0 (by decide), mj 8 (by decide) (by decide)]; exact a7
    · rw [ms_cell (by decide), k3 431 (by decide), mj 9 (by decide) (by decide)]; exact a8
    · rw [ms_cell (by decide), k3 431 (by decide), mj 10 (by decide) (by decide)]; exact a9
end
