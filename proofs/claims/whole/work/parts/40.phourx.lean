/-! THE PURE SIDE: an hour goes by, both sides -/
theorem mis_0 {w C : Nat} (hw : w < 1000) (hC : C < 1000) : ((if nI 0 ≤ nI w - nI C then nI w - nI C else nI 0) = nI 0) = (w ≤ C) := by
  apply propext
  by_cases q : C < w
  · rw [nI_sub (by omega), if_pos (show nI 0 ≤ nI (w - C) from nI_pos' (by omega)), p_eq (by omega) (by omega)]; omega
  · refine ⟨fun _ => by omega, fun _ => ?_⟩
    by_cases q2 : w = C
    · subst q2; rw [Int32.sub_self]; rfl
    · rw [if_neg]
      intro h
      rw [Int32.le_iff_toInt_le, Int32.toInt_sub, p_int (by omega), p_int (by omega), p_int (by omega), bm32] at h
      split at h <;> omega
theorem GB_eff {N X k : Nat} {g : Nat → Int32} (h : GB N g) (hc : ∃ c : Nat, g 1 = nI c ∧ c ≤ X) (hX : X + 200 ≤ 100 + 1200 * N) (hN : N ≤ 1000000) (hk : k < 6) : GB N (effG g k) ∧ ∃ c : Nat, effG g k 1 = nI c ∧ c ≤ X + 200 := by
  obtain ⟨c, hc1, hc2⟩ := hc
  unfold effG
  split
  · rename_i hh
    rcases b_atb h hk with q | ⟨n, q, q2⟩
    · exact absurd q hh.1
    · obtain ⟨b, hb1, hb2⟩ := b_brg h hk
      rw [q, i_clamp (by omega), hc1, hb1, nI_add]
      refine ⟨v_hld (v_dmp (v_crs (v_etn (v_got (v_coin h (by omega) (by omega)) _) _) (by omega) (by omega)) (by omega) (by omega)) _, c + b, ?_, by omega⟩
      simp (disch := omega) only [neg1, li_0, li_1, li_2, li_3, li_4, li_5, li_6, li_7, li_8, li_9, li_10, li_11, li_12, li_13, li_14, li_15, li_16, li_20, li_23, li_24, li_26, li_29, li_30, li_36, li_39, li_40, li_42, li_43, li_47, li_48, li_49, li_50, li_53, li_57, li_58, li_59, li_60, li_61, li_62, li_64, li_68, li_71, li_72, li_74, li_80, li_86, li_92, li_93, li_94, li_95, li_96, li_97, li_98, li_99, li_100, li_104, li_108, li_110, li_115, li_116, li_160, li_200, li_220, li_300, li_9999, nI_add, nI_mul, p_clamp, p_le, p_lt, p_eq, p_m1lt, p_m1eq, p_m1ge, p_eqm1, i_clamp, p_leT, p_leF, p_ltT, p_ltF, p_eqT, p_eqF, or_self, or_false, false_or, or_true, true_or, not_false_eq_true, not_true_eq_false, ↓reduceIte, and_self, and_true, true_and, and_false, false_and, ↓gv_e, g1, g2, gnl, Nat.reduceAdd, Nat.add_zero, reduceCtorEq, upd_ap]
  · exact ⟨v_spl h _, c, by rw [upd_ap, if_neg (by omega)]; exact hc1, by omega⟩
section
variable {m : gMem} {N : Nat}
theorem x_holds (hb : GB N (m 434)) {X k : Nat} (hc : ∃ c : Nat, m 434 1 = nI c ∧ c ≤ X) (hX : X + 200 ≤ 100 + 1200 * N) (hN : N ≤ 1000000) (hk : k < iN (m 434 61)) : f_X9_holds 433 (nI k) m = some ((), mc m 434 (drG (effG (m 434) k) k)) := by
  have h6 := (n_B hb).2
  have hbe := (GB_eff hb hc hX hN (k := k) (by omega)).1
  have e61 : effG (m 434) k 61 = m 434 61 := eff5_61 (wk5_of hb) (by omega)
  have ed := x_drops (m := mc m 434 (effG (m 434) k)) (N := N) (by rw [mc_s]; exact hbe) (k := k) (by rw [mc_s, e61]; exact hk)
  rw [mc_s, mc_mc] at ed
  obtain ⟨c, hc1, hc2⟩ := hc
  rcases b_atb hb (i := k) (by omega) with q | ⟨n, q, q2⟩
  · have ee : effG (m 434) k = upd (m 434) 94 (m 434 94 + nI 1) := by unfold effG; rw [if_neg (fun p => p.1 q)]
    rw [ee] at ed ⊢
    unfold f_X9_holds
    simp (disch := omega) only [neg1, li_0, li_1, li_2, li_3, li_4, li_5, li_6, li_7, li_8, li_9, li_10, li_11, li_12, li_13, li_14, li_15, li_16, li_20, li_23, li_24, li_26, li_29, li_30, li_36, li_39, li_40, li_42, li_43, li_47, li_48, li_49, li_50, li_53, li_57, li_58, li_59, li_60, li_61, li_62, li_64, li_68, li_71, li_72, li_74, li_80, li_86, li_92, li_93, li_94, li_95, li_96, li_97, li_98, li_99, li_100, li_104, li_108, li_110, li_115, li_116, li_160, li_200, li_220, li_300, li_9999, nI_add, nI_mul, p_clamp, p_le, p_lt, p_eq, p_m1lt, p_m1eq, p_m1ge, p_eqm1, i_clamp, p_leT, p_leF, p_ltT, p_ltF, p_eqT, p_eqF, or_self, or_false, false_or, or_true, true_or, not_false_eq_true, not_true_eq_false, ↓reduceIte, and_self, and_true, true_and, and_false, false_and, ↓gv_e, g1, g2, gnl, Nat.reduceAdd, Nat.add_zero, reduceCtorEq, gl434, q, ms_434, ed]
  · have e1 := x_miss hb (k := k) (by omega)
    have hn : m 434 (86 + k) ≠ m1 := by rw [q]; intro p; rw [p_eqm1 (by omega)] at p; exact p
    by_cases q3 : mis (m 434) k = nI 0
    · obtain ⟨b, hb1, hb2⟩ := b_brg hb (i := k) (by omega)
      have hbb : GB N (mc m 434 (upd (upd (m 434) 1 (m 434 1 + m 434 (80 + k))) 98 (m 434 98 + m 434 (80 + k))) 434) := by
        rw [mc_s, hc1, hb1, nI_add]; exact v_got (v_coin hb (by omega) (by omega)) _
      have e2 := x_cubesIn (m := mc m 434 (upd (upd (m 434) 1 (m 434 1 + m 434 (80 + k))) 98 (m 434 98 + m 434 (80 + k)))) hbb (t := n) (by omega)
      have e3 : gC (upd (upd (m 434) 1 (m 434 1 + m 434 (80 + k))) 98 (m 434 98 + m 434 (80 + k))) n = gC (m 434) n := by
        unfold gC; simp only [upd_ap]; rw [if_neg (by omega), if_neg (by omega)]
      have e4 : sm (fun j => cub (upd (upd (m 434) 1 (m 434 1 + m 434 (80 + k))) 98 (m 434 98 + m 434 (80 + k))) n j) 0 (gC (m 434) n) = sm (fun j => cub (m 434) n j) 0 (gC (m 434) n) := by
        refine sm_congr _ _ (fun j _ _ => ?_)
        simp only [upd_ap]; rw [if_neg (by omega), if_neg (by omega)]
      rw [mc_s, e3, e4] at e2
      have ee : effG (m 434) k = upd (upd (upd (upd (upd (upd (m 434) 1 (m 434 1 + m 434 (80 + k))) 98 (m 434 98 + m 434 (80 + k))) 97 (m 434 97 + sm (fun j => cub (m 434) n j) 0 (gC (m 434) n))) (36 + n) (nI 0)) (30 + n) (nI 0)) 93 (m 434 93 + nI 1) := by
        unfold effG; rw [if_pos ⟨hn, q3⟩, q, i_clamp (by omega)]
      rw [ee] at ed ⊢
      unfold f_X9_holds
      simp (disch := omega) only [neg1, li_0, li_1, li_2, li_3, li_4, li_5, li_6, li_7, li_8, li_9, li_10, li_11, li_12, li_13, li_14, li_15, li_16, li_20, li_23, li_24, li_26, li_29, li_30, li_36, li_39, li_40, li_42, li_43, li_47, li_48, li_49, li_50, li_53, li_57, li_58, li_59, li_60, li_61, li_62, li_64, li_68, li_71, li_72, li_74, li_80, li_86, li_92, li_93, li_94, li_95, li_96, li_97, li_98, li_99, li_100, li_104, li_108, li_110, li_115, li_116, li_160, li_200, li_220, li_300, li_9999, nI_add, nI_mul, p_clamp, p_le, p_lt, p_eq, p_m1lt, p_m1eq, p_m1ge, p_eqm1, i_clamp, p_leT, p_leF, p_ltT, p_ltF, p_eqT, p_eqF, or_self, or_false, false_or, or_true, true_or, not_false_eq_true, not_true_eq_false, ↓reduceIte, and_self, and_true, true_and, and_false, false_and, ↓gv_e, g1, g2, gnl, Nat.reduceAdd, Nat.add_zero, reduceCtorEq, gl434, q, e1, q3, ms_434, mc_s, mc_mc, upd_ap, e2, ed]
    · have ee : effG (m 434) k = upd (m 434) 94 (m 434 94 + nI 1) := by unfold effG; rw [if_neg (fun p => q3 p.2)]
      rw [ee] at ed ⊢
      unfold f_X9_holds
      simp (disch := omega) only [neg1, li_0, li_1, li_2, li_3, li_4, li_5, li_6, li_7, li_8, li_9, li_10, li_11, li_12, li_13, li_14, li_15, li_16, li_20, li_23, li_24, li_26, li_29, li_30, li_36, li_39, li_40, li_42, li_43, li_47, li_48, li_49, li_50, li_53, li_57, li_58, li_59, li_60, li_61, li_62, li_64, li_68, li_71, li_72, li_74, li_80, li_86, li_92, li_93, li_94, li_95, li_96, li_97, li_98, li_99, li_100, li_104, li_108, li_110, li_115, li_116, li_160, li_200, li_220, li_300, li_9999, nI_add, nI_mul, p_clamp, p_le, p_lt, p_eq, p_m1lt, p_m1eq, p_m1ge, p_eqm1, i_clamp, p_leT, p_leF, p_ltT, p_ltF, p_eqT, p_eqF, or_self, or_false, false_or, or_true, true_or, not_false_eq_true, not_true_eq_false, ↓reduceIte, and_self, and_true, true_and, and_false, false_and, ↓gv_e, g1, g2, gnl, Nat.reduceAdd, Nat.add_zero, reduceCtorEq, gl434, q, e1, q3, ms_434, ed]
theorem x_hold_L (hN : N ≤ 1000000) (u : Int32) : ∀ (n k fuel X : Nat) (g : Nat → Int32), n < fuel → k + n = iN (g 61) → GB N g → (∃ c : Nat, g 1 = nI c ∧ c ≤ X) → X + 200 * n ≤ 100 + 1200 * N → L_X9_goesHour_139 433 u fuel (nI k) (mc m 434 g) = some (u, mc m 434 (hlG k n g)) ∧ GB N (hlG k n g) := by
  intro n
  induction n with
  | zero =>
    intro k fuel X g hf hk hb hc hX
    obtain ⟨f, rfl⟩ : ∃ f, fuel = f + 1 := ⟨fuel - 1, by omega⟩
    obtain ⟨hB, h6⟩ := n_B hb
    rw [← hk] at hB
    have e : mc m 434 g 434 61 = nI (k + 0) := by rw [mc_s]; exact hB
    refine ⟨?_, hb⟩
    simp (disch := omega) only [neg1, li_0, li_1, li_2, li_3, li_4, li_5, li_6, li_7, li_8, li_9, li_10, li_11, li_12, li_13, li_14, li_15, li_16, li_20, li_23, li_24, li_26, li_29, li_30, li_36, li_39, li_40, li_42, li_43, li_47, li_48, li_49, li_50, li_53, li_57, li_58, li_59, li_60, li_61, li_62, li_64, li_68, li_71, li_72, li_74, li_80, li_86, li_92, li_93, li_94, li_95, li_96, li_97, li_98, li_99, li_100, li_104, li_108, li_110, li_115, li_116, li_160, li_200, li_220, li_300, li_9999, nI_add, nI_mul, p_clamp, p_le, p_lt, p_eq, p_m1lt, p_m1eq, p_m1ge, p_eqm1, i_clamp, p_leT, p_leF, p_ltT, p_ltF, p_eqT, p_eqF, or_self, or_false, false_or, or_true, true_or, not_false_eq_true, not_true_eq_false, ↓reduceIte, and_self, and_true, true_and, and_false, false_and, ↓gv_e, g1, g2, gnl, Nat.reduceAdd, Nat.add_zero, reduceCtorEq, L_X9_goesHour_139, gl434, e, hlG]
  | succ n ih =>
    intro k fuel X g hf hk hb hc hX
    obtain ⟨f, rfl⟩ : ∃ f, fuel = f + 1 := ⟨fuel - 1, by omega⟩
    obtain ⟨hB, h6⟩ := n_B hb
    have e : mc m 434 g 434 61 = nI (k + (n + 1)) := by rw [mc_s, hk]; exact hB
    have e1 : mc m 434 g 434 (68 + k) = g (68 + k) := by rw [mc_s]
    have e2 : mc m 434 g 434 0 = g 0 := by rw [mc_s]
    rw [hlG]
    by_cases q : g (68 + k) = g 0
    · have e3 := x_holds (m := mc m 434 g) (N := N) (X := X) (by rw [mc_s]; exact hb) (by rw [mc_s]; exact hc) (by omega) hN (k := k) (by rw [mc_s]; omega)
      rw [mc_s, mc_mc] at e3
      obtain ⟨g1', g2'⟩ := GB_eff hb hc (by omega) hN (k := k) (by omega)
      have e61 : effG g k 61 = g 61 := eff5_61 (wk5_of hb) (by omega)
      have h1 : drG (effG g k) k 1 = effG g k 1 := drG_o (by omega)
      have hi := ih k f (X + 200) (drG (effG g k) k) (by omega) (by rw [dr_61 (by rw [e61]; exact h6), e61]; omega) (GB_drG g1' (by rw [e61]; omega)) (by rw [h1]; exact g2') (by omega)
      rw [if_pos q]
      refine ⟨?_, hi.2⟩
      simp (disch := omega) only [neg1, li_0, li_1, li_2, li_3, li_4, li_5, li_6, li_7, li_8, li_9, li_10, li_11, li_12, li_13, li_14, li_15, li_16, li_20, li_23, li_24, li_26, li_29, li_30, li_36, li_39, li_40, li_42, li_43, li_47, li_48, li_49, li_50, li_53, li_57, li_58, li_59, li_60, li_61, li_62, li_64, li_68, li_71, li_72, li_74, li_80, li_86, li_92, li_93, li_94, li_95, li_96, li_97, li_98, li_99, li_100, li_104, li_108, li_110, li_115, li_116, li_160, li_200, li_220, li_300, li_9999, nI_add, nI_mul, p_clamp, p_le, p_lt, p_eq, p_m1lt, p_m1eq, p_m1ge, p_eqm1, i_clamp, p_leT, p_leF, p_ltT, p_ltF, p_eqT, p_eqF, or_self, or_false, false_or, or_true, true_or, not_false_eq_true, not_true_eq_false, ↓reduceIte, and_self, and_true, true_and, and_false, false_and, ↓gv_e, g1, g2, gnl, Nat.reduceAdd, Nat.add_zero, reduceCtorEq, L_X9_goesHour_139, gl434, e, e1, e2, q, e3]
      exact hi.1
    · have hi := ih (k + 1) f X g (by omega) (by omega) hb hc (by omega)
      rw [if_neg q]
      refine ⟨?_, hi.2⟩
      simp (disch := omega) only [neg1, li_0, li_1, li_2, li_3, li_4, li_5, li_6, li_7, li_8, li_9, li_10, li_11, li_12, li_13, li_14, li_15, li_16, li_20, li_23, li_24, li_26, li_29, li_30, li_36, li_39, li_40, li_42, li_43, li_47, li_48, li_49, li_50, li_53, li_57, li_58, li_59, li_60, li_61, li_62, li_64, li_68, li_71, li_72, li_74, li_80, li_86, li_92, li_93, li_94, li_95, li_96, li_97, li_98, li_99, li_100, li_104, li_108, li_110, li_115, li_116, li_160, li_200, li_220, li_300, li_9999, nI_add, nI_mul, p_clamp, p_le, p_lt, p_eq, p_m1lt, p_m1eq, p_m1ge, p_eqm1, i_clamp, p_leT, p_leF, p_ltT, p_ltF, p_eqT, p_eqF, or_self, or_false, false_or, or_true, true_or, not_false_eq_true, not_true_eq_false, ↓reduceIte, and_self, and_true, true_and, and_false, false_and, ↓gv_e, g1, g2, gnl, Nat.reduceAdd, Nat.add_zero, reduceCtorEq, L_X9_goesHour_139, gl434, e, e1, e2, q]
      exact hi.1
end
/-- the bounds before the banquets of an hour -/
theorem GB_hr4 {N : Nat} {g : Nat → Int32} (hb : GB N g) (hN : N + 1 ≤ 1000000) : GB N (hr1 g) ∧ GB N (hr2 g) ∧ GB N (hr3 g) ∧ GB (N + 1) (hr4 g) ∧ hr4 g 61 = g 61 ∧ hr4 g 1 = g 1 := by
  obtain ⟨hW, h6⟩ := n_W hb
  obtain ⟨hT, h4⟩ := n_T hb
  obtain ⟨hr, e0, e0'⟩ := b_hour hb
  have hm : iN (g 0) % 24 < 24 := Nat.mod_lt _ (by decide)
  obtain ⟨p, hp, hp2⟩ := b_hum hb hm
  have b1 : GB N (hr1 g) := by unfold hr1; rw [hp, i_clamp (by omega)]; exact GB_dmpL hp2 _ _ _ hb (by omega)
  have b2 : GB N (hr2 g) := GB_brkS _ _ _ b1 (by omega)
  have b3 : GB N (hr3 g) := GB_rstL _ _ _ b2 (by omega)
  have e3 : hr3 g 0 = g 0 := by
    unfold hr3 hr2 hr1; rw [rstL_o _ _ _ (by omega), brkS_o _ _ _ (by omega) (by omega) (by omega), dmpL_o _ _ _ (by omega)]
  have e4 : hr3 g 61 = g 61 := by
    unfold hr3 hr2 hr1; rw [rstL_o _ _ _ (by omega), brkS_o _ _ _ (by omega) (by omega) (by omega), dmpL_o _ _ _ (by omega)]
  have e5 : hr3 g 1 = g 1 := by
    unfold hr3 hr2 hr1; rw [rstL_o _ _ _ (by omega), brkS_o _ _ _ (by omega) (by omega) (by omega), dmpL_o _ _ _ (by omega)]
  refine ⟨b1, b2, b3, ?_, ?_, ?_⟩
  · unfold hr4; rw [e3, e0, nI_add]; exact v_hour (GB_up b3 (by omega)) (by omega) (by omega)
  · unfold hr4; rw [upd_ap, if_neg (by omega)]; exact e4
  · unfold hr4; rw [upd_ap, if_neg (by omega)]; exact e5
theorem GB_hrG {N : Nat} {g : Nat → Int32} (hb : GB N g) (hN : N + 1 ≤ 1000000) : GB (N + 1) (hrG g) := by
  obtain ⟨-, -, -, b4, e61, e1⟩ := GB_hr4 hb hN
  obtain ⟨c, hc, hc2⟩ := b_coin hb
  have h6 := (n_B hb).2
  exact (x_hold_L (m := fun _ _ => 0) (N := N + 1) hN (nI 0) (iN (g 61)) 0 gF (100 + 1200 * N) (hr4 g) (by unfold gF; omega) (by rw [e61]; omega) b4 ⟨c, by rw [e1]; exact hc, hc2⟩ (by omega)).2
theorem x_hour {m : gMem} {N : Nat} (hb : GB N (m 434)) (hN : N + 1 ≤ 1000000) : f_X9_goesHour 433 m = some (hrA (m 434) (nI 0), mc m 434 (hrG (m 434))) := by
  obtain ⟨b1, b2, b3, b4, e61, e1⟩ := GB_hr4 hb hN
  obtain ⟨hr, e0, e0'⟩ := b_hour hb
  obtain ⟨hW, h6⟩ := n_W hb
  obtain ⟨hT, h4⟩ := n_T hb
  have h6B := (n_B hb).2
  obtain ⟨c, hc, hc2⟩ := b_coin hb
  have hi0 : iN (m 434 0) = hr := by rw [e0]; exact i_clamp (by omega)
  have hm : hr % 24 < 24 := Nat.mod_lt _ (by decide)
  obtain ⟨p, hp, hp2⟩ := b_hum hb hm
  have er1 : hr1 (m 434) = dmpL p 0 (iN (m 434 29)) (m 434) := by unfold hr1; rw [hi0, hp, i_clamp (by omega)]
  obtain ⟨F, hF, hF2⟩ : ∃ F, gF = F ∧ 1000 < F := ⟨gF, rfl, by unfold gF; omega⟩
  have eW : hr1 (m 434) 29 = m 434 29 := by unfold hr1; exact dmpL_o _ _ _ (by omega)
  have eT : hr2 (m 434) 48 = m 434 48 := by unfold hr2 hr1; rw [brkS_o _ _ _ (by omega) (by omega) (by omega), dmpL_o _ _ _ (by omega)]
  have ed := fun K => x_dmp_L (m := m) (N := N) (hr := hr) (p := p) (by omega) hp2 (nI 0) K (iN (m 434 29)) 0 F (m 434) (by omega) (by omega) hb e0 hp
  simp only [mc_self, ← er1] at ed
  have eb := fun K => x_brk_L (m := m) (N := N) K (iN (m 434 29)) 0 F (nI 0) (hr1 (m 434)) (by omega) (by rw [eW]; omega) b1
  have ec := fun u K => x_rst_L (m := m) (N := N) u K (iN (m 434 48)) 0 F (hr2 (m 434)) (by omega) (by rw [eT]; omega) b2
  have e10 := fun u => (x_hold_L (m := m) (N := N + 1) hN u (iN (m 434 61)) 0 F (100 + 1200 * N) (hr4 (m 434)) (by omega) (by rw [e61]; omega) b4 ⟨c, by rw [e1]; exact hc, hc2⟩ (by omega)).1
  have e9 : mc m 434 (hr3 (m 434)) 434 0 = hr3 (m 434) 0 := by rw [mc_s]
  have e11 : ms (mc m 434 (hr3 (m 434))) 434 0 (hr3 (m 434) 0 + nI 1) = mc m 434 (hr4 (m 434)) := by rw [ms_mc]; rfl
  have er2 : brkS 0 (iN (m 434 29)) (hr1 (m 434)) = hr2 (m 434) := rfl
  have er3 : rstL 0 (iN (m 434 48)) (hr2 (m 434)) = hr3 (m 434) := rfl
  have erA : brkA 0 (iN (m 434 29)) (nI 0) (hr1 (m 434)) = hrA (m 434) (nI 0) := rfl
  have erG : hlG 0 (iN (m 434 61)) (hr4 (m 434)) = hrG (m 434) := rfl
  rw [er2, erA] at eb
  rw [er3] at ec
  rw [erG] at e10
  unfold f_X9_goesHour
  rw [hF]
  clear hF
  simp (disch := omega) only [neg1, li_0, li_1, li_2, li_3, li_4, li_5, li_6, li_7, li_8, li_9, li_10, li_11, li_12, li_13, li_14, li_15, li_16, li_20, li_23, li_24, li_26, li_29, li_30, li_36, li_39, li_40, li_42, li_43, li_47, li_48, li_49, li_50, li_53, li_57, li_58, li_59, li_60, li_61, li_62, li_64, li_68, li_71, li_72, li_74, li_80, li_86, li_92, li_93, li_94, li_95, li_96, li_97, li_98, li_99, li_100, li_104, li_108, li_110, li_115, li_116, li_160, li_200, li_220, li_300, li_9999, nI_add, nI_mul, p_clamp, p_le, p_lt, p_eq, p_m1lt, p_m1eq, p_m1ge, p_eqm1, i_clamp, p_leT, p_leF, p_ltT, p_ltF, p_eqT, p_eqF, or_self, or_false, false_or, or_true, true_or, not_false_eq_true, not_true_eq_false, ↓reduceIte, and_self, and_true, true_and, and_false, false_and, ↓gv_e, g1, g2, gnl, Nat.reduceAdd, Nat.add_zero, reduceCtorEq, ed, eb, ec, gl434, e9, e11, e10]
def psS : Nat → (Nat → Int32) → (Nat → Int32)
  | 0, g => g
  | n + 1, g => psS n (hrG g)
def psA : Nat → Int32 → (Nat → Int32) → Int32
  | 0, a, _ => a
  | n + 1, a, g => psA n (a + hrA g (nI 0)) (hrG g)
theorem GB_psS : ∀ (n N : Nat) (g : Nat → Int32), GB N g → N + n ≤ 1000000 → GB (N + n) (psS n g) := by
  intro n
  induction n with
  | zero => intro N g h _; exact h
  | succ n ih =>
    intro N g h hN
    rw [psS, show N + (n + 1) = N + 1 + n by omega]
    exact ih (N + 1) _ (GB_hrG h (by omega)) (by omega)
theorem x_pass_L {m : gMem} {u : Nat} (hu : u < 100) : ∀ (n i fuel N : Nat) (a : Int32) (g : Nat → Int32), n < fuel → i + n = u → GB N g → N + n ≤ 1000000 → L_X9_passes_20 433 (nI u) fuel a (nI i) (mc m 434 g) = f_X9_done 433 (psA n a g) (mc m 434 (psS n g)) := by
  intro n
  induction n with
  | zero =>
    intro i fuel N a g hf hi hb hN
    obtain ⟨f, rfl⟩ : ∃ f, fuel = f + 1 := ⟨fuel - 1, by omega⟩
    simp (disch := omega) only [neg1, li_0, li_1, li_2, li_3, li_4, li_5, li_6, li_7, li_8, li_9, li_10, li_11, li_12, li_13, li_14, li_15, li_16, li_20, li_23, li_24, li_26, li_29, li_30, li_36, li_39, li_40, li_42, li_43, li_47, li_48, li_49, li_50, li_53, li_57, li_58, li_59, li_60, li_61, li_62, li_64, li_68, li_71, li_72, li_74, li_80, li_86, li_92, li_93, li_94, li_95, li_96, li_97, li_98, li_99, li_100, li_104, li_108, li_110, li_115, li_116, li_160, li_200, li_220, li_300, li_9999, nI_add, nI_mul, p_clamp, p_le, p_lt, p_eq, p_m1lt, p_m1eq, p_m1ge, p_eqm1, i_clamp, p_leT, p_leF, p_ltT, p_ltF, p_eqT, p_eqF, or_self, or_false, false_or, or_true, true_or, not_false_eq_true, not_true_eq_false, ↓reduceIte, and_self, and_true, true_and, and_false, false_and, ↓gv_e, g1, g2, gnl, Nat.reduceAdd, Nat.add_zero, reduceCtorEq, L_X9_passes_20, psA, psS, x_done]
  | succ n ih =>
    intro i fuel N a g hf hi hb hN
    obtain ⟨f, rfl⟩ : ∃ f, fuel = f + 1 := ⟨fuel - 1, by omega⟩
    have e := x_hour (m := mc m 434 g) (N := N) (by rw [mc_s]; exact hb) (by omega)
    rw [mc_s, mc_mc] at e
    have hi2 := ih (i + 1) f (N + 1) (a + hrA g (nI 0)) (hrG g) (by omega) (by omega) (GB_hrG hb (by omega)) (by omega)
    simp (disch := omega) only [neg1, li_0, li_1, li_2, li_3, li_4, li_5, li_6, li_7, li_8, li_9, li_10, li_11, li_12, li_13, li_14, li_15, li_16, li_20, li_23, li_24, li_26, li_29, li_30, li_36, li_39, li_40, li_42, li_43, li_47, li_48, li_49, li_50, li_53, li_57, li_58, li_59, li_60, li_61, li_62, li_64, li_68, li_71, li_72, li_74, li_80, li_86, li_92, li_93, li_94, li_95, li_96, li_97, li_98, li_99, li_100, li_104, li_108, li_110, li_115, li_116, li_160, li_200, li_220, li_300, li_9999, nI_add, nI_mul, p_clamp, p_le, p_lt, p_eq, p_m1lt, p_m1eq, p_m1ge, p_eqm1, i_clamp, p_leT, p_leF, p_ltT, p_ltF, p_eqT, p_eqF, or_self, or_false, false_or, or_true, true_or, not_false_eq_true, not_true_eq_false, ↓reduceIte, and_self, and_true, true_and, and_false, false_and, ↓gv_e, g1, g2, gnl, Nat.reduceAdd, Nat.add_zero, reduceCtorEq, L_X9_passes_20, psA, psS, e]
    exact hi2
theorem x_passes {m : gMem} {N u : Nat} (hb : GB N (m 434)) (h1 : 1 ≤ u) (h2 : u ≤ 72) (hN : N + 72 ≤ 1000000) : f_X9_passes 433 (nI u) m = f_X9_done 433 (psA u (nI 0) (m 434)) (mc m 434 (psS u (m 434))) := by
  have e := x_pass_L (m := m) (u := u) (by omega) u 0 gF N (nI 0) (m 434) (by unfold gF; omega) (by omega) hb (by omega)
  rw [mc_self] at e
  have c2 : (1 : Int32) ≤ nI u ∧ nI u ≤ (72 : Int32) := ⟨nI_le (a := 1) h1 (by omega), nI_le (b := 72) h2 (by omega)⟩
  unfold f_X9_passes
  refine (g1_e (x_in _ _ _ _)).trans ?_
  rw [if_pos c2, if_neg (show ¬ nI 1 = (0 : Int32) by decide +kernel), li_0]
  exact e
theorem x_passesN {m : gMem} {u : Int32} (h : ¬ (nI 1 ≤ u ∧ u ≤ nI 72)) : f_X9_passes 433 u m = f_X9_fails 433 (nI 1) m := by
  unfold f_X9_passes
  refine (g1_e (x_in _ _ _ _)).trans ?_
  rw [if_neg (show ¬ ((1 : Int32) ≤ u ∧ u ≤ (72 : Int32)) from h), if_pos (show nI 0 = (0 : Int32) from rfl)]
  rfl
