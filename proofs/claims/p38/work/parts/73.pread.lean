/-! THE PURE SIDE OF THE LAW: changes, and reading a text -/
section
variable {N cnt n : Nat} {σ : gMem} {g f t : Nat → Int32} {gs : Option (Nat → Int32)}
/-- what was is kept -/
theorem ch_pre (H : CR N σ g f cnt gs n t) : ∃ σk, f_X1_keep 106 1 σ = some ((), σk) ∧ (∀ c, c < 106 ∨ 388 ≤ c → σk c = σ c) ∧ CR N σk g (KH f g cnt) (K8 cnt) gs n t := by
  obtain ⟨a1, a2, a3, a4, a5, a6⟩ := H
  obtain ⟨σk, c1, c2, c3⟩ := c_keep a2 a1
  exact ⟨σk, c1, c2, HQ_own a1 (fun c q1 q2 => c2 c (by omega)), c3 g (fun _ _ => rfl), fun s hs => ⟨by rw [c2 0 (by omega)]; exact (a3 s hs).1, HQ_own (a3 s hs).2 (fun c q1 q2 => c2 c (by omega))⟩, a4, by rw [c2 388 (by omega)]; exact a5, fun j hj => by rw [c2 389 (by omega)]; exact a6 j hj⟩
/-- what is now becomes another -/
theorem ch_post {N' : Nat} {σ1 : gMem} {g' : Nat → Int32} (H : CR N σ g f cnt gs n t) (q : qF σ σ1 1 g') (hg : GA N' g') (hN : N ≤ N') : CR N' σ1 g' f cnt gs n t := by
  obtain ⟨a1, a2, a3, a4, a5, a6⟩ := H
  have h : ∀ c, c < 1 ∨ 36 ≤ c → σ1 c = σ c := fun c hc => q.2 c (by omega)
  exact ⟨⟨q.1, hg⟩, HI_up (HI_own a2 (fun c q1 q2 => h c (by omega))) hN, fun s hs => ⟨by rw [h 0 (by omega)]; exact (a3 s hs).1, HQ_up (HQ_own (a3 s hs).2 (fun c q1 q2 => h c (by omega))) hN⟩, a4, by rw [h 388 (by omega)]; exact a5, fun j hj => by rw [h 389 (by omega)]; exact a6 j hj⟩
/-- the class' end of reading -/
def rdK (y29 _y30 : Int32) (m31 : gMem) : Option (Nat × Int32 × gMem) := if y29 = (1 : Int32) then (some (2, (0 : Int32), m31)) else (if y29 = (2 : Int32) then (some (3, (0 : Int32), m31)) else (g1 (f_X1_keep (0 + 106) (0 + 1) m31) (fun _ m35 => g1 (f_X2_copyFrom (0 + 1) (0 + 36) m35) (fun _ m38 => some (0, (m38 (0 + 388) 4), m38)))))
def rdS (σ1 : gMem) (e : Int32) : gMem := ms (ms σ1 0 6 e) 388 1 (nI 0)
theorem rd_cE {σ1 : gMem} {e : Int32} (h1 : f_X5_parseOrders 388 σ = some (e, σ1)) : f_X8_read 0 σ = if e = m1 then g1 (f_X2_copyFrom 36 1 (rdS σ1 e)) (fun _ m10 => L_X8_read_53 0 rdK gF (nI 0) (nI 0) m10) else some (2, nI 0, rdS σ1 e) := by
  have s06 : rdS σ1 e 0 6 = e := by unfold rdS; rw [ms_cell (by decide)]; exact ms_ss
  have h : f_X8_read 0 σ = if rdS σ1 e 0 6 = m1 then g1 (f_X2_copyFrom 36 1 (rdS σ1 e)) (fun _ m10 => L_X8_read_53 0 rdK gF (nI 0) (nI 0) m10) else some (2, nI 0, rdS σ1 e) := by
    unfold f_X8_read rdS
    refine (g1_e h1).trans ?_
    rfl
  rw [s06] at h
  exact h
theorem rdS_CR {σ1 : gMem} (H : CR N σ g f cnt gs n t) (fr : oFr σ σ1) (e : Int32) : CR N (rdS σ1 e) g f cnt gs 0 t := CR_txt H (fun c h1 h2 h3 => by unfold rdS; rw [ms_cell (by omega), ms_cell (by omega), fr c (by omega)]) (by unfold rdS; rw [ms_cell (by decide), ms_ap, if_neg (by decide), fr 0 (by omega)]) (by decide) (by unfold rdS; exact ms_ss) (fun j hj => absurd hj (by omega))
theorem rdS_06 {σ1 : gMem} {e : Int32} : rdS σ1 e 0 6 = e := by unfold rdS; rw [ms_cell (by decide)]; exact ms_ss
theorem rdS_c {σ1 : gMem} {e : Int32} {c : Nat} (h0 : c ≠ 0) (h1 : c ≠ 388) : rdS σ1 e c = σ1 c := by unfold rdS; rw [ms_cell h1, ms_cell h0]
theorem rdS_4 {σ1 : gMem} {e : Int32} : rdS σ1 e 388 4 = σ1 388 4 := by unfold rdS; rw [ms_ap, if_neg (by decide), ms_cell (by decide)]
/-- a text with an error -/
theorem d_faulty {σ1 : gMem} {q : Nat} (hq : q ≤ 60) (H : CR N σ g f cnt gs n t) (h1 : f_X5_parseOrders 388 σ = some (nI q, σ1)) (fr : oFr σ σ1) : f_L_reads 0 σ = some ((-1 : Int32), rdS σ1 (nI q)) ∧ CR N (rdS σ1 (nI q)) g f cnt gs 0 t := by
  refine ⟨?_, rdS_CR H fr _⟩
  unfold f_L_reads
  rw [rd_cE h1, if_neg (by rw [p_eqm1 (by omega)]; exact id)]
  rfl
theorem rd_step {S : gMem} {i c f' : Nat} (hi : i < c) (hc : c ≤ 20) (h4 : S 388 4 = nI c) : L_X8_read_53 0 rdK (f' + 1) (nI 0) (nI i) S = g1 (f_X8_tryOrder 0 (some (391 + 2 * i)) S) (fun r27 m25 => L_X8_read_53 0 rdK f' r27 (nI (i + 1)) m25) := by
  have hgk := gk_ord i (by omega)
  have ea : (388 + 2) + (1 + 2 * i) = 391 + 2 * i := by omega
  have eor : f_X5_orderAt 388 (nI i) S = some (some (391 + 2 * i), S) := by
    unfold f_X5_orderAt
    simp (disch := omega) only [neg1, li_0, li_1, li_2, li_3, li_4, li_5, li_6, li_7, li_8, li_9, li_10, li_11, li_12, li_13, li_14, li_15, li_16, li_20, li_23, li_24, li_26, li_29, li_30, li_36, li_39, li_40, li_42, li_43, li_47, li_48, li_49, li_50, li_53, li_57, li_58, li_59, li_60, li_61, li_62, li_64, li_68, li_71, li_72, li_74, li_80, li_86, li_92, li_93, li_94, li_95, li_96, li_97, li_98, li_99, li_100, li_104, li_108, li_110, li_115, li_116, li_160, li_200, li_220, li_300, li_9999, nI_add, nI_mul, p_clamp, p_le, p_lt, p_eq, p_m1lt, p_m1eq, p_m1ge, p_eqm1, i_clamp, p_leT, p_leF, p_ltT, p_ltF, p_eqT, p_eqF, or_self, or_false, false_or, or_true, true_or, not_false_eq_true, not_true_eq_false, ↓reduceIte, and_self, and_true, true_and, and_false, false_and, ↓gv_e, g1, g2, gnl, Nat.reduceAdd, Nat.add_zero, reduceCtorEq, h4, gl390, ea]
  have e : L_X8_read_53 0 rdK (f' + 1) (nI 0) (nI i) S = if S (0 + 388) 4 ≤ nI i then rdK (nI 0) (nI i) S else (if nI 0 = (0 : Int32) then (g1 (f_X5_orderAt (0 + 388) (nI i) S) (fun r18 m16 => gnl r18 (g1 (f_X8_tryOrder 0 none m16) (fun r23 m21 => gv (nI i + (1 : Int32)) (fun x24 => L_X8_read_53 0 rdK f' r23 x24 m21))) (fun z19 => if gk z19 = 3 then g1 (f_X8_tryOrder 0 (some z19) m16) (fun r27 m25 => gv (nI i + (1 : Int32)) (fun x28 => L_X8_read_53 0 rdK f' r27 x28 m25)) else none))) else rdK (nI 0) (nI i) S) := rfl
  rw [e, if_neg (by rw [show 0 + 388 = 388 from rfl, h4, p_le (by omega) (by omega)]; omega), if_pos (show nI 0 = (0 : Int32) from rfl), g1_e eor]
  show (if gk (391 + 2 * i) = 3 then _ else none) = _
  rw [if_pos hgk]
  simp only [li_1, nI_add, ↓gv_e]
theorem rd_end {S : gMem} {c f' : Nat} (h4 : S 388 4 = nI c) : L_X8_read_53 0 rdK (f' + 1) (nI 0) (nI c) S = rdK (nI 0) (nI c) S := by
  show (if S (0 + 388) 4 ≤ nI c then rdK (nI 0) (nI c) S else _) = _
  rw [if_pos (by rw [show 0 + 388 = 388 from rfl, h4]; exact Int32.le_refl _)]
theorem rd_bad {S : gMem} {i f' : Nat} : L_X8_read_53 0 rdK (f' + 1) (nI 1) (nI i) S = some (2, nI 0, S) := by
  show (if S (0 + 388) 4 ≤ nI i then rdK (nI 1) (nI i) S else (if nI 1 = (0 : Int32) then _ else rdK (nI 1) (nI i) S)) = _
  have hr : rdK (nI 1) (nI i) S = some (2, nI 0, S) := rfl
  rw [if_neg (show ¬ nI 1 = (0 : Int32) by decide), hr]
  split <;> rfl
end
section
variable {N : Nat} {σ0 σ : gMem} {g : Nat → Int32}
theorem to_pass (H : qF σ0 σ 36 g) (hg : GI N g) (hN : N + 72 ≤ 1000000) {z u : Nat} (hz : gk z = 3) (hzl : gl (z + 1) = 4) (hu1 : 1 ≤ u) (hu : u ≤ 72) (hl : σ z 0 = nI 104) (ha : σ (z + 1) 0 = nI u) : ∃ σ', f_X8_tryOrder 0 (some z) σ = some (nI 0, σ') ∧ qF σ0 σ' 36 (psS u g) := by
  have e0 := c_btw (nI 1) (nI u) (nI 72) σ
  rw [if_pos ⟨by rw [p_le (by decide) (by omega)]; exact hu1, by rw [p_le (by omega) (by decide)]; exact hu⟩] at e0
  obtain ⟨σ', s1, s2⟩ := cy_hours HF_36 hu hg hN H
  refine ⟨σ', ?_, s2⟩
  have e1 : f_X8_tryToPass 0 (nI u) σ = some (nI 0, σ') := by
    unfold f_X8_tryToPass
    simp (disch := omega) only [neg1, li_0, li_1, li_2, li_3, li_4, li_5, li_6, li_7, li_8, li_9, li_10, li_11, li_12, li_13, li_14, li_15, li_16, li_20, li_23, li_24, li_26, li_29, li_30, li_36, li_39, li_40, li_42, li_43, li_47, li_48, li_49, li_50, li_53, li_57, li_58, li_59, li_60, li_61, li_62, li_64, li_68, li_71, li_72, li_74, li_80, li_86, li_92, li_93, li_94, li_95, li_96, li_97, li_98, li_99, li_100, li_104, li_108, li_110, li_115, li_116, li_160, li_200, li_220, li_300, li_9999, nI_add, nI_mul, p_clamp, p_le, p_lt, p_eq, p_m1lt, p_m1eq, p_m1ge, p_eqm1, i_clamp, p_leT, p_leF, p_ltT, p_ltF, p_eqT, p_eqF, or_self, or_false, false_or, or_true, true_or, not_false_eq_true, not_true_eq_false, ↓reduceIte, and_self, and_true, true_and, and_false, false_and, ↓gv_e, g1, g2, gnl, Nat.reduceAdd, Nat.add_zero, reduceCtorEq, Nat.zero_add, e0, s1]
  unfold f_X8_tryOrder
  simp only [g1_id]
  simp (disch := omega) only [neg1, li_0, li_1, li_2, li_3, li_4, li_5, li_6, li_7, li_8, li_9, li_10, li_11, li_12, li_13, li_14, li_15, li_16, li_20, li_23, li_24, li_26, li_29, li_30, li_36, li_39, li_40, li_42, li_43, li_47, li_48, li_49, li_50, li_53, li_57, li_58, li_59, li_60, li_61, li_62, li_64, li_68, li_71, li_72, li_74, li_80, li_86, li_92, li_93, li_94, li_95, li_96, li_97, li_98, li_99, li_100, li_104, li_108, li_110, li_115, li_116, li_160, li_200, li_220, li_300, li_9999, nI_add, nI_mul, p_clamp, p_le, p_lt, p_eq, p_m1lt, p_m1eq, p_m1ge, p_eqm1, i_clamp, p_leT, p_leF, p_ltT, p_ltF, p_eqT, p_eqF, or_self, or_false, false_or, or_true, true_or, not_false_eq_true, not_true_eq_false, ↓reduceIte, and_self, and_true, true_and, and_false, false_and, ↓gv_e, g1, g2, gnl, Nat.reduceAdd, Nat.add_zero, reduceCtorEq, hz, hzl, hl, ha, e1]
theorem to_pass0 {z : Nat} (hz : gk z = 3) (hzl : gl (z + 1) = 4) (hl : σ z 0 = nI 104) (ha : σ (z + 1) 0 = nI 0) : f_X8_tryOrder 0 (some z) σ = some (nI 1, σ) := by
  have e0 := c_btw (nI 1) (nI 0) (nI 72) σ
  rw [if_neg (by decide)] at e0
  have e1 : f_X8_tryToPass 0 (nI 0) σ = some (nI 1, σ) := by
    unfold f_X8_tryToPass
    simp (disch := omega) only [neg1, li_0, li_1, li_2, li_3, li_4, li_5, li_6, li_7, li_8, li_9, li_10, li_11, li_12, li_13, li_14, li_15, li_16, li_20, li_23, li_24, li_26, li_29, li_30, li_36, li_39, li_40, li_42, li_43, li_47, li_48, li_49, li_50, li_53, li_57, li_58, li_59, li_60, li_61, li_62, li_64, li_68, li_71, li_72, li_74, li_80, li_86, li_92, li_93, li_94, li_95, li_96, li_97, li_98, li_99, li_100, li_104, li_108, li_110, li_115, li_116, li_160, li_200, li_220, li_300, li_9999, nI_add, nI_mul, p_clamp, p_le, p_lt, p_eq, p_m1lt, p_m1eq, p_m1ge, p_eqm1, i_clamp, p_leT, p_leF, p_ltT, p_ltF, p_eqT, p_eqF, or_self, or_false, false_or, or_true, true_or, not_false_eq_true, not_true_eq_false, ↓reduceIte, and_self, and_true, true_and, and_false, false_and, ↓gv_e, g1, g2, gnl, Nat.reduceAdd, Nat.add_zero, reduceCtorEq, Nat.zero_add, e0]
  unfold f_X8_tryOrder
  simp only [g1_id]
  simp (disch := omega) only [neg1, li_0, li_1, li_2, li_3, li_4, li_5, li_6, li_7, li_8, li_9, li_10, li_11, li_12, li_13, li_14, li_15, li_16, li_20, li_23, li_24, li_26, li_29, li_30, li_36, li_39, li_40, li_42, li_43, li_47, li_48, li_49, li_50, li_53, li_57, li_58, li_59, li_60, li_61, li_62, li_64, li_68, li_71, li_72, li_74, li_80, li_86, li_92, li_93, li_94, li_95, li_96, li_97, li_98, li_99, li_100, li_104, li_108, li_110, li_115, li_116, li_160, li_200, li_220, li_300, li_9999, nI_add, nI_mul, p_clamp, p_le, p_lt, p_eq, p_m1lt, p_m1eq, p_m1ge, p_eqm1, i_clamp, p_leT, p_leF, p_ltT, p_ltF, p_eqT, p_eqF, or_self, or_false, false_or, or_true, true_or, not_false_eq_true, not_true_eq_false, ↓reduceIte, and_self, and_true, true_and, and_false, false_and, ↓gv_e, g1, g2, gnl, Nat.reduceAdd, Nat.add_zero, reduceCtorEq, hz, hzl, hl, ha, e1]
theorem to_take9 (H : qF σ0 σ 36 g) (hb : GB N g) {z : Nat} (hz : gk z = 3) (hzl : gl (z + 1) = 4) (hl : σ z 0 = nI 116) (ha : σ (z + 1) 0 = nI 9) : f_X8_tryOrder 0 (some z) σ = some (nI 1, σ) := by
  have hW := (n_W hb).2
  have e0 := c_towerAtN H hb (u := nI 9) (Or.inr ⟨by decide, by rw [p_le (by omega) (by decide)]; omega⟩)
  have e1 : f_X8_tryToTake 0 (nI 9) σ = some (nI 1, σ) := by
    unfold f_X8_tryToTake
    simp (disch := omega) only [neg1, li_0, li_1, li_2, li_3, li_4, li_5, li_6, li_7, li_8, li_9, li_10, li_11, li_12, li_13, li_14, li_15, li_16, li_20, li_23, li_24, li_26, li_29, li_30, li_36, li_39, li_40, li_42, li_43, li_47, li_48, li_49, li_50, li_53, li_57, li_58, li_59, li_60, li_61, li_62, li_64, li_68, li_71, li_72, li_74, li_80, li_86, li_92, li_93, li_94, li_95, li_96, li_97, li_98, li_99, li_100, li_104, li_108, li_110, li_115, li_116, li_160, li_200, li_220, li_300, li_9999, nI_add, nI_mul, p_clamp, p_le, p_lt, p_eq, p_m1lt, p_m1eq, p_m1ge, p_eqm1, i_clamp, p_leT, p_leF, p_ltT, p_ltF, p_eqT, p_eqF, or_self, or_false, false_or, or_true, true_or, not_false_eq_true, not_true_eq_false, ↓reduceIte, and_self, and_true, true_and, and_false, false_and, ↓gv_e, g1, g2, gnl, Nat.reduceAdd, Nat.add_zero, reduceCtorEq, Nat.zero_add, e0]
  unfold f_X8_tryOrder
  simp only [g1_id]
  simp (disch := omega) only [neg1, li_0, li_1, li_2, li_3, li_4, li_5, li_6, li_7, li_8, li_9, li_10, li_11, li_12, li_13, li_14, li_15, li_16, li_20, li_23, li_24, li_26, li_29, li_30, li_36, li_39, li_40, li_42, li_43, li_47, li_48, li_49, li_50, li_53, li_57, li_58, li_59, li_60, li_61, li_62, li_64, li_68, li_71, li_72, li_74, li_80, li_86, li_92, li_93, li_94, li_95, li_96, li_97, li_98, li_99, li_100, li_104, li_108, li_110, li_115, li_116, li_160, li_200, li_220, li_300, li_9999, nI_add, nI_mul, p_clamp, p_le, p_lt, p_eq, p_m1lt, p_m1eq, p_m1ge, p_eqm1, i_clamp, p_leT, p_leF, p_ltT, p_ltF, p_eqT, p_eqF, or_self, or_false, false_or, or_true, true_or, not_false_eq_true, not_true_eq_false, ↓reduceIte, and_self, and_true, true_and, and_false, false_and, ↓gv_e, g1, g2, gnl, Nat.reduceAdd, Nat.add_zero, reduceCtorEq, hz, hzl, hl, ha, e1]
end
/-! the six texts are parsed -/
section
variable {σ : gMem}
theorem tp_6 (h1 : σ 388 1 = nI 8) (hs : ∀ j, j < 8 → σ 389 j = gFc 6 j) : ∃ σ', f_X5_parseOrders 388 σ = some (m1, σ') ∧ oFr σ σ' ∧ σ' 388 4 = nI 3 ∧ (σ' 391 0 = nI 104 ∧ σ' 392 0 = nI 3) ∧ (σ' 393 0 = nI 104 ∧ σ' 394 0 = nI 1) ∧ (σ' 395 0 = nI 104 ∧ σ' 396 0 = nI 2) := by
  obtain ⟨F, hF⟩ : ∃ F, gF = F + 10 := ⟨3990, rfl⟩
  obtain ⟨s0, e0, P0, r0⟩ := ps_start (s := gFc 6) hF (by decide) h1 hs
  obtain ⟨s1, e1, P1, r1, a1, b1, c1⟩ := ps_mid (f := F + 9) (by decide) P0 (by decide) (po_6_0 (c1 := oC 0) (by decide) (by decide +kernel) P0.2.1 P0.2.2.2.2)
  rw [if_pos (by decide), if_pos (by decide +kernel)] at e1
  have Q1 := PS_next P1
  obtain ⟨t1, ht1⟩ : ∃ t1, t1 = ms s1 388 2 (nI (2 + 1)) := ⟨_, rfl⟩
  rw [← ht1] at e1 Q1
  have d1 : ∀ c, c ≠ 388 → t1 c = s1 c := fun c hc => by rw [ht1, ms_cell hc]
  obtain ⟨s2, e2, P2, r2, a2, b2, c2⟩ := ps_mid (f := F + 8) (by decide) Q1 (by decide) (po_6_3 (c1 := oC 1) (by decide) (by decide +kernel) Q1.2.1 Q1.2.2.2.2)
  rw [if_pos (by decide), if_pos (by decide +kernel)] at e2
  have Q2 := PS_next P2
  obtain ⟨t2, ht2⟩ : ∃ t2, t2 = ms s2 388 2 (nI (5 + 1)) := ⟨_, rfl⟩
  rw [← ht2] at e2 Q2
  have d2 : ∀ c, c ≠ 388 → t2 c = s2 c := fun c hc => by rw [ht2, ms_cell hc]
  obtain ⟨s3, e3, P3, r3, a3, b3, c3⟩ := ps_mid (f := F + 7) (by decide) Q2 (by decide) (po_6_6 (c1 := oC 2) (by decide) (by decide +kernel) Q2.2.1 Q2.2.2.2.2)
  rw [if_neg (by decide)] at e3
  refine ⟨s3, e0.trans (e1.trans (e2.trans e3)), ?_, P3.2.2.2.1, ⟨?_, ?_⟩, ⟨?_, ?_⟩, ⟨a3, ?_⟩⟩
  · exact oFr_tr r0 (oFr_tr r1 (oFr_tr (fun c hc => d1 c (by omega)) (oFr_tr r2 (oFr_tr (fun c hc => d2 c (by omega)) r3))))
  · rw [c3 391 (by decide) (by decide) (by decide), d2 391 (by decide), c2 391 (by decide) (by decide) (by decide), d1 391 (by decide)]; exact a1
  · rw [c3 392 (by decide) (by decide) (by decide), d2 392 (by decide), c2 392 (by decide) (by decide) (by decide), d1 392 (by decide)]; exact (congrFun b1 0).trans rfl
  · rw [c3 393 (by decide) (by decide) (by decide), d2 393 (by decide)]; exact a2
  · rw [c3 394 (by decide) (by decide) (by decide), d2 394 (by decide)]; exact (congrFun b2 0).trans rfl
  · exact (congrFun b3 0).trans rfl
theorem tp_7 (h1 : σ 388 1 = nI 5) (hs : ∀ j, j < 5 → σ 389 j = gFc 7 j) : ∃ σ', f_X5_parseOrders 388 σ = some (m1, σ') ∧ oFr σ σ' ∧ σ' 388 4 = nI 2 ∧ (σ' 391 0 = nI 104 ∧ σ' 392 0 = nI 3) ∧ (σ' 393 0 = nI 116 ∧ σ' 394 0 = nI 9) := by
  obtain ⟨F, hF⟩ : ∃ F, gF = F + 10 := ⟨3990, rfl⟩
  obtain ⟨s0, e0, P0, r0⟩ := ps_start (s := gFc 7) hF (by decide) h1 hs
  obtain ⟨s1, e1, P1, r1, a1, b1, c1⟩ := ps_mid (f := F + 9) (by decide) P0 (by decide) (po_7_0 (c1 := oC 0) (by decide) (by decide +kernel) P0.2.1 P0.2.2.2.2)
  rw [if_pos (by decide), if_pos (by decide +kernel)] at e1
  have Q1 := PS_next P1
  obtain ⟨t1, ht1⟩ : ∃ t1, t1 = ms s1 388 2 (nI (2 + 1)) := ⟨_, rfl⟩
  rw [← ht1] at e1 Q1
  have d1 : ∀ c, c ≠ 388 → t1 c = s1 c := fun c hc => by rw [ht1, ms_cell hc]
  obtain ⟨s2, e2, P2, r2, a2, b2, c2⟩ := ps_mid (f := F + 8) (by decide) Q1 (by decide) (po_7_3 (c1 := oC 1) (by decide) (by decide +kernel) Q1.2.1 Q1.2.2.2.2)
  rw [if_neg (by decide)] at e2
  refine ⟨s2, e0.trans (e1.trans e2), ?_, P2.2.2.2.1, ⟨?_, ?_⟩, ⟨a2, ?_⟩⟩
  · exact oFr_tr r0 (oFr_tr r1 (oFr_tr (fun c hc => d1 c (by omega)) r2))
  · rw [c2 391 (by decide) (by decide) (by decide), d1 391 (by decide)]; exact a1
  · rw [c2 392 (by decide) (by decide) (by decide), d1 392 (by decide)]; exact (congrFun b1 0).trans rfl
  · exact (congrFun b2 0).trans rfl
theorem tp_8 (h1 : σ 388 1 = nI 2) (hs : ∀ j, j < 2 → σ 389 j = gFc 8 j) : ∃ σ', f_X5_parseOrders 388 σ = some (m1, σ') ∧ oFr σ σ' ∧ σ' 388 4 = nI 1 ∧ (σ' 391 0 = nI 104 ∧ σ' 392 0 = nI 0) := by
  obtain ⟨F, hF⟩ : ∃ F, gF = F + 10 := ⟨3990, rfl⟩
  obtain ⟨s0, e0, P0, r0⟩ := ps_start (s := gFc 8) hF (by decide) h1 hs
  obtain ⟨s1, e1, P1, r1, a1, b1, c1⟩ := ps_mid (f := F + 9) (by decide) P0 (by decide) (po_8_0 (c1 := oC 0) (by decide) (by decide +kernel) P0.2.1 P0.2.2.2.2)
  rw [if_neg (by decide)] at e1
  exact ⟨s1, e0.trans e1, oFr_tr r0 r1, P1.2.2.2.1, a1, (congrFun b1 0).trans rfl⟩
theorem tp_9 (h1 : σ 388 1 = nI 8) (hs : ∀ j, j < 8 → σ 389 j = gFc 9 j) : ∃ σ', f_X5_parseOrders 388 σ = some (nI 4, σ') ∧ oFr σ σ' := by
  obtain ⟨F, hF⟩ : ∃ F, gF = F + 10 := ⟨3990, rfl⟩
  obtain ⟨s0, e0, P0, r0⟩ := ps_start (s := gFc 9) hF (by decide) h1 hs
  obtain ⟨s1, e1, r1⟩ := ps_fail (f := F + 9) (by decide) (by decide) P0 (po_9_0 (c1 := oC 0) (by decide) (by decide +kernel) P0.2.1 P0.2.2.2.2)
  exact ⟨s1, e0.trans e1, oFr_tr r0 r1⟩
theorem tp_10 (h1 : σ 388 1 = nI 6) (hs : ∀ j, j < 6 → σ 389 j = gFc 10 j) : ∃ σ', f_X5_parseOrders 388 σ = some (nI 5, σ') ∧ oFr σ σ' := by
  obtain ⟨F, hF⟩ : ∃ F, gF = F + 10 := ⟨3990, rfl⟩
  obtain ⟨s0, e0, P0, r0⟩ := ps_start (s := gFc 10) hF (by decide) h1 hs
  obtain ⟨s1, e1, P1, r1, a1, b1, c1⟩ := ps_mid (f := F + 9) (by decide) P0 (by decide) (po_10_0 (c1 := oC 0) (by decide) (by decide +kernel) P0.2.1 P0.2.2.2.2)
  rw [if_pos (by decide), if_neg (by decide +kernel)] at e1
  exact ⟨s1, e0.trans e1, oFr_tr r0 r1⟩
theorem tp_11 (h1 : σ 388 1 = nI 2) (hs : ∀ j, j < 2 → σ 389 j = gFc 11 j) : ∃ σ', f_X5_parseOrders 388 σ = some (nI 2, σ') ∧ oFr σ σ' := by
  obtain ⟨F, hF⟩ : ∃ F, gF = F + 10 := ⟨3990, rfl⟩
  obtain ⟨s0, e0, P0, r0⟩ := ps_start (s := gFc 11) hF (by decide) h1 hs
  obtain ⟨s1, e1, r1⟩ := ps_fail (f := F + 9) (by decide) (by decide) P0 (po_11_0 (c1 := oC 0) (by decide) (by decide +kernel) P0.2.1 P0.2.2.2.2)
  exact ⟨s1, e0.trans e1, oFr_tr r0 r1⟩
theorem tp_e (h1 : σ 388 1 = nI 0) : ∃ σ', f_X5_parseOrders 388 σ = some (nI 0, σ') ∧ oFr σ σ' := by
  obtain ⟨F, hF⟩ : ∃ F, gF = F + 10 := ⟨3990, rfl⟩
  obtain ⟨s0, e0, P0, r0⟩ := ps_start (n := 0) (s := gFc 0) hF (by decide) h1 (fun j hj => absurd hj (by omega))
  obtain ⟨s1, e1, r1⟩ := ps_fail (f := F + 9) (q := 0) (by decide) (by decide) P0 (o_begN (n := 0) (c1 := oC 0) (by decide) P0.2.1 (by decide) (by decide) (by rw [P0.2.2.2.2]; decide +kernel))
  exact ⟨s1, e0.trans e1, oFr_tr r0 r1⟩
end
section
variable {N cnt : Nat} {σ : gMem} {g f : Nat → Int32} {gs : Option (Nat → Int32)}
/-- three orders are three calls -/
theorem d_read6 (H : CR N σ g f cnt gs 8 (gFc 6)) (hN : N + 300 ≤ 1000000) : ∃ σ', f_X8_read 0 σ = some (0, nI 3, σ') ∧ CR (N + 6) σ' (psS 2 (psS 1 (psS 3 g))) (KH f g cnt) (K8 cnt) gs 0 (gFc 6) ∧ σ' 0 6 = m1 := by
  obtain ⟨σ1, h1, fr, h4, ⟨l0, p0⟩, ⟨l1, p1⟩, l2, p2⟩ := tp_6 H.2.2.2.2.1 H.2.2.2.2.2
  have H3 := rdS_CR H fr m1
  have hg := CR_G H
  obtain ⟨S, hS⟩ : ∃ S, S = rdS σ1 m1 := ⟨_, rfl⟩
  have sc : ∀ c, c ≠ 0 → c ≠ 388 → S c = σ1 c := fun c q1 q2 => by rw [hS]; exact rdS_c q1 q2
  have s4 : S 388 4 = nI 3 := by rw [hS, rdS_4]; exact h4
  have s06 : S 0 6 = m1 := by rw [hS]; exact rdS_06
  have e := rd_cE h1
  rw [if_pos rfl, ← hS] at e
  rw [← hS] at H3
  obtain ⟨F, hF⟩ : ∃ F, gF = F + 10 := ⟨3990, rfl⟩
  obtain ⟨S0, d1, d2⟩ := c_copyR (σ0 := S) (d := 36) (s := 1) (g := g) (by omega) HF_36 HF_1 H3.1.1
  have g1' := GI_psS 3 N g hg.1 (by omega)
  have g2' := GI_psS 1 (N + 3) _ g1' (by omega)
  obtain ⟨S1, a1, a2⟩ := to_pass d2 hg.1 (by omega) (z := 391) (u := 3) (by decide +kernel) (by decide +kernel) (by decide) (by decide) (by rw [d2.2 391 (by omega), sc 391 (by decide) (by decide)]; exact l0) (by rw [d2.2 392 (by omega), sc 392 (by decide) (by decide)]; exact p0)
  obtain ⟨S2, b1, b2⟩ := to_pass a2 g1' (by omega) (z := 393) (u := 1) (by decide +kernel) (by decide +kernel) (by decide) (by decide) (by rw [a2.2 393 (by omega), sc 393 (by decide) (by decide)]; exact l1) (by rw [a2.2 394 (by omega), sc 394 (by decide) (by decide)]; exact p1)
  obtain ⟨S3, c1, c2⟩ := to_pass b2 g2' (by omega) (z := 395) (u := 2) (by decide +kernel) (by decide +kernel) (by decide) (by decide) (by rw [b2.2 395 (by omega), sc 395 (by decide) (by decide)]; exact l2) (by rw [b2.2 396 (by omega), sc 396 (by decide) (by decide)]; exact p2)
  have hS3 : ∀ c, c < 36 ∨ 71 ≤ c → S3 c = S c := fun c q => c2.2 c (by omega)
  have HS3 : CR N S3 g f cnt gs 0 (gFc 6) := CR_own H3 (fun c q1 q2 q3 => hS3 c q2) (by rw [hS3 0 (by omega)]) (by rw [hS3 388 (by omega)]) (by rw [hS3 389 (by omega)])
  obtain ⟨σk, k1, k2, k3⟩ := ch_pre HS3
  obtain ⟨σe, t1, t2⟩ := c_copyR (σ0 := σk) (d := 1) (s := 36) (g := psS 2 (psS 1 (psS 3 g))) (by omega) HF_1 HF_36 (qR_own c2.1 (fun c q1 q2 => k2 c (by omega)))
  have hgf := GA_psS 2 (N + 4) _ (GA_psS 1 (N + 3) _ (GA_psS 3 N g hg (by omega)) (by omega)) (by omega)
  refine ⟨σe, ?_, ch_post k3 t2 hgf (by omega), ?_⟩
  · have e5 : σe 388 4 = nI 3 := by rw [t2.2 388 (by omega), k2 388 (by omega), hS3 388 (by omega)]; exact s4
    rw [e, g1_e d1, hF]
    refine (rd_step (f' := F + 9) (c := 3) (by decide) (by decide) (by rw [d2.2 388 (by omega)]; exact s4)).trans ((g1_e a1).trans ?_)
    refine (rd_step (f' := F + 8) (c := 3) (by decide) (by decide) (by rw [a2.2 388 (by omega)]; exact s4)).trans ((g1_e b1).trans ?_)
    refine (rd_step (f' := F + 7) (c := 3) (by decide) (by decide) (by rw [b2.2 388 (by omega)]; exact s4)).trans ((g1_e c1).trans ?_)
    refine (rd_end (f' := F + 6) (c := 3) (by rw [hS3 388 (by omega)]; exact s4)).trans ?_
    unfold rdK
    simp (disch := omega) only [neg1, li_0, li_1, li_2, li_3, li_4, li_5, li_6, li_7, li_8, li_9, li_10, li_11, li_12, li_13, li_14, li_15, li_16, li_20, li_23, li_24, li_26, li_29, li_30, li_36, li_39, li_40, li_42, li_43, li_47, li_48, li_49, li_50, li_53, li_57, li_58, li_59, li_60, li_61, li_62, li_64, li_68, li_71, li_72, li_74, li_80, li_86, li_92, li_93, li_94, li_95, li_96, li_97, li_98, li_99, li_100, li_104, li_108, li_110, li_115, li_116, li_160, li_200, li_220, li_300, li_9999, nI_add, nI_mul, p_clamp, p_le, p_lt, p_eq, p_m1lt, p_m1eq, p_m1ge, p_eqm1, i_clamp, p_leT, p_leF, p_ltT, p_ltF, p_eqT, p_eqF, or_self, or_false, false_or, or_true, true_or, not_false_eq_true, not_true_eq_false, ↓reduceIte, and_self, and_true, true_and, and_false, false_and, ↓gv_e, g1, g2, gnl, Nat.reduceAdd, Nat.add_zero, reduceCtorEq, k1, t1, e5]
  · rw [t2.2 0 (by omega), k2 0 (by omega), hS3 0 (by omega)]; exact s06
theorem d_reads7 (H : CR N σ g f cnt gs 5 (gFc 7)) (hN : N + 300 ≤ 1000000) : ∃ σ', f_L_reads 0 σ = some ((-1 : Int32), σ') ∧ CR N σ' g f cnt gs 0 (gFc 7) ∧ σ' 0 6 = m1 := by
  obtain ⟨σ1, h1, fr, h4, ⟨l0, p0⟩, l1, p1⟩ := tp_7 H.2.2.2.2.1 H.2.2.2.2.2
  have H3 := rdS_CR H fr m1
  have hg := CR_G H
  obtain ⟨S, hS⟩ : ∃ S, S = rdS σ1 m1 := ⟨_, rfl⟩
  have sc : ∀ c, c ≠ 0 → c ≠ 388 → S c = σ1 c := fun c q1 q2 => by rw [hS]; exact rdS_c q1 q2
  have s4 : S 388 4 = nI 2 := by rw [hS, rdS_4]; exact h4
  have s06 : S 0 6 = m1 := by rw [hS]; exact rdS_06
  have e := rd_cE h1
  rw [if_pos rfl, ← hS] at e
  rw [← hS] at H3
  obtain ⟨F, hF⟩ : ∃ F, gF = F + 10 := ⟨3990, rfl⟩
  obtain ⟨S0, d1, d2⟩ := c_copyR (σ0 := S) (d := 36) (s := 1) (g := g) (by omega) HF_36 HF_1 H3.1.1
  have g1' := GI_psS 3 N g hg.1 (by omega)
  obtain ⟨S1, a1, a2⟩ := to_pass d2 hg.1 (by omega) (z := 391) (u := 3) (by decide +kernel) (by decide +kernel) (by decide) (by decide) (by rw [d2.2 391 (by omega), sc 391 (by decide) (by decide)]; exact l0) (by rw [d2.2 392 (by omega), sc 392 (by decide) (by decide)]; exact p0)
  have b1 := to_take9 a2 g1'.1 (z := 393) (by decide +kernel) (by decide +kernel) (by rw [a2.2 393 (by omega), sc 393 (by decide) (by decide)]; exact l1) (by rw [a2.2 394 (by omega), sc 394 (by decide) (by decide)]; exact p1)
  have hS1 : ∀ c, c < 36 ∨ 71 ≤ c → S1 c = S c := fun c q => a2.2 c (by omega)
  refine ⟨S1, ?_, CR_own H3 (fun c q1 q2 q3 => hS1 c q2) (by rw [hS1 0 (by omega)]) (by rw [hS1 388 (by omega)]) (by rw [hS1 389 (by omega)]), by rw [hS1 0 (by omega)]; exact s06⟩
  have e9 : f_X8_read 0 σ = some (2, nI 0, S1) := by
    rw [e, g1_e d1, hF]
    refine (rd_step (f' := F + 9) (c := 2) (by decide) (by decide) (by rw [d2.2 388 (by omega)]; exact s4)).trans ((g1_e a1).trans ?_)
    refine (rd_step (f' := F + 8) (c := 2) (by decide) (by decide) (by rw [a2.2 388 (by omega)]; exact s4)).trans ((g1_e b1).trans ?_)
    exact rd_bad (f' := F + 7)
  unfold f_L_reads
  rw [e9]
  rfl
theorem d_reads8 (H : CR N σ g f cnt gs 2 (gFc 8)) : ∃ σ', f_L_reads 0 σ = some ((-1 : Int32), σ') ∧ CR N σ' g f cnt gs 0 (gFc 8) ∧ σ' 0 6 = m1 := by
  obtain ⟨σ1, h1, fr, h4, l0, p0⟩ := tp_8 H.2.2.2.2.1 H.2.2.2.2.2
  have H3 := rdS_CR H fr m1
  obtain ⟨S, hS⟩ : ∃ S, S = rdS σ1 m1 := ⟨_, rfl⟩
  have sc : ∀ c, c ≠ 0 → c ≠ 388 → S c = σ1 c := fun c q1 q2 => by rw [hS]; exact rdS_c q1 q2
  have s4 : S 388 4 = nI 1 := by rw [hS, rdS_4]; exact h4
  have s06 : S 0 6 = m1 := by rw [hS]; exact rdS_06
  have e := rd_cE h1
  rw [if_pos rfl, ← hS] at e
  rw [← hS] at H3
  obtain ⟨F, hF⟩ : ∃ F, gF = F + 10 := ⟨3990, rfl⟩
  obtain ⟨S0, d1, d2⟩ := c_copyR (σ0 := S) (d := 36) (s := 1) (g := g) (by omega) HF_36 HF_1 H3.1.1
  have b1 := to_pass0 (σ := S0) (z := 391) (by decide +kernel) (by decide +kernel) (by rw [d2.2 391 (by omega), sc 391 (by decide) (by decide)]; exact l0) (by rw [d2.2 392 (by omega), sc 392 (by decide) (by decide)]; exact p0)
  have hS1 : ∀ c, c < 36 ∨ 71 ≤ c → S0 c = S c := fun c q => d2.2 c (by omega)
  refine ⟨S0, ?_, CR_own H3 (fun c q1 q2 q3 => hS1 c q2) (by rw [hS1 0 (by omega)]) (by rw [hS1 388 (by omega)]) (by rw [hS1 389 (by omega)]), by rw [hS1 0 (by omega)]; exact s06⟩
  have e9 : f_X8_read 0 σ = some (2, nI 0, S0) := by
    rw [e, g1_e d1, hF]
    refine (rd_step (f' := F + 9) (c := 1) (by decide) (by decide) (by rw [d2.2 388 (by omega)]; exact s4)).trans ((g1_e b1).trans ?_)
    exact rd_bad (f' := F + 8)
  unfold f_L_reads
  rw [e9]
  rfl
theorem d_reads9 (H : CR N σ g f cnt gs 8 (gFc 9)) : ∃ σ', f_L_reads 0 σ = some ((-1 : Int32), σ') ∧ CR N σ' g f cnt gs 0 (gFc 9) ∧ σ' 0 6 = nI 4 := by
  obtain ⟨σ1, h1, fr⟩ := tp_9 H.2.2.2.2.1 H.2.2.2.2.2
  obtain ⟨a1, a2⟩ := d_faulty (by decide) H h1 fr
  exact ⟨_, a1, a2, rdS_06⟩
theorem d_reads10 (H : CR N σ g f cnt gs 6 (gFc 10)) : ∃ σ', f_L_reads 0 σ = some ((-1 : Int32), σ') ∧ CR N σ' g f cnt gs 0 (gFc 10) ∧ σ' 0 6 = nI 5 := by
  obtain ⟨σ1, h1, fr⟩ := tp_10 H.2.2.2.2.1 H.2.2.2.2.2
  obtain ⟨a1, a2⟩ := d_faulty (by decide) H h1 fr
  exact ⟨_, a1, a2, rdS_06⟩
theorem d_reads11 (H : CR N σ g f cnt gs 2 (gFc 11)) : ∃ σ', f_L_reads 0 σ = some ((-1 : Int32), σ') ∧ CR N σ' g f cnt gs 0 (gFc 11) ∧ σ' 0 6 = nI 2 := by
  obtain ⟨σ1, h1, fr⟩ := tp_11 H.2.2.2.2.1 H.2.2.2.2.2
  obtain ⟨a1, a2⟩ := d_faulty (by decide) H h1 fr
  exact ⟨_, a1, a2, rdS_06⟩
theorem d_reads_e {t : Nat → Int32} (H : CR N σ g f cnt gs 0 t) : ∃ σ', f_L_reads 0 σ = some ((-1 : Int32), σ') ∧ CR N σ' g f cnt gs 0 t ∧ σ' 0 6 = nI 0 := by
  obtain ⟨σ1, h1, fr⟩ := tp_e H.2.2.2.2.1
  obtain ⟨a1, a2⟩ := d_faulty (by decide) H h1 fr
  exact ⟨_, a1, a2, rdS_06⟩
end
