/-! THE PURE SIDE OF THE LAW: its texts: put, and how they are parsed -/
theorem gl389 : gl (388 + 1) = 60 := by decide +kernel
theorem gl390 : gl (388 + 2) = 20 := by decide +kernel
theorem gk_ord : ∀ i, i < 20 → gk (391 + 2 * i) = 3 := by decide +kernel
theorem gl_par : ∀ i, i < 20 → gl (391 + 2 * i + 1) = 4 := by decide +kernel
theorem j_len12 {i : Nat} (hi : i < 12) (s : gMem) : f_J0_length_8abf5 i s = some (nI (gFl.getD i 0), s) := by
  unfold f_J0_length_8abf5
  rw [if_pos hi]
  rfl
theorem j_ch12 {i k : Nat} (hi : i < 12) (hk : k < gFl.getD i 0) (s : gMem) : f_J0_charAt_5068e i (nI k) s = some (gFc i k, s) := by
  have hl := gFl_lt i hi
  unfold f_J0_charAt_5068e
  have e : (nI k).toNatClampNeg = k := i_clamp (by omega)
  have h : ¬ (nI k < 0 ∨ gFl.getD i 0 ≤ (nI k).toNatClampNeg) := by
    rw [e]
    rintro (h | h)
    · rw [li_0, p_lt (by omega) (by decide)] at h
      omega
    · omega
  rw [if_pos ⟨hi, h⟩, e]
theorem vn12 : ∀ i, i < 12 → ∀ k, k < gFl.getD i 0 → vp_nar .char (gFc i k) = gFc i k := by decide +kernel
section
variable {N cnt n : Nat} {σ : gMem} {g f t : Nat → Int32} {gs : Option (Nat → Int32)}
theorem d_append (H : CR N σ g f cnt gs n t) (hn : n < 60) (u : Int32) : ∃ σ', f_X8_append 0 u σ = some (0, nI (n + 1), σ') ∧ CR N σ' g f cnt gs (n + 1) (upd t n (vp_nar .char u)) := by
  have n2 := H.2.2.2.2.1
  have n4 := H.2.2.2.2.2
  have e1 : ms σ 389 n (vp_nar .char u) 388 1 = nI n := by rw [ms_cell (by decide)]; exact n2
  refine ⟨ms (ms σ 389 n (vp_nar .char u)) 388 1 (nI (n + 1)), ?_, CR_txt H (fun c h1 h2 h3 => by rw [ms_cell (by omega), ms_cell (by omega)]) (by rw [ms_cell (by decide), ms_cell (by decide)]) (by omega) ms_ss (fun j hj => ?_)⟩
  · unfold f_X8_append f_X5_addSign
    simp (disch := omega) only [neg1, li_0, li_1, li_2, li_3, li_4, li_5, li_6, li_7, li_8, li_9, li_10, li_11, li_12, li_13, li_14, li_15, li_16, li_20, li_23, li_24, li_26, li_29, li_30, li_36, li_39, li_40, li_42, li_43, li_47, li_48, li_49, li_50, li_53, li_57, li_58, li_59, li_60, li_61, li_62, li_64, li_68, li_71, li_72, li_74, li_80, li_86, li_92, li_93, li_94, li_95, li_96, li_97, li_98, li_99, li_100, li_104, li_108, li_110, li_115, li_116, li_160, li_200, li_220, li_300, li_9999, nI_add, nI_mul, p_clamp, p_le, p_lt, p_eq, p_m1lt, p_m1eq, p_m1ge, p_eqm1, i_clamp, p_leT, p_leF, p_ltT, p_ltF, p_eqT, p_eqF, or_self, or_false, false_or, or_true, true_or, not_false_eq_true, not_true_eq_false, ↓reduceIte, and_self, and_true, true_and, and_false, false_and, ↓gv_e, g1, g2, gnl, Nat.reduceAdd, Nat.add_zero, reduceCtorEq, n2, gl389, e1, ms_ss]
  · rw [ms_cell (by decide), ms_ap, upd_ap]
    by_cases q : j = n
    · rw [if_pos ⟨rfl, q⟩, if_pos q]
    · rw [if_neg (fun e => q e.2), if_neg q]; exact n4 j (by omega)
theorem d_put_L {i : Nat} (hi : i < 12) (hl8 : gFl.getD i 0 ≤ 8) : ∀ (d k fuel : Nat) (σ : gMem) (t : Nat → Int32), d < fuel → k + d = gFl.getD i 0 → (∀ j, j < k → t j = gFc i j) → CR N σ g f cnt gs k t → ∃ σ', L_L_put_2 0 i fuel (nI k) σ = some (0, (), σ') ∧ CR N σ' g f cnt gs (gFl.getD i 0) (gFc i) := by
  intro d
  induction d with
  | zero =>
    intro k fuel σ t hf hk ht H
    obtain ⟨f', rfl⟩ : ∃ x, fuel = x + 1 := ⟨fuel - 1, by omega⟩
    rw [Nat.add_zero] at hk
    have e := j_len12 hi σ
    rw [← hk] at e
    refine ⟨σ, ?_, ?_⟩
    · rw [L_L_put_2]
      simp (disch := omega) only [neg1, li_0, li_1, li_2, li_3, li_4, li_5, li_6, li_7, li_8, li_9, li_10, li_11, li_12, li_13, li_14, li_15, li_16, li_20, li_23, li_24, li_26, li_29, li_30, li_36, li_39, li_40, li_42, li_43, li_47, li_48, li_49, li_50, li_53, li_57, li_58, li_59, li_60, li_61, li_62, li_64, li_68, li_71, li_72, li_74, li_80, li_86, li_92, li_93, li_94, li_95, li_96, li_97, li_98, li_99, li_100, li_104, li_108, li_110, li_115, li_116, li_160, li_200, li_220, li_300, li_9999, nI_add, nI_mul, p_clamp, p_le, p_lt, p_eq, p_m1lt, p_m1eq, p_m1ge, p_eqm1, i_clamp, p_leT, p_leF, p_ltT, p_ltF, p_eqT, p_eqF, or_self, or_false, false_or, or_true, true_or, not_false_eq_true, not_true_eq_false, ↓reduceIte, and_self, and_true, true_and, and_false, false_and, ↓gv_e, g1, g2, gnl, Nat.reduceAdd, Nat.add_zero, reduceCtorEq, e]
    · rw [← hk]
      exact ⟨H.1, H.2.1, H.2.2.1, H.2.2.2.1, H.2.2.2.2.1, fun j hj => (H.2.2.2.2.2 j hj).trans (ht j hj)⟩
  | succ d ih =>
    intro k fuel σ t hf hk ht H
    obtain ⟨f', rfl⟩ : ∃ x, fuel = x + 1 := ⟨fuel - 1, by omega⟩
    have e := j_len12 hi σ
    have e2 := j_ch12 hi (k := k) (by omega) σ
    obtain ⟨σ1, a1, a2⟩ := d_append H (by omega) (gFc i k)
    rw [vn12 i hi k (by omega)] at a2
    obtain ⟨σ', b1, b2⟩ := ih (k + 1) f' σ1 _ (by omega) (by omega) (fun j hj => by
      rw [upd_ap]
      by_cases q : j = k
      · rw [if_pos q, q]
      · rw [if_neg q]; exact ht j (by omega)) a2
    obtain ⟨Z, hZ, hZ2⟩ : ∃ Z, gFl.getD i 0 = Z ∧ Z ≤ 8 := ⟨_, rfl, hl8⟩
    rw [hZ] at e hk
    refine ⟨σ', ?_, b2⟩
    rw [L_L_put_2]
    simp (disch := omega) only [neg1, li_0, li_1, li_2, li_3, li_4, li_5, li_6, li_7, li_8, li_9, li_10, li_11, li_12, li_13, li_14, li_15, li_16, li_20, li_23, li_24, li_26, li_29, li_30, li_36, li_39, li_40, li_42, li_43, li_47, li_48, li_49, li_50, li_53, li_57, li_58, li_59, li_60, li_61, li_62, li_64, li_68, li_71, li_72, li_74, li_80, li_86, li_92, li_93, li_94, li_95, li_96, li_97, li_98, li_99, li_100, li_104, li_108, li_110, li_115, li_116, li_160, li_200, li_220, li_300, li_9999, nI_add, nI_mul, p_clamp, p_le, p_lt, p_eq, p_m1lt, p_m1eq, p_m1ge, p_eqm1, i_clamp, p_leT, p_leF, p_ltT, p_ltF, p_eqT, p_eqF, or_self, or_false, false_or, or_true, true_or, not_false_eq_true, not_true_eq_false, ↓reduceIte, and_self, and_true, true_and, and_false, false_and, ↓gv_e, g1, g2, gnl, Nat.reduceAdd, Nat.add_zero, reduceCtorEq, e, e2, a1, g2_sx, b1]
/-- put writes a text of the law into the empty input -/
theorem d_put {i : Nat} (hi : i < 12) (hl8 : gFl.getD i 0 ≤ 8) (H : CR N σ g f cnt gs 0 t) : ∃ σ', f_L_put 0 i σ = some (0, (), σ') ∧ CR N σ' g f cnt gs (gFl.getD i 0) (gFc i) := by
  unfold f_L_put
  rw [li_0]
  exact d_put_L hi hl8 (gFl.getD i 0) 0 9 σ t (by omega) (by omega) (fun j hj => absurd hj (by omega)) H
end
/-! parsing: steps -/
theorem cM_self {σ : gMem} {c1 p : Nat} (h : σ 388 2 = nI p) (hc : 391 ≤ c1) : cM σ c1 p (σ c1 0) (σ (c1 + 1)) = σ := by
  apply gMem_ext; intro c j; unfold cM
  simp only [ms_ap, mc_ap, upd_ap]
  by_cases q : c = c1 + 1
  · subst q; simp
  · by_cases q2 : c = c1
    · subst q2
      by_cases q3 : j = 0
      · simp [q3, upd_ap]
      · simp [q3, upd_ap]
    · simp [q, q2]
      by_cases q3 : c = 388 ∧ j = 2
      · rw [q3.1, q3.2, ms_ss, h]
      · rw [ms_ap, if_neg q3]
/-- cells that a text leaves alone -/
def oFr (σ σ' : gMem) : Prop := ∀ c, c < 388 ∨ (388 < c ∧ c < 391) ∨ 431 ≤ c → σ' c = σ c
theorem oFr_rf {σ : gMem} : oFr σ σ := fun _ _ => rfl
theorem oFr_tr {σ σ1 σ2 : gMem} (h1 : oFr σ σ1) (h2 : oFr σ1 σ2) : oFr σ σ2 := fun c hc => (h2 c hc).trans (h1 c hc)
theorem oFr_cM {σ : gMem} {c1 p : Nat} {l : Int32} {a : Nat → Int32} (h1 : 391 ≤ c1) (h2 : c1 + 1 < 431) : oFr σ (cM σ c1 p l a) := fun c hc => by
  unfold cM; rw [mc_n (by omega), mc_n (by omega), ms_cell (by omega)]
/-- the parser at its loop: n signs s, at p, i orders so far -/
def PS (σ : gMem) (n p i : Nat) (s : Nat → Int32) : Prop := n ≤ 60 ∧ σ 388 1 = nI n ∧ σ 388 2 = nI p ∧ σ 388 4 = nI i ∧ ∀ x, hr (σ 389) n x = hr s n x
section
variable {σ : gMem} {n p i q f : Nat} {s a : Nat → Int32} {l : Int32}
def oC (i : Nat) : Nat := 391 + 2 * i
theorem ps_fail (hi : i < 20) (hq : q ≤ 60) (P : PS σ n p i s) (eo : f_X5_parseOrder 388 (oC i) (cM σ (oC i) p (σ (oC i) 0) (σ (oC i + 1))) = some (nI 0, cM σ (oC i) q l a)) : ∃ σ', L_X5_parseOrders_12 388 (f + 1) (nI i) σ = some (nI q, σ') ∧ oFr σ σ' := by
  obtain ⟨hn, h1, h2, h4, hs⟩ := P
  have hc : 391 ≤ 391 + 2 * i := by omega
  unfold oC at eo
  rw [cM_self h2 hc] at eo
  have ea : (388 + 2) + (1 + 2 * i) = 391 + 2 * i := by omega
  have c2' : cM σ (391 + 2 * i) q l a 388 2 = nI q := cM_2 hc
  refine ⟨cM σ (391 + 2 * i) q l a, ?_, oFr_cM hc (by omega)⟩
  rw [L_X5_parseOrders_12]
  simp (disch := omega) only [neg1, li_0, li_1, li_2, li_3, li_4, li_5, li_6, li_7, li_8, li_9, li_10, li_11, li_12, li_13, li_14, li_15, li_16, li_20, li_23, li_24, li_26, li_29, li_30, li_36, li_39, li_40, li_42, li_43, li_47, li_48, li_49, li_50, li_53, li_57, li_58, li_59, li_60, li_61, li_62, li_64, li_68, li_71, li_72, li_74, li_80, li_86, li_92, li_93, li_94, li_95, li_96, li_97, li_98, li_99, li_100, li_104, li_108, li_110, li_115, li_116, li_160, li_200, li_220, li_300, li_9999, nI_add, nI_mul, p_clamp, p_le, p_lt, p_eq, p_m1lt, p_m1eq, p_m1ge, p_eqm1, i_clamp, p_leT, p_leF, p_ltT, p_ltF, p_eqT, p_eqF, or_self, or_false, false_or, or_true, true_or, not_false_eq_true, not_true_eq_false, ↓reduceIte, and_self, and_true, true_and, and_false, false_and, ↓gv_e, g1, g2, gnl, Nat.reduceAdd, Nat.add_zero, reduceCtorEq, gl390, ea, eo, c2']
/-- an order has been parsed -/
theorem ps_mid (hi : i < 20) (P : PS σ n p i s) (hq : q ≤ n) (eo : f_X5_parseOrder 388 (oC i) (cM σ (oC i) p (σ (oC i) 0) (σ (oC i + 1))) = some (nI 1, cM σ (oC i) q l a)) : ∃ σ', L_X5_parseOrders_12 388 (f + 1) (nI i) σ = (if q < n then (if hr s n q = nI 59 then L_X5_parseOrders_12 388 f (nI (i + 1)) (ms σ' 388 2 (nI (q + 1))) else some (nI q, σ')) else some (m1, σ')) ∧ PS σ' n q (i + 1) s ∧ oFr σ σ' ∧ σ' (oC i) 0 = l ∧ σ' (oC i + 1) = a ∧ ∀ c, c ≠ 388 → c ≠ oC i → c ≠ oC i + 1 → σ' c = σ c := by
  obtain ⟨hn, h1, h2, h4, hs⟩ := P
  have hc : 391 ≤ 391 + 2 * i := by omega
  unfold oC at eo ⊢
  rw [cM_self h2 hc] at eo
  have ea : (388 + 2) + (1 + 2 * i) = 391 + 2 * i := by omega
  have c1' : cM σ (391 + 2 * i) q l a 388 1 = nI n := by rw [cM_1 hc]; exact h1
  have c2' : cM σ (391 + 2 * i) q l a 388 2 = nI q := cM_2 hc
  have c4 : cM σ (391 + 2 * i) q l a 388 4 = nI i := by
    unfold cM; rw [mc_n (by omega), mc_n (by omega), ms_ap, if_neg (by decide)]; exact h4
  obtain ⟨σ', hσ'⟩ : ∃ σ', σ' = ms (cM σ (391 + 2 * i) q l a) 388 4 (nI (i + 1)) := ⟨_, rfl⟩
  have k2 : σ' 388 2 = nI q := by rw [hσ', ms_ap, if_neg (by decide)]; exact c2'
  have k1 : σ' 388 1 = nI n := by rw [hσ', ms_ap, if_neg (by decide)]; exact c1'
  have k4 : σ' 388 4 = nI (i + 1) := by rw [hσ']; exact ms_ss
  have kc : ∀ c, c ≠ 388 → σ' c = cM σ (391 + 2 * i) q l a c := fun c h => by rw [hσ', ms_cell h]
  have ehs : ∀ x, hr (σ' 389) n x = hr s n x := fun x => by rw [kc 389 (by decide), cM_389 hc]; exact hs x
  have e9 : f_X5_signHere 388 σ' = some (hr s n q, σ') := by
    have e := c_here (σ := σ') (c1 := 391) (p := q) (l := σ' 391 0) (a := σ' (391 + 1)) (by omega) k1 hn (by omega)
    rw [cM_self k2 (by omega), ehs] at e
    exact e
  refine ⟨σ', ?_, ⟨hn, k1, k2, k4, ehs⟩, fun c h => by rw [kc c (by omega)]; exact oFr_cM hc (by omega) c h, by rw [kc _ (by omega)]; exact cM_l, by rw [kc _ (by omega)]; exact cM_a, fun c q1 q2 q3 => by rw [kc c q1]; unfold cM; rw [mc_n q3, mc_n q2, ms_cell q1]⟩
  rw [L_X5_parseOrders_12]
  by_cases qn : q < n
  · rw [if_pos qn]
    by_cases qs : hr s n q = nI 59
    · rw [if_pos qs]
      rw [qs] at e9
      simp (disch := omega) only [neg1, li_0, li_1, li_2, li_3, li_4, li_5, li_6, li_7, li_8, li_9, li_10, li_11, li_12, li_13, li_14, li_15, li_16, li_20, li_23, li_24, li_26, li_29, li_30, li_36, li_39, li_40, li_42, li_43, li_47, li_48, li_49, li_50, li_53, li_57, li_58, li_59, li_60, li_61, li_62, li_64, li_68, li_71, li_72, li_74, li_80, li_86, li_92, li_93, li_94, li_95, li_96, li_97, li_98, li_99, li_100, li_104, li_108, li_110, li_115, li_116, li_160, li_200, li_220, li_300, li_9999, nI_add, nI_mul, p_clamp, p_le, p_lt, p_eq, p_m1lt, p_m1eq, p_m1ge, p_eqm1, i_clamp, p_leT, p_leF, p_ltT, p_ltF, p_eqT, p_eqF, or_self, or_false, false_or, or_true, true_or, not_false_eq_true, not_true_eq_false, ↓reduceIte, and_self, and_true, true_and, and_false, false_and, ↓gv_e, g1, g2, gnl, Nat.reduceAdd, Nat.add_zero, reduceCtorEq, gl390, ea, eo, c4, ← hσ', k1, k2, qn, e9]
    · rw [if_neg qs]
      simp (disch := omega) only [neg1, li_0, li_1, li_2, li_3, li_4, li_5, li_6, li_7, li_8, li_9, li_10, li_11, li_12, li_13, li_14, li_15, li_16, li_20, li_23, li_24, li_26, li_29, li_30, li_36, li_39, li_40, li_42, li_43, li_47, li_48, li_49, li_50, li_53, li_57, li_58, li_59, li_60, li_61, li_62, li_64, li_68, li_71, li_72, li_74, li_80, li_86, li_92, li_93, li_94, li_95, li_96, li_97, li_98, li_99, li_100, li_104, li_108, li_110, li_115, li_116, li_160, li_200, li_220, li_300, li_9999, nI_add, nI_mul, p_clamp, p_le, p_lt, p_eq, p_m1lt, p_m1eq, p_m1ge, p_eqm1, i_clamp, p_leT, p_leF, p_ltT, p_ltF, p_eqT, p_eqF, or_self, or_false, false_or, or_true, true_or, not_false_eq_true, not_true_eq_false, ↓reduceIte, and_self, and_true, true_and, and_false, false_and, ↓gv_e, g1, g2, gnl, Nat.reduceAdd, Nat.add_zero, reduceCtorEq, gl390, ea, eo, c4, ← hσ', k1, k2, qn, e9, qs]
  · rw [if_neg qn]
    simp (disch := omega) only [neg1, li_0, li_1, li_2, li_3, li_4, li_5, li_6, li_7, li_8, li_9, li_10, li_11, li_12, li_13, li_14, li_15, li_16, li_20, li_23, li_24, li_26, li_29, li_30, li_36, li_39, li_40, li_42, li_43, li_47, li_48, li_49, li_50, li_53, li_57, li_58, li_59, li_60, li_61, li_62, li_64, li_68, li_71, li_72, li_74, li_80, li_86, li_92, li_93, li_94, li_95, li_96, li_97, li_98, li_99, li_100, li_104, li_108, li_110, li_115, li_116, li_160, li_200, li_220, li_300, li_9999, nI_add, nI_mul, p_clamp, p_le, p_lt, p_eq, p_m1lt, p_m1eq, p_m1ge, p_eqm1, i_clamp, p_leT, p_leF, p_ltT, p_ltF, p_eqT, p_eqF, or_self, or_false, false_or, or_true, true_or, not_false_eq_true, not_true_eq_false, ↓reduceIte, and_self, and_true, true_and, and_false, false_and, ↓gv_e, g1, g2, gnl, Nat.reduceAdd, Nat.add_zero, reduceCtorEq, gl390, ea, eo, c4, ← hσ', k1, k2, qn]
theorem PS_next {σ' : gMem} (P : PS σ' n q i s) : PS (ms σ' 388 2 (nI (q + 1))) n (q + 1) i s := ⟨P.1, by rw [ms_ap, if_neg (by decide)]; exact P.2.1, ms_ss, by rw [ms_ap, if_neg (by decide)]; exact P.2.2.2.1, fun x => by rw [ms_cell (by decide)]; exact P.2.2.2.2 x⟩
theorem ps_start {F : Nat} (hF : gF = F) (hn : n ≤ 60) (h1 : σ 388 1 = nI n) (hs : ∀ j, j < n → σ 389 j = s j) : ∃ σ0, f_X5_parseOrders 388 σ = L_X5_parseOrders_12 388 F (nI 0) σ0 ∧ PS σ0 n 0 0 s ∧ oFr σ σ0 := by
  refine ⟨ms (ms σ 388 2 (nI 0)) 388 4 (nI 0), ?_, ⟨hn, by rw [ms_ap, if_neg (by decide), ms_ap, if_neg (by decide)]; exact h1, by rw [ms_ap, if_neg (by decide)]; exact ms_ss, ms_ss, fun x => ?_⟩, fun c hc => by rw [ms_cell (by omega), ms_cell (by omega)]⟩
  · unfold f_X5_parseOrders
    rw [hF]
    rfl
  · rw [ms_cell (by decide), ms_cell (by decide)]
    unfold hr
    by_cases q : x < n
    · rw [if_pos q, if_pos q, hs x q]
    · rw [if_neg q, if_neg q]
end
/-! the orders of the six texts -/
section
variable {σ : gMem} {c1 : Nat} {l : Int32} {a : Nat → Int32}
theorem po_6_0 (hc : 391 ≤ c1) (hg : gl (c1 + 1) = 4) (h1 : σ 388 1 = nI 8) (hs : ∀ x, hr (σ 389) 8 x = hr (gFc 6) 8 x) : f_X5_parseOrder 388 c1 (cM σ c1 0 l a) = some (nI 1, cM σ c1 2 (nI 104) (upd a 0 (nI 3))) := by
  obtain ⟨F, hF⟩ : ∃ F, gF = F + 10 := ⟨3990, rfl⟩
  refine (o_beg (n := 8) (u := 4) (p := 0) (x := nI 104) (by decide +kernel) hc h1 (by decide) (by decide) (by rw [hs]; decide +kernel)).trans ?_
  rw [hF]
  refine (o_N1 (f := F + 9) (n := 8) (p := 1) (i := 0) (pt := 0) (by decide) (by decide) (by decide) j_ch_4_0 hc hg h1 (by decide) (by decide) (by rw [hs]; unfold isD; decide +kernel) (by rw [hs]; unfold isD; decide +kernel)).trans ?_
  rw [show hr (σ 389) 8 1 - nI 48 = nI 3 by rw [hs]; decide +kernel]
  exact o_E (f := F + 8) (by decide) (by decide)
theorem po_6_3 (hc : 391 ≤ c1) (hg : gl (c1 + 1) = 4) (h1 : σ 388 1 = nI 8) (hs : ∀ x, hr (σ 389) 8 x = hr (gFc 6) 8 x) : f_X5_parseOrder 388 c1 (cM σ c1 3 l a) = some (nI 1, cM σ c1 5 (nI 104) (upd a 0 (nI 1))) := by
  obtain ⟨F, hF⟩ : ∃ F, gF = F + 10 := ⟨3990, rfl⟩
  refine (o_beg (n := 8) (u := 4) (p := 3) (x := nI 104) (by decide +kernel) hc h1 (by decide) (by decide) (by rw [hs]; decide +kernel)).trans ?_
  rw [hF]
  refine (o_N1 (f := F + 9) (n := 8) (p := 4) (i := 0) (pt := 0) (by decide) (by decide) (by decide) j_ch_4_0 hc hg h1 (by decide) (by decide) (by rw [hs]; unfold isD; decide +kernel) (by rw [hs]; unfold isD; decide +kernel)).trans ?_
  rw [show hr (σ 389) 8 4 - nI 48 = nI 1 by rw [hs]; decide +kernel]
  exact o_E (f := F + 8) (by decide) (by decide)
theorem po_6_6 (hc : 391 ≤ c1) (hg : gl (c1 + 1) = 4) (h1 : σ 388 1 = nI 8) (hs : ∀ x, hr (σ 389) 8 x = hr (gFc 6) 8 x) : f_X5_parseOrder 388 c1 (cM σ c1 6 l a) = some (nI 1, cM σ c1 8 (nI 104) (upd a 0 (nI 2))) := by
  obtain ⟨F, hF⟩ : ∃ F, gF = F + 10 := ⟨3990, rfl⟩
  refine (o_beg (n := 8) (u := 4) (p := 6) (x := nI 104) (by decide +kernel) hc h1 (by decide) (by decide) (by rw [hs]; decide +kernel)).trans ?_
  rw [hF]
  refine (o_N1 (f := F + 9) (n := 8) (p := 7) (i := 0) (pt := 0) (by decide) (by decide) (by decide) j_ch_4_0 hc hg h1 (by decide) (by decide) (by rw [hs]; unfold isD; decide +kernel) (by rw [hs]; unfold isD; decide +kernel)).trans ?_
  rw [show hr (σ 389) 8 7 - nI 48 = nI 2 by rw [hs]; decide +kernel]
  exact o_E (f := F + 8) (by decide) (by decide)
theorem po_7_0 (hc : 391 ≤ c1) (hg : gl (c1 + 1) = 4) (h1 : σ 388 1 = nI 5) (hs : ∀ x, hr (σ 389) 5 x = hr (gFc 7) 5 x) : f_X5_parseOrder 388 c1 (cM σ c1 0 l a) = some (nI 1, cM σ c1 2 (nI 104) (upd a 0 (nI 3))) := by
  obtain ⟨F, hF⟩ : ∃ F, gF = F + 10 := ⟨3990, rfl⟩
  refine (o_beg (n := 5) (u := 4) (p := 0) (x := nI 104) (by decide +kernel) hc h1 (by decide) (by decide) (by rw [hs]; decide +kernel)).trans ?_
  rw [hF]
  refine (o_N1 (f := F + 9) (n := 5) (p := 1) (i := 0) (pt := 0) (by decide) (by decide) (by decide) j_ch_4_0 hc hg h1 (by decide) (by decide) (by rw [hs]; unfold isD; decide +kernel) (by rw [hs]; unfold isD; decide +kernel)).trans ?_
  rw [show hr (σ 389) 5 1 - nI 48 = nI 3 by rw [hs]; decide +kernel]
  exact o_E (f := F + 8) (by decide) (by decide)
theorem po_7_3 (hc : 391 ≤ c1) (hg : gl (c1 + 1) = 4) (h1 : σ 388 1 = nI 5) (hs : ∀ x, hr (σ 389) 5 x = hr (gFc 7) 5 x) : f_X5_parseOrder 388 c1 (cM σ c1 3 l a) = some (nI 1, cM σ c1 5 (nI 116) (upd a 0 (nI 9))) := by
  obtain ⟨F, hF⟩ : ∃ F, gF = F + 10 := ⟨3990, rfl⟩
  refine (o_beg (n := 5) (u := 2) (p := 3) (x := nI 116) (by decide +kernel) hc h1 (by decide) (by decide) (by rw [hs]; decide +kernel)).trans ?_
  rw [hF]
  refine (o_D1 (f := F + 9) (n := 5) (p := 4) (i := 0) (pt := 0) (by decide) (by decide) (by decide) j_ch_2_0 hc hg h1 (by decide) (by decide) (by rw [hs]; unfold isD; decide +kernel)).trans ?_
  rw [show hr (σ 389) 5 4 - nI 48 = nI 9 by rw [hs]; decide +kernel]
  exact o_E (f := F + 8) (by decide) (by decide)
theorem po_8_0 (hc : 391 ≤ c1) (hg : gl (c1 + 1) = 4) (h1 : σ 388 1 = nI 2) (hs : ∀ x, hr (σ 389) 2 x = hr (gFc 8) 2 x) : f_X5_parseOrder 388 c1 (cM σ c1 0 l a) = some (nI 1, cM σ c1 2 (nI 104) (upd a 0 (nI 0))) := by
  obtain ⟨F, hF⟩ : ∃ F, gF = F + 10 := ⟨3990, rfl⟩
  refine (o_beg (n := 2) (u := 4) (p := 0) (x := nI 104) (by decide +kernel) hc h1 (by decide) (by decide) (by rw [hs]; decide +kernel)).trans ?_
  rw [hF]
  refine (o_N1 (f := F + 9) (n := 2) (p := 1) (i := 0) (pt := 0) (by decide) (by decide) (by decide) j_ch_4_0 hc hg h1 (by decide) (by decide) (by rw [hs]; unfold isD; decide +kernel) (by rw [hs]; unfold isD; decide +kernel)).trans ?_
  rw [show hr (σ 389) 2 1 - nI 48 = nI 0 by rw [hs]; decide +kernel]
  exact o_E (f := F + 8) (by decide) (by decide)
theorem po_9_0 (hc : 391 ≤ c1) (hg : gl (c1 + 1) = 4) (h1 : σ 388 1 = nI 8) (hs : ∀ x, hr (σ 389) 8 x = hr (gFc 9) 8 x) : f_X5_parseOrder 388 c1 (cM σ c1 0 l a) = some (nI 0, cM σ c1 4 (nI 108) (upd (upd a 0 (nI 0)) 1 (nI 1))) := by
  obtain ⟨F, hF⟩ : ∃ F, gF = F + 10 := ⟨3990, rfl⟩
  refine (o_beg (n := 8) (u := 1) (p := 0) (x := nI 108) (by decide +kernel) hc h1 (by decide) (by decide) (by rw [hs]; decide +kernel)).trans ?_
  rw [hF]
  refine (o_D1 (f := F + 9) (n := 8) (p := 1) (i := 0) (pt := 0) (by decide) (by decide) (by decide) j_ch_1_0 hc hg h1 (by decide) (by decide) (by rw [hs]; unfold isD; decide +kernel)).trans ?_
  rw [show hr (σ 389) 8 1 - nI 48 = nI 0 by rw [hs]; decide +kernel]
  refine (o_C1 (f := F + 8) (n := 8) (p := 2) (i := 1) (pt := 1) (c := 47) (by decide) (by decide) (by decide) j_ch_1_1 hc h1 (by decide) (by decide) (by rw [hs]; decide +kernel)).trans ?_
  refine (o_D1 (f := F + 7) (n := 8) (p := 3) (i := 2) (pt := 1) (by decide) (by decide) (by decide) j_ch_1_2 hc hg h1 (by decide) (by decide) (by rw [hs]; unfold isD; decide +kernel)).trans ?_
  rw [show hr (σ 389) 8 3 - nI 48 = nI 1 by rw [hs]; decide +kernel]
  exact o_C0 (f := F + 6) (n := 8) (p := 4) (i := 3) (pt := 2) (c := 58) (by decide) (by decide) (by decide) j_ch_1_3 hc h1 (by decide) (by decide) (by rw [hs]; decide +kernel)
theorem po_10_0 (hc : 391 ≤ c1) (hg : gl (c1 + 1) = 4) (h1 : σ 388 1 = nI 6) (hs : ∀ x, hr (σ 389) 6 x = hr (gFc 10) 6 x) : f_X5_parseOrder 388 c1 (cM σ c1 0 l a) = some (nI 1, cM σ c1 5 (nI 98) (upd (upd a 0 (nI 0)) 1 (nI 12))) := by
  obtain ⟨F, hF⟩ : ∃ F, gF = F + 10 := ⟨3990, rfl⟩
  refine (o_beg (n := 6) (u := 0) (p := 0) (x := nI 98) (by decide +kernel) hc h1 (by decide) (by decide) (by rw [hs]; decide +kernel)).trans ?_
  rw [hF]
  refine (o_D1 (f := F + 9) (n := 6) (p := 1) (i := 0) (pt := 0) (by decide) (by decide) (by decide) j_ch_0_0 hc hg h1 (by decide) (by decide) (by rw [hs]; unfold isD; decide +kernel)).trans ?_
  rw [show hr (σ 389) 6 1 - nI 48 = nI 0 by rw [hs]; decide +kernel]
  refine (o_C1 (f := F + 8) (n := 6) (p := 2) (i := 1) (pt := 1) (c := 43) (by decide) (by decide) (by decide) j_ch_0_1 hc h1 (by decide) (by decide) (by rw [hs]; decide +kernel)).trans ?_
  refine (o_N2 (f := F + 7) (n := 6) (p := 3) (i := 2) (pt := 1) (by decide) (by decide) (by decide) j_ch_0_2 hc hg h1 (by decide) (by decide) (by rw [hs]; unfold isD; decide +kernel) (by rw [hs]; unfold isD; decide +kernel)).trans ?_
  rw [show nI 10 * (hr (σ 389) 6 3 - nI 48) + (hr (σ 389) 6 (3 + 1) - nI 48) = nI 12 by rw [hs, hs]; decide +kernel]
  exact o_E (f := F + 6) (by decide) (by decide)
theorem po_11_0 (hc : 391 ≤ c1) (hg : gl (c1 + 1) = 4) (h1 : σ 388 1 = nI 2) (hs : ∀ x, hr (σ 389) 2 x = hr (gFc 11) 2 x) : f_X5_parseOrder 388 c1 (cM σ c1 0 l a) = some (nI 0, cM σ c1 2 (nI 115) (upd a 0 (nI 1))) := by
  obtain ⟨F, hF⟩ : ∃ F, gF = F + 10 := ⟨3990, rfl⟩
  refine (o_beg (n := 2) (u := 3) (p := 0) (x := nI 115) (by decide +kernel) hc h1 (by decide) (by decide) (by rw [hs]; decide +kernel)).trans ?_
  rw [hF]
  refine (o_N1 (f := F + 9) (n := 2) (p := 1) (i := 0) (pt := 0) (by decide) (by decide) (by decide) j_ch_3_0 hc hg h1 (by decide) (by decide) (by rw [hs]; unfold isD; decide +kernel) (by rw [hs]; unfold isD; decide +kernel)).trans ?_
  rw [show hr (σ 389) 2 1 - nI 48 = nI 1 by rw [hs]; decide +kernel]
  exact o_C0 (f := F + 8) (n := 2) (p := 2) (i := 1) (pt := 1) (c := 64) (by decide) (by decide) (by decide) j_ch_3_1 hc h1 (by decide) (by decide) (by rw [hs]; decide +kernel)
end
