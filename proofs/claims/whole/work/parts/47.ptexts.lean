/-! THE PURE SIDE: a text is read alike -/
theorem cM_self {σ : gMem} {c1 p : Nat} (h : σ 388 2 = nI p) (hc : 391 ≤ c1) : cM σ c1 p (σ c1 0) (σ (c1 + 1)) = σ := by
  apply gMem_ext; intro c j; unfold cM
  simp only [ms_ap, mc_ap, upd_ap]
  by_cases q : c = c1 + 1
  · subst q; simp
  · by_cases q2 : c = c1
    · subst q2
      by_cases q3 : j = 0
      · simp [q3, upd_ap]
      · simp [q3, upd_ap]
    · simp [q, q2]
      by_cases q3 : c = 388 ∧ j = 2
      · rw [q3.1, q3.2, ms_ss, h]
      · rw [ms_ap, if_neg q3]
/-- cells that a text leaves alone -/
def oFr (σ σ' : gMem) : Prop := ∀ c, c < 388 ∨ (388 < c ∧ c < 391) ∨ 431 ≤ c → σ' c = σ c
theorem oFr_tr {σ σ1 σ2 : gMem} (h1 : oFr σ σ1) (h2 : oFr σ1 σ2) : oFr σ σ2 := fun c hc => (h2 c hc).trans (h1 c hc)
theorem oFr_cM {σ : gMem} {c1 p : Nat} {l : Int32} {a : Nat → Int32} (h1 : 391 ≤ c1) (h2 : c1 + 1 < 431) : oFr σ (cM σ c1 p l a) := fun c hc => by
  unfold cM; rw [mc_n (by omega), mc_n (by omega), ms_cell (by omega)]
/-- the end of a text: no error, its orders alike; or an error at a place -/
def tEnd (n : Nat) (e : Int32) (w q : Nat) (y : Int32) (σ' : gMem) (t' : Nat → Int32) : Prop := w ≤ 1 ∧ q ≤ n ∧ ((e = m1 ∧ q = n ∧ w = 0 ∧ ∃ cnt, y = nI cnt ∧ cnt ≤ 20 ∧ σ' 388 4 = nI cnt ∧ ∀ j, j < cnt → oEq (σ' (391 + 2 * j) 0) (σ' (392 + 2 * j)) t' (5 * j)) ∨ (e = nI q ∧ (w = 1 ∨ q < n)))
theorem gl_par : ∀ i, i < 20 → gl (391 + 2 * i + 1) = 4 := by decide +kernel
section
variable {m : gMem} {n : Nat}
theorem hr_n {s : Nat → Int32} {n p : Nat} (h : ¬ p < n) : hr s n p = m1 := by unfold hr; rw [if_neg h]
theorem txt_L (h7 : m 433 7 = nI n) (hn : n ≤ 60) (K : Int32 → Int32 → gMem → Option (Int32 × gMem)) : ∀ (d i fc fm : Nat) (σ : gMem) (p : Nat) (t : Nat → Int32), i + d = 20 → d < fc → d + 2 < fm → p ≤ n → 3 * i ≤ p → σ 388 1 = nI n → σ 388 2 = nI p → σ 388 4 = nI i → (∀ x, hr (σ 389) n x = hr (m 438) n x) → (∀ j, j < i → oEq (σ (391 + 2 * j) 0) (σ (392 + 2 * j)) t (5 * j)) → ∃ (e : Int32) (w q : Nat) (y : Int32) (σ' : gMem) (t' : Nat → Int32), L_X5_parseOrders_12 388 fc (nI i) σ = some (e, σ') ∧ L_X9_readsText_14 433 K fm (nI i) (nI 1) (tM m p 0 t) = K y (nI 0) (tM m q w t') ∧ oFr σ σ' ∧ σ' 388 1 = nI n ∧ tEnd n e w q y σ' t' := by
  intro d
  induction d with
  | zero =>
    intro i fc fm σ p t hi hfc hfm hp h3 h1 h2 h4 hs ho
    obtain ⟨f, rfl⟩ : ∃ f, fc = f + 1 := ⟨fc - 1, by omega⟩
    obtain ⟨f', rfl⟩ : ∃ f, fm = f + 1 + 1 := ⟨fm - 2, by omega⟩
    obtain rfl : i = 20 := by omega
    have hpn : ¬ p < n := by omega
    have e0 := hr_n (s := m 438) hpn
    have f0 := fun t w => x_here (m := m) (t := t) (w := w) (p := p) h7 hn (by omega)
    rw [e0] at f0
    have w3 := fun t => x_numw (m := m) (p := p) (t := t) (by omega)
    have er : f_X9_readsOrder 433 (nI 100) (tM m p 0 t) = some ((), tM m p 1 (upd (upd t 100 m1) (100 + 1) (nI 0))) := by
      unfold f_X9_readsOrder
      simp (disch := omega) only [neg1, li_0, li_1, li_2, li_3, li_4, li_5, li_6, li_7, li_8, li_9, li_10, li_11, li_12, li_13, li_14, li_15, li_16, li_20, li_23, li_24, li_26, li_29, li_30, li_36, li_39, li_40, li_42, li_43, li_47, li_48, li_49, li_50, li_53, li_57, li_58, li_59, li_60, li_61, li_62, li_64, li_68, li_71, li_72, li_74, li_80, li_86, li_92, li_93, li_94, li_95, li_96, li_97, li_98, li_99, li_100, li_104, li_108, li_110, li_115, li_116, li_160, li_200, li_220, li_300, li_9999, nI_add, nI_mul, p_clamp, p_le, p_lt, p_eq, p_m1lt, p_m1eq, p_m1ge, p_eqm1, i_clamp, p_leT, p_leF, p_ltT, p_ltF, p_eqT, p_eqF, or_self, or_false, false_or, or_true, true_or, not_false_eq_true, not_true_eq_false, ↓reduceIte, and_self, and_true, true_and, and_false, false_and, ↓gv_e, g1, g2, gnl, Nat.reduceAdd, Nat.add_zero, reduceCtorEq, tM_16, tM_15, tM_w16, tM_w15, tM_439, tM_w439, gl438, gl439, f0, w3]
    refine ⟨nI p, 1, p, nI 21, σ, upd (upd t 100 m1) (100 + 1) (nI 0), ?_, ?_, fun _ _ => rfl, h1, by omega, by omega, Or.inr ⟨rfl, Or.inl rfl⟩⟩
    · simp (disch := omega) only [neg1, li_0, li_1, li_2, li_3, li_4, li_5, li_6, li_7, li_8, li_9, li_10, li_11, li_12, li_13, li_14, li_15, li_16, li_20, li_23, li_24, li_26, li_29, li_30, li_36, li_39, li_40, li_42, li_43, li_47, li_48, li_49, li_50, li_53, li_57, li_58, li_59, li_60, li_61, li_62, li_64, li_68, li_71, li_72, li_74, li_80, li_86, li_92, li_93, li_94, li_95, li_96, li_97, li_98, li_99, li_100, li_104, li_108, li_110, li_115, li_116, li_160, li_200, li_220, li_300, li_9999, nI_add, nI_mul, p_clamp, p_le, p_lt, p_eq, p_m1lt, p_m1eq, p_m1ge, p_eqm1, i_clamp, p_leT, p_leF, p_ltT, p_ltF, p_eqT, p_eqF, or_self, or_false, false_or, or_true, true_or, not_false_eq_true, not_true_eq_false, ↓reduceIte, and_self, and_true, true_and, and_false, false_and, ↓gv_e, g1, g2, gnl, Nat.reduceAdd, Nat.add_zero, reduceCtorEq, L_X5_parseOrders_12, h2]
    · rw [L_X9_readsText_14]
      simp (disch := omega) only [neg1, li_0, li_1, li_2, li_3, li_4, li_5, li_6, li_7, li_8, li_9, li_10, li_11, li_12, li_13, li_14, li_15, li_16, li_20, li_23, li_24, li_26, li_29, li_30, li_36, li_39, li_40, li_42, li_43, li_47, li_48, li_49, li_50, li_53, li_57, li_58, li_59, li_60, li_61, li_62, li_64, li_68, li_71, li_72, li_74, li_80, li_86, li_92, li_93, li_94, li_95, li_96, li_97, li_98, li_99, li_100, li_104, li_108, li_110, li_115, li_116, li_160, li_200, li_220, li_300, li_9999, nI_add, nI_mul, p_clamp, p_le, p_lt, p_eq, p_m1lt, p_m1eq, p_m1ge, p_eqm1, i_clamp, p_leT, p_leF, p_ltT, p_ltF, p_eqT, p_eqF, or_self, or_false, false_or, or_true, true_or, not_false_eq_true, not_true_eq_false, ↓reduceIte, and_self, and_true, true_and, and_false, false_and, ↓gv_e, g1, g2, gnl, Nat.reduceAdd, Nat.add_zero, reduceCtorEq, Nat.reduceMul, er, tM_16, tM_15, tM_w15]
      rw [L_X9_readsText_14]
      simp (disch := omega) only [neg1, li_0, li_1, li_2, li_3, li_4, li_5, li_6, li_7, li_8, li_9, li_10, li_11, li_12, li_13, li_14, li_15, li_16, li_20, li_23, li_24, li_26, li_29, li_30, li_36, li_39, li_40, li_42, li_43, li_47, li_48, li_49, li_50, li_53, li_57, li_58, li_59, li_60, li_61, li_62, li_64, li_68, li_71, li_72, li_74, li_80, li_86, li_92, li_93, li_94, li_95, li_96, li_97, li_98, li_99, li_100, li_104, li_108, li_110, li_115, li_116, li_160, li_200, li_220, li_300, li_9999, nI_add, nI_mul, p_clamp, p_le, p_lt, p_eq, p_m1lt, p_m1eq, p_m1ge, p_eqm1, i_clamp, p_leT, p_leF, p_ltT, p_ltF, p_eqT, p_eqF, or_self, or_false, false_or, or_true, true_or, not_false_eq_true, not_true_eq_false, ↓reduceIte, and_self, and_true, true_and, and_false, false_and, ↓gv_e, g1, g2, gnl, Nat.reduceAdd, Nat.add_zero, reduceCtorEq]
  | succ d ih =>
    intro i fc fm σ p t hi hfc hfm hp h3 h1 h2 h4 hs ho
    obtain ⟨f, rfl⟩ : ∃ f, fc = f + 1 := ⟨fc - 1, by omega⟩
    obtain ⟨f', rfl⟩ : ∃ f, fm = f + 1 + 1 := ⟨fm - 2, by omega⟩
    have hc : 391 ≤ 391 + 2 * i := by omega
    obtain ⟨ok, q, l, a, t', o1, o2, o3, o4, o5, o6⟩ := ord_all (σ := σ) (m := m) (n := n) (c1 := 391 + 2 * i) (k := 5 * i) (p := p) (l0 := σ (391 + 2 * i) 0) (a0 := σ (391 + 2 * i + 1)) (t := t) hc (gl_par i (by omega)) h1 h7 hn hp (by omega) hs
    rw [cM_self h2 hc] at o3
    have eo : (388 + 2) + (1 + 2 * i) = 391 + 2 * i := by omega
    have eg : gl (388 + 2) = 20 := by decide +kernel
    have fr : oFr σ (cM σ (391 + 2 * i) q l a) := oFr_cM hc (by omega)
    have c4 : cM σ (391 + 2 * i) q l a 388 4 = nI i := by unfold cM; rw [mc_n (by omega), mc_n (by omega), ms_ap, if_neg (by decide)]; exact h4
    have c1' : cM σ (391 + 2 * i) q l a 388 1 = nI n := by rw [cM_1 hc]; exact h1
    have c2' : cM σ (391 + 2 * i) q l a 388 2 = nI q := cM_2 hc
    have em : nI 5 * nI i = nI (5 * i) := nI_mul 5 i
    rcases (by omega : ok = 0 ∨ ok = 1) with rfl | rfl
    · refine ⟨nI q, 1, q, nI (i + 1), cM σ (391 + 2 * i) q l a, t', ?_, ?_, fr, c1', by omega, o2, Or.inr ⟨rfl, Or.inl rfl⟩⟩
      · rw [L_X5_parseOrders_12]
        simp (disch := omega) only [neg1, li_0, li_1, li_2, li_3, li_4, li_5, li_6, li_7, li_8, li_9, li_10, li_11, li_12, li_13, li_14, li_15, li_16, li_20, li_23, li_24, li_26, li_29, li_30, li_36, li_39, li_40, li_42, li_43, li_47, li_48, li_49, li_50, li_53, li_57, li_58, li_59, li_60, li_61, li_62, li_64, li_68, li_71, li_72, li_74, li_80, li_86, li_92, li_93, li_94, li_95, li_96, li_97, li_98, li_99, li_100, li_104, li_108, li_110, li_115, li_116, li_160, li_200, li_220, li_300, li_9999, nI_add, nI_mul, p_clamp, p_le, p_lt, p_eq, p_m1lt, p_m1eq, p_m1ge, p_eqm1, i_clamp, p_leT, p_leF, p_ltT, p_ltF, p_eqT, p_eqF, or_self, or_false, false_or, or_true, true_or, not_false_eq_true, not_true_eq_false, ↓reduceIte, and_self, and_true, true_and, and_false, false_and, ↓gv_e, g1, g2, gnl, Nat.reduceAdd, Nat.add_zero, reduceCtorEq, eg, eo, o3, c2']
      · rw [L_X9_readsText_14]
        rw [Nat.sub_zero] at o4
        simp (disch := omega) only [neg1, li_0, li_1, li_2, li_3, li_4, li_5, li_6, li_7, li_8, li_9, li_10, li_11, li_12, li_13, li_14, li_15, li_16, li_20, li_23, li_24, li_26, li_29, li_30, li_36, li_39, li_40, li_42, li_43, li_47, li_48, li_49, li_50, li_53, li_57, li_58, li_59, li_60, li_61, li_62, li_64, li_68, li_71, li_72, li_74, li_80, li_86, li_92, li_93, li_94, li_95, li_96, li_97, li_98, li_99, li_100, li_104, li_108, li_110, li_115, li_116, li_160, li_200, li_220, li_300, li_9999, nI_add, nI_mul, p_clamp, p_le, p_lt, p_eq, p_m1lt, p_m1eq, p_m1ge, p_eqm1, i_clamp, p_leT, p_leF, p_ltT, p_ltF, p_eqT, p_eqF, or_self, or_false, false_or, or_true, true_or, not_false_eq_true, not_true_eq_false, ↓reduceIte, and_self, and_true, true_and, and_false, false_and, ↓gv_e, g1, g2, gnl, Nat.reduceAdd, Nat.add_zero, reduceCtorEq, em, o4, tM_16, tM_15, tM_w15]
        rw [L_X9_readsText_14]
        simp (disch := omega) only [neg1, li_0, li_1, li_2, li_3, li_4, li_5, li_6, li_7, li_8, li_9, li_10, li_11, li_12, li_13, li_14, li_15, li_16, li_20, li_23, li_24, li_26, li_29, li_30, li_36, li_39, li_40, li_42, li_43, li_47, li_48, li_49, li_50, li_53, li_57, li_58, li_59, li_60, li_61, li_62, li_64, li_68, li_71, li_72, li_74, li_80, li_86, li_92, li_93, li_94, li_95, li_96, li_97, li_98, li_99, li_100, li_104, li_108, li_110, li_115, li_116, li_160, li_200, li_220, li_300, li_9999, nI_add, nI_mul, p_clamp, p_le, p_lt, p_eq, p_m1lt, p_m1eq, p_m1ge, p_eqm1, i_clamp, p_leT, p_leF, p_ltT, p_ltF, p_eqT, p_eqF, or_self, or_false, false_or, or_true, true_or, not_false_eq_true, not_true_eq_false, ↓reduceIte, and_self, and_true, true_and, and_false, false_and, ↓gv_e, g1, g2, gnl, Nat.reduceAdd, Nat.add_zero, reduceCtorEq]
    · obtain ⟨o7, o8⟩ := o6 rfl
      rw [Nat.sub_self] at o4
      have f0 := x_here (m := m) (t := t') (w := 0) (p := q) h7 hn (by omega)
      have k2 : ms (cM σ (391 + 2 * i) q l a) 388 4 (nI (i + 1)) 388 2 = nI q := by rw [ms_ap, if_neg (by decide)]; exact c2'
      have k1 : ms (cM σ (391 + 2 * i) q l a) 388 4 (nI (i + 1)) 388 1 = nI n := by rw [ms_ap, if_neg (by decide)]; exact c1'
      have fr2 : oFr σ (ms (cM σ (391 + 2 * i) q l a) 388 4 (nI (i + 1))) := fun c hc => by rw [ms_cell (by omega)]; exact fr c hc
      have ho2 : ∀ j, j < i + 1 → oEq (ms (cM σ (391 + 2 * i) q l a) 388 4 (nI (i + 1)) (391 + 2 * j) 0) (ms (cM σ (391 + 2 * i) q l a) 388 4 (nI (i + 1)) (392 + 2 * j)) t' (5 * j) := by
        intro j hj
        rw [ms_cell (by omega), ms_cell (by omega)]
        by_cases qj : j = i
        · subst qj
          rw [cM_l, show 392 + 2 * j = 391 + 2 * j + 1 by omega, cM_a]; exact o8
        · have h := ho j (by omega)
          have u1 : cM σ (391 + 2 * i) q l a (391 + 2 * j) = σ (391 + 2 * j) := by unfold cM; rw [mc_n (by omega), mc_n (by omega), ms_cell (by omega)]
          have u2 : cM σ (391 + 2 * i) q l a (392 + 2 * j) = σ (392 + 2 * j) := by unfold cM; rw [mc_n (by omega), mc_n (by omega), ms_cell (by omega)]
          rw [u1, u2]
          unfold oEq at h ⊢
          rw [o5 (5 * j) (by omega), o5 (5 * j + 1) (by omega), o5 (5 * j + 2) (by omega), o5 (5 * j + 3) (by omega), o5 (5 * j + 4) (by omega)]
          exact h
      have ehs : ∀ x, hr (ms (cM σ (391 + 2 * i) q l a) 388 4 (nI (i + 1)) 389) n x = hr (m 438) n x := fun x => by
        rw [ms_cell (by decide), cM_389 hc]; exact hs x
      have e9 : f_X5_signHere 388 (ms (cM σ (391 + 2 * i) q l a) 388 4 (nI (i + 1))) = some (hr (m 438) n q, ms (cM σ (391 + 2 * i) q l a) 388 4 (nI (i + 1))) := by
        have e := c_here (σ := ms (cM σ (391 + 2 * i) q l a) 388 4 (nI (i + 1))) (c1 := 391) (p := q) (l := ms (cM σ (391 + 2 * i) q l a) 388 4 (nI (i + 1)) 391 0) (a := ms (cM σ (391 + 2 * i) q l a) 388 4 (nI (i + 1)) (391 + 1)) (by omega) k1 hn (by omega)
        rw [cM_self k2 (by omega), ehs] at e
        exact e
      by_cases qn : q < n
      · by_cases qs : hr (m 438) n q = nI 59
        · have k3 : ms (ms (cM σ (391 + 2 * i) q l a) 388 4 (nI (i + 1))) 388 2 (nI (q + 1)) 388 1 = nI n := by rw [ms_ap, if_neg (by decide)]; exact k1
          have k4 : ms (ms (cM σ (391 + 2 * i) q l a) 388 4 (nI (i + 1))) 388 2 (nI (q + 1)) 388 2 = nI (q + 1) := ms_ss
          have k5 : ms (ms (cM σ (391 + 2 * i) q l a) 388 4 (nI (i + 1))) 388 2 (nI (q + 1)) 388 4 = nI (i + 1) := by rw [ms_ap, if_neg (by decide)]; exact ms_ss
          have uu : ∀ c, 390 < c → ms (ms (cM σ (391 + 2 * i) q l a) 388 4 (nI (i + 1))) 388 2 (nI (q + 1)) c = ms (cM σ (391 + 2 * i) q l a) 388 4 (nI (i + 1)) c := fun c hc => ms_cell (by omega)
          obtain ⟨e, w, q', y, σ', t2, i1, i2, i3, i4, i5⟩ := ih (i + 1) f (f' + 1) (ms (ms (cM σ (391 + 2 * i) q l a) 388 4 (nI (i + 1))) 388 2 (nI (q + 1))) (q + 1) t' (by omega) (by omega) (by omega) (by omega) (by omega) k3 k4 k5 (fun x => by rw [ms_cell (by decide)]; exact ehs x) (fun j hj => by rw [uu _ (by omega), uu _ (by omega)]; exact ho2 j hj)
          refine ⟨e, w, q', y, σ', t2, ?_, ?_, oFr_tr (fun c hc => by rw [ms_cell (by omega)]; exact fr2 c hc) i3, i4, i5⟩
          · rw [L_X5_parseOrders_12]
            simp (disch := omega) only [neg1, li_0, li_1, li_2, li_3, li_4, li_5, li_6, li_7, li_8, li_9, li_10, li_11, li_12, li_13, li_14, li_15, li_16, li_20, li_23, li_24, li_26, li_29, li_30, li_36, li_39, li_40, li_42, li_43, li_47, li_48, li_49, li_50, li_53, li_57, li_58, li_59, li_60, li_61, li_62, li_64, li_68, li_71, li_72, li_74, li_80, li_86, li_92, li_93, li_94, li_95, li_96, li_97, li_98, li_99, li_100, li_104, li_108, li_110, li_115, li_116, li_160, li_200, li_220, li_300, li_9999, nI_add, nI_mul, p_clamp, p_le, p_lt, p_eq, p_m1lt, p_m1eq, p_m1ge, p_eqm1, i_clamp, p_leT, p_leF, p_ltT, p_ltF, p_eqT, p_eqF, or_self, or_false, false_or, or_true, true_or, not_false_eq_true, not_true_eq_false, ↓reduceIte, and_self, and_true, true_and, and_false, false_and, ↓gv_e, g1, g2, gnl, Nat.reduceAdd, Nat.add_zero, reduceCtorEq, eg, eo, o3, c4, k1, k2, e9, qs, i1]
          · rw [L_X9_readsText_14]
            rw [qs] at f0
            simp (disch := omega) only [neg1, li_0, li_1, li_2, li_3, li_4, li_5, li_6, li_7, li_8, li_9, li_10, li_11, li_12, li_13, li_14, li_15, li_16, li_20, li_23, li_24, li_26, li_29, li_30, li_36, li_39, li_40, li_42, li_43, li_47, li_48, li_49, li_50, li_53, li_57, li_58, li_59, li_60, li_61, li_62, li_64, li_68, li_71, li_72, li_74, li_80, li_86, li_92, li_93, li_94, li_95, li_96, li_97, li_98, li_99, li_100, li_104, li_108, li_110, li_115, li_116, li_160, li_200, li_220, li_300, li_9999, nI_add, nI_mul, p_clamp, p_le, p_lt, p_eq, p_m1lt, p_m1eq, p_m1ge, p_eqm1, i_clamp, p_leT, p_leF, p_ltT, p_ltF, p_eqT, p_eqF, or_self, or_false, false_or, or_true, true_or, not_false_eq_true, not_true_eq_false, ↓reduceIte, and_self, and_true, true_and, and_false, false_and, ↓gv_e, g1, g2, gnl, Nat.reduceAdd, Nat.add_zero, reduceCtorEq, em, o4, tM_16, tM_15, tM_w15, f0, i2]
        · refine ⟨nI q, 0, q, nI (i + 1), ms (cM σ (391 + 2 * i) q l a) 388 4 (nI (i + 1)), t', ?_, ?_, fr2, k1, by omega, o2, Or.inr ⟨rfl, Or.inr qn⟩⟩
          · rw [L_X5_parseOrders_12]
            simp (disch := omega) only [neg1, li_0, li_1, li_2, li_3, li_4, li_5, li_6, li_7, li_8, li_9, li_10, li_11, li_12, li_13, li_14, li_15, li_16, li_20, li_23, li_24, li_26, li_29, li_30, li_36, li_39, li_40, li_42, li_43, li_47, li_48, li_49, li_50, li_53, li_57, li_58, li_59, li_60, li_61, li_62, li_64, li_68, li_71, li_72, li_74, li_80, li_86, li_92, li_93, li_94, li_95, li_96, li_97, li_98, li_99, li_100, li_104, li_108, li_110, li_115, li_116, li_160, li_200, li_220, li_300, li_9999, nI_add, nI_mul, p_clamp, p_le, p_lt, p_eq, p_m1lt, p_m1eq, p_m1ge, p_eqm1, i_clamp, p_leT, p_leF, p_ltT, p_ltF, p_eqT, p_eqF, or_self, or_false, false_or, or_true, true_or, not_false_eq_true, not_true_eq_false, ↓reduceIte, and_self, and_true, true_and, and_false, false_and, ↓gv_e, g1, g2, gnl, Nat.reduceAdd, Nat.add_zero, reduceCtorEq, eg, eo, o3, c4, k1, k2, e9, qs]
          · rw [L_X9_readsText_14]
            simp (disch := omega) only [neg1, li_0, li_1, li_2, li_3, li_4, li_5, li_6, li_7, li_8, li_9, li_10, li_11, li_12, li_13, li_14, li_15, li_16, li_20, li_23, li_24, li_26, li_29, li_30, li_36, li_39, li_40, li_42, li_43, li_47, li_48, li_49, li_50, li_53, li_57, li_58, li_59, li_60, li_61, li_62, li_64, li_68, li_71, li_72, li_74, li_80, li_86, li_92, li_93, li_94, li_95, li_96, li_97, li_98, li_99, li_100, li_104, li_108, li_110, li_115, li_116, li_160, li_200, li_220, li_300, li_9999, nI_add, nI_mul, p_clamp, p_le, p_lt, p_eq, p_m1lt, p_m1eq, p_m1ge, p_eqm1, i_clamp, p_leT, p_leF, p_ltT, p_ltF, p_eqT, p_eqF, or_self, or_false, false_or, or_true, true_or, not_false_eq_true, not_true_eq_false, ↓reduceIte, and_self, and_true, true_and, and_false, false_and, ↓gv_e, g1, g2, gnl, Nat.reduceAdd, Nat.add_zero, reduceCtorEq, em, o4, tM_16, tM_15, tM_w15, f0, qs]
            rw [L_X9_readsText_14]
            simp (disch := omega) only [neg1, li_0, li_1, li_2, li_3, li_4, li_5, li_6, li_7, li_8, li_9, li_10, li_11, li_12, li_13, li_14, li_15, li_16, li_20, li_23, li_24, li_26, li_29, li_30, li_36, li_39, li_40, li_42, li_43, li_47, li_48, li_49, li_50, li_53, li_57, li_58, li_59, li_60, li_61, li_62, li_64, li_68, li_71, li_72, li_74, li_80, li_86, li_92, li_93, li_94, li_95, li_96, li_97, li_98, li_99, li_100, li_104, li_108, li_110, li_115, li_116, li_160, li_200, li_220, li_300, li_9999, nI_add, nI_mul, p_clamp, p_le, p_lt, p_eq, p_m1lt, p_m1eq, p_m1ge, p_eqm1, i_clamp, p_leT, p_leF, p_ltT, p_ltF, p_eqT, p_eqF, or_self, or_false, false_or, or_true, true_or, not_false_eq_true, not_true_eq_false, ↓reduceIte, and_self, and_true, true_and, and_false, false_and, ↓gv_e, g1, g2, gnl, Nat.reduceAdd, Nat.add_zero, reduceCtorEq]
      · have f1 := hr_n (s := m 438) qn
        rw [f1] at f0
        have k6 : ms (cM σ (391 + 2 * i) q l a) 388 4 (nI (i + 1)) 388 4 = nI (i + 1) := ms_ss
        refine ⟨m1, 0, q, nI (i + 1), ms (cM σ (391 + 2 * i) q l a) 388 4 (nI (i + 1)), t', ?_, ?_, fr2, k1, by omega, o2, Or.inl ⟨rfl, by omega, rfl, i + 1, rfl, by omega, k6, ho2⟩⟩
        · rw [L_X5_parseOrders_12]
          simp (disch := omega) only [neg1, li_0, li_1, li_2, li_3, li_4, li_5, li_6, li_7, li_8, li_9, li_10, li_11, li_12, li_13, li_14, li_15, li_16, li_20, li_23, li_24, li_26, li_29, li_30, li_36, li_39, li_40, li_42, li_43, li_47, li_48, li_49, li_50, li_53, li_57, li_58, li_59, li_60, li_61, li_62, li_64, li_68, li_71, li_72, li_74, li_80, li_86, li_92, li_93, li_94, li_95, li_96, li_97, li_98, li_99, li_100, li_104, li_108, li_110, li_115, li_116, li_160, li_200, li_220, li_300, li_9999, nI_add, nI_mul, p_clamp, p_le, p_lt, p_eq, p_m1lt, p_m1eq, p_m1ge, p_eqm1, i_clamp, p_leT, p_leF, p_ltT, p_ltF, p_eqT, p_eqF, or_self, or_false, false_or, or_true, true_or, not_false_eq_true, not_true_eq_false, ↓reduceIte, and_self, and_true, true_and, and_false, false_and, ↓gv_e, g1, g2, gnl, Nat.reduceAdd, Nat.add_zero, reduceCtorEq, eg, eo, o3, c4, k1, k2]
        · rw [L_X9_readsText_14]
          simp (disch := omega) only [neg1, li_0, li_1, li_2, li_3, li_4, li_5, li_6, li_7, li_8, li_9, li_10, li_11, li_12, li_13, li_14, li_15, li_16, li_20, li_23, li_24, li_26, li_29, li_30, li_36, li_39, li_40, li_42, li_43, li_47, li_48, li_49, li_50, li_53, li_57, li_58, li_59, li_60, li_61, li_62, li_64, li_68, li_71, li_72, li_74, li_80, li_86, li_92, li_93, li_94, li_95, li_96, li_97, li_98, li_99, li_100, li_104, li_108, li_110, li_115, li_116, li_160, li_200, li_220, li_300, li_9999, nI_add, nI_mul, p_clamp, p_le, p_lt, p_eq, p_m1lt, p_m1eq, p_m1ge, p_eqm1, i_clamp, p_leT, p_leF, p_ltT, p_ltF, p_eqT, p_eqF, or_self, or_false, false_or, or_true, true_or, not_false_eq_true, not_true_eq_false, ↓reduceIte, and_self, and_true, true_and, and_false, false_and, ↓gv_e, g1, g2, gnl, Nat.reduceAdd, Nat.add_zero, reduceCtorEq, em, o4, tM_16, tM_15, tM_w15, f0]
          rw [L_X9_readsText_14]
          simp (disch := omega) only [neg1, li_0, li_1, li_2, li_3, li_4, li_5, li_6, li_7, li_8, li_9, li_10, li_11, li_12, li_13, li_14, li_15, li_16, li_20, li_23, li_24, li_26, li_29, li_30, li_36, li_39, li_40, li_42, li_43, li_47, li_48, li_49, li_50, li_53, li_57, li_58, li_59, li_60, li_61, li_62, li_64, li_68, li_71, li_72, li_74, li_80, li_86, li_92, li_93, li_94, li_95, li_96, li_97, li_98, li_99, li_100, li_104, li_108, li_110, li_115, li_116, li_160, li_200, li_220, li_300, li_9999, nI_add, nI_mul, p_clamp, p_le, p_lt, p_eq, p_m1lt, p_m1eq, p_m1ge, p_eqm1, i_clamp, p_leT, p_leF, p_ltT, p_ltF, p_eqT, p_eqF, or_self, or_false, false_or, or_true, true_or, not_false_eq_true, not_true_eq_false, ↓reduceIte, and_self, and_true, true_and, and_false, false_and, ↓gv_e, g1, g2, gnl, Nat.reduceAdd, Nat.add_zero, reduceCtorEq]
/-- a text: an error at the same place, or the same orders -/
def tEnd2 (n : Nat) (e : Int32) (w q : Nat) (y : Int32) (σ' : gMem) (t' : Nat → Int32) : Prop := (e = m1 ∧ w = 0 ∧ ∃ cnt, y = nI cnt ∧ cnt ≤ 20 ∧ σ' 388 4 = nI cnt ∧ ∀ j, j < cnt → oEq (σ' (391 + 2 * j) 0) (σ' (392 + 2 * j)) t' (5 * j)) ∨ (e = nI q ∧ q ≤ n ∧ w = 1)
theorem txt_all {σ : gMem} (h7 : m 433 7 = nI n) (hn : n ≤ 60) (h1 : σ 388 1 = nI n) (hs : ∀ j, j < n → σ 389 j = m 438 j) : ∃ (e : Int32) (w q : Nat) (y : Int32) (σ' : gMem) (t' : Nat → Int32), f_X5_parseOrders 388 σ = some (e, σ') ∧ f_X9_readsText 433 m = some (y, ms (tM m q w t') 433 7 (nI 0)) ∧ oFr σ σ' ∧ σ' 388 1 = nI n ∧ tEnd2 n e w q y σ' t' := by
  have hs' : ∀ x, hr (ms (ms σ 388 2 (nI 0)) 388 4 (nI 0) 389) n x = hr (m 438) n x := fun x => by
    rw [ms_cell (by decide), ms_cell (by decide)]
    unfold hr
    by_cases q : x < n
    · rw [if_pos q, if_pos q, hs x q]
    · rw [if_neg q, if_neg q]
  obtain ⟨F, hF, hF2⟩ : ∃ F, gF = F ∧ 1000 < F := ⟨gF, rfl, by unfold gF; omega⟩
  obtain ⟨e, w, q, y, σ', t', i1, i2, i3, i4, i5, i6, i7⟩ := txt_L (m := m) h7 hn (fun y22 y23 m24 => if (m24 433 16) = (0 : Int32) then (if (m24 433 7) ≤ (m24 433 15) then (gv (ms m24 433 16 (0 : Int32)) (fun m29 => gv (ms m29 433 7 (0 : Int32)) (fun m30 => some (y22, m30)))) else (gv (ms m24 433 16 (1 : Int32)) (fun m31 => gv (ms m31 433 7 (0 : Int32)) (fun m32 => some (y22, m32))))) else (gv (ms m24 433 16 (1 : Int32)) (fun m26 => gv (ms m26 433 7 (0 : Int32)) (fun m27 => some (y22, m27))))) 20 0 F F (ms (ms σ 388 2 (nI 0)) 388 4 (nI 0)) 0 (m 439) rfl (by omega) (by omega) (by omega) (by omega) (by rw [ms_ap, if_neg (by decide), ms_ap, if_neg (by decide)]; exact h1) (by rw [ms_ap, if_neg (by decide)]; exact ms_ss) ms_ss hs' (fun j hj => absurd hj (by omega))
  have fr : oFr σ σ' := fun c hc => by rw [i3 c hc, ms_cell (by omega), ms_cell (by omega)]
  have e0 : ms (ms m 433 15 (nI 0)) 433 16 (nI 0) = tM m 0 0 (m 439) := by
    apply gMem_ext; intro c j; unfold tM
    simp only [ms_ap, mc_ap, upd_ap]
    by_cases p : c = 433
    · subst p; by_cases p2 : j = 16
      · simp [p2, upd_ap]
      · simp [p2, upd_ap, ms_ap]
    · simp [p, ms_ap]
      by_cases p3 : c = 439
      · simp [p3]
      · simp [p3]
  have eT : f_X9_readsText 433 m = L_X9_readsText_14 433 (fun y22 y23 m24 => if (m24 433 16) = (0 : Int32) then (if (m24 433 7) ≤ (m24 433 15) then (gv (ms m24 433 16 (0 : Int32)) (fun m29 => gv (ms m29 433 7 (0 : Int32)) (fun m30 => some (y22, m30)))) else (gv (ms m24 433 16 (1 : Int32)) (fun m31 => gv (ms m31 433 7 (0 : Int32)) (fun m32 => some (y22, m32))))) else (gv (ms m24 433 16 (1 : Int32)) (fun m26 => gv (ms m26 433 7 (0 : Int32)) (fun m27 => some (y22, m27))))) F (nI 0) (nI 1) (tM m 0 0 (m 439)) := by
    unfold f_X9_readsText
    rw [hF, ← e0]
    unfold gv
    rfl
  have eC : f_X5_parseOrders 388 σ = some (e, σ') := by
    unfold f_X5_parseOrders
    rw [hF]
    exact i1
  refine ⟨e, if w = 1 ∨ q < n then 1 else 0, q, y, σ', t', eC, ?_, fr, i4, ?_⟩
  · rw [eT, i2]
    rcases (by omega : w = 0 ∨ w = 1) with rfl | rfl
    · by_cases qn : q < n
      · simp (disch := omega) only [neg1, li_0, li_1, li_2, li_3, li_4, li_5, li_6, li_7, li_8, li_9, li_10, li_11, li_12, li_13, li_14, li_15, li_16, li_20, li_23, li_24, li_26, li_29, li_30, li_36, li_39, li_40, li_42, li_43, li_47, li_48, li_49, li_50, li_53, li_57, li_58, li_59, li_60, li_61, li_62, li_64, li_68, li_71, li_72, li_74, li_80, li_86, li_92, li_93, li_94, li_95, li_96, li_97, li_98, li_99, li_100, li_104, li_108, li_110, li_115, li_116, li_160, li_200, li_220, li_300, li_9999, nI_add, nI_mul, p_clamp, p_le, p_lt, p_eq, p_m1lt, p_m1eq, p_m1ge, p_eqm1, i_clamp, p_leT, p_leF, p_ltT, p_ltF, p_eqT, p_eqF, or_self, or_false, false_or, or_true, true_or, not_false_eq_true, not_true_eq_false, ↓reduceIte, and_self, and_true, true_and, and_false, false_and, ↓gv_e, g1, g2, gnl, Nat.reduceAdd, Nat.add_zero, reduceCtorEq, tM_16, tM_15, tM_7, h7, qn, tM_w16]
      · simp (disch := omega) only [neg1, li_0, li_1, li_2, li_3, li_4, li_5, li_6, li_7, li_8, li_9, li_10, li_11, li_12, li_13, li_14, li_15, li_16, li_20, li_23, li_24, li_26, li_29, li_30, li_36, li_39, li_40, li_42, li_43, li_47, li_48, li_49, li_50, li_53, li_57, li_58, li_59, li_60, li_61, li_62, li_64, li_68, li_71, li_72, li_74, li_80, li_86, li_92, li_93, li_94, li_95, li_96, li_97, li_98, li_99, li_100, li_104, li_108, li_110, li_115, li_116, li_160, li_200, li_220, li_300, li_9999, nI_add, nI_mul, p_clamp, p_le, p_lt, p_eq, p_m1lt, p_m1eq, p_m1ge, p_eqm1, i_clamp, p_leT, p_leF, p_ltT, p_ltF, p_eqT, p_eqF, or_self, or_false, false_or, or_true, true_or, not_false_eq_true, not_true_eq_false, ↓reduceIte, and_self, and_true, true_and, and_false, false_and, ↓gv_e, g1, g2, gnl, Nat.reduceAdd, Nat.add_zero, reduceCtorEq, tM_16, tM_15, tM_7, h7, qn, tM_w16]
    · simp (disch := omega) only [neg1, li_0, li_1, li_2, li_3, li_4, li_5, li_6, li_7, li_8, li_9, li_10, li_11, li_12, li_13, li_14, li_15, li_16, li_20, li_23, li_24, li_26, li_29, li_30, li_36, li_39, li_40, li_42, li_43, li_47, li_48, li_49, li_50, li_53, li_57, li_58, li_59, li_60, li_61, li_62, li_64, li_68, li_71, li_72, li_74, li_80, li_86, li_92, li_93, li_94, li_95, li_96, li_97, li_98, li_99, li_100, li_104, li_108, li_110, li_115, li_116, li_160, li_200, li_220, li_300, li_9999, nI_add, nI_mul, p_clamp, p_le, p_lt, p_eq, p_m1lt, p_m1eq, p_m1ge, p_eqm1, i_clamp, p_leT, p_leF, p_ltT, p_ltF, p_eqT, p_eqF, or_self, or_false, false_or, or_true, true_or, not_false_eq_true, not_true_eq_false, ↓reduceIte, and_self, and_true, true_and, and_false, false_and, ↓gv_e, g1, g2, gnl, Nat.reduceAdd, Nat.add_zero, reduceCtorEq, tM_16, tM_w16]
  · rcases i7 with ⟨a1, a2, a3, a4⟩ | ⟨a1, a2⟩
    · exact Or.inl ⟨a1, by rw [if_neg (by omega)], a4⟩
    · exact Or.inr ⟨a1, i6, by rw [if_pos a2]⟩
end
