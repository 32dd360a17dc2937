/-! THE PURE SIDE: both objects, side by side -/
/-- a hotel and its row -/
def HQ (N : Nat) (σ : gMem) (h : Nat) (g : Nat → Int32) : Prop := qR σ h g (Lv g) ∧ GA N g
theorem HQ_F {N h : Nat} {σ : gMem} {g : Nat → Int32} (H : HQ N σ h g) : qF σ σ h g := ⟨H.1, FR_rf⟩
theorem HQ_F2 {h : Nat} {σ : gMem} {g : Nat → Int32} (H : qR σ h g (Lv g)) : qF σ σ h g := ⟨H, FR_rf⟩
theorem HQ_up {N N' h : Nat} {σ : gMem} {g : Nat → Int32} (H : HQ N σ h g) (hN : N ≤ N') : HQ N' σ h g := ⟨H.1, GA_up H.2 hN⟩
theorem HQ_own {N h : Nat} {σ σ' : gMem} {g : Nat → Int32} (H : HQ N σ h g) (he : ∀ c, h ≤ c → c < h + 35 → σ' c = σ c) : HQ N σ' h g := ⟨qR_own H.1 he, H.2⟩
theorem HQ_g {N h : Nat} {σ : gMem} {g g' : Nat → Int32} (H : HQ N σ h g) (he : ∀ j, j < 220 → g' j = g j) : HQ N σ h g' := ⟨(qF_g (HQ_F H) he).1, GA_g H.2 he⟩
/-- one of the rows of the history -/
def hG (f : Nat → Int32) (i : Nat) : Nat → Int32 := fun j => f (220 * i + j)
def HI (N : Nat) (σ : gMem) (f : Nat → Int32) (cnt : Nat) : Prop := cnt ≤ 8 ∧ ∃ nw, nw < 8 ∧ σ 106 2 = nI cnt ∧ σ 106 1 = nI nw ∧ ∀ k, k < cnt → HQ N σ (108 + 35 * ((nw + 8 - k) % 8)) (hG f (cnt - 1 - k))
def TX (σ m : gMem) : Prop := ∃ n, n ≤ 60 ∧ σ 388 1 = nI n ∧ m 433 7 = nI n ∧ ∀ j, j < n → σ 389 j = m 438 j
/-- the class' object in σ and the model's object in m stand for the same -/
def RR (N : Nat) (σ m : gMem) : Prop := HQ N σ 1 (m 434) ∧ (σ 0 3 = m 433 5 ∧ (m 433 5 ≠ nI 0 → HQ N σ 71 (m 437))) ∧ (∃ cnt, m 433 3 = nI cnt ∧ HI N σ (m 436) cnt) ∧ TX σ m ∧ σ 0 6 = m 433 8 ∧ σ 431 0 = m 433 9 ∧ σ 431 1 = m 433 10
theorem HI_own {N cnt : Nat} {σ σ' : gMem} {f : Nat → Int32} (H : HI N σ f cnt) (he : ∀ c, 106 ≤ c → c < 388 → σ' c = σ c) : HI N σ' f cnt := by
  obtain ⟨h1, nw, h2, h3, h4, h5⟩ := H
  refine ⟨h1, nw, h2, by rw [he _ (by decide) (by decide)]; exact h3, by rw [he _ (by decide) (by decide)]; exact h4, fun k hk => HQ_own (h5 k hk) (fun c c1 c2 => he c (by omega) ?_)⟩
  have : (nw + 8 - k) % 8 < 8 := Nat.mod_lt _ (by decide)
  omega
theorem HI_up {N N' cnt : Nat} {σ : gMem} {f : Nat → Int32} (H : HI N σ f cnt) (hN : N ≤ N') : HI N' σ f cnt := by
  obtain ⟨h1, nw, h2, h3, h4, h5⟩ := H
  exact ⟨h1, nw, h2, h3, h4, fun k hk => HQ_up (h5 k hk) hN⟩
theorem TX_own {σ σ' m m' : gMem} (H : TX σ m) (h1 : σ' 388 1 = σ 388 1) (h2 : σ' 389 = σ 389) (h3 : m' 433 7 = m 433 7) (h4 : m' 438 = m 438) : TX σ' m' := by
  obtain ⟨n, a, b, c, d⟩ := H
  exact ⟨n, a, by rw [h1]; exact b, by rw [h3]; exact c, fun j hj => by rw [h2, h4]; exact d j hj⟩
/-- the model's history after a change -/
def KH (f b : Nat → Int32) (cnt : Nat) : Nat → Int32 := if cnt = 8 then va_cpy b (xSh f 1540) 0 1540 220 else va_cpy b f 0 (220 * cnt) 220
def K8 (cnt : Nat) : Nat := if cnt = 8 then 8 else cnt + 1
theorem KH_new {f b : Nat → Int32} {cnt j : Nat} (h : cnt ≤ 8) (hj : j < 220) : hG (KH f b cnt) (K8 cnt - 1) j = b j := by
  unfold hG KH K8
  by_cases q : cnt = 8
  · rw [if_pos q, if_pos q, va_cpy_ap, if_pos (by omega)]; exact congrArg b (by omega)
  · rw [if_neg q, if_neg q, va_cpy_ap, if_pos (by omega)]; exact congrArg b (by omega)
theorem KH_old {f b : Nat → Int32} {cnt j k : Nat} (h : cnt ≤ 8) (hj : j < 220) (hk : k + 1 < K8 cnt) : hG (KH f b cnt) (K8 cnt - 1 - (k + 1)) j = hG f (cnt - 1 - k) j := by
  unfold K8 at hk
  unfold hG KH K8
  by_cases q : cnt = 8
  · rw [if_pos q] at hk
    rw [if_pos q, if_pos q, va_cpy_ap, if_neg (by omega)]
    unfold xSh
    rw [if_pos (by omega)]
    exact congrArg f (by omega)
  · rw [if_neg q] at hk
    rw [if_neg q, if_neg q, va_cpy_ap, if_neg (by omega)]
    exact congrArg f (by omega)
theorem gl107 : gl (106 + 1) = 8 := by decide +kernel
/-- the class keeps what was -/
theorem c_keep {N cnt : Nat} {σ : gMem} {f g : Nat → Int32} (H : HI N σ f cnt) (hg : HQ N σ 1 g) : ∃ σ', f_X1_keep 106 1 σ = some ((), σ') ∧ (∀ c, c < 106 ∨ 388 ≤ c → σ' c = σ c) ∧ ∀ b : Nat → Int32, (∀ j, j < 220 → b j = g j) → HI N σ' (KH f b cnt) (K8 cnt) := by
  obtain ⟨h1, nw, h2, h3, h4, h5⟩ := H
  have hw : (nw + 1) % 8 < 8 := Nat.mod_lt _ (by decide)
  have e0 : σ 106 1 + nI 1 = nI (nw + 1) := by rw [h4, nI_add]
  have e1 := p_fmod (a := nw + 1) (b := 8) (by omega) (by decide) (by decide) σ
  have hr := HF_ring ((nw + 1) % 8) hw
  have ea : (106 + 1) + (1 + 35 * ((nw + 1) % 8)) = 108 + 35 * ((nw + 1) % 8) := by omega
  obtain ⟨σ2, c1, c2⟩ := c_copyR (σ0 := ms σ 106 1 (nI ((nw + 1) % 8))) (d := 108 + 35 * ((nw + 1) % 8)) (s := 1) (g := g) (by omega) hr HF_1 (qR_own hg.1 (fun c q1 q2 => by rw [ms_cell (by omega)]))
  have k1 : σ2 106 1 = nI ((nw + 1) % 8) := by rw [c2.2 106 (by omega)]; exact ms_ss
  have k2 : σ2 106 2 = nI cnt := by rw [c2.2 106 (by omega), ms_ap, if_neg (by omega)]; exact h3
  have k3 : ∀ c, c ≠ 106 → (c < 108 + 35 * ((nw + 1) % 8) ∨ 108 + 35 * ((nw + 1) % 8) + 35 ≤ c) → σ2 c = σ c := fun c q1 q2 => by rw [c2.2 c q2, ms_cell q1]
  have k4 : (if cnt + 1 < 8 then nI (cnt + 1) else nI 8) = nI (K8 cnt) := by
    unfold K8
    by_cases q : cnt = 8
    · subst q; rfl
    · rw [if_neg q]
      by_cases q2 : cnt + 1 < 8
      · rw [if_pos q2]
      · rw [if_neg q2, (by omega : cnt = 7)]
  refine ⟨ms σ2 106 2 (nI (K8 cnt)), ?_, fun c hc => by rw [ms_cell (by omega), k3 c (by omega) (by omega)], fun b hb => ⟨?_, (nw + 1) % 8, hw, ms_ss, by rw [ms_ap, if_neg (by omega)]; exact k1, fun k hk => ?_⟩⟩
  · unfold f_X1_keep
    simp (disch := omega) only [neg1, li_0, li_1, li_2, li_3, li_4, li_5, li_6, li_7, li_8, li_9, li_10, li_11, li_12, li_13, li_14, li_15, li_16, li_20, li_23, li_24, li_26, li_29, li_30, li_36, li_39, li_40, li_42, li_43, li_47, li_48, li_49, li_50, li_53, li_57, li_58, li_59, li_60, li_61, li_62, li_64, li_68, li_71, li_72, li_74, li_80, li_86, li_92, li_93, li_94, li_95, li_96, li_97, li_98, li_99, li_100, li_104, li_108, li_110, li_115, li_116, li_160, li_200, li_220, li_300, li_9999, nI_add, nI_mul, p_clamp, p_le, p_lt, p_eq, p_m1lt, p_m1eq, p_m1ge, p_eqm1, i_clamp, p_leT, p_leF, p_ltT, p_ltF, p_eqT, p_eqF, or_self, or_false, false_or, or_true, true_or, not_false_eq_true, not_true_eq_false, ↓reduceIte, and_self, and_true, true_and, and_false, false_and, ↓gv_e, g1, g2, gnl, Nat.reduceAdd, Nat.add_zero, reduceCtorEq, e0, e1, ms_ss, gl107, ea, c1, k2, k4]
  · unfold K8; split <;> omega
  · rcases k with _ | k
    · rw [show ((nw + 1) % 8 + 8 - 0) % 8 = (nw + 1) % 8 by omega]
      refine ⟨(qF_g (g := g) (g' := hG (KH f b cnt) (K8 cnt - 1 - 0)) (HQ_F2 (qR_own c2.1 (fun c q1 q2 => by rw [ms_cell (by omega)]))) (fun j hj => by rw [Nat.sub_zero, KH_new h1 hj, hb j hj])).1, GA_g hg.2 (fun j hj => by rw [Nat.sub_zero, KH_new h1 hj, hb j hj])⟩
    · have hk2 : k < cnt := by unfold K8 at hk; split at hk <;> omega
      have hk3 : k + 1 < 8 := by unfold K8 at hk; split at hk <;> omega
      rw [show ((nw + 1) % 8 + 8 - (k + 1)) % 8 = (nw + 8 - k) % 8 by omega]
      have hne : (nw + 8 - k) % 8 ≠ (nw + 1) % 8 := by omega
      have hl : (nw + 8 - k) % 8 < 8 := Nat.mod_lt _ (by decide)
      refine HQ_g (HQ_own (h5 k hk2) (fun c q1 q2 => ?_)) (fun j hj => KH_old h1 hj hk)
      rw [ms_cell (by omega), k3 c (by omega) (by omega)]

