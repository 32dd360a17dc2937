/-! THE PURE SIDE: orders, on both sides -/
theorem i_alc (a b c : Int32) : a + (b + c) = b + (a + c) := by rw [← Int32.add_assoc, Int32.add_comm a b, Int32.add_assoc]
theorem c_because (r d : Int32) (c : Nat) (σ : gMem) : f_X4_because c r d σ = some (r, ms (ms σ c 0 r) c 1 d) := (rfl)
theorem sub_le0 {a b : Nat} (ha : a < 2147483648) (hb : b < 2147483648) : (nI a - nI b ≤ nI 0) = (a ≤ b) := by
  apply propext
  rw [Int32.le_iff_toInt_le, Int32.toInt_sub, p_int ha, p_int hb, p_int (by decide), bm32]
  split <;> omega
/-! buy -/
def buyG (g : Nat → Int32) (i q : Nat) : Nat → Int32 := upd (upd (upd (upd g 1 (g 1 - nI (q * (i + 1)))) 99 (g 99 + nI (q * (i + 1)))) 95 (g 95 + nI q)) (26 + i) (g (26 + i) + nI q)
section
variable {σ0 σ : gMem} {h N : Nat} {g : Nat → Int32}
theorem c_buyW (H : qF σ0 σ h g) (hh : HF h) (hb : GB N g) (hN : N ≤ 1000000) {i q : Nat} (hi : i < 3) (hq : q ≤ 99) (r : Nat) : f_X2_reasonAgainstBuying h r (nI i) (nI q) σ = if nI 300 < g (26 + i) + nI q then f_X4_because r (nI 3) (g (26 + i)) σ else if g 1 < nI (q * (i + 1)) then f_X4_because r (nI 2) (nI (q * (i + 1)) - g 1) σ else some (nI 0, σ) := by
  obtain ⟨k, hk, hk2⟩ := b_coin hb
  have hm : q * (i + 1) ≤ 297 := Nat.le_trans (Nat.mul_le_mul hq (show i + 1 ≤ 3 by omega)) (by decide)
  unfold f_X2_reasonAgainstBuying
  rw [c_stock H hh hi]
  have e1 := c_price hi σ
  have e2 : nI (q * (i + 1)) - nI k ≤ nI 0 ↔ q * (i + 1) ≤ k := by rw [sub_le0 (by omega) (by omega)]
  simp (disch := omega) only [neg1, li_0, li_1, li_2, li_3, li_4, li_5, li_6, li_7, li_8, li_9, li_10, li_11, li_12, li_13, li_14, li_15, li_16, li_20, li_23, li_24, li_26, li_29, li_30, li_36, li_39, li_40, li_42, li_43, li_47, li_48, li_49, li_50, li_53, li_57, li_58, li_59, li_60, li_61, li_62, li_64, li_68, li_71, li_72, li_74, li_80, li_86, li_92, li_93, li_94, li_95, li_96, li_97, li_98, li_99, li_100, li_104, li_108, li_110, li_115, li_116, li_160, li_200, li_220, li_300, li_9999, nI_add, nI_mul, p_clamp, p_le, p_lt, p_eq, p_m1lt, p_m1eq, p_m1ge, p_eqm1, i_clamp, p_leT, p_leF, p_ltT, p_ltF, p_eqT, p_eqF, or_self, or_false, false_or, or_true, true_or, not_false_eq_true, not_true_eq_false, ↓reduceIte, and_self, and_true, true_and, and_false, false_and, ↓gv_e, g1, g2, gnl, Nat.reduceAdd, Nat.add_zero, reduceCtorEq, e1, r_coin H, hk, c_because]
  by_cases p : nI 300 < g (26 + i) + nI q
  · rw [if_neg (Int32.not_le.mpr p), if_pos p]
  · rw [if_pos (Int32.not_lt.mp p), if_neg p]
    by_cases p2 : k < q * (i + 1)
    · rw [if_neg (fun p3 => absurd (e2.mp p3) (by omega)), if_pos p2]
    · rw [if_pos (e2.mpr (by omega)), if_neg p2]
theorem bo_w (H : qF σ0 σ h g) {i : Nat} (hi : i < 3) (q : Nat) : qF σ0 (ms σ (h + 3) i (σ (h + 3) i + nI q)) h (upd (upd g 95 (g 95 + nI q)) 99 (g 99 + nI (q * (i + 1)))) := by
  have hg : ∀ k, k ≠ 95 → k ≠ 99 → upd (upd g 95 (g 95 + nI q)) 99 (g 99 + nI (q * (i + 1))) k = g k := fun k h1 h2 => by rw [upd_ap, if_neg h2, upd_ap, if_neg h1]
  have hL : ∀ k, Lv (upd (upd g 95 (g 95 + nI q)) 99 (g 99 + nI (q * (i + 1)))) k → Lv g k := fun k hk => by
    unfold Lv at hk ⊢
    rw [hg 29 (by decide) (by decide), hg 48 (by decide) (by decide), hg 61 (by decide) (by decide), hg (36 + (k - 100) / 10 % 6) (by omega) (by omega)] at hk
    exact hk
  refine ⟨⟨fun k hk hl => ?_, ?_, ?_⟩, fun c hc => ?_⟩
  · have h3 : (lo k).1 ≠ 3 := fun e => by rcases (lo_ok k hk).2 e with p | p; exact hl.1 p; exact hl.2.1 p
    rw [ms_cell (by omega), hg k hl.1 hl.2.1]
    exact H.1.1 k hk (hL k hl)
  · rw [upd_ap, if_neg (by decide), upd_ap, if_pos rfl, ← H.1.2.1]
    rcases (by omega : i = 0 ∨ i = 1 ∨ i = 2) with rfl | rfl | rfl
    · simp only [ms_ap, and_self, ↓reduceIte, true_and, show ¬ (1 : Nat) = 0 by decide, show ¬ (2 : Nat) = 0 by decide]
      simp only [Int32.add_assoc, Int32.add_comm, i_alc]
    · simp only [ms_ap, and_self, ↓reduceIte, true_and, show ¬ (0 : Nat) = 1 by decide, show ¬ (2 : Nat) = 1 by decide]
      simp only [Int32.add_assoc, Int32.add_comm, i_alc]
    · simp only [ms_ap, and_self, ↓reduceIte, true_and, show ¬ (0 : Nat) = 2 by decide, show ¬ (1 : Nat) = 2 by decide]
      simp only [Int32.add_assoc]
  · rw [upd_ap, if_pos rfl, ← H.1.2.2]
    rcases (by omega : i = 0 ∨ i = 1 ∨ i = 2) with rfl | rfl | rfl
    · simp only [ms_ap, and_self, ↓reduceIte, true_and, show ¬ (1 : Nat) = 0 by decide, show ¬ (2 : Nat) = 0 by decide, Nat.zero_add, Nat.mul_one]
      simp only [Int32.add_assoc, Int32.add_comm, i_alc]
    · simp only [ms_ap, and_self, ↓reduceIte, true_and, show ¬ (0 : Nat) = 1 by decide, show ¬ (2 : Nat) = 1 by decide, Nat.reduceAdd, ← nI_mul, Int32.add_mul]
      rw [show nI 2 = 2 from rfl]
      simp only [Int32.add_assoc, Int32.add_comm, i_alc]
    · simp only [ms_ap, and_self, ↓reduceIte, true_and, show ¬ (0 : Nat) = 2 by decide, show ¬ (1 : Nat) = 2 by decide, Nat.reduceAdd, ← nI_mul, Int32.add_mul]
      rw [show nI 3 = 3 from rfl]
      simp only [Int32.add_assoc]
  · rw [ms_cell (by omega)]; exact H.2 c hc
theorem c_buy (H : qF σ0 σ h g) (hh : HF h) {i q : Nat} (hi : i < 3) : ∃ σ', f_X2_buyCubes h (nI i) (nI q) σ = some (g (26 + i) + nI q, σ') ∧ qF σ0 σ' h (buyG g i q) := by
  have h1 := w_stk H hi (g (26 + i) + nI q)
  have h2 := bo_w h1 hi q
  have h3 := w_coin h2 (g 1 - nI (q * (i + 1)))
  have e0 : ms σ (h + 2) i (g (26 + i) + nI q) h 1 = g 1 := by rw [ms_cell (by omega), r_coin H]
  have e1 := c_price hi (ms (ms σ (h + 2) i (g (26 + i) + nI q)) (h + 3) i (ms σ (h + 2) i (g (26 + i) + nI q) (h + 3) i + nI q))
  have e3 : ms (ms σ (h + 2) i (g (26 + i) + nI q)) (h + 3) i (ms σ (h + 2) i (g (26 + i) + nI q) (h + 3) i + nI q) h 1 = g 1 := by rw [ms_cell (by omega), e0]
  have e4 := c_stock h3 hh hi
  refine ⟨_, ?_, qF_g h3 (g' := buyG g i q) ?_⟩
  · unfold f_X2_buyCubes
    rw [c_grade]
    simp (disch := omega) only [neg1, li_0, li_1, li_2, li_3, li_4, li_5, li_6, li_7, li_8, li_9, li_10, li_11, li_12, li_13, li_14, li_15, li_16, li_20, li_23, li_24, li_26, li_29, li_30, li_36, li_39, li_40, li_42, li_43, li_47, li_48, li_49, li_50, li_53, li_57, li_58, li_59, li_60, li_61, li_62, li_64, li_68, li_71, li_72, li_74, li_80, li_86, li_92, li_93, li_94, li_95, li_96, li_97, li_98, li_99, li_100, li_104, li_108, li_110, li_115, li_116, li_160, li_200, li_220, li_300, li_9999, nI_add, nI_mul, p_clamp, p_le, p_lt, p_eq, p_m1lt, p_m1eq, p_m1ge, p_eqm1, i_clamp, p_leT, p_leF, p_ltT, p_ltF, p_eqT, p_eqF, or_self, or_false, false_or, or_true, true_or, not_false_eq_true, not_true_eq_false, ↓reduceIte, and_self, and_true, true_and, and_false, false_and, ↓gv_e, g1, g2, gnl, Nat.reduceAdd, Nat.add_zero, reduceCtorEq, hh.2.2.1, hh.2.2.2.1, r_stk H hi, e1, e3, e4]
    simp (disch := omega) only [neg1, li_0, li_1, li_2, li_3, li_4, li_5, li_6, li_7, li_8, li_9, li_10, li_11, li_12, li_13, li_14, li_15, li_16, li_20, li_23, li_24, li_26, li_29, li_30, li_36, li_39, li_40, li_42, li_43, li_47, li_48, li_49, li_50, li_53, li_57, li_58, li_59, li_60, li_61, li_62, li_64, li_68, li_71, li_72, li_74, li_80, li_86, li_92, li_93, li_94, li_95, li_96, li_97, li_98, li_99, li_100, li_104, li_108, li_110, li_115, li_116, li_160, li_200, li_220, li_300, li_9999, nI_add, nI_mul, p_clamp, p_le, p_lt, p_eq, p_m1lt, p_m1eq, p_m1ge, p_eqm1, i_clamp, p_leT, p_leF, p_ltT, p_ltF, p_eqT, p_eqF, or_self, or_false, false_or, or_true, true_or, not_false_eq_true, not_true_eq_false, ↓reduceIte, and_self, and_true, true_and, and_false, false_and, ↓gv_e, g1, g2, gnl, Nat.reduceAdd, Nat.add_zero, reduceCtorEq, upd_ap]
  · unfold buyG
    intro j hj; simp only [upd_ap]; (repeat' split) <;> first | rfl | omega | (exfalso; omega)
end
theorem GB_buy {N i q : Nat} {g : Nat → Int32} (hb : GB N g) (hN : N ≤ 1000000) (hi : i < 3) (hq : q ≤ 99) (h1 : ¬ nI 300 < g (26 + i) + nI q) (h2 : ¬ g 1 < nI (q * (i + 1))) : GB N (buyG g i q) := by
  obtain ⟨k, hk, hk2⟩ := b_coin hb
  obtain ⟨s, hs, hs2⟩ := b_stk hb hi
  have hm : q * (i + 1) ≤ 297 := Nat.le_trans (Nat.mul_le_mul hq (show i + 1 ≤ 3 by omega)) (by decide)
  rw [hk, p_lt (by omega) (by omega)] at h2
  rw [hs, nI_add, p_lt (by omega) (by omega)] at h1
  unfold buyG
  rw [hk, hs, nI_sub (by omega), nI_add]
  exact v_stk (v_bgt (v_pad (v_coin hb (by omega) (by omega)) _) _) hi (by omega)
theorem GZ_g {g g' : Nat → Int32} (H : GZ g) (h29 : g' 29 = g 29) (h48 : g' 48 = g 48) (h61 : g' 61 = g 61) (hw : ∀ t, t < 6 → iN (g 29) ≤ t → g' (30 + t) = g (30 + t) ∧ g' (36 + t) = g (36 + t) ∧ g' (42 + t) = g (42 + t)) (ht : ∀ i, i < 4 → iN (g 48) ≤ i → g' (53 + i) = g (53 + i) ∧ g' (57 + i) = g (57 + i)) (hk : ∀ k, k < 6 → g' (74 + k) = g (74 + k)) : GZ g' := by
  refine ⟨fun t h1 h2 => ?_, fun i h1 h2 => ?_, fun k h1 h2 => ?_⟩
  · rw [h29] at h2
    obtain ⟨e1, e2, e3⟩ := hw t h1 h2
    rw [e1, e2, e3]; exact H.1 t h1 h2
  · rw [h48] at h2
    obtain ⟨e1, e2⟩ := ht i h1 h2
    rw [e1, e2]; exact H.2.1 i h1 h2
  · rw [h61] at h2
    rw [hk k h1]; exact H.2.2 k h1 h2
theorem GZ_buy {i q : Nat} {g : Nat → Int32} (H : GZ g) (hi : i < 3) : GZ (buyG g i q) := by
  have e : ∀ k, 29 ≤ k → k ≠ 95 → k ≠ 99 → buyG g i q k = g k := fun k h1 h2 h3 => by
    unfold buyG; simp only [upd_ap]; rw [if_neg (by omega), if_neg (by omega), if_neg (by omega), if_neg (by omega)]
  exact GZ_g H (e _ (by omega) (by omega) (by omega)) (e _ (by omega) (by omega) (by omega)) (e _ (by omega) (by omega) (by omega)) (fun t _ _ => ⟨e _ (by omega) (by omega) (by omega), e _ (by omega) (by omega) (by omega), e _ (by omega) (by omega) (by omega)⟩) (fun t _ _ => ⟨e _ (by omega) (by omega) (by omega), e _ (by omega) (by omega) (by omega)⟩) (fun k _ => e _ (by omega) (by omega) (by omega))
/-! lay -/
def whyR (g : Nat → Int32) (t n i q : Nat) : Int32 := if gC g t = 10 then nI 1 else if nI 0 < g (53 + n) then nI 4 else if g (49 + n) ≤ nI (gC g t) then nI 5 else if g (26 + i) < nI q then nI 6 else if (if gC g t = 0 then nI 20 else cub g t (gC g t - 1)) < nI q then nI 7 else if weak g t (g (30 + t)) (nI q) = m1 then nI 0 else nI 8
def whyD (g : Nat → Int32) (t n i q : Nat) : Int32 := if gC g t = 10 then nI 10 else if nI 0 < g (53 + n) then g (53 + n) else if g (49 + n) ≤ nI (gC g t) then g (49 + n) else if g (26 + i) < nI q then g (26 + i) else if (if gC g t = 0 then nI 20 else cub g t (gC g t - 1)) < nI q then (if gC g t = 0 then nI 20 else cub g t (gC g t - 1)) else if weak g t (g (30 + t)) (nI q) = m1 then nI 0 else weak g t (g (30 + t)) (nI q)
def layG (g : Nat → Int32) (t n i q : Nat) : Nat → Int32 := upd (upd (upd (upd (upd (upd g (100 + 10 * t + gC g t) (nI i)) (160 + 10 * t + gC g t) (nI q)) (36 + t) (nI (gC g t + 1))) (26 + i) (g (26 + i) - nI q)) (53 + n) (nI (q / 5 + 1))) (57 + n) (g (57 + n) + nI q)
section
variable {σ0 σ : gMem} {h N : Nat} {g : Nat → Int32}
theorem c_layW (H : qF σ0 σ h g) (hh : HF h) (hb : GB N g) {t n i q : Nat} (ht : t < iN (g 29)) (hn : n < iN (g 48)) (hi : i < 3) (hq : q ≤ 20) (r : Nat) : f_X2_reasonAgainstLaying h r (nI t) (nI n) (nI i) (nI q) σ = if whyR g t n i q = nI 0 then some (nI 0, σ) else f_X4_because r (whyR g t n i q) (whyD g t n i q) σ := by
  have hW := (n_W hb).2
  have hT := (n_T hb).2
  have hq' := TQ_of H hh hb (t := t) (by omega) ht
  obtain ⟨hC, hC2⟩ := gC_of hb (t := t) (by omega)
  unfold f_X2_reasonAgainstLaying whyR whyD
  rw [c_towerAt H hh hb ht]
  have a1 := c_tongsAt H hh hb hn
  have a2 := hh.2.2.2.2.2.2.2.1 n (by omega)
  have a3 := r_bsy H (i := n) (by omega) hn
  have a4 := r_rch H (i := n) (by omega) hn
  have a5 := c_stock H hh hi
  have a6 := c_weak hq' (g (30 + t)) (nI q)
  simp (disch := omega) only [neg1, li_0, li_1, li_2, li_3, li_4, li_5, li_6, li_7, li_8, li_9, li_10, li_11, li_12, li_13, li_14, li_15, li_16, li_20, li_23, li_24, li_26, li_29, li_30, li_36, li_39, li_40, li_42, li_43, li_47, li_48, li_49, li_50, li_53, li_57, li_58, li_59, li_60, li_61, li_62, li_64, li_68, li_71, li_72, li_74, li_80, li_86, li_92, li_93, li_94, li_95, li_96, li_97, li_98, li_99, li_100, li_104, li_108, li_110, li_115, li_116, li_160, li_200, li_220, li_300, li_9999, nI_add, nI_mul, p_clamp, p_le, p_lt, p_eq, p_m1lt, p_m1eq, p_m1ge, p_eqm1, i_clamp, p_leT, p_leF, p_ltT, p_ltF, p_eqT, p_eqF, or_self, or_false, false_or, or_true, true_or, not_false_eq_true, not_true_eq_false, ↓reduceIte, and_self, and_true, true_and, and_false, false_and, ↓gv_e, g1, g2, gnl, Nat.reduceAdd, Nat.add_zero, reduceCtorEq, hq'.2.2.2.2.2.2.1, a1, a2, hq'.1, hC, hq'.2.1, a3, a4, a5, a6, c_because]
  by_cases p0 : gC g t = 10
  · simp (disch := omega) only [neg1, li_0, li_1, li_2, li_3, li_4, li_5, li_6, li_7, li_8, li_9, li_10, li_11, li_12, li_13, li_14, li_15, li_16, li_20, li_23, li_24, li_26, li_29, li_30, li_36, li_39, li_40, li_42, li_43, li_47, li_48, li_49, li_50, li_53, li_57, li_58, li_59, li_60, li_61, li_62, li_64, li_68, li_71, li_72, li_74, li_80, li_86, li_92, li_93, li_94, li_95, li_96, li_97, li_98, li_99, li_100, li_104, li_108, li_110, li_115, li_116, li_160, li_200, li_220, li_300, li_9999, nI_add, nI_mul, p_clamp, p_le, p_lt, p_eq, p_m1lt, p_m1eq, p_m1ge, p_eqm1, i_clamp, p_leT, p_leF, p_ltT, p_ltF, p_eqT, p_eqF, or_self, or_false, false_or, or_true, true_or, not_false_eq_true, not_true_eq_false, ↓reduceIte, and_self, and_true, true_and, and_false, false_and, ↓gv_e, g1, g2, gnl, Nat.reduceAdd, Nat.add_zero, reduceCtorEq, p0]
  have p0' : gC g t < 10 := by omega
  by_cases p1 : nI 0 < g (53 + n)
  · have p1' := Int32.not_le.mpr p1
    simp (disch := omega) only [neg1, li_0, li_1, li_2, li_3, li_4, li_5, li_6, li_7, li_8, li_9, li_10, li_11, li_12, li_13, li_14, li_15, li_16, li_20, li_23, li_24, li_26, li_29, li_30, li_36, li_39, li_40, li_42, li_43, li_47, li_48, li_49, li_50, li_53, li_57, li_58, li_59, li_60, li_61, li_62, li_64, li_68, li_71, li_72, li_74, li_80, li_86, li_92, li_93, li_94, li_95, li_96, li_97, li_98, li_99, li_100, li_104, li_108, li_110, li_115, li_116, li_160, li_200, li_220, li_300, li_9999, nI_add, nI_mul, p_clamp, p_le, p_lt, p_eq, p_m1lt, p_m1eq, p_m1ge, p_eqm1, i_clamp, p_leT, p_leF, p_ltT, p_ltF, p_eqT, p_eqF, or_self, or_false, false_or, or_true, true_or, not_false_eq_true, not_true_eq_false, ↓reduceIte, and_self, and_true, true_and, and_false, false_and, ↓gv_e, g1, g2, gnl, Nat.reduceAdd, Nat.add_zero, reduceCtorEq, p0, p0', p1, p1']
  have p1' := Int32.not_lt.mp p1
  by_cases p2 : g (49 + n) ≤ nI (gC g t)
  · have p2' := Int32.not_lt.mpr p2
    simp (disch := omega) only [neg1, li_0, li_1, li_2, li_3, li_4, li_5, li_6, li_7, li_8, li_9, li_10, li_11, li_12, li_13, li_14, li_15, li_16, li_20, li_23, li_24, li_26, li_29, li_30, li_36, li_39, li_40, li_42, li_43, li_47, li_48, li_49, li_50, li_53, li_57, li_58, li_59, li_60, li_61, li_62, li_64, li_68, li_71, li_72, li_74, li_80, li_86, li_92, li_93, li_94, li_95, li_96, li_97, li_98, li_99, li_100, li_104, li_108, li_110, li_115, li_116, li_160, li_200, li_220, li_300, li_9999, nI_add, nI_mul, p_clamp, p_le, p_lt, p_eq, p_m1lt, p_m1eq, p_m1ge, p_eqm1, i_clamp, p_leT, p_leF, p_ltT, p_ltF, p_eqT, p_eqF, or_self, or_false, false_or, or_true, true_or, not_false_eq_true, not_true_eq_false, ↓reduceIte, and_self, and_true, true_and, and_false, false_and, ↓gv_e, g1, g2, gnl, Nat.reduceAdd, Nat.add_zero, reduceCtorEq, p0, p0', p1, p1', p2, p2']
  have p2' := Int32.not_le.mp p2
  by_cases p3 : g (26 + i) < nI q
  · have p3' := Int32.not_le.mpr p3
    simp (disch := omega) only [neg1, li_0, li_1, li_2, li_3, li_4, li_5, li_6, li_7, li_8, li_9, li_10, li_11, li_12, li_13, li_14, li_15, li_16, li_20, li_23, li_24, li_26, li_29, li_30, li_36, li_39, li_40, li_42, li_43, li_47, li_48, li_49, li_50, li_53, li_57, li_58, li_59, li_60, li_61, li_62, li_64, li_68, li_71, li_72, li_74, li_80, li_86, li_92, li_93, li_94, li_95, li_96, li_97, li_98, li_99, li_100, li_104, li_108, li_110, li_115, li_116, li_160, li_200, li_220, li_300, li_9999, nI_add, nI_mul, p_clamp, p_le, p_lt, p_eq, p_m1lt, p_m1eq, p_m1ge, p_eqm1, i_clamp, p_leT, p_leF, p_ltT, p_ltF, p_eqT, p_eqF, or_self, or_false, false_or, or_true, true_or, not_false_eq_true, not_true_eq_false, ↓reduceIte, and_self, and_true, true_and, and_false, false_and, ↓gv_e, g1, g2, gnl, Nat.reduceAdd, Nat.add_zero, reduceCtorEq, p0, p0', p1, p1', p2, p2', p3, p3', a5]
  have p3' := Int32.not_lt.mp p3
  by_cases p4 : gC g t = 0
  · by_cases p5 : weak g t (g (30 + t)) (nI q) = m1
    · simp (disch := omega) only [neg1, li_0, li_1, li_2, li_3, li_4, li_5, li_6, li_7, li_8, li_9, li_10, li_11, li_12, li_13, li_14, li_15, li_16, li_20, li_23, li_24, li_26, li_29, li_30, li_36, li_39, li_40, li_42, li_43, li_47, li_48, li_49, li_50, li_53, li_57, li_58, li_59, li_60, li_61, li_62, li_64, li_68, li_71, li_72, li_74, li_80, li_86, li_92, li_93, li_94, li_95, li_96, li_97, li_98, li_99, li_100, li_104, li_108, li_110, li_115, li_116, li_160, li_200, li_220, li_300, li_9999, nI_add, nI_mul, p_clamp, p_le, p_lt, p_eq, p_m1lt, p_m1eq, p_m1ge, p_eqm1, i_clamp, p_leT, p_leF, p_ltT, p_ltF, p_eqT, p_eqF, or_self, or_false, false_or, or_true, true_or, not_false_eq_true, not_true_eq_false, ↓reduceIte, and_self, and_true, true_and, and_false, false_and, ↓gv_e, g1, g2, gnl, Nat.reduceAdd, Nat.add_zero, reduceCtorEq, p0, p0', p1, p1', p2, p2', p3, p3', p4, p5, a6]
      simp only [p4] at p1 p1' p2 p2'
      simp (disch := omega) only [neg1, li_0, li_1, li_2, li_3, li_4, li_5, li_6, li_7, li_8, li_9, li_10, li_11, li_12, li_13, li_14, li_15, li_16, li_20, li_23, li_24, li_26, li_29, li_30, li_36, li_39, li_40, li_42, li_43, li_47, li_48, li_49, li_50, li_53, li_57, li_58, li_59, li_60, li_61, li_62, li_64, li_68, li_71, li_72, li_74, li_80, li_86, li_92, li_93, li_94, li_95, li_96, li_97, li_98, li_99, li_100, li_104, li_108, li_110, li_115, li_116, li_160, li_200, li_220, li_300, li_9999, nI_add, nI_mul, p_clamp, p_le, p_lt, p_eq, p_m1lt, p_m1eq, p_m1ge, p_eqm1, i_clamp, p_leT, p_leF, p_ltT, p_ltF, p_eqT, p_eqF, or_self, or_false, false_or, or_true, true_or, not_false_eq_true, not_true_eq_false, ↓reduceIte, and_self, and_true, true_and, and_false, false_and, ↓gv_e, g1, g2, gnl, Nat.reduceAdd, Nat.add_zero, reduceCtorEq, p2, p2']
    · simp only [p4] at p1 p1' p2 p2'
      simp (disch := omega) only [neg1, li_0, li_1, li_2, li_3, li_4, li_5, li_6, li_7, li_8, li_9, li_10, li_11, li_12, li_13, li_14, li_15, li_16, li_20, li_23, li_24, li_26, li_29, li_30, li_36, li_39, li_40, li_42, li_43, li_47, li_48, li_49, li_50, li_53, li_57, li_58, li_59, li_60, li_61, li_62, li_64, li_68, li_71, li_72, li_74, li_80, li_86, li_92, li_93, li_94, li_95, li_96, li_97, li_98, li_99, li_100, li_104, li_108, li_110, li_115, li_116, li_160, li_200, li_220, li_300, li_9999, nI_add, nI_mul, p_clamp, p_le, p_lt, p_eq, p_m1lt, p_m1eq, p_m1ge, p_eqm1, i_clamp, p_leT, p_leF, p_ltT, p_ltF, p_eqT, p_eqF, or_self, or_false, false_or, or_true, true_or, not_false_eq_true, not_true_eq_false, ↓reduceIte, and_self, and_true, true_and, and_false, false_and, ↓gv_e, g1, g2, gnl, Nat.reduceAdd, Nat.add_zero, reduceCtorEq, p0, p0', p1, p1', p2, p2', p3, p3', p4, p5, a6]
  · have p4' : nI (gC g t) - nI 1 = nI (gC g t - 1) := nI_sub (by omega)
    have a7 := c_cubesAt hq' (c := gC g t - 1) (by omega)
    have p4'' : ¬ gC g t ≤ 0 := by omega
    by_cases p6 : cub g t (gC g t - 1) < nI q
    · have p6' := Int32.not_le.mpr p6
      simp (disch := omega) only [neg1, li_0, li_1, li_2, li_3, li_4, li_5, li_6, li_7, li_8, li_9, li_10, li_11, li_12, li_13, li_14, li_15, li_16, li_20, li_23, li_24, li_26, li_29, li_30, li_36, li_39, li_40, li_42, li_43, li_47, li_48, li_49, li_50, li_53, li_57, li_58, li_59, li_60, li_61, li_62, li_64, li_68, li_71, li_72, li_74, li_80, li_86, li_92, li_93, li_94, li_95, li_96, li_97, li_98, li_99, li_100, li_104, li_108, li_110, li_115, li_116, li_160, li_200, li_220, li_300, li_9999, nI_add, nI_mul, p_clamp, p_le, p_lt, p_eq, p_m1lt, p_m1eq, p_m1ge, p_eqm1, i_clamp, p_leT, p_leF, p_ltT, p_ltF, p_eqT, p_eqF, or_self, or_false, false_or, or_true, true_or, not_false_eq_true, not_true_eq_false, ↓reduceIte, and_self, and_true, true_and, and_false, false_and, ↓gv_e, g1, g2, gnl, Nat.reduceAdd, Nat.add_zero, reduceCtorEq, p0, p0', p1, p1', p2, p2', p3, p3', p4, p4', p4'', a7, p6, p6']
    · have p6' := Int32.not_lt.mp p6
      by_cases p5 : weak g t (g (30 + t)) (nI q) = m1
      · simp (disch := omega) only [neg1, li_0, li_1, li_2, li_3, li_4, li_5, li_6, li_7, li_8, li_9, li_10, li_11, li_12, li_13, li_14, li_15, li_16, li_20, li_23, li_24, li_26, li_29, li_30, li_36, li_39, li_40, li_42, li_43, li_47, li_48, li_49, li_50, li_53, li_57, li_58, li_59, li_60, li_61, li_62, li_64, li_68, li_71, li_72, li_74, li_80, li_86, li_92, li_93, li_94, li_95, li_96, li_97, li_98, li_99, li_100, li_104, li_108, li_110, li_115, li_116, li_160, li_200, li_220, li_300, li_9999, nI_add, nI_mul, p_clamp, p_le, p_lt, p_eq, p_m1lt, p_m1eq, p_m1ge, p_eqm1, i_clamp, p_leT, p_leF, p_ltT, p_ltF, p_eqT, p_eqF, or_self, or_false, false_or, or_true, true_or, not_false_eq_true, not_true_eq_false, ↓reduceIte, and_self, and_true, true_and, and_false, false_and, ↓gv_e, g1, g2, gnl, Nat.reduceAdd, Nat.add_zero, reduceCtorEq, p0, p0', p1, p1', p2, p2', p3, p3', p4, p4', p4'', a7, p6, p6', p5, a6, hq'.2.1]
      · simp (disch := omega) only [neg1, li_0, li_1, li_2, li_3, li_4, li_5, li_6, li_7, li_8, li_9, li_10, li_11, li_12, li_13, li_14, li_15, li_16, li_20, li_23, li_24, li_26, li_29, li_30, li_36, li_39, li_40, li_42, li_43, li_47, li_48, li_49, li_50, li_53, li_57, li_58, li_59, li_60, li_61, li_62, li_64, li_68, li_71, li_72, li_74, li_80, li_86, li_92, li_93, li_94, li_95, li_96, li_97, li_98, li_99, li_100, li_104, li_108, li_110, li_115, li_116, li_160, li_200, li_220, li_300, li_9999, nI_add, nI_mul, p_clamp, p_le, p_lt, p_eq, p_m1lt, p_m1eq, p_m1ge, p_eqm1, i_clamp, p_leT, p_leF, p_ltT, p_ltF, p_eqT, p_eqF, or_self, or_false, false_or, or_true, true_or, not_false_eq_true, not_true_eq_false, ↓reduceIte, and_self, and_true, true_and, and_false, false_and, ↓gv_e, g1, g2, gnl, Nat.reduceAdd, Nat.add_zero, reduceCtorEq, p0, p0', p1, p1', p2, p2', p3, p3', p4, p4', p4'', a7, p6, p6', p5, a6, hq'.2.1]
end

