/-! THE PURE SIDE: an hour goes by, the class -/
theorem mis_n {g : Nat → Int32} {k n : Nat} (q : g (86 + k) = nI n) (q2 : n ≤ 5) : mis g k = if nI 0 ≤ g (74 + k) - g (36 + n) then g (74 + k) - g (36 + n) else nI 0 := by
  have hn : ¬ nI n = m1 := by rw [p_eqm1 (by omega)]; exact id
  unfold mis
  rw [q, if_neg (c := nI n = m1) hn, i_clamp (by omega)]
section
variable {σ0 : gMem} {h N : Nat}
theorem cy_dmp_L (hh : HF h) {p : Nat} (hp : p ≤ 99) : ∀ (n t fuel : Nat) (g : Nat → Int32) (σ : gMem), n < fuel → t + n = iN (g 29) → GB N g → qF σ0 σ h g → ∃ σ', L_X2_makeTowersDamp_8 h (nI p) fuel (nI t) σ = some ((), σ') ∧ qF σ0 σ' h (dmpL p t n g) := by
  intro n
  induction n with
  | zero =>
    intro t fuel g σ hf ht hb H
    obtain ⟨f, rfl⟩ : ∃ f, fuel = f + 1 := ⟨fuel - 1, by omega⟩
    have h6 := (n_W hb).2
    have e := e_W H hb
    refine ⟨σ, ?_, H⟩
    simp (disch := omega) only [neg1, li_0, li_1, li_2, li_3, li_4, li_5, li_6, li_7, li_8, li_9, li_10, li_11, li_12, li_13, li_14, li_15, li_16, li_20, li_23, li_24, li_26, li_29, li_30, li_36, li_39, li_40, li_42, li_43, li_47, li_48, li_49, li_50, li_53, li_57, li_58, li_59, li_60, li_61, li_62, li_64, li_68, li_71, li_72, li_74, li_80, li_86, li_92, li_93, li_94, li_95, li_96, li_97, li_98, li_99, li_100, li_104, li_108, li_110, li_115, li_116, li_160, li_200, li_220, li_300, li_9999, nI_add, nI_mul, p_clamp, p_le, p_lt, p_eq, p_m1lt, p_m1eq, p_m1ge, p_eqm1, i_clamp, p_leT, p_leF, p_ltT, p_ltF, p_eqT, p_eqF, or_self, or_false, false_or, or_true, true_or, not_false_eq_true, not_true_eq_false, ↓reduceIte, and_self, and_true, true_and, and_false, false_and, ↓gv_e, g1, g2, gnl, Nat.reduceAdd, Nat.add_zero, reduceCtorEq, L_X2_makeTowersDamp_8, e]
  | succ n ih =>
    intro t fuel g σ hf ht hb H
    obtain ⟨f, rfl⟩ : ∃ f, fuel = f + 1 := ⟨fuel - 1, by omega⟩
    have h6 := (n_W hb).2
    have e := e_W H hb
    obtain ⟨d, hd, hd2⟩ := b_dmp hb (t := t) (by omega)
    have e1 := r_dmp H (t := t) (by omega) (by omega)
    rw [hd] at e1
    have e2 := c_damp hd2 hp σ
    have h2 := w_dmp H (t := t) (by omega) (nI (dN d p))
    have eW : upd g (30 + t) (nI (dN d p)) 29 = g 29 := by rw [upd_ap, if_neg (by omega)]
    obtain ⟨σ', i1, i2⟩ := ih (t + 1) f (upd g (30 + t) (nI (dN d p))) _ (by omega) (by rw [eW]; omega) (v_dmp hb (by omega) (dN_le hd2)) h2
    refine ⟨σ', ?_, ?_⟩
    · simp (disch := omega) only [neg1, li_0, li_1, li_2, li_3, li_4, li_5, li_6, li_7, li_8, li_9, li_10, li_11, li_12, li_13, li_14, li_15, li_16, li_20, li_23, li_24, li_26, li_29, li_30, li_36, li_39, li_40, li_42, li_43, li_47, li_48, li_49, li_50, li_53, li_57, li_58, li_59, li_60, li_61, li_62, li_64, li_68, li_71, li_72, li_74, li_80, li_86, li_92, li_93, li_94, li_95, li_96, li_97, li_98, li_99, li_100, li_104, li_108, li_110, li_115, li_116, li_160, li_200, li_220, li_300, li_9999, nI_add, nI_mul, p_clamp, p_le, p_lt, p_eq, p_m1lt, p_m1eq, p_m1ge, p_eqm1, i_clamp, p_leT, p_leF, p_ltT, p_ltF, p_eqT, p_eqF, or_self, or_false, false_or, or_true, true_or, not_false_eq_true, not_true_eq_false, ↓reduceIte, and_self, and_true, true_and, and_false, false_and, ↓gv_e, g1, g2, gnl, Nat.reduceAdd, Nat.add_zero, reduceCtorEq, L_X2_makeTowersDamp_8, e, hh.2.2.2.2.2.1, e1, e2]
      exact i1
    · rw [dmpL, hd, i_clamp (by omega)]; exact i2
theorem cy_dmp (hh : HF h) {g : Nat → Int32} {σ : gMem} (hb : GB N g) (hN : N ≤ 1000000) (H : qF σ0 σ h g) : ∃ σ', f_X2_makeTowersDamp h σ = some ((), σ') ∧ qF σ0 σ' h (hr1 g) := by
  obtain ⟨hr, e0, e0'⟩ := b_hour hb
  have h6 := (n_W hb).2
  have hi0 : iN (g 0) = hr := by rw [e0]; exact i_clamp (by omega)
  have hm : hr % 24 < 24 := Nat.mod_lt _ (by decide)
  obtain ⟨p, hp, hp2⟩ := b_hum hb hm
  have e1 := c_hum H hh (k := 0) e0 (by omega)
  rw [Nat.add_zero, hp] at e1
  obtain ⟨σ', i1, i2⟩ := cy_dmp_L hh hp2 (iN (g 29)) 0 gF g σ (by unfold gF; omega) (by omega) hb H
  refine ⟨σ', ?_, ?_⟩
  · unfold f_X2_makeTowersDamp
    rw [li_0]
    exact (g1_e e1).trans i1
  · unfold hr1; rw [hi0, hp, i_clamp (by omega)]; exact i2
theorem cy_brk1 (hh : HF h) {g : Nat → Int32} {σ : gMem} {t w : Nat} (hb : GB N g) (H : qF σ0 σ h g) (ht : t < iN (g 29)) (hw : w < gC g t) : ∃ σ1 σ2, ms σ ((h + 5) + (6 + 3 * t)) 4 (g (42 + t) + (nI (gC g t) - nI w)) = σ1 ∧ f_X7_removeFrom ((h + 5) + (6 + 3 * t)) (nI w) σ1 = some (sm (fun j => cub g t j) w (gC g t - w), σ2) ∧ σ1 h 15 = g 96 ∧ qF σ0 (ms σ2 h 15 (g 96 + sm (fun j => cub g t j) w (gC g t - w))) h (brkG g t (nI w)) := by
  have h6 := (n_W hb).2
  obtain ⟨k4, k5⟩ := gC_of hb (t := t) (by omega)
  have h1 := w_brk H (t := t) (by omega) (g (42 + t) + (nI (gC g t) - nI w))
  have hb1 : GB N (upd g (42 + t) (g (42 + t) + (nI (gC g t) - nI w))) := v_brk hb (by omega) _
  have eo : ∀ j, j ≠ 42 + t → upd g (42 + t) (g (42 + t) + (nI (gC g t) - nI w)) j = g j := fun j hj => by rw [upd_ap, if_neg hj]
  have hT := TQ_of h1 hh hb1 (t := t) (by omega) (by rw [eo 29 (by omega)]; exact ht)
  have eC : gC (upd g (42 + t) (g (42 + t) + (nI (gC g t) - nI w))) t = gC g t := congrArg iN (eo _ (by omega))
  have e1 := c_remove hT (c := w) (by rw [eC]; exact hw)
  rw [eC] at e1
  have es : sm (fun j => cub (upd g (42 + t) (g (42 + t) + (nI (gC g t) - nI w))) t j) w (gC g t - w) = sm (fun j => cub g t j) w (gC g t - w) := sm_congr _ _ (fun j _ _ => eo _ (by omega))
  rw [es] at e1
  have h2 := w_crs h1 (t := t) (by omega) (nI w) (by rw [i_clamp (by omega)]; show w ≤ gC _ t; rw [eC]; omega)
  have h3 := w_brn h2 (g 96 + sm (fun j => cub g t j) w (gC g t - w))
  refine ⟨_, _, rfl, e1, ?_, qF_g h3 ?_⟩
  · rw [ms_cell (by omega)]; exact r_brn H
  · have e2 : cub g t w + ab g t w = sm (fun j => cub g t j) w (gC g t - w) := by
      rw [show gC g t - w = (gC g t - (w + 1)) + 1 by omega]; rfl
    unfold brkG
    rw [i_clamp (by omega), e2]
    intro j hj; simp only [upd_ap]; (repeat' split) <;> first | rfl | omega | (exfalso; omega)
theorem cy_brk_L (hh : HF h) : ∀ (n t fuel : Nat) (a : Int32) (g : Nat → Int32) (σ : gMem), n < fuel → t + n = iN (g 29) → GB N g → qF σ0 σ h g → ∃ σ', L_X2_breakWeakTowers_4 h fuel a (nI t) σ = some (brkA t n a g, σ') ∧ qF σ0 σ' h (brkS t n g) := by
  intro n
  induction n with
  | zero =>
    intro t fuel a g σ hf ht hb H
    obtain ⟨f, rfl⟩ : ∃ f, fuel = f + 1 := ⟨fuel - 1, by omega⟩
    have h6 := (n_W hb).2
    have e := e_W H hb
    refine ⟨σ, ?_, H⟩
    simp (disch := omega) only [neg1, li_0, li_1, li_2, li_3, li_4, li_5, li_6, li_7, li_8, li_9, li_10, li_11, li_12, li_13, li_14, li_15, li_16, li_20, li_23, li_24, li_26, li_29, li_30, li_36, li_39, li_40, li_42, li_43, li_47, li_48, li_49, li_50, li_53, li_57, li_58, li_59, li_60, li_61, li_62, li_64, li_68, li_71, li_72, li_74, li_80, li_86, li_92, li_93, li_94, li_95, li_96, li_97, li_98, li_99, li_100, li_104, li_108, li_110, li_115, li_116, li_160, li_200, li_220, li_300, li_9999, nI_add, nI_mul, p_clamp, p_le, p_lt, p_eq, p_m1lt, p_m1eq, p_m1ge, p_eqm1, i_clamp, p_leT, p_leF, p_ltT, p_ltF, p_eqT, p_eqF, or_self, or_false, false_or, or_true, true_or, not_false_eq_true, not_true_eq_false, ↓reduceIte, and_self, and_true, true_and, and_false, false_and, ↓gv_e, g1, g2, gnl, Nat.reduceAdd, Nat.add_zero, reduceCtorEq, L_X2_breakWeakTowers_4, e, brkA]
  | succ n ih =>
    intro t fuel a g σ hf ht hb H
    obtain ⟨f, rfl⟩ : ∃ f, fuel = f + 1 := ⟨fuel - 1, by omega⟩
    have h6 := (n_W hb).2
    have e := e_W H hb
    obtain ⟨k4, k5⟩ := gC_of hb (t := t) (by omega)
    have hT := TQ_of H hh hb (t := t) (by omega) (by omega)
    have e1 := r_dmp H (t := t) (by omega) (by omega)
    have e3 := r_crs H (t := t) (by omega) (by omega)
    have e4 := r_brk H (t := t) (by omega) (by omega)
    rw [k4] at e3
    have e2 := c_weak hT (g (30 + t)) (nI 0)
    have hb1 := GB_brk1 hb (t := t) (by omega)
    have eW : brk1 g t 29 = g 29 := brk1_o (by omega) (by omega) (by omega)
    rw [brkA, brkS]
    rcases weak_in g t (g (30 + t)) (nI 0) with q | ⟨w, q1, q2⟩
    · rw [if_pos q]
      have eb : brk1 g t = g := by unfold brk1; rw [if_pos q]
      rw [eb]
      rw [q] at e2
      obtain ⟨σ', i1, i2⟩ := ih (t + 1) f a g σ (by omega) (by omega) hb H
      refine ⟨σ', ?_, i2⟩
      simp (disch := omega) only [neg1, li_0, li_1, li_2, li_3, li_4, li_5, li_6, li_7, li_8, li_9, li_10, li_11, li_12, li_13, li_14, li_15, li_16, li_20, li_23, li_24, li_26, li_29, li_30, li_36, li_39, li_40, li_42, li_43, li_47, li_48, li_49, li_50, li_53, li_57, li_58, li_59, li_60, li_61, li_62, li_64, li_68, li_71, li_72, li_74, li_80, li_86, li_92, li_93, li_94, li_95, li_96, li_97, li_98, li_99, li_100, li_104, li_108, li_110, li_115, li_116, li_160, li_200, li_220, li_300, li_9999, nI_add, nI_mul, p_clamp, p_le, p_lt, p_eq, p_m1lt, p_m1eq, p_m1ge, p_eqm1, i_clamp, p_leT, p_leF, p_ltT, p_ltF, p_eqT, p_eqF, or_self, or_false, false_or, or_true, true_or, not_false_eq_true, not_true_eq_false, ↓reduceIte, and_self, and_true, true_and, and_false, false_and, ↓gv_e, g1, g2, gnl, Nat.reduceAdd, Nat.add_zero, reduceCtorEq, L_X2_breakWeakTowers_4, e, hh.2.2.2.2.2.1, e1, e2, i1]
    · rw [if_neg (by rw [q2, p_eqm1 (by omega)]; exact id)]
      have eb : brk1 g t = brkG g t (nI w) := by unfold brk1; rw [if_neg (by rw [q2, p_eqm1 (by omega)]; exact id), q2]
      rw [eb] at hb1 eW ⊢
      rw [q2] at e2 ⊢
      obtain ⟨σ1, σ2, s1, s2, s3, s4⟩ := cy_brk1 hh hb H (t := t) (w := w) (by omega) q1
      obtain ⟨σ', i1, i2⟩ := ih (t + 1) f (a + (nI (gC g t) - nI w)) (brkG g t (nI w)) _ (by omega) (by rw [eW]; omega) hb1 s4
      refine ⟨σ', ?_, i2⟩
      simp (disch := omega) only [neg1, li_0, li_1, li_2, li_3, li_4, li_5, li_6, li_7, li_8, li_9, li_10, li_11, li_12, li_13, li_14, li_15, li_16, li_20, li_23, li_24, li_26, li_29, li_30, li_36, li_39, li_40, li_42, li_43, li_47, li_48, li_49, li_50, li_53, li_57, li_58, li_59, li_60, li_61, li_62, li_64, li_68, li_71, li_72, li_74, li_80, li_86, li_92, li_93, li_94, li_95, li_96, li_97, li_98, li_99, li_100, li_104, li_108, li_110, li_115, li_116, li_160, li_200, li_220, li_300, li_9999, nI_add, nI_mul, p_clamp, p_le, p_lt, p_eq, p_m1lt, p_m1eq, p_m1ge, p_eqm1, i_clamp, p_leT, p_leF, p_ltT, p_ltF, p_eqT, p_eqF, or_self, or_false, false_or, or_true, true_or, not_false_eq_true, not_true_eq_false, ↓reduceIte, and_self, and_true, true_and, and_false, false_and, ↓gv_e, g1, g2, gnl, Nat.reduceAdd, Nat.add_zero, reduceCtorEq, L_X2_breakWeakTowers_4, e, hh.2.2.2.2.2.1, e1, e2, e3, e4, s1, s2, s3, i1]
theorem cy_brk (hh : HF h) {g : Nat → Int32} {σ : gMem} (hb : GB N g) (H : qF σ0 σ h g) : ∃ σ', f_X2_breakWeakTowers h σ = some (brkA 0 (iN (g 29)) (nI 0) g, σ') ∧ qF σ0 σ' h (brkS 0 (iN (g 29)) g) := by
  have h6 := (n_W hb).2
  unfold f_X2_breakWeakTowers
  rw [li_0]
  exact cy_brk_L hh _ 0 gF _ g σ (by unfold gF; omega) (by omega) hb H
theorem cy_rst_L (hh : HF h) : ∀ (n t fuel : Nat) (g : Nat → Int32) (σ : gMem), n < fuel → t + n = iN (g 48) → GB N g → qF σ0 σ h g → ∃ σ', L_X2_restTongs_2 h fuel (nI t) σ = some ((), σ') ∧ qF σ0 σ' h (rstL t n g) := by
  intro n
  induction n with
  | zero =>
    intro t fuel g σ hf ht hb H
    obtain ⟨f, rfl⟩ : ∃ f, fuel = f + 1 := ⟨fuel - 1, by omega⟩
    have h6 := (n_T hb).2
    have e := e_T H hb
    refine ⟨σ, ?_, H⟩
    simp (disch := omega) only [neg1, li_0, li_1, li_2, li_3, li_4, li_5, li_6, li_7, li_8, li_9, li_10, li_11, li_12, li_13, li_14, li_15, li_16, li_20, li_23, li_24, li_26, li_29, li_30, li_36, li_39, li_40, li_42, li_43, li_47, li_48, li_49, li_50, li_53, li_57, li_58, li_59, li_60, li_61, li_62, li_64, li_68, li_71, li_72, li_74, li_80, li_86, li_92, li_93, li_94, li_95, li_96, li_97, li_98, li_99, li_100, li_104, li_108, li_110, li_115, li_116, li_160, li_200, li_220, li_300, li_9999, nI_add, nI_mul, p_clamp, p_le, p_lt, p_eq, p_m1lt, p_m1eq, p_m1ge, p_eqm1, i_clamp, p_leT, p_leF, p_ltT, p_ltF, p_eqT, p_eqF, or_self, or_false, false_or, or_true, true_or, not_false_eq_true, not_true_eq_false, ↓reduceIte, and_self, and_true, true_and, and_false, false_and, ↓gv_e, g1, g2, gnl, Nat.reduceAdd, Nat.add_zero, reduceCtorEq, L_X2_restTongs_2, e]
  | succ n ih =>
    intro t fuel g σ hf ht hb H
    obtain ⟨f, rfl⟩ : ∃ f, fuel = f + 1 := ⟨fuel - 1, by omega⟩
    have h6 := (n_T hb).2
    have e := e_T H hb
    obtain ⟨d, hd, hd2⟩ := b_bsy hb (i := t) (by omega)
    have e1 := r_bsy H (i := t) (by omega) (by omega)
    rw [hd] at e1
    have h2 := w_bsy H (i := t) (by omega) (nI (d - 1))
    have eW : upd g (53 + t) (nI (d - 1)) 48 = g 48 := by rw [upd_ap, if_neg (by omega)]
    obtain ⟨σ', i1, i2⟩ := ih (t + 1) f (upd g (53 + t) (nI (d - 1))) _ (by omega) (by rw [eW]; omega) (v_bsy hb (by omega) (by omega)) h2
    have e9 : (if (0 : Int32) < nI d - 1 then nI d - 1 else (0 : Int32)) = nI (d - 1) := by
      rcases Nat.eq_zero_or_pos d with rfl | q
      · decide +kernel
      · rw [li_1, nI_sub (a := d) (b := 1) q]
        by_cases q2 : d - 1 = 0
        · rw [q2]; decide +kernel
        · rw [if_pos (show (0 : Int32) < nI (d - 1) by rw [li_0, p_lt (by omega) (by omega)]; omega)]
    refine ⟨σ', ?_, ?_⟩
    · rw [L_X2_restTongs_2, e, if_neg (by rw [p_le (by omega) (by omega)]; omega), if_neg (by rw [li_4, p_le (by omega) (by omega)]; omega), hh.2.2.2.2.1, if_pos (nI_in (by omega) (by omega)), p_clamp (by omega), e1, e9, li_1, nI_add]
      exact i1
    · rw [rstL, hd, i_clamp (by omega)]; exact i2
theorem cy_rst (hh : HF h) {g : Nat → Int32} {σ : gMem} (hb : GB N g) (H : qF σ0 σ h g) : ∃ σ', f_X2_restTongs h σ = some ((), σ') ∧ qF σ0 σ' h (rstL 0 (iN (g 48)) g) := by
  have h6 := (n_T hb).2
  unfold f_X2_restTongs
  rw [li_0]
  exact cy_rst_L hh _ 0 gF g σ (by unfold gF; omega) (by omega) hb H
/-- a banquet is held or spoilt -/
theorem cy_eff (hh : HF h) {g : Nat → Int32} {σ : gMem} {X k : Nat} (hb : GB N g) (hz : GZ g) (hc : ∃ c : Nat, g 1 = nI c ∧ c ≤ X) (hX : X + 200 ≤ 100 + 1200 * N) (hN : N ≤ 1000000) (H : qF σ0 σ h g) (hk : k < iN (g 61)) (f : Nat) (hd : g (68 + k) = g 0) : ∃ σ', L_X2_holdBanquets_2 h (f + 1) (nI k) σ = L_X2_holdBanquets_2 h f (nI (k + 1)) σ' ∧ qF σ0 σ' h (effG g k) := by
  have h6 := (n_B hb).2
  have hW := (n_W hb).2
  have e := e_B H hb
  have e1 := r_whn H (i := k) (by omega) hk
  have e2 := r_hour H
  have e3 := r_atb H (i := k) (by omega) hk
  have e4 := r_wnt H (i := k) (by omega) hk
  have e5 := r_brg H (i := k) (by omega) hk
  have e6 := r_spl H
  rw [hd] at e1
  have hs := w_spl H (g 94 + nI 1)
  obtain ⟨w, hw1, hw2⟩ := b_wnt hb (i := k) (by omega)
  have hw3 := hz.2.2 k (by omega) hk
  rw [hw1, p_int (by omega)] at hw3
  obtain ⟨c, hc1, hc2⟩ := hc
  rcases b_atb hb (i := k) (by omega) with q | ⟨n, q, q2⟩
  · have ee : effG g k = upd g 94 (g 94 + nI 1) := by unfold effG; rw [if_neg (fun p => p.1 q)]
    rw [ee]
    refine ⟨_, ?_, hs⟩
    have e7 := c_towerAtN H hb (u := m1) (Or.inl (by decide +kernel))
    rw [q] at e3
    simp (disch := omega) only [neg1, li_0, li_1, li_2, li_3, li_4, li_5, li_6, li_7, li_8, li_9, li_10, li_11, li_12, li_13, li_14, li_15, li_16, li_20, li_23, li_24, li_26, li_29, li_30, li_36, li_39, li_40, li_42, li_43, li_47, li_48, li_49, li_50, li_53, li_57, li_58, li_59, li_60, li_61, li_62, li_64, li_68, li_71, li_72, li_74, li_80, li_86, li_92, li_93, li_94, li_95, li_96, li_97, li_98, li_99, li_100, li_104, li_108, li_110, li_115, li_116, li_160, li_200, li_220, li_300, li_9999, nI_add, nI_mul, p_clamp, p_le, p_lt, p_eq, p_m1lt, p_m1eq, p_m1ge, p_eqm1, i_clamp, p_leT, p_leF, p_ltT, p_ltF, p_eqT, p_eqF, or_self, or_false, false_or, or_true, true_or, not_false_eq_true, not_true_eq_false, ↓reduceIte, and_self, and_true, true_and, and_false, false_and, ↓gv_e, g1, g2, gnl, Nat.reduceAdd, Nat.add_zero, reduceCtorEq, L_X2_holdBanquets_2, e, e1, e2, hh.2.2.2.2.2.2.1, e3, e7, e6]
  · rw [q] at e3
    by_cases q3 : n < iN (g 29)
    · have e7 := c_towerAt H hh hb q3
      have e8 := (hh.2.2.2.2.2.2.2.2.1 n (by omega)).1
      obtain ⟨k4, k5⟩ := gC_of hb (t := n) (by omega)
      have e9 := r_crs H (t := n) (by omega) q3
      rw [k4] at e9
      rw [hw1] at e4
      have hm : (mis g k = nI 0) = (w ≤ gC g n) := by
        rw [mis_n q q2, hw1, k4]
        exact mis_0 (by omega) (by omega)
      by_cases q4 : w ≤ gC g n
      · have ee : effG g k = upd (upd (upd (upd (upd (upd g 1 (g 1 + g (80 + k))) 98 (g 98 + g (80 + k))) 97 (g 97 + sm (fun j => cub g n j) 0 (gC g n))) (36 + n) (nI 0)) (30 + n) (nI 0)) 93 (g 93 + nI 1) := by
          unfold effG; rw [if_pos ⟨by rw [q]; intro p; rw [p_eqm1 (by omega)] at p; exact p, by rw [hm]; exact q4⟩, q, i_clamp (by omega)]
        rw [ee]
        obtain ⟨b, hb1, hb2⟩ := b_brg hb (i := k) (by omega)
        have h1 := w_hld H (g 93 + nI 1)
        have h2 := w_coin h1 (g 1 + g (80 + k))
        have h3 := w_got h2 (g 98 + g (80 + k))
        have hb3 : GB N (upd (upd (upd g 93 (g 93 + nI 1)) 1 (g 1 + g (80 + k))) 98 (g 98 + g (80 + k))) := by
          rw [hc1, hb1, nI_add]; exact v_got (v_coin (v_hld hb _) (by omega) (by omega)) _
        have eo : ∀ j, j ≠ 93 → j ≠ 1 → j ≠ 98 → upd (upd (upd g 93 (g 93 + nI 1)) 1 (g 1 + g (80 + k))) 98 (g 98 + g (80 + k)) j = g j := fun j p1 p2 p3 => by
          simp only [upd_ap]; rw [if_neg p3, if_neg p2, if_neg p1]
        have hT := TQ_of h3 hh hb3 (t := n) (by omega) (by rw [eo 29 (by omega) (by omega) (by omega)]; exact q3)
        have eC : gC (upd (upd (upd g 93 (g 93 + nI 1)) 1 (g 1 + g (80 + k))) 98 (g 98 + g (80 + k))) n = gC g n := congrArg iN (eo _ (by omega) (by omega) (by omega))
        have r1 := c_remove hT (c := 0) (by rw [eC]; omega)
        have es : sm (fun j => cub (upd (upd (upd g 93 (g 93 + nI 1)) 1 (g 1 + g (80 + k))) 98 (g 98 + g (80 + k))) n j) 0 (gC g n) = sm (fun j => cub g n j) 0 (gC g n) := sm_congr _ _ (fun j _ _ => eo _ (by omega) (by omega) (by omega))
        rw [eC, Nat.sub_zero, es] at r1
        have h4 := w_crs h3 (t := n) (by omega) (nI 0) (by rw [i_clamp (by omega)]; exact Nat.zero_le _)
        have h5 := w_etn h4 (g 97 + sm (fun j => cub g n j) 0 (gC g n))
        have h7 := w_dmp h5 (t := n) (by omega) (nI 0)
        have s1 : σ h 12 = g 93 := r_hld H
        have s2 : ms σ h 12 (g 93 + nI 1) h 1 = g 1 := by rw [ms_ap, if_neg (by omega)]; exact r_coin H
        have s3 : ms σ h 12 (g 93 + nI 1) ((h + 6) + (23 + k)) 3 = g (80 + k) := by rw [ms_cell (by omega)]; exact e5
        have s4 : ms (ms σ h 12 (g 93 + nI 1)) h 1 (g 1 + g (80 + k)) h 14 = g 98 := by rw [ms_ap, if_neg (by omega), ms_ap, if_neg (by omega)]; exact r_got H
        have s5 : ms (ms σ h 12 (g 93 + nI 1)) h 1 (g 1 + g (80 + k)) ((h + 6) + (23 + k)) 3 = g (80 + k) := by rw [ms_cell (by omega)]; exact s3
        have s6 : ms (ms (ms σ h 12 (g 93 + nI 1)) h 1 (g 1 + g (80 + k))) h 14 (g 98 + g (80 + k)) h 16 = g 97 := by rw [ms_ap, if_neg (by omega), ms_ap, if_neg (by omega), ms_ap, if_neg (by omega)]; exact r_etn H
        refine ⟨_, ?_, qF_g h7 ?_⟩
        · simp (disch := omega) only [neg1, li_0, li_1, li_2, li_3, li_4, li_5, li_6, li_7, li_8, li_9, li_10, li_11, li_12, li_13, li_14, li_15, li_16, li_20, li_23, li_24, li_26, li_29, li_30, li_36, li_39, li_40, li_42, li_43, li_47, li_48, li_49, li_50, li_53, li_57, li_58, li_59, li_60, li_61, li_62, li_64, li_68, li_71, li_72, li_74, li_80, li_86, li_92, li_93, li_94, li_95, li_96, li_97, li_98, li_99, li_100, li_104, li_108, li_110, li_115, li_116, li_160, li_200, li_220, li_300, li_9999, nI_add, nI_mul, p_clamp, p_le, p_lt, p_eq, p_m1lt, p_m1eq, p_m1ge, p_eqm1, i_clamp, p_leT, p_leF, p_ltT, p_ltF, p_eqT, p_eqF, or_self, or_false, false_or, or_true, true_or, not_false_eq_true, not_true_eq_false, ↓reduceIte, and_self, and_true, true_and, and_false, false_and, ↓gv_e, g1, g2, gnl, Nat.reduceAdd, Nat.add_zero, reduceCtorEq, L_X2_holdBanquets_2, e, e1, e2, hh.2.2.2.2.2.2.1, e3, e7, e8, e4, e9, s1, s2, s3, s4, s5, r1, s6]
        · intro j hj; simp only [upd_ap]; (repeat' split) <;> first | rfl | omega | (exfalso; omega)
      · have ee : effG g k = upd g 94 (g 94 + nI 1) := by unfold effG; rw [if_neg (fun p => by rw [hm] at p; exact q4 p.2)]
        rw [ee]
        refine ⟨_, ?_, hs⟩
        simp (disch := omega) only [neg1, li_0, li_1, li_2, li_3, li_4, li_5, li_6, li_7, li_8, li_9, li_10, li_11, li_12, li_13, li_14, li_15, li_16, li_20, li_23, li_24, li_26, li_29, li_30, li_36, li_39, li_40, li_42, li_43, li_47, li_48, li_49, li_50, li_53, li_57, li_58, li_59, li_60, li_61, li_62, li_64, li_68, li_71, li_72, li_74, li_80, li_86, li_92, li_93, li_94, li_95, li_96, li_97, li_98, li_99, li_100, li_104, li_108, li_110, li_115, li_116, li_160, li_200, li_220, li_300, li_9999, nI_add, nI_mul, p_clamp, p_le, p_lt, p_eq, p_m1lt, p_m1eq, p_m1ge, p_eqm1, i_clamp, p_leT, p_leF, p_ltT, p_ltF, p_eqT, p_eqF, or_self, or_false, false_or, or_true, true_or, not_false_eq_true, not_true_eq_false, ↓reduceIte, and_self, and_true, true_and, and_false, false_and, ↓gv_e, g1, g2, gnl, Nat.reduceAdd, Nat.add_zero, reduceCtorEq, L_X2_holdBanquets_2, e, e1, e2, hh.2.2.2.2.2.2.1, e3, e7, e8, e4, e9, e6]
    · have ee : effG g k = upd g 94 (g 94 + nI 1) := by
        unfold effG
        rw [if_neg (fun p => ?_)]
        have p2 := p.2
        rw [mis_n q q2, hw1, (hz.1 n (by omega) (by omega)).2.1, mis_0 (by omega) (by omega)] at p2
        omega
      rw [ee]
      refine ⟨_, ?_, hs⟩
      have e7 := c_towerAtN H hb (u := nI n) (Or.inr ⟨nI_pos' (by omega), nI_le (by omega) (by omega)⟩)
      simp (disch := omega) only [neg1, li_0, li_1, li_2, li_3, li_4, li_5, li_6, li_7, li_8, li_9, li_10, li_11, li_12, li_13, li_14, li_15, li_16, li_20, li_23, li_24, li_26, li_29, li_30, li_36, li_39, li_40, li_42, li_43, li_47, li_48, li_49, li_50, li_53, li_57, li_58, li_59, li_60, li_61, li_62, li_64, li_68, li_71, li_72, li_74, li_80, li_86, li_92, li_93, li_94, li_95, li_96, li_97, li_98, li_99, li_100, li_104, li_108, li_110, li_115, li_116, li_160, li_200, li_220, li_300, li_9999, nI_add, nI_mul, p_clamp, p_le, p_lt, p_eq, p_m1lt, p_m1eq, p_m1ge, p_eqm1, i_clamp, p_leT, p_leF, p_ltT, p_ltF, p_eqT, p_eqF, or_self, or_false, false_or, or_true, true_or, not_false_eq_true, not_true_eq_false, ↓reduceIte, and_self, and_true, true_and, and_false, false_and, ↓gv_e, g1, g2, gnl, Nat.reduceAdd, Nat.add_zero, reduceCtorEq, L_X2_holdBanquets_2, e, e1, e2, hh.2.2.2.2.2.2.1, e3, e7, e6]
end

