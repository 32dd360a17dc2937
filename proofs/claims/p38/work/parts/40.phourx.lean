/-! THE PURE SIDE: an hour goes by, both sides -/
theorem mis_0 {w C : Nat} (hw : w < 1000) (hC : C < 1000) : ((if nI 0 ≤ nI w - nI C then nI w - nI C else nI 0) = nI 0) = (w ≤ C) := by
  apply propext
  by_cases q : C < w
  · rw [nI_sub (by omega), if_pos (show nI 0 ≤ nI (w - C) from nI_pos' (by omega)), p_eq (by omega) (by omega)]; omega
  · refine ⟨fun _ => by omega, fun _ => ?_⟩
    by_cases q2 : w = C
    · subst q2; rw [Int32.sub_self]; rfl
    · rw [if_neg]
      intro h
      rw [Int32.le_iff_toInt_le, Int32.toInt_sub, p_int (by omega), p_int (by omega), p_int (by omega), bm32] at h
      split at h <;> omega
theorem GB_eff {N X k : Nat} {g : Nat → Int32} (h : GB N g) (hc : ∃ c : Nat, g 1 = nI c ∧ c ≤ X) (hX : X + 200 ≤ 100 + 1200 * N) (hN : N ≤ 1000000) (hk : k < 6) : GB N (effG g k) ∧ ∃ c : Nat, effG g k 1 = nI c ∧ c ≤ X + 200 := by
  obtain ⟨c, hc1, hc2⟩ := hc
  unfold effG
  split
  · rename_i hh
    rcases b_atb h hk with q | ⟨n, q, q2⟩
    · exact absurd q hh.1
    · obtain ⟨b, hb1, hb2⟩ := b_brg h hk
      rw [q, i_clamp (by omega), hc1, hb1, nI_add]
      refine ⟨v_hld (v_dmp (v_crs (v_etn (v_got (v_coin h (by omega) (by omega)) _) _) (by omega) (by omega)) (by omega) (by omega)) _, c + b, ?_, by omega⟩
      simp (disch := omega) only [neg1, li_0, li_1, li_2, li_3, li_4, li_5, li_6, li_7, li_8, li_9, li_10, li_11, li_12, li_13, li_14, li_15, li_16, li_20, li_23, li_24, li_26, li_29, li_30, li_36, li_39, li_40, li_42, li_43, li_47, li_48, li_49, li_50, li_53, li_57, li_58, li_59, li_60, li_61, li_62, li_64, li_68, li_71, li_72, li_74, li_80, li_86, li_92, li_93, li_94, li_95, li_96, li_97, li_98, li_99, li_100, li_104, li_108, li_110, li_115, li_116, li_160, li_200, li_220, li_300, li_9999, nI_add, nI_mul, p_clamp, p_le, p_lt, p_eq, p_m1lt, p_m1eq, p_m1ge, p_eqm1, i_clamp, p_leT, p_leF, p_ltT, p_ltF, p_eqT, p_eqF, or_self, or_false, false_or, or_true, true_or, not_false_eq_true, not_true_eq_false, ↓reduceIte, and_self, and_true, true_and, and_false, false_and, ↓gv_e, g1, g2, gnl, Nat.reduceAdd, Nat.add_zero, reduceCtorEq, upd_ap]
  · exact ⟨v_spl h _, c, by rw [upd_ap, if_neg (by omega)]; exact hc1, by omega⟩
section
variable {m : gMem} {N : Nat}
theorem GB_hlG (hN : N ≤ 1000000) : ∀ (n k X : Nat) (g : Nat → Int32), k + n = iN (g 61) → GB N g → (∃ c : Nat, g 1 = nI c ∧ c ≤ X) → X + 200 * n ≤ 100 + 1200 * N → GB N (hlG k n g) := by
  intro n
  induction n with
  | zero =>
    intro k X g hk hb hc hX
    exact hb
  | succ n ih =>
    intro k X g hk hb hc hX
    obtain ⟨hB, h6⟩ := n_B hb
    rw [hlG]
    by_cases q : g (68 + k) = g 0
    · obtain ⟨g1', g2'⟩ := GB_eff hb hc (by omega) hN (k := k) (by omega)
      have e61 : effG g k 61 = g 61 := eff5_61 (wk5_of hb) (by omega)
      have h1 : drG (effG g k) k 1 = effG g k 1 := drG_o (by omega)
      rw [if_pos q]
      exact ih k (X + 200) (drG (effG g k) k) (by rw [dr_61 (by rw [e61]; exact h6), e61]; omega) (GB_drG g1' (by rw [e61]; omega)) (by rw [h1]; exact g2') (by omega)
    · rw [if_neg q]
      exact ih (k + 1) X g (by omega) hb hc (by omega)
end
/-- the bounds before the banquets of an hour -/
theorem GB_hr4 {N : Nat} {g : Nat → Int32} (hb : GB N g) (hN : N + 1 ≤ 1000000) : GB N (hr1 g) ∧ GB N (hr2 g) ∧ GB N (hr3 g) ∧ GB (N + 1) (hr4 g) ∧ hr4 g 61 = g 61 ∧ hr4 g 1 = g 1 := by
  obtain ⟨hW, h6⟩ := n_W hb
  obtain ⟨hT, h4⟩ := n_T hb
  obtain ⟨hr, e0, e0'⟩ := b_hour hb
  have hm : iN (g 0) % 24 < 24 := Nat.mod_lt _ (by decide)
  obtain ⟨p, hp, hp2⟩ := b_hum hb hm
  have b1 : GB N (hr1 g) := by unfold hr1; rw [hp, i_clamp (by omega)]; exact GB_dmpL hp2 _ _ _ hb (by omega)
  have b2 : GB N (hr2 g) := GB_brkS _ _ _ b1 (by omega)
  have b3 : GB N (hr3 g) := GB_rstL _ _ _ b2 (by omega)
  have e3 : hr3 g 0 = g 0 := by
    unfold hr3 hr2 hr1; rw [rstL_o _ _ _ (by omega), brkS_o _ _ _ (by omega) (by omega) (by omega), dmpL_o _ _ _ (by omega)]
  have e4 : hr3 g 61 = g 61 := by
    unfold hr3 hr2 hr1; rw [rstL_o _ _ _ (by omega), brkS_o _ _ _ (by omega) (by omega) (by omega), dmpL_o _ _ _ (by omega)]
  have e5 : hr3 g 1 = g 1 := by
    unfold hr3 hr2 hr1; rw [rstL_o _ _ _ (by omega), brkS_o _ _ _ (by omega) (by omega) (by omega), dmpL_o _ _ _ (by omega)]
  refine ⟨b1, b2, b3, ?_, ?_, ?_⟩
  · unfold hr4; rw [e3, e0, nI_add]; exact v_hour (GB_up b3 (by omega)) (by omega) (by omega)
  · unfold hr4; rw [upd_ap, if_neg (by omega)]; exact e4
  · unfold hr4; rw [upd_ap, if_neg (by omega)]; exact e5
theorem GB_hrG {N : Nat} {g : Nat → Int32} (hb : GB N g) (hN : N + 1 ≤ 1000000) : GB (N + 1) (hrG g) := by
  obtain ⟨-, -, -, b4, e61, e1⟩ := GB_hr4 hb hN
  obtain ⟨c, hc, hc2⟩ := b_coin hb
  have h6 := (n_B hb).2
  exact GB_hlG (N := N + 1) hN (iN (g 61)) 0 (100 + 1200 * N) (hr4 g) (by rw [e61]; omega) b4 ⟨c, by rw [e1]; exact hc, hc2⟩ (by omega)
def psS : Nat → (Nat → Int32) → (Nat → Int32)
  | 0, g => g
  | n + 1, g => psS n (hrG g)
def psA : Nat → Int32 → (Nat → Int32) → Int32
  | 0, a, _ => a
  | n + 1, a, g => psA n (a + hrA g (nI 0)) (hrG g)
theorem GB_psS : ∀ (n N : Nat) (g : Nat → Int32), GB N g → N + n ≤ 1000000 → GB (N + n) (psS n g) := by
  intro n
  induction n with
  | zero => intro N g h _; exact h
  | succ n ih =>
    intro N g h hN
    rw [psS, show N + (n + 1) = N + 1 + n by omega]
    exact ih (N + 1) _ (GB_hrG h (by omega)) (by omega)
