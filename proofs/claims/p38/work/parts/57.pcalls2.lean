/-! THE PURE SIDE: calls that change, continued -/
section
variable {σ0 σ : gMem} {h N : Nat} {g : Nat → Int32}
/-- tongs, towers, banquets are added -/
def tonG (g : Nat → Int32) (T : Nat) (v : Int32) : Nat → Int32 := upd (upd g (49 + T) v) 48 (nI (T + 1))
def towG (g : Nat → Int32) (W : Nat) : Nat → Int32 := upd g 29 (nI (W + 1))
def bnqG (g : Nat → Int32) (B : Nat) (u v x : Int32) : Nat → Int32 := upd (upd (upd (upd (upd (upd (upd g (62 + B) (g 92)) (68 + B) u) (74 + B) v) (80 + B) x) (86 + B) m1) 61 (nI (B + 1))) 92 (g 92 + nI 1)
theorem c_addTongs (H : qF σ0 σ h g) (hh : HF h) (hb : GB N g) (hz : GZ g) {T : Nat} (hT : iN (g 48) = T) (h4 : T < 4) (v : Int32) : ∃ σ', f_X2_addTongs h v σ = some (nI T, σ') ∧ qF σ0 σ' h (tonG g T v) := by
  have e0 := e_T H hb
  rw [hT] at e0
  have z := hz.2.1 T h4 (by omega)
  have q1 := qL_w (k := 49 + T) (cell := (h + 4) + (3 + T)) (v := v) H (by omega) (by omega) (by omega) (lo_rch T h4) (by omega)
  have q2 := qL_s (k := 53 + T) (cell := (h + 4) + (3 + T)) (v := nI 0) q1 (by omega) (by omega) (by omega) (lo_bsy T h4) (by omega) (by rw [upd_ap, if_neg (by omega)]; exact z.1.symm)
  have q3 := qL_s (k := 57 + T) (cell := (h + 4) + (3 + T)) (v := nI 0) q2 (by omega) (by omega) (by omega) (lo_lad T h4) (by omega) (by rw [upd_ap, if_neg (by omega)]; exact z.2.symm)
  have q4 := qL_w (k := 48) (cell := h) (v := nI (T + 1)) q3 (by omega) (by omega) (by omega) lo_nT rfl
  have e1 : ms (ms (ms σ ((h + 4) + (3 + T)) 0 v) ((h + 4) + (3 + T)) 1 (nI 0)) ((h + 4) + (3 + T)) 2 (nI 0) h 6 = nI T := by rw [ms_cell (by omega), ms_cell (by omega), ms_cell (by omega)]; exact e0
  refine ⟨_, ?_, qL_mono q4 (fun k hk hL => ?_)⟩
  · unfold f_X2_addTongs f_X6_start
    simp (disch := omega) only [neg1, li_0, li_1, li_2, li_3, li_4, li_5, li_6, li_7, li_8, li_9, li_10, li_11, li_12, li_13, li_14, li_15, li_16, li_20, li_23, li_24, li_26, li_29, li_30, li_36, li_39, li_40, li_42, li_43, li_47, li_48, li_49, li_50, li_53, li_57, li_58, li_59, li_60, li_61, li_62, li_64, li_68, li_71, li_72, li_74, li_80, li_86, li_92, li_93, li_94, li_95, li_96, li_97, li_98, li_99, li_100, li_104, li_108, li_110, li_115, li_116, li_160, li_200, li_220, li_300, li_9999, nI_add, nI_mul, p_clamp, p_le, p_lt, p_eq, p_m1lt, p_m1eq, p_m1ge, p_eqm1, i_clamp, p_leT, p_leF, p_ltT, p_ltF, p_eqT, p_eqF, or_self, or_false, false_or, or_true, true_or, not_false_eq_true, not_true_eq_false, ↓reduceIte, and_self, and_true, true_and, and_false, false_and, ↓gv_e, g1, g2, gnl, Nat.reduceAdd, Nat.add_zero, reduceCtorEq, e0, hh.2.2.2.2.1, e1]
  · by_cases k1 : k = 48
    · exact Or.inr k1
    by_cases k2 : k = 57 + T
    · exact Or.inl (Or.inr k2)
    by_cases k3 : k = 53 + T
    · exact Or.inl (Or.inl (Or.inr k3))
    by_cases k4 : k = 49 + T
    · exact Or.inl (Or.inl (Or.inl (Or.inr k4)))
    refine Or.inl (Or.inl (Or.inl (Or.inl ?_)))
    have eo : ∀ j, j ≠ 48 → j ≠ 49 + T → upd (upd g (49 + T) v) 48 (nI (T + 1)) j = g j := fun j a b => by rw [upd_ap, if_neg a, upd_ap, if_neg b]
    unfold Lv at hL ⊢
    unfold tonG at hL
    rw [eo 29 (by omega) (by omega), eo 61 (by omega) (by omega), eo (36 + (k - 100) / 10 % 6) (by omega) (by omega), upd_ap, if_pos rfl, i_clamp (by omega)] at hL
    rw [hT]
    exact ⟨hL.1, hL.2.1, hL.2.2.1, fun a b => by have := hL.2.2.2.1 a b; omega, hL.2.2.2.2.1, hL.2.2.2.2.2⟩
theorem c_addTower (H : qF σ0 σ h g) (hh : HF h) (hb : GB N g) (hz : GZ g) {W : Nat} (hW : iN (g 29) = W) (h6 : W < 6) : ∃ σ', f_X2_addTower h σ = some (nI W, σ') ∧ qF σ0 σ' h (towG g W) := by
  have e0 := e_W H hb
  rw [hW] at e0
  have z := hz.1 W h6 (by omega)
  have q1 := qL_s (k := 36 + W) (cell := (h + 5) + (6 + 3 * W)) (v := nI 0) H (by omega) (by omega) (by omega) (lo_crs W h6) (by omega) z.2.1.symm
  have q2 := qL_s (k := 30 + W) (cell := (h + 5) + (6 + 3 * W)) (v := nI 0) q1 (by omega) (by omega) (by omega) (lo_dmp W h6) (by omega) z.1.symm
  have q3 := qL_s (k := 42 + W) (cell := (h + 5) + (6 + 3 * W)) (v := nI 0) q2 (by omega) (by omega) (by omega) (lo_brk W h6) (by omega) z.2.2.symm
  have q4 := qL_w (k := 29) (cell := h) (v := nI (W + 1)) q3 (by omega) (by omega) (by omega) lo_nW rfl
  have e1 : ms (ms (ms σ ((h + 5) + (6 + 3 * W)) 2 (nI 0)) ((h + 5) + (6 + 3 * W)) 3 (nI 0)) ((h + 5) + (6 + 3 * W)) 4 (nI 0) h 8 = nI W := by rw [ms_cell (by omega), ms_cell (by omega), ms_cell (by omega)]; exact e0
  refine ⟨_, ?_, qL_mono q4 (fun k hk hL => ?_)⟩
  · unfold f_X2_addTower f_X7_start
    simp (disch := omega) only [neg1, li_0, li_1, li_2, li_3, li_4, li_5, li_6, li_7, li_8, li_9, li_10, li_11, li_12, li_13, li_14, li_15, li_16, li_20, li_23, li_24, li_26, li_29, li_30, li_36, li_39, li_40, li_42, li_43, li_47, li_48, li_49, li_50, li_53, li_57, li_58, li_59, li_60, li_61, li_62, li_64, li_68, li_71, li_72, li_74, li_80, li_86, li_92, li_93, li_94, li_95, li_96, li_97, li_98, li_99, li_100, li_104, li_108, li_110, li_115, li_116, li_160, li_200, li_220, li_300, li_9999, nI_add, nI_mul, p_clamp, p_le, p_lt, p_eq, p_m1lt, p_m1eq, p_m1ge, p_eqm1, i_clamp, p_leT, p_leF, p_ltT, p_ltF, p_eqT, p_eqF, or_self, or_false, false_or, or_true, true_or, not_false_eq_true, not_true_eq_false, ↓reduceIte, and_self, and_true, true_and, and_false, false_and, ↓gv_e, g1, g2, gnl, Nat.reduceAdd, Nat.add_zero, reduceCtorEq, e0, hh.2.2.2.2.2.1, e1]
  · by_cases k1 : k = 29
    · exact Or.inr k1
    by_cases k2 : k = 42 + W
    · exact Or.inl (Or.inr k2)
    by_cases k3 : k = 30 + W
    · exact Or.inl (Or.inl (Or.inr k3))
    by_cases k4 : k = 36 + W
    · exact Or.inl (Or.inl (Or.inl (Or.inr k4)))
    refine Or.inl (Or.inl (Or.inl (Or.inl ?_)))
    have eo : ∀ j, j ≠ 29 → upd g 29 (nI (W + 1)) j = g j := fun j a => by rw [upd_ap, if_neg a]
    unfold Lv at hL ⊢
    unfold towG at hL
    rw [eo 48 (by omega), eo 61 (by omega), eo (36 + (k - 100) / 10 % 6) (by omega), upd_ap, if_pos rfl, i_clamp (by omega)] at hL
    rw [hW]
    refine ⟨hL.1, hL.2.1, fun a b => by have := hL.2.2.1 a b; omega, hL.2.2.2.1, hL.2.2.2.2.1, fun a => ?_⟩
    obtain ⟨b1, b2⟩ := hL.2.2.2.2.2 a
    refine ⟨?_, b2⟩
    by_cases e : (k - 100) / 10 % 6 = W
    · rw [e, z.2.1, i_clamp (by omega)] at b2
      omega
    · omega
theorem c_addBanquet (H : qF σ0 σ h g) (hh : HF h) (hb : GB N g) {B : Nat} (hB : iN (g 61) = B) (h6 : B < 6) (u v x : Int32) : ∃ σ', f_X2_addBanquet h u v x σ = some (g 92, σ') ∧ qF σ0 σ' h (bnqG g B u v x) := by
  have e0 := e_B H hb
  rw [hB] at e0
  have n0 := r_nxt H
  have q1 := qL_w (k := 62 + B) (cell := (h + 6) + (23 + B)) (v := g 92) H (by omega) (by omega) (by omega) (lo_num B h6) (by omega)
  have q2 := qL_w (k := 68 + B) (cell := (h + 6) + (23 + B)) (v := u) q1 (by omega) (by omega) (by omega) (lo_whn B h6) (by omega)
  have q3 := qL_w (k := 74 + B) (cell := (h + 6) + (23 + B)) (v := v) q2 (by omega) (by omega) (by omega) (lo_wnt B h6) (by omega)
  have q4 := qL_w (k := 80 + B) (cell := (h + 6) + (23 + B)) (v := x) q3 (by omega) (by omega) (by omega) (lo_brg B h6) (by omega)
  have q5 := qL_w (k := 86 + B) (cell := (h + 6) + (23 + B)) (v := m1) q4 (by omega) (by omega) (by omega) (lo_atb B h6) (by omega)
  have q6 := qL_w (k := 61) (cell := h) (v := nI (B + 1)) q5 (by omega) (by omega) (by omega) lo_nB rfl
  have q7 := qL_w (k := 92) (cell := h) (v := g 92 + nI 1) q6 (by omega) (by omega) (by omega) lo_nxt rfl
  obtain ⟨S, hS⟩ : ∃ S, S = ms (ms (ms (ms (ms σ ((h + 6) + (23 + B)) 0 (g 92)) ((h + 6) + (23 + B)) 1 u) ((h + 6) + (23 + B)) 2 v) ((h + 6) + (23 + B)) 3 x) ((h + 6) + (23 + B)) 4 m1 := ⟨_, rfl⟩
  have hSh : S h = σ h := by rw [hS, ms_cell (by omega), ms_cell (by omega), ms_cell (by omega), ms_cell (by omega), ms_cell (by omega)]
  have e1 : S h 10 = nI B := by rw [hSh]; exact e0
  have e2 : ms S h 10 (nI (B + 1)) h 11 = g 92 := by rw [ms_ap, if_neg (by omega), hSh]; exact n0
  rw [← hS] at q7
  refine ⟨_, ?_, qL_mono q7 (fun k hk hL => ?_)⟩
  · unfold f_X2_addBanquet f_X0_start
    simp (disch := omega) only [neg1, li_0, li_1, li_2, li_3, li_4, li_5, li_6, li_7, li_8, li_9, li_10, li_11, li_12, li_13, li_14, li_15, li_16, li_20, li_23, li_24, li_26, li_29, li_30, li_36, li_39, li_40, li_42, li_43, li_47, li_48, li_49, li_50, li_53, li_57, li_58, li_59, li_60, li_61, li_62, li_64, li_68, li_71, li_72, li_74, li_80, li_86, li_92, li_93, li_94, li_95, li_96, li_97, li_98, li_99, li_100, li_104, li_108, li_110, li_115, li_116, li_160, li_200, li_220, li_300, li_9999, nI_add, nI_mul, p_clamp, p_le, p_lt, p_eq, p_m1lt, p_m1eq, p_m1ge, p_eqm1, i_clamp, p_leT, p_leF, p_ltT, p_ltF, p_eqT, p_eqF, or_self, or_false, false_or, or_true, true_or, not_false_eq_true, not_true_eq_false, ↓reduceIte, and_self, and_true, true_and, and_false, false_and, ↓gv_e, g1, g2, gnl, Nat.reduceAdd, Nat.add_zero, reduceCtorEq, e0, hh.2.2.2.2.2.2.1, n0, ← hS, e1, e2]
  · by_cases k7 : k = 92
    · exact Or.inr k7
    by_cases k6 : k = 61
    · exact Or.inl (Or.inr k6)
    by_cases k5 : k = 86 + B
    · exact Or.inl (Or.inl (Or.inr k5))
    by_cases k4 : k = 80 + B
    · exact Or.inl (Or.inl (Or.inl (Or.inr k4)))
    by_cases k3 : k = 74 + B
    · exact Or.inl (Or.inl (Or.inl (Or.inl (Or.inr k3))))
    by_cases k2 : k = 68 + B
    · exact Or.inl (Or.inl (Or.inl (Or.inl (Or.inl (Or.inr k2)))))
    by_cases k1 : k = 62 + B
    · exact Or.inl (Or.inl (Or.inl (Or.inl (Or.inl (Or.inl (Or.inr k1))))))
    refine Or.inl (Or.inl (Or.inl (Or.inl (Or.inl (Or.inl (Or.inl ?_))))))
    have eo : ∀ j, j < 61 → bnqG g B u v x j = g j := fun j a => by
      unfold bnqG; simp only [upd_ap]; rw [if_neg (by omega), if_neg (by omega), if_neg (by omega), if_neg (by omega), if_neg (by omega), if_neg (by omega), if_neg (by omega)]
    have e61 : bnqG g B u v x 61 = nI (B + 1) := by unfold bnqG; rw [upd_ap, if_neg (by omega), upd_ap, if_pos rfl]
    have hL : Lv (bnqG g B u v x) k := hL
    unfold Lv at hL ⊢
    rw [eo 29 (by omega), eo 48 (by omega), eo (36 + (k - 100) / 10 % 6) (by omega), e61, i_clamp (by omega)] at hL
    rw [hB]
    exact ⟨hL.1, hL.2.1, hL.2.2.1, hL.2.2.2.1, fun a b => by have := hL.2.2.2.2.1 a b; omega, hL.2.2.2.2.2⟩
theorem GA_ton {T v : Nat} (H : GA N g) (hT : iN (g 48) = T) (h4 : T < 4) (hv : v ≤ 10) : GA N (tonG g T (nI v)) := by
  have eo : ∀ j, j ≠ 48 → j ≠ 49 + T → tonG g T (nI v) j = g j := fun j a b => by unfold tonG; rw [upd_ap, if_neg a, upd_ap, if_neg b]
  have e48 : tonG g T (nI v) 48 = nI (T + 1) := by unfold tonG; rw [upd_ap, if_pos rfl]
  refine ⟨⟨v_nT (v_rch H.1.1 h4 hv) (by omega), ⟨fun t h1 h2 => ?_, fun i h1 h2 => ?_, fun k h1 h2 => ?_⟩⟩, NW_keep H.1.1 H.2 (fun j hj q => eo j (by omega) (by omega))⟩
  · rw [eo 29 (by omega) (by omega)] at h2
    rw [eo _ (by omega) (by omega), eo _ (by omega) (by omega), eo _ (by omega) (by omega)]; exact H.1.2.1 t h1 h2
  · rw [e48, i_clamp (by omega)] at h2
    rw [eo _ (by omega) (by omega), eo _ (by omega) (by omega)]; exact H.1.2.2.1 i h1 (by omega)
  · rw [eo 61 (by omega) (by omega)] at h2
    rw [eo _ (by omega) (by omega)]; exact H.1.2.2.2 k h1 h2
theorem GA_tow {W : Nat} (H : GA N g) (hW : iN (g 29) = W) (h6 : W < 6) : GA N (towG g W) := by
  have eo : ∀ j, j ≠ 29 → towG g W j = g j := fun j a => by unfold towG; rw [upd_ap, if_neg a]
  have e29 : towG g W 29 = nI (W + 1) := by unfold towG; rw [upd_ap, if_pos rfl]
  refine ⟨⟨v_nW H.1.1 (by omega), ⟨fun t h1 h2 => ?_, fun i h1 h2 => ?_, fun k h1 h2 => ?_⟩⟩, NW_keep H.1.1 H.2 (fun j hj q => eo j (by omega))⟩
  · rw [e29, i_clamp (by omega)] at h2
    rw [eo _ (by omega), eo _ (by omega), eo _ (by omega)]; exact H.1.2.1 t h1 (by omega)
  · rw [eo 48 (by omega)] at h2
    rw [eo _ (by omega), eo _ (by omega)]; exact H.1.2.2.1 i h1 h2
  · rw [eo 61 (by omega)] at h2
    rw [eo _ (by omega)]; exact H.1.2.2.2 k h1 h2
theorem GA_bnq {B q r : Nat} {u : Int32} (H : GA N g) (hB : iN (g 61) = B) (h6 : B < 6) (hq0 : 1 ≤ q) (hq : q ≤ 10) (hr : r ≤ 200) : GA N (bnqG g B u (nI q) (nI r)) := by
  have eo : ∀ j, j < 61 ∨ 93 ≤ j → bnqG g B u (nI q) (nI r) j = g j := fun j a => by
    unfold bnqG; simp only [upd_ap]; rw [if_neg (by omega), if_neg (by omega), if_neg (by omega), if_neg (by omega), if_neg (by omega), if_neg (by omega), if_neg (by omega)]
  have e61 : bnqG g B u (nI q) (nI r) 61 = nI (B + 1) := by unfold bnqG; rw [upd_ap, if_neg (by omega), upd_ap, if_pos rfl]
  have e74 : ∀ k, k < 6 → bnqG g B u (nI q) (nI r) (74 + k) = if k = B then nI q else g (74 + k) := fun k hk => by
    unfold bnqG; simp only [upd_ap]; rw [if_neg (by omega), if_neg (by omega), if_neg (by omega), if_neg (by omega)]
    by_cases e : k = B
    · rw [if_pos (by omega), if_pos e]
    · rw [if_neg (by omega), if_neg (by omega), if_neg (by omega), if_neg e]
  refine ⟨⟨v_nxt (v_nB (v_atb (v_brg (v_wnt (v_whn (v_num H.1.1 h6 _) h6 _) h6 hq) h6 hr) h6 (by decide) (by decide)) (by omega)) _, ⟨fun t h1 h2 => ?_, fun i h1 h2 => ?_, fun k h1 h2 => ?_⟩⟩, NW_keep H.1.1 H.2 (fun j hj q => eo j (by omega))⟩
  · rw [eo 29 (by omega)] at h2
    rw [eo _ (by omega), eo _ (by omega), eo _ (by omega)]; exact H.1.2.1 t h1 h2
  · rw [eo 48 (by omega)] at h2
    rw [eo _ (by omega), eo _ (by omega)]; exact H.1.2.2.1 i h1 h2
  · rw [e61, i_clamp (by omega)] at h2
    rw [e74 k h1]
    by_cases e : k = B
    · rw [if_pos e, p_int (by omega)]; omega
    · rw [if_neg e]; exact H.1.2.2.2 k h1 (by omega)
theorem GA_hum {i v : Nat} (H : GA N g) (hi : i < 24) (hv : v ≤ 99) : GA N (upd g (2 + i) (nI v)) := by
  have eo : ∀ j, 26 ≤ j → upd g (2 + i) (nI v) j = g j := fun j h => by rw [upd_ap, if_neg (by omega)]
  refine ⟨⟨v_hum H.1.1 hi hv, ?_⟩, NW_keep H.1.1 H.2 (fun j hj h => eo _ (by omega))⟩
  exact GZ_g H.1.2 (eo _ (by omega)) (eo _ (by omega)) (eo _ (by omega)) (fun t' h1 h2 => ⟨eo _ (by omega), eo _ (by omega), eo _ (by omega)⟩) (fun i' h1 h2 => ⟨eo _ (by omega), eo _ (by omega)⟩) (fun k hk => eo _ (by omega))
theorem GA_dr {k : Nat} (H : GA N g) (hk : k < iN (g 61)) : GA N (drG g k) := ⟨⟨GB_drG H.1.1 hk, GZ_dr (n_B H.1.1).2 H.1.2⟩, NW_keep H.1.1 H.2 (fun j hj h => drG_o (by omega))⟩
end

