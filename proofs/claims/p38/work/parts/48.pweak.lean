/-! THE PURE SIDE: no tower is too weak between calls -/
def NW (g : Nat → Int32) : Prop := ∀ t, t < 6 → weak g t (g (30 + t)) (nI 0) = m1
theorem nI_nm {j : Nat} (h : j < 2147483648) : ¬ nI j = m1 := by rw [p_eqm1 h]; exact id
theorem wk_iff {g : Nat → Int32} {t : Nat} {d more : Int32} : ∀ n c, c + n < 2147483648 → (wk g t d more c n = m1 ↔ ∀ j, c ≤ j → j < c + n → ¬ bear g t j d < ab g t j + more) := by
  intro n
  induction n with
  | zero => intro c h; exact ⟨fun _ j h1 h2 => absurd h2 (by omega), fun _ => rfl⟩
  | succ n ih =>
    intro c h
    rw [wk]
    by_cases q : bear g t c d < ab g t c + more
    · rw [if_pos q]
      exact ⟨fun p => absurd p (nI_nm (by omega)), fun p => absurd q (p c (Nat.le_refl _) (by omega))⟩
    · rw [if_neg q, ih (c + 1) (by omega)]
      refine ⟨fun p j h1 h2 => ?_, fun p j h1 h2 => p j (by omega) (by omega)⟩
      by_cases e : j = c
      · subst e; exact q
      · exact p j (by omega) (by omega)
theorem wk_first {g : Nat → Int32} {t w : Nat} {d more : Int32} (hw : w < 2147483648) : ∀ n c, c + n < 2147483648 → wk g t d more c n = nI w → ∀ j, c ≤ j → j < w → ¬ bear g t j d < ab g t j + more := by
  intro n
  induction n with
  | zero => intro c h p; exact absurd p (fun e => nI_nm hw e.symm)
  | succ n ih =>
    intro c h p j h1 h2
    rw [wk] at p
    by_cases q : bear g t c d < ab g t c + more
    · rw [if_pos q, p_eq (by omega) hw] at p
      omega
    · rw [if_neg q] at p
      by_cases e : j = c
      · subst e; exact q
      · exact ih (c + 1) (by omega) p j (by omega) h2
theorem sm_nat {f : Nat → Int32} : ∀ n a, (∀ j, a ≤ j → j < a + n → ∃ k : Nat, f j = nI k ∧ k ≤ 20) → ∃ s : Nat, sm f a n = nI s ∧ s ≤ 20 * n := by
  intro n
  induction n with
  | zero => intro a _; exact ⟨0, rfl, Nat.le_refl _⟩
  | succ n ih =>
    intro a h
    obtain ⟨k, h1, h2⟩ := h a (Nat.le_refl _) (by omega)
    obtain ⟨s, h3, h4⟩ := ih (a + 1) (fun j q1 q2 => h j (by omega) (by omega))
    exact ⟨k + s, by rw [sm, h1, h3, nI_add], by omega⟩
theorem sm_app {f : Nat → Int32} : ∀ n a d, sm f a (n + d) = sm f a n + sm f (a + n) d := by
  intro n
  induction n with
  | zero => intro a d; rw [Nat.zero_add, sm, show nI 0 = 0 from rfl, Int32.zero_add]; rfl
  | succ n ih => intro a d; rw [show n + 1 + d = n + d + 1 by omega, sm, sm, ih, Int32.add_assoc, show a + 1 + n = a + (n + 1) by omega]
theorem str_n {r : Nat} : ∃ s : Nat, str (nI r) = nI s ∧ s ≤ 15 := by
  unfold str
  split
  · exact ⟨4, rfl, by decide⟩
  · split
    · exact ⟨8, rfl, by decide⟩
    · exact ⟨15, rfl, by decide⟩
theorem bear_n {N t c d : Nat} {g : Nat → Int32} (hb : GB N g) (ht : t < 6) (hc : c < 10) (hd : d ≤ 99) : ∃ b : Nat, bear g t c (nI d) = nI b ∧ b ≤ 300 := by
  obtain ⟨r, h1, h2⟩ := b_grd hb ht hc
  obtain ⟨k, h3, h4⟩ := b_cub hb ht hc
  obtain ⟨s, h5, h6⟩ := str_n (r := r)
  have e : nI d / nI 10 = nI (d / 10) := p_div (by omega) (by omega)
  have h1 : grd g t c = nI r := h1
  have h3 : cub g t c = nI k := h3
  unfold bear
  rw [h1, h5, e, h3]
  by_cases q : d / 10 ≤ s
  · rw [nI_sub q, if_pos (show nI 0 ≤ nI (s - d / 10) from nI_pos' (by omega)), nI_mul]
    refine ⟨_, rfl, ?_⟩
    exact Nat.le_trans (Nat.mul_le_mul (show s - d / 10 ≤ 15 by omega) h4) (by decide)
  · rw [if_neg]
    · exact ⟨0, rfl, by decide⟩
    · intro h
      rw [Int32.le_iff_toInt_le, Int32.toInt_sub, p_int (by omega), p_int (by omega), p_int (by omega), bm32] at h
      split at h <;> omega
/-- a lower tower of the same courses isn't weaker -/
theorem nw_cut {N t C' : Nat} {g g' : Nat → Int32} {d : Nat} (hb : GB N g) (ht : t < 6) (hd : d ≤ 99) (hC : gC g' t = C') (hC' : C' ≤ gC g t) (he : ∀ c, c < 10 → grd g' t c = grd g t c ∧ cub g' t c = cub g t c) (more : Nat) (hm : more ≤ 20) (hw : ∀ c, c < C' → ¬ bear g t c (nI d) < ab g t c + nI more) : weak g' t (nI d) (nI 0) = m1 := by
  have h10 := (gC_of hb ht).2
  unfold weak
  rw [wk_iff _ _ (by omega), hC]
  intro c _ hc
  have hb1 : bear g' t c (nI d) = bear g t c (nI d) := by unfold bear; rw [(he c (by omega)).1, (he c (by omega)).2]
  have ha1 : ab g' t c = sm (fun j => cub g t j) (c + 1) (C' - (c + 1)) := by
    unfold ab; rw [hC]; exact sm_congr _ _ (fun j h1 h2 => (he j (by omega)).2)
  have ha2 : ab g t c = sm (fun j => cub g t j) (c + 1) (C' - (c + 1)) + sm (fun j => cub g t j) (c + 1 + (C' - (c + 1))) (gC g t - C') := by
    unfold ab; rw [← sm_app]; congr 1; omega
  obtain ⟨s1, h1, h2⟩ := sm_nat (f := fun j => cub g t j) (C' - (c + 1)) (c + 1) (fun j q1 q2 => b_cub hb ht (by omega))
  obtain ⟨s2, h3, h4⟩ := sm_nat (f := fun j => cub g t j) (gC g t - C') (c + 1 + (C' - (c + 1))) (fun j q1 q2 => b_cub hb ht (by omega))
  obtain ⟨b, h5, h6⟩ := bear_n hb ht (show c < 10 by omega) hd
  have hq := hw c (by omega)
  rw [ha2, h1, h3, h5, nI_add, nI_add, p_lt (by omega) (by omega)] at hq
  rw [hb1, ha1, h1, h5, nI_add, p_lt (by omega) (by omega)]
  omega
theorem nw_at {g : Nat → Int32} {t : Nat} {d more : Int32} (h10 : gC g t ≤ 10) (h : weak g t d more = m1) : ∀ c, c < gC g t → ¬ bear g t c d < ab g t c + more := by
  unfold weak at h
  rw [wk_iff _ _ (by omega)] at h
  exact fun c hc => h c (Nat.zero_le _) (by omega)
theorem nw_same {N t : Nat} {g g' : Nat → Int32} (hb : GB N g) (ht : t < 6) (h0 : g' (30 + t) = g (30 + t)) (h1 : g' (36 + t) = g (36 + t)) (he : ∀ c, c < 10 → grd g' t c = grd g t c ∧ cub g' t c = cub g t c) (h : weak g t (g (30 + t)) (nI 0) = m1) : weak g' t (g' (30 + t)) (nI 0) = m1 := by
  have h10 := (gC_of hb ht).2
  obtain ⟨d, hd, hd2⟩ := b_dmp hb ht
  have hC : gC g' t = gC g t := by unfold gC; rw [h1]
  rw [h0, hd]
  rw [hd] at h
  exact nw_cut hb ht hd2 hC (Nat.le_refl _) he 0 (by omega) (nw_at h10 h)
theorem NW_keep {N : Nat} {g g' : Nat → Int32} (hb : GB N g) (H : NW g) (he : ∀ j, j < 220 → (30 ≤ j ∧ j < 42) ∨ 100 ≤ j → g' j = g j) : NW g' := fun t ht =>
  nw_same hb ht (he _ (by omega) (by omega)) (he _ (by omega) (by omega)) (fun c hc => ⟨he _ (by omega) (by omega), he _ (by omega) (by omega)⟩) (H t ht)
theorem NW_buy {N i q : Nat} {g : Nat → Int32} (hb : GB N g) (H : NW g) (hi : i < 3) : NW (buyG g i q) := NW_keep hb H (fun j hj h => by
  unfold buyG; simp only [upd_ap]; rw [if_neg (by omega), if_neg (by omega), if_neg (by omega), if_neg (by omega)])
theorem NW_lay {N t n i q : Nat} {g : Nat → Int32} (hb : GB N g) (H : NW g) (ht : t < 6) (hn : n < 4) (hi : i < 3) (hq : q ≤ 20) (hC : gC g t < 10) (hw : weak g t (g (30 + t)) (nI q) = m1) : NW (layG g t n i q) := by
  have eo : ∀ j, j ≠ 100 + 10 * t + gC g t → j ≠ 160 + 10 * t + gC g t → j ≠ 36 + t → j ≠ 26 + i → j ≠ 53 + n → j ≠ 57 + n → layG g t n i q j = g j := fun j h1 h2 h3 h4 h5 h6 => by
    unfold layG; simp only [upd_ap]; rw [if_neg h6, if_neg h5, if_neg h4, if_neg h3, if_neg h2, if_neg h1]
  intro t' ht'
  by_cases e : t' = t
  · subst e
    obtain ⟨d, hd, hd2⟩ := b_dmp hb ht
    have e30 : layG g t' n i q (30 + t') = nI d := by rw [eo _ (by omega) (by omega) (by omega) (by omega) (by omega) (by omega)]; exact hd
    have eC : gC (layG g t' n i q) t' = gC g t' + 1 := by
      unfold gC layG; simp only [upd_ap]
      rw [if_neg (by omega), if_neg (by omega), if_neg (by omega), if_pos trivial]
      show (nI (gC g t' + 1)).toNatClampNeg = _
      exact p_clamp (by omega)
    have ecub : cub (layG g t' n i q) t' (gC g t') = nI q := by
      unfold cub layG; simp only [upd_ap]
      rw [if_neg (by omega), if_neg (by omega), if_neg (by omega), if_neg (by omega), if_pos trivial]
    have he : ∀ c, c < gC g t' → grd (layG g t' n i q) t' c = grd g t' c ∧ cub (layG g t' n i q) t' c = cub g t' c := fun c hc =>
      ⟨eo _ (by omega) (by omega) (by omega) (by omega) (by omega) (by omega), eo _ (by omega) (by omega) (by omega) (by omega) (by omega) (by omega)⟩
    rw [hd] at hw
    have hw' := nw_at (by omega) hw
    rw [e30]
    unfold weak
    rw [wk_iff _ _ (by omega), eC]
    intro c _ hc
    by_cases ec : c = gC g t'
    · subst ec
      have ea : ab (layG g t' n i q) t' (gC g t') = nI 0 := by unfold ab; rw [eC, Nat.sub_self]; rfl
      rw [ea, show nI 0 + nI 0 = nI 0 from rfl]
      intro h
      have hbn : nI 0 ≤ bear (layG g t' n i q) t' (gC g t') (nI d) := by
        obtain ⟨s, h5, h6⟩ := str_n (r := i)
        have eg : grd (layG g t' n i q) t' (gC g t') = nI i := by
          unfold grd layG; simp only [upd_ap]
          rw [if_neg (by omega), if_neg (by omega), if_neg (by omega), if_neg (by omega), if_neg (by omega), if_pos trivial]
        have e2 : nI d / nI 10 = nI (d / 10) := p_div (by omega) (by omega)
        unfold bear
        rw [eg, h5, e2, ecub]
        by_cases q2 : d / 10 ≤ s
        · rw [nI_sub q2, if_pos (show nI 0 ≤ nI (s - d / 10) from nI_pos' (by omega)), nI_mul]
          have : (s - d / 10) * q ≤ 15 * 20 := Nat.mul_le_mul (by omega) hq
          exact nI_pos' (by omega)
        · split
          · rename_i h9
            rw [Int32.le_iff_toInt_le, Int32.toInt_sub, p_int (by omega), p_int (by omega), p_int (by omega), bm32] at h9
            split at h9 <;> omega
          · exact Int32.le_refl _
      exact absurd h (Int32.not_lt.mpr hbn)
    · have hb1 : bear (layG g t' n i q) t' c (nI d) = bear g t' c (nI d) := by unfold bear; rw [(he c (by omega)).1, (he c (by omega)).2]
      have ha1 : ab (layG g t' n i q) t' c = ab g t' c + nI q := by
        unfold ab
        rw [eC, show gC g t' + 1 - (c + 1) = (gC g t' - (c + 1)) + 1 by omega, sm_app]
        rw [sm_congr (f' := fun j => cub g t' j) _ _ (fun j h1 h2 => (he j (by omega)).2)]
        rw [show c + 1 + (gC g t' - (c + 1)) = gC g t' by omega, sm, sm, ecub, show nI 0 = 0 from rfl, Int32.add_zero]
      rw [hb1, ha1, show nI 0 = 0 from rfl, Int32.add_zero]
      exact hw' c (by omega)
  · exact nw_same hb ht' (eo _ (by omega) (by omega) (by omega) (by omega) (by omega) (by omega)) (eo _ (by omega) (by omega) (by omega) (by omega) (by omega) (by omega)) (fun c hc => ⟨eo _ (by omega) (by omega) (by omega) (by omega) (by omega) (by omega), eo _ (by omega) (by omega) (by omega) (by omega) (by omega) (by omega)⟩) (H t' ht')
theorem NW_take {N t : Nat} {g : Nat → Int32} (hb : GB N g) (H : NW g) (ht : t < 6) (hC : 0 < gC g t) : NW (takG g t) := by
  have h10 := (gC_of hb ht).2
  obtain ⟨r, hr, hr2⟩ := b_grd hb (t := t) (c := gC g t - 1) (by omega) (by omega)
  have hr : grd g t (gC g t - 1) = nI r := hr
  have eo : ∀ j, j ≠ 36 + t → j ≠ 26 + r → j ≠ 96 → takG g t j = g j := fun j h1 h2 h3 => by
    unfold takG; rw [hr, i_clamp (by omega)]; simp only [upd_ap]; rw [if_neg h3, if_neg h2, if_neg h1]
  intro t' ht'
  by_cases e : t' = t
  · subst e
    obtain ⟨d, hd, hd2⟩ := b_dmp hb ht
    have eC : gC (takG g t') t' = gC g t' - 1 := by
      unfold gC takG; rw [hr, i_clamp (by omega)]; simp only [upd_ap]
      rw [if_neg (by omega), if_neg (by omega), if_pos trivial]
      show (nI (gC g t' - 1)).toNatClampNeg = _
      exact p_clamp (by omega)
    rw [eo _ (by omega) (by omega) (by omega), hd]
    have h := H t' ht
    rw [hd] at h
    exact nw_cut hb ht hd2 eC (by omega) (fun c hc => ⟨eo _ (by omega) (by omega) (by omega), eo _ (by omega) (by omega) (by omega)⟩) 0 (by omega) (fun c hc => nw_at h10 h c (by omega))
  · exact nw_same hb ht' (eo _ (by omega) (by omega) (by omega)) (eo _ (by omega) (by omega) (by omega)) (fun c hc => ⟨eo _ (by omega) (by omega) (by omega), eo _ (by omega) (by omega) (by omega)⟩) (H t' ht')
/-- breaking mends -/
theorem nw_brk1 {N t : Nat} {g : Nat → Int32} (hb : GB N g) (ht : t < 6) : weak (brk1 g t) t (brk1 g t (30 + t)) (nI 0) = m1 := by
  have h10 := (gC_of hb ht).2
  obtain ⟨d, hd, hd2⟩ := b_dmp hb ht
  rcases weak_in g t (g (30 + t)) (nI 0) with q | ⟨w, q1, q2⟩
  · have e : brk1 g t = g := by unfold brk1; rw [if_pos q]
    rw [e]; exact q
  · have e : brk1 g t = brkG g t (nI w) := by unfold brk1; rw [if_neg (by rw [q2]; exact nI_nm (by omega)), q2]
    rw [e, brkG_o (by omega) (by omega) (by omega), hd]
    have eC : gC (brkG g t (nI w)) t = w := by
      unfold gC brkG; simp only [upd_ap]
      rw [if_neg (by omega), if_pos trivial]
      exact p_clamp (by omega)
    rw [hd] at q2
    exact nw_cut hb ht hd2 eC (by omega) (fun c hc => ⟨brkG_o (by omega) (by omega) (by omega), brkG_o (by omega) (by omega) (by omega)⟩) 0 (by omega) (fun c hc => wk_first (by omega) (gC g t) 0 (by omega) q2 c (Nat.zero_le _) hc)
theorem nw_brkS {N : Nat} : ∀ n t (g : Nat → Int32), GB N g → t + n ≤ 6 → (∀ t', t' < t → weak g t' (g (30 + t')) (nI 0) = m1) → ∀ t', t' < t + n → weak (brkS t n g) t' (brkS t n g (30 + t')) (nI 0) = m1 := by
  intro n
  induction n with
  | zero => intro t g _ _ h t' ht'; exact h t' ht'
  | succ n ih =>
    intro t g hb ht h t' ht'
    rw [brkS]
    refine ih (t + 1) (brk1 g t) (GB_brk1 hb (by omega)) (by omega) (fun t2 h2 => ?_) t' (by omega)
    by_cases e : t2 = t
    · subst e; exact nw_brk1 hb (by omega)
    · exact nw_same hb (show t2 < 6 by omega) (brk1_o (by omega) (by omega) (by omega)) (brk1_o (by omega) (by omega) (by omega)) (fun c hc => ⟨brk1_o (by omega) (by omega) (by omega), brk1_o (by omega) (by omega) (by omega)⟩) (h t2 (by omega))
theorem weak_0 {g : Nat → Int32} {t : Nat} {d : Int32} (h : gC g t = 0) : weak g t d (nI 0) = m1 := by unfold weak; rw [h]; rfl
theorem NW_hr4 {N : Nat} {g : Nat → Int32} (hb : GB N g) (hz : GZ g) (hN : N + 1 ≤ 1000000) : NW (hr4 g) := by
  obtain ⟨b1, b2, b3, b4, e61, e1⟩ := GB_hr4 hb hN
  have h6 := (n_W hb).2
  have h4 := (n_T hb).2
  have h2 : NW (hr2 g) := fun t ht => by
    by_cases q : t < iN (g 29)
    · exact nw_brkS (iN (g 29)) 0 (hr1 g) b1 (by omega) (fun t' h => absurd h (by omega)) t (by omega)
    · refine weak_0 ?_
      have : hr2 g (36 + t) = g (36 + t) := by unfold hr2 hr1; rw [brkS_o _ _ _ (by omega) (by omega) (by omega), dmpL_o _ _ _ (by omega)]
      unfold gC
      rw [this, (hz.1 t ht (by omega)).2.1]; exact p_clamp (by omega)
  exact NW_keep b2 h2 (fun j hj h => by unfold hr4 hr3; rw [upd_ap, if_neg (by omega), rstL_o _ _ _ (by omega)])
theorem NW_eff {N k : Nat} {g : Nat → Int32} (hb : GB N g) (H : NW g) (hk : k < 6) : NW (effG g k) := by
  have h5 : iN (g (86 + k)) ≤ 5 := by
    rcases b_atb hb hk with q | ⟨n, q, q2⟩
    · rw [q]; decide +kernel
    · rw [q, i_clamp (by omega)]; exact q2
  intro t ht
  by_cases q : g (86 + k) ≠ m1 ∧ mis g k = nI 0
  · by_cases e : t = iN (g (86 + k))
    · refine weak_0 ?_
      unfold effG gC
      rw [if_pos q]
      simp only [upd_ap]
      rw [if_neg (by omega), if_neg (by omega), if_pos (by omega)]
      exact p_clamp (by omega)
    · exact nw_same hb ht (effG_o (by omega) (by omega) (by omega) (by omega) (by omega) (by omega) (by omega)) (effG_o (by omega) (by omega) (by omega) (by omega) (by omega) (by omega) (by omega)) (fun c hc => ⟨effG_o (by omega) (by omega) (by omega) (by omega) (by omega) (by omega) (by omega), effG_o (by omega) (by omega) (by omega) (by omega) (by omega) (by omega) (by omega)⟩) (H t ht)
  · have e : effG g k = upd g 94 (g 94 + nI 1) := by unfold effG; rw [if_neg q]
    rw [e]
    exact NW_keep hb H (fun j hj h => by rw [upd_ap, if_neg (by omega)]) t ht
theorem NW_hlG {N : Nat} (hN : N ≤ 1000000) : ∀ (n k X : Nat) (g : Nat → Int32), k + n = iN (g 61) → GB N g → NW g → (∃ c : Nat, g 1 = nI c ∧ c ≤ X) → X + 200 * n ≤ 100 + 1200 * N → NW (hlG k n g) := by
  intro n
  induction n with
  | zero => intro k X g _ _ h _ _; exact h
  | succ n ih =>
    intro k X g hk hb hz hc hX
    have h6 := (n_B hb).2
    rw [hlG]
    by_cases q : g (68 + k) = g 0
    · rw [if_pos q]
      obtain ⟨g1', g2'⟩ := GB_eff hb hc (by omega) hN (k := k) (by omega)
      have e61 : effG g k 61 = g 61 := eff5_61 (wk5_of hb) (by omega)
      have h1 : drG (effG g k) k 1 = effG g k 1 := drG_o (by omega)
      exact ih k (X + 200) _ (by rw [dr_61 (by rw [e61]; exact h6), e61]; omega) (GB_drG g1' (by rw [e61]; omega)) (NW_keep g1' (NW_eff hb hz (by omega)) (fun j hj h => drG_o (by omega))) (by rw [h1]; exact g2') (by omega)
    · rw [if_neg q]
      exact ih (k + 1) X g (by omega) hb hz hc (by omega)
/-- all that holds of a hotel between calls -/
def GA (N : Nat) (g : Nat → Int32) : Prop := GI N g ∧ NW g
theorem GA_hour {N : Nat} {g : Nat → Int32} (H : GI N g) (hN : N + 1 ≤ 1000000) : GA (N + 1) (hrG g) := by
  refine ⟨GI_hour H hN, ?_⟩
  obtain ⟨-, -, -, b4, e61, e1⟩ := GB_hr4 H.1 hN
  obtain ⟨c, hc, hc2⟩ := b_coin H.1
  have h6 := (n_B H.1).2
  exact NW_hlG hN (iN (g 61)) 0 (100 + 1200 * N) (hr4 g) (by rw [e61]; omega) b4 (NW_hr4 H.1 H.2 hN) ⟨c, by rw [e1]; exact hc, hc2⟩ (by omega)
theorem GA_psS : ∀ (n N : Nat) (g : Nat → Int32), GA N g → N + n ≤ 1000000 → GA (N + n) (psS n g) := by
  intro n
  induction n with
  | zero => intro N g h _; exact h
  | succ n ih =>
    intro N g h hN
    rw [psS, show N + (n + 1) = N + 1 + n by omega]
    exact ih (N + 1) _ (GA_hour h.1 (by omega)) (by omega)
theorem GA_up {N N' : Nat} {g : Nat → Int32} (h : GA N g) (hN : N ≤ N') : GA N' g := ⟨⟨GB_up h.1.1 hN, h.1.2⟩, h.2⟩
theorem GA_g {N : Nat} {g g' : Nat → Int32} (h : GA N g) (he : ∀ j, j < 220 → g' j = g j) : GA N g' := by
  refine ⟨⟨fun k hk => by rw [he k hk]; exact h.1.1 k hk, ?_⟩, NW_keep h.1.1 h.2 (fun j hj _ => he j hj)⟩
  refine GZ_g h.1.2 (he _ (by omega)) (he _ (by omega)) (he _ (by omega)) (fun t h1 _ => ⟨he _ (by omega), he _ (by omega), he _ (by omega)⟩) (fun i h1 _ => ⟨he _ (by omega), he _ (by omega)⟩) (fun k hk => he _ (by omega))
theorem GA_buy {N i q : Nat} {g : Nat → Int32} (H : GA N g) (hN : N ≤ 1000000) (hi : i < 3) (hq : q ≤ 99) (h1 : ¬ nI 300 < g (26 + i) + nI q) (h2 : ¬ g 1 < nI (q * (i + 1))) : GA N (buyG g i q) := ⟨⟨GB_buy H.1.1 hN hi hq h1 h2, GZ_buy H.1.2 hi⟩, NW_buy H.1.1 H.2 hi⟩
theorem GA_lay {N t n i q : Nat} {g : Nat → Int32} (H : GA N g) (ht : t < iN (g 29)) (hn : n < iN (g 48)) (hi : i < 3) (hq : q ≤ 20) (hw : whyR g t n i q = nI 0) : GA N (layG g t n i q) := by
  obtain ⟨a1, a2, a3, a4, a5⟩ := whyR_10 hw
  have hW := (n_W H.1.1).2
  have hT := (n_T H.1.1).2
  obtain ⟨k4, k5⟩ := gC_of H.1.1 (t := t) (by omega)
  obtain ⟨s, hs, hs2⟩ := b_stk H.1.1 hi
  rw [hs, p_lt (by omega) (by omega)] at a4
  have eo : ∀ j, j ≠ 100 + 10 * t + gC g t → j ≠ 160 + 10 * t + gC g t → j ≠ 36 + t → j ≠ 26 + i → j ≠ 53 + n → j ≠ 57 + n → layG g t n i q j = g j := fun j h1 h2 h3 h4 h5 h6 => by
    unfold layG; simp only [upd_ap]; rw [if_neg h6, if_neg h5, if_neg h4, if_neg h3, if_neg h2, if_neg h1]
  refine ⟨⟨?_, ?_⟩, NW_lay H.1.1 H.2 (by omega) (by omega) hi hq (by omega) a5⟩
  · unfold layG
    rw [hs, nI_sub (by omega)]
    exact v_lad (v_bsy (v_stk (v_crs (v_cub (v_grd H.1.1 (by omega) (by omega) (by omega)) (by omega) (by omega) (by omega)) (by omega) (by omega)) hi (by omega)) (by omega) (by omega)) (by omega) _
  · exact GZ_g H.1.2 (eo _ (by omega) (by omega) (by omega) (by omega) (by omega) (by omega)) (eo _ (by omega) (by omega) (by omega) (by omega) (by omega) (by omega)) (eo _ (by omega) (by omega) (by omega) (by omega) (by omega) (by omega))
      (fun t' h1 h2 => ⟨eo _ (by omega) (by omega) (by omega) (by omega) (by omega) (by omega), eo _ (by omega) (by omega) (by omega) (by omega) (by omega) (by omega), eo _ (by omega) (by omega) (by omega) (by omega) (by omega) (by omega)⟩)
      (fun i' h1 h2 => ⟨eo _ (by omega) (by omega) (by omega) (by omega) (by omega) (by omega), eo _ (by omega) (by omega) (by omega) (by omega) (by omega) (by omega)⟩)
      (fun k hk => eo _ (by omega) (by omega) (by omega) (by omega) (by omega) (by omega))
theorem GA_take {N t : Nat} {g : Nat → Int32} (H : GA N g) (ht : t < iN (g 29)) (hC : 0 < gC g t) : GA N (takG g t) := by
  have hW := (n_W H.1.1).2
  obtain ⟨k4, k5⟩ := gC_of H.1.1 (t := t) (by omega)
  obtain ⟨r, hr, hr2⟩ := b_grd H.1.1 (t := t) (c := gC g t - 1) (by omega) (by omega)
  obtain ⟨k, hk, hk2⟩ := b_cub H.1.1 (t := t) (c := gC g t - 1) (by omega) (by omega)
  have hr : grd g t (gC g t - 1) = nI r := hr
  have hk : cub g t (gC g t - 1) = nI k := hk
  obtain ⟨s, hs, hs2⟩ := b_stk H.1.1 (i := r) (by omega)
  have hM : takM g t = if 300 < s + k then 300 - s else k := by
    unfold takM; rw [hr, i_clamp (by omega), hs, hk, i_clamp (by omega), i_clamp (by omega)]
  have hM2 : s + takM g t ≤ 300 := by rw [hM]; split <;> omega
  have eo : ∀ j, j ≠ 36 + t → j ≠ 26 + r → j ≠ 96 → takG g t j = g j := fun j h1 h2 h3 => by
    unfold takG; rw [hr, i_clamp (by omega)]; simp only [upd_ap]; rw [if_neg h3, if_neg h2, if_neg h1]
  refine ⟨⟨?_, ?_⟩, NW_take H.1.1 H.2 (by omega) hC⟩
  · unfold takG
    rw [hr, i_clamp (by omega), hs, nI_add]
    exact v_brn (v_stk (v_crs H.1.1 (by omega) (by omega)) (by omega) hM2) _
  · exact GZ_g H.1.2 (eo _ (by omega) (by omega) (by omega)) (eo _ (by omega) (by omega) (by omega)) (eo _ (by omega) (by omega) (by omega))
      (fun t' h1 h2 => ⟨eo _ (by omega) (by omega) (by omega), eo _ (by omega) (by omega) (by omega), eo _ (by omega) (by omega) (by omega)⟩)
      (fun i' h1 h2 => ⟨eo _ (by omega) (by omega) (by omega), eo _ (by omega) (by omega) (by omega)⟩)
      (fun k hk => eo _ (by omega) (by omega) (by omega))
theorem GA_show {N k t : Nat} {g : Nat → Int32} (H : GA N g) (hk : k < 6) (ht : t < 6) : GA N (upd g (86 + k) (nI t)) := by
  have eo : ∀ j, j ≠ 86 + k → upd g (86 + k) (nI t) j = g j := fun j h => by rw [upd_ap, if_neg h]
  refine ⟨⟨v_atb H.1.1 hk (by rw [p_int (by omega)]; omega) (by rw [p_int (by omega)]; omega), ?_⟩, NW_keep H.1.1 H.2 (fun j hj h => eo _ (by omega))⟩
  exact GZ_g H.1.2 (eo _ (by omega)) (eo _ (by omega)) (eo _ (by omega)) (fun t' h1 h2 => ⟨eo _ (by omega), eo _ (by omega), eo _ (by omega)⟩) (fun i' h1 h2 => ⟨eo _ (by omega), eo _ (by omega)⟩) (fun k hk => eo _ (by omega))
/-- what a tower has to spare isn't less than nothing -/
theorem spr_nn {N t : Nat} {g : Nat → Int32} (H : GA N g) (ht : t < 6) : ∃ s : Nat, spr g t 0 (gC g t) = nI s ∧ s ≤ 20 := by
  obtain ⟨k4, k5⟩ := gC_of H.1.1 ht
  obtain ⟨d, hd, hd2⟩ := b_dmp H.1.1 ht
  have hw := nw_at k5 (H.2 t ht)
  have key : ∀ n i, i + n = gC g t → ∃ s : Nat, spr g t i n = nI s ∧ s ≤ 20 := by
    intro n
    induction n with
    | zero => intro i _; exact ⟨20, rfl, Nat.le_refl _⟩
    | succ n ih =>
      intro i hi
      obtain ⟨s, h1, h2⟩ := ih (i + 1) (by omega)
      have hq := hw i (by omega)
      rw [hd] at hq
      obtain ⟨b, h5, h6⟩ := bear_n H.1.1 ht (show i < 10 by omega) hd2
      obtain ⟨s1, h3, h4⟩ := sm_nat (f := fun j => cub g t j) (gC g t - (i + 1)) (i + 1) (fun j q1 q2 => b_cub H.1.1 ht (by omega))
      have h3 : ab g t i = nI s1 := h3
      rw [h5, h3, nI_add, p_lt (by omega) (by omega)] at hq
      rw [spr, hd, h5, h3, nI_sub (by omega), h1]
      unfold mn
      by_cases q : b - s1 < s
      · rw [if_pos (by rw [p_lt (by omega) (by omega)]; exact q)]; exact ⟨_, rfl, by omega⟩
      · rw [if_neg (by rw [p_lt (by omega) (by omega)]; exact q)]; exact ⟨_, rfl, h2⟩
  exact key (gC g t) 0 (by omega)

