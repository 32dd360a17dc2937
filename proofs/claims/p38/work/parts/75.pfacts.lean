/-! THE PURE SIDE OF THE LAW: facts of rows -/
theorem gx0_e {α β : Type} {o : Option (Nat × α × gMem)} {k : α → gMem → Option β} {x : α} {s : gMem} (h : o = some (0, x, s)) : gx0 o k = k x s := by rw [h]; rfl
/-- a mask leaves a small number -/
theorem and_n (x : Int32) {m : Nat} (hm : m < 2147483648) : ∃ a, a ≤ m ∧ x &&& nI m = nI a := by
  refine ⟨x.toBitVec.toNat &&& m, Nat.and_le_right, ?_⟩
  apply Int32.toBitVec_inj.mp
  rw [Int32.toBitVec_and]
  apply BitVec.eq_of_toNat_eq
  have h0 : x.toBitVec.toNat &&& m ≤ m := Nat.and_le_right
  have h1 : (nI m).toBitVec.toNat = m := by show (BitVec.ofNat 32 m).toNat = m; rw [BitVec.toNat_ofNat]; omega
  have h2 : (nI (x.toBitVec.toNat &&& m)).toBitVec.toNat = x.toBitVec.toNat &&& m := by show (BitVec.ofNat 32 (x.toBitVec.toNat &&& m)).toNat = _; rw [BitVec.toNat_ofNat]; omega
  rw [BitVec.toNat_and, h1, h2]
/-- banquets have numbers of their own -/
def NB (M : Nat) (g : Nat → Int32) : Prop := ∃ b, b ≤ M ∧ g 92 = nI b ∧ ∀ k, k < iN (g 61) → ∃ j, j < b ∧ g (62 + k) = nI j
theorem NB_up {M M' : Nat} {g : Nat → Int32} (H : NB M g) (h : M ≤ M') : NB M' g := by
  obtain ⟨b, h1, h2⟩ := H
  exact ⟨b, by omega, h2⟩
theorem NB_same {M : Nat} {g g' : Nat → Int32} (H : NB M g) (h92 : g' 92 = g 92) (h61 : g' 61 = g 61) (hk : ∀ k, k < iN (g 61) → g' (62 + k) = g (62 + k)) : NB M g' := by
  obtain ⟨b, h1, h2, h3⟩ := H
  exact ⟨b, h1, h92.trans h2, fun k q => by
    rw [h61] at q
    rw [hk k q]
    exact h3 k q⟩
theorem NB_bnq {M B : Nat} {g : Nat → Int32} {u v x : Int32} (H : NB M g) (hB : iN (g 61) = B) (h6 : B < 6) : NB (M + 1) (bnqG g B u v x) ∧ bnqG g B u v x 61 = nI (B + 1) ∧ bnqG g B u v x (62 + B) = g 92 ∧ (∀ k, k < B → bnqG g B u v x (62 + k) = g (62 + k)) := by
  obtain ⟨b, h1, h2, h3⟩ := H
  have e92 : bnqG g B u v x 92 = g 92 + nI 1 := by unfold bnqG; simp only [upd_ap]; rw [if_pos trivial]
  have e61 : bnqG g B u v x 61 = nI (B + 1) := by unfold bnqG; simp only [upd_ap]; rw [if_neg (by omega), if_pos trivial]
  have eB : bnqG g B u v x (62 + B) = g 92 := by
    unfold bnqG; simp only [upd_ap]
    rw [if_neg (by omega), if_neg (by omega), if_neg (by omega), if_neg (by omega), if_neg (by omega), if_neg (by omega), if_pos trivial]
  have eo : ∀ k, k < B → bnqG g B u v x (62 + k) = g (62 + k) := fun k hk => by
    unfold bnqG; simp only [upd_ap]
    rw [if_neg (by omega), if_neg (by omega), if_neg (by omega), if_neg (by omega), if_neg (by omega), if_neg (by omega), if_neg (by omega)]
  refine ⟨⟨b + 1, by omega, by rw [e92, h2, nI_add], fun k hk => ?_⟩, e61, eB, eo⟩
  rw [e61, i_clamp (by omega)] at hk
  by_cases q : k = B
  · subst q
    exact ⟨b, by omega, by rw [eB, h2]⟩
  · rw [eo k (by omega)]
    obtain ⟨j, j1, j2⟩ := h3 k (by omega)
    exact ⟨j, by omega, j2⟩
theorem plc_hit {g : Nat → Int32} {b : Int32} : ∀ n k j, k ≤ j → j < k + n → g (62 + j) = b → ∃ i, k ≤ i ∧ i ≤ j ∧ plc g b k n = nI i := by
  intro n
  induction n with
  | zero => intro k j h1 h2; omega
  | succ n ih =>
    intro k j h1 h2 h3
    rw [plc]
    by_cases q : g (62 + k) = b
    · rw [if_pos q]; exact ⟨k, Nat.le_refl _, h1, rfl⟩
    · rw [if_neg q]
      have hne : j ≠ k := fun e => q (by rw [← e]; exact h3)
      obtain ⟨i, i1, i2, i3⟩ := ih (k + 1) j (by omega) (by omega) h3
      exact ⟨i, by omega, i2, i3⟩
theorem plc_uniq {g : Nat → Int32} {b : Int32} : ∀ n k j, k ≤ j → j < k + n → g (62 + j) = b → (∀ i, k ≤ i → i < j → g (62 + i) ≠ b) → plc g b k n = nI j := by
  intro n
  induction n with
  | zero => intro k j h1 h2; omega
  | succ n ih =>
    intro k j h1 h2 h3 h4
    rw [plc]
    by_cases q : j = k
    · subst q; rw [if_pos h3]
    · rw [if_neg (h4 k (Nat.le_refl _) (by omega))]
      exact ih (k + 1) j (by omega) (by omega) h3 (fun i q1 q2 => h4 i (by omega) q2)
/-- the new banquet is found -/
theorem plc_new {M B : Nat} {g : Nat → Int32} {u v x : Int32} (H : NB M g) (hM : M < 1000000) (hB : iN (g 61) = B) (h6 : B < 6) : plcN (bnqG g B u v x) (g 92) = nI B := by
  obtain ⟨-, e61, eB, eo⟩ := NB_bnq (u := u) (v := v) (x := x) H hB h6
  obtain ⟨b, h1, h2, h3⟩ := H
  unfold plcN
  rw [e61, i_clamp (by omega)]
  refine plc_uniq (B + 1) 0 B (by omega) (by omega) eB (fun i _ hi e => ?_)
  obtain ⟨j, j1, j2⟩ := h3 i (by omega)
  rw [eo i hi, j2, h2, p_eq (by omega) (by omega)] at e
  omega
/-! what hours leave -/
theorem hlG_o {j : Nat} (hj : j = 29 ∨ j = 48 ∨ j = 92) : ∀ (n k : Nat) (g : Nat → Int32), k + n = iN (g 61) → wk5 g → hlG k n g j = g j := by
  intro n
  induction n with
  | zero => intro k g _ _; rfl
  | succ n ih =>
    intro k g hk h
    rw [hlG]
    have h6 := h.2.1
    by_cases q : g (68 + k) = g 0
    · rw [if_pos q]
      have e61 := eff5_61 h (k := k) (by omega)
      have hr : iN (g (86 + k)) ≤ 5 := by
        have h4 : row g k 4 = g (86 + k) := by unfold row; rw [if_pos (by decide)]
        rcases h.2.2.1 k (by omega) with q4 | ⟨m, q4, q5⟩
        · rw [h4] at q4; rw [q4]; decide +kernel
        · rw [h4] at q4; rw [q4, i_clamp (by omega)]; exact q5
      rw [ih k _ (by rw [dr_61 (by rw [e61]; exact h6), e61]; omega) (wk5_dr (wk5_eff h (by omega))), drG_o (by omega), effG_o (by omega) (by omega) (by omega) (by omega) (by omega) (by omega) (by omega)]
    · rw [if_neg q]
      exact ih (k + 1) g (by omega) h
theorem hr4_o {N j : Nat} {g : Nat → Int32} (hb : GB N g) (hj : j = 29 ∨ j = 48 ∨ j = 92 ∨ (61 ≤ j ∧ j < 68)) : hr4 g j = g j := by
  have hW := (n_W hb).2
  have hT := (n_T hb).2
  unfold hr4 hr3 hr2 hr1
  rw [upd_ap, if_neg (by omega), rstL_o _ _ _ (by omega), brkS_o _ _ _ (by omega) (by omega) (by omega), dmpL_o _ _ _ (by omega)]
theorem hrG_o {N j : Nat} {g : Nat → Int32} (hb : GB N g) (hN : N + 1 ≤ 1000000) (hj : j = 29 ∨ j = 48 ∨ j = 92) : hrG g j = g j := by
  obtain ⟨-, -, -, b4, e61, -⟩ := GB_hr4 hb hN
  unfold hrG
  rw [hlG_o hj _ _ _ (by rw [e61]; omega) (wk5_of b4), hr4_o hb (by omega)]
theorem NB_hrG {N M : Nat} {g : Nat → Int32} (hb : GB N g) (hN : N + 1 ≤ 1000000) (H : NB M g) : NB M (hrG g) := by
  obtain ⟨b, h1, h2, h3⟩ := H
  obtain ⟨-, -, -, b4, e61, -⟩ := GB_hr4 hb hN
  refine ⟨b, h1, by rw [hrG_o hb hN (by omega)]; exact h2, fun k hk => ?_⟩
  obtain ⟨-, r2, -⟩ := hl_rows (iN (g 61)) 0 (hr4 g) (by rw [e61]; omega) (wk5_of b4)
  have hm : row (hrG g) k ∈ rows (hlG 0 (iN (g 61)) (hr4 g)) := List.mem_of_getElem? (rows_get hk)
  rw [r2] at hm
  have hm2 : row (hrG g) k ∈ rows (hr4 g) := by
    rcases List.mem_append.mp hm with q | q
    · exact List.mem_of_mem_take q
    · exact List.mem_of_mem_drop (List.mem_filter.mp q).1
  obtain ⟨i, hi⟩ := List.getElem?_of_mem hm2
  have hl : i < iN (hr4 g 61) := by
    have := (List.getElem?_eq_some_iff.mp hi).1
    rw [rows_len] at this
    exact this
  rw [rows_get hl] at hi
  have e := congrFun (Option.some.inj hi) 0
  have c0 : ∀ (G : Nat → Int32) (K : Nat), row G K 0 = G (62 + K) := fun G K => by unfold row; rw [if_pos (by decide)]
  rw [c0, c0] at e
  rw [← e, hr4_o hb (by have := (n_B hb).2; rw [e61] at hl; omega)]
  rw [e61] at hl
  exact h3 i hl
theorem psS_keep : ∀ (n N M : Nat) (g : Nat → Int32), GI N g → N + n ≤ 1000000 → NB M g → psS n g 29 = g 29 ∧ psS n g 48 = g 48 ∧ NB M (psS n g) := by
  intro n
  induction n with
  | zero => intro N M g _ _ h; exact ⟨rfl, rfl, h⟩
  | succ n ih =>
    intro N M g hg hN h
    have hb := hg.1
    obtain ⟨e1, e2, e3⟩ := ih (N + 1) M (hrG g) (GI_hour hg (by omega)) (by omega) (NB_hrG hb (by omega) h)
    rw [psS]
    exact ⟨by rw [e1, hrG_o hb (by omega) (by omega)], by rw [e2, hrG_o hb (by omega) (by omega)], e3⟩
/-- courses that break are a small number -/
theorem brkA_n {N : Nat} : ∀ (n t a : Nat) (g : Nat → Int32), GB N g → t + n ≤ 6 → a + 10 * n ≤ 1000000 → ∃ b, b ≤ a + 10 * n ∧ brkA t n (nI a) g = nI b := by
  intro n
  induction n with
  | zero => intro t a g _ _ _; exact ⟨a, by omega, rfl⟩
  | succ n ih =>
    intro t a g hb ht ha
    rw [brkA]
    have hb2 := GB_brk1 hb (t := t) (by omega)
    rcases weak_in g t (g (30 + t)) (nI 0) with q | ⟨j, j1, j2⟩
    · rw [if_pos q]
      obtain ⟨b, b1, b2⟩ := ih (t + 1) a _ hb2 (by omega) (by omega)
      exact ⟨b, by omega, b2⟩
    · have hC := (gC_of hb (t := t) (by omega)).2
      rw [j2, if_neg (nI_nm (by omega)), nI_sub (by omega), nI_add]
      obtain ⟨b, b1, b2⟩ := ih (t + 1) (a + (gC g t - j)) _ hb2 (by omega) (by omega)
      exact ⟨b, by omega, b2⟩
theorem psA_n : ∀ (n N a : Nat) (g : Nat → Int32), GI N g → N + n ≤ 1000000 → a + 60 * n ≤ 1000000 → ∃ b, b ≤ a + 60 * n ∧ psA n (nI a) g = nI b := by
  intro n
  induction n with
  | zero => intro N a g _ _ _; exact ⟨a, by omega, rfl⟩
  | succ n ih =>
    intro N a g hg hN ha
    have hW := (n_W hg.1).2
    obtain ⟨b1, -⟩ := GB_hr4 hg.1 (by omega : N + 1 ≤ 1000000)
    obtain ⟨c, c1, c2⟩ := brkA_n (N := N) (iN (g 29)) 0 0 (hr1 g) b1 (by omega) (by omega)
    have e : hrA g (nI 0) = nI c := c2
    rw [psA, e, nI_add]
    obtain ⟨b, b1, b2⟩ := ih (N + 1) (a + c) (hrG g) (GI_hour hg (by omega)) (by omega) (by omega)
    exact ⟨b, by omega, b2⟩
/-! what a course could have -/
theorem spr_iff {N t q : Nat} {g : Nat → Int32} (H : GA N g) (ht : t < 6) (hq : q ≤ 20) : ∃ s : Nat, spr g t 0 (gC g t) = nI s ∧ s ≤ 20 ∧ (s < q ↔ weak g t (g (30 + t)) (nI q) ≠ m1) := by
  obtain ⟨k4, k5⟩ := gC_of H.1.1 ht
  obtain ⟨d, hd, hd2⟩ := b_dmp H.1.1 ht
  have hw := nw_at k5 (H.2 t ht)
  have key : ∀ n i, i + n = gC g t → ∃ s : Nat, spr g t i n = nI s ∧ s ≤ 20 ∧ (s < q ↔ wk g t (g (30 + t)) (nI q) i n ≠ m1) := by
    intro n
    induction n with
    | zero => intro i _; exact ⟨20, rfl, Nat.le_refl _, fun h => absurd h (by omega), fun h => absurd rfl h⟩
    | succ n ih =>
      intro i hi
      obtain ⟨s, h1, h2, h9⟩ := ih (i + 1) (by omega)
      have hq2 := hw i (by omega)
      obtain ⟨b, h5, h6⟩ := bear_n H.1.1 ht (show i < 10 by omega) hd2
      obtain ⟨s1, h3, h4⟩ := sm_nat (f := fun j => cub g t j) (gC g t - (i + 1)) (i + 1) (fun j q1 q2 => b_cub H.1.1 ht (by omega))
      have h3 : ab g t i = nI s1 := h3
      rw [hd, h5, h3, nI_add, p_lt (by omega) (by omega)] at hq2
      rw [spr, wk]
      rw [hd] at h9 ⊢
      rw [h5, h3, nI_sub (by omega), h1, nI_add]
      have e1 : (nI b < nI (s1 + q)) = (b < s1 + q) := p_lt (by omega) (by omega)
      unfold mn
      by_cases c1 : b - s1 < s
      · rw [if_pos (by rw [p_lt (by omega) (by omega)]; exact c1)]
        refine ⟨b - s1, rfl, by omega, ?_⟩
        by_cases c2 : b < s1 + q
        · rw [if_pos (by rw [e1]; exact c2)]
          exact ⟨fun _ => nI_nm (by omega), fun _ => by omega⟩
        · rw [if_neg (by rw [e1]; exact c2)]
          exact ⟨fun h => by omega, fun h => by have := h9.mpr h; omega⟩
      · rw [if_neg (by rw [p_lt (by omega) (by omega)]; exact c1)]
        refine ⟨s, rfl, h2, ?_⟩
        by_cases c2 : b < s1 + q
        · rw [if_pos (by rw [e1]; exact c2)]
          exact ⟨fun _ => nI_nm (by omega), fun _ => by omega⟩
        · rw [if_neg (by rw [e1]; exact c2)]
          exact h9
  exact key (gC g t) 0 (by omega)
theorem wk_hit {g : Nat → Int32} {t w : Nat} {d more : Int32} (hw : w < 2147483648) : ∀ n c, c + n < 2147483648 → wk g t d more c n = nI w → c ≤ w ∧ w < c + n ∧ bear g t w d < ab g t w + more := by
  intro n
  induction n with
  | zero => intro c _ h; exact absurd h.symm (nI_nm hw)
  | succ n ih =>
    intro c hc h
    rw [wk] at h
    by_cases q : bear g t c d < ab g t c + more
    · rw [if_pos q, p_eq (by omega) (by omega)] at h
      subst h
      exact ⟨Nat.le_refl _, by omega, q⟩
    · rw [if_neg q] at h
      obtain ⟨h1, h2, h3⟩ := ih (c + 1) (by omega) h
      exact ⟨by omega, by omega, h3⟩
theorem CR_g {N cnt n : Nat} {σ : gMem} {g g' f t : Nat → Int32} {gs : Option (Nat → Int32)} (H : CR N σ g f cnt gs n t) (he : ∀ j, j < 220 → g' j = g j) : CR N σ g' f cnt gs n t := ⟨HQ_g H.1 he, H.2⟩
