/-! THE PURE SIDE OF THE LAW: what is built -/
theorem g2_e {α β : Type} {d : β} {o : Option (Nat × α × gMem)} {k : α → gMem → Option (Nat × β × gMem)} {x : α} {s : gMem} (h : o = some (0, x, s)) : g2 d o k = k x s := by rw [h]; rfl
/-- a new row -/
def nwG (k : Nat) : Int32 := if k = 1 then nI 100 else if 2 ≤ k ∧ k < 26 then nI 45 else nI 0
def nwL (k : Nat) : Bool := k != 95 && k != 99 && !(decide (30 ≤ k) && decide (k < 48)) && !(decide (49 ≤ k) && decide (k < 61)) && !(decide (62 ≤ k) && decide (k < 92)) && decide (k < 100)
def nwM (m : gMem) : Bool := (List.range 100).all (fun k => !nwL k || m (1 + (lo k).1) (lo k).2 == nwG k) && m 4 0 == nI 0 && m 4 1 == nI 0 && m 4 2 == nI 0 && m 106 2 == nI 0 && m 106 1 == nI 0 && m 388 1 == nI 0
theorem i_9 : zS1.map (fun z => nwM z.2.2.2) = some true := by decide +kernel
theorem nwm_ok : nwM nwm = true := by
  have h1 := i_9
  unfold nwm
  cases e1 : zS1 with
  | none => rw [e1] at h1; cases h1
  | some z1 =>
    rw [e1] at h1
    simp only [Option.map_some, Option.some.injEq] at h1
    exact h1
theorem nw_GA : GA 0 nwG := ⟨⟨by unfold GB; decide +kernel, by unfold GZ; decide +kernel⟩, by unfold NW; decide +kernel⟩
theorem nw_bnd {k : Nat} {g : Nat → Int32} (hk : k < 220) (h29 : g 29 = nI 0) (h48 : g 48 = nI 0) (h61 : g 61 = nI 0) (h : Lv g k) : k < 100 ∧ nwL k = true := by
  unfold Lv at h
  rw [h29, h48, h61, i_clamp (by decide)] at h
  obtain ⟨h1, h2, h3, h4, h5, h6⟩ := h
  have h7 : k < 100 := by
    by_cases q : k < 100
    · exact q
    · exact absurd (h6 (by omega)).1 (by omega)
  refine ⟨h7, ?_⟩
  unfold nwL
  have a1 : ¬ (30 ≤ k ∧ k < 48) := fun q => by have := h3 q.1 q.2; omega
  have a2 : ¬ (49 ≤ k ∧ k < 61) := fun q => by have := h4 q.1 q.2; omega
  have a3 : ¬ (62 ≤ k ∧ k < 92) := fun q => by have := h5 q.1 q.2; omega
  simp only [Bool.and_eq_true, bne_iff_ne, ne_eq, Bool.not_eq_true', Bool.and_eq_false_iff, decide_eq_false_iff_not, decide_eq_true_eq]
  omega
theorem CR_new {m : gMem} {f t : Nat → Int32} (h : nwM m = true) : CR 0 m nwG f 0 none 0 t := by
  unfold nwM at h
  simp only [Bool.and_eq_true, List.all_eq_true, List.mem_range, beq_iff_eq, Bool.or_eq_true, Bool.not_eq_true'] at h
  obtain ⟨⟨⟨⟨⟨⟨a2, a3⟩, a4⟩, a5⟩, a9⟩, a10⟩, a11⟩ := h
  refine ⟨⟨⟨fun k hk hL => ?_, ?_, ?_⟩, nw_GA⟩, ⟨by decide, 0, by decide, a9, a10, fun k hk => absurd hk (by omega)⟩, (fun s hs => by cases hs), by decide, a11, fun j hj => absurd hj (by omega)⟩
  · obtain ⟨k1, k2⟩ := nw_bnd (g := nwG) hk rfl rfl rfl hL
    rcases a2 k k1 with q | q
    · rw [q] at k2; cases k2
    · exact q
  · show m 4 0 + m 4 1 + m 4 2 = nwG 95
    rw [a3, a4, a5]; decide
  · show m 4 0 + m 4 1 * 2 + m 4 2 * 3 = nwG 99
    rw [a3, a4, a5]; decide
/-- an object that is being built -/
def BR (N : Nat) (σ : gMem) (g : Nat → Int32) : Prop := ∃ f cnt t, CR N σ g f cnt none 0 t
/-- before the first coin is spent -/
def bz (W T : Nat) (g : Nat → Int32) : Prop := g 0 = nI 0 ∧ g 1 = nI 100 ∧ (∀ i, i < 3 → g (26 + i) = nI 0) ∧ g 29 = nI W ∧ g 48 = nI T ∧ g 61 = nI 0 ∧ g 92 = nI 0
section
variable {L : Nat} {xs : Nat → Int32}
theorem L16_ok {u2 : Int32} (K : Int32 → gMem → Option (Nat × Nat × gMem)) : ∀ (d y fuel : Nat) (σ : gMem) (g : Nat → Int32), d < fuel → y + d = 6 → BR 0 σ g → bz 0 0 g → ∃ σ' g', L_L_build_16 xs L 0 u2 K fuel (nI y) σ = K (nI 6) σ' ∧ BR 0 σ' g' ∧ bz 0 0 g' := by
  intro d
  induction d with
  | zero =>
    intro y fuel σ g hf hy H hz
    obtain ⟨f', rfl⟩ : ∃ x, fuel = x + 1 := ⟨fuel - 1, by omega⟩
    obtain rfl : y = 6 := by omega
    refine ⟨σ, g, ?_, H, hz⟩
    rw [L_L_build_16]
    exact if_pos (Int32.le_refl _)
  | succ d ih =>
    intro y fuel σ g hf hy H hz
    obtain ⟨f', rfl⟩ : ∃ x, fuel = x + 1 := ⟨fuel - 1, by omega⟩
    obtain ⟨f, cnt, t, H⟩ := H
    obtain ⟨a, a1, a2⟩ := and_n ((atv xs L (1 : Int32)) >>> (((5 : Int32) * nI y) &&& 31)) (m := 31) (by decide)
    obtain ⟨b, b1, b2⟩ := and_n ((atv xs L (2 : Int32)) >>> (((5 : Int32) * nI y) &&& 31)) (m := 31) (by decide)
    have x1 : (((atv xs L (1 : Int32)) >>> (((5 : Int32) * nI y) &&& 31)) &&& (31 : Int32)) - (((atv xs L (1 : Int32)) >>> (((5 : Int32) * nI y) &&& 31)) &&& (31 : Int32)) / (24 : Int32) * (24 : Int32) = nI (a % 24) := by
      rw [show ((atv xs L (1 : Int32)) >>> (((5 : Int32) * nI y) &&& 31)) &&& (31 : Int32) = nI a from a2]
      exact p_rem (by omega) (by decide)
    have x2 : (30 : Int32) + (((atv xs L (2 : Int32)) >>> (((5 : Int32) * nI y) &&& 31)) &&& (31 : Int32)) * (2 : Int32) = nI (30 + b * 2) := by
      rw [show ((atv xs L (2 : Int32)) >>> (((5 : Int32) * nI y) &&& 31)) &&& (31 : Int32) = nI b from b2, show nI b * (2 : Int32) = nI (b * 2) from nI_mul b 2]
      exact nI_add 30 _
    have hr : a % 24 < 24 := Nat.mod_lt _ (by decide)
    obtain ⟨σ1, e1, H1⟩ := d_humidity H (i := a % 24) (w := 30 + b * 2) hr (by omega)
    obtain ⟨z0, z1, z2, z3, z4, z5, z6⟩ := hz
    obtain ⟨σ', g', e2, H2, hz2⟩ := ih (y + 1) f' σ1 _ (by omega) (by omega) ⟨_, _, _, H1⟩ ⟨by rw [upd_ap, if_neg (by omega)]; exact z0, by rw [upd_ap, if_neg (by omega)]; exact z1, fun i hi => by rw [upd_ap, if_neg (by omega)]; exact z2 i hi, by rw [upd_ap, if_neg (by omega)]; exact z3, by rw [upd_ap, if_neg (by omega)]; exact z4, by rw [upd_ap, if_neg (by omega)]; exact z5, by rw [upd_ap, if_neg (by omega)]; exact z6⟩
    refine ⟨σ', g', ?_, H2, hz2⟩
    rw [L_L_build_16]
    refine (if_neg (show ¬ nI 6 ≤ nI y by rw [p_le (by omega) (by omega)]; omega)).trans ?_
    rw [x1, x2]
    refine (g2_e e1).trans ?_
    rw [gv_e, show nI y + (1 : Int32) = nI (y + 1) from nI_add y 1]
    exact e2
theorem L90_ok {u2 : Int32} (K : Int32 → gMem → Option (Nat × Nat × gMem)) : ∀ (d y fuel : Nat) (σ : gMem) (g : Nat → Int32), d < fuel → y + d = 3 → BR 0 σ g → bz y 2 g → ∃ σ' g', L_L_build_90 xs L 0 u2 K fuel (nI y) σ = K (nI 3) σ' ∧ BR 0 σ' g' ∧ bz 3 2 g' := by
  intro d
  induction d with
  | zero =>
    intro y fuel σ g hf hy H hz
    obtain ⟨f', rfl⟩ : ∃ x, fuel = x + 1 := ⟨fuel - 1, by omega⟩
    obtain rfl : y = 3 := by omega
    refine ⟨σ, g, ?_, H, hz⟩
    rw [L_L_build_90]
    exact if_pos (Int32.le_refl _)
  | succ d ih =>
    intro y fuel σ g hf hy H hz
    obtain ⟨f', rfl⟩ : ∃ x, fuel = x + 1 := ⟨fuel - 1, by omega⟩
    obtain ⟨f, cnt, t, H⟩ := H
    obtain ⟨z0, z1, z2, z3, z4, z5, z6⟩ := hz
    obtain ⟨σ1, e1, H1⟩ := d_tower H (W := y) (by rw [z3]; exact i_clamp (by omega)) (by omega)
    obtain ⟨σ', g', e2, H2, hz2⟩ := ih (y + 1) f' σ1 _ (by omega) (by omega) ⟨_, _, _, H1⟩ ⟨by unfold towG; rw [upd_ap, if_neg (by omega)]; exact z0, by unfold towG; rw [upd_ap, if_neg (by omega)]; exact z1, fun i hi => by unfold towG; rw [upd_ap, if_neg (by omega)]; exact z2 i hi, by unfold towG; rw [upd_ap, if_pos rfl], by unfold towG; rw [upd_ap, if_neg (by omega)]; exact z4, by unfold towG; rw [upd_ap, if_neg (by omega)]; exact z5, by unfold towG; rw [upd_ap, if_neg (by omega)]; exact z6⟩
    refine ⟨σ', g', ?_, H2, hz2⟩
    rw [L_L_build_90]
    refine (if_neg (show ¬ nI 3 ≤ nI y by rw [p_le (by omega) (by omega)]; omega)).trans ?_
    refine (g2_e e1).trans ?_
    rw [gv_e, show nI y + (1 : Int32) = nI (y + 1) from nI_add y 1]
    exact e2
/-! a round: what stays -/
def kp (g g' : Nat → Int32) : Prop := g' 29 = g 29 ∧ g' 48 = g 48 ∧ g' 61 = g 61 ∧ g' 92 = g 92 ∧ ∀ k, k < 6 → g' (62 + k) = g (62 + k)
theorem kp_rf {g : Nat → Int32} : kp g g := ⟨rfl, rfl, rfl, rfl, fun _ _ => rfl⟩
theorem kp_tr {g g1 g2 : Nat → Int32} (h1 : kp g g1) (h2 : kp g1 g2) : kp g g2 := ⟨h2.1.trans h1.1, h2.2.1.trans h1.2.1, h2.2.2.1.trans h1.2.2.1, h2.2.2.2.1.trans h1.2.2.2.1, fun k hk => (h2.2.2.2.2 k hk).trans (h1.2.2.2.2 k hk)⟩
theorem kp_NB {N M : Nat} {g g' : Nat → Int32} (hb : GB N g) (h : kp g g') (H : NB M g) : NB M g' := NB_same H h.2.2.2.1 h.2.2.1 (fun k hk => h.2.2.2.2 k (by have := (n_B hb).2; omega))
theorem r_lay {N : Nat} {σ : gMem} {g : Nat → Int32} (H : BR N σ g) {w k i q : Nat} (hw : w < iN (g 29)) (hk : k < iN (g 48)) (hi : i < 3) (hq1 : 1 ≤ q) (hq : q ≤ 20) : ∃ r σ' g', f_L_act 0 (0 : Int32) (nI w) (nI k) (nI i) (nI q) σ = some (r, σ') ∧ BR N σ' g' ∧ kp g g' := by
  obtain ⟨f, cnt, t, H⟩ := H
  have hW := (n_W (CR_B H)).2
  have hT := (n_T (CR_B H)).2
  by_cases r0 : whyR g w k i q = nI 0
  · obtain ⟨σ', e, H2⟩ := a_lay H hw hk hi hq1 hq r0
    have hC : gC g w ≠ 10 := (whyR_10 r0).1
    obtain ⟨hC1, hC2⟩ := gC_of (CR_B H) (t := w) (by omega)
    have ho : ∀ j, j = 29 ∨ j = 48 ∨ j = 61 ∨ j = 92 ∨ (62 ≤ j ∧ j < 68) → layG g w k i q j = g j := fun j hj => by
      unfold layG
      simp only [upd_ap]
      rw [if_neg (by omega), if_neg (by omega), if_neg (by omega), if_neg (by omega), if_neg (by omega), if_neg (by omega)]
    exact ⟨_, σ', _, e, ⟨_, _, _, H2⟩, ho 29 (by omega), ho 48 (by omega), ho 61 (by omega), ho 92 (by omega), fun k hk => ho _ (by omega)⟩
  · exact ⟨_, _, g, a_layN H hw hk hi hq1 hq r0, ⟨_, _, _, CR_ref H _ _⟩, kp_rf⟩
theorem r_take {N : Nat} {σ : gMem} {g : Nat → Int32} (H : BR N σ g) {w : Nat} (hw : w < iN (g 29)) : ∃ r σ' g', f_L_act 0 (1 : Int32) (nI w) (0 : Int32) (0 : Int32) (0 : Int32) σ = some (r, σ') ∧ BR N σ' g' ∧ kp g g' := by
  obtain ⟨f, cnt, t, H⟩ := H
  have hW := (n_W (CR_B H)).2
  by_cases r0 : gC g w = 0
  · exact ⟨_, _, g, a_takeN H hw r0 _ _ _, ⟨_, _, _, CR_ref H _ _⟩, kp_rf⟩
  · obtain ⟨σ', e, H2⟩ := a_take H hw (by omega) (0 : Int32) (0 : Int32) (0 : Int32)
    obtain ⟨hC1, hC2⟩ := gC_of (CR_B H) (t := w) (by omega)
    obtain ⟨c, hc, hc2⟩ := b_grd (CR_B H) (t := w) (c := gC g w - 1) (by omega) (by omega)
    have hgr : iN (grd g w (gC g w - 1)) = c := by rw [show grd g w (gC g w - 1) = nI c from hc]; exact i_clamp (by omega)
    have ho : ∀ j, j = 29 ∨ j = 48 ∨ j = 61 ∨ j = 92 ∨ (62 ≤ j ∧ j < 68) → takG g w j = g j := fun j hj => by
      unfold takG
      rw [hgr]
      simp only [upd_ap]
      rw [if_neg (by omega), if_neg (by omega), if_neg (by omega)]
    exact ⟨_, σ', _, e, ⟨_, _, _, H2⟩, ho 29 (by omega), ho 48 (by omega), ho 61 (by omega), ho 92 (by omega), fun k hk => ho _ (by omega)⟩
theorem buyG_o {g : Nat → Int32} {i q j : Nat} (hi : i < 3) (hj : j ≠ 1) (hj2 : j ≠ 99) (hj3 : j ≠ 95) (hj4 : j ≠ 26 + i) : buyG g i q j = g j := by
  unfold buyG
  simp only [upd_ap]
  rw [if_neg (by omega), if_neg (by omega), if_neg (by omega), if_neg (by omega)]
theorem r_buy {N : Nat} {σ : gMem} {g : Nat → Int32} (H : BR N σ g) (hN : N ≤ 1000000) {i q : Nat} (hi : i < 3) (hq1 : 1 ≤ q) (hq : q ≤ 99) : ∃ r σ' g', f_L_act 0 (2 : Int32) (nI i) (nI q) (0 : Int32) (0 : Int32) σ = some (r, σ') ∧ BR N σ' g' ∧ kp g g' := by
  obtain ⟨f, cnt, t, H⟩ := H
  by_cases r0 : byR g i q = nI 0
  · obtain ⟨σ', e, H2⟩ := a_buy H hN hi hq1 hq r0 (0 : Int32) (0 : Int32)
    have ho : ∀ j, j = 29 ∨ j = 48 ∨ j = 61 ∨ j = 92 ∨ (62 ≤ j ∧ j < 68) → buyG g i q j = g j := fun j hj => buyG_o hi (by omega) (by omega) (by omega) (by omega)
    exact ⟨_, σ', _, e, ⟨_, _, _, H2⟩, ho 29 (by omega), ho 48 (by omega), ho 61 (by omega), ho 92 (by omega), fun k hk => ho _ (by omega)⟩
  · exact ⟨_, _, g, a_buyN H hN hi hq1 hq r0 _ _, ⟨_, _, _, CR_ref H _ _⟩, kp_rf⟩
theorem L162_ok {N : Nat} (hN : N ≤ 1000000) {u3 u4 : Int32} (K : Int32 → gMem → Option (Nat × Nat × gMem)) : ∀ (d y fuel : Nat) (σ : gMem) (g : Nat → Int32), d < fuel → y + d = 2 → BR N σ g → g 29 = nI 3 → g 48 = nI 2 → ∃ σ' g', L_L_build_162 xs L 0 u3 u4 K fuel (nI y) σ = K (nI 2) σ' ∧ BR N σ' g' ∧ kp g g' := by
  intro d
  induction d with
  | zero =>
    intro y fuel σ g hf hy H h29 h48
    obtain ⟨f', rfl⟩ : ∃ x, fuel = x + 1 := ⟨fuel - 1, by omega⟩
    obtain rfl : y = 2 := by omega
    refine ⟨σ, g, ?_, H, kp_rf⟩
    rw [L_L_build_162]
    exact if_pos (Int32.le_refl _)
  | succ d ih =>
    intro y fuel σ g hf hy H h29 h48
    obtain ⟨f', rfl⟩ : ∃ x, fuel = x + 1 := ⟨fuel - 1, by omega⟩
    obtain ⟨v, hv⟩ : ∃ v, v = u4 >>> (((13 : Int32) * nI y) &&& 31) := ⟨_, rfl⟩
    obtain ⟨a, a1, a2⟩ := and_n v (m := 3) (by decide)
    obtain ⟨b, b1, b2⟩ := and_n (v >>> ((2 : Int32) &&& 31)) (m := 1) (by decide)
    obtain ⟨c, c1, c2⟩ := and_n (v >>> ((3 : Int32) &&& 31)) (m := 3) (by decide)
    obtain ⟨e, e1, e2⟩ := and_n (v >>> ((5 : Int32) &&& 31)) (m := 15) (by decide)
    obtain ⟨h, h1, h2⟩ := and_n (v >>> ((5 : Int32) &&& 31)) (m := 7) (by decide)
    have x1 : (v &&& (3 : Int32)) - (v &&& (3 : Int32)) / (3 : Int32) * (3 : Int32) = nI (a % 3) := by
      rw [show v &&& (3 : Int32) = nI a from a2]
      exact p_rem (by omega) (by decide)
    have x2 : (v >>> ((2 : Int32) &&& 31)) &&& (1 : Int32) = nI b := b2
    have x3 : ((v >>> ((3 : Int32) &&& 31)) &&& (3 : Int32)) - ((v >>> ((3 : Int32) &&& 31)) &&& (3 : Int32)) / (3 : Int32) * (3 : Int32) = nI (c % 3) := by
      rw [show (v >>> ((3 : Int32) &&& 31)) &&& (3 : Int32) = nI c from c2]
      exact p_rem (by omega) (by decide)
    have x4 : (1 : Int32) + ((v >>> ((5 : Int32) &&& 31)) &&& (15 : Int32)) = nI (1 + e) := by
      rw [show (v >>> ((5 : Int32) &&& 31)) &&& (15 : Int32) = nI e from e2]
      exact nI_add 1 e
    have x5 : (1 : Int32) + ((v >>> ((5 : Int32) &&& 31)) &&& (7 : Int32)) = nI (1 + h) := by
      rw [show (v >>> ((5 : Int32) &&& 31)) &&& (7 : Int32) = nI h from h2]
      exact nI_add 1 h
    have y1 : nI y + (1 : Int32) = nI (y + 1) := nI_add y 1
    have ma : a % 3 < 3 := Nat.mod_lt _ (by decide)
    have mc : c % 3 < 3 := Nat.mod_lt _ (by decide)
    have i29 : iN (g 29) = 3 := by rw [h29]; exact i_clamp (by decide)
    have i48 : iN (g 48) = 2 := by rw [h48]; exact i_clamp (by decide)
    rw [L_L_build_162]
    obtain ⟨r1, s1, g1', p1, H1, k1⟩ := r_lay H (w := a % 3) (k := b) (i := c % 3) (q := 1 + e) (by omega) (by omega) mc (by omega) (by omega)
    have fin : ∀ (σ2 : gMem) (g2' : Nat → Int32), BR N σ2 g2' → kp g g2' → ∃ σ' g', gv (nI y + (1 : Int32)) (fun x => L_L_build_162 xs L 0 u3 u4 K f' x σ2) = K (nI 2) σ' ∧ BR N σ' g' ∧ kp g g' := fun σ2 g2' H2 k2 => by
      obtain ⟨σ', g', e3, H3, k3⟩ := ih (y + 1) f' σ2 g2' (by omega) (by omega) H2 (by rw [k2.1]; exact h29) (by rw [k2.2.1]; exact h48)
      exact ⟨σ', g', by rw [gv_e, y1]; exact e3, H3, kp_tr k2 k3⟩
    have fin2 : ∀ (σ2 : gMem) (g2' : Nat → Int32), BR N σ2 g2' → kp g g2' → ∃ σ' g', (if ((v >>> ((9 : Int32) &&& 31)) &&& (7 : Int32)) = (1 : Int32) then (g1 (f_L_act 0 (2 : Int32) (nI (a % 3)) (nI (1 + h)) (0 : Int32) (0 : Int32) σ2) (fun r79 m80 => gv (nI y + (1 : Int32)) (fun x82 => L_L_build_162 xs L 0 u3 u4 K f' x82 m80))) else (gv (nI y + (1 : Int32)) (fun x78 => L_L_build_162 xs L 0 u3 u4 K f' x78 σ2))) = K (nI 2) σ' ∧ BR N σ' g' ∧ kp g g' := fun σ2 g2' H2 k2 => by
      by_cases q : ((v >>> ((9 : Int32) &&& 31)) &&& (7 : Int32)) = (1 : Int32)
      · obtain ⟨r2, s2, g3, p2, H3, k3⟩ := r_buy H2 hN (i := a % 3) (q := 1 + h) ma (by omega) (by omega)
        obtain ⟨σ', g', e4, H4, k4⟩ := fin s2 g3 H3 (kp_tr k2 k3)
        exact ⟨σ', g', (if_pos q).trans ((g1_e p2).trans e4), H4, k4⟩
      · obtain ⟨σ', g', e4, H4, k4⟩ := fin σ2 g2' H2 k2
        exact ⟨σ', g', (if_neg q).trans e4, H4, k4⟩
    rw [if_neg (show ¬ (2 : Int32) ≤ nI y by show ¬ nI 2 ≤ nI y; rw [p_le (by omega) (by omega)]; omega), gv_e, ← hv, x1, x2, x3, x4, x5, g1_e p1]
    by_cases q : ((v >>> ((9 : Int32) &&& 31)) &&& (7 : Int32)) = (0 : Int32)
    · obtain ⟨r2, s2, g3, p2, H3, k3⟩ := r_take H1 (w := a % 3) (by rw [k1.1]; omega)
      obtain ⟨σ', g', e4, H4, k4⟩ := fin2 s2 g3 H3 (kp_tr k1 k3)
      exact ⟨σ', g', (if_pos q).trans ((g1_e p2).trans e4), H4, k4⟩
    · obtain ⟨σ', g', e4, H4, k4⟩ := fin2 s1 g1' H1 k1
      exact ⟨σ', g', (if_neg q).trans e4, H4, k4⟩
end
