/-! THE PURE SIDE OF THE LAW: its rounds, and the law's own walk at its entry -/
section
variable {L : Nat} {xs : Nat → Int32}
theorem r_pass {N M : Nat} {σ : gMem} {g : Nat → Int32} (H : BR N σ g) (hN : N + 72 ≤ 1000000) (hNB : NB M g) {a : Nat} (ha : a ≤ 7) : ∃ r σ' g', f_X8_pass 0 (nI (1 + a)) σ = some (0, r, σ') ∧ BR (N + 8) σ' g' ∧ g' 29 = g 29 ∧ g' 48 = g 48 ∧ NB M g' := by
  obtain ⟨f, cnt, t, H⟩ := H
  obtain ⟨σ', e, H2⟩ := d_pass H hN (u := 1 + a) (by omega) (by omega)
  obtain ⟨k1, k2, k3⟩ := psS_keep (1 + a) N M g (CR_G H).1 (by omega) hNB
  exact ⟨_, σ', _, e, ⟨_, _, _, CR_up H2 (by omega)⟩, k1, k2, k3⟩
/-- a banquet is called for, and shown; or it is refused -/
theorem r_bnq {N M : Nat} {σ : gMem} {g : Nat → Int32} (H : BR N σ g) (hN : N ≤ 9000) (hNB : NB M g) (hM : M < 1000000) (h29 : g 29 = nI 3) {u a b w : Nat} (hu : g 0 < nI u) (hu2 : u ≤ 9999) (ha1 : 1 ≤ a) (ha : a ≤ 10) (hb1 : 1 ≤ b) (hb : b ≤ 200) (hw : w < 3) (K : gMem → Option (Nat × Nat × gMem)) : ∃ σ' g', g1 (f_L_act 0 (3 : Int32) (nI u) (nI a) (nI b) (0 : Int32) σ) (fun r101 m102 => if r101 < (0 : Int32) then K m102 else (g2 0 (f_X8_show 0 r101 (nI w) m102) (fun r115 m113 => K m113))) = K σ' ∧ BR N σ' g' ∧ g' 29 = g 29 ∧ g' 48 = g 48 ∧ NB (M + 1) g' := by
  obtain ⟨f, cnt, t, H⟩ := H
  have hB6 := (n_B (CR_B H)).2
  obtain ⟨B, hB⟩ : ∃ B, iN (g 61) = B := ⟨_, rfl⟩
  have i29 : iN (g 29) = 3 := by rw [h29]; exact i_clamp (by decide)
  by_cases q : B = 6
  · have r0 : bqR g u = nI 1 := by unfold bqR; rw [hB, if_pos q]
    have e := a_banquetN H (u := u) (a := a) (b := b) hu2 ha1 ha hb1 hb (by rw [r0]; decide) (0 : Int32)
    exact ⟨rfM σ (bqR g u) (bqD g), g, (g1_e e).trans (if_pos (by decide)), ⟨_, _, _, CR_ref H _ _⟩, rfl, rfl, NB_up hNB (by omega)⟩
  · have r0 : bqR g u = nI 0 := by unfold bqR; rw [hB, if_neg q, if_pos hu]
    obtain ⟨σ1, e, H1⟩ := a_banquet H (u := u) (a := a) (b := b) hu2 ha1 ha hb1 hb r0 (0 : Int32)
    rw [hB] at H1
    have hp := plc_new (u := nI u) (v := nI a) (x := nI b) hNB hM hB (by omega)
    obtain ⟨n1, n61, n62, n6⟩ := NB_bnq (u := nI u) (v := nI a) (x := nI b) hNB hB (by omega)
    obtain ⟨b', b1, b2, b3⟩ := hNB
    obtain ⟨g5, hg5⟩ : ∃ g5, g5 = bnqG g B (nI u) (nI a) (nI b) := ⟨_, rfl⟩
    have co : ∀ j, j < 61 → g5 j = g j := fun j hj => by rw [hg5]; unfold bnqG; simp only [upd_ap]; rw [if_neg (by omega), if_neg (by omega), if_neg (by omega), if_neg (by omega), if_neg (by omega), if_neg (by omega), if_neg (by omega)]
    rw [← hg5] at H1 hp n1 n61 n62
    have hk : B < iN (g5 61) := by rw [n61, i_clamp (by omega)]; omega
    obtain ⟨σ2, e2, H2⟩ := d_show H1 hp hk (w := w) (by rw [co 29 (by omega)]; omega)
    refine ⟨σ2, _, (g1_e e).trans ((if_neg (show ¬ g 92 < nI 0 by rw [b2, p_lt (by omega) (by omega)]; omega)).trans (g2_e e2)), ⟨_, _, _, H2⟩, ?_, ?_, ?_⟩
    · rw [upd_ap, if_neg (by omega)]; exact co 29 (by omega)
    · rw [upd_ap, if_neg (by omega)]; exact co 48 (by omega)
    · refine NB_same n1 (by rw [upd_ap, if_neg (by omega)]) (by rw [upd_ap, if_neg (by omega)]) (fun k q1 => ?_)
      rw [n61, i_clamp (by omega)] at q1
      rw [upd_ap, if_neg (by omega)]
theorem L146_ok : ∀ (d y fuel : Nat) (σ : gMem) (g : Nat → Int32), d < fuel → y + d = 13 → BR (8 * y) σ g → g 29 = nI 3 → g 48 = nI 2 → NB y g → ∃ σ' g', L_L_build_146 xs L 0 fuel (nI y) σ = some (0, 0, σ') ∧ BR 104 σ' g' ∧ g' 29 = nI 3 ∧ g' 48 = nI 2 ∧ NB 13 g' := by
  intro d
  induction d with
  | zero =>
    intro y fuel σ g hf hy H h29 h48 hNB
    obtain ⟨f', rfl⟩ : ∃ x, fuel = x + 1 := ⟨fuel - 1, by omega⟩
    obtain rfl : y = 13 := by omega
    refine ⟨σ, g, ?_, H, h29, h48, hNB⟩
    rw [L_L_build_146]
    exact if_pos (Int32.le_refl _)
  | succ d ih =>
    intro y fuel σ g hf hy H h29 h48 hNB
    obtain ⟨f', rfl⟩ : ∃ x, fuel = x + 1 := ⟨fuel - 1, by omega⟩
    have y1 : nI y + (1 : Int32) = nI (y + 1) := nI_add y 1
    obtain ⟨c, hc⟩ : ∃ c, c = atv xs L (nI y) := ⟨_, rfl⟩
    obtain ⟨a, a1, a2⟩ := and_n c (m := 7) (by decide)
    obtain ⟨b, b1, b2⟩ := and_n (c >>> ((3 : Int32) &&& 31)) (m := 3) (by decide)
    obtain ⟨e, e1, e2⟩ := and_n (c >>> ((5 : Int32) &&& 31)) (m := 31) (by decide)
    obtain ⟨w, w1, w2⟩ := and_n (c >>> ((10 : Int32) &&& 31)) (m := 3) (by decide)
    obtain ⟨h, h1, h2⟩ := and_n (c >>> ((27 : Int32) &&& 31)) (m := 7) (by decide)
    have mw : w % 3 < 3 := Nat.mod_lt _ (by decide)
    have x1 : (1 : Int32) + ((c >>> ((3 : Int32) &&& 31)) &&& (3 : Int32)) = nI (1 + b) := by
      rw [show (c >>> ((3 : Int32) &&& 31)) &&& (3 : Int32) = nI b from b2]
      exact nI_add 1 b
    have x2 : (1 : Int32) + ((c >>> ((5 : Int32) &&& 31)) &&& (31 : Int32)) = nI (1 + e) := by
      rw [show (c >>> ((5 : Int32) &&& 31)) &&& (31 : Int32) = nI e from e2]
      exact nI_add 1 e
    have x3 : ((c >>> ((10 : Int32) &&& 31)) &&& (3 : Int32)) - ((c >>> ((10 : Int32) &&& 31)) &&& (3 : Int32)) / (3 : Int32) * (3 : Int32) = nI (w % 3) := by
      rw [show (c >>> ((10 : Int32) &&& 31)) &&& (3 : Int32) = nI w from w2]
      exact p_rem (by omega) (by decide)
    have x4 : (1 : Int32) + ((c >>> ((27 : Int32) &&& 31)) &&& (7 : Int32)) = nI (1 + h) := by
      rw [show (c >>> ((27 : Int32) &&& 31)) &&& (7 : Int32) = nI h from h2]
      exact nI_add 1 h
    have fin : ∀ (σ2 : gMem) (g2' : Nat → Int32), BR (8 * y) σ2 g2' → g2' 29 = nI 3 → g2' 48 = nI 2 → NB (y + 1) g2' → ∃ σ' g', g2 0 (f_X8_pass 0 (nI (1 + h)) σ2) (fun r m => gv (nI y + (1 : Int32)) (fun x => L_L_build_146 xs L 0 f' x m)) = some (0, 0, σ') ∧ BR 104 σ' g' ∧ g' 29 = nI 3 ∧ g' 48 = nI 2 ∧ NB 13 g' := fun σ2 g2' H2 q1 q2 q3 => by
      obtain ⟨r, σ3, g3, p, H3, k1, k2, k3⟩ := r_pass H2 (by omega) q3 h1
      obtain ⟨σ', g', e3, H4⟩ := ih (y + 1) f' σ3 g3 (by omega) (by omega) (by rw [show 8 * (y + 1) = 8 * y + 8 by omega]; exact H3) (k1.trans q1) (k2.trans q2) k3
      exact ⟨σ', g', (g2_e p).trans (by rw [gv_e, y1]; exact e3), H4⟩
    rw [L_L_build_146]
    rw [if_neg (show ¬ (13 : Int32) ≤ nI y by show ¬ nI 13 ≤ nI y; rw [p_le (by omega) (by omega)]; omega), if_pos (show ¬ nI y < 0 by show ¬ nI y < nI 0; rw [p_lt (by omega) (by omega)]; omega), gv_e, ← hc]
    obtain ⟨K, hK⟩ : ∃ K : gMem → Option (Nat × Nat × gMem), K = fun m => g2 0 (f_X8_pass 0 (nI (1 + h)) m) (fun r m => gv (nI y + (1 : Int32)) (fun x => L_L_build_146 xs L 0 f' x m)) := ⟨_, rfl⟩
    obtain ⟨J, hJ⟩ : ∃ J : Int32 → gMem → Option (Nat × Nat × gMem), J = fun _ m84 => if ((c >>> ((26 : Int32) &&& 31)) &&& (1 : Int32)) = (1 : Int32) then (g2 0 (f_X8_account 0 (0 : Int32) m84) (fun r96 m94 => g1 (f_L_act 0 (3 : Int32) ((r96 + (1 : Int32)) + (c &&& (7 : Int32))) (nI (1 + b)) (nI (1 + e)) (0 : Int32) m94) (fun r101 m102 => if r101 < (0 : Int32) then K m102 else (g2 0 (f_X8_show 0 r101 (nI (w % 3)) m102) (fun r115 m113 => K m113))))) else K m84 := ⟨_, rfl⟩
    have hL := L162_ok (xs := xs) (L := L) (N := 8 * y) (by omega) (u3 := nI y) (u4 := c) J 2 0 3 σ g (by decide) (by decide) H h29 h48
    obtain ⟨σ1, g1', p1, H1, k1⟩ := hL
    have hg : GB (8 * y) g := by obtain ⟨_, _, _, h0⟩ := H; exact CR_B h0
    have hNB1 := kp_NB hg k1 hNB
    have n29 : g1' 29 = nI 3 := k1.1.trans h29
    have n48 : g1' 48 = nI 2 := k1.2.1.trans h48
    have key : ∃ σ' g', J (nI 2) σ1 = some (0, 0, σ') ∧ BR 104 σ' g' ∧ g' 29 = nI 3 ∧ g' 48 = nI 2 ∧ NB 13 g' := by
      rw [hJ]
      by_cases q : ((c >>> ((26 : Int32) &&& 31)) &&& (1 : Int32)) = (1 : Int32)
      · obtain ⟨f1, cnt1, t1, H1'⟩ := id H1
        obtain ⟨n, hn, hn2⟩ := b_hour (CR_B H1')
        have ea : f_X8_account 0 (0 : Int32) σ1 = some (0, nI n, σ1) := by
          have := d_account H1' (k := 0) (by decide)
          rw [show acc g1' 0 = nI n from hn] at this
          exact this
        have eu : (nI n + (1 : Int32)) + (c &&& (7 : Int32)) = nI (n + 1 + a) := by
          rw [show nI n + (1 : Int32) = nI (n + 1) from nI_add n 1, show c &&& (7 : Int32) = nI a from a2]
          exact nI_add _ _
        obtain ⟨σ2, g2', p2, H2, r29, r48, rNB⟩ := r_bnq H1 (by omega) hNB1 (by omega) n29 (u := n + 1 + a) (a := 1 + b) (b := 1 + e) (w := w % 3) (by rw [hn, p_lt (by omega) (by omega)]; omega) (by omega) (by omega) (by omega) (by omega) (by omega) mw K
        obtain ⟨σ', g', p3, H3⟩ := fin σ2 g2' H2 (r29.trans n29) (r48.trans n48) rNB
        refine ⟨σ', g', (if_pos q).trans ((g2_e ea).trans ?_), H3⟩
        rw [eu]
        refine p2.trans ?_
        rw [hK]
        exact p3
      · obtain ⟨σ', g', p3, H3⟩ := fin σ1 g1' H1 n29 n48 (NB_up hNB1 (by omega))
        refine ⟨σ', g', (if_neg q).trans ?_, H3⟩
        rw [hK]
        exact p3
    obtain ⟨σ', g', p4, H4⟩ := key
    refine ⟨σ', g', ?_, H4⟩
    rw [x1, x2, x3, x4]
    rw [hJ, hK] at p1
    refine p1.trans ?_
    rw [hJ, hK] at p4
    exact p4
/-- the object is built, and the law holds of it -/
theorem law_pure : ∃ σ, f_L_build xs L nwm = some (0, 0, σ) ∧ S_10 xs L σ σ = some 1 := by
  have H0 : BR 0 nwm nwG := ⟨fun _ => nI 0, 0, fun _ => nI 0, CR_new nwm_ok⟩
  have z0 : bz 0 0 nwG := ⟨rfl, rfl, fun i hi => by rcases (by omega : i = 0 ∨ i = 1 ∨ i = 2) with rfl | rfl | rfl <;> rfl, rfl, rfl, rfl, rfl⟩
  obtain ⟨v, hv⟩ : ∃ v, v = atv xs L (0 : Int32) := ⟨_, rfl⟩
  obtain ⟨a, a1, a2⟩ := and_n v (m := 3) (by decide)
  obtain ⟨b, b1, b2⟩ := and_n (v >>> ((2 : Int32) &&& 31)) (m := 1) (by decide)
  obtain ⟨c, c1, c2⟩ := and_n (v >>> ((3 : Int32) &&& 31)) (m := 15) (by decide)
  obtain ⟨d, d1, d2⟩ := and_n (v >>> ((7 : Int32) &&& 31)) (m := 3) (by decide)
  have x1 : (3 : Int32) + (v &&& (3 : Int32)) = nI (3 + a) := by
    rw [show v &&& (3 : Int32) = nI a from a2]
    exact nI_add 3 a
  have x2 : (8 : Int32) + ((v >>> ((2 : Int32) &&& 31)) &&& (1 : Int32)) = nI (8 + b) := by
    rw [show (v >>> ((2 : Int32) &&& 31)) &&& (1 : Int32) = nI b from b2]
    exact nI_add 8 b
  have x3 : (20 : Int32) + ((v >>> ((3 : Int32) &&& 31)) &&& (15 : Int32)) = nI (20 + c) := by
    rw [show (v >>> ((3 : Int32) &&& 31)) &&& (15 : Int32) = nI c from c2]
    exact nI_add 20 c
  have x4 : (8 : Int32) + ((v >>> ((7 : Int32) &&& 31)) &&& (3 : Int32)) = nI (8 + d) := by
    rw [show (v >>> ((7 : Int32) &&& 31)) &&& (3 : Int32) = nI d from d2]
    exact nI_add 8 d
  obtain ⟨J, hJ⟩ : ∃ J : Int32 → gMem → Option (Nat × Nat × gMem), J = fun _ m37 => g2 0 (f_X8_buy 0 (0 : Int32) (nI (20 + c)) m37) (fun r40 m38 => g2 0 (f_X8_buy 0 (1 : Int32) (10 : Int32) m38) (fun r47 m45 => g2 0 (f_X8_buy 0 (2 : Int32) (nI (8 + d)) m45) (fun r54 m52 => L_L_build_146 xs L 0 11 (3 : Int32) m52))) := ⟨_, rfl⟩
  obtain ⟨K, hK⟩ : ∃ K : Int32 → gMem → Option (Nat × Nat × gMem), K = fun _ m12 => g2 0 (f_X8_tongs 0 (nI (3 + a)) m12) (fun r15 m13 => g2 0 (f_X8_tongs 0 (nI (8 + b)) m13) (fun r22 m20 => L_L_build_90 xs L 0 v J 4 (0 : Int32) m20)) := ⟨_, rfl⟩
  obtain ⟨σ1, g1', p1, H1, z1⟩ := L16_ok (xs := xs) (L := L) (u2 := v) K 6 0 7 nwm nwG (by decide) (by decide) H0 z0
  obtain ⟨f1, cnt1, t1, H1⟩ := H1
  obtain ⟨h0, h1, h2, h3, h4, h5, h6⟩ := z1
  obtain ⟨σ2, p2, H2⟩ := d_tongs H1 (T := 0) (w := 3 + a) (by rw [h4]; exact i_clamp (by decide)) (by decide) (by omega) (by omega)
  have to : ∀ (g : Nat → Int32) (T : Nat) (v : Int32) (j : Nat), j ≠ 48 → j ≠ 49 + T → tonG g T v j = g j := fun g T v j q1 q2 => by unfold tonG; rw [upd_ap, if_neg q1, upd_ap, if_neg q2]
  have to48 : ∀ (g : Nat → Int32) (T : Nat) (v : Int32), tonG g T v 48 = nI (T + 1) := fun g T v => by unfold tonG; rw [upd_ap, if_pos rfl]
  obtain ⟨σ3, p3, H3⟩ := d_tongs H2 (T := 1) (w := 8 + b) (by rw [to48]; exact i_clamp (by decide)) (by decide) (by omega) (by omega)
  obtain ⟨g3, hg3⟩ : ∃ g, g = tonG (tonG g1' 0 (nI (3 + a))) 1 (nI (8 + b)) := ⟨_, rfl⟩
  have g3o : ∀ j, j ≠ 48 → j ≠ 49 → j ≠ 50 → g3 j = g1' j := fun j q1 q2 q3 => by rw [hg3, to _ _ _ _ q1 (by omega), to _ _ _ _ q1 (by omega)]
  have g348 : g3 48 = nI 2 := by rw [hg3, to48]
  rw [← hg3] at H3
  obtain ⟨σ4, g4, p4, H4, z4⟩ := L90_ok (xs := xs) (L := L) (u2 := v) J 3 0 4 σ3 g3 (by decide) (by decide) ⟨_, _, _, H3⟩ ⟨by rw [g3o 0 (by decide) (by decide) (by decide)]; exact h0, by rw [g3o 1 (by decide) (by decide) (by decide)]; exact h1, fun i hi => by rw [g3o _ (by omega) (by omega) (by omega)]; exact h2 i hi, by rw [g3o 29 (by decide) (by decide) (by decide)]; exact h3, g348, by rw [g3o 61 (by decide) (by decide) (by decide)]; exact h5, by rw [g3o 92 (by decide) (by decide) (by decide)]; exact h6⟩
  obtain ⟨f4, cnt4, t4, H4⟩ := H4
  obtain ⟨i0, i1, i2, i3, i4, i5, i6⟩ := z4
  have bR : ∀ (g : Nat → Int32) (i q m : Nat), i < 3 → q ≤ 100 → g (26 + i) = nI 0 → g 1 = nI m → m ≤ 100 → q * (i + 1) ≤ m → byR g i q = nI 0 := fun g i q m hi hq q1 q2 hm q3 => by
    unfold byR
    rw [q1, q2, nI_add, if_neg (by rw [p_lt (by omega) (by omega)]; omega), if_neg (by rw [p_lt (by omega) (by omega)]; omega)]
  have bG : ∀ (g : Nat → Int32) (i q m : Nat), i < 3 → g 1 = nI m → q * (i + 1) ≤ m → buyG g i q 1 = nI (m - q * (i + 1)) := fun g i q m hi q1 q2 => by
    unfold buyG
    simp only [upd_ap]
    rw [if_neg (by omega), if_neg (by omega), if_neg (by omega), if_pos trivial, q1, nI_sub q2]
  obtain ⟨σ5, p5, H5⟩ := d_buy H4 (by decide) (i := 0) (q := 20 + c) (by decide) (by omega) (by omega) (bR g4 0 (20 + c) 100 (by decide) (by omega) (i2 0 (by decide)) i1 (by decide) (by omega))
  have j1 := bG g4 0 (20 + c) 100 (by decide) i1 (by omega)
  obtain ⟨g5, hg5⟩ : ∃ g, g = buyG g4 0 (20 + c) := ⟨_, rfl⟩
  have o5 : ∀ j, j ≠ 1 → j ≠ 99 → j ≠ 95 → j ≠ 26 → g5 j = g4 j := fun j q1 q2 q3 q4 => by rw [hg5]; exact buyG_o (by decide) q1 q2 q3 q4
  rw [← hg5] at H5 j1
  obtain ⟨σ6, p6, H6⟩ := d_buy H5 (by decide) (i := 1) (q := 10) (by decide) (by decide) (by decide) (bR g5 1 10 _ (by decide) (by decide) (by rw [o5 27 (by decide) (by decide) (by decide) (by decide)]; exact i2 1 (by decide)) j1 (by omega) (by omega))
  have j2 := bG g5 1 10 _ (by decide) j1 (by omega)
  obtain ⟨g6, hg6⟩ : ∃ g, g = buyG g5 1 10 := ⟨_, rfl⟩
  have o6 : ∀ j, j ≠ 1 → j ≠ 99 → j ≠ 95 → j ≠ 27 → g6 j = g5 j := fun j q1 q2 q3 q4 => by rw [hg6]; exact buyG_o (by decide) q1 q2 q3 q4
  rw [← hg6] at H6 j2
  obtain ⟨σ7, p7, H7⟩ := d_buy H6 (by decide) (i := 2) (q := 8 + d) (by decide) (by omega) (by omega) (bR g6 2 (8 + d) _ (by decide) (by omega) (by rw [o6 28 (by decide) (by decide) (by decide) (by decide), o5 28 (by decide) (by decide) (by decide) (by decide)]; exact i2 2 (by decide)) j2 (by omega) (by omega))
  obtain ⟨g7, hg7⟩ : ∃ g, g = buyG g6 2 (8 + d) := ⟨_, rfl⟩
  have o7 : ∀ j, j = 29 ∨ j = 48 ∨ j = 61 ∨ j = 92 → g7 j = g4 j := fun j hj => by
    rw [hg7, buyG_o (by decide) (by omega) (by omega) (by omega) (by omega), o6 j (by omega) (by omega) (by omega) (by omega), o5 j (by omega) (by omega) (by omega) (by omega)]
  rw [← hg7] at H7
  obtain ⟨σ8, g8, p8, H8, k29, k48, kNB⟩ := L146_ok (xs := xs) (L := L) 10 3 11 σ7 g7 (by decide) (by decide) ⟨_, _, _, CR_up H7 (by decide)⟩ (by rw [o7 29 (by omega)]; exact i3) (by rw [o7 48 (by omega)]; exact i4) ⟨0, by decide, by rw [o7 92 (by omega)]; exact i6, fun k hk => by
    rw [o7 61 (by omega), i5, i_clamp (by decide)] at hk
    exact absurd hk (by omega)⟩
  obtain ⟨f8, cnt8, t8, H8⟩ := H8
  refine ⟨σ8, ?_, S_10_ok H8 H8 (by decide) (by decide) kNB k29 k48⟩
  unfold f_L_build
  rw [gv_e, ← hv, x1, x2, x3, x4]
  rw [hK, hJ] at p1
  refine p1.trans ?_
  refine (g2_e p2).trans ((g2_e p3).trans ?_)
  rw [hJ] at p4
  refine p4.trans ?_
  exact (g2_e p5).trans ((g2_e p6).trans ((g2_e p7).trans p8))
end
