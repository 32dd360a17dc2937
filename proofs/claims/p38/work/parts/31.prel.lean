/-! THE RELATION: a hotel of the class at the cells h .. h + 34, and the model's row of 220 numbers -/
/-- where a number of the model stands in a hotel: the cell's distance, the slot -/
def loT : List Nat := [0, 1, 100, 101, 102, 103, 104, 105, 106, 107, 108, 109, 110, 111, 112, 113, 114, 115, 116, 117, 118, 119, 120, 121, 122, 123, 200, 201, 202, 8, 1103, 1403, 1703, 2003, 2303, 2603, 1102, 1402, 1702, 2002, 2302, 2602, 1104, 1404, 1704, 2004, 2304, 2604, 6, 700, 800, 900, 1000, 701, 801, 901, 1001, 702, 802, 902, 1002, 10, 2900, 3000, 3100, 3200, 3300, 3400, 2901, 3001, 3101, 3201, 3301, 3401, 2902, 3002, 3102, 3202, 3302, 3402, 2903, 3003, 3103, 3203, 3303, 3403, 2904, 3004, 3104, 3204, 3304, 3404, 11, 12, 13, 395, 15, 16, 14, 399, 1200, 1201, 1202, 1203, 1204, 1205, 1206, 1207, 1208, 1209, 1500, 1501, 1502, 1503, 1504, 1505, 1506, 1507, 1508, 1509, 1800, 1801, 1802, 1803, 1804, 1805, 1806, 1807, 1808, 1809, 2100, 2101, 2102, 2103, 2104, 2105, 2106, 2107, 2108, 2109, 2400, 2401, 2402, 2403, 2404, 2405, 2406, 2407, 2408, 2409, 2700, 2701, 2702, 2703, 2704, 2705, 2706, 2707, 2708, 2709, 1300, 1301, 1302, 1303, 1304, 1305, 1306, 1307, 1308, 1309, 1600, 1601, 1602, 1603, 1604, 1605, 1606, 1607, 1608, 1609, 1900, 1901, 1902, 1903, 1904, 1905, 1906, 1907, 1908, 1909, 2200, 2201, 2202, 2203, 2204, 2205, 2206, 2207, 2208, 2209, 2500, 2501, 2502, 2503, 2504, 2505, 2506, 2507, 2508, 2509, 2800, 2801, 2802, 2803, 2804, 2805, 2806, 2807, 2808, 2809]
def loN (k : Nat) : Nat := loT[k]?.getD 0
def lo (k : Nat) : Nat × Nat := (loN k / 100, loN k % 100)
set_option maxRecDepth 10000 in
theorem loT_nd : loT.Nodup := by decide +kernel
theorem loT_len : loT.length = 220 := by decide +kernel
theorem lo_inj {j k : Nat} (hj : j < 220) (hk : k < 220) (h : lo j = lo k) : j = k := by
  have h1 : loN j = loN k := by
    have e1 : loN j / 100 = loN k / 100 := congrArg Prod.fst h
    have e2 : loN j % 100 = loN k % 100 := congrArg Prod.snd h
    omega
  refine (List.getElem?_inj (by rw [loT_len]; exact hj) loT_nd).mp ?_
  rw [List.getElem?_eq_getElem (by rw [loT_len]; exact hj), List.getElem?_eq_getElem (by rw [loT_len]; exact hk)]
  unfold loN at h1
  rw [List.getElem?_eq_getElem (by rw [loT_len]; exact hj), List.getElem?_eq_getElem (by rw [loT_len]; exact hk), Option.getD_some, Option.getD_some] at h1
  rw [h1]
theorem lo_ok : ∀ k, k < 220 → (lo k).1 < 35 ∧ ((lo k).1 = 3 → k = 95 ∨ k = 99) := by decide +kernel
/-- what stands for something in a hotel -/
def Lv (g : Nat → Int32) (k : Nat) : Prop := k ≠ 95 ∧ k ≠ 99 ∧ (30 ≤ k → k < 48 → (k - 30) % 6 < iN (g 29)) ∧ (49 ≤ k → k < 61 → (k - 49) % 4 < iN (g 48)) ∧ (62 ≤ k → k < 92 → (k - 62) % 6 < iN (g 61)) ∧ (100 ≤ k → (k - 100) / 10 % 6 < iN (g 29) ∧ (k - 100) % 10 < iN (g (36 + (k - 100) / 10 % 6)))
def qR (σ : gMem) (h : Nat) (g : Nat → Int32) (L : Nat → Prop) : Prop := (∀ k, k < 220 → L k → σ (h + (lo k).1) (lo k).2 = g k) ∧ σ (h + 3) 0 + σ (h + 3) 1 + σ (h + 3) 2 = g 95 ∧ σ (h + 3) 0 + σ (h + 3) 1 * 2 + σ (h + 3) 2 * 3 = g 99
/-- nothing outside the hotel has changed -/
def FR (σ0 σ : gMem) (h : Nat) : Prop := ∀ c, c < h ∨ h + 35 ≤ c → σ c = σ0 c
def qL (σ0 σ : gMem) (h : Nat) (g : Nat → Int32) (L : Nat → Prop) : Prop := qR σ h g L ∧ FR σ0 σ h
abbrev qF (σ0 σ : gMem) (h : Nat) (g : Nat → Int32) : Prop := qL σ0 σ h g (Lv g)
theorem qL_mono {σ0 σ : gMem} {h : Nat} {g : Nat → Int32} {L L' : Nat → Prop} (H : qL σ0 σ h g L) (hL : ∀ k, k < 220 → L' k → L k) : qL σ0 σ h g L' := ⟨⟨fun k hk h => H.1.1 k hk (hL k hk h), H.1.2⟩, H.2⟩
theorem Lv_g {g g' : Nat → Int32} {k : Nat} (hk : k < 220) (h : ∀ j, j < 220 → g' j = g j) : Lv g' k = Lv g k := by
  unfold Lv
  rw [h 29 (by decide), h 48 (by decide), h 61 (by decide), h (36 + (k - 100) / 10 % 6) (by omega)]
theorem qF_g {σ0 σ : gMem} {h : Nat} {g g' : Nat → Int32} (H : qF σ0 σ h g) (he : ∀ j, j < 220 → g' j = g j) : qF σ0 σ h g' :=
  ⟨⟨fun k hk h => by rw [he k hk]; exact H.1.1 k hk (by rw [← Lv_g hk he]; exact h), by rw [he 95 (by decide)]; exact H.1.2.1, by rw [he 99 (by decide)]; exact H.1.2.2⟩, H.2⟩
theorem FR_rf {σ : gMem} {h : Nat} : FR σ σ h := fun _ _ => rfl
theorem FR_tr {σ0 σ1 σ2 : gMem} {h : Nat} (h1 : FR σ0 σ1 h) (h2 : FR σ1 σ2 h) : FR σ0 σ2 h := fun c hc => (h2 c hc).trans (h1 c hc)
/-- a hotel is what its own cells hold -/
theorem qR_own {σ σ' : gMem} {h : Nat} {g : Nat → Int32} {L : Nat → Prop} (H : qR σ h g L) (he : ∀ c, h ≤ c → c < h + 35 → σ' c = σ c) : qR σ' h g L := by
  refine ⟨fun k hk hL => ?_, ?_, ?_⟩
  · rw [he _ (by omega) (by have := (lo_ok k hk).1; omega)]; exact H.1 k hk hL
  · rw [he _ (by omega) (by omega)]; exact H.2.1
  · rw [he _ (by omega) (by omega)]; exact H.2.2
/-- a number is written on both sides -/
theorem qL_w {σ0 σ : gMem} {h : Nat} {g : Nat → Int32} {L : Nat → Prop} {k a b cell : Nat} {v : Int32} (H : qL σ0 σ h g L) (hk : k < 220) (h95 : k ≠ 95) (h99 : k ≠ 99) (hlo : lo k = (a, b)) (hc : cell = h + a) : qL σ0 (ms σ cell b v) h (upd g k v) (fun j => L j ∨ j = k) := by
  subst hc
  have ha : a < 35 := by have := (lo_ok k hk).1; rw [hlo] at this; exact this
  have h3 : a ≠ 3 := fun e => by rcases (lo_ok k hk).2 (by rw [hlo]; exact e) with q | q <;> omega
  refine ⟨⟨fun j hj hL => ?_, ?_, ?_⟩, fun c hc => ?_⟩
  · rw [ms_ap, upd_ap]
    by_cases e : j = k
    · subst e
      rw [hlo, if_pos ⟨rfl, rfl⟩, if_pos rfl]
    · rw [if_neg e, if_neg ?_]
      · rcases hL with q | q
        · exact H.1.1 j hj q
        · exact absurd q e
      · rintro ⟨q1, q2⟩
        exact e (lo_inj hj hk (by rw [hlo, ← q2, ← (by omega : (lo j).1 = a)]))
  · rw [ms_cell (by omega), upd_ap, if_neg (by omega)]; exact H.1.2.1
  · rw [ms_cell (by omega), upd_ap, if_neg (by omega)]; exact H.1.2.2
  · rw [ms_cell (by omega)]; exact H.2 c hc
theorem upd_self {g : Nat → Int32} {k : Nat} {v : Int32} (h : v = g k) : upd g k v = g := by
  funext j; rw [upd_ap]; split
  · rename_i q; rw [h, q]
  · rfl
theorem qL_s {σ0 σ : gMem} {h : Nat} {g : Nat → Int32} {L : Nat → Prop} {k a b cell : Nat} {v : Int32} (H : qL σ0 σ h g L) (hk : k < 220) (h95 : k ≠ 95) (h99 : k ≠ 99) (hlo : lo k = (a, b)) (hc : cell = h + a) (hv : v = g k) : qL σ0 (ms σ cell b v) h g (fun j => L j ∨ j = k) := by
  have := qL_w (v := v) H hk h95 h99 hlo hc
  rw [upd_self hv] at this
  exact this
theorem qL_r {σ0 σ : gMem} {h : Nat} {g : Nat → Int32} {L : Nat → Prop} {k a b cell : Nat} (H : qL σ0 σ h g L) (hk : k < 220) (hL : L k) (hlo : lo k = (a, b)) (hc : cell = h + a) : σ cell b = g k := by
  have := H.1.1 k hk hL
  rw [hlo] at this
  rw [hc]; exact this
/-- the counts stay -/
def isCnt (k : Nat) : Bool := k == 29 || k == 48 || k == 61 || (decide (36 ≤ k) && decide (k < 42))
theorem Lv_upd {g : Nat → Int32} {k j : Nat} {v : Int32} (hk : isCnt k = false) : Lv (upd g k v) j = Lv g j := by
  have h : ∀ i, isCnt i = true → upd g k v i = g i := fun i hi => by
    rw [upd_ap, if_neg]
    rintro rfl
    rw [hk] at hi; cases hi
  unfold Lv
  rw [h 29 rfl, h 48 rfl, h 61 rfl, h (36 + (j - 100) / 10 % 6) (by unfold isCnt; simp; omega)]
theorem qF_w {σ0 σ : gMem} {h : Nat} {g : Nat → Int32} {k a b cell : Nat} {v : Int32} (H : qF σ0 σ h g) (hk : k < 220) (h95 : k ≠ 95) (h99 : k ≠ 99) (hn : isCnt k = false) (hlo : lo k = (a, b)) (hc : cell = h + a) : qF σ0 (ms σ cell b v) h (upd g k v) :=
  qL_mono (qL_w H hk h95 h99 hlo hc) (fun j _ hL => Or.inl (by rw [Lv_upd hn] at hL; exact hL))
theorem lo_hour : lo (0) = (0, 0) := by decide +kernel
theorem r_hour {σ0 σ : gMem} {h : Nat} {g : Nat → Int32} (H : qF σ0 σ h g) : σ (h) 0 = g (0) := by
  refine qL_r (k := 0) H (by omega) ⟨by omega, by omega, by omega, by omega, by omega, ?_⟩ (lo_hour) (by omega)
  · omega
theorem w_hour {σ0 σ : gMem} {h : Nat} {g : Nat → Int32} (H : qF σ0 σ h g) (v : Int32) : qF σ0 (ms σ (h) 0 v) h (upd g (0) v) :=
  qF_w H (by omega) (by omega) (by omega) (by unfold isCnt; simp; try omega) (lo_hour) (by omega)
theorem lo_coin : lo (1) = (0, 1) := by decide +kernel
theorem r_coin {σ0 σ : gMem} {h : Nat} {g : Nat → Int32} (H : qF σ0 σ h g) : σ (h) 1 = g (1) := by
  refine qL_r (k := 1) H (by omega) ⟨by omega, by omega, by omega, by omega, by omega, ?_⟩ (lo_coin) (by omega)
  · omega
theorem w_coin {σ0 σ : gMem} {h : Nat} {g : Nat → Int32} (H : qF σ0 σ h g) (v : Int32) : qF σ0 (ms σ (h) 1 v) h (upd g (1) v) :=
  qF_w H (by omega) (by omega) (by omega) (by unfold isCnt; simp; try omega) (lo_coin) (by omega)
theorem lo_hum : ∀ i, i < 24 → lo (2 + i) = (1, i) := by decide +kernel
theorem r_hum {σ0 σ : gMem} {h : Nat} {g : Nat → Int32} {i : Nat} (H : qF σ0 σ h g) (h_i : i < 24) : σ (h + 1) i = g (2 + i) := by
  refine qL_r (k := 2 + i) H (by omega) ⟨by omega, by omega, by omega, by omega, by omega, ?_⟩ (lo_hum i h_i) (by omega)
  · omega
theorem w_hum {σ0 σ : gMem} {h : Nat} {g : Nat → Int32} {i : Nat} (H : qF σ0 σ h g) (h_i : i < 24) (v : Int32) : qF σ0 (ms σ (h + 1) i v) h (upd g (2 + i) v) :=
  qF_w H (by omega) (by omega) (by omega) (by unfold isCnt; simp; try omega) (lo_hum i h_i) (by omega)
theorem lo_stk : ∀ i, i < 3 → lo (26 + i) = (2, i) := by decide +kernel
theorem r_stk {σ0 σ : gMem} {h : Nat} {g : Nat → Int32} {i : Nat} (H : qF σ0 σ h g) (h_i : i < 3) : σ (h + 2) i = g (26 + i) := by
  refine qL_r (k := 26 + i) H (by omega) ⟨by omega, by omega, by omega, by omega, by omega, ?_⟩ (lo_stk i h_i) (by omega)
  · omega
theorem w_stk {σ0 σ : gMem} {h : Nat} {g : Nat → Int32} {i : Nat} (H : qF σ0 σ h g) (h_i : i < 3) (v : Int32) : qF σ0 (ms σ (h + 2) i v) h (upd g (26 + i) v) :=
  qF_w H (by omega) (by omega) (by omega) (by unfold isCnt; simp; try omega) (lo_stk i h_i) (by omega)
theorem lo_nW : lo (29) = (0, 8) := by decide +kernel
theorem r_nW {σ0 σ : gMem} {h : Nat} {g : Nat → Int32} (H : qF σ0 σ h g) : σ (h) 8 = g (29) := by
  refine qL_r (k := 29) H (by omega) ⟨by omega, by omega, by omega, by omega, by omega, ?_⟩ (lo_nW) (by omega)
  · omega
theorem lo_dmp : ∀ t, t < 6 → lo (30 + t) = (11 + 3 * t, 3) := by decide +kernel
theorem r_dmp {σ0 σ : gMem} {h : Nat} {g : Nat → Int32} {t : Nat} (H : qF σ0 σ h g) (h_t : t < 6) (hl0 : t < iN (g 29)) : σ ((h + 5) + (6 + 3 * t)) 3 = g (30 + t) := by
  refine qL_r (k := 30 + t) H (by omega) ⟨by omega, by omega, by omega, by omega, by omega, ?_⟩ (lo_dmp t h_t) (by omega)
  · omega
theorem w_dmp {σ0 σ : gMem} {h : Nat} {g : Nat → Int32} {t : Nat} (H : qF σ0 σ h g) (h_t : t < 6) (v : Int32) : qF σ0 (ms σ ((h + 5) + (6 + 3 * t)) 3 v) h (upd g (30 + t) v) :=
  qF_w H (by omega) (by omega) (by omega) (by unfold isCnt; simp; try omega) (lo_dmp t h_t) (by omega)
theorem lo_crs : ∀ t, t < 6 → lo (36 + t) = (11 + 3 * t, 2) := by decide +kernel
theorem r_crs {σ0 σ : gMem} {h : Nat} {g : Nat → Int32} {t : Nat} (H : qF σ0 σ h g) (h_t : t < 6) (hl0 : t < iN (g 29)) : σ ((h + 5) + (6 + 3 * t)) 2 = g (36 + t) := by
  refine qL_r (k := 36 + t) H (by omega) ⟨by omega, by omega, by omega, by omega, by omega, ?_⟩ (lo_crs t h_t) (by omega)
  · omega
theorem lo_brk : ∀ t, t < 6 → lo (42 + t) = (11 + 3 * t, 4) := by decide +kernel
theorem r_brk {σ0 σ : gMem} {h : Nat} {g : Nat → Int32} {t : Nat} (H : qF σ0 σ h g) (h_t : t < 6) (hl0 : t < iN (g 29)) : σ ((h + 5) + (6 + 3 * t)) 4 = g (42 + t) := by
  refine qL_r (k := 42 + t) H (by omega) ⟨by omega, by omega, by omega, by omega, by omega, ?_⟩ (lo_brk t h_t) (by omega)
  · omega
theorem w_brk {σ0 σ : gMem} {h : Nat} {g : Nat → Int32} {t : Nat} (H : qF σ0 σ h g) (h_t : t < 6) (v : Int32) : qF σ0 (ms σ ((h + 5) + (6 + 3 * t)) 4 v) h (upd g (42 + t) v) :=
  qF_w H (by omega) (by omega) (by omega) (by unfold isCnt; simp; try omega) (lo_brk t h_t) (by omega)
theorem lo_nT : lo (48) = (0, 6) := by decide +kernel
theorem r_nT {σ0 σ : gMem} {h : Nat} {g : Nat → Int32} (H : qF σ0 σ h g) : σ (h) 6 = g (48) := by
  refine qL_r (k := 48) H (by omega) ⟨by omega, by omega, by omega, by omega, by omega, ?_⟩ (lo_nT) (by omega)
  · omega
theorem lo_rch : ∀ i, i < 4 → lo (49 + i) = (7 + i, 0) := by decide +kernel
theorem r_rch {σ0 σ : gMem} {h : Nat} {g : Nat → Int32} {i : Nat} (H : qF σ0 σ h g) (h_i : i < 4) (hl0 : i < iN (g 48)) : σ ((h + 4) + (3 + i)) 0 = g (49 + i) := by
  refine qL_r (k := 49 + i) H (by omega) ⟨by omega, by omega, by omega, by omega, by omega, ?_⟩ (lo_rch i h_i) (by omega)
  · omega
theorem w_rch {σ0 σ : gMem} {h : Nat} {g : Nat → Int32} {i : Nat} (H : qF σ0 σ h g) (h_i : i < 4) (v : Int32) : qF σ0 (ms σ ((h + 4) + (3 + i)) 0 v) h (upd g (49 + i) v) :=
  qF_w H (by omega) (by omega) (by omega) (by unfold isCnt; simp; try omega) (lo_rch i h_i) (by omega)
theorem lo_bsy : ∀ i, i < 4 → lo (53 + i) = (7 + i, 1) := by decide +kernel
theorem r_bsy {σ0 σ : gMem} {h : Nat} {g : Nat → Int32} {i : Nat} (H : qF σ0 σ h g) (h_i : i < 4) (hl0 : i < iN (g 48)) : σ ((h + 4) + (3 + i)) 1 = g (53 + i) := by
  refine qL_r (k := 53 + i) H (by omega) ⟨by omega, by omega, by omega, by omega, by omega, ?_⟩ (lo_bsy i h_i) (by omega)
  · omega
theorem w_bsy {σ0 σ : gMem} {h : Nat} {g : Nat → Int32} {i : Nat} (H : qF σ0 σ h g) (h_i : i < 4) (v : Int32) : qF σ0 (ms σ ((h + 4) + (3 + i)) 1 v) h (upd g (53 + i) v) :=
  qF_w H (by omega) (by omega) (by omega) (by unfold isCnt; simp; try omega) (lo_bsy i h_i) (by omega)
theorem lo_lad : ∀ i, i < 4 → lo (57 + i) = (7 + i, 2) := by decide +kernel
theorem r_lad {σ0 σ : gMem} {h : Nat} {g : Nat → Int32} {i : Nat} (H : qF σ0 σ h g) (h_i : i < 4) (hl0 : i < iN (g 48)) : σ ((h + 4) + (3 + i)) 2 = g (57 + i) := by
  refine qL_r (k := 57 + i) H (by omega) ⟨by omega, by omega, by omega, by omega, by omega, ?_⟩ (lo_lad i h_i) (by omega)
  · omega
theorem w_lad {σ0 σ : gMem} {h : Nat} {g : Nat → Int32} {i : Nat} (H : qF σ0 σ h g) (h_i : i < 4) (v : Int32) : qF σ0 (ms σ ((h + 4) + (3 + i)) 2 v) h (upd g (57 + i) v) :=
  qF_w H (by omega) (by omega) (by omega) (by unfold isCnt; simp; try omega) (lo_lad i h_i) (by omega)
theorem lo_nB : lo (61) = (0, 10) := by decide +kernel
theorem r_nB {σ0 σ : gMem} {h : Nat} {g : Nat → Int32} (H : qF σ0 σ h g) : σ (h) 10 = g (61) := by
  refine qL_r (k := 61) H (by omega) ⟨by omega, by omega, by omega, by omega, by omega, ?_⟩ (lo_nB) (by omega)
  · omega
theorem lo_num : ∀ i, i < 6 → lo (62 + i) = (29 + i, 0) := by decide +kernel
theorem r_num {σ0 σ : gMem} {h : Nat} {g : Nat → Int32} {i : Nat} (H : qF σ0 σ h g) (h_i : i < 6) (hl0 : i < iN (g 61)) : σ ((h + 6) + (23 + i)) 0 = g (62 + i) := by
  refine qL_r (k := 62 + i) H (by omega) ⟨by omega, by omega, by omega, by omega, by omega, ?_⟩ (lo_num i h_i) (by omega)
  · omega
theorem w_num {σ0 σ : gMem} {h : Nat} {g : Nat → Int32} {i : Nat} (H : qF σ0 σ h g) (h_i : i < 6) (v : Int32) : qF σ0 (ms σ ((h + 6) + (23 + i)) 0 v) h (upd g (62 + i) v) :=
  qF_w H (by omega) (by omega) (by omega) (by unfold isCnt; simp; try omega) (lo_num i h_i) (by omega)
theorem lo_whn : ∀ i, i < 6 → lo (68 + i) = (29 + i, 1) := by decide +kernel
theorem r_whn {σ0 σ : gMem} {h : Nat} {g : Nat → Int32} {i : Nat} (H : qF σ0 σ h g) (h_i : i < 6) (hl0 : i < iN (g 61)) : σ ((h + 6) + (23 + i)) 1 = g (68 + i) := by
  refine qL_r (k := 68 + i) H (by omega) ⟨by omega, by omega, by omega, by omega, by omega, ?_⟩ (lo_whn i h_i) (by omega)
  · omega
theorem w_whn {σ0 σ : gMem} {h : Nat} {g : Nat → Int32} {i : Nat} (H : qF σ0 σ h g) (h_i : i < 6) (v : Int32) : qF σ0 (ms σ ((h + 6) + (23 + i)) 1 v) h (upd g (68 + i) v) :=
  qF_w H (by omega) (by omega) (by omega) (by unfold isCnt; simp; try omega) (lo_whn i h_i) (by omega)
theorem lo_wnt : ∀ i, i < 6 → lo (74 + i) = (29 + i, 2) := by decide +kernel
theorem r_wnt {σ0 σ : gMem} {h : Nat} {g : Nat → Int32} {i : Nat} (H : qF σ0 σ h g) (h_i : i < 6) (hl0 : i < iN (g 61)) : σ ((h + 6) + (23 + i)) 2 = g (74 + i) := by
  refine qL_r (k := 74 + i) H (by omega) ⟨by omega, by omega, by omega, by omega, by omega, ?_⟩ (lo_wnt i h_i) (by omega)
  · omega
theorem w_wnt {σ0 σ : gMem} {h : Nat} {g : Nat → Int32} {i : Nat} (H : qF σ0 σ h g) (h_i : i < 6) (v : Int32) : qF σ0 (ms σ ((h + 6) + (23 + i)) 2 v) h (upd g (74 + i) v) :=
  qF_w H (by omega) (by omega) (by omega) (by unfold isCnt; simp; try omega) (lo_wnt i h_i) (by omega)
theorem lo_brg : ∀ i, i < 6 → lo (80 + i) = (29 + i, 3) := by decide +kernel
theorem r_brg {σ0 σ : gMem} {h : Nat} {g : Nat → Int32} {i : Nat} (H : qF σ0 σ h g) (h_i : i < 6) (hl0 : i < iN (g 61)) : σ ((h + 6) + (23 + i)) 3 = g (80 + i) := by
  refine qL_r (k := 80 + i) H (by omega) ⟨by omega, by omega, by omega, by omega, by omega, ?_⟩ (lo_brg i h_i) (by omega)
  · omega
theorem w_brg {σ0 σ : gMem} {h : Nat} {g : Nat → Int32} {i : Nat} (H : qF σ0 σ h g) (h_i : i < 6) (v : Int32) : qF σ0 (ms σ ((h + 6) + (23 + i)) 3 v) h (upd g (80 + i) v) :=
  qF_w H (by omega) (by omega) (by omega) (by unfold isCnt; simp; try omega) (lo_brg i h_i) (by omega)
theorem lo_atb : ∀ i, i < 6 → lo (86 + i) = (29 + i, 4) := by decide +kernel
theorem r_atb {σ0 σ : gMem} {h : Nat} {g : Nat → Int32} {i : Nat} (H : qF σ0 σ h g) (h_i : i < 6) (hl0 : i < iN (g 61)) : σ ((h + 6) + (23 + i)) 4 = g (86 + i) := by
  refine qL_r (k := 86 + i) H (by omega) ⟨by omega, by omega, by omega, by omega, by omega, ?_⟩ (lo_atb i h_i) (by omega)
  · omega
theorem w_atb {σ0 σ : gMem} {h : Nat} {g : Nat → Int32} {i : Nat} (H : qF σ0 σ h g) (h_i : i < 6) (v : Int32) : qF σ0 (ms σ ((h + 6) + (23 + i)) 4 v) h (upd g (86 + i) v) :=
  qF_w H (by omega) (by omega) (by omega) (by unfold isCnt; simp; try omega) (lo_atb i h_i) (by omega)
theorem lo_nxt : lo (92) = (0, 11) := by decide +kernel
theorem r_nxt {σ0 σ : gMem} {h : Nat} {g : Nat → Int32} (H : qF σ0 σ h g) : σ (h) 11 = g (92) := by
  refine qL_r (k := 92) H (by omega) ⟨by omega, by omega, by omega, by omega, by omega, ?_⟩ (lo_nxt) (by omega)
  · omega
theorem w_nxt {σ0 σ : gMem} {h : Nat} {g : Nat → Int32} (H : qF σ0 σ h g) (v : Int32) : qF σ0 (ms σ (h) 11 v) h (upd g (92) v) :=
  qF_w H (by omega) (by omega) (by omega) (by unfold isCnt; simp; try omega) (lo_nxt) (by omega)
theorem lo_hld : lo (93) = (0, 12) := by decide +kernel
theorem r_hld {σ0 σ : gMem} {h : Nat} {g : Nat → Int32} (H : qF σ0 σ h g) : σ (h) 12 = g (93) := by
  refine qL_r (k := 93) H (by omega) ⟨by omega, by omega, by omega, by omega, by omega, ?_⟩ (lo_hld) (by omega)
  · omega
theorem w_hld {σ0 σ : gMem} {h : Nat} {g : Nat → Int32} (H : qF σ0 σ h g) (v : Int32) : qF σ0 (ms σ (h) 12 v) h (upd g (93) v) :=
  qF_w H (by omega) (by omega) (by omega) (by unfold isCnt; simp; try omega) (lo_hld) (by omega)
theorem lo_spl : lo (94) = (0, 13) := by decide +kernel
theorem r_spl {σ0 σ : gMem} {h : Nat} {g : Nat → Int32} (H : qF σ0 σ h g) : σ (h) 13 = g (94) := by
  refine qL_r (k := 94) H (by omega) ⟨by omega, by omega, by omega, by omega, by omega, ?_⟩ (lo_spl) (by omega)
  · omega
theorem w_spl {σ0 σ : gMem} {h : Nat} {g : Nat → Int32} (H : qF σ0 σ h g) (v : Int32) : qF σ0 (ms σ (h) 13 v) h (upd g (94) v) :=
  qF_w H (by omega) (by omega) (by omega) (by unfold isCnt; simp; try omega) (lo_spl) (by omega)
theorem lo_brn : lo (96) = (0, 15) := by decide +kernel
theorem r_brn {σ0 σ : gMem} {h : Nat} {g : Nat → Int32} (H : qF σ0 σ h g) : σ (h) 15 = g (96) := by
  refine qL_r (k := 96) H (by omega) ⟨by omega, by omega, by omega, by omega, by omega, ?_⟩ (lo_brn) (by omega)
  · omega
theorem w_brn {σ0 σ : gMem} {h : Nat} {g : Nat → Int32} (H : qF σ0 σ h g) (v : Int32) : qF σ0 (ms σ (h) 15 v) h (upd g (96) v) :=
  qF_w H (by omega) (by omega) (by omega) (by unfold isCnt; simp; try omega) (lo_brn) (by omega)
theorem lo_etn : lo (97) = (0, 16) := by decide +kernel
theorem r_etn {σ0 σ : gMem} {h : Nat} {g : Nat → Int32} (H : qF σ0 σ h g) : σ (h) 16 = g (97) := by
  refine qL_r (k := 97) H (by omega) ⟨by omega, by omega, by omega, by omega, by omega, ?_⟩ (lo_etn) (by omega)
  · omega
theorem w_etn {σ0 σ : gMem} {h : Nat} {g : Nat → Int32} (H : qF σ0 σ h g) (v : Int32) : qF σ0 (ms σ (h) 16 v) h (upd g (97) v) :=
  qF_w H (by omega) (by omega) (by omega) (by unfold isCnt; simp; try omega) (lo_etn) (by omega)
theorem lo_got : lo (98) = (0, 14) := by decide +kernel
theorem r_got {σ0 σ : gMem} {h : Nat} {g : Nat → Int32} (H : qF σ0 σ h g) : σ (h) 14 = g (98) := by
  refine qL_r (k := 98) H (by omega) ⟨by omega, by omega, by omega, by omega, by omega, ?_⟩ (lo_got) (by omega)
  · omega
theorem w_got {σ0 σ : gMem} {h : Nat} {g : Nat → Int32} (H : qF σ0 σ h g) (v : Int32) : qF σ0 (ms σ (h) 14 v) h (upd g (98) v) :=
  qF_w H (by omega) (by omega) (by omega) (by unfold isCnt; simp; try omega) (lo_got) (by omega)
theorem lo_grd : ∀ t, t < 6 → ∀ c, c < 10 → lo (100 + 10 * t + c) = (12 + 3 * t, c) := by decide +kernel
theorem r_grd {σ0 σ : gMem} {h : Nat} {g : Nat → Int32} {t : Nat} {c : Nat} (H : qF σ0 σ h g) (h_t : t < 6) (h_c : c < 10) (hl0 : t < iN (g 29)) (hl1 : c < iN (g (36 + t))) : σ (((h + 5) + (6 + 3 * t)) + 1) c = g (100 + 10 * t + c) := by
  refine qL_r (k := 100 + 10 * t + c) H (by omega) ⟨by omega, by omega, by omega, by omega, by omega, ?_⟩ (lo_grd t h_t c h_c) (by omega)
  · have e : (100 + 10 * t + c - 100) / 10 % 6 = t := by omega
    have e2 : (100 + 10 * t + c - 100) % 10 = c := by omega
    rw [e, e2]; exact fun _ => ⟨hl0, hl1⟩
theorem w_grd {σ0 σ : gMem} {h : Nat} {g : Nat → Int32} {t : Nat} {c : Nat} (H : qF σ0 σ h g) (h_t : t < 6) (h_c : c < 10) (v : Int32) : qF σ0 (ms σ (((h + 5) + (6 + 3 * t)) + 1) c v) h (upd g (100 + 10 * t + c) v) :=
  qF_w H (by omega) (by omega) (by omega) (by unfold isCnt; simp; try omega) (lo_grd t h_t c h_c) (by omega)
theorem lo_cub : ∀ t, t < 6 → ∀ c, c < 10 → lo (160 + 10 * t + c) = (13 + 3 * t, c) := by decide +kernel
theorem r_cub {σ0 σ : gMem} {h : Nat} {g : Nat → Int32} {t : Nat} {c : Nat} (H : qF σ0 σ h g) (h_t : t < 6) (h_c : c < 10) (hl0 : t < iN (g 29)) (hl1 : c < iN (g (36 + t))) : σ (((h + 5) + (6 + 3 * t)) + 2) c = g (160 + 10 * t + c) := by
  refine qL_r (k := 160 + 10 * t + c) H (by omega) ⟨by omega, by omega, by omega, by omega, by omega, ?_⟩ (lo_cub t h_t c h_c) (by omega)
  · have e : (160 + 10 * t + c - 100) / 10 % 6 = t := by omega
    have e2 : (160 + 10 * t + c - 100) % 10 = c := by omega
    rw [e, e2]; exact fun _ => ⟨hl0, hl1⟩
theorem w_cub {σ0 σ : gMem} {h : Nat} {g : Nat → Int32} {t : Nat} {c : Nat} (H : qF σ0 σ h g) (h_t : t < 6) (h_c : c < 10) (v : Int32) : qF σ0 (ms σ (((h + 5) + (6 + 3 * t)) + 2) c v) h (upd g (160 + 10 * t + c) v) :=
  qF_w H (by omega) (by omega) (by omega) (by unfold isCnt; simp; try omega) (lo_cub t h_t c h_c) (by omega)
theorem w_crs {σ0 σ : gMem} {h : Nat} {g : Nat → Int32} {t : Nat} (H : qF σ0 σ h g) (h_t : t < 6) (v : Int32) (hv : iN v ≤ iN (g (36 + t))) : qF σ0 (ms σ ((h + 5) + (6 + 3 * t)) 2 v) h (upd g (36 + t) v) := by
  refine qL_mono (qL_w H (by omega) (by omega) (by omega) (lo_crs t h_t) (by omega)) (fun j _ hL => Or.inl ?_)
  have e : ∀ i, i ≠ 36 + t → upd g (36 + t) v i = g i := fun i hi => by rw [upd_ap, if_neg hi]
  obtain ⟨h1, h2, h3, h4, h5, h6⟩ := hL
  rw [e 29 (by omega)] at h3 h6
  rw [e 48 (by omega)] at h4
  rw [e 61 (by omega)] at h5
  refine ⟨h1, h2, h3, h4, h5, fun q => ?_⟩
  obtain ⟨q1, q2⟩ := h6 q
  refine ⟨q1, ?_⟩
  rw [upd_ap] at q2
  split at q2
  · rename_i e
    rw [e]; omega
  · exact q2
theorem w_nB {σ0 σ : gMem} {h : Nat} {g : Nat → Int32} (H : qF σ0 σ h g) (v : Int32) (hv : iN v ≤ iN (g 61)) : qF σ0 (ms σ h 10 v) h (upd g 61 v) := by
  refine qL_mono (qL_w H (by omega) (by omega) (by omega) lo_nB (by omega)) (fun j _ hL => Or.inl ?_)
  obtain ⟨h1, h2, h3, h4, h5, h6⟩ := hL
  refine ⟨h1, h2, h3, h4, fun q1 q2 => Nat.lt_of_lt_of_le (h5 q1 q2) hv, fun q => ?_⟩
  obtain ⟨q1, q2⟩ := h6 q
  refine ⟨q1, ?_⟩
  rw [upd_ap, if_neg (by omega)] at q2
  exact q2
/-- the places of a hotel -/
def HF (h : Nat) : Prop := gk h = 2 ∧ gl (h + 1) = 24 ∧ gl (h + 2) = 3 ∧ gl (h + 3) = 3 ∧ gl (h + 4) = 4 ∧ gl (h + 5) = 6 ∧ gl (h + 6) = 6 ∧ (∀ i, i < 4 → gk ((h + 4) + (3 + i)) = 6) ∧ (∀ t, t < 6 → gk ((h + 5) + (6 + 3 * t)) = 7 ∧ gl ((h + 5) + (6 + 3 * t) + 1) = 10 ∧ gl ((h + 5) + (6 + 3 * t) + 2) = 10) ∧ (∀ k, k < 6 → gk ((h + 6) + (23 + k)) = 0)
theorem HF_1 : HF 1 := by unfold HF; decide +kernel
theorem HF_36 : HF 36 := by unfold HF; decide +kernel
theorem HF_71 : HF 71 := by unfold HF; decide +kernel
theorem HF_108 : HF 108 := by unfold HF; decide +kernel
theorem HF_143 : HF 143 := by unfold HF; decide +kernel
theorem HF_178 : HF 178 := by unfold HF; decide +kernel
theorem HF_213 : HF 213 := by unfold HF; decide +kernel
theorem HF_248 : HF 248 := by unfold HF; decide +kernel
theorem HF_283 : HF 283 := by unfold HF; decide +kernel
theorem HF_318 : HF 318 := by unfold HF; decide +kernel
theorem HF_353 : HF 353 := by unfold HF; decide +kernel
theorem HF_ring : ∀ i, i < 8 → HF (108 + 35 * i) := by
  intro i hi
  rcases (by omega : i = 0 ∨ i = 1 ∨ i = 2 ∨ i = 3 ∨ i = 4 ∨ i = 5 ∨ i = 6 ∨ i = 7) with rfl | rfl | rfl | rfl | rfl | rfl | rfl | rfl
  · exact HF_108
  · exact HF_143
  · exact HF_178
  · exact HF_213
  · exact HF_248
  · exact HF_283
  · exact HF_318
  · exact HF_353
/-! bounds of the numbers -/
def bl (k : Nat) : Int := if 42 ≤ k ∧ k < 48 ∨ 57 ≤ k ∧ k < 61 ∨ 62 ≤ k ∧ k < 74 ∨ 92 ≤ k ∧ k < 100 then -2147483648 else if 86 ≤ k ∧ k < 92 then -1 else 0
def bh (N k : Nat) : Int := if k = 0 then N else if k = 1 then 100 + 1200 * N else if k < 26 then 99 else if k < 29 then 300 else if k = 29 then 6 else if k < 36 then 99 else if k < 42 then 10 else if k < 48 then 2147483647 else if k = 48 then 4 else if k < 53 then 10 else if k < 57 then 5 else if k < 61 then 2147483647 else if k = 61 then 6 else if k < 74 then 2147483647 else if k < 80 then 10 else if k < 86 then 200 else if k < 92 then 5 else if k < 100 then 2147483647 else if k < 160 then 2 else 20
def GB (N : Nat) (g : Nat → Int32) : Prop := ∀ k, k < 220 → bl k ≤ (g k).toInt ∧ (g k).toInt ≤ bh N k
def GZ (g : Nat → Int32) : Prop := (∀ t, t < 6 → iN (g 29) ≤ t → g (30 + t) = nI 0 ∧ g (36 + t) = nI 0 ∧ g (42 + t) = nI 0) ∧ (∀ i, i < 4 → iN (g 48) ≤ i → g (53 + i) = nI 0 ∧ g (57 + i) = nI 0) ∧ (∀ k, k < 6 → k < iN (g 61) → 1 ≤ (g (74 + k)).toInt)
def GI (N : Nat) (g : Nat → Int32) : Prop := GB N g ∧ GZ g
theorem GB_w {N k : Nat} {g : Nat → Int32} {v : Int32} (H : GB N g) (hl : bl k ≤ v.toInt) (hh : v.toInt ≤ bh N k) : GB N (upd g k v) := fun j hj => by
  rw [upd_ap]; split
  · rename_i e; subst e; exact ⟨hl, hh⟩
  · exact H j hj
theorem GB_n {N k B : Nat} {g : Nat → Int32} (H : GB N g) (hk : k < 220) (hl : bl k = 0) (hh : bh N k = (B : Int)) : ∃ n : Nat, g k = nI n ∧ n ≤ B := by
  obtain ⟨n, h1, h2, h3⟩ := p_ex (x := g k) (by have := (H k hk).1; omega)
  exact ⟨n, h1, by have := (H k hk).2; omega⟩
theorem bl_hum : ∀ i, i < 24 → bl (2 + i) = 0 := by decide +kernel
theorem bh_hum (N : Nat) : ∀ i, i < 24 → bh N (2 + i) = 99 := by intros; unfold bh; repeat (first | rw [if_pos (by omega)] | rw [if_neg (by omega)])
theorem b_hum {N : Nat} {g : Nat → Int32} (H : GB N g) {i : Nat} (h_i : i < 24) : ∃ n : Nat, g (2 + i) = nI n ∧ n ≤ 99 := GB_n H (by omega) (bl_hum i h_i) (bh_hum N i h_i)
theorem v_hum {N : Nat} {g : Nat → Int32} (H : GB N g) {i : Nat} (h_i : i < 24) {v : Nat} (hv : v ≤ 99) : GB N (upd g (2 + i) (nI v)) := GB_w H (by rw [bl_hum i h_i, p_int (by omega)]; omega) (by rw [bh_hum N i h_i, p_int (by omega)]; omega)
theorem bl_stk : ∀ i, i < 3 → bl (26 + i) = 0 := by decide +kernel
theorem bh_stk (N : Nat) : ∀ i, i < 3 → bh N (26 + i) = 300 := by intros; unfold bh; repeat (first | rw [if_pos (by omega)] | rw [if_neg (by omega)])
theorem b_stk {N : Nat} {g : Nat → Int32} (H : GB N g) {i : Nat} (h_i : i < 3) : ∃ n : Nat, g (26 + i) = nI n ∧ n ≤ 300 := GB_n H (by omega) (bl_stk i h_i) (bh_stk N i h_i)
theorem v_stk {N : Nat} {g : Nat → Int32} (H : GB N g) {i : Nat} (h_i : i < 3) {v : Nat} (hv : v ≤ 300) : GB N (upd g (26 + i) (nI v)) := GB_w H (by rw [bl_stk i h_i, p_int (by omega)]; omega) (by rw [bh_stk N i h_i, p_int (by omega)]; omega)
theorem bl_nW : bl (29) = 0 := by decide +kernel
theorem bh_nW (N : Nat) : bh N (29) = 6 := by intros; unfold bh; repeat (first | rw [if_pos (by omega)] | rw [if_neg (by omega)])
theorem b_nW {N : Nat} {g : Nat → Int32} (H : GB N g) : ∃ n : Nat, g (29) = nI n ∧ n ≤ 6 := GB_n H (by omega) (bl_nW) (bh_nW N)
theorem v_nW {N : Nat} {g : Nat → Int32} (H : GB N g) {v : Nat} (hv : v ≤ 6) : GB N (upd g (29) (nI v)) := GB_w H (by rw [bl_nW, p_int (by omega)]; omega) (by rw [bh_nW N, p_int (by omega)]; omega)
theorem bl_dmp : ∀ t, t < 6 → bl (30 + t) = 0 := by decide +kernel
theorem bh_dmp (N : Nat) : ∀ t, t < 6 → bh N (30 + t) = 99 := by intros; unfold bh; repeat (first | rw [if_pos (by omega)] | rw [if_neg (by omega)])
theorem b_dmp {N : Nat} {g : Nat → Int32} (H : GB N g) {t : Nat} (h_t : t < 6) : ∃ n : Nat, g (30 + t) = nI n ∧ n ≤ 99 := GB_n H (by omega) (bl_dmp t h_t) (bh_dmp N t h_t)
theorem v_dmp {N : Nat} {g : Nat → Int32} (H : GB N g) {t : Nat} (h_t : t < 6) {v : Nat} (hv : v ≤ 99) : GB N (upd g (30 + t) (nI v)) := GB_w H (by rw [bl_dmp t h_t, p_int (by omega)]; omega) (by rw [bh_dmp N t h_t, p_int (by omega)]; omega)
theorem bl_crs : ∀ t, t < 6 → bl (36 + t) = 0 := by decide +kernel
theorem bh_crs (N : Nat) : ∀ t, t < 6 → bh N (36 + t) = 10 := by intros; unfold bh; repeat (first | rw [if_pos (by omega)] | rw [if_neg (by omega)])
theorem b_crs {N : Nat} {g : Nat → Int32} (H : GB N g) {t : Nat} (h_t : t < 6) : ∃ n : Nat, g (36 + t) = nI n ∧ n ≤ 10 := GB_n H (by omega) (bl_crs t h_t) (bh_crs N t h_t)
theorem v_crs {N : Nat} {g : Nat → Int32} (H : GB N g) {t : Nat} (h_t : t < 6) {v : Nat} (hv : v ≤ 10) : GB N (upd g (36 + t) (nI v)) := GB_w H (by rw [bl_crs t h_t, p_int (by omega)]; omega) (by rw [bh_crs N t h_t, p_int (by omega)]; omega)
theorem bl_nT : bl (48) = 0 := by decide +kernel
theorem bh_nT (N : Nat) : bh N (48) = 4 := by intros; unfold bh; repeat (first | rw [if_pos (by omega)] | rw [if_neg (by omega)])
theorem b_nT {N : Nat} {g : Nat → Int32} (H : GB N g) : ∃ n : Nat, g (48) = nI n ∧ n ≤ 4 := GB_n H (by omega) (bl_nT) (bh_nT N)
theorem v_nT {N : Nat} {g : Nat → Int32} (H : GB N g) {v : Nat} (hv : v ≤ 4) : GB N (upd g (48) (nI v)) := GB_w H (by rw [bl_nT, p_int (by omega)]; omega) (by rw [bh_nT N, p_int (by omega)]; omega)
theorem bl_rch : ∀ i, i < 4 → bl (49 + i) = 0 := by decide +kernel
theorem bh_rch (N : Nat) : ∀ i, i < 4 → bh N (49 + i) = 10 := by intros; unfold bh; repeat (first | rw [if_pos (by omega)] | rw [if_neg (by omega)])
theorem b_rch {N : Nat} {g : Nat → Int32} (H : GB N g) {i : Nat} (h_i : i < 4) : ∃ n : Nat, g (49 + i) = nI n ∧ n ≤ 10 := GB_n H (by omega) (bl_rch i h_i) (bh_rch N i h_i)
theorem v_rch {N : Nat} {g : Nat → Int32} (H : GB N g) {i : Nat} (h_i : i < 4) {v : Nat} (hv : v ≤ 10) : GB N (upd g (49 + i) (nI v)) := GB_w H (by rw [bl_rch i h_i, p_int (by omega)]; omega) (by rw [bh_rch N i h_i, p_int (by omega)]; omega)
theorem bl_bsy : ∀ i, i < 4 → bl (53 + i) = 0 := by decide +kernel
theorem bh_bsy (N : Nat) : ∀ i, i < 4 → bh N (53 + i) = 5 := by intros; unfold bh; repeat (first | rw [if_pos (by omega)] | rw [if_neg (by omega)])
theorem b_bsy {N : Nat} {g : Nat → Int32} (H : GB N g) {i : Nat} (h_i : i < 4) : ∃ n : Nat, g (53 + i) = nI n ∧ n ≤ 5 := GB_n H (by omega) (bl_bsy i h_i) (bh_bsy N i h_i)
theorem v_bsy {N : Nat} {g : Nat → Int32} (H : GB N g) {i : Nat} (h_i : i < 4) {v : Nat} (hv : v ≤ 5) : GB N (upd g (53 + i) (nI v)) := GB_w H (by rw [bl_bsy i h_i, p_int (by omega)]; omega) (by rw [bh_bsy N i h_i, p_int (by omega)]; omega)
theorem bl_nB : bl (61) = 0 := by decide +kernel
theorem bh_nB (N : Nat) : bh N (61) = 6 := by intros; unfold bh; repeat (first | rw [if_pos (by omega)] | rw [if_neg (by omega)])
theorem b_nB {N : Nat} {g : Nat → Int32} (H : GB N g) : ∃ n : Nat, g (61) = nI n ∧ n ≤ 6 := GB_n H (by omega) (bl_nB) (bh_nB N)
theorem v_nB {N : Nat} {g : Nat → Int32} (H : GB N g) {v : Nat} (hv : v ≤ 6) : GB N (upd g (61) (nI v)) := GB_w H (by rw [bl_nB, p_int (by omega)]; omega) (by rw [bh_nB N, p_int (by omega)]; omega)
theorem bl_wnt : ∀ i, i < 6 → bl (74 + i) = 0 := by decide +kernel
theorem bh_wnt (N : Nat) : ∀ i, i < 6 → bh N (74 + i) = 10 := by intros; unfold bh; repeat (first | rw [if_pos (by omega)] | rw [if_neg (by omega)])
theorem b_wnt {N : Nat} {g : Nat → Int32} (H : GB N g) {i : Nat} (h_i : i < 6) : ∃ n : Nat, g (74 + i) = nI n ∧ n ≤ 10 := GB_n H (by omega) (bl_wnt i h_i) (bh_wnt N i h_i)
theorem v_wnt {N : Nat} {g : Nat → Int32} (H : GB N g) {i : Nat} (h_i : i < 6) {v : Nat} (hv : v ≤ 10) : GB N (upd g (74 + i) (nI v)) := GB_w H (by rw [bl_wnt i h_i, p_int (by omega)]; omega) (by rw [bh_wnt N i h_i, p_int (by omega)]; omega)
theorem bl_brg : ∀ i, i < 6 → bl (80 + i) = 0 := by decide +kernel
theorem bh_brg (N : Nat) : ∀ i, i < 6 → bh N (80 + i) = 200 := by intros; unfold bh; repeat (first | rw [if_pos (by omega)] | rw [if_neg (by omega)])
theorem b_brg {N : Nat} {g : Nat → Int32} (H : GB N g) {i : Nat} (h_i : i < 6) : ∃ n : Nat, g (80 + i) = nI n ∧ n ≤ 200 := GB_n H (by omega) (bl_brg i h_i) (bh_brg N i h_i)
theorem v_brg {N : Nat} {g : Nat → Int32} (H : GB N g) {i : Nat} (h_i : i < 6) {v : Nat} (hv : v ≤ 200) : GB N (upd g (80 + i) (nI v)) := GB_w H (by rw [bl_brg i h_i, p_int (by omega)]; omega) (by rw [bh_brg N i h_i, p_int (by omega)]; omega)
theorem bl_grd : ∀ t, t < 6 → ∀ c, c < 10 → bl (100 + 10 * t + c) = 0 := by decide +kernel
theorem bh_grd (N : Nat) : ∀ t, t < 6 → ∀ c, c < 10 → bh N (100 + 10 * t + c) = 2 := by intros; unfold bh; repeat (first | rw [if_pos (by omega)] | rw [if_neg (by omega)])
theorem b_grd {N : Nat} {g : Nat → Int32} (H : GB N g) {t : Nat} {c : Nat} (h_t : t < 6) (h_c : c < 10) : ∃ n : Nat, g (100 + 10 * t + c) = nI n ∧ n ≤ 2 := GB_n H (by omega) (bl_grd t h_t c h_c) (bh_grd N t h_t c h_c)
theorem v_grd {N : Nat} {g : Nat → Int32} (H : GB N g) {t : Nat} {c : Nat} (h_t : t < 6) (h_c : c < 10) {v : Nat} (hv : v ≤ 2) : GB N (upd g (100 + 10 * t + c) (nI v)) := GB_w H (by rw [bl_grd t h_t c h_c, p_int (by omega)]; omega) (by rw [bh_grd N t h_t c h_c, p_int (by omega)]; omega)
theorem bl_cub : ∀ t, t < 6 → ∀ c, c < 10 → bl (160 + 10 * t + c) = 0 := by decide +kernel
theorem bh_cub (N : Nat) : ∀ t, t < 6 → ∀ c, c < 10 → bh N (160 + 10 * t + c) = 20 := by intros; unfold bh; repeat (first | rw [if_pos (by omega)] | rw [if_neg (by omega)])
theorem b_cub {N : Nat} {g : Nat → Int32} (H : GB N g) {t : Nat} {c : Nat} (h_t : t < 6) (h_c : c < 10) : ∃ n : Nat, g (160 + 10 * t + c) = nI n ∧ n ≤ 20 := GB_n H (by omega) (bl_cub t h_t c h_c) (bh_cub N t h_t c h_c)
theorem v_cub {N : Nat} {g : Nat → Int32} (H : GB N g) {t : Nat} {c : Nat} (h_t : t < 6) (h_c : c < 10) {v : Nat} (hv : v ≤ 20) : GB N (upd g (160 + 10 * t + c) (nI v)) := GB_w H (by rw [bl_cub t h_t c h_c, p_int (by omega)]; omega) (by rw [bh_cub N t h_t c h_c, p_int (by omega)]; omega)
theorem v_brk {N : Nat} {g : Nat → Int32} (H : GB N g) {t : Nat} (h_t : t < 6) (v : Int32) : GB N (upd g (42 + t) v) := GB_w H (by have := v.le_toInt; unfold bl; rw [if_pos (by omega)]; omega) (by have := v.toInt_lt; unfold bh; repeat (first | rw [if_pos (by omega)] | rw [if_neg (by omega)]); omega)
theorem v_lad {N : Nat} {g : Nat → Int32} (H : GB N g) {i : Nat} (h_i : i < 4) (v : Int32) : GB N (upd g (57 + i) v) := GB_w H (by have := v.le_toInt; unfold bl; rw [if_pos (by omega)]; omega) (by have := v.toInt_lt; unfold bh; repeat (first | rw [if_pos (by omega)] | rw [if_neg (by omega)]); omega)
theorem v_num {N : Nat} {g : Nat → Int32} (H : GB N g) {i : Nat} (h_i : i < 6) (v : Int32) : GB N (upd g (62 + i) v) := GB_w H (by have := v.le_toInt; unfold bl; rw [if_pos (by omega)]; omega) (by have := v.toInt_lt; unfold bh; repeat (first | rw [if_pos (by omega)] | rw [if_neg (by omega)]); omega)
theorem v_whn {N : Nat} {g : Nat → Int32} (H : GB N g) {i : Nat} (h_i : i < 6) (v : Int32) : GB N (upd g (68 + i) v) := GB_w H (by have := v.le_toInt; unfold bl; rw [if_pos (by omega)]; omega) (by have := v.toInt_lt; unfold bh; repeat (first | rw [if_pos (by omega)] | rw [if_neg (by omega)]); omega)
theorem v_nxt {N : Nat} {g : Nat → Int32} (H : GB N g) (v : Int32) : GB N (upd g (92) v) := GB_w H (by have := v.le_toInt; unfold bl; rw [if_pos (by omega)]; omega) (by have := v.toInt_lt; unfold bh; repeat (first | rw [if_pos (by omega)] | rw [if_neg (by omega)]); omega)
theorem v_hld {N : Nat} {g : Nat → Int32} (H : GB N g) (v : Int32) : GB N (upd g (93) v) := GB_w H (by have := v.le_toInt; unfold bl; rw [if_pos (by omega)]; omega) (by have := v.toInt_lt; unfold bh; repeat (first | rw [if_pos (by omega)] | rw [if_neg (by omega)]); omega)
theorem v_spl {N : Nat} {g : Nat → Int32} (H : GB N g) (v : Int32) : GB N (upd g (94) v) := GB_w H (by have := v.le_toInt; unfold bl; rw [if_pos (by omega)]; omega) (by have := v.toInt_lt; unfold bh; repeat (first | rw [if_pos (by omega)] | rw [if_neg (by omega)]); omega)
theorem v_bgt {N : Nat} {g : Nat → Int32} (H : GB N g) (v : Int32) : GB N (upd g (95) v) := GB_w H (by have := v.le_toInt; unfold bl; rw [if_pos (by omega)]; omega) (by have := v.toInt_lt; unfold bh; repeat (first | rw [if_pos (by omega)] | rw [if_neg (by omega)]); omega)
theorem v_brn {N : Nat} {g : Nat → Int32} (H : GB N g) (v : Int32) : GB N (upd g (96) v) := GB_w H (by have := v.le_toInt; unfold bl; rw [if_pos (by omega)]; omega) (by have := v.toInt_lt; unfold bh; repeat (first | rw [if_pos (by omega)] | rw [if_neg (by omega)]); omega)
theorem v_etn {N : Nat} {g : Nat → Int32} (H : GB N g) (v : Int32) : GB N (upd g (97) v) := GB_w H (by have := v.le_toInt; unfold bl; rw [if_pos (by omega)]; omega) (by have := v.toInt_lt; unfold bh; repeat (first | rw [if_pos (by omega)] | rw [if_neg (by omega)]); omega)
theorem v_got {N : Nat} {g : Nat → Int32} (H : GB N g) (v : Int32) : GB N (upd g (98) v) := GB_w H (by have := v.le_toInt; unfold bl; rw [if_pos (by omega)]; omega) (by have := v.toInt_lt; unfold bh; repeat (first | rw [if_pos (by omega)] | rw [if_neg (by omega)]); omega)
theorem v_pad {N : Nat} {g : Nat → Int32} (H : GB N g) (v : Int32) : GB N (upd g (99) v) := GB_w H (by have := v.le_toInt; unfold bl; rw [if_pos (by omega)]; omega) (by have := v.toInt_lt; unfold bh; repeat (first | rw [if_pos (by omega)] | rw [if_neg (by omega)]); omega)
theorem b_hour {N : Nat} {g : Nat → Int32} (H : GB N g) : ∃ n : Nat, g 0 = nI n ∧ n ≤ N := GB_n H (by omega) rfl rfl
theorem b_coin {N : Nat} {g : Nat → Int32} (H : GB N g) : ∃ n : Nat, g 1 = nI n ∧ n ≤ 100 + 1200 * N := GB_n (B := 100 + 1200 * N) H (by omega) rfl (by unfold bh; rw [if_neg (by omega), if_pos rfl]; omega)
theorem v_hour {N : Nat} {g : Nat → Int32} (H : GB N g) {v : Nat} (hv : v ≤ N) (hs : v < 2147483648) : GB N (upd g 0 (nI v)) := GB_w H (by rw [p_int hs]; show (0 : Int) ≤ _; omega) (by rw [p_int hs]; show _ ≤ (N : Int); omega)
theorem v_coin {N : Nat} {g : Nat → Int32} (H : GB N g) {v : Nat} (hv : v ≤ 100 + 1200 * N) (hs : v < 2147483648) : GB N (upd g 1 (nI v)) := GB_w H (by rw [p_int hs]; show (0 : Int) ≤ _; omega) (by rw [p_int hs]; unfold bh; rw [if_neg (by omega), if_pos rfl]; omega)
theorem b_atb {N i : Nat} {g : Nat → Int32} (H : GB N g) (h_i : i < 6) : g (86 + i) = m1 ∨ ∃ n : Nat, g (86 + i) = nI n ∧ n ≤ 5 := by
  have h1 := H (86 + i) (by omega)
  have e1 : bl (86 + i) = -1 := by unfold bl; rw [if_neg (by omega), if_pos (by omega)]
  have e2 : bh N (86 + i) = 5 := by unfold bh; repeat (first | rw [if_pos (by omega)] | rw [if_neg (by omega)])
  rw [e1, e2] at h1
  by_cases h : (g (86 + i)).toInt = -1
  · left; apply Int32.toInt_inj.mp; rw [h, m1_int]
  · right
    obtain ⟨n, q1, q2, q3⟩ := p_ex (x := g (86 + i)) (by omega)
    exact ⟨n, q1, by omega⟩
theorem v_atb {N i : Nat} {g : Nat → Int32} (H : GB N g) (h_i : i < 6) {v : Int32} (h1 : -1 ≤ v.toInt) (h2 : v.toInt ≤ 5) : GB N (upd g (86 + i) v) := by
  refine GB_w H ?_ ?_
  · have e1 : bl (86 + i) = -1 := by unfold bl; rw [if_neg (by omega), if_pos (by omega)]
    rw [e1]; exact h1
  · have e2 : bh N (86 + i) = 5 := by unfold bh; repeat (first | rw [if_pos (by omega)] | rw [if_neg (by omega)])
    rw [e2]; exact h2

