/-! THE PURE SIDE: read -/
theorem gl390 : gl (388 + 2) = 20 := by decide +kernel
theorem gk_ord : ∀ i, i < 20 → gk (391 + 2 * i) = 3 := by decide +kernel
theorem RES_tr {N : Nat} {σ m S M : gMem} {cl : Option (Nat × Int32 × gMem)} {md : Option (Int32 × gMem)} {L : List (Nat × Nat)} (h : RES N S M cl md L) (hS : fC σ S) (hM : fM m M) : RES N σ m cl md L := by
  obtain ⟨e, a, σ1, b, m1, c, h1, h2, h3, h4, h5⟩ := h
  exact ⟨e, a, σ1, b, m1, c, h1, h2, fun c q => (h3 c q).trans (hS c q), fun c q => (h4 c q).trans (hM c q), h5⟩
theorem RR_fr {N : Nat} {σ σ' m : gMem} (H : RR N σ m) (h : ∀ c, c < 36 ∨ 71 ≤ c → σ' c = σ c) : RR N σ' m := by
  obtain ⟨a1, ⟨a2, a3⟩, ⟨cnt, a4, a5⟩, a6, a7, a8, a9⟩ := H
  exact ⟨HQ_own a1 (fun c q1 q2 => h c (by omega)), ⟨by rw [h 0 (by omega)]; exact a2, fun q => HQ_own (a3 q) (fun c q1 q2 => h c (by omega))⟩, ⟨cnt, a4, HI_own a5 (fun c q1 q2 => h c (by omega))⟩, TX_own a6 (by rw [h 388 (by omega)]) (h 389 (by omega)) rfl rfl, by rw [h 0 (by omega)]; exact a7, by rw [h 431 (by omega)]; exact a8, by rw [h 431 (by omega)]; exact a9⟩
/-- the class' end of reading -/
def rdK (y29 _y30 : Int32) (m31 : gMem) : Option (Nat × Int32 × gMem) := if y29 = (1 : Int32) then (some (2, (0 : Int32), m31)) else (if y29 = (2 : Int32) then (some (3, (0 : Int32), m31)) else (g1 (f_X1_keep (0 + 106) (0 + 1) m31) (fun _ m35 => g1 (f_X2_copyFrom (0 + 1) (0 + 36) m35) (fun _ m38 => some (0, (m38 (0 + 388) 4), m38)))))
theorem xF_tr {m m1 m2 : gMem} (h1 : xF m m1) (h2 : xF m1 m2) : xF m m2 := ⟨fun c q1 q2 => (h2.1 c q1 q2).trans (h1.1 c q1 q2), fun j q => (h2.2 j q).trans (h1.2 j q)⟩
section
variable {N cnt : Nat} {σ3 m5 : gMem}
theorem rd_L (H : RR N σ3 m5) (hN : N ≤ 900000) (hc : cnt ≤ 20) (h4 : σ3 388 4 = nI cnt) (ho : ∀ j, j < cnt → oEq (σ3 (391 + 2 * j) 0) (σ3 (392 + 2 * j)) (m5 439) (5 * j)) : ∀ (d i fc fm : Nat) (S M : gMem), d + 1 < fc → d < fm → i + d = cnt → qF σ3 S 36 (M 434) → GA (N + 72 * i) (M 434) → xF (xLB m5) M → M 433 9 = m5 433 9 → M 433 10 = m5 433 10 → RES N σ3 m5 (L_X8_read_53 0 rdK fc (nI 0) (nI i) S) (L_X9_read_43 433 (nI cnt) fm (nI i) M) [(0, 0), (2, 1), (3, 2)] := by
  intro d
  induction d with
  | zero =>
    intro i fc fm S M hfc hfm hi hq hg hM h9 h10
    obtain ⟨f, rfl⟩ : ∃ f, fc = f + 1 := ⟨fc - 1, by omega⟩
    obtain ⟨f', rfl⟩ : ∃ f, fm = f + 1 := ⟨fm - 1, by omega⟩
    obtain rfl : i = cnt := by omega
    have hS : ∀ c, c < 36 ∨ 71 ≤ c → S c = σ3 c := fun c q => hq.2 c (by omega)
    have HS := RR_fr H hS
    have e4 : S 388 4 = nI i := by rw [hS 388 (by omega)]; exact h4
    obtain ⟨c8, σk, h3, h8, hk, hF, hK⟩ := ch_pre HS
    obtain ⟨σe, s1, s2⟩ := c_copyR (σ0 := σk) (d := 1) (s := 36) (g := M 434) (by omega) HF_1 HF_36 (qR_own hq.1 (fun c q1 q2 => hK.1 c (by omega)))
    obtain ⟨m2, k1, k2⟩ := end_ok (m := xLB m5) (M := M) (g' := M 434) hM (by rw [h9, xLB_433]) (by rw [h10, xLB_433]) (nI i)
    rw [mc_self] at k1
    obtain ⟨m3, j1, j2⟩ := x_end h3 h8 k2 (nI i)
    have e5 : σe 388 4 = nI i := by rw [s2.2 388 (by omega), hK.1 388 (by omega)]; exact e4
    refine RES_tr (res_ch (v := nI i) HS hK ?_ ?_ s2 (GA_up hg (by omega)) j2 (by decide)) (fun c q => hS c (by omega)) (fun c q => rfl)
    · unfold L_X8_read_53 rdK
      simp (disch := omega) only [neg1, li_0, li_1, li_2, li_3, li_4, li_5, li_6, li_7, li_8, li_9, li_10, li_11, li_12, li_13, li_14, li_15, li_16, li_20, li_23, li_24, li_26, li_29, li_30, li_36, li_39, li_40, li_42, li_43, li_47, li_48, li_49, li_50, li_53, li_57, li_58, li_59, li_60, li_61, li_62, li_64, li_68, li_71, li_72, li_74, li_80, li_86, li_92, li_93, li_94, li_95, li_96, li_97, li_98, li_99, li_100, li_104, li_108, li_110, li_115, li_116, li_160, li_200, li_220, li_300, li_9999, nI_add, nI_mul, p_clamp, p_le, p_lt, p_eq, p_m1lt, p_m1eq, p_m1ge, p_eqm1, i_clamp, p_leT, p_leF, p_ltT, p_ltF, p_eqT, p_eqF, or_self, or_false, false_or, or_true, true_or, not_false_eq_true, not_true_eq_false, ↓reduceIte, and_self, and_true, true_and, and_false, false_and, ↓gv_e, g1, g2, gnl, Nat.reduceAdd, Nat.add_zero, reduceCtorEq, e4, hk, s1, e5]
    · unfold L_X9_read_43
      simp (disch := omega) only [neg1, li_0, li_1, li_2, li_3, li_4, li_5, li_6, li_7, li_8, li_9, li_10, li_11, li_12, li_13, li_14, li_15, li_16, li_20, li_23, li_24, li_26, li_29, li_30, li_36, li_39, li_40, li_42, li_43, li_47, li_48, li_49, li_50, li_53, li_57, li_58, li_59, li_60, li_61, li_62, li_64, li_68, li_71, li_72, li_74, li_80, li_86, li_92, li_93, li_94, li_95, li_96, li_97, li_98, li_99, li_100, li_104, li_108, li_110, li_115, li_116, li_160, li_200, li_220, li_300, li_9999, nI_add, nI_mul, p_clamp, p_le, p_lt, p_eq, p_m1lt, p_m1eq, p_m1ge, p_eqm1, i_clamp, p_leT, p_leF, p_ltT, p_ltF, p_eqT, p_eqF, or_self, or_false, false_or, or_true, true_or, not_false_eq_true, not_true_eq_false, ↓reduceIte, and_self, and_true, true_and, and_false, false_and, ↓gv_e, g1, g2, gnl, Nat.reduceAdd, Nat.add_zero, reduceCtorEq, k1, j1]
  | succ d ih =>
    intro i fc fm S M hfc hfm hi hq hg hM h9 h10
    obtain ⟨f, rfl⟩ : ∃ f, fc = f + 1 := ⟨fc - 1, by omega⟩
    obtain ⟨f', rfl⟩ : ∃ f, fm = f + 1 := ⟨fm - 1, by omega⟩
    have hS : ∀ c, c < 36 ∨ 71 ≤ c → S c = σ3 c := fun c q => hq.2 c (by omega)
    have HS := RR_fr H hS
    have e4 : S 388 4 = nI cnt := by rw [hS 388 (by omega)]; exact h4
    have hoi := ho i (by omega)
    rw [← hS (391 + 2 * i) (by omega), ← hS (392 + 2 * i) (by omega)] at hoi
    have h439 : M 439 = m5 439 := by rw [hM.1 439 (by decide) (by decide), xLB_c (by decide)]
    rw [← h439] at hoi
    have hgk := gk_ord i (by omega)
    have hout := tt_all (σ0 := σ3) (σ := S) (m := M) (N := N + 72 * i) hq hg (by omega) (z := 391 + 2 * i) (k := 5 * i) hgk (gl_par i (by omega)) (by omega) (show oEq (S (391 + 2 * i) 0) (S (391 + 2 * i + 1)) (M 439) (5 * i) by rw [show 391 + 2 * i + 1 = 392 + 2 * i by omega]; exact hoi)
    have ea : (388 + 2) + (1 + 2 * i) = 391 + 2 * i := by omega
    have eor : f_X5_orderAt 388 (nI i) S = some (some (391 + 2 * i), S) := by
      unfold f_X5_orderAt
      simp (disch := omega) only [neg1, li_0, li_1, li_2, li_3, li_4, li_5, li_6, li_7, li_8, li_9, li_10, li_11, li_12, li_13, li_14, li_15, li_16, li_20, li_23, li_24, li_26, li_29, li_30, li_36, li_39, li_40, li_42, li_43, li_47, li_48, li_49, li_50, li_53, li_57, li_58, li_59, li_60, li_61, li_62, li_64, li_68, li_71, li_72, li_74, li_80, li_86, li_92, li_93, li_94, li_95, li_96, li_97, li_98, li_99, li_100, li_104, li_108, li_110, li_115, li_116, li_160, li_200, li_220, li_300, li_9999, nI_add, nI_mul, p_clamp, p_le, p_lt, p_eq, p_m1lt, p_m1eq, p_m1ge, p_eqm1, i_clamp, p_leT, p_leF, p_ltT, p_ltF, p_eqT, p_eqF, or_self, or_false, false_or, or_true, true_or, not_false_eq_true, not_true_eq_false, ↓reduceIte, and_self, and_true, true_and, and_false, false_and, ↓gv_e, g1, g2, gnl, Nat.reduceAdd, Nat.add_zero, reduceCtorEq, e4, gl390, ea]
    have cst : L_X8_read_53 0 rdK (f + 1) (nI 0) (nI i) S = g1 (f_X8_tryOrder 0 (some (391 + 2 * i)) S) (fun r27 m25 => L_X8_read_53 0 rdK f r27 (nI (i + 1)) m25) := by
      have e : L_X8_read_53 0 rdK (f + 1) (nI 0) (nI i) S = if S (0 + 388) 4 ≤ nI i then rdK (nI 0) (nI i) S else (if nI 0 = (0 : Int32) then (g1 (f_X5_orderAt (0 + 388) (nI i) S) (fun r18 m16 => gnl r18 (g1 (f_X8_tryOrder 0 none m16) (fun r23 m21 => gv (nI i + (1 : Int32)) (fun x24 => L_X8_read_53 0 rdK f r23 x24 m21))) (fun z19 => if gk z19 = 3 then g1 (f_X8_tryOrder 0 (some z19) m16) (fun r27 m25 => gv (nI i + (1 : Int32)) (fun x28 => L_X8_read_53 0 rdK f r27 x28 m25)) else none))) else rdK (nI 0) (nI i) S) := rfl
      rw [e, if_neg (by rw [show 0 + 388 = 388 from rfl, e4, p_le (by omega) (by omega)]; omega), if_pos (show nI 0 = (0 : Int32) from rfl), g1_e eor]
      show (if gk (391 + 2 * i) = 3 then _ else none) = _
      rw [if_pos hgk]
      simp only [li_1, nI_add, ↓gv_e]
    have mst : L_X9_read_43 433 (nI cnt) (f' + 1) (nI i) M = g1 (f_X9_does 433 (nI (5 * i)) M) (fun _ m17 => if (m17 433 12) = nI 0 then L_X9_read_43 433 (nI cnt) f' (nI (i + 1)) m17 else (if (m17 433 11) = nI 0 then g1 (f_X9_kept 433 (nI 0) (ms m17 433 12 (nI 1))) (fun r26 m24 => some (r26, m24)) else g1 (f_X9_kept 433 (nI 0) (ms m17 433 12 (nI 2))) (fun r30 m28 => some (r30, m28)))) := by
      have e : L_X9_read_43 433 (nI cnt) (f' + 1) (nI i) M = if nI cnt ≤ nI i then (g1 (f_X9_done 433 (nI cnt) M) (fun r13 m11 => g1 (f_X9_kept 433 r13 m11) (fun r16 m14 => some (r16, m14)))) else (g1 (f_X9_does 433 ((5 : Int32) * nI i) M) (fun r19 m17 => if (m17 433 12) = (0 : Int32) then (gv (nI i + (1 : Int32)) (fun x21 => L_X9_read_43 433 (nI cnt) f' x21 m17)) else (if (m17 433 11) = (0 : Int32) then (gv (ms m17 433 12 (1 : Int32)) (fun m23 => g1 (f_X9_kept 433 (0 : Int32) m23) (fun r26 m24 => some (r26, m24)))) else (gv (ms m17 433 12 (2 : Int32)) (fun m27 => g1 (f_X9_kept 433 (0 : Int32) m27) (fun r30 m28 => some (r30, m28))))))) := rfl
      rw [e, if_neg (by rw [p_le (by omega) (by omega)]; omega), li_5, nI_mul]
      simp only [li_1, li_0, li_2, nI_add, ↓gv_e]
    rw [cst, mst]
    have p1 : ∀ c : Nat, 0 < c → c < 5 → ¬ nI c = nI 0 := fun c a b q => by rw [p_eq (by omega) (by decide)] at q; omega
    rcases hout with ⟨σ', g', r, m', o1, o2, o3, o4, o5⟩ | ⟨r, m', o1, o2, o3, ⟨c, o5, o6, o7⟩, o8, o9, o10, o11⟩ | ⟨r, dd, c, r', m', o1, o2, ⟨o3, o5, o6, o7, o8, o9, o10, o11⟩, o12, o13⟩
    · obtain ⟨w1, w2, w3, w4, w5⟩ := o5
      rw [g1_e o1, g1_e o2, if_pos w3]
      refine ih (i + 1) f f' σ' m' (by omega) (by omega) (by omega) (by rw [w2]; exact o3) (by rw [w2, show N + 72 * (i + 1) = N + 72 * i + 72 by omega]; exact o4) (xF_tr hM w1) (by rw [w4]; exact h9) (by rw [w5]; exact h10)
    · rw [g1_e o1, g1_e o2, if_neg (by rw [o5]; exact p1 c o6 o7), if_pos o8]
      obtain ⟨f2, rfl⟩ : ∃ f2, f = f2 + 1 := ⟨f - 1, by omega⟩
      have hx : xF (xLB m5) (ms m' 433 12 (nI 1)) := ⟨fun c q1 q2 => by rw [ms_cell q1]; exact (xF_tr hM o3).1 c q1 q2, fun j q => by rw [ms_ap, if_neg (by omega)]; exact (xF_tr hM o3).2 j q⟩
      obtain ⟨m3, j1, j2, j3⟩ := x_stay (m := m5) (c := 1) hx ms_ss (by decide) (by decide) (nI 0)
      refine RES_tr (res_bad (e := 2) (c := 1) (a := nI 0) (b := nI 0) HS ?_ ?_ j2 j3 ms_ss (by rw [ms_ap, if_neg (by decide), o9]; exact h9) (by rw [ms_ap, if_neg (by decide), o10]; exact h10) (by decide) (by decide)) (fun c q => hS c (by omega)) (fun c q => rfl)
      · show (if S (0 + 388) 4 ≤ nI (i + 1) then rdK (nI 1) (nI (i + 1)) S else (if nI 1 = (0 : Int32) then _ else rdK (nI 1) (nI (i + 1)) S)) = _
        have hr : rdK (nI 1) (nI (i + 1)) S = some (2, nI 0, S) := rfl
        rw [if_neg (show ¬ nI 1 = (0 : Int32) by decide), hr]
        split <;> rfl
      · rw [g1_e j1]
    · rw [g1_e o1, g1_e o2, if_neg (by rw [o5]; exact p1 c o6 o7), if_neg (by rw [o8]; decide)]
      obtain ⟨f2, rfl⟩ : ∃ f2, f = f2 + 1 := ⟨f - 1, by omega⟩
      have hx : xF (xLB m5) (ms m' 433 12 (nI 2)) := ⟨fun c q1 q2 => by rw [ms_cell q1]; exact (xF_tr hM o3).1 c q1 q2, fun j q => by rw [ms_ap, if_neg (by omega)]; exact (xF_tr hM o3).2 j q⟩
      obtain ⟨m3, j1, j2, j3⟩ := x_stay (m := m5) (c := 2) hx ms_ss (by decide) (by decide) (nI 0)
      refine RES_tr (res_ref (e := 3) (c := 2) (a := nI 0) (b := nI 0) (r := nI r) (d := dd) HS ?_ ?_ j2 j3 ms_ss (by rw [ms_ap, if_neg (by decide)]; exact o9) (by rw [ms_ap, if_neg (by decide)]; exact o10) (by decide) (by decide)) (fun c q => hS c (by omega)) (fun c q => rfl)
      · obtain ⟨S2, hS2⟩ : ∃ S2, S2 = ms (ms S 431 0 (nI r)) 431 1 dd := ⟨_, rfl⟩
        rw [← hS2]
        show (if S2 (0 + 388) 4 ≤ nI (i + 1) then rdK (nI 2) (nI (i + 1)) S2 else (if nI 2 = (0 : Int32) then _ else rdK (nI 2) (nI (i + 1)) S2)) = _
        have hr : rdK (nI 2) (nI (i + 1)) S2 = some (3, nI 0, S2) := rfl
        rw [if_neg (show ¬ nI 2 = (0 : Int32) by decide), hr]
        split <;> rfl
      · rw [g1_e j1]
end
section
variable {N : Nat} {σ m : gMem}
theorem s_read (H : RR N σ m) (hN : N ≤ 900000) : RES N σ m (f_X8_read 0 σ) (f_X9_read 433 m) [(0, 0), (2, 1), (3, 2)] := by
  obtain ⟨n, n1, n2, n3, n4⟩ := H.2.2.2.1
  obtain ⟨e, w, q, y, σ1, t', h1, h2, h3, h4, h5⟩ := txt_all n3 n1 n2 n4
  obtain ⟨mt, hmt⟩ : ∃ mt, mt = ms (tM m q w t') 433 7 (nI 0) := ⟨_, rfl⟩
  rw [← hmt] at h2
  have t16 : mt 433 16 = nI w := by rw [hmt, ms_ap, if_neg (by decide)]; exact tM_16
  have t15 : mt 433 15 = nI q := by rw [hmt, ms_ap, if_neg (by decide)]; exact tM_15
  have t7 : mt 433 7 = nI 0 := by rw [hmt]; exact ms_ss
  have t439 : mt 439 = t' := by rw [hmt, ms_cell (by decide)]; exact tM_439
  have to : ∀ c, c ≠ 433 → c ≠ 439 → mt c = m c := fun c q1 q2 => by rw [hmt, ms_cell q1]; unfold tM; rw [mc_n q2, mc_n q1]
  have tj : ∀ j, j ≠ 7 → j ≠ 15 → j ≠ 16 → mt 433 j = m 433 j := fun j q1 q2 q3 => by rw [hmt, ms_ap, if_neg (by omega)]; unfold tM; rw [mc_n (by decide), mc_s, upd_ap, if_neg q3, upd_ap, if_neg q2]
  obtain ⟨σ3, hσ3⟩ : ∃ σ3, σ3 = ms (ms σ1 0 6 e) 388 1 (nI 0) := ⟨_, rfl⟩
  have s06 : σ3 0 6 = e := by rw [hσ3, ms_cell (by decide)]; exact ms_ss
  have sc : ∀ c, c ≠ 0 → c ≠ 388 → σ3 c = σ1 c := fun c q1 q2 => by rw [hσ3, ms_cell q2, ms_cell q1]
  have s4 : σ3 388 4 = σ1 388 4 := by rw [hσ3, ms_ap, if_neg (by decide), ms_cell (by decide)]
  have s1 : σ3 388 1 = nI 0 := by rw [hσ3]; exact ms_ss
  have s03 : σ3 0 3 = σ 0 3 := by rw [hσ3, ms_cell (by decide), ms_ap, if_neg (by decide), h3 0 (by decide)]
  have RT : ∀ v, e = v → RR N σ3 (ms mt 433 8 v) := fun v hv => by
    refine RR_tx H (fun c q1 q2 => ?_) s03 ?_ (fun c hc => ?_) (fun j hj => ?_) ⟨0, by decide, s1, ?_, fun j hj => absurd hj (by omega)⟩ ?_
    · rw [sc c (by omega) (by omega), h3 c (by omega)]
    · rw [sc 431 (by decide) (by decide), h3 431 (by decide)]
    · rw [ms_cell (by omega), to c (by omega) (by omega)]
    · rw [ms_ap, if_neg (by omega), tj j (by omega) (by omega) (by omega)]
    · rw [ms_ap, if_neg (by decide)]; exact t7
    · rw [s06, hv]; exact ms_ss.symm
  have fc : fC σ σ3 := fun c q => by rw [sc c (by omega) (by omega), h3 c (by omega)]
  have fm : ∀ v, fM m (ms mt 433 8 v) := fun v c q => by rw [ms_cell (by omega), to c (by omega) (by omega)]
  have cE : f_X8_read 0 σ = if σ3 0 6 = m1 then g1 (f_X2_copyFrom 36 1 σ3) (fun _ m10 => L_X8_read_53 0 rdK gF (nI 0) (nI 0) m10) else some (2, nI 0, σ3) := by
    rw [hσ3]
    unfold f_X8_read
    refine (g1_e h1).trans ?_
    rfl
  rcases h5 with ⟨rfl, rfl, cnt, rfl, c1, c2, c3⟩ | ⟨rfl, q1, rfl⟩
  · have H5 := RT m1 rfl
    refine RES_tr ?_ fc (fm m1)
    obtain ⟨σ4, d1, d2⟩ := c_copyR (σ0 := σ3) (d := 36) (s := 1) (g := ms mt 433 8 m1 434) (by omega) HF_36 HF_1 H5.1.1
    have ex : xLB (ms mt 433 8 m1) 434 = ms mt 433 8 m1 434 := xLB_434
    have key := rd_L (cnt := cnt) H5 hN c1 (by rw [s4]; exact c2) (fun j hj => by
      rw [sc _ (by omega) (by omega), sc _ (by omega) (by omega), ms_cell (by decide), t439]; exact c3 j hj) cnt 0 gF gF σ4 (xLB (ms mt 433 8 m1)) (by unfold gF; omega) (by unfold gF; omega) (by omega) (by rw [ex]; exact d2) (by rw [ex]; exact RR_G H5) xF_rf (by rw [xLB_433]) (by rw [xLB_433])
    have ec : f_X8_read 0 σ = L_X8_read_53 0 rdK gF (nI 0) (nI 0) σ4 := by
      rw [cE, if_pos s06, g1_e d1]
    have u16 : ms mt 433 8 m1 433 16 = nI 0 := by rw [ms_ap, if_neg (by decide)]; exact t16
    have em : f_X9_read 433 m = L_X9_read_43 433 (nI cnt) gF (nI 0) (xLB (ms mt 433 8 m1)) := by
      unfold f_X9_read
      refine (g1_e h2).trans ?_
      rw [if_pos (show mt 433 16 = (0 : Int32) from t16)]
      show (if ms mt 433 8 m1 433 16 = (0 : Int32) then _ else _) = _
      rw [if_pos (show ms mt 433 8 m1 433 16 = (0 : Int32) from u16)]
      exact g1_e x_back
    rw [ec, em]
    exact key
  · have H5 := RT (nI q) rfl
    refine RES_tr ?_ fc (fm (nI q))
    have ec : f_X8_read 0 σ = some (2, nI 0, σ3) := by
      rw [cE, if_neg (by rw [s06, p_eqm1 (by omega)]; exact id)]
    have u16 : ms mt 433 8 (nI q) 433 16 = nI 1 := by rw [ms_ap, if_neg (by decide)]; exact t16
    refine res_fail H5 (e := 2) (c := 1) (a := nI 0) (b := nI 0) ec ?_ (by decide) (by decide)
    unfold f_X9_read
    refine (g1_e h2).trans ?_
    rw [if_neg (show ¬ mt 433 16 = (0 : Int32) by rw [t16]; decide), t15]
    show (if ms mt 433 8 (nI q) 433 16 = (0 : Int32) then _ else _) = _
    rw [if_neg (show ¬ ms mt 433 8 (nI q) 433 16 = (0 : Int32) by rw [u16]; decide)]
    rfl
end
