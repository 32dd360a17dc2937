def f_X8_humidity (c0 : Nat) (u1 : Int32) (u2 : Int32) (m0 : gMem) : Option (Nat × Int32 × gMem) := g1 (f_X8_isBetween (0 : Int32) u1 (23 : Int32) m0) (fun r3 m1 => if r3 = (0 : Int32) then (some (1, (0 : Int32), m1)) else (g1 (f_X8_isBetween (0 : Int32) u2 (99 : Int32) m1) (fun r7 m5 => if r7 = (0 : Int32) then (some (2, (0 : Int32), m5)) else (g1 (f_X1_keep (c0 + 106) (c0 + 1) m5) (fun r13 m11 => g1 (f_X2_setHumidity (c0 + 1) u1 u2 m11) (fun r16 m14 => some (0, r16, m14)))))))
set_option maxRecDepth 100000 in
set_option maxHeartbeats 4000000 in
theorem b_X8_humidity {p : Program} {l : Launch} {e : Env} {R : Room} {s : State} {m : MethodId} {args : Array Value} {below : List Frame} {meth : Method} {c : Code} {H : Heap} {locs : List Loc} {ls : Array Slot} {X : gX} (E : gEn p s m args c cX8_humidity RX8 X) (hr : meth.sig.returnType = (some .int)) (hlocks : meth.locks = false) (hml : c.maxLocals = 3) (hl0 : l.stackTraces = false) (hout : ∀ x ∈ c.exceptionTable.toList, False) (hRf : 6 ≤ R.frames) (hRl : 124 ≤ R.locals) (hRc : 1 ≤ R.cells) (hRs : 6 ≤ R.slots) {c0 : Nat} {u1 : Int32} {u2 : Int32} {m0 : gMem} {res : Nat × Int32 × gMem} (hk0 : gk c0 = 8) (hf : f_X8_humidity c0 u1 u2 m0 = some res) (hM : gM X m0 H) (hS : va_S (gA X) s.heap H locs) (hl : lv_has ls 3 [(0, .ref (X.1 + c0)), (1, .int u1), (2, .int u2)]) : W p l e R s m args below meth c H locs 0 0 (vx_MQ below (gQTi X res) (gXC X res.1 res.2.2) args s 1 6 (gA X)) (F0 m 0 ls []) := by
  obtain ⟨hx, hb⟩ := (⟨E.1, E.2.1⟩ : _ ∧ _)
  unfold f_X8_humidity at hf
  refine lv_iconst (v := (0 : Int32)) hx hb dX8_humidity_0 (by decide) ?_
  refine lv_iload_n hx hb dX8_humidity_1 rfl (lv_at hl 1 rfl) ?_
  refine lv_bipush (v := (23 : Int32)) hx hb dX8_humidity_2 (by decide) ?_
  obtain ⟨r3, m1, hqq2, hf⟩ := g1_o hf
  refine ga_i (gr_S (As := [.int (0 : Int32), .int u1, .int (23 : Int32)]) (rm := { frames := 0, cells := 0, slots := 0, locals := 0 }) E hml hl.1 (c_X8_isBetween l X (0 : Int32) u1 (23 : Int32) m0 hqq2) wt_X8_isBetween wl_RX8_50 rfl hM hS rfl rfl (Nat.le_trans (by decide) hRf) (Nat.le_trans (by decide) hRl) (Nat.le_trans (Nat.le_of_ble_eq_true rfl) hRc) (Nat.le_trans (Nat.le_of_ble_eq_true rfl) hRs) (Nat.le_of_ble_eq_true rfl) dX8_humidity_4 rfl) hS (fun H locs hM hS => ?_)
  refine lv_if_ne (tgt := 20) hx hb dX8_humidity_7 (by decide) (fun h4 => ?_) (fun h4 => ?_)
  · have hf := g_f h4 hf
    refine lv_iconst (v := (0 : Int32)) hx hb dX8_humidity_20 (by decide) ?_
    refine lv_iload_n hx hb dX8_humidity_21 rfl (lv_at hl 2 rfl) ?_
    refine lv_bipush (v := (99 : Int32)) hx hb dX8_humidity_22 (by decide) ?_
    obtain ⟨r7, m5, hqq6, hf⟩ := g1_o hf
    refine ga_i (gr_S (As := [.int (0 : Int32), .int u2, .int (99 : Int32)]) (rm := { frames := 0, cells := 0, slots := 0, locals := 0 }) E hml hl.1 (c_X8_isBetween l X (0 : Int32) u2 (99 : Int32) m1 hqq6) wt_X8_isBetween wl_RX8_50 rfl hM hS rfl rfl (Nat.le_trans (by decide) hRf) (Nat.le_trans (by decide) hRl) (Nat.le_trans (Nat.le_of_ble_eq_true rfl) hRc) (Nat.le_trans (Nat.le_of_ble_eq_true rfl) hRs) (Nat.le_of_ble_eq_true rfl) dX8_humidity_24 rfl) hS (fun H locs hM hS => ?_)
    refine lv_if_ne (tgt := 40) hx hb dX8_humidity_27 (by decide) (fun h8 => ?_) (fun h8 => ?_)
    · have hf := g_f h8 hf
      refine lv_aload_n hx hb dX8_humidity_40 rfl (lv_at hl 0 rfl) ?_
      refine GX8_25 E hM hk0 dX8_humidity_41 ?_
      have hg9 : gk (c0 + 106) = 1 := gkf_8_4 hk0
      refine lv_aload_n hx hb dX8_humidity_44 rfl (lv_at hl 0 rfl) ?_
      refine GX8_10 E hM hk0 dX8_humidity_45 ?_
      have hg10 : gk (c0 + 1) = 2 := gkf_8_0 hk0
      obtain ⟨r13, m11, hqq12, hf⟩ := g1_o hf
      refine ga_v (gr_V (As := [.ref (X.1 + (c0 + 1))]) (ci := 1) (rm := { frames := 3, cells := 0, slots := 0, locals := 103 }) E hml hl.1 (c_X1_keep l X (c0 + 106) (c0 + 1) m5 hg9 hg10 hqq12) wt_X1_keep wl_RX8_66 rfl hg9 (by decide) rfl rfl hM hS rfl rfl (Nat.le_trans (by decide) hRf) (Nat.le_trans (by decide) hRl) (Nat.le_trans (Nat.le_of_ble_eq_true rfl) hRc) (Nat.le_trans (Nat.le_of_ble_eq_true rfl) hRs) (Nat.le_of_ble_eq_true rfl) dX8_humidity_48 rfl) hS (fun H locs hM hS => ?_)
      refine lv_aload_n hx hb dX8_humidity_51 rfl (lv_at hl 0 rfl) ?_
      refine GX8_10 E hM hk0 dX8_humidity_52 ?_
      refine lv_iload_n hx hb dX8_humidity_55 rfl (lv_at hl 1 rfl) ?_
      refine lv_iload_n hx hb dX8_humidity_56 rfl (lv_at hl 2 rfl) ?_
      obtain ⟨r16, m14, hqq15, hf⟩ := g1_o hf
      refine ga_i (gr_V (As := [.int u1, .int u2]) (ci := 2) (rm := { frames := 1, cells := 0, slots := 0, locals := 22 }) E hml hl.1 (c_X2_setHumidity l X (c0 + 1) u1 u2 m11 hg10 hqq15) wt_X2_setHumidity wl_RX8_70 rfl hg10 (by decide) rfl rfl hM hS rfl rfl (Nat.le_trans (by decide) hRf) (Nat.le_trans (by decide) hRl) (Nat.le_trans (Nat.le_of_ble_eq_true rfl) hRc) (Nat.le_trans (Nat.le_of_ble_eq_true rfl) hRs) (Nat.le_of_ble_eq_true rfl) dX8_humidity_57 rfl) hS (fun H locs hM hS => ?_)
      exact ge_Ti E hr hlocks hf hM hS (Nat.le_of_ble_eq_true rfl) (Nat.le_of_ble_eq_true rfl) dX8_humidity_60
    · have hf := g_t h8 hf
      exact gth_2 (text := "the humidity is out of range") E hl0 hout hlocks (hl.1.trans hml.symm) (by decide) hf hM hS (by decide) (Nat.le_trans (by decide) hRf) (Nat.le_trans (Nat.le_of_ble_eq_true rfl) hRl) (Nat.le_trans (Nat.le_of_ble_eq_true rfl) hRc) (Nat.le_trans (Nat.le_of_ble_eq_true rfl) hRs) (Nat.le_of_ble_eq_true rfl) (Nat.le_of_ble_eq_true rfl) dX8_humidity_30 dX8_humidity_33 dX8_humidity_34 dX8_humidity_36 dX8_humidity_39
  · have hf := g_t h4 hf
    exact gth_1 (text := "no such hour of the day") E hl0 hout hlocks (hl.1.trans hml.symm) (by decide) hf hM hS (by decide) (Nat.le_trans (by decide) hRf) (Nat.le_trans (Nat.le_of_ble_eq_true rfl) hRl) (Nat.le_trans (Nat.le_of_ble_eq_true rfl) hRc) (Nat.le_trans (Nat.le_of_ble_eq_true rfl) hRs) (Nat.le_of_ble_eq_true rfl) (Nat.le_of_ble_eq_true rfl) dX8_humidity_10 dX8_humidity_13 dX8_humidity_14 dX8_humidity_16 dX8_humidity_19
theorem c_X8_humidity (l : Launch) (X : gX) (hl0 : l.stackTraces = false) (c0 : Nat) (u1 : Int32) (u2 : Int32) (m0 : gMem) {res : Nat × Int32 × gMem} (hk0 : gk c0 = 8) (hf : f_X8_humidity c0 u1 u2 m0 = some res) : vx_Met l yX8_humidity (gWs yX8_humidity cX8_humidity 3 (some .int)) { frames := 6, cells := 1, slots := 6, locals := 124 } (va_Pc [.ref (X.1 + c0), .int u1, .int u2] (gB X m0)) (gQTi X res) (gXC X res.1 res.2.2) 1 6 (gA X) :=
  gMetX (own := RX8) (by decide +kernel) rfl (Nat.le_of_ble_eq_true rfl) (fun p e s m args below meth c ls E hr hlocks hml hout hM hl => b_X8_humidity E hr hlocks hml hl0 hout (Nat.le_refl _) (Nat.le_refl _) (Nat.le_refl _) (Nat.le_refl _) hk0 hf hM va_S.rf hl)
def f_X8_buy (c0 : Nat) (u1 : Int32) (u2 : Int32) (m0 : gMem) : Option (Nat × Int32 × gMem) := g1 (f_X8_isPurchase u1 u2 m0) (fun r3 m1 => if r3 = (0 : Int32) then (some (2, (0 : Int32), m1)) else (g1 (f_X2_reasonAgainstBuying (c0 + 1) (c0 + 431) u1 u2 m1) (fun r9 m7 => if r9 = (0 : Int32) then (g1 (f_X1_keep (c0 + 106) (c0 + 1) m7) (fun r14 m12 => g1 (f_X2_buyCubes (c0 + 1) u1 u2 m12) (fun r17 m15 => some (0, r17, m15)))) else (some (3, (0 : Int32), m7)))))
set_option maxRecDepth 100000 in
set_option maxHeartbeats 4000000 in
theorem b_X8_buy {p : Program} {l : Launch} {e : Env} {R : Room} {s : State} {m : MethodId} {args : Array Value} {below : List Frame} {meth : Method} {c : Code} {H : Heap} {locs : List Loc} {ls : Array Slot} {X : gX} (E : gEn p s m args c cX8_buy RX8 X) (hr : meth.sig.returnType = (some .int)) (hlocks : meth.locks = false) (hml : c.maxLocals = 3) (hl0 : l.stackTraces = false) (hout : ∀ x ∈ c.exceptionTable.toList, False) (hRf : 6 ≤ R.frames) (hRl : 124 ≤ R.locals) (hRc : 1 ≤ R.cells) (hRs : 6 ≤ R.slots) {c0 : Nat} {u1 : Int32} {u2 : Int32} {m0 : gMem} {res : Nat × Int32 × gMem} (hk0 : gk c0 = 8) (hf : f_X8_buy c0 u1 u2 m0 = some res) (hM : gM X m0 H) (hS : va_S (gA X) s.heap H locs) (hl : lv_has ls 3 [(0, .ref (X.1 + c0)), (1, .int u1), (2, .int u2)]) : W p l e R s m args below meth c H locs 0 0 (vx_MQ below (gQTi X res) (gXC X res.1 res.2.2) args s 1 6 (gA X)) (F0 m 0 ls []) := by
  obtain ⟨hx, hb⟩ := (⟨E.1, E.2.1⟩ : _ ∧ _)
  unfold f_X8_buy at hf
  refine lv_iload_n hx hb dX8_buy_0 rfl (lv_at hl 1 rfl) ?_
  refine lv_iload_n hx hb dX8_buy_1 rfl (lv_at hl 2 rfl) ?_
  obtain ⟨r3, m1, hqq2, hf⟩ := g1_o hf
  refine ga_i (gr_S (As := [.int u1, .int u2]) (rm := { frames := 1, cells := 0, slots := 0, locals := 22 }) E hml hl.1 (c_X8_isPurchase l X u1 u2 m0 hqq2) wt_X8_isPurchase wl_RX8_80 rfl hM hS rfl rfl (Nat.le_trans (by decide) hRf) (Nat.le_trans (by decide) hRl) (Nat.le_trans (Nat.le_of_ble_eq_true rfl) hRc) (Nat.le_trans (Nat.le_of_ble_eq_true rfl) hRs) (Nat.le_of_ble_eq_true rfl) dX8_buy_2 rfl) hS (fun H locs hM hS => ?_)
  refine lv_if_ne (tgt := 18) hx hb dX8_buy_5 (by decide) (fun h4 => ?_) (fun h4 => ?_)
  · have hf := g_f h4 hf
    refine lv_aload_n hx hb dX8_buy_18 rfl (lv_at hl 0 rfl) ?_
    refine GX8_10 E hM hk0 dX8_buy_19 ?_
    have hg5 : gk (c0 + 1) = 2 := gkf_8_0 hk0
    refine lv_aload_n hx hb dX8_buy_22 rfl (lv_at hl 0 rfl) ?_
    refine GX8_43 E hM hk0 dX8_buy_23 ?_
    have hg6 : gk (c0 + 431) = 4 := gkf_8_7 hk0
    refine lv_iload_n hx hb dX8_buy_26 rfl (lv_at hl 1 rfl) ?_
    refine lv_iload_n hx hb dX8_buy_27 rfl (lv_at hl 2 rfl) ?_
    obtain ⟨r9, m7, hqq8, hf⟩ := g1_o hf
    refine ga_i (gr_V (As := [.ref (X.1 + (c0 + 431)), .int u1, .int u2]) (ci := 2) (rm := { frames := 2, cells := 0, slots := 0, locals := 41 }) E hml hl.1 (c_X2_reasonAgainstBuying l X (c0 + 1) (c0 + 431) u1 u2 m1 hg5 hg6 hqq8) wt_X2_reasonAgainstBuying wl_RX8_86 rfl hg5 (by decide) rfl rfl hM hS rfl rfl (Nat.le_trans (by decide) hRf) (Nat.le_trans (by decide) hRl) (Nat.le_trans (Nat.le_of_ble_eq_true rfl) hRc) (Nat.le_trans (Nat.le_of_ble_eq_true rfl) hRs) (Nat.le_of_ble_eq_true rfl) dX8_buy_28 rfl) hS (fun H locs hM hS => ?_)
    refine lv_if_eq (tgt := 44) hx hb dX8_buy_31 (by decide) (fun h10 => ?_) (fun h10 => ?_)
    · have hf := g_t h10 hf
      refine lv_aload_n hx hb dX8_buy_44 rfl (lv_at hl 0 rfl) ?_
      refine GX8_25 E hM hk0 dX8_buy_45 ?_
      have hg11 : gk (c0 + 106) = 1 := gkf_8_4 hk0
      refine lv_aload_n hx hb dX8_buy_48 rfl (lv_at hl 0 rfl) ?_
      refine GX8_10 E hM hk0 dX8_buy_49 ?_
      obtain ⟨r14, m12, hqq13, hf⟩ := g1_o hf
      refine ga_v (gr_V (As := [.ref (X.1 + (c0 + 1))]) (ci := 1) (rm := { frames := 3, cells := 0, slots := 0, locals := 103 }) E hml hl.1 (c_X1_keep l X (c0 + 106) (c0 + 1) m7 hg11 hg5 hqq13) wt_X1_keep wl_RX8_66 rfl hg11 (by decide) rfl rfl hM hS rfl rfl (Nat.le_trans (by decide) hRf) (Nat.le_trans (by decide) hRl) (Nat.le_trans (Nat.le_of_ble_eq_true rfl) hRc) (Nat.le_trans (Nat.le_of_ble_eq_true rfl) hRs) (Nat.le_of_ble_eq_true rfl) dX8_buy_52 rfl) hS (fun H locs hM hS => ?_)
      refine lv_aload_n hx hb dX8_buy_55 rfl (lv_at hl 0 rfl) ?_
      refine GX8_10 E hM hk0 dX8_buy_56 ?_
      refine lv_iload_n hx hb dX8_buy_59 rfl (lv_at hl 1 rfl) ?_
      refine lv_iload_n hx hb dX8_buy_60 rfl (lv_at hl 2 rfl) ?_
      obtain ⟨r17, m15, hqq16, hf⟩ := g1_o hf
      refine ga_i (gr_V (As := [.int u1, .int u2]) (ci := 2) (rm := { frames := 2, cells := 0, slots := 0, locals := 41 }) E hml hl.1 (c_X2_buyCubes l X (c0 + 1) u1 u2 m12 hg5 hqq16) wt_X2_buyCubes wl_RX8_95 rfl hg5 (by decide) rfl rfl hM hS rfl rfl (Nat.le_trans (by decide) hRf) (Nat.le_trans (by decide) hRl) (Nat.le_trans (Nat.le_of_ble_eq_true rfl) hRc) (Nat.le_trans (Nat.le_of_ble_eq_true rfl) hRs) (Nat.le_of_ble_eq_true rfl) dX8_buy_61 rfl) hS (fun H locs hM hS => ?_)
      exact ge_Ti E hr hlocks hf hM hS (Nat.le_of_ble_eq_true rfl) (Nat.le_of_ble_eq_true rfl) dX8_buy_64
    · have hf := g_f h10 hf
      exact gth_3 (text := "the cubes cannot be bought") E hl0 hout hlocks (hl.1.trans hml.symm) (by decide) hf hM hS (by decide) (Nat.le_trans (by decide) hRf) (Nat.le_trans (Nat.le_of_ble_eq_true rfl) hRl) (Nat.le_trans (Nat.le_of_ble_eq_true rfl) hRc) (Nat.le_trans (Nat.le_of_ble_eq_true rfl) hRs) (Nat.le_of_ble_eq_true rfl) (Nat.le_of_ble_eq_true rfl) dX8_buy_34 dX8_buy_37 dX8_buy_38 dX8_buy_40 dX8_buy_43
  · have hf := g_t h4 hf
    exact gth_2 (text := "the grade or the number of cubes is out of range") E hl0 hout hlocks (hl.1.trans hml.symm) (by decide) hf hM hS (by decide) (Nat.le_trans (by decide) hRf) (Nat.le_trans (Nat.le_of_ble_eq_true rfl) hRl) (Nat.le_trans (Nat.le_of_ble_eq_true rfl) hRc) (Nat.le_trans (Nat.le_of_ble_eq_true rfl) hRs) (Nat.le_of_ble_eq_true rfl) (Nat.le_of_ble_eq_true rfl) dX8_buy_8 dX8_buy_11 dX8_buy_12 dX8_buy_14 dX8_buy_17
theorem c_X8_buy (l : Launch) (X : gX) (hl0 : l.stackTraces = false) (c0 : Nat) (u1 : Int32) (u2 : Int32) (m0 : gMem) {res : Nat × Int32 × gMem} (hk0 : gk c0 = 8) (hf : f_X8_buy c0 u1 u2 m0 = some res) : vx_Met l yX8_buy (gWs yX8_buy cX8_buy 3 (some .int)) { frames := 6, cells := 1, slots := 6, locals := 124 } (va_Pc [.ref (X.1 + c0), .int u1, .int u2] (gB X m0)) (gQTi X res) (gXC X res.1 res.2.2) 1 6 (gA X) :=
  gMetX (own := RX8) (by decide +kernel) rfl (Nat.le_of_ble_eq_true rfl) (fun p e s m args below meth c ls E hr hlocks hml hout hM hl => b_X8_buy E hr hlocks hml hl0 hout (Nat.le_refl _) (Nat.le_refl _) (Nat.le_refl _) (Nat.le_refl _) hk0 hf hM va_S.rf hl)
def f_X8_stock (c0 : Nat) (u1 : Int32) (m0 : gMem) : Option (Nat × Int32 × gMem) := g1 (f_X8_isGrade u1 m0) (fun r3 m1 => if r3 = (0 : Int32) then (some (2, (0 : Int32), m1)) else (g1 (f_X2_stockOf (c0 + 1) u1 m1) (fun r8 m6 => some (0, r8, m6))))
set_option maxRecDepth 100000 in
set_option maxHeartbeats 4000000 in
theorem b_X8_stock {p : Program} {l : Launch} {e : Env} {R : Room} {s : State} {m : MethodId} {args : Array Value} {below : List Frame} {meth : Method} {c : Code} {H : Heap} {locs : List Loc} {ls : Array Slot} {X : gX} (E : gEn p s m args c cX8_stock RX8 X) (hr : meth.sig.returnType = (some .int)) (hlocks : meth.locks = false) (hml : c.maxLocals = 2) (hl0 : l.stackTraces = false) (hout : ∀ x ∈ c.exceptionTable.toList, False) (hRf : 6 ≤ R.frames) (hRl : 100 ≤ R.locals) (hRc : 1 ≤ R.cells) (hRs : 6 ≤ R.slots) {c0 : Nat} {u1 : Int32} {m0 : gMem} {res : Nat × Int32 × gMem} (hk0 : gk c0 = 8) (hf : f_X8_stock c0 u1 m0 = some res) (hM : gM X m0 H) (hS : va_S (gA X) s.heap H locs) (hl : lv_has ls 2 [(0, .ref (X.1 + c0)), (1, .int u1)]) : W p l e R s m args below meth c H locs 0 0 (vx_MQ below (gQTi X res) (gXC X res.1 res.2.2) args s 1 6 (gA X)) (F0 m 0 ls []) := by
  obtain ⟨hx, hb⟩ := (⟨E.1, E.2.1⟩ : _ ∧ _)
  unfold f_X8_stock at hf
  refine lv_iload_n hx hb dX8_stock_0 rfl (lv_at hl 1 rfl) ?_
  obtain ⟨r3, m1, hqq2, hf⟩ := g1_o hf
  refine ga_i (gr_S (As := [.int u1]) (rm := { frames := 0, cells := 0, slots := 0, locals := 0 }) E hml hl.1 (c_X8_isGrade l X u1 m0 hqq2) wt_X8_isGrade wl_RX8_98 rfl hM hS rfl rfl (Nat.le_trans (by decide) hRf) (Nat.le_trans (by decide) hRl) (Nat.le_trans (Nat.le_of_ble_eq_true rfl) hRc) (Nat.le_trans (Nat.le_of_ble_eq_true rfl) hRs) (Nat.le_of_ble_eq_true rfl) dX8_stock_1 rfl) hS (fun H locs hM hS => ?_)
  refine lv_if_ne (tgt := 17) hx hb dX8_stock_4 (by decide) (fun h4 => ?_) (fun h4 => ?_)
  · have hf := g_f h4 hf
    refine lv_aload_n hx hb dX8_stock_17 rfl (lv_at hl 0 rfl) ?_
    refine GX8_10 E hM hk0 dX8_stock_18 ?_
    have hg5 : gk (c0 + 1) = 2 := gkf_8_0 hk0
    refine lv_iload_n hx hb dX8_stock_21 rfl (lv_at hl 1 rfl) ?_
    obtain ⟨r8, m6, hqq7, hf⟩ := g1_o hf
    refine ga_i (gr_V (As := [.int u1]) (ci := 2) (rm := { frames := 1, cells := 0, slots := 0, locals := 20 }) E hml hl.1 (c_X2_stockOf l X (c0 + 1) u1 m1 hg5 hqq7) wt_X2_stockOf wl_RX8_104 rfl hg5 (by decide) rfl rfl hM hS rfl rfl (Nat.le_trans (by decide) hRf) (Nat.le_trans (by decide) hRl) (Nat.le_trans (Nat.le_of_ble_eq_true rfl) hRc) (Nat.le_trans (Nat.le_of_ble_eq_true rfl) hRs) (Nat.le_of_ble_eq_true rfl) dX8_stock_22 rfl) hS (fun H locs hM hS => ?_)
    exact ge_Ti E hr hlocks hf hM hS (Nat.le_of_ble_eq_true rfl) (Nat.le_of_ble_eq_true rfl) dX8_stock_25
  · have hf := g_t h4 hf
    exact gth_2 (text := "no such grade") E hl0 hout hlocks (hl.1.trans hml.symm) (by decide) hf hM hS (by decide) (Nat.le_trans (by decide) hRf) (Nat.le_trans (Nat.le_of_ble_eq_true rfl) hRl) (Nat.le_trans (Nat.le_of_ble_eq_true rfl) hRc) (Nat.le_trans (Nat.le_of_ble_eq_true rfl) hRs) (Nat.le_of_ble_eq_true rfl) (Nat.le_of_ble_eq_true rfl) dX8_stock_7 dX8_stock_10 dX8_stock_11 dX8_stock_13 dX8_stock_16
theorem c_X8_stock (l : Launch) (X : gX) (hl0 : l.stackTraces = false) (c0 : Nat) (u1 : Int32) (m0 : gMem) {res : Nat × Int32 × gMem} (hk0 : gk c0 = 8) (hf : f_X8_stock c0 u1 m0 = some res) : vx_Met l yX8_stock (gWs yX8_stock cX8_stock 2 (some .int)) { frames := 6, cells := 1, slots := 6, locals := 100 } (va_Pc [.ref (X.1 + c0), .int u1] (gB X m0)) (gQTi X res) (gXC X res.1 res.2.2) 1 6 (gA X) :=
  gMetX (own := RX8) (by decide +kernel) rfl (Nat.le_of_ble_eq_true rfl) (fun p e s m args below meth c ls E hr hlocks hml hout hM hl => b_X8_stock E hr hlocks hml hl0 hout (Nat.le_refl _) (Nat.le_refl _) (Nat.le_refl _) (Nat.le_refl _) hk0 hf hM va_S.rf hl)
def f_X8_tongs (c0 : Nat) (u1 : Int32) (m0 : gMem) : Option (Nat × Int32 × gMem) := g1 (f_X8_isBetween (1 : Int32) u1 (10 : Int32) m0) (fun r3 m1 => if r3 = (0 : Int32) then (some (2, (0 : Int32), m1)) else (if (m1 (c0 + 1) 6) < (4 : Int32) then (g1 (f_X1_keep (c0 + 106) (c0 + 1) m1) (fun r10 m8 => g1 (f_X2_addTongs (c0 + 1) u1 m8) (fun r13 m11 => some (0, r13, m11)))) else (g1 (f_X4_because (c0 + 431) (1 : Int32) (4 : Int32) m1) (fun r17 m15 => some (3, (0 : Int32), m15)))))
set_option maxRecDepth 100000 in
set_option maxHeartbeats 4000000 in
theorem b_X8_tongs {p : Program} {l : Launch} {e : Env} {R : Room} {s : State} {m : MethodId} {args : Array Value} {below : List Frame} {meth : Method} {c : Code} {H : Heap} {locs : List Loc} {ls : Array Slot} {X : gX} (E : gEn p s m args c cX8_tongs RX8 X) (hr : meth.sig.returnType = (some .int)) (hlocks : meth.locks = false) (hml : c.maxLocals = 2) (hl0 : l.stackTraces = false) (hout : ∀ x ∈ c.exceptionTable.toList, False) (hRf : 6 ≤ R.frames) (hRl : 124 ≤ R.locals) (hRc : 1 ≤ R.cells) (hRs : 6 ≤ R.slots) {c0 : Nat} {u1 : Int32} {m0 : gMem} {res : Nat × Int32 × gMem} (hk0 : gk c0 = 8) (hf : f_X8_tongs c0 u1 m0 = some res) (hM : gM X m0 H) (hS : va_S (gA X) s.heap H locs) (hl : lv_has ls 2 [(0, .ref (X.1 + c0)), (1, .int u1)]) : W p l e R s m args below meth c H locs 0 0 (vx_MQ below (gQTi X res) (gXC X res.1 res.2.2) args s 1 6 (gA X)) (F0 m 0 ls []) := by
  obtain ⟨hx, hb⟩ := (⟨E.1, E.2.1⟩ : _ ∧ _)
  unfold f_X8_tongs at hf
  refine lv_iconst (v := (1 : Int32)) hx hb dX8_tongs_0 (by decide) ?_
  refine lv_iload_n hx hb dX8_tongs_1 rfl (lv_at hl 1 rfl) ?_
  refine lv_bipush (v := (10 : Int32)) hx hb dX8_tongs_2 (by decide) ?_
  obtain ⟨r3, m1, hqq2, hf⟩ := g1_o hf
  refine ga_i (gr_S (As := [.int (1 : Int32), .int u1, .int (10 : Int32)]) (rm := { frames := 0, cells := 0, slots := 0, locals := 0 }) E hml hl.1 (c_X8_isBetween l X (1 : Int32) u1 (10 : Int32) m0 hqq2) wt_X8_isBetween wl_RX8_50 rfl hM hS rfl rfl (Nat.le_trans (by decide) hRf) (Nat.le_trans (by decide) hRl) (Nat.le_trans (Nat.le_of_ble_eq_true rfl) hRc) (Nat.le_trans (Nat.le_of_ble_eq_true rfl) hRs) (Nat.le_of_ble_eq_true rfl) dX8_tongs_4 rfl) hS (fun H locs hM hS => ?_)
  refine lv_if_ne (tgt := 20) hx hb dX8_tongs_7 (by decide) (fun h4 => ?_) (fun h4 => ?_)
  · have hf := g_f h4 hf
    refine lv_aload_n hx hb dX8_tongs_20 rfl (lv_at hl 0 rfl) ?_
    refine GX8_10 E hM hk0 dX8_tongs_21 ?_
    have hg5 : gk (c0 + 1) = 2 := gkf_8_0 hk0
    refine GX8_109 E hM hg5 dX8_tongs_24 ?_
    refine lv_iconst (v := (4 : Int32)) hx hb dX8_tongs_27 (by decide) ?_
    refine lv_icmp_lt (tgt := 51) hx hb dX8_tongs_28 (by decide) (fun h6 => ?_) (fun h6 => ?_)
    · have hf := g_t h6 hf
      refine lv_aload_n hx hb dX8_tongs_51 rfl (lv_at hl 0 rfl) ?_
      refine GX8_25 E hM hk0 dX8_tongs_52 ?_
      have hg7 : gk (c0 + 106) = 1 := gkf_8_4 hk0
      refine lv_aload_n hx hb dX8_tongs_55 rfl (lv_at hl 0 rfl) ?_
      refine GX8_10 E hM hk0 dX8_tongs_56 ?_
      obtain ⟨r10, m8, hqq9, hf⟩ := g1_o hf
      refine ga_v (gr_V (As := [.ref (X.1 + (c0 + 1))]) (ci := 1) (rm := { frames := 3, cells := 0, slots := 0, locals := 103 }) E hml hl.1 (c_X1_keep l X (c0 + 106) (c0 + 1) m1 hg7 hg5 hqq9) wt_X1_keep wl_RX8_66 rfl hg7 (by decide) rfl rfl hM hS rfl rfl (Nat.le_trans (by decide) hRf) (Nat.le_trans (by decide) hRl) (Nat.le_trans (Nat.le_of_ble_eq_true rfl) hRc) (Nat.le_trans (Nat.le_of_ble_eq_true rfl) hRs) (Nat.le_of_ble_eq_true rfl) dX8_tongs_59 rfl) hS (fun H locs hM hS => ?_)
      refine lv_aload_n hx hb dX8_tongs_62 rfl (lv_at hl 0 rfl) ?_
      refine GX8_10 E hM hk0 dX8_tongs_63 ?_
      refine lv_iload_n hx hb dX8_tongs_66 rfl (lv_at hl 1 rfl) ?_
      obtain ⟨r13, m11, hqq12, hf⟩ := g1_o hf
      refine ga_i (gr_V (As := [.int u1]) (ci := 2) (rm := { frames := 1, cells := 0, slots := 0, locals := 21 }) E hml hl.1 (c_X2_addTongs l X (c0 + 1) u1 m8 hg5 hqq12) wt_X2_addTongs wl_RX8_117 rfl hg5 (by decide) rfl rfl hM hS rfl rfl (Nat.le_trans (by decide) hRf) (Nat.le_trans (by decide) hRl) (Nat.le_trans (Nat.le_of_ble_eq_true rfl) hRc) (Nat.le_trans (Nat.le_of_ble_eq_true rfl) hRs) (Nat.le_of_ble_eq_true rfl) dX8_tongs_67 rfl) hS (fun H locs hM hS => ?_)
      exact ge_Ti E hr hlocks hf hM hS (Nat.le_of_ble_eq_true rfl) (Nat.le_of_ble_eq_true rfl) dX8_tongs_70
    · have hf := g_f h6 hf
      refine lv_aload_n hx hb dX8_tongs_31 rfl (lv_at hl 0 rfl) ?_
      refine GX8_43 E hM hk0 dX8_tongs_32 ?_
      have hg14 : gk (c0 + 431) = 4 := gkf_8_7 hk0
      refine lv_iconst (v := (1 : Int32)) hx hb dX8_tongs_35 (by decide) ?_
      refine lv_iconst (v := (4 : Int32)) hx hb dX8_tongs_36 (by decide) ?_
      obtain ⟨r17, m15, hqq16, hf⟩ := g1_o hf
      refine ga_i (gr_V (As := [.int (1 : Int32), .int (4 : Int32)]) (ci := 4) (rm := { frames := 0, cells := 0, slots := 0, locals := 0 }) E hml hl.1 (c_X4_because l X (c0 + 431) (1 : Int32) (4 : Int32) m1 hg14 hqq16) wt_X4_because wl_RX8_112 rfl hg14 (by decide) rfl rfl hM hS rfl rfl (Nat.le_trans (by decide) hRf) (Nat.le_trans (by decide) hRl) (Nat.le_trans (Nat.le_of_ble_eq_true rfl) hRc) (Nat.le_trans (Nat.le_of_ble_eq_true rfl) hRs) (Nat.le_of_ble_eq_true rfl) dX8_tongs_37 rfl) hS (fun H locs hM hS => ?_)
      refine lv_pop hx hb dX8_tongs_40 rfl ?_
      exact gth_3 (text := "no room for tongs") E hl0 hout hlocks (hl.1.trans hml.symm) (by decide) hf hM hS (by decide) (Nat.le_trans (by decide) hRf) (Nat.le_trans (Nat.le_of_ble_eq_true rfl) hRl) (Nat.le_trans (Nat.le_of_ble_eq_true rfl) hRc) (Nat.le_trans (Nat.le_of_ble_eq_true rfl) hRs) (Nat.le_of_ble_eq_true rfl) (Nat.le_of_ble_eq_true rfl) dX8_tongs_41 dX8_tongs_44 dX8_tongs_45 dX8_tongs_47 dX8_tongs_50
  · have hf := g_t h4 hf
    exact gth_2 (text := "the reach is out of range") E hl0 hout hlocks (hl.1.trans hml.symm) (by decide) hf hM hS (by decide) (Nat.le_trans (by decide) hRf) (Nat.le_trans (Nat.le_of_ble_eq_true rfl) hRl) (Nat.le_trans (Nat.le_of_ble_eq_true rfl) hRc) (Nat.le_trans (Nat.le_of_ble_eq_true rfl) hRs) (Nat.le_of_ble_eq_true rfl) (Nat.le_of_ble_eq_true rfl) dX8_tongs_10 dX8_tongs_13 dX8_tongs_14 dX8_tongs_16 dX8_tongs_19
theorem c_X8_tongs (l : Launch) (X : gX) (hl0 : l.stackTraces = false) (c0 : Nat) (u1 : Int32) (m0 : gMem) {res : Nat × Int32 × gMem} (hk0 : gk c0 = 8) (hf : f_X8_tongs c0 u1 m0 = some res) : vx_Met l yX8_tongs (gWs yX8_tongs cX8_tongs 2 (some .int)) { frames := 6, cells := 1, slots := 6, locals := 124 } (va_Pc [.ref (X.1 + c0), .int u1] (gB X m0)) (gQTi X res) (gXC X res.1 res.2.2) 1 6 (gA X) :=
  gMetX (own := RX8) (by decide +kernel) rfl (Nat.le_of_ble_eq_true rfl) (fun p e s m args below meth c ls E hr hlocks hml hout hM hl => b_X8_tongs E hr hlocks hml hl0 hout (Nat.le_refl _) (Nat.le_refl _) (Nat.le_refl _) (Nat.le_refl _) hk0 hf hM va_S.rf hl)
def f_X8_knownTongs (c0 : Nat) (u1 : Int32) (m0 : gMem) : Option (Nat × Nat × gMem) := g1 (f_X2_tongsAt (c0 + 1) u1 m0) (fun r4 m2 => gnl r4 (some (1, 0, m2)) (fun z5 => if gk z5 = 6 then some (0, z5, m2) else none))
set_option maxRecDepth 100000 in
set_option maxHeartbeats 4000000 in
theorem b_X8_knownTongs {p : Program} {l : Launch} {e : Env} {R : Room} {s : State} {m : MethodId} {args : Array Value} {below : List Frame} {meth : Method} {c : Code} {H : Heap} {locs : List Loc} {ls : Array Slot} {X : gX} (E : gEn p s m args c cX8_knownTongs RX8 X) (hr : meth.sig.returnType = (some (.object "SugarTowers$Tongs"))) (hlocks : meth.locks = false) (hml : c.maxLocals = 3) (hl0 : l.stackTraces = false) (hout : ∀ x ∈ c.exceptionTable.toList, False) (hRf : 6 ≤ R.frames) (hRl : 100 ≤ R.locals) (hRc : 1 ≤ R.cells) (hRs : 6 ≤ R.slots) {c0 : Nat} {u1 : Int32} {m0 : gMem} {res : Nat × Nat × gMem} (hk0 : gk c0 = 8) (hf : f_X8_knownTongs c0 u1 m0 = some res) (hM : gM X m0 H) (hS : va_S (gA X) s.heap H locs) (hl : lv_has ls 3 [(0, .ref (X.1 + c0)), (1, .int u1)]) : W p l e R s m args below meth c H locs 0 0 (vx_MQ below (gQTr X res) (gXC X res.1 res.2.2) args s 1 6 (gA X)) (F0 m 0 ls []) := by
  obtain ⟨hx, hb⟩ := (⟨E.1, E.2.1⟩ : _ ∧ _)
  unfold f_X8_knownTongs at hf
  refine lv_aload_n hx hb dX8_knownTongs_0 rfl (lv_at hl 0 rfl) ?_
  refine GX8_10 E hM hk0 dX8_knownTongs_1 ?_
  have hg1 : gk (c0 + 1) = 2 := gkf_8_0 hk0
  refine lv_iload_n hx hb dX8_knownTongs_4 rfl (lv_at hl 1 rfl) ?_
  obtain ⟨r4, m2, hqq3, hf⟩ := g1_o hf
  refine ga_o (gr_V (As := [.int u1]) (ci := 2) (rm := { frames := 0, cells := 0, slots := 0, locals := 0 }) E hml hl.1 (c_X2_tongsAt l X (c0 + 1) u1 m0 hg1 hqq3) wt_X2_tongsAt wl_RX8_407 rfl hg1 (by decide) rfl rfl hM hS rfl rfl (Nat.le_trans (by decide) hRf) (Nat.le_trans (by decide) hRl) (Nat.le_trans (Nat.le_of_ble_eq_true rfl) hRc) (Nat.le_trans (Nat.le_of_ble_eq_true rfl) hRs) (Nat.le_of_ble_eq_true rfl) dX8_knownTongs_5 rfl) hS (fun H locs hM hS => ?_)
  cases r4 with
  | none =>
    have hf := gnl_n hf
    refine gW_null ?_
    refine lv_astore_nN (lv' := [(2, .null), (0, .ref (X.1 + c0)), (1, .int u1)]) hx hb dX8_knownTongs_8 rfl hl (by decide) rfl (fun ls hl => ?_)
    refine lv_aload_nN hx hb dX8_knownTongs_9 rfl (lv_at hl 0 rfl) ?_
    refine lv_ifnonnullN hx hb dX8_knownTongs_10 ?_
    exact gth_1w (text := "no such tongs") E hl0 hout hlocks (hl.1.trans hml.symm) (by decide) hf hM hS (by decide) (Nat.le_trans (by decide) hRf) (Nat.le_trans (Nat.le_of_ble_eq_true rfl) hRl) (Nat.le_trans (Nat.le_of_ble_eq_true rfl) hRc) (Nat.le_trans (Nat.le_of_ble_eq_true rfl) hRs) (Nat.le_of_ble_eq_true rfl) (Nat.le_of_ble_eq_true rfl) dX8_knownTongs_13 dX8_knownTongs_16 dX8_knownTongs_17 dX8_knownTongs_20 dX8_knownTongs_23
  | some z5 =>
    have hf := gnl_s hf
    obtain ⟨hg6, hf⟩ := g_ck hf
    refine gW_some ?_
    refine lv_astore_n (lv' := [(2, .ref (X.1 + z5)), (0, .ref (X.1 + c0)), (1, .int u1)]) hx hb dX8_knownTongs_8 rfl hl (by decide) rfl (fun ls hl => ?_)
    refine lv_aload_n hx hb dX8_knownTongs_9 rfl (lv_at hl 0 rfl) ?_
    refine lv_ifnonnull (tgt := 24) hx hb dX8_knownTongs_10 (by decide) ?_
    refine lv_aload_n hx hb dX8_knownTongs_24 rfl (lv_at hl 0 rfl) ?_
    exact ge_Tr E hr hlocks hf hM hS (Nat.le_of_ble_eq_true rfl) (Nat.le_of_ble_eq_true rfl) dX8_knownTongs_25
theorem c_X8_knownTongs (l : Launch) (X : gX) (hl0 : l.stackTraces = false) (c0 : Nat) (u1 : Int32) (m0 : gMem) {res : Nat × Nat × gMem} (hk0 : gk c0 = 8) (hf : f_X8_knownTongs c0 u1 m0 = some res) : vx_Met l yX8_knownTongs (gWs yX8_knownTongs cX8_knownTongs 3 (some (.object "SugarTowers$Tongs"))) { frames := 6, cells := 1, slots := 6, locals := 100 } (va_Pc [.ref (X.1 + c0), .int u1] (gB X m0)) (gQTr X res) (gXC X res.1 res.2.2) 1 6 (gA X) :=
  gMetX (own := RX8) (by decide +kernel) rfl (Nat.le_of_ble_eq_true rfl) (fun p e s m args below meth c ls E hr hlocks hml hout hM hl => b_X8_knownTongs E hr hlocks hml hl0 hout (Nat.le_refl _) (Nat.le_refl _) (Nat.le_refl _) (Nat.le_refl _) hk0 hf hM va_S.rf hl)
def f_X8_tongsOf (c0 : Nat) (u1 : Int32) (u2 : Int32) (m0 : gMem) : Option (Nat × Int32 × gMem) := g2 (0 : Int32) (f_X8_knownTongs c0 u1 m0) (fun r3 m1 => if gk r3 = 6 then if u2 = (0 : Int32) then (some (0, (m1 r3 0), m1)) else (if u2 = (1 : Int32) then (some (0, (m1 r3 1), m1)) else (if u2 = (2 : Int32) then (some (0, (m1 r3 2), m1)) else (some (2, (0 : Int32), m1)))) else none)
set_option maxRecDepth 100000 in
set_option maxHeartbeats 4000000 in
theorem b_X8_tongsOf {p : Program} {l : Launch} {e : Env} {R : Room} {s : State} {m : MethodId} {args : Array Value} {below : List Frame} {meth : Method} {c : Code} {H : Heap} {locs : List Loc} {ls : Array Slot} {X : gX} (E : gEn p s m args c cX8_tongsOf RX8 X) (hr : meth.sig.returnType = (some .int)) (hlocks : meth.locks = false) (hml : c.maxLocals = 4) (hl0 : l.stackTraces = false) (hout : ∀ x ∈ c.exceptionTable.toList, False) (hRf : 7 ≤ R.frames) (hRl : 122 ≤ R.locals) (hRc : 2 ≤ R.cells) (hRs : 12 ≤ R.slots) {c0 : Nat} {u1 : Int32} {u2 : Int32} {m0 : gMem} {res : Nat × Int32 × gMem} (hk0 : gk c0 = 8) (hf : f_X8_tongsOf c0 u1 u2 m0 = some res) (hM : gM X m0 H) (hS : va_S (gA X) s.heap H locs) (hl : lv_has ls 4 [(0, .ref (X.1 + c0)), (1, .int u1), (2, .int u2)]) : W p l e R s m args below meth c H locs 0 0 (vx_MQ below (gQTi X res) (gXC X res.1 res.2.2) args s 2 12 (gA X)) (F0 m 0 ls []) := by
  obtain ⟨hx, hb⟩ := (⟨E.1, E.2.1⟩ : _ ∧ _)
  unfold f_X8_tongsOf at hf
  refine lv_aload_n hx hb dX8_tongsOf_0 rfl (lv_at hl 0 rfl) ?_
  refine lv_iload_n hx hb dX8_tongsOf_1 rfl (lv_at hl 1 rfl) ?_
  obtain ⟨e4, r3, m1, hqq2, hf5, hx6⟩ := g2_o hf
  refine ga_Tr (gr_VX (As := [.int u1]) (ci := 8) (rm := { frames := 6, cells := 1, slots := 6, locals := 100 }) E hml hl.1 (c_X8_knownTongs l X hl0 c0 u1 m0 hk0 hqq2) wt_X8_knownTongs wl_RX8_120 rfl hk0 (by decide) rfl rfl hM hS rfl rfl (Nat.le_trans (by decide) hRf) (Nat.le_trans (by decide) hRl) (Nat.le_trans (Nat.le_of_ble_eq_true rfl) hRc) (Nat.le_trans (Nat.le_of_ble_eq_true rfl) hRs) (Nat.le_of_ble_eq_true rfl) dX8_tongsOf_2 rfl) hout hlocks hS (Nat.le_of_ble_eq_true rfl) (Nat.le_of_ble_eq_true rfl) (fun h => by rw [hx6 h]; exact ⟨rfl, rfl⟩) (fun hz7 H locs hM hS => ?_)
  have hf := hf5 hz7
  obtain ⟨hg8, hf⟩ := g_ck hf
  refine lv_astore_n (lv' := [(3, .ref (X.1 + r3)), (0, .ref (X.1 + c0)), (1, .int u1), (2, .int u2)]) hx hb dX8_tongsOf_5 rfl hl (by decide) rfl (fun ls hl => ?_)
  refine lv_iload_n hx hb dX8_tongsOf_6 rfl (lv_at hl 3 rfl) ?_
  by_cases h10 : u2 = (0 : Int32)
  · have hf := g_t h10 hf
    refine lv_tableIn (tgt := 32) hx hb dX8_tongsOf_7 (by rw [h10]; decide) (by rw [h10]; decide) (by rw [h10]; rfl) (by decide) ?_
    refine lv_aload_n hx hb dX8_tongsOf_32 rfl (lv_at hl 0 rfl) ?_
    refine GX8_124 E hM hg8 dX8_tongsOf_33 ?_
    exact ge_Ti E hr hlocks hf hM hS (Nat.le_of_ble_eq_true rfl) (Nat.le_of_ble_eq_true rfl) dX8_tongsOf_36
  have hf := g_f h10 hf
  by_cases h11 : u2 = (1 : Int32)
  · have hf := g_t h11 hf
    refine lv_tableIn (tgt := 37) hx hb dX8_tongsOf_7 (by rw [h11]; decide) (by rw [h11]; decide) (by rw [h11]; rfl) (by decide) ?_
    refine lv_aload_n hx hb dX8_tongsOf_37 rfl (lv_at hl 0 rfl) ?_
    refine GX8_129 E hM hg8 dX8_tongsOf_38 ?_
    exact ge_Ti E hr hlocks hf hM hS (Nat.le_of_ble_eq_true rfl) (Nat.le_of_ble_eq_true rfl) dX8_tongsOf_41
  have hf := g_f h11 hf
  by_cases h12 : u2 = (2 : Int32)
  · have hf := g_t h12 hf
    refine lv_tableIn (tgt := 42) hx hb dX8_tongsOf_7 (by rw [h12]; decide) (by rw [h12]; decide) (by rw [h12]; rfl) (by decide) ?_
    refine lv_aload_n hx hb dX8_tongsOf_42 rfl (lv_at hl 0 rfl) ?_
    refine GX8_132 E hM hg8 dX8_tongsOf_43 ?_
    exact ge_Ti E hr hlocks hf hM hS (Nat.le_of_ble_eq_true rfl) (Nat.le_of_ble_eq_true rfl) dX8_tongsOf_46
  have hf := g_f h12 hf
  have ah10 := g_tn (z := 0) h10 rfl
  have ah11 := g_tn (z := 1) h11 rfl
  have ah12 := g_tn (z := 2) h12 rfl
  refine lv_tableOut (tgt := 47) hx hb dX8_tongsOf_7 (by omega) (by decide) ?_
  exact gth_2 (text := "no such number of tongs") E hl0 hout hlocks (hl.1.trans hml.symm) (by decide) hf hM hS (by decide) (Nat.le_trans (by decide) hRf) (Nat.le_trans (Nat.le_of_ble_eq_true rfl) hRl) (Nat.le_trans (Nat.le_of_ble_eq_true rfl) hRc) (Nat.le_trans (Nat.le_of_ble_eq_true rfl) hRs) (Nat.le_of_ble_eq_true rfl) (Nat.le_of_ble_eq_true rfl) dX8_tongsOf_47 dX8_tongsOf_50 dX8_tongsOf_51 dX8_tongsOf_53 dX8_tongsOf_56
theorem c_X8_tongsOf (l : Launch) (X : gX) (hl0 : l.stackTraces = false) (c0 : Nat) (u1 : Int32) (u2 : Int32) (m0 : gMem) {res : Nat × Int32 × gMem} (hk0 : gk c0 = 8) (hf : f_X8_tongsOf c0 u1 u2 m0 = some res) : vx_Met l yX8_tongsOf (gWs yX8_tongsOf cX8_tongsOf 4 (some .int)) { frames := 7, cells := 2, slots := 12, locals := 122 } (va_Pc [.ref (X.1 + c0), .int u1, .int u2] (gB X m0)) (gQTi X res) (gXC X res.1 res.2.2) 2 12 (gA X) :=
  gMetX (own := RX8) (by decide +kernel) rfl (Nat.le_of_ble_eq_true rfl) (fun p e s m args below meth c ls E hr hlocks hml hout hM hl => b_X8_tongsOf E hr hlocks hml hl0 hout (Nat.le_refl _) (Nat.le_refl _) (Nat.le_refl _) (Nat.le_refl _) hk0 hf hM va_S.rf hl)
def f_X8_tower (c0 : Nat) (m0 : gMem) : Option (Nat × Int32 × gMem) := if (m0 (c0 + 1) 8) < (6 : Int32) then (g1 (f_X1_keep (c0 + 106) (c0 + 1) m0) (fun r6 m4 => g1 (f_X2_addTower (c0 + 1) m4) (fun r9 m7 => some (0, r9, m7)))) else (g1 (f_X4_because (c0 + 431) (1 : Int32) (6 : Int32) m0) (fun r13 m11 => some (3, (0 : Int32), m11)))
set_option maxRecDepth 100000 in
set_option maxHeartbeats 4000000 in
theorem b_X8_tower {p : Program} {l : Launch} {e : Env} {R : Room} {s : State} {m : MethodId} {args : Array Value} {below : List Frame} {meth : Method} {c : Code} {H : Heap} {locs : List Loc} {ls : Array Slot} {X : gX} (E : gEn p s m args c cX8_tower RX8 X) (hr : meth.sig.returnType = (some .int)) (hlocks : meth.locks = false) (hml : c.maxLocals = 1) (hl0 : l.stackTraces = false) (hout : ∀ x ∈ c.exceptionTable.toList, False) (hRf : 6 ≤ R.frames) (hRl : 124 ≤ R.locals) (hRc : 1 ≤ R.cells) (hRs : 6 ≤ R.slots) {c0 : Nat} {m0 : gMem} {res : Nat × Int32 × gMem} (hk0 : gk c0 = 8) (hf : f_X8_tower c0 m0 = some res) (hM : gM X m0 H) (hS : va_S (gA X) s.heap H locs) (hl : lv_has ls 1 [(0, .ref (X.1 + c0))]) : W p l e R s m args below meth c H locs 0 0 (vx_MQ below (gQTi X res) (gXC X res.1 res.2.2) args s 1 6 (gA X)) (F0 m 0 ls []) := by
  obtain ⟨hx, hb⟩ := (⟨E.1, E.2.1⟩ : _ ∧ _)
  unfold f_X8_tower at hf
  refine lv_aload_n hx hb dX8_tower_0 rfl (lv_at hl 0 rfl) ?_
  refine GX8_10 E hM hk0 dX8_tower_1 ?_
  have hg1 : gk (c0 + 1) = 2 := gkf_8_0 hk0
  refine GX8_147 E hM hg1 dX8_tower_4 ?_
  refine lv_bipush (v := (6 : Int32)) hx hb dX8_tower_7 (by decide) ?_
  refine lv_icmp_lt (tgt := 33) hx hb dX8_tower_9 (by decide) (fun h2 => ?_) (fun h2 => ?_)
  · have hf := g_t h2 hf
    refine lv_aload_n hx hb dX8_tower_33 rfl (lv_at hl 0 rfl) ?_
    refine GX8_25 E hM hk0 dX8_tower_34 ?_
    have hg3 : gk (c0 + 106) = 1 := gkf_8_4 hk0
    refine lv_aload_n hx hb dX8_tower_37 rfl (lv_at hl 0 rfl) ?_
    refine GX8_10 E hM hk0 dX8_tower_38 ?_
    obtain ⟨r6, m4, hqq5, hf⟩ := g1_o hf
    refine ga_v (gr_V (As := [.ref (X.1 + (c0 + 1))]) (ci := 1) (rm := { frames := 3, cells := 0, slots := 0, locals := 103 }) E hml hl.1 (c_X1_keep l X (c0 + 106) (c0 + 1) m0 hg3 hg1 hqq5) wt_X1_keep wl_RX8_66 rfl hg3 (by decide) rfl rfl hM hS rfl rfl (Nat.le_trans (by decide) hRf) (Nat.le_trans (by decide) hRl) (Nat.le_trans (Nat.le_of_ble_eq_true rfl) hRc) (Nat.le_trans (Nat.le_of_ble_eq_true rfl) hRs) (Nat.le_of_ble_eq_true rfl) dX8_tower_41 rfl) hS (fun H locs hM hS => ?_)
    refine lv_aload_n hx hb dX8_tower_44 rfl (lv_at hl 0 rfl) ?_
    refine GX8_10 E hM hk0 dX8_tower_45 ?_
    obtain ⟨r9, m7, hqq8, hf⟩ := g1_o hf
    refine ga_i (gr_V (As := []) (ci := 2) (rm := { frames := 1, cells := 0, slots := 0, locals := 20 }) E hml hl.1 (c_X2_addTower l X (c0 + 1) m4 hg1 hqq8) wt_X2_addTower wl_RX8_152 rfl hg1 (by decide) rfl rfl hM hS rfl rfl (Nat.le_trans (by decide) hRf) (Nat.le_trans (by decide) hRl) (Nat.le_trans (Nat.le_of_ble_eq_true rfl) hRc) (Nat.le_trans (Nat.le_of_ble_eq_true rfl) hRs) (Nat.le_of_ble_eq_true rfl) dX8_tower_48 rfl) hS (fun H locs hM hS => ?_)
    exact ge_Ti E hr hlocks hf hM hS (Nat.le_of_ble_eq_true rfl) (Nat.le_of_ble_eq_true rfl) dX8_tower_51
  · have hf := g_f h2 hf
    refine lv_aload_n hx hb dX8_tower_12 rfl (lv_at hl 0 rfl) ?_
    refine GX8_43 E hM hk0 dX8_tower_13 ?_
    have hg10 : gk (c0 + 431) = 4 := gkf_8_7 hk0
    refine lv_iconst (v := (1 : Int32)) hx hb dX8_tower_16 (by decide) ?_
    refine lv_bipush (v := (6 : Int32)) hx hb dX8_tower_17 (by decide) ?_
    obtain ⟨r13, m11, hqq12, hf⟩ := g1_o hf
    refine ga_i (gr_V (As := [.int (1 : Int32), .int (6 : Int32)]) (ci := 4) (rm := { frames := 0, cells := 0, slots := 0, locals := 0 }) E hml hl.1 (c_X4_because l X (c0 + 431) (1 : Int32) (6 : Int32) m0 hg10 hqq12) wt_X4_because wl_RX8_112 rfl hg10 (by decide) rfl rfl hM hS rfl rfl (Nat.le_trans (by decide) hRf) (Nat.le_trans (by decide) hRl) (Nat.le_trans (Nat.le_of_ble_eq_true rfl) hRc) (Nat.le_trans (Nat.le_of_ble_eq_true rfl) hRs) (Nat.le_of_ble_eq_true rfl) dX8_tower_19 rfl) hS (fun H locs hM hS => ?_)
    refine lv_pop hx hb dX8_tower_22 rfl ?_
    exact gth_3 (text := "no room for a tower") E hl0 hout hlocks (hl.1.trans hml.symm) (by decide) hf hM hS (by decide) (Nat.le_trans (by decide) hRf) (Nat.le_trans (Nat.le_of_ble_eq_true rfl) hRl) (Nat.le_trans (Nat.le_of_ble_eq_true rfl) hRc) (Nat.le_trans (Nat.le_of_ble_eq_true rfl) hRs) (Nat.le_of_ble_eq_true rfl) (Nat.le_of_ble_eq_true rfl) dX8_tower_23 dX8_tower_26 dX8_tower_27 dX8_tower_29 dX8_tower_32
theorem c_X8_tower (l : Launch) (X : gX) (hl0 : l.stackTraces = false) (c0 : Nat) (m0 : gMem) {res : Nat × Int32 × gMem} (hk0 : gk c0 = 8) (hf : f_X8_tower c0 m0 = some res) : vx_Met l yX8_tower (gWs yX8_tower cX8_tower 1 (some .int)) { frames := 6, cells := 1, slots := 6, locals := 124 } (va_Pc [.ref (X.1 + c0)] (gB X m0)) (gQTi X res) (gXC X res.1 res.2.2) 1 6 (gA X) :=
  gMetX (own := RX8) (by decide +kernel) rfl (Nat.le_of_ble_eq_true rfl) (fun p e s m args below meth c ls E hr hlocks hml hout hM hl => b_X8_tower E hr hlocks hml hl0 hout (Nat.le_refl _) (Nat.le_refl _) (Nat.le_refl _) (Nat.le_refl _) hk0 hf hM va_S.rf hl)
def f_X8_knownTower (c0 : Nat) (u1 : Int32) (m0 : gMem) : Option (Nat × Nat × gMem) := g1 (f_X2_towerAt (c0 + 1) u1 m0) (fun r4 m2 => gnl r4 (some (1, 0, m2)) (fun z5 => if gk z5 = 7 then some (0, z5, m2) else none))
set_option maxRecDepth 100000 in
set_option maxHeartbeats 4000000 in
theorem b_X8_knownTower {p : Program} {l : Launch} {e : Env} {R : Room} {s : State} {m : MethodId} {args : Array Value} {below : List Frame} {meth : Method} {c : Code} {H : Heap} {locs : List Loc} {ls : Array Slot} {X : gX} (E : gEn p s m args c cX8_knownTower RX8 X) (hr : meth.sig.returnType = (some (.object "SugarTowers$Tower"))) (hlocks : meth.locks = false) (hml : c.maxLocals = 3) (hl0 : l.stackTraces = false) (hout : ∀ x ∈ c.exceptionTable.toList, False) (hRf : 6 ≤ R.frames) (hRl : 100 ≤ R.locals) (hRc : 1 ≤ R.cells) (hRs : 6 ≤ R.slots) {c0 : Nat} {u1 : Int32} {m0 : gMem} {res : Nat × Nat × gMem} (hk0 : gk c0 = 8) (hf : f_X8_knownTower c0 u1 m0 = some res) (hM : gM X m0 H) (hS : va_S (gA X) s.heap H locs) (hl : lv_has ls 3 [(0, .ref (X.1 + c0)), (1, .int u1)]) : W p l e R s m args below meth c H locs 0 0 (vx_MQ below (gQTr X res) (gXC X res.1 res.2.2) args s 1 6 (gA X)) (F0 m 0 ls []) := by
  obtain ⟨hx, hb⟩ := (⟨E.1, E.2.1⟩ : _ ∧ _)
  unfold f_X8_knownTower at hf
  refine lv_aload_n hx hb dX8_knownTower_0 rfl (lv_at hl 0 rfl) ?_
  refine GX8_10 E hM hk0 dX8_knownTower_1 ?_
  have hg1 : gk (c0 + 1) = 2 := gkf_8_0 hk0
  refine lv_iload_n hx hb dX8_knownTower_4 rfl (lv_at hl 1 rfl) ?_
  obtain ⟨r4, m2, hqq3, hf⟩ := g1_o hf
  refine ga_o (gr_V (As := [.int u1]) (ci := 2) (rm := { frames := 0, cells := 0, slots := 0, locals := 0 }) E hml hl.1 (c_X2_towerAt l X (c0 + 1) u1 m0 hg1 hqq3) wt_X2_towerAt wl_RX8_397 rfl hg1 (by decide) rfl rfl hM hS rfl rfl (Nat.le_trans (by decide) hRf) (Nat.le_trans (by decide) hRl) (Nat.le_trans (Nat.le_of_ble_eq_true rfl) hRc) (Nat.le_trans (Nat.le_of_ble_eq_true rfl) hRs) (Nat.le_of_ble_eq_true rfl) dX8_knownTower_5 rfl) hS (fun H locs hM hS => ?_)
  cases r4 with
  | none =>
    have hf := gnl_n hf
    refine gW_null ?_
    refine lv_astore_nN (lv' := [(2, .null), (0, .ref (X.1 + c0)), (1, .int u1)]) hx hb dX8_knownTower_8 rfl hl (by decide) rfl (fun ls hl => ?_)
    refine lv_aload_nN hx hb dX8_knownTower_9 rfl (lv_at hl 0 rfl) ?_
    refine lv_ifnonnullN hx hb dX8_knownTower_10 ?_
    exact gth_1w (text := "no such tower") E hl0 hout hlocks (hl.1.trans hml.symm) (by decide) hf hM hS (by decide) (Nat.le_trans (by decide) hRf) (Nat.le_trans (Nat.le_of_ble_eq_true rfl) hRl) (Nat.le_trans (Nat.le_of_ble_eq_true rfl) hRc) (Nat.le_trans (Nat.le_of_ble_eq_true rfl) hRs) (Nat.le_of_ble_eq_true rfl) (Nat.le_of_ble_eq_true rfl) dX8_knownTower_13 dX8_knownTower_16 dX8_knownTower_17 dX8_knownTower_20 dX8_knownTower_23
  | some z5 =>
    have hf := gnl_s hf
    obtain ⟨hg6, hf⟩ := g_ck hf
    refine gW_some ?_
    refine lv_astore_n (lv' := [(2, .ref (X.1 + z5)), (0, .ref (X.1 + c0)), (1, .int u1)]) hx hb dX8_knownTower_8 rfl hl (by decide) rfl (fun ls hl => ?_)
    refine lv_aload_n hx hb dX8_knownTower_9 rfl (lv_at hl 0 rfl) ?_
    refine lv_ifnonnull (tgt := 24) hx hb dX8_knownTower_10 (by decide) ?_
    refine lv_aload_n hx hb dX8_knownTower_24 rfl (lv_at hl 0 rfl) ?_
    exact ge_Tr E hr hlocks hf hM hS (Nat.le_of_ble_eq_true rfl) (Nat.le_of_ble_eq_true rfl) dX8_knownTower_25
theorem c_X8_knownTower (l : Launch) (X : gX) (hl0 : l.stackTraces = false) (c0 : Nat) (u1 : Int32) (m0 : gMem) {res : Nat × Nat × gMem} (hk0 : gk c0 = 8) (hf : f_X8_knownTower c0 u1 m0 = some res) : vx_Met l yX8_knownTower (gWs yX8_knownTower cX8_knownTower 3 (some (.object "SugarTowers$Tower"))) { frames := 6, cells := 1, slots := 6, locals := 100 } (va_Pc [.ref (X.1 + c0), .int u1] (gB X m0)) (gQTr X res) (gXC X res.1 res.2.2) 1 6 (gA X) :=
  gMetX (own := RX8) (by decide +kernel) rfl (Nat.le_of_ble_eq_true rfl) (fun p e s m args below meth c ls E hr hlocks hml hout hM hl => b_X8_knownTower E hr hlocks hml hl0 hout (Nat.le_refl _) (Nat.le_refl _) (Nat.le_refl _) (Nat.le_refl _) hk0 hf hM va_S.rf hl)
def f_X8_reasonAgainstCourse (c0 : Nat) (c1 : Nat) (u2 : Int32) (u3 : Int32) (u4 : Int32) (u5 : Int32) (m0 : gMem) : Option (Nat × Int32 × gMem) := g2 (0 : Int32) (f_X8_knownTower c0 u2 m0) (fun r3 m1 => if gk r3 = 7 then g2 (0 : Int32) (f_X8_knownTongs c0 u3 m1) (fun r11 m9 => if gk r11 = 6 then g1 (f_X8_isCourse u4 u5 m9) (fun r19 m17 => if r19 = (0 : Int32) then (some (2, (0 : Int32), m17)) else (g1 (f_X2_reasonAgainstLaying (c0 + 1) c1 u2 u3 u4 u5 m17) (fun r24 m22 => some (0, r24, m22)))) else none) else none)
set_option maxRecDepth 100000 in
set_option maxHeartbeats 4000000 in
theorem b_X8_reasonAgainstCourse {p : Program} {l : Launch} {e : Env} {R : Room} {s : State} {m : MethodId} {args : Array Value} {below : List Frame} {meth : Method} {c : Code} {H : Heap} {locs : List Loc} {ls : Array Slot} {X : gX} (E : gEn p s m args c cX8_reasonAgainstCourse RX8 X) (hr : meth.sig.returnType = (some .int)) (hlocks : meth.locks = false) (hml : c.maxLocals = 6) (hl0 : l.stackTraces = false) (hout : ∀ x ∈ c.exceptionTable.toList, False) (hRf : 7 ≤ R.frames) (hRl : 136 ≤ R.locals) (hRc : 3 ≤ R.cells) (hRs : 18 ≤ R.slots) {c0 : Nat} {c1 : Nat} {u2 : Int32} {u3 : Int32} {u4 : Int32} {u5 : Int32} {m0 : gMem} {res : Nat × Int32 × gMem} (hk0 : gk c0 = 8) (hk1 : gk c1 = 4) (hf : f_X8_reasonAgainstCourse c0 c1 u2 u3 u4 u5 m0 = some res) (hM : gM X m0 H) (hS : va_S (gA X) s.heap H locs) (hl : lv_has ls 6 [(0, .ref (X.1 + c0)), (1, .ref (X.1 + c1)), (2, .int u2), (3, .int u3), (4, .int u4), (5, .int u5)]) : W p l e R s m args below meth c H locs 0 0 (vx_MQ below (gQTi X res) (gXC X res.1 res.2.2) args s 3 18 (gA X)) (F0 m 0 ls []) := by
  obtain ⟨hx, hb⟩ := (⟨E.1, E.2.1⟩ : _ ∧ _)
  unfold f_X8_reasonAgainstCourse at hf
  refine lv_aload_n hx hb dX8_reasonAgainstCourse_0 rfl (lv_at hl 0 rfl) ?_
  refine lv_iload_n hx hb dX8_reasonAgainstCourse_1 rfl (lv_at hl 2 rfl) ?_
  obtain ⟨e4, r3, m1, hqq2, hf5, hx6⟩ := g2_o hf
  refine ga_Tr (gr_VX (As := [.int u2]) (ci := 8) (rm := { frames := 6, cells := 1, slots := 6, locals := 100 }) E hml hl.1 (c_X8_knownTower l X hl0 c0 u2 m0 hk0 hqq2) wt_X8_knownTower wl_RX8_166 rfl hk0 (by decide) rfl rfl hM hS rfl rfl (Nat.le_trans (by decide) hRf) (Nat.le_trans (by decide) hRl) (Nat.le_trans (Nat.le_of_ble_eq_true rfl) hRc) (Nat.le_trans (Nat.le_of_ble_eq_true rfl) hRs) (Nat.le_of_ble_eq_true rfl) dX8_reasonAgainstCourse_2 rfl) hout hlocks hS (Nat.le_of_ble_eq_true rfl) (Nat.le_of_ble_eq_true rfl) (fun h => by rw [hx6 h]; exact ⟨rfl, rfl⟩) (fun hz7 H locs hM hS => ?_)
  have hf := hf5 hz7
  obtain ⟨hg8, hf⟩ := g_ck hf
  refine lv_pop hx hb dX8_reasonAgainstCourse_5 rfl ?_
  refine lv_aload_n hx hb dX8_reasonAgainstCourse_6 rfl (lv_at hl 0 rfl) ?_
  refine lv_iload_n hx hb dX8_reasonAgainstCourse_7 rfl (lv_at hl 3 rfl) ?_
  obtain ⟨e12, r11, m9, hqq10, hf13, hx14⟩ := g2_o hf
  refine ga_Tr (gr_VX (As := [.int u3]) (ci := 8) (rm := { frames := 6, cells := 1, slots := 6, locals := 100 }) E hml hl.1 (c_X8_knownTongs l X hl0 c0 u3 m1 hk0 hqq10) wt_X8_knownTongs wl_RX8_120 rfl hk0 (by decide) rfl rfl hM hS rfl rfl (Nat.le_trans (by decide) hRf) (Nat.le_trans (by decide) hRl) (Nat.le_trans (Nat.le_of_ble_eq_true rfl) hRc) (Nat.le_trans (Nat.le_of_ble_eq_true rfl) hRs) (Nat.le_of_ble_eq_true rfl) dX8_reasonAgainstCourse_8 rfl) hout hlocks hS (Nat.le_of_ble_eq_true rfl) (Nat.le_of_ble_eq_true rfl) (fun h => by rw [hx14 h]; exact ⟨rfl, rfl⟩) (fun hz15 H locs hM hS => ?_)
  have hf := hf13 hz15
  obtain ⟨hg16, hf⟩ := g_ck hf
  refine lv_pop hx hb dX8_reasonAgainstCourse_11 rfl ?_
  refine lv_iload hx hb dX8_reasonAgainstCourse_12 (lv_at hl 4 rfl) ?_
  refine lv_iload hx hb dX8_reasonAgainstCourse_14 (lv_at hl 5 rfl) ?_
  obtain ⟨r19, m17, hqq18, hf⟩ := g1_o hf
  refine ga_i (gr_S (As := [.int u4, .int u5]) (rm := { frames := 1, cells := 0, slots := 0, locals := 22 }) E hml hl.1 (c_X8_isCourse l X u4 u5 m9 hqq18) wt_X8_isCourse wl_RX8_417 rfl hM hS rfl rfl (Nat.le_trans (by decide) hRf) (Nat.le_trans (by decide) hRl) (Nat.le_trans (Nat.le_of_ble_eq_true rfl) hRc) (Nat.le_trans (Nat.le_of_ble_eq_true rfl) hRs) (Nat.le_of_ble_eq_true rfl) dX8_reasonAgainstCourse_16 rfl) hS (fun H locs hM hS => ?_)
  refine lv_if_ne (tgt := 32) hx hb dX8_reasonAgainstCourse_19 (by decide) (fun h20 => ?_) (fun h20 => ?_)
  · have hf := g_f h20 hf
    refine lv_aload_n hx hb dX8_reasonAgainstCourse_32 rfl (lv_at hl 0 rfl) ?_
    refine GX8_10 E hM hk0 dX8_reasonAgainstCourse_33 ?_
    have hg21 : gk (c0 + 1) = 2 := gkf_8_0 hk0
    refine lv_aload_n hx hb dX8_reasonAgainstCourse_36 rfl (lv_at hl 1 rfl) ?_
    refine lv_iload_n hx hb dX8_reasonAgainstCourse_37 rfl (lv_at hl 2 rfl) ?_
    refine lv_iload_n hx hb dX8_reasonAgainstCourse_38 rfl (lv_at hl 3 rfl) ?_
    refine lv_iload hx hb dX8_reasonAgainstCourse_39 (lv_at hl 4 rfl) ?_
    refine lv_iload hx hb dX8_reasonAgainstCourse_41 (lv_at hl 5 rfl) ?_
    obtain ⟨r24, m22, hqq23, hf⟩ := g1_o hf
    refine ga_i (gr_V (As := [.ref (X.1 + c1), .int u2, .int u3, .int u4, .int u5]) (ci := 2) (rm := { frames := 3, cells := 0, slots := 0, locals := 107 }) E hml hl.1 (c_X2_reasonAgainstLaying l X (c0 + 1) c1 u2 u3 u4 u5 m17 hg21 hk1 hqq23) wt_X2_reasonAgainstLaying wl_RX8_420 rfl hg21 (by decide) rfl rfl hM hS rfl rfl (Nat.le_trans (by decide) hRf) (Nat.le_trans (by decide) hRl) (Nat.le_trans (Nat.le_of_ble_eq_true rfl) hRc) (Nat.le_trans (Nat.le_of_ble_eq_true rfl) hRs) (Nat.le_of_ble_eq_true rfl) dX8_reasonAgainstCourse_43 rfl) hS (fun H locs hM hS => ?_)
    exact ge_Ti E hr hlocks hf hM hS (Nat.le_of_ble_eq_true rfl) (Nat.le_of_ble_eq_true rfl) dX8_reasonAgainstCourse_46
  · have hf := g_t h20 hf
    exact gth_2 (text := "the grade or the number of cubes is out of range") E hl0 hout hlocks (hl.1.trans hml.symm) (by decide) hf hM hS (by decide) (Nat.le_trans (by decide) hRf) (Nat.le_trans (Nat.le_of_ble_eq_true rfl) hRl) (Nat.le_trans (Nat.le_of_ble_eq_true rfl) hRc) (Nat.le_trans (Nat.le_of_ble_eq_true rfl) hRs) (Nat.le_of_ble_eq_true rfl) (Nat.le_of_ble_eq_true rfl) dX8_reasonAgainstCourse_22 dX8_reasonAgainstCourse_25 dX8_reasonAgainstCourse_26 dX8_reasonAgainstCourse_28 dX8_reasonAgainstCourse_31
theorem c_X8_reasonAgainstCourse (l : Launch) (X : gX) (hl0 : l.stackTraces = false) (c0 : Nat) (c1 : Nat) (u2 : Int32) (u3 : Int32) (u4 : Int32) (u5 : Int32) (m0 : gMem) {res : Nat × Int32 × gMem} (hk0 : gk c0 = 8) (hk1 : gk c1 = 4) (hf : f_X8_reasonAgainstCourse c0 c1 u2 u3 u4 u5 m0 = some res) : vx_Met l yX8_reasonAgainstCourse (gWs yX8_reasonAgainstCourse cX8_reasonAgainstCourse 6 (some .int)) { frames := 7, cells := 3, slots := 18, locals := 136 } (va_Pc [.ref (X.1 + c0), .ref (X.1 + c1), .int u2, .int u3, .int u4, .int u5] (gB X m0)) (gQTi X res) (gXC X res.1 res.2.2) 3 18 (gA X) :=
  gMetX (own := RX8) (by decide +kernel) rfl (Nat.le_of_ble_eq_true rfl) (fun p e s m args below meth c ls E hr hlocks hml hout hM hl => b_X8_reasonAgainstCourse E hr hlocks hml hl0 hout (Nat.le_refl _) (Nat.le_refl _) (Nat.le_refl _) (Nat.le_refl _) hk0 hk1 hf hM va_S.rf hl)
def f_X8_lay (c0 : Nat) (u1 : Int32) (u2 : Int32) (u3 : Int32) (u4 : Int32) (m0 : gMem) : Option (Nat × Int32 × gMem) := g2 (0 : Int32) (f_X8_reasonAgainstCourse c0 (c0 + 431) u1 u2 u3 u4 m0) (fun r4 m2 => if r4 = (0 : Int32) then (g1 (f_X1_keep (c0 + 106) (c0 + 1) m2) (fun r14 m12 => g1 (f_X2_layCourse (c0 + 1) u1 u2 u3 u4 m12) (fun r17 m15 => some (0, r17, m15)))) else (some (3, (0 : Int32), m2)))
set_option maxRecDepth 100000 in
set_option maxHeartbeats 4000000 in
theorem b_X8_lay {p : Program} {l : Launch} {e : Env} {R : Room} {s : State} {m : MethodId} {args : Array Value} {below : List Frame} {meth : Method} {c : Code} {H : Heap} {locs : List Loc} {ls : Array Slot} {X : gX} (E : gEn p s m args c cX8_lay RX8 X) (hr : meth.sig.returnType = (some .int)) (hlocks : meth.locks = false) (hml : c.maxLocals = 5) (hl0 : l.stackTraces = false) (hout : ∀ x ∈ c.exceptionTable.toList, False) (hRf : 8 ≤ R.frames) (hRl : 161 ≤ R.locals) (hRc : 4 ≤ R.cells) (hRs : 24 ≤ R.slots) {c0 : Nat} {u1 : Int32} {u2 : Int32} {u3 : Int32} {u4 : Int32} {m0 : gMem} {res : Nat × Int32 × gMem} (hk0 : gk c0 = 8) (hf : f_X8_lay c0 u1 u2 u3 u4 m0 = some res) (hM : gM X m0 H) (hS : va_S (gA X) s.heap H locs) (hl : lv_has ls 5 [(0, .ref (X.1 + c0)), (1, .int u1), (2, .int u2), (3, .int u3), (4, .int u4)]) : W p l e R s m args below meth c H locs 0 0 (vx_MQ below (gQTi X res) (gXC X res.1 res.2.2) args s 4 24 (gA X)) (F0 m 0 ls []) := by
  obtain ⟨hx, hb⟩ := (⟨E.1, E.2.1⟩ : _ ∧ _)
  unfold f_X8_lay at hf
  refine lv_aload_n hx hb dX8_lay_0 rfl (lv_at hl 0 rfl) ?_
  refine lv_aload_n hx hb dX8_lay_1 rfl (lv_at hl 0 rfl) ?_
  refine GX8_43 E hM hk0 dX8_lay_2 ?_
  have hg1 : gk (c0 + 431) = 4 := gkf_8_7 hk0
  refine lv_iload_n hx hb dX8_lay_5 rfl (lv_at hl 1 rfl) ?_
  refine lv_iload_n hx hb dX8_lay_6 rfl (lv_at hl 2 rfl) ?_
  refine lv_iload_n hx hb dX8_lay_7 rfl (lv_at hl 3 rfl) ?_
  refine lv_iload hx hb dX8_lay_8 (lv_at hl 4 rfl) ?_
  obtain ⟨e5, r4, m2, hqq3, hf6, hx7⟩ := g2_o hf
  refine ga_Ti (gr_VX (As := [.ref (X.1 + (c0 + 431)), .int u1, .int u2, .int u3, .int u4]) (ci := 8) (rm := { frames := 7, cells := 3, slots := 18, locals := 136 }) E hml hl.1 (c_X8_reasonAgainstCourse l X hl0 c0 (c0 + 431) u1 u2 u3 u4 m0 hk0 hg1 hqq3) wt_X8_reasonAgainstCourse wl_RX8_156 rfl hk0 (by decide) rfl rfl hM hS rfl rfl (Nat.le_trans (by decide) hRf) (Nat.le_trans (by decide) hRl) (Nat.le_trans (Nat.le_of_ble_eq_true rfl) hRc) (Nat.le_trans (Nat.le_of_ble_eq_true rfl) hRs) (Nat.le_of_ble_eq_true rfl) dX8_lay_10 rfl) hout hlocks hS (Nat.le_of_ble_eq_true rfl) (Nat.le_of_ble_eq_true rfl) (fun h => by rw [hx7 h]; exact ⟨rfl, rfl⟩) (fun hz8 H locs hM hS => ?_)
  have hf := hf6 hz8
  refine lv_if_eq (tgt := 26) hx hb dX8_lay_13 (by decide) (fun h9 => ?_) (fun h9 => ?_)
  · have hf := g_t h9 hf
    refine lv_aload_n hx hb dX8_lay_26 rfl (lv_at hl 0 rfl) ?_
    refine GX8_25 E hM hk0 dX8_lay_27 ?_
    have hg10 : gk (c0 + 106) = 1 := gkf_8_4 hk0
    refine lv_aload_n hx hb dX8_lay_30 rfl (lv_at hl 0 rfl) ?_
    refine GX8_10 E hM hk0 dX8_lay_31 ?_
    have hg11 : gk (c0 + 1) = 2 := gkf_8_0 hk0
    obtain ⟨r14, m12, hqq13, hf⟩ := g1_o hf
    refine ga_v (gr_V (As := [.ref (X.1 + (c0 + 1))]) (ci := 1) (rm := { frames := 3, cells := 0, slots := 0, locals := 103 }) E hml hl.1 (c_X1_keep l X (c0 + 106) (c0 + 1) m2 hg10 hg11 hqq13) wt_X1_keep wl_RX8_66 rfl hg10 (by decide) rfl rfl hM hS rfl rfl (Nat.le_trans (by decide) hRf) (Nat.le_trans (by decide) hRl) (Nat.le_trans (Nat.le_of_ble_eq_true rfl) hRc) (Nat.le_trans (Nat.le_of_ble_eq_true rfl) hRs) (Nat.le_of_ble_eq_true rfl) dX8_lay_34 rfl) hS (fun H locs hM hS => ?_)
    refine lv_aload_n hx hb dX8_lay_37 rfl (lv_at hl 0 rfl) ?_
    refine GX8_10 E hM hk0 dX8_lay_38 ?_
    refine lv_iload_n hx hb dX8_lay_41 rfl (lv_at hl 1 rfl) ?_
    refine lv_iload_n hx hb dX8_lay_42 rfl (lv_at hl 2 rfl) ?_
    refine lv_iload_n hx hb dX8_lay_43 rfl (lv_at hl 3 rfl) ?_
    refine lv_iload hx hb dX8_lay_44 (lv_at hl 4 rfl) ?_
    obtain ⟨r17, m15, hqq16, hf⟩ := g1_o hf
    refine ga_i (gr_V (As := [.int u1, .int u2, .int u3, .int u4]) (ci := 2) (rm := { frames := 1, cells := 0, slots := 0, locals := 23 }) E hml hl.1 (c_X2_layCourse l X (c0 + 1) u1 u2 u3 u4 m12 hg11 hqq16) wt_X2_layCourse wl_RX8_162 rfl hg11 (by decide) rfl rfl hM hS rfl rfl (Nat.le_trans (by decide) hRf) (Nat.le_trans (by decide) hRl) (Nat.le_trans (Nat.le_of_ble_eq_true rfl) hRc) (Nat.le_trans (Nat.le_of_ble_eq_true rfl) hRs) (Nat.le_of_ble_eq_true rfl) dX8_lay_46 rfl) hS (fun H locs hM hS => ?_)
    exact ge_Ti E hr hlocks hf hM hS (Nat.le_of_ble_eq_true rfl) (Nat.le_of_ble_eq_true rfl) dX8_lay_49
  · have hf := g_f h9 hf
    exact gth_3 (text := "the course cannot be laid") E hl0 hout hlocks (hl.1.trans hml.symm) (by decide) hf hM hS (by decide) (Nat.le_trans (by decide) hRf) (Nat.le_trans (Nat.le_of_ble_eq_true rfl) hRl) (Nat.le_trans (Nat.le_of_ble_eq_true rfl) hRc) (Nat.le_trans (Nat.le_of_ble_eq_true rfl) hRs) (Nat.le_of_ble_eq_true rfl) (Nat.le_of_ble_eq_true rfl) dX8_lay_16 dX8_lay_19 dX8_lay_20 dX8_lay_22 dX8_lay_25
theorem c_X8_lay (l : Launch) (X : gX) (hl0 : l.stackTraces = false) (c0 : Nat) (u1 : Int32) (u2 : Int32) (u3 : Int32) (u4 : Int32) (m0 : gMem) {res : Nat × Int32 × gMem} (hk0 : gk c0 = 8) (hf : f_X8_lay c0 u1 u2 u3 u4 m0 = some res) : vx_Met l yX8_lay (gWs yX8_lay cX8_lay 5 (some .int)) { frames := 8, cells := 4, slots := 24, locals := 161 } (va_Pc [.ref (X.1 + c0), .int u1, .int u2, .int u3, .int u4] (gB X m0)) (gQTi X res) (gXC X res.1 res.2.2) 4 24 (gA X) :=
  gMetX (own := RX8) (by decide +kernel) rfl (Nat.le_of_ble_eq_true rfl) (fun p e s m args below meth c ls E hr hlocks hml hout hM hl => b_X8_lay E hr hlocks hml hl0 hout (Nat.le_refl _) (Nat.le_refl _) (Nat.le_refl _) (Nat.le_refl _) hk0 hf hM va_S.rf hl)
def f_X8_why (c0 : Nat) (u1 : Int32) (u2 : Int32) (u3 : Int32) (u4 : Int32) (m0 : gMem) : Option (Nat × Int32 × gMem) := g2 (0 : Int32) (f_X8_reasonAgainstCourse c0 (c0 + 432) u1 u2 u3 u4 m0) (fun r4 m2 => some (0, r4, m2))
set_option maxRecDepth 100000 in
set_option maxHeartbeats 4000000 in
theorem b_X8_why {p : Program} {l : Launch} {e : Env} {R : Room} {s : State} {m : MethodId} {args : Array Value} {below : List Frame} {meth : Method} {c : Code} {H : Heap} {locs : List Loc} {ls : Array Slot} {X : gX} (E : gEn p s m args c cX8_why RX8 X) (hr : meth.sig.returnType = (some .int)) (hlocks : meth.locks = false) (hml : c.maxLocals = 5) (hl0 : l.stackTraces = false) (hout : ∀ x ∈ c.exceptionTable.toList, False) (hRf : 8 ≤ R.frames) (hRl : 161 ≤ R.locals) (hRc : 3 ≤ R.cells) (hRs : 18 ≤ R.slots) {c0 : Nat} {u1 : Int32} {u2 : Int32} {u3 : Int32} {u4 : Int32} {m0 : gMem} {res : Nat × Int32 × gMem} (hk0 : gk c0 = 8) (hf : f_X8_why c0 u1 u2 u3 u4 m0 = some res) (hM : gM X m0 H) (hS : va_S (gA X) s.heap H locs) (hl : lv_has ls 5 [(0, .ref (X.1 + c0)), (1, .int u1), (2, .int u2), (3, .int u3), (4, .int u4)]) : W p l e R s m args below meth c H locs 0 0 (vx_MQ below (gQTi X res) (gXC X res.1 res.2.2) args s 3 18 (gA X)) (F0 m 0 ls []) := by
  obtain ⟨hx, hb⟩ := (⟨E.1, E.2.1⟩ : _ ∧ _)
  unfold f_X8_why at hf
  refine lv_aload_n hx hb dX8_why_0 rfl (lv_at hl 0 rfl) ?_
  refine lv_aload_n hx hb dX8_why_1 rfl (lv_at hl 0 rfl) ?_
  refine GX8_47 E hM hk0 dX8_why_2 ?_
  have hg1 : gk (c0 + 432) = 4 := gkf_8_8 hk0
  refine lv_iload_n hx hb dX8_why_5 rfl (lv_at hl 1 rfl) ?_
  refine lv_iload_n hx hb dX8_why_6 rfl (lv_at hl 2 rfl) ?_
  refine lv_iload_n hx hb dX8_why_7 rfl (lv_at hl 3 rfl) ?_
  refine lv_iload hx hb dX8_why_8 (lv_at hl 4 rfl) ?_
  obtain ⟨e5, r4, m2, hqq3, hf6, hx7⟩ := g2_o hf
  refine ga_Ti (gr_VX (As := [.ref (X.1 + (c0 + 432)), .int u1, .int u2, .int u3, .int u4]) (ci := 8) (rm := { frames := 7, cells := 3, slots := 18, locals := 136 }) E hml hl.1 (c_X8_reasonAgainstCourse l X hl0 c0 (c0 + 432) u1 u2 u3 u4 m0 hk0 hg1 hqq3) wt_X8_reasonAgainstCourse wl_RX8_156 rfl hk0 (by decide) rfl rfl hM hS rfl rfl (Nat.le_trans (by decide) hRf) (Nat.le_trans (by decide) hRl) (Nat.le_trans (Nat.le_of_ble_eq_true rfl) hRc) (Nat.le_trans (Nat.le_of_ble_eq_true rfl) hRs) (Nat.le_of_ble_eq_true rfl) dX8_why_10 rfl) hout hlocks hS (Nat.le_of_ble_eq_true rfl) (Nat.le_of_ble_eq_true rfl) (fun h => by rw [hx7 h]; exact ⟨rfl, rfl⟩) (fun hz8 H locs hM hS => ?_)
  have hf := hf6 hz8
  exact ge_Ti E hr hlocks hf hM hS (Nat.le_of_ble_eq_true rfl) (Nat.le_of_ble_eq_true rfl) dX8_why_13
theorem c_X8_why (l : Launch) (X : gX) (hl0 : l.stackTraces = false) (c0 : Nat) (u1 : Int32) (u2 : Int32) (u3 : Int32) (u4 : Int32) (m0 : gMem) {res : Nat × Int32 × gMem} (hk0 : gk c0 = 8) (hf : f_X8_why c0 u1 u2 u3 u4 m0 = some res) : vx_Met l yX8_why (gWs yX8_why cX8_why 5 (some .int)) { frames := 8, cells := 3, slots := 18, locals := 161 } (va_Pc [.ref (X.1 + c0), .int u1, .int u2, .int u3, .int u4] (gB X m0)) (gQTi X res) (gXC X res.1 res.2.2) 3 18 (gA X) :=
  gMetX (own := RX8) (by decide +kernel) rfl (Nat.le_of_ble_eq_true rfl) (fun p e s m args below meth c ls E hr hlocks hml hout hM hl => b_X8_why E hr hlocks hml hl0 hout (Nat.le_refl _) (Nat.le_refl _) (Nat.le_refl _) (Nat.le_refl _) hk0 hf hM va_S.rf hl)
def f_X8_take (c0 : Nat) (u1 : Int32) (m0 : gMem) : Option (Nat × Int32 × gMem) := g2 (0 : Int32) (f_X8_knownTower c0 u1 m0) (fun r3 m1 => if gk r3 = 7 then if (m1 r3 2) = (0 : Int32) then (g1 (f_X4_because (c0 + 431) (9 : Int32) u1 m1) (fun r21 m19 => some (3, (0 : Int32), m19))) else (g1 (f_X1_keep (c0 + 106) (c0 + 1) m1) (fun r14 m12 => g1 (f_X2_takeCourse (c0 + 1) r3 m12) (fun r17 m15 => some (0, r17, m15)))) else none)
set_option maxRecDepth 100000 in
set_option maxHeartbeats 4000000 in
theorem b_X8_take {p : Program} {l : Launch} {e : Env} {R : Room} {s : State} {m : MethodId} {args : Array Value} {below : List Frame} {meth : Method} {c : Code} {H : Heap} {locs : List Loc} {ls : Array Slot} {X : gX} (E : gEn p s m args c cX8_take RX8 X) (hr : meth.sig.returnType = (some .int)) (hlocks : meth.locks = false) (hml : c.maxLocals = 3) (hl0 : l.stackTraces = false) (hout : ∀ x ∈ c.exceptionTable.toList, False) (hRf : 7 ≤ R.frames) (hRl : 130 ≤ R.locals) (hRc : 2 ≤ R.cells) (hRs : 12 ≤ R.slots) {c0 : Nat} {u1 : Int32} {m0 : gMem} {res : Nat × Int32 × gMem} (hk0 : gk c0 = 8) (hf : f_X8_take c0 u1 m0 = some res) (hM : gM X m0 H) (hS : va_S (gA X) s.heap H locs) (hl : lv_has ls 3 [(0, .ref (X.1 + c0)), (1, .int u1)]) : W p l e R s m args below meth c H locs 0 0 (vx_MQ below (gQTi X res) (gXC X res.1 res.2.2) args s 2 12 (gA X)) (F0 m 0 ls []) := by
  obtain ⟨hx, hb⟩ := (⟨E.1, E.2.1⟩ : _ ∧ _)
  unfold f_X8_take at hf
  refine lv_aload_n hx hb dX8_take_0 rfl (lv_at hl 0 rfl) ?_
  refine lv_iload_n hx hb dX8_take_1 rfl (lv_at hl 1 rfl) ?_
  obtain ⟨e4, r3, m1, hqq2, hf5, hx6⟩ := g2_o hf
  refine ga_Tr (gr_VX (As := [.int u1]) (ci := 8) (rm := { frames := 6, cells := 1, slots := 6, locals := 100 }) E hml hl.1 (c_X8_knownTower l X hl0 c0 u1 m0 hk0 hqq2) wt_X8_knownTower wl_RX8_166 rfl hk0 (by decide) rfl rfl hM hS rfl rfl (Nat.le_trans (by decide) hRf) (Nat.le_trans (by decide) hRl) (Nat.le_trans (Nat.le_of_ble_eq_true rfl) hRc) (Nat.le_trans (Nat.le_of_ble_eq_true rfl) hRs) (Nat.le_of_ble_eq_true rfl) dX8_take_2 rfl) hout hlocks hS (Nat.le_of_ble_eq_true rfl) (Nat.le_of_ble_eq_true rfl) (fun h => by rw [hx6 h]; exact ⟨rfl, rfl⟩) (fun hz7 H locs hM hS => ?_)
  have hf := hf5 hz7
  obtain ⟨hg8, hf⟩ := g_ck hf
  refine lv_astore_n (lv' := [(2, .ref (X.1 + r3)), (0, .ref (X.1 + c0)), (1, .int u1)]) hx hb dX8_take_5 rfl hl (by decide) rfl (fun ls hl => ?_)
  refine lv_aload_n hx hb dX8_take_6 rfl (lv_at hl 0 rfl) ?_
  refine GX8_170 E hM hg8 dX8_take_7 ?_
  refine lv_if_ne (tgt := 34) hx hb dX8_take_10 (by decide) (fun h9 => ?_) (fun h9 => ?_)
  · have hf := g_f h9 hf
    refine lv_aload_n hx hb dX8_take_34 rfl (lv_at hl 1 rfl) ?_
    refine GX8_25 E hM hk0 dX8_take_35 ?_
    have hg10 : gk (c0 + 106) = 1 := gkf_8_4 hk0
    refine lv_aload_n hx hb dX8_take_38 rfl (lv_at hl 1 rfl) ?_
    refine GX8_10 E hM hk0 dX8_take_39 ?_
    have hg11 : gk (c0 + 1) = 2 := gkf_8_0 hk0
    obtain ⟨r14, m12, hqq13, hf⟩ := g1_o hf
    refine ga_v (gr_V (As := [.ref (X.1 + (c0 + 1))]) (ci := 1) (rm := { frames := 3, cells := 0, slots := 0, locals := 103 }) E hml hl.1 (c_X1_keep l X (c0 + 106) (c0 + 1) m1 hg10 hg11 hqq13) wt_X1_keep wl_RX8_66 rfl hg10 (by decide) rfl rfl hM hS rfl rfl (Nat.le_trans (by decide) hRf) (Nat.le_trans (by decide) hRl) (Nat.le_trans (Nat.le_of_ble_eq_true rfl) hRc) (Nat.le_trans (Nat.le_of_ble_eq_true rfl) hRs) (Nat.le_of_ble_eq_true rfl) dX8_take_42 rfl) hS (fun H locs hM hS => ?_)
    refine lv_aload_n hx hb dX8_take_45 rfl (lv_at hl 1 rfl) ?_
    refine GX8_10 E hM hk0 dX8_take_46 ?_
    refine lv_aload_n hx hb dX8_take_49 rfl (lv_at hl 0 rfl) ?_
    obtain ⟨r17, m15, hqq16, hf⟩ := g1_o hf
    refine ga_i (gr_V (As := [.ref (X.1 + r3)]) (ci := 2) (rm := { frames := 3, cells := 0, slots := 0, locals := 105 }) E hml hl.1 (c_X2_takeCourse l X (c0 + 1) r3 m12 hg11 hg8 hqq16) wt_X2_takeCourse wl_RX8_177 rfl hg11 (by decide) rfl rfl hM hS rfl rfl (Nat.le_trans (by decide) hRf) (Nat.le_trans (by decide) hRl) (Nat.le_trans (Nat.le_of_ble_eq_true rfl) hRc) (Nat.le_trans (Nat.le_of_ble_eq_true rfl) hRs) (Nat.le_of_ble_eq_true rfl) dX8_take_50 rfl) hS (fun H locs hM hS => ?_)
    exact ge_Ti E hr hlocks hf hM hS (Nat.le_of_ble_eq_true rfl) (Nat.le_of_ble_eq_true rfl) dX8_take_53
  · have hf := g_t h9 hf
    refine lv_aload_n hx hb dX8_take_13 rfl (lv_at hl 1 rfl) ?_
    refine GX8_43 E hM hk0 dX8_take_14 ?_
    have hg18 : gk (c0 + 431) = 4 := gkf_8_7 hk0
    refine lv_bipush (v := (9 : Int32)) hx hb dX8_take_17 (by decide) ?_
    refine lv_iload_n hx hb dX8_take_19 rfl (lv_at hl 2 rfl) ?_
    obtain ⟨r21, m19, hqq20, hf⟩ := g1_o hf
    refine ga_i (gr_V (As := [.int (9 : Int32), .int u1]) (ci := 4) (rm := { frames := 0, cells := 0, slots := 0, locals := 0 }) E hml hl.1 (c_X4_because l X (c0 + 431) (9 : Int32) u1 m1 hg18 hqq20) wt_X4_because wl_RX8_112 rfl hg18 (by decide) rfl rfl hM hS rfl rfl (Nat.le_trans (by decide) hRf) (Nat.le_trans (by decide) hRl) (Nat.le_trans (Nat.le_of_ble_eq_true rfl) hRc) (Nat.le_trans (Nat.le_of_ble_eq_true rfl) hRs) (Nat.le_of_ble_eq_true rfl) dX8_take_20 rfl) hS (fun H locs hM hS => ?_)
    refine lv_pop hx hb dX8_take_23 rfl ?_
    exact gth_3 (text := "the tower has no courses") E hl0 hout hlocks (hl.1.trans hml.symm) (by decide) hf hM hS (by decide) (Nat.le_trans (by decide) hRf) (Nat.le_trans (Nat.le_of_ble_eq_true rfl) hRl) (Nat.le_trans (Nat.le_of_ble_eq_true rfl) hRc) (Nat.le_trans (Nat.le_of_ble_eq_true rfl) hRs) (Nat.le_of_ble_eq_true rfl) (Nat.le_of_ble_eq_true rfl) dX8_take_24 dX8_take_27 dX8_take_28 dX8_take_30 dX8_take_33
theorem c_X8_take (l : Launch) (X : gX) (hl0 : l.stackTraces = false) (c0 : Nat) (u1 : Int32) (m0 : gMem) {res : Nat × Int32 × gMem} (hk0 : gk c0 = 8) (hf : f_X8_take c0 u1 m0 = some res) : vx_Met l yX8_take (gWs yX8_take cX8_take 3 (some .int)) { frames := 7, cells := 2, slots := 12, locals := 130 } (va_Pc [.ref (X.1 + c0), .int u1] (gB X m0)) (gQTi X res) (gXC X res.1 res.2.2) 2 12 (gA X) :=
  gMetX (own := RX8) (by decide +kernel) rfl (Nat.le_of_ble_eq_true rfl) (fun p e s m args below meth c ls E hr hlocks hml hout hM hl => b_X8_take E hr hlocks hml hl0 hout (Nat.le_refl _) (Nat.le_refl _) (Nat.le_refl _) (Nat.le_refl _) hk0 hf hM va_S.rf hl)
def f_X8_towerWithCourse (c0 : Nat) (u1 : Int32) (u2 : Int32) (m0 : gMem) : Option (Nat × Nat × gMem) := g2 0 (f_X8_knownTower c0 u1 m0) (fun r3 m1 => if gk r3 = 7 then g1 (f_X7_hasCourse r3 u2 m1) (fun r11 m9 => if r11 = (0 : Int32) then (some (1, 0, m9)) else (some (0, r3, m9))) else none)
set_option maxRecDepth 100000 in
set_option maxHeartbeats 4000000 in
theorem b_X8_towerWithCourse {p : Program} {l : Launch} {e : Env} {R : Room} {s : State} {m : MethodId} {args : Array Value} {below : List Frame} {meth : Method} {c : Code} {H : Heap} {locs : List Loc} {ls : Array Slot} {X : gX} (E : gEn p s m args c cX8_towerWithCourse RX8 X) (hr : meth.sig.returnType = (some (.object "SugarTowers$Tower"))) (hlocks : meth.locks = false) (hml : c.maxLocals = 4) (hl0 : l.stackTraces = false) (hout : ∀ x ∈ c.exceptionTable.toList, False) (hRf : 7 ≤ R.frames) (hRl : 122 ≤ R.locals) (hRc : 2 ≤ R.cells) (hRs : 12 ≤ R.slots) {c0 : Nat} {u1 : Int32} {u2 : Int32} {m0 : gMem} {res : Nat × Nat × gMem} (hk0 : gk c0 = 8) (hf : f_X8_towerWithCourse c0 u1 u2 m0 = some res) (hM : gM X m0 H) (hS : va_S (gA X) s.heap H locs) (hl : lv_has ls 4 [(0, .ref (X.1 + c0)), (1, .int u1), (2, .int u2)]) : W p l e R s m args below meth c H locs 0 0 (vx_MQ below (gQTr X res) (gXC X res.1 res.2.2) args s 2 12 (gA X)) (F0 m 0 ls []) := by
  obtain ⟨hx, hb⟩ := (⟨E.1, E.2.1⟩ : _ ∧ _)
  unfold f_X8_towerWithCourse at hf
  refine lv_aload_n hx hb dX8_towerWithCourse_0 rfl (lv_at hl 0 rfl) ?_
  refine lv_iload_n hx hb dX8_towerWithCourse_1 rfl (lv_at hl 1 rfl) ?_
  obtain ⟨e4, r3, m1, hqq2, hf5, hx6⟩ := g2_o hf
  refine ga_Tr (gr_VX (As := [.int u1]) (ci := 8) (rm := { frames := 6, cells := 1, slots := 6, locals := 100 }) E hml hl.1 (c_X8_knownTower l X hl0 c0 u1 m0 hk0 hqq2) wt_X8_knownTower wl_RX8_166 rfl hk0 (by decide) rfl rfl hM hS rfl rfl (Nat.le_trans (by decide) hRf) (Nat.le_trans (by decide) hRl) (Nat.le_trans (Nat.le_of_ble_eq_true rfl) hRc) (Nat.le_trans (Nat.le_of_ble_eq_true rfl) hRs) (Nat.le_of_ble_eq_true rfl) dX8_towerWithCourse_2 rfl) hout hlocks hS (Nat.le_of_ble_eq_true rfl) (Nat.le_of_ble_eq_true rfl) (fun h => by rw [hx6 h]; exact ⟨rfl, rfl⟩) (fun hz7 H locs hM hS => ?_)
  have hf := hf5 hz7
  obtain ⟨hg8, hf⟩ := g_ck hf
  refine lv_astore_n (lv' := [(3, .ref (X.1 + r3)), (0, .ref (X.1 + c0)), (1, .int u1), (2, .int u2)]) hx hb dX8_towerWithCourse_5 rfl hl (by decide) rfl (fun ls hl => ?_)
  refine lv_aload_n hx hb dX8_towerWithCourse_6 rfl (lv_at hl 0 rfl) ?_
  refine lv_iload_n hx hb dX8_towerWithCourse_7 rfl (lv_at hl 3 rfl) ?_
  obtain ⟨r11, m9, hqq10, hf⟩ := g1_o hf
  refine ga_i (gr_V (As := [.int u2]) (ci := 7) (rm := { frames := 0, cells := 0, slots := 0, locals := 0 }) E hml hl.1 (c_X7_hasCourse l X r3 u2 m1 hg8 hqq10) wt_X7_hasCourse wl_RX8_402 rfl hg8 (by decide) rfl rfl hM hS rfl rfl (Nat.le_trans (by decide) hRf) (Nat.le_trans (by decide) hRl) (Nat.le_trans (Nat.le_of_ble_eq_true rfl) hRc) (Nat.le_trans (Nat.le_of_ble_eq_true rfl) hRs) (Nat.le_of_ble_eq_true rfl) dX8_towerWithCourse_8 rfl) hS (fun H locs hM hS => ?_)
  refine lv_if_ne (tgt := 25) hx hb dX8_towerWithCourse_11 (by decide) (fun h12 => ?_) (fun h12 => ?_)
  · have hf := g_f h12 hf
    refine lv_aload_n hx hb dX8_towerWithCourse_25 rfl (lv_at hl 0 rfl) ?_
    exact ge_Tr E hr hlocks hf hM hS (Nat.le_of_ble_eq_true rfl) (Nat.le_of_ble_eq_true rfl) dX8_towerWithCourse_26
  · have hf := g_t h12 hf
    exact gth_1w (text := "no such course") E hl0 hout hlocks (hl.1.trans hml.symm) (by decide) hf hM hS (by decide) (Nat.le_trans (by decide) hRf) (Nat.le_trans (Nat.le_of_ble_eq_true rfl) hRl) (Nat.le_trans (Nat.le_of_ble_eq_true rfl) hRc) (Nat.le_trans (Nat.le_of_ble_eq_true rfl) hRs) (Nat.le_of_ble_eq_true rfl) (Nat.le_of_ble_eq_true rfl) dX8_towerWithCourse_14 dX8_towerWithCourse_17 dX8_towerWithCourse_18 dX8_towerWithCourse_21 dX8_towerWithCourse_24
theorem c_X8_towerWithCourse (l : Launch) (X : gX) (hl0 : l.stackTraces = false) (c0 : Nat) (u1 : Int32) (u2 : Int32) (m0 : gMem) {res : Nat × Nat × gMem} (hk0 : gk c0 = 8) (hf : f_X8_towerWithCourse c0 u1 u2 m0 = some res) : vx_Met l yX8_towerWithCourse (gWs yX8_towerWithCourse cX8_towerWithCourse 4 (some (.object "SugarTowers$Tower"))) { frames := 7, cells := 2, slots := 12, locals := 122 } (va_Pc [.ref (X.1 + c0), .int u1, .int u2] (gB X m0)) (gQTr X res) (gXC X res.1 res.2.2) 2 12 (gA X) :=
  gMetX (own := RX8) (by decide +kernel) rfl (Nat.le_of_ble_eq_true rfl) (fun p e s m args below meth c ls E hr hlocks hml hout hM hl => b_X8_towerWithCourse E hr hlocks hml hl0 hout (Nat.le_refl _) (Nat.le_refl _) (Nat.le_refl _) (Nat.le_refl _) hk0 hf hM va_S.rf hl)
def f_X8_courseOf (c0 : Nat) (u1 : Int32) (u2 : Int32) (u3 : Int32) (m0 : gMem) : Option (Nat × Int32 × gMem) := g2 (0 : Int32) (f_X8_towerWithCourse c0 u1 u2 m0) (fun r3 m1 => if gk r3 = 7 then if u3 = (0 : Int32) then (g1 (f_X7_gradeAt r3 u2 m1) (fun r13 m11 => some (0, r13, m11))) else (if u3 = (1 : Int32) then (g1 (f_X7_cubesAt r3 u2 m1) (fun r17 m15 => some (0, r17, m15))) else (if u3 = (2 : Int32) then (g1 (f_X7_cubesFrom r3 (u2 + (1 : Int32)) m1) (fun r21 m19 => some (0, r21, m19))) else (if u3 = (3 : Int32) then (g1 (f_X7_cubesAt r3 u2 m1) (fun r25 m23 => g1 (f_X7_gradeAt r3 u2 m23) (fun r28 m26 => g1 (f_X8_cubeBears r28 (m26 r3 3) m26) (fun r31 m29 => some (0, (r25 * r31), m29))))) else (some (2, (0 : Int32), m1))))) else none)
set_option maxRecDepth 100000 in
set_option maxHeartbeats 4000000 in
theorem b_X8_courseOf {p : Program} {l : Launch} {e : Env} {R : Room} {s : State} {m : MethodId} {args : Array Value} {below : List Frame} {meth : Method} {c : Code} {H : Heap} {locs : List Loc} {ls : Array Slot} {X : gX} (E : gEn p s m args c cX8_courseOf RX8 X) (hr : meth.sig.returnType = (some .int)) (hlocks : meth.locks = false) (hml : c.maxLocals = 5) (hl0 : l.stackTraces = false) (hout : ∀ x ∈ c.exceptionTable.toList, False) (hRf : 8 ≤ R.frames) (hRl : 145 ≤ R.locals) (hRc : 3 ≤ R.cells) (hRs : 18 ≤ R.slots) {c0 : Nat} {u1 : Int32} {u2 : Int32} {u3 : Int32} {m0 : gMem} {res : Nat × Int32 × gMem} (hk0 : gk c0 = 8) (hf : f_X8_courseOf c0 u1 u2 u3 m0 = some res) (hM : gM X m0 H) (hS : va_S (gA X) s.heap H locs) (hl : lv_has ls 5 [(0, .ref (X.1 + c0)), (1, .int u1), (2, .int u2), (3, .int u3)]) : W p l e R s m args below meth c H locs 0 0 (vx_MQ below (gQTi X res) (gXC X res.1 res.2.2) args s 3 18 (gA X)) (F0 m 0 ls []) := by
  obtain ⟨hx, hb⟩ := (⟨E.1, E.2.1⟩ : _ ∧ _)
  unfold f_X8_courseOf at hf
  refine lv_aload_n hx hb dX8_courseOf_0 rfl (lv_at hl 0 rfl) ?_
  refine lv_iload_n hx hb dX8_courseOf_1 rfl (lv_at hl 1 rfl) ?_
  refine lv_iload_n hx hb dX8_courseOf_2 rfl (lv_at hl 2 rfl) ?_
  obtain ⟨e4, r3, m1, hqq2, hf5, hx6⟩ := g2_o hf
  refine ga_Tr (gr_VX (As := [.int u1, .int u2]) (ci := 8) (rm := { frames := 7, cells := 2, slots := 12, locals := 122 }) E hml hl.1 (c_X8_towerWithCourse l X hl0 c0 u1 u2 m0 hk0 hqq2) wt_X8_towerWithCourse wl_RX8_181 rfl hk0 (by decide) rfl rfl hM hS rfl rfl (Nat.le_trans (by decide) hRf) (Nat.le_trans (by decide) hRl) (Nat.le_trans (Nat.le_of_ble_eq_true rfl) hRc) (Nat.le_trans (Nat.le_of_ble_eq_true rfl) hRs) (Nat.le_of_ble_eq_true rfl) dX8_courseOf_3 rfl) hout hlocks hS (Nat.le_of_ble_eq_true rfl) (Nat.le_of_ble_eq_true rfl) (fun h => by rw [hx6 h]; exact ⟨rfl, rfl⟩) (fun hz7 H locs hM hS => ?_)
  have hf := hf5 hz7
  obtain ⟨hg8, hf⟩ := g_ck hf
  refine lv_astore (lv' := [(4, .ref (X.1 + r3)), (0, .ref (X.1 + c0)), (1, .int u1), (2, .int u2), (3, .int u3)]) hx hb dX8_courseOf_6 hl (by decide) rfl (fun ls hl => ?_)
  refine lv_iload_n hx hb dX8_courseOf_8 rfl (lv_at hl 4 rfl) ?_
  by_cases h10 : u3 = (0 : Int32)
  · have hf := g_t h10 hf
    refine lv_tableIn (tgt := 40) hx hb dX8_courseOf_9 (by rw [h10]; decide) (by rw [h10]; decide) (by rw [h10]; rfl) (by decide) ?_
    refine lv_aload hx hb dX8_courseOf_40 (lv_at hl 0 rfl) ?_
    refine lv_iload_n hx hb dX8_courseOf_42 rfl (lv_at hl 3 rfl) ?_
    obtain ⟨r13, m11, hqq12, hf⟩ := g1_o hf
    refine ga_i (gr_V (As := [.int u2]) (ci := 7) (rm := { frames := 1, cells := 0, slots := 0, locals := 21 }) E hml hl.1 (c_X7_gradeAt l X r3 u2 m1 hg8 hqq12) wt_X7_gradeAt wl_RX8_185 rfl hg8 (by decide) rfl rfl hM hS rfl rfl (Nat.le_trans (by decide) hRf) (Nat.le_trans (by decide) hRl) (Nat.le_trans (Nat.le_of_ble_eq_true rfl) hRc) (Nat.le_trans (Nat.le_of_ble_eq_true rfl) hRs) (Nat.le_of_ble_eq_true rfl) dX8_courseOf_43 rfl) hS (fun H locs hM hS => ?_)
    exact ge_Ti E hr hlocks hf hM hS (Nat.le_of_ble_eq_true rfl) (Nat.le_of_ble_eq_true rfl) dX8_courseOf_46
  have hf := g_f h10 hf
  by_cases h14 : u3 = (1 : Int32)
  · have hf := g_t h14 hf
    refine lv_tableIn (tgt := 47) hx hb dX8_courseOf_9 (by rw [h14]; decide) (by rw [h14]; decide) (by rw [h14]; rfl) (by decide) ?_
    refine lv_aload hx hb dX8_courseOf_47 (lv_at hl 0 rfl) ?_
    refine lv_iload_n hx hb dX8_courseOf_49 rfl (lv_at hl 3 rfl) ?_
    obtain ⟨r17, m15, hqq16, hf⟩ := g1_o hf
    refine ga_i (gr_V (As := [.int u2]) (ci := 7) (rm := { frames := 1, cells := 0, slots := 0, locals := 21 }) E hml hl.1 (c_X7_cubesAt l X r3 u2 m1 hg8 hqq16) wt_X7_cubesAt wl_RX8_188 rfl hg8 (by decide) rfl rfl hM hS rfl rfl (Nat.le_trans (by decide) hRf) (Nat.le_trans (by decide) hRl) (Nat.le_trans (Nat.le_of_ble_eq_true rfl) hRc) (Nat.le_trans (Nat.le_of_ble_eq_true rfl) hRs) (Nat.le_of_ble_eq_true rfl) dX8_courseOf_50 rfl) hS (fun H locs hM hS => ?_)
    exact ge_Ti E hr hlocks hf hM hS (Nat.le_of_ble_eq_true rfl) (Nat.le_of_ble_eq_true rfl) dX8_courseOf_53
  have hf := g_f h14 hf
  by_cases h18 : u3 = (2 : Int32)
  · have hf := g_t h18 hf
    refine lv_tableIn (tgt := 54) hx hb dX8_courseOf_9 (by rw [h18]; decide) (by rw [h18]; decide) (by rw [h18]; rfl) (by decide) ?_
    refine lv_aload hx hb dX8_courseOf_54 (lv_at hl 0 rfl) ?_
    refine lv_iload_n hx hb dX8_courseOf_56 rfl (lv_at hl 3 rfl) ?_
    refine lv_iconst (v := (1 : Int32)) hx hb dX8_courseOf_57 (by decide) ?_
    refine lv_iadd hx hb dX8_courseOf_58 ?_
    obtain ⟨r21, m19, hqq20, hf⟩ := g1_o hf
    refine ga_i (gr_V (As := [.int (u2 + (1 : Int32))]) (ci := 7) (rm := { frames := 1, cells := 0, slots := 0, locals := 60 }) E hml hl.1 (c_X7_cubesFrom l X r3 (u2 + (1 : Int32)) m1 hg8 hqq20) wt_X7_cubesFrom wl_RX8_191 rfl hg8 (by decide) rfl rfl hM hS rfl rfl (Nat.le_trans (by decide) hRf) (Nat.le_trans (by decide) hRl) (Nat.le_trans (Nat.le_of_ble_eq_true rfl) hRc) (Nat.le_trans (Nat.le_of_ble_eq_true rfl) hRs) (Nat.le_of_ble_eq_true rfl) dX8_courseOf_59 rfl) hS (fun H locs hM hS => ?_)
    exact ge_Ti E hr hlocks hf hM hS (Nat.le_of_ble_eq_true rfl) (Nat.le_of_ble_eq_true rfl) dX8_courseOf_62
  have hf := g_f h18 hf
  by_cases h22 : u3 = (3 : Int32)
  · have hf := g_t h22 hf
    refine lv_tableIn (tgt := 63) hx hb dX8_courseOf_9 (by rw [h22]; decide) (by rw [h22]; decide) (by rw [h22]; rfl) (by decide) ?_
    refine lv_aload hx hb dX8_courseOf_63 (lv_at hl 0 rfl) ?_
    refine lv_iload_n hx hb dX8_courseOf_65 rfl (lv_at hl 3 rfl) ?_
    obtain ⟨r25, m23, hqq24, hf⟩ := g1_o hf
    refine ga_i (gr_V (As := [.int u2]) (ci := 7) (rm := { frames := 1, cells := 0, slots := 0, locals := 21 }) E hml hl.1 (c_X7_cubesAt l X r3 u2 m1 hg8 hqq24) wt_X7_cubesAt wl_RX8_188 rfl hg8 (by decide) rfl rfl hM hS rfl rfl (Nat.le_trans (by decide) hRf) (Nat.le_trans (by decide) hRl) (Nat.le_trans (Nat.le_of_ble_eq_true rfl) hRc) (Nat.le_trans (Nat.le_of_ble_eq_true rfl) hRs) (Nat.le_of_ble_eq_true rfl) dX8_courseOf_66 rfl) hS (fun H locs hM hS => ?_)
    refine lv_aload hx hb dX8_courseOf_69 (lv_at hl 0 rfl) ?_
    refine lv_iload_n hx hb dX8_courseOf_71 rfl (lv_at hl 3 rfl) ?_
    obtain ⟨r28, m26, hqq27, hf⟩ := g1_o hf
    refine ga_i (gr_V (As := [.int u2]) (ci := 7) (rm := { frames := 1, cells := 0, slots := 0, locals := 21 }) E hml hl.1 (c_X7_gradeAt l X r3 u2 m23 hg8 hqq27) wt_X7_gradeAt wl_RX8_185 rfl hg8 (by decide) rfl rfl hM hS rfl rfl (Nat.le_trans (by decide) hRf) (Nat.le_trans (by decide) hRl) (Nat.le_trans (Nat.le_of_ble_eq_true rfl) hRc) (Nat.le_trans (Nat.le_of_ble_eq_true rfl) hRs) (Nat.le_of_ble_eq_true rfl) dX8_courseOf_72 rfl) hS (fun H locs hM hS => ?_)
    refine lv_aload hx hb dX8_courseOf_75 (lv_at hl 0 rfl) ?_
    refine GX8_194 E hM hg8 dX8_courseOf_77 ?_
    obtain ⟨r31, m29, hqq30, hf⟩ := g1_o hf
    refine ga_i (gr_S (As := [.int r28, .int (m26 r3 3)]) (rm := { frames := 1, cells := 0, slots := 0, locals := 60 }) E hml hl.1 (c_X8_cubeBears l X r28 (m26 r3 3) m26 hqq30) wt_X8_cubeBears wl_RX8_197 rfl hM hS rfl rfl (Nat.le_trans (by decide) hRf) (Nat.le_trans (by decide) hRl) (Nat.le_trans (Nat.le_of_ble_eq_true rfl) hRc) (Nat.le_trans (Nat.le_of_ble_eq_true rfl) hRs) (Nat.le_of_ble_eq_true rfl) dX8_courseOf_80 rfl) hS (fun H locs hM hS => ?_)
    refine lv_imul hx hb dX8_courseOf_83 ?_
    exact ge_Ti E hr hlocks hf hM hS (Nat.le_of_ble_eq_true rfl) (Nat.le_of_ble_eq_true rfl) dX8_courseOf_84
  have hf := g_f h22 hf
  have ah10 := g_tn (z := 0) h10 rfl
  have ah14 := g_tn (z := 1) h14 rfl
  have ah18 := g_tn (z := 2) h18 rfl
  have ah22 := g_tn (z := 3) h22 rfl
  refine lv_tableOut (tgt := 85) hx hb dX8_courseOf_9 (by omega) (by decide) ?_
  exact gth_2 (text := "no such number of a course") E hl0 hout hlocks (hl.1.trans hml.symm) (by decide) hf hM hS (by decide) (Nat.le_trans (by decide) hRf) (Nat.le_trans (Nat.le_of_ble_eq_true rfl) hRl) (Nat.le_trans (Nat.le_of_ble_eq_true rfl) hRc) (Nat.le_trans (Nat.le_of_ble_eq_true rfl) hRs) (Nat.le_of_ble_eq_true rfl) (Nat.le_of_ble_eq_true rfl) dX8_courseOf_85 dX8_courseOf_88 dX8_courseOf_89 dX8_courseOf_91 dX8_courseOf_94
theorem c_X8_courseOf (l : Launch) (X : gX) (hl0 : l.stackTraces = false) (c0 : Nat) (u1 : Int32) (u2 : Int32) (u3 : Int32) (m0 : gMem) {res : Nat × Int32 × gMem} (hk0 : gk c0 = 8) (hf : f_X8_courseOf c0 u1 u2 u3 m0 = some res) : vx_Met l yX8_courseOf (gWs yX8_courseOf cX8_courseOf 5 (some .int)) { frames := 8, cells := 3, slots := 18, locals := 145 } (va_Pc [.ref (X.1 + c0), .int u1, .int u2, .int u3] (gB X m0)) (gQTi X res) (gXC X res.1 res.2.2) 3 18 (gA X) :=
  gMetX (own := RX8) (by decide +kernel) rfl (Nat.le_of_ble_eq_true rfl) (fun p e s m args below meth c ls E hr hlocks hml hout hM hl => b_X8_courseOf E hr hlocks hml hl0 hout (Nat.le_refl _) (Nat.le_refl _) (Nat.le_refl _) (Nat.le_refl _) hk0 hf hM va_S.rf hl)
def f_X8_towerOf (c0 : Nat) (u1 : Int32) (u2 : Int32) (m0 : gMem) : Option (Nat × Int32 × gMem) := g2 (0 : Int32) (f_X8_knownTower c0 u1 m0) (fun r3 m1 => if gk r3 = 7 then if u2 = (0 : Int32) then (some (0, (m1 r3 2), m1)) else (if u2 = (1 : Int32) then (g1 (f_X7_cubesFrom r3 (0 : Int32) m1) (fun r14 m12 => some (0, r14, m12))) else (if u2 = (2 : Int32) then (some (0, (m1 r3 3), m1)) else (if u2 = (3 : Int32) then (g1 (f_X2_banquetsWith (c0 + 1) u1 m1) (fun r20 m18 => some (0, r20, m18))) else (if u2 = (4 : Int32) then (some (0, (m1 r3 4), m1)) else (some (2, (0 : Int32), m1)))))) else none)
set_option maxRecDepth 100000 in
set_option maxHeartbeats 4000000 in
theorem b_X8_towerOf {p : Program} {l : Launch} {e : Env} {R : Room} {s : State} {m : MethodId} {args : Array Value} {below : List Frame} {meth : Method} {c : Code} {H : Heap} {locs : List Loc} {ls : Array Slot} {X : gX} (E : gEn p s m args c cX8_towerOf RX8 X) (hr : meth.sig.returnType = (some .int)) (hlocks : meth.locks = false) (hml : c.maxLocals = 4) (hl0 : l.stackTraces = false) (hout : ∀ x ∈ c.exceptionTable.toList, False) (hRf : 7 ≤ R.frames) (hRl : 122 ≤ R.locals) (hRc : 2 ≤ R.cells) (hRs : 12 ≤ R.slots) {c0 : Nat} {u1 : Int32} {u2 : Int32} {m0 : gMem} {res : Nat × Int32 × gMem} (hk0 : gk c0 = 8) (hf : f_X8_towerOf c0 u1 u2 m0 = some res) (hM : gM X m0 H) (hS : va_S (gA X) s.heap H locs) (hl : lv_has ls 4 [(0, .ref (X.1 + c0)), (1, .int u1), (2, .int u2)]) : W p l e R s m args below meth c H locs 0 0 (vx_MQ below (gQTi X res) (gXC X res.1 res.2.2) args s 2 12 (gA X)) (F0 m 0 ls []) := by
  obtain ⟨hx, hb⟩ := (⟨E.1, E.2.1⟩ : _ ∧ _)
  unfold f_X8_towerOf at hf
  refine lv_aload_n hx hb dX8_towerOf_0 rfl (lv_at hl 0 rfl) ?_
  refine lv_iload_n hx hb dX8_towerOf_1 rfl (lv_at hl 1 rfl) ?_
  obtain ⟨e4, r3, m1, hqq2, hf5, hx6⟩ := g2_o hf
  refine ga_Tr (gr_VX (As := [.int u1]) (ci := 8) (rm := { frames := 6, cells := 1, slots := 6, locals := 100 }) E hml hl.1 (c_X8_knownTower l X hl0 c0 u1 m0 hk0 hqq2) wt_X8_knownTower wl_RX8_166 rfl hk0 (by decide) rfl rfl hM hS rfl rfl (Nat.le_trans (by decide) hRf) (Nat.le_trans (by decide) hRl) (Nat.le_trans (Nat.le_of_ble_eq_true rfl) hRc) (Nat.le_trans (Nat.le_of_ble_eq_true rfl) hRs) (Nat.le_of_ble_eq_true rfl) dX8_towerOf_2 rfl) hout hlocks hS (Nat.le_of_ble_eq_true rfl) (Nat.le_of_ble_eq_true rfl) (fun h => by rw [hx6 h]; exact ⟨rfl, rfl⟩) (fun hz7 H locs hM hS => ?_)
  have hf := hf5 hz7
  obtain ⟨hg8, hf⟩ := g_ck hf
  refine lv_astore_n (lv' := [(3, .ref (X.1 + r3)), (0, .ref (X.1 + c0)), (1, .int u1), (2, .int u2)]) hx hb dX8_towerOf_5 rfl hl (by decide) rfl (fun ls hl => ?_)
  refine lv_iload_n hx hb dX8_towerOf_6 rfl (lv_at hl 3 rfl) ?_
  by_cases h10 : u2 = (0 : Int32)
  · have hf := g_t h10 hf
    refine lv_tableIn (tgt := 40) hx hb dX8_towerOf_7 (by rw [h10]; decide) (by rw [h10]; decide) (by rw [h10]; rfl) (by decide) ?_
    refine lv_aload_n hx hb dX8_towerOf_40 rfl (lv_at hl 0 rfl) ?_
    refine GX8_170 E hM hg8 dX8_towerOf_41 ?_
    exact ge_Ti E hr hlocks hf hM hS (Nat.le_of_ble_eq_true rfl) (Nat.le_of_ble_eq_true rfl) dX8_towerOf_44
  have hf := g_f h10 hf
  by_cases h11 : u2 = (1 : Int32)
  · have hf := g_t h11 hf
    refine lv_tableIn (tgt := 45) hx hb dX8_towerOf_7 (by rw [h11]; decide) (by rw [h11]; decide) (by rw [h11]; rfl) (by decide) ?_
    refine lv_aload_n hx hb dX8_towerOf_45 rfl (lv_at hl 0 rfl) ?_
    refine lv_iconst (v := (0 : Int32)) hx hb dX8_towerOf_46 (by decide) ?_
    obtain ⟨r14, m12, hqq13, hf⟩ := g1_o hf
    refine ga_i (gr_V (As := [.int (0 : Int32)]) (ci := 7) (rm := { frames := 1, cells := 0, slots := 0, locals := 60 }) E hml hl.1 (c_X7_cubesFrom l X r3 (0 : Int32) m1 hg8 hqq13) wt_X7_cubesFrom wl_RX8_191 rfl hg8 (by decide) rfl rfl hM hS rfl rfl (Nat.le_trans (by decide) hRf) (Nat.le_trans (by decide) hRl) (Nat.le_trans (Nat.le_of_ble_eq_true rfl) hRc) (Nat.le_trans (Nat.le_of_ble_eq_true rfl) hRs) (Nat.le_of_ble_eq_true rfl) dX8_towerOf_47 rfl) hS (fun H locs hM hS => ?_)
    exact ge_Ti E hr hlocks hf hM hS (Nat.le_of_ble_eq_true rfl) (Nat.le_of_ble_eq_true rfl) dX8_towerOf_50
  have hf := g_f h11 hf
  by_cases h15 : u2 = (2 : Int32)
  · have hf := g_t h15 hf
    refine lv_tableIn (tgt := 51) hx hb dX8_towerOf_7 (by rw [h15]; decide) (by rw [h15]; decide) (by rw [h15]; rfl) (by decide) ?_
    refine lv_aload_n hx hb dX8_towerOf_51 rfl (lv_at hl 0 rfl) ?_
    refine GX8_194 E hM hg8 dX8_towerOf_52 ?_
    exact ge_Ti E hr hlocks hf hM hS (Nat.le_of_ble_eq_true rfl) (Nat.le_of_ble_eq_true rfl) dX8_towerOf_55
  have hf := g_f h15 hf
  by_cases h16 : u2 = (3 : Int32)
  · have hf := g_t h16 hf
    refine lv_tableIn (tgt := 56) hx hb dX8_towerOf_7 (by rw [h16]; decide) (by rw [h16]; decide) (by rw [h16]; rfl) (by decide) ?_
    refine lv_aload_n hx hb dX8_towerOf_56 rfl (lv_at hl 1 rfl) ?_
    refine GX8_10 E hM hk0 dX8_towerOf_57 ?_
    have hg17 : gk (c0 + 1) = 2 := gkf_8_0 hk0
    refine lv_iload_n hx hb dX8_towerOf_60 rfl (lv_at hl 2 rfl) ?_
    obtain ⟨r20, m18, hqq19, hf⟩ := g1_o hf
    refine ga_i (gr_V (As := [.int u1]) (ci := 2) (rm := { frames := 0, cells := 0, slots := 0, locals := 0 }) E hml hl.1 (c_X2_banquetsWith l X (c0 + 1) u1 m1 hg17 hqq19) wt_X2_banquetsWith wl_RX8_202 rfl hg17 (by decide) rfl rfl hM hS rfl rfl (Nat.le_trans (by decide) hRf) (Nat.le_trans (by decide) hRl) (Nat.le_trans (Nat.le_of_ble_eq_true rfl) hRc) (Nat.le_trans (Nat.le_of_ble_eq_true rfl) hRs) (Nat.le_of_ble_eq_true rfl) dX8_towerOf_61 rfl) hS (fun H locs hM hS => ?_)
    exact ge_Ti E hr hlocks hf hM hS (Nat.le_of_ble_eq_true rfl) (Nat.le_of_ble_eq_true rfl) dX8_towerOf_64
  have hf := g_f h16 hf
  by_cases h21 : u2 = (4 : Int32)
  · have hf := g_t h21 hf
    refine lv_tableIn (tgt := 65) hx hb dX8_towerOf_7 (by rw [h21]; decide) (by rw [h21]; decide) (by rw [h21]; rfl) (by decide) ?_
    refine lv_aload_n hx hb dX8_towerOf_65 rfl (lv_at hl 0 rfl) ?_
    refine GX8_205 E hM hg8 dX8_towerOf_66 ?_
    exact ge_Ti E hr hlocks hf hM hS (Nat.le_of_ble_eq_true rfl) (Nat.le_of_ble_eq_true rfl) dX8_towerOf_69
  have hf := g_f h21 hf
  have ah10 := g_tn (z := 0) h10 rfl
  have ah11 := g_tn (z := 1) h11 rfl
  have ah15 := g_tn (z := 2) h15 rfl
  have ah16 := g_tn (z := 3) h16 rfl
  have ah21 := g_tn (z := 4) h21 rfl
  refine lv_tableOut (tgt := 70) hx hb dX8_towerOf_7 (by omega) (by decide) ?_
  exact gth_2 (text := "no such number of a tower") E hl0 hout hlocks (hl.1.trans hml.symm) (by decide) hf hM hS (by decide) (Nat.le_trans (by decide) hRf) (Nat.le_trans (Nat.le_of_ble_eq_true rfl) hRl) (Nat.le_trans (Nat.le_of_ble_eq_true rfl) hRc) (Nat.le_trans (Nat.le_of_ble_eq_true rfl) hRs) (Nat.le_of_ble_eq_true rfl) (Nat.le_of_ble_eq_true rfl) dX8_towerOf_70 dX8_towerOf_73 dX8_towerOf_74 dX8_towerOf_76 dX8_towerOf_79
theorem c_X8_towerOf (l : Launch) (X : gX) (hl0 : l.stackTraces = false) (c0 : Nat) (u1 : Int32) (u2 : Int32) (m0 : gMem) {res : Nat × Int32 × gMem} (hk0 : gk c0 = 8) (hf : f_X8_towerOf c0 u1 u2 m0 = some res) : vx_Met l yX8_towerOf (gWs yX8_towerOf cX8_towerOf 4 (some .int)) { frames := 7, cells := 2, slots := 12, locals := 122 } (va_Pc [.ref (X.1 + c0), .int u1, .int u2] (gB X m0)) (gQTi X res) (gXC X res.1 res.2.2) 2 12 (gA X) :=
  gMetX (own := RX8) (by decide +kernel) rfl (Nat.le_of_ble_eq_true rfl) (fun p e s m args below meth c ls E hr hlocks hml hout hM hl => b_X8_towerOf E hr hlocks hml hl0 hout (Nat.le_refl _) (Nat.le_refl _) (Nat.le_refl _) (Nat.le_refl _) hk0 hf hM va_S.rf hl)
def f_X8_spare (c0 : Nat) (u1 : Int32) (m0 : gMem) : Option (Nat × Int32 × gMem) := g2 (0 : Int32) (f_X8_knownTower c0 u1 m0) (fun r3 m1 => if gk r3 = 7 then g1 (f_X7_spareCubes r3 m1) (fun r11 m9 => some (0, r11, m9)) else none)
set_option maxRecDepth 100000 in
set_option maxHeartbeats 4000000 in
theorem b_X8_spare {p : Program} {l : Launch} {e : Env} {R : Room} {s : State} {m : MethodId} {args : Array Value} {below : List Frame} {meth : Method} {c : Code} {H : Heap} {locs : List Loc} {ls : Array Slot} {X : gX} (E : gEn p s m args c cX8_spare RX8 X) (hr : meth.sig.returnType = (some .int)) (hlocks : meth.locks = false) (hml : c.maxLocals = 2) (hl0 : l.stackTraces = false) (hout : ∀ x ∈ c.exceptionTable.toList, False) (hRf : 7 ≤ R.frames) (hRl : 122 ≤ R.locals) (hRc : 1 ≤ R.cells) (hRs : 6 ≤ R.slots) {c0 : Nat} {u1 : Int32} {m0 : gMem} {res : Nat × Int32 × gMem} (hk0 : gk c0 = 8) (hf : f_X8_spare c0 u1 m0 = some res) (hM : gM X m0 H) (hS : va_S (gA X) s.heap H locs) (hl : lv_has ls 2 [(0, .ref (X.1 + c0)), (1, .int u1)]) : W p l e R s m args below meth c H locs 0 0 (vx_MQ below (gQTi X res) (gXC X res.1 res.2.2) args s 1 6 (gA X)) (F0 m 0 ls []) := by
  obtain ⟨hx, hb⟩ := (⟨E.1, E.2.1⟩ : _ ∧ _)
  unfold f_X8_spare at hf
  refine lv_aload_n hx hb dX8_spare_0 rfl (lv_at hl 0 rfl) ?_
  refine lv_iload_n hx hb dX8_spare_1 rfl (lv_at hl 1 rfl) ?_
  obtain ⟨e4, r3, m1, hqq2, hf5, hx6⟩ := g2_o hf
  refine ga_Tr (gr_VX (As := [.int u1]) (ci := 8) (rm := { frames := 6, cells := 1, slots := 6, locals := 100 }) E hml hl.1 (c_X8_knownTower l X hl0 c0 u1 m0 hk0 hqq2) wt_X8_knownTower wl_RX8_166 rfl hk0 (by decide) rfl rfl hM hS rfl rfl (Nat.le_trans (by decide) hRf) (Nat.le_trans (by decide) hRl) (Nat.le_trans (Nat.le_of_ble_eq_true rfl) hRc) (Nat.le_trans (Nat.le_of_ble_eq_true rfl) hRs) (Nat.le_of_ble_eq_true rfl) dX8_spare_2 rfl) hout hlocks hS (Nat.le_of_ble_eq_true rfl) (Nat.le_of_ble_eq_true rfl) (fun h => by rw [hx6 h]; exact ⟨rfl, rfl⟩) (fun hz7 H locs hM hS => ?_)
  have hf := hf5 hz7
  obtain ⟨hg8, hf⟩ := g_ck hf
  obtain ⟨r11, m9, hqq10, hf⟩ := g1_o hf
  refine ga_i (gr_V (As := []) (ci := 7) (rm := { frames := 2, cells := 0, slots := 0, locals := 82 }) E hml hl.1 (c_X7_spareCubes l X r3 m1 hg8 hqq10) wt_X7_spareCubes wl_RX8_210 rfl hg8 (by decide) rfl rfl hM hS rfl rfl (Nat.le_trans (by decide) hRf) (Nat.le_trans (by decide) hRl) (Nat.le_trans (Nat.le_of_ble_eq_true rfl) hRc) (Nat.le_trans (Nat.le_of_ble_eq_true rfl) hRs) (Nat.le_of_ble_eq_true rfl) dX8_spare_5 rfl) hS (fun H locs hM hS => ?_)
  exact ge_Ti E hr hlocks hf hM hS (Nat.le_of_ble_eq_true rfl) (Nat.le_of_ble_eq_true rfl) dX8_spare_8
theorem c_X8_spare (l : Launch) (X : gX) (hl0 : l.stackTraces = false) (c0 : Nat) (u1 : Int32) (m0 : gMem) {res : Nat × Int32 × gMem} (hk0 : gk c0 = 8) (hf : f_X8_spare c0 u1 m0 = some res) : vx_Met l yX8_spare (gWs yX8_spare cX8_spare 2 (some .int)) { frames := 7, cells := 1, slots := 6, locals := 122 } (va_Pc [.ref (X.1 + c0), .int u1] (gB X m0)) (gQTi X res) (gXC X res.1 res.2.2) 1 6 (gA X) :=
  gMetX (own := RX8) (by decide +kernel) rfl (Nat.le_of_ble_eq_true rfl) (fun p e s m args below meth c ls E hr hlocks hml hout hM hl => b_X8_spare E hr hlocks hml hl0 hout (Nat.le_refl _) (Nat.le_refl _) (Nat.le_refl _) (Nat.le_refl _) hk0 hf hM va_S.rf hl)
def f_X8_banquet (c0 : Nat) (u1 : Int32) (u2 : Int32) (u3 : Int32) (m0 : gMem) : Option (Nat × Int32 × gMem) := g1 (f_X8_isBetween (0 : Int32) u1 (9999 : Int32) m0) (fun r3 m1 => if r3 = (0 : Int32) then (some (2, (0 : Int32), m1)) else (g1 (f_X8_isBetween (1 : Int32) u2 (10 : Int32) m1) (fun r7 m5 => if r7 = (0 : Int32) then (some (2, (0 : Int32), m5)) else (g1 (f_X8_isBetween (1 : Int32) u3 (200 : Int32) m5) (fun r11 m9 => if r11 = (0 : Int32) then (some (2, (0 : Int32), m9)) else (g1 (f_X2_reasonAgainstBanquet (c0 + 1) (c0 + 431) u1 m9) (fun r17 m15 => if r17 = (0 : Int32) then (g1 (f_X1_keep (c0 + 106) (c0 + 1) m15) (fun r22 m20 => g1 (f_X2_addBanquet (c0 + 1) u1 u2 u3 m20) (fun r25 m23 => some (0, r25, m23)))) else (some (3, (0 : Int32), m15)))))))))
set_option maxRecDepth 100000 in
set_option maxHeartbeats 4000000 in
theorem b_X8_banquet {p : Program} {l : Launch} {e : Env} {R : Room} {s : State} {m : MethodId} {args : Array Value} {below : List Frame} {meth : Method} {c : Code} {H : Heap} {locs : List Loc} {ls : Array Slot} {X : gX} (E : gEn p s m args c cX8_banquet RX8 X) (hr : meth.sig.returnType = (some .int)) (hlocks : meth.locks = false) (hml : c.maxLocals = 4) (hl0 : l.stackTraces = false) (hout : ∀ x ∈ c.exceptionTable.toList, False) (hRf : 6 ≤ R.frames) (hRl : 124 ≤ R.locals) (hRc : 1 ≤ R.cells) (hRs : 6 ≤ R.slots) {c0 : Nat} {u1 : Int32} {u2 : Int32} {u3 : Int32} {m0 : gMem} {res : Nat × Int32 × gMem} (hk0 : gk c0 = 8) (hf : f_X8_banquet c0 u1 u2 u3 m0 = some res) (hM : gM X m0 H) (hS : va_S (gA X) s.heap H locs) (hl : lv_has ls 4 [(0, .ref (X.1 + c0)), (1, .int u1), (2, .int u2), (3, .int u3)]) : W p l e R s m args below meth c H locs 0 0 (vx_MQ below (gQTi X res) (gXC X res.1 res.2.2) args s 1 6 (gA X)) (F0 m 0 ls []) := by
  obtain ⟨hx, hb⟩ := (⟨E.1, E.2.1⟩ : _ ∧ _)
  unfold f_X8_banquet at hf
  refine lv_iconst (v := (0 : Int32)) hx hb dX8_banquet_0 (by decide) ?_
  refine lv_iload_n hx hb dX8_banquet_1 rfl (lv_at hl 1 rfl) ?_
  refine lv_sipush (v := (9999 : Int32)) hx hb dX8_banquet_2 (by decide) ?_
  obtain ⟨r3, m1, hqq2, hf⟩ := g1_o hf
  refine ga_i (gr_S (As := [.int (0 : Int32), .int u1, .int (9999 : Int32)]) (rm := { frames := 0, cells := 0, slots := 0, locals := 0 }) E hml hl.1 (c_X8_isBetween l X (0 : Int32) u1 (9999 : Int32) m0 hqq2) wt_X8_isBetween wl_RX8_50 rfl hM hS rfl rfl (Nat.le_trans (by decide) hRf) (Nat.le_trans (by decide) hRl) (Nat.le_trans (Nat.le_of_ble_eq_true rfl) hRc) (Nat.le_trans (Nat.le_of_ble_eq_true rfl) hRs) (Nat.le_of_ble_eq_true rfl) dX8_banquet_5 rfl) hS (fun H locs hM hS => ?_)
  refine lv_if_eq (tgt := 32) hx hb dX8_banquet_8 (by decide) (fun h4 => ?_) (fun h4 => ?_)
  · have hf := g_t h4 hf
    exact gth_2 (text := "the hour, the courses or the coins are out of range") E hl0 hout hlocks (hl.1.trans hml.symm) (by decide) hf hM hS (by decide) (Nat.le_trans (by decide) hRf) (Nat.le_trans (Nat.le_of_ble_eq_true rfl) hRl) (Nat.le_trans (Nat.le_of_ble_eq_true rfl) hRc) (Nat.le_trans (Nat.le_of_ble_eq_true rfl) hRs) (Nat.le_of_ble_eq_true rfl) (Nat.le_of_ble_eq_true rfl) dX8_banquet_32 dX8_banquet_35 dX8_banquet_36 dX8_banquet_38 dX8_banquet_41
  · have hf := g_f h4 hf
    refine lv_iconst (v := (1 : Int32)) hx hb dX8_banquet_11 (by decide) ?_
    refine lv_iload_n hx hb dX8_banquet_12 rfl (lv_at hl 2 rfl) ?_
    refine lv_bipush (v := (10 : Int32)) hx hb dX8_banquet_13 (by decide) ?_
    obtain ⟨r7, m5, hqq6, hf⟩ := g1_o hf
    refine ga_i (gr_S (As := [.int (1 : Int32), .int u2, .int (10 : Int32)]) (rm := { frames := 0, cells := 0, slots := 0, locals := 0 }) E hml hl.1 (c_X8_isBetween l X (1 : Int32) u2 (10 : Int32) m1 hqq6) wt_X8_isBetween wl_RX8_50 rfl hM hS rfl rfl (Nat.le_trans (by decide) hRf) (Nat.le_trans (by decide) hRl) (Nat.le_trans (Nat.le_of_ble_eq_true rfl) hRc) (Nat.le_trans (Nat.le_of_ble_eq_true rfl) hRs) (Nat.le_of_ble_eq_true rfl) dX8_banquet_15 rfl) hS (fun H locs hM hS => ?_)
    refine lv_if_eq (tgt := 32) hx hb dX8_banquet_18 (by decide) (fun h8 => ?_) (fun h8 => ?_)
    · have hf := g_t h8 hf
      exact gth_2 (text := "the hour, the courses or the coins are out of range") E hl0 hout hlocks (hl.1.trans hml.symm) (by decide) hf hM hS (by decide) (Nat.le_trans (by decide) hRf) (Nat.le_trans (Nat.le_of_ble_eq_true rfl) hRl) (Nat.le_trans (Nat.le_of_ble_eq_true rfl) hRc) (Nat.le_trans (Nat.le_of_ble_eq_true rfl) hRs) (Nat.le_of_ble_eq_true rfl) (Nat.le_of_ble_eq_true rfl) dX8_banquet_32 dX8_banquet_35 dX8_banquet_36 dX8_banquet_38 dX8_banquet_41
    · have hf := g_f h8 hf
      refine lv_iconst (v := (1 : Int32)) hx hb dX8_banquet_21 (by decide) ?_
      refine lv_iload_n hx hb dX8_banquet_22 rfl (lv_at hl 3 rfl) ?_
      refine lv_sipush (v := (200 : Int32)) hx hb dX8_banquet_23 (by decide) ?_
      obtain ⟨r11, m9, hqq10, hf⟩ := g1_o hf
      refine ga_i (gr_S (As := [.int (1 : Int32), .int u3, .int (200 : Int32)]) (rm := { frames := 0, cells := 0, slots := 0, locals := 0 }) E hml hl.1 (c_X8_isBetween l X (1 : Int32) u3 (200 : Int32) m5 hqq10) wt_X8_isBetween wl_RX8_50 rfl hM hS rfl rfl (Nat.le_trans (by decide) hRf) (Nat.le_trans (by decide) hRl) (Nat.le_trans (Nat.le_of_ble_eq_true rfl) hRc) (Nat.le_trans (Nat.le_of_ble_eq_true rfl) hRs) (Nat.le_of_ble_eq_true rfl) dX8_banquet_26 rfl) hS (fun H locs hM hS => ?_)
      refine lv_if_ne (tgt := 42) hx hb dX8_banquet_29 (by decide) (fun h12 => ?_) (fun h12 => ?_)
      · have hf := g_f h12 hf
        refine lv_aload_n hx hb dX8_banquet_42 rfl (lv_at hl 0 rfl) ?_
        refine GX8_10 E hM hk0 dX8_banquet_43 ?_
        have hg13 : gk (c0 + 1) = 2 := gkf_8_0 hk0
        refine lv_aload_n hx hb dX8_banquet_46 rfl (lv_at hl 0 rfl) ?_
        refine GX8_43 E hM hk0 dX8_banquet_47 ?_
        have hg14 : gk (c0 + 431) = 4 := gkf_8_7 hk0
        refine lv_iload_n hx hb dX8_banquet_50 rfl (lv_at hl 1 rfl) ?_
        obtain ⟨r17, m15, hqq16, hf⟩ := g1_o hf
        refine ga_i (gr_V (As := [.ref (X.1 + (c0 + 431)), .int u1]) (ci := 2) (rm := { frames := 1, cells := 0, slots := 0, locals := 22 }) E hml hl.1 (c_X2_reasonAgainstBanquet l X (c0 + 1) (c0 + 431) u1 m9 hg13 hg14 hqq16) wt_X2_reasonAgainstBanquet wl_RX8_225 rfl hg13 (by decide) rfl rfl hM hS rfl rfl (Nat.le_trans (by decide) hRf) (Nat.le_trans (by decide) hRl) (Nat.le_trans (Nat.le_of_ble_eq_true rfl) hRc) (Nat.le_trans (Nat.le_of_ble_eq_true rfl) hRs) (Nat.le_of_ble_eq_true rfl) dX8_banquet_51 rfl) hS (fun H locs hM hS => ?_)
        refine lv_if_eq (tgt := 67) hx hb dX8_banquet_54 (by decide) (fun h18 => ?_) (fun h18 => ?_)
        · have hf := g_t h18 hf
          refine lv_aload_n hx hb dX8_banquet_67 rfl (lv_at hl 0 rfl) ?_
          refine GX8_25 E hM hk0 dX8_banquet_68 ?_
          have hg19 : gk (c0 + 106) = 1 := gkf_8_4 hk0
          refine lv_aload_n hx hb dX8_banquet_71 rfl (lv_at hl 0 rfl) ?_
          refine GX8_10 E hM hk0 dX8_banquet_72 ?_
          obtain ⟨r22, m20, hqq21, hf⟩ := g1_o hf
          refine ga_v (gr_V (As := [.ref (X.1 + (c0 + 1))]) (ci := 1) (rm := { frames := 3, cells := 0, slots := 0, locals := 103 }) E hml hl.1 (c_X1_keep l X (c0 + 106) (c0 + 1) m15 hg19 hg13 hqq21) wt_X1_keep wl_RX8_66 rfl hg19 (by decide) rfl rfl hM hS rfl rfl (Nat.le_trans (by decide) hRf) (Nat.le_trans (by decide) hRl) (Nat.le_trans (Nat.le_of_ble_eq_true rfl) hRc) (Nat.le_trans (Nat.le_of_ble_eq_true rfl) hRs) (Nat.le_of_ble_eq_true rfl) dX8_banquet_75 rfl) hS (fun H locs hM hS => ?_)
          refine lv_aload_n hx hb dX8_banquet_78 rfl (lv_at hl 0 rfl) ?_
          refine GX8_10 E hM hk0 dX8_banquet_79 ?_
          refine lv_iload_n hx hb dX8_banquet_82 rfl (lv_at hl 1 rfl) ?_
          refine lv_iload_n hx hb dX8_banquet_83 rfl (lv_at hl 2 rfl) ?_
          refine lv_iload_n hx hb dX8_banquet_84 rfl (lv_at hl 3 rfl) ?_
          obtain ⟨r25, m23, hqq24, hf⟩ := g1_o hf
          refine ga_i (gr_V (As := [.int u1, .int u2, .int u3]) (ci := 2) (rm := { frames := 1, cells := 0, slots := 0, locals := 24 }) E hml hl.1 (c_X2_addBanquet l X (c0 + 1) u1 u2 u3 m20 hg13 hqq24) wt_X2_addBanquet wl_RX8_231 rfl hg13 (by decide) rfl rfl hM hS rfl rfl (Nat.le_trans (by decide) hRf) (Nat.le_trans (by decide) hRl) (Nat.le_trans (Nat.le_of_ble_eq_true rfl) hRc) (Nat.le_trans (Nat.le_of_ble_eq_true rfl) hRs) (Nat.le_of_ble_eq_true rfl) dX8_banquet_85 rfl) hS (fun H locs hM hS => ?_)
          exact ge_Ti E hr hlocks hf hM hS (Nat.le_of_ble_eq_true rfl) (Nat.le_of_ble_eq_true rfl) dX8_banquet_88
        · have hf := g_f h18 hf
          exact gth_3 (text := "the banquet cannot be added") E hl0 hout hlocks (hl.1.trans hml.symm) (by decide) hf hM hS (by decide) (Nat.le_trans (by decide) hRf) (Nat.le_trans (Nat.le_of_ble_eq_true rfl) hRl) (Nat.le_trans (Nat.le_of_ble_eq_true rfl) hRc) (Nat.le_trans (Nat.le_of_ble_eq_true rfl) hRs) (Nat.le_of_ble_eq_true rfl) (Nat.le_of_ble_eq_true rfl) dX8_banquet_57 dX8_banquet_60 dX8_banquet_61 dX8_banquet_63 dX8_banquet_66
      · have hf := g_t h12 hf
        exact gth_2 (text := "the hour, the courses or the coins are out of range") E hl0 hout hlocks (hl.1.trans hml.symm) (by decide) hf hM hS (by decide) (Nat.le_trans (by decide) hRf) (Nat.le_trans (Nat.le_of_ble_eq_true rfl) hRl) (Nat.le_trans (Nat.le_of_ble_eq_true rfl) hRc) (Nat.le_trans (Nat.le_of_ble_eq_true rfl) hRs) (Nat.le_of_ble_eq_true rfl) (Nat.le_of_ble_eq_true rfl) dX8_banquet_32 dX8_banquet_35 dX8_banquet_36 dX8_banquet_38 dX8_banquet_41
theorem c_X8_banquet (l : Launch) (X : gX) (hl0 : l.stackTraces = false) (c0 : Nat) (u1 : Int32) (u2 : Int32) (u3 : Int32) (m0 : gMem) {res : Nat × Int32 × gMem} (hk0 : gk c0 = 8) (hf : f_X8_banquet c0 u1 u2 u3 m0 = some res) : vx_Met l yX8_banquet (gWs yX8_banquet cX8_banquet 4 (some .int)) { frames := 6, cells := 1, slots := 6, locals := 124 } (va_Pc [.ref (X.1 + c0), .int u1, .int u2, .int u3] (gB X m0)) (gQTi X res) (gXC X res.1 res.2.2) 1 6 (gA X) :=
  gMetX (own := RX8) (by decide +kernel) rfl (Nat.le_of_ble_eq_true rfl) (fun p e s m args below meth c ls E hr hlocks hml hout hM hl => b_X8_banquet E hr hlocks hml hl0 hout (Nat.le_refl _) (Nat.le_refl _) (Nat.le_refl _) (Nat.le_refl _) hk0 hf hM va_S.rf hl)
def f_X8_knownBanquet (c0 : Nat) (u1 : Int32) (m0 : gMem) : Option (Nat × Nat × gMem) := g1 (f_X2_placeOfBanquet (c0 + 1) u1 m0) (fun r4 m2 => g1 (f_X2_banquetAt (c0 + 1) r4 m2) (fun r7 m5 => gnl r7 (some (4, 0, m5)) (fun z8 => if gk z8 = 0 then some (0, z8, m5) else none)))
set_option maxRecDepth 100000 in
set_option maxHeartbeats 4000000 in
theorem b_X8_knownBanquet {p : Program} {l : Launch} {e : Env} {R : Room} {s : State} {m : MethodId} {args : Array Value} {below : List Frame} {meth : Method} {c : Code} {H : Heap} {locs : List Loc} {ls : Array Slot} {X : gX} (E : gEn p s m args c cX8_knownBanquet RX8 X) (hr : meth.sig.returnType = (some (.object "SugarTowers$Banquet"))) (hlocks : meth.locks = false) (hml : c.maxLocals = 3) (hl0 : l.stackTraces = false) (hout : ∀ x ∈ c.exceptionTable.toList, False) (hRf : 6 ≤ R.frames) (hRl : 100 ≤ R.locals) (hRc : 1 ≤ R.cells) (hRs : 6 ≤ R.slots) {c0 : Nat} {u1 : Int32} {m0 : gMem} {res : Nat × Nat × gMem} (hk0 : gk c0 = 8) (hf : f_X8_knownBanquet c0 u1 m0 = some res) (hM : gM X m0 H) (hS : va_S (gA X) s.heap H locs) (hl : lv_has ls 3 [(0, .ref (X.1 + c0)), (1, .int u1)]) : W p l e R s m args below meth c H locs 0 0 (vx_MQ below (gQTr X res) (gXC X res.1 res.2.2) args s 1 6 (gA X)) (F0 m 0 ls []) := by
  obtain ⟨hx, hb⟩ := (⟨E.1, E.2.1⟩ : _ ∧ _)
  unfold f_X8_knownBanquet at hf
  refine lv_aload_n hx hb dX8_knownBanquet_0 rfl (lv_at hl 0 rfl) ?_
  refine GX8_10 E hM hk0 dX8_knownBanquet_1 ?_
  have hg1 : gk (c0 + 1) = 2 := gkf_8_0 hk0
  refine lv_aload_n hx hb dX8_knownBanquet_4 rfl (lv_at hl 0 rfl) ?_
  refine GX8_10 E hM hk0 dX8_knownBanquet_5 ?_
  refine lv_iload_n hx hb dX8_knownBanquet_8 rfl (lv_at hl 1 rfl) ?_
  obtain ⟨r4, m2, hqq3, hf⟩ := g1_o hf
  refine ga_i (gr_V (As := [.int u1]) (ci := 2) (rm := { frames := 0, cells := 0, slots := 0, locals := 0 }) E hml hl.1 (c_X2_placeOfBanquet l X (c0 + 1) u1 m0 hg1 hqq3) wt_X2_placeOfBanquet wl_RX8_248 rfl hg1 (by decide) rfl rfl hM hS rfl rfl (Nat.le_trans (by decide) hRf) (Nat.le_trans (by decide) hRl) (Nat.le_trans (Nat.le_of_ble_eq_true rfl) hRc) (Nat.le_trans (Nat.le_of_ble_eq_true rfl) hRs) (Nat.le_of_ble_eq_true rfl) dX8_knownBanquet_9 rfl) hS (fun H locs hM hS => ?_)
  obtain ⟨r7, m5, hqq6, hf⟩ := g1_o hf
  refine ga_o (gr_V (As := [.int r4]) (ci := 2) (rm := { frames := 0, cells := 0, slots := 0, locals := 0 }) E hml hl.1 (c_X2_banquetAt l X (c0 + 1) r4 m2 hg1 hqq6) wt_X2_banquetAt wl_RX8_412 rfl hg1 (by decide) rfl rfl hM hS rfl rfl (Nat.le_trans (by decide) hRf) (Nat.le_trans (by decide) hRl) (Nat.le_trans (Nat.le_of_ble_eq_true rfl) hRc) (Nat.le_trans (Nat.le_of_ble_eq_true rfl) hRs) (Nat.le_of_ble_eq_true rfl) dX8_knownBanquet_12 rfl) hS (fun H locs hM hS => ?_)
  cases r7 with
  | none =>
    have hf := gnl_n hf
    refine gW_null ?_
    refine lv_astore_nN (lv' := [(2, .null), (0, .ref (X.1 + c0)), (1, .int u1)]) hx hb dX8_knownBanquet_15 rfl hl (by decide) rfl (fun ls hl => ?_)
    refine lv_aload_nN hx hb dX8_knownBanquet_16 rfl (lv_at hl 0 rfl) ?_
    refine lv_ifnonnullN hx hb dX8_knownBanquet_17 ?_
    exact gth_4w (text := "no such banquet waits") E hl0 hout hlocks (hl.1.trans hml.symm) (by decide) hf hM hS (by decide) (Nat.le_trans (by decide) hRf) (Nat.le_trans (Nat.le_of_ble_eq_true rfl) hRl) (Nat.le_trans (Nat.le_of_ble_eq_true rfl) hRc) (Nat.le_trans (Nat.le_of_ble_eq_true rfl) hRs) (Nat.le_of_ble_eq_true rfl) (Nat.le_of_ble_eq_true rfl) dX8_knownBanquet_20 dX8_knownBanquet_23 dX8_knownBanquet_24 dX8_knownBanquet_27 dX8_knownBanquet_30
  | some z8 =>
    have hf := gnl_s hf
    obtain ⟨hg9, hf⟩ := g_ck hf
    refine gW_some ?_
    refine lv_astore_n (lv' := [(2, .ref (X.1 + z8)), (0, .ref (X.1 + c0)), (1, .int u1)]) hx hb dX8_knownBanquet_15 rfl hl (by decide) rfl (fun ls hl => ?_)
    refine lv_aload_n hx hb dX8_knownBanquet_16 rfl (lv_at hl 0 rfl) ?_
    refine lv_ifnonnull (tgt := 31) hx hb dX8_knownBanquet_17 (by decide) ?_
    refine lv_aload_n hx hb dX8_knownBanquet_31 rfl (lv_at hl 0 rfl) ?_
    exact ge_Tr E hr hlocks hf hM hS (Nat.le_of_ble_eq_true rfl) (Nat.le_of_ble_eq_true rfl) dX8_knownBanquet_32
theorem c_X8_knownBanquet (l : Launch) (X : gX) (hl0 : l.stackTraces = false) (c0 : Nat) (u1 : Int32) (m0 : gMem) {res : Nat × Nat × gMem} (hk0 : gk c0 = 8) (hf : f_X8_knownBanquet c0 u1 m0 = some res) : vx_Met l yX8_knownBanquet (gWs yX8_knownBanquet cX8_knownBanquet 3 (some (.object "SugarTowers$Banquet"))) { frames := 6, cells := 1, slots := 6, locals := 100 } (va_Pc [.ref (X.1 + c0), .int u1] (gB X m0)) (gQTr X res) (gXC X res.1 res.2.2) 1 6 (gA X) :=
  gMetX (own := RX8) (by decide +kernel) rfl (Nat.le_of_ble_eq_true rfl) (fun p e s m args below meth c ls E hr hlocks hml hout hM hl => b_X8_knownBanquet E hr hlocks hml hl0 hout (Nat.le_refl _) (Nat.le_refl _) (Nat.le_refl _) (Nat.le_refl _) hk0 hf hM va_S.rf hl)
def f_X8_show (c0 : Nat) (u1 : Int32) (u2 : Int32) (m0 : gMem) : Option (Nat × Int32 × gMem) := g2 (0 : Int32) (f_X8_knownBanquet c0 u1 m0) (fun r3 m1 => if gk r3 = 0 then g2 (0 : Int32) (f_X8_knownTower c0 u2 m1) (fun r11 m9 => if gk r11 = 7 then g1 (f_X1_keep (c0 + 106) (c0 + 1) m9) (fun r21 m19 => gv (ms m19 r3 4 u2) (fun m22 => g1 (f_X2_missingCourses (c0 + 1) r3 m22) (fun r25 m23 => some (0, r25, m23)))) else none) else none)
set_option maxRecDepth 100000 in
set_option maxHeartbeats 4000000 in
theorem b_X8_show {p : Program} {l : Launch} {e : Env} {R : Room} {s : State} {m : MethodId} {args : Array Value} {below : List Frame} {meth : Method} {c : Code} {H : Heap} {locs : List Loc} {ls : Array Slot} {X : gX} (E : gEn p s m args c cX8_show RX8 X) (hr : meth.sig.returnType = (some .int)) (hlocks : meth.locks = false) (hml : c.maxLocals = 4) (hl0 : l.stackTraces = false) (hout : ∀ x ∈ c.exceptionTable.toList, False) (hRf : 7 ≤ R.frames) (hRl : 124 ≤ R.locals) (hRc : 2 ≤ R.cells) (hRs : 12 ≤ R.slots) {c0 : Nat} {u1 : Int32} {u2 : Int32} {m0 : gMem} {res : Nat × Int32 × gMem} (hk0 : gk c0 = 8) (hf : f_X8_show c0 u1 u2 m0 = some res) (hM : gM X m0 H) (hS : va_S (gA X) s.heap H locs) (hl : lv_has ls 4 [(0, .ref (X.1 + c0)), (1, .int u1), (2, .int u2)]) : W p l e R s m args below meth c H locs 0 0 (vx_MQ below (gQTi X res) (gXC X res.1 res.2.2) args s 2 12 (gA X)) (F0 m 0 ls []) := by
  obtain ⟨hx, hb⟩ := (⟨E.1, E.2.1⟩ : _ ∧ _)
  unfold f_X8_show at hf
  refine lv_aload_n hx hb dX8_show_0 rfl (lv_at hl 0 rfl) ?_
  refine lv_iload_n hx hb dX8_show_1 rfl (lv_at hl 1 rfl) ?_
  obtain ⟨e4, r3, m1, hqq2, hf5, hx6⟩ := g2_o hf
  refine ga_Tr (gr_VX (As := [.int u1]) (ci := 8) (rm := { frames := 6, cells := 1, slots := 6, locals := 100 }) E hml hl.1 (c_X8_knownBanquet l X hl0 c0 u1 m0 hk0 hqq2) wt_X8_knownBanquet wl_RX8_235 rfl hk0 (by decide) rfl rfl hM hS rfl rfl (Nat.le_trans (by decide) hRf) (Nat.le_trans (by decide) hRl) (Nat.le_trans (Nat.le_of_ble_eq_true rfl) hRc) (Nat.le_trans (Nat.le_of_ble_eq_true rfl) hRs) (Nat.le_of_ble_eq_true rfl) dX8_show_2 rfl) hout hlocks hS (Nat.le_of_ble_eq_true rfl) (Nat.le_of_ble_eq_true rfl) (fun h => by rw [hx6 h]; exact ⟨rfl, rfl⟩) (fun hz7 H locs hM hS => ?_)
  have hf := hf5 hz7
  obtain ⟨hg8, hf⟩ := g_ck hf
  refine lv_astore_n (lv' := [(3, .ref (X.1 + r3)), (0, .ref (X.1 + c0)), (1, .int u1), (2, .int u2)]) hx hb dX8_show_5 rfl hl (by decide) rfl (fun ls hl => ?_)
  refine lv_aload_n hx hb dX8_show_6 rfl (lv_at hl 1 rfl) ?_
  refine lv_iload_n hx hb dX8_show_7 rfl (lv_at hl 3 rfl) ?_
  obtain ⟨e12, r11, m9, hqq10, hf13, hx14⟩ := g2_o hf
  refine ga_Tr (gr_VX (As := [.int u2]) (ci := 8) (rm := { frames := 6, cells := 1, slots := 6, locals := 100 }) E hml hl.1 (c_X8_knownTower l X hl0 c0 u2 m1 hk0 hqq10) wt_X8_knownTower wl_RX8_166 rfl hk0 (by decide) rfl rfl hM hS rfl rfl (Nat.le_trans (by decide) hRf) (Nat.le_trans (by decide) hRl) (Nat.le_trans (Nat.le_of_ble_eq_true rfl) hRc) (Nat.le_trans (Nat.le_of_ble_eq_true rfl) hRs) (Nat.le_of_ble_eq_true rfl) dX8_show_8 rfl) hout hlocks hS (Nat.le_of_ble_eq_true rfl) (Nat.le_of_ble_eq_true rfl) (fun h => by rw [hx14 h]; exact ⟨rfl, rfl⟩) (fun hz15 H locs hM hS => ?_)
  have hf := hf13 hz15
  obtain ⟨hg16, hf⟩ := g_ck hf
  refine lv_pop hx hb dX8_show_11 rfl ?_
  refine lv_aload_n hx hb dX8_show_12 rfl (lv_at hl 1 rfl) ?_
  refine GX8_25 E hM hk0 dX8_show_13 ?_
  have hg17 : gk (c0 + 106) = 1 := gkf_8_4 hk0
  refine lv_aload_n hx hb dX8_show_16 rfl (lv_at hl 1 rfl) ?_
  refine GX8_10 E hM hk0 dX8_show_17 ?_
  have hg18 : gk (c0 + 1) = 2 := gkf_8_0 hk0
  obtain ⟨r21, m19, hqq20, hf⟩ := g1_o hf
  refine ga_v (gr_V (As := [.ref (X.1 + (c0 + 1))]) (ci := 1) (rm := { frames := 3, cells := 0, slots := 0, locals := 103 }) E hml hl.1 (c_X1_keep l X (c0 + 106) (c0 + 1) m9 hg17 hg18 hqq20) wt_X1_keep wl_RX8_66 rfl hg17 (by decide) rfl rfl hM hS rfl rfl (Nat.le_trans (by decide) hRf) (Nat.le_trans (by decide) hRl) (Nat.le_trans (Nat.le_of_ble_eq_true rfl) hRc) (Nat.le_trans (Nat.le_of_ble_eq_true rfl) hRs) (Nat.le_of_ble_eq_true rfl) dX8_show_20 rfl) hS (fun H locs hM hS => ?_)
  refine lv_aload_n hx hb dX8_show_23 rfl (lv_at hl 0 rfl) ?_
  refine lv_iload_n hx hb dX8_show_24 rfl (lv_at hl 3 rfl) ?_
  obtain ⟨m22, em22, hf⟩ := gv_o hf
  refine PX8_239 E hM hS hg8 em22 dX8_show_25 (fun H locs hM hS => ?_)
  refine lv_aload_n hx hb dX8_show_28 rfl (lv_at hl 1 rfl) ?_
  refine GX8_10 E hM hk0 dX8_show_29 ?_
  refine lv_aload_n hx hb dX8_show_32 rfl (lv_at hl 0 rfl) ?_
  obtain ⟨r25, m23, hqq24, hf⟩ := g1_o hf
  refine ga_i (gr_V (As := [.ref (X.1 + r3)]) (ci := 2) (rm := { frames := 1, cells := 0, slots := 0, locals := 60 }) E hml hl.1 (c_X2_missingCourses l X (c0 + 1) r3 m22 hg18 hg8 hqq24) wt_X2_missingCourses wl_RX8_244 rfl hg18 (by decide) rfl rfl hM hS rfl rfl (Nat.le_trans (by decide) hRf) (Nat.le_trans (by decide) hRl) (Nat.le_trans (Nat.le_of_ble_eq_true rfl) hRc) (Nat.le_trans (Nat.le_of_ble_eq_true rfl) hRs) (Nat.le_of_ble_eq_true rfl) dX8_show_33 rfl) hS (fun H locs hM hS => ?_)
  exact ge_Ti E hr hlocks hf hM hS (Nat.le_of_ble_eq_true rfl) (Nat.le_of_ble_eq_true rfl) dX8_show_36
theorem c_X8_show (l : Launch) (X : gX) (hl0 : l.stackTraces = false) (c0 : Nat) (u1 : Int32) (u2 : Int32) (m0 : gMem) {res : Nat × Int32 × gMem} (hk0 : gk c0 = 8) (hf : f_X8_show c0 u1 u2 m0 = some res) : vx_Met l yX8_show (gWs yX8_show cX8_show 4 (some .int)) { frames := 7, cells := 2, slots := 12, locals := 124 } (va_Pc [.ref (X.1 + c0), .int u1, .int u2] (gB X m0)) (gQTi X res) (gXC X res.1 res.2.2) 2 12 (gA X) :=
  gMetX (own := RX8) (by decide +kernel) rfl (Nat.le_of_ble_eq_true rfl) (fun p e s m args below meth c ls E hr hlocks hml hout hM hl => b_X8_show E hr hlocks hml hl0 hout (Nat.le_refl _) (Nat.le_refl _) (Nat.le_refl _) (Nat.le_refl _) hk0 hf hM va_S.rf hl)
def f_X8_cancel (c0 : Nat) (u1 : Int32) (m0 : gMem) : Option (Nat × Int32 × gMem) := g2 (0 : Int32) (f_X8_knownBanquet c0 u1 m0) (fun r3 m1 => if gk r3 = 0 then g1 (f_X1_keep (c0 + 106) (c0 + 1) m1) (fun r13 m11 => g1 (f_X2_placeOfBanquet (c0 + 1) u1 m11) (fun r16 m14 => g1 (f_X2_dropBanquet (c0 + 1) r16 m14) (fun r19 m17 => some (0, (m17 (c0 + 1) 10), m17)))) else none)
set_option maxRecDepth 100000 in
set_option maxHeartbeats 4000000 in
theorem b_X8_cancel {p : Program} {l : Launch} {e : Env} {R : Room} {s : State} {m : MethodId} {args : Array Value} {below : List Frame} {meth : Method} {c : Code} {H : Heap} {locs : List Loc} {ls : Array Slot} {X : gX} (E : gEn p s m args c cX8_cancel RX8 X) (hr : meth.sig.returnType = (some .int)) (hlocks : meth.locks = false) (hml : c.maxLocals = 2) (hl0 : l.stackTraces = false) (hout : ∀ x ∈ c.exceptionTable.toList, False) (hRf : 7 ≤ R.frames) (hRl : 124 ≤ R.locals) (hRc : 1 ≤ R.cells) (hRs : 6 ≤ R.slots) {c0 : Nat} {u1 : Int32} {m0 : gMem} {res : Nat × Int32 × gMem} (hk0 : gk c0 = 8) (hf : f_X8_cancel c0 u1 m0 = some res) (hM : gM X m0 H) (hS : va_S (gA X) s.heap H locs) (hl : lv_has ls 2 [(0, .ref (X.1 + c0)), (1, .int u1)]) : W p l e R s m args below meth c H locs 0 0 (vx_MQ below (gQTi X res) (gXC X res.1 res.2.2) args s 1 6 (gA X)) (F0 m 0 ls []) := by
  obtain ⟨hx, hb⟩ := (⟨E.1, E.2.1⟩ : _ ∧ _)
  unfold f_X8_cancel at hf
  refine lv_aload_n hx hb dX8_cancel_0 rfl (lv_at hl 0 rfl) ?_
  refine lv_iload_n hx hb dX8_cancel_1 rfl (lv_at hl 1 rfl) ?_
  obtain ⟨e4, r3, m1, hqq2, hf5, hx6⟩ := g2_o hf
  refine ga_Tr (gr_VX (As := [.int u1]) (ci := 8) (rm := { frames := 6, cells := 1, slots := 6, locals := 100 }) E hml hl.1 (c_X8_knownBanquet l X hl0 c0 u1 m0 hk0 hqq2) wt_X8_knownBanquet wl_RX8_235 rfl hk0 (by decide) rfl rfl hM hS rfl rfl (Nat.le_trans (by decide) hRf) (Nat.le_trans (by decide) hRl) (Nat.le_trans (Nat.le_of_ble_eq_true rfl) hRc) (Nat.le_trans (Nat.le_of_ble_eq_true rfl) hRs) (Nat.le_of_ble_eq_true rfl) dX8_cancel_2 rfl) hout hlocks hS (Nat.le_of_ble_eq_true rfl) (Nat.le_of_ble_eq_true rfl) (fun h => by rw [hx6 h]; exact ⟨rfl, rfl⟩) (fun hz7 H locs hM hS => ?_)
  have hf := hf5 hz7
  obtain ⟨hg8, hf⟩ := g_ck hf
  refine lv_pop hx hb dX8_cancel_5 rfl ?_
  refine lv_aload_n hx hb dX8_cancel_6 rfl (lv_at hl 0 rfl) ?_
  refine GX8_25 E hM hk0 dX8_cancel_7 ?_
  have hg9 : gk (c0 + 106) = 1 := gkf_8_4 hk0
  refine lv_aload_n hx hb dX8_cancel_10 rfl (lv_at hl 0 rfl) ?_
  refine GX8_10 E hM hk0 dX8_cancel_11 ?_
  have hg10 : gk (c0 + 1) = 2 := gkf_8_0 hk0
  obtain ⟨r13, m11, hqq12, hf⟩ := g1_o hf
  refine ga_v (gr_V (As := [.ref (X.1 + (c0 + 1))]) (ci := 1) (rm := { frames := 3, cells := 0, slots := 0, locals := 103 }) E hml hl.1 (c_X1_keep l X (c0 + 106) (c0 + 1) m1 hg9 hg10 hqq12) wt_X1_keep wl_RX8_66 rfl hg9 (by decide) rfl rfl hM hS rfl rfl (Nat.le_trans (by decide) hRf) (Nat.le_trans (by decide) hRl) (Nat.le_trans (Nat.le_of_ble_eq_true rfl) hRc) (Nat.le_trans (Nat.le_of_ble_eq_true rfl) hRs) (Nat.le_of_ble_eq_true rfl) dX8_cancel_14 rfl) hS (fun H locs hM hS => ?_)
  refine lv_aload_n hx hb dX8_cancel_17 rfl (lv_at hl 0 rfl) ?_
  refine GX8_10 E hM hk0 dX8_cancel_18 ?_
  refine lv_aload_n hx hb dX8_cancel_21 rfl (lv_at hl 0 rfl) ?_
  refine GX8_10 E hM hk0 dX8_cancel_22 ?_
  refine lv_iload_n hx hb dX8_cancel_25 rfl (lv_at hl 1 rfl) ?_
  obtain ⟨r16, m14, hqq15, hf⟩ := g1_o hf
  refine ga_i (gr_V (As := [.int u1]) (ci := 2) (rm := { frames := 0, cells := 0, slots := 0, locals := 0 }) E hml hl.1 (c_X2_placeOfBanquet l X (c0 + 1) u1 m11 hg10 hqq15) wt_X2_placeOfBanquet wl_RX8_248 rfl hg10 (by decide) rfl rfl hM hS rfl rfl (Nat.le_trans (by decide) hRf) (Nat.le_trans (by decide) hRl) (Nat.le_trans (Nat.le_of_ble_eq_true rfl) hRc) (Nat.le_trans (Nat.le_of_ble_eq_true rfl) hRs) (Nat.le_of_ble_eq_true rfl) dX8_cancel_26 rfl) hS (fun H locs hM hS => ?_)
  obtain ⟨r19, m17, hqq18, hf⟩ := g1_o hf
  refine ga_v (gr_V (As := [.int r16]) (ci := 2) (rm := { frames := 1, cells := 0, slots := 0, locals := 21 }) E hml hl.1 (c_X2_dropBanquet l X (c0 + 1) r16 m14 hg10 hqq18) wt_X2_dropBanquet wl_RX8_251 rfl hg10 (by decide) rfl rfl hM hS rfl rfl (Nat.le_trans (by decide) hRf) (Nat.le_trans (by decide) hRl) (Nat.le_trans (Nat.le_of_ble_eq_true rfl) hRc) (Nat.le_trans (Nat.le_of_ble_eq_true rfl) hRs) (Nat.le_of_ble_eq_true rfl) dX8_cancel_29 rfl) hS (fun H locs hM hS => ?_)
  refine lv_aload_n hx hb dX8_cancel_32 rfl (lv_at hl 0 rfl) ?_
  refine GX8_10 E hM hk0 dX8_cancel_33 ?_
  refine GX8_255 E hM hg10 dX8_cancel_36 ?_
  exact ge_Ti E hr hlocks hf hM hS (Nat.le_of_ble_eq_true rfl) (Nat.le_of_ble_eq_true rfl) dX8_cancel_39
theorem c_X8_cancel (l : Launch) (X : gX) (hl0 : l.stackTraces = false) (c0 : Nat) (u1 : Int32) (m0 : gMem) {res : Nat × Int32 × gMem} (hk0 : gk c0 = 8) (hf : f_X8_cancel c0 u1 m0 = some res) : vx_Met l yX8_cancel (gWs yX8_cancel cX8_cancel 2 (some .int)) { frames := 7, cells := 1, slots := 6, locals := 124 } (va_Pc [.ref (X.1 + c0), .int u1] (gB X m0)) (gQTi X res) (gXC X res.1 res.2.2) 1 6 (gA X) :=
  gMetX (own := RX8) (by decide +kernel) rfl (Nat.le_of_ble_eq_true rfl) (fun p e s m args below meth c ls E hr hlocks hml hout hM hl => b_X8_cancel E hr hlocks hml hl0 hout (Nat.le_refl _) (Nat.le_refl _) (Nat.le_refl _) (Nat.le_refl _) hk0 hf hM va_S.rf hl)
def f_X8_banquetOf (c0 : Nat) (u1 : Int32) (u2 : Int32) (m0 : gMem) : Option (Nat × Int32 × gMem) := g2 (0 : Int32) (f_X8_knownBanquet c0 u1 m0) (fun r3 m1 => if gk r3 = 0 then if u2 = (0 : Int32) then (some (0, (m1 r3 1), m1)) else (if u2 = (1 : Int32) then (some (0, (m1 r3 2), m1)) else (if u2 = (2 : Int32) then (some (0, (m1 r3 3), m1)) else (if u2 = (3 : Int32) then (some (0, (m1 r3 4), m1)) else (if u2 = (4 : Int32) then (g1 (f_X2_missingCourses (c0 + 1) r3 m1) (fun r18 m16 => some (0, r18, m16))) else (some (2, (0 : Int32), m1)))))) else none)
set_option maxRecDepth 100000 in
set_option maxHeartbeats 4000000 in
theorem b_X8_banquetOf {p : Program} {l : Launch} {e : Env} {R : Room} {s : State} {m : MethodId} {args : Array Value} {below : List Frame} {meth : Method} {c : Code} {H : Heap} {locs : List Loc} {ls : Array Slot} {X : gX} (E : gEn p s m args c cX8_banquetOf RX8 X) (hr : meth.sig.returnType = (some .int)) (hlocks : meth.locks = false) (hml : c.maxLocals = 4) (hl0 : l.stackTraces = false) (hout : ∀ x ∈ c.exceptionTable.toList, False) (hRf : 7 ≤ R.frames) (hRl : 122 ≤ R.locals) (hRc : 2 ≤ R.cells) (hRs : 12 ≤ R.slots) {c0 : Nat} {u1 : Int32} {u2 : Int32} {m0 : gMem} {res : Nat × Int32 × gMem} (hk0 : gk c0 = 8) (hf : f_X8_banquetOf c0 u1 u2 m0 = some res) (hM : gM X m0 H) (hS : va_S (gA X) s.heap H locs) (hl : lv_has ls 4 [(0, .ref (X.1 + c0)), (1, .int u1), (2, .int u2)]) : W p l e R s m args below meth c H locs 0 0 (vx_MQ below (gQTi X res) (gXC X res.1 res.2.2) args s 2 12 (gA X)) (F0 m 0 ls []) := by
  obtain ⟨hx, hb⟩ := (⟨E.1, E.2.1⟩ : _ ∧ _)
  unfold f_X8_banquetOf at hf
  refine lv_aload_n hx hb dX8_banquetOf_0 rfl (lv_at hl 0 rfl) ?_
  refine lv_iload_n hx hb dX8_banquetOf_1 rfl (lv_at hl 1 rfl) ?_
  obtain ⟨e4, r3, m1, hqq2, hf5, hx6⟩ := g2_o hf
  refine ga_Tr (gr_VX (As := [.int u1]) (ci := 8) (rm := { frames := 6, cells := 1, slots := 6, locals := 100 }) E hml hl.1 (c_X8_knownBanquet l X hl0 c0 u1 m0 hk0 hqq2) wt_X8_knownBanquet wl_RX8_235 rfl hk0 (by decide) rfl rfl hM hS rfl rfl (Nat.le_trans (by decide) hRf) (Nat.le_trans (by decide) hRl) (Nat.le_trans (Nat.le_of_ble_eq_true rfl) hRc) (Nat.le_trans (Nat.le_of_ble_eq_true rfl) hRs) (Nat.le_of_ble_eq_true rfl) dX8_banquetOf_2 rfl) hout hlocks hS (Nat.le_of_ble_eq_true rfl) (Nat.le_of_ble_eq_true rfl) (fun h => by rw [hx6 h]; exact ⟨rfl, rfl⟩) (fun hz7 H locs hM hS => ?_)
  have hf := hf5 hz7
  obtain ⟨hg8, hf⟩ := g_ck hf
  refine lv_astore_n (lv' := [(3, .ref (X.1 + r3)), (0, .ref (X.1 + c0)), (1, .int u1), (2, .int u2)]) hx hb dX8_banquetOf_5 rfl hl (by decide) rfl (fun ls hl => ?_)
  refine lv_iload_n hx hb dX8_banquetOf_6 rfl (lv_at hl 3 rfl) ?_
  by_cases h10 : u2 = (0 : Int32)
  · have hf := g_t h10 hf
    refine lv_tableIn (tgt := 40) hx hb dX8_banquetOf_7 (by rw [h10]; decide) (by rw [h10]; decide) (by rw [h10]; rfl) (by decide) ?_
    refine lv_aload_n hx hb dX8_banquetOf_40 rfl (lv_at hl 0 rfl) ?_
    refine GX8_258 E hM hg8 dX8_banquetOf_41 ?_
    exact ge_Ti E hr hlocks hf hM hS (Nat.le_of_ble_eq_true rfl) (Nat.le_of_ble_eq_true rfl) dX8_banquetOf_44
  have hf := g_f h10 hf
  by_cases h11 : u2 = (1 : Int32)
  · have hf := g_t h11 hf
    refine lv_tableIn (tgt := 45) hx hb dX8_banquetOf_7 (by rw [h11]; decide) (by rw [h11]; decide) (by rw [h11]; rfl) (by decide) ?_
    refine lv_aload_n hx hb dX8_banquetOf_45 rfl (lv_at hl 0 rfl) ?_
    refine GX8_261 E hM hg8 dX8_banquetOf_46 ?_
    exact ge_Ti E hr hlocks hf hM hS (Nat.le_of_ble_eq_true rfl) (Nat.le_of_ble_eq_true rfl) dX8_banquetOf_49
  have hf := g_f h11 hf
  by_cases h12 : u2 = (2 : Int32)
  · have hf := g_t h12 hf
    refine lv_tableIn (tgt := 50) hx hb dX8_banquetOf_7 (by rw [h12]; decide) (by rw [h12]; decide) (by rw [h12]; rfl) (by decide) ?_
    refine lv_aload_n hx hb dX8_banquetOf_50 rfl (lv_at hl 0 rfl) ?_
    refine GX8_264 E hM hg8 dX8_banquetOf_51 ?_
    exact ge_Ti E hr hlocks hf hM hS (Nat.le_of_ble_eq_true rfl) (Nat.le_of_ble_eq_true rfl) dX8_banquetOf_54
  have hf := g_f h12 hf
  by_cases h13 : u2 = (3 : Int32)
  · have hf := g_t h13 hf
    refine lv_tableIn (tgt := 55) hx hb dX8_banquetOf_7 (by rw [h13]; decide) (by rw [h13]; decide) (by rw [h13]; rfl) (by decide) ?_
    refine lv_aload_n hx hb dX8_banquetOf_55 rfl (lv_at hl 0 rfl) ?_
    refine GX8_239 E hM hg8 dX8_banquetOf_56 ?_
    exact ge_Ti E hr hlocks hf hM hS (Nat.le_of_ble_eq_true rfl) (Nat.le_of_ble_eq_true rfl) dX8_banquetOf_59
  have hf := g_f h13 hf
  by_cases h14 : u2 = (4 : Int32)
  · have hf := g_t h14 hf
    refine lv_tableIn (tgt := 60) hx hb dX8_banquetOf_7 (by rw [h14]; decide) (by rw [h14]; decide) (by rw [h14]; rfl) (by decide) ?_
    refine lv_aload_n hx hb dX8_banquetOf_60 rfl (lv_at hl 1 rfl) ?_
    refine GX8_10 E hM hk0 dX8_banquetOf_61 ?_
    have hg15 : gk (c0 + 1) = 2 := gkf_8_0 hk0
    refine lv_aload_n hx hb dX8_banquetOf_64 rfl (lv_at hl 0 rfl) ?_
    obtain ⟨r18, m16, hqq17, hf⟩ := g1_o hf
    refine ga_i (gr_V (As := [.ref (X.1 + r3)]) (ci := 2) (rm := { frames := 1, cells := 0, slots := 0, locals := 60 }) E hml hl.1 (c_X2_missingCourses l X (c0 + 1) r3 m1 hg15 hg8 hqq17) wt_X2_missingCourses wl_RX8_244 rfl hg15 (by decide) rfl rfl hM hS rfl rfl (Nat.le_trans (by decide) hRf) (Nat.le_trans (by decide) hRl) (Nat.le_trans (Nat.le_of_ble_eq_true rfl) hRc) (Nat.le_trans (Nat.le_of_ble_eq_true rfl) hRs) (Nat.le_of_ble_eq_true rfl) dX8_banquetOf_65 rfl) hS (fun H locs hM hS => ?_)
    exact ge_Ti E hr hlocks hf hM hS (Nat.le_of_ble_eq_true rfl) (Nat.le_of_ble_eq_true rfl) dX8_banquetOf_68
  have hf := g_f h14 hf
  have ah10 := g_tn (z := 0) h10 rfl
  have ah11 := g_tn (z := 1) h11 rfl
  have ah12 := g_tn (z := 2) h12 rfl
  have ah13 := g_tn (z := 3) h13 rfl
  have ah14 := g_tn (z := 4) h14 rfl
  refine lv_tableOut (tgt := 69) hx hb dX8_banquetOf_7 (by omega) (by decide) ?_
  exact gth_2w (text := "no such number of a banquet") E hl0 hout hlocks (hl.1.trans hml.symm) (by decide) hf hM hS (by decide) (Nat.le_trans (by decide) hRf) (Nat.le_trans (Nat.le_of_ble_eq_true rfl) hRl) (Nat.le_trans (Nat.le_of_ble_eq_true rfl) hRc) (Nat.le_trans (Nat.le_of_ble_eq_true rfl) hRs) (Nat.le_of_ble_eq_true rfl) (Nat.le_of_ble_eq_true rfl) dX8_banquetOf_69 dX8_banquetOf_72 dX8_banquetOf_73 dX8_banquetOf_76 dX8_banquetOf_79
theorem c_X8_banquetOf (l : Launch) (X : gX) (hl0 : l.stackTraces = false) (c0 : Nat) (u1 : Int32) (u2 : Int32) (m0 : gMem) {res : Nat × Int32 × gMem} (hk0 : gk c0 = 8) (hf : f_X8_banquetOf c0 u1 u2 m0 = some res) : vx_Met l yX8_banquetOf (gWs yX8_banquetOf cX8_banquetOf 4 (some .int)) { frames := 7, cells := 2, slots := 12, locals := 122 } (va_Pc [.ref (X.1 + c0), .int u1, .int u2] (gB X m0)) (gQTi X res) (gXC X res.1 res.2.2) 2 12 (gA X) :=
  gMetX (own := RX8) (by decide +kernel) rfl (Nat.le_of_ble_eq_true rfl) (fun p e s m args below meth c ls E hr hlocks hml hout hM hl => b_X8_banquetOf E hr hlocks hml hl0 hout (Nat.le_refl _) (Nat.le_refl _) (Nat.le_refl _) (Nat.le_refl _) hk0 hf hM va_S.rf hl)
def f_X8_pass (c0 : Nat) (u1 : Int32) (m0 : gMem) : Option (Nat × Int32 × gMem) := g1 (f_X8_isBetween (1 : Int32) u1 (72 : Int32) m0) (fun r3 m1 => if r3 = (0 : Int32) then (some (2, (0 : Int32), m1)) else (g1 (f_X1_keep (c0 + 106) (c0 + 1) m1) (fun r9 m7 => g1 (f_X2_letHoursGoBy (c0 + 1) u1 m7) (fun r12 m10 => some (0, r12, m10)))))
set_option maxRecDepth 100000 in
set_option maxHeartbeats 4000000 in
theorem b_X8_pass {p : Program} {l : Launch} {e : Env} {R : Room} {s : State} {m : MethodId} {args : Array Value} {below : List Frame} {meth : Method} {c : Code} {H : Heap} {locs : List Loc} {ls : Array Slot} {X : gX} (E : gEn p s m args c cX8_pass RX8 X) (hr : meth.sig.returnType = (some .int)) (hlocks : meth.locks = false) (hml : c.maxLocals = 2) (hl0 : l.stackTraces = false) (hout : ∀ x ∈ c.exceptionTable.toList, False) (hRf : 6 ≤ R.frames) (hRl : 155 ≤ R.locals) (hRc : 1 ≤ R.cells) (hRs : 6 ≤ R.slots) {c0 : Nat} {u1 : Int32} {m0 : gMem} {res : Nat × Int32 × gMem} (hk0 : gk c0 = 8) (hf : f_X8_pass c0 u1 m0 = some res) (hM : gM X m0 H) (hS : va_S (gA X) s.heap H locs) (hl : lv_has ls 2 [(0, .ref (X.1 + c0)), (1, .int u1)]) : W p l e R s m args below meth c H locs 0 0 (vx_MQ below (gQTi X res) (gXC X res.1 res.2.2) args s 1 6 (gA X)) (F0 m 0 ls []) := by
  obtain ⟨hx, hb⟩ := (⟨E.1, E.2.1⟩ : _ ∧ _)
  unfold f_X8_pass at hf
  refine lv_iconst (v := (1 : Int32)) hx hb dX8_pass_0 (by decide) ?_
  refine lv_iload_n hx hb dX8_pass_1 rfl (lv_at hl 1 rfl) ?_
  refine lv_bipush (v := (72 : Int32)) hx hb dX8_pass_2 (by decide) ?_
  obtain ⟨r3, m1, hqq2, hf⟩ := g1_o hf
  refine ga_i (gr_S (As := [.int (1 : Int32), .int u1, .int (72 : Int32)]) (rm := { frames := 0, cells := 0, slots := 0, locals := 0 }) E hml hl.1 (c_X8_isBetween l X (1 : Int32) u1 (72 : Int32) m0 hqq2) wt_X8_isBetween wl_RX8_50 rfl hM hS rfl rfl (Nat.le_trans (by decide) hRf) (Nat.le_trans (by decide) hRl) (Nat.le_trans (Nat.le_of_ble_eq_true rfl) hRc) (Nat.le_trans (Nat.le_of_ble_eq_true rfl) hRs) (Nat.le_of_ble_eq_true rfl) dX8_pass_4 rfl) hS (fun H locs hM hS => ?_)
  refine lv_if_ne (tgt := 20) hx hb dX8_pass_7 (by decide) (fun h4 => ?_) (fun h4 => ?_)
  · have hf := g_f h4 hf
    refine lv_aload_n hx hb dX8_pass_20 rfl (lv_at hl 0 rfl) ?_
    refine GX8_25 E hM hk0 dX8_pass_21 ?_
    have hg5 : gk (c0 + 106) = 1 := gkf_8_4 hk0
    refine lv_aload_n hx hb dX8_pass_24 rfl (lv_at hl 0 rfl) ?_
    refine GX8_10 E hM hk0 dX8_pass_25 ?_
    have hg6 : gk (c0 + 1) = 2 := gkf_8_0 hk0
    obtain ⟨r9, m7, hqq8, hf⟩ := g1_o hf
    refine ga_v (gr_V (As := [.ref (X.1 + (c0 + 1))]) (ci := 1) (rm := { frames := 3, cells := 0, slots := 0, locals := 103 }) E hml hl.1 (c_X1_keep l X (c0 + 106) (c0 + 1) m1 hg5 hg6 hqq8) wt_X1_keep wl_RX8_66 rfl hg5 (by decide) rfl rfl hM hS rfl rfl (Nat.le_trans (by decide) hRf) (Nat.le_trans (by decide) hRl) (Nat.le_trans (Nat.le_of_ble_eq_true rfl) hRc) (Nat.le_trans (Nat.le_of_ble_eq_true rfl) hRs) (Nat.le_of_ble_eq_true rfl) dX8_pass_28 rfl) hS (fun H locs hM hS => ?_)
    refine lv_aload_n hx hb dX8_pass_31 rfl (lv_at hl 0 rfl) ?_
    refine GX8_10 E hM hk0 dX8_pass_32 ?_
    refine lv_iload_n hx hb dX8_pass_35 rfl (lv_at hl 1 rfl) ?_
    obtain ⟨r12, m10, hqq11, hf⟩ := g1_o hf
    refine ga_i (gr_V (As := [.int u1]) (ci := 2) (rm := { frames := 4, cells := 0, slots := 0, locals := 132 }) E hml hl.1 (c_X2_letHoursGoBy l X (c0 + 1) u1 m7 hg6 hqq11) wt_X2_letHoursGoBy wl_RX8_278 rfl hg6 (by decide) rfl rfl hM hS rfl rfl (Nat.le_trans (by decide) hRf) (Nat.le_trans (by decide) hRl) (Nat.le_trans (Nat.le_of_ble_eq_true rfl) hRc) (Nat.le_trans (Nat.le_of_ble_eq_true rfl) hRs) (Nat.le_of_ble_eq_true rfl) dX8_pass_36 rfl) hS (fun H locs hM hS => ?_)
    exact ge_Ti E hr hlocks hf hM hS (Nat.le_of_ble_eq_true rfl) (Nat.le_of_ble_eq_true rfl) dX8_pass_39
  · have hf := g_t h4 hf
    exact gth_2 (text := "the hours are out of range") E hl0 hout hlocks (hl.1.trans hml.symm) (by decide) hf hM hS (by decide) (Nat.le_trans (by decide) hRf) (Nat.le_trans (Nat.le_of_ble_eq_true rfl) hRl) (Nat.le_trans (Nat.le_of_ble_eq_true rfl) hRc) (Nat.le_trans (Nat.le_of_ble_eq_true rfl) hRs) (Nat.le_of_ble_eq_true rfl) (Nat.le_of_ble_eq_true rfl) dX8_pass_10 dX8_pass_13 dX8_pass_14 dX8_pass_16 dX8_pass_19
theorem c_X8_pass (l : Launch) (X : gX) (hl0 : l.stackTraces = false) (c0 : Nat) (u1 : Int32) (m0 : gMem) {res : Nat × Int32 × gMem} (hk0 : gk c0 = 8) (hf : f_X8_pass c0 u1 m0 = some res) : vx_Met l yX8_pass (gWs yX8_pass cX8_pass 2 (some .int)) { frames := 6, cells := 1, slots := 6, locals := 155 } (va_Pc [.ref (X.1 + c0), .int u1] (gB X m0)) (gQTi X res) (gXC X res.1 res.2.2) 1 6 (gA X) :=
  gMetX (own := RX8) (by decide +kernel) rfl (Nat.le_of_ble_eq_true rfl) (fun p e s m args below meth c ls E hr hlocks hml hout hM hl => b_X8_pass E hr hlocks hml hl0 hout (Nat.le_refl _) (Nat.le_refl _) (Nat.le_refl _) (Nat.le_refl _) hk0 hf hM va_S.rf hl)
def f_X8_append (c0 : Nat) (u1 : Int32) (m0 : gMem) : Option (Nat × Int32 × gMem) := if (m0 (c0 + 388) 1) < (60 : Int32) then (g1 (f_X5_addSign (c0 + 388) u1 m0) (fun r5 m3 => some (0, r5, m3))) else (some (5, (0 : Int32), m0))
set_option maxRecDepth 100000 in
set_option maxHeartbeats 4000000 in
theorem b_X8_append {p : Program} {l : Launch} {e : Env} {R : Room} {s : State} {m : MethodId} {args : Array Value} {below : List Frame} {meth : Method} {c : Code} {H : Heap} {locs : List Loc} {ls : Array Slot} {X : gX} (E : gEn p s m args c cX8_append RX8 X) (hr : meth.sig.returnType = (some .int)) (hlocks : meth.locks = false) (hml : c.maxLocals = 2) (hl0 : l.stackTraces = false) (hout : ∀ x ∈ c.exceptionTable.toList, False) (hRf : 6 ≤ R.frames) (hRl : 100 ≤ R.locals) (hRc : 1 ≤ R.cells) (hRs : 6 ≤ R.slots) {c0 : Nat} {u1 : Int32} {m0 : gMem} {res : Nat × Int32 × gMem} (hk0 : gk c0 = 8) (hf : f_X8_append c0 u1 m0 = some res) (hM : gM X m0 H) (hS : va_S (gA X) s.heap H locs) (hl : lv_has ls 2 [(0, .ref (X.1 + c0)), (1, .int u1)]) : W p l e R s m args below meth c H locs 0 0 (vx_MQ below (gQTi X res) (gXC X res.1 res.2.2) args s 1 6 (gA X)) (F0 m 0 ls []) := by
  obtain ⟨hx, hb⟩ := (⟨E.1, E.2.1⟩ : _ ∧ _)
  unfold f_X8_append at hf
  refine lv_aload_n hx hb dX8_append_0 rfl (lv_at hl 0 rfl) ?_
  refine GX8_32 E hM hk0 dX8_append_1 ?_
  have hg1 : gk (c0 + 388) = 5 := gkf_8_5 hk0
  refine GX8_281 E hM hg1 dX8_append_4 ?_
  refine lv_bipush (v := (60 : Int32)) hx hb dX8_append_7 (by decide) ?_
  refine lv_icmp_lt (tgt := 23) hx hb dX8_append_9 (by decide) (fun h2 => ?_) (fun h2 => ?_)
  · have hf := g_t h2 hf
    refine lv_aload_n hx hb dX8_append_23 rfl (lv_at hl 0 rfl) ?_
    refine GX8_32 E hM hk0 dX8_append_24 ?_
    refine lv_iload_n hx hb dX8_append_27 rfl (lv_at hl 1 rfl) ?_
    obtain ⟨r5, m3, hqq4, hf⟩ := g1_o hf
    refine ga_i (gr_V (As := [.int u1]) (ci := 5) (rm := { frames := 0, cells := 0, slots := 0, locals := 0 }) E hml hl.1 (c_X5_addSign l X (c0 + 388) u1 m0 hg1 hqq4) wt_X5_addSign wl_RX8_289 rfl hg1 (by decide) rfl rfl hM hS rfl rfl (Nat.le_trans (by decide) hRf) (Nat.le_trans (by decide) hRl) (Nat.le_trans (Nat.le_of_ble_eq_true rfl) hRc) (Nat.le_trans (Nat.le_of_ble_eq_true rfl) hRs) (Nat.le_of_ble_eq_true rfl) dX8_append_28 rfl) hS (fun H locs hM hS => ?_)
    exact ge_Ti E hr hlocks hf hM hS (Nat.le_of_ble_eq_true rfl) (Nat.le_of_ble_eq_true rfl) dX8_append_31
  · have hf := g_f h2 hf
    exact gth_5w (text := "the input is full") E hl0 hout hlocks (hl.1.trans hml.symm) (by decide) hf hM hS (by decide) (Nat.le_trans (by decide) hRf) (Nat.le_trans (Nat.le_of_ble_eq_true rfl) hRl) (Nat.le_trans (Nat.le_of_ble_eq_true rfl) hRc) (Nat.le_trans (Nat.le_of_ble_eq_true rfl) hRs) (Nat.le_of_ble_eq_true rfl) (Nat.le_of_ble_eq_true rfl) dX8_append_12 dX8_append_15 dX8_append_16 dX8_append_19 dX8_append_22
theorem c_X8_append (l : Launch) (X : gX) (hl0 : l.stackTraces = false) (c0 : Nat) (u1 : Int32) (m0 : gMem) {res : Nat × Int32 × gMem} (hk0 : gk c0 = 8) (hf : f_X8_append c0 u1 m0 = some res) : vx_Met l yX8_append (gWs yX8_append cX8_append 2 (some .int)) { frames := 6, cells := 1, slots := 6, locals := 100 } (va_Pc [.ref (X.1 + c0), .int u1] (gB X m0)) (gQTi X res) (gXC X res.1 res.2.2) 1 6 (gA X) :=
  gMetX (own := RX8) (by decide +kernel) rfl (Nat.le_of_ble_eq_true rfl) (fun p e s m args below meth c ls E hr hlocks hml hout hM hl => b_X8_append E hr hlocks hml hl0 hout (Nat.le_refl _) (Nat.le_refl _) (Nat.le_refl _) (Nat.le_refl _) hk0 hf hM va_S.rf hl)
def f_X8_tryToBuy (c0 : Nat) (u1 : Int32) (u2 : Int32) (m0 : gMem) : Option (Int32 × gMem) := g1 (f_X8_isPurchase u1 u2 m0) (fun r3 m1 => if r3 = (0 : Int32) then (some ((1 : Int32), m1)) else (g1 (f_X2_reasonAgainstBuying (c0 + 36) (c0 + 431) u1 u2 m1) (fun r9 m7 => if r9 = (0 : Int32) then (g1 (f_X2_buyCubes (c0 + 36) u1 u2 m7) (fun r13 m11 => some ((0 : Int32), m11))) else (some ((2 : Int32), m7)))))
set_option maxRecDepth 100000 in
set_option maxHeartbeats 4000000 in
theorem b_X8_tryToBuy {p : Program} {l : Launch} {e : Env} {R : Room} {s : State} {m : MethodId} {args : Array Value} {below : List Frame} {meth : Method} {c : Code} {H : Heap} {locs : List Loc} {ls : Array Slot} {X : gX} (E : gEn p s m args c cX8_tryToBuy RX8 X) (hr : meth.sig.returnType = (some .int)) (hlocks : meth.locks = false) (hml : c.maxLocals = 3) (hRf : 3 ≤ R.frames) (hRl : 66 ≤ R.locals) (hRc : 0 ≤ R.cells) (hRs : 0 ≤ R.slots) {c0 : Nat} {u1 : Int32} {u2 : Int32} {m0 : gMem} {res : Int32 × gMem} (hk0 : gk c0 = 8) (hf : f_X8_tryToBuy c0 u1 u2 m0 = some res) (hM : gM X m0 H) (hS : va_S (gA X) s.heap H locs) (hl : lv_has ls 3 [(0, .ref (X.1 + c0)), (1, .int u1), (2, .int u2)]) : W p l e R s m args below meth c H locs 0 0 (MQ below (gQi X res) args s 0 0 (gA X)) (F0 m 0 ls []) := by
  obtain ⟨hx, hb⟩ := (⟨E.1, E.2.1⟩ : _ ∧ _)
  unfold f_X8_tryToBuy at hf
  refine lv_iload_n hx hb dX8_tryToBuy_0 rfl (lv_at hl 1 rfl) ?_
  refine lv_iload_n hx hb dX8_tryToBuy_1 rfl (lv_at hl 2 rfl) ?_
  obtain ⟨r3, m1, hqq2, hf⟩ := g1_o hf
  refine ga_i (gr_S (As := [.int u1, .int u2]) (rm := { frames := 1, cells := 0, slots := 0, locals := 22 }) E hml hl.1 (c_X8_isPurchase l X u1 u2 m0 hqq2) wt_X8_isPurchase wl_RX8_80 rfl hM hS rfl rfl (Nat.le_trans (by decide) hRf) (Nat.le_trans (by decide) hRl) (Nat.le_trans (Nat.le_of_ble_eq_true rfl) hRc) (Nat.le_trans (Nat.le_of_ble_eq_true rfl) hRs) (Nat.le_of_ble_eq_true rfl) dX8_tryToBuy_2 rfl) hS (fun H locs hM hS => ?_)
  refine lv_if_ne (tgt := 10) hx hb dX8_tryToBuy_5 (by decide) (fun h4 => ?_) (fun h4 => ?_)
  · have hf := g_f h4 hf
    refine lv_aload_n hx hb dX8_tryToBuy_10 rfl (lv_at hl 0 rfl) ?_
    refine GX8_16 E hM hk0 dX8_tryToBuy_11 ?_
    have hg5 : gk (c0 + 36) = 2 := gkf_8_1 hk0
    refine lv_aload_n hx hb dX8_tryToBuy_14 rfl (lv_at hl 0 rfl) ?_
    refine GX8_43 E hM hk0 dX8_tryToBuy_15 ?_
    have hg6 : gk (c0 + 431) = 4 := gkf_8_7 hk0
    refine lv_iload_n hx hb dX8_tryToBuy_18 rfl (lv_at hl 1 rfl) ?_
    refine lv_iload_n hx hb dX8_tryToBuy_19 rfl (lv_at hl 2 rfl) ?_
    obtain ⟨r9, m7, hqq8, hf⟩ := g1_o hf
    refine ga_i (gr_V (As := [.ref (X.1 + (c0 + 431)), .int u1, .int u2]) (ci := 2) (rm := { frames := 2, cells := 0, slots := 0, locals := 41 }) E hml hl.1 (c_X2_reasonAgainstBuying l X (c0 + 36) (c0 + 431) u1 u2 m1 hg5 hg6 hqq8) wt_X2_reasonAgainstBuying wl_RX8_86 rfl hg5 (by decide) rfl rfl hM hS rfl rfl (Nat.le_trans (by decide) hRf) (Nat.le_trans (by decide) hRl) (Nat.le_trans (Nat.le_of_ble_eq_true rfl) hRc) (Nat.le_trans (Nat.le_of_ble_eq_true rfl) hRs) (Nat.le_of_ble_eq_true rfl) dX8_tryToBuy_20 rfl) hS (fun H locs hM hS => ?_)
    refine lv_if_eq (tgt := 28) hx hb dX8_tryToBuy_23 (by decide) (fun h10 => ?_) (fun h10 => ?_)
    · have hf := g_t h10 hf
      refine lv_aload_n hx hb dX8_tryToBuy_28 rfl (lv_at hl 0 rfl) ?_
      refine GX8_16 E hM hk0 dX8_tryToBuy_29 ?_
      refine lv_iload_n hx hb dX8_tryToBuy_32 rfl (lv_at hl 1 rfl) ?_
      refine lv_iload_n hx hb dX8_tryToBuy_33 rfl (lv_at hl 2 rfl) ?_
      obtain ⟨r13, m11, hqq12, hf⟩ := g1_o hf
      refine ga_i (gr_V (As := [.int u1, .int u2]) (ci := 2) (rm := { frames := 2, cells := 0, slots := 0, locals := 41 }) E hml hl.1 (c_X2_buyCubes l X (c0 + 36) u1 u2 m7 hg5 hqq12) wt_X2_buyCubes wl_RX8_95 rfl hg5 (by decide) rfl rfl hM hS rfl rfl (Nat.le_trans (by decide) hRf) (Nat.le_trans (by decide) hRl) (Nat.le_trans (Nat.le_of_ble_eq_true rfl) hRc) (Nat.le_trans (Nat.le_of_ble_eq_true rfl) hRs) (Nat.le_of_ble_eq_true rfl) dX8_tryToBuy_34 rfl) hS (fun H locs hM hS => ?_)
      refine lv_pop hx hb dX8_tryToBuy_37 rfl ?_
      refine lv_iconst (v := (0 : Int32)) hx hb dX8_tryToBuy_38 (by decide) ?_
      exact ge_i E hr hlocks hf hM hS (Nat.le_of_ble_eq_true rfl) (Nat.le_of_ble_eq_true rfl) dX8_tryToBuy_39
    · have hf := g_f h10 hf
      refine lv_iconst (v := (2 : Int32)) hx hb dX8_tryToBuy_26 (by decide) ?_
      exact ge_i E hr hlocks hf hM hS (Nat.le_of_ble_eq_true rfl) (Nat.le_of_ble_eq_true rfl) dX8_tryToBuy_27
  · have hf := g_t h4 hf
    refine lv_iconst (v := (1 : Int32)) hx hb dX8_tryToBuy_8 (by decide) ?_
    exact ge_i E hr hlocks hf hM hS (Nat.le_of_ble_eq_true rfl) (Nat.le_of_ble_eq_true rfl) dX8_tryToBuy_9
theorem c_X8_tryToBuy (l : Launch) (X : gX) (c0 : Nat) (u1 : Int32) (u2 : Int32) (m0 : gMem) {res : Int32 × gMem} (hk0 : gk c0 = 8) (hf : f_X8_tryToBuy c0 u1 u2 m0 = some res) : Met l yX8_tryToBuy (gWs yX8_tryToBuy cX8_tryToBuy 3 (some .int)) { frames := 3, cells := 0, slots := 0, locals := 66 } (va_Pc [.ref (X.1 + c0), .int u1, .int u2] (gB X m0)) (gQi X res) 0 0 (gA X) :=
  gMet (own := RX8) (by decide +kernel) rfl (Nat.le_of_ble_eq_true rfl) (fun p e s m args below meth c ls E hr hlocks hml hM hl => b_X8_tryToBuy E hr hlocks hml (Nat.le_refl _) (Nat.le_refl _) (Nat.le_refl _) (Nat.le_refl _) hk0 hf hM va_S.rf hl)
def f_X8_tryToLay (c0 : Nat) (u1 : Int32) (u2 : Int32) (u3 : Int32) (u4 : Int32) (m0 : gMem) : Option (Int32 × gMem) := g1 (f_X2_towerAt (c0 + 36) u1 m0) (fun r4 m2 => gnl r4 (some ((1 : Int32), m2)) (fun z5 => if gk z5 = 7 then g1 (f_X2_tongsAt (c0 + 36) u2 m2) (fun r9 m7 => gnl r9 (some ((1 : Int32), m7)) (fun z10 => if gk z10 = 6 then g1 (f_X8_isCourse u3 u4 m7) (fun r14 m12 => if r14 = (0 : Int32) then (some ((1 : Int32), m12)) else (g1 (f_X2_reasonAgainstLaying (c0 + 36) (c0 + 431) u1 u2 u3 u4 m12) (fun r19 m17 => if r19 = (0 : Int32) then (g1 (f_X2_layCourse (c0 + 36) u1 u2 u3 u4 m17) (fun r23 m21 => some ((0 : Int32), m21))) else (some ((2 : Int32), m17))))) else none)) else none))
set_option maxRecDepth 100000 in
set_option maxHeartbeats 4000000 in
theorem b_X8_tryToLay {p : Program} {l : Launch} {e : Env} {R : Room} {s : State} {m : MethodId} {args : Array Value} {below : List Frame} {meth : Method} {c : Code} {H : Heap} {locs : List Loc} {ls : Array Slot} {X : gX} (E : gEn p s m args c cX8_tryToLay RX8 X) (hr : meth.sig.returnType = (some .int)) (hlocks : meth.locks = false) (hml : c.maxLocals = 5) (hRf : 4 ≤ R.frames) (hRl : 136 ≤ R.locals) (hRc : 0 ≤ R.cells) (hRs : 0 ≤ R.slots) {c0 : Nat} {u1 : Int32} {u2 : Int32} {u3 : Int32} {u4 : Int32} {m0 : gMem} {res : Int32 × gMem} (hk0 : gk c0 = 8) (hf : f_X8_tryToLay c0 u1 u2 u3 u4 m0 = some res) (hM : gM X m0 H) (hS : va_S (gA X) s.heap H locs) (hl : lv_has ls 5 [(0, .ref (X.1 + c0)), (1, .int u1), (2, .int u2), (3, .int u3), (4, .int u4)]) : W p l e R s m args below meth c H locs 0 0 (MQ below (gQi X res) args s 0 0 (gA X)) (F0 m 0 ls []) := by
  obtain ⟨hx, hb⟩ := (⟨E.1, E.2.1⟩ : _ ∧ _)
  unfold f_X8_tryToLay at hf
  refine lv_aload_n hx hb dX8_tryToLay_0 rfl (lv_at hl 0 rfl) ?_
  refine GX8_16 E hM hk0 dX8_tryToLay_1 ?_
  have hg1 : gk (c0 + 36) = 2 := gkf_8_1 hk0
  refine lv_iload_n hx hb dX8_tryToLay_4 rfl (lv_at hl 1 rfl) ?_
  obtain ⟨r4, m2, hqq3, hf⟩ := g1_o hf
  refine ga_o (gr_V (As := [.int u1]) (ci := 2) (rm := { frames := 0, cells := 0, slots := 0, locals := 0 }) E hml hl.1 (c_X2_towerAt l X (c0 + 36) u1 m0 hg1 hqq3) wt_X2_towerAt wl_RX8_397 rfl hg1 (by decide) rfl rfl hM hS rfl rfl (Nat.le_trans (by decide) hRf) (Nat.le_trans (by decide) hRl) (Nat.le_trans (Nat.le_of_ble_eq_true rfl) hRc) (Nat.le_trans (Nat.le_of_ble_eq_true rfl) hRs) (Nat.le_of_ble_eq_true rfl) dX8_tryToLay_5 rfl) hS (fun H locs hM hS => ?_)
  cases r4 with
  | none =>
    have hf := gnl_n hf
    refine gW_null ?_
    refine lv_ifnullN (tgt := 31) hx hb dX8_tryToLay_8 (by decide) ?_
    refine lv_iconst (v := (1 : Int32)) hx hb dX8_tryToLay_31 (by decide) ?_
    exact ge_i E hr hlocks hf hM hS (Nat.le_of_ble_eq_true rfl) (Nat.le_of_ble_eq_true rfl) dX8_tryToLay_32
  | some z5 =>
    have hf := gnl_s hf
    obtain ⟨hg6, hf⟩ := g_ck hf
    refine gW_some ?_
    refine lv_ifnull hx hb dX8_tryToLay_8 ?_
    refine lv_aload_n hx hb dX8_tryToLay_11 rfl (lv_at hl 0 rfl) ?_
    refine GX8_16 E hM hk0 dX8_tryToLay_12 ?_
    refine lv_iload_n hx hb dX8_tryToLay_15 rfl (lv_at hl 2 rfl) ?_
    obtain ⟨r9, m7, hqq8, hf⟩ := g1_o hf
    refine ga_o (gr_V (As := [.int u2]) (ci := 2) (rm := { frames := 0, cells := 0, slots := 0, locals := 0 }) E hml hl.1 (c_X2_tongsAt l X (c0 + 36) u2 m2 hg1 hqq8) wt_X2_tongsAt wl_RX8_407 rfl hg1 (by decide) rfl rfl hM hS rfl rfl (Nat.le_trans (by decide) hRf) (Nat.le_trans (by decide) hRl) (Nat.le_trans (Nat.le_of_ble_eq_true rfl) hRc) (Nat.le_trans (Nat.le_of_ble_eq_true rfl) hRs) (Nat.le_of_ble_eq_true rfl) dX8_tryToLay_16 rfl) hS (fun H locs hM hS => ?_)
    cases r9 with
    | none =>
      have hf := gnl_n hf
      refine gW_null ?_
      refine lv_ifnullN (tgt := 31) hx hb dX8_tryToLay_19 (by decide) ?_
      refine lv_iconst (v := (1 : Int32)) hx hb dX8_tryToLay_31 (by decide) ?_
      exact ge_i E hr hlocks hf hM hS (Nat.le_of_ble_eq_true rfl) (Nat.le_of_ble_eq_true rfl) dX8_tryToLay_32
    | some z10 =>
      have hf := gnl_s hf
      obtain ⟨hg11, hf⟩ := g_ck hf
      refine gW_some ?_
      refine lv_ifnull hx hb dX8_tryToLay_19 ?_
      refine lv_iload_n hx hb dX8_tryToLay_22 rfl (lv_at hl 3 rfl) ?_
      refine lv_iload hx hb dX8_tryToLay_23 (lv_at hl 4 rfl) ?_
      obtain ⟨r14, m12, hqq13, hf⟩ := g1_o hf
      refine ga_i (gr_S (As := [.int u3, .int u4]) (rm := { frames := 1, cells := 0, slots := 0, locals := 22 }) E hml hl.1 (c_X8_isCourse l X u3 u4 m7 hqq13) wt_X8_isCourse wl_RX8_417 rfl hM hS rfl rfl (Nat.le_trans (by decide) hRf) (Nat.le_trans (by decide) hRl) (Nat.le_trans (Nat.le_of_ble_eq_true rfl) hRc) (Nat.le_trans (Nat.le_of_ble_eq_true rfl) hRs) (Nat.le_of_ble_eq_true rfl) dX8_tryToLay_25 rfl) hS (fun H locs hM hS => ?_)
      refine lv_if_ne (tgt := 33) hx hb dX8_tryToLay_28 (by decide) (fun h15 => ?_) (fun h15 => ?_)
      · have hf := g_f h15 hf
        refine lv_aload_n hx hb dX8_tryToLay_33 rfl (lv_at hl 0 rfl) ?_
        refine GX8_16 E hM hk0 dX8_tryToLay_34 ?_
        refine lv_aload_n hx hb dX8_tryToLay_37 rfl (lv_at hl 0 rfl) ?_
        refine GX8_43 E hM hk0 dX8_tryToLay_38 ?_
        have hg16 : gk (c0 + 431) = 4 := gkf_8_7 hk0
        refine lv_iload_n hx hb dX8_tryToLay_41 rfl (lv_at hl 1 rfl) ?_
        refine lv_iload_n hx hb dX8_tryToLay_42 rfl (lv_at hl 2 rfl) ?_
        refine lv_iload_n hx hb dX8_tryToLay_43 rfl (lv_at hl 3 rfl) ?_
        refine lv_iload hx hb dX8_tryToLay_44 (lv_at hl 4 rfl) ?_
        obtain ⟨r19, m17, hqq18, hf⟩ := g1_o hf
        refine ga_i (gr_V (As := [.ref (X.1 + (c0 + 431)), .int u1, .int u2, .int u3, .int u4]) (ci := 2) (rm := { frames := 3, cells := 0, slots := 0, locals := 107 }) E hml hl.1 (c_X2_reasonAgainstLaying l X (c0 + 36) (c0 + 431) u1 u2 u3 u4 m12 hg1 hg16 hqq18) wt_X2_reasonAgainstLaying wl_RX8_420 rfl hg1 (by decide) rfl rfl hM hS rfl rfl (Nat.le_trans (by decide) hRf) (Nat.le_trans (by decide) hRl) (Nat.le_trans (Nat.le_of_ble_eq_true rfl) hRc) (Nat.le_trans (Nat.le_of_ble_eq_true rfl) hRs) (Nat.le_of_ble_eq_true rfl) dX8_tryToLay_46 rfl) hS (fun H locs hM hS => ?_)
        refine lv_if_eq (tgt := 54) hx hb dX8_tryToLay_49 (by decide) (fun h20 => ?_) (fun h20 => ?_)
        · have hf := g_t h20 hf
          refine lv_aload_n hx hb dX8_tryToLay_54 rfl (lv_at hl 0 rfl) ?_
          refine GX8_16 E hM hk0 dX8_tryToLay_55 ?_
          refine lv_iload_n hx hb dX8_tryToLay_58 rfl (lv_at hl 1 rfl) ?_
          refine lv_iload_n hx hb dX8_tryToLay_59 rfl (lv_at hl 2 rfl) ?_
          refine lv_iload_n hx hb dX8_tryToLay_60 rfl (lv_at hl 3 rfl) ?_
          refine lv_iload hx hb dX8_tryToLay_61 (lv_at hl 4 rfl) ?_
          obtain ⟨r23, m21, hqq22, hf⟩ := g1_o hf
          refine ga_i (gr_V (As := [.int u1, .int u2, .int u3, .int u4]) (ci := 2) (rm := { frames := 1, cells := 0, slots := 0, locals := 23 }) E hml hl.1 (c_X2_layCourse l X (c0 + 36) u1 u2 u3 u4 m17 hg1 hqq22) wt_X2_layCourse wl_RX8_162 rfl hg1 (by decide) rfl rfl hM hS rfl rfl (Nat.le_trans (by decide) hRf) (Nat.le_trans (by decide) hRl) (Nat.le_trans (Nat.le_of_ble_eq_true rfl) hRc) (Nat.le_trans (Nat.le_of_ble_eq_true rfl) hRs) (Nat.le_of_ble_eq_true rfl) dX8_tryToLay_63 rfl) hS (fun H locs hM hS => ?_)
          refine lv_pop hx hb dX8_tryToLay_66 rfl ?_
          refine lv_iconst (v := (0 : Int32)) hx hb dX8_tryToLay_67 (by decide) ?_
          exact ge_i E hr hlocks hf hM hS (Nat.le_of_ble_eq_true rfl) (Nat.le_of_ble_eq_true rfl) dX8_tryToLay_68
        · have hf := g_f h20 hf
          refine lv_iconst (v := (2 : Int32)) hx hb dX8_tryToLay_52 (by decide) ?_
          exact ge_i E hr hlocks hf hM hS (Nat.le_of_ble_eq_true rfl) (Nat.le_of_ble_eq_true rfl) dX8_tryToLay_53
      · have hf := g_t h15 hf
        refine lv_iconst (v := (1 : Int32)) hx hb dX8_tryToLay_31 (by decide) ?_
        exact ge_i E hr hlocks hf hM hS (Nat.le_of_ble_eq_true rfl) (Nat.le_of_ble_eq_true rfl) dX8_tryToLay_32
theorem c_X8_tryToLay (l : Launch) (X : gX) (c0 : Nat) (u1 : Int32) (u2 : Int32) (u3 : Int32) (u4 : Int32) (m0 : gMem) {res : Int32 × gMem} (hk0 : gk c0 = 8) (hf : f_X8_tryToLay c0 u1 u2 u3 u4 m0 = some res) : Met l yX8_tryToLay (gWs yX8_tryToLay cX8_tryToLay 5 (some .int)) { frames := 4, cells := 0, slots := 0, locals := 136 } (va_Pc [.ref (X.1 + c0), .int u1, .int u2, .int u3, .int u4] (gB X m0)) (gQi X res) 0 0 (gA X) :=
  gMet (own := RX8) (by decide +kernel) rfl (Nat.le_of_ble_eq_true rfl) (fun p e s m args below meth c ls E hr hlocks hml hM hl => b_X8_tryToLay E hr hlocks hml (Nat.le_refl _) (Nat.le_refl _) (Nat.le_refl _) (Nat.le_refl _) hk0 hf hM va_S.rf hl)
def f_X8_tryToTake (c0 : Nat) (u1 : Int32) (m0 : gMem) : Option (Int32 × gMem) := g1 (f_X2_towerAt (c0 + 36) u1 m0) (fun r4 m2 => gnl r4 (some ((1 : Int32), m2)) (fun z5 => if gk z5 = 7 then if (m2 z5 2) = (0 : Int32) then (g1 (f_X4_because (c0 + 431) (9 : Int32) u1 m2) (fun r14 m12 => some ((2 : Int32), m12))) else (g1 (f_X2_takeCourse (c0 + 36) z5 m2) (fun r10 m8 => some ((0 : Int32), m8))) else none))
set_option maxRecDepth 100000 in
set_option maxHeartbeats 4000000 in
theorem b_X8_tryToTake {p : Program} {l : Launch} {e : Env} {R : Room} {s : State} {m : MethodId} {args : Array Value} {below : List Frame} {meth : Method} {c : Code} {H : Heap} {locs : List Loc} {ls : Array Slot} {X : gX} (E : gEn p s m args c cX8_tryToTake RX8 X) (hr : meth.sig.returnType = (some .int)) (hlocks : meth.locks = false) (hml : c.maxLocals = 3) (hRf : 4 ≤ R.frames) (hRl : 130 ≤ R.locals) (hRc : 0 ≤ R.cells) (hRs : 0 ≤ R.slots) {c0 : Nat} {u1 : Int32} {m0 : gMem} {res : Int32 × gMem} (hk0 : gk c0 = 8) (hf : f_X8_tryToTake c0 u1 m0 = some res) (hM : gM X m0 H) (hS : va_S (gA X) s.heap H locs) (hl : lv_has ls 3 [(0, .ref (X.1 + c0)), (1, .int u1)]) : W p l e R s m args below meth c H locs 0 0 (MQ below (gQi X res) args s 0 0 (gA X)) (F0 m 0 ls []) := by
  obtain ⟨hx, hb⟩ := (⟨E.1, E.2.1⟩ : _ ∧ _)
  unfold f_X8_tryToTake at hf
  refine lv_aload_n hx hb dX8_tryToTake_0 rfl (lv_at hl 0 rfl) ?_
  refine GX8_16 E hM hk0 dX8_tryToTake_1 ?_
  have hg1 : gk (c0 + 36) = 2 := gkf_8_1 hk0
  refine lv_iload_n hx hb dX8_tryToTake_4 rfl (lv_at hl 1 rfl) ?_
  obtain ⟨r4, m2, hqq3, hf⟩ := g1_o hf
  refine ga_o (gr_V (As := [.int u1]) (ci := 2) (rm := { frames := 0, cells := 0, slots := 0, locals := 0 }) E hml hl.1 (c_X2_towerAt l X (c0 + 36) u1 m0 hg1 hqq3) wt_X2_towerAt wl_RX8_397 rfl hg1 (by decide) rfl rfl hM hS rfl rfl (Nat.le_trans (by decide) hRf) (Nat.le_trans (by decide) hRl) (Nat.le_trans (Nat.le_of_ble_eq_true rfl) hRc) (Nat.le_trans (Nat.le_of_ble_eq_true rfl) hRs) (Nat.le_of_ble_eq_true rfl) dX8_tryToTake_5 rfl) hS (fun H locs hM hS => ?_)
  cases r4 with
  | none =>
    have hf := gnl_n hf
    refine gW_null ?_
    refine lv_astore_nN (lv' := [(2, .null), (0, .ref (X.1 + c0)), (1, .int u1)]) hx hb dX8_tryToTake_8 rfl hl (by decide) rfl (fun ls hl => ?_)
    refine lv_aload_nN hx hb dX8_tryToTake_9 rfl (lv_at hl 0 rfl) ?_
    refine lv_ifnonnullN hx hb dX8_tryToTake_10 ?_
    refine lv_iconst (v := (1 : Int32)) hx hb dX8_tryToTake_13 (by decide) ?_
    exact ge_i E hr hlocks hf hM hS (Nat.le_of_ble_eq_true rfl) (Nat.le_of_ble_eq_true rfl) dX8_tryToTake_14
  | some z5 =>
    have hf := gnl_s hf
    obtain ⟨hg6, hf⟩ := g_ck hf
    refine gW_some ?_
    refine lv_astore_n (lv' := [(2, .ref (X.1 + z5)), (0, .ref (X.1 + c0)), (1, .int u1)]) hx hb dX8_tryToTake_8 rfl hl (by decide) rfl (fun ls hl => ?_)
    refine lv_aload_n hx hb dX8_tryToTake_9 rfl (lv_at hl 0 rfl) ?_
    refine lv_ifnonnull (tgt := 15) hx hb dX8_tryToTake_10 (by decide) ?_
    refine lv_aload_n hx hb dX8_tryToTake_15 rfl (lv_at hl 0 rfl) ?_
    refine GX8_170 E hM hg6 dX8_tryToTake_16 ?_
    refine lv_if_ne (tgt := 35) hx hb dX8_tryToTake_19 (by decide) (fun h7 => ?_) (fun h7 => ?_)
    · have hf := g_f h7 hf
      refine lv_aload_n hx hb dX8_tryToTake_35 rfl (lv_at hl 1 rfl) ?_
      refine GX8_16 E hM hk0 dX8_tryToTake_36 ?_
      refine lv_aload_n hx hb dX8_tryToTake_39 rfl (lv_at hl 0 rfl) ?_
      obtain ⟨r10, m8, hqq9, hf⟩ := g1_o hf
      refine ga_i (gr_V (As := [.ref (X.1 + z5)]) (ci := 2) (rm := { frames := 3, cells := 0, slots := 0, locals := 105 }) E hml hl.1 (c_X2_takeCourse l X (c0 + 36) z5 m2 hg1 hg6 hqq9) wt_X2_takeCourse wl_RX8_177 rfl hg1 (by decide) rfl rfl hM hS rfl rfl (Nat.le_trans (by decide) hRf) (Nat.le_trans (by decide) hRl) (Nat.le_trans (Nat.le_of_ble_eq_true rfl) hRc) (Nat.le_trans (Nat.le_of_ble_eq_true rfl) hRs) (Nat.le_of_ble_eq_true rfl) dX8_tryToTake_40 rfl) hS (fun H locs hM hS => ?_)
      refine lv_pop hx hb dX8_tryToTake_43 rfl ?_
      refine lv_iconst (v := (0 : Int32)) hx hb dX8_tryToTake_44 (by decide) ?_
      exact ge_i E hr hlocks hf hM hS (Nat.le_of_ble_eq_true rfl) (Nat.le_of_ble_eq_true rfl) dX8_tryToTake_45
    · have hf := g_t h7 hf
      refine lv_aload_n hx hb dX8_tryToTake_22 rfl (lv_at hl 1 rfl) ?_
      refine GX8_43 E hM hk0 dX8_tryToTake_23 ?_
      have hg11 : gk (c0 + 431) = 4 := gkf_8_7 hk0
      refine lv_bipush (v := (9 : Int32)) hx hb dX8_tryToTake_26 (by decide) ?_
      refine lv_iload_n hx hb dX8_tryToTake_28 rfl (lv_at hl 2 rfl) ?_
      obtain ⟨r14, m12, hqq13, hf⟩ := g1_o hf
      refine ga_i (gr_V (As := [.int (9 : Int32), .int u1]) (ci := 4) (rm := { frames := 0, cells := 0, slots := 0, locals := 0 }) E hml hl.1 (c_X4_because l X (c0 + 431) (9 : Int32) u1 m2 hg11 hqq13) wt_X4_because wl_RX8_112 rfl hg11 (by decide) rfl rfl hM hS rfl rfl (Nat.le_trans (by decide) hRf) (Nat.le_trans (by decide) hRl) (Nat.le_trans (Nat.le_of_ble_eq_true rfl) hRc) (Nat.le_trans (Nat.le_of_ble_eq_true rfl) hRs) (Nat.le_of_ble_eq_true rfl) dX8_tryToTake_29 rfl) hS (fun H locs hM hS => ?_)
      refine lv_pop hx hb dX8_tryToTake_32 rfl ?_
      refine lv_iconst (v := (2 : Int32)) hx hb dX8_tryToTake_33 (by decide) ?_
      exact ge_i E hr hlocks hf hM hS (Nat.le_of_ble_eq_true rfl) (Nat.le_of_ble_eq_true rfl) dX8_tryToTake_34
theorem c_X8_tryToTake (l : Launch) (X : gX) (c0 : Nat) (u1 : Int32) (m0 : gMem) {res : Int32 × gMem} (hk0 : gk c0 = 8) (hf : f_X8_tryToTake c0 u1 m0 = some res) : Met l yX8_tryToTake (gWs yX8_tryToTake cX8_tryToTake 3 (some .int)) { frames := 4, cells := 0, slots := 0, locals := 130 } (va_Pc [.ref (X.1 + c0), .int u1] (gB X m0)) (gQi X res) 0 0 (gA X) :=
  gMet (own := RX8) (by decide +kernel) rfl (Nat.le_of_ble_eq_true rfl) (fun p e s m args below meth c ls E hr hlocks hml hM hl => b_X8_tryToTake E hr hlocks hml (Nat.le_refl _) (Nat.le_refl _) (Nat.le_refl _) (Nat.le_refl _) hk0 hf hM va_S.rf hl)
def f_X8_tryToShow (c0 : Nat) (u1 : Int32) (u2 : Int32) (m0 : gMem) : Option (Int32 × gMem) := g1 (f_X2_placeOfBanquet (c0 + 36) u1 m0) (fun r4 m2 => g1 (f_X2_banquetAt (c0 + 36) r4 m2) (fun r7 m5 => gnl r7 (some ((1 : Int32), m5)) (fun z8 => if gk z8 = 0 then g1 (f_X2_towerAt (c0 + 36) u2 m5) (fun r12 m10 => gnl r12 (some ((1 : Int32), m10)) (fun z13 => if gk z13 = 7 then gv (ms m10 z8 4 u2) (fun m15 => some ((0 : Int32), m15)) else none)) else none)))
set_option maxRecDepth 100000 in
set_option maxHeartbeats 4000000 in
theorem b_X8_tryToShow {p : Program} {l : Launch} {e : Env} {R : Room} {s : State} {m : MethodId} {args : Array Value} {below : List Frame} {meth : Method} {c : Code} {H : Heap} {locs : List Loc} {ls : Array Slot} {X : gX} (E : gEn p s m args c cX8_tryToShow RX8 X) (hr : meth.sig.returnType = (some .int)) (hlocks : meth.locks = false) (hml : c.maxLocals = 4) (hRf : 1 ≤ R.frames) (hRl : 22 ≤ R.locals) (hRc : 0 ≤ R.cells) (hRs : 0 ≤ R.slots) {c0 : Nat} {u1 : Int32} {u2 : Int32} {m0 : gMem} {res : Int32 × gMem} (hk0 : gk c0 = 8) (hf : f_X8_tryToShow c0 u1 u2 m0 = some res) (hM : gM X m0 H) (hS : va_S (gA X) s.heap H locs) (hl : lv_has ls 4 [(0, .ref (X.1 + c0)), (1, .int u1), (2, .int u2)]) : W p l e R s m args below meth c H locs 0 0 (MQ below (gQi X res) args s 0 0 (gA X)) (F0 m 0 ls []) := by
  obtain ⟨hx, hb⟩ := (⟨E.1, E.2.1⟩ : _ ∧ _)
  unfold f_X8_tryToShow at hf
  refine lv_aload_n hx hb dX8_tryToShow_0 rfl (lv_at hl 0 rfl) ?_
  refine GX8_16 E hM hk0 dX8_tryToShow_1 ?_
  have hg1 : gk (c0 + 36) = 2 := gkf_8_1 hk0
  refine lv_aload_n hx hb dX8_tryToShow_4 rfl (lv_at hl 0 rfl) ?_
  refine GX8_16 E hM hk0 dX8_tryToShow_5 ?_
  refine lv_iload_n hx hb dX8_tryToShow_8 rfl (lv_at hl 1 rfl) ?_
  obtain ⟨r4, m2, hqq3, hf⟩ := g1_o hf
  refine ga_i (gr_V (As := [.int u1]) (ci := 2) (rm := { frames := 0, cells := 0, slots := 0, locals := 0 }) E hml hl.1 (c_X2_placeOfBanquet l X (c0 + 36) u1 m0 hg1 hqq3) wt_X2_placeOfBanquet wl_RX8_248 rfl hg1 (by decide) rfl rfl hM hS rfl rfl (Nat.le_trans (by decide) hRf) (Nat.le_trans (by decide) hRl) (Nat.le_trans (Nat.le_of_ble_eq_true rfl) hRc) (Nat.le_trans (Nat.le_of_ble_eq_true rfl) hRs) (Nat.le_of_ble_eq_true rfl) dX8_tryToShow_9 rfl) hS (fun H locs hM hS => ?_)
  obtain ⟨r7, m5, hqq6, hf⟩ := g1_o hf
  refine ga_o (gr_V (As := [.int r4]) (ci := 2) (rm := { frames := 0, cells := 0, slots := 0, locals := 0 }) E hml hl.1 (c_X2_banquetAt l X (c0 + 36) r4 m2 hg1 hqq6) wt_X2_banquetAt wl_RX8_412 rfl hg1 (by decide) rfl rfl hM hS rfl rfl (Nat.le_trans (by decide) hRf) (Nat.le_trans (by decide) hRl) (Nat.le_trans (Nat.le_of_ble_eq_true rfl) hRc) (Nat.le_trans (Nat.le_of_ble_eq_true rfl) hRs) (Nat.le_of_ble_eq_true rfl) dX8_tryToShow_12 rfl) hS (fun H locs hM hS => ?_)
  cases r7 with
  | none =>
    have hf := gnl_n hf
    refine gW_null ?_
    refine lv_astore_nN (lv' := [(3, .null), (0, .ref (X.1 + c0)), (1, .int u1), (2, .int u2)]) hx hb dX8_tryToShow_15 rfl hl (by decide) rfl (fun ls hl => ?_)
    refine lv_aload_nN hx hb dX8_tryToShow_16 rfl (lv_at hl 0 rfl) ?_
    refine lv_ifnullN (tgt := 31) hx hb dX8_tryToShow_17 (by decide) ?_
    refine lv_iconst (v := (1 : Int32)) hx hb dX8_tryToShow_31 (by decide) ?_
    exact ge_i E hr hlocks hf hM hS (Nat.le_of_ble_eq_true rfl) (Nat.le_of_ble_eq_true rfl) dX8_tryToShow_32
  | some z8 =>
    have hf := gnl_s hf
    obtain ⟨hg9, hf⟩ := g_ck hf
    refine gW_some ?_
    refine lv_astore_n (lv' := [(3, .ref (X.1 + z8)), (0, .ref (X.1 + c0)), (1, .int u1), (2, .int u2)]) hx hb dX8_tryToShow_15 rfl hl (by decide) rfl (fun ls hl => ?_)
    refine lv_aload_n hx hb dX8_tryToShow_16 rfl (lv_at hl 0 rfl) ?_
    refine lv_ifnull hx hb dX8_tryToShow_17 ?_
    refine lv_aload_n hx hb dX8_tryToShow_20 rfl (lv_at hl 1 rfl) ?_
    refine GX8_16 E hM hk0 dX8_tryToShow_21 ?_
    refine lv_iload_n hx hb dX8_tryToShow_24 rfl (lv_at hl 3 rfl) ?_
    obtain ⟨r12, m10, hqq11, hf⟩ := g1_o hf
    refine ga_o (gr_V (As := [.int u2]) (ci := 2) (rm := { frames := 0, cells := 0, slots := 0, locals := 0 }) E hml hl.1 (c_X2_towerAt l X (c0 + 36) u2 m5 hg1 hqq11) wt_X2_towerAt wl_RX8_397 rfl hg1 (by decide) rfl rfl hM hS rfl rfl (Nat.le_trans (by decide) hRf) (Nat.le_trans (by decide) hRl) (Nat.le_trans (Nat.le_of_ble_eq_true rfl) hRc) (Nat.le_trans (Nat.le_of_ble_eq_true rfl) hRs) (Nat.le_of_ble_eq_true rfl) dX8_tryToShow_25 rfl) hS (fun H locs hM hS => ?_)
    cases r12 with
    | none =>
      have hf := gnl_n hf
      refine gW_null ?_
      refine lv_ifnonnullN hx hb dX8_tryToShow_28 ?_
      refine lv_iconst (v := (1 : Int32)) hx hb dX8_tryToShow_31 (by decide) ?_
      exact ge_i E hr hlocks hf hM hS (Nat.le_of_ble_eq_true rfl) (Nat.le_of_ble_eq_true rfl) dX8_tryToShow_32
    | some z13 =>
      have hf := gnl_s hf
      obtain ⟨hg14, hf⟩ := g_ck hf
      refine gW_some ?_
      refine lv_ifnonnull (tgt := 33) hx hb dX8_tryToShow_28 (by decide) ?_
      refine lv_aload_n hx hb dX8_tryToShow_33 rfl (lv_at hl 0 rfl) ?_
      refine lv_iload_n hx hb dX8_tryToShow_34 rfl (lv_at hl 3 rfl) ?_
      obtain ⟨m15, em15, hf⟩ := gv_o hf
      refine PX8_239 E hM hS hg9 em15 dX8_tryToShow_35 (fun H locs hM hS => ?_)
      refine lv_iconst (v := (0 : Int32)) hx hb dX8_tryToShow_38 (by decide) ?_
      exact ge_i E hr hlocks hf hM hS (Nat.le_of_ble_eq_true rfl) (Nat.le_of_ble_eq_true rfl) dX8_tryToShow_39
theorem c_X8_tryToShow (l : Launch) (X : gX) (c0 : Nat) (u1 : Int32) (u2 : Int32) (m0 : gMem) {res : Int32 × gMem} (hk0 : gk c0 = 8) (hf : f_X8_tryToShow c0 u1 u2 m0 = some res) : Met l yX8_tryToShow (gWs yX8_tryToShow cX8_tryToShow 4 (some .int)) { frames := 1, cells := 0, slots := 0, locals := 22 } (va_Pc [.ref (X.1 + c0), .int u1, .int u2] (gB X m0)) (gQi X res) 0 0 (gA X) :=
  gMet (own := RX8) (by decide +kernel) rfl (Nat.le_of_ble_eq_true rfl) (fun p e s m args below meth c ls E hr hlocks hml hM hl => b_X8_tryToShow E hr hlocks hml (Nat.le_refl _) (Nat.le_refl _) (Nat.le_refl _) (Nat.le_refl _) hk0 hf hM va_S.rf hl)
def f_X8_tryToPass (c0 : Nat) (u1 : Int32) (m0 : gMem) : Option (Int32 × gMem) := g1 (f_X8_isBetween (1 : Int32) u1 (72 : Int32) m0) (fun r3 m1 => if r3 = (0 : Int32) then (some ((1 : Int32), m1)) else (g1 (f_X2_letHoursGoBy (c0 + 36) u1 m1) (fun r8 m6 => some ((0 : Int32), m6))))
set_option maxRecDepth 100000 in
set_option maxHeartbeats 4000000 in
theorem b_X8_tryToPass {p : Program} {l : Launch} {e : Env} {R : Room} {s : State} {m : MethodId} {args : Array Value} {below : List Frame} {meth : Method} {c : Code} {H : Heap} {locs : List Loc} {ls : Array Slot} {X : gX} (E : gEn p s m args c cX8_tryToPass RX8 X) (hr : meth.sig.returnType = (some .int)) (hlocks : meth.locks = false) (hml : c.maxLocals = 2) (hRf : 5 ≤ R.frames) (hRl : 155 ≤ R.locals) (hRc : 0 ≤ R.cells) (hRs : 0 ≤ R.slots) {c0 : Nat} {u1 : Int32} {m0 : gMem} {res : Int32 × gMem} (hk0 : gk c0 = 8) (hf : f_X8_tryToPass c0 u1 m0 = some res) (hM : gM X m0 H) (hS : va_S (gA X) s.heap H locs) (hl : lv_has ls 2 [(0, .ref (X.1 + c0)), (1, .int u1)]) : W p l e R s m args below meth c H locs 0 0 (MQ below (gQi X res) args s 0 0 (gA X)) (F0 m 0 ls []) := by
  obtain ⟨hx, hb⟩ := (⟨E.1, E.2.1⟩ : _ ∧ _)
  unfold f_X8_tryToPass at hf
  refine lv_iconst (v := (1 : Int32)) hx hb dX8_tryToPass_0 (by decide) ?_
  refine lv_iload_n hx hb dX8_tryToPass_1 rfl (lv_at hl 1 rfl) ?_
  refine lv_bipush (v := (72 : Int32)) hx hb dX8_tryToPass_2 (by decide) ?_
  obtain ⟨r3, m1, hqq2, hf⟩ := g1_o hf
  refine ga_i (gr_S (As := [.int (1 : Int32), .int u1, .int (72 : Int32)]) (rm := { frames := 0, cells := 0, slots := 0, locals := 0 }) E hml hl.1 (c_X8_isBetween l X (1 : Int32) u1 (72 : Int32) m0 hqq2) wt_X8_isBetween wl_RX8_50 rfl hM hS rfl rfl (Nat.le_trans (by decide) hRf) (Nat.le_trans (by decide) hRl) (Nat.le_trans (Nat.le_of_ble_eq_true rfl) hRc) (Nat.le_trans (Nat.le_of_ble_eq_true rfl) hRs) (Nat.le_of_ble_eq_true rfl) dX8_tryToPass_4 rfl) hS (fun H locs hM hS => ?_)
  refine lv_if_ne (tgt := 12) hx hb dX8_tryToPass_7 (by decide) (fun h4 => ?_) (fun h4 => ?_)
  · have hf := g_f h4 hf
    refine lv_aload_n hx hb dX8_tryToPass_12 rfl (lv_at hl 0 rfl) ?_
    refine GX8_16 E hM hk0 dX8_tryToPass_13 ?_
    have hg5 : gk (c0 + 36) = 2 := gkf_8_1 hk0
    refine lv_iload_n hx hb dX8_tryToPass_16 rfl (lv_at hl 1 rfl) ?_
    obtain ⟨r8, m6, hqq7, hf⟩ := g1_o hf
    refine ga_i (gr_V (As := [.int u1]) (ci := 2) (rm := { frames := 4, cells := 0, slots := 0, locals := 132 }) E hml hl.1 (c_X2_letHoursGoBy l X (c0 + 36) u1 m1 hg5 hqq7) wt_X2_letHoursGoBy wl_RX8_278 rfl hg5 (by decide) rfl rfl hM hS rfl rfl (Nat.le_trans (by decide) hRf) (Nat.le_trans (by decide) hRl) (Nat.le_trans (Nat.le_of_ble_eq_true rfl) hRc) (Nat.le_trans (Nat.le_of_ble_eq_true rfl) hRs) (Nat.le_of_ble_eq_true rfl) dX8_tryToPass_17 rfl) hS (fun H locs hM hS => ?_)
    refine lv_pop hx hb dX8_tryToPass_20 rfl ?_
    refine lv_iconst (v := (0 : Int32)) hx hb dX8_tryToPass_21 (by decide) ?_
    exact ge_i E hr hlocks hf hM hS (Nat.le_of_ble_eq_true rfl) (Nat.le_of_ble_eq_true rfl) dX8_tryToPass_22
  · have hf := g_t h4 hf
    refine lv_iconst (v := (1 : Int32)) hx hb dX8_tryToPass_10 (by decide) ?_
    exact ge_i E hr hlocks hf hM hS (Nat.le_of_ble_eq_true rfl) (Nat.le_of_ble_eq_true rfl) dX8_tryToPass_11
theorem c_X8_tryToPass (l : Launch) (X : gX) (c0 : Nat) (u1 : Int32) (m0 : gMem) {res : Int32 × gMem} (hk0 : gk c0 = 8) (hf : f_X8_tryToPass c0 u1 m0 = some res) : Met l yX8_tryToPass (gWs yX8_tryToPass cX8_tryToPass 2 (some .int)) { frames := 5, cells := 0, slots := 0, locals := 155 } (va_Pc [.ref (X.1 + c0), .int u1] (gB X m0)) (gQi X res) 0 0 (gA X) :=
  gMet (own := RX8) (by decide +kernel) rfl (Nat.le_of_ble_eq_true rfl) (fun p e s m args below meth c ls E hr hlocks hml hM hl => b_X8_tryToPass E hr hlocks hml (Nat.le_refl _) (Nat.le_refl _) (Nat.le_refl _) (Nat.le_refl _) hk0 hf hM va_S.rf hl)
def f_X8_tryOrder (c0 : Nat) (o1 : Option Nat) (m0 : gMem) : Option (Int32 × gMem) := gnl o1 (some ((1 : Int32), m0)) (fun z1 => if gk z1 = 3 then if (m0 z1 0) = (98 : Int32) then (if ¬ ((0 : Int32) < 0 ∨ gl (z1 + 1) ≤ (0 : Int32).toNatClampNeg) then if ¬ ((1 : Int32) < 0 ∨ gl (z1 + 1) ≤ (1 : Int32).toNatClampNeg) then g1 (f_X8_tryToBuy c0 (m0 (z1 + 1) (0 : Int32).toNatClampNeg) (m0 (z1 + 1) (1 : Int32).toNatClampNeg) m0) (fun r10 m8 => some (r10, m8)) else none else none) else (if (m0 z1 0) = (104 : Int32) then (if ¬ ((0 : Int32) < 0 ∨ gl (z1 + 1) ≤ (0 : Int32).toNatClampNeg) then g1 (f_X8_tryToPass c0 (m0 (z1 + 1) (0 : Int32).toNatClampNeg) m0) (fun r16 m14 => some (r16, m14)) else none) else (if (m0 z1 0) = (108 : Int32) then (if ¬ ((0 : Int32) < 0 ∨ gl (z1 + 1) ≤ (0 : Int32).toNatClampNeg) then if ¬ ((1 : Int32) < 0 ∨ gl (z1 + 1) ≤ (1 : Int32).toNatClampNeg) then if ¬ ((2 : Int32) < 0 ∨ gl (z1 + 1) ≤ (2 : Int32).toNatClampNeg) then if ¬ ((3 : Int32) < 0 ∨ gl (z1 + 1) ≤ (3 : Int32).toNatClampNeg) then g1 (f_X8_tryToLay c0 (m0 (z1 + 1) (0 : Int32).toNatClampNeg) (m0 (z1 + 1) (1 : Int32).toNatClampNeg) (m0 (z1 + 1) (2 : Int32).toNatClampNeg) (m0 (z1 + 1) (3 : Int32).toNatClampNeg) m0) (fun r25 m23 => some (r25, m23)) else none else none else none else none) else (if (m0 z1 0) = (115 : Int32) then (if ¬ ((0 : Int32) < 0 ∨ gl (z1 + 1) ≤ (0 : Int32).toNatClampNeg) then if ¬ ((1 : Int32) < 0 ∨ gl (z1 + 1) ≤ (1 : Int32).toNatClampNeg) then g1 (f_X8_tryToShow c0 (m0 (z1 + 1) (0 : Int32).toNatClampNeg) (m0 (z1 + 1) (1 : Int32).toNatClampNeg) m0) (fun r32 m30 => some (r32, m30)) else none else none) else (if (m0 z1 0) = (116 : Int32) then (if ¬ ((0 : Int32) < 0 ∨ gl (z1 + 1) ≤ (0 : Int32).toNatClampNeg) then g1 (f_X8_tryToTake c0 (m0 (z1 + 1) (0 : Int32).toNatClampNeg) m0) (fun r38 m36 => some (r38, m36)) else none) else (some ((1 : Int32), m0)))))) else none)
set_option maxRecDepth 100000 in
set_option maxHeartbeats 4000000 in
theorem b_X8_tryOrder {p : Program} {l : Launch} {e : Env} {R : Room} {s : State} {m : MethodId} {args : Array Value} {below : List Frame} {meth : Method} {c : Code} {H : Heap} {locs : List Loc} {ls : Array Slot} {X : gX} (E : gEn p s m args c cX8_tryOrder RX8 X) (hr : meth.sig.returnType = (some .int)) (hlocks : meth.locks = false) (hml : c.maxLocals = 2) (hRf : 6 ≤ R.frames) (hRl : 176 ≤ R.locals) (hRc : 0 ≤ R.cells) (hRs : 0 ≤ R.slots) {c0 : Nat} {o1 : Option Nat} {m0 : gMem} {res : Int32 × gMem} (hk0 : gk c0 = 8) (hk1 : ∀ z, o1 = some z → gk z = 3) (hf : f_X8_tryOrder c0 o1 m0 = some res) (hM : gM X m0 H) (hS : va_S (gA X) s.heap H locs) (hl : lv_has ls 2 [(0, .ref (X.1 + c0)), (1, gOp X o1)]) : W p l e R s m args below meth c H locs 0 0 (MQ below (gQi X res) args s 0 0 (gA X)) (F0 m 0 ls []) := by
  obtain ⟨hx, hb⟩ := (⟨E.1, E.2.1⟩ : _ ∧ _)
  unfold f_X8_tryOrder at hf
  cases o1 with
  | none =>
    have hl : lv_has ls 2 [(0, .ref (X.1 + c0)), (1, .null)] := hl
    have hf := gnl_n hf
    refine lv_aload_nN hx hb dX8_tryOrder_0 rfl (lv_at hl 1 rfl) ?_
    refine lv_ifnonnullN hx hb dX8_tryOrder_1 ?_
    refine lv_iconst (v := (1 : Int32)) hx hb dX8_tryOrder_4 (by decide) ?_
    exact ge_i E hr hlocks hf hM hS (Nat.le_of_ble_eq_true rfl) (Nat.le_of_ble_eq_true rfl) dX8_tryOrder_5
  | some z1 =>
    have hl : lv_has ls 2 [(0, .ref (X.1 + c0)), (1, .ref (X.1 + z1))] := hl
    have hf := gnl_s hf
    obtain ⟨hg2, hf⟩ := g_ck hf
    refine lv_aload_n hx hb dX8_tryOrder_0 rfl (lv_at hl 1 rfl) ?_
    refine lv_ifnonnull (tgt := 6) hx hb dX8_tryOrder_1 (by decide) ?_
    refine lv_aload_n hx hb dX8_tryOrder_6 rfl (lv_at hl 1 rfl) ?_
    refine GX8_423 E hM hg2 dX8_tryOrder_7 ?_
    by_cases h4 : (m0 z1 0) = (98 : Int32)
    · have hf := g_t h4 hf
      refine lv_lookup (tgt := 60) (off := 50) hx hb dX8_tryOrder_10 (by decide) (by rw [h4]; decide) (by decide) ?_
      refine lv_aload_n hx hb dX8_tryOrder_60 rfl (lv_at hl 0 rfl) ?_
      refine lv_aload_n hx hb dX8_tryOrder_61 rfl (lv_at hl 1 rfl) ?_
      refine GX8_428 E hM hg2 dX8_tryOrder_62 ?_
      have hg5 : gk (z1 + 1) = 20 := gkf_3_1 hg2
      refine lv_iconst (v := (0 : Int32)) hx hb dX8_tryOrder_65 (by decide) ?_
      obtain ⟨hi6, hf⟩ := g_ck hf
      refine gg_iald E hM (gk_in hg5 (by decide)) hg5 hi6 dX8_tryOrder_66 ?_
      refine lv_aload_n hx hb dX8_tryOrder_67 rfl (lv_at hl 1 rfl) ?_
      refine GX8_428 E hM hg2 dX8_tryOrder_68 ?_
      refine lv_iconst (v := (1 : Int32)) hx hb dX8_tryOrder_71 (by decide) ?_
      obtain ⟨hi7, hf⟩ := g_ck hf
      refine gg_iald E hM (gk_in hg5 (by decide)) hg5 hi7 dX8_tryOrder_72 ?_
      obtain ⟨r10, m8, hqq9, hf⟩ := g1_o hf
      refine ga_i (gr_V (As := [.int (m0 (z1 + 1) (0 : Int32).toNatClampNeg), .int (m0 (z1 + 1) (1 : Int32).toNatClampNeg)]) (ci := 8) (rm := { frames := 3, cells := 0, slots := 0, locals := 66 }) E hml hl.1 (c_X8_tryToBuy l X c0 (m0 (z1 + 1) (0 : Int32).toNatClampNeg) (m0 (z1 + 1) (1 : Int32).toNatClampNeg) m0 hk0 hqq9) wt_X8_tryToBuy wl_RX8_431 rfl hk0 (by decide) rfl rfl hM hS rfl rfl (Nat.le_trans (by decide) hRf) (Nat.le_trans (by decide) hRl) (Nat.le_trans (Nat.le_of_ble_eq_true rfl) hRc) (Nat.le_trans (Nat.le_of_ble_eq_true rfl) hRs) (Nat.le_of_ble_eq_true rfl) dX8_tryOrder_73 rfl) hS (fun H locs hM hS => ?_)
      exact ge_i E hr hlocks hf hM hS (Nat.le_of_ble_eq_true rfl) (Nat.le_of_ble_eq_true rfl) dX8_tryOrder_76
    have hf := g_f h4 hf
    by_cases h11 : (m0 z1 0) = (104 : Int32)
    · have hf := g_t h11 hf
      refine lv_lookup (tgt := 134) (off := 124) hx hb dX8_tryOrder_10 (by decide) (by rw [h11]; decide) (by decide) ?_
      refine lv_aload_n hx hb dX8_tryOrder_134 rfl (lv_at hl 0 rfl) ?_
      refine lv_aload_n hx hb dX8_tryOrder_135 rfl (lv_at hl 1 rfl) ?_
      refine GX8_428 E hM hg2 dX8_tryOrder_136 ?_
      have hg12 : gk (z1 + 1) = 20 := gkf_3_1 hg2
      refine lv_iconst (v := (0 : Int32)) hx hb dX8_tryOrder_139 (by decide) ?_
      obtain ⟨hi13, hf⟩ := g_ck hf
      refine gg_iald E hM (gk_in hg12 (by decide)) hg12 hi13 dX8_tryOrder_140 ?_
      obtain ⟨r16, m14, hqq15, hf⟩ := g1_o hf
      refine ga_i (gr_V (As := [.int (m0 (z1 + 1) (0 : Int32).toNatClampNeg)]) (ci := 8) (rm := { frames := 5, cells := 0, slots := 0, locals := 155 }) E hml hl.1 (c_X8_tryToPass l X c0 (m0 (z1 + 1) (0 : Int32).toNatClampNeg) m0 hk0 hqq15) wt_X8_tryToPass wl_RX8_443 rfl hk0 (by decide) rfl rfl hM hS rfl rfl (Nat.le_trans (by decide) hRf) (Nat.le_trans (by decide) hRl) (Nat.le_trans (Nat.le_of_ble_eq_true rfl) hRc) (Nat.le_trans (Nat.le_of_ble_eq_true rfl) hRs) (Nat.le_of_ble_eq_true rfl) dX8_tryOrder_141 rfl) hS (fun H locs hM hS => ?_)
      exact ge_i E hr hlocks hf hM hS (Nat.le_of_ble_eq_true rfl) (Nat.le_of_ble_eq_true rfl) dX8_tryOrder_144
    have hf := g_f h11 hf
    by_cases h17 : (m0 z1 0) = (108 : Int32)
    · have hf := g_t h17 hf
      refine lv_lookup (tgt := 77) (off := 67) hx hb dX8_tryOrder_10 (by decide) (by rw [h17]; decide) (by decide) ?_
      refine lv_aload_n hx hb dX8_tryOrder_77 rfl (lv_at hl 0 rfl) ?_
      refine lv_aload_n hx hb dX8_tryOrder_78 rfl (lv_at hl 1 rfl) ?_
      refine GX8_428 E hM hg2 dX8_tryOrder_79 ?_
      have hg18 : gk (z1 + 1) = 20 := gkf_3_1 hg2
      refine lv_iconst (v := (0 : Int32)) hx hb dX8_tryOrder_82 (by decide) ?_
      obtain ⟨hi19, hf⟩ := g_ck hf
      refine gg_iald E hM (gk_in hg18 (by decide)) hg18 hi19 dX8_tryOrder_83 ?_
      refine lv_aload_n hx hb dX8_tryOrder_84 rfl (lv_at hl 1 rfl) ?_
      refine GX8_428 E hM hg2 dX8_tryOrder_85 ?_
      refine lv_iconst (v := (1 : Int32)) hx hb dX8_tryOrder_88 (by decide) ?_
      obtain ⟨hi20, hf⟩ := g_ck hf
      refine gg_iald E hM (gk_in hg18 (by decide)) hg18 hi20 dX8_tryOrder_89 ?_
      refine lv_aload_n hx hb dX8_tryOrder_90 rfl (lv_at hl 1 rfl) ?_
      refine GX8_428 E hM hg2 dX8_tryOrder_91 ?_
      refine lv_iconst (v := (2 : Int32)) hx hb dX8_tryOrder_94 (by decide) ?_
      obtain ⟨hi21, hf⟩ := g_ck hf
      refine gg_iald E hM (gk_in hg18 (by decide)) hg18 hi21 dX8_tryOrder_95 ?_
      refine lv_aload_n hx hb dX8_tryOrder_96 rfl (lv_at hl 1 rfl) ?_
      refine GX8_428 E hM hg2 dX8_tryOrder_97 ?_
      refine lv_iconst (v := (3 : Int32)) hx hb dX8_tryOrder_100 (by decide) ?_
      obtain ⟨hi22, hf⟩ := g_ck hf
      refine gg_iald E hM (gk_in hg18 (by decide)) hg18 hi22 dX8_tryOrder_101 ?_
      obtain ⟨r25, m23, hqq24, hf⟩ := g1_o hf
      refine ga_i (gr_V (As := [.int (m0 (z1 + 1) (0 : Int32).toNatClampNeg), .int (m0 (z1 + 1) (1 : Int32).toNatClampNeg), .int (m0 (z1 + 1) (2 : Int32).toNatClampNeg), .int (m0 (z1 + 1) (3 : Int32).toNatClampNeg)]) (ci := 8) (rm := { frames := 4, cells := 0, slots := 0, locals := 136 }) E hml hl.1 (c_X8_tryToLay l X c0 (m0 (z1 + 1) (0 : Int32).toNatClampNeg) (m0 (z1 + 1) (1 : Int32).toNatClampNeg) (m0 (z1 + 1) (2 : Int32).toNatClampNeg) (m0 (z1 + 1) (3 : Int32).toNatClampNeg) m0 hk0 hqq24) wt_X8_tryToLay wl_RX8_434 rfl hk0 (by decide) rfl rfl hM hS rfl rfl (Nat.le_trans (by decide) hRf) (Nat.le_trans (by decide) hRl) (Nat.le_trans (Nat.le_of_ble_eq_true rfl) hRc) (Nat.le_trans (Nat.le_of_ble_eq_true rfl) hRs) (Nat.le_of_ble_eq_true rfl) dX8_tryOrder_102 rfl) hS (fun H locs hM hS => ?_)
      exact ge_i E hr hlocks hf hM hS (Nat.le_of_ble_eq_true rfl) (Nat.le_of_ble_eq_true rfl) dX8_tryOrder_105
    have hf := g_f h17 hf
    by_cases h26 : (m0 z1 0) = (115 : Int32)
    · have hf := g_t h26 hf
      refine lv_lookup (tgt := 117) (off := 107) hx hb dX8_tryOrder_10 (by decide) (by rw [h26]; decide) (by decide) ?_
      refine lv_aload_n hx hb dX8_tryOrder_117 rfl (lv_at hl 0 rfl) ?_
      refine lv_aload_n hx hb dX8_tryOrder_118 rfl (lv_at hl 1 rfl) ?_
      refine GX8_428 E hM hg2 dX8_tryOrder_119 ?_
      have hg27 : gk (z1 + 1) = 20 := gkf_3_1 hg2
      refine lv_iconst (v := (0 : Int32)) hx hb dX8_tryOrder_122 (by decide) ?_
      obtain ⟨hi28, hf⟩ := g_ck hf
      refine gg_iald E hM (gk_in hg27 (by decide)) hg27 hi28 dX8_tryOrder_123 ?_
      refine lv_aload_n hx hb dX8_tryOrder_124 rfl (lv_at hl 1 rfl) ?_
      refine GX8_428 E hM hg2 dX8_tryOrder_125 ?_
      refine lv_iconst (v := (1 : Int32)) hx hb dX8_tryOrder_128 (by decide) ?_
      obtain ⟨hi29, hf⟩ := g_ck hf
      refine gg_iald E hM (gk_in hg27 (by decide)) hg27 hi29 dX8_tryOrder_129 ?_
      obtain ⟨r32, m30, hqq31, hf⟩ := g1_o hf
      refine ga_i (gr_V (As := [.int (m0 (z1 + 1) (0 : Int32).toNatClampNeg), .int (m0 (z1 + 1) (1 : Int32).toNatClampNeg)]) (ci := 8) (rm := { frames := 1, cells := 0, slots := 0, locals := 22 }) E hml hl.1 (c_X8_tryToShow l X c0 (m0 (z1 + 1) (0 : Int32).toNatClampNeg) (m0 (z1 + 1) (1 : Int32).toNatClampNeg) m0 hk0 hqq31) wt_X8_tryToShow wl_RX8_440 rfl hk0 (by decide) rfl rfl hM hS rfl rfl (Nat.le_trans (by decide) hRf) (Nat.le_trans (by decide) hRl) (Nat.le_trans (Nat.le_of_ble_eq_true rfl) hRc) (Nat.le_trans (Nat.le_of_ble_eq_true rfl) hRs) (Nat.le_of_ble_eq_true rfl) dX8_tryOrder_130 rfl) hS (fun H locs hM hS => ?_)
      exact ge_i E hr hlocks hf hM hS (Nat.le_of_ble_eq_true rfl) (Nat.le_of_ble_eq_true rfl) dX8_tryOrder_133
    have hf := g_f h26 hf
    by_cases h33 : (m0 z1 0) = (116 : Int32)
    · have hf := g_t h33 hf
      refine lv_lookup (tgt := 106) (off := 96) hx hb dX8_tryOrder_10 (by decide) (by rw [h33]; decide) (by decide) ?_
      refine lv_aload_n hx hb dX8_tryOrder_106 rfl (lv_at hl 0 rfl) ?_
      refine lv_aload_n hx hb dX8_tryOrder_107 rfl (lv_at hl 1 rfl) ?_
      refine GX8_428 E hM hg2 dX8_tryOrder_108 ?_
      have hg34 : gk (z1 + 1) = 20 := gkf_3_1 hg2
      refine lv_iconst (v := (0 : Int32)) hx hb dX8_tryOrder_111 (by decide) ?_
      obtain ⟨hi35, hf⟩ := g_ck hf
      refine gg_iald E hM (gk_in hg34 (by decide)) hg34 hi35 dX8_tryOrder_112 ?_
      obtain ⟨r38, m36, hqq37, hf⟩ := g1_o hf
      refine ga_i (gr_V (As := [.int (m0 (z1 + 1) (0 : Int32).toNatClampNeg)]) (ci := 8) (rm := { frames := 4, cells := 0, slots := 0, locals := 130 }) E hml hl.1 (c_X8_tryToTake l X c0 (m0 (z1 + 1) (0 : Int32).toNatClampNeg) m0 hk0 hqq37) wt_X8_tryToTake wl_RX8_437 rfl hk0 (by decide) rfl rfl hM hS rfl rfl (Nat.le_trans (by decide) hRf) (Nat.le_trans (by decide) hRl) (Nat.le_trans (Nat.le_of_ble_eq_true rfl) hRc) (Nat.le_trans (Nat.le_of_ble_eq_true rfl) hRs) (Nat.le_of_ble_eq_true rfl) dX8_tryOrder_113 rfl) hS (fun H locs hM hS => ?_)
      exact ge_i E hr hlocks hf hM hS (Nat.le_of_ble_eq_true rfl) (Nat.le_of_ble_eq_true rfl) dX8_tryOrder_116
    have hf := g_f h33 hf
    have ah4 := g_tn (z := 98) h4 rfl
    have ah11 := g_tn (z := 104) h11 rfl
    have ah17 := g_tn (z := 108) h17 rfl
    have ah26 := g_tn (z := 115) h26 rfl
    have ah33 := g_tn (z := 116) h33 rfl
    refine lv_lookup (tgt := 145) (off := 135) hx hb dX8_tryOrder_10 (by decide) (by simp [Op.lookupswitch.offset, ah4, ah11, ah17, ah26, ah33]) (by decide) ?_
    refine lv_iconst (v := (1 : Int32)) hx hb dX8_tryOrder_145 (by decide) ?_
    exact ge_i E hr hlocks hf hM hS (Nat.le_of_ble_eq_true rfl) (Nat.le_of_ble_eq_true rfl) dX8_tryOrder_146
theorem c_X8_tryOrder (l : Launch) (X : gX) (c0 : Nat) (o1 : Option Nat) (m0 : gMem) {res : Int32 × gMem} (hk0 : gk c0 = 8) (hk1 : ∀ z, o1 = some z → gk z = 3) (hf : f_X8_tryOrder c0 o1 m0 = some res) : Met l yX8_tryOrder (gWs yX8_tryOrder cX8_tryOrder 2 (some .int)) { frames := 6, cells := 0, slots := 0, locals := 176 } (va_Pc [.ref (X.1 + c0), gOp X o1] (gB X m0)) (gQi X res) 0 0 (gA X) :=
  gMet (own := RX8) (by decide +kernel) rfl (by cases o1 <;> exact Nat.le_of_ble_eq_true rfl) (fun p e s m args below meth c ls E hr hlocks hml hM hl => b_X8_tryOrder E hr hlocks hml (Nat.le_refl _) (Nat.le_refl _) (Nat.le_refl _) (Nat.le_refl _) hk0 hk1 hf hM va_S.rf (by cases o1 <;> exact hl))
def L_X8_read_53 (c0 : Nat) (k87 : Int32 → Int32 →  gMem → Option (Nat × Int32 × gMem)) : Nat → Int32 → Int32 → gMem → Option (Nat × Int32 × gMem)
  | 0, _, _, _ => none
  | n + 1, y1, y2, m0 => if (m0 (c0 + 388) 4) ≤ y2 then (k87 y1 y2 m0) else (if y1 = (0 : Int32) then (g1 (f_X5_orderAt (c0 + 388) y2 m0) (fun r18 m16 => gnl r18 (g1 (f_X8_tryOrder c0 none m16) (fun r23 m21 => gv (y2 + (1 : Int32)) (fun x24 => L_X8_read_53 c0 k87 n r23 x24 m21))) (fun z19 => if gk z19 = 3 then g1 (f_X8_tryOrder c0 (some z19) m16) (fun r27 m25 => gv (y2 + (1 : Int32)) (fun x28 => L_X8_read_53 c0 k87 n r27 x28 m25)) else none))) else (k87 y1 y2 m0))
def f_X8_read (c0 : Nat) (m0 : gMem) : Option (Nat × Int32 × gMem) := g1 (f_X5_parseOrders (c0 + 388) m0) (fun r4 m2 => gv (ms m2 c0 6 r4) (fun m5 => gv (ms m5 (c0 + 388) 1 (0 : Int32)) (fun m6 => if (m6 c0 6) = (-1 : Int32) then (g1 (f_X2_copyFrom (c0 + 36) (c0 + 1) m6) (fun r12 m10 => L_X8_read_53 c0 (fun y29 y30 m31 => if y29 = (1 : Int32) then (some (2, (0 : Int32), m31)) else (if y29 = (2 : Int32) then (some (3, (0 : Int32), m31)) else (g1 (f_X1_keep (c0 + 106) (c0 + 1) m31) (fun r37 m35 => g1 (f_X2_copyFrom (c0 + 1) (c0 + 36) m35) (fun r40 m38 => some (0, (m38 (c0 + 388) 4), m38)))))) gF (0 : Int32) (0 : Int32) m10)) else (some (2, (0 : Int32), m6)))))
set_option maxRecDepth 100000 in
set_option maxHeartbeats 4000000 in
theorem l_X8_read_53 {p : Program} {l : Launch} {e : Env} {R : Room} {s : State} {m : MethodId} {args : Array Value} {below : List Frame} {meth : Method} {c : Code} {cells slots : Nat} {X : gX} (E : gEn p s m args c cX8_read RX8 X) (hr : meth.sig.returnType = (some .int)) (hlocks : meth.locks = false) (hml : c.maxLocals = 3) (hl0 : l.stackTraces = false) (hout : ∀ x ∈ c.exceptionTable.toList, False) (hRf : 7 ≤ R.frames) (hRl : 197 ≤ R.locals) (hRc : 1 ≤ R.cells) (hRs : 6 ≤ R.slots) (hc : cells ≤ 1) (hs : slots ≤ 6) (c0 : Nat) (hk0 : gk c0 = 8) (k87 : Int32 → Int32 →  gMem → Option (Nat × Int32 × gMem)) {res : Nat × Int32 × gMem}
    (hk87 : ∀ (y1 : Int32) (y2 : Int32) (m0 : gMem) (H : Heap) (locs : List Loc) (ls : Array Slot), k87 y1 y2 m0 = some res → gM X m0 H → va_S (gA X) s.heap H locs → lv_has ls 3 [(0, .ref (X.1 + c0)), (1, .int y1), (2, .int y2)] → W p l e R s m args below meth c H locs cells slots (vx_MQ below (gQTi X res) (gXC X res.1 res.2.2) args s 1 6 (gA X)) (F0 m 87 ls [])) :
    ∀ (n : Nat) (y1 : Int32) (y2 : Int32) (m0 : gMem) (H : Heap) (locs : List Loc) (ls : Array Slot), L_X8_read_53 c0 k87 n y1 y2 m0 = some res → gM X m0 H → va_S (gA X) s.heap H locs → lv_has ls 3 [(0, .ref (X.1 + c0)), (1, .int y1), (2, .int y2)] → W p l e R s m args below meth c H locs cells slots (vx_MQ below (gQTi X res) (gXC X res.1 res.2.2) args s 1 6 (gA X)) (F0 m 53 ls []) := by
  obtain ⟨hx, hb⟩ := (⟨E.1, E.2.1⟩ : _ ∧ _)
  intro n
  induction n with
  | zero =>
    intro _ _ _ _ _ _ hf
    cases hf
  | succ n ih =>
    intro y1 y2 m0 H locs ls hf hM hS hl
    rw [L_X8_read_53] at hf
    refine lv_iload_n hx hb dX8_read_53 rfl (lv_at hl 2 rfl) ?_
    refine lv_aload_n hx hb dX8_read_54 rfl (lv_at hl 0 rfl) ?_
    refine GX8_32 E hM hk0 dX8_read_55 ?_
    have hg13 : gk (c0 + 388) = 5 := gkf_8_5 hk0
    refine GX8_301 E hM hg13 dX8_read_58 ?_
    refine lv_icmp_ge (tgt := 87) hx hb dX8_read_61 (by decide) (fun h14 => ?_) (fun h14 => ?_)
    · have hf := g_t h14 hf
      exact hk87 y1 y2 m0 _ _ _ hf hM hS (lv_sub hl [0, 1, 2] rfl)
    · have hf := g_f h14 hf
      refine lv_iload_n hx hb dX8_read_64 rfl (lv_at hl 1 rfl) ?_
      refine lv_if_ne (tgt := 87) hx hb dX8_read_65 (by decide) (fun h15 => ?_) (fun h15 => ?_)
      · have hf := g_f h15 hf
        exact hk87 y1 y2 m0 _ _ _ hf hM hS (lv_sub hl [0, 1, 2] rfl)
      · have hf := g_t h15 hf
        refine lv_aload_n hx hb dX8_read_68 rfl (lv_at hl 0 rfl) ?_
        refine lv_aload_n hx hb dX8_read_69 rfl (lv_at hl 0 rfl) ?_
        refine GX8_32 E hM hk0 dX8_read_70 ?_
        refine lv_iload_n hx hb dX8_read_73 rfl (lv_at hl 2 rfl) ?_
        obtain ⟨r18, m16, hqq17, hf⟩ := g1_o hf
        refine ga_o (gr_V (As := [.int y2]) (ci := 5) (rm := { frames := 0, cells := 0, slots := 0, locals := 0 }) E hml hl.1 (c_X5_orderAt l X (c0 + 388) y2 m0 hg13 hqq17) wt_X5_orderAt wl_RX8_304 rfl hg13 (by decide) rfl rfl hM hS rfl rfl (Nat.le_trans (by decide) hRf) (Nat.le_trans (by decide) hRl) (Nat.le_trans hc hRc) (Nat.le_trans hs hRs) (Nat.le_of_ble_eq_true rfl) dX8_read_74 rfl) hS (fun H locs hM hS => ?_)
        cases r18 with
        | none =>
          have hf := gnl_n hf
          refine gW_null ?_
          obtain ⟨r23, m21, hqq22, hf⟩ := g1_o hf
          refine ga_i (gr_V (As := [gOp X none]) (ci := 8) (rm := { frames := 6, cells := 0, slots := 0, locals := 176 }) E hml hl.1 (c_X8_tryOrder l X c0 none m16 hk0 (fun z hz => nomatch hz) hqq22) wt_X8_tryOrder wl_RX8_308 rfl hk0 (by decide) rfl rfl hM hS rfl rfl (Nat.le_trans (by decide) hRf) (Nat.le_trans (by decide) hRl) (Nat.le_trans hc hRc) (Nat.le_trans hs hRs) (Nat.le_of_ble_eq_true rfl) dX8_read_77 rfl) hS (fun H locs hM hS => ?_)
          refine lv_istore_n (lv' := [(1, .int r23), (0, .ref (X.1 + c0)), (2, .int y2)]) hx hb dX8_read_80 rfl hl (by decide) rfl (fun ls hl => ?_)
          obtain ⟨x24, ex24, hf⟩ := gv_o hf
          refine lv_iinc (v := x24) (lv' := [(2, .int x24), (1, .int r23), (0, .ref (X.1 + c0))]) hx hb dX8_read_81 hl (k := 2) rfl (by rw [ex24]; rfl) (by decide) rfl (fun ls hl => ?_)
          refine lv_goto (tgt := 53) hx hb dX8_read_84 (by decide) ?_
          exact ih r23 x24 m21 _ _ _ hf hM hS (lv_sub hl [2, 1, 0] rfl)
        | some z19 =>
          have hf := gnl_s hf
          obtain ⟨hg20, hf⟩ := g_ck hf
          refine gW_some ?_
          obtain ⟨r27, m25, hqq26, hf⟩ := g1_o hf
          refine ga_i (gr_V (As := [gOp X (some z19)]) (ci := 8) (rm := { frames := 6, cells := 0, slots := 0, locals := 176 }) E hml hl.1 (c_X8_tryOrder l X c0 (some z19) m16 hk0 (fun z hz => Option.some.inj hz ▸ hg20) hqq26) wt_X8_tryOrder wl_RX8_308 rfl hk0 (by decide) rfl rfl hM hS rfl rfl (Nat.le_trans (by decide) hRf) (Nat.le_trans (by decide) hRl) (Nat.le_trans hc hRc) (Nat.le_trans hs hRs) (Nat.le_of_ble_eq_true rfl) dX8_read_77 rfl) hS (fun H locs hM hS => ?_)
          refine lv_istore_n (lv' := [(1, .int r27), (0, .ref (X.1 + c0)), (2, .int y2)]) hx hb dX8_read_80 rfl hl (by decide) rfl (fun ls hl => ?_)
          obtain ⟨x28, ex28, hf⟩ := gv_o hf
          refine lv_iinc (v := x28) (lv' := [(2, .int x28), (1, .int r27), (0, .ref (X.1 + c0))]) hx hb dX8_read_81 hl (k := 2) rfl (by rw [ex28]; rfl) (by decide) rfl (fun ls hl => ?_)
          refine lv_goto (tgt := 53) hx hb dX8_read_84 (by decide) ?_
          exact ih r27 x28 m25 _ _ _ hf hM hS (lv_sub hl [2, 1, 0] rfl)
set_option maxRecDepth 100000 in
set_option maxHeartbeats 4000000 in
theorem b_X8_read {p : Program} {l : Launch} {e : Env} {R : Room} {s : State} {m : MethodId} {args : Array Value} {below : List Frame} {meth : Method} {c : Code} {H : Heap} {locs : List Loc} {ls : Array Slot} {X : gX} (E : gEn p s m args c cX8_read RX8 X) (hr : meth.sig.returnType = (some .int)) (hlocks : meth.locks = false) (hml : c.maxLocals = 3) (hl0 : l.stackTraces = false) (hout : ∀ x ∈ c.exceptionTable.toList, False) (hRf : 7 ≤ R.frames) (hRl : 197 ≤ R.locals) (hRc : 1 ≤ R.cells) (hRs : 6 ≤ R.slots) {c0 : Nat} {m0 : gMem} {res : Nat × Int32 × gMem} (hk0 : gk c0 = 8) (hf : f_X8_read c0 m0 = some res) (hM : gM X m0 H) (hS : va_S (gA X) s.heap H locs) (hl : lv_has ls 3 [(0, .ref (X.1 + c0))]) : W p l e R s m args below meth c H locs 0 0 (vx_MQ below (gQTi X res) (gXC X res.1 res.2.2) args s 1 6 (gA X)) (F0 m 0 ls []) := by
  obtain ⟨hx, hb⟩ := (⟨E.1, E.2.1⟩ : _ ∧ _)
  unfold f_X8_read at hf
  refine lv_aload_n hx hb dX8_read_0 rfl (lv_at hl 0 rfl) ?_
  refine lv_aload_n hx hb dX8_read_1 rfl (lv_at hl 0 rfl) ?_
  refine GX8_32 E hM hk0 dX8_read_2 ?_
  have hg1 : gk (c0 + 388) = 5 := gkf_8_5 hk0
  obtain ⟨r4, m2, hqq3, hf⟩ := g1_o hf
  refine ga_i (gr_V (As := []) (ci := 5) (rm := { frames := 5, cells := 0, slots := 0, locals := 137 }) E hml hl.1 (c_X5_parseOrders l X (c0 + 388) m0 hg1 hqq3) wt_X5_parseOrders wl_RX8_293 rfl hg1 (by decide) rfl rfl hM hS rfl rfl (Nat.le_trans (by decide) hRf) (Nat.le_trans (by decide) hRl) (Nat.le_trans (Nat.le_of_ble_eq_true rfl) hRc) (Nat.le_trans (Nat.le_of_ble_eq_true rfl) hRs) (Nat.le_of_ble_eq_true rfl) dX8_read_5 rfl) hS (fun H locs hM hS => ?_)
  obtain ⟨m5, em5, hf⟩ := gv_o hf
  refine PX8_36 E hM hS hk0 em5 dX8_read_8 (fun H locs hM hS => ?_)
  refine lv_aload_n hx hb dX8_read_11 rfl (lv_at hl 0 rfl) ?_
  refine GX8_32 E hM hk0 dX8_read_12 ?_
  refine lv_iconst (v := (0 : Int32)) hx hb dX8_read_15 (by decide) ?_
  obtain ⟨m6, em6, hf⟩ := gv_o hf
  refine PX8_281 E hM hS hg1 em6 dX8_read_16 (fun H locs hM hS => ?_)
  refine lv_aload_n hx hb dX8_read_19 rfl (lv_at hl 0 rfl) ?_
  refine GX8_36 E hM hk0 dX8_read_20 ?_
  refine lv_iconst (v := (-1 : Int32)) hx hb dX8_read_23 (by decide) ?_
  refine lv_icmp_eq (tgt := 38) hx hb dX8_read_24 (by decide) (fun h7 => ?_) (fun h7 => ?_)
  · have hf := g_t h7 hf
    refine lv_aload_n hx hb dX8_read_38 rfl (lv_at hl 0 rfl) ?_
    refine GX8_16 E hM hk0 dX8_read_39 ?_
    have hg8 : gk (c0 + 36) = 2 := gkf_8_1 hk0
    refine lv_aload_n hx hb dX8_read_42 rfl (lv_at hl 0 rfl) ?_
    refine GX8_10 E hM hk0 dX8_read_43 ?_
    have hg9 : gk (c0 + 1) = 2 := gkf_8_0 hk0
    obtain ⟨r12, m10, hqq11, hf⟩ := g1_o hf
    refine ga_v (gr_V (As := [.ref (X.1 + (c0 + 1))]) (ci := 2) (rm := { frames := 2, cells := 0, slots := 0, locals := 81 }) E hml hl.1 (c_X2_copyFrom l X (c0 + 36) (c0 + 1) m6 hg8 hg9 hqq11) wt_X2_copyFrom wl_RX8_298 rfl hg8 (by decide) rfl rfl hM hS rfl rfl (Nat.le_trans (by decide) hRf) (Nat.le_trans (by decide) hRl) (Nat.le_trans (Nat.le_of_ble_eq_true rfl) hRc) (Nat.le_trans (Nat.le_of_ble_eq_true rfl) hRs) (Nat.le_of_ble_eq_true rfl) dX8_read_46 rfl) hS (fun H locs hM hS => ?_)
    refine lv_iconst (v := (0 : Int32)) hx hb dX8_read_49 (by decide) ?_
    refine lv_istore_n (lv' := [(1, .int (0 : Int32)), (0, .ref (X.1 + c0))]) hx hb dX8_read_50 rfl hl (by decide) rfl (fun ls hl => ?_)
    refine lv_iconst (v := (0 : Int32)) hx hb dX8_read_51 (by decide) ?_
    refine lv_istore_n (lv' := [(2, .int (0 : Int32)), (1, .int (0 : Int32)), (0, .ref (X.1 + c0))]) hx hb dX8_read_52 rfl hl (by decide) rfl (fun ls hl => ?_)
    refine l_X8_read_53 E hr hlocks hml hl0 hout hRf hRl hRc hRs (Nat.le_of_ble_eq_true rfl) (Nat.le_of_ble_eq_true rfl) c0 hk0 _ (fun y29 y30 m31 H locs ls hf hM hS hl => ?_) gF (0 : Int32) (0 : Int32) m10 _ _ _ hf hM hS (lv_sub hl [2, 1, 0] rfl)
    refine lv_iload_n hx hb dX8_read_87 rfl (lv_at hl 1 rfl) ?_
    refine lv_iconst (v := (1 : Int32)) hx hb dX8_read_88 (by decide) ?_
    refine lv_icmp_ne (tgt := 103) hx hb dX8_read_89 (by decide) (fun h32 => ?_) (fun h32 => ?_)
    · have hf := g_f h32 hf
      refine lv_iload_n hx hb dX8_read_103 rfl (lv_at hl 1 rfl) ?_
      refine lv_iconst (v := (2 : Int32)) hx hb dX8_read_104 (by decide) ?_
      refine lv_icmp_ne (tgt := 119) hx hb dX8_read_105 (by decide) (fun h33 => ?_) (fun h33 => ?_)
      · have hf := g_f h33 hf
        refine lv_aload_n hx hb dX8_read_119 rfl (lv_at hl 0 rfl) ?_
        refine GX8_25 E hM hk0 dX8_read_120 ?_
        have hg34 : gk (c0 + 106) = 1 := gkf_8_4 hk0
        refine lv_aload_n hx hb dX8_read_123 rfl (lv_at hl 0 rfl) ?_
        refine GX8_10 E hM hk0 dX8_read_124 ?_
        obtain ⟨r37, m35, hqq36, hf⟩ := g1_o hf
        refine ga_v (gr_V (As := [.ref (X.1 + (c0 + 1))]) (ci := 1) (rm := { frames := 3, cells := 0, slots := 0, locals := 103 }) E hml hl.1 (c_X1_keep l X (c0 + 106) (c0 + 1) m31 hg34 hg9 hqq36) wt_X1_keep wl_RX8_66 rfl hg34 (by decide) rfl rfl hM hS rfl rfl (Nat.le_trans (by decide) hRf) (Nat.le_trans (by decide) hRl) (Nat.le_trans (Nat.le_of_ble_eq_true rfl) hRc) (Nat.le_trans (Nat.le_of_ble_eq_true rfl) hRs) (Nat.le_of_ble_eq_true rfl) dX8_read_127 rfl) hS (fun H locs hM hS => ?_)
        refine lv_aload_n hx hb dX8_read_130 rfl (lv_at hl 0 rfl) ?_
        refine GX8_10 E hM hk0 dX8_read_131 ?_
        refine lv_aload_n hx hb dX8_read_134 rfl (lv_at hl 0 rfl) ?_
        refine GX8_16 E hM hk0 dX8_read_135 ?_
        obtain ⟨r40, m38, hqq39, hf⟩ := g1_o hf
        refine ga_v (gr_V (As := [.ref (X.1 + (c0 + 36))]) (ci := 2) (rm := { frames := 2, cells := 0, slots := 0, locals := 81 }) E hml hl.1 (c_X2_copyFrom l X (c0 + 1) (c0 + 36) m35 hg9 hg8 hqq39) wt_X2_copyFrom wl_RX8_298 rfl hg9 (by decide) rfl rfl hM hS rfl rfl (Nat.le_trans (by decide) hRf) (Nat.le_trans (by decide) hRl) (Nat.le_trans (Nat.le_of_ble_eq_true rfl) hRc) (Nat.le_trans (Nat.le_of_ble_eq_true rfl) hRs) (Nat.le_of_ble_eq_true rfl) dX8_read_138 rfl) hS (fun H locs hM hS => ?_)
        refine lv_aload_n hx hb dX8_read_141 rfl (lv_at hl 0 rfl) ?_
        refine GX8_32 E hM hk0 dX8_read_142 ?_
        refine GX8_301 E hM hg1 dX8_read_145 ?_
        exact ge_Ti E hr hlocks hf hM hS (Nat.le_of_ble_eq_true rfl) (Nat.le_of_ble_eq_true rfl) dX8_read_148
      · have hf := g_t h33 hf
        exact gth_3w (text := "an order is refused") E hl0 hout hlocks (hl.1.trans hml.symm) (by decide) hf hM hS (by decide) (Nat.le_trans (by decide) hRf) (Nat.le_trans (Nat.le_of_ble_eq_true rfl) hRl) (Nat.le_trans (Nat.le_of_ble_eq_true rfl) hRc) (Nat.le_trans (Nat.le_of_ble_eq_true rfl) hRs) (Nat.le_of_ble_eq_true rfl) (Nat.le_of_ble_eq_true rfl) dX8_read_108 dX8_read_111 dX8_read_112 dX8_read_115 dX8_read_118
    · have hf := g_t h32 hf
      exact gth_2w (text := "an order cannot be") E hl0 hout hlocks (hl.1.trans hml.symm) (by decide) hf hM hS (by decide) (Nat.le_trans (by decide) hRf) (Nat.le_trans (Nat.le_of_ble_eq_true rfl) hRl) (Nat.le_trans (Nat.le_of_ble_eq_true rfl) hRc) (Nat.le_trans (Nat.le_of_ble_eq_true rfl) hRs) (Nat.le_of_ble_eq_true rfl) (Nat.le_of_ble_eq_true rfl) dX8_read_92 dX8_read_95 dX8_read_96 dX8_read_99 dX8_read_102
  · have hf := g_f h7 hf
    exact gth_2w (text := "the text has an error") E hl0 hout hlocks (hl.1.trans hml.symm) (by decide) hf hM hS (by decide) (Nat.le_trans (by decide) hRf) (Nat.le_trans (Nat.le_of_ble_eq_true rfl) hRl) (Nat.le_trans (Nat.le_of_ble_eq_true rfl) hRc) (Nat.le_trans (Nat.le_of_ble_eq_true rfl) hRs) (Nat.le_of_ble_eq_true rfl) (Nat.le_of_ble_eq_true rfl) dX8_read_27 dX8_read_30 dX8_read_31 dX8_read_34 dX8_read_37
theorem c_X8_read (l : Launch) (X : gX) (hl0 : l.stackTraces = false) (c0 : Nat) (m0 : gMem) {res : Nat × Int32 × gMem} (hk0 : gk c0 = 8) (hf : f_X8_read c0 m0 = some res) : vx_Met l yX8_read (gWs yX8_read cX8_read 3 (some .int)) { frames := 7, cells := 1, slots := 6, locals := 197 } (va_Pc [.ref (X.1 + c0)] (gB X m0)) (gQTi X res) (gXC X res.1 res.2.2) 1 6 (gA X) :=
  gMetX (own := RX8) (by decide +kernel) rfl (Nat.le_of_ble_eq_true rfl) (fun p e s m args below meth c ls E hr hlocks hml hout hM hl => b_X8_read E hr hlocks hml hl0 hout (Nat.le_refl _) (Nat.le_refl _) (Nat.le_refl _) (Nat.le_refl _) hk0 hf hM va_S.rf hl)
def f_X8_errorPosition (c0 : Nat) (m0 : gMem) : Option (Int32 × gMem) := some ((m0 c0 6), m0)
set_option maxRecDepth 100000 in
set_option maxHeartbeats 4000000 in
theorem b_X8_errorPosition {p : Program} {l : Launch} {e : Env} {R : Room} {s : State} {m : MethodId} {args : Array Value} {below : List Frame} {meth : Method} {c : Code} {H : Heap} {locs : List Loc} {ls : Array Slot} {X : gX} (E : gEn p s m args c cX8_errorPosition RX8 X) (hr : meth.sig.returnType = (some .int)) (hlocks : meth.locks = false) (hml : c.maxLocals = 1) (hRf : 0 ≤ R.frames) (hRl : 0 ≤ R.locals) (hRc : 0 ≤ R.cells) (hRs : 0 ≤ R.slots) {c0 : Nat} {m0 : gMem} {res : Int32 × gMem} (hk0 : gk c0 = 8) (hf : f_X8_errorPosition c0 m0 = some res) (hM : gM X m0 H) (hS : va_S (gA X) s.heap H locs) (hl : lv_has ls 1 [(0, .ref (X.1 + c0))]) : W p l e R s m args below meth c H locs 0 0 (MQ below (gQi X res) args s 0 0 (gA X)) (F0 m 0 ls []) := by
  obtain ⟨hx, hb⟩ := (⟨E.1, E.2.1⟩ : _ ∧ _)
  unfold f_X8_errorPosition at hf
  refine lv_aload_n hx hb dX8_errorPosition_0 rfl (lv_at hl 0 rfl) ?_
  refine GX8_36 E hM hk0 dX8_errorPosition_1 ?_
  exact ge_i E hr hlocks hf hM hS (Nat.le_of_ble_eq_true rfl) (Nat.le_of_ble_eq_true rfl) dX8_errorPosition_4
theorem c_X8_errorPosition (l : Launch) (X : gX) (c0 : Nat) (m0 : gMem) {res : Int32 × gMem} (hk0 : gk c0 = 8) (hf : f_X8_errorPosition c0 m0 = some res) : Met l yX8_errorPosition (gWs yX8_errorPosition cX8_errorPosition 1 (some .int)) { frames := 0, cells := 0, slots := 0, locals := 0 } (va_Pc [.ref (X.1 + c0)] (gB X m0)) (gQi X res) 0 0 (gA X) :=
  gMet (own := RX8) (by decide +kernel) rfl (Nat.le_of_ble_eq_true rfl) (fun p e s m args below meth c ls E hr hlocks hml hM hl => b_X8_errorPosition E hr hlocks hml (Nat.le_refl _) (Nat.le_refl _) (Nat.le_refl _) (Nat.le_refl _) hk0 hf hM va_S.rf hl)
def f_X8_refusal (c0 : Nat) (u1 : Int32) (m0 : gMem) : Option (Nat × Int32 × gMem) := if (m0 (c0 + 431) 0) = (0 : Int32) then (some (4, (0 : Int32), m0)) else (if u1 = (0 : Int32) then (some (0, (m0 (c0 + 431) 0), m0)) else (some (0, (m0 (c0 + 431) 1), m0)))
set_option maxRecDepth 100000 in
set_option maxHeartbeats 4000000 in
theorem b_X8_refusal {p : Program} {l : Launch} {e : Env} {R : Room} {s : State} {m : MethodId} {args : Array Value} {below : List Frame} {meth : Method} {c : Code} {H : Heap} {locs : List Loc} {ls : Array Slot} {X : gX} (E : gEn p s m args c cX8_refusal RX8 X) (hr : meth.sig.returnType = (some .int)) (hlocks : meth.locks = false) (hml : c.maxLocals = 2) (hl0 : l.stackTraces = false) (hout : ∀ x ∈ c.exceptionTable.toList, False) (hRf : 6 ≤ R.frames) (hRl : 100 ≤ R.locals) (hRc : 1 ≤ R.cells) (hRs : 6 ≤ R.slots) {c0 : Nat} {u1 : Int32} {m0 : gMem} {res : Nat × Int32 × gMem} (hk0 : gk c0 = 8) (hf : f_X8_refusal c0 u1 m0 = some res) (hM : gM X m0 H) (hS : va_S (gA X) s.heap H locs) (hl : lv_has ls 2 [(0, .ref (X.1 + c0)), (1, .int u1)]) : W p l e R s m args below meth c H locs 0 0 (vx_MQ below (gQTi X res) (gXC X res.1 res.2.2) args s 1 6 (gA X)) (F0 m 0 ls []) := by
  obtain ⟨hx, hb⟩ := (⟨E.1, E.2.1⟩ : _ ∧ _)
  unfold f_X8_refusal at hf
  refine lv_aload_n hx hb dX8_refusal_0 rfl (lv_at hl 0 rfl) ?_
  refine GX8_43 E hM hk0 dX8_refusal_1 ?_
  have hg1 : gk (c0 + 431) = 4 := gkf_8_7 hk0
  refine GX8_316 E hM hg1 dX8_refusal_4 ?_
  refine lv_if_ne (tgt := 21) hx hb dX8_refusal_7 (by decide) (fun h2 => ?_) (fun h2 => ?_)
  · have hf := g_f h2 hf
    refine lv_iload_n hx hb dX8_refusal_21 rfl (lv_at hl 1 rfl) ?_
    refine lv_if_eq (tgt := 35) hx hb dX8_refusal_22 (by decide) (fun h3 => ?_) (fun h3 => ?_)
    · have hf := g_t h3 hf
      refine lv_aload_n hx hb dX8_refusal_35 rfl (lv_at hl 0 rfl) ?_
      refine GX8_43 E hM hk0 dX8_refusal_36 ?_
      refine GX8_316 E hM hg1 dX8_refusal_39 ?_
      exact ge_Ti E hr hlocks hf hM hS (Nat.le_of_ble_eq_true rfl) (Nat.le_of_ble_eq_true rfl) dX8_refusal_42
    · have hf := g_f h3 hf
      refine lv_aload_n hx hb dX8_refusal_25 rfl (lv_at hl 0 rfl) ?_
      refine GX8_43 E hM hk0 dX8_refusal_26 ?_
      refine GX8_321 E hM hg1 dX8_refusal_29 ?_
      refine lv_goto (tgt := 42) hx hb dX8_refusal_32 (by decide) ?_
      exact ge_Ti E hr hlocks hf hM hS (Nat.le_of_ble_eq_true rfl) (Nat.le_of_ble_eq_true rfl) dX8_refusal_42
  · have hf := g_t h2 hf
    exact gth_4w (text := "nothing was refused") E hl0 hout hlocks (hl.1.trans hml.symm) (by decide) hf hM hS (by decide) (Nat.le_trans (by decide) hRf) (Nat.le_trans (Nat.le_of_ble_eq_true rfl) hRl) (Nat.le_trans (Nat.le_of_ble_eq_true rfl) hRc) (Nat.le_trans (Nat.le_of_ble_eq_true rfl) hRs) (Nat.le_of_ble_eq_true rfl) (Nat.le_of_ble_eq_true rfl) dX8_refusal_10 dX8_refusal_13 dX8_refusal_14 dX8_refusal_17 dX8_refusal_20
theorem c_X8_refusal (l : Launch) (X : gX) (hl0 : l.stackTraces = false) (c0 : Nat) (u1 : Int32) (m0 : gMem) {res : Nat × Int32 × gMem} (hk0 : gk c0 = 8) (hf : f_X8_refusal c0 u1 m0 = some res) : vx_Met l yX8_refusal (gWs yX8_refusal cX8_refusal 2 (some .int)) { frames := 6, cells := 1, slots := 6, locals := 100 } (va_Pc [.ref (X.1 + c0), .int u1] (gB X m0)) (gQTi X res) (gXC X res.1 res.2.2) 1 6 (gA X) :=
  gMetX (own := RX8) (by decide +kernel) rfl (Nat.le_of_ble_eq_true rfl) (fun p e s m args below meth c ls E hr hlocks hml hout hM hl => b_X8_refusal E hr hlocks hml hl0 hout (Nat.le_refl _) (Nat.le_refl _) (Nat.le_refl _) (Nat.le_refl _) hk0 hf hM va_S.rf hl)
def f_X8_account (c0 : Nat) (u1 : Int32) (m0 : gMem) : Option (Nat × Int32 × gMem) := if u1 = (0 : Int32) then (some (0, (m0 (c0 + 1) 0), m0)) else (if u1 = (1 : Int32) then (some (0, (m0 (c0 + 1) 1), m0)) else (if u1 = (2 : Int32) then (some (0, (m0 (c0 + 1) 8), m0)) else (if u1 = (3 : Int32) then (some (0, (m0 (c0 + 1) 6), m0)) else (if u1 = (4 : Int32) then (g1 (f_X2_busyTongs (c0 + 1) m0) (fun r14 m12 => some (0, r14, m12))) else (if u1 = (5 : Int32) then (some (0, (m0 (c0 + 1) 10), m0)) else (if u1 = (6 : Int32) then (some (0, (m0 (c0 + 1) 12), m0)) else (if u1 = (7 : Int32) then (some (0, (m0 (c0 + 1) 13), m0)) else (if u1 = (8 : Int32) then (g1 (f_X8_sumOf ((c0 + 1) + 3) m0) (fun r26 m24 => some (0, r26, m24))) else (if u1 = (9 : Int32) then (g1 (f_X8_sumOf ((c0 + 1) + 2) m0) (fun r32 m30 => some (0, r32, m30))) else (if u1 = (10 : Int32) then (g1 (f_X2_cubesInTowers (c0 + 1) m0) (fun r37 m35 => some (0, r37, m35))) else (if u1 = (11 : Int32) then (some (0, (m0 (c0 + 1) 15), m0)) else (if u1 = (12 : Int32) then (some (0, (m0 (c0 + 1) 16), m0)) else (if u1 = (13 : Int32) then (g1 (f_X2_coursesInTowers (c0 + 1) m0) (fun r46 m44 => some (0, r46, m44))) else (if u1 = (14 : Int32) then (some (0, (m0 (c0 + 1) 14), m0)) else (if u1 = (15 : Int32) then (some (0, (m0 (c0 + 388) 1), m0)) else (if u1 = (16 : Int32) then (some (0, (m0 (c0 + 106) 2), m0)) else (some (2, (0 : Int32), m0))))))))))))))))))
set_option maxRecDepth 100000 in
set_option maxHeartbeats 4000000 in
theorem b_X8_account {p : Program} {l : Launch} {e : Env} {R : Room} {s : State} {m : MethodId} {args : Array Value} {below : List Frame} {meth : Method} {c : Code} {H : Heap} {locs : List Loc} {ls : Array Slot} {X : gX} (E : gEn p s m args c cX8_account RX8 X) (hr : meth.sig.returnType = (some .int)) (hlocks : meth.locks = false) (hml : c.maxLocals = 2) (hl0 : l.stackTraces = false) (hout : ∀ x ∈ c.exceptionTable.toList, False) (hRf : 6 ≤ R.frames) (hRl : 105 ≤ R.locals) (hRc : 1 ≤ R.cells) (hRs : 6 ≤ R.slots) {c0 : Nat} {u1 : Int32} {m0 : gMem} {res : Nat × Int32 × gMem} (hk0 : gk c0 = 8) (hf : f_X8_account c0 u1 m0 = some res) (hM : gM X m0 H) (hS : va_S (gA X) s.heap H locs) (hl : lv_has ls 2 [(0, .ref (X.1 + c0)), (1, .int u1)]) : W p l e R s m args below meth c H locs 0 0 (vx_MQ below (gQTi X res) (gXC X res.1 res.2.2) args s 1 6 (gA X)) (F0 m 0 ls []) := by
  obtain ⟨hx, hb⟩ := (⟨E.1, E.2.1⟩ : _ ∧ _)
  unfold f_X8_account at hf
  refine lv_iload_n hx hb dX8_account_0 rfl (lv_at hl 1 rfl) ?_
  by_cases h2 : u1 = (0 : Int32)
  · have hf := g_t h2 hf
    refine lv_tableIn (tgt := 84) hx hb dX8_account_1 (by rw [h2]; decide) (by rw [h2]; decide) (by rw [h2]; rfl) (by decide) ?_
    refine lv_aload_n hx hb dX8_account_84 rfl (lv_at hl 0 rfl) ?_
    refine GX8_10 E hM hk0 dX8_account_85 ?_
    have hg3 : gk (c0 + 1) = 2 := gkf_8_0 hk0
    refine GX8_324 E hM hg3 dX8_account_88 ?_
    exact ge_Ti E hr hlocks hf hM hS (Nat.le_of_ble_eq_true rfl) (Nat.le_of_ble_eq_true rfl) dX8_account_91
  have hf := g_f h2 hf
  by_cases h4 : u1 = (1 : Int32)
  · have hf := g_t h4 hf
    refine lv_tableIn (tgt := 92) hx hb dX8_account_1 (by rw [h4]; decide) (by rw [h4]; decide) (by rw [h4]; rfl) (by decide) ?_
    refine lv_aload_n hx hb dX8_account_92 rfl (lv_at hl 0 rfl) ?_
    refine GX8_10 E hM hk0 dX8_account_93 ?_
    have hg5 : gk (c0 + 1) = 2 := gkf_8_0 hk0
    refine GX8_325 E hM hg5 dX8_account_96 ?_
    exact ge_Ti E hr hlocks hf hM hS (Nat.le_of_ble_eq_true rfl) (Nat.le_of_ble_eq_true rfl) dX8_account_99
  have hf := g_f h4 hf
  by_cases h6 : u1 = (2 : Int32)
  · have hf := g_t h6 hf
    refine lv_tableIn (tgt := 100) hx hb dX8_account_1 (by rw [h6]; decide) (by rw [h6]; decide) (by rw [h6]; rfl) (by decide) ?_
    refine lv_aload_n hx hb dX8_account_100 rfl (lv_at hl 0 rfl) ?_
    refine GX8_10 E hM hk0 dX8_account_101 ?_
    have hg7 : gk (c0 + 1) = 2 := gkf_8_0 hk0
    refine GX8_147 E hM hg7 dX8_account_104 ?_
    exact ge_Ti E hr hlocks hf hM hS (Nat.le_of_ble_eq_true rfl) (Nat.le_of_ble_eq_true rfl) dX8_account_107
  have hf := g_f h6 hf
  by_cases h8 : u1 = (3 : Int32)
  · have hf := g_t h8 hf
    refine lv_tableIn (tgt := 108) hx hb dX8_account_1 (by rw [h8]; decide) (by rw [h8]; decide) (by rw [h8]; rfl) (by decide) ?_
    refine lv_aload_n hx hb dX8_account_108 rfl (lv_at hl 0 rfl) ?_
    refine GX8_10 E hM hk0 dX8_account_109 ?_
    have hg9 : gk (c0 + 1) = 2 := gkf_8_0 hk0
    refine GX8_109 E hM hg9 dX8_account_112 ?_
    exact ge_Ti E hr hlocks hf hM hS (Nat.le_of_ble_eq_true rfl) (Nat.le_of_ble_eq_true rfl) dX8_account_115
  have hf := g_f h8 hf
  by_cases h10 : u1 = (4 : Int32)
  · have hf := g_t h10 hf
    refine lv_tableIn (tgt := 116) hx hb dX8_account_1 (by rw [h10]; decide) (by rw [h10]; decide) (by rw [h10]; rfl) (by decide) ?_
    refine lv_aload_n hx hb dX8_account_116 rfl (lv_at hl 0 rfl) ?_
    refine GX8_10 E hM hk0 dX8_account_117 ?_
    have hg11 : gk (c0 + 1) = 2 := gkf_8_0 hk0
    obtain ⟨r14, m12, hqq13, hf⟩ := g1_o hf
    refine ga_i (gr_V (As := []) (ci := 2) (rm := { frames := 0, cells := 0, slots := 0, locals := 0 }) E hml hl.1 (c_X2_busyTongs l X (c0 + 1) m0 hg11 hqq13) wt_X2_busyTongs wl_RX8_326 rfl hg11 (by decide) rfl rfl hM hS rfl rfl (Nat.le_trans (by decide) hRf) (Nat.le_trans (by decide) hRl) (Nat.le_trans (Nat.le_of_ble_eq_true rfl) hRc) (Nat.le_trans (Nat.le_of_ble_eq_true rfl) hRs) (Nat.le_of_ble_eq_true rfl) dX8_account_120 rfl) hS (fun H locs hM hS => ?_)
    exact ge_Ti E hr hlocks hf hM hS (Nat.le_of_ble_eq_true rfl) (Nat.le_of_ble_eq_true rfl) dX8_account_123
  have hf := g_f h10 hf
  by_cases h15 : u1 = (5 : Int32)
  · have hf := g_t h15 hf
    refine lv_tableIn (tgt := 124) hx hb dX8_account_1 (by rw [h15]; decide) (by rw [h15]; decide) (by rw [h15]; rfl) (by decide) ?_
    refine lv_aload_n hx hb dX8_account_124 rfl (lv_at hl 0 rfl) ?_
    refine GX8_10 E hM hk0 dX8_account_125 ?_
    have hg16 : gk (c0 + 1) = 2 := gkf_8_0 hk0
    refine GX8_255 E hM hg16 dX8_account_128 ?_
    exact ge_Ti E hr hlocks hf hM hS (Nat.le_of_ble_eq_true rfl) (Nat.le_of_ble_eq_true rfl) dX8_account_131
  have hf := g_f h15 hf
  by_cases h17 : u1 = (6 : Int32)
  · have hf := g_t h17 hf
    refine lv_tableIn (tgt := 132) hx hb dX8_account_1 (by rw [h17]; decide) (by rw [h17]; decide) (by rw [h17]; rfl) (by decide) ?_
    refine lv_aload_n hx hb dX8_account_132 rfl (lv_at hl 0 rfl) ?_
    refine GX8_10 E hM hk0 dX8_account_133 ?_
    have hg18 : gk (c0 + 1) = 2 := gkf_8_0 hk0
    refine GX8_329 E hM hg18 dX8_account_136 ?_
    exact ge_Ti E hr hlocks hf hM hS (Nat.le_of_ble_eq_true rfl) (Nat.le_of_ble_eq_true rfl) dX8_account_139
  have hf := g_f h17 hf
  by_cases h19 : u1 = (7 : Int32)
  · have hf := g_t h19 hf
    refine lv_tableIn (tgt := 140) hx hb dX8_account_1 (by rw [h19]; decide) (by rw [h19]; decide) (by rw [h19]; rfl) (by decide) ?_
    refine lv_aload_n hx hb dX8_account_140 rfl (lv_at hl 0 rfl) ?_
    refine GX8_10 E hM hk0 dX8_account_141 ?_
    have hg20 : gk (c0 + 1) = 2 := gkf_8_0 hk0
    refine GX8_332 E hM hg20 dX8_account_144 ?_
    exact ge_Ti E hr hlocks hf hM hS (Nat.le_of_ble_eq_true rfl) (Nat.le_of_ble_eq_true rfl) dX8_account_147
  have hf := g_f h19 hf
  by_cases h21 : u1 = (8 : Int32)
  · have hf := g_t h21 hf
    refine lv_tableIn (tgt := 148) hx hb dX8_account_1 (by rw [h21]; decide) (by rw [h21]; decide) (by rw [h21]; rfl) (by decide) ?_
    refine lv_aload_n hx hb dX8_account_148 rfl (lv_at hl 0 rfl) ?_
    refine GX8_10 E hM hk0 dX8_account_149 ?_
    have hg22 : gk (c0 + 1) = 2 := gkf_8_0 hk0
    refine GX8_335 E hM hg22 dX8_account_152 ?_
    have hg23 : gk ((c0 + 1) + 3) = 20 := gkf_2_4 hg22
    obtain ⟨r26, m24, hqq25, hf⟩ := g1_o hf
    refine ga_i (gr_S (As := [.ref (X.1 + ((c0 + 1) + 3))]) (rm := { frames := 0, cells := 0, slots := 0, locals := 0 }) E hml hl.1 (c_X8_sumOf l X ((c0 + 1) + 3) m0 hg23 hqq25) wt_X8_sumOf wl_RX8_339 rfl hM hS rfl rfl (Nat.le_trans (by decide) hRf) (Nat.le_trans (by decide) hRl) (Nat.le_trans (Nat.le_of_ble_eq_true rfl) hRc) (Nat.le_trans (Nat.le_of_ble_eq_true rfl) hRs) (Nat.le_of_ble_eq_true rfl) dX8_account_155 rfl) hS (fun H locs hM hS => ?_)
    exact ge_Ti E hr hlocks hf hM hS (Nat.le_of_ble_eq_true rfl) (Nat.le_of_ble_eq_true rfl) dX8_account_158
  have hf := g_f h21 hf
  by_cases h27 : u1 = (9 : Int32)
  · have hf := g_t h27 hf
    refine lv_tableIn (tgt := 159) hx hb dX8_account_1 (by rw [h27]; decide) (by rw [h27]; decide) (by rw [h27]; rfl) (by decide) ?_
    refine lv_aload_n hx hb dX8_account_159 rfl (lv_at hl 0 rfl) ?_
    refine GX8_10 E hM hk0 dX8_account_160 ?_
    have hg28 : gk (c0 + 1) = 2 := gkf_8_0 hk0
    refine GX8_343 E hM hg28 dX8_account_163 ?_
    have hg29 : gk ((c0 + 1) + 2) = 20 := gkf_2_3 hg28
    obtain ⟨r32, m30, hqq31, hf⟩ := g1_o hf
    refine ga_i (gr_S (As := [.ref (X.1 + ((c0 + 1) + 2))]) (rm := { frames := 0, cells := 0, slots := 0, locals := 0 }) E hml hl.1 (c_X8_sumOf l X ((c0 + 1) + 2) m0 hg29 hqq31) wt_X8_sumOf wl_RX8_339 rfl hM hS rfl rfl (Nat.le_trans (by decide) hRf) (Nat.le_trans (by decide) hRl) (Nat.le_trans (Nat.le_of_ble_eq_true rfl) hRc) (Nat.le_trans (Nat.le_of_ble_eq_true rfl) hRs) (Nat.le_of_ble_eq_true rfl) dX8_account_166 rfl) hS (fun H locs hM hS => ?_)
    exact ge_Ti E hr hlocks hf hM hS (Nat.le_of_ble_eq_true rfl) (Nat.le_of_ble_eq_true rfl) dX8_account_169
  have hf := g_f h27 hf
  by_cases h33 : u1 = (10 : Int32)
  · have hf := g_t h33 hf
    refine lv_tableIn (tgt := 170) hx hb dX8_account_1 (by rw [h33]; decide) (by rw [h33]; decide) (by rw [h33]; rfl) (by decide) ?_
    refine lv_aload_n hx hb dX8_account_170 rfl (lv_at hl 0 rfl) ?_
    refine GX8_10 E hM hk0 dX8_account_171 ?_
    have hg34 : gk (c0 + 1) = 2 := gkf_8_0 hk0
    obtain ⟨r37, m35, hqq36, hf⟩ := g1_o hf
    refine ga_i (gr_V (As := []) (ci := 2) (rm := { frames := 2, cells := 0, slots := 0, locals := 83 }) E hml hl.1 (c_X2_cubesInTowers l X (c0 + 1) m0 hg34 hqq36) wt_X2_cubesInTowers wl_RX8_346 rfl hg34 (by decide) rfl rfl hM hS rfl rfl (Nat.le_trans (by decide) hRf) (Nat.le_trans (by decide) hRl) (Nat.le_trans (Nat.le_of_ble_eq_true rfl) hRc) (Nat.le_trans (Nat.le_of_ble_eq_true rfl) hRs) (Nat.le_of_ble_eq_true rfl) dX8_account_174 rfl) hS (fun H locs hM hS => ?_)
    exact ge_Ti E hr hlocks hf hM hS (Nat.le_of_ble_eq_true rfl) (Nat.le_of_ble_eq_true rfl) dX8_account_177
  have hf := g_f h33 hf
  by_cases h38 : u1 = (11 : Int32)
  · have hf := g_t h38 hf
    refine lv_tableIn (tgt := 178) hx hb dX8_account_1 (by rw [h38]; decide) (by rw [h38]; decide) (by rw [h38]; rfl) (by decide) ?_
    refine lv_aload_n hx hb dX8_account_178 rfl (lv_at hl 0 rfl) ?_
    refine GX8_10 E hM hk0 dX8_account_179 ?_
    have hg39 : gk (c0 + 1) = 2 := gkf_8_0 hk0
    refine GX8_349 E hM hg39 dX8_account_182 ?_
    exact ge_Ti E hr hlocks hf hM hS (Nat.le_of_ble_eq_true rfl) (Nat.le_of_ble_eq_true rfl) dX8_account_185
  have hf := g_f h38 hf
  by_cases h40 : u1 = (12 : Int32)
  · have hf := g_t h40 hf
    refine lv_tableIn (tgt := 186) hx hb dX8_account_1 (by rw [h40]; decide) (by rw [h40]; decide) (by rw [h40]; rfl) (by decide) ?_
    refine lv_aload_n hx hb dX8_account_186 rfl (lv_at hl 0 rfl) ?_
    refine GX8_10 E hM hk0 dX8_account_187 ?_
    have hg41 : gk (c0 + 1) = 2 := gkf_8_0 hk0
    refine GX8_352 E hM hg41 dX8_account_190 ?_
    exact ge_Ti E hr hlocks hf hM hS (Nat.le_of_ble_eq_true rfl) (Nat.le_of_ble_eq_true rfl) dX8_account_193
  have hf := g_f h40 hf
  by_cases h42 : u1 = (13 : Int32)
  · have hf := g_t h42 hf
    refine lv_tableIn (tgt := 194) hx hb dX8_account_1 (by rw [h42]; decide) (by rw [h42]; decide) (by rw [h42]; rfl) (by decide) ?_
    refine lv_aload_n hx hb dX8_account_194 rfl (lv_at hl 0 rfl) ?_
    refine GX8_10 E hM hk0 dX8_account_195 ?_
    have hg43 : gk (c0 + 1) = 2 := gkf_8_0 hk0
    obtain ⟨r46, m44, hqq45, hf⟩ := g1_o hf
    refine ga_i (gr_V (As := []) (ci := 2) (rm := { frames := 0, cells := 0, slots := 0, locals := 0 }) E hml hl.1 (c_X2_coursesInTowers l X (c0 + 1) m0 hg43 hqq45) wt_X2_coursesInTowers wl_RX8_355 rfl hg43 (by decide) rfl rfl hM hS rfl rfl (Nat.le_trans (by decide) hRf) (Nat.le_trans (by decide) hRl) (Nat.le_trans (Nat.le_of_ble_eq_true rfl) hRc) (Nat.le_trans (Nat.le_of_ble_eq_true rfl) hRs) (Nat.le_of_ble_eq_true rfl) dX8_account_198 rfl) hS (fun H locs hM hS => ?_)
    exact ge_Ti E hr hlocks hf hM hS (Nat.le_of_ble_eq_true rfl) (Nat.le_of_ble_eq_true rfl) dX8_account_201
  have hf := g_f h42 hf
  by_cases h47 : u1 = (14 : Int32)
  · have hf := g_t h47 hf
    refine lv_tableIn (tgt := 202) hx hb dX8_account_1 (by rw [h47]; decide) (by rw [h47]; decide) (by rw [h47]; rfl) (by decide) ?_
    refine lv_aload_n hx hb dX8_account_202 rfl (lv_at hl 0 rfl) ?_
    refine GX8_10 E hM hk0 dX8_account_203 ?_
    have hg48 : gk (c0 + 1) = 2 := gkf_8_0 hk0
    refine GX8_358 E hM hg48 dX8_account_206 ?_
    exact ge_Ti E hr hlocks hf hM hS (Nat.le_of_ble_eq_true rfl) (Nat.le_of_ble_eq_true rfl) dX8_account_209
  have hf := g_f h47 hf
  by_cases h49 : u1 = (15 : Int32)
  · have hf := g_t h49 hf
    refine lv_tableIn (tgt := 210) hx hb dX8_account_1 (by rw [h49]; decide) (by rw [h49]; decide) (by rw [h49]; rfl) (by decide) ?_
    refine lv_aload_n hx hb dX8_account_210 rfl (lv_at hl 0 rfl) ?_
    refine GX8_32 E hM hk0 dX8_account_211 ?_
    have hg50 : gk (c0 + 388) = 5 := gkf_8_5 hk0
    refine GX8_281 E hM hg50 dX8_account_214 ?_
    exact ge_Ti E hr hlocks hf hM hS (Nat.le_of_ble_eq_true rfl) (Nat.le_of_ble_eq_true rfl) dX8_account_217
  have hf := g_f h49 hf
  by_cases h51 : u1 = (16 : Int32)
  · have hf := g_t h51 hf
    refine lv_tableIn (tgt := 218) hx hb dX8_account_1 (by rw [h51]; decide) (by rw [h51]; decide) (by rw [h51]; rfl) (by decide) ?_
    refine lv_aload_n hx hb dX8_account_218 rfl (lv_at hl 0 rfl) ?_
    refine GX8_25 E hM hk0 dX8_account_219 ?_
    have hg52 : gk (c0 + 106) = 1 := gkf_8_4 hk0
    refine GX8_361 E hM hg52 dX8_account_222 ?_
    exact ge_Ti E hr hlocks hf hM hS (Nat.le_of_ble_eq_true rfl) (Nat.le_of_ble_eq_true rfl) dX8_account_225
  have hf := g_f h51 hf
  have ah2 := g_tn (z := 0) h2 rfl
  have ah4 := g_tn (z := 1) h4 rfl
  have ah6 := g_tn (z := 2) h6 rfl
  have ah8 := g_tn (z := 3) h8 rfl
  have ah10 := g_tn (z := 4) h10 rfl
  have ah15 := g_tn (z := 5) h15 rfl
  have ah17 := g_tn (z := 6) h17 rfl
  have ah19 := g_tn (z := 7) h19 rfl
  have ah21 := g_tn (z := 8) h21 rfl
  have ah27 := g_tn (z := 9) h27 rfl
  have ah33 := g_tn (z := 10) h33 rfl
  have ah38 := g_tn (z := 11) h38 rfl
  have ah40 := g_tn (z := 12) h40 rfl
  have ah42 := g_tn (z := 13) h42 rfl
  have ah47 := g_tn (z := 14) h47 rfl
  have ah49 := g_tn (z := 15) h49 rfl
  have ah51 := g_tn (z := 16) h51 rfl
  refine lv_tableOut (tgt := 226) hx hb dX8_account_1 (by omega) (by decide) ?_
  exact gth_2w (text := "no such account") E hl0 hout hlocks (hl.1.trans hml.symm) (by decide) hf hM hS (by decide) (Nat.le_trans (by decide) hRf) (Nat.le_trans (Nat.le_of_ble_eq_true rfl) hRl) (Nat.le_trans (Nat.le_of_ble_eq_true rfl) hRc) (Nat.le_trans (Nat.le_of_ble_eq_true rfl) hRs) (Nat.le_of_ble_eq_true rfl) (Nat.le_of_ble_eq_true rfl) dX8_account_226 dX8_account_229 dX8_account_230 dX8_account_233 dX8_account_236
theorem c_X8_account (l : Launch) (X : gX) (hl0 : l.stackTraces = false) (c0 : Nat) (u1 : Int32) (m0 : gMem) {res : Nat × Int32 × gMem} (hk0 : gk c0 = 8) (hf : f_X8_account c0 u1 m0 = some res) : vx_Met l yX8_account (gWs yX8_account cX8_account 2 (some .int)) { frames := 6, cells := 1, slots := 6, locals := 105 } (va_Pc [.ref (X.1 + c0), .int u1] (gB X m0)) (gQTi X res) (gXC X res.1 res.2.2) 1 6 (gA X) :=
  gMetX (own := RX8) (by decide +kernel) rfl (Nat.le_of_ble_eq_true rfl) (fun p e s m args below meth c ls E hr hlocks hml hout hM hl => b_X8_account E hr hlocks hml hl0 hout (Nat.le_refl _) (Nat.le_refl _) (Nat.le_refl _) (Nat.le_refl _) hk0 hf hM va_S.rf hl)
def f_X8_undo (c0 : Nat) (m0 : gMem) : Option (Nat × Int32 × gMem) := if (m0 (c0 + 106) 2) = (0 : Int32) then (some (5, (0 : Int32), m0)) else (g1 (f_X1_giveBackTo (c0 + 106) (c0 + 1) m0) (fun r6 m4 => some (0, (m4 (c0 + 106) 2), m4)))
set_option maxRecDepth 100000 in
set_option maxHeartbeats 4000000 in
theorem b_X8_undo {p : Program} {l : Launch} {e : Env} {R : Room} {s : State} {m : MethodId} {args : Array Value} {below : List Frame} {meth : Method} {c : Code} {H : Heap} {locs : List Loc} {ls : Array Slot} {X : gX} (E : gEn p s m args c cX8_undo RX8 X) (hr : meth.sig.returnType = (some .int)) (hlocks : meth.locks = false) (hml : c.maxLocals = 1) (hl0 : l.stackTraces = false) (hout : ∀ x ∈ c.exceptionTable.toList, False) (hRf : 6 ≤ R.frames) (hRl : 124 ≤ R.locals) (hRc : 1 ≤ R.cells) (hRs : 6 ≤ R.slots) {c0 : Nat} {m0 : gMem} {res : Nat × Int32 × gMem} (hk0 : gk c0 = 8) (hf : f_X8_undo c0 m0 = some res) (hM : gM X m0 H) (hS : va_S (gA X) s.heap H locs) (hl : lv_has ls 1 [(0, .ref (X.1 + c0))]) : W p l e R s m args below meth c H locs 0 0 (vx_MQ below (gQTi X res) (gXC X res.1 res.2.2) args s 1 6 (gA X)) (F0 m 0 ls []) := by
  obtain ⟨hx, hb⟩ := (⟨E.1, E.2.1⟩ : _ ∧ _)
  unfold f_X8_undo at hf
  refine lv_aload_n hx hb dX8_undo_0 rfl (lv_at hl 0 rfl) ?_
  refine GX8_25 E hM hk0 dX8_undo_1 ?_
  have hg1 : gk (c0 + 106) = 1 := gkf_8_4 hk0
  refine GX8_361 E hM hg1 dX8_undo_4 ?_
  refine lv_if_ne (tgt := 21) hx hb dX8_undo_7 (by decide) (fun h2 => ?_) (fun h2 => ?_)
  · have hf := g_f h2 hf
    refine lv_aload_n hx hb dX8_undo_21 rfl (lv_at hl 0 rfl) ?_
    refine GX8_25 E hM hk0 dX8_undo_22 ?_
    refine lv_aload_n hx hb dX8_undo_25 rfl (lv_at hl 0 rfl) ?_
    refine GX8_10 E hM hk0 dX8_undo_26 ?_
    have hg3 : gk (c0 + 1) = 2 := gkf_8_0 hk0
    obtain ⟨r6, m4, hqq5, hf⟩ := g1_o hf
    refine ga_v (gr_V (As := [.ref (X.1 + (c0 + 1))]) (ci := 1) (rm := { frames := 3, cells := 0, slots := 0, locals := 103 }) E hml hl.1 (c_X1_giveBackTo l X (c0 + 106) (c0 + 1) m0 hg1 hg3 hqq5) wt_X1_giveBackTo wl_RX8_388 rfl hg1 (by decide) rfl rfl hM hS rfl rfl (Nat.le_trans (by decide) hRf) (Nat.le_trans (by decide) hRl) (Nat.le_trans (Nat.le_of_ble_eq_true rfl) hRc) (Nat.le_trans (Nat.le_of_ble_eq_true rfl) hRs) (Nat.le_of_ble_eq_true rfl) dX8_undo_29 rfl) hS (fun H locs hM hS => ?_)
    refine lv_aload_n hx hb dX8_undo_32 rfl (lv_at hl 0 rfl) ?_
    refine GX8_25 E hM hk0 dX8_undo_33 ?_
    refine GX8_361 E hM hg1 dX8_undo_36 ?_
    exact ge_Ti E hr hlocks hf hM hS (Nat.le_of_ble_eq_true rfl) (Nat.le_of_ble_eq_true rfl) dX8_undo_39
  · have hf := g_t h2 hf
    exact gth_5w (text := "no change can be undone") E hl0 hout hlocks (hl.1.trans hml.symm) (by decide) hf hM hS (by decide) (Nat.le_trans (by decide) hRf) (Nat.le_trans (Nat.le_of_ble_eq_true rfl) hRl) (Nat.le_trans (Nat.le_of_ble_eq_true rfl) hRc) (Nat.le_trans (Nat.le_of_ble_eq_true rfl) hRs) (Nat.le_of_ble_eq_true rfl) (Nat.le_of_ble_eq_true rfl) dX8_undo_10 dX8_undo_13 dX8_undo_14 dX8_undo_17 dX8_undo_20
theorem c_X8_undo (l : Launch) (X : gX) (hl0 : l.stackTraces = false) (c0 : Nat) (m0 : gMem) {res : Nat × Int32 × gMem} (hk0 : gk c0 = 8) (hf : f_X8_undo c0 m0 = some res) : vx_Met l yX8_undo (gWs yX8_undo cX8_undo 1 (some .int)) { frames := 6, cells := 1, slots := 6, locals := 124 } (va_Pc [.ref (X.1 + c0)] (gB X m0)) (gQTi X res) (gXC X res.1 res.2.2) 1 6 (gA X) :=
  gMetX (own := RX8) (by decide +kernel) rfl (Nat.le_of_ble_eq_true rfl) (fun p e s m args below meth c ls E hr hlocks hml hout hM hl => b_X8_undo E hr hlocks hml hl0 hout (Nat.le_refl _) (Nat.le_refl _) (Nat.le_refl _) (Nat.le_refl _) hk0 hf hM va_S.rf hl)
def f_X8_save (c0 : Nat) (m0 : gMem) : Option (Int32 × gMem) := g1 (f_X2_copyFrom (c0 + 71) (c0 + 1) m0) (fun r5 m3 => gv (ms m3 c0 3 (1 : Int32)) (fun m6 => some ((m6 (c0 + 71) 8), m6)))
set_option maxRecDepth 100000 in
set_option maxHeartbeats 4000000 in
theorem b_X8_save {p : Program} {l : Launch} {e : Env} {R : Room} {s : State} {m : MethodId} {args : Array Value} {below : List Frame} {meth : Method} {c : Code} {H : Heap} {locs : List Loc} {ls : Array Slot} {X : gX} (E : gEn p s m args c cX8_save RX8 X) (hr : meth.sig.returnType = (some .int)) (hlocks : meth.locks = false) (hml : c.maxLocals = 1) (hRf : 3 ≤ R.frames) (hRl : 103 ≤ R.locals) (hRc : 0 ≤ R.cells) (hRs : 0 ≤ R.slots) {c0 : Nat} {m0 : gMem} {res : Int32 × gMem} (hk0 : gk c0 = 8) (hf : f_X8_save c0 m0 = some res) (hM : gM X m0 H) (hS : va_S (gA X) s.heap H locs) (hl : lv_has ls 1 [(0, .ref (X.1 + c0))]) : W p l e R s m args below meth c H locs 0 0 (MQ below (gQi X res) args s 0 0 (gA X)) (F0 m 0 ls []) := by
  obtain ⟨hx, hb⟩ := (⟨E.1, E.2.1⟩ : _ ∧ _)
  unfold f_X8_save at hf
  refine lv_aload_n hx hb dX8_save_0 rfl (lv_at hl 0 rfl) ?_
  refine GX8_19 E hM hk0 dX8_save_1 ?_
  have hg1 : gk (c0 + 71) = 2 := gkf_8_2 hk0
  refine lv_aload_n hx hb dX8_save_4 rfl (lv_at hl 0 rfl) ?_
  refine GX8_10 E hM hk0 dX8_save_5 ?_
  have hg2 : gk (c0 + 1) = 2 := gkf_8_0 hk0
  obtain ⟨r5, m3, hqq4, hf⟩ := g1_o hf
  refine ga_v (gr_V (As := [.ref (X.1 + (c0 + 1))]) (ci := 2) (rm := { frames := 2, cells := 0, slots := 0, locals := 81 }) E hml hl.1 (c_X2_copyFrom l X (c0 + 71) (c0 + 1) m0 hg1 hg2 hqq4) wt_X2_copyFrom wl_RX8_298 rfl hg1 (by decide) rfl rfl hM hS rfl rfl (Nat.le_trans (by decide) hRf) (Nat.le_trans (by decide) hRl) (Nat.le_trans (Nat.le_of_ble_eq_true rfl) hRc) (Nat.le_trans (Nat.le_of_ble_eq_true rfl) hRs) (Nat.le_of_ble_eq_true rfl) dX8_save_8 rfl) hS (fun H locs hM hS => ?_)
  refine lv_aload_n hx hb dX8_save_11 rfl (lv_at hl 0 rfl) ?_
  refine lv_iconst (v := (1 : Int32)) hx hb dX8_save_12 (by decide) ?_
  obtain ⟨m6, em6, hf⟩ := gv_o hf
  refine PX8_391 E hM hS hk0 (Or.inr rfl) em6 dX8_save_13 (fun H locs hM hS => ?_)
  refine lv_aload_n hx hb dX8_save_16 rfl (lv_at hl 0 rfl) ?_
  refine GX8_19 E hM hk0 dX8_save_17 ?_
  refine GX8_147 E hM hg1 dX8_save_20 ?_
  exact ge_i E hr hlocks hf hM hS (Nat.le_of_ble_eq_true rfl) (Nat.le_of_ble_eq_true rfl) dX8_save_23
theorem c_X8_save (l : Launch) (X : gX) (c0 : Nat) (m0 : gMem) {res : Int32 × gMem} (hk0 : gk c0 = 8) (hf : f_X8_save c0 m0 = some res) : Met l yX8_save (gWs yX8_save cX8_save 1 (some .int)) { frames := 3, cells := 0, slots := 0, locals := 103 } (va_Pc [.ref (X.1 + c0)] (gB X m0)) (gQi X res) 0 0 (gA X) :=
  gMet (own := RX8) (by decide +kernel) rfl (Nat.le_of_ble_eq_true rfl) (fun p e s m args below meth c ls E hr hlocks hml hM hl => b_X8_save E hr hlocks hml (Nat.le_refl _) (Nat.le_refl _) (Nat.le_refl _) (Nat.le_refl _) hk0 hf hM va_S.rf hl)
def f_X8_restore (c0 : Nat) (m0 : gMem) : Option (Nat × Int32 × gMem) := if (m0 c0 3) = (0 : Int32) then (some (5, (0 : Int32), m0)) else (g1 (f_X2_copyFrom (c0 + 1) (c0 + 71) m0) (fun r6 m4 => gv (ms m4 (c0 + 106) 2 (0 : Int32)) (fun m8 => some (0, (m8 (c0 + 1) 8), m8))))
set_option maxRecDepth 100000 in
set_option maxHeartbeats 4000000 in
theorem b_X8_restore {p : Program} {l : Launch} {e : Env} {R : Room} {s : State} {m : MethodId} {args : Array Value} {below : List Frame} {meth : Method} {c : Code} {H : Heap} {locs : List Loc} {ls : Array Slot} {X : gX} (E : gEn p s m args c cX8_restore RX8 X) (hr : meth.sig.returnType = (some .int)) (hlocks : meth.locks = false) (hml : c.maxLocals = 1) (hl0 : l.stackTraces = false) (hout : ∀ x ∈ c.exceptionTable.toList, False) (hRf : 6 ≤ R.frames) (hRl : 103 ≤ R.locals) (hRc : 1 ≤ R.cells) (hRs : 6 ≤ R.slots) {c0 : Nat} {m0 : gMem} {res : Nat × Int32 × gMem} (hk0 : gk c0 = 8) (hf : f_X8_restore c0 m0 = some res) (hM : gM X m0 H) (hS : va_S (gA X) s.heap H locs) (hl : lv_has ls 1 [(0, .ref (X.1 + c0))]) : W p l e R s m args below meth c H locs 0 0 (vx_MQ below (gQTi X res) (gXC X res.1 res.2.2) args s 1 6 (gA X)) (F0 m 0 ls []) := by
  obtain ⟨hx, hb⟩ := (⟨E.1, E.2.1⟩ : _ ∧ _)
  unfold f_X8_restore at hf
  refine lv_aload_n hx hb dX8_restore_0 rfl (lv_at hl 0 rfl) ?_
  refine GX8_391 E hM hk0 dX8_restore_1 ?_
  refine lv_if_ne (tgt := 18) hx hb dX8_restore_4 (by decide) (fun h1 => ?_) (fun h1 => ?_)
  · have hf := g_f h1 hf
    refine lv_aload_n hx hb dX8_restore_18 rfl (lv_at hl 0 rfl) ?_
    refine GX8_10 E hM hk0 dX8_restore_19 ?_
    have hg2 : gk (c0 + 1) = 2 := gkf_8_0 hk0
    refine lv_aload_n hx hb dX8_restore_22 rfl (lv_at hl 0 rfl) ?_
    refine GX8_19 E hM hk0 dX8_restore_23 ?_
    have hg3 : gk (c0 + 71) = 2 := gkf_8_2 hk0
    obtain ⟨r6, m4, hqq5, hf⟩ := g1_o hf
    refine ga_v (gr_V (As := [.ref (X.1 + (c0 + 71))]) (ci := 2) (rm := { frames := 2, cells := 0, slots := 0, locals := 81 }) E hml hl.1 (c_X2_copyFrom l X (c0 + 1) (c0 + 71) m0 hg2 hg3 hqq5) wt_X2_copyFrom wl_RX8_298 rfl hg2 (by decide) rfl rfl hM hS rfl rfl (Nat.le_trans (by decide) hRf) (Nat.le_trans (by decide) hRl) (Nat.le_trans (Nat.le_of_ble_eq_true rfl) hRc) (Nat.le_trans (Nat.le_of_ble_eq_true rfl) hRs) (Nat.le_of_ble_eq_true rfl) dX8_restore_26 rfl) hS (fun H locs hM hS => ?_)
    refine lv_aload_n hx hb dX8_restore_29 rfl (lv_at hl 0 rfl) ?_
    refine GX8_25 E hM hk0 dX8_restore_30 ?_
    have hg7 : gk (c0 + 106) = 1 := gkf_8_4 hk0
    refine lv_iconst (v := (0 : Int32)) hx hb dX8_restore_33 (by decide) ?_
    obtain ⟨m8, em8, hf⟩ := gv_o hf
    refine PX8_361 E hM hS hg7 em8 dX8_restore_34 (fun H locs hM hS => ?_)
    refine lv_aload_n hx hb dX8_restore_37 rfl (lv_at hl 0 rfl) ?_
    refine GX8_10 E hM hk0 dX8_restore_38 ?_
    refine GX8_147 E hM hg2 dX8_restore_41 ?_
    exact ge_Ti E hr hlocks hf hM hS (Nat.le_of_ble_eq_true rfl) (Nat.le_of_ble_eq_true rfl) dX8_restore_44
  · have hf := g_t h1 hf
    exact gth_5w (text := "there is no snapshot") E hl0 hout hlocks (hl.1.trans hml.symm) (by decide) hf hM hS (by decide) (Nat.le_trans (by decide) hRf) (Nat.le_trans (Nat.le_of_ble_eq_true rfl) hRl) (Nat.le_trans (Nat.le_of_ble_eq_true rfl) hRc) (Nat.le_trans (Nat.le_of_ble_eq_true rfl) hRs) (Nat.le_of_ble_eq_true rfl) (Nat.le_of_ble_eq_true rfl) dX8_restore_7 dX8_restore_10 dX8_restore_11 dX8_restore_14 dX8_restore_17
theorem c_X8_restore (l : Launch) (X : gX) (hl0 : l.stackTraces = false) (c0 : Nat) (m0 : gMem) {res : Nat × Int32 × gMem} (hk0 : gk c0 = 8) (hf : f_X8_restore c0 m0 = some res) : vx_Met l yX8_restore (gWs yX8_restore cX8_restore 1 (some .int)) { frames := 6, cells := 1, slots := 6, locals := 103 } (va_Pc [.ref (X.1 + c0)] (gB X m0)) (gQTi X res) (gXC X res.1 res.2.2) 1 6 (gA X) :=
  gMetX (own := RX8) (by decide +kernel) rfl (Nat.le_of_ble_eq_true rfl) (fun p e s m args below meth c ls E hr hlocks hml hout hM hl => b_X8_restore E hr hlocks hml hl0 hout (Nat.le_refl _) (Nat.le_refl _) (Nat.le_refl _) (Nat.le_refl _) hk0 hf hM va_S.rf hl)
