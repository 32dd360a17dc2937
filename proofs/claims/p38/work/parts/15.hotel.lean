def f_X8_isBetween (u0 : Int32) (u1 : Int32) (u2 : Int32) (m0 : gMem) : Option (Int32 × gMem) := if u1 < u0 then (some ((0 : Int32), m0)) else (if u2 < u1 then (some ((0 : Int32), m0)) else (some ((1 : Int32), m0)))
set_option maxRecDepth 100000 in
set_option maxHeartbeats 4000000 in
theorem b_X8_isBetween {p : Program} {l : Launch} {e : Env} {R : Room} {s : State} {m : MethodId} {args : Array Value} {below : List Frame} {meth : Method} {c : Code} {H : Heap} {locs : List Loc} {ls : Array Slot} {X : gX} (E : gEn p s m args c cX8_isBetween RX8 X) (hr : meth.sig.returnType = (some .boolean)) (hlocks : meth.locks = false) (hml : c.maxLocals = 3) (hRf : 0 ≤ R.frames) (hRl : 0 ≤ R.locals) (hRc : 0 ≤ R.cells) (hRs : 0 ≤ R.slots) {u0 : Int32} {u1 : Int32} {u2 : Int32} {m0 : gMem} {res : Int32 × gMem}  (hf : f_X8_isBetween u0 u1 u2 m0 = some res) (hM : gM X m0 H) (hS : va_S (gA X) s.heap H locs) (hl : lv_has ls 3 [(0, .int u0), (1, .int u1), (2, .int u2)]) : W p l e R s m args below meth c H locs 0 0 (MQ below (gQi X res) args s 0 0 (gA X)) (F0 m 0 ls []) := by
  obtain ⟨hx, hb⟩ := (⟨E.1, E.2.1⟩ : _ ∧ _)
  unfold f_X8_isBetween at hf
  refine lv_iload_n hx hb dX8_isBetween_0 rfl (lv_at hl 1 rfl) ?_
  refine lv_iload_n hx hb dX8_isBetween_1 rfl (lv_at hl 0 rfl) ?_
  refine lv_icmp_lt (tgt := 14) hx hb dX8_isBetween_2 (by decide) (fun h1 => ?_) (fun h1 => ?_)
  · have hf := g_t h1 hf
    refine lv_iconst (v := (0 : Int32)) hx hb dX8_isBetween_14 (by decide) ?_
    exact ge_z E hr rfl hlocks hf hM hS (Nat.le_of_ble_eq_true rfl) (Nat.le_of_ble_eq_true rfl) dX8_isBetween_15
  · have hf := g_f h1 hf
    refine lv_iload_n hx hb dX8_isBetween_5 rfl (lv_at hl 1 rfl) ?_
    refine lv_iload_n hx hb dX8_isBetween_6 rfl (lv_at hl 2 rfl) ?_
    refine lv_icmp_gt (tgt := 14) hx hb dX8_isBetween_7 (by decide) (fun h2 => ?_) (fun h2 => ?_)
    · have hf := g_t h2 hf
      refine lv_iconst (v := (0 : Int32)) hx hb dX8_isBetween_14 (by decide) ?_
      exact ge_z E hr rfl hlocks hf hM hS (Nat.le_of_ble_eq_true rfl) (Nat.le_of_ble_eq_true rfl) dX8_isBetween_15
    · have hf := g_f h2 hf
      refine lv_iconst (v := (1 : Int32)) hx hb dX8_isBetween_10 (by decide) ?_
      refine lv_goto (tgt := 15) hx hb dX8_isBetween_11 (by decide) ?_
      exact ge_z E hr rfl hlocks hf hM hS (Nat.le_of_ble_eq_true rfl) (Nat.le_of_ble_eq_true rfl) dX8_isBetween_15
theorem c_X8_isBetween (l : Launch) (X : gX) (u0 : Int32) (u1 : Int32) (u2 : Int32) (m0 : gMem) {res : Int32 × gMem}  (hf : f_X8_isBetween u0 u1 u2 m0 = some res) : Met l yX8_isBetween (gWs yX8_isBetween cX8_isBetween 3 (some .boolean)) { frames := 0, cells := 0, slots := 0, locals := 0 } (va_Pc [.int u0, .int u1, .int u2] (gB X m0)) (gQi X res) 0 0 (gA X) :=
  gMet (own := RX8) (by decide +kernel) rfl (Nat.le_of_ble_eq_true rfl) (fun p e s m args below meth c ls E hr hlocks hml hM hl => b_X8_isBetween E hr hlocks hml (Nat.le_refl _) (Nat.le_refl _) (Nat.le_refl _) (Nat.le_refl _)  hf hM va_S.rf hl)
def f_X6_copyFrom (c0 : Nat) (c1 : Nat) (m0 : gMem) : Option (Unit × gMem) := gv (ms m0 c0 0 (m0 c1 0)) (fun m1 => gv (ms m1 c0 1 (m1 c1 1)) (fun m2 => gv (ms m2 c0 2 (m2 c1 2)) (fun m3 => some ((), m3))))
set_option maxRecDepth 100000 in
set_option maxHeartbeats 4000000 in
theorem b_X6_copyFrom {p : Program} {l : Launch} {e : Env} {R : Room} {s : State} {m : MethodId} {args : Array Value} {below : List Frame} {meth : Method} {c : Code} {H : Heap} {locs : List Loc} {ls : Array Slot} {X : gX} (E : gEn p s m args c cX6_copyFrom RX6 X) (hr : meth.sig.returnType = none) (hlocks : meth.locks = false) (hml : c.maxLocals = 2) (hRf : 0 ≤ R.frames) (hRl : 0 ≤ R.locals) (hRc : 0 ≤ R.cells) (hRs : 0 ≤ R.slots) {c0 : Nat} {c1 : Nat} {m0 : gMem} {res : Unit × gMem} (hk0 : gk c0 = 6) (hk1 : gk c1 = 6) (hf : f_X6_copyFrom c0 c1 m0 = some res) (hM : gM X m0 H) (hS : va_S (gA X) s.heap H locs) (hl : lv_has ls 2 [(0, .ref (X.1 + c0)), (1, .ref (X.1 + c1))]) : W p l e R s m args below meth c H locs 0 0 (MQ below (gQv X res) args s 0 0 (gA X)) (F0 m 0 ls []) := by
  obtain ⟨hx, hb⟩ := (⟨E.1, E.2.1⟩ : _ ∧ _)
  unfold f_X6_copyFrom at hf
  refine lv_aload_n hx hb dX6_copyFrom_0 rfl (lv_at hl 0 rfl) ?_
  refine lv_aload_n hx hb dX6_copyFrom_1 rfl (lv_at hl 1 rfl) ?_
  refine GX6_7 E hM hk1 dX6_copyFrom_2 ?_
  obtain ⟨m1, em1, hf⟩ := gv_o hf
  refine PX6_7 E hM hS hk0 em1 dX6_copyFrom_5 (fun H locs hM hS => ?_)
  refine lv_aload_n hx hb dX6_copyFrom_8 rfl (lv_at hl 0 rfl) ?_
  refine lv_aload_n hx hb dX6_copyFrom_9 rfl (lv_at hl 1 rfl) ?_
  refine GX6_13 E hM hk1 dX6_copyFrom_10 ?_
  obtain ⟨m2, em2, hf⟩ := gv_o hf
  refine PX6_13 E hM hS hk0 em2 dX6_copyFrom_13 (fun H locs hM hS => ?_)
  refine lv_aload_n hx hb dX6_copyFrom_16 rfl (lv_at hl 0 rfl) ?_
  refine lv_aload_n hx hb dX6_copyFrom_17 rfl (lv_at hl 1 rfl) ?_
  refine GX6_16 E hM hk1 dX6_copyFrom_18 ?_
  obtain ⟨m3, em3, hf⟩ := gv_o hf
  refine PX6_16 E hM hS hk0 em3 dX6_copyFrom_21 (fun H locs hM hS => ?_)
  exact ge_v E hr hlocks hf hM hS (Nat.le_of_ble_eq_true rfl) (Nat.le_of_ble_eq_true rfl) dX6_copyFrom_24
theorem c_X6_copyFrom (l : Launch) (X : gX) (c0 : Nat) (c1 : Nat) (m0 : gMem) {res : Unit × gMem} (hk0 : gk c0 = 6) (hk1 : gk c1 = 6) (hf : f_X6_copyFrom c0 c1 m0 = some res) : Met l yX6_copyFrom (gWs yX6_copyFrom cX6_copyFrom 2 none) { frames := 0, cells := 0, slots := 0, locals := 0 } (va_Pc [.ref (X.1 + c0), .ref (X.1 + c1)] (gB X m0)) (gQv X res) 0 0 (gA X) :=
  gMet (own := RX6) (by decide +kernel) rfl (Nat.le_of_ble_eq_true rfl) (fun p e s m args below meth c ls E hr hlocks hml hM hl => b_X6_copyFrom E hr hlocks hml (Nat.le_refl _) (Nat.le_refl _) (Nat.le_refl _) (Nat.le_refl _) hk0 hk1 hf hM va_S.rf hl)
def f_X7_copyFrom (c0 : Nat) (c1 : Nat) (m0 : gMem) : Option (Unit × gMem) := if (0 : Int32).toNatClampNeg + (10 : Int32).toNatClampNeg ≤ gl (c1 + 1) then if (0 : Int32).toNatClampNeg + (10 : Int32).toNatClampNeg ≤ gl (c0 + 1) then gv (mc m0 (c0 + 1) (va_cpy (m0 (c1 + 1)) (m0 (c0 + 1)) (0 : Int32).toNatClampNeg (0 : Int32).toNatClampNeg (10 : Int32).toNatClampNeg)) (fun m5 => if (0 : Int32).toNatClampNeg + (10 : Int32).toNatClampNeg ≤ gl (c1 + 2) then if (0 : Int32).toNatClampNeg + (10 : Int32).toNatClampNeg ≤ gl (c0 + 2) then gv (mc m5 (c0 + 2) (va_cpy (m5 (c1 + 2)) (m5 (c0 + 2)) (0 : Int32).toNatClampNeg (0 : Int32).toNatClampNeg (10 : Int32).toNatClampNeg)) (fun m10 => gv (ms m10 c0 2 (m10 c1 2)) (fun m11 => gv (ms m11 c0 3 (m11 c1 3)) (fun m12 => gv (ms m12 c0 4 (m12 c1 4)) (fun m13 => some ((), m13))))) else none else none) else none else none
set_option maxRecDepth 100000 in
set_option maxHeartbeats 4000000 in
theorem b_X7_copyFrom {p : Program} {l : Launch} {e : Env} {R : Room} {s : State} {m : MethodId} {args : Array Value} {below : List Frame} {meth : Method} {c : Code} {H : Heap} {locs : List Loc} {ls : Array Slot} {X : gX} (E : gEn p s m args c cX7_copyFrom RX7 X) (hr : meth.sig.returnType = none) (hlocks : meth.locks = false) (hml : c.maxLocals = 2) (hRf : 1 ≤ R.frames) (hRl : 60 ≤ R.locals) (hRc : 0 ≤ R.cells) (hRs : 0 ≤ R.slots) {c0 : Nat} {c1 : Nat} {m0 : gMem} {res : Unit × gMem} (hk0 : gk c0 = 7) (hk1 : gk c1 = 7) (hf : f_X7_copyFrom c0 c1 m0 = some res) (hM : gM X m0 H) (hS : va_S (gA X) s.heap H locs) (hl : lv_has ls 2 [(0, .ref (X.1 + c0)), (1, .ref (X.1 + c1))]) : W p l e R s m args below meth c H locs 0 0 (MQ below (gQv X res) args s 0 0 (gA X)) (F0 m 0 ls []) := by
  obtain ⟨hx, hb⟩ := (⟨E.1, E.2.1⟩ : _ ∧ _)
  unfold f_X7_copyFrom at hf
  refine lv_aload_n hx hb dX7_copyFrom_0 rfl (lv_at hl 1 rfl) ?_
  refine GX7_9 E hM hk1 dX7_copyFrom_1 ?_
  have hg1 : gk (c1 + 1) = 20 := gkf_7_0 hk1
  refine lv_iconst (v := (0 : Int32)) hx hb dX7_copyFrom_4 (by decide) ?_
  refine lv_aload_n hx hb dX7_copyFrom_5 rfl (lv_at hl 0 rfl) ?_
  refine GX7_9 E hM hk0 dX7_copyFrom_6 ?_
  have hg2 : gk (c0 + 1) = 20 := gkf_7_0 hk0
  refine lv_iconst (v := (0 : Int32)) hx hb dX7_copyFrom_9 (by decide) ?_
  refine lv_bipush (v := (10 : Int32)) hx hb dX7_copyFrom_10 (by decide) ?_
  obtain ⟨hi3, hf⟩ := g_ck hf
  obtain ⟨hi4, hf⟩ := g_ck hf
  obtain ⟨m5, em5, hf⟩ := gv_o hf
  refine gg_copy E hml hl.1 wl_RX7_28 wj_copy_n wj_copy_s wj_copy_i (fun c hc => gA_in X hc) hM hS (gk_in hg1 (by decide)) hg1 (gk_in hg2 (by decide)) hg2 (by decide) (by decide) (by decide) hi3 hi4 em5 (Nat.le_trans (by decide) hRf) (Nat.le_trans (by decide +kernel) hRl) dX7_copyFrom_12 (fun H locs hM hS => ?_)
  refine lv_aload_n hx hb dX7_copyFrom_15 rfl (lv_at hl 1 rfl) ?_
  refine GX7_15 E hM hk1 dX7_copyFrom_16 ?_
  have hg6 : gk (c1 + 2) = 20 := gkf_7_1 hk1
  refine lv_iconst (v := (0 : Int32)) hx hb dX7_copyFrom_19 (by decide) ?_
  refine lv_aload_n hx hb dX7_copyFrom_20 rfl (lv_at hl 0 rfl) ?_
  refine GX7_15 E hM hk0 dX7_copyFrom_21 ?_
  have hg7 : gk (c0 + 2) = 20 := gkf_7_1 hk0
  refine lv_iconst (v := (0 : Int32)) hx hb dX7_copyFrom_24 (by decide) ?_
  refine lv_bipush (v := (10 : Int32)) hx hb dX7_copyFrom_25 (by decide) ?_
  obtain ⟨hi8, hf⟩ := g_ck hf
  obtain ⟨hi9, hf⟩ := g_ck hf
  obtain ⟨m10, em10, hf⟩ := gv_o hf
  refine gg_copy E hml hl.1 wl_RX7_28 wj_copy_n wj_copy_s wj_copy_i (fun c hc => gA_in X hc) hM hS (gk_in hg6 (by decide)) hg6 (gk_in hg7 (by decide)) hg7 (by decide) (by decide) (by decide) hi8 hi9 em10 (Nat.le_trans (by decide) hRf) (Nat.le_trans (by decide +kernel) hRl) dX7_copyFrom_27 (fun H locs hM hS => ?_)
  refine lv_aload_n hx hb dX7_copyFrom_30 rfl (lv_at hl 0 rfl) ?_
  refine lv_aload_n hx hb dX7_copyFrom_31 rfl (lv_at hl 1 rfl) ?_
  refine GX7_18 E hM hk1 dX7_copyFrom_32 ?_
  obtain ⟨m11, em11, hf⟩ := gv_o hf
  refine PX7_18 E hM hS hk0 em11 dX7_copyFrom_35 (fun H locs hM hS => ?_)
  refine lv_aload_n hx hb dX7_copyFrom_38 rfl (lv_at hl 0 rfl) ?_
  refine lv_aload_n hx hb dX7_copyFrom_39 rfl (lv_at hl 1 rfl) ?_
  refine GX7_22 E hM hk1 dX7_copyFrom_40 ?_
  obtain ⟨m12, em12, hf⟩ := gv_o hf
  refine PX7_22 E hM hS hk0 em12 dX7_copyFrom_43 (fun H locs hM hS => ?_)
  refine lv_aload_n hx hb dX7_copyFrom_46 rfl (lv_at hl 0 rfl) ?_
  refine lv_aload_n hx hb dX7_copyFrom_47 rfl (lv_at hl 1 rfl) ?_
  refine GX7_25 E hM hk1 dX7_copyFrom_48 ?_
  obtain ⟨m13, em13, hf⟩ := gv_o hf
  refine PX7_25 E hM hS hk0 em13 dX7_copyFrom_51 (fun H locs hM hS => ?_)
  exact ge_v E hr hlocks hf hM hS (Nat.le_of_ble_eq_true rfl) (Nat.le_of_ble_eq_true rfl) dX7_copyFrom_54
theorem c_X7_copyFrom (l : Launch) (X : gX) (c0 : Nat) (c1 : Nat) (m0 : gMem) {res : Unit × gMem} (hk0 : gk c0 = 7) (hk1 : gk c1 = 7) (hf : f_X7_copyFrom c0 c1 m0 = some res) : Met l yX7_copyFrom (gWs yX7_copyFrom cX7_copyFrom 2 none) { frames := 1, cells := 0, slots := 0, locals := 60 } (va_Pc [.ref (X.1 + c0), .ref (X.1 + c1)] (gB X m0)) (gQv X res) 0 0 (gA X) :=
  gMet (own := RX7) (by decide +kernel) rfl (Nat.le_of_ble_eq_true rfl) (fun p e s m args below meth c ls E hr hlocks hml hM hl => b_X7_copyFrom E hr hlocks hml (Nat.le_refl _) (Nat.le_refl _) (Nat.le_refl _) (Nat.le_refl _) hk0 hk1 hf hM va_S.rf hl)
def f_X0_copyFrom (c0 : Nat) (c1 : Nat) (m0 : gMem) : Option (Unit × gMem) := gv (ms m0 c0 0 (m0 c1 0)) (fun m1 => gv (ms m1 c0 1 (m1 c1 1)) (fun m2 => gv (ms m2 c0 2 (m2 c1 2)) (fun m3 => gv (ms m3 c0 3 (m3 c1 3)) (fun m4 => gv (ms m4 c0 4 (m4 c1 4)) (fun m5 => some ((), m5))))))
set_option maxRecDepth 100000 in
set_option maxHeartbeats 4000000 in
theorem b_X0_copyFrom {p : Program} {l : Launch} {e : Env} {R : Room} {s : State} {m : MethodId} {args : Array Value} {below : List Frame} {meth : Method} {c : Code} {H : Heap} {locs : List Loc} {ls : Array Slot} {X : gX} (E : gEn p s m args c cX0_copyFrom RX0 X) (hr : meth.sig.returnType = none) (hlocks : meth.locks = false) (hml : c.maxLocals = 2) (hRf : 0 ≤ R.frames) (hRl : 0 ≤ R.locals) (hRc : 0 ≤ R.cells) (hRs : 0 ≤ R.slots) {c0 : Nat} {c1 : Nat} {m0 : gMem} {res : Unit × gMem} (hk0 : gk c0 = 0) (hk1 : gk c1 = 0) (hf : f_X0_copyFrom c0 c1 m0 = some res) (hM : gM X m0 H) (hS : va_S (gA X) s.heap H locs) (hl : lv_has ls 2 [(0, .ref (X.1 + c0)), (1, .ref (X.1 + c1))]) : W p l e R s m args below meth c H locs 0 0 (MQ below (gQv X res) args s 0 0 (gA X)) (F0 m 0 ls []) := by
  obtain ⟨hx, hb⟩ := (⟨E.1, E.2.1⟩ : _ ∧ _)
  unfold f_X0_copyFrom at hf
  refine lv_aload_n hx hb dX0_copyFrom_0 rfl (lv_at hl 0 rfl) ?_
  refine lv_aload_n hx hb dX0_copyFrom_1 rfl (lv_at hl 1 rfl) ?_
  refine GX0_15 E hM hk1 dX0_copyFrom_2 ?_
  obtain ⟨m1, em1, hf⟩ := gv_o hf
  refine PX0_15 E hM hS hk0 em1 dX0_copyFrom_5 (fun H locs hM hS => ?_)
  refine lv_aload_n hx hb dX0_copyFrom_8 rfl (lv_at hl 0 rfl) ?_
  refine lv_aload_n hx hb dX0_copyFrom_9 rfl (lv_at hl 1 rfl) ?_
  refine GX0_18 E hM hk1 dX0_copyFrom_10 ?_
  obtain ⟨m2, em2, hf⟩ := gv_o hf
  refine PX0_18 E hM hS hk0 em2 dX0_copyFrom_13 (fun H locs hM hS => ?_)
  refine lv_aload_n hx hb dX0_copyFrom_16 rfl (lv_at hl 0 rfl) ?_
  refine lv_aload_n hx hb dX0_copyFrom_17 rfl (lv_at hl 1 rfl) ?_
  refine GX0_21 E hM hk1 dX0_copyFrom_18 ?_
  obtain ⟨m3, em3, hf⟩ := gv_o hf
  refine PX0_21 E hM hS hk0 em3 dX0_copyFrom_21 (fun H locs hM hS => ?_)
  refine lv_aload_n hx hb dX0_copyFrom_24 rfl (lv_at hl 0 rfl) ?_
  refine lv_aload_n hx hb dX0_copyFrom_25 rfl (lv_at hl 1 rfl) ?_
  refine GX0_24 E hM hk1 dX0_copyFrom_26 ?_
  obtain ⟨m4, em4, hf⟩ := gv_o hf
  refine PX0_24 E hM hS hk0 em4 dX0_copyFrom_29 (fun H locs hM hS => ?_)
  refine lv_aload_n hx hb dX0_copyFrom_32 rfl (lv_at hl 0 rfl) ?_
  refine lv_aload_n hx hb dX0_copyFrom_33 rfl (lv_at hl 1 rfl) ?_
  refine GX0_9 E hM hk1 dX0_copyFrom_34 ?_
  obtain ⟨m5, em5, hf⟩ := gv_o hf
  refine PX0_9 E hM hS hk0 em5 dX0_copyFrom_37 (fun H locs hM hS => ?_)
  exact ge_v E hr hlocks hf hM hS (Nat.le_of_ble_eq_true rfl) (Nat.le_of_ble_eq_true rfl) dX0_copyFrom_40
theorem c_X0_copyFrom (l : Launch) (X : gX) (c0 : Nat) (c1 : Nat) (m0 : gMem) {res : Unit × gMem} (hk0 : gk c0 = 0) (hk1 : gk c1 = 0) (hf : f_X0_copyFrom c0 c1 m0 = some res) : Met l yX0_copyFrom (gWs yX0_copyFrom cX0_copyFrom 2 none) { frames := 0, cells := 0, slots := 0, locals := 0 } (va_Pc [.ref (X.1 + c0), .ref (X.1 + c1)] (gB X m0)) (gQv X res) 0 0 (gA X) :=
  gMet (own := RX0) (by decide +kernel) rfl (Nat.le_of_ble_eq_true rfl) (fun p e s m args below meth c ls E hr hlocks hml hM hl => b_X0_copyFrom E hr hlocks hml (Nat.le_refl _) (Nat.le_refl _) (Nat.le_refl _) (Nat.le_refl _) hk0 hk1 hf hM va_S.rf hl)
def L_X2_copyFrom_69 (c0 : Nat) (c1 : Nat) (k95 : Int32 →  gMem → Option (Unit × gMem)) : Nat → Int32 → gMem → Option (Unit × gMem)
  | 0, _, _ => none
  | n + 1, y2, m0 => if (4 : Int32) ≤ y2 then (k95 y2 m0) else (if ¬ (y2 < 0 ∨ gl (c0 + 4) ≤ y2.toNatClampNeg) then if ¬ (y2 < 0 ∨ gl (c1 + 4) ≤ y2.toNatClampNeg) then g1 (f_X6_copyFrom ((c0 + 4) + (3 + y2.toNatClampNeg)) ((c1 + 4) + (3 + y2.toNatClampNeg)) m0) (fun r28 m26 => gv (y2 + (1 : Int32)) (fun x29 => L_X2_copyFrom_69 c0 c1 k95 n x29 m26)) else none else none)
def L_X2_copyFrom_105 (c0 : Nat) (c1 : Nat) (k132 : Int32 →  gMem → Option (Unit × gMem)) : Nat → Int32 → gMem → Option (Unit × gMem)
  | 0, _, _ => none
  | n + 1, y2, m0 => if (6 : Int32) ≤ y2 then (k132 y2 m0) else (if ¬ (y2 < 0 ∨ gl (c0 + 5) ≤ y2.toNatClampNeg) then if ¬ (y2 < 0 ∨ gl (c1 + 5) ≤ y2.toNatClampNeg) then g1 (f_X7_copyFrom ((c0 + 5) + (6 + 3 * y2.toNatClampNeg)) ((c1 + 5) + (6 + 3 * y2.toNatClampNeg)) m0) (fun r42 m40 => gv (y2 + (1 : Int32)) (fun x43 => L_X2_copyFrom_105 c0 c1 k132 n x43 m40)) else none else none)
def L_X2_copyFrom_142 (c0 : Nat) (c1 : Nat) (k169 : Int32 →  gMem → Option (Unit × gMem)) : Nat → Int32 → gMem → Option (Unit × gMem)
  | 0, _, _ => none
  | n + 1, y2, m0 => if (6 : Int32) ≤ y2 then (k169 y2 m0) else (if ¬ (y2 < 0 ∨ gl (c0 + 6) ≤ y2.toNatClampNeg) then if ¬ (y2 < 0 ∨ gl (c1 + 6) ≤ y2.toNatClampNeg) then g1 (f_X0_copyFrom ((c0 + 6) + (23 + y2.toNatClampNeg)) ((c1 + 6) + (23 + y2.toNatClampNeg)) m0) (fun r56 m54 => gv (y2 + (1 : Int32)) (fun x57 => L_X2_copyFrom_142 c0 c1 k169 n x57 m54)) else none else none)
def f_X2_copyFrom (c0 : Nat) (c1 : Nat) (m0 : gMem) : Option (Unit × gMem) := gv (ms m0 c0 0 (m0 c1 0)) (fun m1 => gv (ms m1 c0 1 (m1 c1 1)) (fun m2 => if (0 : Int32).toNatClampNeg + (24 : Int32).toNatClampNeg ≤ gl (c1 + 1) then if (0 : Int32).toNatClampNeg + (24 : Int32).toNatClampNeg ≤ gl (c0 + 1) then gv (mc m2 (c0 + 1) (va_cpy (m2 (c1 + 1)) (m2 (c0 + 1)) (0 : Int32).toNatClampNeg (0 : Int32).toNatClampNeg (24 : Int32).toNatClampNeg)) (fun m7 => if (0 : Int32).toNatClampNeg + (3 : Int32).toNatClampNeg ≤ gl (c1 + 2) then if (0 : Int32).toNatClampNeg + (3 : Int32).toNatClampNeg ≤ gl (c0 + 2) then gv (mc m7 (c0 + 2) (va_cpy (m7 (c1 + 2)) (m7 (c0 + 2)) (0 : Int32).toNatClampNeg (0 : Int32).toNatClampNeg (3 : Int32).toNatClampNeg)) (fun m12 => if (0 : Int32).toNatClampNeg + (3 : Int32).toNatClampNeg ≤ gl (c1 + 3) then if (0 : Int32).toNatClampNeg + (3 : Int32).toNatClampNeg ≤ gl (c0 + 3) then gv (mc m12 (c0 + 3) (va_cpy (m12 (c1 + 3)) (m12 (c0 + 3)) (0 : Int32).toNatClampNeg (0 : Int32).toNatClampNeg (3 : Int32).toNatClampNeg)) (fun m17 => gv (ms m17 c0 6 (m17 c1 6)) (fun m18 => L_X2_copyFrom_69 c0 c1 (fun y30 m31 => gv (ms m31 c0 8 (m31 c1 8)) (fun m32 => L_X2_copyFrom_105 c0 c1 (fun y44 m45 => gv (ms m45 c0 10 (m45 c1 10)) (fun m46 => L_X2_copyFrom_142 c0 c1 (fun y58 m59 => gv (ms m59 c0 11 (m59 c1 11)) (fun m60 => gv (ms m60 c0 12 (m60 c1 12)) (fun m61 => gv (ms m61 c0 13 (m61 c1 13)) (fun m62 => gv (ms m62 c0 14 (m62 c1 14)) (fun m63 => gv (ms m63 c0 15 (m63 c1 15)) (fun m64 => gv (ms m64 c0 16 (m64 c1 16)) (fun m65 => some ((), m65)))))))) gF (0 : Int32) m46)) gF (0 : Int32) m32)) gF (0 : Int32) m18)) else none else none) else none else none) else none else none))
set_option maxRecDepth 100000 in
set_option maxHeartbeats 4000000 in
theorem l_X2_copyFrom_69 {p : Program} {l : Launch} {e : Env} {R : Room} {s : State} {m : MethodId} {args : Array Value} {below : List Frame} {meth : Method} {c : Code} {cells slots : Nat} {X : gX} (E : gEn p s m args c cX2_copyFrom RX2 X) (hr : meth.sig.returnType = none) (hlocks : meth.locks = false) (hml : c.maxLocals = 3) (hRf : 2 ≤ R.frames) (hRl : 81 ≤ R.locals) (hRc : 0 ≤ R.cells) (hRs : 0 ≤ R.slots) (hc : cells ≤ 0) (hs : slots ≤ 0) (c0 : Nat) (c1 : Nat) (hk0 : gk c0 = 2) (hk1 : gk c1 = 2) (k95 : Int32 →  gMem → Option (Unit × gMem)) {res : Unit × gMem}
    (hk95 : ∀ (y2 : Int32) (m0 : gMem) (H : Heap) (locs : List Loc) (ls : Array Slot), k95 y2 m0 = some res → gM X m0 H → va_S (gA X) s.heap H locs → lv_has ls 3 [(0, .ref (X.1 + c0)), (1, .ref (X.1 + c1)), (2, .int y2)] → W p l e R s m args below meth c H locs cells slots (MQ below (gQv X res) args s 0 0 (gA X)) (F0 m 95 ls [])) :
    ∀ (n : Nat) (y2 : Int32) (m0 : gMem) (H : Heap) (locs : List Loc) (ls : Array Slot), L_X2_copyFrom_69 c0 c1 k95 n y2 m0 = some res → gM X m0 H → va_S (gA X) s.heap H locs → lv_has ls 3 [(0, .ref (X.1 + c0)), (1, .ref (X.1 + c1)), (2, .int y2)] → W p l e R s m args below meth c H locs cells slots (MQ below (gQv X res) args s 0 0 (gA X)) (F0 m 69 ls []) := by
  obtain ⟨hx, hb⟩ := (⟨E.1, E.2.1⟩ : _ ∧ _)
  intro n
  induction n with
  | zero =>
    intro _ _ _ _ _ hf
    cases hf
  | succ n ih =>
    intro y2 m0 H locs ls hf hM hS hl
    rw [L_X2_copyFrom_69] at hf
    refine lv_iload_n hx hb dX2_copyFrom_69 rfl (lv_at hl 2 rfl) ?_
    refine lv_iconst (v := (4 : Int32)) hx hb dX2_copyFrom_70 (by decide) ?_
    refine lv_icmp_ge (tgt := 95) hx hb dX2_copyFrom_71 (by decide) (fun h19 => ?_) (fun h19 => ?_)
    · have hf := g_t h19 hf
      exact hk95 y2 m0 _ _ _ hf hM hS (lv_sub hl [0, 1, 2] rfl)
    · have hf := g_f h19 hf
      refine lv_aload_n hx hb dX2_copyFrom_74 rfl (lv_at hl 0 rfl) ?_
      refine GX2_27 E hM hk0 dX2_copyFrom_75 ?_
      have hg20 : gk (c0 + 4) = 24 := gkf_2_5 hk0
      refine lv_iload_n hx hb dX2_copyFrom_78 rfl (lv_at hl 2 rfl) ?_
      obtain ⟨hi21, hf⟩ := g_ck hf
      refine gg_aald (k := 24) E hM (gk_in hg20 (by decide)) hg20 (by decide) rfl hi21 rfl rfl dX2_copyFrom_79 ?_
      have hg22 : gk ((c0 + 4) + (3 + y2.toNatClampNeg)) = 6 := gka_24 hg20 hi21
      refine lv_aload_n hx hb dX2_copyFrom_80 rfl (lv_at hl 1 rfl) ?_
      refine GX2_27 E hM hk1 dX2_copyFrom_81 ?_
      have hg23 : gk (c1 + 4) = 24 := gkf_2_5 hk1
      refine lv_iload_n hx hb dX2_copyFrom_84 rfl (lv_at hl 2 rfl) ?_
      obtain ⟨hi24, hf⟩ := g_ck hf
      refine gg_aald (k := 24) E hM (gk_in hg23 (by decide)) hg23 (by decide) rfl hi24 rfl rfl dX2_copyFrom_85 ?_
      have hg25 : gk ((c1 + 4) + (3 + y2.toNatClampNeg)) = 6 := gka_24 hg23 hi24
      obtain ⟨r28, m26, hqq27, hf⟩ := g1_o hf
      refine ga_v (gr_V (As := [.ref (X.1 + ((c1 + 4) + (3 + y2.toNatClampNeg)))]) (ci := 6) (rm := { frames := 0, cells := 0, slots := 0, locals := 0 }) E hml hl.1 (c_X6_copyFrom l X ((c0 + 4) + (3 + y2.toNatClampNeg)) ((c1 + 4) + (3 + y2.toNatClampNeg)) m0 hg22 hg25 hqq27) wt_X6_copyFrom wl_RX2_58 rfl hg22 (by decide) rfl rfl hM hS rfl rfl (Nat.le_trans (by decide) hRf) (Nat.le_trans (by decide) hRl) (Nat.le_trans hc hRc) (Nat.le_trans hs hRs) (Nat.le_of_ble_eq_true rfl) dX2_copyFrom_86 rfl) hS (fun H locs hM hS => ?_)
      obtain ⟨x29, ex29, hf⟩ := gv_o hf
      refine lv_iinc (v := x29) (lv' := [(2, .int x29), (0, .ref (X.1 + c0)), (1, .ref (X.1 + c1))]) hx hb dX2_copyFrom_89 hl (k := 2) rfl (by rw [ex29]; rfl) (by decide) rfl (fun ls hl => ?_)
      refine lv_goto (tgt := 69) hx hb dX2_copyFrom_92 (by decide) ?_
      exact ih x29 m26 _ _ _ hf hM hS (lv_sub hl [1, 2, 0] rfl)
set_option maxRecDepth 100000 in
set_option maxHeartbeats 4000000 in
theorem l_X2_copyFrom_105 {p : Program} {l : Launch} {e : Env} {R : Room} {s : State} {m : MethodId} {args : Array Value} {below : List Frame} {meth : Method} {c : Code} {cells slots : Nat} {X : gX} (E : gEn p s m args c cX2_copyFrom RX2 X) (hr : meth.sig.returnType = none) (hlocks : meth.locks = false) (hml : c.maxLocals = 3) (hRf : 2 ≤ R.frames) (hRl : 81 ≤ R.locals) (hRc : 0 ≤ R.cells) (hRs : 0 ≤ R.slots) (hc : cells ≤ 0) (hs : slots ≤ 0) (c0 : Nat) (c1 : Nat) (hk0 : gk c0 = 2) (hk1 : gk c1 = 2) (k132 : Int32 →  gMem → Option (Unit × gMem)) {res : Unit × gMem}
    (hk132 : ∀ (y2 : Int32) (m0 : gMem) (H : Heap) (locs : List Loc) (ls : Array Slot), k132 y2 m0 = some res → gM X m0 H → va_S (gA X) s.heap H locs → lv_has ls 3 [(0, .ref (X.1 + c0)), (1, .ref (X.1 + c1)), (2, .int y2)] → W p l e R s m args below meth c H locs cells slots (MQ below (gQv X res) args s 0 0 (gA X)) (F0 m 132 ls [])) :
    ∀ (n : Nat) (y2 : Int32) (m0 : gMem) (H : Heap) (locs : List Loc) (ls : Array Slot), L_X2_copyFrom_105 c0 c1 k132 n y2 m0 = some res → gM X m0 H → va_S (gA X) s.heap H locs → lv_has ls 3 [(0, .ref (X.1 + c0)), (1, .ref (X.1 + c1)), (2, .int y2)] → W p l e R s m args below meth c H locs cells slots (MQ below (gQv X res) args s 0 0 (gA X)) (F0 m 105 ls []) := by
  obtain ⟨hx, hb⟩ := (⟨E.1, E.2.1⟩ : _ ∧ _)
  intro n
  induction n with
  | zero =>
    intro _ _ _ _ _ hf
    cases hf
  | succ n ih =>
    intro y2 m0 H locs ls hf hM hS hl
    rw [L_X2_copyFrom_105] at hf
    refine lv_iload_n hx hb dX2_copyFrom_105 rfl (lv_at hl 2 rfl) ?_
    refine lv_bipush (v := (6 : Int32)) hx hb dX2_copyFrom_106 (by decide) ?_
    refine lv_icmp_ge (tgt := 132) hx hb dX2_copyFrom_108 (by decide) (fun h33 => ?_) (fun h33 => ?_)
    · have hf := g_t h33 hf
      exact hk132 y2 m0 _ _ _ hf hM hS (lv_sub hl [0, 1, 2] rfl)
    · have hf := g_f h33 hf
      refine lv_aload_n hx hb dX2_copyFrom_111 rfl (lv_at hl 0 rfl) ?_
      refine GX2_33 E hM hk0 dX2_copyFrom_112 ?_
      have hg34 : gk (c0 + 5) = 25 := gkf_2_7 hk0
      refine lv_iload_n hx hb dX2_copyFrom_115 rfl (lv_at hl 2 rfl) ?_
      obtain ⟨hi35, hf⟩ := g_ck hf
      refine gg_aald (k := 25) E hM (gk_in hg34 (by decide)) hg34 (by decide) rfl hi35 rfl rfl dX2_copyFrom_116 ?_
      have hg36 : gk ((c0 + 5) + (6 + 3 * y2.toNatClampNeg)) = 7 := gka_25 hg34 hi35
      refine lv_aload_n hx hb dX2_copyFrom_117 rfl (lv_at hl 1 rfl) ?_
      refine GX2_33 E hM hk1 dX2_copyFrom_118 ?_
      have hg37 : gk (c1 + 5) = 25 := gkf_2_7 hk1
      refine lv_iload_n hx hb dX2_copyFrom_121 rfl (lv_at hl 2 rfl) ?_
      obtain ⟨hi38, hf⟩ := g_ck hf
      refine gg_aald (k := 25) E hM (gk_in hg37 (by decide)) hg37 (by decide) rfl hi38 rfl rfl dX2_copyFrom_122 ?_
      have hg39 : gk ((c1 + 5) + (6 + 3 * y2.toNatClampNeg)) = 7 := gka_25 hg37 hi38
      obtain ⟨r42, m40, hqq41, hf⟩ := g1_o hf
      refine ga_v (gr_V (As := [.ref (X.1 + ((c1 + 5) + (6 + 3 * y2.toNatClampNeg)))]) (ci := 7) (rm := { frames := 1, cells := 0, slots := 0, locals := 60 }) E hml hl.1 (c_X7_copyFrom l X ((c0 + 5) + (6 + 3 * y2.toNatClampNeg)) ((c1 + 5) + (6 + 3 * y2.toNatClampNeg)) m0 hg36 hg39 hqq41) wt_X7_copyFrom wl_RX2_65 rfl hg36 (by decide) rfl rfl hM hS rfl rfl (Nat.le_trans (by decide) hRf) (Nat.le_trans (by decide) hRl) (Nat.le_trans hc hRc) (Nat.le_trans hs hRs) (Nat.le_of_ble_eq_true rfl) dX2_copyFrom_123 rfl) hS (fun H locs hM hS => ?_)
      obtain ⟨x43, ex43, hf⟩ := gv_o hf
      refine lv_iinc (v := x43) (lv' := [(2, .int x43), (0, .ref (X.1 + c0)), (1, .ref (X.1 + c1))]) hx hb dX2_copyFrom_126 hl (k := 2) rfl (by rw [ex43]; rfl) (by decide) rfl (fun ls hl => ?_)
      refine lv_goto (tgt := 105) hx hb dX2_copyFrom_129 (by decide) ?_
      exact ih x43 m40 _ _ _ hf hM hS (lv_sub hl [1, 2, 0] rfl)
set_option maxRecDepth 100000 in
set_option maxHeartbeats 4000000 in
theorem l_X2_copyFrom_142 {p : Program} {l : Launch} {e : Env} {R : Room} {s : State} {m : MethodId} {args : Array Value} {below : List Frame} {meth : Method} {c : Code} {cells slots : Nat} {X : gX} (E : gEn p s m args c cX2_copyFrom RX2 X) (hr : meth.sig.returnType = none) (hlocks : meth.locks = false) (hml : c.maxLocals = 3) (hRf : 2 ≤ R.frames) (hRl : 81 ≤ R.locals) (hRc : 0 ≤ R.cells) (hRs : 0 ≤ R.slots) (hc : cells ≤ 0) (hs : slots ≤ 0) (c0 : Nat) (c1 : Nat) (hk0 : gk c0 = 2) (hk1 : gk c1 = 2) (k169 : Int32 →  gMem → Option (Unit × gMem)) {res : Unit × gMem}
    (hk169 : ∀ (y2 : Int32) (m0 : gMem) (H : Heap) (locs : List Loc) (ls : Array Slot), k169 y2 m0 = some res → gM X m0 H → va_S (gA X) s.heap H locs → lv_has ls 3 [(0, .ref (X.1 + c0)), (1, .ref (X.1 + c1)), (2, .int y2)] → W p l e R s m args below meth c H locs cells slots (MQ below (gQv X res) args s 0 0 (gA X)) (F0 m 169 ls [])) :
    ∀ (n : Nat) (y2 : Int32) (m0 : gMem) (H : Heap) (locs : List Loc) (ls : Array Slot), L_X2_copyFrom_142 c0 c1 k169 n y2 m0 = some res → gM X m0 H → va_S (gA X) s.heap H locs → lv_has ls 3 [(0, .ref (X.1 + c0)), (1, .ref (X.1 + c1)), (2, .int y2)] → W p l e R s m args below meth c H locs cells slots (MQ below (gQv X res) args s 0 0 (gA X)) (F0 m 142 ls []) := by
  obtain ⟨hx, hb⟩ := (⟨E.1, E.2.1⟩ : _ ∧ _)
  intro n
  induction n with
  | zero =>
    intro _ _ _ _ _ hf
    cases hf
  | succ n ih =>
    intro y2 m0 H locs ls hf hM hS hl
    rw [L_X2_copyFrom_142] at hf
    refine lv_iload_n hx hb dX2_copyFrom_142 rfl (lv_at hl 2 rfl) ?_
    refine lv_bipush (v := (6 : Int32)) hx hb dX2_copyFrom_143 (by decide) ?_
    refine lv_icmp_ge (tgt := 169) hx hb dX2_copyFrom_145 (by decide) (fun h47 => ?_) (fun h47 => ?_)
    · have hf := g_t h47 hf
      exact hk169 y2 m0 _ _ _ hf hM hS (lv_sub hl [0, 1, 2] rfl)
    · have hf := g_f h47 hf
      refine lv_aload_n hx hb dX2_copyFrom_148 rfl (lv_at hl 0 rfl) ?_
      refine GX2_39 E hM hk0 dX2_copyFrom_149 ?_
      have hg48 : gk (c0 + 6) = 26 := gkf_2_9 hk0
      refine lv_iload_n hx hb dX2_copyFrom_152 rfl (lv_at hl 2 rfl) ?_
      obtain ⟨hi49, hf⟩ := g_ck hf
      refine gg_aald (k := 26) E hM (gk_in hg48 (by decide)) hg48 (by decide) rfl hi49 rfl rfl dX2_copyFrom_153 ?_
      have hg50 : gk ((c0 + 6) + (23 + y2.toNatClampNeg)) = 0 := gka_26 hg48 hi49
      refine lv_aload_n hx hb dX2_copyFrom_154 rfl (lv_at hl 1 rfl) ?_
      refine GX2_39 E hM hk1 dX2_copyFrom_155 ?_
      have hg51 : gk (c1 + 6) = 26 := gkf_2_9 hk1
      refine lv_iload_n hx hb dX2_copyFrom_158 rfl (lv_at hl 2 rfl) ?_
      obtain ⟨hi52, hf⟩ := g_ck hf
      refine gg_aald (k := 26) E hM (gk_in hg51 (by decide)) hg51 (by decide) rfl hi52 rfl rfl dX2_copyFrom_159 ?_
      have hg53 : gk ((c1 + 6) + (23 + y2.toNatClampNeg)) = 0 := gka_26 hg51 hi52
      obtain ⟨r56, m54, hqq55, hf⟩ := g1_o hf
      refine ga_v (gr_V (As := [.ref (X.1 + ((c1 + 6) + (23 + y2.toNatClampNeg)))]) (ci := 0) (rm := { frames := 0, cells := 0, slots := 0, locals := 0 }) E hml hl.1 (c_X0_copyFrom l X ((c0 + 6) + (23 + y2.toNatClampNeg)) ((c1 + 6) + (23 + y2.toNatClampNeg)) m0 hg50 hg53 hqq55) wt_X0_copyFrom wl_RX2_71 rfl hg50 (by decide) rfl rfl hM hS rfl rfl (Nat.le_trans (by decide) hRf) (Nat.le_trans (by decide) hRl) (Nat.le_trans hc hRc) (Nat.le_trans hs hRs) (Nat.le_of_ble_eq_true rfl) dX2_copyFrom_160 rfl) hS (fun H locs hM hS => ?_)
      obtain ⟨x57, ex57, hf⟩ := gv_o hf
      refine lv_iinc (v := x57) (lv' := [(2, .int x57), (0, .ref (X.1 + c0)), (1, .ref (X.1 + c1))]) hx hb dX2_copyFrom_163 hl (k := 2) rfl (by rw [ex57]; rfl) (by decide) rfl (fun ls hl => ?_)
      refine lv_goto (tgt := 142) hx hb dX2_copyFrom_166 (by decide) ?_
      exact ih x57 m54 _ _ _ hf hM hS (lv_sub hl [1, 2, 0] rfl)
set_option maxRecDepth 100000 in
set_option maxHeartbeats 4000000 in
theorem b_X2_copyFrom {p : Program} {l : Launch} {e : Env} {R : Room} {s : State} {m : MethodId} {args : Array Value} {below : List Frame} {meth : Method} {c : Code} {H : Heap} {locs : List Loc} {ls : Array Slot} {X : gX} (E : gEn p s m args c cX2_copyFrom RX2 X) (hr : meth.sig.returnType = none) (hlocks : meth.locks = false) (hml : c.maxLocals = 3) (hRf : 2 ≤ R.frames) (hRl : 81 ≤ R.locals) (hRc : 0 ≤ R.cells) (hRs : 0 ≤ R.slots) {c0 : Nat} {c1 : Nat} {m0 : gMem} {res : Unit × gMem} (hk0 : gk c0 = 2) (hk1 : gk c1 = 2) (hf : f_X2_copyFrom c0 c1 m0 = some res) (hM : gM X m0 H) (hS : va_S (gA X) s.heap H locs) (hl : lv_has ls 3 [(0, .ref (X.1 + c0)), (1, .ref (X.1 + c1))]) : W p l e R s m args below meth c H locs 0 0 (MQ below (gQv X res) args s 0 0 (gA X)) (F0 m 0 ls []) := by
  obtain ⟨hx, hb⟩ := (⟨E.1, E.2.1⟩ : _ ∧ _)
  unfold f_X2_copyFrom at hf
  refine lv_aload_n hx hb dX2_copyFrom_0 rfl (lv_at hl 0 rfl) ?_
  refine lv_aload_n hx hb dX2_copyFrom_1 rfl (lv_at hl 1 rfl) ?_
  refine GX2_46 E hM hk1 dX2_copyFrom_2 ?_
  obtain ⟨m1, em1, hf⟩ := gv_o hf
  refine PX2_46 E hM hS hk0 em1 dX2_copyFrom_5 (fun H locs hM hS => ?_)
  refine lv_aload_n hx hb dX2_copyFrom_8 rfl (lv_at hl 0 rfl) ?_
  refine lv_aload_n hx hb dX2_copyFrom_9 rfl (lv_at hl 1 rfl) ?_
  refine GX2_9 E hM hk1 dX2_copyFrom_10 ?_
  obtain ⟨m2, em2, hf⟩ := gv_o hf
  refine PX2_9 E hM hS hk0 em2 dX2_copyFrom_13 (fun H locs hM hS => ?_)
  refine lv_aload_n hx hb dX2_copyFrom_16 rfl (lv_at hl 1 rfl) ?_
  refine GX2_15 E hM hk1 dX2_copyFrom_17 ?_
  have hg3 : gk (c1 + 1) = 20 := gkf_2_2 hk1
  refine lv_iconst (v := (0 : Int32)) hx hb dX2_copyFrom_20 (by decide) ?_
  refine lv_aload_n hx hb dX2_copyFrom_21 rfl (lv_at hl 0 rfl) ?_
  refine GX2_15 E hM hk0 dX2_copyFrom_22 ?_
  have hg4 : gk (c0 + 1) = 20 := gkf_2_2 hk0
  refine lv_iconst (v := (0 : Int32)) hx hb dX2_copyFrom_25 (by decide) ?_
  refine lv_bipush (v := (24 : Int32)) hx hb dX2_copyFrom_26 (by decide) ?_
  obtain ⟨hi5, hf⟩ := g_ck hf
  obtain ⟨hi6, hf⟩ := g_ck hf
  obtain ⟨m7, em7, hf⟩ := gv_o hf
  refine gg_copy E hml hl.1 wl_RX2_49 wj_copy_n wj_copy_s wj_copy_i (fun c hc => gA_in X hc) hM hS (gk_in hg3 (by decide)) hg3 (gk_in hg4 (by decide)) hg4 (by decide) (by decide) (by decide) hi5 hi6 em7 (Nat.le_trans (by decide) hRf) (Nat.le_trans (by decide +kernel) hRl) dX2_copyFrom_28 (fun H locs hM hS => ?_)
  refine lv_aload_n hx hb dX2_copyFrom_31 rfl (lv_at hl 1 rfl) ?_
  refine GX2_19 E hM hk1 dX2_copyFrom_32 ?_
  have hg8 : gk (c1 + 2) = 20 := gkf_2_3 hk1
  refine lv_iconst (v := (0 : Int32)) hx hb dX2_copyFrom_35 (by decide) ?_
  refine lv_aload_n hx hb dX2_copyFrom_36 rfl (lv_at hl 0 rfl) ?_
  refine GX2_19 E hM hk0 dX2_copyFrom_37 ?_
  have hg9 : gk (c0 + 2) = 20 := gkf_2_3 hk0
  refine lv_iconst (v := (0 : Int32)) hx hb dX2_copyFrom_40 (by decide) ?_
  refine lv_iconst (v := (3 : Int32)) hx hb dX2_copyFrom_41 (by decide) ?_
  obtain ⟨hi10, hf⟩ := g_ck hf
  obtain ⟨hi11, hf⟩ := g_ck hf
  obtain ⟨m12, em12, hf⟩ := gv_o hf
  refine gg_copy E hml hl.1 wl_RX2_49 wj_copy_n wj_copy_s wj_copy_i (fun c hc => gA_in X hc) hM hS (gk_in hg8 (by decide)) hg8 (gk_in hg9 (by decide)) hg9 (by decide) (by decide) (by decide) hi10 hi11 em12 (Nat.le_trans (by decide) hRf) (Nat.le_trans (by decide +kernel) hRl) dX2_copyFrom_42 (fun H locs hM hS => ?_)
  refine lv_aload_n hx hb dX2_copyFrom_45 rfl (lv_at hl 1 rfl) ?_
  refine GX2_22 E hM hk1 dX2_copyFrom_46 ?_
  have hg13 : gk (c1 + 3) = 20 := gkf_2_4 hk1
  refine lv_iconst (v := (0 : Int32)) hx hb dX2_copyFrom_49 (by decide) ?_
  refine lv_aload_n hx hb dX2_copyFrom_50 rfl (lv_at hl 0 rfl) ?_
  refine GX2_22 E hM hk0 dX2_copyFrom_51 ?_
  have hg14 : gk (c0 + 3) = 20 := gkf_2_4 hk0
  refine lv_iconst (v := (0 : Int32)) hx hb dX2_copyFrom_54 (by decide) ?_
  refine lv_iconst (v := (3 : Int32)) hx hb dX2_copyFrom_55 (by decide) ?_
  obtain ⟨hi15, hf⟩ := g_ck hf
  obtain ⟨hi16, hf⟩ := g_ck hf
  obtain ⟨m17, em17, hf⟩ := gv_o hf
  refine gg_copy E hml hl.1 wl_RX2_49 wj_copy_n wj_copy_s wj_copy_i (fun c hc => gA_in X hc) hM hS (gk_in hg13 (by decide)) hg13 (gk_in hg14 (by decide)) hg14 (by decide) (by decide) (by decide) hi15 hi16 em17 (Nat.le_trans (by decide) hRf) (Nat.le_trans (by decide +kernel) hRl) dX2_copyFrom_56 (fun H locs hM hS => ?_)
  refine lv_aload_n hx hb dX2_copyFrom_59 rfl (lv_at hl 0 rfl) ?_
  refine lv_aload_n hx hb dX2_copyFrom_60 rfl (lv_at hl 1 rfl) ?_
  refine GX2_55 E hM hk1 dX2_copyFrom_61 ?_
  obtain ⟨m18, em18, hf⟩ := gv_o hf
  refine PX2_55 E hM hS hk0 em18 dX2_copyFrom_64 (fun H locs hM hS => ?_)
  refine lv_iconst (v := (0 : Int32)) hx hb dX2_copyFrom_67 (by decide) ?_
  refine lv_istore_n (lv' := [(2, .int (0 : Int32)), (0, .ref (X.1 + c0)), (1, .ref (X.1 + c1))]) hx hb dX2_copyFrom_68 rfl hl (by decide) rfl (fun ls hl => ?_)
  refine l_X2_copyFrom_69 E hr hlocks hml hRf hRl hRc hRs (Nat.le_of_ble_eq_true rfl) (Nat.le_of_ble_eq_true rfl) c0 c1 hk0 hk1 _ (fun y30 m31 H locs ls hf hM hS hl => ?_) gF (0 : Int32) m18 _ _ _ hf hM hS (lv_sub hl [1, 2, 0] rfl)
  refine lv_aload_n hx hb dX2_copyFrom_95 rfl (lv_at hl 0 rfl) ?_
  refine lv_aload_n hx hb dX2_copyFrom_96 rfl (lv_at hl 1 rfl) ?_
  refine GX2_62 E hM hk1 dX2_copyFrom_97 ?_
  obtain ⟨m32, em32, hf⟩ := gv_o hf
  refine PX2_62 E hM hS hk0 em32 dX2_copyFrom_100 (fun H locs hM hS => ?_)
  refine lv_iconst (v := (0 : Int32)) hx hb dX2_copyFrom_103 (by decide) ?_
  refine lv_istore_n (lv' := [(2, .int (0 : Int32)), (0, .ref (X.1 + c0)), (1, .ref (X.1 + c1))]) hx hb dX2_copyFrom_104 rfl hl (by decide) rfl (fun ls hl => ?_)
  refine l_X2_copyFrom_105 E hr hlocks hml hRf hRl hRc hRs (Nat.le_of_ble_eq_true rfl) (Nat.le_of_ble_eq_true rfl) c0 c1 hk0 hk1 _ (fun y44 m45 H locs ls hf hM hS hl => ?_) gF (0 : Int32) m32 _ _ _ hf hM hS (lv_sub hl [1, 2, 0] rfl)
  refine lv_aload_n hx hb dX2_copyFrom_132 rfl (lv_at hl 0 rfl) ?_
  refine lv_aload_n hx hb dX2_copyFrom_133 rfl (lv_at hl 1 rfl) ?_
  refine GX2_68 E hM hk1 dX2_copyFrom_134 ?_
  obtain ⟨m46, em46, hf⟩ := gv_o hf
  refine PX2_68 E hM hS hk0 em46 dX2_copyFrom_137 (fun H locs hM hS => ?_)
  refine lv_iconst (v := (0 : Int32)) hx hb dX2_copyFrom_140 (by decide) ?_
  refine lv_istore_n (lv' := [(2, .int (0 : Int32)), (0, .ref (X.1 + c0)), (1, .ref (X.1 + c1))]) hx hb dX2_copyFrom_141 rfl hl (by decide) rfl (fun ls hl => ?_)
  refine l_X2_copyFrom_142 E hr hlocks hml hRf hRl hRc hRs (Nat.le_of_ble_eq_true rfl) (Nat.le_of_ble_eq_true rfl) c0 c1 hk0 hk1 _ (fun y58 m59 H locs ls hf hM hS hl => ?_) gF (0 : Int32) m46 _ _ _ hf hM hS (lv_sub hl [1, 2, 0] rfl)
  refine lv_aload_n hx hb dX2_copyFrom_169 rfl (lv_at hl 0 rfl) ?_
  refine lv_aload_n hx hb dX2_copyFrom_170 rfl (lv_at hl 1 rfl) ?_
  refine GX2_74 E hM hk1 dX2_copyFrom_171 ?_
  obtain ⟨m60, em60, hf⟩ := gv_o hf
  refine PX2_74 E hM hS hk0 em60 dX2_copyFrom_174 (fun H locs hM hS => ?_)
  refine lv_aload_n hx hb dX2_copyFrom_177 rfl (lv_at hl 0 rfl) ?_
  refine lv_aload_n hx hb dX2_copyFrom_178 rfl (lv_at hl 1 rfl) ?_
  refine GX2_77 E hM hk1 dX2_copyFrom_179 ?_
  obtain ⟨m61, em61, hf⟩ := gv_o hf
  refine PX2_77 E hM hS hk0 em61 dX2_copyFrom_182 (fun H locs hM hS => ?_)
  refine lv_aload_n hx hb dX2_copyFrom_185 rfl (lv_at hl 0 rfl) ?_
  refine lv_aload_n hx hb dX2_copyFrom_186 rfl (lv_at hl 1 rfl) ?_
  refine GX2_80 E hM hk1 dX2_copyFrom_187 ?_
  obtain ⟨m62, em62, hf⟩ := gv_o hf
  refine PX2_80 E hM hS hk0 em62 dX2_copyFrom_190 (fun H locs hM hS => ?_)
  refine lv_aload_n hx hb dX2_copyFrom_193 rfl (lv_at hl 0 rfl) ?_
  refine lv_aload_n hx hb dX2_copyFrom_194 rfl (lv_at hl 1 rfl) ?_
  refine GX2_83 E hM hk1 dX2_copyFrom_195 ?_
  obtain ⟨m63, em63, hf⟩ := gv_o hf
  refine PX2_83 E hM hS hk0 em63 dX2_copyFrom_198 (fun H locs hM hS => ?_)
  refine lv_aload_n hx hb dX2_copyFrom_201 rfl (lv_at hl 0 rfl) ?_
  refine lv_aload_n hx hb dX2_copyFrom_202 rfl (lv_at hl 1 rfl) ?_
  refine GX2_86 E hM hk1 dX2_copyFrom_203 ?_
  obtain ⟨m64, em64, hf⟩ := gv_o hf
  refine PX2_86 E hM hS hk0 em64 dX2_copyFrom_206 (fun H locs hM hS => ?_)
  refine lv_aload_n hx hb dX2_copyFrom_209 rfl (lv_at hl 0 rfl) ?_
  refine lv_aload_n hx hb dX2_copyFrom_210 rfl (lv_at hl 1 rfl) ?_
  refine GX2_89 E hM hk1 dX2_copyFrom_211 ?_
  obtain ⟨m65, em65, hf⟩ := gv_o hf
  refine PX2_89 E hM hS hk0 em65 dX2_copyFrom_214 (fun H locs hM hS => ?_)
  exact ge_v E hr hlocks hf hM hS (Nat.le_of_ble_eq_true rfl) (Nat.le_of_ble_eq_true rfl) dX2_copyFrom_217
theorem c_X2_copyFrom (l : Launch) (X : gX) (c0 : Nat) (c1 : Nat) (m0 : gMem) {res : Unit × gMem} (hk0 : gk c0 = 2) (hk1 : gk c1 = 2) (hf : f_X2_copyFrom c0 c1 m0 = some res) : Met l yX2_copyFrom (gWs yX2_copyFrom cX2_copyFrom 3 none) { frames := 2, cells := 0, slots := 0, locals := 81 } (va_Pc [.ref (X.1 + c0), .ref (X.1 + c1)] (gB X m0)) (gQv X res) 0 0 (gA X) :=
  gMet (own := RX2) (by decide +kernel) rfl (Nat.le_of_ble_eq_true rfl) (fun p e s m args below meth c ls E hr hlocks hml hM hl => b_X2_copyFrom E hr hlocks hml (Nat.le_refl _) (Nat.le_refl _) (Nat.le_refl _) (Nat.le_refl _) hk0 hk1 hf hM va_S.rf hl)
def f_X1_keep (c0 : Nat) (c1 : Nat) (m0 : gMem) : Option (Unit × gMem) := g1 (f_J9_floorMod_7cf53 ((m0 c0 1) + (1 : Int32)) (8 : Int32) m0) (fun r3 m1 => gv (ms m1 c0 1 r3) (fun m4 => if ¬ ((m4 c0 1) < 0 ∨ gl (c0 + 1) ≤ (m4 c0 1).toNatClampNeg) then g1 (f_X2_copyFrom ((c0 + 1) + (1 + 35 * (m4 c0 1).toNatClampNeg)) c1 m4) (fun r10 m8 => gv (ms m8 c0 2 (if ((m8 c0 2) + (1 : Int32)) < (8 : Int32) then ((m8 c0 2) + (1 : Int32)) else (8 : Int32))) (fun m11 => some ((), m11))) else none))
set_option maxRecDepth 100000 in
set_option maxHeartbeats 4000000 in
theorem b_X1_keep {p : Program} {l : Launch} {e : Env} {R : Room} {s : State} {m : MethodId} {args : Array Value} {below : List Frame} {meth : Method} {c : Code} {H : Heap} {locs : List Loc} {ls : Array Slot} {X : gX} (E : gEn p s m args c cX1_keep RX1 X) (hr : meth.sig.returnType = none) (hlocks : meth.locks = false) (hml : c.maxLocals = 2) (hRf : 3 ≤ R.frames) (hRl : 103 ≤ R.locals) (hRc : 0 ≤ R.cells) (hRs : 0 ≤ R.slots) {c0 : Nat} {c1 : Nat} {m0 : gMem} {res : Unit × gMem} (hk0 : gk c0 = 1) (hk1 : gk c1 = 2) (hf : f_X1_keep c0 c1 m0 = some res) (hM : gM X m0 H) (hS : va_S (gA X) s.heap H locs) (hl : lv_has ls 2 [(0, .ref (X.1 + c0)), (1, .ref (X.1 + c1))]) : W p l e R s m args below meth c H locs 0 0 (MQ below (gQv X res) args s 0 0 (gA X)) (F0 m 0 ls []) := by
  obtain ⟨hx, hb⟩ := (⟨E.1, E.2.1⟩ : _ ∧ _)
  unfold f_X1_keep at hf
  refine lv_aload_n hx hb dX1_keep_0 rfl (lv_at hl 0 rfl) ?_
  refine lv_aload_n hx hb dX1_keep_1 rfl (lv_at hl 0 rfl) ?_
  refine GX1_18 E hM hk0 dX1_keep_2 ?_
  refine lv_iconst (v := (1 : Int32)) hx hb dX1_keep_5 (by decide) ?_
  refine lv_iadd hx hb dX1_keep_6 ?_
  refine lv_bipush (v := (8 : Int32)) hx hb dX1_keep_7 (by decide) ?_
  obtain ⟨r3, m1, hqq2, hf⟩ := g1_o hf
  refine ga_i (gr_S (As := [.int ((m0 c0 1) + (1 : Int32)), .int (8 : Int32)]) (rm := { frames := 0, cells := 0, slots := 0, locals := 0 }) E hml hl.1 (c_J9_floorMod_7cf53 l X ((m0 c0 1) + (1 : Int32)) (8 : Int32) m0 hqq2) wt_J9_floorMod_7cf53 wl_RX1_22 rfl hM hS rfl rfl (Nat.le_trans (by decide) hRf) (Nat.le_trans (by decide) hRl) (Nat.le_trans (Nat.le_of_ble_eq_true rfl) hRc) (Nat.le_trans (Nat.le_of_ble_eq_true rfl) hRs) (Nat.le_of_ble_eq_true rfl) dX1_keep_9 rfl) hS (fun H locs hM hS => ?_)
  obtain ⟨m4, em4, hf⟩ := gv_o hf
  refine PX1_18 E hM hS hk0 em4 dX1_keep_12 (fun H locs hM hS => ?_)
  refine lv_aload_n hx hb dX1_keep_15 rfl (lv_at hl 0 rfl) ?_
  refine GX1_11 E hM hk0 dX1_keep_16 ?_
  have hg5 : gk (c0 + 1) = 27 := gkf_1_0 hk0
  refine lv_aload_n hx hb dX1_keep_19 rfl (lv_at hl 0 rfl) ?_
  refine GX1_18 E hM hk0 dX1_keep_20 ?_
  obtain ⟨hi6, hf⟩ := g_ck hf
  refine gg_aald (k := 27) E hM (gk_in hg5 (by decide)) hg5 (by decide) rfl hi6 rfl rfl dX1_keep_23 ?_
  have hg7 : gk ((c0 + 1) + (1 + 35 * (m4 c0 1).toNatClampNeg)) = 2 := gka_27 hg5 hi6
  refine lv_aload_n hx hb dX1_keep_24 rfl (lv_at hl 1 rfl) ?_
  obtain ⟨r10, m8, hqq9, hf⟩ := g1_o hf
  refine ga_v (gr_V (As := [.ref (X.1 + c1)]) (ci := 2) (rm := { frames := 2, cells := 0, slots := 0, locals := 81 }) E hml hl.1 (c_X2_copyFrom l X ((c0 + 1) + (1 + 35 * (m4 c0 1).toNatClampNeg)) c1 m4 hg7 hk1 hqq9) wt_X2_copyFrom wl_RX1_28 rfl hg7 (by decide) rfl rfl hM hS rfl rfl (Nat.le_trans (by decide) hRf) (Nat.le_trans (by decide) hRl) (Nat.le_trans (Nat.le_of_ble_eq_true rfl) hRc) (Nat.le_trans (Nat.le_of_ble_eq_true rfl) hRs) (Nat.le_of_ble_eq_true rfl) dX1_keep_25 rfl) hS (fun H locs hM hS => ?_)
  refine lv_aload_n hx hb dX1_keep_28 rfl (lv_at hl 0 rfl) ?_
  refine lv_bipush (v := (8 : Int32)) hx hb dX1_keep_29 (by decide) ?_
  refine lv_aload_n hx hb dX1_keep_31 rfl (lv_at hl 0 rfl) ?_
  refine GX1_32 E hM hk0 dX1_keep_32 ?_
  refine lv_iconst (v := (1 : Int32)) hx hb dX1_keep_35 (by decide) ?_
  refine lv_iadd hx hb dX1_keep_36 ?_
  refine gg_min E hml hl.1 wl_RX1_35 wj_min_s wj_math wj_min_c (Nat.le_trans (by decide) hRf) (Nat.le_trans (Nat.le_of_ble_eq_true rfl) hRl) (Nat.le_trans (Nat.le_of_ble_eq_true rfl) hRc) (Nat.le_trans (Nat.le_of_ble_eq_true rfl) hRs) dX1_keep_37 ?_
  obtain ⟨m11, em11, hf⟩ := gv_o hf
  refine PX1_32 E hM hS hk0 em11 dX1_keep_40 (fun H locs hM hS => ?_)
  exact ge_v E hr hlocks hf hM hS (Nat.le_of_ble_eq_true rfl) (Nat.le_of_ble_eq_true rfl) dX1_keep_43
theorem c_X1_keep (l : Launch) (X : gX) (c0 : Nat) (c1 : Nat) (m0 : gMem) {res : Unit × gMem} (hk0 : gk c0 = 1) (hk1 : gk c1 = 2) (hf : f_X1_keep c0 c1 m0 = some res) : Met l yX1_keep (gWs yX1_keep cX1_keep 2 none) { frames := 3, cells := 0, slots := 0, locals := 103 } (va_Pc [.ref (X.1 + c0), .ref (X.1 + c1)] (gB X m0)) (gQv X res) 0 0 (gA X) :=
  gMet (own := RX1) (by decide +kernel) rfl (Nat.le_of_ble_eq_true rfl) (fun p e s m args below meth c ls E hr hlocks hml hM hl => b_X1_keep E hr hlocks hml (Nat.le_refl _) (Nat.le_refl _) (Nat.le_refl _) (Nat.le_refl _) hk0 hk1 hf hM va_S.rf hl)
def f_X2_setHumidity (c0 : Nat) (u1 : Int32) (u2 : Int32) (m0 : gMem) : Option (Int32 × gMem) := g1 (f_J9_floorMod_7cf53 u1 (24 : Int32) m0) (fun r3 m1 => if ¬ (r3 < 0 ∨ gl (c0 + 1) ≤ r3.toNatClampNeg) then gv ((m1 (c0 + 1) r3.toNatClampNeg)) (fun x6 => gv (ms m1 (c0 + 1) r3.toNatClampNeg u2) (fun m7 => some (x6, m7))) else none)
set_option maxRecDepth 100000 in
set_option maxHeartbeats 4000000 in
theorem b_X2_setHumidity {p : Program} {l : Launch} {e : Env} {R : Room} {s : State} {m : MethodId} {args : Array Value} {below : List Frame} {meth : Method} {c : Code} {H : Heap} {locs : List Loc} {ls : Array Slot} {X : gX} (E : gEn p s m args c cX2_setHumidity RX2 X) (hr : meth.sig.returnType = (some .int)) (hlocks : meth.locks = false) (hml : c.maxLocals = 5) (hRf : 1 ≤ R.frames) (hRl : 22 ≤ R.locals) (hRc : 0 ≤ R.cells) (hRs : 0 ≤ R.slots) {c0 : Nat} {u1 : Int32} {u2 : Int32} {m0 : gMem} {res : Int32 × gMem} (hk0 : gk c0 = 2) (hf : f_X2_setHumidity c0 u1 u2 m0 = some res) (hM : gM X m0 H) (hS : va_S (gA X) s.heap H locs) (hl : lv_has ls 5 [(0, .ref (X.1 + c0)), (1, .int u1), (2, .int u2)]) : W p l e R s m args below meth c H locs 0 0 (MQ below (gQi X res) args s 0 0 (gA X)) (F0 m 0 ls []) := by
  obtain ⟨hx, hb⟩ := (⟨E.1, E.2.1⟩ : _ ∧ _)
  unfold f_X2_setHumidity at hf
  refine lv_iload_n hx hb dX2_setHumidity_0 rfl (lv_at hl 1 rfl) ?_
  refine lv_bipush (v := (24 : Int32)) hx hb dX2_setHumidity_1 (by decide) ?_
  obtain ⟨r3, m1, hqq2, hf⟩ := g1_o hf
  refine ga_i (gr_S (As := [.int u1, .int (24 : Int32)]) (rm := { frames := 0, cells := 0, slots := 0, locals := 0 }) E hml hl.1 (c_J9_floorMod_7cf53 l X u1 (24 : Int32) m0 hqq2) wt_J9_floorMod_7cf53 wl_RX2_92 rfl hM hS rfl rfl (Nat.le_trans (by decide) hRf) (Nat.le_trans (by decide) hRl) (Nat.le_trans (Nat.le_of_ble_eq_true rfl) hRc) (Nat.le_trans (Nat.le_of_ble_eq_true rfl) hRs) (Nat.le_of_ble_eq_true rfl) dX2_setHumidity_3 rfl) hS (fun H locs hM hS => ?_)
  refine lv_istore_n (lv' := [(3, .int r3), (0, .ref (X.1 + c0)), (1, .int u1), (2, .int u2)]) hx hb dX2_setHumidity_6 rfl hl (by decide) rfl (fun ls hl => ?_)
  refine lv_aload_n hx hb dX2_setHumidity_7 rfl (lv_at hl 1 rfl) ?_
  refine GX2_15 E hM hk0 dX2_setHumidity_8 ?_
  have hg4 : gk (c0 + 1) = 20 := gkf_2_2 hk0
  refine lv_iload_n hx hb dX2_setHumidity_11 rfl (lv_at hl 0 rfl) ?_
  obtain ⟨hi5, hf⟩ := g_ck hf
  refine gg_iald E hM (gk_in hg4 (by decide)) hg4 hi5 dX2_setHumidity_12 ?_
  obtain ⟨x6, ex6, hf⟩ := gv_o hf
  rw [← ex6]
  refine lv_istore (lv' := [(4, .int x6), (3, .int r3), (0, .ref (X.1 + c0)), (1, .int u1), (2, .int u2)]) hx hb dX2_setHumidity_13 hl (by decide) rfl (fun ls hl => ?_)
  refine lv_aload_n hx hb dX2_setHumidity_15 rfl (lv_at hl 2 rfl) ?_
  refine GX2_15 E hM hk0 dX2_setHumidity_16 ?_
  refine lv_iload_n hx hb dX2_setHumidity_19 rfl (lv_at hl 1 rfl) ?_
  refine lv_iload_n hx hb dX2_setHumidity_20 rfl (lv_at hl 4 rfl) ?_
  obtain ⟨m7, em7, hf⟩ := gv_o hf
  refine gg_iast E (fun c hc => gA_in X hc) hM hS (gk_in hg4 (by decide)) hg4 hi5 em7 dX2_setHumidity_21 (fun H locs hM hS => ?_)
  refine lv_iload hx hb dX2_setHumidity_22 (lv_at hl 0 rfl) ?_
  exact ge_i E hr hlocks hf hM hS (Nat.le_of_ble_eq_true rfl) (Nat.le_of_ble_eq_true rfl) dX2_setHumidity_24
theorem c_X2_setHumidity (l : Launch) (X : gX) (c0 : Nat) (u1 : Int32) (u2 : Int32) (m0 : gMem) {res : Int32 × gMem} (hk0 : gk c0 = 2) (hf : f_X2_setHumidity c0 u1 u2 m0 = some res) : Met l yX2_setHumidity (gWs yX2_setHumidity cX2_setHumidity 5 (some .int)) { frames := 1, cells := 0, slots := 0, locals := 22 } (va_Pc [.ref (X.1 + c0), .int u1, .int u2] (gB X m0)) (gQi X res) 0 0 (gA X) :=
  gMet (own := RX2) (by decide +kernel) rfl (Nat.le_of_ble_eq_true rfl) (fun p e s m args below meth c ls E hr hlocks hml hM hl => b_X2_setHumidity E hr hlocks hml (Nat.le_refl _) (Nat.le_refl _) (Nat.le_refl _) (Nat.le_refl _) hk0 hf hM va_S.rf hl)
def f_X8_isGrade (u0 : Int32) (m0 : gMem) : Option (Int32 × gMem) := if u0 < (0 : Int32) then (some ((0 : Int32), m0)) else (if (3 : Int32) ≤ u0 then (some ((0 : Int32), m0)) else (some ((1 : Int32), m0)))
set_option maxRecDepth 100000 in
set_option maxHeartbeats 4000000 in
theorem b_X8_isGrade {p : Program} {l : Launch} {e : Env} {R : Room} {s : State} {m : MethodId} {args : Array Value} {below : List Frame} {meth : Method} {c : Code} {H : Heap} {locs : List Loc} {ls : Array Slot} {X : gX} (E : gEn p s m args c cX8_isGrade RX8 X) (hr : meth.sig.returnType = (some .boolean)) (hlocks : meth.locks = false) (hml : c.maxLocals = 1) (hRf : 0 ≤ R.frames) (hRl : 0 ≤ R.locals) (hRc : 0 ≤ R.cells) (hRs : 0 ≤ R.slots) {u0 : Int32} {m0 : gMem} {res : Int32 × gMem}  (hf : f_X8_isGrade u0 m0 = some res) (hM : gM X m0 H) (hS : va_S (gA X) s.heap H locs) (hl : lv_has ls 1 [(0, .int u0)]) : W p l e R s m args below meth c H locs 0 0 (MQ below (gQi X res) args s 0 0 (gA X)) (F0 m 0 ls []) := by
  obtain ⟨hx, hb⟩ := (⟨E.1, E.2.1⟩ : _ ∧ _)
  unfold f_X8_isGrade at hf
  refine lv_iload_n hx hb dX8_isGrade_0 rfl (lv_at hl 0 rfl) ?_
  refine lv_if_lt (tgt := 13) hx hb dX8_isGrade_1 (by decide) (fun h1 => ?_) (fun h1 => ?_)
  · have hf := g_t h1 hf
    refine lv_iconst (v := (0 : Int32)) hx hb dX8_isGrade_13 (by decide) ?_
    exact ge_z E hr rfl hlocks hf hM hS (Nat.le_of_ble_eq_true rfl) (Nat.le_of_ble_eq_true rfl) dX8_isGrade_14
  · have hf := g_f h1 hf
    refine lv_iload_n hx hb dX8_isGrade_4 rfl (lv_at hl 0 rfl) ?_
    refine lv_iconst (v := (3 : Int32)) hx hb dX8_isGrade_5 (by decide) ?_
    refine lv_icmp_ge (tgt := 13) hx hb dX8_isGrade_6 (by decide) (fun h2 => ?_) (fun h2 => ?_)
    · have hf := g_t h2 hf
      refine lv_iconst (v := (0 : Int32)) hx hb dX8_isGrade_13 (by decide) ?_
      exact ge_z E hr rfl hlocks hf hM hS (Nat.le_of_ble_eq_true rfl) (Nat.le_of_ble_eq_true rfl) dX8_isGrade_14
    · have hf := g_f h2 hf
      refine lv_iconst (v := (1 : Int32)) hx hb dX8_isGrade_9 (by decide) ?_
      refine lv_goto (tgt := 14) hx hb dX8_isGrade_10 (by decide) ?_
      exact ge_z E hr rfl hlocks hf hM hS (Nat.le_of_ble_eq_true rfl) (Nat.le_of_ble_eq_true rfl) dX8_isGrade_14
theorem c_X8_isGrade (l : Launch) (X : gX) (u0 : Int32) (m0 : gMem) {res : Int32 × gMem}  (hf : f_X8_isGrade u0 m0 = some res) : Met l yX8_isGrade (gWs yX8_isGrade cX8_isGrade 1 (some .boolean)) { frames := 0, cells := 0, slots := 0, locals := 0 } (va_Pc [.int u0] (gB X m0)) (gQi X res) 0 0 (gA X) :=
  gMet (own := RX8) (by decide +kernel) rfl (Nat.le_of_ble_eq_true rfl) (fun p e s m args below meth c ls E hr hlocks hml hM hl => b_X8_isGrade E hr hlocks hml (Nat.le_refl _) (Nat.le_refl _) (Nat.le_refl _) (Nat.le_refl _)  hf hM va_S.rf hl)
def f_X8_isPurchase (u0 : Int32) (u1 : Int32) (m0 : gMem) : Option (Int32 × gMem) := g1 (f_X8_isGrade u0 m0) (fun r3 m1 => if r3 = (0 : Int32) then (some ((0 : Int32), m1)) else (g1 (f_X8_isBetween (1 : Int32) u1 (99 : Int32) m1) (fun r7 m5 => if r7 = (0 : Int32) then (some ((0 : Int32), m5)) else (some ((1 : Int32), m5)))))
set_option maxRecDepth 100000 in
set_option maxHeartbeats 4000000 in
theorem b_X8_isPurchase {p : Program} {l : Launch} {e : Env} {R : Room} {s : State} {m : MethodId} {args : Array Value} {below : List Frame} {meth : Method} {c : Code} {H : Heap} {locs : List Loc} {ls : Array Slot} {X : gX} (E : gEn p s m args c cX8_isPurchase RX8 X) (hr : meth.sig.returnType = (some .boolean)) (hlocks : meth.locks = false) (hml : c.maxLocals = 2) (hRf : 1 ≤ R.frames) (hRl : 22 ≤ R.locals) (hRc : 0 ≤ R.cells) (hRs : 0 ≤ R.slots) {u0 : Int32} {u1 : Int32} {m0 : gMem} {res : Int32 × gMem}  (hf : f_X8_isPurchase u0 u1 m0 = some res) (hM : gM X m0 H) (hS : va_S (gA X) s.heap H locs) (hl : lv_has ls 2 [(0, .int u0), (1, .int u1)]) : W p l e R s m args below meth c H locs 0 0 (MQ below (gQi X res) args s 0 0 (gA X)) (F0 m 0 ls []) := by
  obtain ⟨hx, hb⟩ := (⟨E.1, E.2.1⟩ : _ ∧ _)
  unfold f_X8_isPurchase at hf
  refine lv_iload_n hx hb dX8_isPurchase_0 rfl (lv_at hl 0 rfl) ?_
  obtain ⟨r3, m1, hqq2, hf⟩ := g1_o hf
  refine ga_i (gr_S (As := [.int u0]) (rm := { frames := 0, cells := 0, slots := 0, locals := 0 }) E hml hl.1 (c_X8_isGrade l X u0 m0 hqq2) wt_X8_isGrade wl_RX8_98 rfl hM hS rfl rfl (Nat.le_trans (by decide) hRf) (Nat.le_trans (by decide) hRl) (Nat.le_trans (Nat.le_of_ble_eq_true rfl) hRc) (Nat.le_trans (Nat.le_of_ble_eq_true rfl) hRs) (Nat.le_of_ble_eq_true rfl) dX8_isPurchase_1 rfl) hS (fun H locs hM hS => ?_)
  refine lv_if_eq (tgt := 21) hx hb dX8_isPurchase_4 (by decide) (fun h4 => ?_) (fun h4 => ?_)
  · have hf := g_t h4 hf
    refine lv_iconst (v := (0 : Int32)) hx hb dX8_isPurchase_21 (by decide) ?_
    exact ge_z E hr rfl hlocks hf hM hS (Nat.le_of_ble_eq_true rfl) (Nat.le_of_ble_eq_true rfl) dX8_isPurchase_22
  · have hf := g_f h4 hf
    refine lv_iconst (v := (1 : Int32)) hx hb dX8_isPurchase_7 (by decide) ?_
    refine lv_iload_n hx hb dX8_isPurchase_8 rfl (lv_at hl 1 rfl) ?_
    refine lv_bipush (v := (99 : Int32)) hx hb dX8_isPurchase_9 (by decide) ?_
    obtain ⟨r7, m5, hqq6, hf⟩ := g1_o hf
    refine ga_i (gr_S (As := [.int (1 : Int32), .int u1, .int (99 : Int32)]) (rm := { frames := 0, cells := 0, slots := 0, locals := 0 }) E hml hl.1 (c_X8_isBetween l X (1 : Int32) u1 (99 : Int32) m1 hqq6) wt_X8_isBetween wl_RX8_50 rfl hM hS rfl rfl (Nat.le_trans (by decide) hRf) (Nat.le_trans (by decide) hRl) (Nat.le_trans (Nat.le_of_ble_eq_true rfl) hRc) (Nat.le_trans (Nat.le_of_ble_eq_true rfl) hRs) (Nat.le_of_ble_eq_true rfl) dX8_isPurchase_11 rfl) hS (fun H locs hM hS => ?_)
    refine lv_if_eq (tgt := 21) hx hb dX8_isPurchase_14 (by decide) (fun h8 => ?_) (fun h8 => ?_)
    · have hf := g_t h8 hf
      refine lv_iconst (v := (0 : Int32)) hx hb dX8_isPurchase_21 (by decide) ?_
      exact ge_z E hr rfl hlocks hf hM hS (Nat.le_of_ble_eq_true rfl) (Nat.le_of_ble_eq_true rfl) dX8_isPurchase_22
    · have hf := g_f h8 hf
      refine lv_iconst (v := (1 : Int32)) hx hb dX8_isPurchase_17 (by decide) ?_
      refine lv_goto (tgt := 22) hx hb dX8_isPurchase_18 (by decide) ?_
      exact ge_z E hr rfl hlocks hf hM hS (Nat.le_of_ble_eq_true rfl) (Nat.le_of_ble_eq_true rfl) dX8_isPurchase_22
theorem c_X8_isPurchase (l : Launch) (X : gX) (u0 : Int32) (u1 : Int32) (m0 : gMem) {res : Int32 × gMem}  (hf : f_X8_isPurchase u0 u1 m0 = some res) : Met l yX8_isPurchase (gWs yX8_isPurchase cX8_isPurchase 2 (some .boolean)) { frames := 1, cells := 0, slots := 0, locals := 22 } (va_Pc [.int u0, .int u1] (gB X m0)) (gQi X res) 0 0 (gA X) :=
  gMet (own := RX8) (by decide +kernel) rfl (Nat.le_of_ble_eq_true rfl) (fun p e s m args below meth c ls E hr hlocks hml hM hl => b_X8_isPurchase E hr hlocks hml (Nat.le_refl _) (Nat.le_refl _) (Nat.le_refl _) (Nat.le_refl _)  hf hM va_S.rf hl)
def f_X2_stockOf (c0 : Nat) (u1 : Int32) (m0 : gMem) : Option (Int32 × gMem) := g1 (f_X8_isGrade u1 m0) (fun r3 m1 => if r3 = (0 : Int32) then (some ((0 : Int32), m1)) else (if ¬ (u1 < 0 ∨ gl (c0 + 2) ≤ u1.toNatClampNeg) then some ((m1 (c0 + 2) u1.toNatClampNeg), m1) else none))
set_option maxRecDepth 100000 in
set_option maxHeartbeats 4000000 in
theorem b_X2_stockOf {p : Program} {l : Launch} {e : Env} {R : Room} {s : State} {m : MethodId} {args : Array Value} {below : List Frame} {meth : Method} {c : Code} {H : Heap} {locs : List Loc} {ls : Array Slot} {X : gX} (E : gEn p s m args c cX2_stockOf RX2 X) (hr : meth.sig.returnType = (some .int)) (hlocks : meth.locks = false) (hml : c.maxLocals = 2) (hRf : 1 ≤ R.frames) (hRl : 20 ≤ R.locals) (hRc : 0 ≤ R.cells) (hRs : 0 ≤ R.slots) {c0 : Nat} {u1 : Int32} {m0 : gMem} {res : Int32 × gMem} (hk0 : gk c0 = 2) (hf : f_X2_stockOf c0 u1 m0 = some res) (hM : gM X m0 H) (hS : va_S (gA X) s.heap H locs) (hl : lv_has ls 2 [(0, .ref (X.1 + c0)), (1, .int u1)]) : W p l e R s m args below meth c H locs 0 0 (MQ below (gQi X res) args s 0 0 (gA X)) (F0 m 0 ls []) := by
  obtain ⟨hx, hb⟩ := (⟨E.1, E.2.1⟩ : _ ∧ _)
  unfold f_X2_stockOf at hf
  refine lv_iload_n hx hb dX2_stockOf_0 rfl (lv_at hl 1 rfl) ?_
  obtain ⟨r3, m1, hqq2, hf⟩ := g1_o hf
  refine ga_i (gr_SN (As := [.int u1]) (rm := { frames := 0, cells := 0, slots := 0, locals := 0 }) E hml hl.1 (c_X8_isGrade l X u1 m0 hqq2) wt_X8_isGrade wl_RX2_98 rfl hM hS rfl rfl (Nat.le_trans (by decide) hRf) (Nat.le_trans (by decide) hRl) (Nat.le_trans (Nat.le_of_ble_eq_true rfl) hRc) (Nat.le_trans (Nat.le_of_ble_eq_true rfl) hRs) (Nat.le_of_ble_eq_true rfl) dX2_stockOf_1 rfl) hS (fun H locs hM hS => ?_)
  refine lv_if_eq (tgt := 16) hx hb dX2_stockOf_4 (by decide) (fun h4 => ?_) (fun h4 => ?_)
  · have hf := g_t h4 hf
    refine lv_iconst (v := (0 : Int32)) hx hb dX2_stockOf_16 (by decide) ?_
    exact ge_i E hr hlocks hf hM hS (Nat.le_of_ble_eq_true rfl) (Nat.le_of_ble_eq_true rfl) dX2_stockOf_17
  · have hf := g_f h4 hf
    refine lv_aload_n hx hb dX2_stockOf_7 rfl (lv_at hl 0 rfl) ?_
    refine GX2_19 E hM hk0 dX2_stockOf_8 ?_
    have hg5 : gk (c0 + 2) = 20 := gkf_2_3 hk0
    refine lv_iload_n hx hb dX2_stockOf_11 rfl (lv_at hl 1 rfl) ?_
    obtain ⟨hi6, hf⟩ := g_ck hf
    refine gg_iald E hM (gk_in hg5 (by decide)) hg5 hi6 dX2_stockOf_12 ?_
    refine lv_goto (tgt := 17) hx hb dX2_stockOf_13 (by decide) ?_
    exact ge_i E hr hlocks hf hM hS (Nat.le_of_ble_eq_true rfl) (Nat.le_of_ble_eq_true rfl) dX2_stockOf_17
theorem c_X2_stockOf (l : Launch) (X : gX) (c0 : Nat) (u1 : Int32) (m0 : gMem) {res : Int32 × gMem} (hk0 : gk c0 = 2) (hf : f_X2_stockOf c0 u1 m0 = some res) : Met l yX2_stockOf (gWs yX2_stockOf cX2_stockOf 2 (some .int)) { frames := 1, cells := 0, slots := 0, locals := 20 } (va_Pc [.ref (X.1 + c0), .int u1] (gB X m0)) (gQi X res) 0 0 (gA X) :=
  gMet (own := RX2) (by decide +kernel) rfl (Nat.le_of_ble_eq_true rfl) (fun p e s m args below meth c ls E hr hlocks hml hM hl => b_X2_stockOf E hr hlocks hml (Nat.le_refl _) (Nat.le_refl _) (Nat.le_refl _) (Nat.le_refl _) hk0 hf hM va_S.rf hl)
def f_X4_because (c0 : Nat) (u1 : Int32) (u2 : Int32) (m0 : gMem) : Option (Int32 × gMem) := gv (ms m0 c0 0 u1) (fun m1 => gv (ms m1 c0 1 u2) (fun m2 => some (u1, m2)))
set_option maxRecDepth 100000 in
set_option maxHeartbeats 4000000 in
theorem b_X4_because {p : Program} {l : Launch} {e : Env} {R : Room} {s : State} {m : MethodId} {args : Array Value} {below : List Frame} {meth : Method} {c : Code} {H : Heap} {locs : List Loc} {ls : Array Slot} {X : gX} (E : gEn p s m args c cX4_because RX4 X) (hr : meth.sig.returnType = (some .int)) (hlocks : meth.locks = false) (hml : c.maxLocals = 3) (hRf : 0 ≤ R.frames) (hRl : 0 ≤ R.locals) (hRc : 0 ≤ R.cells) (hRs : 0 ≤ R.slots) {c0 : Nat} {u1 : Int32} {u2 : Int32} {m0 : gMem} {res : Int32 × gMem} (hk0 : gk c0 = 4) (hf : f_X4_because c0 u1 u2 m0 = some res) (hM : gM X m0 H) (hS : va_S (gA X) s.heap H locs) (hl : lv_has ls 3 [(0, .ref (X.1 + c0)), (1, .int u1), (2, .int u2)]) : W p l e R s m args below meth c H locs 0 0 (MQ below (gQi X res) args s 0 0 (gA X)) (F0 m 0 ls []) := by
  obtain ⟨hx, hb⟩ := (⟨E.1, E.2.1⟩ : _ ∧ _)
  unfold f_X4_because at hf
  refine lv_aload_n hx hb dX4_because_0 rfl (lv_at hl 0 rfl) ?_
  refine lv_iload_n hx hb dX4_because_1 rfl (lv_at hl 1 rfl) ?_
  obtain ⟨m1, em1, hf⟩ := gv_o hf
  refine PX4_9 E hM hS hk0 em1 dX4_because_2 (fun H locs hM hS => ?_)
  refine lv_aload_n hx hb dX4_because_5 rfl (lv_at hl 0 rfl) ?_
  refine lv_iload_n hx hb dX4_because_6 rfl (lv_at hl 2 rfl) ?_
  obtain ⟨m2, em2, hf⟩ := gv_o hf
  refine PX4_15 E hM hS hk0 em2 dX4_because_7 (fun H locs hM hS => ?_)
  refine lv_iload_n hx hb dX4_because_10 rfl (lv_at hl 1 rfl) ?_
  exact ge_i E hr hlocks hf hM hS (Nat.le_of_ble_eq_true rfl) (Nat.le_of_ble_eq_true rfl) dX4_because_11
theorem c_X4_because (l : Launch) (X : gX) (c0 : Nat) (u1 : Int32) (u2 : Int32) (m0 : gMem) {res : Int32 × gMem} (hk0 : gk c0 = 4) (hf : f_X4_because c0 u1 u2 m0 = some res) : Met l yX4_because (gWs yX4_because cX4_because 3 (some .int)) { frames := 0, cells := 0, slots := 0, locals := 0 } (va_Pc [.ref (X.1 + c0), .int u1, .int u2] (gB X m0)) (gQi X res) 0 0 (gA X) :=
  gMet (own := RX4) (by decide +kernel) rfl (Nat.le_of_ble_eq_true rfl) (fun p e s m args below meth c ls E hr hlocks hml hM hl => b_X4_because E hr hlocks hml (Nat.le_refl _) (Nat.le_refl _) (Nat.le_refl _) (Nat.le_refl _) hk0 hf hM va_S.rf hl)
def f_X8_priceOfCube (u0 : Int32) (m0 : gMem) : Option (Int32 × gMem) := if u0 = (0 : Int32) then (some ((1 : Int32), m0)) else (if u0 = (1 : Int32) then (some ((2 : Int32), m0)) else (some ((3 : Int32), m0)))
set_option maxRecDepth 100000 in
set_option maxHeartbeats 4000000 in
theorem b_X8_priceOfCube {p : Program} {l : Launch} {e : Env} {R : Room} {s : State} {m : MethodId} {args : Array Value} {below : List Frame} {meth : Method} {c : Code} {H : Heap} {locs : List Loc} {ls : Array Slot} {X : gX} (E : gEn p s m args c cX8_priceOfCube RX8 X) (hr : meth.sig.returnType = (some .int)) (hlocks : meth.locks = false) (hml : c.maxLocals = 1) (hRf : 0 ≤ R.frames) (hRl : 0 ≤ R.locals) (hRc : 0 ≤ R.cells) (hRs : 0 ≤ R.slots) {u0 : Int32} {m0 : gMem} {res : Int32 × gMem}  (hf : f_X8_priceOfCube u0 m0 = some res) (hM : gM X m0 H) (hS : va_S (gA X) s.heap H locs) (hl : lv_has ls 1 [(0, .int u0)]) : W p l e R s m args below meth c H locs 0 0 (MQ below (gQi X res) args s 0 0 (gA X)) (F0 m 0 ls []) := by
  obtain ⟨hx, hb⟩ := (⟨E.1, E.2.1⟩ : _ ∧ _)
  unfold f_X8_priceOfCube at hf
  refine lv_iload_n hx hb dX8_priceOfCube_0 rfl (lv_at hl 0 rfl) ?_
  refine lv_if_ne (tgt := 6) hx hb dX8_priceOfCube_1 (by decide) (fun h1 => ?_) (fun h1 => ?_)
  · have hf := g_f h1 hf
    refine lv_iload_n hx hb dX8_priceOfCube_6 rfl (lv_at hl 0 rfl) ?_
    refine lv_iconst (v := (1 : Int32)) hx hb dX8_priceOfCube_7 (by decide) ?_
    refine lv_icmp_ne (tgt := 15) hx hb dX8_priceOfCube_8 (by decide) (fun h2 => ?_) (fun h2 => ?_)
    · have hf := g_f h2 hf
      refine lv_iconst (v := (3 : Int32)) hx hb dX8_priceOfCube_15 (by decide) ?_
      exact ge_i E hr hlocks hf hM hS (Nat.le_of_ble_eq_true rfl) (Nat.le_of_ble_eq_true rfl) dX8_priceOfCube_16
    · have hf := g_t h2 hf
      refine lv_iconst (v := (2 : Int32)) hx hb dX8_priceOfCube_11 (by decide) ?_
      refine lv_goto (tgt := 16) hx hb dX8_priceOfCube_12 (by decide) ?_
      exact ge_i E hr hlocks hf hM hS (Nat.le_of_ble_eq_true rfl) (Nat.le_of_ble_eq_true rfl) dX8_priceOfCube_16
  · have hf := g_t h1 hf
    refine lv_iconst (v := (1 : Int32)) hx hb dX8_priceOfCube_4 (by decide) ?_
    exact ge_i E hr hlocks hf hM hS (Nat.le_of_ble_eq_true rfl) (Nat.le_of_ble_eq_true rfl) dX8_priceOfCube_5
theorem c_X8_priceOfCube (l : Launch) (X : gX) (u0 : Int32) (m0 : gMem) {res : Int32 × gMem}  (hf : f_X8_priceOfCube u0 m0 = some res) : Met l yX8_priceOfCube (gWs yX8_priceOfCube cX8_priceOfCube 1 (some .int)) { frames := 0, cells := 0, slots := 0, locals := 0 } (va_Pc [.int u0] (gB X m0)) (gQi X res) 0 0 (gA X) :=
  gMet (own := RX8) (by decide +kernel) rfl (Nat.le_of_ble_eq_true rfl) (fun p e s m args below meth c ls E hr hlocks hml hM hl => b_X8_priceOfCube E hr hlocks hml (Nat.le_refl _) (Nat.le_refl _) (Nat.le_refl _) (Nat.le_refl _)  hf hM va_S.rf hl)
def f_X2_reasonAgainstBuying (c0 : Nat) (c1 : Nat) (u2 : Int32) (u3 : Int32) (m0 : gMem) : Option (Int32 × gMem) := g1 (f_X2_stockOf c0 u2 m0) (fun r3 m1 => if (r3 + u3) ≤ (300 : Int32) then (g1 (f_X8_priceOfCube u2 m1) (fun r7 m5 => gv (((u3 * r7) - (m5 c0 1))) (fun x8 => if x8 ≤ (0 : Int32) then (some ((0 : Int32), m5)) else (g1 (f_X4_because c1 (2 : Int32) x8 m5) (fun r12 m10 => some (r12, m10)))))) else (g1 (f_X4_because c1 (3 : Int32) r3 m1) (fun r15 m13 => some (r15, m13))))
set_option maxRecDepth 100000 in
set_option maxHeartbeats 4000000 in
theorem b_X2_reasonAgainstBuying {p : Program} {l : Launch} {e : Env} {R : Room} {s : State} {m : MethodId} {args : Array Value} {below : List Frame} {meth : Method} {c : Code} {H : Heap} {locs : List Loc} {ls : Array Slot} {X : gX} (E : gEn p s m args c cX2_reasonAgainstBuying RX2 X) (hr : meth.sig.returnType = (some .int)) (hlocks : meth.locks = false) (hml : c.maxLocals = 6) (hRf : 2 ≤ R.frames) (hRl : 41 ≤ R.locals) (hRc : 0 ≤ R.cells) (hRs : 0 ≤ R.slots) {c0 : Nat} {c1 : Nat} {u2 : Int32} {u3 : Int32} {m0 : gMem} {res : Int32 × gMem} (hk0 : gk c0 = 2) (hk1 : gk c1 = 4) (hf : f_X2_reasonAgainstBuying c0 c1 u2 u3 m0 = some res) (hM : gM X m0 H) (hS : va_S (gA X) s.heap H locs) (hl : lv_has ls 6 [(0, .ref (X.1 + c0)), (1, .ref (X.1 + c1)), (2, .int u2), (3, .int u3)]) : W p l e R s m args below meth c H locs 0 0 (MQ below (gQi X res) args s 0 0 (gA X)) (F0 m 0 ls []) := by
  obtain ⟨hx, hb⟩ := (⟨E.1, E.2.1⟩ : _ ∧ _)
  unfold f_X2_reasonAgainstBuying at hf
  refine lv_aload_n hx hb dX2_reasonAgainstBuying_0 rfl (lv_at hl 0 rfl) ?_
  refine lv_iload_n hx hb dX2_reasonAgainstBuying_1 rfl (lv_at hl 2 rfl) ?_
  obtain ⟨r3, m1, hqq2, hf⟩ := g1_o hf
  refine ga_i (gr_V (As := [.int u2]) (ci := 2) (rm := { frames := 1, cells := 0, slots := 0, locals := 20 }) E hml hl.1 (c_X2_stockOf l X c0 u2 m0 hk0 hqq2) wt_X2_stockOf wl_RX2_102 rfl hk0 (by decide) rfl rfl hM hS rfl rfl (Nat.le_trans (by decide) hRf) (Nat.le_trans (by decide) hRl) (Nat.le_trans (Nat.le_of_ble_eq_true rfl) hRc) (Nat.le_trans (Nat.le_of_ble_eq_true rfl) hRs) (Nat.le_of_ble_eq_true rfl) dX2_reasonAgainstBuying_2 rfl) hS (fun H locs hM hS => ?_)
  refine lv_istore (lv' := [(4, .int r3), (0, .ref (X.1 + c0)), (1, .ref (X.1 + c1)), (2, .int u2), (3, .int u3)]) hx hb dX2_reasonAgainstBuying_5 hl (by decide) rfl (fun ls hl => ?_)
  refine lv_iload hx hb dX2_reasonAgainstBuying_7 (lv_at hl 0 rfl) ?_
  refine lv_iload_n hx hb dX2_reasonAgainstBuying_9 rfl (lv_at hl 4 rfl) ?_
  refine lv_iadd hx hb dX2_reasonAgainstBuying_10 ?_
  refine lv_sipush (v := (300 : Int32)) hx hb dX2_reasonAgainstBuying_11 (by decide) ?_
  refine lv_icmp_le (tgt := 25) hx hb dX2_reasonAgainstBuying_14 (by decide) (fun h4 => ?_) (fun h4 => ?_)
  · have hf := g_t h4 hf
    refine lv_iload_n hx hb dX2_reasonAgainstBuying_25 rfl (lv_at hl 4 rfl) ?_
    refine lv_iload_n hx hb dX2_reasonAgainstBuying_26 rfl (lv_at hl 3 rfl) ?_
    obtain ⟨r7, m5, hqq6, hf⟩ := g1_o hf
    refine ga_i (gr_SN (As := [.int u2]) (rm := { frames := 0, cells := 0, slots := 0, locals := 0 }) E hml hl.1 (c_X8_priceOfCube l X u2 m1 hqq6) wt_X8_priceOfCube wl_RX2_111 rfl hM hS rfl rfl (Nat.le_trans (by decide) hRf) (Nat.le_trans (by decide) hRl) (Nat.le_trans (Nat.le_of_ble_eq_true rfl) hRc) (Nat.le_trans (Nat.le_of_ble_eq_true rfl) hRs) (Nat.le_of_ble_eq_true rfl) dX2_reasonAgainstBuying_27 rfl) hS (fun H locs hM hS => ?_)
    refine lv_imul hx hb dX2_reasonAgainstBuying_30 ?_
    refine lv_aload_n hx hb dX2_reasonAgainstBuying_31 rfl (lv_at hl 1 rfl) ?_
    refine GX2_9 E hM hk0 dX2_reasonAgainstBuying_32 ?_
    refine lv_isub hx hb dX2_reasonAgainstBuying_35 ?_
    obtain ⟨x8, ex8, hf⟩ := gv_o hf
    rw [← ex8]
    refine lv_istore (lv' := [(5, .int x8), (4, .int r3), (0, .ref (X.1 + c0)), (1, .ref (X.1 + c1)), (2, .int u2), (3, .int u3)]) hx hb dX2_reasonAgainstBuying_36 hl (by decide) rfl (fun ls hl => ?_)
    refine lv_iload hx hb dX2_reasonAgainstBuying_38 (lv_at hl 0 rfl) ?_
    refine lv_if_le (tgt := 53) hx hb dX2_reasonAgainstBuying_40 (by decide) (fun h9 => ?_) (fun h9 => ?_)
    · have hf := g_t h9 hf
      refine lv_iconst (v := (0 : Int32)) hx hb dX2_reasonAgainstBuying_53 (by decide) ?_
      exact ge_i E hr hlocks hf hM hS (Nat.le_of_ble_eq_true rfl) (Nat.le_of_ble_eq_true rfl) dX2_reasonAgainstBuying_54
    · have hf := g_f h9 hf
      refine lv_aload_n hx hb dX2_reasonAgainstBuying_43 rfl (lv_at hl 3 rfl) ?_
      refine lv_iconst (v := (2 : Int32)) hx hb dX2_reasonAgainstBuying_44 (by decide) ?_
      refine lv_iload hx hb dX2_reasonAgainstBuying_45 (lv_at hl 0 rfl) ?_
      obtain ⟨r12, m10, hqq11, hf⟩ := g1_o hf
      refine ga_i (gr_V (As := [.int (2 : Int32), .int x8]) (ci := 4) (rm := { frames := 0, cells := 0, slots := 0, locals := 0 }) E hml hl.1 (c_X4_because l X c1 (2 : Int32) x8 m5 hk1 hqq11) wt_X4_because wl_RX2_106 rfl hk1 (by decide) rfl rfl hM hS rfl rfl (Nat.le_trans (by decide) hRf) (Nat.le_trans (by decide) hRl) (Nat.le_trans (Nat.le_of_ble_eq_true rfl) hRc) (Nat.le_trans (Nat.le_of_ble_eq_true rfl) hRs) (Nat.le_of_ble_eq_true rfl) dX2_reasonAgainstBuying_47 rfl) hS (fun H locs hM hS => ?_)
      refine lv_goto (tgt := 54) hx hb dX2_reasonAgainstBuying_50 (by decide) ?_
      exact ge_i E hr hlocks hf hM hS (Nat.le_of_ble_eq_true rfl) (Nat.le_of_ble_eq_true rfl) dX2_reasonAgainstBuying_54
  · have hf := g_f h4 hf
    refine lv_aload_n hx hb dX2_reasonAgainstBuying_17 rfl (lv_at hl 2 rfl) ?_
    refine lv_iconst (v := (3 : Int32)) hx hb dX2_reasonAgainstBuying_18 (by decide) ?_
    refine lv_iload hx hb dX2_reasonAgainstBuying_19 (lv_at hl 0 rfl) ?_
    obtain ⟨r15, m13, hqq14, hf⟩ := g1_o hf
    refine ga_i (gr_V (As := [.int (3 : Int32), .int r3]) (ci := 4) (rm := { frames := 0, cells := 0, slots := 0, locals := 0 }) E hml hl.1 (c_X4_because l X c1 (3 : Int32) r3 m1 hk1 hqq14) wt_X4_because wl_RX2_106 rfl hk1 (by decide) rfl rfl hM hS rfl rfl (Nat.le_trans (by decide) hRf) (Nat.le_trans (by decide) hRl) (Nat.le_trans (Nat.le_of_ble_eq_true rfl) hRc) (Nat.le_trans (Nat.le_of_ble_eq_true rfl) hRs) (Nat.le_of_ble_eq_true rfl) dX2_reasonAgainstBuying_21 rfl) hS (fun H locs hM hS => ?_)
    exact ge_i E hr hlocks hf hM hS (Nat.le_of_ble_eq_true rfl) (Nat.le_of_ble_eq_true rfl) dX2_reasonAgainstBuying_24
theorem c_X2_reasonAgainstBuying (l : Launch) (X : gX) (c0 : Nat) (c1 : Nat) (u2 : Int32) (u3 : Int32) (m0 : gMem) {res : Int32 × gMem} (hk0 : gk c0 = 2) (hk1 : gk c1 = 4) (hf : f_X2_reasonAgainstBuying c0 c1 u2 u3 m0 = some res) : Met l yX2_reasonAgainstBuying (gWs yX2_reasonAgainstBuying cX2_reasonAgainstBuying 6 (some .int)) { frames := 2, cells := 0, slots := 0, locals := 41 } (va_Pc [.ref (X.1 + c0), .ref (X.1 + c1), .int u2, .int u3] (gB X m0)) (gQi X res) 0 0 (gA X) :=
  gMet (own := RX2) (by decide +kernel) rfl (Nat.le_of_ble_eq_true rfl) (fun p e s m args below meth c ls E hr hlocks hml hM hl => b_X2_reasonAgainstBuying E hr hlocks hml (Nat.le_refl _) (Nat.le_refl _) (Nat.le_refl _) (Nat.le_refl _) hk0 hk1 hf hM va_S.rf hl)
def f_X2_buyCubes (c0 : Nat) (u1 : Int32) (u2 : Int32) (m0 : gMem) : Option (Int32 × gMem) := g1 (f_X8_isGrade u1 m0) (fun r3 m1 => if r3 = (0 : Int32) then (g1 (f_X2_stockOf c0 u1 m1) (fun r7 m5 => some (r7, m5))) else (if ¬ (u1 < 0 ∨ gl (c0 + 2) ≤ u1.toNatClampNeg) then gv (ms m1 (c0 + 2) u1.toNatClampNeg ((m1 (c0 + 2) u1.toNatClampNeg) + u2)) (fun m10 => if ¬ (u1 < 0 ∨ gl (c0 + 3) ≤ u1.toNatClampNeg) then gv (ms m10 (c0 + 3) u1.toNatClampNeg ((m10 (c0 + 3) u1.toNatClampNeg) + u2)) (fun m13 => g1 (f_X8_priceOfCube u1 m13) (fun r16 m14 => gv (ms m14 c0 1 ((m13 c0 1) - (u2 * r16))) (fun m17 => g1 (f_X2_stockOf c0 u1 m17) (fun r20 m18 => some (r20, m18))))) else none) else none))
set_option maxRecDepth 100000 in
set_option maxHeartbeats 4000000 in
theorem b_X2_buyCubes {p : Program} {l : Launch} {e : Env} {R : Room} {s : State} {m : MethodId} {args : Array Value} {below : List Frame} {meth : Method} {c : Code} {H : Heap} {locs : List Loc} {ls : Array Slot} {X : gX} (E : gEn p s m args c cX2_buyCubes RX2 X) (hr : meth.sig.returnType = (some .int)) (hlocks : meth.locks = false) (hml : c.maxLocals = 3) (hRf : 2 ≤ R.frames) (hRl : 41 ≤ R.locals) (hRc : 0 ≤ R.cells) (hRs : 0 ≤ R.slots) {c0 : Nat} {u1 : Int32} {u2 : Int32} {m0 : gMem} {res : Int32 × gMem} (hk0 : gk c0 = 2) (hf : f_X2_buyCubes c0 u1 u2 m0 = some res) (hM : gM X m0 H) (hS : va_S (gA X) s.heap H locs) (hl : lv_has ls 3 [(0, .ref (X.1 + c0)), (1, .int u1), (2, .int u2)]) : W p l e R s m args below meth c H locs 0 0 (MQ below (gQi X res) args s 0 0 (gA X)) (F0 m 0 ls []) := by
  obtain ⟨hx, hb⟩ := (⟨E.1, E.2.1⟩ : _ ∧ _)
  unfold f_X2_buyCubes at hf
  refine lv_iload_n hx hb dX2_buyCubes_0 rfl (lv_at hl 1 rfl) ?_
  obtain ⟨r3, m1, hqq2, hf⟩ := g1_o hf
  refine ga_i (gr_SN (As := [.int u1]) (rm := { frames := 0, cells := 0, slots := 0, locals := 0 }) E hml hl.1 (c_X8_isGrade l X u1 m0 hqq2) wt_X8_isGrade wl_RX2_98 rfl hM hS rfl rfl (Nat.le_trans (by decide) hRf) (Nat.le_trans (by decide) hRl) (Nat.le_trans (Nat.le_of_ble_eq_true rfl) hRc) (Nat.le_trans (Nat.le_of_ble_eq_true rfl) hRs) (Nat.le_of_ble_eq_true rfl) dX2_buyCubes_1 rfl) hS (fun H locs hM hS => ?_)
  refine lv_if_eq (tgt := 42) hx hb dX2_buyCubes_4 (by decide) (fun h4 => ?_) (fun h4 => ?_)
  · have hf := g_t h4 hf
    refine lv_aload_n hx hb dX2_buyCubes_42 rfl (lv_at hl 0 rfl) ?_
    refine lv_iload_n hx hb dX2_buyCubes_43 rfl (lv_at hl 1 rfl) ?_
    obtain ⟨r7, m5, hqq6, hf⟩ := g1_o hf
    refine ga_i (gr_V (As := [.int u1]) (ci := 2) (rm := { frames := 1, cells := 0, slots := 0, locals := 20 }) E hml hl.1 (c_X2_stockOf l X c0 u1 m1 hk0 hqq6) wt_X2_stockOf wl_RX2_102 rfl hk0 (by decide) rfl rfl hM hS rfl rfl (Nat.le_trans (by decide) hRf) (Nat.le_trans (by decide) hRl) (Nat.le_trans (Nat.le_of_ble_eq_true rfl) hRc) (Nat.le_trans (Nat.le_of_ble_eq_true rfl) hRs) (Nat.le_of_ble_eq_true rfl) dX2_buyCubes_44 rfl) hS (fun H locs hM hS => ?_)
    exact ge_i E hr hlocks hf hM hS (Nat.le_of_ble_eq_true rfl) (Nat.le_of_ble_eq_true rfl) dX2_buyCubes_47
  · have hf := g_f h4 hf
    refine lv_aload_n hx hb dX2_buyCubes_7 rfl (lv_at hl 0 rfl) ?_
    refine GX2_19 E hM hk0 dX2_buyCubes_8 ?_
    have hg8 : gk (c0 + 2) = 20 := gkf_2_3 hk0
    refine lv_iload_n hx hb dX2_buyCubes_11 rfl (lv_at hl 1 rfl) ?_
    refine lv_dup2_11 hx hb dX2_buyCubes_12 rfl rfl ?_
    obtain ⟨hi9, hf⟩ := g_ck hf
    refine gg_iald E hM (gk_in hg8 (by decide)) hg8 hi9 dX2_buyCubes_13 ?_
    refine lv_iload_n hx hb dX2_buyCubes_14 rfl (lv_at hl 2 rfl) ?_
    refine lv_iadd hx hb dX2_buyCubes_15 ?_
    obtain ⟨m10, em10, hf⟩ := gv_o hf
    refine gg_iast E (fun c hc => gA_in X hc) hM hS (gk_in hg8 (by decide)) hg8 hi9 em10 dX2_buyCubes_16 (fun H locs hM hS => ?_)
    refine lv_aload_n hx hb dX2_buyCubes_17 rfl (lv_at hl 0 rfl) ?_
    refine GX2_22 E hM hk0 dX2_buyCubes_18 ?_
    have hg11 : gk (c0 + 3) = 20 := gkf_2_4 hk0
    refine lv_iload_n hx hb dX2_buyCubes_21 rfl (lv_at hl 1 rfl) ?_
    refine lv_dup2_11 hx hb dX2_buyCubes_22 rfl rfl ?_
    obtain ⟨hi12, hf⟩ := g_ck hf
    refine gg_iald E hM (gk_in hg11 (by decide)) hg11 hi12 dX2_buyCubes_23 ?_
    refine lv_iload_n hx hb dX2_buyCubes_24 rfl (lv_at hl 2 rfl) ?_
    refine lv_iadd hx hb dX2_buyCubes_25 ?_
    obtain ⟨m13, em13, hf⟩ := gv_o hf
    refine gg_iast E (fun c hc => gA_in X hc) hM hS (gk_in hg11 (by decide)) hg11 hi12 em13 dX2_buyCubes_26 (fun H locs hM hS => ?_)
    refine lv_aload_n hx hb dX2_buyCubes_27 rfl (lv_at hl 0 rfl) ?_
    refine lv_dup hx hb dX2_buyCubes_28 rfl ?_
    refine GX2_9 E hM hk0 dX2_buyCubes_29 ?_
    refine lv_iload_n hx hb dX2_buyCubes_32 rfl (lv_at hl 2 rfl) ?_
    refine lv_iload_n hx hb dX2_buyCubes_33 rfl (lv_at hl 1 rfl) ?_
    obtain ⟨r16, m14, hqq15, hf⟩ := g1_o hf
    refine ga_i (gr_SN (As := [.int u1]) (rm := { frames := 0, cells := 0, slots := 0, locals := 0 }) E hml hl.1 (c_X8_priceOfCube l X u1 m13 hqq15) wt_X8_priceOfCube wl_RX2_111 rfl hM hS rfl rfl (Nat.le_trans (by decide) hRf) (Nat.le_trans (by decide) hRl) (Nat.le_trans (Nat.le_of_ble_eq_true rfl) hRc) (Nat.le_trans (Nat.le_of_ble_eq_true rfl) hRs) (Nat.le_of_ble_eq_true rfl) dX2_buyCubes_34 rfl) hS (fun H locs hM hS => ?_)
    refine lv_imul hx hb dX2_buyCubes_37 ?_
    refine lv_isub hx hb dX2_buyCubes_38 ?_
    obtain ⟨m17, em17, hf⟩ := gv_o hf
    refine PX2_9 E hM hS hk0 em17 dX2_buyCubes_39 (fun H locs hM hS => ?_)
    refine lv_aload_n hx hb dX2_buyCubes_42 rfl (lv_at hl 0 rfl) ?_
    refine lv_iload_n hx hb dX2_buyCubes_43 rfl (lv_at hl 1 rfl) ?_
    obtain ⟨r20, m18, hqq19, hf⟩ := g1_o hf
    refine ga_i (gr_V (As := [.int u1]) (ci := 2) (rm := { frames := 1, cells := 0, slots := 0, locals := 20 }) E hml hl.1 (c_X2_stockOf l X c0 u1 m17 hk0 hqq19) wt_X2_stockOf wl_RX2_102 rfl hk0 (by decide) rfl rfl hM hS rfl rfl (Nat.le_trans (by decide) hRf) (Nat.le_trans (by decide) hRl) (Nat.le_trans (Nat.le_of_ble_eq_true rfl) hRc) (Nat.le_trans (Nat.le_of_ble_eq_true rfl) hRs) (Nat.le_of_ble_eq_true rfl) dX2_buyCubes_44 rfl) hS (fun H locs hM hS => ?_)
    exact ge_i E hr hlocks hf hM hS (Nat.le_of_ble_eq_true rfl) (Nat.le_of_ble_eq_true rfl) dX2_buyCubes_47
theorem c_X2_buyCubes (l : Launch) (X : gX) (c0 : Nat) (u1 : Int32) (u2 : Int32) (m0 : gMem) {res : Int32 × gMem} (hk0 : gk c0 = 2) (hf : f_X2_buyCubes c0 u1 u2 m0 = some res) : Met l yX2_buyCubes (gWs yX2_buyCubes cX2_buyCubes 3 (some .int)) { frames := 2, cells := 0, slots := 0, locals := 41 } (va_Pc [.ref (X.1 + c0), .int u1, .int u2] (gB X m0)) (gQi X res) 0 0 (gA X) :=
  gMet (own := RX2) (by decide +kernel) rfl (Nat.le_of_ble_eq_true rfl) (fun p e s m args below meth c ls E hr hlocks hml hM hl => b_X2_buyCubes E hr hlocks hml (Nat.le_refl _) (Nat.le_refl _) (Nat.le_refl _) (Nat.le_refl _) hk0 hf hM va_S.rf hl)
def f_X6_start (c0 : Nat) (u1 : Int32) (m0 : gMem) : Option (Unit × gMem) := gv (ms m0 c0 0 u1) (fun m1 => gv (ms m1 c0 1 (0 : Int32)) (fun m2 => gv (ms m2 c0 2 (0 : Int32)) (fun m3 => some ((), m3))))
set_option maxRecDepth 100000 in
set_option maxHeartbeats 4000000 in
theorem b_X6_start {p : Program} {l : Launch} {e : Env} {R : Room} {s : State} {m : MethodId} {args : Array Value} {below : List Frame} {meth : Method} {c : Code} {H : Heap} {locs : List Loc} {ls : Array Slot} {X : gX} (E : gEn p s m args c cX6_start RX6 X) (hr : meth.sig.returnType = none) (hlocks : meth.locks = false) (hml : c.maxLocals = 2) (hRf : 0 ≤ R.frames) (hRl : 0 ≤ R.locals) (hRc : 0 ≤ R.cells) (hRs : 0 ≤ R.slots) {c0 : Nat} {u1 : Int32} {m0 : gMem} {res : Unit × gMem} (hk0 : gk c0 = 6) (hf : f_X6_start c0 u1 m0 = some res) (hM : gM X m0 H) (hS : va_S (gA X) s.heap H locs) (hl : lv_has ls 2 [(0, .ref (X.1 + c0)), (1, .int u1)]) : W p l e R s m args below meth c H locs 0 0 (MQ below (gQv X res) args s 0 0 (gA X)) (F0 m 0 ls []) := by
  obtain ⟨hx, hb⟩ := (⟨E.1, E.2.1⟩ : _ ∧ _)
  unfold f_X6_start at hf
  refine lv_aload_n hx hb dX6_start_0 rfl (lv_at hl 0 rfl) ?_
  refine lv_iload_n hx hb dX6_start_1 rfl (lv_at hl 1 rfl) ?_
  obtain ⟨m1, em1, hf⟩ := gv_o hf
  refine PX6_7 E hM hS hk0 em1 dX6_start_2 (fun H locs hM hS => ?_)
  refine lv_aload_n hx hb dX6_start_5 rfl (lv_at hl 0 rfl) ?_
  refine lv_iconst (v := (0 : Int32)) hx hb dX6_start_6 (by decide) ?_
  obtain ⟨m2, em2, hf⟩ := gv_o hf
  refine PX6_13 E hM hS hk0 em2 dX6_start_7 (fun H locs hM hS => ?_)
  refine lv_aload_n hx hb dX6_start_10 rfl (lv_at hl 0 rfl) ?_
  refine lv_iconst (v := (0 : Int32)) hx hb dX6_start_11 (by decide) ?_
  obtain ⟨m3, em3, hf⟩ := gv_o hf
  refine PX6_16 E hM hS hk0 em3 dX6_start_12 (fun H locs hM hS => ?_)
  exact ge_v E hr hlocks hf hM hS (Nat.le_of_ble_eq_true rfl) (Nat.le_of_ble_eq_true rfl) dX6_start_15
theorem c_X6_start (l : Launch) (X : gX) (c0 : Nat) (u1 : Int32) (m0 : gMem) {res : Unit × gMem} (hk0 : gk c0 = 6) (hf : f_X6_start c0 u1 m0 = some res) : Met l yX6_start (gWs yX6_start cX6_start 2 none) { frames := 0, cells := 0, slots := 0, locals := 0 } (va_Pc [.ref (X.1 + c0), .int u1] (gB X m0)) (gQv X res) 0 0 (gA X) :=
  gMet (own := RX6) (by decide +kernel) rfl (Nat.le_of_ble_eq_true rfl) (fun p e s m args below meth c ls E hr hlocks hml hM hl => b_X6_start E hr hlocks hml (Nat.le_refl _) (Nat.le_refl _) (Nat.le_refl _) (Nat.le_refl _) hk0 hf hM va_S.rf hl)
def f_X2_addTongs (c0 : Nat) (u1 : Int32) (m0 : gMem) : Option (Int32 × gMem) := gv ((m0 c0 6)) (fun x1 => if x1 < (0 : Int32) then (some (x1, m0)) else (if (4 : Int32) ≤ x1 then (some (x1, m0)) else (if ¬ (x1 < 0 ∨ gl (c0 + 4) ≤ x1.toNatClampNeg) then g1 (f_X6_start ((c0 + 4) + (3 + x1.toNatClampNeg)) u1 m0) (fun r9 m7 => gv (ms m7 c0 6 ((m7 c0 6) + (1 : Int32))) (fun m10 => some (x1, m10))) else none)))
set_option maxRecDepth 100000 in
set_option maxHeartbeats 4000000 in
theorem b_X2_addTongs {p : Program} {l : Launch} {e : Env} {R : Room} {s : State} {m : MethodId} {args : Array Value} {below : List Frame} {meth : Method} {c : Code} {H : Heap} {locs : List Loc} {ls : Array Slot} {X : gX} (E : gEn p s m args c cX2_addTongs RX2 X) (hr : meth.sig.returnType = (some .int)) (hlocks : meth.locks = false) (hml : c.maxLocals = 3) (hRf : 1 ≤ R.frames) (hRl : 21 ≤ R.locals) (hRc : 0 ≤ R.cells) (hRs : 0 ≤ R.slots) {c0 : Nat} {u1 : Int32} {m0 : gMem} {res : Int32 × gMem} (hk0 : gk c0 = 2) (hf : f_X2_addTongs c0 u1 m0 = some res) (hM : gM X m0 H) (hS : va_S (gA X) s.heap H locs) (hl : lv_has ls 3 [(0, .ref (X.1 + c0)), (1, .int u1)]) : W p l e R s m args below meth c H locs 0 0 (MQ below (gQi X res) args s 0 0 (gA X)) (F0 m 0 ls []) := by
  obtain ⟨hx, hb⟩ := (⟨E.1, E.2.1⟩ : _ ∧ _)
  unfold f_X2_addTongs at hf
  refine lv_aload_n hx hb dX2_addTongs_0 rfl (lv_at hl 0 rfl) ?_
  refine GX2_55 E hM hk0 dX2_addTongs_1 ?_
  obtain ⟨x1, ex1, hf⟩ := gv_o hf
  rw [← ex1]
  refine lv_istore_n (lv' := [(2, .int x1), (0, .ref (X.1 + c0)), (1, .int u1)]) hx hb dX2_addTongs_4 rfl hl (by decide) rfl (fun ls hl => ?_)
  refine lv_iload_n hx hb dX2_addTongs_5 rfl (lv_at hl 0 rfl) ?_
  refine lv_if_lt (tgt := 34) hx hb dX2_addTongs_6 (by decide) (fun h2 => ?_) (fun h2 => ?_)
  · have hf := g_t h2 hf
    refine lv_iload_n hx hb dX2_addTongs_34 rfl (lv_at hl 0 rfl) ?_
    exact ge_i E hr hlocks hf hM hS (Nat.le_of_ble_eq_true rfl) (Nat.le_of_ble_eq_true rfl) dX2_addTongs_35
  · have hf := g_f h2 hf
    refine lv_iload_n hx hb dX2_addTongs_9 rfl (lv_at hl 0 rfl) ?_
    refine lv_iconst (v := (4 : Int32)) hx hb dX2_addTongs_10 (by decide) ?_
    refine lv_icmp_ge (tgt := 34) hx hb dX2_addTongs_11 (by decide) (fun h3 => ?_) (fun h3 => ?_)
    · have hf := g_t h3 hf
      refine lv_iload_n hx hb dX2_addTongs_34 rfl (lv_at hl 0 rfl) ?_
      exact ge_i E hr hlocks hf hM hS (Nat.le_of_ble_eq_true rfl) (Nat.le_of_ble_eq_true rfl) dX2_addTongs_35
    · have hf := g_f h3 hf
      refine lv_aload_n hx hb dX2_addTongs_14 rfl (lv_at hl 1 rfl) ?_
      refine GX2_27 E hM hk0 dX2_addTongs_15 ?_
      have hg4 : gk (c0 + 4) = 24 := gkf_2_5 hk0
      refine lv_iload_n hx hb dX2_addTongs_18 rfl (lv_at hl 0 rfl) ?_
      obtain ⟨hi5, hf⟩ := g_ck hf
      refine gg_aald (k := 24) E hM (gk_in hg4 (by decide)) hg4 (by decide) rfl hi5 rfl rfl dX2_addTongs_19 ?_
      have hg6 : gk ((c0 + 4) + (3 + x1.toNatClampNeg)) = 6 := gka_24 hg4 hi5
      refine lv_iload_n hx hb dX2_addTongs_20 rfl (lv_at hl 2 rfl) ?_
      obtain ⟨r9, m7, hqq8, hf⟩ := g1_o hf
      refine ga_v (gr_V (As := [.int u1]) (ci := 6) (rm := { frames := 0, cells := 0, slots := 0, locals := 0 }) E hml hl.1 (c_X6_start l X ((c0 + 4) + (3 + x1.toNatClampNeg)) u1 m0 hg6 hqq8) wt_X6_start wl_RX2_114 rfl hg6 (by decide) rfl rfl hM hS rfl rfl (Nat.le_trans (by decide) hRf) (Nat.le_trans (by decide) hRl) (Nat.le_trans (Nat.le_of_ble_eq_true rfl) hRc) (Nat.le_trans (Nat.le_of_ble_eq_true rfl) hRs) (Nat.le_of_ble_eq_true rfl) dX2_addTongs_21 rfl) hS (fun H locs hM hS => ?_)
      refine lv_aload_n hx hb dX2_addTongs_24 rfl (lv_at hl 1 rfl) ?_
      refine lv_dup hx hb dX2_addTongs_25 rfl ?_
      refine GX2_55 E hM hk0 dX2_addTongs_26 ?_
      refine lv_iconst (v := (1 : Int32)) hx hb dX2_addTongs_29 (by decide) ?_
      refine lv_iadd hx hb dX2_addTongs_30 ?_
      obtain ⟨m10, em10, hf⟩ := gv_o hf
      refine PX2_55 E hM hS hk0 em10 dX2_addTongs_31 (fun H locs hM hS => ?_)
      refine lv_iload_n hx hb dX2_addTongs_34 rfl (lv_at hl 0 rfl) ?_
      exact ge_i E hr hlocks hf hM hS (Nat.le_of_ble_eq_true rfl) (Nat.le_of_ble_eq_true rfl) dX2_addTongs_35
theorem c_X2_addTongs (l : Launch) (X : gX) (c0 : Nat) (u1 : Int32) (m0 : gMem) {res : Int32 × gMem} (hk0 : gk c0 = 2) (hf : f_X2_addTongs c0 u1 m0 = some res) : Met l yX2_addTongs (gWs yX2_addTongs cX2_addTongs 3 (some .int)) { frames := 1, cells := 0, slots := 0, locals := 21 } (va_Pc [.ref (X.1 + c0), .int u1] (gB X m0)) (gQi X res) 0 0 (gA X) :=
  gMet (own := RX2) (by decide +kernel) rfl (Nat.le_of_ble_eq_true rfl) (fun p e s m args below meth c ls E hr hlocks hml hM hl => b_X2_addTongs E hr hlocks hml (Nat.le_refl _) (Nat.le_refl _) (Nat.le_refl _) (Nat.le_refl _) hk0 hf hM va_S.rf hl)
def f_X2_tongsAt (c0 : Nat) (u1 : Int32) (m0 : gMem) : Option (Option Nat × gMem) := if u1 < (0 : Int32) then (some (none, m0)) else (if (m0 c0 6) ≤ u1 then (some (none, m0)) else (if (4 : Int32) ≤ u1 then (some (none, m0)) else (if ¬ (u1 < 0 ∨ gl (c0 + 4) ≤ u1.toNatClampNeg) then some (some ((c0 + 4) + (3 + u1.toNatClampNeg)), m0) else none)))
set_option maxRecDepth 100000 in
set_option maxHeartbeats 4000000 in
theorem b_X2_tongsAt {p : Program} {l : Launch} {e : Env} {R : Room} {s : State} {m : MethodId} {args : Array Value} {below : List Frame} {meth : Method} {c : Code} {H : Heap} {locs : List Loc} {ls : Array Slot} {X : gX} (E : gEn p s m args c cX2_tongsAt RX2 X) (hr : meth.sig.returnType = (some (.object "SugarTowers$Tongs"))) (hlocks : meth.locks = false) (hml : c.maxLocals = 2) (hRf : 0 ≤ R.frames) (hRl : 0 ≤ R.locals) (hRc : 0 ≤ R.cells) (hRs : 0 ≤ R.slots) {c0 : Nat} {u1 : Int32} {m0 : gMem} {res : Option Nat × gMem} (hk0 : gk c0 = 2) (hf : f_X2_tongsAt c0 u1 m0 = some res) (hM : gM X m0 H) (hS : va_S (gA X) s.heap H locs) (hl : lv_has ls 2 [(0, .ref (X.1 + c0)), (1, .int u1)]) : W p l e R s m args below meth c H locs 0 0 (MQ below (gQo X res) args s 0 0 (gA X)) (F0 m 0 ls []) := by
  obtain ⟨hx, hb⟩ := (⟨E.1, E.2.1⟩ : _ ∧ _)
  unfold f_X2_tongsAt at hf
  refine lv_iload_n hx hb dX2_tongsAt_0 rfl (lv_at hl 1 rfl) ?_
  refine lv_if_lt (tgt := 26) hx hb dX2_tongsAt_1 (by decide) (fun h1 => ?_) (fun h1 => ?_)
  · have hf := g_t h1 hf
    refine lv_null hx hb dX2_tongsAt_26 ?_
    exact ge_o E hr hlocks hf rfl hM hS (Nat.le_of_ble_eq_true rfl) (Nat.le_of_ble_eq_true rfl) dX2_tongsAt_27
  · have hf := g_f h1 hf
    refine lv_iload_n hx hb dX2_tongsAt_4 rfl (lv_at hl 1 rfl) ?_
    refine lv_aload_n hx hb dX2_tongsAt_5 rfl (lv_at hl 0 rfl) ?_
    refine GX2_55 E hM hk0 dX2_tongsAt_6 ?_
    refine lv_icmp_ge (tgt := 26) hx hb dX2_tongsAt_9 (by decide) (fun h2 => ?_) (fun h2 => ?_)
    · have hf := g_t h2 hf
      refine lv_null hx hb dX2_tongsAt_26 ?_
      exact ge_o E hr hlocks hf rfl hM hS (Nat.le_of_ble_eq_true rfl) (Nat.le_of_ble_eq_true rfl) dX2_tongsAt_27
    · have hf := g_f h2 hf
      refine lv_iload_n hx hb dX2_tongsAt_12 rfl (lv_at hl 1 rfl) ?_
      refine lv_iconst (v := (4 : Int32)) hx hb dX2_tongsAt_13 (by decide) ?_
      refine lv_icmp_ge (tgt := 26) hx hb dX2_tongsAt_14 (by decide) (fun h3 => ?_) (fun h3 => ?_)
      · have hf := g_t h3 hf
        refine lv_null hx hb dX2_tongsAt_26 ?_
        exact ge_o E hr hlocks hf rfl hM hS (Nat.le_of_ble_eq_true rfl) (Nat.le_of_ble_eq_true rfl) dX2_tongsAt_27
      · have hf := g_f h3 hf
        refine lv_aload_n hx hb dX2_tongsAt_17 rfl (lv_at hl 0 rfl) ?_
        refine GX2_27 E hM hk0 dX2_tongsAt_18 ?_
        have hg4 : gk (c0 + 4) = 24 := gkf_2_5 hk0
        refine lv_iload_n hx hb dX2_tongsAt_21 rfl (lv_at hl 1 rfl) ?_
        obtain ⟨hi5, hf⟩ := g_ck hf
        refine gg_aald (k := 24) E hM (gk_in hg4 (by decide)) hg4 (by decide) rfl hi5 rfl rfl dX2_tongsAt_22 ?_
        have hg6 : gk ((c0 + 4) + (3 + u1.toNatClampNeg)) = 6 := gka_24 hg4 hi5
        refine lv_goto (tgt := 27) hx hb dX2_tongsAt_23 (by decide) ?_
        exact ge_o E hr hlocks hf rfl hM hS (Nat.le_of_ble_eq_true rfl) (Nat.le_of_ble_eq_true rfl) dX2_tongsAt_27
theorem c_X2_tongsAt (l : Launch) (X : gX) (c0 : Nat) (u1 : Int32) (m0 : gMem) {res : Option Nat × gMem} (hk0 : gk c0 = 2) (hf : f_X2_tongsAt c0 u1 m0 = some res) : Met l yX2_tongsAt (gWs yX2_tongsAt cX2_tongsAt 2 (some (.object "SugarTowers$Tongs"))) { frames := 0, cells := 0, slots := 0, locals := 0 } (va_Pc [.ref (X.1 + c0), .int u1] (gB X m0)) (gQo X res) 0 0 (gA X) :=
  gMet (own := RX2) (by decide +kernel) rfl (Nat.le_of_ble_eq_true rfl) (fun p e s m args below meth c ls E hr hlocks hml hM hl => b_X2_tongsAt E hr hlocks hml (Nat.le_refl _) (Nat.le_refl _) (Nat.le_refl _) (Nat.le_refl _) hk0 hf hM va_S.rf hl)
def f_X7_start (c0 : Nat) (m0 : gMem) : Option (Unit × gMem) := gv (ms m0 c0 2 (0 : Int32)) (fun m1 => gv (ms m1 c0 3 (0 : Int32)) (fun m2 => gv (ms m2 c0 4 (0 : Int32)) (fun m3 => some ((), m3))))
set_option maxRecDepth 100000 in
set_option maxHeartbeats 4000000 in
theorem b_X7_start {p : Program} {l : Launch} {e : Env} {R : Room} {s : State} {m : MethodId} {args : Array Value} {below : List Frame} {meth : Method} {c : Code} {H : Heap} {locs : List Loc} {ls : Array Slot} {X : gX} (E : gEn p s m args c cX7_start RX7 X) (hr : meth.sig.returnType = none) (hlocks : meth.locks = false) (hml : c.maxLocals = 1) (hRf : 0 ≤ R.frames) (hRl : 0 ≤ R.locals) (hRc : 0 ≤ R.cells) (hRs : 0 ≤ R.slots) {c0 : Nat} {m0 : gMem} {res : Unit × gMem} (hk0 : gk c0 = 7) (hf : f_X7_start c0 m0 = some res) (hM : gM X m0 H) (hS : va_S (gA X) s.heap H locs) (hl : lv_has ls 1 [(0, .ref (X.1 + c0))]) : W p l e R s m args below meth c H locs 0 0 (MQ below (gQv X res) args s 0 0 (gA X)) (F0 m 0 ls []) := by
  obtain ⟨hx, hb⟩ := (⟨E.1, E.2.1⟩ : _ ∧ _)
  unfold f_X7_start at hf
  refine lv_aload_n hx hb dX7_start_0 rfl (lv_at hl 0 rfl) ?_
  refine lv_iconst (v := (0 : Int32)) hx hb dX7_start_1 (by decide) ?_
  obtain ⟨m1, em1, hf⟩ := gv_o hf
  refine PX7_18 E hM hS hk0 em1 dX7_start_2 (fun H locs hM hS => ?_)
  refine lv_aload_n hx hb dX7_start_5 rfl (lv_at hl 0 rfl) ?_
  refine lv_iconst (v := (0 : Int32)) hx hb dX7_start_6 (by decide) ?_
  obtain ⟨m2, em2, hf⟩ := gv_o hf
  refine PX7_22 E hM hS hk0 em2 dX7_start_7 (fun H locs hM hS => ?_)
  refine lv_aload_n hx hb dX7_start_10 rfl (lv_at hl 0 rfl) ?_
  refine lv_iconst (v := (0 : Int32)) hx hb dX7_start_11 (by decide) ?_
  obtain ⟨m3, em3, hf⟩ := gv_o hf
  refine PX7_25 E hM hS hk0 em3 dX7_start_12 (fun H locs hM hS => ?_)
  exact ge_v E hr hlocks hf hM hS (Nat.le_of_ble_eq_true rfl) (Nat.le_of_ble_eq_true rfl) dX7_start_15
theorem c_X7_start (l : Launch) (X : gX) (c0 : Nat) (m0 : gMem) {res : Unit × gMem} (hk0 : gk c0 = 7) (hf : f_X7_start c0 m0 = some res) : Met l yX7_start (gWs yX7_start cX7_start 1 none) { frames := 0, cells := 0, slots := 0, locals := 0 } (va_Pc [.ref (X.1 + c0)] (gB X m0)) (gQv X res) 0 0 (gA X) :=
  gMet (own := RX7) (by decide +kernel) rfl (Nat.le_of_ble_eq_true rfl) (fun p e s m args below meth c ls E hr hlocks hml hM hl => b_X7_start E hr hlocks hml (Nat.le_refl _) (Nat.le_refl _) (Nat.le_refl _) (Nat.le_refl _) hk0 hf hM va_S.rf hl)
def f_X2_addTower (c0 : Nat) (m0 : gMem) : Option (Int32 × gMem) := gv ((m0 c0 8)) (fun x1 => if x1 < (0 : Int32) then (some (x1, m0)) else (if (6 : Int32) ≤ x1 then (some (x1, m0)) else (if ¬ (x1 < 0 ∨ gl (c0 + 5) ≤ x1.toNatClampNeg) then g1 (f_X7_start ((c0 + 5) + (6 + 3 * x1.toNatClampNeg)) m0) (fun r9 m7 => gv (ms m7 c0 8 ((m7 c0 8) + (1 : Int32))) (fun m10 => some (x1, m10))) else none)))
set_option maxRecDepth 100000 in
set_option maxHeartbeats 4000000 in
theorem b_X2_addTower {p : Program} {l : Launch} {e : Env} {R : Room} {s : State} {m : MethodId} {args : Array Value} {below : List Frame} {meth : Method} {c : Code} {H : Heap} {locs : List Loc} {ls : Array Slot} {X : gX} (E : gEn p s m args c cX2_addTower RX2 X) (hr : meth.sig.returnType = (some .int)) (hlocks : meth.locks = false) (hml : c.maxLocals = 2) (hRf : 1 ≤ R.frames) (hRl : 20 ≤ R.locals) (hRc : 0 ≤ R.cells) (hRs : 0 ≤ R.slots) {c0 : Nat} {m0 : gMem} {res : Int32 × gMem} (hk0 : gk c0 = 2) (hf : f_X2_addTower c0 m0 = some res) (hM : gM X m0 H) (hS : va_S (gA X) s.heap H locs) (hl : lv_has ls 2 [(0, .ref (X.1 + c0))]) : W p l e R s m args below meth c H locs 0 0 (MQ below (gQi X res) args s 0 0 (gA X)) (F0 m 0 ls []) := by
  obtain ⟨hx, hb⟩ := (⟨E.1, E.2.1⟩ : _ ∧ _)
  unfold f_X2_addTower at hf
  refine lv_aload_n hx hb dX2_addTower_0 rfl (lv_at hl 0 rfl) ?_
  refine GX2_62 E hM hk0 dX2_addTower_1 ?_
  obtain ⟨x1, ex1, hf⟩ := gv_o hf
  rw [← ex1]
  refine lv_istore_n (lv' := [(1, .int x1), (0, .ref (X.1 + c0))]) hx hb dX2_addTower_4 rfl hl (by decide) rfl (fun ls hl => ?_)
  refine lv_iload_n hx hb dX2_addTower_5 rfl (lv_at hl 0 rfl) ?_
  refine lv_if_lt (tgt := 34) hx hb dX2_addTower_6 (by decide) (fun h2 => ?_) (fun h2 => ?_)
  · have hf := g_t h2 hf
    refine lv_iload_n hx hb dX2_addTower_34 rfl (lv_at hl 0 rfl) ?_
    exact ge_i E hr hlocks hf hM hS (Nat.le_of_ble_eq_true rfl) (Nat.le_of_ble_eq_true rfl) dX2_addTower_35
  · have hf := g_f h2 hf
    refine lv_iload_n hx hb dX2_addTower_9 rfl (lv_at hl 0 rfl) ?_
    refine lv_bipush (v := (6 : Int32)) hx hb dX2_addTower_10 (by decide) ?_
    refine lv_icmp_ge (tgt := 34) hx hb dX2_addTower_12 (by decide) (fun h3 => ?_) (fun h3 => ?_)
    · have hf := g_t h3 hf
      refine lv_iload_n hx hb dX2_addTower_34 rfl (lv_at hl 0 rfl) ?_
      exact ge_i E hr hlocks hf hM hS (Nat.le_of_ble_eq_true rfl) (Nat.le_of_ble_eq_true rfl) dX2_addTower_35
    · have hf := g_f h3 hf
      refine lv_aload_n hx hb dX2_addTower_15 rfl (lv_at hl 1 rfl) ?_
      refine GX2_33 E hM hk0 dX2_addTower_16 ?_
      have hg4 : gk (c0 + 5) = 25 := gkf_2_7 hk0
      refine lv_iload_n hx hb dX2_addTower_19 rfl (lv_at hl 0 rfl) ?_
      obtain ⟨hi5, hf⟩ := g_ck hf
      refine gg_aald (k := 25) E hM (gk_in hg4 (by decide)) hg4 (by decide) rfl hi5 rfl rfl dX2_addTower_20 ?_
      have hg6 : gk ((c0 + 5) + (6 + 3 * x1.toNatClampNeg)) = 7 := gka_25 hg4 hi5
      obtain ⟨r9, m7, hqq8, hf⟩ := g1_o hf
      refine ga_v (gr_V (As := []) (ci := 7) (rm := { frames := 0, cells := 0, slots := 0, locals := 0 }) E hml hl.1 (c_X7_start l X ((c0 + 5) + (6 + 3 * x1.toNatClampNeg)) m0 hg6 hqq8) wt_X7_start wl_RX2_124 rfl hg6 (by decide) rfl rfl hM hS rfl rfl (Nat.le_trans (by decide) hRf) (Nat.le_trans (by decide) hRl) (Nat.le_trans (Nat.le_of_ble_eq_true rfl) hRc) (Nat.le_trans (Nat.le_of_ble_eq_true rfl) hRs) (Nat.le_of_ble_eq_true rfl) dX2_addTower_21 rfl) hS (fun H locs hM hS => ?_)
      refine lv_aload_n hx hb dX2_addTower_24 rfl (lv_at hl 1 rfl) ?_
      refine lv_dup hx hb dX2_addTower_25 rfl ?_
      refine GX2_62 E hM hk0 dX2_addTower_26 ?_
      refine lv_iconst (v := (1 : Int32)) hx hb dX2_addTower_29 (by decide) ?_
      refine lv_iadd hx hb dX2_addTower_30 ?_
      obtain ⟨m10, em10, hf⟩ := gv_o hf
      refine PX2_62 E hM hS hk0 em10 dX2_addTower_31 (fun H locs hM hS => ?_)
      refine lv_iload_n hx hb dX2_addTower_34 rfl (lv_at hl 0 rfl) ?_
      exact ge_i E hr hlocks hf hM hS (Nat.le_of_ble_eq_true rfl) (Nat.le_of_ble_eq_true rfl) dX2_addTower_35
theorem c_X2_addTower (l : Launch) (X : gX) (c0 : Nat) (m0 : gMem) {res : Int32 × gMem} (hk0 : gk c0 = 2) (hf : f_X2_addTower c0 m0 = some res) : Met l yX2_addTower (gWs yX2_addTower cX2_addTower 2 (some .int)) { frames := 1, cells := 0, slots := 0, locals := 20 } (va_Pc [.ref (X.1 + c0)] (gB X m0)) (gQi X res) 0 0 (gA X) :=
  gMet (own := RX2) (by decide +kernel) rfl (Nat.le_of_ble_eq_true rfl) (fun p e s m args below meth c ls E hr hlocks hml hM hl => b_X2_addTower E hr hlocks hml (Nat.le_refl _) (Nat.le_refl _) (Nat.le_refl _) (Nat.le_refl _) hk0 hf hM va_S.rf hl)
def f_X2_towerAt (c0 : Nat) (u1 : Int32) (m0 : gMem) : Option (Option Nat × gMem) := if u1 < (0 : Int32) then (some (none, m0)) else (if (m0 c0 8) ≤ u1 then (some (none, m0)) else (if (6 : Int32) ≤ u1 then (some (none, m0)) else (if ¬ (u1 < 0 ∨ gl (c0 + 5) ≤ u1.toNatClampNeg) then some (some ((c0 + 5) + (6 + 3 * u1.toNatClampNeg)), m0) else none)))
set_option maxRecDepth 100000 in
set_option maxHeartbeats 4000000 in
theorem b_X2_towerAt {p : Program} {l : Launch} {e : Env} {R : Room} {s : State} {m : MethodId} {args : Array Value} {below : List Frame} {meth : Method} {c : Code} {H : Heap} {locs : List Loc} {ls : Array Slot} {X : gX} (E : gEn p s m args c cX2_towerAt RX2 X) (hr : meth.sig.returnType = (some (.object "SugarTowers$Tower"))) (hlocks : meth.locks = false) (hml : c.maxLocals = 2) (hRf : 0 ≤ R.frames) (hRl : 0 ≤ R.locals) (hRc : 0 ≤ R.cells) (hRs : 0 ≤ R.slots) {c0 : Nat} {u1 : Int32} {m0 : gMem} {res : Option Nat × gMem} (hk0 : gk c0 = 2) (hf : f_X2_towerAt c0 u1 m0 = some res) (hM : gM X m0 H) (hS : va_S (gA X) s.heap H locs) (hl : lv_has ls 2 [(0, .ref (X.1 + c0)), (1, .int u1)]) : W p l e R s m args below meth c H locs 0 0 (MQ below (gQo X res) args s 0 0 (gA X)) (F0 m 0 ls []) := by
  obtain ⟨hx, hb⟩ := (⟨E.1, E.2.1⟩ : _ ∧ _)
  unfold f_X2_towerAt at hf
  refine lv_iload_n hx hb dX2_towerAt_0 rfl (lv_at hl 1 rfl) ?_
  refine lv_if_lt (tgt := 27) hx hb dX2_towerAt_1 (by decide) (fun h1 => ?_) (fun h1 => ?_)
  · have hf := g_t h1 hf
    refine lv_null hx hb dX2_towerAt_27 ?_
    exact ge_o E hr hlocks hf rfl hM hS (Nat.le_of_ble_eq_true rfl) (Nat.le_of_ble_eq_true rfl) dX2_towerAt_28
  · have hf := g_f h1 hf
    refine lv_iload_n hx hb dX2_towerAt_4 rfl (lv_at hl 1 rfl) ?_
    refine lv_aload_n hx hb dX2_towerAt_5 rfl (lv_at hl 0 rfl) ?_
    refine GX2_62 E hM hk0 dX2_towerAt_6 ?_
    refine lv_icmp_ge (tgt := 27) hx hb dX2_towerAt_9 (by decide) (fun h2 => ?_) (fun h2 => ?_)
    · have hf := g_t h2 hf
      refine lv_null hx hb dX2_towerAt_27 ?_
      exact ge_o E hr hlocks hf rfl hM hS (Nat.le_of_ble_eq_true rfl) (Nat.le_of_ble_eq_true rfl) dX2_towerAt_28
    · have hf := g_f h2 hf
      refine lv_iload_n hx hb dX2_towerAt_12 rfl (lv_at hl 1 rfl) ?_
      refine lv_bipush (v := (6 : Int32)) hx hb dX2_towerAt_13 (by decide) ?_
      refine lv_icmp_ge (tgt := 27) hx hb dX2_towerAt_15 (by decide) (fun h3 => ?_) (fun h3 => ?_)
      · have hf := g_t h3 hf
        refine lv_null hx hb dX2_towerAt_27 ?_
        exact ge_o E hr hlocks hf rfl hM hS (Nat.le_of_ble_eq_true rfl) (Nat.le_of_ble_eq_true rfl) dX2_towerAt_28
      · have hf := g_f h3 hf
        refine lv_aload_n hx hb dX2_towerAt_18 rfl (lv_at hl 0 rfl) ?_
        refine GX2_33 E hM hk0 dX2_towerAt_19 ?_
        have hg4 : gk (c0 + 5) = 25 := gkf_2_7 hk0
        refine lv_iload_n hx hb dX2_towerAt_22 rfl (lv_at hl 1 rfl) ?_
        obtain ⟨hi5, hf⟩ := g_ck hf
        refine gg_aald (k := 25) E hM (gk_in hg4 (by decide)) hg4 (by decide) rfl hi5 rfl rfl dX2_towerAt_23 ?_
        have hg6 : gk ((c0 + 5) + (6 + 3 * u1.toNatClampNeg)) = 7 := gka_25 hg4 hi5
        refine lv_goto (tgt := 28) hx hb dX2_towerAt_24 (by decide) ?_
        exact ge_o E hr hlocks hf rfl hM hS (Nat.le_of_ble_eq_true rfl) (Nat.le_of_ble_eq_true rfl) dX2_towerAt_28
theorem c_X2_towerAt (l : Launch) (X : gX) (c0 : Nat) (u1 : Int32) (m0 : gMem) {res : Option Nat × gMem} (hk0 : gk c0 = 2) (hf : f_X2_towerAt c0 u1 m0 = some res) : Met l yX2_towerAt (gWs yX2_towerAt cX2_towerAt 2 (some (.object "SugarTowers$Tower"))) { frames := 0, cells := 0, slots := 0, locals := 0 } (va_Pc [.ref (X.1 + c0), .int u1] (gB X m0)) (gQo X res) 0 0 (gA X) :=
  gMet (own := RX2) (by decide +kernel) rfl (Nat.le_of_ble_eq_true rfl) (fun p e s m args below meth c ls E hr hlocks hml hM hl => b_X2_towerAt E hr hlocks hml (Nat.le_refl _) (Nat.le_refl _) (Nat.le_refl _) (Nat.le_refl _) hk0 hf hM va_S.rf hl)
def f_X8_isCourse (u0 : Int32) (u1 : Int32) (m0 : gMem) : Option (Int32 × gMem) := g1 (f_X8_isGrade u0 m0) (fun r3 m1 => if r3 = (0 : Int32) then (some ((0 : Int32), m1)) else (g1 (f_X8_isBetween (1 : Int32) u1 (20 : Int32) m1) (fun r7 m5 => if r7 = (0 : Int32) then (some ((0 : Int32), m5)) else (some ((1 : Int32), m5)))))
set_option maxRecDepth 100000 in
set_option maxHeartbeats 4000000 in
theorem b_X8_isCourse {p : Program} {l : Launch} {e : Env} {R : Room} {s : State} {m : MethodId} {args : Array Value} {below : List Frame} {meth : Method} {c : Code} {H : Heap} {locs : List Loc} {ls : Array Slot} {X : gX} (E : gEn p s m args c cX8_isCourse RX8 X) (hr : meth.sig.returnType = (some .boolean)) (hlocks : meth.locks = false) (hml : c.maxLocals = 2) (hRf : 1 ≤ R.frames) (hRl : 22 ≤ R.locals) (hRc : 0 ≤ R.cells) (hRs : 0 ≤ R.slots) {u0 : Int32} {u1 : Int32} {m0 : gMem} {res : Int32 × gMem}  (hf : f_X8_isCourse u0 u1 m0 = some res) (hM : gM X m0 H) (hS : va_S (gA X) s.heap H locs) (hl : lv_has ls 2 [(0, .int u0), (1, .int u1)]) : W p l e R s m args below meth c H locs 0 0 (MQ below (gQi X res) args s 0 0 (gA X)) (F0 m 0 ls []) := by
  obtain ⟨hx, hb⟩ := (⟨E.1, E.2.1⟩ : _ ∧ _)
  unfold f_X8_isCourse at hf
  refine lv_iload_n hx hb dX8_isCourse_0 rfl (lv_at hl 0 rfl) ?_
  obtain ⟨r3, m1, hqq2, hf⟩ := g1_o hf
  refine ga_i (gr_S (As := [.int u0]) (rm := { frames := 0, cells := 0, slots := 0, locals := 0 }) E hml hl.1 (c_X8_isGrade l X u0 m0 hqq2) wt_X8_isGrade wl_RX8_98 rfl hM hS rfl rfl (Nat.le_trans (by decide) hRf) (Nat.le_trans (by decide) hRl) (Nat.le_trans (Nat.le_of_ble_eq_true rfl) hRc) (Nat.le_trans (Nat.le_of_ble_eq_true rfl) hRs) (Nat.le_of_ble_eq_true rfl) dX8_isCourse_1 rfl) hS (fun H locs hM hS => ?_)
  refine lv_if_eq (tgt := 21) hx hb dX8_isCourse_4 (by decide) (fun h4 => ?_) (fun h4 => ?_)
  · have hf := g_t h4 hf
    refine lv_iconst (v := (0 : Int32)) hx hb dX8_isCourse_21 (by decide) ?_
    exact ge_z E hr rfl hlocks hf hM hS (Nat.le_of_ble_eq_true rfl) (Nat.le_of_ble_eq_true rfl) dX8_isCourse_22
  · have hf := g_f h4 hf
    refine lv_iconst (v := (1 : Int32)) hx hb dX8_isCourse_7 (by decide) ?_
    refine lv_iload_n hx hb dX8_isCourse_8 rfl (lv_at hl 1 rfl) ?_
    refine lv_bipush (v := (20 : Int32)) hx hb dX8_isCourse_9 (by decide) ?_
    obtain ⟨r7, m5, hqq6, hf⟩ := g1_o hf
    refine ga_i (gr_S (As := [.int (1 : Int32), .int u1, .int (20 : Int32)]) (rm := { frames := 0, cells := 0, slots := 0, locals := 0 }) E hml hl.1 (c_X8_isBetween l X (1 : Int32) u1 (20 : Int32) m1 hqq6) wt_X8_isBetween wl_RX8_50 rfl hM hS rfl rfl (Nat.le_trans (by decide) hRf) (Nat.le_trans (by decide) hRl) (Nat.le_trans (Nat.le_of_ble_eq_true rfl) hRc) (Nat.le_trans (Nat.le_of_ble_eq_true rfl) hRs) (Nat.le_of_ble_eq_true rfl) dX8_isCourse_11 rfl) hS (fun H locs hM hS => ?_)
    refine lv_if_eq (tgt := 21) hx hb dX8_isCourse_14 (by decide) (fun h8 => ?_) (fun h8 => ?_)
    · have hf := g_t h8 hf
      refine lv_iconst (v := (0 : Int32)) hx hb dX8_isCourse_21 (by decide) ?_
      exact ge_z E hr rfl hlocks hf hM hS (Nat.le_of_ble_eq_true rfl) (Nat.le_of_ble_eq_true rfl) dX8_isCourse_22
    · have hf := g_f h8 hf
      refine lv_iconst (v := (1 : Int32)) hx hb dX8_isCourse_17 (by decide) ?_
      refine lv_goto (tgt := 22) hx hb dX8_isCourse_18 (by decide) ?_
      exact ge_z E hr rfl hlocks hf hM hS (Nat.le_of_ble_eq_true rfl) (Nat.le_of_ble_eq_true rfl) dX8_isCourse_22
theorem c_X8_isCourse (l : Launch) (X : gX) (u0 : Int32) (u1 : Int32) (m0 : gMem) {res : Int32 × gMem}  (hf : f_X8_isCourse u0 u1 m0 = some res) : Met l yX8_isCourse (gWs yX8_isCourse cX8_isCourse 2 (some .boolean)) { frames := 1, cells := 0, slots := 0, locals := 22 } (va_Pc [.int u0, .int u1] (gB X m0)) (gQi X res) 0 0 (gA X) :=
  gMet (own := RX8) (by decide +kernel) rfl (Nat.le_of_ble_eq_true rfl) (fun p e s m args below meth c ls E hr hlocks hml hM hl => b_X8_isCourse E hr hlocks hml (Nat.le_refl _) (Nat.le_refl _) (Nat.le_refl _) (Nat.le_refl _)  hf hM va_S.rf hl)
def f_X7_hasCourse (c0 : Nat) (u1 : Int32) (m0 : gMem) : Option (Int32 × gMem) := if u1 < (0 : Int32) then (some ((0 : Int32), m0)) else (if (m0 c0 2) ≤ u1 then (some ((0 : Int32), m0)) else (if (10 : Int32) ≤ u1 then (some ((0 : Int32), m0)) else (some ((1 : Int32), m0))))
set_option maxRecDepth 100000 in
set_option maxHeartbeats 4000000 in
theorem b_X7_hasCourse {p : Program} {l : Launch} {e : Env} {R : Room} {s : State} {m : MethodId} {args : Array Value} {below : List Frame} {meth : Method} {c : Code} {H : Heap} {locs : List Loc} {ls : Array Slot} {X : gX} (E : gEn p s m args c cX7_hasCourse RX7 X) (hr : meth.sig.returnType = (some .boolean)) (hlocks : meth.locks = false) (hml : c.maxLocals = 2) (hRf : 0 ≤ R.frames) (hRl : 0 ≤ R.locals) (hRc : 0 ≤ R.cells) (hRs : 0 ≤ R.slots) {c0 : Nat} {u1 : Int32} {m0 : gMem} {res : Int32 × gMem} (hk0 : gk c0 = 7) (hf : f_X7_hasCourse c0 u1 m0 = some res) (hM : gM X m0 H) (hS : va_S (gA X) s.heap H locs) (hl : lv_has ls 2 [(0, .ref (X.1 + c0)), (1, .int u1)]) : W p l e R s m args below meth c H locs 0 0 (MQ below (gQi X res) args s 0 0 (gA X)) (F0 m 0 ls []) := by
  obtain ⟨hx, hb⟩ := (⟨E.1, E.2.1⟩ : _ ∧ _)
  unfold f_X7_hasCourse at hf
  refine lv_iload_n hx hb dX7_hasCourse_0 rfl (lv_at hl 1 rfl) ?_
  refine lv_if_lt (tgt := 22) hx hb dX7_hasCourse_1 (by decide) (fun h1 => ?_) (fun h1 => ?_)
  · have hf := g_t h1 hf
    refine lv_iconst (v := (0 : Int32)) hx hb dX7_hasCourse_22 (by decide) ?_
    exact ge_z E hr rfl hlocks hf hM hS (Nat.le_of_ble_eq_true rfl) (Nat.le_of_ble_eq_true rfl) dX7_hasCourse_23
  · have hf := g_f h1 hf
    refine lv_iload_n hx hb dX7_hasCourse_4 rfl (lv_at hl 1 rfl) ?_
    refine lv_aload_n hx hb dX7_hasCourse_5 rfl (lv_at hl 0 rfl) ?_
    refine GX7_18 E hM hk0 dX7_hasCourse_6 ?_
    refine lv_icmp_ge (tgt := 22) hx hb dX7_hasCourse_9 (by decide) (fun h2 => ?_) (fun h2 => ?_)
    · have hf := g_t h2 hf
      refine lv_iconst (v := (0 : Int32)) hx hb dX7_hasCourse_22 (by decide) ?_
      exact ge_z E hr rfl hlocks hf hM hS (Nat.le_of_ble_eq_true rfl) (Nat.le_of_ble_eq_true rfl) dX7_hasCourse_23
    · have hf := g_f h2 hf
      refine lv_iload_n hx hb dX7_hasCourse_12 rfl (lv_at hl 1 rfl) ?_
      refine lv_bipush (v := (10 : Int32)) hx hb dX7_hasCourse_13 (by decide) ?_
      refine lv_icmp_ge (tgt := 22) hx hb dX7_hasCourse_15 (by decide) (fun h3 => ?_) (fun h3 => ?_)
      · have hf := g_t h3 hf
        refine lv_iconst (v := (0 : Int32)) hx hb dX7_hasCourse_22 (by decide) ?_
        exact ge_z E hr rfl hlocks hf hM hS (Nat.le_of_ble_eq_true rfl) (Nat.le_of_ble_eq_true rfl) dX7_hasCourse_23
      · have hf := g_f h3 hf
        refine lv_iconst (v := (1 : Int32)) hx hb dX7_hasCourse_18 (by decide) ?_
        refine lv_goto (tgt := 23) hx hb dX7_hasCourse_19 (by decide) ?_
        exact ge_z E hr rfl hlocks hf hM hS (Nat.le_of_ble_eq_true rfl) (Nat.le_of_ble_eq_true rfl) dX7_hasCourse_23
theorem c_X7_hasCourse (l : Launch) (X : gX) (c0 : Nat) (u1 : Int32) (m0 : gMem) {res : Int32 × gMem} (hk0 : gk c0 = 7) (hf : f_X7_hasCourse c0 u1 m0 = some res) : Met l yX7_hasCourse (gWs yX7_hasCourse cX7_hasCourse 2 (some .boolean)) { frames := 0, cells := 0, slots := 0, locals := 0 } (va_Pc [.ref (X.1 + c0), .int u1] (gB X m0)) (gQi X res) 0 0 (gA X) :=
  gMet (own := RX7) (by decide +kernel) rfl (Nat.le_of_ble_eq_true rfl) (fun p e s m args below meth c ls E hr hlocks hml hM hl => b_X7_hasCourse E hr hlocks hml (Nat.le_refl _) (Nat.le_refl _) (Nat.le_refl _) (Nat.le_refl _) hk0 hf hM va_S.rf hl)
def f_X7_cubesAt (c0 : Nat) (u1 : Int32) (m0 : gMem) : Option (Int32 × gMem) := g1 (f_X7_hasCourse c0 u1 m0) (fun r3 m1 => if r3 = (0 : Int32) then (some ((0 : Int32), m1)) else (if ¬ (u1 < 0 ∨ gl (c0 + 2) ≤ u1.toNatClampNeg) then some ((m1 (c0 + 2) u1.toNatClampNeg), m1) else none))
set_option maxRecDepth 100000 in
set_option maxHeartbeats 4000000 in
theorem b_X7_cubesAt {p : Program} {l : Launch} {e : Env} {R : Room} {s : State} {m : MethodId} {args : Array Value} {below : List Frame} {meth : Method} {c : Code} {H : Heap} {locs : List Loc} {ls : Array Slot} {X : gX} (E : gEn p s m args c cX7_cubesAt RX7 X) (hr : meth.sig.returnType = (some .int)) (hlocks : meth.locks = false) (hml : c.maxLocals = 2) (hRf : 1 ≤ R.frames) (hRl : 21 ≤ R.locals) (hRc : 0 ≤ R.cells) (hRs : 0 ≤ R.slots) {c0 : Nat} {u1 : Int32} {m0 : gMem} {res : Int32 × gMem} (hk0 : gk c0 = 7) (hf : f_X7_cubesAt c0 u1 m0 = some res) (hM : gM X m0 H) (hS : va_S (gA X) s.heap H locs) (hl : lv_has ls 2 [(0, .ref (X.1 + c0)), (1, .int u1)]) : W p l e R s m args below meth c H locs 0 0 (MQ below (gQi X res) args s 0 0 (gA X)) (F0 m 0 ls []) := by
  obtain ⟨hx, hb⟩ := (⟨E.1, E.2.1⟩ : _ ∧ _)
  unfold f_X7_cubesAt at hf
  refine lv_aload_n hx hb dX7_cubesAt_0 rfl (lv_at hl 0 rfl) ?_
  refine lv_iload_n hx hb dX7_cubesAt_1 rfl (lv_at hl 1 rfl) ?_
  obtain ⟨r3, m1, hqq2, hf⟩ := g1_o hf
  refine ga_i (gr_V (As := [.int u1]) (ci := 7) (rm := { frames := 0, cells := 0, slots := 0, locals := 0 }) E hml hl.1 (c_X7_hasCourse l X c0 u1 m0 hk0 hqq2) wt_X7_hasCourse wl_RX7_34 rfl hk0 (by decide) rfl rfl hM hS rfl rfl (Nat.le_trans (by decide) hRf) (Nat.le_trans (by decide) hRl) (Nat.le_trans (Nat.le_of_ble_eq_true rfl) hRc) (Nat.le_trans (Nat.le_of_ble_eq_true rfl) hRs) (Nat.le_of_ble_eq_true rfl) dX7_cubesAt_2 rfl) hS (fun H locs hM hS => ?_)
  refine lv_if_eq (tgt := 17) hx hb dX7_cubesAt_5 (by decide) (fun h4 => ?_) (fun h4 => ?_)
  · have hf := g_t h4 hf
    refine lv_iconst (v := (0 : Int32)) hx hb dX7_cubesAt_17 (by decide) ?_
    exact ge_i E hr hlocks hf hM hS (Nat.le_of_ble_eq_true rfl) (Nat.le_of_ble_eq_true rfl) dX7_cubesAt_18
  · have hf := g_f h4 hf
    refine lv_aload_n hx hb dX7_cubesAt_8 rfl (lv_at hl 0 rfl) ?_
    refine GX7_15 E hM hk0 dX7_cubesAt_9 ?_
    have hg5 : gk (c0 + 2) = 20 := gkf_7_1 hk0
    refine lv_iload_n hx hb dX7_cubesAt_12 rfl (lv_at hl 1 rfl) ?_
    obtain ⟨hi6, hf⟩ := g_ck hf
    refine gg_iald E hM (gk_in hg5 (by decide)) hg5 hi6 dX7_cubesAt_13 ?_
    refine lv_goto (tgt := 18) hx hb dX7_cubesAt_14 (by decide) ?_
    exact ge_i E hr hlocks hf hM hS (Nat.le_of_ble_eq_true rfl) (Nat.le_of_ble_eq_true rfl) dX7_cubesAt_18
theorem c_X7_cubesAt (l : Launch) (X : gX) (c0 : Nat) (u1 : Int32) (m0 : gMem) {res : Int32 × gMem} (hk0 : gk c0 = 7) (hf : f_X7_cubesAt c0 u1 m0 = some res) : Met l yX7_cubesAt (gWs yX7_cubesAt cX7_cubesAt 2 (some .int)) { frames := 1, cells := 0, slots := 0, locals := 21 } (va_Pc [.ref (X.1 + c0), .int u1] (gB X m0)) (gQi X res) 0 0 (gA X) :=
  gMet (own := RX7) (by decide +kernel) rfl (Nat.le_of_ble_eq_true rfl) (fun p e s m args below meth c ls E hr hlocks hml hM hl => b_X7_cubesAt E hr hlocks hml (Nat.le_refl _) (Nat.le_refl _) (Nat.le_refl _) (Nat.le_refl _) hk0 hf hM va_S.rf hl)
def f_X8_cubeBears (u0 : Int32) (u1 : Int32) (m0 : gMem) : Option (Int32 × gMem) := if u0 = (0 : Int32) then (some ((if (0 : Int32) < ((4 : Int32) - (u1 / (10 : Int32))) then ((4 : Int32) - (u1 / (10 : Int32))) else (0 : Int32)), m0)) else (if u0 = (1 : Int32) then (some ((if (0 : Int32) < ((8 : Int32) - (u1 / (10 : Int32))) then ((8 : Int32) - (u1 / (10 : Int32))) else (0 : Int32)), m0)) else (some ((if (0 : Int32) < ((15 : Int32) - (u1 / (10 : Int32))) then ((15 : Int32) - (u1 / (10 : Int32))) else (0 : Int32)), m0)))
set_option maxRecDepth 100000 in
set_option maxHeartbeats 4000000 in
theorem b_X8_cubeBears {p : Program} {l : Launch} {e : Env} {R : Room} {s : State} {m : MethodId} {args : Array Value} {below : List Frame} {meth : Method} {c : Code} {H : Heap} {locs : List Loc} {ls : Array Slot} {X : gX} (E : gEn p s m args c cX8_cubeBears RX8 X) (hr : meth.sig.returnType = (some .int)) (hlocks : meth.locks = false) (hml : c.maxLocals = 3) (hRf : 1 ≤ R.frames) (hRl : 60 ≤ R.locals) (hRc : 0 ≤ R.cells) (hRs : 0 ≤ R.slots) {u0 : Int32} {u1 : Int32} {m0 : gMem} {res : Int32 × gMem}  (hf : f_X8_cubeBears u0 u1 m0 = some res) (hM : gM X m0 H) (hS : va_S (gA X) s.heap H locs) (hl : lv_has ls 3 [(0, .int u0), (1, .int u1)]) : W p l e R s m args below meth c H locs 0 0 (MQ below (gQi X res) args s 0 0 (gA X)) (F0 m 0 ls []) := by
  obtain ⟨hx, hb⟩ := (⟨E.1, E.2.1⟩ : _ ∧ _)
  unfold f_X8_cubeBears at hf
  refine lv_bipush (v := (15 : Int32)) hx hb dX8_cubeBears_0 (by decide) ?_
  refine lv_istore_n (lv' := [(2, .int (15 : Int32)), (0, .int u0), (1, .int u1)]) hx hb dX8_cubeBears_2 rfl hl (by decide) rfl (fun ls hl => ?_)
  refine lv_iload_n hx hb dX8_cubeBears_3 rfl (lv_at hl 1 rfl) ?_
  refine lv_if_ne (tgt := 12) hx hb dX8_cubeBears_4 (by decide) (fun h1 => ?_) (fun h1 => ?_)
  · have hf := g_f h1 hf
    refine lv_iload_n hx hb dX8_cubeBears_12 rfl (lv_at hl 1 rfl) ?_
    refine lv_iconst (v := (1 : Int32)) hx hb dX8_cubeBears_13 (by decide) ?_
    refine lv_icmp_ne (tgt := 20) hx hb dX8_cubeBears_14 (by decide) (fun h2 => ?_) (fun h2 => ?_)
    · have hf := g_f h2 hf
      refine lv_iconst (v := (0 : Int32)) hx hb dX8_cubeBears_20 (by decide) ?_
      refine lv_iload_n hx hb dX8_cubeBears_21 rfl (lv_at hl 0 rfl) ?_
      refine lv_iload_n hx hb dX8_cubeBears_22 rfl (lv_at hl 2 rfl) ?_
      refine lv_bipush (v := (10 : Int32)) hx hb dX8_cubeBears_23 (by decide) ?_
      refine lv_idiv hx hb dX8_cubeBears_25 (by decide) ?_
      refine lv_isub hx hb dX8_cubeBears_26 ?_
      refine gg_max E hml hl.1 wl_RX8_446 wj_max_s wj_math wj_max_c (Nat.le_trans (by decide) hRf) (Nat.le_trans (Nat.le_of_ble_eq_true rfl) hRl) (Nat.le_trans (Nat.le_of_ble_eq_true rfl) hRc) (Nat.le_trans (Nat.le_of_ble_eq_true rfl) hRs) dX8_cubeBears_27 ?_
      exact ge_i E hr hlocks hf hM hS (Nat.le_of_ble_eq_true rfl) (Nat.le_of_ble_eq_true rfl) dX8_cubeBears_30
    · have hf := g_t h2 hf
      refine lv_bipush (v := (8 : Int32)) hx hb dX8_cubeBears_17 (by decide) ?_
      refine lv_istore_n (lv' := [(2, .int (8 : Int32)), (0, .int u0), (1, .int u1)]) hx hb dX8_cubeBears_19 rfl hl (by decide) rfl (fun ls hl => ?_)
      refine lv_iconst (v := (0 : Int32)) hx hb dX8_cubeBears_20 (by decide) ?_
      refine lv_iload_n hx hb dX8_cubeBears_21 rfl (lv_at hl 0 rfl) ?_
      refine lv_iload_n hx hb dX8_cubeBears_22 rfl (lv_at hl 2 rfl) ?_
      refine lv_bipush (v := (10 : Int32)) hx hb dX8_cubeBears_23 (by decide) ?_
      refine lv_idiv hx hb dX8_cubeBears_25 (by decide) ?_
      refine lv_isub hx hb dX8_cubeBears_26 ?_
      refine gg_max E hml hl.1 wl_RX8_446 wj_max_s wj_math wj_max_c (Nat.le_trans (by decide) hRf) (Nat.le_trans (Nat.le_of_ble_eq_true rfl) hRl) (Nat.le_trans (Nat.le_of_ble_eq_true rfl) hRc) (Nat.le_trans (Nat.le_of_ble_eq_true rfl) hRs) dX8_cubeBears_27 ?_
      exact ge_i E hr hlocks hf hM hS (Nat.le_of_ble_eq_true rfl) (Nat.le_of_ble_eq_true rfl) dX8_cubeBears_30
  · have hf := g_t h1 hf
    refine lv_iconst (v := (4 : Int32)) hx hb dX8_cubeBears_7 (by decide) ?_
    refine lv_istore_n (lv' := [(2, .int (4 : Int32)), (0, .int u0), (1, .int u1)]) hx hb dX8_cubeBears_8 rfl hl (by decide) rfl (fun ls hl => ?_)
    refine lv_goto (tgt := 20) hx hb dX8_cubeBears_9 (by decide) ?_
    refine lv_iconst (v := (0 : Int32)) hx hb dX8_cubeBears_20 (by decide) ?_
    refine lv_iload_n hx hb dX8_cubeBears_21 rfl (lv_at hl 0 rfl) ?_
    refine lv_iload_n hx hb dX8_cubeBears_22 rfl (lv_at hl 2 rfl) ?_
    refine lv_bipush (v := (10 : Int32)) hx hb dX8_cubeBears_23 (by decide) ?_
    refine lv_idiv hx hb dX8_cubeBears_25 (by decide) ?_
    refine lv_isub hx hb dX8_cubeBears_26 ?_
    refine gg_max E hml hl.1 wl_RX8_446 wj_max_s wj_math wj_max_c (Nat.le_trans (by decide) hRf) (Nat.le_trans (Nat.le_of_ble_eq_true rfl) hRl) (Nat.le_trans (Nat.le_of_ble_eq_true rfl) hRc) (Nat.le_trans (Nat.le_of_ble_eq_true rfl) hRs) dX8_cubeBears_27 ?_
    exact ge_i E hr hlocks hf hM hS (Nat.le_of_ble_eq_true rfl) (Nat.le_of_ble_eq_true rfl) dX8_cubeBears_30
theorem c_X8_cubeBears (l : Launch) (X : gX) (u0 : Int32) (u1 : Int32) (m0 : gMem) {res : Int32 × gMem}  (hf : f_X8_cubeBears u0 u1 m0 = some res) : Met l yX8_cubeBears (gWs yX8_cubeBears cX8_cubeBears 3 (some .int)) { frames := 1, cells := 0, slots := 0, locals := 60 } (va_Pc [.int u0, .int u1] (gB X m0)) (gQi X res) 0 0 (gA X) :=
  gMet (own := RX8) (by decide +kernel) rfl (Nat.le_of_ble_eq_true rfl) (fun p e s m args below meth c ls E hr hlocks hml hM hl => b_X8_cubeBears E hr hlocks hml (Nat.le_refl _) (Nat.le_refl _) (Nat.le_refl _) (Nat.le_refl _)  hf hM va_S.rf hl)
def L_X7_lowestWeakCourse_18 (c0 : Nat) (u1 : Int32) : Nat → Int32 → Int32 → Int32 → gMem → Option (Int32 × gMem)
  | 0, _, _, _, _ => none
  | n + 1, y3, y4, y5, m0 => if y5 < (0 : Int32) then (some (y3, m0)) else (if ¬ (y5 < 0 ∨ gl (c0 + 2) ≤ y5.toNatClampNeg) then if ¬ (y5 < 0 ∨ gl (c0 + 1) ≤ y5.toNatClampNeg) then g1 (f_X8_cubeBears (m0 (c0 + 1) y5.toNatClampNeg) u1 m0) (fun r9 m7 => if y4 ≤ ((m0 (c0 + 2) y5.toNatClampNeg) * r9) then (gv ((y4 + (m7 (c0 + 2) y5.toNatClampNeg))) (fun x11 => gv (y5 + (-1 : Int32)) (fun x12 => L_X7_lowestWeakCourse_18 c0 u1 n y3 x11 x12 m7))) else (gv ((y4 + (m7 (c0 + 2) y5.toNatClampNeg))) (fun x13 => gv (y5 + (-1 : Int32)) (fun x14 => L_X7_lowestWeakCourse_18 c0 u1 n y5 x13 x14 m7)))) else none else none)
def f_X7_lowestWeakCourse (c0 : Nat) (u1 : Int32) (u2 : Int32) (m0 : gMem) : Option (Int32 × gMem) := gv (((if (10 : Int32) < (m0 c0 2) then (10 : Int32) else (m0 c0 2)) - (1 : Int32))) (fun x1 => L_X7_lowestWeakCourse_18 c0 u1 gF (-1 : Int32) u2 x1 m0)
set_option maxRecDepth 100000 in
set_option maxHeartbeats 4000000 in
theorem l_X7_lowestWeakCourse_18 {p : Program} {l : Launch} {e : Env} {R : Room} {s : State} {m : MethodId} {args : Array Value} {below : List Frame} {meth : Method} {c : Code} {cells slots : Nat} {X : gX} (E : gEn p s m args c cX7_lowestWeakCourse RX7 X) (hr : meth.sig.returnType = (some .int)) (hlocks : meth.locks = false) (hml : c.maxLocals = 6) (hRf : 2 ≤ R.frames) (hRl : 82 ≤ R.locals) (hRc : 0 ≤ R.cells) (hRs : 0 ≤ R.slots) (hc : cells ≤ 0) (hs : slots ≤ 0) (c0 : Nat) (u1 : Int32) (hk0 : gk c0 = 7) {res : Int32 × gMem} :
    ∀ (n : Nat) (y3 : Int32) (y4 : Int32) (y5 : Int32) (m0 : gMem) (H : Heap) (locs : List Loc) (ls : Array Slot), L_X7_lowestWeakCourse_18 c0 u1 n y3 y4 y5 m0 = some res → gM X m0 H → va_S (gA X) s.heap H locs → lv_has ls 6 [(0, .ref (X.1 + c0)), (1, .int u1), (3, .int y3), (4, .int y4), (5, .int y5)] → W p l e R s m args below meth c H locs cells slots (MQ below (gQi X res) args s 0 0 (gA X)) (F0 m 18 ls []) := by
  obtain ⟨hx, hb⟩ := (⟨E.1, E.2.1⟩ : _ ∧ _)
  intro n
  induction n with
  | zero =>
    intro _ _ _ _ _ _ _ hf
    cases hf
  | succ n ih =>
    intro y3 y4 y5 m0 H locs ls hf hM hS hl
    rw [L_X7_lowestWeakCourse_18] at hf
    refine lv_iload hx hb dX7_lowestWeakCourse_18 (lv_at hl 4 rfl) ?_
    refine lv_if_lt (tgt := 68) hx hb dX7_lowestWeakCourse_20 (by decide) (fun h2 => ?_) (fun h2 => ?_)
    · have hf := g_t h2 hf
      refine lv_iload_n hx hb dX7_lowestWeakCourse_68 rfl (lv_at hl 2 rfl) ?_
      exact ge_i E hr hlocks hf hM hS hc hs dX7_lowestWeakCourse_69
    · have hf := g_f h2 hf
      refine lv_aload_n hx hb dX7_lowestWeakCourse_23 rfl (lv_at hl 0 rfl) ?_
      refine GX7_15 E hM hk0 dX7_lowestWeakCourse_24 ?_
      have hg3 : gk (c0 + 2) = 20 := gkf_7_1 hk0
      refine lv_iload hx hb dX7_lowestWeakCourse_27 (lv_at hl 4 rfl) ?_
      obtain ⟨hi4, hf⟩ := g_ck hf
      refine gg_iald E hM (gk_in hg3 (by decide)) hg3 hi4 dX7_lowestWeakCourse_29 ?_
      refine lv_aload_n hx hb dX7_lowestWeakCourse_30 rfl (lv_at hl 0 rfl) ?_
      refine GX7_9 E hM hk0 dX7_lowestWeakCourse_31 ?_
      have hg5 : gk (c0 + 1) = 20 := gkf_7_0 hk0
      refine lv_iload hx hb dX7_lowestWeakCourse_34 (lv_at hl 4 rfl) ?_
      obtain ⟨hi6, hf⟩ := g_ck hf
      refine gg_iald E hM (gk_in hg5 (by decide)) hg5 hi6 dX7_lowestWeakCourse_36 ?_
      refine lv_iload_n hx hb dX7_lowestWeakCourse_37 rfl (lv_at hl 1 rfl) ?_
      obtain ⟨r9, m7, hqq8, hf⟩ := g1_o hf
      refine ga_i (gr_SN (As := [.int (m0 (c0 + 1) y5.toNatClampNeg), .int u1]) (rm := { frames := 1, cells := 0, slots := 0, locals := 60 }) E hml hl.1 (c_X8_cubeBears l X (m0 (c0 + 1) y5.toNatClampNeg) u1 m0 hqq8) wt_X8_cubeBears wl_RX7_51 rfl hM hS rfl rfl (Nat.le_trans (by decide) hRf) (Nat.le_trans (by decide) hRl) (Nat.le_trans hc hRc) (Nat.le_trans hs hRs) (Nat.le_of_ble_eq_true rfl) dX7_lowestWeakCourse_38 rfl) hS (fun H locs hM hS => ?_)
      refine lv_imul hx hb dX7_lowestWeakCourse_41 ?_
      refine lv_iload hx hb dX7_lowestWeakCourse_42 (lv_at hl 3 rfl) ?_
      refine lv_icmp_ge (tgt := 50) hx hb dX7_lowestWeakCourse_44 (by decide) (fun h10 => ?_) (fun h10 => ?_)
      · have hf := g_t h10 hf
        refine lv_iload hx hb dX7_lowestWeakCourse_50 (lv_at hl 3 rfl) ?_
        refine lv_aload_n hx hb dX7_lowestWeakCourse_52 rfl (lv_at hl 0 rfl) ?_
        refine GX7_15 E hM hk0 dX7_lowestWeakCourse_53 ?_
        refine lv_iload hx hb dX7_lowestWeakCourse_56 (lv_at hl 4 rfl) ?_
        refine gg_iald E hM (gk_in hg3 (by decide)) hg3 hi4 dX7_lowestWeakCourse_58 ?_
        refine lv_iadd hx hb dX7_lowestWeakCourse_59 ?_
        obtain ⟨x11, ex11, hf⟩ := gv_o hf
        rw [← ex11]
        refine lv_istore (lv' := [(4, .int x11), (0, .ref (X.1 + c0)), (1, .int u1), (3, .int y3), (5, .int y5)]) hx hb dX7_lowestWeakCourse_60 hl (by decide) rfl (fun ls hl => ?_)
        obtain ⟨x12, ex12, hf⟩ := gv_o hf
        refine lv_iinc (v := x12) (lv' := [(5, .int x12), (4, .int x11), (0, .ref (X.1 + c0)), (1, .int u1), (3, .int y3)]) hx hb dX7_lowestWeakCourse_62 hl (k := 4) rfl (by rw [ex12]; rfl) (by decide) rfl (fun ls hl => ?_)
        refine lv_goto (tgt := 18) hx hb dX7_lowestWeakCourse_65 (by decide) ?_
        exact ih y3 x11 x12 m7 _ _ _ hf hM hS (lv_sub hl [2, 3, 4, 1, 0] rfl)
      · have hf := g_f h10 hf
        refine lv_iload hx hb dX7_lowestWeakCourse_47 (lv_at hl 4 rfl) ?_
        refine lv_istore_n (lv' := [(3, .int y5), (0, .ref (X.1 + c0)), (1, .int u1), (4, .int y4), (5, .int y5)]) hx hb dX7_lowestWeakCourse_49 rfl hl (by decide) rfl (fun ls hl => ?_)
        refine lv_iload hx hb dX7_lowestWeakCourse_50 (lv_at hl 3 rfl) ?_
        refine lv_aload_n hx hb dX7_lowestWeakCourse_52 rfl (lv_at hl 1 rfl) ?_
        refine GX7_15 E hM hk0 dX7_lowestWeakCourse_53 ?_
        refine lv_iload hx hb dX7_lowestWeakCourse_56 (lv_at hl 4 rfl) ?_
        refine gg_iald E hM (gk_in hg3 (by decide)) hg3 hi4 dX7_lowestWeakCourse_58 ?_
        refine lv_iadd hx hb dX7_lowestWeakCourse_59 ?_
        obtain ⟨x13, ex13, hf⟩ := gv_o hf
        rw [← ex13]
        refine lv_istore (lv' := [(4, .int x13), (3, .int y5), (0, .ref (X.1 + c0)), (1, .int u1), (5, .int y5)]) hx hb dX7_lowestWeakCourse_60 hl (by decide) rfl (fun ls hl => ?_)
        obtain ⟨x14, ex14, hf⟩ := gv_o hf
        refine lv_iinc (v := x14) (lv' := [(5, .int x14), (4, .int x13), (3, .int y5), (0, .ref (X.1 + c0)), (1, .int u1)]) hx hb dX7_lowestWeakCourse_62 hl (k := 4) rfl (by rw [ex14]; rfl) (by decide) rfl (fun ls hl => ?_)
        refine lv_goto (tgt := 18) hx hb dX7_lowestWeakCourse_65 (by decide) ?_
        exact ih y5 x13 x14 m7 _ _ _ hf hM hS (lv_sub hl [3, 4, 2, 1, 0] rfl)
set_option maxRecDepth 100000 in
set_option maxHeartbeats 4000000 in
theorem b_X7_lowestWeakCourse {p : Program} {l : Launch} {e : Env} {R : Room} {s : State} {m : MethodId} {args : Array Value} {below : List Frame} {meth : Method} {c : Code} {H : Heap} {locs : List Loc} {ls : Array Slot} {X : gX} (E : gEn p s m args c cX7_lowestWeakCourse RX7 X) (hr : meth.sig.returnType = (some .int)) (hlocks : meth.locks = false) (hml : c.maxLocals = 6) (hRf : 2 ≤ R.frames) (hRl : 82 ≤ R.locals) (hRc : 0 ≤ R.cells) (hRs : 0 ≤ R.slots) {c0 : Nat} {u1 : Int32} {u2 : Int32} {m0 : gMem} {res : Int32 × gMem} (hk0 : gk c0 = 7) (hf : f_X7_lowestWeakCourse c0 u1 u2 m0 = some res) (hM : gM X m0 H) (hS : va_S (gA X) s.heap H locs) (hl : lv_has ls 6 [(0, .ref (X.1 + c0)), (1, .int u1), (2, .int u2)]) : W p l e R s m args below meth c H locs 0 0 (MQ below (gQi X res) args s 0 0 (gA X)) (F0 m 0 ls []) := by
  obtain ⟨hx, hb⟩ := (⟨E.1, E.2.1⟩ : _ ∧ _)
  unfold f_X7_lowestWeakCourse at hf
  refine lv_iconst (v := (-1 : Int32)) hx hb dX7_lowestWeakCourse_0 (by decide) ?_
  refine lv_istore_n (lv' := [(3, .int (-1 : Int32)), (0, .ref (X.1 + c0)), (1, .int u1), (2, .int u2)]) hx hb dX7_lowestWeakCourse_1 rfl hl (by decide) rfl (fun ls hl => ?_)
  refine lv_iload_n hx hb dX7_lowestWeakCourse_2 rfl (lv_at hl 3 rfl) ?_
  refine lv_istore (lv' := [(4, .int u2), (3, .int (-1 : Int32)), (0, .ref (X.1 + c0)), (1, .int u1), (2, .int u2)]) hx hb dX7_lowestWeakCourse_3 hl (by decide) rfl (fun ls hl => ?_)
  refine lv_aload_n hx hb dX7_lowestWeakCourse_5 rfl (lv_at hl 2 rfl) ?_
  refine GX7_18 E hM hk0 dX7_lowestWeakCourse_6 ?_
  refine lv_bipush (v := (10 : Int32)) hx hb dX7_lowestWeakCourse_9 (by decide) ?_
  refine gg_min E hml hl.1 wl_RX7_48 wj_min_s wj_math wj_min_c (Nat.le_trans (by decide) hRf) (Nat.le_trans (Nat.le_of_ble_eq_true rfl) hRl) (Nat.le_trans (Nat.le_of_ble_eq_true rfl) hRc) (Nat.le_trans (Nat.le_of_ble_eq_true rfl) hRs) dX7_lowestWeakCourse_11 ?_
  refine lv_iconst (v := (1 : Int32)) hx hb dX7_lowestWeakCourse_14 (by decide) ?_
  refine lv_isub hx hb dX7_lowestWeakCourse_15 ?_
  obtain ⟨x1, ex1, hf⟩ := gv_o hf
  rw [← ex1]
  refine lv_istore (lv' := [(5, .int x1), (4, .int u2), (3, .int (-1 : Int32)), (0, .ref (X.1 + c0)), (1, .int u1), (2, .int u2)]) hx hb dX7_lowestWeakCourse_16 hl (by decide) rfl (fun ls hl => ?_)
  refine l_X7_lowestWeakCourse_18 E hr hlocks hml hRf hRl hRc hRs (Nat.le_of_ble_eq_true rfl) (Nat.le_of_ble_eq_true rfl) c0 u1 hk0 gF (-1 : Int32) u2 x1 m0 _ _ _ hf hM hS (lv_sub hl [3, 4, 2, 1, 0] rfl)
theorem c_X7_lowestWeakCourse (l : Launch) (X : gX) (c0 : Nat) (u1 : Int32) (u2 : Int32) (m0 : gMem) {res : Int32 × gMem} (hk0 : gk c0 = 7) (hf : f_X7_lowestWeakCourse c0 u1 u2 m0 = some res) : Met l yX7_lowestWeakCourse (gWs yX7_lowestWeakCourse cX7_lowestWeakCourse 6 (some .int)) { frames := 2, cells := 0, slots := 0, locals := 82 } (va_Pc [.ref (X.1 + c0), .int u1, .int u2] (gB X m0)) (gQi X res) 0 0 (gA X) :=
  gMet (own := RX7) (by decide +kernel) rfl (Nat.le_of_ble_eq_true rfl) (fun p e s m args below meth c ls E hr hlocks hml hM hl => b_X7_lowestWeakCourse E hr hlocks hml (Nat.le_refl _) (Nat.le_refl _) (Nat.le_refl _) (Nat.le_refl _) hk0 hf hM va_S.rf hl)
def f_X2_reasonAgainstLaying (c0 : Nat) (c1 : Nat) (u2 : Int32) (u3 : Int32) (u4 : Int32) (u5 : Int32) (m0 : gMem) : Option (Int32 × gMem) := g1 (f_X2_towerAt c0 u2 m0) (fun r3 m1 => gnl r3 (g1 (f_X2_tongsAt c0 u3 m1) (fun r8 m6 => gnl r8 (some ((0 : Int32), m6)) (fun z9 => if gk z9 = 6 then some ((0 : Int32), m6) else none))) (fun z4 => if gk z4 = 7 then g1 (f_X2_tongsAt c0 u3 m1) (fun r13 m11 => gnl r13 (some ((0 : Int32), m11)) (fun z14 => if gk z14 = 6 then gv ((m11 z4 2)) (fun x16 => if x16 < (10 : Int32) then (if (m11 z14 1) ≤ (0 : Int32) then (if x16 < (m11 z14 0) then (g1 (f_X2_stockOf c0 u4 m11) (fun r22 m20 => if u5 ≤ r22 then (if x16 ≤ (0 : Int32) then (g1 (f_X7_lowestWeakCourse z4 (m20 z4 3) u5 m20) (fun r27 m25 => if r27 = (-1 : Int32) then (some ((0 : Int32), m25)) else (g1 (f_X4_because c1 (8 : Int32) r27 m25) (fun r31 m29 => some (r31, m29))))) else (g1 (f_X7_cubesAt z4 (x16 - (1 : Int32)) m20) (fun r34 m32 => if u5 ≤ r34 then (g1 (f_X7_lowestWeakCourse z4 (m32 z4 3) u5 m32) (fun r38 m36 => if r38 = (-1 : Int32) then (some ((0 : Int32), m36)) else (g1 (f_X4_because c1 (8 : Int32) r38 m36) (fun r42 m40 => some (r42, m40))))) else (g1 (f_X7_cubesAt z4 (x16 - (1 : Int32)) m32) (fun r45 m43 => g1 (f_X4_because c1 (7 : Int32) r45 m43) (fun r48 m46 => some (r48, m46))))))) else (g1 (f_X2_stockOf c0 u4 m20) (fun r51 m49 => g1 (f_X4_because c1 (6 : Int32) r51 m49) (fun r54 m52 => some (r54, m52)))))) else (g1 (f_X4_because c1 (5 : Int32) (m11 z14 0) m11) (fun r57 m55 => some (r57, m55)))) else (g1 (f_X4_because c1 (4 : Int32) (m11 z14 1) m11) (fun r60 m58 => some (r60, m58)))) else (g1 (f_X4_because c1 (1 : Int32) (10 : Int32) m11) (fun r63 m61 => some (r63, m61)))) else none)) else none))
set_option maxRecDepth 100000 in
set_option maxHeartbeats 4000000 in
theorem b_X2_reasonAgainstLaying {p : Program} {l : Launch} {e : Env} {R : Room} {s : State} {m : MethodId} {args : Array Value} {below : List Frame} {meth : Method} {c : Code} {H : Heap} {locs : List Loc} {ls : Array Slot} {X : gX} (E : gEn p s m args c cX2_reasonAgainstLaying RX2 X) (hr : meth.sig.returnType = (some .int)) (hlocks : meth.locks = false) (hml : c.maxLocals = 10) (hRf : 3 ≤ R.frames) (hRl : 107 ≤ R.locals) (hRc : 0 ≤ R.cells) (hRs : 0 ≤ R.slots) {c0 : Nat} {c1 : Nat} {u2 : Int32} {u3 : Int32} {u4 : Int32} {u5 : Int32} {m0 : gMem} {res : Int32 × gMem} (hk0 : gk c0 = 2) (hk1 : gk c1 = 4) (hf : f_X2_reasonAgainstLaying c0 c1 u2 u3 u4 u5 m0 = some res) (hM : gM X m0 H) (hS : va_S (gA X) s.heap H locs) (hl : lv_has ls 10 [(0, .ref (X.1 + c0)), (1, .ref (X.1 + c1)), (2, .int u2), (3, .int u3), (4, .int u4), (5, .int u5)]) : W p l e R s m args below meth c H locs 0 0 (MQ below (gQi X res) args s 0 0 (gA X)) (F0 m 0 ls []) := by
  obtain ⟨hx, hb⟩ := (⟨E.1, E.2.1⟩ : _ ∧ _)
  unfold f_X2_reasonAgainstLaying at hf
  refine lv_aload_n hx hb dX2_reasonAgainstLaying_0 rfl (lv_at hl 0 rfl) ?_
  refine lv_iload_n hx hb dX2_reasonAgainstLaying_1 rfl (lv_at hl 2 rfl) ?_
  obtain ⟨r3, m1, hqq2, hf⟩ := g1_o hf
  refine ga_o (gr_V (As := [.int u2]) (ci := 2) (rm := { frames := 0, cells := 0, slots := 0, locals := 0 }) E hml hl.1 (c_X2_towerAt l X c0 u2 m0 hk0 hqq2) wt_X2_towerAt wl_RX2_126 rfl hk0 (by decide) rfl rfl hM hS rfl rfl (Nat.le_trans (by decide) hRf) (Nat.le_trans (by decide) hRl) (Nat.le_trans (Nat.le_of_ble_eq_true rfl) hRc) (Nat.le_trans (Nat.le_of_ble_eq_true rfl) hRs) (Nat.le_of_ble_eq_true rfl) dX2_reasonAgainstLaying_2 rfl) hS (fun H locs hM hS => ?_)
  cases r3 with
  | none =>
    have hf := gnl_n hf
    refine gW_null ?_
    refine lv_astoreN (lv' := [(6, .null), (0, .ref (X.1 + c0)), (1, .ref (X.1 + c1)), (2, .int u2), (3, .int u3), (4, .int u4), (5, .int u5)]) hx hb dX2_reasonAgainstLaying_5 hl (by decide) rfl (fun ls hl => ?_)
    refine lv_aload_n hx hb dX2_reasonAgainstLaying_7 rfl (lv_at hl 1 rfl) ?_
    refine lv_iload_n hx hb dX2_reasonAgainstLaying_8 rfl (lv_at hl 4 rfl) ?_
    obtain ⟨r8, m6, hqq7, hf⟩ := g1_o hf
    refine ga_o (gr_V (As := [.int u3]) (ci := 2) (rm := { frames := 0, cells := 0, slots := 0, locals := 0 }) E hml hl.1 (c_X2_tongsAt l X c0 u3 m1 hk0 hqq7) wt_X2_tongsAt wl_RX2_130 rfl hk0 (by decide) rfl rfl hM hS rfl rfl (Nat.le_trans (by decide) hRf) (Nat.le_trans (by decide) hRl) (Nat.le_trans (Nat.le_of_ble_eq_true rfl) hRc) (Nat.le_trans (Nat.le_of_ble_eq_true rfl) hRs) (Nat.le_of_ble_eq_true rfl) dX2_reasonAgainstLaying_9 rfl) hS (fun H locs hM hS => ?_)
    cases r8 with
    | none =>
      have hf := gnl_n hf
      refine gW_null ?_
      refine lv_astoreN (lv' := [(7, .null), (6, .null), (0, .ref (X.1 + c0)), (1, .ref (X.1 + c1)), (2, .int u2), (3, .int u3), (4, .int u4), (5, .int u5)]) hx hb dX2_reasonAgainstLaying_12 hl (by decide) rfl (fun ls hl => ?_)
      refine lv_aloadN hx hb dX2_reasonAgainstLaying_14 (lv_at hl 1 rfl) ?_
      refine lv_ifnullN (tgt := 24) hx hb dX2_reasonAgainstLaying_16 (by decide) ?_
      refine lv_iconst (v := (0 : Int32)) hx hb dX2_reasonAgainstLaying_24 (by decide) ?_
      exact ge_i E hr hlocks hf hM hS (Nat.le_of_ble_eq_true rfl) (Nat.le_of_ble_eq_true rfl) dX2_reasonAgainstLaying_25
    | some z9 =>
      have hf := gnl_s hf
      obtain ⟨hg10, hf⟩ := g_ck hf
      refine gW_some ?_
      refine lv_astore (lv' := [(7, .ref (X.1 + z9)), (6, .null), (0, .ref (X.1 + c0)), (1, .ref (X.1 + c1)), (2, .int u2), (3, .int u3), (4, .int u4), (5, .int u5)]) hx hb dX2_reasonAgainstLaying_12 hl (by decide) rfl (fun ls hl => ?_)
      refine lv_aloadN hx hb dX2_reasonAgainstLaying_14 (lv_at hl 1 rfl) ?_
      refine lv_ifnullN (tgt := 24) hx hb dX2_reasonAgainstLaying_16 (by decide) ?_
      refine lv_iconst (v := (0 : Int32)) hx hb dX2_reasonAgainstLaying_24 (by decide) ?_
      exact ge_i E hr hlocks hf hM hS (Nat.le_of_ble_eq_true rfl) (Nat.le_of_ble_eq_true rfl) dX2_reasonAgainstLaying_25
  | some z4 =>
    have hf := gnl_s hf
    obtain ⟨hg5, hf⟩ := g_ck hf
    refine gW_some ?_
    refine lv_astore (lv' := [(6, .ref (X.1 + z4)), (0, .ref (X.1 + c0)), (1, .ref (X.1 + c1)), (2, .int u2), (3, .int u3), (4, .int u4), (5, .int u5)]) hx hb dX2_reasonAgainstLaying_5 hl (by decide) rfl (fun ls hl => ?_)
    refine lv_aload_n hx hb dX2_reasonAgainstLaying_7 rfl (lv_at hl 1 rfl) ?_
    refine lv_iload_n hx hb dX2_reasonAgainstLaying_8 rfl (lv_at hl 4 rfl) ?_
    obtain ⟨r13, m11, hqq12, hf⟩ := g1_o hf
    refine ga_o (gr_V (As := [.int u3]) (ci := 2) (rm := { frames := 0, cells := 0, slots := 0, locals := 0 }) E hml hl.1 (c_X2_tongsAt l X c0 u3 m1 hk0 hqq12) wt_X2_tongsAt wl_RX2_130 rfl hk0 (by decide) rfl rfl hM hS rfl rfl (Nat.le_trans (by decide) hRf) (Nat.le_trans (by decide) hRl) (Nat.le_trans (Nat.le_of_ble_eq_true rfl) hRc) (Nat.le_trans (Nat.le_of_ble_eq_true rfl) hRs) (Nat.le_of_ble_eq_true rfl) dX2_reasonAgainstLaying_9 rfl) hS (fun H locs hM hS => ?_)
    cases r13 with
    | none =>
      have hf := gnl_n hf
      refine gW_null ?_
      refine lv_astoreN (lv' := [(7, .null), (6, .ref (X.1 + z4)), (0, .ref (X.1 + c0)), (1, .ref (X.1 + c1)), (2, .int u2), (3, .int u3), (4, .int u4), (5, .int u5)]) hx hb dX2_reasonAgainstLaying_12 hl (by decide) rfl (fun ls hl => ?_)
      refine lv_aload hx hb dX2_reasonAgainstLaying_14 (lv_at hl 1 rfl) ?_
      refine lv_ifnull hx hb dX2_reasonAgainstLaying_16 ?_
      refine lv_aloadN hx hb dX2_reasonAgainstLaying_19 (lv_at hl 0 rfl) ?_
      refine lv_ifnonnullN hx hb dX2_reasonAgainstLaying_21 ?_
      refine lv_iconst (v := (0 : Int32)) hx hb dX2_reasonAgainstLaying_24 (by decide) ?_
      exact ge_i E hr hlocks hf hM hS (Nat.le_of_ble_eq_true rfl) (Nat.le_of_ble_eq_true rfl) dX2_reasonAgainstLaying_25
    | some z14 =>
      have hf := gnl_s hf
      obtain ⟨hg15, hf⟩ := g_ck hf
      refine gW_some ?_
      refine lv_astore (lv' := [(7, .ref (X.1 + z14)), (6, .ref (X.1 + z4)), (0, .ref (X.1 + c0)), (1, .ref (X.1 + c1)), (2, .int u2), (3, .int u3), (4, .int u4), (5, .int u5)]) hx hb dX2_reasonAgainstLaying_12 hl (by decide) rfl (fun ls hl => ?_)
      refine lv_aload hx hb dX2_reasonAgainstLaying_14 (lv_at hl 1 rfl) ?_
      refine lv_ifnull hx hb dX2_reasonAgainstLaying_16 ?_
      refine lv_aload hx hb dX2_reasonAgainstLaying_19 (lv_at hl 0 rfl) ?_
      refine lv_ifnonnull (tgt := 26) hx hb dX2_reasonAgainstLaying_21 (by decide) ?_
      refine lv_aload hx hb dX2_reasonAgainstLaying_26 (lv_at hl 1 rfl) ?_
      refine GX2_134 E hM hg5 dX2_reasonAgainstLaying_28 ?_
      obtain ⟨x16, ex16, hf⟩ := gv_o hf
      rw [← ex16]
      refine lv_istore (lv' := [(8, .int x16), (7, .ref (X.1 + z14)), (6, .ref (X.1 + z4)), (0, .ref (X.1 + c0)), (1, .ref (X.1 + c1)), (2, .int u2), (3, .int u3), (4, .int u4), (5, .int u5)]) hx hb dX2_reasonAgainstLaying_31 hl (by decide) rfl (fun ls hl => ?_)
      refine lv_iload hx hb dX2_reasonAgainstLaying_33 (lv_at hl 0 rfl) ?_
      refine lv_bipush (v := (10 : Int32)) hx hb dX2_reasonAgainstLaying_35 (by decide) ?_
      refine lv_icmp_lt (tgt := 48) hx hb dX2_reasonAgainstLaying_37 (by decide) (fun h17 => ?_) (fun h17 => ?_)
      · have hf := g_t h17 hf
        refine lv_aload hx hb dX2_reasonAgainstLaying_48 (lv_at hl 1 rfl) ?_
        refine GX2_118 E hM hg15 dX2_reasonAgainstLaying_50 ?_
        refine lv_if_le (tgt := 67) hx hb dX2_reasonAgainstLaying_53 (by decide) (fun h18 => ?_) (fun h18 => ?_)
        · have hf := g_t h18 hf
          refine lv_iload hx hb dX2_reasonAgainstLaying_67 (lv_at hl 0 rfl) ?_
          refine lv_aload hx hb dX2_reasonAgainstLaying_69 (lv_at hl 1 rfl) ?_
          refine GX2_121 E hM hg15 dX2_reasonAgainstLaying_71 ?_
          refine lv_icmp_lt (tgt := 88) hx hb dX2_reasonAgainstLaying_74 (by decide) (fun h19 => ?_) (fun h19 => ?_)
          · have hf := g_t h19 hf
            refine lv_aload_n hx hb dX2_reasonAgainstLaying_88 rfl (lv_at hl 3 rfl) ?_
            refine lv_iload hx hb dX2_reasonAgainstLaying_89 (lv_at hl 7 rfl) ?_
            obtain ⟨r22, m20, hqq21, hf⟩ := g1_o hf
            refine ga_i (gr_V (As := [.int u4]) (ci := 2) (rm := { frames := 1, cells := 0, slots := 0, locals := 20 }) E hml hl.1 (c_X2_stockOf l X c0 u4 m11 hk0 hqq21) wt_X2_stockOf wl_RX2_102 rfl hk0 (by decide) rfl rfl hM hS rfl rfl (Nat.le_trans (by decide) hRf) (Nat.le_trans (by decide) hRl) (Nat.le_trans (Nat.le_of_ble_eq_true rfl) hRc) (Nat.le_trans (Nat.le_of_ble_eq_true rfl) hRs) (Nat.le_of_ble_eq_true rfl) dX2_reasonAgainstLaying_91 rfl) hS (fun H locs hM hS => ?_)
            refine lv_iload hx hb dX2_reasonAgainstLaying_94 (lv_at hl 8 rfl) ?_
            refine lv_icmp_ge (tgt := 112) hx hb dX2_reasonAgainstLaying_96 (by decide) (fun h23 => ?_) (fun h23 => ?_)
            · have hf := g_t h23 hf
              refine lv_iload hx hb dX2_reasonAgainstLaying_112 (lv_at hl 0 rfl) ?_
              refine lv_if_le (tgt := 147) hx hb dX2_reasonAgainstLaying_114 (by decide) (fun h24 => ?_) (fun h24 => ?_)
              · have hf := g_t h24 hf
                refine lv_aload hx hb dX2_reasonAgainstLaying_147 (lv_at hl 2 rfl) ?_
                refine lv_aload hx hb dX2_reasonAgainstLaying_149 (lv_at hl 2 rfl) ?_
                refine GX2_140 E hM hg5 dX2_reasonAgainstLaying_151 ?_
                refine lv_iload hx hb dX2_reasonAgainstLaying_154 (lv_at hl 8 rfl) ?_
                obtain ⟨r27, m25, hqq26, hf⟩ := g1_o hf
                refine ga_i (gr_V (As := [.int (m20 z4 3), .int u5]) (ci := 7) (rm := { frames := 2, cells := 0, slots := 0, locals := 82 }) E hml hl.1 (c_X7_lowestWeakCourse l X z4 (m20 z4 3) u5 m20 hg5 hqq26) wt_X7_lowestWeakCourse wl_RX2_143 rfl hg5 (by decide) rfl rfl hM hS rfl rfl (Nat.le_trans (by decide) hRf) (Nat.le_trans (by decide) hRl) (Nat.le_trans (Nat.le_of_ble_eq_true rfl) hRc) (Nat.le_trans (Nat.le_of_ble_eq_true rfl) hRs) (Nat.le_of_ble_eq_true rfl) dX2_reasonAgainstLaying_156 rfl) hS (fun H locs hM hS => ?_)
                refine lv_istore (lv' := [(9, .int r27), (8, .int x16), (7, .ref (X.1 + z14)), (6, .ref (X.1 + z4)), (0, .ref (X.1 + c0)), (1, .ref (X.1 + c1)), (2, .int u2), (3, .int u3), (4, .int u4), (5, .int u5)]) hx hb dX2_reasonAgainstLaying_159 hl (by decide) rfl (fun ls hl => ?_)
                refine lv_iload hx hb dX2_reasonAgainstLaying_161 (lv_at hl 0 rfl) ?_
                refine lv_iconst (v := (-1 : Int32)) hx hb dX2_reasonAgainstLaying_163 (by decide) ?_
                refine lv_icmp_ne (tgt := 171) hx hb dX2_reasonAgainstLaying_164 (by decide) (fun h28 => ?_) (fun h28 => ?_)
                · have hf := g_f h28 hf
                  refine lv_aload_n hx hb dX2_reasonAgainstLaying_171 rfl (lv_at hl 5 rfl) ?_
                  refine lv_bipush (v := (8 : Int32)) hx hb dX2_reasonAgainstLaying_172 (by decide) ?_
                  refine lv_iload hx hb dX2_reasonAgainstLaying_174 (lv_at hl 0 rfl) ?_
                  obtain ⟨r31, m29, hqq30, hf⟩ := g1_o hf
                  refine ga_i (gr_V (As := [.int (8 : Int32), .int r27]) (ci := 4) (rm := { frames := 0, cells := 0, slots := 0, locals := 0 }) E hml hl.1 (c_X4_because l X c1 (8 : Int32) r27 m25 hk1 hqq30) wt_X4_because wl_RX2_106 rfl hk1 (by decide) rfl rfl hM hS rfl rfl (Nat.le_trans (by decide) hRf) (Nat.le_trans (by decide) hRl) (Nat.le_trans (Nat.le_of_ble_eq_true rfl) hRc) (Nat.le_trans (Nat.le_of_ble_eq_true rfl) hRs) (Nat.le_of_ble_eq_true rfl) dX2_reasonAgainstLaying_176 rfl) hS (fun H locs hM hS => ?_)
                  exact ge_i E hr hlocks hf hM hS (Nat.le_of_ble_eq_true rfl) (Nat.le_of_ble_eq_true rfl) dX2_reasonAgainstLaying_179
                · have hf := g_t h28 hf
                  refine lv_iconst (v := (0 : Int32)) hx hb dX2_reasonAgainstLaying_167 (by decide) ?_
                  refine lv_goto (tgt := 179) hx hb dX2_reasonAgainstLaying_168 (by decide) ?_
                  exact ge_i E hr hlocks hf hM hS (Nat.le_of_ble_eq_true rfl) (Nat.le_of_ble_eq_true rfl) dX2_reasonAgainstLaying_179
              · have hf := g_f h24 hf
                refine lv_iload hx hb dX2_reasonAgainstLaying_117 (lv_at hl 8 rfl) ?_
                refine lv_aload hx hb dX2_reasonAgainstLaying_119 (lv_at hl 2 rfl) ?_
                refine lv_iload hx hb dX2_reasonAgainstLaying_121 (lv_at hl 0 rfl) ?_
                refine lv_iconst (v := (1 : Int32)) hx hb dX2_reasonAgainstLaying_123 (by decide) ?_
                refine lv_isub hx hb dX2_reasonAgainstLaying_124 ?_
                obtain ⟨r34, m32, hqq33, hf⟩ := g1_o hf
                refine ga_i (gr_V (As := [.int (x16 - (1 : Int32))]) (ci := 7) (rm := { frames := 1, cells := 0, slots := 0, locals := 21 }) E hml hl.1 (c_X7_cubesAt l X z4 (x16 - (1 : Int32)) m20 hg5 hqq33) wt_X7_cubesAt wl_RX2_137 rfl hg5 (by decide) rfl rfl hM hS rfl rfl (Nat.le_trans (by decide) hRf) (Nat.le_trans (by decide) hRl) (Nat.le_trans (Nat.le_of_ble_eq_true rfl) hRc) (Nat.le_trans (Nat.le_of_ble_eq_true rfl) hRs) (Nat.le_of_ble_eq_true rfl) dX2_reasonAgainstLaying_125 rfl) hS (fun H locs hM hS => ?_)
                refine lv_icmp_le (tgt := 147) hx hb dX2_reasonAgainstLaying_128 (by decide) (fun h35 => ?_) (fun h35 => ?_)
                · have hf := g_t h35 hf
                  refine lv_aload hx hb dX2_reasonAgainstLaying_147 (lv_at hl 2 rfl) ?_
                  refine lv_aload hx hb dX2_reasonAgainstLaying_149 (lv_at hl 2 rfl) ?_
                  refine GX2_140 E hM hg5 dX2_reasonAgainstLaying_151 ?_
                  refine lv_iload hx hb dX2_reasonAgainstLaying_154 (lv_at hl 8 rfl) ?_
                  obtain ⟨r38, m36, hqq37, hf⟩ := g1_o hf
                  refine ga_i (gr_V (As := [.int (m32 z4 3), .int u5]) (ci := 7) (rm := { frames := 2, cells := 0, slots := 0, locals := 82 }) E hml hl.1 (c_X7_lowestWeakCourse l X z4 (m32 z4 3) u5 m32 hg5 hqq37) wt_X7_lowestWeakCourse wl_RX2_143 rfl hg5 (by decide) rfl rfl hM hS rfl rfl (Nat.le_trans (by decide) hRf) (Nat.le_trans (by decide) hRl) (Nat.le_trans (Nat.le_of_ble_eq_true rfl) hRc) (Nat.le_trans (Nat.le_of_ble_eq_true rfl) hRs) (Nat.le_of_ble_eq_true rfl) dX2_reasonAgainstLaying_156 rfl) hS (fun H locs hM hS => ?_)
                  refine lv_istore (lv' := [(9, .int r38), (8, .int x16), (7, .ref (X.1 + z14)), (6, .ref (X.1 + z4)), (0, .ref (X.1 + c0)), (1, .ref (X.1 + c1)), (2, .int u2), (3, .int u3), (4, .int u4), (5, .int u5)]) hx hb dX2_reasonAgainstLaying_159 hl (by decide) rfl (fun ls hl => ?_)
                  refine lv_iload hx hb dX2_reasonAgainstLaying_161 (lv_at hl 0 rfl) ?_
                  refine lv_iconst (v := (-1 : Int32)) hx hb dX2_reasonAgainstLaying_163 (by decide) ?_
                  refine lv_icmp_ne (tgt := 171) hx hb dX2_reasonAgainstLaying_164 (by decide) (fun h39 => ?_) (fun h39 => ?_)
                  · have hf := g_f h39 hf
                    refine lv_aload_n hx hb dX2_reasonAgainstLaying_171 rfl (lv_at hl 5 rfl) ?_
                    refine lv_bipush (v := (8 : Int32)) hx hb dX2_reasonAgainstLaying_172 (by decide) ?_
                    refine lv_iload hx hb dX2_reasonAgainstLaying_174 (lv_at hl 0 rfl) ?_
                    obtain ⟨r42, m40, hqq41, hf⟩ := g1_o hf
                    refine ga_i (gr_V (As := [.int (8 : Int32), .int r38]) (ci := 4) (rm := { frames := 0, cells := 0, slots := 0, locals := 0 }) E hml hl.1 (c_X4_because l X c1 (8 : Int32) r38 m36 hk1 hqq41) wt_X4_because wl_RX2_106 rfl hk1 (by decide) rfl rfl hM hS rfl rfl (Nat.le_trans (by decide) hRf) (Nat.le_trans (by decide) hRl) (Nat.le_trans (Nat.le_of_ble_eq_true rfl) hRc) (Nat.le_trans (Nat.le_of_ble_eq_true rfl) hRs) (Nat.le_of_ble_eq_true rfl) dX2_reasonAgainstLaying_176 rfl) hS (fun H locs hM hS => ?_)
                    exact ge_i E hr hlocks hf hM hS (Nat.le_of_ble_eq_true rfl) (Nat.le_of_ble_eq_true rfl) dX2_reasonAgainstLaying_179
                  · have hf := g_t h39 hf
                    refine lv_iconst (v := (0 : Int32)) hx hb dX2_reasonAgainstLaying_167 (by decide) ?_
                    refine lv_goto (tgt := 179) hx hb dX2_reasonAgainstLaying_168 (by decide) ?_
                    exact ge_i E hr hlocks hf hM hS (Nat.le_of_ble_eq_true rfl) (Nat.le_of_ble_eq_true rfl) dX2_reasonAgainstLaying_179
                · have hf := g_f h35 hf
                  refine lv_aload_n hx hb dX2_reasonAgainstLaying_131 rfl (lv_at hl 4 rfl) ?_
                  refine lv_bipush (v := (7 : Int32)) hx hb dX2_reasonAgainstLaying_132 (by decide) ?_
                  refine lv_aload hx hb dX2_reasonAgainstLaying_134 (lv_at hl 2 rfl) ?_
                  refine lv_iload hx hb dX2_reasonAgainstLaying_136 (lv_at hl 0 rfl) ?_
                  refine lv_iconst (v := (1 : Int32)) hx hb dX2_reasonAgainstLaying_138 (by decide) ?_
                  refine lv_isub hx hb dX2_reasonAgainstLaying_139 ?_
                  obtain ⟨r45, m43, hqq44, hf⟩ := g1_o hf
                  refine ga_i (gr_V (As := [.int (x16 - (1 : Int32))]) (ci := 7) (rm := { frames := 1, cells := 0, slots := 0, locals := 21 }) E hml hl.1 (c_X7_cubesAt l X z4 (x16 - (1 : Int32)) m32 hg5 hqq44) wt_X7_cubesAt wl_RX2_137 rfl hg5 (by decide) rfl rfl hM hS rfl rfl (Nat.le_trans (by decide) hRf) (Nat.le_trans (by decide) hRl) (Nat.le_trans (Nat.le_of_ble_eq_true rfl) hRc) (Nat.le_trans (Nat.le_of_ble_eq_true rfl) hRs) (Nat.le_of_ble_eq_true rfl) dX2_reasonAgainstLaying_140 rfl) hS (fun H locs hM hS => ?_)
                  obtain ⟨r48, m46, hqq47, hf⟩ := g1_o hf
                  refine ga_i (gr_V (As := [.int (7 : Int32), .int r45]) (ci := 4) (rm := { frames := 0, cells := 0, slots := 0, locals := 0 }) E hml hl.1 (c_X4_because l X c1 (7 : Int32) r45 m43 hk1 hqq47) wt_X4_because wl_RX2_106 rfl hk1 (by decide) rfl rfl hM hS rfl rfl (Nat.le_trans (by decide) hRf) (Nat.le_trans (by decide) hRl) (Nat.le_trans (Nat.le_of_ble_eq_true rfl) hRc) (Nat.le_trans (Nat.le_of_ble_eq_true rfl) hRs) (Nat.le_of_ble_eq_true rfl) dX2_reasonAgainstLaying_143 rfl) hS (fun H locs hM hS => ?_)
                  exact ge_i E hr hlocks hf hM hS (Nat.le_of_ble_eq_true rfl) (Nat.le_of_ble_eq_true rfl) dX2_reasonAgainstLaying_146
            · have hf := g_f h23 hf
              refine lv_aload_n hx hb dX2_reasonAgainstLaying_99 rfl (lv_at hl 4 rfl) ?_
              refine lv_bipush (v := (6 : Int32)) hx hb dX2_reasonAgainstLaying_100 (by decide) ?_
              refine lv_aload_n hx hb dX2_reasonAgainstLaying_102 rfl (lv_at hl 3 rfl) ?_
              refine lv_iload hx hb dX2_reasonAgainstLaying_103 (lv_at hl 7 rfl) ?_
              obtain ⟨r51, m49, hqq50, hf⟩ := g1_o hf
              refine ga_i (gr_V (As := [.int u4]) (ci := 2) (rm := { frames := 1, cells := 0, slots := 0, locals := 20 }) E hml hl.1 (c_X2_stockOf l X c0 u4 m20 hk0 hqq50) wt_X2_stockOf wl_RX2_102 rfl hk0 (by decide) rfl rfl hM hS rfl rfl (Nat.le_trans (by decide) hRf) (Nat.le_trans (by decide) hRl) (Nat.le_trans (Nat.le_of_ble_eq_true rfl) hRc) (Nat.le_trans (Nat.le_of_ble_eq_true rfl) hRs) (Nat.le_of_ble_eq_true rfl) dX2_reasonAgainstLaying_105 rfl) hS (fun H locs hM hS => ?_)
              obtain ⟨r54, m52, hqq53, hf⟩ := g1_o hf
              refine ga_i (gr_V (As := [.int (6 : Int32), .int r51]) (ci := 4) (rm := { frames := 0, cells := 0, slots := 0, locals := 0 }) E hml hl.1 (c_X4_because l X c1 (6 : Int32) r51 m49 hk1 hqq53) wt_X4_because wl_RX2_106 rfl hk1 (by decide) rfl rfl hM hS rfl rfl (Nat.le_trans (by decide) hRf) (Nat.le_trans (by decide) hRl) (Nat.le_trans (Nat.le_of_ble_eq_true rfl) hRc) (Nat.le_trans (Nat.le_of_ble_eq_true rfl) hRs) (Nat.le_of_ble_eq_true rfl) dX2_reasonAgainstLaying_108 rfl) hS (fun H locs hM hS => ?_)
              exact ge_i E hr hlocks hf hM hS (Nat.le_of_ble_eq_true rfl) (Nat.le_of_ble_eq_true rfl) dX2_reasonAgainstLaying_111
          · have hf := g_f h19 hf
            refine lv_aload_n hx hb dX2_reasonAgainstLaying_77 rfl (lv_at hl 4 rfl) ?_
            refine lv_iconst (v := (5 : Int32)) hx hb dX2_reasonAgainstLaying_78 (by decide) ?_
            refine lv_aload hx hb dX2_reasonAgainstLaying_79 (lv_at hl 1 rfl) ?_
            refine GX2_121 E hM hg15 dX2_reasonAgainstLaying_81 ?_
            obtain ⟨r57, m55, hqq56, hf⟩ := g1_o hf
            refine ga_i (gr_V (As := [.int (5 : Int32), .int (m11 z14 0)]) (ci := 4) (rm := { frames := 0, cells := 0, slots := 0, locals := 0 }) E hml hl.1 (c_X4_because l X c1 (5 : Int32) (m11 z14 0) m11 hk1 hqq56) wt_X4_because wl_RX2_106 rfl hk1 (by decide) rfl rfl hM hS rfl rfl (Nat.le_trans (by decide) hRf) (Nat.le_trans (by decide) hRl) (Nat.le_trans (Nat.le_of_ble_eq_true rfl) hRc) (Nat.le_trans (Nat.le_of_ble_eq_true rfl) hRs) (Nat.le_of_ble_eq_true rfl) dX2_reasonAgainstLaying_84 rfl) hS (fun H locs hM hS => ?_)
            exact ge_i E hr hlocks hf hM hS (Nat.le_of_ble_eq_true rfl) (Nat.le_of_ble_eq_true rfl) dX2_reasonAgainstLaying_87
        · have hf := g_f h18 hf
          refine lv_aload_n hx hb dX2_reasonAgainstLaying_56 rfl (lv_at hl 4 rfl) ?_
          refine lv_iconst (v := (4 : Int32)) hx hb dX2_reasonAgainstLaying_57 (by decide) ?_
          refine lv_aload hx hb dX2_reasonAgainstLaying_58 (lv_at hl 1 rfl) ?_
          refine GX2_118 E hM hg15 dX2_reasonAgainstLaying_60 ?_
          obtain ⟨r60, m58, hqq59, hf⟩ := g1_o hf
          refine ga_i (gr_V (As := [.int (4 : Int32), .int (m11 z14 1)]) (ci := 4) (rm := { frames := 0, cells := 0, slots := 0, locals := 0 }) E hml hl.1 (c_X4_because l X c1 (4 : Int32) (m11 z14 1) m11 hk1 hqq59) wt_X4_because wl_RX2_106 rfl hk1 (by decide) rfl rfl hM hS rfl rfl (Nat.le_trans (by decide) hRf) (Nat.le_trans (by decide) hRl) (Nat.le_trans (Nat.le_of_ble_eq_true rfl) hRc) (Nat.le_trans (Nat.le_of_ble_eq_true rfl) hRs) (Nat.le_of_ble_eq_true rfl) dX2_reasonAgainstLaying_63 rfl) hS (fun H locs hM hS => ?_)
          exact ge_i E hr hlocks hf hM hS (Nat.le_of_ble_eq_true rfl) (Nat.le_of_ble_eq_true rfl) dX2_reasonAgainstLaying_66
      · have hf := g_f h17 hf
        refine lv_aload_n hx hb dX2_reasonAgainstLaying_40 rfl (lv_at hl 4 rfl) ?_
        refine lv_iconst (v := (1 : Int32)) hx hb dX2_reasonAgainstLaying_41 (by decide) ?_
        refine lv_bipush (v := (10 : Int32)) hx hb dX2_reasonAgainstLaying_42 (by decide) ?_
        obtain ⟨r63, m61, hqq62, hf⟩ := g1_o hf
        refine ga_i (gr_V (As := [.int (1 : Int32), .int (10 : Int32)]) (ci := 4) (rm := { frames := 0, cells := 0, slots := 0, locals := 0 }) E hml hl.1 (c_X4_because l X c1 (1 : Int32) (10 : Int32) m11 hk1 hqq62) wt_X4_because wl_RX2_106 rfl hk1 (by decide) rfl rfl hM hS rfl rfl (Nat.le_trans (by decide) hRf) (Nat.le_trans (by decide) hRl) (Nat.le_trans (Nat.le_of_ble_eq_true rfl) hRc) (Nat.le_trans (Nat.le_of_ble_eq_true rfl) hRs) (Nat.le_of_ble_eq_true rfl) dX2_reasonAgainstLaying_44 rfl) hS (fun H locs hM hS => ?_)
        exact ge_i E hr hlocks hf hM hS (Nat.le_of_ble_eq_true rfl) (Nat.le_of_ble_eq_true rfl) dX2_reasonAgainstLaying_47
theorem c_X2_reasonAgainstLaying (l : Launch) (X : gX) (c0 : Nat) (c1 : Nat) (u2 : Int32) (u3 : Int32) (u4 : Int32) (u5 : Int32) (m0 : gMem) {res : Int32 × gMem} (hk0 : gk c0 = 2) (hk1 : gk c1 = 4) (hf : f_X2_reasonAgainstLaying c0 c1 u2 u3 u4 u5 m0 = some res) : Met l yX2_reasonAgainstLaying (gWs yX2_reasonAgainstLaying cX2_reasonAgainstLaying 10 (some .int)) { frames := 3, cells := 0, slots := 0, locals := 107 } (va_Pc [.ref (X.1 + c0), .ref (X.1 + c1), .int u2, .int u3, .int u4, .int u5] (gB X m0)) (gQi X res) 0 0 (gA X) :=
  gMet (own := RX2) (by decide +kernel) rfl (Nat.le_of_ble_eq_true rfl) (fun p e s m args below meth c ls E hr hlocks hml hM hl => b_X2_reasonAgainstLaying E hr hlocks hml (Nat.le_refl _) (Nat.le_refl _) (Nat.le_refl _) (Nat.le_refl _) hk0 hk1 hf hM va_S.rf hl)
def f_X7_addCourse (c0 : Nat) (u1 : Int32) (u2 : Int32) (m0 : gMem) : Option (Int32 × gMem) := gv ((m0 c0 2)) (fun x1 => if x1 < (0 : Int32) then (some (x1, m0)) else (if (10 : Int32) ≤ x1 then (some (x1, m0)) else (if ¬ (x1 < 0 ∨ gl (c0 + 1) ≤ x1.toNatClampNeg) then gv (ms m0 (c0 + 1) x1.toNatClampNeg u1) (fun m6 => if ¬ (x1 < 0 ∨ gl (c0 + 2) ≤ x1.toNatClampNeg) then gv (ms m6 (c0 + 2) x1.toNatClampNeg u2) (fun m9 => gv (ms m9 c0 2 ((m9 c0 2) + (1 : Int32))) (fun m10 => some (x1, m10))) else none) else none)))
set_option maxRecDepth 100000 in
set_option maxHeartbeats 4000000 in
theorem b_X7_addCourse {p : Program} {l : Launch} {e : Env} {R : Room} {s : State} {m : MethodId} {args : Array Value} {below : List Frame} {meth : Method} {c : Code} {H : Heap} {locs : List Loc} {ls : Array Slot} {X : gX} (E : gEn p s m args c cX7_addCourse RX7 X) (hr : meth.sig.returnType = (some .int)) (hlocks : meth.locks = false) (hml : c.maxLocals = 4) (hRf : 0 ≤ R.frames) (hRl : 0 ≤ R.locals) (hRc : 0 ≤ R.cells) (hRs : 0 ≤ R.slots) {c0 : Nat} {u1 : Int32} {u2 : Int32} {m0 : gMem} {res : Int32 × gMem} (hk0 : gk c0 = 7) (hf : f_X7_addCourse c0 u1 u2 m0 = some res) (hM : gM X m0 H) (hS : va_S (gA X) s.heap H locs) (hl : lv_has ls 4 [(0, .ref (X.1 + c0)), (1, .int u1), (2, .int u2)]) : W p l e R s m args below meth c H locs 0 0 (MQ below (gQi X res) args s 0 0 (gA X)) (F0 m 0 ls []) := by
  obtain ⟨hx, hb⟩ := (⟨E.1, E.2.1⟩ : _ ∧ _)
  unfold f_X7_addCourse at hf
  refine lv_aload_n hx hb dX7_addCourse_0 rfl (lv_at hl 0 rfl) ?_
  refine GX7_18 E hM hk0 dX7_addCourse_1 ?_
  obtain ⟨x1, ex1, hf⟩ := gv_o hf
  rw [← ex1]
  refine lv_istore_n (lv' := [(3, .int x1), (0, .ref (X.1 + c0)), (1, .int u1), (2, .int u2)]) hx hb dX7_addCourse_4 rfl hl (by decide) rfl (fun ls hl => ?_)
  refine lv_iload_n hx hb dX7_addCourse_5 rfl (lv_at hl 0 rfl) ?_
  refine lv_if_lt (tgt := 39) hx hb dX7_addCourse_6 (by decide) (fun h2 => ?_) (fun h2 => ?_)
  · have hf := g_t h2 hf
    refine lv_iload_n hx hb dX7_addCourse_39 rfl (lv_at hl 0 rfl) ?_
    exact ge_i E hr hlocks hf hM hS (Nat.le_of_ble_eq_true rfl) (Nat.le_of_ble_eq_true rfl) dX7_addCourse_40
  · have hf := g_f h2 hf
    refine lv_iload_n hx hb dX7_addCourse_9 rfl (lv_at hl 0 rfl) ?_
    refine lv_bipush (v := (10 : Int32)) hx hb dX7_addCourse_10 (by decide) ?_
    refine lv_icmp_ge (tgt := 39) hx hb dX7_addCourse_12 (by decide) (fun h3 => ?_) (fun h3 => ?_)
    · have hf := g_t h3 hf
      refine lv_iload_n hx hb dX7_addCourse_39 rfl (lv_at hl 0 rfl) ?_
      exact ge_i E hr hlocks hf hM hS (Nat.le_of_ble_eq_true rfl) (Nat.le_of_ble_eq_true rfl) dX7_addCourse_40
    · have hf := g_f h3 hf
      refine lv_aload_n hx hb dX7_addCourse_15 rfl (lv_at hl 1 rfl) ?_
      refine GX7_9 E hM hk0 dX7_addCourse_16 ?_
      have hg4 : gk (c0 + 1) = 20 := gkf_7_0 hk0
      refine lv_iload_n hx hb dX7_addCourse_19 rfl (lv_at hl 0 rfl) ?_
      refine lv_iload_n hx hb dX7_addCourse_20 rfl (lv_at hl 2 rfl) ?_
      obtain ⟨hi5, hf⟩ := g_ck hf
      obtain ⟨m6, em6, hf⟩ := gv_o hf
      refine gg_iast E (fun c hc => gA_in X hc) hM hS (gk_in hg4 (by decide)) hg4 hi5 em6 dX7_addCourse_21 (fun H locs hM hS => ?_)
      refine lv_aload_n hx hb dX7_addCourse_22 rfl (lv_at hl 1 rfl) ?_
      refine GX7_15 E hM hk0 dX7_addCourse_23 ?_
      have hg7 : gk (c0 + 2) = 20 := gkf_7_1 hk0
      refine lv_iload_n hx hb dX7_addCourse_26 rfl (lv_at hl 0 rfl) ?_
      refine lv_iload_n hx hb dX7_addCourse_27 rfl (lv_at hl 3 rfl) ?_
      obtain ⟨hi8, hf⟩ := g_ck hf
      obtain ⟨m9, em9, hf⟩ := gv_o hf
      refine gg_iast E (fun c hc => gA_in X hc) hM hS (gk_in hg7 (by decide)) hg7 hi8 em9 dX7_addCourse_28 (fun H locs hM hS => ?_)
      refine lv_aload_n hx hb dX7_addCourse_29 rfl (lv_at hl 1 rfl) ?_
      refine lv_dup hx hb dX7_addCourse_30 rfl ?_
      refine GX7_18 E hM hk0 dX7_addCourse_31 ?_
      refine lv_iconst (v := (1 : Int32)) hx hb dX7_addCourse_34 (by decide) ?_
      refine lv_iadd hx hb dX7_addCourse_35 ?_
      obtain ⟨m10, em10, hf⟩ := gv_o hf
      refine PX7_18 E hM hS hk0 em10 dX7_addCourse_36 (fun H locs hM hS => ?_)
      refine lv_iload_n hx hb dX7_addCourse_39 rfl (lv_at hl 0 rfl) ?_
      exact ge_i E hr hlocks hf hM hS (Nat.le_of_ble_eq_true rfl) (Nat.le_of_ble_eq_true rfl) dX7_addCourse_40
theorem c_X7_addCourse (l : Launch) (X : gX) (c0 : Nat) (u1 : Int32) (u2 : Int32) (m0 : gMem) {res : Int32 × gMem} (hk0 : gk c0 = 7) (hf : f_X7_addCourse c0 u1 u2 m0 = some res) : Met l yX7_addCourse (gWs yX7_addCourse cX7_addCourse 4 (some .int)) { frames := 0, cells := 0, slots := 0, locals := 0 } (va_Pc [.ref (X.1 + c0), .int u1, .int u2] (gB X m0)) (gQi X res) 0 0 (gA X) :=
  gMet (own := RX7) (by decide +kernel) rfl (Nat.le_of_ble_eq_true rfl) (fun p e s m args below meth c ls E hr hlocks hml hM hl => b_X7_addCourse E hr hlocks hml (Nat.le_refl _) (Nat.le_refl _) (Nat.le_refl _) (Nat.le_refl _) hk0 hf hM va_S.rf hl)
def f_X2_layCourse (c0 : Nat) (u1 : Int32) (u2 : Int32) (u3 : Int32) (u4 : Int32) (m0 : gMem) : Option (Int32 × gMem) := g1 (f_X2_towerAt c0 u1 m0) (fun r3 m1 => gnl r3 (g1 (f_X2_tongsAt c0 u2 m1) (fun r8 m6 => gnl r8 (some ((-1 : Int32), m6)) (fun z9 => if gk z9 = 6 then some ((-1 : Int32), m6) else none))) (fun z4 => if gk z4 = 7 then g1 (f_X2_tongsAt c0 u2 m1) (fun r13 m11 => gnl r13 (some ((-1 : Int32), m11)) (fun z14 => if gk z14 = 6 then g1 (f_X8_isGrade u3 m11) (fun r18 m16 => if r18 = (0 : Int32) then (some ((-1 : Int32), m16)) else (if ¬ (u3 < 0 ∨ gl (c0 + 2) ≤ u3.toNatClampNeg) then gv (ms m16 (c0 + 2) u3.toNatClampNeg ((m16 (c0 + 2) u3.toNatClampNeg) - u4)) (fun m22 => gv (ms m22 z14 1 ((u4 / (5 : Int32)) + (1 : Int32))) (fun m23 => gv (ms m23 z14 2 ((m23 z14 2) + u4)) (fun m24 => g1 (f_X7_addCourse z4 u3 u4 m24) (fun r27 m25 => some (r27, m25))))) else none)) else none)) else none))
set_option maxRecDepth 100000 in
set_option maxHeartbeats 4000000 in
theorem b_X2_layCourse {p : Program} {l : Launch} {e : Env} {R : Room} {s : State} {m : MethodId} {args : Array Value} {below : List Frame} {meth : Method} {c : Code} {H : Heap} {locs : List Loc} {ls : Array Slot} {X : gX} (E : gEn p s m args c cX2_layCourse RX2 X) (hr : meth.sig.returnType = (some .int)) (hlocks : meth.locks = false) (hml : c.maxLocals = 7) (hRf : 1 ≤ R.frames) (hRl : 23 ≤ R.locals) (hRc : 0 ≤ R.cells) (hRs : 0 ≤ R.slots) {c0 : Nat} {u1 : Int32} {u2 : Int32} {u3 : Int32} {u4 : Int32} {m0 : gMem} {res : Int32 × gMem} (hk0 : gk c0 = 2) (hf : f_X2_layCourse c0 u1 u2 u3 u4 m0 = some res) (hM : gM X m0 H) (hS : va_S (gA X) s.heap H locs) (hl : lv_has ls 7 [(0, .ref (X.1 + c0)), (1, .int u1), (2, .int u2), (3, .int u3), (4, .int u4)]) : W p l e R s m args below meth c H locs 0 0 (MQ below (gQi X res) args s 0 0 (gA X)) (F0 m 0 ls []) := by
  obtain ⟨hx, hb⟩ := (⟨E.1, E.2.1⟩ : _ ∧ _)
  unfold f_X2_layCourse at hf
  refine lv_aload_n hx hb dX2_layCourse_0 rfl (lv_at hl 0 rfl) ?_
  refine lv_iload_n hx hb dX2_layCourse_1 rfl (lv_at hl 1 rfl) ?_
  obtain ⟨r3, m1, hqq2, hf⟩ := g1_o hf
  refine ga_o (gr_V (As := [.int u1]) (ci := 2) (rm := { frames := 0, cells := 0, slots := 0, locals := 0 }) E hml hl.1 (c_X2_towerAt l X c0 u1 m0 hk0 hqq2) wt_X2_towerAt wl_RX2_126 rfl hk0 (by decide) rfl rfl hM hS rfl rfl (Nat.le_trans (by decide) hRf) (Nat.le_trans (by decide) hRl) (Nat.le_trans (Nat.le_of_ble_eq_true rfl) hRc) (Nat.le_trans (Nat.le_of_ble_eq_true rfl) hRs) (Nat.le_of_ble_eq_true rfl) dX2_layCourse_2 rfl) hS (fun H locs hM hS => ?_)
  cases r3 with
  | none =>
    have hf := gnl_n hf
    refine gW_null ?_
    refine lv_astoreN (lv' := [(5, .null), (0, .ref (X.1 + c0)), (1, .int u1), (2, .int u2), (3, .int u3), (4, .int u4)]) hx hb dX2_layCourse_5 hl (by decide) rfl (fun ls hl => ?_)
    refine lv_aload_n hx hb dX2_layCourse_7 rfl (lv_at hl 1 rfl) ?_
    refine lv_iload_n hx hb dX2_layCourse_8 rfl (lv_at hl 3 rfl) ?_
    obtain ⟨r8, m6, hqq7, hf⟩ := g1_o hf
    refine ga_o (gr_V (As := [.int u2]) (ci := 2) (rm := { frames := 0, cells := 0, slots := 0, locals := 0 }) E hml hl.1 (c_X2_tongsAt l X c0 u2 m1 hk0 hqq7) wt_X2_tongsAt wl_RX2_130 rfl hk0 (by decide) rfl rfl hM hS rfl rfl (Nat.le_trans (by decide) hRf) (Nat.le_trans (by decide) hRl) (Nat.le_trans (Nat.le_of_ble_eq_true rfl) hRc) (Nat.le_trans (Nat.le_of_ble_eq_true rfl) hRs) (Nat.le_of_ble_eq_true rfl) dX2_layCourse_9 rfl) hS (fun H locs hM hS => ?_)
    cases r8 with
    | none =>
      have hf := gnl_n hf
      refine gW_null ?_
      refine lv_astoreN (lv' := [(6, .null), (5, .null), (0, .ref (X.1 + c0)), (1, .int u1), (2, .int u2), (3, .int u3), (4, .int u4)]) hx hb dX2_layCourse_12 hl (by decide) rfl (fun ls hl => ?_)
      refine lv_aloadN hx hb dX2_layCourse_14 (lv_at hl 1 rfl) ?_
      refine lv_ifnullN (tgt := 31) hx hb dX2_layCourse_16 (by decide) ?_
      refine lv_iconst (v := (-1 : Int32)) hx hb dX2_layCourse_31 (by decide) ?_
      exact ge_i E hr hlocks hf hM hS (Nat.le_of_ble_eq_true rfl) (Nat.le_of_ble_eq_true rfl) dX2_layCourse_32
    | some z9 =>
      have hf := gnl_s hf
      obtain ⟨hg10, hf⟩ := g_ck hf
      refine gW_some ?_
      refine lv_astore (lv' := [(6, .ref (X.1 + z9)), (5, .null), (0, .ref (X.1 + c0)), (1, .int u1), (2, .int u2), (3, .int u3), (4, .int u4)]) hx hb dX2_layCourse_12 hl (by decide) rfl (fun ls hl => ?_)
      refine lv_aloadN hx hb dX2_layCourse_14 (lv_at hl 1 rfl) ?_
      refine lv_ifnullN (tgt := 31) hx hb dX2_layCourse_16 (by decide) ?_
      refine lv_iconst (v := (-1 : Int32)) hx hb dX2_layCourse_31 (by decide) ?_
      exact ge_i E hr hlocks hf hM hS (Nat.le_of_ble_eq_true rfl) (Nat.le_of_ble_eq_true rfl) dX2_layCourse_32
  | some z4 =>
    have hf := gnl_s hf
    obtain ⟨hg5, hf⟩ := g_ck hf
    refine gW_some ?_
    refine lv_astore (lv' := [(5, .ref (X.1 + z4)), (0, .ref (X.1 + c0)), (1, .int u1), (2, .int u2), (3, .int u3), (4, .int u4)]) hx hb dX2_layCourse_5 hl (by decide) rfl (fun ls hl => ?_)
    refine lv_aload_n hx hb dX2_layCourse_7 rfl (lv_at hl 1 rfl) ?_
    refine lv_iload_n hx hb dX2_layCourse_8 rfl (lv_at hl 3 rfl) ?_
    obtain ⟨r13, m11, hqq12, hf⟩ := g1_o hf
    refine ga_o (gr_V (As := [.int u2]) (ci := 2) (rm := { frames := 0, cells := 0, slots := 0, locals := 0 }) E hml hl.1 (c_X2_tongsAt l X c0 u2 m1 hk0 hqq12) wt_X2_tongsAt wl_RX2_130 rfl hk0 (by decide) rfl rfl hM hS rfl rfl (Nat.le_trans (by decide) hRf) (Nat.le_trans (by decide) hRl) (Nat.le_trans (Nat.le_of_ble_eq_true rfl) hRc) (Nat.le_trans (Nat.le_of_ble_eq_true rfl) hRs) (Nat.le_of_ble_eq_true rfl) dX2_layCourse_9 rfl) hS (fun H locs hM hS => ?_)
    cases r13 with
    | none =>
      have hf := gnl_n hf
      refine gW_null ?_
      refine lv_astoreN (lv' := [(6, .null), (5, .ref (X.1 + z4)), (0, .ref (X.1 + c0)), (1, .int u1), (2, .int u2), (3, .int u3), (4, .int u4)]) hx hb dX2_layCourse_12 hl (by decide) rfl (fun ls hl => ?_)
      refine lv_aload hx hb dX2_layCourse_14 (lv_at hl 1 rfl) ?_
      refine lv_ifnull hx hb dX2_layCourse_16 ?_
      refine lv_aloadN hx hb dX2_layCourse_19 (lv_at hl 0 rfl) ?_
      refine lv_ifnullN (tgt := 31) hx hb dX2_layCourse_21 (by decide) ?_
      refine lv_iconst (v := (-1 : Int32)) hx hb dX2_layCourse_31 (by decide) ?_
      exact ge_i E hr hlocks hf hM hS (Nat.le_of_ble_eq_true rfl) (Nat.le_of_ble_eq_true rfl) dX2_layCourse_32
    | some z14 =>
      have hf := gnl_s hf
      obtain ⟨hg15, hf⟩ := g_ck hf
      refine gW_some ?_
      refine lv_astore (lv' := [(6, .ref (X.1 + z14)), (5, .ref (X.1 + z4)), (0, .ref (X.1 + c0)), (1, .int u1), (2, .int u2), (3, .int u3), (4, .int u4)]) hx hb dX2_layCourse_12 hl (by decide) rfl (fun ls hl => ?_)
      refine lv_aload hx hb dX2_layCourse_14 (lv_at hl 1 rfl) ?_
      refine lv_ifnull hx hb dX2_layCourse_16 ?_
      refine lv_aload hx hb dX2_layCourse_19 (lv_at hl 0 rfl) ?_
      refine lv_ifnull hx hb dX2_layCourse_21 ?_
      refine lv_iload_n hx hb dX2_layCourse_24 rfl (lv_at hl 5 rfl) ?_
      obtain ⟨r18, m16, hqq17, hf⟩ := g1_o hf
      refine ga_i (gr_SN (As := [.int u3]) (rm := { frames := 0, cells := 0, slots := 0, locals := 0 }) E hml hl.1 (c_X8_isGrade l X u3 m11 hqq17) wt_X8_isGrade wl_RX2_98 rfl hM hS rfl rfl (Nat.le_trans (by decide) hRf) (Nat.le_trans (by decide) hRl) (Nat.le_trans (Nat.le_of_ble_eq_true rfl) hRc) (Nat.le_trans (Nat.le_of_ble_eq_true rfl) hRs) (Nat.le_of_ble_eq_true rfl) dX2_layCourse_25 rfl) hS (fun H locs hM hS => ?_)
      refine lv_if_ne (tgt := 33) hx hb dX2_layCourse_28 (by decide) (fun h19 => ?_) (fun h19 => ?_)
      · have hf := g_f h19 hf
        refine lv_aload_n hx hb dX2_layCourse_33 rfl (lv_at hl 2 rfl) ?_
        refine GX2_19 E hM hk0 dX2_layCourse_34 ?_
        have hg20 : gk (c0 + 2) = 20 := gkf_2_3 hk0
        refine lv_iload_n hx hb dX2_layCourse_37 rfl (lv_at hl 5 rfl) ?_
        refine lv_dup2_11 hx hb dX2_layCourse_38 rfl rfl ?_
        obtain ⟨hi21, hf⟩ := g_ck hf
        refine gg_iald E hM (gk_in hg20 (by decide)) hg20 hi21 dX2_layCourse_39 ?_
        refine lv_iload hx hb dX2_layCourse_40 (lv_at hl 6 rfl) ?_
        refine lv_isub hx hb dX2_layCourse_42 ?_
        obtain ⟨m22, em22, hf⟩ := gv_o hf
        refine gg_iast E (fun c hc => gA_in X hc) hM hS (gk_in hg20 (by decide)) hg20 hi21 em22 dX2_layCourse_43 (fun H locs hM hS => ?_)
        refine lv_aload hx hb dX2_layCourse_44 (lv_at hl 0 rfl) ?_
        refine lv_iload hx hb dX2_layCourse_46 (lv_at hl 6 rfl) ?_
        refine lv_iconst (v := (5 : Int32)) hx hb dX2_layCourse_48 (by decide) ?_
        refine lv_idiv hx hb dX2_layCourse_49 (by decide) ?_
        refine lv_iconst (v := (1 : Int32)) hx hb dX2_layCourse_50 (by decide) ?_
        refine lv_iadd hx hb dX2_layCourse_51 ?_
        obtain ⟨m23, em23, hf⟩ := gv_o hf
        refine PX2_118 E hM hS hg15 em23 dX2_layCourse_52 (fun H locs hM hS => ?_)
        refine lv_aload hx hb dX2_layCourse_55 (lv_at hl 0 rfl) ?_
        refine lv_dup hx hb dX2_layCourse_57 rfl ?_
        refine GX2_146 E hM hg15 dX2_layCourse_58 ?_
        refine lv_iload hx hb dX2_layCourse_61 (lv_at hl 6 rfl) ?_
        refine lv_iadd hx hb dX2_layCourse_63 ?_
        obtain ⟨m24, em24, hf⟩ := gv_o hf
        refine PX2_146 E hM hS hg15 em24 dX2_layCourse_64 (fun H locs hM hS => ?_)
        refine lv_aload hx hb dX2_layCourse_67 (lv_at hl 1 rfl) ?_
        refine lv_iload_n hx hb dX2_layCourse_69 rfl (lv_at hl 5 rfl) ?_
        refine lv_iload hx hb dX2_layCourse_70 (lv_at hl 6 rfl) ?_
        obtain ⟨r27, m25, hqq26, hf⟩ := g1_o hf
        refine ga_i (gr_V (As := [.int u3, .int u4]) (ci := 7) (rm := { frames := 0, cells := 0, slots := 0, locals := 0 }) E hml hl.1 (c_X7_addCourse l X z4 u3 u4 m24 hg5 hqq26) wt_X7_addCourse wl_RX2_149 rfl hg5 (by decide) rfl rfl hM hS rfl rfl (Nat.le_trans (by decide) hRf) (Nat.le_trans (by decide) hRl) (Nat.le_trans (Nat.le_of_ble_eq_true rfl) hRc) (Nat.le_trans (Nat.le_of_ble_eq_true rfl) hRs) (Nat.le_of_ble_eq_true rfl) dX2_layCourse_72 rfl) hS (fun H locs hM hS => ?_)
        exact ge_i E hr hlocks hf hM hS (Nat.le_of_ble_eq_true rfl) (Nat.le_of_ble_eq_true rfl) dX2_layCourse_75
      · have hf := g_t h19 hf
        refine lv_iconst (v := (-1 : Int32)) hx hb dX2_layCourse_31 (by decide) ?_
        exact ge_i E hr hlocks hf hM hS (Nat.le_of_ble_eq_true rfl) (Nat.le_of_ble_eq_true rfl) dX2_layCourse_32
theorem c_X2_layCourse (l : Launch) (X : gX) (c0 : Nat) (u1 : Int32) (u2 : Int32) (u3 : Int32) (u4 : Int32) (m0 : gMem) {res : Int32 × gMem} (hk0 : gk c0 = 2) (hf : f_X2_layCourse c0 u1 u2 u3 u4 m0 = some res) : Met l yX2_layCourse (gWs yX2_layCourse cX2_layCourse 7 (some .int)) { frames := 1, cells := 0, slots := 0, locals := 23 } (va_Pc [.ref (X.1 + c0), .int u1, .int u2, .int u3, .int u4] (gB X m0)) (gQi X res) 0 0 (gA X) :=
  gMet (own := RX2) (by decide +kernel) rfl (Nat.le_of_ble_eq_true rfl) (fun p e s m args below meth c ls E hr hlocks hml hM hl => b_X2_layCourse E hr hlocks hml (Nat.le_refl _) (Nat.le_refl _) (Nat.le_refl _) (Nat.le_refl _) hk0 hf hM va_S.rf hl)
def f_X7_gradeAt (c0 : Nat) (u1 : Int32) (m0 : gMem) : Option (Int32 × gMem) := g1 (f_X7_hasCourse c0 u1 m0) (fun r3 m1 => if r3 = (0 : Int32) then (some ((0 : Int32), m1)) else (if ¬ (u1 < 0 ∨ gl (c0 + 1) ≤ u1.toNatClampNeg) then some ((m1 (c0 + 1) u1.toNatClampNeg), m1) else none))
set_option maxRecDepth 100000 in
set_option maxHeartbeats 4000000 in
theorem b_X7_gradeAt {p : Program} {l : Launch} {e : Env} {R : Room} {s : State} {m : MethodId} {args : Array Value} {below : List Frame} {meth : Method} {c : Code} {H : Heap} {locs : List Loc} {ls : Array Slot} {X : gX} (E : gEn p s m args c cX7_gradeAt RX7 X) (hr : meth.sig.returnType = (some .int)) (hlocks : meth.locks = false) (hml : c.maxLocals = 2) (hRf : 1 ≤ R.frames) (hRl : 21 ≤ R.locals) (hRc : 0 ≤ R.cells) (hRs : 0 ≤ R.slots) {c0 : Nat} {u1 : Int32} {m0 : gMem} {res : Int32 × gMem} (hk0 : gk c0 = 7) (hf : f_X7_gradeAt c0 u1 m0 = some res) (hM : gM X m0 H) (hS : va_S (gA X) s.heap H locs) (hl : lv_has ls 2 [(0, .ref (X.1 + c0)), (1, .int u1)]) : W p l e R s m args below meth c H locs 0 0 (MQ below (gQi X res) args s 0 0 (gA X)) (F0 m 0 ls []) := by
  obtain ⟨hx, hb⟩ := (⟨E.1, E.2.1⟩ : _ ∧ _)
  unfold f_X7_gradeAt at hf
  refine lv_aload_n hx hb dX7_gradeAt_0 rfl (lv_at hl 0 rfl) ?_
  refine lv_iload_n hx hb dX7_gradeAt_1 rfl (lv_at hl 1 rfl) ?_
  obtain ⟨r3, m1, hqq2, hf⟩ := g1_o hf
  refine ga_i (gr_V (As := [.int u1]) (ci := 7) (rm := { frames := 0, cells := 0, slots := 0, locals := 0 }) E hml hl.1 (c_X7_hasCourse l X c0 u1 m0 hk0 hqq2) wt_X7_hasCourse wl_RX7_34 rfl hk0 (by decide) rfl rfl hM hS rfl rfl (Nat.le_trans (by decide) hRf) (Nat.le_trans (by decide) hRl) (Nat.le_trans (Nat.le_of_ble_eq_true rfl) hRc) (Nat.le_trans (Nat.le_of_ble_eq_true rfl) hRs) (Nat.le_of_ble_eq_true rfl) dX7_gradeAt_2 rfl) hS (fun H locs hM hS => ?_)
  refine lv_if_eq (tgt := 17) hx hb dX7_gradeAt_5 (by decide) (fun h4 => ?_) (fun h4 => ?_)
  · have hf := g_t h4 hf
    refine lv_iconst (v := (0 : Int32)) hx hb dX7_gradeAt_17 (by decide) ?_
    exact ge_i E hr hlocks hf hM hS (Nat.le_of_ble_eq_true rfl) (Nat.le_of_ble_eq_true rfl) dX7_gradeAt_18
  · have hf := g_f h4 hf
    refine lv_aload_n hx hb dX7_gradeAt_8 rfl (lv_at hl 0 rfl) ?_
    refine GX7_9 E hM hk0 dX7_gradeAt_9 ?_
    have hg5 : gk (c0 + 1) = 20 := gkf_7_0 hk0
    refine lv_iload_n hx hb dX7_gradeAt_12 rfl (lv_at hl 1 rfl) ?_
    obtain ⟨hi6, hf⟩ := g_ck hf
    refine gg_iald E hM (gk_in hg5 (by decide)) hg5 hi6 dX7_gradeAt_13 ?_
    refine lv_goto (tgt := 18) hx hb dX7_gradeAt_14 (by decide) ?_
    exact ge_i E hr hlocks hf hM hS (Nat.le_of_ble_eq_true rfl) (Nat.le_of_ble_eq_true rfl) dX7_gradeAt_18
theorem c_X7_gradeAt (l : Launch) (X : gX) (c0 : Nat) (u1 : Int32) (m0 : gMem) {res : Int32 × gMem} (hk0 : gk c0 = 7) (hf : f_X7_gradeAt c0 u1 m0 = some res) : Met l yX7_gradeAt (gWs yX7_gradeAt cX7_gradeAt 2 (some .int)) { frames := 1, cells := 0, slots := 0, locals := 21 } (va_Pc [.ref (X.1 + c0), .int u1] (gB X m0)) (gQi X res) 0 0 (gA X) :=
  gMet (own := RX7) (by decide +kernel) rfl (Nat.le_of_ble_eq_true rfl) (fun p e s m args below meth c ls E hr hlocks hml hM hl => b_X7_gradeAt E hr hlocks hml (Nat.le_refl _) (Nat.le_refl _) (Nat.le_refl _) (Nat.le_refl _) hk0 hf hM va_S.rf hl)
def L_X7_cubesFrom_8 (c0 : Nat) : Nat → Int32 → Int32 → gMem → Option (Int32 × gMem)
  | 0, _, _, _ => none
  | n + 1, y2, y3, m0 => if (m0 c0 2) ≤ y3 then (some (y2, m0)) else (if (10 : Int32) ≤ y3 then (some (y2, m0)) else (if ¬ (y3 < 0 ∨ gl (c0 + 2) ≤ y3.toNatClampNeg) then gv ((y2 + (m0 (c0 + 2) y3.toNatClampNeg))) (fun x6 => gv (y3 + (1 : Int32)) (fun x7 => L_X7_cubesFrom_8 c0 n x6 x7 m0)) else none))
def f_X7_cubesFrom (c0 : Nat) (u1 : Int32) (m0 : gMem) : Option (Int32 × gMem) := gv ((if (0 : Int32) < u1 then u1 else (0 : Int32))) (fun x1 => L_X7_cubesFrom_8 c0 gF (0 : Int32) x1 m0)
set_option maxRecDepth 100000 in
set_option maxHeartbeats 4000000 in
theorem l_X7_cubesFrom_8 {p : Program} {l : Launch} {e : Env} {R : Room} {s : State} {m : MethodId} {args : Array Value} {below : List Frame} {meth : Method} {c : Code} {cells slots : Nat} {X : gX} (E : gEn p s m args c cX7_cubesFrom RX7 X) (hr : meth.sig.returnType = (some .int)) (hlocks : meth.locks = false) (hml : c.maxLocals = 4) (hRf : 1 ≤ R.frames) (hRl : 60 ≤ R.locals) (hRc : 0 ≤ R.cells) (hRs : 0 ≤ R.slots) (hc : cells ≤ 0) (hs : slots ≤ 0) (c0 : Nat) (hk0 : gk c0 = 7) {res : Int32 × gMem} :
    ∀ (n : Nat) (y2 : Int32) (y3 : Int32) (m0 : gMem) (H : Heap) (locs : List Loc) (ls : Array Slot), L_X7_cubesFrom_8 c0 n y2 y3 m0 = some res → gM X m0 H → va_S (gA X) s.heap H locs → lv_has ls 4 [(0, .ref (X.1 + c0)), (2, .int y2), (3, .int y3)] → W p l e R s m args below meth c H locs cells slots (MQ below (gQi X res) args s 0 0 (gA X)) (F0 m 8 ls []) := by
  obtain ⟨hx, hb⟩ := (⟨E.1, E.2.1⟩ : _ ∧ _)
  intro n
  induction n with
  | zero =>
    intro _ _ _ _ _ _ hf
    cases hf
  | succ n ih =>
    intro y2 y3 m0 H locs ls hf hM hS hl
    rw [L_X7_cubesFrom_8] at hf
    refine lv_iload_n hx hb dX7_cubesFrom_8 rfl (lv_at hl 2 rfl) ?_
    refine lv_aload_n hx hb dX7_cubesFrom_9 rfl (lv_at hl 0 rfl) ?_
    refine GX7_18 E hM hk0 dX7_cubesFrom_10 ?_
    refine lv_icmp_ge (tgt := 37) hx hb dX7_cubesFrom_13 (by decide) (fun h2 => ?_) (fun h2 => ?_)
    · have hf := g_t h2 hf
      refine lv_iload_n hx hb dX7_cubesFrom_37 rfl (lv_at hl 1 rfl) ?_
      exact ge_i E hr hlocks hf hM hS hc hs dX7_cubesFrom_38
    · have hf := g_f h2 hf
      refine lv_iload_n hx hb dX7_cubesFrom_16 rfl (lv_at hl 2 rfl) ?_
      refine lv_bipush (v := (10 : Int32)) hx hb dX7_cubesFrom_17 (by decide) ?_
      refine lv_icmp_ge (tgt := 37) hx hb dX7_cubesFrom_19 (by decide) (fun h3 => ?_) (fun h3 => ?_)
      · have hf := g_t h3 hf
        refine lv_iload_n hx hb dX7_cubesFrom_37 rfl (lv_at hl 1 rfl) ?_
        exact ge_i E hr hlocks hf hM hS hc hs dX7_cubesFrom_38
      · have hf := g_f h3 hf
        refine lv_iload_n hx hb dX7_cubesFrom_22 rfl (lv_at hl 1 rfl) ?_
        refine lv_aload_n hx hb dX7_cubesFrom_23 rfl (lv_at hl 0 rfl) ?_
        refine GX7_15 E hM hk0 dX7_cubesFrom_24 ?_
        have hg4 : gk (c0 + 2) = 20 := gkf_7_1 hk0
        refine lv_iload_n hx hb dX7_cubesFrom_27 rfl (lv_at hl 2 rfl) ?_
        obtain ⟨hi5, hf⟩ := g_ck hf
        refine gg_iald E hM (gk_in hg4 (by decide)) hg4 hi5 dX7_cubesFrom_28 ?_
        refine lv_iadd hx hb dX7_cubesFrom_29 ?_
        obtain ⟨x6, ex6, hf⟩ := gv_o hf
        rw [← ex6]
        refine lv_istore_n (lv' := [(2, .int x6), (0, .ref (X.1 + c0)), (3, .int y3)]) hx hb dX7_cubesFrom_30 rfl hl (by decide) rfl (fun ls hl => ?_)
        obtain ⟨x7, ex7, hf⟩ := gv_o hf
        refine lv_iinc (v := x7) (lv' := [(3, .int x7), (2, .int x6), (0, .ref (X.1 + c0))]) hx hb dX7_cubesFrom_31 hl (k := 2) rfl (by rw [ex7]; rfl) (by decide) rfl (fun ls hl => ?_)
        refine lv_goto (tgt := 8) hx hb dX7_cubesFrom_34 (by decide) ?_
        exact ih x6 x7 m0 _ _ _ hf hM hS (lv_sub hl [2, 1, 0] rfl)
set_option maxRecDepth 100000 in
set_option maxHeartbeats 4000000 in
theorem b_X7_cubesFrom {p : Program} {l : Launch} {e : Env} {R : Room} {s : State} {m : MethodId} {args : Array Value} {below : List Frame} {meth : Method} {c : Code} {H : Heap} {locs : List Loc} {ls : Array Slot} {X : gX} (E : gEn p s m args c cX7_cubesFrom RX7 X) (hr : meth.sig.returnType = (some .int)) (hlocks : meth.locks = false) (hml : c.maxLocals = 4) (hRf : 1 ≤ R.frames) (hRl : 60 ≤ R.locals) (hRc : 0 ≤ R.cells) (hRs : 0 ≤ R.slots) {c0 : Nat} {u1 : Int32} {m0 : gMem} {res : Int32 × gMem} (hk0 : gk c0 = 7) (hf : f_X7_cubesFrom c0 u1 m0 = some res) (hM : gM X m0 H) (hS : va_S (gA X) s.heap H locs) (hl : lv_has ls 4 [(0, .ref (X.1 + c0)), (1, .int u1)]) : W p l e R s m args below meth c H locs 0 0 (MQ below (gQi X res) args s 0 0 (gA X)) (F0 m 0 ls []) := by
  obtain ⟨hx, hb⟩ := (⟨E.1, E.2.1⟩ : _ ∧ _)
  unfold f_X7_cubesFrom at hf
  refine lv_iconst (v := (0 : Int32)) hx hb dX7_cubesFrom_0 (by decide) ?_
  refine lv_istore_n (lv' := [(2, .int (0 : Int32)), (0, .ref (X.1 + c0)), (1, .int u1)]) hx hb dX7_cubesFrom_1 rfl hl (by decide) rfl (fun ls hl => ?_)
  refine lv_iconst (v := (0 : Int32)) hx hb dX7_cubesFrom_2 (by decide) ?_
  refine lv_iload_n hx hb dX7_cubesFrom_3 rfl (lv_at hl 2 rfl) ?_
  refine gg_max E hml hl.1 wl_RX7_38 wj_max_s wj_math wj_max_c (Nat.le_trans (by decide) hRf) (Nat.le_trans (Nat.le_of_ble_eq_true rfl) hRl) (Nat.le_trans (Nat.le_of_ble_eq_true rfl) hRc) (Nat.le_trans (Nat.le_of_ble_eq_true rfl) hRs) dX7_cubesFrom_4 ?_
  obtain ⟨x1, ex1, hf⟩ := gv_o hf
  rw [← ex1]
  refine lv_istore_n (lv' := [(3, .int x1), (2, .int (0 : Int32)), (0, .ref (X.1 + c0)), (1, .int u1)]) hx hb dX7_cubesFrom_7 rfl hl (by decide) rfl (fun ls hl => ?_)
  refine l_X7_cubesFrom_8 E hr hlocks hml hRf hRl hRc hRs (Nat.le_of_ble_eq_true rfl) (Nat.le_of_ble_eq_true rfl) c0 hk0 gF (0 : Int32) x1 m0 _ _ _ hf hM hS (lv_sub hl [2, 1, 0] rfl)
theorem c_X7_cubesFrom (l : Launch) (X : gX) (c0 : Nat) (u1 : Int32) (m0 : gMem) {res : Int32 × gMem} (hk0 : gk c0 = 7) (hf : f_X7_cubesFrom c0 u1 m0 = some res) : Met l yX7_cubesFrom (gWs yX7_cubesFrom cX7_cubesFrom 4 (some .int)) { frames := 1, cells := 0, slots := 0, locals := 60 } (va_Pc [.ref (X.1 + c0), .int u1] (gB X m0)) (gQi X res) 0 0 (gA X) :=
  gMet (own := RX7) (by decide +kernel) rfl (Nat.le_of_ble_eq_true rfl) (fun p e s m args below meth c ls E hr hlocks hml hM hl => b_X7_cubesFrom E hr hlocks hml (Nat.le_refl _) (Nat.le_refl _) (Nat.le_refl _) (Nat.le_refl _) hk0 hf hM va_S.rf hl)
def f_X7_removeFrom (c0 : Nat) (u1 : Int32) (m0 : gMem) : Option (Int32 × gMem) := g1 (f_X7_cubesFrom c0 u1 m0) (fun r3 m1 => g1 (f_X7_hasCourse c0 u1 m1) (fun r6 m4 => if r6 = (0 : Int32) then (some (r3, m4)) else (gv (ms m4 c0 2 u1) (fun m8 => some (r3, m8)))))
set_option maxRecDepth 100000 in
set_option maxHeartbeats 4000000 in
theorem b_X7_removeFrom {p : Program} {l : Launch} {e : Env} {R : Room} {s : State} {m : MethodId} {args : Array Value} {below : List Frame} {meth : Method} {c : Code} {H : Heap} {locs : List Loc} {ls : Array Slot} {X : gX} (E : gEn p s m args c cX7_removeFrom RX7 X) (hr : meth.sig.returnType = (some .int)) (hlocks : meth.locks = false) (hml : c.maxLocals = 3) (hRf : 2 ≤ R.frames) (hRl : 83 ≤ R.locals) (hRc : 0 ≤ R.cells) (hRs : 0 ≤ R.slots) {c0 : Nat} {u1 : Int32} {m0 : gMem} {res : Int32 × gMem} (hk0 : gk c0 = 7) (hf : f_X7_removeFrom c0 u1 m0 = some res) (hM : gM X m0 H) (hS : va_S (gA X) s.heap H locs) (hl : lv_has ls 3 [(0, .ref (X.1 + c0)), (1, .int u1)]) : W p l e R s m args below meth c H locs 0 0 (MQ below (gQi X res) args s 0 0 (gA X)) (F0 m 0 ls []) := by
  obtain ⟨hx, hb⟩ := (⟨E.1, E.2.1⟩ : _ ∧ _)
  unfold f_X7_removeFrom at hf
  refine lv_aload_n hx hb dX7_removeFrom_0 rfl (lv_at hl 0 rfl) ?_
  refine lv_iload_n hx hb dX7_removeFrom_1 rfl (lv_at hl 1 rfl) ?_
  obtain ⟨r3, m1, hqq2, hf⟩ := g1_o hf
  refine ga_i (gr_V (As := [.int u1]) (ci := 7) (rm := { frames := 1, cells := 0, slots := 0, locals := 60 }) E hml hl.1 (c_X7_cubesFrom l X c0 u1 m0 hk0 hqq2) wt_X7_cubesFrom wl_RX7_44 rfl hk0 (by decide) rfl rfl hM hS rfl rfl (Nat.le_trans (by decide) hRf) (Nat.le_trans (by decide) hRl) (Nat.le_trans (Nat.le_of_ble_eq_true rfl) hRc) (Nat.le_trans (Nat.le_of_ble_eq_true rfl) hRs) (Nat.le_of_ble_eq_true rfl) dX7_removeFrom_2 rfl) hS (fun H locs hM hS => ?_)
  refine lv_istore_n (lv' := [(2, .int r3), (0, .ref (X.1 + c0)), (1, .int u1)]) hx hb dX7_removeFrom_5 rfl hl (by decide) rfl (fun ls hl => ?_)
  refine lv_aload_n hx hb dX7_removeFrom_6 rfl (lv_at hl 1 rfl) ?_
  refine lv_iload_n hx hb dX7_removeFrom_7 rfl (lv_at hl 2 rfl) ?_
  obtain ⟨r6, m4, hqq5, hf⟩ := g1_o hf
  refine ga_i (gr_V (As := [.int u1]) (ci := 7) (rm := { frames := 0, cells := 0, slots := 0, locals := 0 }) E hml hl.1 (c_X7_hasCourse l X c0 u1 m1 hk0 hqq5) wt_X7_hasCourse wl_RX7_34 rfl hk0 (by decide) rfl rfl hM hS rfl rfl (Nat.le_trans (by decide) hRf) (Nat.le_trans (by decide) hRl) (Nat.le_trans (Nat.le_of_ble_eq_true rfl) hRc) (Nat.le_trans (Nat.le_of_ble_eq_true rfl) hRs) (Nat.le_of_ble_eq_true rfl) dX7_removeFrom_8 rfl) hS (fun H locs hM hS => ?_)
  refine lv_if_eq (tgt := 19) hx hb dX7_removeFrom_11 (by decide) (fun h7 => ?_) (fun h7 => ?_)
  · have hf := g_t h7 hf
    refine lv_iload_n hx hb dX7_removeFrom_19 rfl (lv_at hl 0 rfl) ?_
    exact ge_i E hr hlocks hf hM hS (Nat.le_of_ble_eq_true rfl) (Nat.le_of_ble_eq_true rfl) dX7_removeFrom_20
  · have hf := g_f h7 hf
    refine lv_aload_n hx hb dX7_removeFrom_14 rfl (lv_at hl 1 rfl) ?_
    refine lv_iload_n hx hb dX7_removeFrom_15 rfl (lv_at hl 2 rfl) ?_
    obtain ⟨m8, em8, hf⟩ := gv_o hf
    refine PX7_18 E hM hS hk0 em8 dX7_removeFrom_16 (fun H locs hM hS => ?_)
    refine lv_iload_n hx hb dX7_removeFrom_19 rfl (lv_at hl 0 rfl) ?_
    exact ge_i E hr hlocks hf hM hS (Nat.le_of_ble_eq_true rfl) (Nat.le_of_ble_eq_true rfl) dX7_removeFrom_20
theorem c_X7_removeFrom (l : Launch) (X : gX) (c0 : Nat) (u1 : Int32) (m0 : gMem) {res : Int32 × gMem} (hk0 : gk c0 = 7) (hf : f_X7_removeFrom c0 u1 m0 = some res) : Met l yX7_removeFrom (gWs yX7_removeFrom cX7_removeFrom 3 (some .int)) { frames := 2, cells := 0, slots := 0, locals := 83 } (va_Pc [.ref (X.1 + c0), .int u1] (gB X m0)) (gQi X res) 0 0 (gA X) :=
  gMet (own := RX7) (by decide +kernel) rfl (Nat.le_of_ble_eq_true rfl) (fun p e s m args below meth c ls E hr hlocks hml hM hl => b_X7_removeFrom E hr hlocks hml (Nat.le_refl _) (Nat.le_refl _) (Nat.le_refl _) (Nat.le_refl _) hk0 hf hM va_S.rf hl)
def f_X2_takeCourse (c0 : Nat) (c1 : Nat) (m0 : gMem) : Option (Int32 × gMem) := gv (((m0 c1 2) - (1 : Int32))) (fun x1 => g1 (f_X7_gradeAt c1 x1 m0) (fun r4 m2 => g1 (f_X7_removeFrom c1 x1 m2) (fun r7 m5 => g1 (f_X2_stockOf c0 r4 m5) (fun r10 m8 => gv ((if ((300 : Int32) - r10) < r7 then ((300 : Int32) - r10) else r7)) (fun x11 => g1 (f_X8_isGrade r4 m8) (fun r14 m12 => if r14 = (0 : Int32) then (gv (ms m12 c0 15 ((m12 c0 15) + (r7 - x11))) (fun m16 => some (r7, m16))) else (if ¬ (r4 < 0 ∨ gl (c0 + 2) ≤ r4.toNatClampNeg) then gv (ms m12 (c0 + 2) r4.toNatClampNeg ((m12 (c0 + 2) r4.toNatClampNeg) + x11)) (fun m19 => gv (ms m19 c0 15 ((m19 c0 15) + (r7 - x11))) (fun m20 => some (r7, m20))) else none)))))))
set_option maxRecDepth 100000 in
set_option maxHeartbeats 4000000 in
theorem b_X2_takeCourse {p : Program} {l : Launch} {e : Env} {R : Room} {s : State} {m : MethodId} {args : Array Value} {below : List Frame} {meth : Method} {c : Code} {H : Heap} {locs : List Loc} {ls : Array Slot} {X : gX} (E : gEn p s m args c cX2_takeCourse RX2 X) (hr : meth.sig.returnType = (some .int)) (hlocks : meth.locks = false) (hml : c.maxLocals = 6) (hRf : 3 ≤ R.frames) (hRl : 105 ≤ R.locals) (hRc : 0 ≤ R.cells) (hRs : 0 ≤ R.slots) {c0 : Nat} {c1 : Nat} {m0 : gMem} {res : Int32 × gMem} (hk0 : gk c0 = 2) (hk1 : gk c1 = 7) (hf : f_X2_takeCourse c0 c1 m0 = some res) (hM : gM X m0 H) (hS : va_S (gA X) s.heap H locs) (hl : lv_has ls 6 [(0, .ref (X.1 + c0)), (1, .ref (X.1 + c1))]) : W p l e R s m args below meth c H locs 0 0 (MQ below (gQi X res) args s 0 0 (gA X)) (F0 m 0 ls []) := by
  obtain ⟨hx, hb⟩ := (⟨E.1, E.2.1⟩ : _ ∧ _)
  unfold f_X2_takeCourse at hf
  refine lv_aload_n hx hb dX2_takeCourse_0 rfl (lv_at hl 1 rfl) ?_
  refine GX2_134 E hM hk1 dX2_takeCourse_1 ?_
  refine lv_iconst (v := (1 : Int32)) hx hb dX2_takeCourse_4 (by decide) ?_
  refine lv_isub hx hb dX2_takeCourse_5 ?_
  obtain ⟨x1, ex1, hf⟩ := gv_o hf
  rw [← ex1]
  refine lv_istore_n (lv' := [(2, .int x1), (0, .ref (X.1 + c0)), (1, .ref (X.1 + c1))]) hx hb dX2_takeCourse_6 rfl hl (by decide) rfl (fun ls hl => ?_)
  refine lv_aload_n hx hb dX2_takeCourse_7 rfl (lv_at hl 2 rfl) ?_
  refine lv_iload_n hx hb dX2_takeCourse_8 rfl (lv_at hl 0 rfl) ?_
  obtain ⟨r4, m2, hqq3, hf⟩ := g1_o hf
  refine ga_i (gr_V (As := [.int x1]) (ci := 7) (rm := { frames := 1, cells := 0, slots := 0, locals := 21 }) E hml hl.1 (c_X7_gradeAt l X c1 x1 m0 hk1 hqq3) wt_X7_gradeAt wl_RX2_152 rfl hk1 (by decide) rfl rfl hM hS rfl rfl (Nat.le_trans (by decide) hRf) (Nat.le_trans (by decide) hRl) (Nat.le_trans (Nat.le_of_ble_eq_true rfl) hRc) (Nat.le_trans (Nat.le_of_ble_eq_true rfl) hRs) (Nat.le_of_ble_eq_true rfl) dX2_takeCourse_9 rfl) hS (fun H locs hM hS => ?_)
  refine lv_istore_n (lv' := [(3, .int r4), (2, .int x1), (0, .ref (X.1 + c0)), (1, .ref (X.1 + c1))]) hx hb dX2_takeCourse_12 rfl hl (by decide) rfl (fun ls hl => ?_)
  refine lv_aload_n hx hb dX2_takeCourse_13 rfl (lv_at hl 3 rfl) ?_
  refine lv_iload_n hx hb dX2_takeCourse_14 rfl (lv_at hl 1 rfl) ?_
  obtain ⟨r7, m5, hqq6, hf⟩ := g1_o hf
  refine ga_i (gr_V (As := [.int x1]) (ci := 7) (rm := { frames := 2, cells := 0, slots := 0, locals := 83 }) E hml hl.1 (c_X7_removeFrom l X c1 x1 m2 hk1 hqq6) wt_X7_removeFrom wl_RX2_155 rfl hk1 (by decide) rfl rfl hM hS rfl rfl (Nat.le_trans (by decide) hRf) (Nat.le_trans (by decide) hRl) (Nat.le_trans (Nat.le_of_ble_eq_true rfl) hRc) (Nat.le_trans (Nat.le_of_ble_eq_true rfl) hRs) (Nat.le_of_ble_eq_true rfl) dX2_takeCourse_15 rfl) hS (fun H locs hM hS => ?_)
  refine lv_istore (lv' := [(4, .int r7), (3, .int r4), (2, .int x1), (0, .ref (X.1 + c0)), (1, .ref (X.1 + c1))]) hx hb dX2_takeCourse_18 hl (by decide) rfl (fun ls hl => ?_)
  refine lv_iload hx hb dX2_takeCourse_20 (lv_at hl 0 rfl) ?_
  refine lv_sipush (v := (300 : Int32)) hx hb dX2_takeCourse_22 (by decide) ?_
  refine lv_aload_n hx hb dX2_takeCourse_25 rfl (lv_at hl 3 rfl) ?_
  refine lv_iload_n hx hb dX2_takeCourse_26 rfl (lv_at hl 1 rfl) ?_
  obtain ⟨r10, m8, hqq9, hf⟩ := g1_o hf
  refine ga_i (gr_V (As := [.int r4]) (ci := 2) (rm := { frames := 1, cells := 0, slots := 0, locals := 20 }) E hml hl.1 (c_X2_stockOf l X c0 r4 m5 hk0 hqq9) wt_X2_stockOf wl_RX2_102 rfl hk0 (by decide) rfl rfl hM hS rfl rfl (Nat.le_trans (by decide) hRf) (Nat.le_trans (by decide) hRl) (Nat.le_trans (Nat.le_of_ble_eq_true rfl) hRc) (Nat.le_trans (Nat.le_of_ble_eq_true rfl) hRs) (Nat.le_of_ble_eq_true rfl) dX2_takeCourse_27 rfl) hS (fun H locs hM hS => ?_)
  refine lv_isub hx hb dX2_takeCourse_30 ?_
  refine gg_min E hml hl.1 wl_RX2_158 wj_min_s wj_math wj_min_c (Nat.le_trans (by decide) hRf) (Nat.le_trans (Nat.le_of_ble_eq_true rfl) hRl) (Nat.le_trans (Nat.le_of_ble_eq_true rfl) hRc) (Nat.le_trans (Nat.le_of_ble_eq_true rfl) hRs) dX2_takeCourse_31 ?_
  obtain ⟨x11, ex11, hf⟩ := gv_o hf
  rw [← ex11]
  refine lv_istore (lv' := [(5, .int x11), (4, .int r7), (3, .int r4), (2, .int x1), (0, .ref (X.1 + c0)), (1, .ref (X.1 + c1))]) hx hb dX2_takeCourse_34 hl (by decide) rfl (fun ls hl => ?_)
  refine lv_iload_n hx hb dX2_takeCourse_36 rfl (lv_at hl 2 rfl) ?_
  obtain ⟨r14, m12, hqq13, hf⟩ := g1_o hf
  refine ga_i (gr_SN (As := [.int r4]) (rm := { frames := 0, cells := 0, slots := 0, locals := 0 }) E hml hl.1 (c_X8_isGrade l X r4 m8 hqq13) wt_X8_isGrade wl_RX2_98 rfl hM hS rfl rfl (Nat.le_trans (by decide) hRf) (Nat.le_trans (by decide) hRl) (Nat.le_trans (Nat.le_of_ble_eq_true rfl) hRc) (Nat.le_trans (Nat.le_of_ble_eq_true rfl) hRs) (Nat.le_of_ble_eq_true rfl) dX2_takeCourse_37 rfl) hS (fun H locs hM hS => ?_)
  refine lv_if_eq (tgt := 54) hx hb dX2_takeCourse_40 (by decide) (fun h15 => ?_) (fun h15 => ?_)
  · have hf := g_t h15 hf
    refine lv_aload_n hx hb dX2_takeCourse_54 rfl (lv_at hl 4 rfl) ?_
    refine lv_dup hx hb dX2_takeCourse_55 rfl ?_
    refine GX2_86 E hM hk0 dX2_takeCourse_56 ?_
    refine lv_iload hx hb dX2_takeCourse_59 (lv_at hl 1 rfl) ?_
    refine lv_iload hx hb dX2_takeCourse_61 (lv_at hl 0 rfl) ?_
    refine lv_isub hx hb dX2_takeCourse_63 ?_
    refine lv_iadd hx hb dX2_takeCourse_64 ?_
    obtain ⟨m16, em16, hf⟩ := gv_o hf
    refine PX2_86 E hM hS hk0 em16 dX2_takeCourse_65 (fun H locs hM hS => ?_)
    refine lv_iload hx hb dX2_takeCourse_68 (lv_at hl 1 rfl) ?_
    exact ge_i E hr hlocks hf hM hS (Nat.le_of_ble_eq_true rfl) (Nat.le_of_ble_eq_true rfl) dX2_takeCourse_70
  · have hf := g_f h15 hf
    refine lv_aload_n hx hb dX2_takeCourse_43 rfl (lv_at hl 4 rfl) ?_
    refine GX2_19 E hM hk0 dX2_takeCourse_44 ?_
    have hg17 : gk (c0 + 2) = 20 := gkf_2_3 hk0
    refine lv_iload_n hx hb dX2_takeCourse_47 rfl (lv_at hl 2 rfl) ?_
    refine lv_dup2_11 hx hb dX2_takeCourse_48 rfl rfl ?_
    obtain ⟨hi18, hf⟩ := g_ck hf
    refine gg_iald E hM (gk_in hg17 (by decide)) hg17 hi18 dX2_takeCourse_49 ?_
    refine lv_iload hx hb dX2_takeCourse_50 (lv_at hl 0 rfl) ?_
    refine lv_iadd hx hb dX2_takeCourse_52 ?_
    obtain ⟨m19, em19, hf⟩ := gv_o hf
    refine gg_iast E (fun c hc => gA_in X hc) hM hS (gk_in hg17 (by decide)) hg17 hi18 em19 dX2_takeCourse_53 (fun H locs hM hS => ?_)
    refine lv_aload_n hx hb dX2_takeCourse_54 rfl (lv_at hl 4 rfl) ?_
    refine lv_dup hx hb dX2_takeCourse_55 rfl ?_
    refine GX2_86 E hM hk0 dX2_takeCourse_56 ?_
    refine lv_iload hx hb dX2_takeCourse_59 (lv_at hl 1 rfl) ?_
    refine lv_iload hx hb dX2_takeCourse_61 (lv_at hl 0 rfl) ?_
    refine lv_isub hx hb dX2_takeCourse_63 ?_
    refine lv_iadd hx hb dX2_takeCourse_64 ?_
    obtain ⟨m20, em20, hf⟩ := gv_o hf
    refine PX2_86 E hM hS hk0 em20 dX2_takeCourse_65 (fun H locs hM hS => ?_)
    refine lv_iload hx hb dX2_takeCourse_68 (lv_at hl 1 rfl) ?_
    exact ge_i E hr hlocks hf hM hS (Nat.le_of_ble_eq_true rfl) (Nat.le_of_ble_eq_true rfl) dX2_takeCourse_70
theorem c_X2_takeCourse (l : Launch) (X : gX) (c0 : Nat) (c1 : Nat) (m0 : gMem) {res : Int32 × gMem} (hk0 : gk c0 = 2) (hk1 : gk c1 = 7) (hf : f_X2_takeCourse c0 c1 m0 = some res) : Met l yX2_takeCourse (gWs yX2_takeCourse cX2_takeCourse 6 (some .int)) { frames := 3, cells := 0, slots := 0, locals := 105 } (va_Pc [.ref (X.1 + c0), .ref (X.1 + c1)] (gB X m0)) (gQi X res) 0 0 (gA X) :=
  gMet (own := RX2) (by decide +kernel) rfl (Nat.le_of_ble_eq_true rfl) (fun p e s m args below meth c ls E hr hlocks hml hM hl => b_X2_takeCourse E hr hlocks hml (Nat.le_refl _) (Nat.le_refl _) (Nat.le_refl _) (Nat.le_refl _) hk0 hk1 hf hM va_S.rf hl)
def L_X2_banquetsWith_4 (c0 : Nat) (u1 : Int32) : Nat → Int32 → Int32 → gMem → Option (Int32 × gMem)
  | 0, _, _, _ => none
  | n + 1, y2, y3, m0 => if (m0 c0 10) ≤ y3 then (some (y2, m0)) else (if (6 : Int32) ≤ y3 then (some (y2, m0)) else (if ¬ (y3 < 0 ∨ gl (c0 + 6) ≤ y3.toNatClampNeg) then if (m0 ((c0 + 6) + (23 + y3.toNatClampNeg)) 4) = u1 then (gv ((y2 + (1 : Int32))) (fun x9 => gv (y3 + (1 : Int32)) (fun x10 => L_X2_banquetsWith_4 c0 u1 n x9 x10 m0))) else (gv ((y2 + (0 : Int32))) (fun x7 => gv (y3 + (1 : Int32)) (fun x8 => L_X2_banquetsWith_4 c0 u1 n x7 x8 m0))) else none))
def f_X2_banquetsWith (c0 : Nat) (u1 : Int32) (m0 : gMem) : Option (Int32 × gMem) := L_X2_banquetsWith_4 c0 u1 gF (0 : Int32) (0 : Int32) m0
set_option maxRecDepth 100000 in
set_option maxHeartbeats 4000000 in
theorem l_X2_banquetsWith_4 {p : Program} {l : Launch} {e : Env} {R : Room} {s : State} {m : MethodId} {args : Array Value} {below : List Frame} {meth : Method} {c : Code} {cells slots : Nat} {X : gX} (E : gEn p s m args c cX2_banquetsWith RX2 X) (hr : meth.sig.returnType = (some .int)) (hlocks : meth.locks = false) (hml : c.maxLocals = 4) (hRf : 0 ≤ R.frames) (hRl : 0 ≤ R.locals) (hRc : 0 ≤ R.cells) (hRs : 0 ≤ R.slots) (hc : cells ≤ 0) (hs : slots ≤ 0) (c0 : Nat) (u1 : Int32) (hk0 : gk c0 = 2) {res : Int32 × gMem} :
    ∀ (n : Nat) (y2 : Int32) (y3 : Int32) (m0 : gMem) (H : Heap) (locs : List Loc) (ls : Array Slot), L_X2_banquetsWith_4 c0 u1 n y2 y3 m0 = some res → gM X m0 H → va_S (gA X) s.heap H locs → lv_has ls 4 [(0, .ref (X.1 + c0)), (1, .int u1), (2, .int y2), (3, .int y3)] → W p l e R s m args below meth c H locs cells slots (MQ below (gQi X res) args s 0 0 (gA X)) (F0 m 4 ls []) := by
  obtain ⟨hx, hb⟩ := (⟨E.1, E.2.1⟩ : _ ∧ _)
  intro n
  induction n with
  | zero =>
    intro _ _ _ _ _ _ hf
    cases hf
  | succ n ih =>
    intro y2 y3 m0 H locs ls hf hM hS hl
    rw [L_X2_banquetsWith_4] at hf
    refine lv_iload_n hx hb dX2_banquetsWith_4 rfl (lv_at hl 3 rfl) ?_
    refine lv_aload_n hx hb dX2_banquetsWith_5 rfl (lv_at hl 0 rfl) ?_
    refine GX2_68 E hM hk0 dX2_banquetsWith_6 ?_
    refine lv_icmp_ge (tgt := 45) hx hb dX2_banquetsWith_9 (by decide) (fun h1 => ?_) (fun h1 => ?_)
    · have hf := g_t h1 hf
      refine lv_iload_n hx hb dX2_banquetsWith_45 rfl (lv_at hl 2 rfl) ?_
      exact ge_i E hr hlocks hf hM hS hc hs dX2_banquetsWith_46
    · have hf := g_f h1 hf
      refine lv_iload_n hx hb dX2_banquetsWith_12 rfl (lv_at hl 3 rfl) ?_
      refine lv_bipush (v := (6 : Int32)) hx hb dX2_banquetsWith_13 (by decide) ?_
      refine lv_icmp_ge (tgt := 45) hx hb dX2_banquetsWith_15 (by decide) (fun h2 => ?_) (fun h2 => ?_)
      · have hf := g_t h2 hf
        refine lv_iload_n hx hb dX2_banquetsWith_45 rfl (lv_at hl 2 rfl) ?_
        exact ge_i E hr hlocks hf hM hS hc hs dX2_banquetsWith_46
      · have hf := g_f h2 hf
        refine lv_iload_n hx hb dX2_banquetsWith_18 rfl (lv_at hl 2 rfl) ?_
        refine lv_aload_n hx hb dX2_banquetsWith_19 rfl (lv_at hl 0 rfl) ?_
        refine GX2_39 E hM hk0 dX2_banquetsWith_20 ?_
        have hg3 : gk (c0 + 6) = 26 := gkf_2_9 hk0
        refine lv_iload_n hx hb dX2_banquetsWith_23 rfl (lv_at hl 3 rfl) ?_
        obtain ⟨hi4, hf⟩ := g_ck hf
        refine gg_aald (k := 26) E hM (gk_in hg3 (by decide)) hg3 (by decide) rfl hi4 rfl rfl dX2_banquetsWith_24 ?_
        have hg5 : gk ((c0 + 6) + (23 + y3.toNatClampNeg)) = 0 := gka_26 hg3 hi4
        refine GX2_177 E hM hg5 dX2_banquetsWith_25 ?_
        refine lv_iload_n hx hb dX2_banquetsWith_28 rfl (lv_at hl 1 rfl) ?_
        refine lv_icmp_ne (tgt := 36) hx hb dX2_banquetsWith_29 (by decide) (fun h6 => ?_) (fun h6 => ?_)
        · have hf := g_f h6 hf
          refine lv_iconst (v := (0 : Int32)) hx hb dX2_banquetsWith_36 (by decide) ?_
          refine lv_iadd hx hb dX2_banquetsWith_37 ?_
          obtain ⟨x7, ex7, hf⟩ := gv_o hf
          rw [← ex7]
          refine lv_istore_n (lv' := [(2, .int x7), (0, .ref (X.1 + c0)), (1, .int u1), (3, .int y3)]) hx hb dX2_banquetsWith_38 rfl hl (by decide) rfl (fun ls hl => ?_)
          obtain ⟨x8, ex8, hf⟩ := gv_o hf
          refine lv_iinc (v := x8) (lv' := [(3, .int x8), (2, .int x7), (0, .ref (X.1 + c0)), (1, .int u1)]) hx hb dX2_banquetsWith_39 hl (k := 3) rfl (by rw [ex8]; rfl) (by decide) rfl (fun ls hl => ?_)
          refine lv_goto (tgt := 4) hx hb dX2_banquetsWith_42 (by decide) ?_
          exact ih x7 x8 m0 _ _ _ hf hM hS (lv_sub hl [2, 3, 1, 0] rfl)
        · have hf := g_t h6 hf
          refine lv_iconst (v := (1 : Int32)) hx hb dX2_banquetsWith_32 (by decide) ?_
          refine lv_goto (tgt := 37) hx hb dX2_banquetsWith_33 (by decide) ?_
          refine lv_iadd hx hb dX2_banquetsWith_37 ?_
          obtain ⟨x9, ex9, hf⟩ := gv_o hf
          rw [← ex9]
          refine lv_istore_n (lv' := [(2, .int x9), (0, .ref (X.1 + c0)), (1, .int u1), (3, .int y3)]) hx hb dX2_banquetsWith_38 rfl hl (by decide) rfl (fun ls hl => ?_)
          obtain ⟨x10, ex10, hf⟩ := gv_o hf
          refine lv_iinc (v := x10) (lv' := [(3, .int x10), (2, .int x9), (0, .ref (X.1 + c0)), (1, .int u1)]) hx hb dX2_banquetsWith_39 hl (k := 3) rfl (by rw [ex10]; rfl) (by decide) rfl (fun ls hl => ?_)
          refine lv_goto (tgt := 4) hx hb dX2_banquetsWith_42 (by decide) ?_
          exact ih x9 x10 m0 _ _ _ hf hM hS (lv_sub hl [2, 3, 1, 0] rfl)
set_option maxRecDepth 100000 in
set_option maxHeartbeats 4000000 in
theorem b_X2_banquetsWith {p : Program} {l : Launch} {e : Env} {R : Room} {s : State} {m : MethodId} {args : Array Value} {below : List Frame} {meth : Method} {c : Code} {H : Heap} {locs : List Loc} {ls : Array Slot} {X : gX} (E : gEn p s m args c cX2_banquetsWith RX2 X) (hr : meth.sig.returnType = (some .int)) (hlocks : meth.locks = false) (hml : c.maxLocals = 4) (hRf : 0 ≤ R.frames) (hRl : 0 ≤ R.locals) (hRc : 0 ≤ R.cells) (hRs : 0 ≤ R.slots) {c0 : Nat} {u1 : Int32} {m0 : gMem} {res : Int32 × gMem} (hk0 : gk c0 = 2) (hf : f_X2_banquetsWith c0 u1 m0 = some res) (hM : gM X m0 H) (hS : va_S (gA X) s.heap H locs) (hl : lv_has ls 4 [(0, .ref (X.1 + c0)), (1, .int u1)]) : W p l e R s m args below meth c H locs 0 0 (MQ below (gQi X res) args s 0 0 (gA X)) (F0 m 0 ls []) := by
  obtain ⟨hx, hb⟩ := (⟨E.1, E.2.1⟩ : _ ∧ _)
  unfold f_X2_banquetsWith at hf
  refine lv_iconst (v := (0 : Int32)) hx hb dX2_banquetsWith_0 (by decide) ?_
  refine lv_istore_n (lv' := [(2, .int (0 : Int32)), (0, .ref (X.1 + c0)), (1, .int u1)]) hx hb dX2_banquetsWith_1 rfl hl (by decide) rfl (fun ls hl => ?_)
  refine lv_iconst (v := (0 : Int32)) hx hb dX2_banquetsWith_2 (by decide) ?_
  refine lv_istore_n (lv' := [(3, .int (0 : Int32)), (2, .int (0 : Int32)), (0, .ref (X.1 + c0)), (1, .int u1)]) hx hb dX2_banquetsWith_3 rfl hl (by decide) rfl (fun ls hl => ?_)
  refine l_X2_banquetsWith_4 E hr hlocks hml hRf hRl hRc hRs (Nat.le_of_ble_eq_true rfl) (Nat.le_of_ble_eq_true rfl) c0 u1 hk0 gF (0 : Int32) (0 : Int32) m0 _ _ _ hf hM hS (lv_sub hl [2, 3, 1, 0] rfl)
theorem c_X2_banquetsWith (l : Launch) (X : gX) (c0 : Nat) (u1 : Int32) (m0 : gMem) {res : Int32 × gMem} (hk0 : gk c0 = 2) (hf : f_X2_banquetsWith c0 u1 m0 = some res) : Met l yX2_banquetsWith (gWs yX2_banquetsWith cX2_banquetsWith 4 (some .int)) { frames := 0, cells := 0, slots := 0, locals := 0 } (va_Pc [.ref (X.1 + c0), .int u1] (gB X m0)) (gQi X res) 0 0 (gA X) :=
  gMet (own := RX2) (by decide +kernel) rfl (Nat.le_of_ble_eq_true rfl) (fun p e s m args below meth c ls E hr hlocks hml hM hl => b_X2_banquetsWith E hr hlocks hml (Nat.le_refl _) (Nat.le_refl _) (Nat.le_refl _) (Nat.le_refl _) hk0 hf hM va_S.rf hl)
def L_X7_spareCubes_17 (c0 : Nat) : Nat → Int32 → Int32 → Int32 → gMem → Option (Int32 × gMem)
  | 0, _, _, _, _ => none
  | n + 1, y1, y2, y3, m0 => if y3 < (0 : Int32) then (some (y1, m0)) else (if ¬ (y3 < 0 ∨ gl (c0 + 2) ≤ y3.toNatClampNeg) then if ¬ (y3 < 0 ∨ gl (c0 + 1) ≤ y3.toNatClampNeg) then g1 (f_X8_cubeBears (m0 (c0 + 1) y3.toNatClampNeg) (m0 c0 3) m0) (fun r9 m7 => gv ((if (((m0 (c0 + 2) y3.toNatClampNeg) * r9) - y2) < y1 then (((m0 (c0 + 2) y3.toNatClampNeg) * r9) - y2) else y1)) (fun x10 => gv ((y2 + (m7 (c0 + 2) y3.toNatClampNeg))) (fun x11 => gv (y3 + (-1 : Int32)) (fun x12 => L_X7_spareCubes_17 c0 n x10 x11 x12 m7)))) else none else none)
def f_X7_spareCubes (c0 : Nat) (m0 : gMem) : Option (Int32 × gMem) := gv (((if (10 : Int32) < (m0 c0 2) then (10 : Int32) else (m0 c0 2)) - (1 : Int32))) (fun x1 => L_X7_spareCubes_17 c0 gF (20 : Int32) (0 : Int32) x1 m0)
set_option maxRecDepth 100000 in
set_option maxHeartbeats 4000000 in
theorem l_X7_spareCubes_17 {p : Program} {l : Launch} {e : Env} {R : Room} {s : State} {m : MethodId} {args : Array Value} {below : List Frame} {meth : Method} {c : Code} {cells slots : Nat} {X : gX} (E : gEn p s m args c cX7_spareCubes RX7 X) (hr : meth.sig.returnType = (some .int)) (hlocks : meth.locks = false) (hml : c.maxLocals = 4) (hRf : 2 ≤ R.frames) (hRl : 82 ≤ R.locals) (hRc : 0 ≤ R.cells) (hRs : 0 ≤ R.slots) (hc : cells ≤ 0) (hs : slots ≤ 0) (c0 : Nat) (hk0 : gk c0 = 7) {res : Int32 × gMem} :
    ∀ (n : Nat) (y1 : Int32) (y2 : Int32) (y3 : Int32) (m0 : gMem) (H : Heap) (locs : List Loc) (ls : Array Slot), L_X7_spareCubes_17 c0 n y1 y2 y3 m0 = some res → gM X m0 H → va_S (gA X) s.heap H locs → lv_has ls 4 [(0, .ref (X.1 + c0)), (1, .int y1), (2, .int y2), (3, .int y3)] → W p l e R s m args below meth c H locs cells slots (MQ below (gQi X res) args s 0 0 (gA X)) (F0 m 17 ls []) := by
  obtain ⟨hx, hb⟩ := (⟨E.1, E.2.1⟩ : _ ∧ _)
  intro n
  induction n with
  | zero =>
    intro _ _ _ _ _ _ _ hf
    cases hf
  | succ n ih =>
    intro y1 y2 y3 m0 H locs ls hf hM hS hl
    rw [L_X7_spareCubes_17] at hf
    refine lv_iload_n hx hb dX7_spareCubes_17 rfl (lv_at hl 3 rfl) ?_
    refine lv_if_lt (tgt := 63) hx hb dX7_spareCubes_18 (by decide) (fun h2 => ?_) (fun h2 => ?_)
    · have hf := g_t h2 hf
      refine lv_iload_n hx hb dX7_spareCubes_63 rfl (lv_at hl 1 rfl) ?_
      exact ge_i E hr hlocks hf hM hS hc hs dX7_spareCubes_64
    · have hf := g_f h2 hf
      refine lv_iload_n hx hb dX7_spareCubes_21 rfl (lv_at hl 1 rfl) ?_
      refine lv_aload_n hx hb dX7_spareCubes_22 rfl (lv_at hl 0 rfl) ?_
      refine GX7_15 E hM hk0 dX7_spareCubes_23 ?_
      have hg3 : gk (c0 + 2) = 20 := gkf_7_1 hk0
      refine lv_iload_n hx hb dX7_spareCubes_26 rfl (lv_at hl 3 rfl) ?_
      obtain ⟨hi4, hf⟩ := g_ck hf
      refine gg_iald E hM (gk_in hg3 (by decide)) hg3 hi4 dX7_spareCubes_27 ?_
      refine lv_aload_n hx hb dX7_spareCubes_28 rfl (lv_at hl 0 rfl) ?_
      refine GX7_9 E hM hk0 dX7_spareCubes_29 ?_
      have hg5 : gk (c0 + 1) = 20 := gkf_7_0 hk0
      refine lv_iload_n hx hb dX7_spareCubes_32 rfl (lv_at hl 3 rfl) ?_
      obtain ⟨hi6, hf⟩ := g_ck hf
      refine gg_iald E hM (gk_in hg5 (by decide)) hg5 hi6 dX7_spareCubes_33 ?_
      refine lv_aload_n hx hb dX7_spareCubes_34 rfl (lv_at hl 0 rfl) ?_
      refine GX7_22 E hM hk0 dX7_spareCubes_35 ?_
      obtain ⟨r9, m7, hqq8, hf⟩ := g1_o hf
      refine ga_i (gr_SN (As := [.int (m0 (c0 + 1) y3.toNatClampNeg), .int (m0 c0 3)]) (rm := { frames := 1, cells := 0, slots := 0, locals := 60 }) E hml hl.1 (c_X8_cubeBears l X (m0 (c0 + 1) y3.toNatClampNeg) (m0 c0 3) m0 hqq8) wt_X8_cubeBears wl_RX7_51 rfl hM hS rfl rfl (Nat.le_trans (by decide) hRf) (Nat.le_trans (by decide) hRl) (Nat.le_trans hc hRc) (Nat.le_trans hs hRs) (Nat.le_of_ble_eq_true rfl) dX7_spareCubes_38 rfl) hS (fun H locs hM hS => ?_)
      refine lv_imul hx hb dX7_spareCubes_41 ?_
      refine lv_iload_n hx hb dX7_spareCubes_42 rfl (lv_at hl 2 rfl) ?_
      refine lv_isub hx hb dX7_spareCubes_43 ?_
      refine gg_min E hml hl.1 wl_RX7_48 wj_min_s wj_math wj_min_c (Nat.le_trans (by decide) hRf) (Nat.le_trans (Nat.le_of_ble_eq_true rfl) hRl) (Nat.le_trans hc hRc) (Nat.le_trans hs hRs) dX7_spareCubes_44 ?_
      obtain ⟨x10, ex10, hf⟩ := gv_o hf
      rw [← ex10]
      refine lv_istore_n (lv' := [(1, .int x10), (0, .ref (X.1 + c0)), (2, .int y2), (3, .int y3)]) hx hb dX7_spareCubes_47 rfl hl (by decide) rfl (fun ls hl => ?_)
      refine lv_iload_n hx hb dX7_spareCubes_48 rfl (lv_at hl 2 rfl) ?_
      refine lv_aload_n hx hb dX7_spareCubes_49 rfl (lv_at hl 1 rfl) ?_
      refine GX7_15 E hM hk0 dX7_spareCubes_50 ?_
      refine lv_iload_n hx hb dX7_spareCubes_53 rfl (lv_at hl 3 rfl) ?_
      refine gg_iald E hM (gk_in hg3 (by decide)) hg3 hi4 dX7_spareCubes_54 ?_
      refine lv_iadd hx hb dX7_spareCubes_55 ?_
      obtain ⟨x11, ex11, hf⟩ := gv_o hf
      rw [← ex11]
      refine lv_istore_n (lv' := [(2, .int x11), (1, .int x10), (0, .ref (X.1 + c0)), (3, .int y3)]) hx hb dX7_spareCubes_56 rfl hl (by decide) rfl (fun ls hl => ?_)
      obtain ⟨x12, ex12, hf⟩ := gv_o hf
      refine lv_iinc (v := x12) (lv' := [(3, .int x12), (2, .int x11), (1, .int x10), (0, .ref (X.1 + c0))]) hx hb dX7_spareCubes_57 hl (k := 3) rfl (by rw [ex12]; rfl) (by decide) rfl (fun ls hl => ?_)
      refine lv_goto (tgt := 17) hx hb dX7_spareCubes_60 (by decide) ?_
      exact ih x10 x11 x12 m7 _ _ _ hf hM hS (lv_sub hl [3, 2, 1, 0] rfl)
set_option maxRecDepth 100000 in
set_option maxHeartbeats 4000000 in
theorem b_X7_spareCubes {p : Program} {l : Launch} {e : Env} {R : Room} {s : State} {m : MethodId} {args : Array Value} {below : List Frame} {meth : Method} {c : Code} {H : Heap} {locs : List Loc} {ls : Array Slot} {X : gX} (E : gEn p s m args c cX7_spareCubes RX7 X) (hr : meth.sig.returnType = (some .int)) (hlocks : meth.locks = false) (hml : c.maxLocals = 4) (hRf : 2 ≤ R.frames) (hRl : 82 ≤ R.locals) (hRc : 0 ≤ R.cells) (hRs : 0 ≤ R.slots) {c0 : Nat} {m0 : gMem} {res : Int32 × gMem} (hk0 : gk c0 = 7) (hf : f_X7_spareCubes c0 m0 = some res) (hM : gM X m0 H) (hS : va_S (gA X) s.heap H locs) (hl : lv_has ls 4 [(0, .ref (X.1 + c0))]) : W p l e R s m args below meth c H locs 0 0 (MQ below (gQi X res) args s 0 0 (gA X)) (F0 m 0 ls []) := by
  obtain ⟨hx, hb⟩ := (⟨E.1, E.2.1⟩ : _ ∧ _)
  unfold f_X7_spareCubes at hf
  refine lv_bipush (v := (20 : Int32)) hx hb dX7_spareCubes_0 (by decide) ?_
  refine lv_istore_n (lv' := [(1, .int (20 : Int32)), (0, .ref (X.1 + c0))]) hx hb dX7_spareCubes_2 rfl hl (by decide) rfl (fun ls hl => ?_)
  refine lv_iconst (v := (0 : Int32)) hx hb dX7_spareCubes_3 (by decide) ?_
  refine lv_istore_n (lv' := [(2, .int (0 : Int32)), (1, .int (20 : Int32)), (0, .ref (X.1 + c0))]) hx hb dX7_spareCubes_4 rfl hl (by decide) rfl (fun ls hl => ?_)
  refine lv_aload_n hx hb dX7_spareCubes_5 rfl (lv_at hl 2 rfl) ?_
  refine GX7_18 E hM hk0 dX7_spareCubes_6 ?_
  refine lv_bipush (v := (10 : Int32)) hx hb dX7_spareCubes_9 (by decide) ?_
  refine gg_min E hml hl.1 wl_RX7_48 wj_min_s wj_math wj_min_c (Nat.le_trans (by decide) hRf) (Nat.le_trans (Nat.le_of_ble_eq_true rfl) hRl) (Nat.le_trans (Nat.le_of_ble_eq_true rfl) hRc) (Nat.le_trans (Nat.le_of_ble_eq_true rfl) hRs) dX7_spareCubes_11 ?_
  refine lv_iconst (v := (1 : Int32)) hx hb dX7_spareCubes_14 (by decide) ?_
  refine lv_isub hx hb dX7_spareCubes_15 ?_
  obtain ⟨x1, ex1, hf⟩ := gv_o hf
  rw [← ex1]
  refine lv_istore_n (lv' := [(3, .int x1), (2, .int (0 : Int32)), (1, .int (20 : Int32)), (0, .ref (X.1 + c0))]) hx hb dX7_spareCubes_16 rfl hl (by decide) rfl (fun ls hl => ?_)
  refine l_X7_spareCubes_17 E hr hlocks hml hRf hRl hRc hRs (Nat.le_of_ble_eq_true rfl) (Nat.le_of_ble_eq_true rfl) c0 hk0 gF (20 : Int32) (0 : Int32) x1 m0 _ _ _ hf hM hS (lv_sub hl [3, 2, 1, 0] rfl)
theorem c_X7_spareCubes (l : Launch) (X : gX) (c0 : Nat) (m0 : gMem) {res : Int32 × gMem} (hk0 : gk c0 = 7) (hf : f_X7_spareCubes c0 m0 = some res) : Met l yX7_spareCubes (gWs yX7_spareCubes cX7_spareCubes 4 (some .int)) { frames := 2, cells := 0, slots := 0, locals := 82 } (va_Pc [.ref (X.1 + c0)] (gB X m0)) (gQi X res) 0 0 (gA X) :=
  gMet (own := RX7) (by decide +kernel) rfl (Nat.le_of_ble_eq_true rfl) (fun p e s m args below meth c ls E hr hlocks hml hM hl => b_X7_spareCubes E hr hlocks hml (Nat.le_refl _) (Nat.le_refl _) (Nat.le_refl _) (Nat.le_refl _) hk0 hf hM va_S.rf hl)
def f_X2_reasonAgainstBanquet (c0 : Nat) (c1 : Nat) (u2 : Int32) (m0 : gMem) : Option (Int32 × gMem) := if (m0 c0 10) < (6 : Int32) then (if (m0 c0 0) < u2 then (some ((0 : Int32), m0)) else (g1 (f_X4_because c1 (10 : Int32) (m0 c0 0) m0) (fun r5 m3 => some (r5, m3)))) else (g1 (f_X4_because c1 (1 : Int32) (6 : Int32) m0) (fun r8 m6 => some (r8, m6)))
set_option maxRecDepth 100000 in
set_option maxHeartbeats 4000000 in
theorem b_X2_reasonAgainstBanquet {p : Program} {l : Launch} {e : Env} {R : Room} {s : State} {m : MethodId} {args : Array Value} {below : List Frame} {meth : Method} {c : Code} {H : Heap} {locs : List Loc} {ls : Array Slot} {X : gX} (E : gEn p s m args c cX2_reasonAgainstBanquet RX2 X) (hr : meth.sig.returnType = (some .int)) (hlocks : meth.locks = false) (hml : c.maxLocals = 3) (hRf : 1 ≤ R.frames) (hRl : 22 ≤ R.locals) (hRc : 0 ≤ R.cells) (hRs : 0 ≤ R.slots) {c0 : Nat} {c1 : Nat} {u2 : Int32} {m0 : gMem} {res : Int32 × gMem} (hk0 : gk c0 = 2) (hk1 : gk c1 = 4) (hf : f_X2_reasonAgainstBanquet c0 c1 u2 m0 = some res) (hM : gM X m0 H) (hS : va_S (gA X) s.heap H locs) (hl : lv_has ls 3 [(0, .ref (X.1 + c0)), (1, .ref (X.1 + c1)), (2, .int u2)]) : W p l e R s m args below meth c H locs 0 0 (MQ below (gQi X res) args s 0 0 (gA X)) (F0 m 0 ls []) := by
  obtain ⟨hx, hb⟩ := (⟨E.1, E.2.1⟩ : _ ∧ _)
  unfold f_X2_reasonAgainstBanquet at hf
  refine lv_aload_n hx hb dX2_reasonAgainstBanquet_0 rfl (lv_at hl 0 rfl) ?_
  refine GX2_68 E hM hk0 dX2_reasonAgainstBanquet_1 ?_
  refine lv_bipush (v := (6 : Int32)) hx hb dX2_reasonAgainstBanquet_4 (by decide) ?_
  refine lv_icmp_lt (tgt := 17) hx hb dX2_reasonAgainstBanquet_6 (by decide) (fun h1 => ?_) (fun h1 => ?_)
  · have hf := g_t h1 hf
    refine lv_iload_n hx hb dX2_reasonAgainstBanquet_17 rfl (lv_at hl 2 rfl) ?_
    refine lv_aload_n hx hb dX2_reasonAgainstBanquet_18 rfl (lv_at hl 0 rfl) ?_
    refine GX2_46 E hM hk0 dX2_reasonAgainstBanquet_19 ?_
    refine lv_icmp_gt (tgt := 38) hx hb dX2_reasonAgainstBanquet_22 (by decide) (fun h2 => ?_) (fun h2 => ?_)
    · have hf := g_t h2 hf
      refine lv_iconst (v := (0 : Int32)) hx hb dX2_reasonAgainstBanquet_38 (by decide) ?_
      exact ge_i E hr hlocks hf hM hS (Nat.le_of_ble_eq_true rfl) (Nat.le_of_ble_eq_true rfl) dX2_reasonAgainstBanquet_39
    · have hf := g_f h2 hf
      refine lv_aload_n hx hb dX2_reasonAgainstBanquet_25 rfl (lv_at hl 1 rfl) ?_
      refine lv_bipush (v := (10 : Int32)) hx hb dX2_reasonAgainstBanquet_26 (by decide) ?_
      refine lv_aload_n hx hb dX2_reasonAgainstBanquet_28 rfl (lv_at hl 0 rfl) ?_
      refine GX2_46 E hM hk0 dX2_reasonAgainstBanquet_29 ?_
      obtain ⟨r5, m3, hqq4, hf⟩ := g1_o hf
      refine ga_i (gr_V (As := [.int (10 : Int32), .int (m0 c0 0)]) (ci := 4) (rm := { frames := 0, cells := 0, slots := 0, locals := 0 }) E hml hl.1 (c_X4_because l X c1 (10 : Int32) (m0 c0 0) m0 hk1 hqq4) wt_X4_because wl_RX2_106 rfl hk1 (by decide) rfl rfl hM hS rfl rfl (Nat.le_trans (by decide) hRf) (Nat.le_trans (by decide) hRl) (Nat.le_trans (Nat.le_of_ble_eq_true rfl) hRc) (Nat.le_trans (Nat.le_of_ble_eq_true rfl) hRs) (Nat.le_of_ble_eq_true rfl) dX2_reasonAgainstBanquet_32 rfl) hS (fun H locs hM hS => ?_)
      refine lv_goto (tgt := 39) hx hb dX2_reasonAgainstBanquet_35 (by decide) ?_
      exact ge_i E hr hlocks hf hM hS (Nat.le_of_ble_eq_true rfl) (Nat.le_of_ble_eq_true rfl) dX2_reasonAgainstBanquet_39
  · have hf := g_f h1 hf
    refine lv_aload_n hx hb dX2_reasonAgainstBanquet_9 rfl (lv_at hl 1 rfl) ?_
    refine lv_iconst (v := (1 : Int32)) hx hb dX2_reasonAgainstBanquet_10 (by decide) ?_
    refine lv_bipush (v := (6 : Int32)) hx hb dX2_reasonAgainstBanquet_11 (by decide) ?_
    obtain ⟨r8, m6, hqq7, hf⟩ := g1_o hf
    refine ga_i (gr_V (As := [.int (1 : Int32), .int (6 : Int32)]) (ci := 4) (rm := { frames := 0, cells := 0, slots := 0, locals := 0 }) E hml hl.1 (c_X4_because l X c1 (1 : Int32) (6 : Int32) m0 hk1 hqq7) wt_X4_because wl_RX2_106 rfl hk1 (by decide) rfl rfl hM hS rfl rfl (Nat.le_trans (by decide) hRf) (Nat.le_trans (by decide) hRl) (Nat.le_trans (Nat.le_of_ble_eq_true rfl) hRc) (Nat.le_trans (Nat.le_of_ble_eq_true rfl) hRs) (Nat.le_of_ble_eq_true rfl) dX2_reasonAgainstBanquet_13 rfl) hS (fun H locs hM hS => ?_)
    exact ge_i E hr hlocks hf hM hS (Nat.le_of_ble_eq_true rfl) (Nat.le_of_ble_eq_true rfl) dX2_reasonAgainstBanquet_16
theorem c_X2_reasonAgainstBanquet (l : Launch) (X : gX) (c0 : Nat) (c1 : Nat) (u2 : Int32) (m0 : gMem) {res : Int32 × gMem} (hk0 : gk c0 = 2) (hk1 : gk c1 = 4) (hf : f_X2_reasonAgainstBanquet c0 c1 u2 m0 = some res) : Met l yX2_reasonAgainstBanquet (gWs yX2_reasonAgainstBanquet cX2_reasonAgainstBanquet 3 (some .int)) { frames := 1, cells := 0, slots := 0, locals := 22 } (va_Pc [.ref (X.1 + c0), .ref (X.1 + c1), .int u2] (gB X m0)) (gQi X res) 0 0 (gA X) :=
  gMet (own := RX2) (by decide +kernel) rfl (Nat.le_of_ble_eq_true rfl) (fun p e s m args below meth c ls E hr hlocks hml hM hl => b_X2_reasonAgainstBanquet E hr hlocks hml (Nat.le_refl _) (Nat.le_refl _) (Nat.le_refl _) (Nat.le_refl _) hk0 hk1 hf hM va_S.rf hl)
def f_X0_start (c0 : Nat) (u1 : Int32) (u2 : Int32) (u3 : Int32) (u4 : Int32) (m0 : gMem) : Option (Unit × gMem) := gv (ms m0 c0 0 u1) (fun m1 => gv (ms m1 c0 1 u2) (fun m2 => gv (ms m2 c0 2 u3) (fun m3 => gv (ms m3 c0 3 u4) (fun m4 => gv (ms m4 c0 4 (-1 : Int32)) (fun m5 => some ((), m5))))))
set_option maxRecDepth 100000 in
set_option maxHeartbeats 4000000 in
theorem b_X0_start {p : Program} {l : Launch} {e : Env} {R : Room} {s : State} {m : MethodId} {args : Array Value} {below : List Frame} {meth : Method} {c : Code} {H : Heap} {locs : List Loc} {ls : Array Slot} {X : gX} (E : gEn p s m args c cX0_start RX0 X) (hr : meth.sig.returnType = none) (hlocks : meth.locks = false) (hml : c.maxLocals = 5) (hRf : 0 ≤ R.frames) (hRl : 0 ≤ R.locals) (hRc : 0 ≤ R.cells) (hRs : 0 ≤ R.slots) {c0 : Nat} {u1 : Int32} {u2 : Int32} {u3 : Int32} {u4 : Int32} {m0 : gMem} {res : Unit × gMem} (hk0 : gk c0 = 0) (hf : f_X0_start c0 u1 u2 u3 u4 m0 = some res) (hM : gM X m0 H) (hS : va_S (gA X) s.heap H locs) (hl : lv_has ls 5 [(0, .ref (X.1 + c0)), (1, .int u1), (2, .int u2), (3, .int u3), (4, .int u4)]) : W p l e R s m args below meth c H locs 0 0 (MQ below (gQv X res) args s 0 0 (gA X)) (F0 m 0 ls []) := by
  obtain ⟨hx, hb⟩ := (⟨E.1, E.2.1⟩ : _ ∧ _)
  unfold f_X0_start at hf
  refine lv_aload_n hx hb dX0_start_0 rfl (lv_at hl 0 rfl) ?_
  refine lv_iload_n hx hb dX0_start_1 rfl (lv_at hl 1 rfl) ?_
  obtain ⟨m1, em1, hf⟩ := gv_o hf
  refine PX0_15 E hM hS hk0 em1 dX0_start_2 (fun H locs hM hS => ?_)
  refine lv_aload_n hx hb dX0_start_5 rfl (lv_at hl 0 rfl) ?_
  refine lv_iload_n hx hb dX0_start_6 rfl (lv_at hl 2 rfl) ?_
  obtain ⟨m2, em2, hf⟩ := gv_o hf
  refine PX0_18 E hM hS hk0 em2 dX0_start_7 (fun H locs hM hS => ?_)
  refine lv_aload_n hx hb dX0_start_10 rfl (lv_at hl 0 rfl) ?_
  refine lv_iload_n hx hb dX0_start_11 rfl (lv_at hl 3 rfl) ?_
  obtain ⟨m3, em3, hf⟩ := gv_o hf
  refine PX0_21 E hM hS hk0 em3 dX0_start_12 (fun H locs hM hS => ?_)
  refine lv_aload_n hx hb dX0_start_15 rfl (lv_at hl 0 rfl) ?_
  refine lv_iload hx hb dX0_start_16 (lv_at hl 4 rfl) ?_
  obtain ⟨m4, em4, hf⟩ := gv_o hf
  refine PX0_24 E hM hS hk0 em4 dX0_start_18 (fun H locs hM hS => ?_)
  refine lv_aload_n hx hb dX0_start_21 rfl (lv_at hl 0 rfl) ?_
  refine lv_iconst (v := (-1 : Int32)) hx hb dX0_start_22 (by decide) ?_
  obtain ⟨m5, em5, hf⟩ := gv_o hf
  refine PX0_9 E hM hS hk0 em5 dX0_start_23 (fun H locs hM hS => ?_)
  exact ge_v E hr hlocks hf hM hS (Nat.le_of_ble_eq_true rfl) (Nat.le_of_ble_eq_true rfl) dX0_start_26
theorem c_X0_start (l : Launch) (X : gX) (c0 : Nat) (u1 : Int32) (u2 : Int32) (u3 : Int32) (u4 : Int32) (m0 : gMem) {res : Unit × gMem} (hk0 : gk c0 = 0) (hf : f_X0_start c0 u1 u2 u3 u4 m0 = some res) : Met l yX0_start (gWs yX0_start cX0_start 5 none) { frames := 0, cells := 0, slots := 0, locals := 0 } (va_Pc [.ref (X.1 + c0), .int u1, .int u2, .int u3, .int u4] (gB X m0)) (gQv X res) 0 0 (gA X) :=
  gMet (own := RX0) (by decide +kernel) rfl (Nat.le_of_ble_eq_true rfl) (fun p e s m args below meth c ls E hr hlocks hml hM hl => b_X0_start E hr hlocks hml (Nat.le_refl _) (Nat.le_refl _) (Nat.le_refl _) (Nat.le_refl _) hk0 hf hM va_S.rf hl)
def f_X2_addBanquet (c0 : Nat) (u1 : Int32) (u2 : Int32) (u3 : Int32) (m0 : gMem) : Option (Int32 × gMem) := gv ((m0 c0 11)) (fun x1 => if (m0 c0 10) < (0 : Int32) then (some (x1, m0)) else (if (6 : Int32) ≤ (m0 c0 10) then (some (x1, m0)) else (if ¬ ((m0 c0 10) < 0 ∨ gl (c0 + 6) ≤ (m0 c0 10).toNatClampNeg) then g1 (f_X0_start ((c0 + 6) + (23 + (m0 c0 10).toNatClampNeg)) x1 u1 u2 u3 m0) (fun r9 m7 => gv (ms m7 c0 10 ((m7 c0 10) + (1 : Int32))) (fun m10 => gv (ms m10 c0 11 ((m10 c0 11) + (1 : Int32))) (fun m11 => some (x1, m11)))) else none)))
set_option maxRecDepth 100000 in
set_option maxHeartbeats 4000000 in
theorem b_X2_addBanquet {p : Program} {l : Launch} {e : Env} {R : Room} {s : State} {m : MethodId} {args : Array Value} {below : List Frame} {meth : Method} {c : Code} {H : Heap} {locs : List Loc} {ls : Array Slot} {X : gX} (E : gEn p s m args c cX2_addBanquet RX2 X) (hr : meth.sig.returnType = (some .int)) (hlocks : meth.locks = false) (hml : c.maxLocals = 5) (hRf : 1 ≤ R.frames) (hRl : 24 ≤ R.locals) (hRc : 0 ≤ R.cells) (hRs : 0 ≤ R.slots) {c0 : Nat} {u1 : Int32} {u2 : Int32} {u3 : Int32} {m0 : gMem} {res : Int32 × gMem} (hk0 : gk c0 = 2) (hf : f_X2_addBanquet c0 u1 u2 u3 m0 = some res) (hM : gM X m0 H) (hS : va_S (gA X) s.heap H locs) (hl : lv_has ls 5 [(0, .ref (X.1 + c0)), (1, .int u1), (2, .int u2), (3, .int u3)]) : W p l e R s m args below meth c H locs 0 0 (MQ below (gQi X res) args s 0 0 (gA X)) (F0 m 0 ls []) := by
  obtain ⟨hx, hb⟩ := (⟨E.1, E.2.1⟩ : _ ∧ _)
  unfold f_X2_addBanquet at hf
  refine lv_aload_n hx hb dX2_addBanquet_0 rfl (lv_at hl 0 rfl) ?_
  refine GX2_74 E hM hk0 dX2_addBanquet_1 ?_
  obtain ⟨x1, ex1, hf⟩ := gv_o hf
  rw [← ex1]
  refine lv_istore (lv' := [(4, .int x1), (0, .ref (X.1 + c0)), (1, .int u1), (2, .int u2), (3, .int u3)]) hx hb dX2_addBanquet_4 hl (by decide) rfl (fun ls hl => ?_)
  refine lv_aload_n hx hb dX2_addBanquet_6 rfl (lv_at hl 1 rfl) ?_
  refine GX2_68 E hM hk0 dX2_addBanquet_7 ?_
  refine lv_if_lt (tgt := 59) hx hb dX2_addBanquet_10 (by decide) (fun h2 => ?_) (fun h2 => ?_)
  · have hf := g_t h2 hf
    refine lv_iload hx hb dX2_addBanquet_59 (lv_at hl 0 rfl) ?_
    exact ge_i E hr hlocks hf hM hS (Nat.le_of_ble_eq_true rfl) (Nat.le_of_ble_eq_true rfl) dX2_addBanquet_61
  · have hf := g_f h2 hf
    refine lv_aload_n hx hb dX2_addBanquet_13 rfl (lv_at hl 1 rfl) ?_
    refine GX2_68 E hM hk0 dX2_addBanquet_14 ?_
    refine lv_bipush (v := (6 : Int32)) hx hb dX2_addBanquet_17 (by decide) ?_
    refine lv_icmp_ge (tgt := 59) hx hb dX2_addBanquet_19 (by decide) (fun h3 => ?_) (fun h3 => ?_)
    · have hf := g_t h3 hf
      refine lv_iload hx hb dX2_addBanquet_59 (lv_at hl 0 rfl) ?_
      exact ge_i E hr hlocks hf hM hS (Nat.le_of_ble_eq_true rfl) (Nat.le_of_ble_eq_true rfl) dX2_addBanquet_61
    · have hf := g_f h3 hf
      refine lv_aload_n hx hb dX2_addBanquet_22 rfl (lv_at hl 1 rfl) ?_
      refine GX2_39 E hM hk0 dX2_addBanquet_23 ?_
      have hg4 : gk (c0 + 6) = 26 := gkf_2_9 hk0
      refine lv_aload_n hx hb dX2_addBanquet_26 rfl (lv_at hl 1 rfl) ?_
      refine GX2_68 E hM hk0 dX2_addBanquet_27 ?_
      obtain ⟨hi5, hf⟩ := g_ck hf
      refine gg_aald (k := 26) E hM (gk_in hg4 (by decide)) hg4 (by decide) rfl hi5 rfl rfl dX2_addBanquet_30 ?_
      have hg6 : gk ((c0 + 6) + (23 + (m0 c0 10).toNatClampNeg)) = 0 := gka_26 hg4 hi5
      refine lv_iload hx hb dX2_addBanquet_31 (lv_at hl 0 rfl) ?_
      refine lv_iload_n hx hb dX2_addBanquet_33 rfl (lv_at hl 2 rfl) ?_
      refine lv_iload_n hx hb dX2_addBanquet_34 rfl (lv_at hl 3 rfl) ?_
      refine lv_iload_n hx hb dX2_addBanquet_35 rfl (lv_at hl 4 rfl) ?_
      obtain ⟨r9, m7, hqq8, hf⟩ := g1_o hf
      refine ga_v (gr_V (As := [.int x1, .int u1, .int u2, .int u3]) (ci := 0) (rm := { frames := 0, cells := 0, slots := 0, locals := 0 }) E hml hl.1 (c_X0_start l X ((c0 + 6) + (23 + (m0 c0 10).toNatClampNeg)) x1 u1 u2 u3 m0 hg6 hqq8) wt_X0_start wl_RX2_170 rfl hg6 (by decide) rfl rfl hM hS rfl rfl (Nat.le_trans (by decide) hRf) (Nat.le_trans (by decide) hRl) (Nat.le_trans (Nat.le_of_ble_eq_true rfl) hRc) (Nat.le_trans (Nat.le_of_ble_eq_true rfl) hRs) (Nat.le_of_ble_eq_true rfl) dX2_addBanquet_36 rfl) hS (fun H locs hM hS => ?_)
      refine lv_aload_n hx hb dX2_addBanquet_39 rfl (lv_at hl 1 rfl) ?_
      refine lv_dup hx hb dX2_addBanquet_40 rfl ?_
      refine GX2_68 E hM hk0 dX2_addBanquet_41 ?_
      refine lv_iconst (v := (1 : Int32)) hx hb dX2_addBanquet_44 (by decide) ?_
      refine lv_iadd hx hb dX2_addBanquet_45 ?_
      obtain ⟨m10, em10, hf⟩ := gv_o hf
      refine PX2_68 E hM hS hk0 em10 dX2_addBanquet_46 (fun H locs hM hS => ?_)
      refine lv_aload_n hx hb dX2_addBanquet_49 rfl (lv_at hl 1 rfl) ?_
      refine lv_dup hx hb dX2_addBanquet_50 rfl ?_
      refine GX2_74 E hM hk0 dX2_addBanquet_51 ?_
      refine lv_iconst (v := (1 : Int32)) hx hb dX2_addBanquet_54 (by decide) ?_
      refine lv_iadd hx hb dX2_addBanquet_55 ?_
      obtain ⟨m11, em11, hf⟩ := gv_o hf
      refine PX2_74 E hM hS hk0 em11 dX2_addBanquet_56 (fun H locs hM hS => ?_)
      refine lv_iload hx hb dX2_addBanquet_59 (lv_at hl 0 rfl) ?_
      exact ge_i E hr hlocks hf hM hS (Nat.le_of_ble_eq_true rfl) (Nat.le_of_ble_eq_true rfl) dX2_addBanquet_61
theorem c_X2_addBanquet (l : Launch) (X : gX) (c0 : Nat) (u1 : Int32) (u2 : Int32) (u3 : Int32) (m0 : gMem) {res : Int32 × gMem} (hk0 : gk c0 = 2) (hf : f_X2_addBanquet c0 u1 u2 u3 m0 = some res) : Met l yX2_addBanquet (gWs yX2_addBanquet cX2_addBanquet 5 (some .int)) { frames := 1, cells := 0, slots := 0, locals := 24 } (va_Pc [.ref (X.1 + c0), .int u1, .int u2, .int u3] (gB X m0)) (gQi X res) 0 0 (gA X) :=
  gMet (own := RX2) (by decide +kernel) rfl (Nat.le_of_ble_eq_true rfl) (fun p e s m args below meth c ls E hr hlocks hml hM hl => b_X2_addBanquet E hr hlocks hml (Nat.le_refl _) (Nat.le_refl _) (Nat.le_refl _) (Nat.le_refl _) hk0 hf hM va_S.rf hl)
def L_X2_placeOfBanquet_2 (c0 : Nat) (u1 : Int32) : Nat → Int32 → gMem → Option (Int32 × gMem)
  | 0, _, _ => none
  | n + 1, y2, m0 => if (m0 c0 10) ≤ y2 then (some ((-1 : Int32), m0)) else (if (6 : Int32) ≤ y2 then (some ((-1 : Int32), m0)) else (if ¬ (y2 < 0 ∨ gl (c0 + 6) ≤ y2.toNatClampNeg) then if (m0 ((c0 + 6) + (23 + y2.toNatClampNeg)) 0) = u1 then (some (y2, m0)) else (gv (y2 + (1 : Int32)) (fun x7 => L_X2_placeOfBanquet_2 c0 u1 n x7 m0)) else none))
def f_X2_placeOfBanquet (c0 : Nat) (u1 : Int32) (m0 : gMem) : Option (Int32 × gMem) := L_X2_placeOfBanquet_2 c0 u1 gF (0 : Int32) m0
set_option maxRecDepth 100000 in
set_option maxHeartbeats 4000000 in
theorem l_X2_placeOfBanquet_2 {p : Program} {l : Launch} {e : Env} {R : Room} {s : State} {m : MethodId} {args : Array Value} {below : List Frame} {meth : Method} {c : Code} {cells slots : Nat} {X : gX} (E : gEn p s m args c cX2_placeOfBanquet RX2 X) (hr : meth.sig.returnType = (some .int)) (hlocks : meth.locks = false) (hml : c.maxLocals = 3) (hRf : 0 ≤ R.frames) (hRl : 0 ≤ R.locals) (hRc : 0 ≤ R.cells) (hRs : 0 ≤ R.slots) (hc : cells ≤ 0) (hs : slots ≤ 0) (c0 : Nat) (u1 : Int32) (hk0 : gk c0 = 2) {res : Int32 × gMem} :
    ∀ (n : Nat) (y2 : Int32) (m0 : gMem) (H : Heap) (locs : List Loc) (ls : Array Slot), L_X2_placeOfBanquet_2 c0 u1 n y2 m0 = some res → gM X m0 H → va_S (gA X) s.heap H locs → lv_has ls 3 [(0, .ref (X.1 + c0)), (1, .int u1), (2, .int y2)] → W p l e R s m args below meth c H locs cells slots (MQ below (gQi X res) args s 0 0 (gA X)) (F0 m 2 ls []) := by
  obtain ⟨hx, hb⟩ := (⟨E.1, E.2.1⟩ : _ ∧ _)
  intro n
  induction n with
  | zero =>
    intro _ _ _ _ _ hf
    cases hf
  | succ n ih =>
    intro y2 m0 H locs ls hf hM hS hl
    rw [L_X2_placeOfBanquet_2] at hf
    refine lv_iload_n hx hb dX2_placeOfBanquet_2 rfl (lv_at hl 2 rfl) ?_
    refine lv_aload_n hx hb dX2_placeOfBanquet_3 rfl (lv_at hl 0 rfl) ?_
    refine GX2_68 E hM hk0 dX2_placeOfBanquet_4 ?_
    refine lv_icmp_ge (tgt := 37) hx hb dX2_placeOfBanquet_7 (by decide) (fun h1 => ?_) (fun h1 => ?_)
    · have hf := g_t h1 hf
      refine lv_iconst (v := (-1 : Int32)) hx hb dX2_placeOfBanquet_37 (by decide) ?_
      exact ge_i E hr hlocks hf hM hS hc hs dX2_placeOfBanquet_38
    · have hf := g_f h1 hf
      refine lv_iload_n hx hb dX2_placeOfBanquet_10 rfl (lv_at hl 2 rfl) ?_
      refine lv_bipush (v := (6 : Int32)) hx hb dX2_placeOfBanquet_11 (by decide) ?_
      refine lv_icmp_ge (tgt := 37) hx hb dX2_placeOfBanquet_13 (by decide) (fun h2 => ?_) (fun h2 => ?_)
      · have hf := g_t h2 hf
        refine lv_iconst (v := (-1 : Int32)) hx hb dX2_placeOfBanquet_37 (by decide) ?_
        exact ge_i E hr hlocks hf hM hS hc hs dX2_placeOfBanquet_38
      · have hf := g_f h2 hf
        refine lv_aload_n hx hb dX2_placeOfBanquet_16 rfl (lv_at hl 0 rfl) ?_
        refine GX2_39 E hM hk0 dX2_placeOfBanquet_17 ?_
        have hg3 : gk (c0 + 6) = 26 := gkf_2_9 hk0
        refine lv_iload_n hx hb dX2_placeOfBanquet_20 rfl (lv_at hl 2 rfl) ?_
        obtain ⟨hi4, hf⟩ := g_ck hf
        refine gg_aald (k := 26) E hM (gk_in hg3 (by decide)) hg3 (by decide) rfl hi4 rfl rfl dX2_placeOfBanquet_21 ?_
        have hg5 : gk ((c0 + 6) + (23 + y2.toNatClampNeg)) = 0 := gka_26 hg3 hi4
        refine GX2_167 E hM hg5 dX2_placeOfBanquet_22 ?_
        refine lv_iload_n hx hb dX2_placeOfBanquet_25 rfl (lv_at hl 1 rfl) ?_
        refine lv_icmp_ne (tgt := 31) hx hb dX2_placeOfBanquet_26 (by decide) (fun h6 => ?_) (fun h6 => ?_)
        · have hf := g_f h6 hf
          obtain ⟨x7, ex7, hf⟩ := gv_o hf
          refine lv_iinc (v := x7) (lv' := [(2, .int x7), (0, .ref (X.1 + c0)), (1, .int u1)]) hx hb dX2_placeOfBanquet_31 hl (k := 2) rfl (by rw [ex7]; rfl) (by decide) rfl (fun ls hl => ?_)
          refine lv_goto (tgt := 2) hx hb dX2_placeOfBanquet_34 (by decide) ?_
          exact ih x7 m0 _ _ _ hf hM hS (lv_sub hl [1, 2, 0] rfl)
        · have hf := g_t h6 hf
          refine lv_iload_n hx hb dX2_placeOfBanquet_29 rfl (lv_at hl 2 rfl) ?_
          exact ge_i E hr hlocks hf hM hS hc hs dX2_placeOfBanquet_30
set_option maxRecDepth 100000 in
set_option maxHeartbeats 4000000 in
theorem b_X2_placeOfBanquet {p : Program} {l : Launch} {e : Env} {R : Room} {s : State} {m : MethodId} {args : Array Value} {below : List Frame} {meth : Method} {c : Code} {H : Heap} {locs : List Loc} {ls : Array Slot} {X : gX} (E : gEn p s m args c cX2_placeOfBanquet RX2 X) (hr : meth.sig.returnType = (some .int)) (hlocks : meth.locks = false) (hml : c.maxLocals = 3) (hRf : 0 ≤ R.frames) (hRl : 0 ≤ R.locals) (hRc : 0 ≤ R.cells) (hRs : 0 ≤ R.slots) {c0 : Nat} {u1 : Int32} {m0 : gMem} {res : Int32 × gMem} (hk0 : gk c0 = 2) (hf : f_X2_placeOfBanquet c0 u1 m0 = some res) (hM : gM X m0 H) (hS : va_S (gA X) s.heap H locs) (hl : lv_has ls 3 [(0, .ref (X.1 + c0)), (1, .int u1)]) : W p l e R s m args below meth c H locs 0 0 (MQ below (gQi X res) args s 0 0 (gA X)) (F0 m 0 ls []) := by
  obtain ⟨hx, hb⟩ := (⟨E.1, E.2.1⟩ : _ ∧ _)
  unfold f_X2_placeOfBanquet at hf
  refine lv_iconst (v := (0 : Int32)) hx hb dX2_placeOfBanquet_0 (by decide) ?_
  refine lv_istore_n (lv' := [(2, .int (0 : Int32)), (0, .ref (X.1 + c0)), (1, .int u1)]) hx hb dX2_placeOfBanquet_1 rfl hl (by decide) rfl (fun ls hl => ?_)
  refine l_X2_placeOfBanquet_2 E hr hlocks hml hRf hRl hRc hRs (Nat.le_of_ble_eq_true rfl) (Nat.le_of_ble_eq_true rfl) c0 u1 hk0 gF (0 : Int32) m0 _ _ _ hf hM hS (lv_sub hl [1, 2, 0] rfl)
theorem c_X2_placeOfBanquet (l : Launch) (X : gX) (c0 : Nat) (u1 : Int32) (m0 : gMem) {res : Int32 × gMem} (hk0 : gk c0 = 2) (hf : f_X2_placeOfBanquet c0 u1 m0 = some res) : Met l yX2_placeOfBanquet (gWs yX2_placeOfBanquet cX2_placeOfBanquet 3 (some .int)) { frames := 0, cells := 0, slots := 0, locals := 0 } (va_Pc [.ref (X.1 + c0), .int u1] (gB X m0)) (gQi X res) 0 0 (gA X) :=
  gMet (own := RX2) (by decide +kernel) rfl (Nat.le_of_ble_eq_true rfl) (fun p e s m args below meth c ls E hr hlocks hml hM hl => b_X2_placeOfBanquet E hr hlocks hml (Nat.le_refl _) (Nat.le_refl _) (Nat.le_refl _) (Nat.le_refl _) hk0 hf hM va_S.rf hl)
def f_X2_banquetAt (c0 : Nat) (u1 : Int32) (m0 : gMem) : Option (Option Nat × gMem) := if u1 < (0 : Int32) then (some (none, m0)) else (if (m0 c0 10) ≤ u1 then (some (none, m0)) else (if (6 : Int32) ≤ u1 then (some (none, m0)) else (if ¬ (u1 < 0 ∨ gl (c0 + 6) ≤ u1.toNatClampNeg) then some (some ((c0 + 6) + (23 + u1.toNatClampNeg)), m0) else none)))
set_option maxRecDepth 100000 in
set_option maxHeartbeats 4000000 in
theorem b_X2_banquetAt {p : Program} {l : Launch} {e : Env} {R : Room} {s : State} {m : MethodId} {args : Array Value} {below : List Frame} {meth : Method} {c : Code} {H : Heap} {locs : List Loc} {ls : Array Slot} {X : gX} (E : gEn p s m args c cX2_banquetAt RX2 X) (hr : meth.sig.returnType = (some (.object "SugarTowers$Banquet"))) (hlocks : meth.locks = false) (hml : c.maxLocals = 2) (hRf : 0 ≤ R.frames) (hRl : 0 ≤ R.locals) (hRc : 0 ≤ R.cells) (hRs : 0 ≤ R.slots) {c0 : Nat} {u1 : Int32} {m0 : gMem} {res : Option Nat × gMem} (hk0 : gk c0 = 2) (hf : f_X2_banquetAt c0 u1 m0 = some res) (hM : gM X m0 H) (hS : va_S (gA X) s.heap H locs) (hl : lv_has ls 2 [(0, .ref (X.1 + c0)), (1, .int u1)]) : W p l e R s m args below meth c H locs 0 0 (MQ below (gQo X res) args s 0 0 (gA X)) (F0 m 0 ls []) := by
  obtain ⟨hx, hb⟩ := (⟨E.1, E.2.1⟩ : _ ∧ _)
  unfold f_X2_banquetAt at hf
  refine lv_iload_n hx hb dX2_banquetAt_0 rfl (lv_at hl 1 rfl) ?_
  refine lv_if_lt (tgt := 27) hx hb dX2_banquetAt_1 (by decide) (fun h1 => ?_) (fun h1 => ?_)
  · have hf := g_t h1 hf
    refine lv_null hx hb dX2_banquetAt_27 ?_
    exact ge_o E hr hlocks hf rfl hM hS (Nat.le_of_ble_eq_true rfl) (Nat.le_of_ble_eq_true rfl) dX2_banquetAt_28
  · have hf := g_f h1 hf
    refine lv_iload_n hx hb dX2_banquetAt_4 rfl (lv_at hl 1 rfl) ?_
    refine lv_aload_n hx hb dX2_banquetAt_5 rfl (lv_at hl 0 rfl) ?_
    refine GX2_68 E hM hk0 dX2_banquetAt_6 ?_
    refine lv_icmp_ge (tgt := 27) hx hb dX2_banquetAt_9 (by decide) (fun h2 => ?_) (fun h2 => ?_)
    · have hf := g_t h2 hf
      refine lv_null hx hb dX2_banquetAt_27 ?_
      exact ge_o E hr hlocks hf rfl hM hS (Nat.le_of_ble_eq_true rfl) (Nat.le_of_ble_eq_true rfl) dX2_banquetAt_28
    · have hf := g_f h2 hf
      refine lv_iload_n hx hb dX2_banquetAt_12 rfl (lv_at hl 1 rfl) ?_
      refine lv_bipush (v := (6 : Int32)) hx hb dX2_banquetAt_13 (by decide) ?_
      refine lv_icmp_ge (tgt := 27) hx hb dX2_banquetAt_15 (by decide) (fun h3 => ?_) (fun h3 => ?_)
      · have hf := g_t h3 hf
        refine lv_null hx hb dX2_banquetAt_27 ?_
        exact ge_o E hr hlocks hf rfl hM hS (Nat.le_of_ble_eq_true rfl) (Nat.le_of_ble_eq_true rfl) dX2_banquetAt_28
      · have hf := g_f h3 hf
        refine lv_aload_n hx hb dX2_banquetAt_18 rfl (lv_at hl 0 rfl) ?_
        refine GX2_39 E hM hk0 dX2_banquetAt_19 ?_
        have hg4 : gk (c0 + 6) = 26 := gkf_2_9 hk0
        refine lv_iload_n hx hb dX2_banquetAt_22 rfl (lv_at hl 1 rfl) ?_
        obtain ⟨hi5, hf⟩ := g_ck hf
        refine gg_aald (k := 26) E hM (gk_in hg4 (by decide)) hg4 (by decide) rfl hi5 rfl rfl dX2_banquetAt_23 ?_
        have hg6 : gk ((c0 + 6) + (23 + u1.toNatClampNeg)) = 0 := gka_26 hg4 hi5
        refine lv_goto (tgt := 28) hx hb dX2_banquetAt_24 (by decide) ?_
        exact ge_o E hr hlocks hf rfl hM hS (Nat.le_of_ble_eq_true rfl) (Nat.le_of_ble_eq_true rfl) dX2_banquetAt_28
theorem c_X2_banquetAt (l : Launch) (X : gX) (c0 : Nat) (u1 : Int32) (m0 : gMem) {res : Option Nat × gMem} (hk0 : gk c0 = 2) (hf : f_X2_banquetAt c0 u1 m0 = some res) : Met l yX2_banquetAt (gWs yX2_banquetAt cX2_banquetAt 2 (some (.object "SugarTowers$Banquet"))) { frames := 0, cells := 0, slots := 0, locals := 0 } (va_Pc [.ref (X.1 + c0), .int u1] (gB X m0)) (gQo X res) 0 0 (gA X) :=
  gMet (own := RX2) (by decide +kernel) rfl (Nat.le_of_ble_eq_true rfl) (fun p e s m args below meth c ls E hr hlocks hml hM hl => b_X2_banquetAt E hr hlocks hml (Nat.le_refl _) (Nat.le_refl _) (Nat.le_refl _) (Nat.le_refl _) hk0 hf hM va_S.rf hl)
def f_X2_missingCourses (c0 : Nat) (c1 : Nat) (m0 : gMem) : Option (Int32 × gMem) := g1 (f_X2_towerAt c0 (m0 c1 4) m0) (fun r3 m1 => gnl r3 (some ((if (0 : Int32) < ((m1 c1 2) - (0 : Int32)) then ((m1 c1 2) - (0 : Int32)) else (0 : Int32)), m1)) (fun z4 => if gk z4 = 7 then gv ((m1 z4 2)) (fun x6 => some ((if (0 : Int32) < ((m1 c1 2) - x6) then ((m1 c1 2) - x6) else (0 : Int32)), m1)) else none))
set_option maxRecDepth 100000 in
set_option maxHeartbeats 4000000 in
theorem b_X2_missingCourses {p : Program} {l : Launch} {e : Env} {R : Room} {s : State} {m : MethodId} {args : Array Value} {below : List Frame} {meth : Method} {c : Code} {H : Heap} {locs : List Loc} {ls : Array Slot} {X : gX} (E : gEn p s m args c cX2_missingCourses RX2 X) (hr : meth.sig.returnType = (some .int)) (hlocks : meth.locks = false) (hml : c.maxLocals = 4) (hRf : 1 ≤ R.frames) (hRl : 60 ≤ R.locals) (hRc : 0 ≤ R.cells) (hRs : 0 ≤ R.slots) {c0 : Nat} {c1 : Nat} {m0 : gMem} {res : Int32 × gMem} (hk0 : gk c0 = 2) (hk1 : gk c1 = 0) (hf : f_X2_missingCourses c0 c1 m0 = some res) (hM : gM X m0 H) (hS : va_S (gA X) s.heap H locs) (hl : lv_has ls 4 [(0, .ref (X.1 + c0)), (1, .ref (X.1 + c1))]) : W p l e R s m args below meth c H locs 0 0 (MQ below (gQi X res) args s 0 0 (gA X)) (F0 m 0 ls []) := by
  obtain ⟨hx, hb⟩ := (⟨E.1, E.2.1⟩ : _ ∧ _)
  unfold f_X2_missingCourses at hf
  refine lv_aload_n hx hb dX2_missingCourses_0 rfl (lv_at hl 0 rfl) ?_
  refine lv_aload_n hx hb dX2_missingCourses_1 rfl (lv_at hl 1 rfl) ?_
  refine GX2_177 E hM hk1 dX2_missingCourses_2 ?_
  obtain ⟨r3, m1, hqq2, hf⟩ := g1_o hf
  refine ga_o (gr_V (As := [.int (m0 c1 4)]) (ci := 2) (rm := { frames := 0, cells := 0, slots := 0, locals := 0 }) E hml hl.1 (c_X2_towerAt l X c0 (m0 c1 4) m0 hk0 hqq2) wt_X2_towerAt wl_RX2_126 rfl hk0 (by decide) rfl rfl hM hS rfl rfl (Nat.le_trans (by decide) hRf) (Nat.le_trans (by decide) hRl) (Nat.le_trans (Nat.le_of_ble_eq_true rfl) hRc) (Nat.le_trans (Nat.le_of_ble_eq_true rfl) hRs) (Nat.le_of_ble_eq_true rfl) dX2_missingCourses_5 rfl) hS (fun H locs hM hS => ?_)
  cases r3 with
  | none =>
    have hf := gnl_n hf
    refine gW_null ?_
    refine lv_astore_nN (lv' := [(2, .null), (0, .ref (X.1 + c0)), (1, .ref (X.1 + c1))]) hx hb dX2_missingCourses_8 rfl hl (by decide) rfl (fun ls hl => ?_)
    refine lv_aload_nN hx hb dX2_missingCourses_9 rfl (lv_at hl 0 rfl) ?_
    refine lv_ifnonnullN hx hb dX2_missingCourses_10 ?_
    refine lv_iconst (v := (0 : Int32)) hx hb dX2_missingCourses_13 (by decide) ?_
    refine lv_goto (tgt := 21) hx hb dX2_missingCourses_14 (by decide) ?_
    refine lv_istore_n (lv' := [(3, .int (0 : Int32)), (2, .null), (0, .ref (X.1 + c0)), (1, .ref (X.1 + c1))]) hx hb dX2_missingCourses_21 rfl hl (by decide) rfl (fun ls hl => ?_)
    refine lv_iconst (v := (0 : Int32)) hx hb dX2_missingCourses_22 (by decide) ?_
    refine lv_aload_n hx hb dX2_missingCourses_23 rfl (lv_at hl 3 rfl) ?_
    refine GX2_180 E hM hk1 dX2_missingCourses_24 ?_
    refine lv_iload_n hx hb dX2_missingCourses_27 rfl (lv_at hl 0 rfl) ?_
    refine lv_isub hx hb dX2_missingCourses_28 ?_
    refine gg_max E hml hl.1 wl_RX2_183 wj_max_s wj_math wj_max_c (Nat.le_trans (by decide) hRf) (Nat.le_trans (Nat.le_of_ble_eq_true rfl) hRl) (Nat.le_trans (Nat.le_of_ble_eq_true rfl) hRc) (Nat.le_trans (Nat.le_of_ble_eq_true rfl) hRs) dX2_missingCourses_29 ?_
    exact ge_i E hr hlocks hf hM hS (Nat.le_of_ble_eq_true rfl) (Nat.le_of_ble_eq_true rfl) dX2_missingCourses_32
  | some z4 =>
    have hf := gnl_s hf
    obtain ⟨hg5, hf⟩ := g_ck hf
    refine gW_some ?_
    refine lv_astore_n (lv' := [(2, .ref (X.1 + z4)), (0, .ref (X.1 + c0)), (1, .ref (X.1 + c1))]) hx hb dX2_missingCourses_8 rfl hl (by decide) rfl (fun ls hl => ?_)
    refine lv_aload_n hx hb dX2_missingCourses_9 rfl (lv_at hl 0 rfl) ?_
    refine lv_ifnonnull (tgt := 17) hx hb dX2_missingCourses_10 (by decide) ?_
    refine lv_aload_n hx hb dX2_missingCourses_17 rfl (lv_at hl 0 rfl) ?_
    refine GX2_134 E hM hg5 dX2_missingCourses_18 ?_
    obtain ⟨x6, ex6, hf⟩ := gv_o hf
    rw [← ex6]
    refine lv_istore_n (lv' := [(3, .int x6), (2, .ref (X.1 + z4)), (0, .ref (X.1 + c0)), (1, .ref (X.1 + c1))]) hx hb dX2_missingCourses_21 rfl hl (by decide) rfl (fun ls hl => ?_)
    refine lv_iconst (v := (0 : Int32)) hx hb dX2_missingCourses_22 (by decide) ?_
    refine lv_aload_n hx hb dX2_missingCourses_23 rfl (lv_at hl 3 rfl) ?_
    refine GX2_180 E hM hk1 dX2_missingCourses_24 ?_
    refine lv_iload_n hx hb dX2_missingCourses_27 rfl (lv_at hl 0 rfl) ?_
    refine lv_isub hx hb dX2_missingCourses_28 ?_
    refine gg_max E hml hl.1 wl_RX2_183 wj_max_s wj_math wj_max_c (Nat.le_trans (by decide) hRf) (Nat.le_trans (Nat.le_of_ble_eq_true rfl) hRl) (Nat.le_trans (Nat.le_of_ble_eq_true rfl) hRc) (Nat.le_trans (Nat.le_of_ble_eq_true rfl) hRs) dX2_missingCourses_29 ?_
    exact ge_i E hr hlocks hf hM hS (Nat.le_of_ble_eq_true rfl) (Nat.le_of_ble_eq_true rfl) dX2_missingCourses_32
theorem c_X2_missingCourses (l : Launch) (X : gX) (c0 : Nat) (c1 : Nat) (m0 : gMem) {res : Int32 × gMem} (hk0 : gk c0 = 2) (hk1 : gk c1 = 0) (hf : f_X2_missingCourses c0 c1 m0 = some res) : Met l yX2_missingCourses (gWs yX2_missingCourses cX2_missingCourses 4 (some .int)) { frames := 1, cells := 0, slots := 0, locals := 60 } (va_Pc [.ref (X.1 + c0), .ref (X.1 + c1)] (gB X m0)) (gQi X res) 0 0 (gA X) :=
  gMet (own := RX2) (by decide +kernel) rfl (Nat.le_of_ble_eq_true rfl) (fun p e s m args below meth c ls E hr hlocks hml hM hl => b_X2_missingCourses E hr hlocks hml (Nat.le_refl _) (Nat.le_refl _) (Nat.le_refl _) (Nat.le_refl _) hk0 hk1 hf hM va_S.rf hl)
def L_X2_dropBanquet_11 (c0 : Nat) : Nat → Int32 → gMem → Option (Unit × gMem)
  | 0, _, _ => none
  | n + 1, y2, m0 => if ((m0 c0 10) - (1 : Int32)) ≤ y2 then (gv (ms m0 c0 10 ((m0 c0 10) - (1 : Int32))) (fun m7 => some ((), m7))) else (if (5 : Int32) ≤ y2 then (gv (ms m0 c0 10 ((m0 c0 10) - (1 : Int32))) (fun m9 => some ((), m9))) else (if ¬ (y2 < 0 ∨ gl (c0 + 6) ≤ y2.toNatClampNeg) then if ¬ ((y2 + (1 : Int32)) < 0 ∨ gl (c0 + 6) ≤ (y2 + (1 : Int32)).toNatClampNeg) then g1 (f_X0_copyFrom ((c0 + 6) + (23 + y2.toNatClampNeg)) ((c0 + 6) + (23 + (y2 + (1 : Int32)).toNatClampNeg)) m0) (fun r17 m15 => gv (y2 + (1 : Int32)) (fun x18 => L_X2_dropBanquet_11 c0 n x18 m15)) else none else none))
def f_X2_dropBanquet (c0 : Nat) (u1 : Int32) (m0 : gMem) : Option (Unit × gMem) := g1 (f_X2_banquetAt c0 u1 m0) (fun r3 m1 => gnl r3 (some ((), m1)) (fun z4 => if gk z4 = 0 then L_X2_dropBanquet_11 c0 gF u1 m1 else none))
set_option maxRecDepth 100000 in
set_option maxHeartbeats 4000000 in
theorem l_X2_dropBanquet_11 {p : Program} {l : Launch} {e : Env} {R : Room} {s : State} {m : MethodId} {args : Array Value} {below : List Frame} {meth : Method} {c : Code} {cells slots : Nat} {X : gX} (E : gEn p s m args c cX2_dropBanquet RX2 X) (hr : meth.sig.returnType = none) (hlocks : meth.locks = false) (hml : c.maxLocals = 3) (hRf : 1 ≤ R.frames) (hRl : 21 ≤ R.locals) (hRc : 0 ≤ R.cells) (hRs : 0 ≤ R.slots) (hc : cells ≤ 0) (hs : slots ≤ 0) (c0 : Nat) (hk0 : gk c0 = 2) {res : Unit × gMem} :
    ∀ (n : Nat) (y2 : Int32) (m0 : gMem) (H : Heap) (locs : List Loc) (ls : Array Slot), L_X2_dropBanquet_11 c0 n y2 m0 = some res → gM X m0 H → va_S (gA X) s.heap H locs → lv_has ls 3 [(0, .ref (X.1 + c0)), (2, .int y2)] → W p l e R s m args below meth c H locs cells slots (MQ below (gQv X res) args s 0 0 (gA X)) (F0 m 11 ls []) := by
  obtain ⟨hx, hb⟩ := (⟨E.1, E.2.1⟩ : _ ∧ _)
  intro n
  induction n with
  | zero =>
    intro _ _ _ _ _ hf
    cases hf
  | succ n ih =>
    intro y2 m0 H locs ls hf hM hS hl
    rw [L_X2_dropBanquet_11] at hf
    refine lv_iload_n hx hb dX2_dropBanquet_11 rfl (lv_at hl 1 rfl) ?_
    refine lv_aload_n hx hb dX2_dropBanquet_12 rfl (lv_at hl 0 rfl) ?_
    refine GX2_68 E hM hk0 dX2_dropBanquet_13 ?_
    refine lv_iconst (v := (1 : Int32)) hx hb dX2_dropBanquet_16 (by decide) ?_
    refine lv_isub hx hb dX2_dropBanquet_17 ?_
    refine lv_icmp_ge (tgt := 49) hx hb dX2_dropBanquet_18 (by decide) (fun h6 => ?_) (fun h6 => ?_)
    · have hf := g_t h6 hf
      refine lv_aload_n hx hb dX2_dropBanquet_49 rfl (lv_at hl 0 rfl) ?_
      refine lv_dup hx hb dX2_dropBanquet_50 rfl ?_
      refine GX2_68 E hM hk0 dX2_dropBanquet_51 ?_
      refine lv_iconst (v := (1 : Int32)) hx hb dX2_dropBanquet_54 (by decide) ?_
      refine lv_isub hx hb dX2_dropBanquet_55 ?_
      obtain ⟨m7, em7, hf⟩ := gv_o hf
      refine PX2_68 E hM hS hk0 em7 dX2_dropBanquet_56 (fun H locs hM hS => ?_)
      exact ge_v E hr hlocks hf hM hS hc hs dX2_dropBanquet_59
    · have hf := g_f h6 hf
      refine lv_iload_n hx hb dX2_dropBanquet_21 rfl (lv_at hl 1 rfl) ?_
      refine lv_iconst (v := (5 : Int32)) hx hb dX2_dropBanquet_22 (by decide) ?_
      refine lv_icmp_ge (tgt := 49) hx hb dX2_dropBanquet_23 (by decide) (fun h8 => ?_) (fun h8 => ?_)
      · have hf := g_t h8 hf
        refine lv_aload_n hx hb dX2_dropBanquet_49 rfl (lv_at hl 0 rfl) ?_
        refine lv_dup hx hb dX2_dropBanquet_50 rfl ?_
        refine GX2_68 E hM hk0 dX2_dropBanquet_51 ?_
        refine lv_iconst (v := (1 : Int32)) hx hb dX2_dropBanquet_54 (by decide) ?_
        refine lv_isub hx hb dX2_dropBanquet_55 ?_
        obtain ⟨m9, em9, hf⟩ := gv_o hf
        refine PX2_68 E hM hS hk0 em9 dX2_dropBanquet_56 (fun H locs hM hS => ?_)
        exact ge_v E hr hlocks hf hM hS hc hs dX2_dropBanquet_59
      · have hf := g_f h8 hf
        refine lv_aload_n hx hb dX2_dropBanquet_26 rfl (lv_at hl 0 rfl) ?_
        refine GX2_39 E hM hk0 dX2_dropBanquet_27 ?_
        have hg10 : gk (c0 + 6) = 26 := gkf_2_9 hk0
        refine lv_iload_n hx hb dX2_dropBanquet_30 rfl (lv_at hl 1 rfl) ?_
        obtain ⟨hi11, hf⟩ := g_ck hf
        refine gg_aald (k := 26) E hM (gk_in hg10 (by decide)) hg10 (by decide) rfl hi11 rfl rfl dX2_dropBanquet_31 ?_
        have hg12 : gk ((c0 + 6) + (23 + y2.toNatClampNeg)) = 0 := gka_26 hg10 hi11
        refine lv_aload_n hx hb dX2_dropBanquet_32 rfl (lv_at hl 0 rfl) ?_
        refine GX2_39 E hM hk0 dX2_dropBanquet_33 ?_
        refine lv_iload_n hx hb dX2_dropBanquet_36 rfl (lv_at hl 1 rfl) ?_
        refine lv_iconst (v := (1 : Int32)) hx hb dX2_dropBanquet_37 (by decide) ?_
        refine lv_iadd hx hb dX2_dropBanquet_38 ?_
        obtain ⟨hi13, hf⟩ := g_ck hf
        refine gg_aald (k := 26) E hM (gk_in hg10 (by decide)) hg10 (by decide) rfl hi13 rfl rfl dX2_dropBanquet_39 ?_
        have hg14 : gk ((c0 + 6) + (23 + (y2 + (1 : Int32)).toNatClampNeg)) = 0 := gka_26 hg10 hi13
        obtain ⟨r17, m15, hqq16, hf⟩ := g1_o hf
        refine ga_v (gr_V (As := [.ref (X.1 + ((c0 + 6) + (23 + (y2 + (1 : Int32)).toNatClampNeg)))]) (ci := 0) (rm := { frames := 0, cells := 0, slots := 0, locals := 0 }) E hml hl.1 (c_X0_copyFrom l X ((c0 + 6) + (23 + y2.toNatClampNeg)) ((c0 + 6) + (23 + (y2 + (1 : Int32)).toNatClampNeg)) m0 hg12 hg14 hqq16) wt_X0_copyFrom wl_RX2_71 rfl hg12 (by decide) rfl rfl hM hS rfl rfl (Nat.le_trans (by decide) hRf) (Nat.le_trans (by decide) hRl) (Nat.le_trans hc hRc) (Nat.le_trans hs hRs) (Nat.le_of_ble_eq_true rfl) dX2_dropBanquet_40 rfl) hS (fun H locs hM hS => ?_)
        obtain ⟨x18, ex18, hf⟩ := gv_o hf
        refine lv_iinc (v := x18) (lv' := [(2, .int x18), (0, .ref (X.1 + c0))]) hx hb dX2_dropBanquet_43 hl (k := 1) rfl (by rw [ex18]; rfl) (by decide) rfl (fun ls hl => ?_)
        refine lv_goto (tgt := 11) hx hb dX2_dropBanquet_46 (by decide) ?_
        exact ih x18 m15 _ _ _ hf hM hS (lv_sub hl [1, 0] rfl)
set_option maxRecDepth 100000 in
set_option maxHeartbeats 4000000 in
theorem b_X2_dropBanquet {p : Program} {l : Launch} {e : Env} {R : Room} {s : State} {m : MethodId} {args : Array Value} {below : List Frame} {meth : Method} {c : Code} {H : Heap} {locs : List Loc} {ls : Array Slot} {X : gX} (E : gEn p s m args c cX2_dropBanquet RX2 X) (hr : meth.sig.returnType = none) (hlocks : meth.locks = false) (hml : c.maxLocals = 3) (hRf : 1 ≤ R.frames) (hRl : 21 ≤ R.locals) (hRc : 0 ≤ R.cells) (hRs : 0 ≤ R.slots) {c0 : Nat} {u1 : Int32} {m0 : gMem} {res : Unit × gMem} (hk0 : gk c0 = 2) (hf : f_X2_dropBanquet c0 u1 m0 = some res) (hM : gM X m0 H) (hS : va_S (gA X) s.heap H locs) (hl : lv_has ls 3 [(0, .ref (X.1 + c0)), (1, .int u1)]) : W p l e R s m args below meth c H locs 0 0 (MQ below (gQv X res) args s 0 0 (gA X)) (F0 m 0 ls []) := by
  obtain ⟨hx, hb⟩ := (⟨E.1, E.2.1⟩ : _ ∧ _)
  unfold f_X2_dropBanquet at hf
  refine lv_aload_n hx hb dX2_dropBanquet_0 rfl (lv_at hl 0 rfl) ?_
  refine lv_iload_n hx hb dX2_dropBanquet_1 rfl (lv_at hl 1 rfl) ?_
  obtain ⟨r3, m1, hqq2, hf⟩ := g1_o hf
  refine ga_o (gr_V (As := [.int u1]) (ci := 2) (rm := { frames := 0, cells := 0, slots := 0, locals := 0 }) E hml hl.1 (c_X2_banquetAt l X c0 u1 m0 hk0 hqq2) wt_X2_banquetAt wl_RX2_173 rfl hk0 (by decide) rfl rfl hM hS rfl rfl (Nat.le_trans (by decide) hRf) (Nat.le_trans (by decide) hRl) (Nat.le_trans (Nat.le_of_ble_eq_true rfl) hRc) (Nat.le_trans (Nat.le_of_ble_eq_true rfl) hRs) (Nat.le_of_ble_eq_true rfl) dX2_dropBanquet_2 rfl) hS (fun H locs hM hS => ?_)
  cases r3 with
  | none =>
    have hf := gnl_n hf
    refine gW_null ?_
    refine lv_ifnonnullN hx hb dX2_dropBanquet_5 ?_
    exact ge_v E hr hlocks hf hM hS (Nat.le_of_ble_eq_true rfl) (Nat.le_of_ble_eq_true rfl) dX2_dropBanquet_8
  | some z4 =>
    have hf := gnl_s hf
    obtain ⟨hg5, hf⟩ := g_ck hf
    refine gW_some ?_
    refine lv_ifnonnull (tgt := 9) hx hb dX2_dropBanquet_5 (by decide) ?_
    refine lv_iload_n hx hb dX2_dropBanquet_9 rfl (lv_at hl 1 rfl) ?_
    refine lv_istore_n (lv' := [(2, .int u1), (0, .ref (X.1 + c0)), (1, .int u1)]) hx hb dX2_dropBanquet_10 rfl hl (by decide) rfl (fun ls hl => ?_)
    refine l_X2_dropBanquet_11 E hr hlocks hml hRf hRl hRc hRs (Nat.le_of_ble_eq_true rfl) (Nat.le_of_ble_eq_true rfl) c0 hk0 gF u1 m1 _ _ _ hf hM hS (lv_sub hl [1, 0] rfl)
theorem c_X2_dropBanquet (l : Launch) (X : gX) (c0 : Nat) (u1 : Int32) (m0 : gMem) {res : Unit × gMem} (hk0 : gk c0 = 2) (hf : f_X2_dropBanquet c0 u1 m0 = some res) : Met l yX2_dropBanquet (gWs yX2_dropBanquet cX2_dropBanquet 3 none) { frames := 1, cells := 0, slots := 0, locals := 21 } (va_Pc [.ref (X.1 + c0), .int u1] (gB X m0)) (gQv X res) 0 0 (gA X) :=
  gMet (own := RX2) (by decide +kernel) rfl (Nat.le_of_ble_eq_true rfl) (fun p e s m args below meth c ls E hr hlocks hml hM hl => b_X2_dropBanquet E hr hlocks hml (Nat.le_refl _) (Nat.le_refl _) (Nat.le_refl _) (Nat.le_refl _) hk0 hf hM va_S.rf hl)
def f_X2_humidityAfter (c0 : Nat) (u1 : Int32) (m0 : gMem) : Option (Int32 × gMem) := g1 (f_J9_floorMod_7cf53 ((m0 c0 0) + u1) (24 : Int32) m0) (fun r4 m2 => if ¬ (r4 < 0 ∨ gl (c0 + 1) ≤ r4.toNatClampNeg) then some ((m2 (c0 + 1) r4.toNatClampNeg), m2) else none)
set_option maxRecDepth 100000 in
set_option maxHeartbeats 4000000 in
theorem b_X2_humidityAfter {p : Program} {l : Launch} {e : Env} {R : Room} {s : State} {m : MethodId} {args : Array Value} {below : List Frame} {meth : Method} {c : Code} {H : Heap} {locs : List Loc} {ls : Array Slot} {X : gX} (E : gEn p s m args c cX2_humidityAfter RX2 X) (hr : meth.sig.returnType = (some .int)) (hlocks : meth.locks = false) (hml : c.maxLocals = 2) (hRf : 1 ≤ R.frames) (hRl : 22 ≤ R.locals) (hRc : 0 ≤ R.cells) (hRs : 0 ≤ R.slots) {c0 : Nat} {u1 : Int32} {m0 : gMem} {res : Int32 × gMem} (hk0 : gk c0 = 2) (hf : f_X2_humidityAfter c0 u1 m0 = some res) (hM : gM X m0 H) (hS : va_S (gA X) s.heap H locs) (hl : lv_has ls 2 [(0, .ref (X.1 + c0)), (1, .int u1)]) : W p l e R s m args below meth c H locs 0 0 (MQ below (gQi X res) args s 0 0 (gA X)) (F0 m 0 ls []) := by
  obtain ⟨hx, hb⟩ := (⟨E.1, E.2.1⟩ : _ ∧ _)
  unfold f_X2_humidityAfter at hf
  refine lv_aload_n hx hb dX2_humidityAfter_0 rfl (lv_at hl 0 rfl) ?_
  refine GX2_15 E hM hk0 dX2_humidityAfter_1 ?_
  have hg1 : gk (c0 + 1) = 20 := gkf_2_2 hk0
  refine lv_aload_n hx hb dX2_humidityAfter_4 rfl (lv_at hl 0 rfl) ?_
  refine GX2_46 E hM hk0 dX2_humidityAfter_5 ?_
  refine lv_iload_n hx hb dX2_humidityAfter_8 rfl (lv_at hl 1 rfl) ?_
  refine lv_iadd hx hb dX2_humidityAfter_9 ?_
  refine lv_bipush (v := (24 : Int32)) hx hb dX2_humidityAfter_10 (by decide) ?_
  obtain ⟨r4, m2, hqq3, hf⟩ := g1_o hf
  refine ga_i (gr_S (As := [.int ((m0 c0 0) + u1), .int (24 : Int32)]) (rm := { frames := 0, cells := 0, slots := 0, locals := 0 }) E hml hl.1 (c_J9_floorMod_7cf53 l X ((m0 c0 0) + u1) (24 : Int32) m0 hqq3) wt_J9_floorMod_7cf53 wl_RX2_92 rfl hM hS rfl rfl (Nat.le_trans (by decide) hRf) (Nat.le_trans (by decide) hRl) (Nat.le_trans (Nat.le_of_ble_eq_true rfl) hRc) (Nat.le_trans (Nat.le_of_ble_eq_true rfl) hRs) (Nat.le_of_ble_eq_true rfl) dX2_humidityAfter_12 rfl) hS (fun H locs hM hS => ?_)
  obtain ⟨hi5, hf⟩ := g_ck hf
  refine gg_iald E hM (gk_in hg1 (by decide)) hg1 hi5 dX2_humidityAfter_15 ?_
  exact ge_i E hr hlocks hf hM hS (Nat.le_of_ble_eq_true rfl) (Nat.le_of_ble_eq_true rfl) dX2_humidityAfter_16
theorem c_X2_humidityAfter (l : Launch) (X : gX) (c0 : Nat) (u1 : Int32) (m0 : gMem) {res : Int32 × gMem} (hk0 : gk c0 = 2) (hf : f_X2_humidityAfter c0 u1 m0 = some res) : Met l yX2_humidityAfter (gWs yX2_humidityAfter cX2_humidityAfter 2 (some .int)) { frames := 1, cells := 0, slots := 0, locals := 22 } (va_Pc [.ref (X.1 + c0), .int u1] (gB X m0)) (gQi X res) 0 0 (gA X) :=
  gMet (own := RX2) (by decide +kernel) rfl (Nat.le_of_ble_eq_true rfl) (fun p e s m args below meth c ls E hr hlocks hml hM hl => b_X2_humidityAfter E hr hlocks hml (Nat.le_refl _) (Nat.le_refl _) (Nat.le_refl _) (Nat.le_refl _) hk0 hf hM va_S.rf hl)
def f_X8_dampnessAfterHour (u0 : Int32) (u1 : Int32) (m0 : gMem) : Option (Int32 × gMem) := if u1 ≤ (50 : Int32) then (if (40 : Int32) ≤ u1 then (some (u0, m0)) else (some ((if (0 : Int32) < (u0 - (1 : Int32)) then (u0 - (1 : Int32)) else (0 : Int32)), m0))) else (some ((if (u0 + ((u1 - (50 : Int32)) / (10 : Int32))) < (99 : Int32) then (u0 + ((u1 - (50 : Int32)) / (10 : Int32))) else (99 : Int32)), m0))
set_option maxRecDepth 100000 in
set_option maxHeartbeats 4000000 in
theorem b_X8_dampnessAfterHour {p : Program} {l : Launch} {e : Env} {R : Room} {s : State} {m : MethodId} {args : Array Value} {below : List Frame} {meth : Method} {c : Code} {H : Heap} {locs : List Loc} {ls : Array Slot} {X : gX} (E : gEn p s m args c cX8_dampnessAfterHour RX8 X) (hr : meth.sig.returnType = (some .int)) (hlocks : meth.locks = false) (hml : c.maxLocals = 2) (hRf : 1 ≤ R.frames) (hRl : 60 ≤ R.locals) (hRc : 0 ≤ R.cells) (hRs : 0 ≤ R.slots) {u0 : Int32} {u1 : Int32} {m0 : gMem} {res : Int32 × gMem}  (hf : f_X8_dampnessAfterHour u0 u1 m0 = some res) (hM : gM X m0 H) (hS : va_S (gA X) s.heap H locs) (hl : lv_has ls 2 [(0, .int u0), (1, .int u1)]) : W p l e R s m args below meth c H locs 0 0 (MQ below (gQi X res) args s 0 0 (gA X)) (F0 m 0 ls []) := by
  obtain ⟨hx, hb⟩ := (⟨E.1, E.2.1⟩ : _ ∧ _)
  unfold f_X8_dampnessAfterHour at hf
  refine lv_iload_n hx hb dX8_dampnessAfterHour_0 rfl (lv_at hl 1 rfl) ?_
  refine lv_bipush (v := (50 : Int32)) hx hb dX8_dampnessAfterHour_1 (by decide) ?_
  refine lv_icmp_le (tgt := 21) hx hb dX8_dampnessAfterHour_3 (by decide) (fun h1 => ?_) (fun h1 => ?_)
  · have hf := g_t h1 hf
    refine lv_iload_n hx hb dX8_dampnessAfterHour_21 rfl (lv_at hl 1 rfl) ?_
    refine lv_bipush (v := (40 : Int32)) hx hb dX8_dampnessAfterHour_22 (by decide) ?_
    refine lv_icmp_ge (tgt := 37) hx hb dX8_dampnessAfterHour_24 (by decide) (fun h2 => ?_) (fun h2 => ?_)
    · have hf := g_t h2 hf
      refine lv_iload_n hx hb dX8_dampnessAfterHour_37 rfl (lv_at hl 0 rfl) ?_
      exact ge_i E hr hlocks hf hM hS (Nat.le_of_ble_eq_true rfl) (Nat.le_of_ble_eq_true rfl) dX8_dampnessAfterHour_38
    · have hf := g_f h2 hf
      refine lv_iconst (v := (0 : Int32)) hx hb dX8_dampnessAfterHour_27 (by decide) ?_
      refine lv_iload_n hx hb dX8_dampnessAfterHour_28 rfl (lv_at hl 0 rfl) ?_
      refine lv_iconst (v := (1 : Int32)) hx hb dX8_dampnessAfterHour_29 (by decide) ?_
      refine lv_isub hx hb dX8_dampnessAfterHour_30 ?_
      refine gg_max E hml hl.1 wl_RX8_446 wj_max_s wj_math wj_max_c (Nat.le_trans (by decide) hRf) (Nat.le_trans (Nat.le_of_ble_eq_true rfl) hRl) (Nat.le_trans (Nat.le_of_ble_eq_true rfl) hRc) (Nat.le_trans (Nat.le_of_ble_eq_true rfl) hRs) dX8_dampnessAfterHour_31 ?_
      refine lv_goto (tgt := 38) hx hb dX8_dampnessAfterHour_34 (by decide) ?_
      exact ge_i E hr hlocks hf hM hS (Nat.le_of_ble_eq_true rfl) (Nat.le_of_ble_eq_true rfl) dX8_dampnessAfterHour_38
  · have hf := g_f h1 hf
    refine lv_bipush (v := (99 : Int32)) hx hb dX8_dampnessAfterHour_6 (by decide) ?_
    refine lv_iload_n hx hb dX8_dampnessAfterHour_8 rfl (lv_at hl 0 rfl) ?_
    refine lv_iload_n hx hb dX8_dampnessAfterHour_9 rfl (lv_at hl 1 rfl) ?_
    refine lv_bipush (v := (50 : Int32)) hx hb dX8_dampnessAfterHour_10 (by decide) ?_
    refine lv_isub hx hb dX8_dampnessAfterHour_12 ?_
    refine lv_bipush (v := (10 : Int32)) hx hb dX8_dampnessAfterHour_13 (by decide) ?_
    refine lv_idiv hx hb dX8_dampnessAfterHour_15 (by decide) ?_
    refine lv_iadd hx hb dX8_dampnessAfterHour_16 ?_
    refine gg_min E hml hl.1 wl_RX8_451 wj_min_s wj_math wj_min_c (Nat.le_trans (by decide) hRf) (Nat.le_trans (Nat.le_of_ble_eq_true rfl) hRl) (Nat.le_trans (Nat.le_of_ble_eq_true rfl) hRc) (Nat.le_trans (Nat.le_of_ble_eq_true rfl) hRs) dX8_dampnessAfterHour_17 ?_
    exact ge_i E hr hlocks hf hM hS (Nat.le_of_ble_eq_true rfl) (Nat.le_of_ble_eq_true rfl) dX8_dampnessAfterHour_20
theorem c_X8_dampnessAfterHour (l : Launch) (X : gX) (u0 : Int32) (u1 : Int32) (m0 : gMem) {res : Int32 × gMem}  (hf : f_X8_dampnessAfterHour u0 u1 m0 = some res) : Met l yX8_dampnessAfterHour (gWs yX8_dampnessAfterHour cX8_dampnessAfterHour 2 (some .int)) { frames := 1, cells := 0, slots := 0, locals := 60 } (va_Pc [.int u0, .int u1] (gB X m0)) (gQi X res) 0 0 (gA X) :=
  gMet (own := RX8) (by decide +kernel) rfl (Nat.le_of_ble_eq_true rfl) (fun p e s m args below meth c ls E hr hlocks hml hM hl => b_X8_dampnessAfterHour E hr hlocks hml (Nat.le_refl _) (Nat.le_refl _) (Nat.le_refl _) (Nat.le_refl _)  hf hM va_S.rf hl)
def L_X2_makeTowersDamp_8 (c0 : Nat) (u1 : Int32) : Nat → Int32 → gMem → Option (Unit × gMem)
  | 0, _, _ => none
  | n + 1, y2, m0 => if (m0 c0 8) ≤ y2 then (some ((), m0)) else (if (6 : Int32) ≤ y2 then (some ((), m0)) else (if ¬ (y2 < 0 ∨ gl (c0 + 5) ≤ y2.toNatClampNeg) then g1 (f_X8_dampnessAfterHour (m0 ((c0 + 5) + (6 + 3 * y2.toNatClampNeg)) 3) u1 m0) (fun r11 m9 => gv (ms m9 ((c0 + 5) + (6 + 3 * y2.toNatClampNeg)) 3 r11) (fun m12 => gv (y2 + (1 : Int32)) (fun x13 => L_X2_makeTowersDamp_8 c0 u1 n x13 m12))) else none))
def f_X2_makeTowersDamp (c0 : Nat) (m0 : gMem) : Option (Unit × gMem) := g1 (f_X2_humidityAfter c0 (0 : Int32) m0) (fun r3 m1 => L_X2_makeTowersDamp_8 c0 r3 gF (0 : Int32) m1)
set_option maxRecDepth 100000 in
set_option maxHeartbeats 4000000 in
theorem l_X2_makeTowersDamp_8 {p : Program} {l : Launch} {e : Env} {R : Room} {s : State} {m : MethodId} {args : Array Value} {below : List Frame} {meth : Method} {c : Code} {cells slots : Nat} {X : gX} (E : gEn p s m args c cX2_makeTowersDamp RX2 X) (hr : meth.sig.returnType = none) (hlocks : meth.locks = false) (hml : c.maxLocals = 3) (hRf : 2 ≤ R.frames) (hRl : 81 ≤ R.locals) (hRc : 0 ≤ R.cells) (hRs : 0 ≤ R.slots) (hc : cells ≤ 0) (hs : slots ≤ 0) (c0 : Nat) (u1 : Int32) (hk0 : gk c0 = 2) {res : Unit × gMem} :
    ∀ (n : Nat) (y2 : Int32) (m0 : gMem) (H : Heap) (locs : List Loc) (ls : Array Slot), L_X2_makeTowersDamp_8 c0 u1 n y2 m0 = some res → gM X m0 H → va_S (gA X) s.heap H locs → lv_has ls 3 [(0, .ref (X.1 + c0)), (1, .int u1), (2, .int y2)] → W p l e R s m args below meth c H locs cells slots (MQ below (gQv X res) args s 0 0 (gA X)) (F0 m 8 ls []) := by
  obtain ⟨hx, hb⟩ := (⟨E.1, E.2.1⟩ : _ ∧ _)
  intro n
  induction n with
  | zero =>
    intro _ _ _ _ _ hf
    cases hf
  | succ n ih =>
    intro y2 m0 H locs ls hf hM hS hl
    rw [L_X2_makeTowersDamp_8] at hf
    refine lv_iload_n hx hb dX2_makeTowersDamp_8 rfl (lv_at hl 2 rfl) ?_
    refine lv_aload_n hx hb dX2_makeTowersDamp_9 rfl (lv_at hl 0 rfl) ?_
    refine GX2_62 E hM hk0 dX2_makeTowersDamp_10 ?_
    refine lv_icmp_ge (tgt := 50) hx hb dX2_makeTowersDamp_13 (by decide) (fun h4 => ?_) (fun h4 => ?_)
    · have hf := g_t h4 hf
      exact ge_v E hr hlocks hf hM hS hc hs dX2_makeTowersDamp_50
    · have hf := g_f h4 hf
      refine lv_iload_n hx hb dX2_makeTowersDamp_16 rfl (lv_at hl 2 rfl) ?_
      refine lv_bipush (v := (6 : Int32)) hx hb dX2_makeTowersDamp_17 (by decide) ?_
      refine lv_icmp_ge (tgt := 50) hx hb dX2_makeTowersDamp_19 (by decide) (fun h5 => ?_) (fun h5 => ?_)
      · have hf := g_t h5 hf
        exact ge_v E hr hlocks hf hM hS hc hs dX2_makeTowersDamp_50
      · have hf := g_f h5 hf
        refine lv_aload_n hx hb dX2_makeTowersDamp_22 rfl (lv_at hl 0 rfl) ?_
        refine GX2_33 E hM hk0 dX2_makeTowersDamp_23 ?_
        have hg6 : gk (c0 + 5) = 25 := gkf_2_7 hk0
        refine lv_iload_n hx hb dX2_makeTowersDamp_26 rfl (lv_at hl 2 rfl) ?_
        obtain ⟨hi7, hf⟩ := g_ck hf
        refine gg_aald (k := 25) E hM (gk_in hg6 (by decide)) hg6 (by decide) rfl hi7 rfl rfl dX2_makeTowersDamp_27 ?_
        have hg8 : gk ((c0 + 5) + (6 + 3 * y2.toNatClampNeg)) = 7 := gka_25 hg6 hi7
        refine lv_aload_n hx hb dX2_makeTowersDamp_28 rfl (lv_at hl 0 rfl) ?_
        refine GX2_33 E hM hk0 dX2_makeTowersDamp_29 ?_
        refine lv_iload_n hx hb dX2_makeTowersDamp_32 rfl (lv_at hl 2 rfl) ?_
        refine gg_aald (k := 25) E hM (gk_in hg6 (by decide)) hg6 (by decide) rfl hi7 rfl rfl dX2_makeTowersDamp_33 ?_
        refine GX2_140 E hM hg8 dX2_makeTowersDamp_34 ?_
        refine lv_iload_n hx hb dX2_makeTowersDamp_37 rfl (lv_at hl 1 rfl) ?_
        obtain ⟨r11, m9, hqq10, hf⟩ := g1_o hf
        refine ga_i (gr_SN (As := [.int (m0 ((c0 + 5) + (6 + 3 * y2.toNatClampNeg)) 3), .int u1]) (rm := { frames := 1, cells := 0, slots := 0, locals := 60 }) E hml hl.1 (c_X8_dampnessAfterHour l X (m0 ((c0 + 5) + (6 + 3 * y2.toNatClampNeg)) 3) u1 m0 hqq10) wt_X8_dampnessAfterHour wl_RX2_164 rfl hM hS rfl rfl (Nat.le_trans (by decide) hRf) (Nat.le_trans (by decide) hRl) (Nat.le_trans hc hRc) (Nat.le_trans hs hRs) (Nat.le_of_ble_eq_true rfl) dX2_makeTowersDamp_38 rfl) hS (fun H locs hM hS => ?_)
        obtain ⟨m12, em12, hf⟩ := gv_o hf
        refine PX2_140 E hM hS hg8 em12 dX2_makeTowersDamp_41 (fun H locs hM hS => ?_)
        obtain ⟨x13, ex13, hf⟩ := gv_o hf
        refine lv_iinc (v := x13) (lv' := [(2, .int x13), (0, .ref (X.1 + c0)), (1, .int u1)]) hx hb dX2_makeTowersDamp_44 hl (k := 2) rfl (by rw [ex13]; rfl) (by decide) rfl (fun ls hl => ?_)
        refine lv_goto (tgt := 8) hx hb dX2_makeTowersDamp_47 (by decide) ?_
        exact ih x13 m12 _ _ _ hf hM hS (lv_sub hl [1, 2, 0] rfl)
set_option maxRecDepth 100000 in
set_option maxHeartbeats 4000000 in
theorem b_X2_makeTowersDamp {p : Program} {l : Launch} {e : Env} {R : Room} {s : State} {m : MethodId} {args : Array Value} {below : List Frame} {meth : Method} {c : Code} {H : Heap} {locs : List Loc} {ls : Array Slot} {X : gX} (E : gEn p s m args c cX2_makeTowersDamp RX2 X) (hr : meth.sig.returnType = none) (hlocks : meth.locks = false) (hml : c.maxLocals = 3) (hRf : 2 ≤ R.frames) (hRl : 81 ≤ R.locals) (hRc : 0 ≤ R.cells) (hRs : 0 ≤ R.slots) {c0 : Nat} {m0 : gMem} {res : Unit × gMem} (hk0 : gk c0 = 2) (hf : f_X2_makeTowersDamp c0 m0 = some res) (hM : gM X m0 H) (hS : va_S (gA X) s.heap H locs) (hl : lv_has ls 3 [(0, .ref (X.1 + c0))]) : W p l e R s m args below meth c H locs 0 0 (MQ below (gQv X res) args s 0 0 (gA X)) (F0 m 0 ls []) := by
  obtain ⟨hx, hb⟩ := (⟨E.1, E.2.1⟩ : _ ∧ _)
  unfold f_X2_makeTowersDamp at hf
  refine lv_aload_n hx hb dX2_makeTowersDamp_0 rfl (lv_at hl 0 rfl) ?_
  refine lv_iconst (v := (0 : Int32)) hx hb dX2_makeTowersDamp_1 (by decide) ?_
  obtain ⟨r3, m1, hqq2, hf⟩ := g1_o hf
  refine ga_i (gr_V (As := [.int (0 : Int32)]) (ci := 2) (rm := { frames := 1, cells := 0, slots := 0, locals := 22 }) E hml hl.1 (c_X2_humidityAfter l X c0 (0 : Int32) m0 hk0 hqq2) wt_X2_humidityAfter wl_RX2_161 rfl hk0 (by decide) rfl rfl hM hS rfl rfl (Nat.le_trans (by decide) hRf) (Nat.le_trans (by decide) hRl) (Nat.le_trans (Nat.le_of_ble_eq_true rfl) hRc) (Nat.le_trans (Nat.le_of_ble_eq_true rfl) hRs) (Nat.le_of_ble_eq_true rfl) dX2_makeTowersDamp_2 rfl) hS (fun H locs hM hS => ?_)
  refine lv_istore_n (lv' := [(1, .int r3), (0, .ref (X.1 + c0))]) hx hb dX2_makeTowersDamp_5 rfl hl (by decide) rfl (fun ls hl => ?_)
  refine lv_iconst (v := (0 : Int32)) hx hb dX2_makeTowersDamp_6 (by decide) ?_
  refine lv_istore_n (lv' := [(2, .int (0 : Int32)), (1, .int r3), (0, .ref (X.1 + c0))]) hx hb dX2_makeTowersDamp_7 rfl hl (by decide) rfl (fun ls hl => ?_)
  refine l_X2_makeTowersDamp_8 E hr hlocks hml hRf hRl hRc hRs (Nat.le_of_ble_eq_true rfl) (Nat.le_of_ble_eq_true rfl) c0 r3 hk0 gF (0 : Int32) m1 _ _ _ hf hM hS (lv_sub hl [2, 1, 0] rfl)
theorem c_X2_makeTowersDamp (l : Launch) (X : gX) (c0 : Nat) (m0 : gMem) {res : Unit × gMem} (hk0 : gk c0 = 2) (hf : f_X2_makeTowersDamp c0 m0 = some res) : Met l yX2_makeTowersDamp (gWs yX2_makeTowersDamp cX2_makeTowersDamp 3 none) { frames := 2, cells := 0, slots := 0, locals := 81 } (va_Pc [.ref (X.1 + c0)] (gB X m0)) (gQv X res) 0 0 (gA X) :=
  gMet (own := RX2) (by decide +kernel) rfl (Nat.le_of_ble_eq_true rfl) (fun p e s m args below meth c ls E hr hlocks hml hM hl => b_X2_makeTowersDamp E hr hlocks hml (Nat.le_refl _) (Nat.le_refl _) (Nat.le_refl _) (Nat.le_refl _) hk0 hf hM va_S.rf hl)
def L_X2_breakWeakTowers_4 (c0 : Nat) : Nat → Int32 → Int32 → gMem → Option (Int32 × gMem)
  | 0, _, _, _ => none
  | n + 1, y1, y2, m0 => if (m0 c0 8) ≤ y2 then (some (y1, m0)) else (if (6 : Int32) ≤ y2 then (some (y1, m0)) else (if ¬ (y2 < 0 ∨ gl (c0 + 5) ≤ y2.toNatClampNeg) then g1 (f_X7_lowestWeakCourse ((c0 + 5) + (6 + 3 * y2.toNatClampNeg)) (m0 ((c0 + 5) + (6 + 3 * y2.toNatClampNeg)) 3) (0 : Int32) m0) (fun r8 m6 => if r8 = (-1 : Int32) then (gv (y2 + (1 : Int32)) (fun x10 => L_X2_breakWeakTowers_4 c0 n y1 x10 m6)) else (gv (((m6 ((c0 + 5) + (6 + 3 * y2.toNatClampNeg)) 2) - r8)) (fun x11 => gv (ms m6 ((c0 + 5) + (6 + 3 * y2.toNatClampNeg)) 4 ((m6 ((c0 + 5) + (6 + 3 * y2.toNatClampNeg)) 4) + x11)) (fun m12 => gv ((y1 + x11)) (fun x13 => g1 (f_X7_removeFrom ((c0 + 5) + (6 + 3 * y2.toNatClampNeg)) r8 m12) (fun r16 m14 => gv (ms m14 c0 15 ((m12 c0 15) + r16)) (fun m17 => gv (y2 + (1 : Int32)) (fun x18 => L_X2_breakWeakTowers_4 c0 n x13 x18 m17)))))))) else none))
def f_X2_breakWeakTowers (c0 : Nat) (m0 : gMem) : Option (Int32 × gMem) := L_X2_breakWeakTowers_4 c0 gF (0 : Int32) (0 : Int32) m0
set_option maxRecDepth 100000 in
set_option maxHeartbeats 4000000 in
theorem l_X2_breakWeakTowers_4 {p : Program} {l : Launch} {e : Env} {R : Room} {s : State} {m : MethodId} {args : Array Value} {below : List Frame} {meth : Method} {c : Code} {cells slots : Nat} {X : gX} (E : gEn p s m args c cX2_breakWeakTowers RX2 X) (hr : meth.sig.returnType = (some .int)) (hlocks : meth.locks = false) (hml : c.maxLocals = 6) (hRf : 3 ≤ R.frames) (hRl : 107 ≤ R.locals) (hRc : 0 ≤ R.cells) (hRs : 0 ≤ R.slots) (hc : cells ≤ 0) (hs : slots ≤ 0) (c0 : Nat) (hk0 : gk c0 = 2) {res : Int32 × gMem} :
    ∀ (n : Nat) (y1 : Int32) (y2 : Int32) (m0 : gMem) (H : Heap) (locs : List Loc) (ls : Array Slot), L_X2_breakWeakTowers_4 c0 n y1 y2 m0 = some res → gM X m0 H → va_S (gA X) s.heap H locs → lv_has ls 6 [(0, .ref (X.1 + c0)), (1, .int y1), (2, .int y2)] → W p l e R s m args below meth c H locs cells slots (MQ below (gQi X res) args s 0 0 (gA X)) (F0 m 4 ls []) := by
  obtain ⟨hx, hb⟩ := (⟨E.1, E.2.1⟩ : _ ∧ _)
  intro n
  induction n with
  | zero =>
    intro _ _ _ _ _ _ hf
    cases hf
  | succ n ih =>
    intro y1 y2 m0 H locs ls hf hM hS hl
    rw [L_X2_breakWeakTowers_4] at hf
    refine lv_iload_n hx hb dX2_breakWeakTowers_4 rfl (lv_at hl 2 rfl) ?_
    refine lv_aload_n hx hb dX2_breakWeakTowers_5 rfl (lv_at hl 0 rfl) ?_
    refine GX2_62 E hM hk0 dX2_breakWeakTowers_6 ?_
    refine lv_icmp_ge (tgt := 88) hx hb dX2_breakWeakTowers_9 (by decide) (fun h1 => ?_) (fun h1 => ?_)
    · have hf := g_t h1 hf
      refine lv_iload_n hx hb dX2_breakWeakTowers_88 rfl (lv_at hl 1 rfl) ?_
      exact ge_i E hr hlocks hf hM hS hc hs dX2_breakWeakTowers_89
    · have hf := g_f h1 hf
      refine lv_iload_n hx hb dX2_breakWeakTowers_12 rfl (lv_at hl 2 rfl) ?_
      refine lv_bipush (v := (6 : Int32)) hx hb dX2_breakWeakTowers_13 (by decide) ?_
      refine lv_icmp_ge (tgt := 88) hx hb dX2_breakWeakTowers_15 (by decide) (fun h2 => ?_) (fun h2 => ?_)
      · have hf := g_t h2 hf
        refine lv_iload_n hx hb dX2_breakWeakTowers_88 rfl (lv_at hl 1 rfl) ?_
        exact ge_i E hr hlocks hf hM hS hc hs dX2_breakWeakTowers_89
      · have hf := g_f h2 hf
        refine lv_aload_n hx hb dX2_breakWeakTowers_18 rfl (lv_at hl 0 rfl) ?_
        refine GX2_33 E hM hk0 dX2_breakWeakTowers_19 ?_
        have hg3 : gk (c0 + 5) = 25 := gkf_2_7 hk0
        refine lv_iload_n hx hb dX2_breakWeakTowers_22 rfl (lv_at hl 2 rfl) ?_
        obtain ⟨hi4, hf⟩ := g_ck hf
        refine gg_aald (k := 25) E hM (gk_in hg3 (by decide)) hg3 (by decide) rfl hi4 rfl rfl dX2_breakWeakTowers_23 ?_
        have hg5 : gk ((c0 + 5) + (6 + 3 * y2.toNatClampNeg)) = 7 := gka_25 hg3 hi4
        refine lv_astore_n (lv' := [(3, .ref (X.1 + ((c0 + 5) + (6 + 3 * y2.toNatClampNeg)))), (0, .ref (X.1 + c0)), (1, .int y1), (2, .int y2)]) hx hb dX2_breakWeakTowers_24 rfl hl (by decide) rfl (fun ls hl => ?_)
        refine lv_aload_n hx hb dX2_breakWeakTowers_25 rfl (lv_at hl 0 rfl) ?_
        refine lv_aload_n hx hb dX2_breakWeakTowers_26 rfl (lv_at hl 0 rfl) ?_
        refine GX2_140 E hM hg5 dX2_breakWeakTowers_27 ?_
        refine lv_iconst (v := (0 : Int32)) hx hb dX2_breakWeakTowers_30 (by decide) ?_
        obtain ⟨r8, m6, hqq7, hf⟩ := g1_o hf
        refine ga_i (gr_V (As := [.int (m0 ((c0 + 5) + (6 + 3 * y2.toNatClampNeg)) 3), .int (0 : Int32)]) (ci := 7) (rm := { frames := 2, cells := 0, slots := 0, locals := 82 }) E hml hl.1 (c_X7_lowestWeakCourse l X ((c0 + 5) + (6 + 3 * y2.toNatClampNeg)) (m0 ((c0 + 5) + (6 + 3 * y2.toNatClampNeg)) 3) (0 : Int32) m0 hg5 hqq7) wt_X7_lowestWeakCourse wl_RX2_143 rfl hg5 (by decide) rfl rfl hM hS rfl rfl (Nat.le_trans (by decide) hRf) (Nat.le_trans (by decide) hRl) (Nat.le_trans hc hRc) (Nat.le_trans hs hRs) (Nat.le_of_ble_eq_true rfl) dX2_breakWeakTowers_31 rfl) hS (fun H locs hM hS => ?_)
        refine lv_istore (lv' := [(4, .int r8), (3, .ref (X.1 + ((c0 + 5) + (6 + 3 * y2.toNatClampNeg)))), (0, .ref (X.1 + c0)), (1, .int y1), (2, .int y2)]) hx hb dX2_breakWeakTowers_34 hl (by decide) rfl (fun ls hl => ?_)
        refine lv_iload hx hb dX2_breakWeakTowers_36 (lv_at hl 0 rfl) ?_
        refine lv_iconst (v := (-1 : Int32)) hx hb dX2_breakWeakTowers_38 (by decide) ?_
        refine lv_icmp_eq (tgt := 82) hx hb dX2_breakWeakTowers_39 (by decide) (fun h9 => ?_) (fun h9 => ?_)
        · have hf := g_t h9 hf
          obtain ⟨x10, ex10, hf⟩ := gv_o hf
          refine lv_iinc (v := x10) (lv' := [(2, .int x10), (4, .int r8), (3, .ref (X.1 + ((c0 + 5) + (6 + 3 * y2.toNatClampNeg)))), (0, .ref (X.1 + c0)), (1, .int y1)]) hx hb dX2_breakWeakTowers_82 hl (k := 4) rfl (by rw [ex10]; rfl) (by decide) rfl (fun ls hl => ?_)
          refine lv_goto (tgt := 4) hx hb dX2_breakWeakTowers_85 (by decide) ?_
          exact ih y1 x10 m6 _ _ _ hf hM hS (lv_sub hl [3, 4, 0] rfl)
        · have hf := g_f h9 hf
          refine lv_aload_n hx hb dX2_breakWeakTowers_42 rfl (lv_at hl 1 rfl) ?_
          refine GX2_134 E hM hg5 dX2_breakWeakTowers_43 ?_
          refine lv_iload hx hb dX2_breakWeakTowers_46 (lv_at hl 0 rfl) ?_
          refine lv_isub hx hb dX2_breakWeakTowers_48 ?_
          obtain ⟨x11, ex11, hf⟩ := gv_o hf
          rw [← ex11]
          refine lv_istore (lv' := [(5, .int x11), (4, .int r8), (3, .ref (X.1 + ((c0 + 5) + (6 + 3 * y2.toNatClampNeg)))), (0, .ref (X.1 + c0)), (1, .int y1), (2, .int y2)]) hx hb dX2_breakWeakTowers_49 hl (by decide) rfl (fun ls hl => ?_)
          refine lv_aload_n hx hb dX2_breakWeakTowers_51 rfl (lv_at hl 2 rfl) ?_
          refine lv_dup hx hb dX2_breakWeakTowers_52 rfl ?_
          refine GX2_203 E hM hg5 dX2_breakWeakTowers_53 ?_
          refine lv_iload hx hb dX2_breakWeakTowers_56 (lv_at hl 0 rfl) ?_
          refine lv_iadd hx hb dX2_breakWeakTowers_58 ?_
          obtain ⟨m12, em12, hf⟩ := gv_o hf
          refine PX2_203 E hM hS hg5 em12 dX2_breakWeakTowers_59 (fun H locs hM hS => ?_)
          refine lv_iload_n hx hb dX2_breakWeakTowers_62 rfl (lv_at hl 4 rfl) ?_
          refine lv_iload hx hb dX2_breakWeakTowers_63 (lv_at hl 0 rfl) ?_
          refine lv_iadd hx hb dX2_breakWeakTowers_65 ?_
          obtain ⟨x13, ex13, hf⟩ := gv_o hf
          rw [← ex13]
          refine lv_istore_n (lv' := [(1, .int x13), (5, .int x11), (4, .int r8), (3, .ref (X.1 + ((c0 + 5) + (6 + 3 * y2.toNatClampNeg)))), (0, .ref (X.1 + c0)), (2, .int y2)]) hx hb dX2_breakWeakTowers_66 rfl hl (by decide) rfl (fun ls hl => ?_)
          refine lv_aload_n hx hb dX2_breakWeakTowers_67 rfl (lv_at hl 4 rfl) ?_
          refine lv_dup hx hb dX2_breakWeakTowers_68 rfl ?_
          refine GX2_86 E hM hk0 dX2_breakWeakTowers_69 ?_
          refine lv_aload_n hx hb dX2_breakWeakTowers_72 rfl (lv_at hl 3 rfl) ?_
          refine lv_iload hx hb dX2_breakWeakTowers_73 (lv_at hl 2 rfl) ?_
          obtain ⟨r16, m14, hqq15, hf⟩ := g1_o hf
          refine ga_i (gr_V (As := [.int r8]) (ci := 7) (rm := { frames := 2, cells := 0, slots := 0, locals := 83 }) E hml hl.1 (c_X7_removeFrom l X ((c0 + 5) + (6 + 3 * y2.toNatClampNeg)) r8 m12 hg5 hqq15) wt_X7_removeFrom wl_RX2_155 rfl hg5 (by decide) rfl rfl hM hS rfl rfl (Nat.le_trans (by decide) hRf) (Nat.le_trans (by decide) hRl) (Nat.le_trans hc hRc) (Nat.le_trans hs hRs) (Nat.le_of_ble_eq_true rfl) dX2_breakWeakTowers_75 rfl) hS (fun H locs hM hS => ?_)
          refine lv_iadd hx hb dX2_breakWeakTowers_78 ?_
          obtain ⟨m17, em17, hf⟩ := gv_o hf
          refine PX2_86 E hM hS hk0 em17 dX2_breakWeakTowers_79 (fun H locs hM hS => ?_)
          obtain ⟨x18, ex18, hf⟩ := gv_o hf
          refine lv_iinc (v := x18) (lv' := [(2, .int x18), (1, .int x13), (5, .int x11), (4, .int r8), (3, .ref (X.1 + ((c0 + 5) + (6 + 3 * y2.toNatClampNeg)))), (0, .ref (X.1 + c0))]) hx hb dX2_breakWeakTowers_82 hl (k := 5) rfl (by rw [ex18]; rfl) (by decide) rfl (fun ls hl => ?_)
          refine lv_goto (tgt := 4) hx hb dX2_breakWeakTowers_85 (by decide) ?_
          exact ih x13 x18 m17 _ _ _ hf hM hS (lv_sub hl [5, 1, 0] rfl)
set_option maxRecDepth 100000 in
set_option maxHeartbeats 4000000 in
theorem b_X2_breakWeakTowers {p : Program} {l : Launch} {e : Env} {R : Room} {s : State} {m : MethodId} {args : Array Value} {below : List Frame} {meth : Method} {c : Code} {H : Heap} {locs : List Loc} {ls : Array Slot} {X : gX} (E : gEn p s m args c cX2_breakWeakTowers RX2 X) (hr : meth.sig.returnType = (some .int)) (hlocks : meth.locks = false) (hml : c.maxLocals = 6) (hRf : 3 ≤ R.frames) (hRl : 107 ≤ R.locals) (hRc : 0 ≤ R.cells) (hRs : 0 ≤ R.slots) {c0 : Nat} {m0 : gMem} {res : Int32 × gMem} (hk0 : gk c0 = 2) (hf : f_X2_breakWeakTowers c0 m0 = some res) (hM : gM X m0 H) (hS : va_S (gA X) s.heap H locs) (hl : lv_has ls 6 [(0, .ref (X.1 + c0))]) : W p l e R s m args below meth c H locs 0 0 (MQ below (gQi X res) args s 0 0 (gA X)) (F0 m 0 ls []) := by
  obtain ⟨hx, hb⟩ := (⟨E.1, E.2.1⟩ : _ ∧ _)
  unfold f_X2_breakWeakTowers at hf
  refine lv_iconst (v := (0 : Int32)) hx hb dX2_breakWeakTowers_0 (by decide) ?_
  refine lv_istore_n (lv' := [(1, .int (0 : Int32)), (0, .ref (X.1 + c0))]) hx hb dX2_breakWeakTowers_1 rfl hl (by decide) rfl (fun ls hl => ?_)
  refine lv_iconst (v := (0 : Int32)) hx hb dX2_breakWeakTowers_2 (by decide) ?_
  refine lv_istore_n (lv' := [(2, .int (0 : Int32)), (1, .int (0 : Int32)), (0, .ref (X.1 + c0))]) hx hb dX2_breakWeakTowers_3 rfl hl (by decide) rfl (fun ls hl => ?_)
  refine l_X2_breakWeakTowers_4 E hr hlocks hml hRf hRl hRc hRs (Nat.le_of_ble_eq_true rfl) (Nat.le_of_ble_eq_true rfl) c0 hk0 gF (0 : Int32) (0 : Int32) m0 _ _ _ hf hM hS (lv_sub hl [2, 1, 0] rfl)
theorem c_X2_breakWeakTowers (l : Launch) (X : gX) (c0 : Nat) (m0 : gMem) {res : Int32 × gMem} (hk0 : gk c0 = 2) (hf : f_X2_breakWeakTowers c0 m0 = some res) : Met l yX2_breakWeakTowers (gWs yX2_breakWeakTowers cX2_breakWeakTowers 6 (some .int)) { frames := 3, cells := 0, slots := 0, locals := 107 } (va_Pc [.ref (X.1 + c0)] (gB X m0)) (gQi X res) 0 0 (gA X) :=
  gMet (own := RX2) (by decide +kernel) rfl (Nat.le_of_ble_eq_true rfl) (fun p e s m args below meth c ls E hr hlocks hml hM hl => b_X2_breakWeakTowers E hr hlocks hml (Nat.le_refl _) (Nat.le_refl _) (Nat.le_refl _) (Nat.le_refl _) hk0 hf hM va_S.rf hl)
def L_X2_restTongs_2 (c0 : Nat) : Nat → Int32 → gMem → Option (Unit × gMem)
  | 0, _, _ => none
  | n + 1, y1, m0 => if (m0 c0 6) ≤ y1 then (some ((), m0)) else (if (4 : Int32) ≤ y1 then (some ((), m0)) else (if ¬ (y1 < 0 ∨ gl (c0 + 4) ≤ y1.toNatClampNeg) then gv (ms m0 ((c0 + 4) + (3 + y1.toNatClampNeg)) 1 (if (0 : Int32) < ((m0 ((c0 + 4) + (3 + y1.toNatClampNeg)) 1) - (1 : Int32)) then ((m0 ((c0 + 4) + (3 + y1.toNatClampNeg)) 1) - (1 : Int32)) else (0 : Int32))) (fun m6 => gv (y1 + (1 : Int32)) (fun x7 => L_X2_restTongs_2 c0 n x7 m6)) else none))
def f_X2_restTongs (c0 : Nat) (m0 : gMem) : Option (Unit × gMem) := L_X2_restTongs_2 c0 gF (0 : Int32) m0
set_option maxRecDepth 100000 in
set_option maxHeartbeats 4000000 in
theorem l_X2_restTongs_2 {p : Program} {l : Launch} {e : Env} {R : Room} {s : State} {m : MethodId} {args : Array Value} {below : List Frame} {meth : Method} {c : Code} {cells slots : Nat} {X : gX} (E : gEn p s m args c cX2_restTongs RX2 X) (hr : meth.sig.returnType = none) (hlocks : meth.locks = false) (hml : c.maxLocals = 2) (hRf : 1 ≤ R.frames) (hRl : 60 ≤ R.locals) (hRc : 0 ≤ R.cells) (hRs : 0 ≤ R.slots) (hc : cells ≤ 0) (hs : slots ≤ 0) (c0 : Nat) (hk0 : gk c0 = 2) {res : Unit × gMem} :
    ∀ (n : Nat) (y1 : Int32) (m0 : gMem) (H : Heap) (locs : List Loc) (ls : Array Slot), L_X2_restTongs_2 c0 n y1 m0 = some res → gM X m0 H → va_S (gA X) s.heap H locs → lv_has ls 2 [(0, .ref (X.1 + c0)), (1, .int y1)] → W p l e R s m args below meth c H locs cells slots (MQ below (gQv X res) args s 0 0 (gA X)) (F0 m 2 ls []) := by
  obtain ⟨hx, hb⟩ := (⟨E.1, E.2.1⟩ : _ ∧ _)
  intro n
  induction n with
  | zero =>
    intro _ _ _ _ _ hf
    cases hf
  | succ n ih =>
    intro y1 m0 H locs ls hf hM hS hl
    rw [L_X2_restTongs_2] at hf
    refine lv_iload_n hx hb dX2_restTongs_2 rfl (lv_at hl 1 rfl) ?_
    refine lv_aload_n hx hb dX2_restTongs_3 rfl (lv_at hl 0 rfl) ?_
    refine GX2_55 E hM hk0 dX2_restTongs_4 ?_
    refine lv_icmp_ge (tgt := 45) hx hb dX2_restTongs_7 (by decide) (fun h1 => ?_) (fun h1 => ?_)
    · have hf := g_t h1 hf
      exact ge_v E hr hlocks hf hM hS hc hs dX2_restTongs_45
    · have hf := g_f h1 hf
      refine lv_iload_n hx hb dX2_restTongs_10 rfl (lv_at hl 1 rfl) ?_
      refine lv_iconst (v := (4 : Int32)) hx hb dX2_restTongs_11 (by decide) ?_
      refine lv_icmp_ge (tgt := 45) hx hb dX2_restTongs_12 (by decide) (fun h2 => ?_) (fun h2 => ?_)
      · have hf := g_t h2 hf
        exact ge_v E hr hlocks hf hM hS hc hs dX2_restTongs_45
      · have hf := g_f h2 hf
        refine lv_aload_n hx hb dX2_restTongs_15 rfl (lv_at hl 0 rfl) ?_
        refine GX2_27 E hM hk0 dX2_restTongs_16 ?_
        have hg3 : gk (c0 + 4) = 24 := gkf_2_5 hk0
        refine lv_iload_n hx hb dX2_restTongs_19 rfl (lv_at hl 1 rfl) ?_
        obtain ⟨hi4, hf⟩ := g_ck hf
        refine gg_aald (k := 24) E hM (gk_in hg3 (by decide)) hg3 (by decide) rfl hi4 rfl rfl dX2_restTongs_20 ?_
        have hg5 : gk ((c0 + 4) + (3 + y1.toNatClampNeg)) = 6 := gka_24 hg3 hi4
        refine lv_iconst (v := (0 : Int32)) hx hb dX2_restTongs_21 (by decide) ?_
        refine lv_aload_n hx hb dX2_restTongs_22 rfl (lv_at hl 0 rfl) ?_
        refine GX2_27 E hM hk0 dX2_restTongs_23 ?_
        refine lv_iload_n hx hb dX2_restTongs_26 rfl (lv_at hl 1 rfl) ?_
        refine gg_aald (k := 24) E hM (gk_in hg3 (by decide)) hg3 (by decide) rfl hi4 rfl rfl dX2_restTongs_27 ?_
        refine GX2_118 E hM hg5 dX2_restTongs_28 ?_
        refine lv_iconst (v := (1 : Int32)) hx hb dX2_restTongs_31 (by decide) ?_
        refine lv_isub hx hb dX2_restTongs_32 ?_
        refine gg_max E hml hl.1 wl_RX2_183 wj_max_s wj_math wj_max_c (Nat.le_trans (by decide) hRf) (Nat.le_trans (Nat.le_of_ble_eq_true rfl) hRl) (Nat.le_trans hc hRc) (Nat.le_trans hs hRs) dX2_restTongs_33 ?_
        obtain ⟨m6, em6, hf⟩ := gv_o hf
        refine PX2_118 E hM hS hg5 em6 dX2_restTongs_36 (fun H locs hM hS => ?_)
        obtain ⟨x7, ex7, hf⟩ := gv_o hf
        refine lv_iinc (v := x7) (lv' := [(1, .int x7), (0, .ref (X.1 + c0))]) hx hb dX2_restTongs_39 hl (k := 1) rfl (by rw [ex7]; rfl) (by decide) rfl (fun ls hl => ?_)
        refine lv_goto (tgt := 2) hx hb dX2_restTongs_42 (by decide) ?_
        exact ih x7 m6 _ _ _ hf hM hS (lv_sub hl [1, 0] rfl)
set_option maxRecDepth 100000 in
set_option maxHeartbeats 4000000 in
theorem b_X2_restTongs {p : Program} {l : Launch} {e : Env} {R : Room} {s : State} {m : MethodId} {args : Array Value} {below : List Frame} {meth : Method} {c : Code} {H : Heap} {locs : List Loc} {ls : Array Slot} {X : gX} (E : gEn p s m args c cX2_restTongs RX2 X) (hr : meth.sig.returnType = none) (hlocks : meth.locks = false) (hml : c.maxLocals = 2) (hRf : 1 ≤ R.frames) (hRl : 60 ≤ R.locals) (hRc : 0 ≤ R.cells) (hRs : 0 ≤ R.slots) {c0 : Nat} {m0 : gMem} {res : Unit × gMem} (hk0 : gk c0 = 2) (hf : f_X2_restTongs c0 m0 = some res) (hM : gM X m0 H) (hS : va_S (gA X) s.heap H locs) (hl : lv_has ls 2 [(0, .ref (X.1 + c0))]) : W p l e R s m args below meth c H locs 0 0 (MQ below (gQv X res) args s 0 0 (gA X)) (F0 m 0 ls []) := by
  obtain ⟨hx, hb⟩ := (⟨E.1, E.2.1⟩ : _ ∧ _)
  unfold f_X2_restTongs at hf
  refine lv_iconst (v := (0 : Int32)) hx hb dX2_restTongs_0 (by decide) ?_
  refine lv_istore_n (lv' := [(1, .int (0 : Int32)), (0, .ref (X.1 + c0))]) hx hb dX2_restTongs_1 rfl hl (by decide) rfl (fun ls hl => ?_)
  refine l_X2_restTongs_2 E hr hlocks hml hRf hRl hRc hRs (Nat.le_of_ble_eq_true rfl) (Nat.le_of_ble_eq_true rfl) c0 hk0 gF (0 : Int32) m0 _ _ _ hf hM hS (lv_sub hl [1, 0] rfl)
theorem c_X2_restTongs (l : Launch) (X : gX) (c0 : Nat) (m0 : gMem) {res : Unit × gMem} (hk0 : gk c0 = 2) (hf : f_X2_restTongs c0 m0 = some res) : Met l yX2_restTongs (gWs yX2_restTongs cX2_restTongs 2 none) { frames := 1, cells := 0, slots := 0, locals := 60 } (va_Pc [.ref (X.1 + c0)] (gB X m0)) (gQv X res) 0 0 (gA X) :=
  gMet (own := RX2) (by decide +kernel) rfl (Nat.le_of_ble_eq_true rfl) (fun p e s m args below meth c ls E hr hlocks hml hM hl => b_X2_restTongs E hr hlocks hml (Nat.le_refl _) (Nat.le_refl _) (Nat.le_refl _) (Nat.le_refl _) hk0 hf hM va_S.rf hl)
def L_X2_holdBanquets_2 (c0 : Nat) : Nat → Int32 → gMem → Option (Unit × gMem)
  | 0, _, _ => none
  | n + 1, y1, m0 => if (m0 c0 10) ≤ y1 then (some ((), m0)) else (if (6 : Int32) ≤ y1 then (some ((), m0)) else (if ¬ (y1 < 0 ∨ gl (c0 + 6) ≤ y1.toNatClampNeg) then if (m0 ((c0 + 6) + (23 + y1.toNatClampNeg)) 1) = (m0 c0 0) then (g1 (f_X2_towerAt c0 (m0 ((c0 + 6) + (23 + y1.toNatClampNeg)) 4) m0) (fun r9 m7 => gnl r9 (gv (ms m7 c0 13 ((m7 c0 13) + (1 : Int32))) (fun m12 => gv (y1 + (1 : Int32)) (fun x13 => L_X2_holdBanquets_2 c0 n x13 m12))) (fun z10 => if gk z10 = 7 then if (m7 ((c0 + 6) + (23 + y1.toNatClampNeg)) 2) ≤ (m7 z10 2) then (gv (ms m7 c0 12 ((m7 c0 12) + (1 : Int32))) (fun m15 => gv (ms m15 c0 1 ((m15 c0 1) + (m15 ((c0 + 6) + (23 + y1.toNatClampNeg)) 3))) (fun m16 => gv (ms m16 c0 14 ((m16 c0 14) + (m16 ((c0 + 6) + (23 + y1.toNatClampNeg)) 3))) (fun m17 => g1 (f_X7_removeFrom z10 (0 : Int32) m17) (fun r20 m18 => gv (ms m18 c0 16 ((m17 c0 16) + r20)) (fun m21 => gv (ms m21 z10 3 (0 : Int32)) (fun m22 => gv (y1 + (1 : Int32)) (fun x23 => L_X2_holdBanquets_2 c0 n x23 m22)))))))) else (gv (ms m7 c0 13 ((m7 c0 13) + (1 : Int32))) (fun m24 => gv (y1 + (1 : Int32)) (fun x25 => L_X2_holdBanquets_2 c0 n x25 m24))) else none))) else (gv (y1 + (1 : Int32)) (fun x26 => L_X2_holdBanquets_2 c0 n x26 m0)) else none))
def f_X2_holdBanquets (c0 : Nat) (m0 : gMem) : Option (Unit × gMem) := L_X2_holdBanquets_2 c0 gF (0 : Int32) m0
set_option maxRecDepth 100000 in
set_option maxHeartbeats 4000000 in
theorem l_X2_holdBanquets_2 {p : Program} {l : Launch} {e : Env} {R : Room} {s : State} {m : MethodId} {args : Array Value} {below : List Frame} {meth : Method} {c : Code} {cells slots : Nat} {X : gX} (E : gEn p s m args c cX2_holdBanquets RX2 X) (hr : meth.sig.returnType = none) (hlocks : meth.locks = false) (hml : c.maxLocals = 4) (hRf : 3 ≤ R.frames) (hRl : 105 ≤ R.locals) (hRc : 0 ≤ R.cells) (hRs : 0 ≤ R.slots) (hc : cells ≤ 0) (hs : slots ≤ 0) (c0 : Nat) (hk0 : gk c0 = 2) {res : Unit × gMem} :
    ∀ (n : Nat) (y1 : Int32) (m0 : gMem) (H : Heap) (locs : List Loc) (ls : Array Slot), L_X2_holdBanquets_2 c0 n y1 m0 = some res → gM X m0 H → va_S (gA X) s.heap H locs → lv_has ls 4 [(0, .ref (X.1 + c0)), (1, .int y1)] → W p l e R s m args below meth c H locs cells slots (MQ below (gQv X res) args s 0 0 (gA X)) (F0 m 2 ls []) := by
  obtain ⟨hx, hb⟩ := (⟨E.1, E.2.1⟩ : _ ∧ _)
  intro n
  induction n with
  | zero =>
    intro _ _ _ _ _ hf
    cases hf
  | succ n ih =>
    intro y1 m0 H locs ls hf hM hS hl
    rw [L_X2_holdBanquets_2] at hf
    refine lv_iload_n hx hb dX2_holdBanquets_2 rfl (lv_at hl 1 rfl) ?_
    refine lv_aload_n hx hb dX2_holdBanquets_3 rfl (lv_at hl 0 rfl) ?_
    refine GX2_68 E hM hk0 dX2_holdBanquets_4 ?_
    refine lv_icmp_ge (tgt := 135) hx hb dX2_holdBanquets_7 (by decide) (fun h1 => ?_) (fun h1 => ?_)
    · have hf := g_t h1 hf
      exact ge_v E hr hlocks hf hM hS hc hs dX2_holdBanquets_135
    · have hf := g_f h1 hf
      refine lv_iload_n hx hb dX2_holdBanquets_10 rfl (lv_at hl 1 rfl) ?_
      refine lv_bipush (v := (6 : Int32)) hx hb dX2_holdBanquets_11 (by decide) ?_
      refine lv_icmp_ge (tgt := 135) hx hb dX2_holdBanquets_13 (by decide) (fun h2 => ?_) (fun h2 => ?_)
      · have hf := g_t h2 hf
        exact ge_v E hr hlocks hf hM hS hc hs dX2_holdBanquets_135
      · have hf := g_f h2 hf
        refine lv_aload_n hx hb dX2_holdBanquets_16 rfl (lv_at hl 0 rfl) ?_
        refine GX2_39 E hM hk0 dX2_holdBanquets_17 ?_
        have hg3 : gk (c0 + 6) = 26 := gkf_2_9 hk0
        refine lv_iload_n hx hb dX2_holdBanquets_20 rfl (lv_at hl 1 rfl) ?_
        obtain ⟨hi4, hf⟩ := g_ck hf
        refine gg_aald (k := 26) E hM (gk_in hg3 (by decide)) hg3 (by decide) rfl hi4 rfl rfl dX2_holdBanquets_21 ?_
        have hg5 : gk ((c0 + 6) + (23 + y1.toNatClampNeg)) = 0 := gka_26 hg3 hi4
        refine lv_astore_n (lv' := [(2, .ref (X.1 + ((c0 + 6) + (23 + y1.toNatClampNeg)))), (0, .ref (X.1 + c0)), (1, .int y1)]) hx hb dX2_holdBanquets_22 rfl hl (by decide) rfl (fun ls hl => ?_)
        refine lv_aload_n hx hb dX2_holdBanquets_23 rfl (lv_at hl 0 rfl) ?_
        refine GX2_186 E hM hg5 dX2_holdBanquets_24 ?_
        refine lv_aload_n hx hb dX2_holdBanquets_27 rfl (lv_at hl 1 rfl) ?_
        refine GX2_46 E hM hk0 dX2_holdBanquets_28 ?_
        refine lv_icmp_eq (tgt := 37) hx hb dX2_holdBanquets_31 (by decide) (fun h6 => ?_) (fun h6 => ?_)
        · have hf := g_t h6 hf
          refine lv_aload_n hx hb dX2_holdBanquets_37 rfl (lv_at hl 1 rfl) ?_
          refine lv_aload_n hx hb dX2_holdBanquets_38 rfl (lv_at hl 0 rfl) ?_
          refine GX2_177 E hM hg5 dX2_holdBanquets_39 ?_
          obtain ⟨r9, m7, hqq8, hf⟩ := g1_o hf
          refine ga_o (gr_V (As := [.int (m0 ((c0 + 6) + (23 + y1.toNatClampNeg)) 4)]) (ci := 2) (rm := { frames := 0, cells := 0, slots := 0, locals := 0 }) E hml hl.1 (c_X2_towerAt l X c0 (m0 ((c0 + 6) + (23 + y1.toNatClampNeg)) 4) m0 hk0 hqq8) wt_X2_towerAt wl_RX2_126 rfl hk0 (by decide) rfl rfl hM hS rfl rfl (Nat.le_trans (by decide) hRf) (Nat.le_trans (by decide) hRl) (Nat.le_trans hc hRc) (Nat.le_trans hs hRs) (Nat.le_of_ble_eq_true rfl) dX2_holdBanquets_42 rfl) hS (fun H locs hM hS => ?_)
          cases r9 with
          | none =>
            have hf := gnl_n hf
            refine gW_null ?_
            refine lv_astore_nN (lv' := [(3, .null), (2, .ref (X.1 + ((c0 + 6) + (23 + y1.toNatClampNeg)))), (0, .ref (X.1 + c0)), (1, .int y1)]) hx hb dX2_holdBanquets_45 rfl hl (by decide) rfl (fun ls hl => ?_)
            refine lv_aload_nN hx hb dX2_holdBanquets_46 rfl (lv_at hl 0 rfl) ?_
            refine lv_ifnullN (tgt := 61) hx hb dX2_holdBanquets_47 (by decide) ?_
            refine lv_aload_n hx hb dX2_holdBanquets_61 rfl (lv_at hl 2 rfl) ?_
            refine lv_dup hx hb dX2_holdBanquets_62 rfl ?_
            refine GX2_80 E hM hk0 dX2_holdBanquets_63 ?_
            refine lv_iconst (v := (1 : Int32)) hx hb dX2_holdBanquets_66 (by decide) ?_
            refine lv_iadd hx hb dX2_holdBanquets_67 ?_
            obtain ⟨m12, em12, hf⟩ := gv_o hf
            refine PX2_80 E hM hS hk0 em12 dX2_holdBanquets_68 (fun H locs hM hS => ?_)
            refine lv_goto (tgt := 129) hx hb dX2_holdBanquets_71 (by decide) ?_
            obtain ⟨x13, ex13, hf⟩ := gv_o hf
            refine lv_iinc (v := x13) (lv' := [(1, .int x13), (3, .null), (2, .ref (X.1 + ((c0 + 6) + (23 + y1.toNatClampNeg)))), (0, .ref (X.1 + c0))]) hx hb dX2_holdBanquets_129 hl (k := 3) rfl (by rw [ex13]; rfl) (by decide) rfl (fun ls hl => ?_)
            refine lv_goto (tgt := 2) hx hb dX2_holdBanquets_132 (by decide) ?_
            exact ih x13 m12 _ _ _ hf hM hS (lv_sub hl [3, 0] rfl)
          | some z10 =>
            have hf := gnl_s hf
            obtain ⟨hg11, hf⟩ := g_ck hf
            refine gW_some ?_
            refine lv_astore_n (lv' := [(3, .ref (X.1 + z10)), (2, .ref (X.1 + ((c0 + 6) + (23 + y1.toNatClampNeg)))), (0, .ref (X.1 + c0)), (1, .int y1)]) hx hb dX2_holdBanquets_45 rfl hl (by decide) rfl (fun ls hl => ?_)
            refine lv_aload_n hx hb dX2_holdBanquets_46 rfl (lv_at hl 0 rfl) ?_
            refine lv_ifnull hx hb dX2_holdBanquets_47 ?_
            refine lv_aload_n hx hb dX2_holdBanquets_50 rfl (lv_at hl 0 rfl) ?_
            refine GX2_134 E hM hg11 dX2_holdBanquets_51 ?_
            refine lv_aload_n hx hb dX2_holdBanquets_54 rfl (lv_at hl 1 rfl) ?_
            refine GX2_180 E hM hg5 dX2_holdBanquets_55 ?_
            refine lv_icmp_ge (tgt := 74) hx hb dX2_holdBanquets_58 (by decide) (fun h14 => ?_) (fun h14 => ?_)
            · have hf := g_t h14 hf
              refine lv_aload_n hx hb dX2_holdBanquets_74 rfl (lv_at hl 2 rfl) ?_
              refine lv_dup hx hb dX2_holdBanquets_75 rfl ?_
              refine GX2_77 E hM hk0 dX2_holdBanquets_76 ?_
              refine lv_iconst (v := (1 : Int32)) hx hb dX2_holdBanquets_79 (by decide) ?_
              refine lv_iadd hx hb dX2_holdBanquets_80 ?_
              obtain ⟨m15, em15, hf⟩ := gv_o hf
              refine PX2_77 E hM hS hk0 em15 dX2_holdBanquets_81 (fun H locs hM hS => ?_)
              refine lv_aload_n hx hb dX2_holdBanquets_84 rfl (lv_at hl 2 rfl) ?_
              refine lv_dup hx hb dX2_holdBanquets_85 rfl ?_
              refine GX2_9 E hM hk0 dX2_holdBanquets_86 ?_
              refine lv_aload_n hx hb dX2_holdBanquets_89 rfl (lv_at hl 1 rfl) ?_
              refine GX2_206 E hM hg5 dX2_holdBanquets_90 ?_
              refine lv_iadd hx hb dX2_holdBanquets_93 ?_
              obtain ⟨m16, em16, hf⟩ := gv_o hf
              refine PX2_9 E hM hS hk0 em16 dX2_holdBanquets_94 (fun H locs hM hS => ?_)
              refine lv_aload_n hx hb dX2_holdBanquets_97 rfl (lv_at hl 2 rfl) ?_
              refine lv_dup hx hb dX2_holdBanquets_98 rfl ?_
              refine GX2_83 E hM hk0 dX2_holdBanquets_99 ?_
              refine lv_aload_n hx hb dX2_holdBanquets_102 rfl (lv_at hl 1 rfl) ?_
              refine GX2_206 E hM hg5 dX2_holdBanquets_103 ?_
              refine lv_iadd hx hb dX2_holdBanquets_106 ?_
              obtain ⟨m17, em17, hf⟩ := gv_o hf
              refine PX2_83 E hM hS hk0 em17 dX2_holdBanquets_107 (fun H locs hM hS => ?_)
              refine lv_aload_n hx hb dX2_holdBanquets_110 rfl (lv_at hl 2 rfl) ?_
              refine lv_dup hx hb dX2_holdBanquets_111 rfl ?_
              refine GX2_89 E hM hk0 dX2_holdBanquets_112 ?_
              refine lv_aload_n hx hb dX2_holdBanquets_115 rfl (lv_at hl 0 rfl) ?_
              refine lv_iconst (v := (0 : Int32)) hx hb dX2_holdBanquets_116 (by decide) ?_
              obtain ⟨r20, m18, hqq19, hf⟩ := g1_o hf
              refine ga_i (gr_V (As := [.int (0 : Int32)]) (ci := 7) (rm := { frames := 2, cells := 0, slots := 0, locals := 83 }) E hml hl.1 (c_X7_removeFrom l X z10 (0 : Int32) m17 hg11 hqq19) wt_X7_removeFrom wl_RX2_155 rfl hg11 (by decide) rfl rfl hM hS rfl rfl (Nat.le_trans (by decide) hRf) (Nat.le_trans (by decide) hRl) (Nat.le_trans hc hRc) (Nat.le_trans hs hRs) (Nat.le_of_ble_eq_true rfl) dX2_holdBanquets_117 rfl) hS (fun H locs hM hS => ?_)
              refine lv_iadd hx hb dX2_holdBanquets_120 ?_
              obtain ⟨m21, em21, hf⟩ := gv_o hf
              refine PX2_89 E hM hS hk0 em21 dX2_holdBanquets_121 (fun H locs hM hS => ?_)
              refine lv_aload_n hx hb dX2_holdBanquets_124 rfl (lv_at hl 0 rfl) ?_
              refine lv_iconst (v := (0 : Int32)) hx hb dX2_holdBanquets_125 (by decide) ?_
              obtain ⟨m22, em22, hf⟩ := gv_o hf
              refine PX2_140 E hM hS hg11 em22 dX2_holdBanquets_126 (fun H locs hM hS => ?_)
              obtain ⟨x23, ex23, hf⟩ := gv_o hf
              refine lv_iinc (v := x23) (lv' := [(1, .int x23), (3, .ref (X.1 + z10)), (2, .ref (X.1 + ((c0 + 6) + (23 + y1.toNatClampNeg)))), (0, .ref (X.1 + c0))]) hx hb dX2_holdBanquets_129 hl (k := 3) rfl (by rw [ex23]; rfl) (by decide) rfl (fun ls hl => ?_)
              refine lv_goto (tgt := 2) hx hb dX2_holdBanquets_132 (by decide) ?_
              exact ih x23 m22 _ _ _ hf hM hS (lv_sub hl [3, 0] rfl)
            · have hf := g_f h14 hf
              refine lv_aload_n hx hb dX2_holdBanquets_61 rfl (lv_at hl 2 rfl) ?_
              refine lv_dup hx hb dX2_holdBanquets_62 rfl ?_
              refine GX2_80 E hM hk0 dX2_holdBanquets_63 ?_
              refine lv_iconst (v := (1 : Int32)) hx hb dX2_holdBanquets_66 (by decide) ?_
              refine lv_iadd hx hb dX2_holdBanquets_67 ?_
              obtain ⟨m24, em24, hf⟩ := gv_o hf
              refine PX2_80 E hM hS hk0 em24 dX2_holdBanquets_68 (fun H locs hM hS => ?_)
              refine lv_goto (tgt := 129) hx hb dX2_holdBanquets_71 (by decide) ?_
              obtain ⟨x25, ex25, hf⟩ := gv_o hf
              refine lv_iinc (v := x25) (lv' := [(1, .int x25), (3, .ref (X.1 + z10)), (2, .ref (X.1 + ((c0 + 6) + (23 + y1.toNatClampNeg)))), (0, .ref (X.1 + c0))]) hx hb dX2_holdBanquets_129 hl (k := 3) rfl (by rw [ex25]; rfl) (by decide) rfl (fun ls hl => ?_)
              refine lv_goto (tgt := 2) hx hb dX2_holdBanquets_132 (by decide) ?_
              exact ih x25 m24 _ _ _ hf hM hS (lv_sub hl [3, 0] rfl)
        · have hf := g_f h6 hf
          refine lv_goto (tgt := 129) hx hb dX2_holdBanquets_34 (by decide) ?_
          obtain ⟨x26, ex26, hf⟩ := gv_o hf
          refine lv_iinc (v := x26) (lv' := [(1, .int x26), (2, .ref (X.1 + ((c0 + 6) + (23 + y1.toNatClampNeg)))), (0, .ref (X.1 + c0))]) hx hb dX2_holdBanquets_129 hl (k := 2) rfl (by rw [ex26]; rfl) (by decide) rfl (fun ls hl => ?_)
          refine lv_goto (tgt := 2) hx hb dX2_holdBanquets_132 (by decide) ?_
          exact ih x26 m0 _ _ _ hf hM hS (lv_sub hl [2, 0] rfl)
set_option maxRecDepth 100000 in
set_option maxHeartbeats 4000000 in
theorem b_X2_holdBanquets {p : Program} {l : Launch} {e : Env} {R : Room} {s : State} {m : MethodId} {args : Array Value} {below : List Frame} {meth : Method} {c : Code} {H : Heap} {locs : List Loc} {ls : Array Slot} {X : gX} (E : gEn p s m args c cX2_holdBanquets RX2 X) (hr : meth.sig.returnType = none) (hlocks : meth.locks = false) (hml : c.maxLocals = 4) (hRf : 3 ≤ R.frames) (hRl : 105 ≤ R.locals) (hRc : 0 ≤ R.cells) (hRs : 0 ≤ R.slots) {c0 : Nat} {m0 : gMem} {res : Unit × gMem} (hk0 : gk c0 = 2) (hf : f_X2_holdBanquets c0 m0 = some res) (hM : gM X m0 H) (hS : va_S (gA X) s.heap H locs) (hl : lv_has ls 4 [(0, .ref (X.1 + c0))]) : W p l e R s m args below meth c H locs 0 0 (MQ below (gQv X res) args s 0 0 (gA X)) (F0 m 0 ls []) := by
  obtain ⟨hx, hb⟩ := (⟨E.1, E.2.1⟩ : _ ∧ _)
  unfold f_X2_holdBanquets at hf
  refine lv_iconst (v := (0 : Int32)) hx hb dX2_holdBanquets_0 (by decide) ?_
  refine lv_istore_n (lv' := [(1, .int (0 : Int32)), (0, .ref (X.1 + c0))]) hx hb dX2_holdBanquets_1 rfl hl (by decide) rfl (fun ls hl => ?_)
  refine l_X2_holdBanquets_2 E hr hlocks hml hRf hRl hRc hRs (Nat.le_of_ble_eq_true rfl) (Nat.le_of_ble_eq_true rfl) c0 hk0 gF (0 : Int32) m0 _ _ _ hf hM hS (lv_sub hl [1, 0] rfl)
theorem c_X2_holdBanquets (l : Launch) (X : gX) (c0 : Nat) (m0 : gMem) {res : Unit × gMem} (hk0 : gk c0 = 2) (hf : f_X2_holdBanquets c0 m0 = some res) : Met l yX2_holdBanquets (gWs yX2_holdBanquets cX2_holdBanquets 4 none) { frames := 3, cells := 0, slots := 0, locals := 105 } (va_Pc [.ref (X.1 + c0)] (gB X m0)) (gQv X res) 0 0 (gA X) :=
  gMet (own := RX2) (by decide +kernel) rfl (Nat.le_of_ble_eq_true rfl) (fun p e s m args below meth c ls E hr hlocks hml hM hl => b_X2_holdBanquets E hr hlocks hml (Nat.le_refl _) (Nat.le_refl _) (Nat.le_refl _) (Nat.le_refl _) hk0 hf hM va_S.rf hl)
def L_X2_dropHeldBanquets_2 (c0 : Nat) : Nat → Int32 → gMem → Option (Unit × gMem)
  | 0, _, _ => none
  | n + 1, y1, m0 => if y1 < (0 : Int32) then (some ((), m0)) else (if (m0 c0 10) ≤ y1 then (gv (y1 + (-1 : Int32)) (fun x3 => L_X2_dropHeldBanquets_2 c0 n x3 m0)) else (if ¬ (y1 < 0 ∨ gl (c0 + 6) ≤ y1.toNatClampNeg) then if (m0 ((c0 + 6) + (23 + y1.toNatClampNeg)) 1) = (m0 c0 0) then (g1 (f_X2_dropBanquet c0 y1 m0) (fun r11 m9 => gv (y1 + (-1 : Int32)) (fun x12 => L_X2_dropHeldBanquets_2 c0 n x12 m9))) else (gv (y1 + (-1 : Int32)) (fun x8 => L_X2_dropHeldBanquets_2 c0 n x8 m0)) else none))
def f_X2_dropHeldBanquets (c0 : Nat) (m0 : gMem) : Option (Unit × gMem) := L_X2_dropHeldBanquets_2 c0 gF (5 : Int32) m0
set_option maxRecDepth 100000 in
set_option maxHeartbeats 4000000 in
theorem l_X2_dropHeldBanquets_2 {p : Program} {l : Launch} {e : Env} {R : Room} {s : State} {m : MethodId} {args : Array Value} {below : List Frame} {meth : Method} {c : Code} {cells slots : Nat} {X : gX} (E : gEn p s m args c cX2_dropHeldBanquets RX2 X) (hr : meth.sig.returnType = none) (hlocks : meth.locks = false) (hml : c.maxLocals = 2) (hRf : 2 ≤ R.frames) (hRl : 43 ≤ R.locals) (hRc : 0 ≤ R.cells) (hRs : 0 ≤ R.slots) (hc : cells ≤ 0) (hs : slots ≤ 0) (c0 : Nat) (hk0 : gk c0 = 2) {res : Unit × gMem} :
    ∀ (n : Nat) (y1 : Int32) (m0 : gMem) (H : Heap) (locs : List Loc) (ls : Array Slot), L_X2_dropHeldBanquets_2 c0 n y1 m0 = some res → gM X m0 H → va_S (gA X) s.heap H locs → lv_has ls 2 [(0, .ref (X.1 + c0)), (1, .int y1)] → W p l e R s m args below meth c H locs cells slots (MQ below (gQv X res) args s 0 0 (gA X)) (F0 m 2 ls []) := by
  obtain ⟨hx, hb⟩ := (⟨E.1, E.2.1⟩ : _ ∧ _)
  intro n
  induction n with
  | zero =>
    intro _ _ _ _ _ hf
    cases hf
  | succ n ih =>
    intro y1 m0 H locs ls hf hM hS hl
    rw [L_X2_dropHeldBanquets_2] at hf
    refine lv_iload_n hx hb dX2_dropHeldBanquets_2 rfl (lv_at hl 1 rfl) ?_
    refine lv_if_lt (tgt := 41) hx hb dX2_dropHeldBanquets_3 (by decide) (fun h1 => ?_) (fun h1 => ?_)
    · have hf := g_t h1 hf
      exact ge_v E hr hlocks hf hM hS hc hs dX2_dropHeldBanquets_41
    · have hf := g_f h1 hf
      refine lv_iload_n hx hb dX2_dropHeldBanquets_6 rfl (lv_at hl 1 rfl) ?_
      refine lv_aload_n hx hb dX2_dropHeldBanquets_7 rfl (lv_at hl 0 rfl) ?_
      refine GX2_68 E hM hk0 dX2_dropHeldBanquets_8 ?_
      refine lv_icmp_ge (tgt := 35) hx hb dX2_dropHeldBanquets_11 (by decide) (fun h2 => ?_) (fun h2 => ?_)
      · have hf := g_t h2 hf
        obtain ⟨x3, ex3, hf⟩ := gv_o hf
        refine lv_iinc (v := x3) (lv' := [(1, .int x3), (0, .ref (X.1 + c0))]) hx hb dX2_dropHeldBanquets_35 hl (k := 1) rfl (by rw [ex3]; rfl) (by decide) rfl (fun ls hl => ?_)
        refine lv_goto (tgt := 2) hx hb dX2_dropHeldBanquets_38 (by decide) ?_
        exact ih x3 m0 _ _ _ hf hM hS (lv_sub hl [1, 0] rfl)
      · have hf := g_f h2 hf
        refine lv_aload_n hx hb dX2_dropHeldBanquets_14 rfl (lv_at hl 0 rfl) ?_
        refine GX2_39 E hM hk0 dX2_dropHeldBanquets_15 ?_
        have hg4 : gk (c0 + 6) = 26 := gkf_2_9 hk0
        refine lv_iload_n hx hb dX2_dropHeldBanquets_18 rfl (lv_at hl 1 rfl) ?_
        obtain ⟨hi5, hf⟩ := g_ck hf
        refine gg_aald (k := 26) E hM (gk_in hg4 (by decide)) hg4 (by decide) rfl hi5 rfl rfl dX2_dropHeldBanquets_19 ?_
        have hg6 : gk ((c0 + 6) + (23 + y1.toNatClampNeg)) = 0 := gka_26 hg4 hi5
        refine GX2_186 E hM hg6 dX2_dropHeldBanquets_20 ?_
        refine lv_aload_n hx hb dX2_dropHeldBanquets_23 rfl (lv_at hl 0 rfl) ?_
        refine GX2_46 E hM hk0 dX2_dropHeldBanquets_24 ?_
        refine lv_icmp_ne (tgt := 35) hx hb dX2_dropHeldBanquets_27 (by decide) (fun h7 => ?_) (fun h7 => ?_)
        · have hf := g_f h7 hf
          obtain ⟨x8, ex8, hf⟩ := gv_o hf
          refine lv_iinc (v := x8) (lv' := [(1, .int x8), (0, .ref (X.1 + c0))]) hx hb dX2_dropHeldBanquets_35 hl (k := 1) rfl (by rw [ex8]; rfl) (by decide) rfl (fun ls hl => ?_)
          refine lv_goto (tgt := 2) hx hb dX2_dropHeldBanquets_38 (by decide) ?_
          exact ih x8 m0 _ _ _ hf hM hS (lv_sub hl [1, 0] rfl)
        · have hf := g_t h7 hf
          refine lv_aload_n hx hb dX2_dropHeldBanquets_30 rfl (lv_at hl 0 rfl) ?_
          refine lv_iload_n hx hb dX2_dropHeldBanquets_31 rfl (lv_at hl 1 rfl) ?_
          obtain ⟨r11, m9, hqq10, hf⟩ := g1_o hf
          refine ga_v (gr_V (As := [.int y1]) (ci := 2) (rm := { frames := 1, cells := 0, slots := 0, locals := 21 }) E hml hl.1 (c_X2_dropBanquet l X c0 y1 m0 hk0 hqq10) wt_X2_dropBanquet wl_RX2_207 rfl hk0 (by decide) rfl rfl hM hS rfl rfl (Nat.le_trans (by decide) hRf) (Nat.le_trans (by decide) hRl) (Nat.le_trans hc hRc) (Nat.le_trans hs hRs) (Nat.le_of_ble_eq_true rfl) dX2_dropHeldBanquets_32 rfl) hS (fun H locs hM hS => ?_)
          obtain ⟨x12, ex12, hf⟩ := gv_o hf
          refine lv_iinc (v := x12) (lv' := [(1, .int x12), (0, .ref (X.1 + c0))]) hx hb dX2_dropHeldBanquets_35 hl (k := 1) rfl (by rw [ex12]; rfl) (by decide) rfl (fun ls hl => ?_)
          refine lv_goto (tgt := 2) hx hb dX2_dropHeldBanquets_38 (by decide) ?_
          exact ih x12 m9 _ _ _ hf hM hS (lv_sub hl [1, 0] rfl)
set_option maxRecDepth 100000 in
set_option maxHeartbeats 4000000 in
theorem b_X2_dropHeldBanquets {p : Program} {l : Launch} {e : Env} {R : Room} {s : State} {m : MethodId} {args : Array Value} {below : List Frame} {meth : Method} {c : Code} {H : Heap} {locs : List Loc} {ls : Array Slot} {X : gX} (E : gEn p s m args c cX2_dropHeldBanquets RX2 X) (hr : meth.sig.returnType = none) (hlocks : meth.locks = false) (hml : c.maxLocals = 2) (hRf : 2 ≤ R.frames) (hRl : 43 ≤ R.locals) (hRc : 0 ≤ R.cells) (hRs : 0 ≤ R.slots) {c0 : Nat} {m0 : gMem} {res : Unit × gMem} (hk0 : gk c0 = 2) (hf : f_X2_dropHeldBanquets c0 m0 = some res) (hM : gM X m0 H) (hS : va_S (gA X) s.heap H locs) (hl : lv_has ls 2 [(0, .ref (X.1 + c0))]) : W p l e R s m args below meth c H locs 0 0 (MQ below (gQv X res) args s 0 0 (gA X)) (F0 m 0 ls []) := by
  obtain ⟨hx, hb⟩ := (⟨E.1, E.2.1⟩ : _ ∧ _)
  unfold f_X2_dropHeldBanquets at hf
  refine lv_iconst (v := (5 : Int32)) hx hb dX2_dropHeldBanquets_0 (by decide) ?_
  refine lv_istore_n (lv' := [(1, .int (5 : Int32)), (0, .ref (X.1 + c0))]) hx hb dX2_dropHeldBanquets_1 rfl hl (by decide) rfl (fun ls hl => ?_)
  refine l_X2_dropHeldBanquets_2 E hr hlocks hml hRf hRl hRc hRs (Nat.le_of_ble_eq_true rfl) (Nat.le_of_ble_eq_true rfl) c0 hk0 gF (5 : Int32) m0 _ _ _ hf hM hS (lv_sub hl [1, 0] rfl)
theorem c_X2_dropHeldBanquets (l : Launch) (X : gX) (c0 : Nat) (m0 : gMem) {res : Unit × gMem} (hk0 : gk c0 = 2) (hf : f_X2_dropHeldBanquets c0 m0 = some res) : Met l yX2_dropHeldBanquets (gWs yX2_dropHeldBanquets cX2_dropHeldBanquets 2 none) { frames := 2, cells := 0, slots := 0, locals := 43 } (va_Pc [.ref (X.1 + c0)] (gB X m0)) (gQv X res) 0 0 (gA X) :=
  gMet (own := RX2) (by decide +kernel) rfl (Nat.le_of_ble_eq_true rfl) (fun p e s m args below meth c ls E hr hlocks hml hM hl => b_X2_dropHeldBanquets E hr hlocks hml (Nat.le_refl _) (Nat.le_refl _) (Nat.le_refl _) (Nat.le_refl _) hk0 hf hM va_S.rf hl)
def L_X2_letHoursGoBy_4 (c0 : Nat) (u1 : Int32) : Nat → Int32 → Int32 → gMem → Option (Int32 × gMem)
  | 0, _, _, _ => none
  | n + 1, y2, y3, m0 => if u1 ≤ y3 then (some (y2, m0)) else (g1 (f_X2_makeTowersDamp c0 m0) (fun r4 m2 => g1 (f_X2_breakWeakTowers c0 m2) (fun r7 m5 => gv ((y2 + r7)) (fun x8 => g1 (f_X2_restTongs c0 m5) (fun r11 m9 => gv (ms m9 c0 0 ((m9 c0 0) + (1 : Int32))) (fun m12 => g1 (f_X2_holdBanquets c0 m12) (fun r15 m13 => g1 (f_X2_dropHeldBanquets c0 m13) (fun r18 m16 => gv (y3 + (1 : Int32)) (fun x19 => L_X2_letHoursGoBy_4 c0 u1 n x8 x19 m16)))))))))
def f_X2_letHoursGoBy (c0 : Nat) (u1 : Int32) (m0 : gMem) : Option (Int32 × gMem) := L_X2_letHoursGoBy_4 c0 u1 gF (0 : Int32) (0 : Int32) m0
set_option maxRecDepth 100000 in
set_option maxHeartbeats 4000000 in
theorem l_X2_letHoursGoBy_4 {p : Program} {l : Launch} {e : Env} {R : Room} {s : State} {m : MethodId} {args : Array Value} {below : List Frame} {meth : Method} {c : Code} {cells slots : Nat} {X : gX} (E : gEn p s m args c cX2_letHoursGoBy RX2 X) (hr : meth.sig.returnType = (some .int)) (hlocks : meth.locks = false) (hml : c.maxLocals = 4) (hRf : 4 ≤ R.frames) (hRl : 132 ≤ R.locals) (hRc : 0 ≤ R.cells) (hRs : 0 ≤ R.slots) (hc : cells ≤ 0) (hs : slots ≤ 0) (c0 : Nat) (u1 : Int32) (hk0 : gk c0 = 2) {res : Int32 × gMem} :
    ∀ (n : Nat) (y2 : Int32) (y3 : Int32) (m0 : gMem) (H : Heap) (locs : List Loc) (ls : Array Slot), L_X2_letHoursGoBy_4 c0 u1 n y2 y3 m0 = some res → gM X m0 H → va_S (gA X) s.heap H locs → lv_has ls 4 [(0, .ref (X.1 + c0)), (1, .int u1), (2, .int y2), (3, .int y3)] → W p l e R s m args below meth c H locs cells slots (MQ below (gQi X res) args s 0 0 (gA X)) (F0 m 4 ls []) := by
  obtain ⟨hx, hb⟩ := (⟨E.1, E.2.1⟩ : _ ∧ _)
  intro n
  induction n with
  | zero =>
    intro _ _ _ _ _ _ hf
    cases hf
  | succ n ih =>
    intro y2 y3 m0 H locs ls hf hM hS hl
    rw [L_X2_letHoursGoBy_4] at hf
    refine lv_iload_n hx hb dX2_letHoursGoBy_4 rfl (lv_at hl 3 rfl) ?_
    refine lv_iload_n hx hb dX2_letHoursGoBy_5 rfl (lv_at hl 1 rfl) ?_
    refine lv_icmp_ge (tgt := 48) hx hb dX2_letHoursGoBy_6 (by decide) (fun h1 => ?_) (fun h1 => ?_)
    · have hf := g_t h1 hf
      refine lv_iload_n hx hb dX2_letHoursGoBy_48 rfl (lv_at hl 2 rfl) ?_
      exact ge_i E hr hlocks hf hM hS hc hs dX2_letHoursGoBy_49
    · have hf := g_f h1 hf
      refine lv_aload_n hx hb dX2_letHoursGoBy_9 rfl (lv_at hl 0 rfl) ?_
      obtain ⟨r4, m2, hqq3, hf⟩ := g1_o hf
      refine ga_v (gr_V (As := []) (ci := 2) (rm := { frames := 2, cells := 0, slots := 0, locals := 81 }) E hml hl.1 (c_X2_makeTowersDamp l X c0 m0 hk0 hqq3) wt_X2_makeTowersDamp wl_RX2_187 rfl hk0 (by decide) rfl rfl hM hS rfl rfl (Nat.le_trans (by decide) hRf) (Nat.le_trans (by decide) hRl) (Nat.le_trans hc hRc) (Nat.le_trans hs hRs) (Nat.le_of_ble_eq_true rfl) dX2_letHoursGoBy_10 rfl) hS (fun H locs hM hS => ?_)
      refine lv_iload_n hx hb dX2_letHoursGoBy_13 rfl (lv_at hl 2 rfl) ?_
      refine lv_aload_n hx hb dX2_letHoursGoBy_14 rfl (lv_at hl 0 rfl) ?_
      obtain ⟨r7, m5, hqq6, hf⟩ := g1_o hf
      refine ga_i (gr_V (As := []) (ci := 2) (rm := { frames := 3, cells := 0, slots := 0, locals := 107 }) E hml hl.1 (c_X2_breakWeakTowers l X c0 m2 hk0 hqq6) wt_X2_breakWeakTowers wl_RX2_190 rfl hk0 (by decide) rfl rfl hM hS rfl rfl (Nat.le_trans (by decide) hRf) (Nat.le_trans (by decide) hRl) (Nat.le_trans hc hRc) (Nat.le_trans hs hRs) (Nat.le_of_ble_eq_true rfl) dX2_letHoursGoBy_15 rfl) hS (fun H locs hM hS => ?_)
      refine lv_iadd hx hb dX2_letHoursGoBy_18 ?_
      obtain ⟨x8, ex8, hf⟩ := gv_o hf
      rw [← ex8]
      refine lv_istore_n (lv' := [(2, .int x8), (0, .ref (X.1 + c0)), (1, .int u1), (3, .int y3)]) hx hb dX2_letHoursGoBy_19 rfl hl (by decide) rfl (fun ls hl => ?_)
      refine lv_aload_n hx hb dX2_letHoursGoBy_20 rfl (lv_at hl 1 rfl) ?_
      obtain ⟨r11, m9, hqq10, hf⟩ := g1_o hf
      refine ga_v (gr_V (As := []) (ci := 2) (rm := { frames := 1, cells := 0, slots := 0, locals := 60 }) E hml hl.1 (c_X2_restTongs l X c0 m5 hk0 hqq10) wt_X2_restTongs wl_RX2_194 rfl hk0 (by decide) rfl rfl hM hS rfl rfl (Nat.le_trans (by decide) hRf) (Nat.le_trans (by decide) hRl) (Nat.le_trans hc hRc) (Nat.le_trans hs hRs) (Nat.le_of_ble_eq_true rfl) dX2_letHoursGoBy_21 rfl) hS (fun H locs hM hS => ?_)
      refine lv_aload_n hx hb dX2_letHoursGoBy_24 rfl (lv_at hl 1 rfl) ?_
      refine lv_dup hx hb dX2_letHoursGoBy_25 rfl ?_
      refine GX2_46 E hM hk0 dX2_letHoursGoBy_26 ?_
      refine lv_iconst (v := (1 : Int32)) hx hb dX2_letHoursGoBy_29 (by decide) ?_
      refine lv_iadd hx hb dX2_letHoursGoBy_30 ?_
      obtain ⟨m12, em12, hf⟩ := gv_o hf
      refine PX2_46 E hM hS hk0 em12 dX2_letHoursGoBy_31 (fun H locs hM hS => ?_)
      refine lv_aload_n hx hb dX2_letHoursGoBy_34 rfl (lv_at hl 1 rfl) ?_
      obtain ⟨r15, m13, hqq14, hf⟩ := g1_o hf
      refine ga_v (gr_V (As := []) (ci := 2) (rm := { frames := 3, cells := 0, slots := 0, locals := 105 }) E hml hl.1 (c_X2_holdBanquets l X c0 m12 hk0 hqq14) wt_X2_holdBanquets wl_RX2_197 rfl hk0 (by decide) rfl rfl hM hS rfl rfl (Nat.le_trans (by decide) hRf) (Nat.le_trans (by decide) hRl) (Nat.le_trans hc hRc) (Nat.le_trans hs hRs) (Nat.le_of_ble_eq_true rfl) dX2_letHoursGoBy_35 rfl) hS (fun H locs hM hS => ?_)
      refine lv_aload_n hx hb dX2_letHoursGoBy_38 rfl (lv_at hl 1 rfl) ?_
      obtain ⟨r18, m16, hqq17, hf⟩ := g1_o hf
      refine ga_v (gr_V (As := []) (ci := 2) (rm := { frames := 2, cells := 0, slots := 0, locals := 43 }) E hml hl.1 (c_X2_dropHeldBanquets l X c0 m13 hk0 hqq17) wt_X2_dropHeldBanquets wl_RX2_200 rfl hk0 (by decide) rfl rfl hM hS rfl rfl (Nat.le_trans (by decide) hRf) (Nat.le_trans (by decide) hRl) (Nat.le_trans hc hRc) (Nat.le_trans hs hRs) (Nat.le_of_ble_eq_true rfl) dX2_letHoursGoBy_39 rfl) hS (fun H locs hM hS => ?_)
      obtain ⟨x19, ex19, hf⟩ := gv_o hf
      refine lv_iinc (v := x19) (lv' := [(3, .int x19), (2, .int x8), (0, .ref (X.1 + c0)), (1, .int u1)]) hx hb dX2_letHoursGoBy_42 hl (k := 3) rfl (by rw [ex19]; rfl) (by decide) rfl (fun ls hl => ?_)
      refine lv_goto (tgt := 4) hx hb dX2_letHoursGoBy_45 (by decide) ?_
      exact ih x8 x19 m16 _ _ _ hf hM hS (lv_sub hl [2, 3, 1, 0] rfl)
set_option maxRecDepth 100000 in
set_option maxHeartbeats 4000000 in
theorem b_X2_letHoursGoBy {p : Program} {l : Launch} {e : Env} {R : Room} {s : State} {m : MethodId} {args : Array Value} {below : List Frame} {meth : Method} {c : Code} {H : Heap} {locs : List Loc} {ls : Array Slot} {X : gX} (E : gEn p s m args c cX2_letHoursGoBy RX2 X) (hr : meth.sig.returnType = (some .int)) (hlocks : meth.locks = false) (hml : c.maxLocals = 4) (hRf : 4 ≤ R.frames) (hRl : 132 ≤ R.locals) (hRc : 0 ≤ R.cells) (hRs : 0 ≤ R.slots) {c0 : Nat} {u1 : Int32} {m0 : gMem} {res : Int32 × gMem} (hk0 : gk c0 = 2) (hf : f_X2_letHoursGoBy c0 u1 m0 = some res) (hM : gM X m0 H) (hS : va_S (gA X) s.heap H locs) (hl : lv_has ls 4 [(0, .ref (X.1 + c0)), (1, .int u1)]) : W p l e R s m args below meth c H locs 0 0 (MQ below (gQi X res) args s 0 0 (gA X)) (F0 m 0 ls []) := by
  obtain ⟨hx, hb⟩ := (⟨E.1, E.2.1⟩ : _ ∧ _)
  unfold f_X2_letHoursGoBy at hf
  refine lv_iconst (v := (0 : Int32)) hx hb dX2_letHoursGoBy_0 (by decide) ?_
  refine lv_istore_n (lv' := [(2, .int (0 : Int32)), (0, .ref (X.1 + c0)), (1, .int u1)]) hx hb dX2_letHoursGoBy_1 rfl hl (by decide) rfl (fun ls hl => ?_)
  refine lv_iconst (v := (0 : Int32)) hx hb dX2_letHoursGoBy_2 (by decide) ?_
  refine lv_istore_n (lv' := [(3, .int (0 : Int32)), (2, .int (0 : Int32)), (0, .ref (X.1 + c0)), (1, .int u1)]) hx hb dX2_letHoursGoBy_3 rfl hl (by decide) rfl (fun ls hl => ?_)
  refine l_X2_letHoursGoBy_4 E hr hlocks hml hRf hRl hRc hRs (Nat.le_of_ble_eq_true rfl) (Nat.le_of_ble_eq_true rfl) c0 u1 hk0 gF (0 : Int32) (0 : Int32) m0 _ _ _ hf hM hS (lv_sub hl [2, 3, 1, 0] rfl)
theorem c_X2_letHoursGoBy (l : Launch) (X : gX) (c0 : Nat) (u1 : Int32) (m0 : gMem) {res : Int32 × gMem} (hk0 : gk c0 = 2) (hf : f_X2_letHoursGoBy c0 u1 m0 = some res) : Met l yX2_letHoursGoBy (gWs yX2_letHoursGoBy cX2_letHoursGoBy 4 (some .int)) { frames := 4, cells := 0, slots := 0, locals := 132 } (va_Pc [.ref (X.1 + c0), .int u1] (gB X m0)) (gQi X res) 0 0 (gA X) :=
  gMet (own := RX2) (by decide +kernel) rfl (Nat.le_of_ble_eq_true rfl) (fun p e s m args below meth c ls E hr hlocks hml hM hl => b_X2_letHoursGoBy E hr hlocks hml (Nat.le_refl _) (Nat.le_refl _) (Nat.le_refl _) (Nat.le_refl _) hk0 hf hM va_S.rf hl)
def f_X5_addSign (c0 : Nat) (u1 : Int32) (m0 : gMem) : Option (Int32 × gMem) := if (m0 c0 1) < (0 : Int32) then (some ((m0 c0 1), m0)) else (if (60 : Int32) ≤ (m0 c0 1) then (some ((m0 c0 1), m0)) else (if ¬ ((m0 c0 1) < 0 ∨ gl (c0 + 1) ≤ (m0 c0 1).toNatClampNeg) then gv (ms m0 (c0 + 1) (m0 c0 1).toNatClampNeg (vp_nar .char u1)) (fun m5 => gv (ms m5 c0 1 ((m5 c0 1) + (1 : Int32))) (fun m6 => some ((m6 c0 1), m6))) else none))
set_option maxRecDepth 100000 in
set_option maxHeartbeats 4000000 in
theorem b_X5_addSign {p : Program} {l : Launch} {e : Env} {R : Room} {s : State} {m : MethodId} {args : Array Value} {below : List Frame} {meth : Method} {c : Code} {H : Heap} {locs : List Loc} {ls : Array Slot} {X : gX} (E : gEn p s m args c cX5_addSign RX5 X) (hr : meth.sig.returnType = (some .int)) (hlocks : meth.locks = false) (hml : c.maxLocals = 2) (hRf : 0 ≤ R.frames) (hRl : 0 ≤ R.locals) (hRc : 0 ≤ R.cells) (hRs : 0 ≤ R.slots) {c0 : Nat} {u1 : Int32} {m0 : gMem} {res : Int32 × gMem} (hk0 : gk c0 = 5) (hf : f_X5_addSign c0 u1 m0 = some res) (hM : gM X m0 H) (hS : va_S (gA X) s.heap H locs) (hl : lv_has ls 2 [(0, .ref (X.1 + c0)), (1, .int u1)]) : W p l e R s m args below meth c H locs 0 0 (MQ below (gQi X res) args s 0 0 (gA X)) (F0 m 0 ls []) := by
  obtain ⟨hx, hb⟩ := (⟨E.1, E.2.1⟩ : _ ∧ _)
  unfold f_X5_addSign at hf
  refine lv_aload_n hx hb dX5_addSign_0 rfl (lv_at hl 0 rfl) ?_
  refine GX5_22 E hM hk0 dX5_addSign_1 ?_
  refine lv_if_lt (tgt := 36) hx hb dX5_addSign_4 (by decide) (fun h1 => ?_) (fun h1 => ?_)
  · have hf := g_t h1 hf
    refine lv_aload_n hx hb dX5_addSign_36 rfl (lv_at hl 0 rfl) ?_
    refine GX5_22 E hM hk0 dX5_addSign_37 ?_
    exact ge_i E hr hlocks hf hM hS (Nat.le_of_ble_eq_true rfl) (Nat.le_of_ble_eq_true rfl) dX5_addSign_40
  · have hf := g_f h1 hf
    refine lv_aload_n hx hb dX5_addSign_7 rfl (lv_at hl 0 rfl) ?_
    refine GX5_22 E hM hk0 dX5_addSign_8 ?_
    refine lv_bipush (v := (60 : Int32)) hx hb dX5_addSign_11 (by decide) ?_
    refine lv_icmp_ge (tgt := 36) hx hb dX5_addSign_13 (by decide) (fun h2 => ?_) (fun h2 => ?_)
    · have hf := g_t h2 hf
      refine lv_aload_n hx hb dX5_addSign_36 rfl (lv_at hl 0 rfl) ?_
      refine GX5_22 E hM hk0 dX5_addSign_37 ?_
      exact ge_i E hr hlocks hf hM hS (Nat.le_of_ble_eq_true rfl) (Nat.le_of_ble_eq_true rfl) dX5_addSign_40
    · have hf := g_f h2 hf
      refine lv_aload_n hx hb dX5_addSign_16 rfl (lv_at hl 0 rfl) ?_
      refine GX5_9 E hM hk0 dX5_addSign_17 ?_
      have hg3 : gk (c0 + 1) = 21 := gkf_5_0 hk0
      refine lv_aload_n hx hb dX5_addSign_20 rfl (lv_at hl 0 rfl) ?_
      refine GX5_22 E hM hk0 dX5_addSign_21 ?_
      refine lv_iload_n hx hb dX5_addSign_24 rfl (lv_at hl 1 rfl) ?_
      obtain ⟨hi4, hf⟩ := g_ck hf
      obtain ⟨m5, em5, hf⟩ := gv_o hf
      refine gg_cast E (fun c hc => gA_in X hc) hM hS (gk_in hg3 (by decide)) hg3 hi4 em5 dX5_addSign_25 (fun H locs hM hS => ?_)
      refine lv_aload_n hx hb dX5_addSign_26 rfl (lv_at hl 0 rfl) ?_
      refine lv_dup hx hb dX5_addSign_27 rfl ?_
      refine GX5_22 E hM hk0 dX5_addSign_28 ?_
      refine lv_iconst (v := (1 : Int32)) hx hb dX5_addSign_31 (by decide) ?_
      refine lv_iadd hx hb dX5_addSign_32 ?_
      obtain ⟨m6, em6, hf⟩ := gv_o hf
      refine PX5_22 E hM hS hk0 em6 dX5_addSign_33 (fun H locs hM hS => ?_)
      refine lv_aload_n hx hb dX5_addSign_36 rfl (lv_at hl 0 rfl) ?_
      refine GX5_22 E hM hk0 dX5_addSign_37 ?_
      exact ge_i E hr hlocks hf hM hS (Nat.le_of_ble_eq_true rfl) (Nat.le_of_ble_eq_true rfl) dX5_addSign_40
theorem c_X5_addSign (l : Launch) (X : gX) (c0 : Nat) (u1 : Int32) (m0 : gMem) {res : Int32 × gMem} (hk0 : gk c0 = 5) (hf : f_X5_addSign c0 u1 m0 = some res) : Met l yX5_addSign (gWs yX5_addSign cX5_addSign 2 (some .int)) { frames := 0, cells := 0, slots := 0, locals := 0 } (va_Pc [.ref (X.1 + c0), .int u1] (gB X m0)) (gQi X res) 0 0 (gA X) :=
  gMet (own := RX5) (by decide +kernel) rfl (Nat.le_of_ble_eq_true rfl) (fun p e s m args below meth c ls E hr hlocks hml hM hl => b_X5_addSign E hr hlocks hml (Nat.le_refl _) (Nat.le_refl _) (Nat.le_refl _) (Nat.le_refl _) hk0 hf hM va_S.rf hl)
def f_X5_signHere (c0 : Nat) (m0 : gMem) : Option (Int32 × gMem) := if (m0 c0 2) < (0 : Int32) then (some ((-1 : Int32), m0)) else (if (m0 c0 1) ≤ (m0 c0 2) then (some ((-1 : Int32), m0)) else (if (60 : Int32) ≤ (m0 c0 2) then (some ((-1 : Int32), m0)) else (if ¬ ((m0 c0 2) < 0 ∨ gl (c0 + 1) ≤ (m0 c0 2).toNatClampNeg) then some ((m0 (c0 + 1) (m0 c0 2).toNatClampNeg), m0) else none)))
set_option maxRecDepth 100000 in
set_option maxHeartbeats 4000000 in
theorem b_X5_signHere {p : Program} {l : Launch} {e : Env} {R : Room} {s : State} {m : MethodId} {args : Array Value} {below : List Frame} {meth : Method} {c : Code} {H : Heap} {locs : List Loc} {ls : Array Slot} {X : gX} (E : gEn p s m args c cX5_signHere RX5 X) (hr : meth.sig.returnType = (some .int)) (hlocks : meth.locks = false) (hml : c.maxLocals = 1) (hRf : 0 ≤ R.frames) (hRl : 0 ≤ R.locals) (hRc : 0 ≤ R.cells) (hRs : 0 ≤ R.slots) {c0 : Nat} {m0 : gMem} {res : Int32 × gMem} (hk0 : gk c0 = 5) (hf : f_X5_signHere c0 m0 = some res) (hM : gM X m0 H) (hS : va_S (gA X) s.heap H locs) (hl : lv_has ls 1 [(0, .ref (X.1 + c0))]) : W p l e R s m args below meth c H locs 0 0 (MQ below (gQi X res) args s 0 0 (gA X)) (F0 m 0 ls []) := by
  obtain ⟨hx, hb⟩ := (⟨E.1, E.2.1⟩ : _ ∧ _)
  unfold f_X5_signHere at hf
  refine lv_aload_n hx hb dX5_signHere_0 rfl (lv_at hl 0 rfl) ?_
  refine GX5_29 E hM hk0 dX5_signHere_1 ?_
  refine lv_if_lt (tgt := 39) hx hb dX5_signHere_4 (by decide) (fun h1 => ?_) (fun h1 => ?_)
  · have hf := g_t h1 hf
    refine lv_iconst (v := (-1 : Int32)) hx hb dX5_signHere_39 (by decide) ?_
    exact ge_i E hr hlocks hf hM hS (Nat.le_of_ble_eq_true rfl) (Nat.le_of_ble_eq_true rfl) dX5_signHere_40
  · have hf := g_f h1 hf
    refine lv_aload_n hx hb dX5_signHere_7 rfl (lv_at hl 0 rfl) ?_
    refine GX5_29 E hM hk0 dX5_signHere_8 ?_
    refine lv_aload_n hx hb dX5_signHere_11 rfl (lv_at hl 0 rfl) ?_
    refine GX5_22 E hM hk0 dX5_signHere_12 ?_
    refine lv_icmp_ge (tgt := 39) hx hb dX5_signHere_15 (by decide) (fun h2 => ?_) (fun h2 => ?_)
    · have hf := g_t h2 hf
      refine lv_iconst (v := (-1 : Int32)) hx hb dX5_signHere_39 (by decide) ?_
      exact ge_i E hr hlocks hf hM hS (Nat.le_of_ble_eq_true rfl) (Nat.le_of_ble_eq_true rfl) dX5_signHere_40
    · have hf := g_f h2 hf
      refine lv_aload_n hx hb dX5_signHere_18 rfl (lv_at hl 0 rfl) ?_
      refine GX5_29 E hM hk0 dX5_signHere_19 ?_
      refine lv_bipush (v := (60 : Int32)) hx hb dX5_signHere_22 (by decide) ?_
      refine lv_icmp_ge (tgt := 39) hx hb dX5_signHere_24 (by decide) (fun h3 => ?_) (fun h3 => ?_)
      · have hf := g_t h3 hf
        refine lv_iconst (v := (-1 : Int32)) hx hb dX5_signHere_39 (by decide) ?_
        exact ge_i E hr hlocks hf hM hS (Nat.le_of_ble_eq_true rfl) (Nat.le_of_ble_eq_true rfl) dX5_signHere_40
      · have hf := g_f h3 hf
        refine lv_aload_n hx hb dX5_signHere_27 rfl (lv_at hl 0 rfl) ?_
        refine GX5_9 E hM hk0 dX5_signHere_28 ?_
        have hg4 : gk (c0 + 1) = 21 := gkf_5_0 hk0
        refine lv_aload_n hx hb dX5_signHere_31 rfl (lv_at hl 0 rfl) ?_
        refine GX5_29 E hM hk0 dX5_signHere_32 ?_
        obtain ⟨hi5, hf⟩ := g_ck hf
        refine gg_cald E hM (gk_in hg4 (by decide)) hg4 hi5 dX5_signHere_35 ?_
        refine lv_goto (tgt := 40) hx hb dX5_signHere_36 (by decide) ?_
        exact ge_i E hr hlocks hf hM hS (Nat.le_of_ble_eq_true rfl) (Nat.le_of_ble_eq_true rfl) dX5_signHere_40
theorem c_X5_signHere (l : Launch) (X : gX) (c0 : Nat) (m0 : gMem) {res : Int32 × gMem} (hk0 : gk c0 = 5) (hf : f_X5_signHere c0 m0 = some res) : Met l yX5_signHere (gWs yX5_signHere cX5_signHere 1 (some .int)) { frames := 0, cells := 0, slots := 0, locals := 0 } (va_Pc [.ref (X.1 + c0)] (gB X m0)) (gQi X res) 0 0 (gA X) :=
  gMet (own := RX5) (by decide +kernel) rfl (Nat.le_of_ble_eq_true rfl) (fun p e s m args below meth c ls E hr hlocks hml hM hl => b_X5_signHere E hr hlocks hml (Nat.le_refl _) (Nat.le_refl _) (Nat.le_refl _) (Nat.le_refl _) hk0 hf hM va_S.rf hl)
def f_X5_formOf (u0 : Int32) (m0 : gMem) : Option (Nat × gMem) := if u0 = (98 : Int32) then (some (0, m0)) else (if u0 = (104 : Int32) then (some (4, m0)) else (if u0 = (108 : Int32) then (some (1, m0)) else (if u0 = (115 : Int32) then (some (3, m0)) else (if u0 = (116 : Int32) then (some (2, m0)) else (some (5, m0))))))
set_option maxRecDepth 100000 in
set_option maxHeartbeats 4000000 in
theorem b_X5_formOf {p : Program} {l : Launch} {e : Env} {R : Room} {s : State} {m : MethodId} {args : Array Value} {below : List Frame} {meth : Method} {c : Code} {H : Heap} {locs : List Loc} {ls : Array Slot} {X : gX} (E : gEn p s m args c cX5_formOf RX5 X) (hr : meth.sig.returnType = (some (.object "java/lang/String"))) (hlocks : meth.locks = false) (hml : c.maxLocals = 1) (hRf : 0 ≤ R.frames) (hRl : 0 ≤ R.locals) (hRc : 0 ≤ R.cells) (hRs : 0 ≤ R.slots) {u0 : Int32} {m0 : gMem} {res : Nat × gMem}  (hf : f_X5_formOf u0 m0 = some res) (hM : gM X m0 H) (hS : va_S (gA X) s.heap H locs) (hl : lv_has ls 1 [(0, .int u0)]) : W p l e R s m args below meth c H locs 0 0 (MQ below (gQs X res) args s 0 0 (gA X)) (F0 m 0 ls []) := by
  obtain ⟨hx, hb⟩ := (⟨E.1, E.2.1⟩ : _ ∧ _)
  unfold f_X5_formOf at hf
  refine lv_iload_n hx hb dX5_formOf_0 rfl (lv_at hl 0 rfl) ?_
  by_cases h2 : u0 = (98 : Int32)
  · have hf := g_t h2 hf
    refine lv_lookup (tgt := 52) (off := 51) hx hb dX5_formOf_1 (by decide) (by rw [h2]; decide) (by decide) ?_
    refine gg_ldc (i := 0) E rfl dX5_formOf_52 ?_
    exact ge_s E hr hlocks hf hM hS (Nat.le_of_ble_eq_true rfl) (Nat.le_of_ble_eq_true rfl) dX5_formOf_54
  have hf := g_f h2 hf
  by_cases h3 : u0 = (104 : Int32)
  · have hf := g_t h3 hf
    refine lv_lookup (tgt := 64) (off := 63) hx hb dX5_formOf_1 (by decide) (by rw [h3]; decide) (by decide) ?_
    refine gg_ldc (i := 4) E rfl dX5_formOf_64 ?_
    exact ge_s E hr hlocks hf hM hS (Nat.le_of_ble_eq_true rfl) (Nat.le_of_ble_eq_true rfl) dX5_formOf_66
  have hf := g_f h3 hf
  by_cases h4 : u0 = (108 : Int32)
  · have hf := g_t h4 hf
    refine lv_lookup (tgt := 55) (off := 54) hx hb dX5_formOf_1 (by decide) (by rw [h4]; decide) (by decide) ?_
    refine gg_ldc (i := 1) E rfl dX5_formOf_55 ?_
    exact ge_s E hr hlocks hf hM hS (Nat.le_of_ble_eq_true rfl) (Nat.le_of_ble_eq_true rfl) dX5_formOf_57
  have hf := g_f h4 hf
  by_cases h5 : u0 = (115 : Int32)
  · have hf := g_t h5 hf
    refine lv_lookup (tgt := 61) (off := 60) hx hb dX5_formOf_1 (by decide) (by rw [h5]; decide) (by decide) ?_
    refine gg_ldc (i := 3) E rfl dX5_formOf_61 ?_
    exact ge_s E hr hlocks hf hM hS (Nat.le_of_ble_eq_true rfl) (Nat.le_of_ble_eq_true rfl) dX5_formOf_63
  have hf := g_f h5 hf
  by_cases h6 : u0 = (116 : Int32)
  · have hf := g_t h6 hf
    refine lv_lookup (tgt := 58) (off := 57) hx hb dX5_formOf_1 (by decide) (by rw [h6]; decide) (by decide) ?_
    refine gg_ldc (i := 2) E rfl dX5_formOf_58 ?_
    exact ge_s E hr hlocks hf hM hS (Nat.le_of_ble_eq_true rfl) (Nat.le_of_ble_eq_true rfl) dX5_formOf_60
  have hf := g_f h6 hf
  have ah2 := g_tn (z := 98) h2 rfl
  have ah3 := g_tn (z := 104) h3 rfl
  have ah4 := g_tn (z := 108) h4 rfl
  have ah5 := g_tn (z := 115) h5 rfl
  have ah6 := g_tn (z := 116) h6 rfl
  refine lv_lookup (tgt := 67) (off := 66) hx hb dX5_formOf_1 (by decide) (by simp [Op.lookupswitch.offset, ah2, ah3, ah4, ah5, ah6]) (by decide) ?_
  refine gg_ldc (i := 5) E rfl dX5_formOf_67 ?_
  exact ge_s E hr hlocks hf hM hS (Nat.le_of_ble_eq_true rfl) (Nat.le_of_ble_eq_true rfl) dX5_formOf_69
theorem c_X5_formOf (l : Launch) (X : gX) (u0 : Int32) (m0 : gMem) {res : Nat × gMem}  (hf : f_X5_formOf u0 m0 = some res) : Met l yX5_formOf (gWs yX5_formOf cX5_formOf 1 (some (.object "java/lang/String"))) { frames := 0, cells := 0, slots := 0, locals := 0 } (va_Pc [.int u0] (gB X m0)) (gQs X res) 0 0 (gA X) :=
  gMet (own := RX5) (by decide +kernel) rfl (Nat.le_of_ble_eq_true rfl) (fun p e s m args below meth c ls E hr hlocks hml hM hl => b_X5_formOf E hr hlocks hml (Nat.le_refl _) (Nat.le_refl _) (Nat.le_refl _) (Nat.le_refl _)  hf hM va_S.rf hl)
def L_X5_parseNumber_4 (c0 : Nat) (u1 : Int32) : Nat → Int32 → Int32 → gMem → Option (Int32 × gMem)
  | 0, _, _, _ => none
  | n + 1, y2, y3, m0 => if u1 ≤ y3 then (some (y2, m0)) else (g1 (f_X5_signHere c0 m0) (fun r4 m2 => if r4 < (48 : Int32) then (some (y2, m2)) else (if r4 ≤ (57 : Int32) then (if y2 = (-1 : Int32) then (gv ((((0 : Int32) + r4) - (48 : Int32))) (fun x11 => gv (ms m2 c0 2 ((m2 c0 2) + (1 : Int32))) (fun m12 => gv (y3 + (1 : Int32)) (fun x13 => L_X5_parseNumber_4 c0 u1 n x11 x13 m12)))) else (gv ((((y2 * (10 : Int32)) + r4) - (48 : Int32))) (fun x8 => gv (ms m2 c0 2 ((m2 c0 2) + (1 : Int32))) (fun m9 => gv (y3 + (1 : Int32)) (fun x10 => L_X5_parseNumber_4 c0 u1 n x8 x10 m9))))) else (some (y2, m2)))))
def f_X5_parseNumber (c0 : Nat) (u1 : Int32) (m0 : gMem) : Option (Int32 × gMem) := L_X5_parseNumber_4 c0 u1 gF (-1 : Int32) (0 : Int32) m0
set_option maxRecDepth 100000 in
set_option maxHeartbeats 4000000 in
theorem l_X5_parseNumber_4 {p : Program} {l : Launch} {e : Env} {R : Room} {s : State} {m : MethodId} {args : Array Value} {below : List Frame} {meth : Method} {c : Code} {cells slots : Nat} {X : gX} (E : gEn p s m args c cX5_parseNumber RX5 X) (hr : meth.sig.returnType = (some .int)) (hlocks : meth.locks = false) (hml : c.maxLocals = 5) (hRf : 1 ≤ R.frames) (hRl : 20 ≤ R.locals) (hRc : 0 ≤ R.cells) (hRs : 0 ≤ R.slots) (hc : cells ≤ 0) (hs : slots ≤ 0) (c0 : Nat) (u1 : Int32) (hk0 : gk c0 = 5) {res : Int32 × gMem} :
    ∀ (n : Nat) (y2 : Int32) (y3 : Int32) (m0 : gMem) (H : Heap) (locs : List Loc) (ls : Array Slot), L_X5_parseNumber_4 c0 u1 n y2 y3 m0 = some res → gM X m0 H → va_S (gA X) s.heap H locs → lv_has ls 5 [(0, .ref (X.1 + c0)), (1, .int u1), (2, .int y2), (3, .int y3)] → W p l e R s m args below meth c H locs cells slots (MQ below (gQi X res) args s 0 0 (gA X)) (F0 m 4 ls []) := by
  obtain ⟨hx, hb⟩ := (⟨E.1, E.2.1⟩ : _ ∧ _)
  intro n
  induction n with
  | zero =>
    intro _ _ _ _ _ _ hf
    cases hf
  | succ n ih =>
    intro y2 y3 m0 H locs ls hf hM hS hl
    rw [L_X5_parseNumber_4] at hf
    refine lv_iload_n hx hb dX5_parseNumber_4 rfl (lv_at hl 3 rfl) ?_
    refine lv_iload_n hx hb dX5_parseNumber_5 rfl (lv_at hl 1 rfl) ?_
    refine lv_icmp_ge (tgt := 67) hx hb dX5_parseNumber_6 (by decide) (fun h1 => ?_) (fun h1 => ?_)
    · have hf := g_t h1 hf
      refine lv_iload_n hx hb dX5_parseNumber_67 rfl (lv_at hl 2 rfl) ?_
      exact ge_i E hr hlocks hf hM hS hc hs dX5_parseNumber_68
    · have hf := g_f h1 hf
      refine lv_aload_n hx hb dX5_parseNumber_9 rfl (lv_at hl 0 rfl) ?_
      obtain ⟨r4, m2, hqq3, hf⟩ := g1_o hf
      refine ga_i (gr_V (As := []) (ci := 5) (rm := { frames := 0, cells := 0, slots := 0, locals := 0 }) E hml hl.1 (c_X5_signHere l X c0 m0 hk0 hqq3) wt_X5_signHere wl_RX5_36 rfl hk0 (by decide) rfl rfl hM hS rfl rfl (Nat.le_trans (by decide) hRf) (Nat.le_trans (by decide) hRl) (Nat.le_trans hc hRc) (Nat.le_trans hs hRs) (Nat.le_of_ble_eq_true rfl) dX5_parseNumber_10 rfl) hS (fun H locs hM hS => ?_)
      refine lv_istore (lv' := [(4, .int r4), (0, .ref (X.1 + c0)), (1, .int u1), (2, .int y2), (3, .int y3)]) hx hb dX5_parseNumber_13 hl (by decide) rfl (fun ls hl => ?_)
      refine lv_iload hx hb dX5_parseNumber_15 (lv_at hl 0 rfl) ?_
      refine lv_bipush (v := (48 : Int32)) hx hb dX5_parseNumber_17 (by decide) ?_
      refine lv_icmp_lt (tgt := 29) hx hb dX5_parseNumber_19 (by decide) (fun h5 => ?_) (fun h5 => ?_)
      · have hf := g_t h5 hf
        refine lv_iload_n hx hb dX5_parseNumber_29 rfl (lv_at hl 3 rfl) ?_
        exact ge_i E hr hlocks hf hM hS hc hs dX5_parseNumber_30
      · have hf := g_f h5 hf
        refine lv_iload hx hb dX5_parseNumber_22 (lv_at hl 0 rfl) ?_
        refine lv_bipush (v := (57 : Int32)) hx hb dX5_parseNumber_24 (by decide) ?_
        refine lv_icmp_le (tgt := 31) hx hb dX5_parseNumber_26 (by decide) (fun h6 => ?_) (fun h6 => ?_)
        · have hf := g_t h6 hf
          refine lv_iload_n hx hb dX5_parseNumber_31 rfl (lv_at hl 3 rfl) ?_
          refine lv_iconst (v := (-1 : Int32)) hx hb dX5_parseNumber_32 (by decide) ?_
          refine lv_icmp_ne (tgt := 40) hx hb dX5_parseNumber_33 (by decide) (fun h7 => ?_) (fun h7 => ?_)
          · have hf := g_f h7 hf
            refine lv_iload_n hx hb dX5_parseNumber_40 rfl (lv_at hl 3 rfl) ?_
            refine lv_bipush (v := (10 : Int32)) hx hb dX5_parseNumber_41 (by decide) ?_
            refine lv_imul hx hb dX5_parseNumber_43 ?_
            refine lv_iload hx hb dX5_parseNumber_44 (lv_at hl 0 rfl) ?_
            refine lv_iadd hx hb dX5_parseNumber_46 ?_
            refine lv_bipush (v := (48 : Int32)) hx hb dX5_parseNumber_47 (by decide) ?_
            refine lv_isub hx hb dX5_parseNumber_49 ?_
            obtain ⟨x8, ex8, hf⟩ := gv_o hf
            rw [← ex8]
            refine lv_istore_n (lv' := [(2, .int x8), (4, .int r4), (0, .ref (X.1 + c0)), (1, .int u1), (3, .int y3)]) hx hb dX5_parseNumber_50 rfl hl (by decide) rfl (fun ls hl => ?_)
            refine lv_aload_n hx hb dX5_parseNumber_51 rfl (lv_at hl 2 rfl) ?_
            refine lv_dup hx hb dX5_parseNumber_52 rfl ?_
            refine GX5_29 E hM hk0 dX5_parseNumber_53 ?_
            refine lv_iconst (v := (1 : Int32)) hx hb dX5_parseNumber_56 (by decide) ?_
            refine lv_iadd hx hb dX5_parseNumber_57 ?_
            obtain ⟨m9, em9, hf⟩ := gv_o hf
            refine PX5_29 E hM hS hk0 em9 dX5_parseNumber_58 (fun H locs hM hS => ?_)
            obtain ⟨x10, ex10, hf⟩ := gv_o hf
            refine lv_iinc (v := x10) (lv' := [(3, .int x10), (2, .int x8), (4, .int r4), (0, .ref (X.1 + c0)), (1, .int u1)]) hx hb dX5_parseNumber_61 hl (k := 4) rfl (by rw [ex10]; rfl) (by decide) rfl (fun ls hl => ?_)
            refine lv_goto (tgt := 4) hx hb dX5_parseNumber_64 (by decide) ?_
            exact ih x8 x10 m9 _ _ _ hf hM hS (lv_sub hl [3, 4, 1, 0] rfl)
          · have hf := g_t h7 hf
            refine lv_iconst (v := (0 : Int32)) hx hb dX5_parseNumber_36 (by decide) ?_
            refine lv_goto (tgt := 44) hx hb dX5_parseNumber_37 (by decide) ?_
            refine lv_iload hx hb dX5_parseNumber_44 (lv_at hl 0 rfl) ?_
            refine lv_iadd hx hb dX5_parseNumber_46 ?_
            refine lv_bipush (v := (48 : Int32)) hx hb dX5_parseNumber_47 (by decide) ?_
            refine lv_isub hx hb dX5_parseNumber_49 ?_
            obtain ⟨x11, ex11, hf⟩ := gv_o hf
            rw [← ex11]
            refine lv_istore_n (lv' := [(2, .int x11), (4, .int r4), (0, .ref (X.1 + c0)), (1, .int u1), (3, .int y3)]) hx hb dX5_parseNumber_50 rfl hl (by decide) rfl (fun ls hl => ?_)
            refine lv_aload_n hx hb dX5_parseNumber_51 rfl (lv_at hl 2 rfl) ?_
            refine lv_dup hx hb dX5_parseNumber_52 rfl ?_
            refine GX5_29 E hM hk0 dX5_parseNumber_53 ?_
            refine lv_iconst (v := (1 : Int32)) hx hb dX5_parseNumber_56 (by decide) ?_
            refine lv_iadd hx hb dX5_parseNumber_57 ?_
            obtain ⟨m12, em12, hf⟩ := gv_o hf
            refine PX5_29 E hM hS hk0 em12 dX5_parseNumber_58 (fun H locs hM hS => ?_)
            obtain ⟨x13, ex13, hf⟩ := gv_o hf
            refine lv_iinc (v := x13) (lv' := [(3, .int x13), (2, .int x11), (4, .int r4), (0, .ref (X.1 + c0)), (1, .int u1)]) hx hb dX5_parseNumber_61 hl (k := 4) rfl (by rw [ex13]; rfl) (by decide) rfl (fun ls hl => ?_)
            refine lv_goto (tgt := 4) hx hb dX5_parseNumber_64 (by decide) ?_
            exact ih x11 x13 m12 _ _ _ hf hM hS (lv_sub hl [3, 4, 1, 0] rfl)
        · have hf := g_f h6 hf
          refine lv_iload_n hx hb dX5_parseNumber_29 rfl (lv_at hl 3 rfl) ?_
          exact ge_i E hr hlocks hf hM hS hc hs dX5_parseNumber_30
set_option maxRecDepth 100000 in
set_option maxHeartbeats 4000000 in
theorem b_X5_parseNumber {p : Program} {l : Launch} {e : Env} {R : Room} {s : State} {m : MethodId} {args : Array Value} {below : List Frame} {meth : Method} {c : Code} {H : Heap} {locs : List Loc} {ls : Array Slot} {X : gX} (E : gEn p s m args c cX5_parseNumber RX5 X) (hr : meth.sig.returnType = (some .int)) (hlocks : meth.locks = false) (hml : c.maxLocals = 5) (hRf : 1 ≤ R.frames) (hRl : 20 ≤ R.locals) (hRc : 0 ≤ R.cells) (hRs : 0 ≤ R.slots) {c0 : Nat} {u1 : Int32} {m0 : gMem} {res : Int32 × gMem} (hk0 : gk c0 = 5) (hf : f_X5_parseNumber c0 u1 m0 = some res) (hM : gM X m0 H) (hS : va_S (gA X) s.heap H locs) (hl : lv_has ls 5 [(0, .ref (X.1 + c0)), (1, .int u1)]) : W p l e R s m args below meth c H locs 0 0 (MQ below (gQi X res) args s 0 0 (gA X)) (F0 m 0 ls []) := by
  obtain ⟨hx, hb⟩ := (⟨E.1, E.2.1⟩ : _ ∧ _)
  unfold f_X5_parseNumber at hf
  refine lv_iconst (v := (-1 : Int32)) hx hb dX5_parseNumber_0 (by decide) ?_
  refine lv_istore_n (lv' := [(2, .int (-1 : Int32)), (0, .ref (X.1 + c0)), (1, .int u1)]) hx hb dX5_parseNumber_1 rfl hl (by decide) rfl (fun ls hl => ?_)
  refine lv_iconst (v := (0 : Int32)) hx hb dX5_parseNumber_2 (by decide) ?_
  refine lv_istore_n (lv' := [(3, .int (0 : Int32)), (2, .int (-1 : Int32)), (0, .ref (X.1 + c0)), (1, .int u1)]) hx hb dX5_parseNumber_3 rfl hl (by decide) rfl (fun ls hl => ?_)
  refine l_X5_parseNumber_4 E hr hlocks hml hRf hRl hRc hRs (Nat.le_of_ble_eq_true rfl) (Nat.le_of_ble_eq_true rfl) c0 u1 hk0 gF (-1 : Int32) (0 : Int32) m0 _ _ _ hf hM hS (lv_sub hl [2, 3, 1, 0] rfl)
theorem c_X5_parseNumber (l : Launch) (X : gX) (c0 : Nat) (u1 : Int32) (m0 : gMem) {res : Int32 × gMem} (hk0 : gk c0 = 5) (hf : f_X5_parseNumber c0 u1 m0 = some res) : Met l yX5_parseNumber (gWs yX5_parseNumber cX5_parseNumber 5 (some .int)) { frames := 1, cells := 0, slots := 0, locals := 20 } (va_Pc [.ref (X.1 + c0), .int u1] (gB X m0)) (gQi X res) 0 0 (gA X) :=
  gMet (own := RX5) (by decide +kernel) rfl (Nat.le_of_ble_eq_true rfl) (fun p e s m args below meth c ls E hr hlocks hml hM hl => b_X5_parseNumber E hr hlocks hml (Nat.le_refl _) (Nat.le_refl _) (Nat.le_refl _) (Nat.le_refl _) hk0 hf hM va_S.rf hl)
def L_X5_parseOrder_40 (c0 : Nat) (c1 : Nat) (u2 : Nat) : Nat → Int32 → Int32 → gMem → Option (Int32 × gMem)
  | 0, _, _, _ => none
  | n + 1, y3, y4, m0 => g1 (f_J0_length_8abf5 u2 m0) (fun r15 m13 => if r15 ≤ y4 then (some ((1 : Int32), m13)) else (g1 (f_J0_charAt_5068e u2 y4 m13) (fun r19 m17 => if r19 = (100 : Int32) then (if r19 = (100 : Int32) then (g1 (f_X5_parseNumber c0 (1 : Int32) m17) (fun r34 m32 => if r34 = (-1 : Int32) then (some ((0 : Int32), m32)) else (if y3 < (4 : Int32) then (if ¬ (y3 < 0 ∨ gl (c1 + 1) ≤ y3.toNatClampNeg) then gv (ms m32 (c1 + 1) y3.toNatClampNeg r34) (fun m39 => gv (y3 + (1 : Int32)) (fun x40 => gv (y4 + (1 : Int32)) (fun x41 => L_X5_parseOrder_40 c0 c1 u2 n x40 x41 m39))) else none) else (some ((0 : Int32), m32))))) else (g1 (f_X5_parseNumber c0 (2 : Int32) m17) (fun r24 m22 => if r24 = (-1 : Int32) then (some ((0 : Int32), m22)) else (if y3 < (4 : Int32) then (if ¬ (y3 < 0 ∨ gl (c1 + 1) ≤ y3.toNatClampNeg) then gv (ms m22 (c1 + 1) y3.toNatClampNeg r24) (fun m29 => gv (y3 + (1 : Int32)) (fun x30 => gv (y4 + (1 : Int32)) (fun x31 => L_X5_parseOrder_40 c0 c1 u2 n x30 x31 m29))) else none) else (some ((0 : Int32), m22)))))) else (if r19 = (110 : Int32) then (if r19 = (100 : Int32) then (g1 (f_X5_parseNumber c0 (1 : Int32) m17) (fun r62 m60 => if r62 = (-1 : Int32) then (some ((0 : Int32), m60)) else (if y3 < (4 : Int32) then (if ¬ (y3 < 0 ∨ gl (c1 + 1) ≤ y3.toNatClampNeg) then gv (ms m60 (c1 + 1) y3.toNatClampNeg r62) (fun m67 => gv (y3 + (1 : Int32)) (fun x68 => gv (y4 + (1 : Int32)) (fun x69 => L_X5_parseOrder_40 c0 c1 u2 n x68 x69 m67))) else none) else (some ((0 : Int32), m60))))) else (g1 (f_X5_parseNumber c0 (2 : Int32) m17) (fun r52 m50 => if r52 = (-1 : Int32) then (some ((0 : Int32), m50)) else (if y3 < (4 : Int32) then (if ¬ (y3 < 0 ∨ gl (c1 + 1) ≤ y3.toNatClampNeg) then gv (ms m50 (c1 + 1) y3.toNatClampNeg r52) (fun m57 => gv (y3 + (1 : Int32)) (fun x58 => gv (y4 + (1 : Int32)) (fun x59 => L_X5_parseOrder_40 c0 c1 u2 n x58 x59 m57))) else none) else (some ((0 : Int32), m50)))))) else (g1 (f_X5_signHere c0 m17) (fun r45 m43 => if r45 = r19 then (gv (ms m43 c0 2 ((m43 c0 2) + (1 : Int32))) (fun m47 => gv (y4 + (1 : Int32)) (fun x48 => L_X5_parseOrder_40 c0 c1 u2 n y3 x48 m47))) else (some ((0 : Int32), m43))))))))
def f_X5_parseOrder (c0 : Nat) (c1 : Nat) (m0 : gMem) : Option (Int32 × gMem) := g1 (f_X5_signHere c0 m0) (fun r3 m1 => gv (ms m1 c1 0 r3) (fun m4 => g1 (f_X5_formOf (m4 c1 0) m4) (fun r7 m5 => g1 (f_J0_isEmpty_aae02 r7 m5) (fun r10 m8 => if r10 = (0 : Int32) then (gv (ms m8 c0 2 ((m8 c0 2) + (1 : Int32))) (fun m12 => L_X5_parseOrder_40 c0 c1 r7 gF (0 : Int32) (0 : Int32) m12)) else (some ((0 : Int32), m8))))))
set_option maxRecDepth 100000 in
set_option maxHeartbeats 4000000 in
theorem l_X5_parseOrder_40 {p : Program} {l : Launch} {e : Env} {R : Room} {s : State} {m : MethodId} {args : Array Value} {below : List Frame} {meth : Method} {c : Code} {cells slots : Nat} {X : gX} (E : gEn p s m args c cX5_parseOrder RX5 X) (hr : meth.sig.returnType = (some .boolean)) (hlocks : meth.locks = false) (hml : c.maxLocals = 7) (hRf : 4 ≤ R.frames) (hRl : 111 ≤ R.locals) (hRc : 0 ≤ R.cells) (hRs : 0 ≤ R.slots) (hc : cells ≤ 0) (hs : slots ≤ 0) (c0 : Nat) (c1 : Nat) (u2 : Nat) (hk0 : gk c0 = 5) (hk1 : gk c1 = 3) {res : Int32 × gMem} :
    ∀ (n : Nat) (y3 : Int32) (y4 : Int32) (m0 : gMem) (H : Heap) (locs : List Loc) (ls : Array Slot), L_X5_parseOrder_40 c0 c1 u2 n y3 y4 m0 = some res → gM X m0 H → va_S (gA X) s.heap H locs → lv_has ls 7 [(0, .ref (X.1 + c0)), (1, .ref (X.1 + c1)), (2, .ref (X.2.2.2.1 u2)), (3, .int y3), (4, .int y4)] → W p l e R s m args below meth c H locs cells slots (MQ below (gQi X res) args s 0 0 (gA X)) (F0 m 40 ls []) := by
  obtain ⟨hx, hb⟩ := (⟨E.1, E.2.1⟩ : _ ∧ _)
  intro n
  induction n with
  | zero =>
    intro _ _ _ _ _ _ hf
    cases hf
  | succ n ih =>
    intro y3 y4 m0 H locs ls hf hM hS hl
    rw [L_X5_parseOrder_40] at hf
    refine lv_iload hx hb dX5_parseOrder_40 (lv_at hl 4 rfl) ?_
    refine lv_aload_n hx hb dX5_parseOrder_42 rfl (lv_at hl 2 rfl) ?_
    obtain ⟨r15, m13, hqq14, hf⟩ := g1_o hf
    refine ga_i (gr_VS (As := []) (rm := { frames := 1, cells := 0, slots := 0, locals := 30 }) E hml hl.1 (c_J0_length_8abf5 l X u2 m0 hqq14) wt_J0_length_8abf5 wl_RX5_53 rfl (f_J0_length_8abf5_lt hqq14) hM hS rfl rfl (Nat.le_trans (by decide) hRf) (Nat.le_trans (by decide) hRl) (Nat.le_trans hc hRc) (Nat.le_trans hs hRs) (Nat.le_of_ble_eq_true rfl) dX5_parseOrder_43 rfl) hS (fun H locs hM hS => ?_)
    refine lv_icmp_ge (tgt := 146) hx hb dX5_parseOrder_46 (by decide) (fun h16 => ?_) (fun h16 => ?_)
    · have hf := g_t h16 hf
      refine lv_iconst (v := (1 : Int32)) hx hb dX5_parseOrder_146 (by decide) ?_
      exact ge_z E hr rfl hlocks hf hM hS hc hs dX5_parseOrder_147
    · have hf := g_f h16 hf
      refine lv_aload_n hx hb dX5_parseOrder_49 rfl (lv_at hl 2 rfl) ?_
      refine lv_iload hx hb dX5_parseOrder_50 (lv_at hl 4 rfl) ?_
      obtain ⟨r19, m17, hqq18, hf⟩ := g1_o hf
      refine ga_i (gr_VS (As := [.int y4]) (rm := { frames := 3, cells := 0, slots := 0, locals := 90 }) E hml hl.1 (c_J0_charAt_5068e l X u2 y4 m13 hqq18) wt_J0_charAt_5068e wl_RX5_55 rfl (f_J0_charAt_5068e_lt hqq18) hM hS rfl rfl (Nat.le_trans (by decide) hRf) (Nat.le_trans (by decide) hRl) (Nat.le_trans hc hRc) (Nat.le_trans hs hRs) (Nat.le_of_ble_eq_true rfl) dX5_parseOrder_52 rfl) hS (fun H locs hM hS => ?_)
      refine lv_istore (lv' := [(5, .int r19), (0, .ref (X.1 + c0)), (1, .ref (X.1 + c1)), (2, .ref (X.2.2.2.1 u2)), (3, .int y3), (4, .int y4)]) hx hb dX5_parseOrder_55 hl (by decide) rfl (fun ls hl => ?_)
      refine lv_iload hx hb dX5_parseOrder_57 (lv_at hl 0 rfl) ?_
      refine lv_bipush (v := (100 : Int32)) hx hb dX5_parseOrder_59 (by decide) ?_
      refine lv_icmp_eq (tgt := 71) hx hb dX5_parseOrder_61 (by decide) (fun h20 => ?_) (fun h20 => ?_)
      · have hf := g_t h20 hf
        refine lv_aload_n hx hb dX5_parseOrder_71 rfl (lv_at hl 1 rfl) ?_
        refine lv_iload hx hb dX5_parseOrder_72 (lv_at hl 0 rfl) ?_
        refine lv_bipush (v := (100 : Int32)) hx hb dX5_parseOrder_74 (by decide) ?_
        refine lv_icmp_ne (tgt := 83) hx hb dX5_parseOrder_76 (by decide) (fun h21 => ?_) (fun h21 => ?_)
        · have hf := g_f h21 hf
          refine lv_iconst (v := (2 : Int32)) hx hb dX5_parseOrder_83 (by decide) ?_
          obtain ⟨r24, m22, hqq23, hf⟩ := g1_o hf
          refine ga_i (gr_V (As := [.int (2 : Int32)]) (ci := 5) (rm := { frames := 1, cells := 0, slots := 0, locals := 20 }) E hml hl.1 (c_X5_parseNumber l X c0 (2 : Int32) m17 hk0 hqq23) wt_X5_parseNumber wl_RX5_59 rfl hk0 (by decide) rfl rfl hM hS rfl rfl (Nat.le_trans (by decide) hRf) (Nat.le_trans (by decide) hRl) (Nat.le_trans hc hRc) (Nat.le_trans hs hRs) (Nat.le_of_ble_eq_true rfl) dX5_parseOrder_84 rfl) hS (fun H locs hM hS => ?_)
          refine lv_istore (lv' := [(6, .int r24), (5, .int r19), (0, .ref (X.1 + c0)), (1, .ref (X.1 + c1)), (2, .ref (X.2.2.2.1 u2)), (3, .int y3), (4, .int y4)]) hx hb dX5_parseOrder_87 hl (by decide) rfl (fun ls hl => ?_)
          refine lv_iload hx hb dX5_parseOrder_89 (lv_at hl 0 rfl) ?_
          refine lv_iconst (v := (-1 : Int32)) hx hb dX5_parseOrder_91 (by decide) ?_
          refine lv_icmp_eq (tgt := 100) hx hb dX5_parseOrder_92 (by decide) (fun h25 => ?_) (fun h25 => ?_)
          · have hf := g_t h25 hf
            refine lv_iconst (v := (0 : Int32)) hx hb dX5_parseOrder_100 (by decide) ?_
            exact ge_z E hr rfl hlocks hf hM hS hc hs dX5_parseOrder_101
          · have hf := g_f h25 hf
            refine lv_iload_n hx hb dX5_parseOrder_95 rfl (lv_at hl 5 rfl) ?_
            refine lv_iconst (v := (4 : Int32)) hx hb dX5_parseOrder_96 (by decide) ?_
            refine lv_icmp_lt (tgt := 102) hx hb dX5_parseOrder_97 (by decide) (fun h26 => ?_) (fun h26 => ?_)
            · have hf := g_t h26 hf
              refine lv_aload_n hx hb dX5_parseOrder_102 rfl (lv_at hl 3 rfl) ?_
              refine GX5_63 E hM hk1 dX5_parseOrder_103 ?_
              have hg27 : gk (c1 + 1) = 20 := gkf_3_1 hk1
              refine lv_iload_n hx hb dX5_parseOrder_106 rfl (lv_at hl 5 rfl) ?_
              refine lv_iload hx hb dX5_parseOrder_107 (lv_at hl 0 rfl) ?_
              obtain ⟨hi28, hf⟩ := g_ck hf
              obtain ⟨m29, em29, hf⟩ := gv_o hf
              refine gg_iast E (fun c hc => gA_in X hc) hM hS (gk_in hg27 (by decide)) hg27 hi28 em29 dX5_parseOrder_109 (fun H locs hM hS => ?_)
              obtain ⟨x30, ex30, hf⟩ := gv_o hf
              refine lv_iinc (v := x30) (lv' := [(3, .int x30), (6, .int r24), (5, .int r19), (0, .ref (X.1 + c0)), (1, .ref (X.1 + c1)), (2, .ref (X.2.2.2.1 u2)), (4, .int y4)]) hx hb dX5_parseOrder_110 hl (k := 5) rfl (by rw [ex30]; rfl) (by decide) rfl (fun ls hl => ?_)
              refine lv_goto (tgt := 140) hx hb dX5_parseOrder_113 (by decide) ?_
              obtain ⟨x31, ex31, hf⟩ := gv_o hf
              refine lv_iinc (v := x31) (lv' := [(4, .int x31), (3, .int x30), (6, .int r24), (5, .int r19), (0, .ref (X.1 + c0)), (1, .ref (X.1 + c1)), (2, .ref (X.2.2.2.1 u2))]) hx hb dX5_parseOrder_140 hl (k := 6) rfl (by rw [ex31]; rfl) (by decide) rfl (fun ls hl => ?_)
              refine lv_goto (tgt := 40) hx hb dX5_parseOrder_143 (by decide) ?_
              exact ih x30 x31 m29 _ _ _ hf hM hS (lv_sub hl [4, 5, 6, 1, 0] rfl)
            · have hf := g_f h26 hf
              refine lv_iconst (v := (0 : Int32)) hx hb dX5_parseOrder_100 (by decide) ?_
              exact ge_z E hr rfl hlocks hf hM hS hc hs dX5_parseOrder_101
        · have hf := g_t h21 hf
          refine lv_iconst (v := (1 : Int32)) hx hb dX5_parseOrder_79 (by decide) ?_
          refine lv_goto (tgt := 84) hx hb dX5_parseOrder_80 (by decide) ?_
          obtain ⟨r34, m32, hqq33, hf⟩ := g1_o hf
          refine ga_i (gr_V (As := [.int (1 : Int32)]) (ci := 5) (rm := { frames := 1, cells := 0, slots := 0, locals := 20 }) E hml hl.1 (c_X5_parseNumber l X c0 (1 : Int32) m17 hk0 hqq33) wt_X5_parseNumber wl_RX5_59 rfl hk0 (by decide) rfl rfl hM hS rfl rfl (Nat.le_trans (by decide) hRf) (Nat.le_trans (by decide) hRl) (Nat.le_trans hc hRc) (Nat.le_trans hs hRs) (Nat.le_of_ble_eq_true rfl) dX5_parseOrder_84 rfl) hS (fun H locs hM hS => ?_)
          refine lv_istore (lv' := [(6, .int r34), (5, .int r19), (0, .ref (X.1 + c0)), (1, .ref (X.1 + c1)), (2, .ref (X.2.2.2.1 u2)), (3, .int y3), (4, .int y4)]) hx hb dX5_parseOrder_87 hl (by decide) rfl (fun ls hl => ?_)
          refine lv_iload hx hb dX5_parseOrder_89 (lv_at hl 0 rfl) ?_
          refine lv_iconst (v := (-1 : Int32)) hx hb dX5_parseOrder_91 (by decide) ?_
          refine lv_icmp_eq (tgt := 100) hx hb dX5_parseOrder_92 (by decide) (fun h35 => ?_) (fun h35 => ?_)
          · have hf := g_t h35 hf
            refine lv_iconst (v := (0 : Int32)) hx hb dX5_parseOrder_100 (by decide) ?_
            exact ge_z E hr rfl hlocks hf hM hS hc hs dX5_parseOrder_101
          · have hf := g_f h35 hf
            refine lv_iload_n hx hb dX5_parseOrder_95 rfl (lv_at hl 5 rfl) ?_
            refine lv_iconst (v := (4 : Int32)) hx hb dX5_parseOrder_96 (by decide) ?_
            refine lv_icmp_lt (tgt := 102) hx hb dX5_parseOrder_97 (by decide) (fun h36 => ?_) (fun h36 => ?_)
            · have hf := g_t h36 hf
              refine lv_aload_n hx hb dX5_parseOrder_102 rfl (lv_at hl 3 rfl) ?_
              refine GX5_63 E hM hk1 dX5_parseOrder_103 ?_
              have hg37 : gk (c1 + 1) = 20 := gkf_3_1 hk1
              refine lv_iload_n hx hb dX5_parseOrder_106 rfl (lv_at hl 5 rfl) ?_
              refine lv_iload hx hb dX5_parseOrder_107 (lv_at hl 0 rfl) ?_
              obtain ⟨hi38, hf⟩ := g_ck hf
              obtain ⟨m39, em39, hf⟩ := gv_o hf
              refine gg_iast E (fun c hc => gA_in X hc) hM hS (gk_in hg37 (by decide)) hg37 hi38 em39 dX5_parseOrder_109 (fun H locs hM hS => ?_)
              obtain ⟨x40, ex40, hf⟩ := gv_o hf
              refine lv_iinc (v := x40) (lv' := [(3, .int x40), (6, .int r34), (5, .int r19), (0, .ref (X.1 + c0)), (1, .ref (X.1 + c1)), (2, .ref (X.2.2.2.1 u2)), (4, .int y4)]) hx hb dX5_parseOrder_110 hl (k := 5) rfl (by rw [ex40]; rfl) (by decide) rfl (fun ls hl => ?_)
              refine lv_goto (tgt := 140) hx hb dX5_parseOrder_113 (by decide) ?_
              obtain ⟨x41, ex41, hf⟩ := gv_o hf
              refine lv_iinc (v := x41) (lv' := [(4, .int x41), (3, .int x40), (6, .int r34), (5, .int r19), (0, .ref (X.1 + c0)), (1, .ref (X.1 + c1)), (2, .ref (X.2.2.2.1 u2))]) hx hb dX5_parseOrder_140 hl (k := 6) rfl (by rw [ex41]; rfl) (by decide) rfl (fun ls hl => ?_)
              refine lv_goto (tgt := 40) hx hb dX5_parseOrder_143 (by decide) ?_
              exact ih x40 x41 m39 _ _ _ hf hM hS (lv_sub hl [4, 5, 6, 1, 0] rfl)
            · have hf := g_f h36 hf
              refine lv_iconst (v := (0 : Int32)) hx hb dX5_parseOrder_100 (by decide) ?_
              exact ge_z E hr rfl hlocks hf hM hS hc hs dX5_parseOrder_101
      · have hf := g_f h20 hf
        refine lv_iload hx hb dX5_parseOrder_64 (lv_at hl 0 rfl) ?_
        refine lv_bipush (v := (110 : Int32)) hx hb dX5_parseOrder_66 (by decide) ?_
        refine lv_icmp_ne (tgt := 116) hx hb dX5_parseOrder_68 (by decide) (fun h42 => ?_) (fun h42 => ?_)
        · have hf := g_f h42 hf
          refine lv_aload_n hx hb dX5_parseOrder_116 rfl (lv_at hl 1 rfl) ?_
          obtain ⟨r45, m43, hqq44, hf⟩ := g1_o hf
          refine ga_i (gr_V (As := []) (ci := 5) (rm := { frames := 0, cells := 0, slots := 0, locals := 0 }) E hml hl.1 (c_X5_signHere l X c0 m17 hk0 hqq44) wt_X5_signHere wl_RX5_36 rfl hk0 (by decide) rfl rfl hM hS rfl rfl (Nat.le_trans (by decide) hRf) (Nat.le_trans (by decide) hRl) (Nat.le_trans hc hRc) (Nat.le_trans hs hRs) (Nat.le_of_ble_eq_true rfl) dX5_parseOrder_117 rfl) hS (fun H locs hM hS => ?_)
          refine lv_iload hx hb dX5_parseOrder_120 (lv_at hl 0 rfl) ?_
          refine lv_icmp_ne (tgt := 138) hx hb dX5_parseOrder_122 (by decide) (fun h46 => ?_) (fun h46 => ?_)
          · have hf := g_f h46 hf
            refine lv_iconst (v := (0 : Int32)) hx hb dX5_parseOrder_138 (by decide) ?_
            exact ge_z E hr rfl hlocks hf hM hS hc hs dX5_parseOrder_139
          · have hf := g_t h46 hf
            refine lv_aload_n hx hb dX5_parseOrder_125 rfl (lv_at hl 1 rfl) ?_
            refine lv_dup hx hb dX5_parseOrder_126 rfl ?_
            refine GX5_29 E hM hk0 dX5_parseOrder_127 ?_
            refine lv_iconst (v := (1 : Int32)) hx hb dX5_parseOrder_130 (by decide) ?_
            refine lv_iadd hx hb dX5_parseOrder_131 ?_
            obtain ⟨m47, em47, hf⟩ := gv_o hf
            refine PX5_29 E hM hS hk0 em47 dX5_parseOrder_132 (fun H locs hM hS => ?_)
            refine lv_goto (tgt := 140) hx hb dX5_parseOrder_135 (by decide) ?_
            obtain ⟨x48, ex48, hf⟩ := gv_o hf
            refine lv_iinc (v := x48) (lv' := [(4, .int x48), (5, .int r19), (0, .ref (X.1 + c0)), (1, .ref (X.1 + c1)), (2, .ref (X.2.2.2.1 u2)), (3, .int y3)]) hx hb dX5_parseOrder_140 hl (k := 5) rfl (by rw [ex48]; rfl) (by decide) rfl (fun ls hl => ?_)
            refine lv_goto (tgt := 40) hx hb dX5_parseOrder_143 (by decide) ?_
            exact ih y3 x48 m47 _ _ _ hf hM hS (lv_sub hl [2, 3, 4, 5, 0] rfl)
        · have hf := g_t h42 hf
          refine lv_aload_n hx hb dX5_parseOrder_71 rfl (lv_at hl 1 rfl) ?_
          refine lv_iload hx hb dX5_parseOrder_72 (lv_at hl 0 rfl) ?_
          refine lv_bipush (v := (100 : Int32)) hx hb dX5_parseOrder_74 (by decide) ?_
          refine lv_icmp_ne (tgt := 83) hx hb dX5_parseOrder_76 (by decide) (fun h49 => ?_) (fun h49 => ?_)
          · have hf := g_f h49 hf
            refine lv_iconst (v := (2 : Int32)) hx hb dX5_parseOrder_83 (by decide) ?_
            obtain ⟨r52, m50, hqq51, hf⟩ := g1_o hf
            refine ga_i (gr_V (As := [.int (2 : Int32)]) (ci := 5) (rm := { frames := 1, cells := 0, slots := 0, locals := 20 }) E hml hl.1 (c_X5_parseNumber l X c0 (2 : Int32) m17 hk0 hqq51) wt_X5_parseNumber wl_RX5_59 rfl hk0 (by decide) rfl rfl hM hS rfl rfl (Nat.le_trans (by decide) hRf) (Nat.le_trans (by decide) hRl) (Nat.le_trans hc hRc) (Nat.le_trans hs hRs) (Nat.le_of_ble_eq_true rfl) dX5_parseOrder_84 rfl) hS (fun H locs hM hS => ?_)
            refine lv_istore (lv' := [(6, .int r52), (5, .int r19), (0, .ref (X.1 + c0)), (1, .ref (X.1 + c1)), (2, .ref (X.2.2.2.1 u2)), (3, .int y3), (4, .int y4)]) hx hb dX5_parseOrder_87 hl (by decide) rfl (fun ls hl => ?_)
            refine lv_iload hx hb dX5_parseOrder_89 (lv_at hl 0 rfl) ?_
            refine lv_iconst (v := (-1 : Int32)) hx hb dX5_parseOrder_91 (by decide) ?_
            refine lv_icmp_eq (tgt := 100) hx hb dX5_parseOrder_92 (by decide) (fun h53 => ?_) (fun h53 => ?_)
            · have hf := g_t h53 hf
              refine lv_iconst (v := (0 : Int32)) hx hb dX5_parseOrder_100 (by decide) ?_
              exact ge_z E hr rfl hlocks hf hM hS hc hs dX5_parseOrder_101
            · have hf := g_f h53 hf
              refine lv_iload_n hx hb dX5_parseOrder_95 rfl (lv_at hl 5 rfl) ?_
              refine lv_iconst (v := (4 : Int32)) hx hb dX5_parseOrder_96 (by decide) ?_
              refine lv_icmp_lt (tgt := 102) hx hb dX5_parseOrder_97 (by decide) (fun h54 => ?_) (fun h54 => ?_)
              · have hf := g_t h54 hf
                refine lv_aload_n hx hb dX5_parseOrder_102 rfl (lv_at hl 3 rfl) ?_
                refine GX5_63 E hM hk1 dX5_parseOrder_103 ?_
                have hg55 : gk (c1 + 1) = 20 := gkf_3_1 hk1
                refine lv_iload_n hx hb dX5_parseOrder_106 rfl (lv_at hl 5 rfl) ?_
                refine lv_iload hx hb dX5_parseOrder_107 (lv_at hl 0 rfl) ?_
                obtain ⟨hi56, hf⟩ := g_ck hf
                obtain ⟨m57, em57, hf⟩ := gv_o hf
                refine gg_iast E (fun c hc => gA_in X hc) hM hS (gk_in hg55 (by decide)) hg55 hi56 em57 dX5_parseOrder_109 (fun H locs hM hS => ?_)
                obtain ⟨x58, ex58, hf⟩ := gv_o hf
                refine lv_iinc (v := x58) (lv' := [(3, .int x58), (6, .int r52), (5, .int r19), (0, .ref (X.1 + c0)), (1, .ref (X.1 + c1)), (2, .ref (X.2.2.2.1 u2)), (4, .int y4)]) hx hb dX5_parseOrder_110 hl (k := 5) rfl (by rw [ex58]; rfl) (by decide) rfl (fun ls hl => ?_)
                refine lv_goto (tgt := 140) hx hb dX5_parseOrder_113 (by decide) ?_
                obtain ⟨x59, ex59, hf⟩ := gv_o hf
                refine lv_iinc (v := x59) (lv' := [(4, .int x59), (3, .int x58), (6, .int r52), (5, .int r19), (0, .ref (X.1 + c0)), (1, .ref (X.1 + c1)), (2, .ref (X.2.2.2.1 u2))]) hx hb dX5_parseOrder_140 hl (k := 6) rfl (by rw [ex59]; rfl) (by decide) rfl (fun ls hl => ?_)
                refine lv_goto (tgt := 40) hx hb dX5_parseOrder_143 (by decide) ?_
                exact ih x58 x59 m57 _ _ _ hf hM hS (lv_sub hl [4, 5, 6, 1, 0] rfl)
              · have hf := g_f h54 hf
                refine lv_iconst (v := (0 : Int32)) hx hb dX5_parseOrder_100 (by decide) ?_
                exact ge_z E hr rfl hlocks hf hM hS hc hs dX5_parseOrder_101
          · have hf := g_t h49 hf
            refine lv_iconst (v := (1 : Int32)) hx hb dX5_parseOrder_79 (by decide) ?_
            refine lv_goto (tgt := 84) hx hb dX5_parseOrder_80 (by decide) ?_
            obtain ⟨r62, m60, hqq61, hf⟩ := g1_o hf
            refine ga_i (gr_V (As := [.int (1 : Int32)]) (ci := 5) (rm := { frames := 1, cells := 0, slots := 0, locals := 20 }) E hml hl.1 (c_X5_parseNumber l X c0 (1 : Int32) m17 hk0 hqq61) wt_X5_parseNumber wl_RX5_59 rfl hk0 (by decide) rfl rfl hM hS rfl rfl (Nat.le_trans (by decide) hRf) (Nat.le_trans (by decide) hRl) (Nat.le_trans hc hRc) (Nat.le_trans hs hRs) (Nat.le_of_ble_eq_true rfl) dX5_parseOrder_84 rfl) hS (fun H locs hM hS => ?_)
            refine lv_istore (lv' := [(6, .int r62), (5, .int r19), (0, .ref (X.1 + c0)), (1, .ref (X.1 + c1)), (2, .ref (X.2.2.2.1 u2)), (3, .int y3), (4, .int y4)]) hx hb dX5_parseOrder_87 hl (by decide) rfl (fun ls hl => ?_)
            refine lv_iload hx hb dX5_parseOrder_89 (lv_at hl 0 rfl) ?_
            refine lv_iconst (v := (-1 : Int32)) hx hb dX5_parseOrder_91 (by decide) ?_
            refine lv_icmp_eq (tgt := 100) hx hb dX5_parseOrder_92 (by decide) (fun h63 => ?_) (fun h63 => ?_)
            · have hf := g_t h63 hf
              refine lv_iconst (v := (0 : Int32)) hx hb dX5_parseOrder_100 (by decide) ?_
              exact ge_z E hr rfl hlocks hf hM hS hc hs dX5_parseOrder_101
            · have hf := g_f h63 hf
              refine lv_iload_n hx hb dX5_parseOrder_95 rfl (lv_at hl 5 rfl) ?_
              refine lv_iconst (v := (4 : Int32)) hx hb dX5_parseOrder_96 (by decide) ?_
              refine lv_icmp_lt (tgt := 102) hx hb dX5_parseOrder_97 (by decide) (fun h64 => ?_) (fun h64 => ?_)
              · have hf := g_t h64 hf
                refine lv_aload_n hx hb dX5_parseOrder_102 rfl (lv_at hl 3 rfl) ?_
                refine GX5_63 E hM hk1 dX5_parseOrder_103 ?_
                have hg65 : gk (c1 + 1) = 20 := gkf_3_1 hk1
                refine lv_iload_n hx hb dX5_parseOrder_106 rfl (lv_at hl 5 rfl) ?_
                refine lv_iload hx hb dX5_parseOrder_107 (lv_at hl 0 rfl) ?_
                obtain ⟨hi66, hf⟩ := g_ck hf
                obtain ⟨m67, em67, hf⟩ := gv_o hf
                refine gg_iast E (fun c hc => gA_in X hc) hM hS (gk_in hg65 (by decide)) hg65 hi66 em67 dX5_parseOrder_109 (fun H locs hM hS => ?_)
                obtain ⟨x68, ex68, hf⟩ := gv_o hf
                refine lv_iinc (v := x68) (lv' := [(3, .int x68), (6, .int r62), (5, .int r19), (0, .ref (X.1 + c0)), (1, .ref (X.1 + c1)), (2, .ref (X.2.2.2.1 u2)), (4, .int y4)]) hx hb dX5_parseOrder_110 hl (k := 5) rfl (by rw [ex68]; rfl) (by decide) rfl (fun ls hl => ?_)
                refine lv_goto (tgt := 140) hx hb dX5_parseOrder_113 (by decide) ?_
                obtain ⟨x69, ex69, hf⟩ := gv_o hf
                refine lv_iinc (v := x69) (lv' := [(4, .int x69), (3, .int x68), (6, .int r62), (5, .int r19), (0, .ref (X.1 + c0)), (1, .ref (X.1 + c1)), (2, .ref (X.2.2.2.1 u2))]) hx hb dX5_parseOrder_140 hl (k := 6) rfl (by rw [ex69]; rfl) (by decide) rfl (fun ls hl => ?_)
                refine lv_goto (tgt := 40) hx hb dX5_parseOrder_143 (by decide) ?_
                exact ih x68 x69 m67 _ _ _ hf hM hS (lv_sub hl [4, 5, 6, 1, 0] rfl)
              · have hf := g_f h64 hf
                refine lv_iconst (v := (0 : Int32)) hx hb dX5_parseOrder_100 (by decide) ?_
                exact ge_z E hr rfl hlocks hf hM hS hc hs dX5_parseOrder_101
set_option maxRecDepth 100000 in
set_option maxHeartbeats 4000000 in
theorem b_X5_parseOrder {p : Program} {l : Launch} {e : Env} {R : Room} {s : State} {m : MethodId} {args : Array Value} {below : List Frame} {meth : Method} {c : Code} {H : Heap} {locs : List Loc} {ls : Array Slot} {X : gX} (E : gEn p s m args c cX5_parseOrder RX5 X) (hr : meth.sig.returnType = (some .boolean)) (hlocks : meth.locks = false) (hml : c.maxLocals = 7) (hRf : 4 ≤ R.frames) (hRl : 111 ≤ R.locals) (hRc : 0 ≤ R.cells) (hRs : 0 ≤ R.slots) {c0 : Nat} {c1 : Nat} {m0 : gMem} {res : Int32 × gMem} (hk0 : gk c0 = 5) (hk1 : gk c1 = 3) (hf : f_X5_parseOrder c0 c1 m0 = some res) (hM : gM X m0 H) (hS : va_S (gA X) s.heap H locs) (hl : lv_has ls 7 [(0, .ref (X.1 + c0)), (1, .ref (X.1 + c1))]) : W p l e R s m args below meth c H locs 0 0 (MQ below (gQi X res) args s 0 0 (gA X)) (F0 m 0 ls []) := by
  obtain ⟨hx, hb⟩ := (⟨E.1, E.2.1⟩ : _ ∧ _)
  unfold f_X5_parseOrder at hf
  refine lv_aload_n hx hb dX5_parseOrder_0 rfl (lv_at hl 1 rfl) ?_
  refine lv_aload_n hx hb dX5_parseOrder_1 rfl (lv_at hl 0 rfl) ?_
  obtain ⟨r3, m1, hqq2, hf⟩ := g1_o hf
  refine ga_i (gr_V (As := []) (ci := 5) (rm := { frames := 0, cells := 0, slots := 0, locals := 0 }) E hml hl.1 (c_X5_signHere l X c0 m0 hk0 hqq2) wt_X5_signHere wl_RX5_36 rfl hk0 (by decide) rfl rfl hM hS rfl rfl (Nat.le_trans (by decide) hRf) (Nat.le_trans (by decide) hRl) (Nat.le_trans (Nat.le_of_ble_eq_true rfl) hRc) (Nat.le_trans (Nat.le_of_ble_eq_true rfl) hRs) (Nat.le_of_ble_eq_true rfl) dX5_parseOrder_2 rfl) hS (fun H locs hM hS => ?_)
  obtain ⟨m4, em4, hf⟩ := gv_o hf
  refine PX5_40 E hM hS hk1 em4 dX5_parseOrder_5 (fun H locs hM hS => ?_)
  refine lv_aload_n hx hb dX5_parseOrder_8 rfl (lv_at hl 1 rfl) ?_
  refine GX5_40 E hM hk1 dX5_parseOrder_9 ?_
  obtain ⟨r7, m5, hqq6, hf⟩ := g1_o hf
  refine ga_s (gr_S (As := [.int (m4 c1 0)]) (rm := { frames := 0, cells := 0, slots := 0, locals := 0 }) E hml hl.1 (c_X5_formOf l X (m4 c1 0) m4 hqq6) wt_X5_formOf wl_RX5_43 rfl hM hS rfl rfl (Nat.le_trans (by decide) hRf) (Nat.le_trans (by decide) hRl) (Nat.le_trans (Nat.le_of_ble_eq_true rfl) hRc) (Nat.le_trans (Nat.le_of_ble_eq_true rfl) hRs) (Nat.le_of_ble_eq_true rfl) dX5_parseOrder_12 rfl) hS (fun H locs hM hS => ?_)
  refine lv_astore_n (lv' := [(2, .ref (X.2.2.2.1 r7)), (0, .ref (X.1 + c0)), (1, .ref (X.1 + c1))]) hx hb dX5_parseOrder_15 rfl hl (by decide) rfl (fun ls hl => ?_)
  refine lv_aload_n hx hb dX5_parseOrder_16 rfl (lv_at hl 0 rfl) ?_
  obtain ⟨r10, m8, hqq9, hf⟩ := g1_o hf
  refine ga_i (gr_VS (As := []) (rm := { frames := 0, cells := 0, slots := 0, locals := 0 }) E hml hl.1 (c_J0_isEmpty_aae02 l X r7 m5 hqq9) wt_J0_isEmpty_aae02 wl_RX5_47 rfl (f_J0_isEmpty_aae02_lt hqq9) hM hS rfl rfl (Nat.le_trans (by decide) hRf) (Nat.le_trans (by decide) hRl) (Nat.le_trans (Nat.le_of_ble_eq_true rfl) hRc) (Nat.le_trans (Nat.le_of_ble_eq_true rfl) hRs) (Nat.le_of_ble_eq_true rfl) dX5_parseOrder_17 rfl) hS (fun H locs hM hS => ?_)
  refine lv_if_eq (tgt := 25) hx hb dX5_parseOrder_20 (by decide) (fun h11 => ?_) (fun h11 => ?_)
  · have hf := g_t h11 hf
    refine lv_aload_n hx hb dX5_parseOrder_25 rfl (lv_at hl 1 rfl) ?_
    refine lv_dup hx hb dX5_parseOrder_26 rfl ?_
    refine GX5_29 E hM hk0 dX5_parseOrder_27 ?_
    refine lv_iconst (v := (1 : Int32)) hx hb dX5_parseOrder_30 (by decide) ?_
    refine lv_iadd hx hb dX5_parseOrder_31 ?_
    obtain ⟨m12, em12, hf⟩ := gv_o hf
    refine PX5_29 E hM hS hk0 em12 dX5_parseOrder_32 (fun H locs hM hS => ?_)
    refine lv_iconst (v := (0 : Int32)) hx hb dX5_parseOrder_35 (by decide) ?_
    refine lv_istore_n (lv' := [(3, .int (0 : Int32)), (2, .ref (X.2.2.2.1 r7)), (0, .ref (X.1 + c0)), (1, .ref (X.1 + c1))]) hx hb dX5_parseOrder_36 rfl hl (by decide) rfl (fun ls hl => ?_)
    refine lv_iconst (v := (0 : Int32)) hx hb dX5_parseOrder_37 (by decide) ?_
    refine lv_istore (lv' := [(4, .int (0 : Int32)), (3, .int (0 : Int32)), (2, .ref (X.2.2.2.1 r7)), (0, .ref (X.1 + c0)), (1, .ref (X.1 + c1))]) hx hb dX5_parseOrder_38 hl (by decide) rfl (fun ls hl => ?_)
    refine l_X5_parseOrder_40 E hr hlocks hml hRf hRl hRc hRs (Nat.le_of_ble_eq_true rfl) (Nat.le_of_ble_eq_true rfl) c0 c1 r7 hk0 hk1 gF (0 : Int32) (0 : Int32) m12 _ _ _ hf hM hS (lv_sub hl [3, 4, 2, 1, 0] rfl)
  · have hf := g_f h11 hf
    refine lv_iconst (v := (0 : Int32)) hx hb dX5_parseOrder_23 (by decide) ?_
    exact ge_z E hr rfl hlocks hf hM hS (Nat.le_of_ble_eq_true rfl) (Nat.le_of_ble_eq_true rfl) dX5_parseOrder_24
theorem c_X5_parseOrder (l : Launch) (X : gX) (c0 : Nat) (c1 : Nat) (m0 : gMem) {res : Int32 × gMem} (hk0 : gk c0 = 5) (hk1 : gk c1 = 3) (hf : f_X5_parseOrder c0 c1 m0 = some res) : Met l yX5_parseOrder (gWs yX5_parseOrder cX5_parseOrder 7 (some .boolean)) { frames := 4, cells := 0, slots := 0, locals := 111 } (va_Pc [.ref (X.1 + c0), .ref (X.1 + c1)] (gB X m0)) (gQi X res) 0 0 (gA X) :=
  gMet (own := RX5) (by decide +kernel) rfl (Nat.le_of_ble_eq_true rfl) (fun p e s m args below meth c ls E hr hlocks hml hM hl => b_X5_parseOrder E hr hlocks hml (Nat.le_refl _) (Nat.le_refl _) (Nat.le_refl _) (Nat.le_refl _) hk0 hk1 hf hM va_S.rf hl)
def L_X5_parseOrders_12 (c0 : Nat) : Nat → Int32 → gMem → Option (Int32 × gMem)
  | 0, _, _ => none
  | n + 1, y1, m0 => if (20 : Int32) ≤ y1 then (some ((m0 c0 2), m0)) else (if ¬ (y1 < 0 ∨ gl (c0 + 2) ≤ y1.toNatClampNeg) then g1 (f_X5_parseOrder c0 ((c0 + 2) + (1 + 2 * y1.toNatClampNeg)) m0) (fun r9 m7 => if r9 = (0 : Int32) then (some ((m7 c0 2), m7)) else (gv (ms m7 c0 4 ((m7 c0 4) + (1 : Int32))) (fun m11 => if (m11 c0 2) < (m11 c0 1) then (g1 (f_X5_signHere c0 m11) (fun r15 m13 => if r15 = (59 : Int32) then (gv (ms m13 c0 2 ((m13 c0 2) + (1 : Int32))) (fun m17 => gv (y1 + (1 : Int32)) (fun x18 => L_X5_parseOrders_12 c0 n x18 m17))) else (some ((m13 c0 2), m13)))) else (some ((-1 : Int32), m11))))) else none)
def f_X5_parseOrders (c0 : Nat) (m0 : gMem) : Option (Int32 × gMem) := gv (ms m0 c0 2 (0 : Int32)) (fun m1 => gv (ms m1 c0 4 (0 : Int32)) (fun m2 => L_X5_parseOrders_12 c0 gF (0 : Int32) m2))
set_option maxRecDepth 100000 in
set_option maxHeartbeats 4000000 in
theorem l_X5_parseOrders_12 {p : Program} {l : Launch} {e : Env} {R : Room} {s : State} {m : MethodId} {args : Array Value} {below : List Frame} {meth : Method} {c : Code} {cells slots : Nat} {X : gX} (E : gEn p s m args c cX5_parseOrders RX5 X) (hr : meth.sig.returnType = (some .int)) (hlocks : meth.locks = false) (hml : c.maxLocals = 2) (hRf : 5 ≤ R.frames) (hRl : 137 ≤ R.locals) (hRc : 0 ≤ R.cells) (hRs : 0 ≤ R.slots) (hc : cells ≤ 0) (hs : slots ≤ 0) (c0 : Nat) (hk0 : gk c0 = 5) {res : Int32 × gMem} :
    ∀ (n : Nat) (y1 : Int32) (m0 : gMem) (H : Heap) (locs : List Loc) (ls : Array Slot), L_X5_parseOrders_12 c0 n y1 m0 = some res → gM X m0 H → va_S (gA X) s.heap H locs → lv_has ls 2 [(0, .ref (X.1 + c0)), (1, .int y1)] → W p l e R s m args below meth c H locs cells slots (MQ below (gQi X res) args s 0 0 (gA X)) (F0 m 12 ls []) := by
  obtain ⟨hx, hb⟩ := (⟨E.1, E.2.1⟩ : _ ∧ _)
  intro n
  induction n with
  | zero =>
    intro _ _ _ _ _ hf
    cases hf
  | succ n ih =>
    intro y1 m0 H locs ls hf hM hS hl
    rw [L_X5_parseOrders_12] at hf
    refine lv_iload_n hx hb dX5_parseOrders_12 rfl (lv_at hl 1 rfl) ?_
    refine lv_bipush (v := (20 : Int32)) hx hb dX5_parseOrders_13 (by decide) ?_
    refine lv_icmp_ge (tgt := 89) hx hb dX5_parseOrders_15 (by decide) (fun h3 => ?_) (fun h3 => ?_)
    · have hf := g_t h3 hf
      refine lv_aload_n hx hb dX5_parseOrders_89 rfl (lv_at hl 0 rfl) ?_
      refine GX5_29 E hM hk0 dX5_parseOrders_90 ?_
      exact ge_i E hr hlocks hf hM hS hc hs dX5_parseOrders_93
    · have hf := g_f h3 hf
      refine lv_aload_n hx hb dX5_parseOrders_18 rfl (lv_at hl 0 rfl) ?_
      refine lv_aload_n hx hb dX5_parseOrders_19 rfl (lv_at hl 0 rfl) ?_
      refine GX5_17 E hM hk0 dX5_parseOrders_20 ?_
      have hg4 : gk (c0 + 2) = 28 := gkf_5_3 hk0
      refine lv_iload_n hx hb dX5_parseOrders_23 rfl (lv_at hl 1 rfl) ?_
      obtain ⟨hi5, hf⟩ := g_ck hf
      refine gg_aald (k := 28) E hM (gk_in hg4 (by decide)) hg4 (by decide) rfl hi5 rfl rfl dX5_parseOrders_24 ?_
      have hg6 : gk ((c0 + 2) + (1 + 2 * y1.toNatClampNeg)) = 3 := gka_28 hg4 hi5
      obtain ⟨r9, m7, hqq8, hf⟩ := g1_o hf
      refine ga_i (gr_V (As := [.ref (X.1 + ((c0 + 2) + (1 + 2 * y1.toNatClampNeg)))]) (ci := 5) (rm := { frames := 4, cells := 0, slots := 0, locals := 111 }) E hml hl.1 (c_X5_parseOrder l X c0 ((c0 + 2) + (1 + 2 * y1.toNatClampNeg)) m0 hk0 hg6 hqq8) wt_X5_parseOrder wl_RX5_32 rfl hk0 (by decide) rfl rfl hM hS rfl rfl (Nat.le_trans (by decide) hRf) (Nat.le_trans (by decide) hRl) (Nat.le_trans hc hRc) (Nat.le_trans hs hRs) (Nat.le_of_ble_eq_true rfl) dX5_parseOrders_25 rfl) hS (fun H locs hM hS => ?_)
      refine lv_if_ne (tgt := 36) hx hb dX5_parseOrders_28 (by decide) (fun h10 => ?_) (fun h10 => ?_)
      · have hf := g_f h10 hf
        refine lv_aload_n hx hb dX5_parseOrders_36 rfl (lv_at hl 0 rfl) ?_
        refine lv_dup hx hb dX5_parseOrders_37 rfl ?_
        refine GX5_26 E hM hk0 dX5_parseOrders_38 ?_
        refine lv_iconst (v := (1 : Int32)) hx hb dX5_parseOrders_41 (by decide) ?_
        refine lv_iadd hx hb dX5_parseOrders_42 ?_
        obtain ⟨m11, em11, hf⟩ := gv_o hf
        refine PX5_26 E hM hS hk0 em11 dX5_parseOrders_43 (fun H locs hM hS => ?_)
        refine lv_aload_n hx hb dX5_parseOrders_46 rfl (lv_at hl 0 rfl) ?_
        refine GX5_29 E hM hk0 dX5_parseOrders_47 ?_
        refine lv_aload_n hx hb dX5_parseOrders_50 rfl (lv_at hl 0 rfl) ?_
        refine GX5_22 E hM hk0 dX5_parseOrders_51 ?_
        refine lv_icmp_lt (tgt := 59) hx hb dX5_parseOrders_54 (by decide) (fun h12 => ?_) (fun h12 => ?_)
        · have hf := g_t h12 hf
          refine lv_aload_n hx hb dX5_parseOrders_59 rfl (lv_at hl 0 rfl) ?_
          obtain ⟨r15, m13, hqq14, hf⟩ := g1_o hf
          refine ga_i (gr_V (As := []) (ci := 5) (rm := { frames := 0, cells := 0, slots := 0, locals := 0 }) E hml hl.1 (c_X5_signHere l X c0 m11 hk0 hqq14) wt_X5_signHere wl_RX5_36 rfl hk0 (by decide) rfl rfl hM hS rfl rfl (Nat.le_trans (by decide) hRf) (Nat.le_trans (by decide) hRl) (Nat.le_trans hc hRc) (Nat.le_trans hs hRs) (Nat.le_of_ble_eq_true rfl) dX5_parseOrders_60 rfl) hS (fun H locs hM hS => ?_)
          refine lv_bipush (v := (59 : Int32)) hx hb dX5_parseOrders_63 (by decide) ?_
          refine lv_icmp_eq (tgt := 73) hx hb dX5_parseOrders_65 (by decide) (fun h16 => ?_) (fun h16 => ?_)
          · have hf := g_t h16 hf
            refine lv_aload_n hx hb dX5_parseOrders_73 rfl (lv_at hl 0 rfl) ?_
            refine lv_dup hx hb dX5_parseOrders_74 rfl ?_
            refine GX5_29 E hM hk0 dX5_parseOrders_75 ?_
            refine lv_iconst (v := (1 : Int32)) hx hb dX5_parseOrders_78 (by decide) ?_
            refine lv_iadd hx hb dX5_parseOrders_79 ?_
            obtain ⟨m17, em17, hf⟩ := gv_o hf
            refine PX5_29 E hM hS hk0 em17 dX5_parseOrders_80 (fun H locs hM hS => ?_)
            obtain ⟨x18, ex18, hf⟩ := gv_o hf
            refine lv_iinc (v := x18) (lv' := [(1, .int x18), (0, .ref (X.1 + c0))]) hx hb dX5_parseOrders_83 hl (k := 1) rfl (by rw [ex18]; rfl) (by decide) rfl (fun ls hl => ?_)
            refine lv_goto (tgt := 12) hx hb dX5_parseOrders_86 (by decide) ?_
            exact ih x18 m17 _ _ _ hf hM hS (lv_sub hl [1, 0] rfl)
          · have hf := g_f h16 hf
            refine lv_aload_n hx hb dX5_parseOrders_68 rfl (lv_at hl 0 rfl) ?_
            refine GX5_29 E hM hk0 dX5_parseOrders_69 ?_
            exact ge_i E hr hlocks hf hM hS hc hs dX5_parseOrders_72
        · have hf := g_f h12 hf
          refine lv_iconst (v := (-1 : Int32)) hx hb dX5_parseOrders_57 (by decide) ?_
          exact ge_i E hr hlocks hf hM hS hc hs dX5_parseOrders_58
      · have hf := g_t h10 hf
        refine lv_aload_n hx hb dX5_parseOrders_31 rfl (lv_at hl 0 rfl) ?_
        refine GX5_29 E hM hk0 dX5_parseOrders_32 ?_
        exact ge_i E hr hlocks hf hM hS hc hs dX5_parseOrders_35
set_option maxRecDepth 100000 in
set_option maxHeartbeats 4000000 in
theorem b_X5_parseOrders {p : Program} {l : Launch} {e : Env} {R : Room} {s : State} {m : MethodId} {args : Array Value} {below : List Frame} {meth : Method} {c : Code} {H : Heap} {locs : List Loc} {ls : Array Slot} {X : gX} (E : gEn p s m args c cX5_parseOrders RX5 X) (hr : meth.sig.returnType = (some .int)) (hlocks : meth.locks = false) (hml : c.maxLocals = 2) (hRf : 5 ≤ R.frames) (hRl : 137 ≤ R.locals) (hRc : 0 ≤ R.cells) (hRs : 0 ≤ R.slots) {c0 : Nat} {m0 : gMem} {res : Int32 × gMem} (hk0 : gk c0 = 5) (hf : f_X5_parseOrders c0 m0 = some res) (hM : gM X m0 H) (hS : va_S (gA X) s.heap H locs) (hl : lv_has ls 2 [(0, .ref (X.1 + c0))]) : W p l e R s m args below meth c H locs 0 0 (MQ below (gQi X res) args s 0 0 (gA X)) (F0 m 0 ls []) := by
  obtain ⟨hx, hb⟩ := (⟨E.1, E.2.1⟩ : _ ∧ _)
  unfold f_X5_parseOrders at hf
  refine lv_aload_n hx hb dX5_parseOrders_0 rfl (lv_at hl 0 rfl) ?_
  refine lv_iconst (v := (0 : Int32)) hx hb dX5_parseOrders_1 (by decide) ?_
  obtain ⟨m1, em1, hf⟩ := gv_o hf
  refine PX5_29 E hM hS hk0 em1 dX5_parseOrders_2 (fun H locs hM hS => ?_)
  refine lv_aload_n hx hb dX5_parseOrders_5 rfl (lv_at hl 0 rfl) ?_
  refine lv_iconst (v := (0 : Int32)) hx hb dX5_parseOrders_6 (by decide) ?_
  obtain ⟨m2, em2, hf⟩ := gv_o hf
  refine PX5_26 E hM hS hk0 em2 dX5_parseOrders_7 (fun H locs hM hS => ?_)
  refine lv_iconst (v := (0 : Int32)) hx hb dX5_parseOrders_10 (by decide) ?_
  refine lv_istore_n (lv' := [(1, .int (0 : Int32)), (0, .ref (X.1 + c0))]) hx hb dX5_parseOrders_11 rfl hl (by decide) rfl (fun ls hl => ?_)
  refine l_X5_parseOrders_12 E hr hlocks hml hRf hRl hRc hRs (Nat.le_of_ble_eq_true rfl) (Nat.le_of_ble_eq_true rfl) c0 hk0 gF (0 : Int32) m2 _ _ _ hf hM hS (lv_sub hl [1, 0] rfl)
theorem c_X5_parseOrders (l : Launch) (X : gX) (c0 : Nat) (m0 : gMem) {res : Int32 × gMem} (hk0 : gk c0 = 5) (hf : f_X5_parseOrders c0 m0 = some res) : Met l yX5_parseOrders (gWs yX5_parseOrders cX5_parseOrders 2 (some .int)) { frames := 5, cells := 0, slots := 0, locals := 137 } (va_Pc [.ref (X.1 + c0)] (gB X m0)) (gQi X res) 0 0 (gA X) :=
  gMet (own := RX5) (by decide +kernel) rfl (Nat.le_of_ble_eq_true rfl) (fun p e s m args below meth c ls E hr hlocks hml hM hl => b_X5_parseOrders E hr hlocks hml (Nat.le_refl _) (Nat.le_refl _) (Nat.le_refl _) (Nat.le_refl _) hk0 hf hM va_S.rf hl)
def f_X5_orderAt (c0 : Nat) (u1 : Int32) (m0 : gMem) : Option (Option Nat × gMem) := if u1 < (0 : Int32) then (some (none, m0)) else (if (m0 c0 4) ≤ u1 then (some (none, m0)) else (if (20 : Int32) ≤ u1 then (some (none, m0)) else (if ¬ (u1 < 0 ∨ gl (c0 + 2) ≤ u1.toNatClampNeg) then some (some ((c0 + 2) + (1 + 2 * u1.toNatClampNeg)), m0) else none)))
set_option maxRecDepth 100000 in
set_option maxHeartbeats 4000000 in
theorem b_X5_orderAt {p : Program} {l : Launch} {e : Env} {R : Room} {s : State} {m : MethodId} {args : Array Value} {below : List Frame} {meth : Method} {c : Code} {H : Heap} {locs : List Loc} {ls : Array Slot} {X : gX} (E : gEn p s m args c cX5_orderAt RX5 X) (hr : meth.sig.returnType = (some (.object "SugarTowers$Order"))) (hlocks : meth.locks = false) (hml : c.maxLocals = 2) (hRf : 0 ≤ R.frames) (hRl : 0 ≤ R.locals) (hRc : 0 ≤ R.cells) (hRs : 0 ≤ R.slots) {c0 : Nat} {u1 : Int32} {m0 : gMem} {res : Option Nat × gMem} (hk0 : gk c0 = 5) (hf : f_X5_orderAt c0 u1 m0 = some res) (hM : gM X m0 H) (hS : va_S (gA X) s.heap H locs) (hl : lv_has ls 2 [(0, .ref (X.1 + c0)), (1, .int u1)]) : W p l e R s m args below meth c H locs 0 0 (MQ below (gQo X res) args s 0 0 (gA X)) (F0 m 0 ls []) := by
  obtain ⟨hx, hb⟩ := (⟨E.1, E.2.1⟩ : _ ∧ _)
  unfold f_X5_orderAt at hf
  refine lv_iload_n hx hb dX5_orderAt_0 rfl (lv_at hl 1 rfl) ?_
  refine lv_if_lt (tgt := 27) hx hb dX5_orderAt_1 (by decide) (fun h1 => ?_) (fun h1 => ?_)
  · have hf := g_t h1 hf
    refine lv_null hx hb dX5_orderAt_27 ?_
    exact ge_o E hr hlocks hf rfl hM hS (Nat.le_of_ble_eq_true rfl) (Nat.le_of_ble_eq_true rfl) dX5_orderAt_28
  · have hf := g_f h1 hf
    refine lv_iload_n hx hb dX5_orderAt_4 rfl (lv_at hl 1 rfl) ?_
    refine lv_aload_n hx hb dX5_orderAt_5 rfl (lv_at hl 0 rfl) ?_
    refine GX5_26 E hM hk0 dX5_orderAt_6 ?_
    refine lv_icmp_ge (tgt := 27) hx hb dX5_orderAt_9 (by decide) (fun h2 => ?_) (fun h2 => ?_)
    · have hf := g_t h2 hf
      refine lv_null hx hb dX5_orderAt_27 ?_
      exact ge_o E hr hlocks hf rfl hM hS (Nat.le_of_ble_eq_true rfl) (Nat.le_of_ble_eq_true rfl) dX5_orderAt_28
    · have hf := g_f h2 hf
      refine lv_iload_n hx hb dX5_orderAt_12 rfl (lv_at hl 1 rfl) ?_
      refine lv_bipush (v := (20 : Int32)) hx hb dX5_orderAt_13 (by decide) ?_
      refine lv_icmp_ge (tgt := 27) hx hb dX5_orderAt_15 (by decide) (fun h3 => ?_) (fun h3 => ?_)
      · have hf := g_t h3 hf
        refine lv_null hx hb dX5_orderAt_27 ?_
        exact ge_o E hr hlocks hf rfl hM hS (Nat.le_of_ble_eq_true rfl) (Nat.le_of_ble_eq_true rfl) dX5_orderAt_28
      · have hf := g_f h3 hf
        refine lv_aload_n hx hb dX5_orderAt_18 rfl (lv_at hl 0 rfl) ?_
        refine GX5_17 E hM hk0 dX5_orderAt_19 ?_
        have hg4 : gk (c0 + 2) = 28 := gkf_5_3 hk0
        refine lv_iload_n hx hb dX5_orderAt_22 rfl (lv_at hl 1 rfl) ?_
        obtain ⟨hi5, hf⟩ := g_ck hf
        refine gg_aald (k := 28) E hM (gk_in hg4 (by decide)) hg4 (by decide) rfl hi5 rfl rfl dX5_orderAt_23 ?_
        have hg6 : gk ((c0 + 2) + (1 + 2 * u1.toNatClampNeg)) = 3 := gka_28 hg4 hi5
        refine lv_goto (tgt := 28) hx hb dX5_orderAt_24 (by decide) ?_
        exact ge_o E hr hlocks hf rfl hM hS (Nat.le_of_ble_eq_true rfl) (Nat.le_of_ble_eq_true rfl) dX5_orderAt_28
theorem c_X5_orderAt (l : Launch) (X : gX) (c0 : Nat) (u1 : Int32) (m0 : gMem) {res : Option Nat × gMem} (hk0 : gk c0 = 5) (hf : f_X5_orderAt c0 u1 m0 = some res) : Met l yX5_orderAt (gWs yX5_orderAt cX5_orderAt 2 (some (.object "SugarTowers$Order"))) { frames := 0, cells := 0, slots := 0, locals := 0 } (va_Pc [.ref (X.1 + c0), .int u1] (gB X m0)) (gQo X res) 0 0 (gA X) :=
  gMet (own := RX5) (by decide +kernel) rfl (Nat.le_of_ble_eq_true rfl) (fun p e s m args below meth c ls E hr hlocks hml hM hl => b_X5_orderAt E hr hlocks hml (Nat.le_refl _) (Nat.le_refl _) (Nat.le_refl _) (Nat.le_refl _) hk0 hf hM va_S.rf hl)
def L_X2_busyTongs_4 (c0 : Nat) : Nat → Int32 → Int32 → gMem → Option (Int32 × gMem)
  | 0, _, _, _ => none
  | n + 1, y1, y2, m0 => if (m0 c0 6) ≤ y2 then (some (y1, m0)) else (if (4 : Int32) ≤ y2 then (some (y1, m0)) else (if ¬ (y2 < 0 ∨ gl (c0 + 4) ≤ y2.toNatClampNeg) then if (m0 ((c0 + 4) + (3 + y2.toNatClampNeg)) 1) ≤ (0 : Int32) then (gv ((y1 + (0 : Int32))) (fun x7 => gv (y2 + (1 : Int32)) (fun x8 => L_X2_busyTongs_4 c0 n x7 x8 m0))) else (gv ((y1 + (1 : Int32))) (fun x9 => gv (y2 + (1 : Int32)) (fun x10 => L_X2_busyTongs_4 c0 n x9 x10 m0))) else none))
def f_X2_busyTongs (c0 : Nat) (m0 : gMem) : Option (Int32 × gMem) := L_X2_busyTongs_4 c0 gF (0 : Int32) (0 : Int32) m0
set_option maxRecDepth 100000 in
set_option maxHeartbeats 4000000 in
theorem l_X2_busyTongs_4 {p : Program} {l : Launch} {e : Env} {R : Room} {s : State} {m : MethodId} {args : Array Value} {below : List Frame} {meth : Method} {c : Code} {cells slots : Nat} {X : gX} (E : gEn p s m args c cX2_busyTongs RX2 X) (hr : meth.sig.returnType = (some .int)) (hlocks : meth.locks = false) (hml : c.maxLocals = 3) (hRf : 0 ≤ R.frames) (hRl : 0 ≤ R.locals) (hRc : 0 ≤ R.cells) (hRs : 0 ≤ R.slots) (hc : cells ≤ 0) (hs : slots ≤ 0) (c0 : Nat) (hk0 : gk c0 = 2) {res : Int32 × gMem} :
    ∀ (n : Nat) (y1 : Int32) (y2 : Int32) (m0 : gMem) (H : Heap) (locs : List Loc) (ls : Array Slot), L_X2_busyTongs_4 c0 n y1 y2 m0 = some res → gM X m0 H → va_S (gA X) s.heap H locs → lv_has ls 3 [(0, .ref (X.1 + c0)), (1, .int y1), (2, .int y2)] → W p l e R s m args below meth c H locs cells slots (MQ below (gQi X res) args s 0 0 (gA X)) (F0 m 4 ls []) := by
  obtain ⟨hx, hb⟩ := (⟨E.1, E.2.1⟩ : _ ∧ _)
  intro n
  induction n with
  | zero =>
    intro _ _ _ _ _ _ hf
    cases hf
  | succ n ih =>
    intro y1 y2 m0 H locs ls hf hM hS hl
    rw [L_X2_busyTongs_4] at hf
    refine lv_iload_n hx hb dX2_busyTongs_4 rfl (lv_at hl 2 rfl) ?_
    refine lv_aload_n hx hb dX2_busyTongs_5 rfl (lv_at hl 0 rfl) ?_
    refine GX2_55 E hM hk0 dX2_busyTongs_6 ?_
    refine lv_icmp_ge (tgt := 43) hx hb dX2_busyTongs_9 (by decide) (fun h1 => ?_) (fun h1 => ?_)
    · have hf := g_t h1 hf
      refine lv_iload_n hx hb dX2_busyTongs_43 rfl (lv_at hl 1 rfl) ?_
      exact ge_i E hr hlocks hf hM hS hc hs dX2_busyTongs_44
    · have hf := g_f h1 hf
      refine lv_iload_n hx hb dX2_busyTongs_12 rfl (lv_at hl 2 rfl) ?_
      refine lv_iconst (v := (4 : Int32)) hx hb dX2_busyTongs_13 (by decide) ?_
      refine lv_icmp_ge (tgt := 43) hx hb dX2_busyTongs_14 (by decide) (fun h2 => ?_) (fun h2 => ?_)
      · have hf := g_t h2 hf
        refine lv_iload_n hx hb dX2_busyTongs_43 rfl (lv_at hl 1 rfl) ?_
        exact ge_i E hr hlocks hf hM hS hc hs dX2_busyTongs_44
      · have hf := g_f h2 hf
        refine lv_iload_n hx hb dX2_busyTongs_17 rfl (lv_at hl 1 rfl) ?_
        refine lv_aload_n hx hb dX2_busyTongs_18 rfl (lv_at hl 0 rfl) ?_
        refine GX2_27 E hM hk0 dX2_busyTongs_19 ?_
        have hg3 : gk (c0 + 4) = 24 := gkf_2_5 hk0
        refine lv_iload_n hx hb dX2_busyTongs_22 rfl (lv_at hl 2 rfl) ?_
        obtain ⟨hi4, hf⟩ := g_ck hf
        refine gg_aald (k := 24) E hM (gk_in hg3 (by decide)) hg3 (by decide) rfl hi4 rfl rfl dX2_busyTongs_23 ?_
        have hg5 : gk ((c0 + 4) + (3 + y2.toNatClampNeg)) = 6 := gka_24 hg3 hi4
        refine GX2_118 E hM hg5 dX2_busyTongs_24 ?_
        refine lv_if_le (tgt := 34) hx hb dX2_busyTongs_27 (by decide) (fun h6 => ?_) (fun h6 => ?_)
        · have hf := g_t h6 hf
          refine lv_iconst (v := (0 : Int32)) hx hb dX2_busyTongs_34 (by decide) ?_
          refine lv_iadd hx hb dX2_busyTongs_35 ?_
          obtain ⟨x7, ex7, hf⟩ := gv_o hf
          rw [← ex7]
          refine lv_istore_n (lv' := [(1, .int x7), (0, .ref (X.1 + c0)), (2, .int y2)]) hx hb dX2_busyTongs_36 rfl hl (by decide) rfl (fun ls hl => ?_)
          obtain ⟨x8, ex8, hf⟩ := gv_o hf
          refine lv_iinc (v := x8) (lv' := [(2, .int x8), (1, .int x7), (0, .ref (X.1 + c0))]) hx hb dX2_busyTongs_37 hl (k := 2) rfl (by rw [ex8]; rfl) (by decide) rfl (fun ls hl => ?_)
          refine lv_goto (tgt := 4) hx hb dX2_busyTongs_40 (by decide) ?_
          exact ih x7 x8 m0 _ _ _ hf hM hS (lv_sub hl [2, 1, 0] rfl)
        · have hf := g_f h6 hf
          refine lv_iconst (v := (1 : Int32)) hx hb dX2_busyTongs_30 (by decide) ?_
          refine lv_goto (tgt := 35) hx hb dX2_busyTongs_31 (by decide) ?_
          refine lv_iadd hx hb dX2_busyTongs_35 ?_
          obtain ⟨x9, ex9, hf⟩ := gv_o hf
          rw [← ex9]
          refine lv_istore_n (lv' := [(1, .int x9), (0, .ref (X.1 + c0)), (2, .int y2)]) hx hb dX2_busyTongs_36 rfl hl (by decide) rfl (fun ls hl => ?_)
          obtain ⟨x10, ex10, hf⟩ := gv_o hf
          refine lv_iinc (v := x10) (lv' := [(2, .int x10), (1, .int x9), (0, .ref (X.1 + c0))]) hx hb dX2_busyTongs_37 hl (k := 2) rfl (by rw [ex10]; rfl) (by decide) rfl (fun ls hl => ?_)
          refine lv_goto (tgt := 4) hx hb dX2_busyTongs_40 (by decide) ?_
          exact ih x9 x10 m0 _ _ _ hf hM hS (lv_sub hl [2, 1, 0] rfl)
set_option maxRecDepth 100000 in
set_option maxHeartbeats 4000000 in
theorem b_X2_busyTongs {p : Program} {l : Launch} {e : Env} {R : Room} {s : State} {m : MethodId} {args : Array Value} {below : List Frame} {meth : Method} {c : Code} {H : Heap} {locs : List Loc} {ls : Array Slot} {X : gX} (E : gEn p s m args c cX2_busyTongs RX2 X) (hr : meth.sig.returnType = (some .int)) (hlocks : meth.locks = false) (hml : c.maxLocals = 3) (hRf : 0 ≤ R.frames) (hRl : 0 ≤ R.locals) (hRc : 0 ≤ R.cells) (hRs : 0 ≤ R.slots) {c0 : Nat} {m0 : gMem} {res : Int32 × gMem} (hk0 : gk c0 = 2) (hf : f_X2_busyTongs c0 m0 = some res) (hM : gM X m0 H) (hS : va_S (gA X) s.heap H locs) (hl : lv_has ls 3 [(0, .ref (X.1 + c0))]) : W p l e R s m args below meth c H locs 0 0 (MQ below (gQi X res) args s 0 0 (gA X)) (F0 m 0 ls []) := by
  obtain ⟨hx, hb⟩ := (⟨E.1, E.2.1⟩ : _ ∧ _)
  unfold f_X2_busyTongs at hf
  refine lv_iconst (v := (0 : Int32)) hx hb dX2_busyTongs_0 (by decide) ?_
  refine lv_istore_n (lv' := [(1, .int (0 : Int32)), (0, .ref (X.1 + c0))]) hx hb dX2_busyTongs_1 rfl hl (by decide) rfl (fun ls hl => ?_)
  refine lv_iconst (v := (0 : Int32)) hx hb dX2_busyTongs_2 (by decide) ?_
  refine lv_istore_n (lv' := [(2, .int (0 : Int32)), (1, .int (0 : Int32)), (0, .ref (X.1 + c0))]) hx hb dX2_busyTongs_3 rfl hl (by decide) rfl (fun ls hl => ?_)
  refine l_X2_busyTongs_4 E hr hlocks hml hRf hRl hRc hRs (Nat.le_of_ble_eq_true rfl) (Nat.le_of_ble_eq_true rfl) c0 hk0 gF (0 : Int32) (0 : Int32) m0 _ _ _ hf hM hS (lv_sub hl [2, 1, 0] rfl)
theorem c_X2_busyTongs (l : Launch) (X : gX) (c0 : Nat) (m0 : gMem) {res : Int32 × gMem} (hk0 : gk c0 = 2) (hf : f_X2_busyTongs c0 m0 = some res) : Met l yX2_busyTongs (gWs yX2_busyTongs cX2_busyTongs 3 (some .int)) { frames := 0, cells := 0, slots := 0, locals := 0 } (va_Pc [.ref (X.1 + c0)] (gB X m0)) (gQi X res) 0 0 (gA X) :=
  gMet (own := RX2) (by decide +kernel) rfl (Nat.le_of_ble_eq_true rfl) (fun p e s m args below meth c ls E hr hlocks hml hM hl => b_X2_busyTongs E hr hlocks hml (Nat.le_refl _) (Nat.le_refl _) (Nat.le_refl _) (Nat.le_refl _) hk0 hf hM va_S.rf hl)
def L_X8_sumOf_10 (c2 : Nat) (u3 : Int32) : Nat → Int32 → Int32 → gMem → Option (Int32 × gMem)
  | 0, _, _, _ => none
  | n + 1, y1, y4, m0 => if u3 ≤ y4 then (some (y1, m0)) else (if ¬ (y4 < 0 ∨ gl c2 ≤ y4.toNatClampNeg) then gv ((m0 c2 y4.toNatClampNeg)) (fun x4 => gv ((y1 + x4)) (fun x5 => gv (y4 + (1 : Int32)) (fun x6 => L_X8_sumOf_10 c2 u3 n x5 x6 m0))) else none)
def f_X8_sumOf (c0 : Nat) (m0 : gMem) : Option (Int32 × gMem) := gv ((Int32.ofNat (gl c0))) (fun x1 => L_X8_sumOf_10 c0 x1 gF (0 : Int32) (0 : Int32) m0)
set_option maxRecDepth 100000 in
set_option maxHeartbeats 4000000 in
theorem l_X8_sumOf_10 {p : Program} {l : Launch} {e : Env} {R : Room} {s : State} {m : MethodId} {args : Array Value} {below : List Frame} {meth : Method} {c : Code} {cells slots : Nat} {X : gX} (E : gEn p s m args c cX8_sumOf RX8 X) (hr : meth.sig.returnType = (some .int)) (hlocks : meth.locks = false) (hml : c.maxLocals = 6) (hRf : 0 ≤ R.frames) (hRl : 0 ≤ R.locals) (hRc : 0 ≤ R.cells) (hRs : 0 ≤ R.slots) (hc : cells ≤ 0) (hs : slots ≤ 0) (c2 : Nat) (u3 : Int32) (hk2 : gk c2 = 20) {res : Int32 × gMem} :
    ∀ (n : Nat) (y1 : Int32) (y4 : Int32) (m0 : gMem) (H : Heap) (locs : List Loc) (ls : Array Slot), L_X8_sumOf_10 c2 u3 n y1 y4 m0 = some res → gM X m0 H → va_S (gA X) s.heap H locs → lv_has ls 6 [(1, .int y1), (2, .ref (X.1 + c2)), (3, .int u3), (4, .int y4)] → W p l e R s m args below meth c H locs cells slots (MQ below (gQi X res) args s 0 0 (gA X)) (F0 m 10 ls []) := by
  obtain ⟨hx, hb⟩ := (⟨E.1, E.2.1⟩ : _ ∧ _)
  intro n
  induction n with
  | zero =>
    intro _ _ _ _ _ _ hf
    cases hf
  | succ n ih =>
    intro y1 y4 m0 H locs ls hf hM hS hl
    rw [L_X8_sumOf_10] at hf
    refine lv_iload hx hb dX8_sumOf_10 (lv_at hl 3 rfl) ?_
    refine lv_iload_n hx hb dX8_sumOf_12 rfl (lv_at hl 2 rfl) ?_
    refine lv_icmp_ge (tgt := 33) hx hb dX8_sumOf_13 (by decide) (fun h2 => ?_) (fun h2 => ?_)
    · have hf := g_t h2 hf
      refine lv_iload_n hx hb dX8_sumOf_33 rfl (lv_at hl 0 rfl) ?_
      exact ge_i E hr hlocks hf hM hS hc hs dX8_sumOf_34
    · have hf := g_f h2 hf
      refine lv_aload_n hx hb dX8_sumOf_16 rfl (lv_at hl 1 rfl) ?_
      refine lv_iload hx hb dX8_sumOf_17 (lv_at hl 3 rfl) ?_
      obtain ⟨hi3, hf⟩ := g_ck hf
      refine gg_iald E hM (gk_in hk2 (by decide)) hk2 hi3 dX8_sumOf_19 ?_
      obtain ⟨x4, ex4, hf⟩ := gv_o hf
      rw [← ex4]
      refine lv_istore (lv' := [(5, .int x4), (1, .int y1), (2, .ref (X.1 + c2)), (3, .int u3), (4, .int y4)]) hx hb dX8_sumOf_20 hl (by decide) rfl (fun ls hl => ?_)
      refine lv_iload_n hx hb dX8_sumOf_22 rfl (lv_at hl 1 rfl) ?_
      refine lv_iload hx hb dX8_sumOf_23 (lv_at hl 0 rfl) ?_
      refine lv_iadd hx hb dX8_sumOf_25 ?_
      obtain ⟨x5, ex5, hf⟩ := gv_o hf
      rw [← ex5]
      refine lv_istore_n (lv' := [(1, .int x5), (5, .int x4), (2, .ref (X.1 + c2)), (3, .int u3), (4, .int y4)]) hx hb dX8_sumOf_26 rfl hl (by decide) rfl (fun ls hl => ?_)
      obtain ⟨x6, ex6, hf⟩ := gv_o hf
      refine lv_iinc (v := x6) (lv' := [(4, .int x6), (1, .int x5), (5, .int x4), (2, .ref (X.1 + c2)), (3, .int u3)]) hx hb dX8_sumOf_27 hl (k := 4) rfl (by rw [ex6]; rfl) (by decide) rfl (fun ls hl => ?_)
      refine lv_goto (tgt := 10) hx hb dX8_sumOf_30 (by decide) ?_
      exact ih x5 x6 m0 _ _ _ hf hM hS (lv_sub hl [1, 3, 4, 0] rfl)
set_option maxRecDepth 100000 in
set_option maxHeartbeats 4000000 in
theorem b_X8_sumOf {p : Program} {l : Launch} {e : Env} {R : Room} {s : State} {m : MethodId} {args : Array Value} {below : List Frame} {meth : Method} {c : Code} {H : Heap} {locs : List Loc} {ls : Array Slot} {X : gX} (E : gEn p s m args c cX8_sumOf RX8 X) (hr : meth.sig.returnType = (some .int)) (hlocks : meth.locks = false) (hml : c.maxLocals = 6) (hRf : 0 ≤ R.frames) (hRl : 0 ≤ R.locals) (hRc : 0 ≤ R.cells) (hRs : 0 ≤ R.slots) {c0 : Nat} {m0 : gMem} {res : Int32 × gMem} (hk0 : gk c0 = 20) (hf : f_X8_sumOf c0 m0 = some res) (hM : gM X m0 H) (hS : va_S (gA X) s.heap H locs) (hl : lv_has ls 6 [(0, .ref (X.1 + c0))]) : W p l e R s m args below meth c H locs 0 0 (MQ below (gQi X res) args s 0 0 (gA X)) (F0 m 0 ls []) := by
  obtain ⟨hx, hb⟩ := (⟨E.1, E.2.1⟩ : _ ∧ _)
  unfold f_X8_sumOf at hf
  refine lv_iconst (v := (0 : Int32)) hx hb dX8_sumOf_0 (by decide) ?_
  refine lv_istore_n (lv' := [(1, .int (0 : Int32)), (0, .ref (X.1 + c0))]) hx hb dX8_sumOf_1 rfl hl (by decide) rfl (fun ls hl => ?_)
  refine lv_aload_n hx hb dX8_sumOf_2 rfl (lv_at hl 1 rfl) ?_
  refine lv_astore_n (lv' := [(2, .ref (X.1 + c0)), (1, .int (0 : Int32)), (0, .ref (X.1 + c0))]) hx hb dX8_sumOf_3 rfl hl (by decide) rfl (fun ls hl => ?_)
  refine lv_aload_n hx hb dX8_sumOf_4 rfl (lv_at hl 0 rfl) ?_
  refine gg_alen E hM (gk_in hk0 (by decide)) hk0 dX8_sumOf_5 ?_
  obtain ⟨x1, ex1, hf⟩ := gv_o hf
  rw [← ex1]
  refine lv_istore_n (lv' := [(3, .int x1), (2, .ref (X.1 + c0)), (1, .int (0 : Int32)), (0, .ref (X.1 + c0))]) hx hb dX8_sumOf_6 rfl hl (by decide) rfl (fun ls hl => ?_)
  refine lv_iconst (v := (0 : Int32)) hx hb dX8_sumOf_7 (by decide) ?_
  refine lv_istore (lv' := [(4, .int (0 : Int32)), (3, .int x1), (2, .ref (X.1 + c0)), (1, .int (0 : Int32)), (0, .ref (X.1 + c0))]) hx hb dX8_sumOf_8 hl (by decide) rfl (fun ls hl => ?_)
  refine l_X8_sumOf_10 E hr hlocks hml hRf hRl hRc hRs (Nat.le_of_ble_eq_true rfl) (Nat.le_of_ble_eq_true rfl) c0 x1 hk0 gF (0 : Int32) (0 : Int32) m0 _ _ _ hf hM hS (lv_sub hl [3, 2, 1, 0] rfl)
theorem c_X8_sumOf (l : Launch) (X : gX) (c0 : Nat) (m0 : gMem) {res : Int32 × gMem} (hk0 : gk c0 = 20) (hf : f_X8_sumOf c0 m0 = some res) : Met l yX8_sumOf (gWs yX8_sumOf cX8_sumOf 6 (some .int)) { frames := 0, cells := 0, slots := 0, locals := 0 } (va_Pc [.ref (X.1 + c0)] (gB X m0)) (gQi X res) 0 0 (gA X) :=
  gMet (own := RX8) (by decide +kernel) rfl (Nat.le_of_ble_eq_true rfl) (fun p e s m args below meth c ls E hr hlocks hml hM hl => b_X8_sumOf E hr hlocks hml (Nat.le_refl _) (Nat.le_refl _) (Nat.le_refl _) (Nat.le_refl _) hk0 hf hM va_S.rf hl)
def L_X2_cubesInTowers_4 (c0 : Nat) : Nat → Int32 → Int32 → gMem → Option (Int32 × gMem)
  | 0, _, _, _ => none
  | n + 1, y1, y2, m0 => if (m0 c0 8) ≤ y2 then (some (y1, m0)) else (if (6 : Int32) ≤ y2 then (some (y1, m0)) else (if ¬ (y2 < 0 ∨ gl (c0 + 5) ≤ y2.toNatClampNeg) then g1 (f_X7_cubesFrom ((c0 + 5) + (6 + 3 * y2.toNatClampNeg)) (0 : Int32) m0) (fun r8 m6 => gv ((y1 + r8)) (fun x9 => gv (y2 + (1 : Int32)) (fun x10 => L_X2_cubesInTowers_4 c0 n x9 x10 m6))) else none))
def f_X2_cubesInTowers (c0 : Nat) (m0 : gMem) : Option (Int32 × gMem) := L_X2_cubesInTowers_4 c0 gF (0 : Int32) (0 : Int32) m0
set_option maxRecDepth 100000 in
set_option maxHeartbeats 4000000 in
theorem l_X2_cubesInTowers_4 {p : Program} {l : Launch} {e : Env} {R : Room} {s : State} {m : MethodId} {args : Array Value} {below : List Frame} {meth : Method} {c : Code} {cells slots : Nat} {X : gX} (E : gEn p s m args c cX2_cubesInTowers RX2 X) (hr : meth.sig.returnType = (some .int)) (hlocks : meth.locks = false) (hml : c.maxLocals = 3) (hRf : 2 ≤ R.frames) (hRl : 83 ≤ R.locals) (hRc : 0 ≤ R.cells) (hRs : 0 ≤ R.slots) (hc : cells ≤ 0) (hs : slots ≤ 0) (c0 : Nat) (hk0 : gk c0 = 2) {res : Int32 × gMem} :
    ∀ (n : Nat) (y1 : Int32) (y2 : Int32) (m0 : gMem) (H : Heap) (locs : List Loc) (ls : Array Slot), L_X2_cubesInTowers_4 c0 n y1 y2 m0 = some res → gM X m0 H → va_S (gA X) s.heap H locs → lv_has ls 3 [(0, .ref (X.1 + c0)), (1, .int y1), (2, .int y2)] → W p l e R s m args below meth c H locs cells slots (MQ below (gQi X res) args s 0 0 (gA X)) (F0 m 4 ls []) := by
  obtain ⟨hx, hb⟩ := (⟨E.1, E.2.1⟩ : _ ∧ _)
  intro n
  induction n with
  | zero =>
    intro _ _ _ _ _ _ hf
    cases hf
  | succ n ih =>
    intro y1 y2 m0 H locs ls hf hM hS hl
    rw [L_X2_cubesInTowers_4] at hf
    refine lv_iload_n hx hb dX2_cubesInTowers_4 rfl (lv_at hl 2 rfl) ?_
    refine lv_aload_n hx hb dX2_cubesInTowers_5 rfl (lv_at hl 0 rfl) ?_
    refine GX2_62 E hM hk0 dX2_cubesInTowers_6 ?_
    refine lv_icmp_ge (tgt := 37) hx hb dX2_cubesInTowers_9 (by decide) (fun h1 => ?_) (fun h1 => ?_)
    · have hf := g_t h1 hf
      refine lv_iload_n hx hb dX2_cubesInTowers_37 rfl (lv_at hl 1 rfl) ?_
      exact ge_i E hr hlocks hf hM hS hc hs dX2_cubesInTowers_38
    · have hf := g_f h1 hf
      refine lv_iload_n hx hb dX2_cubesInTowers_12 rfl (lv_at hl 2 rfl) ?_
      refine lv_bipush (v := (6 : Int32)) hx hb dX2_cubesInTowers_13 (by decide) ?_
      refine lv_icmp_ge (tgt := 37) hx hb dX2_cubesInTowers_15 (by decide) (fun h2 => ?_) (fun h2 => ?_)
      · have hf := g_t h2 hf
        refine lv_iload_n hx hb dX2_cubesInTowers_37 rfl (lv_at hl 1 rfl) ?_
        exact ge_i E hr hlocks hf hM hS hc hs dX2_cubesInTowers_38
      · have hf := g_f h2 hf
        refine lv_iload_n hx hb dX2_cubesInTowers_18 rfl (lv_at hl 1 rfl) ?_
        refine lv_aload_n hx hb dX2_cubesInTowers_19 rfl (lv_at hl 0 rfl) ?_
        refine GX2_33 E hM hk0 dX2_cubesInTowers_20 ?_
        have hg3 : gk (c0 + 5) = 25 := gkf_2_7 hk0
        refine lv_iload_n hx hb dX2_cubesInTowers_23 rfl (lv_at hl 2 rfl) ?_
        obtain ⟨hi4, hf⟩ := g_ck hf
        refine gg_aald (k := 25) E hM (gk_in hg3 (by decide)) hg3 (by decide) rfl hi4 rfl rfl dX2_cubesInTowers_24 ?_
        have hg5 : gk ((c0 + 5) + (6 + 3 * y2.toNatClampNeg)) = 7 := gka_25 hg3 hi4
        refine lv_iconst (v := (0 : Int32)) hx hb dX2_cubesInTowers_25 (by decide) ?_
        obtain ⟨r8, m6, hqq7, hf⟩ := g1_o hf
        refine ga_i (gr_V (As := [.int (0 : Int32)]) (ci := 7) (rm := { frames := 1, cells := 0, slots := 0, locals := 60 }) E hml hl.1 (c_X7_cubesFrom l X ((c0 + 5) + (6 + 3 * y2.toNatClampNeg)) (0 : Int32) m0 hg5 hqq7) wt_X7_cubesFrom wl_RX2_210 rfl hg5 (by decide) rfl rfl hM hS rfl rfl (Nat.le_trans (by decide) hRf) (Nat.le_trans (by decide) hRl) (Nat.le_trans hc hRc) (Nat.le_trans hs hRs) (Nat.le_of_ble_eq_true rfl) dX2_cubesInTowers_26 rfl) hS (fun H locs hM hS => ?_)
        refine lv_iadd hx hb dX2_cubesInTowers_29 ?_
        obtain ⟨x9, ex9, hf⟩ := gv_o hf
        rw [← ex9]
        refine lv_istore_n (lv' := [(1, .int x9), (0, .ref (X.1 + c0)), (2, .int y2)]) hx hb dX2_cubesInTowers_30 rfl hl (by decide) rfl (fun ls hl => ?_)
        obtain ⟨x10, ex10, hf⟩ := gv_o hf
        refine lv_iinc (v := x10) (lv' := [(2, .int x10), (1, .int x9), (0, .ref (X.1 + c0))]) hx hb dX2_cubesInTowers_31 hl (k := 2) rfl (by rw [ex10]; rfl) (by decide) rfl (fun ls hl => ?_)
        refine lv_goto (tgt := 4) hx hb dX2_cubesInTowers_34 (by decide) ?_
        exact ih x9 x10 m6 _ _ _ hf hM hS (lv_sub hl [2, 1, 0] rfl)
set_option maxRecDepth 100000 in
set_option maxHeartbeats 4000000 in
theorem b_X2_cubesInTowers {p : Program} {l : Launch} {e : Env} {R : Room} {s : State} {m : MethodId} {args : Array Value} {below : List Frame} {meth : Method} {c : Code} {H : Heap} {locs : List Loc} {ls : Array Slot} {X : gX} (E : gEn p s m args c cX2_cubesInTowers RX2 X) (hr : meth.sig.returnType = (some .int)) (hlocks : meth.locks = false) (hml : c.maxLocals = 3) (hRf : 2 ≤ R.frames) (hRl : 83 ≤ R.locals) (hRc : 0 ≤ R.cells) (hRs : 0 ≤ R.slots) {c0 : Nat} {m0 : gMem} {res : Int32 × gMem} (hk0 : gk c0 = 2) (hf : f_X2_cubesInTowers c0 m0 = some res) (hM : gM X m0 H) (hS : va_S (gA X) s.heap H locs) (hl : lv_has ls 3 [(0, .ref (X.1 + c0))]) : W p l e R s m args below meth c H locs 0 0 (MQ below (gQi X res) args s 0 0 (gA X)) (F0 m 0 ls []) := by
  obtain ⟨hx, hb⟩ := (⟨E.1, E.2.1⟩ : _ ∧ _)
  unfold f_X2_cubesInTowers at hf
  refine lv_iconst (v := (0 : Int32)) hx hb dX2_cubesInTowers_0 (by decide) ?_
  refine lv_istore_n (lv' := [(1, .int (0 : Int32)), (0, .ref (X.1 + c0))]) hx hb dX2_cubesInTowers_1 rfl hl (by decide) rfl (fun ls hl => ?_)
  refine lv_iconst (v := (0 : Int32)) hx hb dX2_cubesInTowers_2 (by decide) ?_
  refine lv_istore_n (lv' := [(2, .int (0 : Int32)), (1, .int (0 : Int32)), (0, .ref (X.1 + c0))]) hx hb dX2_cubesInTowers_3 rfl hl (by decide) rfl (fun ls hl => ?_)
  refine l_X2_cubesInTowers_4 E hr hlocks hml hRf hRl hRc hRs (Nat.le_of_ble_eq_true rfl) (Nat.le_of_ble_eq_true rfl) c0 hk0 gF (0 : Int32) (0 : Int32) m0 _ _ _ hf hM hS (lv_sub hl [2, 1, 0] rfl)
theorem c_X2_cubesInTowers (l : Launch) (X : gX) (c0 : Nat) (m0 : gMem) {res : Int32 × gMem} (hk0 : gk c0 = 2) (hf : f_X2_cubesInTowers c0 m0 = some res) : Met l yX2_cubesInTowers (gWs yX2_cubesInTowers cX2_cubesInTowers 3 (some .int)) { frames := 2, cells := 0, slots := 0, locals := 83 } (va_Pc [.ref (X.1 + c0)] (gB X m0)) (gQi X res) 0 0 (gA X) :=
  gMet (own := RX2) (by decide +kernel) rfl (Nat.le_of_ble_eq_true rfl) (fun p e s m args below meth c ls E hr hlocks hml hM hl => b_X2_cubesInTowers E hr hlocks hml (Nat.le_refl _) (Nat.le_refl _) (Nat.le_refl _) (Nat.le_refl _) hk0 hf hM va_S.rf hl)
def L_X2_coursesInTowers_4 (c0 : Nat) : Nat → Int32 → Int32 → gMem → Option (Int32 × gMem)
  | 0, _, _, _ => none
  | n + 1, y1, y2, m0 => if (m0 c0 8) ≤ y2 then (some (y1, m0)) else (if (6 : Int32) ≤ y2 then (some (y1, m0)) else (if ¬ (y2 < 0 ∨ gl (c0 + 5) ≤ y2.toNatClampNeg) then gv ((y1 + (m0 ((c0 + 5) + (6 + 3 * y2.toNatClampNeg)) 2))) (fun x6 => gv (y2 + (1 : Int32)) (fun x7 => L_X2_coursesInTowers_4 c0 n x6 x7 m0)) else none))
def f_X2_coursesInTowers (c0 : Nat) (m0 : gMem) : Option (Int32 × gMem) := L_X2_coursesInTowers_4 c0 gF (0 : Int32) (0 : Int32) m0
set_option maxRecDepth 100000 in
set_option maxHeartbeats 4000000 in
theorem l_X2_coursesInTowers_4 {p : Program} {l : Launch} {e : Env} {R : Room} {s : State} {m : MethodId} {args : Array Value} {below : List Frame} {meth : Method} {c : Code} {cells slots : Nat} {X : gX} (E : gEn p s m args c cX2_coursesInTowers RX2 X) (hr : meth.sig.returnType = (some .int)) (hlocks : meth.locks = false) (hml : c.maxLocals = 3) (hRf : 0 ≤ R.frames) (hRl : 0 ≤ R.locals) (hRc : 0 ≤ R.cells) (hRs : 0 ≤ R.slots) (hc : cells ≤ 0) (hs : slots ≤ 0) (c0 : Nat) (hk0 : gk c0 = 2) {res : Int32 × gMem} :
    ∀ (n : Nat) (y1 : Int32) (y2 : Int32) (m0 : gMem) (H : Heap) (locs : List Loc) (ls : Array Slot), L_X2_coursesInTowers_4 c0 n y1 y2 m0 = some res → gM X m0 H → va_S (gA X) s.heap H locs → lv_has ls 3 [(0, .ref (X.1 + c0)), (1, .int y1), (2, .int y2)] → W p l e R s m args below meth c H locs cells slots (MQ below (gQi X res) args s 0 0 (gA X)) (F0 m 4 ls []) := by
  obtain ⟨hx, hb⟩ := (⟨E.1, E.2.1⟩ : _ ∧ _)
  intro n
  induction n with
  | zero =>
    intro _ _ _ _ _ _ hf
    cases hf
  | succ n ih =>
    intro y1 y2 m0 H locs ls hf hM hS hl
    rw [L_X2_coursesInTowers_4] at hf
    refine lv_iload_n hx hb dX2_coursesInTowers_4 rfl (lv_at hl 2 rfl) ?_
    refine lv_aload_n hx hb dX2_coursesInTowers_5 rfl (lv_at hl 0 rfl) ?_
    refine GX2_62 E hM hk0 dX2_coursesInTowers_6 ?_
    refine lv_icmp_ge (tgt := 36) hx hb dX2_coursesInTowers_9 (by decide) (fun h1 => ?_) (fun h1 => ?_)
    · have hf := g_t h1 hf
      refine lv_iload_n hx hb dX2_coursesInTowers_36 rfl (lv_at hl 1 rfl) ?_
      exact ge_i E hr hlocks hf hM hS hc hs dX2_coursesInTowers_37
    · have hf := g_f h1 hf
      refine lv_iload_n hx hb dX2_coursesInTowers_12 rfl (lv_at hl 2 rfl) ?_
      refine lv_bipush (v := (6 : Int32)) hx hb dX2_coursesInTowers_13 (by decide) ?_
      refine lv_icmp_ge (tgt := 36) hx hb dX2_coursesInTowers_15 (by decide) (fun h2 => ?_) (fun h2 => ?_)
      · have hf := g_t h2 hf
        refine lv_iload_n hx hb dX2_coursesInTowers_36 rfl (lv_at hl 1 rfl) ?_
        exact ge_i E hr hlocks hf hM hS hc hs dX2_coursesInTowers_37
      · have hf := g_f h2 hf
        refine lv_iload_n hx hb dX2_coursesInTowers_18 rfl (lv_at hl 1 rfl) ?_
        refine lv_aload_n hx hb dX2_coursesInTowers_19 rfl (lv_at hl 0 rfl) ?_
        refine GX2_33 E hM hk0 dX2_coursesInTowers_20 ?_
        have hg3 : gk (c0 + 5) = 25 := gkf_2_7 hk0
        refine lv_iload_n hx hb dX2_coursesInTowers_23 rfl (lv_at hl 2 rfl) ?_
        obtain ⟨hi4, hf⟩ := g_ck hf
        refine gg_aald (k := 25) E hM (gk_in hg3 (by decide)) hg3 (by decide) rfl hi4 rfl rfl dX2_coursesInTowers_24 ?_
        have hg5 : gk ((c0 + 5) + (6 + 3 * y2.toNatClampNeg)) = 7 := gka_25 hg3 hi4
        refine GX2_134 E hM hg5 dX2_coursesInTowers_25 ?_
        refine lv_iadd hx hb dX2_coursesInTowers_28 ?_
        obtain ⟨x6, ex6, hf⟩ := gv_o hf
        rw [← ex6]
        refine lv_istore_n (lv' := [(1, .int x6), (0, .ref (X.1 + c0)), (2, .int y2)]) hx hb dX2_coursesInTowers_29 rfl hl (by decide) rfl (fun ls hl => ?_)
        obtain ⟨x7, ex7, hf⟩ := gv_o hf
        refine lv_iinc (v := x7) (lv' := [(2, .int x7), (1, .int x6), (0, .ref (X.1 + c0))]) hx hb dX2_coursesInTowers_30 hl (k := 2) rfl (by rw [ex7]; rfl) (by decide) rfl (fun ls hl => ?_)
        refine lv_goto (tgt := 4) hx hb dX2_coursesInTowers_33 (by decide) ?_
        exact ih x6 x7 m0 _ _ _ hf hM hS (lv_sub hl [2, 1, 0] rfl)
set_option maxRecDepth 100000 in
set_option maxHeartbeats 4000000 in
theorem b_X2_coursesInTowers {p : Program} {l : Launch} {e : Env} {R : Room} {s : State} {m : MethodId} {args : Array Value} {below : List Frame} {meth : Method} {c : Code} {H : Heap} {locs : List Loc} {ls : Array Slot} {X : gX} (E : gEn p s m args c cX2_coursesInTowers RX2 X) (hr : meth.sig.returnType = (some .int)) (hlocks : meth.locks = false) (hml : c.maxLocals = 3) (hRf : 0 ≤ R.frames) (hRl : 0 ≤ R.locals) (hRc : 0 ≤ R.cells) (hRs : 0 ≤ R.slots) {c0 : Nat} {m0 : gMem} {res : Int32 × gMem} (hk0 : gk c0 = 2) (hf : f_X2_coursesInTowers c0 m0 = some res) (hM : gM X m0 H) (hS : va_S (gA X) s.heap H locs) (hl : lv_has ls 3 [(0, .ref (X.1 + c0))]) : W p l e R s m args below meth c H locs 0 0 (MQ below (gQi X res) args s 0 0 (gA X)) (F0 m 0 ls []) := by
  obtain ⟨hx, hb⟩ := (⟨E.1, E.2.1⟩ : _ ∧ _)
  unfold f_X2_coursesInTowers at hf
  refine lv_iconst (v := (0 : Int32)) hx hb dX2_coursesInTowers_0 (by decide) ?_
  refine lv_istore_n (lv' := [(1, .int (0 : Int32)), (0, .ref (X.1 + c0))]) hx hb dX2_coursesInTowers_1 rfl hl (by decide) rfl (fun ls hl => ?_)
  refine lv_iconst (v := (0 : Int32)) hx hb dX2_coursesInTowers_2 (by decide) ?_
  refine lv_istore_n (lv' := [(2, .int (0 : Int32)), (1, .int (0 : Int32)), (0, .ref (X.1 + c0))]) hx hb dX2_coursesInTowers_3 rfl hl (by decide) rfl (fun ls hl => ?_)
  refine l_X2_coursesInTowers_4 E hr hlocks hml hRf hRl hRc hRs (Nat.le_of_ble_eq_true rfl) (Nat.le_of_ble_eq_true rfl) c0 hk0 gF (0 : Int32) (0 : Int32) m0 _ _ _ hf hM hS (lv_sub hl [2, 1, 0] rfl)
theorem c_X2_coursesInTowers (l : Launch) (X : gX) (c0 : Nat) (m0 : gMem) {res : Int32 × gMem} (hk0 : gk c0 = 2) (hf : f_X2_coursesInTowers c0 m0 = some res) : Met l yX2_coursesInTowers (gWs yX2_coursesInTowers cX2_coursesInTowers 3 (some .int)) { frames := 0, cells := 0, slots := 0, locals := 0 } (va_Pc [.ref (X.1 + c0)] (gB X m0)) (gQi X res) 0 0 (gA X) :=
  gMet (own := RX2) (by decide +kernel) rfl (Nat.le_of_ble_eq_true rfl) (fun p e s m args below meth c ls E hr hlocks hml hM hl => b_X2_coursesInTowers E hr hlocks hml (Nat.le_refl _) (Nat.le_refl _) (Nat.le_refl _) (Nat.le_refl _) hk0 hf hM va_S.rf hl)
def f_X1_giveBackTo (c0 : Nat) (c1 : Nat) (m0 : gMem) : Option (Unit × gMem) := g1 (f_J9_floorMod_7cf53 (m0 c0 1) (8 : Int32) m0) (fun r4 m2 => if ¬ (r4 < 0 ∨ gl (c0 + 1) ≤ r4.toNatClampNeg) then g1 (f_X2_copyFrom c1 ((c0 + 1) + (1 + 35 * r4.toNatClampNeg)) m2) (fun r9 m7 => g1 (f_J9_floorMod_7cf53 ((m7 c0 1) - (1 : Int32)) (8 : Int32) m7) (fun r12 m10 => gv (ms m10 c0 1 r12) (fun m13 => gv (ms m13 c0 2 ((m13 c0 2) - (1 : Int32))) (fun m14 => some ((), m14))))) else none)
set_option maxRecDepth 100000 in
set_option maxHeartbeats 4000000 in
theorem b_X1_giveBackTo {p : Program} {l : Launch} {e : Env} {R : Room} {s : State} {m : MethodId} {args : Array Value} {below : List Frame} {meth : Method} {c : Code} {H : Heap} {locs : List Loc} {ls : Array Slot} {X : gX} (E : gEn p s m args c cX1_giveBackTo RX1 X) (hr : meth.sig.returnType = none) (hlocks : meth.locks = false) (hml : c.maxLocals = 2) (hRf : 3 ≤ R.frames) (hRl : 103 ≤ R.locals) (hRc : 0 ≤ R.cells) (hRs : 0 ≤ R.slots) {c0 : Nat} {c1 : Nat} {m0 : gMem} {res : Unit × gMem} (hk0 : gk c0 = 1) (hk1 : gk c1 = 2) (hf : f_X1_giveBackTo c0 c1 m0 = some res) (hM : gM X m0 H) (hS : va_S (gA X) s.heap H locs) (hl : lv_has ls 2 [(0, .ref (X.1 + c0)), (1, .ref (X.1 + c1))]) : W p l e R s m args below meth c H locs 0 0 (MQ below (gQv X res) args s 0 0 (gA X)) (F0 m 0 ls []) := by
  obtain ⟨hx, hb⟩ := (⟨E.1, E.2.1⟩ : _ ∧ _)
  unfold f_X1_giveBackTo at hf
  refine lv_aload_n hx hb dX1_giveBackTo_0 rfl (lv_at hl 1 rfl) ?_
  refine lv_aload_n hx hb dX1_giveBackTo_1 rfl (lv_at hl 0 rfl) ?_
  refine GX1_11 E hM hk0 dX1_giveBackTo_2 ?_
  have hg1 : gk (c0 + 1) = 27 := gkf_1_0 hk0
  refine lv_aload_n hx hb dX1_giveBackTo_5 rfl (lv_at hl 0 rfl) ?_
  refine GX1_18 E hM hk0 dX1_giveBackTo_6 ?_
  refine lv_bipush (v := (8 : Int32)) hx hb dX1_giveBackTo_9 (by decide) ?_
  obtain ⟨r4, m2, hqq3, hf⟩ := g1_o hf
  refine ga_i (gr_S (As := [.int (m0 c0 1), .int (8 : Int32)]) (rm := { frames := 0, cells := 0, slots := 0, locals := 0 }) E hml hl.1 (c_J9_floorMod_7cf53 l X (m0 c0 1) (8 : Int32) m0 hqq3) wt_J9_floorMod_7cf53 wl_RX1_22 rfl hM hS rfl rfl (Nat.le_trans (by decide) hRf) (Nat.le_trans (by decide) hRl) (Nat.le_trans (Nat.le_of_ble_eq_true rfl) hRc) (Nat.le_trans (Nat.le_of_ble_eq_true rfl) hRs) (Nat.le_of_ble_eq_true rfl) dX1_giveBackTo_11 rfl) hS (fun H locs hM hS => ?_)
  obtain ⟨hi5, hf⟩ := g_ck hf
  refine gg_aald (k := 27) E hM (gk_in hg1 (by decide)) hg1 (by decide) rfl hi5 rfl rfl dX1_giveBackTo_14 ?_
  have hg6 : gk ((c0 + 1) + (1 + 35 * r4.toNatClampNeg)) = 2 := gka_27 hg1 hi5
  obtain ⟨r9, m7, hqq8, hf⟩ := g1_o hf
  refine ga_v (gr_V (As := [.ref (X.1 + ((c0 + 1) + (1 + 35 * r4.toNatClampNeg)))]) (ci := 2) (rm := { frames := 2, cells := 0, slots := 0, locals := 81 }) E hml hl.1 (c_X2_copyFrom l X c1 ((c0 + 1) + (1 + 35 * r4.toNatClampNeg)) m2 hk1 hg6 hqq8) wt_X2_copyFrom wl_RX1_28 rfl hk1 (by decide) rfl rfl hM hS rfl rfl (Nat.le_trans (by decide) hRf) (Nat.le_trans (by decide) hRl) (Nat.le_trans (Nat.le_of_ble_eq_true rfl) hRc) (Nat.le_trans (Nat.le_of_ble_eq_true rfl) hRs) (Nat.le_of_ble_eq_true rfl) dX1_giveBackTo_15 rfl) hS (fun H locs hM hS => ?_)
  refine lv_aload_n hx hb dX1_giveBackTo_18 rfl (lv_at hl 0 rfl) ?_
  refine lv_aload_n hx hb dX1_giveBackTo_19 rfl (lv_at hl 0 rfl) ?_
  refine GX1_18 E hM hk0 dX1_giveBackTo_20 ?_
  refine lv_iconst (v := (1 : Int32)) hx hb dX1_giveBackTo_23 (by decide) ?_
  refine lv_isub hx hb dX1_giveBackTo_24 ?_
  refine lv_bipush (v := (8 : Int32)) hx hb dX1_giveBackTo_25 (by decide) ?_
  obtain ⟨r12, m10, hqq11, hf⟩ := g1_o hf
  refine ga_i (gr_S (As := [.int ((m7 c0 1) - (1 : Int32)), .int (8 : Int32)]) (rm := { frames := 0, cells := 0, slots := 0, locals := 0 }) E hml hl.1 (c_J9_floorMod_7cf53 l X ((m7 c0 1) - (1 : Int32)) (8 : Int32) m7 hqq11) wt_J9_floorMod_7cf53 wl_RX1_22 rfl hM hS rfl rfl (Nat.le_trans (by decide) hRf) (Nat.le_trans (by decide) hRl) (Nat.le_trans (Nat.le_of_ble_eq_true rfl) hRc) (Nat.le_trans (Nat.le_of_ble_eq_true rfl) hRs) (Nat.le_of_ble_eq_true rfl) dX1_giveBackTo_27 rfl) hS (fun H locs hM hS => ?_)
  obtain ⟨m13, em13, hf⟩ := gv_o hf
  refine PX1_18 E hM hS hk0 em13 dX1_giveBackTo_30 (fun H locs hM hS => ?_)
  refine lv_aload_n hx hb dX1_giveBackTo_33 rfl (lv_at hl 0 rfl) ?_
  refine lv_dup hx hb dX1_giveBackTo_34 rfl ?_
  refine GX1_32 E hM hk0 dX1_giveBackTo_35 ?_
  refine lv_iconst (v := (1 : Int32)) hx hb dX1_giveBackTo_38 (by decide) ?_
  refine lv_isub hx hb dX1_giveBackTo_39 ?_
  obtain ⟨m14, em14, hf⟩ := gv_o hf
  refine PX1_32 E hM hS hk0 em14 dX1_giveBackTo_40 (fun H locs hM hS => ?_)
  exact ge_v E hr hlocks hf hM hS (Nat.le_of_ble_eq_true rfl) (Nat.le_of_ble_eq_true rfl) dX1_giveBackTo_43
theorem c_X1_giveBackTo (l : Launch) (X : gX) (c0 : Nat) (c1 : Nat) (m0 : gMem) {res : Unit × gMem} (hk0 : gk c0 = 1) (hk1 : gk c1 = 2) (hf : f_X1_giveBackTo c0 c1 m0 = some res) : Met l yX1_giveBackTo (gWs yX1_giveBackTo cX1_giveBackTo 2 none) { frames := 3, cells := 0, slots := 0, locals := 103 } (va_Pc [.ref (X.1 + c0), .ref (X.1 + c1)] (gB X m0)) (gQv X res) 0 0 (gA X) :=
  gMet (own := RX1) (by decide +kernel) rfl (Nat.le_of_ble_eq_true rfl) (fun p e s m args below meth c ls E hr hlocks hml hM hl => b_X1_giveBackTo E hr hlocks hml (Nat.le_refl _) (Nat.le_refl _) (Nat.le_refl _) (Nat.le_refl _) hk0 hk1 hf hM va_S.rf hl)
