def f_X9_thrown (c0 : Nat) (m0 : gMem) : Option (Int32 × gMem) := some ((m0 c0 12), m0)
set_option maxRecDepth 100000 in
set_option maxHeartbeats 4000000 in
theorem b_X9_thrown {p : Program} {l : Launch} {e : Env} {R : Room} {s : State} {m : MethodId} {args : Array Value} {below : List Frame} {meth : Method} {c : Code} {H : Heap} {locs : List Loc} {ls : Array Slot} {X : gX} (E : gEn p s m args c cX9_thrown RX9 X) (hr : meth.sig.returnType = (some .int)) (hlocks : meth.locks = false) (hml : c.maxLocals = 1) (hRf : 0 ≤ R.frames) (hRl : 0 ≤ R.locals) (hRc : 0 ≤ R.cells) (hRs : 0 ≤ R.slots) {c0 : Nat} {m0 : gMem} {res : Int32 × gMem} (hk0 : gk c0 = 9) (hf : f_X9_thrown c0 m0 = some res) (hM : gM X m0 H) (hS : va_S (gA X) s.heap H locs) (hl : lv_has ls 1 [(0, .ref (X.1 + c0))]) : W p l e R s m args below meth c H locs 0 0 (MQ below (gQi X res) args s 0 0 (gA X)) (F0 m 0 ls []) := by
  obtain ⟨hx, hb⟩ := (⟨E.1, E.2.1⟩ : _ ∧ _)
  unfold f_X9_thrown at hf
  refine lv_aload_n hx hb dX9_thrown_0 rfl (lv_at hl 0 rfl) ?_
  refine GX9_33 E hM hk0 dX9_thrown_1 ?_
  exact ge_i E hr hlocks hf hM hS (Nat.le_of_ble_eq_true rfl) (Nat.le_of_ble_eq_true rfl) dX9_thrown_4
theorem c_X9_thrown (l : Launch) (X : gX) (c0 : Nat) (m0 : gMem) {res : Int32 × gMem} (hk0 : gk c0 = 9) (hf : f_X9_thrown c0 m0 = some res) : Met l yX9_thrown (gWs yX9_thrown cX9_thrown 1 (some .int)) { frames := 0, cells := 0, slots := 0, locals := 0 } (va_Pc [.ref (X.1 + c0)] (gB X m0)) (gQi X res) 0 0 (gA X) :=
  gMet (own := RX9) (by decide +kernel) rfl (Nat.le_of_ble_eq_true rfl) (fun p e s m args below meth c ls E hr hlocks hml hM hl => b_X9_thrown E hr hlocks hml (Nat.le_refl _) (Nat.le_refl _) (Nat.le_refl _) (Nat.le_refl _) hk0 hf hM va_S.rf hl)
def f_X9_in (u0 : Int32) (u1 : Int32) (u2 : Int32) (m0 : gMem) : Option (Int32 × gMem) := if u0 < u1 then (some ((0 : Int32), m0)) else (if u2 < u0 then (some ((0 : Int32), m0)) else (some ((1 : Int32), m0)))
set_option maxRecDepth 100000 in
set_option maxHeartbeats 4000000 in
theorem b_X9_in {p : Program} {l : Launch} {e : Env} {R : Room} {s : State} {m : MethodId} {args : Array Value} {below : List Frame} {meth : Method} {c : Code} {H : Heap} {locs : List Loc} {ls : Array Slot} {X : gX} (E : gEn p s m args c cX9_in RX9 X) (hr : meth.sig.returnType = (some .boolean)) (hlocks : meth.locks = false) (hml : c.maxLocals = 3) (hRf : 0 ≤ R.frames) (hRl : 0 ≤ R.locals) (hRc : 0 ≤ R.cells) (hRs : 0 ≤ R.slots) {u0 : Int32} {u1 : Int32} {u2 : Int32} {m0 : gMem} {res : Int32 × gMem}  (hf : f_X9_in u0 u1 u2 m0 = some res) (hM : gM X m0 H) (hS : va_S (gA X) s.heap H locs) (hl : lv_has ls 3 [(0, .int u0), (1, .int u1), (2, .int u2)]) : W p l e R s m args below meth c H locs 0 0 (MQ below (gQi X res) args s 0 0 (gA X)) (F0 m 0 ls []) := by
  obtain ⟨hx, hb⟩ := (⟨E.1, E.2.1⟩ : _ ∧ _)
  unfold f_X9_in at hf
  refine lv_iload_n hx hb dX9_in_0 rfl (lv_at hl 0 rfl) ?_
  refine lv_iload_n hx hb dX9_in_1 rfl (lv_at hl 1 rfl) ?_
  refine lv_icmp_lt (tgt := 14) hx hb dX9_in_2 (by decide) (fun h1 => ?_) (fun h1 => ?_)
  · have hf := g_t h1 hf
    refine lv_iconst (v := (0 : Int32)) hx hb dX9_in_14 (by decide) ?_
    exact ge_z E hr rfl hlocks hf hM hS (Nat.le_of_ble_eq_true rfl) (Nat.le_of_ble_eq_true rfl) dX9_in_15
  · have hf := g_f h1 hf
    refine lv_iload_n hx hb dX9_in_5 rfl (lv_at hl 0 rfl) ?_
    refine lv_iload_n hx hb dX9_in_6 rfl (lv_at hl 2 rfl) ?_
    refine lv_icmp_gt (tgt := 14) hx hb dX9_in_7 (by decide) (fun h2 => ?_) (fun h2 => ?_)
    · have hf := g_t h2 hf
      refine lv_iconst (v := (0 : Int32)) hx hb dX9_in_14 (by decide) ?_
      exact ge_z E hr rfl hlocks hf hM hS (Nat.le_of_ble_eq_true rfl) (Nat.le_of_ble_eq_true rfl) dX9_in_15
    · have hf := g_f h2 hf
      refine lv_iconst (v := (1 : Int32)) hx hb dX9_in_10 (by decide) ?_
      refine lv_goto (tgt := 15) hx hb dX9_in_11 (by decide) ?_
      exact ge_z E hr rfl hlocks hf hM hS (Nat.le_of_ble_eq_true rfl) (Nat.le_of_ble_eq_true rfl) dX9_in_15
theorem c_X9_in (l : Launch) (X : gX) (u0 : Int32) (u1 : Int32) (u2 : Int32) (m0 : gMem) {res : Int32 × gMem}  (hf : f_X9_in u0 u1 u2 m0 = some res) : Met l yX9_in (gWs yX9_in cX9_in 3 (some .boolean)) { frames := 0, cells := 0, slots := 0, locals := 0 } (va_Pc [.int u0, .int u1, .int u2] (gB X m0)) (gQi X res) 0 0 (gA X) :=
  gMet (own := RX9) (by decide +kernel) rfl (Nat.le_of_ble_eq_true rfl) (fun p e s m args below meth c ls E hr hlocks hml hM hl => b_X9_in E hr hlocks hml (Nat.le_refl _) (Nat.le_refl _) (Nat.le_refl _) (Nat.le_refl _)  hf hM va_S.rf hl)
def f_X9_done (c0 : Nat) (u1 : Int32) (m0 : gMem) : Option (Int32 × gMem) := gv (ms m0 c0 12 (0 : Int32)) (fun m1 => some (u1, m1))
set_option maxRecDepth 100000 in
set_option maxHeartbeats 4000000 in
theorem b_X9_done {p : Program} {l : Launch} {e : Env} {R : Room} {s : State} {m : MethodId} {args : Array Value} {below : List Frame} {meth : Method} {c : Code} {H : Heap} {locs : List Loc} {ls : Array Slot} {X : gX} (E : gEn p s m args c cX9_done RX9 X) (hr : meth.sig.returnType = (some .int)) (hlocks : meth.locks = false) (hml : c.maxLocals = 2) (hRf : 0 ≤ R.frames) (hRl : 0 ≤ R.locals) (hRc : 0 ≤ R.cells) (hRs : 0 ≤ R.slots) {c0 : Nat} {u1 : Int32} {m0 : gMem} {res : Int32 × gMem} (hk0 : gk c0 = 9) (hf : f_X9_done c0 u1 m0 = some res) (hM : gM X m0 H) (hS : va_S (gA X) s.heap H locs) (hl : lv_has ls 2 [(0, .ref (X.1 + c0)), (1, .int u1)]) : W p l e R s m args below meth c H locs 0 0 (MQ below (gQi X res) args s 0 0 (gA X)) (F0 m 0 ls []) := by
  obtain ⟨hx, hb⟩ := (⟨E.1, E.2.1⟩ : _ ∧ _)
  unfold f_X9_done at hf
  refine lv_aload_n hx hb dX9_done_0 rfl (lv_at hl 0 rfl) ?_
  refine lv_iconst (v := (0 : Int32)) hx hb dX9_done_1 (by decide) ?_
  obtain ⟨m1, em1, hf⟩ := gv_o hf
  refine PX9_33 E hM hS hk0 em1 dX9_done_2 (fun H locs hM hS => ?_)
  refine lv_iload_n hx hb dX9_done_5 rfl (lv_at hl 1 rfl) ?_
  exact ge_i E hr hlocks hf hM hS (Nat.le_of_ble_eq_true rfl) (Nat.le_of_ble_eq_true rfl) dX9_done_6
theorem c_X9_done (l : Launch) (X : gX) (c0 : Nat) (u1 : Int32) (m0 : gMem) {res : Int32 × gMem} (hk0 : gk c0 = 9) (hf : f_X9_done c0 u1 m0 = some res) : Met l yX9_done (gWs yX9_done cX9_done 2 (some .int)) { frames := 0, cells := 0, slots := 0, locals := 0 } (va_Pc [.ref (X.1 + c0), .int u1] (gB X m0)) (gQi X res) 0 0 (gA X) :=
  gMet (own := RX9) (by decide +kernel) rfl (Nat.le_of_ble_eq_true rfl) (fun p e s m args below meth c ls E hr hlocks hml hM hl => b_X9_done E hr hlocks hml (Nat.le_refl _) (Nat.le_refl _) (Nat.le_refl _) (Nat.le_refl _) hk0 hf hM va_S.rf hl)
def f_X9_fails (c0 : Nat) (u1 : Int32) (m0 : gMem) : Option (Int32 × gMem) := gv (ms m0 c0 12 u1) (fun m1 => gv (ms m1 c0 11 (0 : Int32)) (fun m2 => some ((0 : Int32), m2)))
set_option maxRecDepth 100000 in
set_option maxHeartbeats 4000000 in
theorem b_X9_fails {p : Program} {l : Launch} {e : Env} {R : Room} {s : State} {m : MethodId} {args : Array Value} {below : List Frame} {meth : Method} {c : Code} {H : Heap} {locs : List Loc} {ls : Array Slot} {X : gX} (E : gEn p s m args c cX9_fails RX9 X) (hr : meth.sig.returnType = (some .int)) (hlocks : meth.locks = false) (hml : c.maxLocals = 2) (hRf : 0 ≤ R.frames) (hRl : 0 ≤ R.locals) (hRc : 0 ≤ R.cells) (hRs : 0 ≤ R.slots) {c0 : Nat} {u1 : Int32} {m0 : gMem} {res : Int32 × gMem} (hk0 : gk c0 = 9) (hf : f_X9_fails c0 u1 m0 = some res) (hM : gM X m0 H) (hS : va_S (gA X) s.heap H locs) (hl : lv_has ls 2 [(0, .ref (X.1 + c0)), (1, .int u1)]) : W p l e R s m args below meth c H locs 0 0 (MQ below (gQi X res) args s 0 0 (gA X)) (F0 m 0 ls []) := by
  obtain ⟨hx, hb⟩ := (⟨E.1, E.2.1⟩ : _ ∧ _)
  unfold f_X9_fails at hf
  refine lv_aload_n hx hb dX9_fails_0 rfl (lv_at hl 0 rfl) ?_
  refine lv_iload_n hx hb dX9_fails_1 rfl (lv_at hl 1 rfl) ?_
  obtain ⟨m1, em1, hf⟩ := gv_o hf
  refine PX9_33 E hM hS hk0 em1 dX9_fails_2 (fun H locs hM hS => ?_)
  refine lv_aload_n hx hb dX9_fails_5 rfl (lv_at hl 0 rfl) ?_
  refine lv_iconst (v := (0 : Int32)) hx hb dX9_fails_6 (by decide) ?_
  obtain ⟨m2, em2, hf⟩ := gv_o hf
  refine PX9_36 E hM hS hk0 (Or.inl rfl) em2 dX9_fails_7 (fun H locs hM hS => ?_)
  refine lv_iconst (v := (0 : Int32)) hx hb dX9_fails_10 (by decide) ?_
  exact ge_i E hr hlocks hf hM hS (Nat.le_of_ble_eq_true rfl) (Nat.le_of_ble_eq_true rfl) dX9_fails_11
theorem c_X9_fails (l : Launch) (X : gX) (c0 : Nat) (u1 : Int32) (m0 : gMem) {res : Int32 × gMem} (hk0 : gk c0 = 9) (hf : f_X9_fails c0 u1 m0 = some res) : Met l yX9_fails (gWs yX9_fails cX9_fails 2 (some .int)) { frames := 0, cells := 0, slots := 0, locals := 0 } (va_Pc [.ref (X.1 + c0), .int u1] (gB X m0)) (gQi X res) 0 0 (gA X) :=
  gMet (own := RX9) (by decide +kernel) rfl (Nat.le_of_ble_eq_true rfl) (fun p e s m args below meth c ls E hr hlocks hml hM hl => b_X9_fails E hr hlocks hml (Nat.le_refl _) (Nat.le_refl _) (Nat.le_refl _) (Nat.le_refl _) hk0 hf hM va_S.rf hl)
def f_X9_refused (c0 : Nat) (u1 : Int32) (u2 : Int32) (u3 : Int32) (m0 : gMem) : Option (Int32 × gMem) := gv (ms m0 c0 9 u1) (fun m1 => gv (ms m1 c0 10 u2) (fun m2 => gv (ms m2 c0 12 u3) (fun m3 => gv (ms m3 c0 11 (1 : Int32)) (fun m4 => some ((0 : Int32), m4)))))
set_option maxRecDepth 100000 in
set_option maxHeartbeats 4000000 in
theorem b_X9_refused {p : Program} {l : Launch} {e : Env} {R : Room} {s : State} {m : MethodId} {args : Array Value} {below : List Frame} {meth : Method} {c : Code} {H : Heap} {locs : List Loc} {ls : Array Slot} {X : gX} (E : gEn p s m args c cX9_refused RX9 X) (hr : meth.sig.returnType = (some .int)) (hlocks : meth.locks = false) (hml : c.maxLocals = 4) (hRf : 0 ≤ R.frames) (hRl : 0 ≤ R.locals) (hRc : 0 ≤ R.cells) (hRs : 0 ≤ R.slots) {c0 : Nat} {u1 : Int32} {u2 : Int32} {u3 : Int32} {m0 : gMem} {res : Int32 × gMem} (hk0 : gk c0 = 9) (hf : f_X9_refused c0 u1 u2 u3 m0 = some res) (hM : gM X m0 H) (hS : va_S (gA X) s.heap H locs) (hl : lv_has ls 4 [(0, .ref (X.1 + c0)), (1, .int u1), (2, .int u2), (3, .int u3)]) : W p l e R s m args below meth c H locs 0 0 (MQ below (gQi X res) args s 0 0 (gA X)) (F0 m 0 ls []) := by
  obtain ⟨hx, hb⟩ := (⟨E.1, E.2.1⟩ : _ ∧ _)
  unfold f_X9_refused at hf
  refine lv_aload_n hx hb dX9_refused_0 rfl (lv_at hl 0 rfl) ?_
  refine lv_iload_n hx hb dX9_refused_1 rfl (lv_at hl 1 rfl) ?_
  obtain ⟨m1, em1, hf⟩ := gv_o hf
  refine PX9_40 E hM hS hk0 em1 dX9_refused_2 (fun H locs hM hS => ?_)
  refine lv_aload_n hx hb dX9_refused_5 rfl (lv_at hl 0 rfl) ?_
  refine lv_iload_n hx hb dX9_refused_6 rfl (lv_at hl 2 rfl) ?_
  obtain ⟨m2, em2, hf⟩ := gv_o hf
  refine PX9_43 E hM hS hk0 em2 dX9_refused_7 (fun H locs hM hS => ?_)
  refine lv_aload_n hx hb dX9_refused_10 rfl (lv_at hl 0 rfl) ?_
  refine lv_iload_n hx hb dX9_refused_11 rfl (lv_at hl 3 rfl) ?_
  obtain ⟨m3, em3, hf⟩ := gv_o hf
  refine PX9_33 E hM hS hk0 em3 dX9_refused_12 (fun H locs hM hS => ?_)
  refine lv_aload_n hx hb dX9_refused_15 rfl (lv_at hl 0 rfl) ?_
  refine lv_iconst (v := (1 : Int32)) hx hb dX9_refused_16 (by decide) ?_
  obtain ⟨m4, em4, hf⟩ := gv_o hf
  refine PX9_36 E hM hS hk0 (Or.inr rfl) em4 dX9_refused_17 (fun H locs hM hS => ?_)
  refine lv_iconst (v := (0 : Int32)) hx hb dX9_refused_20 (by decide) ?_
  exact ge_i E hr hlocks hf hM hS (Nat.le_of_ble_eq_true rfl) (Nat.le_of_ble_eq_true rfl) dX9_refused_21
theorem c_X9_refused (l : Launch) (X : gX) (c0 : Nat) (u1 : Int32) (u2 : Int32) (u3 : Int32) (m0 : gMem) {res : Int32 × gMem} (hk0 : gk c0 = 9) (hf : f_X9_refused c0 u1 u2 u3 m0 = some res) : Met l yX9_refused (gWs yX9_refused cX9_refused 4 (some .int)) { frames := 0, cells := 0, slots := 0, locals := 0 } (va_Pc [.ref (X.1 + c0), .int u1, .int u2, .int u3] (gB X m0)) (gQi X res) 0 0 (gA X) :=
  gMet (own := RX9) (by decide +kernel) rfl (Nat.le_of_ble_eq_true rfl) (fun p e s m args below meth c ls E hr hlocks hml hM hl => b_X9_refused E hr hlocks hml (Nat.le_refl _) (Nat.le_refl _) (Nat.le_refl _) (Nat.le_refl _) hk0 hf hM va_S.rf hl)
def L_X9_copy_3 (c0 : Nat) (u1 : Int32) (c2 : Nat) (u3 : Int32) : Nat → Int32 → gMem → Option (Unit × gMem)
  | 0, _, _ => none
  | n + 1, y4, m0 => if (220 : Int32) ≤ y4 then (some ((), m0)) else (if ¬ ((u1 + y4) < 0 ∨ gl c0 ≤ (u1 + y4).toNatClampNeg) then if ¬ ((u3 + y4) < 0 ∨ gl c2 ≤ (u3 + y4).toNatClampNeg) then gv (ms m0 c2 (u3 + y4).toNatClampNeg (m0 c0 (u1 + y4).toNatClampNeg)) (fun m4 => gv (y4 + (1 : Int32)) (fun x5 => L_X9_copy_3 c0 u1 c2 u3 n x5 m4)) else none else none)
def f_X9_copy (c0 : Nat) (u1 : Int32) (c2 : Nat) (u3 : Int32) (m0 : gMem) : Option (Unit × gMem) := L_X9_copy_3 c0 u1 c2 u3 gF (0 : Int32) m0
set_option maxRecDepth 100000 in
set_option maxHeartbeats 4000000 in
theorem l_X9_copy_3 {p : Program} {l : Launch} {e : Env} {R : Room} {s : State} {m : MethodId} {args : Array Value} {below : List Frame} {meth : Method} {c : Code} {cells slots : Nat} {X : gX} (E : gEn p s m args c cX9_copy RX9 X) (hr : meth.sig.returnType = none) (hlocks : meth.locks = false) (hml : c.maxLocals = 5) (hRf : 0 ≤ R.frames) (hRl : 0 ≤ R.locals) (hRc : 0 ≤ R.cells) (hRs : 0 ≤ R.slots) (hc : cells ≤ 0) (hs : slots ≤ 0) (c0 : Nat) (u1 : Int32) (c2 : Nat) (u3 : Int32) (hk0 : gk c0 = 20) (hk2 : gk c2 = 20) {res : Unit × gMem} :
    ∀ (n : Nat) (y4 : Int32) (m0 : gMem) (H : Heap) (locs : List Loc) (ls : Array Slot), L_X9_copy_3 c0 u1 c2 u3 n y4 m0 = some res → gM X m0 H → va_S (gA X) s.heap H locs → lv_has ls 5 [(0, .ref (X.1 + c0)), (1, .int u1), (2, .ref (X.1 + c2)), (3, .int u3), (4, .int y4)] → W p l e R s m args below meth c H locs cells slots (MQ below (gQv X res) args s 0 0 (gA X)) (F0 m 3 ls []) := by
  obtain ⟨hx, hb⟩ := (⟨E.1, E.2.1⟩ : _ ∧ _)
  intro n
  induction n with
  | zero =>
    intro _ _ _ _ _ hf
    cases hf
  | succ n ih =>
    intro y4 m0 H locs ls hf hM hS hl
    rw [L_X9_copy_3] at hf
    refine lv_iload hx hb dX9_copy_3 (lv_at hl 4 rfl) ?_
    refine lv_sipush (v := (220 : Int32)) hx hb dX9_copy_5 (by decide) ?_
    refine lv_icmp_ge (tgt := 29) hx hb dX9_copy_8 (by decide) (fun h1 => ?_) (fun h1 => ?_)
    · have hf := g_t h1 hf
      exact ge_v E hr hlocks hf hM hS hc hs dX9_copy_29
    · have hf := g_f h1 hf
      refine lv_aload_n hx hb dX9_copy_11 rfl (lv_at hl 2 rfl) ?_
      refine lv_iload_n hx hb dX9_copy_12 rfl (lv_at hl 3 rfl) ?_
      refine lv_iload hx hb dX9_copy_13 (lv_at hl 4 rfl) ?_
      refine lv_iadd hx hb dX9_copy_15 ?_
      refine lv_aload_n hx hb dX9_copy_16 rfl (lv_at hl 0 rfl) ?_
      refine lv_iload_n hx hb dX9_copy_17 rfl (lv_at hl 1 rfl) ?_
      refine lv_iload hx hb dX9_copy_18 (lv_at hl 4 rfl) ?_
      refine lv_iadd hx hb dX9_copy_20 ?_
      obtain ⟨hi2, hf⟩ := g_ck hf
      refine gg_iald E hM (gk_in hk0 (by decide)) hk0 hi2 dX9_copy_21 ?_
      obtain ⟨hi3, hf⟩ := g_ck hf
      obtain ⟨m4, em4, hf⟩ := gv_o hf
      refine gg_iast E (fun c hc => gA_in X hc) hM hS (gk_in hk2 (by decide)) hk2 hi3 em4 dX9_copy_22 (fun H locs hM hS => ?_)
      obtain ⟨x5, ex5, hf⟩ := gv_o hf
      refine lv_iinc (v := x5) (lv' := [(4, .int x5), (0, .ref (X.1 + c0)), (1, .int u1), (2, .ref (X.1 + c2)), (3, .int u3)]) hx hb dX9_copy_23 hl (k := 4) rfl (by rw [ex5]; rfl) (by decide) rfl (fun ls hl => ?_)
      refine lv_goto (tgt := 3) hx hb dX9_copy_26 (by decide) ?_
      exact ih x5 m4 _ _ _ hf hM hS (lv_sub hl [1, 2, 3, 4, 0] rfl)
set_option maxRecDepth 100000 in
set_option maxHeartbeats 4000000 in
theorem b_X9_copy {p : Program} {l : Launch} {e : Env} {R : Room} {s : State} {m : MethodId} {args : Array Value} {below : List Frame} {meth : Method} {c : Code} {H : Heap} {locs : List Loc} {ls : Array Slot} {X : gX} (E : gEn p s m args c cX9_copy RX9 X) (hr : meth.sig.returnType = none) (hlocks : meth.locks = false) (hml : c.maxLocals = 5) (hRf : 0 ≤ R.frames) (hRl : 0 ≤ R.locals) (hRc : 0 ≤ R.cells) (hRs : 0 ≤ R.slots) {c0 : Nat} {u1 : Int32} {c2 : Nat} {u3 : Int32} {m0 : gMem} {res : Unit × gMem} (hk0 : gk c0 = 20) (hk2 : gk c2 = 20) (hf : f_X9_copy c0 u1 c2 u3 m0 = some res) (hM : gM X m0 H) (hS : va_S (gA X) s.heap H locs) (hl : lv_has ls 5 [(0, .ref (X.1 + c0)), (1, .int u1), (2, .ref (X.1 + c2)), (3, .int u3)]) : W p l e R s m args below meth c H locs 0 0 (MQ below (gQv X res) args s 0 0 (gA X)) (F0 m 0 ls []) := by
  obtain ⟨hx, hb⟩ := (⟨E.1, E.2.1⟩ : _ ∧ _)
  unfold f_X9_copy at hf
  refine lv_iconst (v := (0 : Int32)) hx hb dX9_copy_0 (by decide) ?_
  refine lv_istore (lv' := [(4, .int (0 : Int32)), (0, .ref (X.1 + c0)), (1, .int u1), (2, .ref (X.1 + c2)), (3, .int u3)]) hx hb dX9_copy_1 hl (by decide) rfl (fun ls hl => ?_)
  refine l_X9_copy_3 E hr hlocks hml hRf hRl hRc hRs (Nat.le_of_ble_eq_true rfl) (Nat.le_of_ble_eq_true rfl) c0 u1 c2 u3 hk0 hk2 gF (0 : Int32) m0 _ _ _ hf hM hS (lv_sub hl [1, 2, 3, 4, 0] rfl)
theorem c_X9_copy (l : Launch) (X : gX) (c0 : Nat) (u1 : Int32) (c2 : Nat) (u3 : Int32) (m0 : gMem) {res : Unit × gMem} (hk0 : gk c0 = 20) (hk2 : gk c2 = 20) (hf : f_X9_copy c0 u1 c2 u3 m0 = some res) : Met l yX9_copy (gWs yX9_copy cX9_copy 5 none) { frames := 0, cells := 0, slots := 0, locals := 0 } (va_Pc [.ref (X.1 + c0), .int u1, .ref (X.1 + c2), .int u3] (gB X m0)) (gQv X res) 0 0 (gA X) :=
  gMet (own := RX9) (by decide +kernel) rfl (Nat.le_of_ble_eq_true rfl) (fun p e s m args below meth c ls E hr hlocks hml hM hl => b_X9_copy E hr hlocks hml (Nat.le_refl _) (Nat.le_refl _) (Nat.le_refl _) (Nat.le_refl _) hk0 hk2 hf hM va_S.rf hl)
def f_X9_looksBack (c0 : Nat) (m0 : gMem) : Option (Unit × gMem) := g1 (f_X9_copy (c0 + 1) (0 : Int32) (c0 + 2) (0 : Int32) m0) (fun r5 m3 => some ((), m3))
set_option maxRecDepth 100000 in
set_option maxHeartbeats 4000000 in
theorem b_X9_looksBack {p : Program} {l : Launch} {e : Env} {R : Room} {s : State} {m : MethodId} {args : Array Value} {below : List Frame} {meth : Method} {c : Code} {H : Heap} {locs : List Loc} {ls : Array Slot} {X : gX} (E : gEn p s m args c cX9_looksBack RX9 X) (hr : meth.sig.returnType = none) (hlocks : meth.locks = false) (hml : c.maxLocals = 1) (hRf : 1 ≤ R.frames) (hRl : 24 ≤ R.locals) (hRc : 0 ≤ R.cells) (hRs : 0 ≤ R.slots) {c0 : Nat} {m0 : gMem} {res : Unit × gMem} (hk0 : gk c0 = 9) (hf : f_X9_looksBack c0 m0 = some res) (hM : gM X m0 H) (hS : va_S (gA X) s.heap H locs) (hl : lv_has ls 1 [(0, .ref (X.1 + c0))]) : W p l e R s m args below meth c H locs 0 0 (MQ below (gQv X res) args s 0 0 (gA X)) (F0 m 0 ls []) := by
  obtain ⟨hx, hb⟩ := (⟨E.1, E.2.1⟩ : _ ∧ _)
  unfold f_X9_looksBack at hf
  refine lv_aload_n hx hb dX9_looksBack_0 rfl (lv_at hl 0 rfl) ?_
  refine GX9_7 E hM hk0 dX9_looksBack_1 ?_
  have hg1 : gk (c0 + 1) = 20 := gkf_9_0 hk0
  refine lv_iconst (v := (0 : Int32)) hx hb dX9_looksBack_4 (by decide) ?_
  refine lv_aload_n hx hb dX9_looksBack_5 rfl (lv_at hl 0 rfl) ?_
  refine GX9_13 E hM hk0 dX9_looksBack_6 ?_
  have hg2 : gk (c0 + 2) = 20 := gkf_9_1 hk0
  refine lv_iconst (v := (0 : Int32)) hx hb dX9_looksBack_9 (by decide) ?_
  obtain ⟨r5, m3, hqq4, hf⟩ := g1_o hf
  refine ga_v (gr_S (As := [.ref (X.1 + (c0 + 1)), .int (0 : Int32), .ref (X.1 + (c0 + 2)), .int (0 : Int32)]) (rm := { frames := 0, cells := 0, slots := 0, locals := 0 }) E hml hl.1 (c_X9_copy l X (c0 + 1) (0 : Int32) (c0 + 2) (0 : Int32) m0 hg1 hg2 hqq4) wt_X9_copy wl_RX9_46 rfl hM hS rfl rfl (Nat.le_trans (by decide) hRf) (Nat.le_trans (by decide) hRl) (Nat.le_trans (Nat.le_of_ble_eq_true rfl) hRc) (Nat.le_trans (Nat.le_of_ble_eq_true rfl) hRs) (Nat.le_of_ble_eq_true rfl) dX9_looksBack_10 rfl) hS (fun H locs hM hS => ?_)
  exact ge_v E hr hlocks hf hM hS (Nat.le_of_ble_eq_true rfl) (Nat.le_of_ble_eq_true rfl) dX9_looksBack_13
theorem c_X9_looksBack (l : Launch) (X : gX) (c0 : Nat) (m0 : gMem) {res : Unit × gMem} (hk0 : gk c0 = 9) (hf : f_X9_looksBack c0 m0 = some res) : Met l yX9_looksBack (gWs yX9_looksBack cX9_looksBack 1 none) { frames := 1, cells := 0, slots := 0, locals := 24 } (va_Pc [.ref (X.1 + c0)] (gB X m0)) (gQv X res) 0 0 (gA X) :=
  gMet (own := RX9) (by decide +kernel) rfl (Nat.le_of_ble_eq_true rfl) (fun p e s m args below meth c ls E hr hlocks hml hM hl => b_X9_looksBack E hr hlocks hml (Nat.le_refl _) (Nat.le_refl _) (Nat.le_refl _) (Nat.le_refl _) hk0 hf hM va_S.rf hl)
def L_X9_kept_33 (c0 : Nat) (u1 : Int32) (k62 : Int32 →  gMem → Option (Int32 × gMem)) : Nat → Int32 → gMem → Option (Int32 × gMem)
  | 0, _, _ => none
  | n + 1, y2, m0 => if (1540 : Int32) ≤ y2 then (k62 y2 m0) else (if ¬ ((y2 + (220 : Int32)) < 0 ∨ gl (c0 + 3) ≤ (y2 + (220 : Int32)).toNatClampNeg) then if ¬ (y2 < 0 ∨ gl (c0 + 3) ≤ y2.toNatClampNeg) then gv (ms m0 (c0 + 3) y2.toNatClampNeg (m0 (c0 + 3) (y2 + (220 : Int32)).toNatClampNeg)) (fun m13 => gv (y2 + (1 : Int32)) (fun x14 => L_X9_kept_33 c0 u1 k62 n x14 m13)) else none else none)
def f_X9_kept (c0 : Nat) (u1 : Int32) (m0 : gMem) : Option (Int32 × gMem) := if (m0 c0 12) = (0 : Int32) then (if (m0 c0 3) = (8 : Int32) then (L_X9_kept_33 c0 u1 (fun y15 m16 => gv (ms m16 c0 3 ((m16 c0 3) - (1 : Int32))) (fun m17 => g1 (f_X9_copy (c0 + 2) (0 : Int32) (c0 + 3) ((m17 c0 3) * (220 : Int32)) m17) (fun r22 m20 => gv (ms m20 c0 3 ((m20 c0 3) + (1 : Int32))) (fun m23 => some (u1, m23))))) gF (0 : Int32) m0) else (g1 (f_X9_copy (c0 + 2) (0 : Int32) (c0 + 3) ((m0 c0 3) * (220 : Int32)) m0) (fun r7 m5 => gv (ms m5 c0 3 ((m5 c0 3) + (1 : Int32))) (fun m8 => some (u1, m8))))) else (g1 (f_X9_copy (c0 + 2) (0 : Int32) (c0 + 1) (0 : Int32) m0) (fun r28 m26 => some ((0 : Int32), m26)))
set_option maxRecDepth 100000 in
set_option maxHeartbeats 4000000 in
theorem l_X9_kept_33 {p : Program} {l : Launch} {e : Env} {R : Room} {s : State} {m : MethodId} {args : Array Value} {below : List Frame} {meth : Method} {c : Code} {cells slots : Nat} {X : gX} (E : gEn p s m args c cX9_kept RX9 X) (hr : meth.sig.returnType = (some .int)) (hlocks : meth.locks = false) (hml : c.maxLocals = 3) (hRf : 1 ≤ R.frames) (hRl : 24 ≤ R.locals) (hRc : 0 ≤ R.cells) (hRs : 0 ≤ R.slots) (hc : cells ≤ 0) (hs : slots ≤ 0) (c0 : Nat) (u1 : Int32) (hk0 : gk c0 = 9) (k62 : Int32 →  gMem → Option (Int32 × gMem)) {res : Int32 × gMem}
    (hk62 : ∀ (y2 : Int32) (m0 : gMem) (H : Heap) (locs : List Loc) (ls : Array Slot), k62 y2 m0 = some res → gM X m0 H → va_S (gA X) s.heap H locs → lv_has ls 3 [(0, .ref (X.1 + c0)), (1, .int u1), (2, .int y2)] → W p l e R s m args below meth c H locs cells slots (MQ below (gQi X res) args s 0 0 (gA X)) (F0 m 62 ls [])) :
    ∀ (n : Nat) (y2 : Int32) (m0 : gMem) (H : Heap) (locs : List Loc) (ls : Array Slot), L_X9_kept_33 c0 u1 k62 n y2 m0 = some res → gM X m0 H → va_S (gA X) s.heap H locs → lv_has ls 3 [(0, .ref (X.1 + c0)), (1, .int u1), (2, .int y2)] → W p l e R s m args below meth c H locs cells slots (MQ below (gQi X res) args s 0 0 (gA X)) (F0 m 33 ls []) := by
  obtain ⟨hx, hb⟩ := (⟨E.1, E.2.1⟩ : _ ∧ _)
  intro n
  induction n with
  | zero =>
    intro _ _ _ _ _ hf
    cases hf
  | succ n ih =>
    intro y2 m0 H locs ls hf hM hS hl
    rw [L_X9_kept_33] at hf
    refine lv_iload_n hx hb dX9_kept_33 rfl (lv_at hl 2 rfl) ?_
    refine lv_sipush (v := (1540 : Int32)) hx hb dX9_kept_34 (by decide) ?_
    refine lv_icmp_ge (tgt := 62) hx hb dX9_kept_37 (by decide) (fun h9 => ?_) (fun h9 => ?_)
    · have hf := g_t h9 hf
      exact hk62 y2 m0 _ _ _ hf hM hS (lv_sub hl [0, 1, 2] rfl)
    · have hf := g_f h9 hf
      refine lv_aload_n hx hb dX9_kept_40 rfl (lv_at hl 0 rfl) ?_
      refine GX9_16 E hM hk0 dX9_kept_41 ?_
      have hg10 : gk (c0 + 3) = 20 := gkf_9_2 hk0
      refine lv_iload_n hx hb dX9_kept_44 rfl (lv_at hl 2 rfl) ?_
      refine lv_aload_n hx hb dX9_kept_45 rfl (lv_at hl 0 rfl) ?_
      refine GX9_16 E hM hk0 dX9_kept_46 ?_
      refine lv_iload_n hx hb dX9_kept_49 rfl (lv_at hl 2 rfl) ?_
      refine lv_sipush (v := (220 : Int32)) hx hb dX9_kept_50 (by decide) ?_
      refine lv_iadd hx hb dX9_kept_53 ?_
      obtain ⟨hi11, hf⟩ := g_ck hf
      refine gg_iald E hM (gk_in hg10 (by decide)) hg10 hi11 dX9_kept_54 ?_
      obtain ⟨hi12, hf⟩ := g_ck hf
      obtain ⟨m13, em13, hf⟩ := gv_o hf
      refine gg_iast E (fun c hc => gA_in X hc) hM hS (gk_in hg10 (by decide)) hg10 hi12 em13 dX9_kept_55 (fun H locs hM hS => ?_)
      obtain ⟨x14, ex14, hf⟩ := gv_o hf
      refine lv_iinc (v := x14) (lv' := [(2, .int x14), (0, .ref (X.1 + c0)), (1, .int u1)]) hx hb dX9_kept_56 hl (k := 2) rfl (by rw [ex14]; rfl) (by decide) rfl (fun ls hl => ?_)
      refine lv_goto (tgt := 33) hx hb dX9_kept_59 (by decide) ?_
      exact ih x14 m13 _ _ _ hf hM hS (lv_sub hl [1, 2, 0] rfl)
set_option maxRecDepth 100000 in
set_option maxHeartbeats 4000000 in
theorem b_X9_kept {p : Program} {l : Launch} {e : Env} {R : Room} {s : State} {m : MethodId} {args : Array Value} {below : List Frame} {meth : Method} {c : Code} {H : Heap} {locs : List Loc} {ls : Array Slot} {X : gX} (E : gEn p s m args c cX9_kept RX9 X) (hr : meth.sig.returnType = (some .int)) (hlocks : meth.locks = false) (hml : c.maxLocals = 3) (hRf : 1 ≤ R.frames) (hRl : 24 ≤ R.locals) (hRc : 0 ≤ R.cells) (hRs : 0 ≤ R.slots) {c0 : Nat} {u1 : Int32} {m0 : gMem} {res : Int32 × gMem} (hk0 : gk c0 = 9) (hf : f_X9_kept c0 u1 m0 = some res) (hM : gM X m0 H) (hS : va_S (gA X) s.heap H locs) (hl : lv_has ls 3 [(0, .ref (X.1 + c0)), (1, .int u1)]) : W p l e R s m args below meth c H locs 0 0 (MQ below (gQi X res) args s 0 0 (gA X)) (F0 m 0 ls []) := by
  obtain ⟨hx, hb⟩ := (⟨E.1, E.2.1⟩ : _ ∧ _)
  unfold f_X9_kept at hf
  refine lv_aload_n hx hb dX9_kept_0 rfl (lv_at hl 0 rfl) ?_
  refine GX9_33 E hM hk0 dX9_kept_1 ?_
  refine lv_if_eq (tgt := 22) hx hb dX9_kept_4 (by decide) (fun h1 => ?_) (fun h1 => ?_)
  · have hf := g_t h1 hf
    refine lv_aload_n hx hb dX9_kept_22 rfl (lv_at hl 0 rfl) ?_
    refine GX9_50 E hM hk0 dX9_kept_23 ?_
    refine lv_bipush (v := (8 : Int32)) hx hb dX9_kept_26 (by decide) ?_
    refine lv_icmp_ne (tgt := 72) hx hb dX9_kept_28 (by decide) (fun h2 => ?_) (fun h2 => ?_)
    · have hf := g_f h2 hf
      refine lv_aload_n hx hb dX9_kept_72 rfl (lv_at hl 0 rfl) ?_
      refine GX9_13 E hM hk0 dX9_kept_73 ?_
      have hg3 : gk (c0 + 2) = 20 := gkf_9_1 hk0
      refine lv_iconst (v := (0 : Int32)) hx hb dX9_kept_76 (by decide) ?_
      refine lv_aload_n hx hb dX9_kept_77 rfl (lv_at hl 0 rfl) ?_
      refine GX9_16 E hM hk0 dX9_kept_78 ?_
      have hg4 : gk (c0 + 3) = 20 := gkf_9_2 hk0
      refine lv_aload_n hx hb dX9_kept_81 rfl (lv_at hl 0 rfl) ?_
      refine GX9_50 E hM hk0 dX9_kept_82 ?_
      refine lv_sipush (v := (220 : Int32)) hx hb dX9_kept_85 (by decide) ?_
      refine lv_imul hx hb dX9_kept_88 ?_
      obtain ⟨r7, m5, hqq6, hf⟩ := g1_o hf
      refine ga_v (gr_S (As := [.ref (X.1 + (c0 + 2)), .int (0 : Int32), .ref (X.1 + (c0 + 3)), .int ((m0 c0 3) * (220 : Int32))]) (rm := { frames := 0, cells := 0, slots := 0, locals := 0 }) E hml hl.1 (c_X9_copy l X (c0 + 2) (0 : Int32) (c0 + 3) ((m0 c0 3) * (220 : Int32)) m0 hg3 hg4 hqq6) wt_X9_copy wl_RX9_46 rfl hM hS rfl rfl (Nat.le_trans (by decide) hRf) (Nat.le_trans (by decide) hRl) (Nat.le_trans (Nat.le_of_ble_eq_true rfl) hRc) (Nat.le_trans (Nat.le_of_ble_eq_true rfl) hRs) (Nat.le_of_ble_eq_true rfl) dX9_kept_89 rfl) hS (fun H locs hM hS => ?_)
      refine lv_aload_n hx hb dX9_kept_92 rfl (lv_at hl 0 rfl) ?_
      refine lv_dup hx hb dX9_kept_93 rfl ?_
      refine GX9_50 E hM hk0 dX9_kept_94 ?_
      refine lv_iconst (v := (1 : Int32)) hx hb dX9_kept_97 (by decide) ?_
      refine lv_iadd hx hb dX9_kept_98 ?_
      obtain ⟨m8, em8, hf⟩ := gv_o hf
      refine PX9_50 E hM hS hk0 em8 dX9_kept_99 (fun H locs hM hS => ?_)
      refine lv_iload_n hx hb dX9_kept_102 rfl (lv_at hl 1 rfl) ?_
      exact ge_i E hr hlocks hf hM hS (Nat.le_of_ble_eq_true rfl) (Nat.le_of_ble_eq_true rfl) dX9_kept_103
    · have hf := g_t h2 hf
      refine lv_iconst (v := (0 : Int32)) hx hb dX9_kept_31 (by decide) ?_
      refine lv_istore_n (lv' := [(2, .int (0 : Int32)), (0, .ref (X.1 + c0)), (1, .int u1)]) hx hb dX9_kept_32 rfl hl (by decide) rfl (fun ls hl => ?_)
      refine l_X9_kept_33 E hr hlocks hml hRf hRl hRc hRs (Nat.le_of_ble_eq_true rfl) (Nat.le_of_ble_eq_true rfl) c0 u1 hk0 _ (fun y15 m16 H locs ls hf hM hS hl => ?_) gF (0 : Int32) m0 _ _ _ hf hM hS (lv_sub hl [1, 2, 0] rfl)
      refine lv_aload_n hx hb dX9_kept_62 rfl (lv_at hl 0 rfl) ?_
      refine lv_dup hx hb dX9_kept_63 rfl ?_
      refine GX9_50 E hM hk0 dX9_kept_64 ?_
      refine lv_iconst (v := (1 : Int32)) hx hb dX9_kept_67 (by decide) ?_
      refine lv_isub hx hb dX9_kept_68 ?_
      obtain ⟨m17, em17, hf⟩ := gv_o hf
      refine PX9_50 E hM hS hk0 em17 dX9_kept_69 (fun H locs hM hS => ?_)
      refine lv_aload_n hx hb dX9_kept_72 rfl (lv_at hl 0 rfl) ?_
      refine GX9_13 E hM hk0 dX9_kept_73 ?_
      have hg18 : gk (c0 + 2) = 20 := gkf_9_1 hk0
      refine lv_iconst (v := (0 : Int32)) hx hb dX9_kept_76 (by decide) ?_
      refine lv_aload_n hx hb dX9_kept_77 rfl (lv_at hl 0 rfl) ?_
      refine GX9_16 E hM hk0 dX9_kept_78 ?_
      have hg19 : gk (c0 + 3) = 20 := gkf_9_2 hk0
      refine lv_aload_n hx hb dX9_kept_81 rfl (lv_at hl 0 rfl) ?_
      refine GX9_50 E hM hk0 dX9_kept_82 ?_
      refine lv_sipush (v := (220 : Int32)) hx hb dX9_kept_85 (by decide) ?_
      refine lv_imul hx hb dX9_kept_88 ?_
      obtain ⟨r22, m20, hqq21, hf⟩ := g1_o hf
      refine ga_v (gr_S (As := [.ref (X.1 + (c0 + 2)), .int (0 : Int32), .ref (X.1 + (c0 + 3)), .int ((m17 c0 3) * (220 : Int32))]) (rm := { frames := 0, cells := 0, slots := 0, locals := 0 }) E hml hl.1 (c_X9_copy l X (c0 + 2) (0 : Int32) (c0 + 3) ((m17 c0 3) * (220 : Int32)) m17 hg18 hg19 hqq21) wt_X9_copy wl_RX9_46 rfl hM hS rfl rfl (Nat.le_trans (by decide) hRf) (Nat.le_trans (by decide) hRl) (Nat.le_trans (Nat.le_of_ble_eq_true rfl) hRc) (Nat.le_trans (Nat.le_of_ble_eq_true rfl) hRs) (Nat.le_of_ble_eq_true rfl) dX9_kept_89 rfl) hS (fun H locs hM hS => ?_)
      refine lv_aload_n hx hb dX9_kept_92 rfl (lv_at hl 0 rfl) ?_
      refine lv_dup hx hb dX9_kept_93 rfl ?_
      refine GX9_50 E hM hk0 dX9_kept_94 ?_
      refine lv_iconst (v := (1 : Int32)) hx hb dX9_kept_97 (by decide) ?_
      refine lv_iadd hx hb dX9_kept_98 ?_
      obtain ⟨m23, em23, hf⟩ := gv_o hf
      refine PX9_50 E hM hS hk0 em23 dX9_kept_99 (fun H locs hM hS => ?_)
      refine lv_iload_n hx hb dX9_kept_102 rfl (lv_at hl 1 rfl) ?_
      exact ge_i E hr hlocks hf hM hS (Nat.le_of_ble_eq_true rfl) (Nat.le_of_ble_eq_true rfl) dX9_kept_103
  · have hf := g_f h1 hf
    refine lv_aload_n hx hb dX9_kept_7 rfl (lv_at hl 0 rfl) ?_
    refine GX9_13 E hM hk0 dX9_kept_8 ?_
    have hg24 : gk (c0 + 2) = 20 := gkf_9_1 hk0
    refine lv_iconst (v := (0 : Int32)) hx hb dX9_kept_11 (by decide) ?_
    refine lv_aload_n hx hb dX9_kept_12 rfl (lv_at hl 0 rfl) ?_
    refine GX9_7 E hM hk0 dX9_kept_13 ?_
    have hg25 : gk (c0 + 1) = 20 := gkf_9_0 hk0
    refine lv_iconst (v := (0 : Int32)) hx hb dX9_kept_16 (by decide) ?_
    obtain ⟨r28, m26, hqq27, hf⟩ := g1_o hf
    refine ga_v (gr_S (As := [.ref (X.1 + (c0 + 2)), .int (0 : Int32), .ref (X.1 + (c0 + 1)), .int (0 : Int32)]) (rm := { frames := 0, cells := 0, slots := 0, locals := 0 }) E hml hl.1 (c_X9_copy l X (c0 + 2) (0 : Int32) (c0 + 1) (0 : Int32) m0 hg24 hg25 hqq27) wt_X9_copy wl_RX9_46 rfl hM hS rfl rfl (Nat.le_trans (by decide) hRf) (Nat.le_trans (by decide) hRl) (Nat.le_trans (Nat.le_of_ble_eq_true rfl) hRc) (Nat.le_trans (Nat.le_of_ble_eq_true rfl) hRs) (Nat.le_of_ble_eq_true rfl) dX9_kept_17 rfl) hS (fun H locs hM hS => ?_)
    refine lv_iconst (v := (0 : Int32)) hx hb dX9_kept_20 (by decide) ?_
    exact ge_i E hr hlocks hf hM hS (Nat.le_of_ble_eq_true rfl) (Nat.le_of_ble_eq_true rfl) dX9_kept_21
theorem c_X9_kept (l : Launch) (X : gX) (c0 : Nat) (u1 : Int32) (m0 : gMem) {res : Int32 × gMem} (hk0 : gk c0 = 9) (hf : f_X9_kept c0 u1 m0 = some res) : Met l yX9_kept (gWs yX9_kept cX9_kept 3 (some .int)) { frames := 1, cells := 0, slots := 0, locals := 24 } (va_Pc [.ref (X.1 + c0), .int u1] (gB X m0)) (gQi X res) 0 0 (gA X) :=
  gMet (own := RX9) (by decide +kernel) rfl (Nat.le_of_ble_eq_true rfl) (fun p e s m args below meth c ls E hr hlocks hml hM hl => b_X9_kept E hr hlocks hml (Nat.le_refl _) (Nat.le_refl _) (Nat.le_refl _) (Nat.le_refl _) hk0 hf hM va_S.rf hl)
def L_X9_sum_5 (c0 : Nat) (u1 : Int32) (u2 : Int32) : Nat → Int32 → Int32 → gMem → Option (Int32 × gMem)
  | 0, _, _, _ => none
  | n + 1, y3, y4, m0 => if u2 ≤ y4 then (some (y3, m0)) else (if ¬ ((u1 + y4) < 0 ∨ gl (c0 + 1) ≤ (u1 + y4).toNatClampNeg) then gv ((y3 + (m0 (c0 + 1) (u1 + y4).toNatClampNeg))) (fun x4 => gv (y4 + (1 : Int32)) (fun x5 => L_X9_sum_5 c0 u1 u2 n x4 x5 m0)) else none)
def f_X9_sum (c0 : Nat) (u1 : Int32) (u2 : Int32) (m0 : gMem) : Option (Int32 × gMem) := L_X9_sum_5 c0 u1 u2 gF (0 : Int32) (0 : Int32) m0
set_option maxRecDepth 100000 in
set_option maxHeartbeats 4000000 in
theorem l_X9_sum_5 {p : Program} {l : Launch} {e : Env} {R : Room} {s : State} {m : MethodId} {args : Array Value} {below : List Frame} {meth : Method} {c : Code} {cells slots : Nat} {X : gX} (E : gEn p s m args c cX9_sum RX9 X) (hr : meth.sig.returnType = (some .int)) (hlocks : meth.locks = false) (hml : c.maxLocals = 5) (hRf : 0 ≤ R.frames) (hRl : 0 ≤ R.locals) (hRc : 0 ≤ R.cells) (hRs : 0 ≤ R.slots) (hc : cells ≤ 0) (hs : slots ≤ 0) (c0 : Nat) (u1 : Int32) (u2 : Int32) (hk0 : gk c0 = 9) {res : Int32 × gMem} :
    ∀ (n : Nat) (y3 : Int32) (y4 : Int32) (m0 : gMem) (H : Heap) (locs : List Loc) (ls : Array Slot), L_X9_sum_5 c0 u1 u2 n y3 y4 m0 = some res → gM X m0 H → va_S (gA X) s.heap H locs → lv_has ls 5 [(0, .ref (X.1 + c0)), (1, .int u1), (2, .int u2), (3, .int y3), (4, .int y4)] → W p l e R s m args below meth c H locs cells slots (MQ below (gQi X res) args s 0 0 (gA X)) (F0 m 5 ls []) := by
  obtain ⟨hx, hb⟩ := (⟨E.1, E.2.1⟩ : _ ∧ _)
  intro n
  induction n with
  | zero =>
    intro _ _ _ _ _ _ hf
    cases hf
  | succ n ih =>
    intro y3 y4 m0 H locs ls hf hM hS hl
    rw [L_X9_sum_5] at hf
    refine lv_iload hx hb dX9_sum_5 (lv_at hl 4 rfl) ?_
    refine lv_iload_n hx hb dX9_sum_7 rfl (lv_at hl 2 rfl) ?_
    refine lv_icmp_ge (tgt := 29) hx hb dX9_sum_8 (by decide) (fun h1 => ?_) (fun h1 => ?_)
    · have hf := g_t h1 hf
      refine lv_iload_n hx hb dX9_sum_29 rfl (lv_at hl 3 rfl) ?_
      exact ge_i E hr hlocks hf hM hS hc hs dX9_sum_30
    · have hf := g_f h1 hf
      refine lv_iload_n hx hb dX9_sum_11 rfl (lv_at hl 3 rfl) ?_
      refine lv_aload_n hx hb dX9_sum_12 rfl (lv_at hl 0 rfl) ?_
      refine GX9_7 E hM hk0 dX9_sum_13 ?_
      have hg2 : gk (c0 + 1) = 20 := gkf_9_0 hk0
      refine lv_iload_n hx hb dX9_sum_16 rfl (lv_at hl 1 rfl) ?_
      refine lv_iload hx hb dX9_sum_17 (lv_at hl 4 rfl) ?_
      refine lv_iadd hx hb dX9_sum_19 ?_
      obtain ⟨hi3, hf⟩ := g_ck hf
      refine gg_iald E hM (gk_in hg2 (by decide)) hg2 hi3 dX9_sum_20 ?_
      refine lv_iadd hx hb dX9_sum_21 ?_
      obtain ⟨x4, ex4, hf⟩ := gv_o hf
      rw [← ex4]
      refine lv_istore_n (lv' := [(3, .int x4), (0, .ref (X.1 + c0)), (1, .int u1), (2, .int u2), (4, .int y4)]) hx hb dX9_sum_22 rfl hl (by decide) rfl (fun ls hl => ?_)
      obtain ⟨x5, ex5, hf⟩ := gv_o hf
      refine lv_iinc (v := x5) (lv' := [(4, .int x5), (3, .int x4), (0, .ref (X.1 + c0)), (1, .int u1), (2, .int u2)]) hx hb dX9_sum_23 hl (k := 4) rfl (by rw [ex5]; rfl) (by decide) rfl (fun ls hl => ?_)
      refine lv_goto (tgt := 5) hx hb dX9_sum_26 (by decide) ?_
      exact ih x4 x5 m0 _ _ _ hf hM hS (lv_sub hl [2, 3, 4, 1, 0] rfl)
set_option maxRecDepth 100000 in
set_option maxHeartbeats 4000000 in
theorem b_X9_sum {p : Program} {l : Launch} {e : Env} {R : Room} {s : State} {m : MethodId} {args : Array Value} {below : List Frame} {meth : Method} {c : Code} {H : Heap} {locs : List Loc} {ls : Array Slot} {X : gX} (E : gEn p s m args c cX9_sum RX9 X) (hr : meth.sig.returnType = (some .int)) (hlocks : meth.locks = false) (hml : c.maxLocals = 5) (hRf : 0 ≤ R.frames) (hRl : 0 ≤ R.locals) (hRc : 0 ≤ R.cells) (hRs : 0 ≤ R.slots) {c0 : Nat} {u1 : Int32} {u2 : Int32} {m0 : gMem} {res : Int32 × gMem} (hk0 : gk c0 = 9) (hf : f_X9_sum c0 u1 u2 m0 = some res) (hM : gM X m0 H) (hS : va_S (gA X) s.heap H locs) (hl : lv_has ls 5 [(0, .ref (X.1 + c0)), (1, .int u1), (2, .int u2)]) : W p l e R s m args below meth c H locs 0 0 (MQ below (gQi X res) args s 0 0 (gA X)) (F0 m 0 ls []) := by
  obtain ⟨hx, hb⟩ := (⟨E.1, E.2.1⟩ : _ ∧ _)
  unfold f_X9_sum at hf
  refine lv_iconst (v := (0 : Int32)) hx hb dX9_sum_0 (by decide) ?_
  refine lv_istore_n (lv' := [(3, .int (0 : Int32)), (0, .ref (X.1 + c0)), (1, .int u1), (2, .int u2)]) hx hb dX9_sum_1 rfl hl (by decide) rfl (fun ls hl => ?_)
  refine lv_iconst (v := (0 : Int32)) hx hb dX9_sum_2 (by decide) ?_
  refine lv_istore (lv' := [(4, .int (0 : Int32)), (3, .int (0 : Int32)), (0, .ref (X.1 + c0)), (1, .int u1), (2, .int u2)]) hx hb dX9_sum_3 hl (by decide) rfl (fun ls hl => ?_)
  refine l_X9_sum_5 E hr hlocks hml hRf hRl hRc hRs (Nat.le_of_ble_eq_true rfl) (Nat.le_of_ble_eq_true rfl) c0 u1 u2 hk0 gF (0 : Int32) (0 : Int32) m0 _ _ _ hf hM hS (lv_sub hl [2, 3, 4, 1, 0] rfl)
theorem c_X9_sum (l : Launch) (X : gX) (c0 : Nat) (u1 : Int32) (u2 : Int32) (m0 : gMem) {res : Int32 × gMem} (hk0 : gk c0 = 9) (hf : f_X9_sum c0 u1 u2 m0 = some res) : Met l yX9_sum (gWs yX9_sum cX9_sum 5 (some .int)) { frames := 0, cells := 0, slots := 0, locals := 0 } (va_Pc [.ref (X.1 + c0), .int u1, .int u2] (gB X m0)) (gQi X res) 0 0 (gA X) :=
  gMet (own := RX9) (by decide +kernel) rfl (Nat.le_of_ble_eq_true rfl) (fun p e s m args below meth c ls E hr hlocks hml hM hl => b_X9_sum E hr hlocks hml (Nat.le_refl _) (Nat.le_refl _) (Nat.le_refl _) (Nat.le_refl _) hk0 hf hM va_S.rf hl)
def f_X9_humidity (c0 : Nat) (u1 : Int32) (u2 : Int32) (m0 : gMem) : Option (Int32 × gMem) := g1 (f_X9_in u1 (0 : Int32) (23 : Int32) m0) (fun r3 m1 => if r3 = (0 : Int32) then (g1 (f_X9_fails c0 (1 : Int32) m1) (fun r27 m25 => some (r27, m25))) else (g1 (f_X9_in u2 (0 : Int32) (99 : Int32) m1) (fun r7 m5 => if r7 = (0 : Int32) then (g1 (f_X9_fails c0 (2 : Int32) m5) (fun r24 m22 => some (r24, m22))) else (g1 (f_X9_looksBack c0 m5) (fun r11 m9 => if ¬ (((2 : Int32) + u1) < 0 ∨ gl (c0 + 1) ≤ ((2 : Int32) + u1).toNatClampNeg) then gv ((m9 (c0 + 1) ((2 : Int32) + u1).toNatClampNeg)) (fun x14 => gv (ms m9 (c0 + 1) ((2 : Int32) + u1).toNatClampNeg u2) (fun m15 => g1 (f_X9_done c0 x14 m15) (fun r18 m16 => g1 (f_X9_kept c0 r18 m16) (fun r21 m19 => some (r21, m19))))) else none)))))
set_option maxRecDepth 100000 in
set_option maxHeartbeats 4000000 in
theorem b_X9_humidity {p : Program} {l : Launch} {e : Env} {R : Room} {s : State} {m : MethodId} {args : Array Value} {below : List Frame} {meth : Method} {c : Code} {H : Heap} {locs : List Loc} {ls : Array Slot} {X : gX} (E : gEn p s m args c cX9_humidity RX9 X) (hr : meth.sig.returnType = (some .int)) (hlocks : meth.locks = false) (hml : c.maxLocals = 4) (hRf : 2 ≤ R.frames) (hRl : 46 ≤ R.locals) (hRc : 0 ≤ R.cells) (hRs : 0 ≤ R.slots) {c0 : Nat} {u1 : Int32} {u2 : Int32} {m0 : gMem} {res : Int32 × gMem} (hk0 : gk c0 = 9) (hf : f_X9_humidity c0 u1 u2 m0 = some res) (hM : gM X m0 H) (hS : va_S (gA X) s.heap H locs) (hl : lv_has ls 4 [(0, .ref (X.1 + c0)), (1, .int u1), (2, .int u2)]) : W p l e R s m args below meth c H locs 0 0 (MQ below (gQi X res) args s 0 0 (gA X)) (F0 m 0 ls []) := by
  obtain ⟨hx, hb⟩ := (⟨E.1, E.2.1⟩ : _ ∧ _)
  unfold f_X9_humidity at hf
  refine lv_iload_n hx hb dX9_humidity_0 rfl (lv_at hl 1 rfl) ?_
  refine lv_iconst (v := (0 : Int32)) hx hb dX9_humidity_1 (by decide) ?_
  refine lv_bipush (v := (23 : Int32)) hx hb dX9_humidity_2 (by decide) ?_
  obtain ⟨r3, m1, hqq2, hf⟩ := g1_o hf
  refine ga_i (gr_S (As := [.int u1, .int (0 : Int32), .int (23 : Int32)]) (rm := { frames := 0, cells := 0, slots := 0, locals := 0 }) E hml hl.1 (c_X9_in l X u1 (0 : Int32) (23 : Int32) m0 hqq2) wt_X9_in wl_RX9_53 rfl hM hS rfl rfl (Nat.le_trans (by decide) hRf) (Nat.le_trans (by decide) hRl) (Nat.le_trans (Nat.le_of_ble_eq_true rfl) hRc) (Nat.le_trans (Nat.le_of_ble_eq_true rfl) hRs) (Nat.le_of_ble_eq_true rfl) dX9_humidity_4 rfl) hS (fun H locs hM hS => ?_)
  refine lv_if_ne (tgt := 16) hx hb dX9_humidity_7 (by decide) (fun h4 => ?_) (fun h4 => ?_)
  · have hf := g_f h4 hf
    refine lv_iload_n hx hb dX9_humidity_16 rfl (lv_at hl 2 rfl) ?_
    refine lv_iconst (v := (0 : Int32)) hx hb dX9_humidity_17 (by decide) ?_
    refine lv_bipush (v := (99 : Int32)) hx hb dX9_humidity_18 (by decide) ?_
    obtain ⟨r7, m5, hqq6, hf⟩ := g1_o hf
    refine ga_i (gr_S (As := [.int u2, .int (0 : Int32), .int (99 : Int32)]) (rm := { frames := 0, cells := 0, slots := 0, locals := 0 }) E hml hl.1 (c_X9_in l X u2 (0 : Int32) (99 : Int32) m1 hqq6) wt_X9_in wl_RX9_53 rfl hM hS rfl rfl (Nat.le_trans (by decide) hRf) (Nat.le_trans (by decide) hRl) (Nat.le_trans (Nat.le_of_ble_eq_true rfl) hRc) (Nat.le_trans (Nat.le_of_ble_eq_true rfl) hRs) (Nat.le_of_ble_eq_true rfl) dX9_humidity_20 rfl) hS (fun H locs hM hS => ?_)
    refine lv_if_ne (tgt := 32) hx hb dX9_humidity_23 (by decide) (fun h8 => ?_) (fun h8 => ?_)
    · have hf := g_f h8 hf
      refine lv_aload_n hx hb dX9_humidity_32 rfl (lv_at hl 0 rfl) ?_
      obtain ⟨r11, m9, hqq10, hf⟩ := g1_o hf
      refine ga_v (gr_V (As := []) (ci := 9) (rm := { frames := 1, cells := 0, slots := 0, locals := 24 }) E hml hl.1 (c_X9_looksBack l X c0 m5 hk0 hqq10) wt_X9_looksBack wl_RX9_61 rfl hk0 (by decide) rfl rfl hM hS rfl rfl (Nat.le_trans (by decide) hRf) (Nat.le_trans (by decide) hRl) (Nat.le_trans (Nat.le_of_ble_eq_true rfl) hRc) (Nat.le_trans (Nat.le_of_ble_eq_true rfl) hRs) (Nat.le_of_ble_eq_true rfl) dX9_humidity_33 rfl) hS (fun H locs hM hS => ?_)
      refine lv_aload_n hx hb dX9_humidity_36 rfl (lv_at hl 0 rfl) ?_
      refine GX9_7 E hM hk0 dX9_humidity_37 ?_
      have hg12 : gk (c0 + 1) = 20 := gkf_9_0 hk0
      refine lv_iconst (v := (2 : Int32)) hx hb dX9_humidity_40 (by decide) ?_
      refine lv_iload_n hx hb dX9_humidity_41 rfl (lv_at hl 1 rfl) ?_
      refine lv_iadd hx hb dX9_humidity_42 ?_
      obtain ⟨hi13, hf⟩ := g_ck hf
      refine gg_iald E hM (gk_in hg12 (by decide)) hg12 hi13 dX9_humidity_43 ?_
      obtain ⟨x14, ex14, hf⟩ := gv_o hf
      rw [← ex14]
      refine lv_istore_n (lv' := [(3, .int x14), (0, .ref (X.1 + c0)), (1, .int u1), (2, .int u2)]) hx hb dX9_humidity_44 rfl hl (by decide) rfl (fun ls hl => ?_)
      refine lv_aload_n hx hb dX9_humidity_45 rfl (lv_at hl 1 rfl) ?_
      refine GX9_7 E hM hk0 dX9_humidity_46 ?_
      refine lv_iconst (v := (2 : Int32)) hx hb dX9_humidity_49 (by decide) ?_
      refine lv_iload_n hx hb dX9_humidity_50 rfl (lv_at hl 2 rfl) ?_
      refine lv_iadd hx hb dX9_humidity_51 ?_
      refine lv_iload_n hx hb dX9_humidity_52 rfl (lv_at hl 3 rfl) ?_
      obtain ⟨m15, em15, hf⟩ := gv_o hf
      refine gg_iast E (fun c hc => gA_in X hc) hM hS (gk_in hg12 (by decide)) hg12 hi13 em15 dX9_humidity_53 (fun H locs hM hS => ?_)
      refine lv_aload_n hx hb dX9_humidity_54 rfl (lv_at hl 1 rfl) ?_
      refine lv_aload_n hx hb dX9_humidity_55 rfl (lv_at hl 1 rfl) ?_
      refine lv_iload_n hx hb dX9_humidity_56 rfl (lv_at hl 0 rfl) ?_
      obtain ⟨r18, m16, hqq17, hf⟩ := g1_o hf
      refine ga_i (gr_V (As := [.int x14]) (ci := 9) (rm := { frames := 0, cells := 0, slots := 0, locals := 0 }) E hml hl.1 (c_X9_done l X c0 x14 m15 hk0 hqq17) wt_X9_done wl_RX9_64 rfl hk0 (by decide) rfl rfl hM hS rfl rfl (Nat.le_trans (by decide) hRf) (Nat.le_trans (by decide) hRl) (Nat.le_trans (Nat.le_of_ble_eq_true rfl) hRc) (Nat.le_trans (Nat.le_of_ble_eq_true rfl) hRs) (Nat.le_of_ble_eq_true rfl) dX9_humidity_57 rfl) hS (fun H locs hM hS => ?_)
      obtain ⟨r21, m19, hqq20, hf⟩ := g1_o hf
      refine ga_i (gr_V (As := [.int r18]) (ci := 9) (rm := { frames := 1, cells := 0, slots := 0, locals := 24 }) E hml hl.1 (c_X9_kept l X c0 r18 m16 hk0 hqq20) wt_X9_kept wl_RX9_67 rfl hk0 (by decide) rfl rfl hM hS rfl rfl (Nat.le_trans (by decide) hRf) (Nat.le_trans (by decide) hRl) (Nat.le_trans (Nat.le_of_ble_eq_true rfl) hRc) (Nat.le_trans (Nat.le_of_ble_eq_true rfl) hRs) (Nat.le_of_ble_eq_true rfl) dX9_humidity_60 rfl) hS (fun H locs hM hS => ?_)
      exact ge_i E hr hlocks hf hM hS (Nat.le_of_ble_eq_true rfl) (Nat.le_of_ble_eq_true rfl) dX9_humidity_63
    · have hf := g_t h8 hf
      refine lv_aload_n hx hb dX9_humidity_26 rfl (lv_at hl 0 rfl) ?_
      refine lv_iconst (v := (2 : Int32)) hx hb dX9_humidity_27 (by decide) ?_
      obtain ⟨r24, m22, hqq23, hf⟩ := g1_o hf
      refine ga_i (gr_V (As := [.int (2 : Int32)]) (ci := 9) (rm := { frames := 0, cells := 0, slots := 0, locals := 0 }) E hml hl.1 (c_X9_fails l X c0 (2 : Int32) m5 hk0 hqq23) wt_X9_fails wl_RX9_57 rfl hk0 (by decide) rfl rfl hM hS rfl rfl (Nat.le_trans (by decide) hRf) (Nat.le_trans (by decide) hRl) (Nat.le_trans (Nat.le_of_ble_eq_true rfl) hRc) (Nat.le_trans (Nat.le_of_ble_eq_true rfl) hRs) (Nat.le_of_ble_eq_true rfl) dX9_humidity_28 rfl) hS (fun H locs hM hS => ?_)
      exact ge_i E hr hlocks hf hM hS (Nat.le_of_ble_eq_true rfl) (Nat.le_of_ble_eq_true rfl) dX9_humidity_31
  · have hf := g_t h4 hf
    refine lv_aload_n hx hb dX9_humidity_10 rfl (lv_at hl 0 rfl) ?_
    refine lv_iconst (v := (1 : Int32)) hx hb dX9_humidity_11 (by decide) ?_
    obtain ⟨r27, m25, hqq26, hf⟩ := g1_o hf
    refine ga_i (gr_V (As := [.int (1 : Int32)]) (ci := 9) (rm := { frames := 0, cells := 0, slots := 0, locals := 0 }) E hml hl.1 (c_X9_fails l X c0 (1 : Int32) m1 hk0 hqq26) wt_X9_fails wl_RX9_57 rfl hk0 (by decide) rfl rfl hM hS rfl rfl (Nat.le_trans (by decide) hRf) (Nat.le_trans (by decide) hRl) (Nat.le_trans (Nat.le_of_ble_eq_true rfl) hRc) (Nat.le_trans (Nat.le_of_ble_eq_true rfl) hRs) (Nat.le_of_ble_eq_true rfl) dX9_humidity_12 rfl) hS (fun H locs hM hS => ?_)
    exact ge_i E hr hlocks hf hM hS (Nat.le_of_ble_eq_true rfl) (Nat.le_of_ble_eq_true rfl) dX9_humidity_15
theorem c_X9_humidity (l : Launch) (X : gX) (c0 : Nat) (u1 : Int32) (u2 : Int32) (m0 : gMem) {res : Int32 × gMem} (hk0 : gk c0 = 9) (hf : f_X9_humidity c0 u1 u2 m0 = some res) : Met l yX9_humidity (gWs yX9_humidity cX9_humidity 4 (some .int)) { frames := 2, cells := 0, slots := 0, locals := 46 } (va_Pc [.ref (X.1 + c0), .int u1, .int u2] (gB X m0)) (gQi X res) 0 0 (gA X) :=
  gMet (own := RX9) (by decide +kernel) rfl (Nat.le_of_ble_eq_true rfl) (fun p e s m args below meth c ls E hr hlocks hml hM hl => b_X9_humidity E hr hlocks hml (Nat.le_refl _) (Nat.le_refl _) (Nat.le_refl _) (Nat.le_refl _) hk0 hf hM va_S.rf hl)
def f_X9_humidAt (c0 : Nat) (u1 : Int32) (m0 : gMem) : Option (Int32 × gMem) := if ¬ (((2 : Int32) + (u1 - u1 / (24 : Int32) * (24 : Int32))) < 0 ∨ gl (c0 + 1) ≤ ((2 : Int32) + (u1 - u1 / (24 : Int32) * (24 : Int32))).toNatClampNeg) then some ((m0 (c0 + 1) ((2 : Int32) + (u1 - u1 / (24 : Int32) * (24 : Int32))).toNatClampNeg), m0) else none
set_option maxRecDepth 100000 in
set_option maxHeartbeats 4000000 in
theorem b_X9_humidAt {p : Program} {l : Launch} {e : Env} {R : Room} {s : State} {m : MethodId} {args : Array Value} {below : List Frame} {meth : Method} {c : Code} {H : Heap} {locs : List Loc} {ls : Array Slot} {X : gX} (E : gEn p s m args c cX9_humidAt RX9 X) (hr : meth.sig.returnType = (some .int)) (hlocks : meth.locks = false) (hml : c.maxLocals = 2) (hRf : 0 ≤ R.frames) (hRl : 0 ≤ R.locals) (hRc : 0 ≤ R.cells) (hRs : 0 ≤ R.slots) {c0 : Nat} {u1 : Int32} {m0 : gMem} {res : Int32 × gMem} (hk0 : gk c0 = 9) (hf : f_X9_humidAt c0 u1 m0 = some res) (hM : gM X m0 H) (hS : va_S (gA X) s.heap H locs) (hl : lv_has ls 2 [(0, .ref (X.1 + c0)), (1, .int u1)]) : W p l e R s m args below meth c H locs 0 0 (MQ below (gQi X res) args s 0 0 (gA X)) (F0 m 0 ls []) := by
  obtain ⟨hx, hb⟩ := (⟨E.1, E.2.1⟩ : _ ∧ _)
  unfold f_X9_humidAt at hf
  refine lv_aload_n hx hb dX9_humidAt_0 rfl (lv_at hl 0 rfl) ?_
  refine GX9_7 E hM hk0 dX9_humidAt_1 ?_
  have hg1 : gk (c0 + 1) = 20 := gkf_9_0 hk0
  refine lv_iconst (v := (2 : Int32)) hx hb dX9_humidAt_4 (by decide) ?_
  refine lv_iload_n hx hb dX9_humidAt_5 rfl (lv_at hl 1 rfl) ?_
  refine lv_bipush (v := (24 : Int32)) hx hb dX9_humidAt_6 (by decide) ?_
  refine lv_irem hx hb dX9_humidAt_8 (by decide) ?_
  refine lv_iadd hx hb dX9_humidAt_9 ?_
  obtain ⟨hi2, hf⟩ := g_ck hf
  refine gg_iald E hM (gk_in hg1 (by decide)) hg1 hi2 dX9_humidAt_10 ?_
  exact ge_i E hr hlocks hf hM hS (Nat.le_of_ble_eq_true rfl) (Nat.le_of_ble_eq_true rfl) dX9_humidAt_11
theorem c_X9_humidAt (l : Launch) (X : gX) (c0 : Nat) (u1 : Int32) (m0 : gMem) {res : Int32 × gMem} (hk0 : gk c0 = 9) (hf : f_X9_humidAt c0 u1 m0 = some res) : Met l yX9_humidAt (gWs yX9_humidAt cX9_humidAt 2 (some .int)) { frames := 0, cells := 0, slots := 0, locals := 0 } (va_Pc [.ref (X.1 + c0), .int u1] (gB X m0)) (gQi X res) 0 0 (gA X) :=
  gMet (own := RX9) (by decide +kernel) rfl (Nat.le_of_ble_eq_true rfl) (fun p e s m args below meth c ls E hr hlocks hml hM hl => b_X9_humidAt E hr hlocks hml (Nat.le_refl _) (Nat.le_refl _) (Nat.le_refl _) (Nat.le_refl _) hk0 hf hM va_S.rf hl)
def f_X9_humidityIn (c0 : Nat) (u1 : Int32) (m0 : gMem) : Option (Int32 × gMem) := g1 (f_X9_in u1 (0 : Int32) (99 : Int32) m0) (fun r3 m1 => if r3 = (0 : Int32) then (g1 (f_X9_fails c0 (1 : Int32) m1) (fun r7 m5 => some (r7, m5))) else (if ¬ ((0 : Int32) < 0 ∨ gl (c0 + 1) ≤ (0 : Int32).toNatClampNeg) then g1 (f_X9_humidAt c0 ((m1 (c0 + 1) (0 : Int32).toNatClampNeg) + u1) m1) (fun r12 m10 => g1 (f_X9_done c0 r12 m10) (fun r15 m13 => some (r15, m13))) else none))
set_option maxRecDepth 100000 in
set_option maxHeartbeats 4000000 in
theorem b_X9_humidityIn {p : Program} {l : Launch} {e : Env} {R : Room} {s : State} {m : MethodId} {args : Array Value} {below : List Frame} {meth : Method} {c : Code} {H : Heap} {locs : List Loc} {ls : Array Slot} {X : gX} (E : gEn p s m args c cX9_humidityIn RX9 X) (hr : meth.sig.returnType = (some .int)) (hlocks : meth.locks = false) (hml : c.maxLocals = 2) (hRf : 1 ≤ R.frames) (hRl : 22 ≤ R.locals) (hRc : 0 ≤ R.cells) (hRs : 0 ≤ R.slots) {c0 : Nat} {u1 : Int32} {m0 : gMem} {res : Int32 × gMem} (hk0 : gk c0 = 9) (hf : f_X9_humidityIn c0 u1 m0 = some res) (hM : gM X m0 H) (hS : va_S (gA X) s.heap H locs) (hl : lv_has ls 2 [(0, .ref (X.1 + c0)), (1, .int u1)]) : W p l e R s m args below meth c H locs 0 0 (MQ below (gQi X res) args s 0 0 (gA X)) (F0 m 0 ls []) := by
  obtain ⟨hx, hb⟩ := (⟨E.1, E.2.1⟩ : _ ∧ _)
  unfold f_X9_humidityIn at hf
  refine lv_iload_n hx hb dX9_humidityIn_0 rfl (lv_at hl 1 rfl) ?_
  refine lv_iconst (v := (0 : Int32)) hx hb dX9_humidityIn_1 (by decide) ?_
  refine lv_bipush (v := (99 : Int32)) hx hb dX9_humidityIn_2 (by decide) ?_
  obtain ⟨r3, m1, hqq2, hf⟩ := g1_o hf
  refine ga_i (gr_S (As := [.int u1, .int (0 : Int32), .int (99 : Int32)]) (rm := { frames := 0, cells := 0, slots := 0, locals := 0 }) E hml hl.1 (c_X9_in l X u1 (0 : Int32) (99 : Int32) m0 hqq2) wt_X9_in wl_RX9_53 rfl hM hS rfl rfl (Nat.le_trans (by decide) hRf) (Nat.le_trans (by decide) hRl) (Nat.le_trans (Nat.le_of_ble_eq_true rfl) hRc) (Nat.le_trans (Nat.le_of_ble_eq_true rfl) hRs) (Nat.le_of_ble_eq_true rfl) dX9_humidityIn_4 rfl) hS (fun H locs hM hS => ?_)
  refine lv_if_eq (tgt := 29) hx hb dX9_humidityIn_7 (by decide) (fun h4 => ?_) (fun h4 => ?_)
  · have hf := g_t h4 hf
    refine lv_aload_n hx hb dX9_humidityIn_29 rfl (lv_at hl 0 rfl) ?_
    refine lv_iconst (v := (1 : Int32)) hx hb dX9_humidityIn_30 (by decide) ?_
    obtain ⟨r7, m5, hqq6, hf⟩ := g1_o hf
    refine ga_i (gr_V (As := [.int (1 : Int32)]) (ci := 9) (rm := { frames := 0, cells := 0, slots := 0, locals := 0 }) E hml hl.1 (c_X9_fails l X c0 (1 : Int32) m1 hk0 hqq6) wt_X9_fails wl_RX9_57 rfl hk0 (by decide) rfl rfl hM hS rfl rfl (Nat.le_trans (by decide) hRf) (Nat.le_trans (by decide) hRl) (Nat.le_trans (Nat.le_of_ble_eq_true rfl) hRc) (Nat.le_trans (Nat.le_of_ble_eq_true rfl) hRs) (Nat.le_of_ble_eq_true rfl) dX9_humidityIn_31 rfl) hS (fun H locs hM hS => ?_)
    exact ge_i E hr hlocks hf hM hS (Nat.le_of_ble_eq_true rfl) (Nat.le_of_ble_eq_true rfl) dX9_humidityIn_34
  · have hf := g_f h4 hf
    refine lv_aload_n hx hb dX9_humidityIn_10 rfl (lv_at hl 0 rfl) ?_
    refine lv_aload_n hx hb dX9_humidityIn_11 rfl (lv_at hl 0 rfl) ?_
    refine lv_aload_n hx hb dX9_humidityIn_12 rfl (lv_at hl 0 rfl) ?_
    refine GX9_7 E hM hk0 dX9_humidityIn_13 ?_
    have hg8 : gk (c0 + 1) = 20 := gkf_9_0 hk0
    refine lv_iconst (v := (0 : Int32)) hx hb dX9_humidityIn_16 (by decide) ?_
    obtain ⟨hi9, hf⟩ := g_ck hf
    refine gg_iald E hM (gk_in hg8 (by decide)) hg8 hi9 dX9_humidityIn_17 ?_
    refine lv_iload_n hx hb dX9_humidityIn_18 rfl (lv_at hl 1 rfl) ?_
    refine lv_iadd hx hb dX9_humidityIn_19 ?_
    obtain ⟨r12, m10, hqq11, hf⟩ := g1_o hf
    refine ga_i (gr_V (As := [.int ((m1 (c0 + 1) (0 : Int32).toNatClampNeg) + u1)]) (ci := 9) (rm := { frames := 0, cells := 0, slots := 0, locals := 0 }) E hml hl.1 (c_X9_humidAt l X c0 ((m1 (c0 + 1) (0 : Int32).toNatClampNeg) + u1) m1 hk0 hqq11) wt_X9_humidAt wl_RX9_70 rfl hk0 (by decide) rfl rfl hM hS rfl rfl (Nat.le_trans (by decide) hRf) (Nat.le_trans (by decide) hRl) (Nat.le_trans (Nat.le_of_ble_eq_true rfl) hRc) (Nat.le_trans (Nat.le_of_ble_eq_true rfl) hRs) (Nat.le_of_ble_eq_true rfl) dX9_humidityIn_20 rfl) hS (fun H locs hM hS => ?_)
    obtain ⟨r15, m13, hqq14, hf⟩ := g1_o hf
    refine ga_i (gr_V (As := [.int r12]) (ci := 9) (rm := { frames := 0, cells := 0, slots := 0, locals := 0 }) E hml hl.1 (c_X9_done l X c0 r12 m10 hk0 hqq14) wt_X9_done wl_RX9_64 rfl hk0 (by decide) rfl rfl hM hS rfl rfl (Nat.le_trans (by decide) hRf) (Nat.le_trans (by decide) hRl) (Nat.le_trans (Nat.le_of_ble_eq_true rfl) hRc) (Nat.le_trans (Nat.le_of_ble_eq_true rfl) hRs) (Nat.le_of_ble_eq_true rfl) dX9_humidityIn_23 rfl) hS (fun H locs hM hS => ?_)
    refine lv_goto (tgt := 34) hx hb dX9_humidityIn_26 (by decide) ?_
    exact ge_i E hr hlocks hf hM hS (Nat.le_of_ble_eq_true rfl) (Nat.le_of_ble_eq_true rfl) dX9_humidityIn_34
theorem c_X9_humidityIn (l : Launch) (X : gX) (c0 : Nat) (u1 : Int32) (m0 : gMem) {res : Int32 × gMem} (hk0 : gk c0 = 9) (hf : f_X9_humidityIn c0 u1 m0 = some res) : Met l yX9_humidityIn (gWs yX9_humidityIn cX9_humidityIn 2 (some .int)) { frames := 1, cells := 0, slots := 0, locals := 22 } (va_Pc [.ref (X.1 + c0), .int u1] (gB X m0)) (gQi X res) 0 0 (gA X) :=
  gMet (own := RX9) (by decide +kernel) rfl (Nat.le_of_ble_eq_true rfl) (fun p e s m args below meth c ls E hr hlocks hml hM hl => b_X9_humidityIn E hr hlocks hml (Nat.le_refl _) (Nat.le_refl _) (Nat.le_refl _) (Nat.le_refl _) hk0 hf hM va_S.rf hl)
def f_X9_isGrade (u0 : Int32) (m0 : gMem) : Option (Int32 × gMem) := g1 (f_X9_in u0 (0 : Int32) (2 : Int32) m0) (fun r3 m1 => if r3 = 0 ∨ r3 = 1 then some (r3, m1) else none)
set_option maxRecDepth 100000 in
set_option maxHeartbeats 4000000 in
theorem b_X9_isGrade {p : Program} {l : Launch} {e : Env} {R : Room} {s : State} {m : MethodId} {args : Array Value} {below : List Frame} {meth : Method} {c : Code} {H : Heap} {locs : List Loc} {ls : Array Slot} {X : gX} (E : gEn p s m args c cX9_isGrade RX9 X) (hr : meth.sig.returnType = (some .boolean)) (hlocks : meth.locks = false) (hml : c.maxLocals = 1) (hRf : 1 ≤ R.frames) (hRl : 22 ≤ R.locals) (hRc : 0 ≤ R.cells) (hRs : 0 ≤ R.slots) {u0 : Int32} {m0 : gMem} {res : Int32 × gMem}  (hf : f_X9_isGrade u0 m0 = some res) (hM : gM X m0 H) (hS : va_S (gA X) s.heap H locs) (hl : lv_has ls 1 [(0, .int u0)]) : W p l e R s m args below meth c H locs 0 0 (MQ below (gQi X res) args s 0 0 (gA X)) (F0 m 0 ls []) := by
  obtain ⟨hx, hb⟩ := (⟨E.1, E.2.1⟩ : _ ∧ _)
  unfold f_X9_isGrade at hf
  refine lv_iload_n hx hb dX9_isGrade_0 rfl (lv_at hl 0 rfl) ?_
  refine lv_iconst (v := (0 : Int32)) hx hb dX9_isGrade_1 (by decide) ?_
  refine lv_iconst (v := (2 : Int32)) hx hb dX9_isGrade_2 (by decide) ?_
  obtain ⟨r3, m1, hqq2, hf⟩ := g1_o hf
  refine ga_i (gr_S (As := [.int u0, .int (0 : Int32), .int (2 : Int32)]) (rm := { frames := 0, cells := 0, slots := 0, locals := 0 }) E hml hl.1 (c_X9_in l X u0 (0 : Int32) (2 : Int32) m0 hqq2) wt_X9_in wl_RX9_53 rfl hM hS rfl rfl (Nat.le_trans (by decide) hRf) (Nat.le_trans (by decide) hRl) (Nat.le_trans (Nat.le_of_ble_eq_true rfl) hRc) (Nat.le_trans (Nat.le_of_ble_eq_true rfl) hRs) (Nat.le_of_ble_eq_true rfl) dX9_isGrade_3 rfl) hS (fun H locs hM hS => ?_)
  obtain ⟨hb4, hf⟩ := g_ck hf
  exact ge_z E hr (g_nb hb4) hlocks hf hM hS (Nat.le_of_ble_eq_true rfl) (Nat.le_of_ble_eq_true rfl) dX9_isGrade_6
theorem c_X9_isGrade (l : Launch) (X : gX) (u0 : Int32) (m0 : gMem) {res : Int32 × gMem}  (hf : f_X9_isGrade u0 m0 = some res) : Met l yX9_isGrade (gWs yX9_isGrade cX9_isGrade 1 (some .boolean)) { frames := 1, cells := 0, slots := 0, locals := 22 } (va_Pc [.int u0] (gB X m0)) (gQi X res) 0 0 (gA X) :=
  gMet (own := RX9) (by decide +kernel) rfl (Nat.le_of_ble_eq_true rfl) (fun p e s m args below meth c ls E hr hlocks hml hM hl => b_X9_isGrade E hr hlocks hml (Nat.le_refl _) (Nat.le_refl _) (Nat.le_refl _) (Nat.le_refl _)  hf hM va_S.rf hl)
def f_X9_buys (c0 : Nat) (u1 : Int32) (u2 : Int32) (m0 : gMem) : Option (Int32 × gMem) := g1 (f_X9_isGrade u1 m0) (fun r3 m1 => if r3 = (0 : Int32) then (g1 (f_X9_fails c0 (1 : Int32) m1) (fun r7 m5 => some (r7, m5))) else (g1 (f_X9_in u2 (1 : Int32) (99 : Int32) m1) (fun r10 m8 => if r10 = (0 : Int32) then (g1 (f_X9_fails c0 (1 : Int32) m8) (fun r35 m33 => some (r35, m33))) else (if ¬ (((26 : Int32) + u1) < 0 ∨ gl (c0 + 1) ≤ ((26 : Int32) + u1).toNatClampNeg) then if ((m8 (c0 + 1) ((26 : Int32) + u1).toNatClampNeg) + u2) ≤ (300 : Int32) then (gv ((u2 * (u1 + (1 : Int32)))) (fun x15 => if ¬ ((1 : Int32) < 0 ∨ gl (c0 + 1) ≤ (1 : Int32).toNatClampNeg) then if x15 ≤ (m8 (c0 + 1) (1 : Int32).toNatClampNeg) then (gv (ms m8 (c0 + 1) (1 : Int32).toNatClampNeg ((m8 (c0 + 1) (1 : Int32).toNatClampNeg) - x15)) (fun m18 => if ¬ ((99 : Int32) < 0 ∨ gl (c0 + 1) ≤ (99 : Int32).toNatClampNeg) then gv (ms m18 (c0 + 1) (99 : Int32).toNatClampNeg ((m18 (c0 + 1) (99 : Int32).toNatClampNeg) + x15)) (fun m20 => if ¬ ((95 : Int32) < 0 ∨ gl (c0 + 1) ≤ (95 : Int32).toNatClampNeg) then gv (ms m20 (c0 + 1) (95 : Int32).toNatClampNeg ((m20 (c0 + 1) (95 : Int32).toNatClampNeg) + u2)) (fun m22 => gv (ms m22 (c0 + 1) ((26 : Int32) + u1).toNatClampNeg ((m22 (c0 + 1) ((26 : Int32) + u1).toNatClampNeg) + u2)) (fun m23 => g1 (f_X9_done c0 (m23 (c0 + 1) ((26 : Int32) + u1).toNatClampNeg) m23) (fun r26 m24 => some (r26, m24)))) else none) else none)) else (g1 (f_X9_refused c0 (2 : Int32) (x15 - (m8 (c0 + 1) (1 : Int32).toNatClampNeg)) (2 : Int32) m8) (fun r29 m27 => some (r29, m27))) else none)) else (g1 (f_X9_refused c0 (3 : Int32) (m8 (c0 + 1) ((26 : Int32) + u1).toNatClampNeg) (2 : Int32) m8) (fun r32 m30 => some (r32, m30))) else none))))
set_option maxRecDepth 100000 in
set_option maxHeartbeats 4000000 in
theorem b_X9_buys {p : Program} {l : Launch} {e : Env} {R : Room} {s : State} {m : MethodId} {args : Array Value} {below : List Frame} {meth : Method} {c : Code} {H : Heap} {locs : List Loc} {ls : Array Slot} {X : gX} (E : gEn p s m args c cX9_buys RX9 X) (hr : meth.sig.returnType = (some .int)) (hlocks : meth.locks = false) (hml : c.maxLocals = 4) (hRf : 2 ≤ R.frames) (hRl : 42 ≤ R.locals) (hRc : 0 ≤ R.cells) (hRs : 0 ≤ R.slots) {c0 : Nat} {u1 : Int32} {u2 : Int32} {m0 : gMem} {res : Int32 × gMem} (hk0 : gk c0 = 9) (hf : f_X9_buys c0 u1 u2 m0 = some res) (hM : gM X m0 H) (hS : va_S (gA X) s.heap H locs) (hl : lv_has ls 4 [(0, .ref (X.1 + c0)), (1, .int u1), (2, .int u2)]) : W p l e R s m args below meth c H locs 0 0 (MQ below (gQi X res) args s 0 0 (gA X)) (F0 m 0 ls []) := by
  obtain ⟨hx, hb⟩ := (⟨E.1, E.2.1⟩ : _ ∧ _)
  unfold f_X9_buys at hf
  refine lv_iload_n hx hb dX9_buys_0 rfl (lv_at hl 1 rfl) ?_
  obtain ⟨r3, m1, hqq2, hf⟩ := g1_o hf
  refine ga_i (gr_S (As := [.int u1]) (rm := { frames := 1, cells := 0, slots := 0, locals := 22 }) E hml hl.1 (c_X9_isGrade l X u1 m0 hqq2) wt_X9_isGrade wl_RX9_73 rfl hM hS rfl rfl (Nat.le_trans (by decide) hRf) (Nat.le_trans (by decide) hRl) (Nat.le_trans (Nat.le_of_ble_eq_true rfl) hRc) (Nat.le_trans (Nat.le_of_ble_eq_true rfl) hRs) (Nat.le_of_ble_eq_true rfl) dX9_buys_1 rfl) hS (fun H locs hM hS => ?_)
  refine lv_if_eq (tgt := 17) hx hb dX9_buys_4 (by decide) (fun h4 => ?_) (fun h4 => ?_)
  · have hf := g_t h4 hf
    refine lv_aload_n hx hb dX9_buys_17 rfl (lv_at hl 0 rfl) ?_
    refine lv_iconst (v := (1 : Int32)) hx hb dX9_buys_18 (by decide) ?_
    obtain ⟨r7, m5, hqq6, hf⟩ := g1_o hf
    refine ga_i (gr_V (As := [.int (1 : Int32)]) (ci := 9) (rm := { frames := 0, cells := 0, slots := 0, locals := 0 }) E hml hl.1 (c_X9_fails l X c0 (1 : Int32) m1 hk0 hqq6) wt_X9_fails wl_RX9_57 rfl hk0 (by decide) rfl rfl hM hS rfl rfl (Nat.le_trans (by decide) hRf) (Nat.le_trans (by decide) hRl) (Nat.le_trans (Nat.le_of_ble_eq_true rfl) hRc) (Nat.le_trans (Nat.le_of_ble_eq_true rfl) hRs) (Nat.le_of_ble_eq_true rfl) dX9_buys_19 rfl) hS (fun H locs hM hS => ?_)
    exact ge_i E hr hlocks hf hM hS (Nat.le_of_ble_eq_true rfl) (Nat.le_of_ble_eq_true rfl) dX9_buys_22
  · have hf := g_f h4 hf
    refine lv_iload_n hx hb dX9_buys_7 rfl (lv_at hl 2 rfl) ?_
    refine lv_iconst (v := (1 : Int32)) hx hb dX9_buys_8 (by decide) ?_
    refine lv_bipush (v := (99 : Int32)) hx hb dX9_buys_9 (by decide) ?_
    obtain ⟨r10, m8, hqq9, hf⟩ := g1_o hf
    refine ga_i (gr_S (As := [.int u2, .int (1 : Int32), .int (99 : Int32)]) (rm := { frames := 0, cells := 0, slots := 0, locals := 0 }) E hml hl.1 (c_X9_in l X u2 (1 : Int32) (99 : Int32) m1 hqq9) wt_X9_in wl_RX9_53 rfl hM hS rfl rfl (Nat.le_trans (by decide) hRf) (Nat.le_trans (by decide) hRl) (Nat.le_trans (Nat.le_of_ble_eq_true rfl) hRc) (Nat.le_trans (Nat.le_of_ble_eq_true rfl) hRs) (Nat.le_of_ble_eq_true rfl) dX9_buys_11 rfl) hS (fun H locs hM hS => ?_)
    refine lv_if_ne (tgt := 23) hx hb dX9_buys_14 (by decide) (fun h11 => ?_) (fun h11 => ?_)
    · have hf := g_f h11 hf
      refine lv_aload_n hx hb dX9_buys_23 rfl (lv_at hl 0 rfl) ?_
      refine GX9_7 E hM hk0 dX9_buys_24 ?_
      have hg12 : gk (c0 + 1) = 20 := gkf_9_0 hk0
      refine lv_bipush (v := (26 : Int32)) hx hb dX9_buys_27 (by decide) ?_
      refine lv_iload_n hx hb dX9_buys_29 rfl (lv_at hl 1 rfl) ?_
      refine lv_iadd hx hb dX9_buys_30 ?_
      obtain ⟨hi13, hf⟩ := g_ck hf
      refine gg_iald E hM (gk_in hg12 (by decide)) hg12 hi13 dX9_buys_31 ?_
      refine lv_iload_n hx hb dX9_buys_32 rfl (lv_at hl 2 rfl) ?_
      refine lv_iadd hx hb dX9_buys_33 ?_
      refine lv_sipush (v := (300 : Int32)) hx hb dX9_buys_34 (by decide) ?_
      refine lv_icmp_le (tgt := 56) hx hb dX9_buys_37 (by decide) (fun h14 => ?_) (fun h14 => ?_)
      · have hf := g_t h14 hf
        refine lv_iload_n hx hb dX9_buys_56 rfl (lv_at hl 2 rfl) ?_
        refine lv_iload_n hx hb dX9_buys_57 rfl (lv_at hl 1 rfl) ?_
        refine lv_iconst (v := (1 : Int32)) hx hb dX9_buys_58 (by decide) ?_
        refine lv_iadd hx hb dX9_buys_59 ?_
        refine lv_imul hx hb dX9_buys_60 ?_
        obtain ⟨x15, ex15, hf⟩ := gv_o hf
        rw [← ex15]
        refine lv_istore_n (lv' := [(3, .int x15), (0, .ref (X.1 + c0)), (1, .int u1), (2, .int u2)]) hx hb dX9_buys_61 rfl hl (by decide) rfl (fun ls hl => ?_)
        refine lv_aload_n hx hb dX9_buys_62 rfl (lv_at hl 1 rfl) ?_
        refine GX9_7 E hM hk0 dX9_buys_63 ?_
        refine lv_iconst (v := (1 : Int32)) hx hb dX9_buys_66 (by decide) ?_
        obtain ⟨hi16, hf⟩ := g_ck hf
        refine gg_iald E hM (gk_in hg12 (by decide)) hg12 hi16 dX9_buys_67 ?_
        refine lv_iload_n hx hb dX9_buys_68 rfl (lv_at hl 0 rfl) ?_
        refine lv_icmp_ge (tgt := 87) hx hb dX9_buys_69 (by decide) (fun h17 => ?_) (fun h17 => ?_)
        · have hf := g_t h17 hf
          refine lv_aload_n hx hb dX9_buys_87 rfl (lv_at hl 1 rfl) ?_
          refine GX9_7 E hM hk0 dX9_buys_88 ?_
          refine lv_iconst (v := (1 : Int32)) hx hb dX9_buys_91 (by decide) ?_
          refine lv_dup2_11 hx hb dX9_buys_92 rfl rfl ?_
          refine gg_iald E hM (gk_in hg12 (by decide)) hg12 hi16 dX9_buys_93 ?_
          refine lv_iload_n hx hb dX9_buys_94 rfl (lv_at hl 0 rfl) ?_
          refine lv_isub hx hb dX9_buys_95 ?_
          obtain ⟨m18, em18, hf⟩ := gv_o hf
          refine gg_iast E (fun c hc => gA_in X hc) hM hS (gk_in hg12 (by decide)) hg12 hi16 em18 dX9_buys_96 (fun H locs hM hS => ?_)
          refine lv_aload_n hx hb dX9_buys_97 rfl (lv_at hl 1 rfl) ?_
          refine GX9_7 E hM hk0 dX9_buys_98 ?_
          refine lv_bipush (v := (99 : Int32)) hx hb dX9_buys_101 (by decide) ?_
          refine lv_dup2_11 hx hb dX9_buys_103 rfl rfl ?_
          obtain ⟨hi19, hf⟩ := g_ck hf
          refine gg_iald E hM (gk_in hg12 (by decide)) hg12 hi19 dX9_buys_104 ?_
          refine lv_iload_n hx hb dX9_buys_105 rfl (lv_at hl 0 rfl) ?_
          refine lv_iadd hx hb dX9_buys_106 ?_
          obtain ⟨m20, em20, hf⟩ := gv_o hf
          refine gg_iast E (fun c hc => gA_in X hc) hM hS (gk_in hg12 (by decide)) hg12 hi19 em20 dX9_buys_107 (fun H locs hM hS => ?_)
          refine lv_aload_n hx hb dX9_buys_108 rfl (lv_at hl 1 rfl) ?_
          refine GX9_7 E hM hk0 dX9_buys_109 ?_
          refine lv_bipush (v := (95 : Int32)) hx hb dX9_buys_112 (by decide) ?_
          refine lv_dup2_11 hx hb dX9_buys_114 rfl rfl ?_
          obtain ⟨hi21, hf⟩ := g_ck hf
          refine gg_iald E hM (gk_in hg12 (by decide)) hg12 hi21 dX9_buys_115 ?_
          refine lv_iload_n hx hb dX9_buys_116 rfl (lv_at hl 3 rfl) ?_
          refine lv_iadd hx hb dX9_buys_117 ?_
          obtain ⟨m22, em22, hf⟩ := gv_o hf
          refine gg_iast E (fun c hc => gA_in X hc) hM hS (gk_in hg12 (by decide)) hg12 hi21 em22 dX9_buys_118 (fun H locs hM hS => ?_)
          refine lv_aload_n hx hb dX9_buys_119 rfl (lv_at hl 1 rfl) ?_
          refine GX9_7 E hM hk0 dX9_buys_120 ?_
          refine lv_bipush (v := (26 : Int32)) hx hb dX9_buys_123 (by decide) ?_
          refine lv_iload_n hx hb dX9_buys_125 rfl (lv_at hl 2 rfl) ?_
          refine lv_iadd hx hb dX9_buys_126 ?_
          refine lv_dup2_11 hx hb dX9_buys_127 rfl rfl ?_
          refine gg_iald E hM (gk_in hg12 (by decide)) hg12 hi13 dX9_buys_128 ?_
          refine lv_iload_n hx hb dX9_buys_129 rfl (lv_at hl 3 rfl) ?_
          refine lv_iadd hx hb dX9_buys_130 ?_
          obtain ⟨m23, em23, hf⟩ := gv_o hf
          refine gg_iast E (fun c hc => gA_in X hc) hM hS (gk_in hg12 (by decide)) hg12 hi13 em23 dX9_buys_131 (fun H locs hM hS => ?_)
          refine lv_aload_n hx hb dX9_buys_132 rfl (lv_at hl 1 rfl) ?_
          refine lv_aload_n hx hb dX9_buys_133 rfl (lv_at hl 1 rfl) ?_
          refine GX9_7 E hM hk0 dX9_buys_134 ?_
          refine lv_bipush (v := (26 : Int32)) hx hb dX9_buys_137 (by decide) ?_
          refine lv_iload_n hx hb dX9_buys_139 rfl (lv_at hl 2 rfl) ?_
          refine lv_iadd hx hb dX9_buys_140 ?_
          refine gg_iald E hM (gk_in hg12 (by decide)) hg12 hi13 dX9_buys_141 ?_
          obtain ⟨r26, m24, hqq25, hf⟩ := g1_o hf
          refine ga_i (gr_V (As := [.int (m23 (c0 + 1) ((26 : Int32) + u1).toNatClampNeg)]) (ci := 9) (rm := { frames := 0, cells := 0, slots := 0, locals := 0 }) E hml hl.1 (c_X9_done l X c0 (m23 (c0 + 1) ((26 : Int32) + u1).toNatClampNeg) m23 hk0 hqq25) wt_X9_done wl_RX9_64 rfl hk0 (by decide) rfl rfl hM hS rfl rfl (Nat.le_trans (by decide) hRf) (Nat.le_trans (by decide) hRl) (Nat.le_trans (Nat.le_of_ble_eq_true rfl) hRc) (Nat.le_trans (Nat.le_of_ble_eq_true rfl) hRs) (Nat.le_of_ble_eq_true rfl) dX9_buys_142 rfl) hS (fun H locs hM hS => ?_)
          exact ge_i E hr hlocks hf hM hS (Nat.le_of_ble_eq_true rfl) (Nat.le_of_ble_eq_true rfl) dX9_buys_145
        · have hf := g_f h17 hf
          refine lv_aload_n hx hb dX9_buys_72 rfl (lv_at hl 1 rfl) ?_
          refine lv_iconst (v := (2 : Int32)) hx hb dX9_buys_73 (by decide) ?_
          refine lv_iload_n hx hb dX9_buys_74 rfl (lv_at hl 0 rfl) ?_
          refine lv_aload_n hx hb dX9_buys_75 rfl (lv_at hl 1 rfl) ?_
          refine GX9_7 E hM hk0 dX9_buys_76 ?_
          refine lv_iconst (v := (1 : Int32)) hx hb dX9_buys_79 (by decide) ?_
          refine gg_iald E hM (gk_in hg12 (by decide)) hg12 hi16 dX9_buys_80 ?_
          refine lv_isub hx hb dX9_buys_81 ?_
          refine lv_iconst (v := (2 : Int32)) hx hb dX9_buys_82 (by decide) ?_
          obtain ⟨r29, m27, hqq28, hf⟩ := g1_o hf
          refine ga_i (gr_V (As := [.int (2 : Int32), .int (x15 - (m8 (c0 + 1) (1 : Int32).toNatClampNeg)), .int (2 : Int32)]) (ci := 9) (rm := { frames := 0, cells := 0, slots := 0, locals := 0 }) E hml hl.1 (c_X9_refused l X c0 (2 : Int32) (x15 - (m8 (c0 + 1) (1 : Int32).toNatClampNeg)) (2 : Int32) m8 hk0 hqq28) wt_X9_refused wl_RX9_77 rfl hk0 (by decide) rfl rfl hM hS rfl rfl (Nat.le_trans (by decide) hRf) (Nat.le_trans (by decide) hRl) (Nat.le_trans (Nat.le_of_ble_eq_true rfl) hRc) (Nat.le_trans (Nat.le_of_ble_eq_true rfl) hRs) (Nat.le_of_ble_eq_true rfl) dX9_buys_83 rfl) hS (fun H locs hM hS => ?_)
          exact ge_i E hr hlocks hf hM hS (Nat.le_of_ble_eq_true rfl) (Nat.le_of_ble_eq_true rfl) dX9_buys_86
      · have hf := g_f h14 hf
        refine lv_aload_n hx hb dX9_buys_40 rfl (lv_at hl 0 rfl) ?_
        refine lv_iconst (v := (3 : Int32)) hx hb dX9_buys_41 (by decide) ?_
        refine lv_aload_n hx hb dX9_buys_42 rfl (lv_at hl 0 rfl) ?_
        refine GX9_7 E hM hk0 dX9_buys_43 ?_
        refine lv_bipush (v := (26 : Int32)) hx hb dX9_buys_46 (by decide) ?_
        refine lv_iload_n hx hb dX9_buys_48 rfl (lv_at hl 1 rfl) ?_
        refine lv_iadd hx hb dX9_buys_49 ?_
        refine gg_iald E hM (gk_in hg12 (by decide)) hg12 hi13 dX9_buys_50 ?_
        refine lv_iconst (v := (2 : Int32)) hx hb dX9_buys_51 (by decide) ?_
        obtain ⟨r32, m30, hqq31, hf⟩ := g1_o hf
        refine ga_i (gr_V (As := [.int (3 : Int32), .int (m8 (c0 + 1) ((26 : Int32) + u1).toNatClampNeg), .int (2 : Int32)]) (ci := 9) (rm := { frames := 0, cells := 0, slots := 0, locals := 0 }) E hml hl.1 (c_X9_refused l X c0 (3 : Int32) (m8 (c0 + 1) ((26 : Int32) + u1).toNatClampNeg) (2 : Int32) m8 hk0 hqq31) wt_X9_refused wl_RX9_77 rfl hk0 (by decide) rfl rfl hM hS rfl rfl (Nat.le_trans (by decide) hRf) (Nat.le_trans (by decide) hRl) (Nat.le_trans (Nat.le_of_ble_eq_true rfl) hRc) (Nat.le_trans (Nat.le_of_ble_eq_true rfl) hRs) (Nat.le_of_ble_eq_true rfl) dX9_buys_52 rfl) hS (fun H locs hM hS => ?_)
        exact ge_i E hr hlocks hf hM hS (Nat.le_of_ble_eq_true rfl) (Nat.le_of_ble_eq_true rfl) dX9_buys_55
    · have hf := g_t h11 hf
      refine lv_aload_n hx hb dX9_buys_17 rfl (lv_at hl 0 rfl) ?_
      refine lv_iconst (v := (1 : Int32)) hx hb dX9_buys_18 (by decide) ?_
      obtain ⟨r35, m33, hqq34, hf⟩ := g1_o hf
      refine ga_i (gr_V (As := [.int (1 : Int32)]) (ci := 9) (rm := { frames := 0, cells := 0, slots := 0, locals := 0 }) E hml hl.1 (c_X9_fails l X c0 (1 : Int32) m8 hk0 hqq34) wt_X9_fails wl_RX9_57 rfl hk0 (by decide) rfl rfl hM hS rfl rfl (Nat.le_trans (by decide) hRf) (Nat.le_trans (by decide) hRl) (Nat.le_trans (Nat.le_of_ble_eq_true rfl) hRc) (Nat.le_trans (Nat.le_of_ble_eq_true rfl) hRs) (Nat.le_of_ble_eq_true rfl) dX9_buys_19 rfl) hS (fun H locs hM hS => ?_)
      exact ge_i E hr hlocks hf hM hS (Nat.le_of_ble_eq_true rfl) (Nat.le_of_ble_eq_true rfl) dX9_buys_22
theorem c_X9_buys (l : Launch) (X : gX) (c0 : Nat) (u1 : Int32) (u2 : Int32) (m0 : gMem) {res : Int32 × gMem} (hk0 : gk c0 = 9) (hf : f_X9_buys c0 u1 u2 m0 = some res) : Met l yX9_buys (gWs yX9_buys cX9_buys 4 (some .int)) { frames := 2, cells := 0, slots := 0, locals := 42 } (va_Pc [.ref (X.1 + c0), .int u1, .int u2] (gB X m0)) (gQi X res) 0 0 (gA X) :=
  gMet (own := RX9) (by decide +kernel) rfl (Nat.le_of_ble_eq_true rfl) (fun p e s m args below meth c ls E hr hlocks hml hM hl => b_X9_buys E hr hlocks hml (Nat.le_refl _) (Nat.le_refl _) (Nat.le_refl _) (Nat.le_refl _) hk0 hf hM va_S.rf hl)
def f_X9_buy (c0 : Nat) (u1 : Int32) (u2 : Int32) (m0 : gMem) : Option (Int32 × gMem) := g1 (f_X9_looksBack c0 m0) (fun r3 m1 => g1 (f_X9_buys c0 u1 u2 m1) (fun r6 m4 => g1 (f_X9_kept c0 r6 m4) (fun r9 m7 => some (r9, m7))))
set_option maxRecDepth 100000 in
set_option maxHeartbeats 4000000 in
theorem b_X9_buy {p : Program} {l : Launch} {e : Env} {R : Room} {s : State} {m : MethodId} {args : Array Value} {below : List Frame} {meth : Method} {c : Code} {H : Heap} {locs : List Loc} {ls : Array Slot} {X : gX} (E : gEn p s m args c cX9_buy RX9 X) (hr : meth.sig.returnType = (some .int)) (hlocks : meth.locks = false) (hml : c.maxLocals = 3) (hRf : 3 ≤ R.frames) (hRl : 65 ≤ R.locals) (hRc : 0 ≤ R.cells) (hRs : 0 ≤ R.slots) {c0 : Nat} {u1 : Int32} {u2 : Int32} {m0 : gMem} {res : Int32 × gMem} (hk0 : gk c0 = 9) (hf : f_X9_buy c0 u1 u2 m0 = some res) (hM : gM X m0 H) (hS : va_S (gA X) s.heap H locs) (hl : lv_has ls 3 [(0, .ref (X.1 + c0)), (1, .int u1), (2, .int u2)]) : W p l e R s m args below meth c H locs 0 0 (MQ below (gQi X res) args s 0 0 (gA X)) (F0 m 0 ls []) := by
  obtain ⟨hx, hb⟩ := (⟨E.1, E.2.1⟩ : _ ∧ _)
  unfold f_X9_buy at hf
  refine lv_aload_n hx hb dX9_buy_0 rfl (lv_at hl 0 rfl) ?_
  obtain ⟨r3, m1, hqq2, hf⟩ := g1_o hf
  refine ga_v (gr_V (As := []) (ci := 9) (rm := { frames := 1, cells := 0, slots := 0, locals := 24 }) E hml hl.1 (c_X9_looksBack l X c0 m0 hk0 hqq2) wt_X9_looksBack wl_RX9_61 rfl hk0 (by decide) rfl rfl hM hS rfl rfl (Nat.le_trans (by decide) hRf) (Nat.le_trans (by decide) hRl) (Nat.le_trans (Nat.le_of_ble_eq_true rfl) hRc) (Nat.le_trans (Nat.le_of_ble_eq_true rfl) hRs) (Nat.le_of_ble_eq_true rfl) dX9_buy_1 rfl) hS (fun H locs hM hS => ?_)
  refine lv_aload_n hx hb dX9_buy_4 rfl (lv_at hl 0 rfl) ?_
  refine lv_aload_n hx hb dX9_buy_5 rfl (lv_at hl 0 rfl) ?_
  refine lv_iload_n hx hb dX9_buy_6 rfl (lv_at hl 1 rfl) ?_
  refine lv_iload_n hx hb dX9_buy_7 rfl (lv_at hl 2 rfl) ?_
  obtain ⟨r6, m4, hqq5, hf⟩ := g1_o hf
  refine ga_i (gr_V (As := [.int u1, .int u2]) (ci := 9) (rm := { frames := 2, cells := 0, slots := 0, locals := 42 }) E hml hl.1 (c_X9_buys l X c0 u1 u2 m1 hk0 hqq5) wt_X9_buys wl_RX9_81 rfl hk0 (by decide) rfl rfl hM hS rfl rfl (Nat.le_trans (by decide) hRf) (Nat.le_trans (by decide) hRl) (Nat.le_trans (Nat.le_of_ble_eq_true rfl) hRc) (Nat.le_trans (Nat.le_of_ble_eq_true rfl) hRs) (Nat.le_of_ble_eq_true rfl) dX9_buy_8 rfl) hS (fun H locs hM hS => ?_)
  obtain ⟨r9, m7, hqq8, hf⟩ := g1_o hf
  refine ga_i (gr_V (As := [.int r6]) (ci := 9) (rm := { frames := 1, cells := 0, slots := 0, locals := 24 }) E hml hl.1 (c_X9_kept l X c0 r6 m4 hk0 hqq8) wt_X9_kept wl_RX9_67 rfl hk0 (by decide) rfl rfl hM hS rfl rfl (Nat.le_trans (by decide) hRf) (Nat.le_trans (by decide) hRl) (Nat.le_trans (Nat.le_of_ble_eq_true rfl) hRc) (Nat.le_trans (Nat.le_of_ble_eq_true rfl) hRs) (Nat.le_of_ble_eq_true rfl) dX9_buy_11 rfl) hS (fun H locs hM hS => ?_)
  exact ge_i E hr hlocks hf hM hS (Nat.le_of_ble_eq_true rfl) (Nat.le_of_ble_eq_true rfl) dX9_buy_14
theorem c_X9_buy (l : Launch) (X : gX) (c0 : Nat) (u1 : Int32) (u2 : Int32) (m0 : gMem) {res : Int32 × gMem} (hk0 : gk c0 = 9) (hf : f_X9_buy c0 u1 u2 m0 = some res) : Met l yX9_buy (gWs yX9_buy cX9_buy 3 (some .int)) { frames := 3, cells := 0, slots := 0, locals := 65 } (va_Pc [.ref (X.1 + c0), .int u1, .int u2] (gB X m0)) (gQi X res) 0 0 (gA X) :=
  gMet (own := RX9) (by decide +kernel) rfl (Nat.le_of_ble_eq_true rfl) (fun p e s m args below meth c ls E hr hlocks hml hM hl => b_X9_buy E hr hlocks hml (Nat.le_refl _) (Nat.le_refl _) (Nat.le_refl _) (Nat.le_refl _) hk0 hf hM va_S.rf hl)
def f_X9_stock (c0 : Nat) (u1 : Int32) (m0 : gMem) : Option (Int32 × gMem) := g1 (f_X9_isGrade u1 m0) (fun r3 m1 => if r3 = (0 : Int32) then (g1 (f_X9_fails c0 (1 : Int32) m1) (fun r7 m5 => some (r7, m5))) else (if ¬ (((26 : Int32) + u1) < 0 ∨ gl (c0 + 1) ≤ ((26 : Int32) + u1).toNatClampNeg) then g1 (f_X9_done c0 (m1 (c0 + 1) ((26 : Int32) + u1).toNatClampNeg) m1) (fun r12 m10 => some (r12, m10)) else none))
set_option maxRecDepth 100000 in
set_option maxHeartbeats 4000000 in
theorem b_X9_stock {p : Program} {l : Launch} {e : Env} {R : Room} {s : State} {m : MethodId} {args : Array Value} {below : List Frame} {meth : Method} {c : Code} {H : Heap} {locs : List Loc} {ls : Array Slot} {X : gX} (E : gEn p s m args c cX9_stock RX9 X) (hr : meth.sig.returnType = (some .int)) (hlocks : meth.locks = false) (hml : c.maxLocals = 2) (hRf : 2 ≤ R.frames) (hRl : 42 ≤ R.locals) (hRc : 0 ≤ R.cells) (hRs : 0 ≤ R.slots) {c0 : Nat} {u1 : Int32} {m0 : gMem} {res : Int32 × gMem} (hk0 : gk c0 = 9) (hf : f_X9_stock c0 u1 m0 = some res) (hM : gM X m0 H) (hS : va_S (gA X) s.heap H locs) (hl : lv_has ls 2 [(0, .ref (X.1 + c0)), (1, .int u1)]) : W p l e R s m args below meth c H locs 0 0 (MQ below (gQi X res) args s 0 0 (gA X)) (F0 m 0 ls []) := by
  obtain ⟨hx, hb⟩ := (⟨E.1, E.2.1⟩ : _ ∧ _)
  unfold f_X9_stock at hf
  refine lv_iload_n hx hb dX9_stock_0 rfl (lv_at hl 1 rfl) ?_
  obtain ⟨r3, m1, hqq2, hf⟩ := g1_o hf
  refine ga_i (gr_S (As := [.int u1]) (rm := { frames := 1, cells := 0, slots := 0, locals := 22 }) E hml hl.1 (c_X9_isGrade l X u1 m0 hqq2) wt_X9_isGrade wl_RX9_73 rfl hM hS rfl rfl (Nat.le_trans (by decide) hRf) (Nat.le_trans (by decide) hRl) (Nat.le_trans (Nat.le_of_ble_eq_true rfl) hRc) (Nat.le_trans (Nat.le_of_ble_eq_true rfl) hRs) (Nat.le_of_ble_eq_true rfl) dX9_stock_1 rfl) hS (fun H locs hM hS => ?_)
  refine lv_if_eq (tgt := 23) hx hb dX9_stock_4 (by decide) (fun h4 => ?_) (fun h4 => ?_)
  · have hf := g_t h4 hf
    refine lv_aload_n hx hb dX9_stock_23 rfl (lv_at hl 0 rfl) ?_
    refine lv_iconst (v := (1 : Int32)) hx hb dX9_stock_24 (by decide) ?_
    obtain ⟨r7, m5, hqq6, hf⟩ := g1_o hf
    refine ga_i (gr_V (As := [.int (1 : Int32)]) (ci := 9) (rm := { frames := 0, cells := 0, slots := 0, locals := 0 }) E hml hl.1 (c_X9_fails l X c0 (1 : Int32) m1 hk0 hqq6) wt_X9_fails wl_RX9_57 rfl hk0 (by decide) rfl rfl hM hS rfl rfl (Nat.le_trans (by decide) hRf) (Nat.le_trans (by decide) hRl) (Nat.le_trans (Nat.le_of_ble_eq_true rfl) hRc) (Nat.le_trans (Nat.le_of_ble_eq_true rfl) hRs) (Nat.le_of_ble_eq_true rfl) dX9_stock_25 rfl) hS (fun H locs hM hS => ?_)
    exact ge_i E hr hlocks hf hM hS (Nat.le_of_ble_eq_true rfl) (Nat.le_of_ble_eq_true rfl) dX9_stock_28
  · have hf := g_f h4 hf
    refine lv_aload_n hx hb dX9_stock_7 rfl (lv_at hl 0 rfl) ?_
    refine lv_aload_n hx hb dX9_stock_8 rfl (lv_at hl 0 rfl) ?_
    refine GX9_7 E hM hk0 dX9_stock_9 ?_
    have hg8 : gk (c0 + 1) = 20 := gkf_9_0 hk0
    refine lv_bipush (v := (26 : Int32)) hx hb dX9_stock_12 (by decide) ?_
    refine lv_iload_n hx hb dX9_stock_14 rfl (lv_at hl 1 rfl) ?_
    refine lv_iadd hx hb dX9_stock_15 ?_
    obtain ⟨hi9, hf⟩ := g_ck hf
    refine gg_iald E hM (gk_in hg8 (by decide)) hg8 hi9 dX9_stock_16 ?_
    obtain ⟨r12, m10, hqq11, hf⟩ := g1_o hf
    refine ga_i (gr_V (As := [.int (m1 (c0 + 1) ((26 : Int32) + u1).toNatClampNeg)]) (ci := 9) (rm := { frames := 0, cells := 0, slots := 0, locals := 0 }) E hml hl.1 (c_X9_done l X c0 (m1 (c0 + 1) ((26 : Int32) + u1).toNatClampNeg) m1 hk0 hqq11) wt_X9_done wl_RX9_64 rfl hk0 (by decide) rfl rfl hM hS rfl rfl (Nat.le_trans (by decide) hRf) (Nat.le_trans (by decide) hRl) (Nat.le_trans (Nat.le_of_ble_eq_true rfl) hRc) (Nat.le_trans (Nat.le_of_ble_eq_true rfl) hRs) (Nat.le_of_ble_eq_true rfl) dX9_stock_17 rfl) hS (fun H locs hM hS => ?_)
    refine lv_goto (tgt := 28) hx hb dX9_stock_20 (by decide) ?_
    exact ge_i E hr hlocks hf hM hS (Nat.le_of_ble_eq_true rfl) (Nat.le_of_ble_eq_true rfl) dX9_stock_28
theorem c_X9_stock (l : Launch) (X : gX) (c0 : Nat) (u1 : Int32) (m0 : gMem) {res : Int32 × gMem} (hk0 : gk c0 = 9) (hf : f_X9_stock c0 u1 m0 = some res) : Met l yX9_stock (gWs yX9_stock cX9_stock 2 (some .int)) { frames := 2, cells := 0, slots := 0, locals := 42 } (va_Pc [.ref (X.1 + c0), .int u1] (gB X m0)) (gQi X res) 0 0 (gA X) :=
  gMet (own := RX9) (by decide +kernel) rfl (Nat.le_of_ble_eq_true rfl) (fun p e s m args below meth c ls E hr hlocks hml hM hl => b_X9_stock E hr hlocks hml (Nat.le_refl _) (Nat.le_refl _) (Nat.le_refl _) (Nat.le_refl _) hk0 hf hM va_S.rf hl)
def f_X9_tongs (c0 : Nat) (u1 : Int32) (m0 : gMem) : Option (Int32 × gMem) := g1 (f_X9_in u1 (1 : Int32) (10 : Int32) m0) (fun r3 m1 => if r3 = (0 : Int32) then (g1 (f_X9_fails c0 (1 : Int32) m1) (fun r26 m24 => some (r26, m24))) else (if ¬ ((48 : Int32) < 0 ∨ gl (c0 + 1) ≤ (48 : Int32).toNatClampNeg) then gv ((m1 (c0 + 1) (48 : Int32).toNatClampNeg)) (fun x7 => if x7 = (4 : Int32) then (g1 (f_X9_refused c0 (1 : Int32) (4 : Int32) (2 : Int32) m1) (fun r23 m21 => some (r23, m21))) else (g1 (f_X9_looksBack c0 m1) (fun r11 m9 => if ¬ (((49 : Int32) + x7) < 0 ∨ gl (c0 + 1) ≤ ((49 : Int32) + x7).toNatClampNeg) then gv (ms m9 (c0 + 1) ((49 : Int32) + x7).toNatClampNeg u1) (fun m13 => gv (ms m13 (c0 + 1) (48 : Int32).toNatClampNeg ((m13 (c0 + 1) (48 : Int32).toNatClampNeg) + (1 : Int32))) (fun m14 => g1 (f_X9_done c0 x7 m14) (fun r17 m15 => g1 (f_X9_kept c0 r17 m15) (fun r20 m18 => some (r20, m18))))) else none))) else none))
set_option maxRecDepth 100000 in
set_option maxHeartbeats 4000000 in
theorem b_X9_tongs {p : Program} {l : Launch} {e : Env} {R : Room} {s : State} {m : MethodId} {args : Array Value} {below : List Frame} {meth : Method} {c : Code} {H : Heap} {locs : List Loc} {ls : Array Slot} {X : gX} (E : gEn p s m args c cX9_tongs RX9 X) (hr : meth.sig.returnType = (some .int)) (hlocks : meth.locks = false) (hml : c.maxLocals = 3) (hRf : 2 ≤ R.frames) (hRl : 46 ≤ R.locals) (hRc : 0 ≤ R.cells) (hRs : 0 ≤ R.slots) {c0 : Nat} {u1 : Int32} {m0 : gMem} {res : Int32 × gMem} (hk0 : gk c0 = 9) (hf : f_X9_tongs c0 u1 m0 = some res) (hM : gM X m0 H) (hS : va_S (gA X) s.heap H locs) (hl : lv_has ls 3 [(0, .ref (X.1 + c0)), (1, .int u1)]) : W p l e R s m args below meth c H locs 0 0 (MQ below (gQi X res) args s 0 0 (gA X)) (F0 m 0 ls []) := by
  obtain ⟨hx, hb⟩ := (⟨E.1, E.2.1⟩ : _ ∧ _)
  unfold f_X9_tongs at hf
  refine lv_iload_n hx hb dX9_tongs_0 rfl (lv_at hl 1 rfl) ?_
  refine lv_iconst (v := (1 : Int32)) hx hb dX9_tongs_1 (by decide) ?_
  refine lv_bipush (v := (10 : Int32)) hx hb dX9_tongs_2 (by decide) ?_
  obtain ⟨r3, m1, hqq2, hf⟩ := g1_o hf
  refine ga_i (gr_S (As := [.int u1, .int (1 : Int32), .int (10 : Int32)]) (rm := { frames := 0, cells := 0, slots := 0, locals := 0 }) E hml hl.1 (c_X9_in l X u1 (1 : Int32) (10 : Int32) m0 hqq2) wt_X9_in wl_RX9_53 rfl hM hS rfl rfl (Nat.le_trans (by decide) hRf) (Nat.le_trans (by decide) hRl) (Nat.le_trans (Nat.le_of_ble_eq_true rfl) hRc) (Nat.le_trans (Nat.le_of_ble_eq_true rfl) hRs) (Nat.le_of_ble_eq_true rfl) dX9_tongs_4 rfl) hS (fun H locs hM hS => ?_)
  refine lv_if_ne (tgt := 16) hx hb dX9_tongs_7 (by decide) (fun h4 => ?_) (fun h4 => ?_)
  · have hf := g_f h4 hf
    refine lv_aload_n hx hb dX9_tongs_16 rfl (lv_at hl 0 rfl) ?_
    refine GX9_7 E hM hk0 dX9_tongs_17 ?_
    have hg5 : gk (c0 + 1) = 20 := gkf_9_0 hk0
    refine lv_bipush (v := (48 : Int32)) hx hb dX9_tongs_20 (by decide) ?_
    obtain ⟨hi6, hf⟩ := g_ck hf
    refine gg_iald E hM (gk_in hg5 (by decide)) hg5 hi6 dX9_tongs_22 ?_
    obtain ⟨x7, ex7, hf⟩ := gv_o hf
    rw [← ex7]
    refine lv_istore_n (lv' := [(2, .int x7), (0, .ref (X.1 + c0)), (1, .int u1)]) hx hb dX9_tongs_23 rfl hl (by decide) rfl (fun ls hl => ?_)
    refine lv_iload_n hx hb dX9_tongs_24 rfl (lv_at hl 0 rfl) ?_
    refine lv_iconst (v := (4 : Int32)) hx hb dX9_tongs_25 (by decide) ?_
    refine lv_icmp_ne (tgt := 37) hx hb dX9_tongs_26 (by decide) (fun h8 => ?_) (fun h8 => ?_)
    · have hf := g_f h8 hf
      refine lv_aload_n hx hb dX9_tongs_37 rfl (lv_at hl 1 rfl) ?_
      obtain ⟨r11, m9, hqq10, hf⟩ := g1_o hf
      refine ga_v (gr_V (As := []) (ci := 9) (rm := { frames := 1, cells := 0, slots := 0, locals := 24 }) E hml hl.1 (c_X9_looksBack l X c0 m1 hk0 hqq10) wt_X9_looksBack wl_RX9_61 rfl hk0 (by decide) rfl rfl hM hS rfl rfl (Nat.le_trans (by decide) hRf) (Nat.le_trans (by decide) hRl) (Nat.le_trans (Nat.le_of_ble_eq_true rfl) hRc) (Nat.le_trans (Nat.le_of_ble_eq_true rfl) hRs) (Nat.le_of_ble_eq_true rfl) dX9_tongs_38 rfl) hS (fun H locs hM hS => ?_)
      refine lv_aload_n hx hb dX9_tongs_41 rfl (lv_at hl 1 rfl) ?_
      refine GX9_7 E hM hk0 dX9_tongs_42 ?_
      refine lv_bipush (v := (49 : Int32)) hx hb dX9_tongs_45 (by decide) ?_
      refine lv_iload_n hx hb dX9_tongs_47 rfl (lv_at hl 0 rfl) ?_
      refine lv_iadd hx hb dX9_tongs_48 ?_
      refine lv_iload_n hx hb dX9_tongs_49 rfl (lv_at hl 2 rfl) ?_
      obtain ⟨hi12, hf⟩ := g_ck hf
      obtain ⟨m13, em13, hf⟩ := gv_o hf
      refine gg_iast E (fun c hc => gA_in X hc) hM hS (gk_in hg5 (by decide)) hg5 hi12 em13 dX9_tongs_50 (fun H locs hM hS => ?_)
      refine lv_aload_n hx hb dX9_tongs_51 rfl (lv_at hl 1 rfl) ?_
      refine GX9_7 E hM hk0 dX9_tongs_52 ?_
      refine lv_bipush (v := (48 : Int32)) hx hb dX9_tongs_55 (by decide) ?_
      refine lv_dup2_11 hx hb dX9_tongs_57 rfl rfl ?_
      refine gg_iald E hM (gk_in hg5 (by decide)) hg5 hi6 dX9_tongs_58 ?_
      refine lv_iconst (v := (1 : Int32)) hx hb dX9_tongs_59 (by decide) ?_
      refine lv_iadd hx hb dX9_tongs_60 ?_
      obtain ⟨m14, em14, hf⟩ := gv_o hf
      refine gg_iast E (fun c hc => gA_in X hc) hM hS (gk_in hg5 (by decide)) hg5 hi6 em14 dX9_tongs_61 (fun H locs hM hS => ?_)
      refine lv_aload_n hx hb dX9_tongs_62 rfl (lv_at hl 1 rfl) ?_
      refine lv_aload_n hx hb dX9_tongs_63 rfl (lv_at hl 1 rfl) ?_
      refine lv_iload_n hx hb dX9_tongs_64 rfl (lv_at hl 0 rfl) ?_
      obtain ⟨r17, m15, hqq16, hf⟩ := g1_o hf
      refine ga_i (gr_V (As := [.int x7]) (ci := 9) (rm := { frames := 0, cells := 0, slots := 0, locals := 0 }) E hml hl.1 (c_X9_done l X c0 x7 m14 hk0 hqq16) wt_X9_done wl_RX9_64 rfl hk0 (by decide) rfl rfl hM hS rfl rfl (Nat.le_trans (by decide) hRf) (Nat.le_trans (by decide) hRl) (Nat.le_trans (Nat.le_of_ble_eq_true rfl) hRc) (Nat.le_trans (Nat.le_of_ble_eq_true rfl) hRs) (Nat.le_of_ble_eq_true rfl) dX9_tongs_65 rfl) hS (fun H locs hM hS => ?_)
      obtain ⟨r20, m18, hqq19, hf⟩ := g1_o hf
      refine ga_i (gr_V (As := [.int r17]) (ci := 9) (rm := { frames := 1, cells := 0, slots := 0, locals := 24 }) E hml hl.1 (c_X9_kept l X c0 r17 m15 hk0 hqq19) wt_X9_kept wl_RX9_67 rfl hk0 (by decide) rfl rfl hM hS rfl rfl (Nat.le_trans (by decide) hRf) (Nat.le_trans (by decide) hRl) (Nat.le_trans (Nat.le_of_ble_eq_true rfl) hRc) (Nat.le_trans (Nat.le_of_ble_eq_true rfl) hRs) (Nat.le_of_ble_eq_true rfl) dX9_tongs_68 rfl) hS (fun H locs hM hS => ?_)
      exact ge_i E hr hlocks hf hM hS (Nat.le_of_ble_eq_true rfl) (Nat.le_of_ble_eq_true rfl) dX9_tongs_71
    · have hf := g_t h8 hf
      refine lv_aload_n hx hb dX9_tongs_29 rfl (lv_at hl 1 rfl) ?_
      refine lv_iconst (v := (1 : Int32)) hx hb dX9_tongs_30 (by decide) ?_
      refine lv_iconst (v := (4 : Int32)) hx hb dX9_tongs_31 (by decide) ?_
      refine lv_iconst (v := (2 : Int32)) hx hb dX9_tongs_32 (by decide) ?_
      obtain ⟨r23, m21, hqq22, hf⟩ := g1_o hf
      refine ga_i (gr_V (As := [.int (1 : Int32), .int (4 : Int32), .int (2 : Int32)]) (ci := 9) (rm := { frames := 0, cells := 0, slots := 0, locals := 0 }) E hml hl.1 (c_X9_refused l X c0 (1 : Int32) (4 : Int32) (2 : Int32) m1 hk0 hqq22) wt_X9_refused wl_RX9_77 rfl hk0 (by decide) rfl rfl hM hS rfl rfl (Nat.le_trans (by decide) hRf) (Nat.le_trans (by decide) hRl) (Nat.le_trans (Nat.le_of_ble_eq_true rfl) hRc) (Nat.le_trans (Nat.le_of_ble_eq_true rfl) hRs) (Nat.le_of_ble_eq_true rfl) dX9_tongs_33 rfl) hS (fun H locs hM hS => ?_)
      exact ge_i E hr hlocks hf hM hS (Nat.le_of_ble_eq_true rfl) (Nat.le_of_ble_eq_true rfl) dX9_tongs_36
  · have hf := g_t h4 hf
    refine lv_aload_n hx hb dX9_tongs_10 rfl (lv_at hl 0 rfl) ?_
    refine lv_iconst (v := (1 : Int32)) hx hb dX9_tongs_11 (by decide) ?_
    obtain ⟨r26, m24, hqq25, hf⟩ := g1_o hf
    refine ga_i (gr_V (As := [.int (1 : Int32)]) (ci := 9) (rm := { frames := 0, cells := 0, slots := 0, locals := 0 }) E hml hl.1 (c_X9_fails l X c0 (1 : Int32) m1 hk0 hqq25) wt_X9_fails wl_RX9_57 rfl hk0 (by decide) rfl rfl hM hS rfl rfl (Nat.le_trans (by decide) hRf) (Nat.le_trans (by decide) hRl) (Nat.le_trans (Nat.le_of_ble_eq_true rfl) hRc) (Nat.le_trans (Nat.le_of_ble_eq_true rfl) hRs) (Nat.le_of_ble_eq_true rfl) dX9_tongs_12 rfl) hS (fun H locs hM hS => ?_)
    exact ge_i E hr hlocks hf hM hS (Nat.le_of_ble_eq_true rfl) (Nat.le_of_ble_eq_true rfl) dX9_tongs_15
theorem c_X9_tongs (l : Launch) (X : gX) (c0 : Nat) (u1 : Int32) (m0 : gMem) {res : Int32 × gMem} (hk0 : gk c0 = 9) (hf : f_X9_tongs c0 u1 m0 = some res) : Met l yX9_tongs (gWs yX9_tongs cX9_tongs 3 (some .int)) { frames := 2, cells := 0, slots := 0, locals := 46 } (va_Pc [.ref (X.1 + c0), .int u1] (gB X m0)) (gQi X res) 0 0 (gA X) :=
  gMet (own := RX9) (by decide +kernel) rfl (Nat.le_of_ble_eq_true rfl) (fun p e s m args below meth c ls E hr hlocks hml hM hl => b_X9_tongs E hr hlocks hml (Nat.le_refl _) (Nat.le_refl _) (Nat.le_refl _) (Nat.le_refl _) hk0 hf hM va_S.rf hl)
def f_X9_isTongs (c0 : Nat) (u1 : Int32) (m0 : gMem) : Option (Int32 × gMem) := if ¬ ((48 : Int32) < 0 ∨ gl (c0 + 1) ≤ (48 : Int32).toNatClampNeg) then g1 (f_X9_in u1 (0 : Int32) ((m0 (c0 + 1) (48 : Int32).toNatClampNeg) - (1 : Int32)) m0) (fun r5 m3 => if r5 = 0 ∨ r5 = 1 then some (r5, m3) else none) else none
set_option maxRecDepth 100000 in
set_option maxHeartbeats 4000000 in
theorem b_X9_isTongs {p : Program} {l : Launch} {e : Env} {R : Room} {s : State} {m : MethodId} {args : Array Value} {below : List Frame} {meth : Method} {c : Code} {H : Heap} {locs : List Loc} {ls : Array Slot} {X : gX} (E : gEn p s m args c cX9_isTongs RX9 X) (hr : meth.sig.returnType = (some .boolean)) (hlocks : meth.locks = false) (hml : c.maxLocals = 2) (hRf : 1 ≤ R.frames) (hRl : 22 ≤ R.locals) (hRc : 0 ≤ R.cells) (hRs : 0 ≤ R.slots) {c0 : Nat} {u1 : Int32} {m0 : gMem} {res : Int32 × gMem} (hk0 : gk c0 = 9) (hf : f_X9_isTongs c0 u1 m0 = some res) (hM : gM X m0 H) (hS : va_S (gA X) s.heap H locs) (hl : lv_has ls 2 [(0, .ref (X.1 + c0)), (1, .int u1)]) : W p l e R s m args below meth c H locs 0 0 (MQ below (gQi X res) args s 0 0 (gA X)) (F0 m 0 ls []) := by
  obtain ⟨hx, hb⟩ := (⟨E.1, E.2.1⟩ : _ ∧ _)
  unfold f_X9_isTongs at hf
  refine lv_iload_n hx hb dX9_isTongs_0 rfl (lv_at hl 1 rfl) ?_
  refine lv_iconst (v := (0 : Int32)) hx hb dX9_isTongs_1 (by decide) ?_
  refine lv_aload_n hx hb dX9_isTongs_2 rfl (lv_at hl 0 rfl) ?_
  refine GX9_7 E hM hk0 dX9_isTongs_3 ?_
  have hg1 : gk (c0 + 1) = 20 := gkf_9_0 hk0
  refine lv_bipush (v := (48 : Int32)) hx hb dX9_isTongs_6 (by decide) ?_
  obtain ⟨hi2, hf⟩ := g_ck hf
  refine gg_iald E hM (gk_in hg1 (by decide)) hg1 hi2 dX9_isTongs_8 ?_
  refine lv_iconst (v := (1 : Int32)) hx hb dX9_isTongs_9 (by decide) ?_
  refine lv_isub hx hb dX9_isTongs_10 ?_
  obtain ⟨r5, m3, hqq4, hf⟩ := g1_o hf
  refine ga_i (gr_S (As := [.int u1, .int (0 : Int32), .int ((m0 (c0 + 1) (48 : Int32).toNatClampNeg) - (1 : Int32))]) (rm := { frames := 0, cells := 0, slots := 0, locals := 0 }) E hml hl.1 (c_X9_in l X u1 (0 : Int32) ((m0 (c0 + 1) (48 : Int32).toNatClampNeg) - (1 : Int32)) m0 hqq4) wt_X9_in wl_RX9_53 rfl hM hS rfl rfl (Nat.le_trans (by decide) hRf) (Nat.le_trans (by decide) hRl) (Nat.le_trans (Nat.le_of_ble_eq_true rfl) hRc) (Nat.le_trans (Nat.le_of_ble_eq_true rfl) hRs) (Nat.le_of_ble_eq_true rfl) dX9_isTongs_11 rfl) hS (fun H locs hM hS => ?_)
  obtain ⟨hb6, hf⟩ := g_ck hf
  exact ge_z E hr (g_nb hb6) hlocks hf hM hS (Nat.le_of_ble_eq_true rfl) (Nat.le_of_ble_eq_true rfl) dX9_isTongs_14
theorem c_X9_isTongs (l : Launch) (X : gX) (c0 : Nat) (u1 : Int32) (m0 : gMem) {res : Int32 × gMem} (hk0 : gk c0 = 9) (hf : f_X9_isTongs c0 u1 m0 = some res) : Met l yX9_isTongs (gWs yX9_isTongs cX9_isTongs 2 (some .boolean)) { frames := 1, cells := 0, slots := 0, locals := 22 } (va_Pc [.ref (X.1 + c0), .int u1] (gB X m0)) (gQi X res) 0 0 (gA X) :=
  gMet (own := RX9) (by decide +kernel) rfl (Nat.le_of_ble_eq_true rfl) (fun p e s m args below meth c ls E hr hlocks hml hM hl => b_X9_isTongs E hr hlocks hml (Nat.le_refl _) (Nat.le_refl _) (Nat.le_refl _) (Nat.le_refl _) hk0 hf hM va_S.rf hl)
def f_X9_tongsOf (c0 : Nat) (u1 : Int32) (u2 : Int32) (m0 : gMem) : Option (Int32 × gMem) := g1 (f_X9_isTongs c0 u1 m0) (fun r3 m1 => if r3 = (0 : Int32) then (g1 (f_X9_fails c0 (1 : Int32) m1) (fun r19 m17 => some (r19, m17))) else (g1 (f_X9_in u2 (0 : Int32) (2 : Int32) m1) (fun r7 m5 => if r7 = (0 : Int32) then (g1 (f_X9_fails c0 (2 : Int32) m5) (fun r11 m9 => some (r11, m9))) else (if ¬ ((((49 : Int32) + ((4 : Int32) * u2)) + u1) < 0 ∨ gl (c0 + 1) ≤ (((49 : Int32) + ((4 : Int32) * u2)) + u1).toNatClampNeg) then g1 (f_X9_done c0 (m5 (c0 + 1) (((49 : Int32) + ((4 : Int32) * u2)) + u1).toNatClampNeg) m5) (fun r16 m14 => some (r16, m14)) else none))))
set_option maxRecDepth 100000 in
set_option maxHeartbeats 4000000 in
theorem b_X9_tongsOf {p : Program} {l : Launch} {e : Env} {R : Room} {s : State} {m : MethodId} {args : Array Value} {below : List Frame} {meth : Method} {c : Code} {H : Heap} {locs : List Loc} {ls : Array Slot} {X : gX} (E : gEn p s m args c cX9_tongsOf RX9 X) (hr : meth.sig.returnType = (some .int)) (hlocks : meth.locks = false) (hml : c.maxLocals = 3) (hRf : 2 ≤ R.frames) (hRl : 43 ≤ R.locals) (hRc : 0 ≤ R.cells) (hRs : 0 ≤ R.slots) {c0 : Nat} {u1 : Int32} {u2 : Int32} {m0 : gMem} {res : Int32 × gMem} (hk0 : gk c0 = 9) (hf : f_X9_tongsOf c0 u1 u2 m0 = some res) (hM : gM X m0 H) (hS : va_S (gA X) s.heap H locs) (hl : lv_has ls 3 [(0, .ref (X.1 + c0)), (1, .int u1), (2, .int u2)]) : W p l e R s m args below meth c H locs 0 0 (MQ below (gQi X res) args s 0 0 (gA X)) (F0 m 0 ls []) := by
  obtain ⟨hx, hb⟩ := (⟨E.1, E.2.1⟩ : _ ∧ _)
  unfold f_X9_tongsOf at hf
  refine lv_aload_n hx hb dX9_tongsOf_0 rfl (lv_at hl 0 rfl) ?_
  refine lv_iload_n hx hb dX9_tongsOf_1 rfl (lv_at hl 1 rfl) ?_
  obtain ⟨r3, m1, hqq2, hf⟩ := g1_o hf
  refine ga_i (gr_V (As := [.int u1]) (ci := 9) (rm := { frames := 1, cells := 0, slots := 0, locals := 22 }) E hml hl.1 (c_X9_isTongs l X c0 u1 m0 hk0 hqq2) wt_X9_isTongs wl_RX9_85 rfl hk0 (by decide) rfl rfl hM hS rfl rfl (Nat.le_trans (by decide) hRf) (Nat.le_trans (by decide) hRl) (Nat.le_trans (Nat.le_of_ble_eq_true rfl) hRc) (Nat.le_trans (Nat.le_of_ble_eq_true rfl) hRs) (Nat.le_of_ble_eq_true rfl) dX9_tongsOf_2 rfl) hS (fun H locs hM hS => ?_)
  refine lv_if_ne (tgt := 14) hx hb dX9_tongsOf_5 (by decide) (fun h4 => ?_) (fun h4 => ?_)
  · have hf := g_f h4 hf
    refine lv_iload_n hx hb dX9_tongsOf_14 rfl (lv_at hl 2 rfl) ?_
    refine lv_iconst (v := (0 : Int32)) hx hb dX9_tongsOf_15 (by decide) ?_
    refine lv_iconst (v := (2 : Int32)) hx hb dX9_tongsOf_16 (by decide) ?_
    obtain ⟨r7, m5, hqq6, hf⟩ := g1_o hf
    refine ga_i (gr_S (As := [.int u2, .int (0 : Int32), .int (2 : Int32)]) (rm := { frames := 0, cells := 0, slots := 0, locals := 0 }) E hml hl.1 (c_X9_in l X u2 (0 : Int32) (2 : Int32) m1 hqq6) wt_X9_in wl_RX9_53 rfl hM hS rfl rfl (Nat.le_trans (by decide) hRf) (Nat.le_trans (by decide) hRl) (Nat.le_trans (Nat.le_of_ble_eq_true rfl) hRc) (Nat.le_trans (Nat.le_of_ble_eq_true rfl) hRs) (Nat.le_of_ble_eq_true rfl) dX9_tongsOf_17 rfl) hS (fun H locs hM hS => ?_)
    refine lv_if_eq (tgt := 43) hx hb dX9_tongsOf_20 (by decide) (fun h8 => ?_) (fun h8 => ?_)
    · have hf := g_t h8 hf
      refine lv_aload_n hx hb dX9_tongsOf_43 rfl (lv_at hl 0 rfl) ?_
      refine lv_iconst (v := (2 : Int32)) hx hb dX9_tongsOf_44 (by decide) ?_
      obtain ⟨r11, m9, hqq10, hf⟩ := g1_o hf
      refine ga_i (gr_V (As := [.int (2 : Int32)]) (ci := 9) (rm := { frames := 0, cells := 0, slots := 0, locals := 0 }) E hml hl.1 (c_X9_fails l X c0 (2 : Int32) m5 hk0 hqq10) wt_X9_fails wl_RX9_57 rfl hk0 (by decide) rfl rfl hM hS rfl rfl (Nat.le_trans (by decide) hRf) (Nat.le_trans (by decide) hRl) (Nat.le_trans (Nat.le_of_ble_eq_true rfl) hRc) (Nat.le_trans (Nat.le_of_ble_eq_true rfl) hRs) (Nat.le_of_ble_eq_true rfl) dX9_tongsOf_45 rfl) hS (fun H locs hM hS => ?_)
      exact ge_i E hr hlocks hf hM hS (Nat.le_of_ble_eq_true rfl) (Nat.le_of_ble_eq_true rfl) dX9_tongsOf_48
    · have hf := g_f h8 hf
      refine lv_aload_n hx hb dX9_tongsOf_23 rfl (lv_at hl 0 rfl) ?_
      refine lv_aload_n hx hb dX9_tongsOf_24 rfl (lv_at hl 0 rfl) ?_
      refine GX9_7 E hM hk0 dX9_tongsOf_25 ?_
      have hg12 : gk (c0 + 1) = 20 := gkf_9_0 hk0
      refine lv_bipush (v := (49 : Int32)) hx hb dX9_tongsOf_28 (by decide) ?_
      refine lv_iconst (v := (4 : Int32)) hx hb dX9_tongsOf_30 (by decide) ?_
      refine lv_iload_n hx hb dX9_tongsOf_31 rfl (lv_at hl 2 rfl) ?_
      refine lv_imul hx hb dX9_tongsOf_32 ?_
      refine lv_iadd hx hb dX9_tongsOf_33 ?_
      refine lv_iload_n hx hb dX9_tongsOf_34 rfl (lv_at hl 1 rfl) ?_
      refine lv_iadd hx hb dX9_tongsOf_35 ?_
      obtain ⟨hi13, hf⟩ := g_ck hf
      refine gg_iald E hM (gk_in hg12 (by decide)) hg12 hi13 dX9_tongsOf_36 ?_
      obtain ⟨r16, m14, hqq15, hf⟩ := g1_o hf
      refine ga_i (gr_V (As := [.int (m5 (c0 + 1) (((49 : Int32) + ((4 : Int32) * u2)) + u1).toNatClampNeg)]) (ci := 9) (rm := { frames := 0, cells := 0, slots := 0, locals := 0 }) E hml hl.1 (c_X9_done l X c0 (m5 (c0 + 1) (((49 : Int32) + ((4 : Int32) * u2)) + u1).toNatClampNeg) m5 hk0 hqq15) wt_X9_done wl_RX9_64 rfl hk0 (by decide) rfl rfl hM hS rfl rfl (Nat.le_trans (by decide) hRf) (Nat.le_trans (by decide) hRl) (Nat.le_trans (Nat.le_of_ble_eq_true rfl) hRc) (Nat.le_trans (Nat.le_of_ble_eq_true rfl) hRs) (Nat.le_of_ble_eq_true rfl) dX9_tongsOf_37 rfl) hS (fun H locs hM hS => ?_)
      refine lv_goto (tgt := 48) hx hb dX9_tongsOf_40 (by decide) ?_
      exact ge_i E hr hlocks hf hM hS (Nat.le_of_ble_eq_true rfl) (Nat.le_of_ble_eq_true rfl) dX9_tongsOf_48
  · have hf := g_t h4 hf
    refine lv_aload_n hx hb dX9_tongsOf_8 rfl (lv_at hl 0 rfl) ?_
    refine lv_iconst (v := (1 : Int32)) hx hb dX9_tongsOf_9 (by decide) ?_
    obtain ⟨r19, m17, hqq18, hf⟩ := g1_o hf
    refine ga_i (gr_V (As := [.int (1 : Int32)]) (ci := 9) (rm := { frames := 0, cells := 0, slots := 0, locals := 0 }) E hml hl.1 (c_X9_fails l X c0 (1 : Int32) m1 hk0 hqq18) wt_X9_fails wl_RX9_57 rfl hk0 (by decide) rfl rfl hM hS rfl rfl (Nat.le_trans (by decide) hRf) (Nat.le_trans (by decide) hRl) (Nat.le_trans (Nat.le_of_ble_eq_true rfl) hRc) (Nat.le_trans (Nat.le_of_ble_eq_true rfl) hRs) (Nat.le_of_ble_eq_true rfl) dX9_tongsOf_10 rfl) hS (fun H locs hM hS => ?_)
    exact ge_i E hr hlocks hf hM hS (Nat.le_of_ble_eq_true rfl) (Nat.le_of_ble_eq_true rfl) dX9_tongsOf_13
theorem c_X9_tongsOf (l : Launch) (X : gX) (c0 : Nat) (u1 : Int32) (u2 : Int32) (m0 : gMem) {res : Int32 × gMem} (hk0 : gk c0 = 9) (hf : f_X9_tongsOf c0 u1 u2 m0 = some res) : Met l yX9_tongsOf (gWs yX9_tongsOf cX9_tongsOf 3 (some .int)) { frames := 2, cells := 0, slots := 0, locals := 43 } (va_Pc [.ref (X.1 + c0), .int u1, .int u2] (gB X m0)) (gQi X res) 0 0 (gA X) :=
  gMet (own := RX9) (by decide +kernel) rfl (Nat.le_of_ble_eq_true rfl) (fun p e s m args below meth c ls E hr hlocks hml hM hl => b_X9_tongsOf E hr hlocks hml (Nat.le_refl _) (Nat.le_refl _) (Nat.le_refl _) (Nat.le_refl _) hk0 hf hM va_S.rf hl)
def L_X9_tongsFor_20 (c0 : Nat) (u1 : Int32) : Nat → Int32 → Int32 → gMem → Option (Int32 × gMem)
  | 0, _, _, _ => none
  | n + 1, y2, y3, m0 => if ¬ ((48 : Int32) < 0 ∨ gl (c0 + 1) ≤ (48 : Int32).toNatClampNeg) then if (m0 (c0 + 1) (48 : Int32).toNatClampNeg) ≤ y3 then (if y2 = (-1 : Int32) then (g1 (f_X9_fails c0 (2 : Int32) m0) (fun r14 m12 => some (r14, m12))) else (g1 (f_X9_done c0 y2 m0) (fun r11 m9 => some (r11, m9)))) else (if ¬ (((53 : Int32) + y3) < 0 ∨ gl (c0 + 1) ≤ ((53 : Int32) + y3).toNatClampNeg) then if (m0 (c0 + 1) ((53 : Int32) + y3).toNatClampNeg) = (0 : Int32) then (if ¬ (((49 : Int32) + y3) < 0 ∨ gl (c0 + 1) ≤ ((49 : Int32) + y3).toNatClampNeg) then if (m0 (c0 + 1) ((49 : Int32) + y3).toNatClampNeg) ≤ u1 then (if (0 : Int32) = (0 : Int32) then (gv (y3 + (1 : Int32)) (fun x29 => L_X9_tongsFor_20 c0 u1 n y2 x29 m0)) else (if y2 = (-1 : Int32) then (gv (y3 + (1 : Int32)) (fun x31 => L_X9_tongsFor_20 c0 u1 n y3 x31 m0)) else (if ¬ (((49 : Int32) + y2) < 0 ∨ gl (c0 + 1) ≤ ((49 : Int32) + y2).toNatClampNeg) then if (m0 (c0 + 1) ((49 : Int32) + y2).toNatClampNeg) ≤ (m0 (c0 + 1) ((49 : Int32) + y3).toNatClampNeg) then (gv (y3 + (1 : Int32)) (fun x34 => L_X9_tongsFor_20 c0 u1 n y2 x34 m0)) else (gv (y3 + (1 : Int32)) (fun x35 => L_X9_tongsFor_20 c0 u1 n y3 x35 m0)) else none))) else (if (1 : Int32) = (0 : Int32) then (gv (y3 + (1 : Int32)) (fun x37 => L_X9_tongsFor_20 c0 u1 n y2 x37 m0)) else (if y2 = (-1 : Int32) then (gv (y3 + (1 : Int32)) (fun x39 => L_X9_tongsFor_20 c0 u1 n y3 x39 m0)) else (if ¬ (((49 : Int32) + y2) < 0 ∨ gl (c0 + 1) ≤ ((49 : Int32) + y2).toNatClampNeg) then if (m0 (c0 + 1) ((49 : Int32) + y2).toNatClampNeg) ≤ (m0 (c0 + 1) ((49 : Int32) + y3).toNatClampNeg) then (gv (y3 + (1 : Int32)) (fun x42 => L_X9_tongsFor_20 c0 u1 n y2 x42 m0)) else (gv (y3 + (1 : Int32)) (fun x43 => L_X9_tongsFor_20 c0 u1 n y3 x43 m0)) else none))) else none) else (if (0 : Int32) = (0 : Int32) then (gv (y3 + (1 : Int32)) (fun x18 => L_X9_tongsFor_20 c0 u1 n y2 x18 m0)) else (if y2 = (-1 : Int32) then (gv (y3 + (1 : Int32)) (fun x20 => L_X9_tongsFor_20 c0 u1 n y3 x20 m0)) else (if ¬ (((49 : Int32) + y3) < 0 ∨ gl (c0 + 1) ≤ ((49 : Int32) + y3).toNatClampNeg) then if ¬ (((49 : Int32) + y2) < 0 ∨ gl (c0 + 1) ≤ ((49 : Int32) + y2).toNatClampNeg) then if (m0 (c0 + 1) ((49 : Int32) + y2).toNatClampNeg) ≤ (m0 (c0 + 1) ((49 : Int32) + y3).toNatClampNeg) then (gv (y3 + (1 : Int32)) (fun x24 => L_X9_tongsFor_20 c0 u1 n y2 x24 m0)) else (gv (y3 + (1 : Int32)) (fun x25 => L_X9_tongsFor_20 c0 u1 n y3 x25 m0)) else none else none))) else none) else none
def f_X9_tongsFor (c0 : Nat) (u1 : Int32) (m0 : gMem) : Option (Int32 × gMem) := g1 (f_X9_in u1 (0 : Int32) (9 : Int32) m0) (fun r3 m1 => if r3 = (0 : Int32) then (g1 (f_X9_fails c0 (1 : Int32) m1) (fun r46 m44 => some (r46, m44))) else (L_X9_tongsFor_20 c0 u1 gF (-1 : Int32) (0 : Int32) m1))
set_option maxRecDepth 100000 in
set_option maxHeartbeats 4000000 in
theorem l_X9_tongsFor_20 {p : Program} {l : Launch} {e : Env} {R : Room} {s : State} {m : MethodId} {args : Array Value} {below : List Frame} {meth : Method} {c : Code} {cells slots : Nat} {X : gX} (E : gEn p s m args c cX9_tongsFor RX9 X) (hr : meth.sig.returnType = (some .int)) (hlocks : meth.locks = false) (hml : c.maxLocals = 5) (hRf : 1 ≤ R.frames) (hRl : 22 ≤ R.locals) (hRc : 0 ≤ R.cells) (hRs : 0 ≤ R.slots) (hc : cells ≤ 0) (hs : slots ≤ 0) (c0 : Nat) (u1 : Int32) (hk0 : gk c0 = 9) {res : Int32 × gMem} :
    ∀ (n : Nat) (y2 : Int32) (y3 : Int32) (m0 : gMem) (H : Heap) (locs : List Loc) (ls : Array Slot), L_X9_tongsFor_20 c0 u1 n y2 y3 m0 = some res → gM X m0 H → va_S (gA X) s.heap H locs → lv_has ls 5 [(0, .ref (X.1 + c0)), (1, .int u1), (2, .int y2), (3, .int y3)] → W p l e R s m args below meth c H locs cells slots (MQ below (gQi X res) args s 0 0 (gA X)) (F0 m 20 ls []) := by
  obtain ⟨hx, hb⟩ := (⟨E.1, E.2.1⟩ : _ ∧ _)
  intro n
  induction n with
  | zero =>
    intro _ _ _ _ _ _ hf
    cases hf
  | succ n ih =>
    intro y2 y3 m0 H locs ls hf hM hS hl
    rw [L_X9_tongsFor_20] at hf
    refine lv_iload_n hx hb dX9_tongsFor_20 rfl (lv_at hl 3 rfl) ?_
    refine lv_aload_n hx hb dX9_tongsFor_21 rfl (lv_at hl 0 rfl) ?_
    refine GX9_7 E hM hk0 dX9_tongsFor_22 ?_
    have hg5 : gk (c0 + 1) = 20 := gkf_9_0 hk0
    refine lv_bipush (v := (48 : Int32)) hx hb dX9_tongsFor_25 (by decide) ?_
    obtain ⟨hi6, hf⟩ := g_ck hf
    refine gg_iald E hM (gk_in hg5 (by decide)) hg5 hi6 dX9_tongsFor_27 ?_
    refine lv_icmp_ge (tgt := 106) hx hb dX9_tongsFor_28 (by decide) (fun h7 => ?_) (fun h7 => ?_)
    · have hf := g_t h7 hf
      refine lv_iload_n hx hb dX9_tongsFor_106 rfl (lv_at hl 2 rfl) ?_
      refine lv_iconst (v := (-1 : Int32)) hx hb dX9_tongsFor_107 (by decide) ?_
      refine lv_icmp_ne (tgt := 119) hx hb dX9_tongsFor_108 (by decide) (fun h8 => ?_) (fun h8 => ?_)
      · have hf := g_f h8 hf
        refine lv_aload_n hx hb dX9_tongsFor_119 rfl (lv_at hl 0 rfl) ?_
        refine lv_iload_n hx hb dX9_tongsFor_120 rfl (lv_at hl 2 rfl) ?_
        obtain ⟨r11, m9, hqq10, hf⟩ := g1_o hf
        refine ga_i (gr_V (As := [.int y2]) (ci := 9) (rm := { frames := 0, cells := 0, slots := 0, locals := 0 }) E hml hl.1 (c_X9_done l X c0 y2 m0 hk0 hqq10) wt_X9_done wl_RX9_64 rfl hk0 (by decide) rfl rfl hM hS rfl rfl (Nat.le_trans (by decide) hRf) (Nat.le_trans (by decide) hRl) (Nat.le_trans hc hRc) (Nat.le_trans hs hRs) (Nat.le_of_ble_eq_true rfl) dX9_tongsFor_121 rfl) hS (fun H locs hM hS => ?_)
        exact ge_i E hr hlocks hf hM hS hc hs dX9_tongsFor_124
      · have hf := g_t h8 hf
        refine lv_aload_n hx hb dX9_tongsFor_111 rfl (lv_at hl 0 rfl) ?_
        refine lv_iconst (v := (2 : Int32)) hx hb dX9_tongsFor_112 (by decide) ?_
        obtain ⟨r14, m12, hqq13, hf⟩ := g1_o hf
        refine ga_i (gr_V (As := [.int (2 : Int32)]) (ci := 9) (rm := { frames := 0, cells := 0, slots := 0, locals := 0 }) E hml hl.1 (c_X9_fails l X c0 (2 : Int32) m0 hk0 hqq13) wt_X9_fails wl_RX9_57 rfl hk0 (by decide) rfl rfl hM hS rfl rfl (Nat.le_trans (by decide) hRf) (Nat.le_trans (by decide) hRl) (Nat.le_trans hc hRc) (Nat.le_trans hs hRs) (Nat.le_of_ble_eq_true rfl) dX9_tongsFor_113 rfl) hS (fun H locs hM hS => ?_)
        refine lv_goto (tgt := 124) hx hb dX9_tongsFor_116 (by decide) ?_
        exact ge_i E hr hlocks hf hM hS hc hs dX9_tongsFor_124
    · have hf := g_f h7 hf
      refine lv_aload_n hx hb dX9_tongsFor_31 rfl (lv_at hl 0 rfl) ?_
      refine GX9_7 E hM hk0 dX9_tongsFor_32 ?_
      refine lv_bipush (v := (53 : Int32)) hx hb dX9_tongsFor_35 (by decide) ?_
      refine lv_iload_n hx hb dX9_tongsFor_37 rfl (lv_at hl 3 rfl) ?_
      refine lv_iadd hx hb dX9_tongsFor_38 ?_
      obtain ⟨hi15, hf⟩ := g_ck hf
      refine gg_iald E hM (gk_in hg5 (by decide)) hg5 hi15 dX9_tongsFor_39 ?_
      refine lv_if_ne (tgt := 60) hx hb dX9_tongsFor_40 (by decide) (fun h16 => ?_) (fun h16 => ?_)
      · have hf := g_f h16 hf
        refine lv_iconst (v := (0 : Int32)) hx hb dX9_tongsFor_60 (by decide) ?_
        refine lv_istore (lv' := [(4, .int (0 : Int32)), (0, .ref (X.1 + c0)), (1, .int u1), (2, .int y2), (3, .int y3)]) hx hb dX9_tongsFor_61 hl (by decide) rfl (fun ls hl => ?_)
        refine lv_iload hx hb dX9_tongsFor_63 (lv_at hl 0 rfl) ?_
        refine lv_if_eq (tgt := 98) hx hb dX9_tongsFor_65 (by decide) (fun h17 => ?_) (fun h17 => ?_)
        · have hf := g_t h17 hf
          refine lv_iload_n hx hb dX9_tongsFor_98 rfl (lv_at hl 3 rfl) ?_
          refine lv_istore_n (lv' := [(2, .int y2), (4, .int (0 : Int32)), (0, .ref (X.1 + c0)), (1, .int u1), (3, .int y3)]) hx hb dX9_tongsFor_99 rfl hl (by decide) rfl (fun ls hl => ?_)
          obtain ⟨x18, ex18, hf⟩ := gv_o hf
          refine lv_iinc (v := x18) (lv' := [(3, .int x18), (2, .int y2), (4, .int (0 : Int32)), (0, .ref (X.1 + c0)), (1, .int u1)]) hx hb dX9_tongsFor_100 hl (k := 4) rfl (by rw [ex18]; rfl) (by decide) rfl (fun ls hl => ?_)
          refine lv_goto (tgt := 20) hx hb dX9_tongsFor_103 (by decide) ?_
          exact ih y2 x18 m0 _ _ _ hf hM hS (lv_sub hl [3, 4, 1, 0] rfl)
        · have hf := g_f h17 hf
          refine lv_iload_n hx hb dX9_tongsFor_68 rfl (lv_at hl 3 rfl) ?_
          refine lv_iconst (v := (-1 : Int32)) hx hb dX9_tongsFor_69 (by decide) ?_
          refine lv_icmp_eq (tgt := 94) hx hb dX9_tongsFor_70 (by decide) (fun h19 => ?_) (fun h19 => ?_)
          · have hf := g_t h19 hf
            refine lv_iload_n hx hb dX9_tongsFor_94 rfl (lv_at hl 4 rfl) ?_
            refine lv_goto (tgt := 99) hx hb dX9_tongsFor_95 (by decide) ?_
            refine lv_istore_n (lv' := [(2, .int y3), (4, .int (0 : Int32)), (0, .ref (X.1 + c0)), (1, .int u1), (3, .int y3)]) hx hb dX9_tongsFor_99 rfl hl (by decide) rfl (fun ls hl => ?_)
            obtain ⟨x20, ex20, hf⟩ := gv_o hf
            refine lv_iinc (v := x20) (lv' := [(3, .int x20), (2, .int y3), (4, .int (0 : Int32)), (0, .ref (X.1 + c0)), (1, .int u1)]) hx hb dX9_tongsFor_100 hl (k := 4) rfl (by rw [ex20]; rfl) (by decide) rfl (fun ls hl => ?_)
            refine lv_goto (tgt := 20) hx hb dX9_tongsFor_103 (by decide) ?_
            exact ih y3 x20 m0 _ _ _ hf hM hS (lv_sub hl [3, 4, 1, 0] rfl)
          · have hf := g_f h19 hf
            refine lv_aload_n hx hb dX9_tongsFor_73 rfl (lv_at hl 1 rfl) ?_
            refine GX9_7 E hM hk0 dX9_tongsFor_74 ?_
            refine lv_bipush (v := (49 : Int32)) hx hb dX9_tongsFor_77 (by decide) ?_
            refine lv_iload_n hx hb dX9_tongsFor_79 rfl (lv_at hl 4 rfl) ?_
            refine lv_iadd hx hb dX9_tongsFor_80 ?_
            obtain ⟨hi21, hf⟩ := g_ck hf
            refine gg_iald E hM (gk_in hg5 (by decide)) hg5 hi21 dX9_tongsFor_81 ?_
            refine lv_aload_n hx hb dX9_tongsFor_82 rfl (lv_at hl 1 rfl) ?_
            refine GX9_7 E hM hk0 dX9_tongsFor_83 ?_
            refine lv_bipush (v := (49 : Int32)) hx hb dX9_tongsFor_86 (by decide) ?_
            refine lv_iload_n hx hb dX9_tongsFor_88 rfl (lv_at hl 3 rfl) ?_
            refine lv_iadd hx hb dX9_tongsFor_89 ?_
            obtain ⟨hi22, hf⟩ := g_ck hf
            refine gg_iald E hM (gk_in hg5 (by decide)) hg5 hi22 dX9_tongsFor_90 ?_
            refine lv_icmp_ge (tgt := 98) hx hb dX9_tongsFor_91 (by decide) (fun h23 => ?_) (fun h23 => ?_)
            · have hf := g_t h23 hf
              refine lv_iload_n hx hb dX9_tongsFor_98 rfl (lv_at hl 3 rfl) ?_
              refine lv_istore_n (lv' := [(2, .int y2), (4, .int (0 : Int32)), (0, .ref (X.1 + c0)), (1, .int u1), (3, .int y3)]) hx hb dX9_tongsFor_99 rfl hl (by decide) rfl (fun ls hl => ?_)
              obtain ⟨x24, ex24, hf⟩ := gv_o hf
              refine lv_iinc (v := x24) (lv' := [(3, .int x24), (2, .int y2), (4, .int (0 : Int32)), (0, .ref (X.1 + c0)), (1, .int u1)]) hx hb dX9_tongsFor_100 hl (k := 4) rfl (by rw [ex24]; rfl) (by decide) rfl (fun ls hl => ?_)
              refine lv_goto (tgt := 20) hx hb dX9_tongsFor_103 (by decide) ?_
              exact ih y2 x24 m0 _ _ _ hf hM hS (lv_sub hl [3, 4, 1, 0] rfl)
            · have hf := g_f h23 hf
              refine lv_iload_n hx hb dX9_tongsFor_94 rfl (lv_at hl 4 rfl) ?_
              refine lv_goto (tgt := 99) hx hb dX9_tongsFor_95 (by decide) ?_
              refine lv_istore_n (lv' := [(2, .int y3), (4, .int (0 : Int32)), (0, .ref (X.1 + c0)), (1, .int u1), (3, .int y3)]) hx hb dX9_tongsFor_99 rfl hl (by decide) rfl (fun ls hl => ?_)
              obtain ⟨x25, ex25, hf⟩ := gv_o hf
              refine lv_iinc (v := x25) (lv' := [(3, .int x25), (2, .int y3), (4, .int (0 : Int32)), (0, .ref (X.1 + c0)), (1, .int u1)]) hx hb dX9_tongsFor_100 hl (k := 4) rfl (by rw [ex25]; rfl) (by decide) rfl (fun ls hl => ?_)
              refine lv_goto (tgt := 20) hx hb dX9_tongsFor_103 (by decide) ?_
              exact ih y3 x25 m0 _ _ _ hf hM hS (lv_sub hl [3, 4, 1, 0] rfl)
      · have hf := g_t h16 hf
        refine lv_aload_n hx hb dX9_tongsFor_43 rfl (lv_at hl 0 rfl) ?_
        refine GX9_7 E hM hk0 dX9_tongsFor_44 ?_
        refine lv_bipush (v := (49 : Int32)) hx hb dX9_tongsFor_47 (by decide) ?_
        refine lv_iload_n hx hb dX9_tongsFor_49 rfl (lv_at hl 3 rfl) ?_
        refine lv_iadd hx hb dX9_tongsFor_50 ?_
        obtain ⟨hi26, hf⟩ := g_ck hf
        refine gg_iald E hM (gk_in hg5 (by decide)) hg5 hi26 dX9_tongsFor_51 ?_
        refine lv_iload_n hx hb dX9_tongsFor_52 rfl (lv_at hl 1 rfl) ?_
        refine lv_icmp_le (tgt := 60) hx hb dX9_tongsFor_53 (by decide) (fun h27 => ?_) (fun h27 => ?_)
        · have hf := g_t h27 hf
          refine lv_iconst (v := (0 : Int32)) hx hb dX9_tongsFor_60 (by decide) ?_
          refine lv_istore (lv' := [(4, .int (0 : Int32)), (0, .ref (X.1 + c0)), (1, .int u1), (2, .int y2), (3, .int y3)]) hx hb dX9_tongsFor_61 hl (by decide) rfl (fun ls hl => ?_)
          refine lv_iload hx hb dX9_tongsFor_63 (lv_at hl 0 rfl) ?_
          refine lv_if_eq (tgt := 98) hx hb dX9_tongsFor_65 (by decide) (fun h28 => ?_) (fun h28 => ?_)
          · have hf := g_t h28 hf
            refine lv_iload_n hx hb dX9_tongsFor_98 rfl (lv_at hl 3 rfl) ?_
            refine lv_istore_n (lv' := [(2, .int y2), (4, .int (0 : Int32)), (0, .ref (X.1 + c0)), (1, .int u1), (3, .int y3)]) hx hb dX9_tongsFor_99 rfl hl (by decide) rfl (fun ls hl => ?_)
            obtain ⟨x29, ex29, hf⟩ := gv_o hf
            refine lv_iinc (v := x29) (lv' := [(3, .int x29), (2, .int y2), (4, .int (0 : Int32)), (0, .ref (X.1 + c0)), (1, .int u1)]) hx hb dX9_tongsFor_100 hl (k := 4) rfl (by rw [ex29]; rfl) (by decide) rfl (fun ls hl => ?_)
            refine lv_goto (tgt := 20) hx hb dX9_tongsFor_103 (by decide) ?_
            exact ih y2 x29 m0 _ _ _ hf hM hS (lv_sub hl [3, 4, 1, 0] rfl)
          · have hf := g_f h28 hf
            refine lv_iload_n hx hb dX9_tongsFor_68 rfl (lv_at hl 3 rfl) ?_
            refine lv_iconst (v := (-1 : Int32)) hx hb dX9_tongsFor_69 (by decide) ?_
            refine lv_icmp_eq (tgt := 94) hx hb dX9_tongsFor_70 (by decide) (fun h30 => ?_) (fun h30 => ?_)
            · have hf := g_t h30 hf
              refine lv_iload_n hx hb dX9_tongsFor_94 rfl (lv_at hl 4 rfl) ?_
              refine lv_goto (tgt := 99) hx hb dX9_tongsFor_95 (by decide) ?_
              refine lv_istore_n (lv' := [(2, .int y3), (4, .int (0 : Int32)), (0, .ref (X.1 + c0)), (1, .int u1), (3, .int y3)]) hx hb dX9_tongsFor_99 rfl hl (by decide) rfl (fun ls hl => ?_)
              obtain ⟨x31, ex31, hf⟩ := gv_o hf
              refine lv_iinc (v := x31) (lv' := [(3, .int x31), (2, .int y3), (4, .int (0 : Int32)), (0, .ref (X.1 + c0)), (1, .int u1)]) hx hb dX9_tongsFor_100 hl (k := 4) rfl (by rw [ex31]; rfl) (by decide) rfl (fun ls hl => ?_)
              refine lv_goto (tgt := 20) hx hb dX9_tongsFor_103 (by decide) ?_
              exact ih y3 x31 m0 _ _ _ hf hM hS (lv_sub hl [3, 4, 1, 0] rfl)
            · have hf := g_f h30 hf
              refine lv_aload_n hx hb dX9_tongsFor_73 rfl (lv_at hl 1 rfl) ?_
              refine GX9_7 E hM hk0 dX9_tongsFor_74 ?_
              refine lv_bipush (v := (49 : Int32)) hx hb dX9_tongsFor_77 (by decide) ?_
              refine lv_iload_n hx hb dX9_tongsFor_79 rfl (lv_at hl 4 rfl) ?_
              refine lv_iadd hx hb dX9_tongsFor_80 ?_
              refine gg_iald E hM (gk_in hg5 (by decide)) hg5 hi26 dX9_tongsFor_81 ?_
              refine lv_aload_n hx hb dX9_tongsFor_82 rfl (lv_at hl 1 rfl) ?_
              refine GX9_7 E hM hk0 dX9_tongsFor_83 ?_
              refine lv_bipush (v := (49 : Int32)) hx hb dX9_tongsFor_86 (by decide) ?_
              refine lv_iload_n hx hb dX9_tongsFor_88 rfl (lv_at hl 3 rfl) ?_
              refine lv_iadd hx hb dX9_tongsFor_89 ?_
              obtain ⟨hi32, hf⟩ := g_ck hf
              refine gg_iald E hM (gk_in hg5 (by decide)) hg5 hi32 dX9_tongsFor_90 ?_
              refine lv_icmp_ge (tgt := 98) hx hb dX9_tongsFor_91 (by decide) (fun h33 => ?_) (fun h33 => ?_)
              · have hf := g_t h33 hf
                refine lv_iload_n hx hb dX9_tongsFor_98 rfl (lv_at hl 3 rfl) ?_
                refine lv_istore_n (lv' := [(2, .int y2), (4, .int (0 : Int32)), (0, .ref (X.1 + c0)), (1, .int u1), (3, .int y3)]) hx hb dX9_tongsFor_99 rfl hl (by decide) rfl (fun ls hl => ?_)
                obtain ⟨x34, ex34, hf⟩ := gv_o hf
                refine lv_iinc (v := x34) (lv' := [(3, .int x34), (2, .int y2), (4, .int (0 : Int32)), (0, .ref (X.1 + c0)), (1, .int u1)]) hx hb dX9_tongsFor_100 hl (k := 4) rfl (by rw [ex34]; rfl) (by decide) rfl (fun ls hl => ?_)
                refine lv_goto (tgt := 20) hx hb dX9_tongsFor_103 (by decide) ?_
                exact ih y2 x34 m0 _ _ _ hf hM hS (lv_sub hl [3, 4, 1, 0] rfl)
              · have hf := g_f h33 hf
                refine lv_iload_n hx hb dX9_tongsFor_94 rfl (lv_at hl 4 rfl) ?_
                refine lv_goto (tgt := 99) hx hb dX9_tongsFor_95 (by decide) ?_
                refine lv_istore_n (lv' := [(2, .int y3), (4, .int (0 : Int32)), (0, .ref (X.1 + c0)), (1, .int u1), (3, .int y3)]) hx hb dX9_tongsFor_99 rfl hl (by decide) rfl (fun ls hl => ?_)
                obtain ⟨x35, ex35, hf⟩ := gv_o hf
                refine lv_iinc (v := x35) (lv' := [(3, .int x35), (2, .int y3), (4, .int (0 : Int32)), (0, .ref (X.1 + c0)), (1, .int u1)]) hx hb dX9_tongsFor_100 hl (k := 4) rfl (by rw [ex35]; rfl) (by decide) rfl (fun ls hl => ?_)
                refine lv_goto (tgt := 20) hx hb dX9_tongsFor_103 (by decide) ?_
                exact ih y3 x35 m0 _ _ _ hf hM hS (lv_sub hl [3, 4, 1, 0] rfl)
        · have hf := g_f h27 hf
          refine lv_iconst (v := (1 : Int32)) hx hb dX9_tongsFor_56 (by decide) ?_
          refine lv_goto (tgt := 61) hx hb dX9_tongsFor_57 (by decide) ?_
          refine lv_istore (lv' := [(4, .int (1 : Int32)), (0, .ref (X.1 + c0)), (1, .int u1), (2, .int y2), (3, .int y3)]) hx hb dX9_tongsFor_61 hl (by decide) rfl (fun ls hl => ?_)
          refine lv_iload hx hb dX9_tongsFor_63 (lv_at hl 0 rfl) ?_
          refine lv_if_eq (tgt := 98) hx hb dX9_tongsFor_65 (by decide) (fun h36 => ?_) (fun h36 => ?_)
          · have hf := g_t h36 hf
            refine lv_iload_n hx hb dX9_tongsFor_98 rfl (lv_at hl 3 rfl) ?_
            refine lv_istore_n (lv' := [(2, .int y2), (4, .int (1 : Int32)), (0, .ref (X.1 + c0)), (1, .int u1), (3, .int y3)]) hx hb dX9_tongsFor_99 rfl hl (by decide) rfl (fun ls hl => ?_)
            obtain ⟨x37, ex37, hf⟩ := gv_o hf
            refine lv_iinc (v := x37) (lv' := [(3, .int x37), (2, .int y2), (4, .int (1 : Int32)), (0, .ref (X.1 + c0)), (1, .int u1)]) hx hb dX9_tongsFor_100 hl (k := 4) rfl (by rw [ex37]; rfl) (by decide) rfl (fun ls hl => ?_)
            refine lv_goto (tgt := 20) hx hb dX9_tongsFor_103 (by decide) ?_
            exact ih y2 x37 m0 _ _ _ hf hM hS (lv_sub hl [3, 4, 1, 0] rfl)
          · have hf := g_f h36 hf
            refine lv_iload_n hx hb dX9_tongsFor_68 rfl (lv_at hl 3 rfl) ?_
            refine lv_iconst (v := (-1 : Int32)) hx hb dX9_tongsFor_69 (by decide) ?_
            refine lv_icmp_eq (tgt := 94) hx hb dX9_tongsFor_70 (by decide) (fun h38 => ?_) (fun h38 => ?_)
            · have hf := g_t h38 hf
              refine lv_iload_n hx hb dX9_tongsFor_94 rfl (lv_at hl 4 rfl) ?_
              refine lv_goto (tgt := 99) hx hb dX9_tongsFor_95 (by decide) ?_
              refine lv_istore_n (lv' := [(2, .int y3), (4, .int (1 : Int32)), (0, .ref (X.1 + c0)), (1, .int u1), (3, .int y3)]) hx hb dX9_tongsFor_99 rfl hl (by decide) rfl (fun ls hl => ?_)
              obtain ⟨x39, ex39, hf⟩ := gv_o hf
              refine lv_iinc (v := x39) (lv' := [(3, .int x39), (2, .int y3), (4, .int (1 : Int32)), (0, .ref (X.1 + c0)), (1, .int u1)]) hx hb dX9_tongsFor_100 hl (k := 4) rfl (by rw [ex39]; rfl) (by decide) rfl (fun ls hl => ?_)
              refine lv_goto (tgt := 20) hx hb dX9_tongsFor_103 (by decide) ?_
              exact ih y3 x39 m0 _ _ _ hf hM hS (lv_sub hl [3, 4, 1, 0] rfl)
            · have hf := g_f h38 hf
              refine lv_aload_n hx hb dX9_tongsFor_73 rfl (lv_at hl 1 rfl) ?_
              refine GX9_7 E hM hk0 dX9_tongsFor_74 ?_
              refine lv_bipush (v := (49 : Int32)) hx hb dX9_tongsFor_77 (by decide) ?_
              refine lv_iload_n hx hb dX9_tongsFor_79 rfl (lv_at hl 4 rfl) ?_
              refine lv_iadd hx hb dX9_tongsFor_80 ?_
              refine gg_iald E hM (gk_in hg5 (by decide)) hg5 hi26 dX9_tongsFor_81 ?_
              refine lv_aload_n hx hb dX9_tongsFor_82 rfl (lv_at hl 1 rfl) ?_
              refine GX9_7 E hM hk0 dX9_tongsFor_83 ?_
              refine lv_bipush (v := (49 : Int32)) hx hb dX9_tongsFor_86 (by decide) ?_
              refine lv_iload_n hx hb dX9_tongsFor_88 rfl (lv_at hl 3 rfl) ?_
              refine lv_iadd hx hb dX9_tongsFor_89 ?_
              obtain ⟨hi40, hf⟩ := g_ck hf
              refine gg_iald E hM (gk_in hg5 (by decide)) hg5 hi40 dX9_tongsFor_90 ?_
              refine lv_icmp_ge (tgt := 98) hx hb dX9_tongsFor_91 (by decide) (fun h41 => ?_) (fun h41 => ?_)
              · have hf := g_t h41 hf
                refine lv_iload_n hx hb dX9_tongsFor_98 rfl (lv_at hl 3 rfl) ?_
                refine lv_istore_n (lv' := [(2, .int y2), (4, .int (1 : Int32)), (0, .ref (X.1 + c0)), (1, .int u1), (3, .int y3)]) hx hb dX9_tongsFor_99 rfl hl (by decide) rfl (fun ls hl => ?_)
                obtain ⟨x42, ex42, hf⟩ := gv_o hf
                refine lv_iinc (v := x42) (lv' := [(3, .int x42), (2, .int y2), (4, .int (1 : Int32)), (0, .ref (X.1 + c0)), (1, .int u1)]) hx hb dX9_tongsFor_100 hl (k := 4) rfl (by rw [ex42]; rfl) (by decide) rfl (fun ls hl => ?_)
                refine lv_goto (tgt := 20) hx hb dX9_tongsFor_103 (by decide) ?_
                exact ih y2 x42 m0 _ _ _ hf hM hS (lv_sub hl [3, 4, 1, 0] rfl)
              · have hf := g_f h41 hf
                refine lv_iload_n hx hb dX9_tongsFor_94 rfl (lv_at hl 4 rfl) ?_
                refine lv_goto (tgt := 99) hx hb dX9_tongsFor_95 (by decide) ?_
                refine lv_istore_n (lv' := [(2, .int y3), (4, .int (1 : Int32)), (0, .ref (X.1 + c0)), (1, .int u1), (3, .int y3)]) hx hb dX9_tongsFor_99 rfl hl (by decide) rfl (fun ls hl => ?_)
                obtain ⟨x43, ex43, hf⟩ := gv_o hf
                refine lv_iinc (v := x43) (lv' := [(3, .int x43), (2, .int y3), (4, .int (1 : Int32)), (0, .ref (X.1 + c0)), (1, .int u1)]) hx hb dX9_tongsFor_100 hl (k := 4) rfl (by rw [ex43]; rfl) (by decide) rfl (fun ls hl => ?_)
                refine lv_goto (tgt := 20) hx hb dX9_tongsFor_103 (by decide) ?_
                exact ih y3 x43 m0 _ _ _ hf hM hS (lv_sub hl [3, 4, 1, 0] rfl)
set_option maxRecDepth 100000 in
set_option maxHeartbeats 4000000 in
theorem b_X9_tongsFor {p : Program} {l : Launch} {e : Env} {R : Room} {s : State} {m : MethodId} {args : Array Value} {below : List Frame} {meth : Method} {c : Code} {H : Heap} {locs : List Loc} {ls : Array Slot} {X : gX} (E : gEn p s m args c cX9_tongsFor RX9 X) (hr : meth.sig.returnType = (some .int)) (hlocks : meth.locks = false) (hml : c.maxLocals = 5) (hRf : 1 ≤ R.frames) (hRl : 22 ≤ R.locals) (hRc : 0 ≤ R.cells) (hRs : 0 ≤ R.slots) {c0 : Nat} {u1 : Int32} {m0 : gMem} {res : Int32 × gMem} (hk0 : gk c0 = 9) (hf : f_X9_tongsFor c0 u1 m0 = some res) (hM : gM X m0 H) (hS : va_S (gA X) s.heap H locs) (hl : lv_has ls 5 [(0, .ref (X.1 + c0)), (1, .int u1)]) : W p l e R s m args below meth c H locs 0 0 (MQ below (gQi X res) args s 0 0 (gA X)) (F0 m 0 ls []) := by
  obtain ⟨hx, hb⟩ := (⟨E.1, E.2.1⟩ : _ ∧ _)
  unfold f_X9_tongsFor at hf
  refine lv_iload_n hx hb dX9_tongsFor_0 rfl (lv_at hl 1 rfl) ?_
  refine lv_iconst (v := (0 : Int32)) hx hb dX9_tongsFor_1 (by decide) ?_
  refine lv_bipush (v := (9 : Int32)) hx hb dX9_tongsFor_2 (by decide) ?_
  obtain ⟨r3, m1, hqq2, hf⟩ := g1_o hf
  refine ga_i (gr_S (As := [.int u1, .int (0 : Int32), .int (9 : Int32)]) (rm := { frames := 0, cells := 0, slots := 0, locals := 0 }) E hml hl.1 (c_X9_in l X u1 (0 : Int32) (9 : Int32) m0 hqq2) wt_X9_in wl_RX9_53 rfl hM hS rfl rfl (Nat.le_trans (by decide) hRf) (Nat.le_trans (by decide) hRl) (Nat.le_trans (Nat.le_of_ble_eq_true rfl) hRc) (Nat.le_trans (Nat.le_of_ble_eq_true rfl) hRs) (Nat.le_of_ble_eq_true rfl) dX9_tongsFor_4 rfl) hS (fun H locs hM hS => ?_)
  refine lv_if_ne (tgt := 16) hx hb dX9_tongsFor_7 (by decide) (fun h4 => ?_) (fun h4 => ?_)
  · have hf := g_f h4 hf
    refine lv_iconst (v := (-1 : Int32)) hx hb dX9_tongsFor_16 (by decide) ?_
    refine lv_istore_n (lv' := [(2, .int (-1 : Int32)), (0, .ref (X.1 + c0)), (1, .int u1)]) hx hb dX9_tongsFor_17 rfl hl (by decide) rfl (fun ls hl => ?_)
    refine lv_iconst (v := (0 : Int32)) hx hb dX9_tongsFor_18 (by decide) ?_
    refine lv_istore_n (lv' := [(3, .int (0 : Int32)), (2, .int (-1 : Int32)), (0, .ref (X.1 + c0)), (1, .int u1)]) hx hb dX9_tongsFor_19 rfl hl (by decide) rfl (fun ls hl => ?_)
    refine l_X9_tongsFor_20 E hr hlocks hml hRf hRl hRc hRs (Nat.le_of_ble_eq_true rfl) (Nat.le_of_ble_eq_true rfl) c0 u1 hk0 gF (-1 : Int32) (0 : Int32) m1 _ _ _ hf hM hS (lv_sub hl [2, 3, 1, 0] rfl)
  · have hf := g_t h4 hf
    refine lv_aload_n hx hb dX9_tongsFor_10 rfl (lv_at hl 0 rfl) ?_
    refine lv_iconst (v := (1 : Int32)) hx hb dX9_tongsFor_11 (by decide) ?_
    obtain ⟨r46, m44, hqq45, hf⟩ := g1_o hf
    refine ga_i (gr_V (As := [.int (1 : Int32)]) (ci := 9) (rm := { frames := 0, cells := 0, slots := 0, locals := 0 }) E hml hl.1 (c_X9_fails l X c0 (1 : Int32) m1 hk0 hqq45) wt_X9_fails wl_RX9_57 rfl hk0 (by decide) rfl rfl hM hS rfl rfl (Nat.le_trans (by decide) hRf) (Nat.le_trans (by decide) hRl) (Nat.le_trans (Nat.le_of_ble_eq_true rfl) hRc) (Nat.le_trans (Nat.le_of_ble_eq_true rfl) hRs) (Nat.le_of_ble_eq_true rfl) dX9_tongsFor_12 rfl) hS (fun H locs hM hS => ?_)
    exact ge_i E hr hlocks hf hM hS (Nat.le_of_ble_eq_true rfl) (Nat.le_of_ble_eq_true rfl) dX9_tongsFor_15
theorem c_X9_tongsFor (l : Launch) (X : gX) (c0 : Nat) (u1 : Int32) (m0 : gMem) {res : Int32 × gMem} (hk0 : gk c0 = 9) (hf : f_X9_tongsFor c0 u1 m0 = some res) : Met l yX9_tongsFor (gWs yX9_tongsFor cX9_tongsFor 5 (some .int)) { frames := 1, cells := 0, slots := 0, locals := 22 } (va_Pc [.ref (X.1 + c0), .int u1] (gB X m0)) (gQi X res) 0 0 (gA X) :=
  gMet (own := RX9) (by decide +kernel) rfl (Nat.le_of_ble_eq_true rfl) (fun p e s m args below meth c ls E hr hlocks hml hM hl => b_X9_tongsFor E hr hlocks hml (Nat.le_refl _) (Nat.le_refl _) (Nat.le_refl _) (Nat.le_refl _) hk0 hf hM va_S.rf hl)
def f_X9_isTower (c0 : Nat) (u1 : Int32) (m0 : gMem) : Option (Int32 × gMem) := if ¬ ((29 : Int32) < 0 ∨ gl (c0 + 1) ≤ (29 : Int32).toNatClampNeg) then g1 (f_X9_in u1 (0 : Int32) ((m0 (c0 + 1) (29 : Int32).toNatClampNeg) - (1 : Int32)) m0) (fun r5 m3 => if r5 = 0 ∨ r5 = 1 then some (r5, m3) else none) else none
set_option maxRecDepth 100000 in
set_option maxHeartbeats 4000000 in
theorem b_X9_isTower {p : Program} {l : Launch} {e : Env} {R : Room} {s : State} {m : MethodId} {args : Array Value} {below : List Frame} {meth : Method} {c : Code} {H : Heap} {locs : List Loc} {ls : Array Slot} {X : gX} (E : gEn p s m args c cX9_isTower RX9 X) (hr : meth.sig.returnType = (some .boolean)) (hlocks : meth.locks = false) (hml : c.maxLocals = 2) (hRf : 1 ≤ R.frames) (hRl : 22 ≤ R.locals) (hRc : 0 ≤ R.cells) (hRs : 0 ≤ R.slots) {c0 : Nat} {u1 : Int32} {m0 : gMem} {res : Int32 × gMem} (hk0 : gk c0 = 9) (hf : f_X9_isTower c0 u1 m0 = some res) (hM : gM X m0 H) (hS : va_S (gA X) s.heap H locs) (hl : lv_has ls 2 [(0, .ref (X.1 + c0)), (1, .int u1)]) : W p l e R s m args below meth c H locs 0 0 (MQ below (gQi X res) args s 0 0 (gA X)) (F0 m 0 ls []) := by
  obtain ⟨hx, hb⟩ := (⟨E.1, E.2.1⟩ : _ ∧ _)
  unfold f_X9_isTower at hf
  refine lv_iload_n hx hb dX9_isTower_0 rfl (lv_at hl 1 rfl) ?_
  refine lv_iconst (v := (0 : Int32)) hx hb dX9_isTower_1 (by decide) ?_
  refine lv_aload_n hx hb dX9_isTower_2 rfl (lv_at hl 0 rfl) ?_
  refine GX9_7 E hM hk0 dX9_isTower_3 ?_
  have hg1 : gk (c0 + 1) = 20 := gkf_9_0 hk0
  refine lv_bipush (v := (29 : Int32)) hx hb dX9_isTower_6 (by decide) ?_
  obtain ⟨hi2, hf⟩ := g_ck hf
  refine gg_iald E hM (gk_in hg1 (by decide)) hg1 hi2 dX9_isTower_8 ?_
  refine lv_iconst (v := (1 : Int32)) hx hb dX9_isTower_9 (by decide) ?_
  refine lv_isub hx hb dX9_isTower_10 ?_
  obtain ⟨r5, m3, hqq4, hf⟩ := g1_o hf
  refine ga_i (gr_S (As := [.int u1, .int (0 : Int32), .int ((m0 (c0 + 1) (29 : Int32).toNatClampNeg) - (1 : Int32))]) (rm := { frames := 0, cells := 0, slots := 0, locals := 0 }) E hml hl.1 (c_X9_in l X u1 (0 : Int32) ((m0 (c0 + 1) (29 : Int32).toNatClampNeg) - (1 : Int32)) m0 hqq4) wt_X9_in wl_RX9_53 rfl hM hS rfl rfl (Nat.le_trans (by decide) hRf) (Nat.le_trans (by decide) hRl) (Nat.le_trans (Nat.le_of_ble_eq_true rfl) hRc) (Nat.le_trans (Nat.le_of_ble_eq_true rfl) hRs) (Nat.le_of_ble_eq_true rfl) dX9_isTower_11 rfl) hS (fun H locs hM hS => ?_)
  obtain ⟨hb6, hf⟩ := g_ck hf
  exact ge_z E hr (g_nb hb6) hlocks hf hM hS (Nat.le_of_ble_eq_true rfl) (Nat.le_of_ble_eq_true rfl) dX9_isTower_14
theorem c_X9_isTower (l : Launch) (X : gX) (c0 : Nat) (u1 : Int32) (m0 : gMem) {res : Int32 × gMem} (hk0 : gk c0 = 9) (hf : f_X9_isTower c0 u1 m0 = some res) : Met l yX9_isTower (gWs yX9_isTower cX9_isTower 2 (some .boolean)) { frames := 1, cells := 0, slots := 0, locals := 22 } (va_Pc [.ref (X.1 + c0), .int u1] (gB X m0)) (gQi X res) 0 0 (gA X) :=
  gMet (own := RX9) (by decide +kernel) rfl (Nat.le_of_ble_eq_true rfl) (fun p e s m args below meth c ls E hr hlocks hml hM hl => b_X9_isTower E hr hlocks hml (Nat.le_refl _) (Nat.le_refl _) (Nat.le_refl _) (Nat.le_refl _) hk0 hf hM va_S.rf hl)
def f_X9_isCourse (c0 : Nat) (u1 : Int32) (u2 : Int32) (m0 : gMem) : Option (Int32 × gMem) := g1 (f_X9_isTower c0 u1 m0) (fun r3 m1 => if r3 = (0 : Int32) then (some ((0 : Int32), m1)) else (if ¬ (((36 : Int32) + u1) < 0 ∨ gl (c0 + 1) ≤ ((36 : Int32) + u1).toNatClampNeg) then g1 (f_X9_in u2 (0 : Int32) ((m1 (c0 + 1) ((36 : Int32) + u1).toNatClampNeg) - (1 : Int32)) m1) (fun r9 m7 => if r9 = (0 : Int32) then (some ((0 : Int32), m7)) else (some ((1 : Int32), m7))) else none))
set_option maxRecDepth 100000 in
set_option maxHeartbeats 4000000 in
theorem b_X9_isCourse {p : Program} {l : Launch} {e : Env} {R : Room} {s : State} {m : MethodId} {args : Array Value} {below : List Frame} {meth : Method} {c : Code} {H : Heap} {locs : List Loc} {ls : Array Slot} {X : gX} (E : gEn p s m args c cX9_isCourse RX9 X) (hr : meth.sig.returnType = (some .boolean)) (hlocks : meth.locks = false) (hml : c.maxLocals = 3) (hRf : 2 ≤ R.frames) (hRl : 43 ≤ R.locals) (hRc : 0 ≤ R.cells) (hRs : 0 ≤ R.slots) {c0 : Nat} {u1 : Int32} {u2 : Int32} {m0 : gMem} {res : Int32 × gMem} (hk0 : gk c0 = 9) (hf : f_X9_isCourse c0 u1 u2 m0 = some res) (hM : gM X m0 H) (hS : va_S (gA X) s.heap H locs) (hl : lv_has ls 3 [(0, .ref (X.1 + c0)), (1, .int u1), (2, .int u2)]) : W p l e R s m args below meth c H locs 0 0 (MQ below (gQi X res) args s 0 0 (gA X)) (F0 m 0 ls []) := by
  obtain ⟨hx, hb⟩ := (⟨E.1, E.2.1⟩ : _ ∧ _)
  unfold f_X9_isCourse at hf
  refine lv_aload_n hx hb dX9_isCourse_0 rfl (lv_at hl 0 rfl) ?_
  refine lv_iload_n hx hb dX9_isCourse_1 rfl (lv_at hl 1 rfl) ?_
  obtain ⟨r3, m1, hqq2, hf⟩ := g1_o hf
  refine ga_i (gr_V (As := [.int u1]) (ci := 9) (rm := { frames := 1, cells := 0, slots := 0, locals := 22 }) E hml hl.1 (c_X9_isTower l X c0 u1 m0 hk0 hqq2) wt_X9_isTower wl_RX9_88 rfl hk0 (by decide) rfl rfl hM hS rfl rfl (Nat.le_trans (by decide) hRf) (Nat.le_trans (by decide) hRl) (Nat.le_trans (Nat.le_of_ble_eq_true rfl) hRc) (Nat.le_trans (Nat.le_of_ble_eq_true rfl) hRs) (Nat.le_of_ble_eq_true rfl) dX9_isCourse_2 rfl) hS (fun H locs hM hS => ?_)
  refine lv_if_eq (tgt := 31) hx hb dX9_isCourse_5 (by decide) (fun h4 => ?_) (fun h4 => ?_)
  · have hf := g_t h4 hf
    refine lv_iconst (v := (0 : Int32)) hx hb dX9_isCourse_31 (by decide) ?_
    exact ge_z E hr rfl hlocks hf hM hS (Nat.le_of_ble_eq_true rfl) (Nat.le_of_ble_eq_true rfl) dX9_isCourse_32
  · have hf := g_f h4 hf
    refine lv_iload_n hx hb dX9_isCourse_8 rfl (lv_at hl 2 rfl) ?_
    refine lv_iconst (v := (0 : Int32)) hx hb dX9_isCourse_9 (by decide) ?_
    refine lv_aload_n hx hb dX9_isCourse_10 rfl (lv_at hl 0 rfl) ?_
    refine GX9_7 E hM hk0 dX9_isCourse_11 ?_
    have hg5 : gk (c0 + 1) = 20 := gkf_9_0 hk0
    refine lv_bipush (v := (36 : Int32)) hx hb dX9_isCourse_14 (by decide) ?_
    refine lv_iload_n hx hb dX9_isCourse_16 rfl (lv_at hl 1 rfl) ?_
    refine lv_iadd hx hb dX9_isCourse_17 ?_
    obtain ⟨hi6, hf⟩ := g_ck hf
    refine gg_iald E hM (gk_in hg5 (by decide)) hg5 hi6 dX9_isCourse_18 ?_
    refine lv_iconst (v := (1 : Int32)) hx hb dX9_isCourse_19 (by decide) ?_
    refine lv_isub hx hb dX9_isCourse_20 ?_
    obtain ⟨r9, m7, hqq8, hf⟩ := g1_o hf
    refine ga_i (gr_S (As := [.int u2, .int (0 : Int32), .int ((m1 (c0 + 1) ((36 : Int32) + u1).toNatClampNeg) - (1 : Int32))]) (rm := { frames := 0, cells := 0, slots := 0, locals := 0 }) E hml hl.1 (c_X9_in l X u2 (0 : Int32) ((m1 (c0 + 1) ((36 : Int32) + u1).toNatClampNeg) - (1 : Int32)) m1 hqq8) wt_X9_in wl_RX9_53 rfl hM hS rfl rfl (Nat.le_trans (by decide) hRf) (Nat.le_trans (by decide) hRl) (Nat.le_trans (Nat.le_of_ble_eq_true rfl) hRc) (Nat.le_trans (Nat.le_of_ble_eq_true rfl) hRs) (Nat.le_of_ble_eq_true rfl) dX9_isCourse_21 rfl) hS (fun H locs hM hS => ?_)
    refine lv_if_eq (tgt := 31) hx hb dX9_isCourse_24 (by decide) (fun h10 => ?_) (fun h10 => ?_)
    · have hf := g_t h10 hf
      refine lv_iconst (v := (0 : Int32)) hx hb dX9_isCourse_31 (by decide) ?_
      exact ge_z E hr rfl hlocks hf hM hS (Nat.le_of_ble_eq_true rfl) (Nat.le_of_ble_eq_true rfl) dX9_isCourse_32
    · have hf := g_f h10 hf
      refine lv_iconst (v := (1 : Int32)) hx hb dX9_isCourse_27 (by decide) ?_
      refine lv_goto (tgt := 32) hx hb dX9_isCourse_28 (by decide) ?_
      exact ge_z E hr rfl hlocks hf hM hS (Nat.le_of_ble_eq_true rfl) (Nat.le_of_ble_eq_true rfl) dX9_isCourse_32
theorem c_X9_isCourse (l : Launch) (X : gX) (c0 : Nat) (u1 : Int32) (u2 : Int32) (m0 : gMem) {res : Int32 × gMem} (hk0 : gk c0 = 9) (hf : f_X9_isCourse c0 u1 u2 m0 = some res) : Met l yX9_isCourse (gWs yX9_isCourse cX9_isCourse 3 (some .boolean)) { frames := 2, cells := 0, slots := 0, locals := 43 } (va_Pc [.ref (X.1 + c0), .int u1, .int u2] (gB X m0)) (gQi X res) 0 0 (gA X) :=
  gMet (own := RX9) (by decide +kernel) rfl (Nat.le_of_ble_eq_true rfl) (fun p e s m args below meth c ls E hr hlocks hml hM hl => b_X9_isCourse E hr hlocks hml (Nat.le_refl _) (Nat.le_refl _) (Nat.le_refl _) (Nat.le_refl _) hk0 hf hM va_S.rf hl)
def f_X9_tower (c0 : Nat) (m0 : gMem) : Option (Int32 × gMem) := if ¬ ((29 : Int32) < 0 ∨ gl (c0 + 1) ≤ (29 : Int32).toNatClampNeg) then gv ((m0 (c0 + 1) (29 : Int32).toNatClampNeg)) (fun x3 => if x3 = (6 : Int32) then (g1 (f_X9_refused c0 (1 : Int32) (6 : Int32) (1 : Int32) m0) (fun r17 m15 => some (r17, m15))) else (g1 (f_X9_looksBack c0 m0) (fun r7 m5 => gv (ms m5 (c0 + 1) (29 : Int32).toNatClampNeg ((m5 (c0 + 1) (29 : Int32).toNatClampNeg) + (1 : Int32))) (fun m8 => g1 (f_X9_done c0 x3 m8) (fun r11 m9 => g1 (f_X9_kept c0 r11 m9) (fun r14 m12 => some (r14, m12))))))) else none
set_option maxRecDepth 100000 in
set_option maxHeartbeats 4000000 in
theorem b_X9_tower {p : Program} {l : Launch} {e : Env} {R : Room} {s : State} {m : MethodId} {args : Array Value} {below : List Frame} {meth : Method} {c : Code} {H : Heap} {locs : List Loc} {ls : Array Slot} {X : gX} (E : gEn p s m args c cX9_tower RX9 X) (hr : meth.sig.returnType = (some .int)) (hlocks : meth.locks = false) (hml : c.maxLocals = 2) (hRf : 2 ≤ R.frames) (hRl : 46 ≤ R.locals) (hRc : 0 ≤ R.cells) (hRs : 0 ≤ R.slots) {c0 : Nat} {m0 : gMem} {res : Int32 × gMem} (hk0 : gk c0 = 9) (hf : f_X9_tower c0 m0 = some res) (hM : gM X m0 H) (hS : va_S (gA X) s.heap H locs) (hl : lv_has ls 2 [(0, .ref (X.1 + c0))]) : W p l e R s m args below meth c H locs 0 0 (MQ below (gQi X res) args s 0 0 (gA X)) (F0 m 0 ls []) := by
  obtain ⟨hx, hb⟩ := (⟨E.1, E.2.1⟩ : _ ∧ _)
  unfold f_X9_tower at hf
  refine lv_aload_n hx hb dX9_tower_0 rfl (lv_at hl 0 rfl) ?_
  refine GX9_7 E hM hk0 dX9_tower_1 ?_
  have hg1 : gk (c0 + 1) = 20 := gkf_9_0 hk0
  refine lv_bipush (v := (29 : Int32)) hx hb dX9_tower_4 (by decide) ?_
  obtain ⟨hi2, hf⟩ := g_ck hf
  refine gg_iald E hM (gk_in hg1 (by decide)) hg1 hi2 dX9_tower_6 ?_
  obtain ⟨x3, ex3, hf⟩ := gv_o hf
  rw [← ex3]
  refine lv_istore_n (lv' := [(1, .int x3), (0, .ref (X.1 + c0))]) hx hb dX9_tower_7 rfl hl (by decide) rfl (fun ls hl => ?_)
  refine lv_iload_n hx hb dX9_tower_8 rfl (lv_at hl 0 rfl) ?_
  refine lv_bipush (v := (6 : Int32)) hx hb dX9_tower_9 (by decide) ?_
  refine lv_icmp_ne (tgt := 23) hx hb dX9_tower_11 (by decide) (fun h4 => ?_) (fun h4 => ?_)
  · have hf := g_f h4 hf
    refine lv_aload_n hx hb dX9_tower_23 rfl (lv_at hl 1 rfl) ?_
    obtain ⟨r7, m5, hqq6, hf⟩ := g1_o hf
    refine ga_v (gr_V (As := []) (ci := 9) (rm := { frames := 1, cells := 0, slots := 0, locals := 24 }) E hml hl.1 (c_X9_looksBack l X c0 m0 hk0 hqq6) wt_X9_looksBack wl_RX9_61 rfl hk0 (by decide) rfl rfl hM hS rfl rfl (Nat.le_trans (by decide) hRf) (Nat.le_trans (by decide) hRl) (Nat.le_trans (Nat.le_of_ble_eq_true rfl) hRc) (Nat.le_trans (Nat.le_of_ble_eq_true rfl) hRs) (Nat.le_of_ble_eq_true rfl) dX9_tower_24 rfl) hS (fun H locs hM hS => ?_)
    refine lv_aload_n hx hb dX9_tower_27 rfl (lv_at hl 1 rfl) ?_
    refine GX9_7 E hM hk0 dX9_tower_28 ?_
    refine lv_bipush (v := (29 : Int32)) hx hb dX9_tower_31 (by decide) ?_
    refine lv_dup2_11 hx hb dX9_tower_33 rfl rfl ?_
    refine gg_iald E hM (gk_in hg1 (by decide)) hg1 hi2 dX9_tower_34 ?_
    refine lv_iconst (v := (1 : Int32)) hx hb dX9_tower_35 (by decide) ?_
    refine lv_iadd hx hb dX9_tower_36 ?_
    obtain ⟨m8, em8, hf⟩ := gv_o hf
    refine gg_iast E (fun c hc => gA_in X hc) hM hS (gk_in hg1 (by decide)) hg1 hi2 em8 dX9_tower_37 (fun H locs hM hS => ?_)
    refine lv_aload_n hx hb dX9_tower_38 rfl (lv_at hl 1 rfl) ?_
    refine lv_aload_n hx hb dX9_tower_39 rfl (lv_at hl 1 rfl) ?_
    refine lv_iload_n hx hb dX9_tower_40 rfl (lv_at hl 0 rfl) ?_
    obtain ⟨r11, m9, hqq10, hf⟩ := g1_o hf
    refine ga_i (gr_V (As := [.int x3]) (ci := 9) (rm := { frames := 0, cells := 0, slots := 0, locals := 0 }) E hml hl.1 (c_X9_done l X c0 x3 m8 hk0 hqq10) wt_X9_done wl_RX9_64 rfl hk0 (by decide) rfl rfl hM hS rfl rfl (Nat.le_trans (by decide) hRf) (Nat.le_trans (by decide) hRl) (Nat.le_trans (Nat.le_of_ble_eq_true rfl) hRc) (Nat.le_trans (Nat.le_of_ble_eq_true rfl) hRs) (Nat.le_of_ble_eq_true rfl) dX9_tower_41 rfl) hS (fun H locs hM hS => ?_)
    obtain ⟨r14, m12, hqq13, hf⟩ := g1_o hf
    refine ga_i (gr_V (As := [.int r11]) (ci := 9) (rm := { frames := 1, cells := 0, slots := 0, locals := 24 }) E hml hl.1 (c_X9_kept l X c0 r11 m9 hk0 hqq13) wt_X9_kept wl_RX9_67 rfl hk0 (by decide) rfl rfl hM hS rfl rfl (Nat.le_trans (by decide) hRf) (Nat.le_trans (by decide) hRl) (Nat.le_trans (Nat.le_of_ble_eq_true rfl) hRc) (Nat.le_trans (Nat.le_of_ble_eq_true rfl) hRs) (Nat.le_of_ble_eq_true rfl) dX9_tower_44 rfl) hS (fun H locs hM hS => ?_)
    exact ge_i E hr hlocks hf hM hS (Nat.le_of_ble_eq_true rfl) (Nat.le_of_ble_eq_true rfl) dX9_tower_47
  · have hf := g_t h4 hf
    refine lv_aload_n hx hb dX9_tower_14 rfl (lv_at hl 1 rfl) ?_
    refine lv_iconst (v := (1 : Int32)) hx hb dX9_tower_15 (by decide) ?_
    refine lv_bipush (v := (6 : Int32)) hx hb dX9_tower_16 (by decide) ?_
    refine lv_iconst (v := (1 : Int32)) hx hb dX9_tower_18 (by decide) ?_
    obtain ⟨r17, m15, hqq16, hf⟩ := g1_o hf
    refine ga_i (gr_V (As := [.int (1 : Int32), .int (6 : Int32), .int (1 : Int32)]) (ci := 9) (rm := { frames := 0, cells := 0, slots := 0, locals := 0 }) E hml hl.1 (c_X9_refused l X c0 (1 : Int32) (6 : Int32) (1 : Int32) m0 hk0 hqq16) wt_X9_refused wl_RX9_77 rfl hk0 (by decide) rfl rfl hM hS rfl rfl (Nat.le_trans (by decide) hRf) (Nat.le_trans (by decide) hRl) (Nat.le_trans (Nat.le_of_ble_eq_true rfl) hRc) (Nat.le_trans (Nat.le_of_ble_eq_true rfl) hRs) (Nat.le_of_ble_eq_true rfl) dX9_tower_19 rfl) hS (fun H locs hM hS => ?_)
    exact ge_i E hr hlocks hf hM hS (Nat.le_of_ble_eq_true rfl) (Nat.le_of_ble_eq_true rfl) dX9_tower_22
theorem c_X9_tower (l : Launch) (X : gX) (c0 : Nat) (m0 : gMem) {res : Int32 × gMem} (hk0 : gk c0 = 9) (hf : f_X9_tower c0 m0 = some res) : Met l yX9_tower (gWs yX9_tower cX9_tower 2 (some .int)) { frames := 2, cells := 0, slots := 0, locals := 46 } (va_Pc [.ref (X.1 + c0)] (gB X m0)) (gQi X res) 0 0 (gA X) :=
  gMet (own := RX9) (by decide +kernel) rfl (Nat.le_of_ble_eq_true rfl) (fun p e s m args below meth c ls E hr hlocks hml hM hl => b_X9_tower E hr hlocks hml (Nat.le_refl _) (Nat.le_refl _) (Nat.le_refl _) (Nat.le_refl _) hk0 hf hM va_S.rf hl)
def f_X9_cubesOf (c0 : Nat) (u1 : Int32) (u2 : Int32) (m0 : gMem) : Option (Int32 × gMem) := if ¬ ((((160 : Int32) + ((10 : Int32) * u1)) + u2) < 0 ∨ gl (c0 + 1) ≤ (((160 : Int32) + ((10 : Int32) * u1)) + u2).toNatClampNeg) then some ((m0 (c0 + 1) (((160 : Int32) + ((10 : Int32) * u1)) + u2).toNatClampNeg), m0) else none
set_option maxRecDepth 100000 in
set_option maxHeartbeats 4000000 in
theorem b_X9_cubesOf {p : Program} {l : Launch} {e : Env} {R : Room} {s : State} {m : MethodId} {args : Array Value} {below : List Frame} {meth : Method} {c : Code} {H : Heap} {locs : List Loc} {ls : Array Slot} {X : gX} (E : gEn p s m args c cX9_cubesOf RX9 X) (hr : meth.sig.returnType = (some .int)) (hlocks : meth.locks = false) (hml : c.maxLocals = 3) (hRf : 0 ≤ R.frames) (hRl : 0 ≤ R.locals) (hRc : 0 ≤ R.cells) (hRs : 0 ≤ R.slots) {c0 : Nat} {u1 : Int32} {u2 : Int32} {m0 : gMem} {res : Int32 × gMem} (hk0 : gk c0 = 9) (hf : f_X9_cubesOf c0 u1 u2 m0 = some res) (hM : gM X m0 H) (hS : va_S (gA X) s.heap H locs) (hl : lv_has ls 3 [(0, .ref (X.1 + c0)), (1, .int u1), (2, .int u2)]) : W p l e R s m args below meth c H locs 0 0 (MQ below (gQi X res) args s 0 0 (gA X)) (F0 m 0 ls []) := by
  obtain ⟨hx, hb⟩ := (⟨E.1, E.2.1⟩ : _ ∧ _)
  unfold f_X9_cubesOf at hf
  refine lv_aload_n hx hb dX9_cubesOf_0 rfl (lv_at hl 0 rfl) ?_
  refine GX9_7 E hM hk0 dX9_cubesOf_1 ?_
  have hg1 : gk (c0 + 1) = 20 := gkf_9_0 hk0
  refine lv_sipush (v := (160 : Int32)) hx hb dX9_cubesOf_4 (by decide) ?_
  refine lv_bipush (v := (10 : Int32)) hx hb dX9_cubesOf_7 (by decide) ?_
  refine lv_iload_n hx hb dX9_cubesOf_9 rfl (lv_at hl 1 rfl) ?_
  refine lv_imul hx hb dX9_cubesOf_10 ?_
  refine lv_iadd hx hb dX9_cubesOf_11 ?_
  refine lv_iload_n hx hb dX9_cubesOf_12 rfl (lv_at hl 2 rfl) ?_
  refine lv_iadd hx hb dX9_cubesOf_13 ?_
  obtain ⟨hi2, hf⟩ := g_ck hf
  refine gg_iald E hM (gk_in hg1 (by decide)) hg1 hi2 dX9_cubesOf_14 ?_
  exact ge_i E hr hlocks hf hM hS (Nat.le_of_ble_eq_true rfl) (Nat.le_of_ble_eq_true rfl) dX9_cubesOf_15
theorem c_X9_cubesOf (l : Launch) (X : gX) (c0 : Nat) (u1 : Int32) (u2 : Int32) (m0 : gMem) {res : Int32 × gMem} (hk0 : gk c0 = 9) (hf : f_X9_cubesOf c0 u1 u2 m0 = some res) : Met l yX9_cubesOf (gWs yX9_cubesOf cX9_cubesOf 3 (some .int)) { frames := 0, cells := 0, slots := 0, locals := 0 } (va_Pc [.ref (X.1 + c0), .int u1, .int u2] (gB X m0)) (gQi X res) 0 0 (gA X) :=
  gMet (own := RX9) (by decide +kernel) rfl (Nat.le_of_ble_eq_true rfl) (fun p e s m args below meth c ls E hr hlocks hml hM hl => b_X9_cubesOf E hr hlocks hml (Nat.le_refl _) (Nat.le_refl _) (Nat.le_refl _) (Nat.le_refl _) hk0 hf hM va_S.rf hl)
def f_X9_strength (u0 : Int32) (m0 : gMem) : Option (Int32 × gMem) := if u0 = (0 : Int32) then (some ((4 : Int32), m0)) else (if u0 = (1 : Int32) then (some ((8 : Int32), m0)) else (some ((15 : Int32), m0)))
set_option maxRecDepth 100000 in
set_option maxHeartbeats 4000000 in
theorem b_X9_strength {p : Program} {l : Launch} {e : Env} {R : Room} {s : State} {m : MethodId} {args : Array Value} {below : List Frame} {meth : Method} {c : Code} {H : Heap} {locs : List Loc} {ls : Array Slot} {X : gX} (E : gEn p s m args c cX9_strength RX9 X) (hr : meth.sig.returnType = (some .int)) (hlocks : meth.locks = false) (hml : c.maxLocals = 1) (hRf : 0 ≤ R.frames) (hRl : 0 ≤ R.locals) (hRc : 0 ≤ R.cells) (hRs : 0 ≤ R.slots) {u0 : Int32} {m0 : gMem} {res : Int32 × gMem}  (hf : f_X9_strength u0 m0 = some res) (hM : gM X m0 H) (hS : va_S (gA X) s.heap H locs) (hl : lv_has ls 1 [(0, .int u0)]) : W p l e R s m args below meth c H locs 0 0 (MQ below (gQi X res) args s 0 0 (gA X)) (F0 m 0 ls []) := by
  obtain ⟨hx, hb⟩ := (⟨E.1, E.2.1⟩ : _ ∧ _)
  unfold f_X9_strength at hf
  refine lv_iload_n hx hb dX9_strength_0 rfl (lv_at hl 0 rfl) ?_
  refine lv_if_ne (tgt := 8) hx hb dX9_strength_1 (by decide) (fun h1 => ?_) (fun h1 => ?_)
  · have hf := g_f h1 hf
    refine lv_iload_n hx hb dX9_strength_8 rfl (lv_at hl 0 rfl) ?_
    refine lv_iconst (v := (1 : Int32)) hx hb dX9_strength_9 (by decide) ?_
    refine lv_icmp_ne (tgt := 18) hx hb dX9_strength_10 (by decide) (fun h2 => ?_) (fun h2 => ?_)
    · have hf := g_f h2 hf
      refine lv_bipush (v := (15 : Int32)) hx hb dX9_strength_18 (by decide) ?_
      exact ge_i E hr hlocks hf hM hS (Nat.le_of_ble_eq_true rfl) (Nat.le_of_ble_eq_true rfl) dX9_strength_20
    · have hf := g_t h2 hf
      refine lv_bipush (v := (8 : Int32)) hx hb dX9_strength_13 (by decide) ?_
      refine lv_goto (tgt := 20) hx hb dX9_strength_15 (by decide) ?_
      exact ge_i E hr hlocks hf hM hS (Nat.le_of_ble_eq_true rfl) (Nat.le_of_ble_eq_true rfl) dX9_strength_20
  · have hf := g_t h1 hf
    refine lv_iconst (v := (4 : Int32)) hx hb dX9_strength_4 (by decide) ?_
    refine lv_goto (tgt := 20) hx hb dX9_strength_5 (by decide) ?_
    exact ge_i E hr hlocks hf hM hS (Nat.le_of_ble_eq_true rfl) (Nat.le_of_ble_eq_true rfl) dX9_strength_20
theorem c_X9_strength (l : Launch) (X : gX) (u0 : Int32) (m0 : gMem) {res : Int32 × gMem}  (hf : f_X9_strength u0 m0 = some res) : Met l yX9_strength (gWs yX9_strength cX9_strength 1 (some .int)) { frames := 0, cells := 0, slots := 0, locals := 0 } (va_Pc [.int u0] (gB X m0)) (gQi X res) 0 0 (gA X) :=
  gMet (own := RX9) (by decide +kernel) rfl (Nat.le_of_ble_eq_true rfl) (fun p e s m args below meth c ls E hr hlocks hml hM hl => b_X9_strength E hr hlocks hml (Nat.le_refl _) (Nat.le_refl _) (Nat.le_refl _) (Nat.le_refl _)  hf hM va_S.rf hl)
def f_X9_bearsAt (c0 : Nat) (u1 : Int32) (u2 : Int32) (u3 : Int32) (m0 : gMem) : Option (Int32 × gMem) := if ¬ ((((100 : Int32) + ((10 : Int32) * u1)) + u2) < 0 ∨ gl (c0 + 1) ≤ (((100 : Int32) + ((10 : Int32) * u1)) + u2).toNatClampNeg) then g1 (f_X9_strength (m0 (c0 + 1) (((100 : Int32) + ((10 : Int32) * u1)) + u2).toNatClampNeg) m0) (fun r5 m3 => gv ((r5 - (u3 / (10 : Int32)))) (fun x6 => if (0 : Int32) ≤ x6 then (g1 (f_X9_cubesOf c0 u1 u2 m3) (fun r10 m8 => some ((x6 * r10), m8))) else (some ((0 : Int32), m3)))) else none
set_option maxRecDepth 100000 in
set_option maxHeartbeats 4000000 in
theorem b_X9_bearsAt {p : Program} {l : Launch} {e : Env} {R : Room} {s : State} {m : MethodId} {args : Array Value} {below : List Frame} {meth : Method} {c : Code} {H : Heap} {locs : List Loc} {ls : Array Slot} {X : gX} (E : gEn p s m args c cX9_bearsAt RX9 X) (hr : meth.sig.returnType = (some .int)) (hlocks : meth.locks = false) (hml : c.maxLocals = 5) (hRf : 1 ≤ R.frames) (hRl : 22 ≤ R.locals) (hRc : 0 ≤ R.cells) (hRs : 0 ≤ R.slots) {c0 : Nat} {u1 : Int32} {u2 : Int32} {u3 : Int32} {m0 : gMem} {res : Int32 × gMem} (hk0 : gk c0 = 9) (hf : f_X9_bearsAt c0 u1 u2 u3 m0 = some res) (hM : gM X m0 H) (hS : va_S (gA X) s.heap H locs) (hl : lv_has ls 5 [(0, .ref (X.1 + c0)), (1, .int u1), (2, .int u2), (3, .int u3)]) : W p l e R s m args below meth c H locs 0 0 (MQ below (gQi X res) args s 0 0 (gA X)) (F0 m 0 ls []) := by
  obtain ⟨hx, hb⟩ := (⟨E.1, E.2.1⟩ : _ ∧ _)
  unfold f_X9_bearsAt at hf
  refine lv_aload_n hx hb dX9_bearsAt_0 rfl (lv_at hl 0 rfl) ?_
  refine GX9_7 E hM hk0 dX9_bearsAt_1 ?_
  have hg1 : gk (c0 + 1) = 20 := gkf_9_0 hk0
  refine lv_bipush (v := (100 : Int32)) hx hb dX9_bearsAt_4 (by decide) ?_
  refine lv_bipush (v := (10 : Int32)) hx hb dX9_bearsAt_6 (by decide) ?_
  refine lv_iload_n hx hb dX9_bearsAt_8 rfl (lv_at hl 1 rfl) ?_
  refine lv_imul hx hb dX9_bearsAt_9 ?_
  refine lv_iadd hx hb dX9_bearsAt_10 ?_
  refine lv_iload_n hx hb dX9_bearsAt_11 rfl (lv_at hl 2 rfl) ?_
  refine lv_iadd hx hb dX9_bearsAt_12 ?_
  obtain ⟨hi2, hf⟩ := g_ck hf
  refine gg_iald E hM (gk_in hg1 (by decide)) hg1 hi2 dX9_bearsAt_13 ?_
  obtain ⟨r5, m3, hqq4, hf⟩ := g1_o hf
  refine ga_i (gr_S (As := [.int (m0 (c0 + 1) (((100 : Int32) + ((10 : Int32) * u1)) + u2).toNatClampNeg)]) (rm := { frames := 0, cells := 0, slots := 0, locals := 0 }) E hml hl.1 (c_X9_strength l X (m0 (c0 + 1) (((100 : Int32) + ((10 : Int32) * u1)) + u2).toNatClampNeg) m0 hqq4) wt_X9_strength wl_RX9_91 rfl hM hS rfl rfl (Nat.le_trans (by decide) hRf) (Nat.le_trans (by decide) hRl) (Nat.le_trans (Nat.le_of_ble_eq_true rfl) hRc) (Nat.le_trans (Nat.le_of_ble_eq_true rfl) hRs) (Nat.le_of_ble_eq_true rfl) dX9_bearsAt_14 rfl) hS (fun H locs hM hS => ?_)
  refine lv_iload_n hx hb dX9_bearsAt_17 rfl (lv_at hl 3 rfl) ?_
  refine lv_bipush (v := (10 : Int32)) hx hb dX9_bearsAt_18 (by decide) ?_
  refine lv_idiv hx hb dX9_bearsAt_20 (by decide) ?_
  refine lv_isub hx hb dX9_bearsAt_21 ?_
  obtain ⟨x6, ex6, hf⟩ := gv_o hf
  rw [← ex6]
  refine lv_istore (lv' := [(4, .int x6), (0, .ref (X.1 + c0)), (1, .int u1), (2, .int u2), (3, .int u3)]) hx hb dX9_bearsAt_22 hl (by decide) rfl (fun ls hl => ?_)
  refine lv_iload hx hb dX9_bearsAt_24 (lv_at hl 0 rfl) ?_
  refine lv_if_ge (tgt := 33) hx hb dX9_bearsAt_26 (by decide) (fun h7 => ?_) (fun h7 => ?_)
  · have hf := g_t h7 hf
    refine lv_iload hx hb dX9_bearsAt_33 (lv_at hl 0 rfl) ?_
    refine lv_aload_n hx hb dX9_bearsAt_35 rfl (lv_at hl 1 rfl) ?_
    refine lv_iload_n hx hb dX9_bearsAt_36 rfl (lv_at hl 2 rfl) ?_
    refine lv_iload_n hx hb dX9_bearsAt_37 rfl (lv_at hl 3 rfl) ?_
    obtain ⟨r10, m8, hqq9, hf⟩ := g1_o hf
    refine ga_i (gr_V (As := [.int u1, .int u2]) (ci := 9) (rm := { frames := 0, cells := 0, slots := 0, locals := 0 }) E hml hl.1 (c_X9_cubesOf l X c0 u1 u2 m3 hk0 hqq9) wt_X9_cubesOf wl_RX9_94 rfl hk0 (by decide) rfl rfl hM hS rfl rfl (Nat.le_trans (by decide) hRf) (Nat.le_trans (by decide) hRl) (Nat.le_trans (Nat.le_of_ble_eq_true rfl) hRc) (Nat.le_trans (Nat.le_of_ble_eq_true rfl) hRs) (Nat.le_of_ble_eq_true rfl) dX9_bearsAt_38 rfl) hS (fun H locs hM hS => ?_)
    refine lv_imul hx hb dX9_bearsAt_41 ?_
    exact ge_i E hr hlocks hf hM hS (Nat.le_of_ble_eq_true rfl) (Nat.le_of_ble_eq_true rfl) dX9_bearsAt_42
  · have hf := g_f h7 hf
    refine lv_iconst (v := (0 : Int32)) hx hb dX9_bearsAt_29 (by decide) ?_
    refine lv_goto (tgt := 42) hx hb dX9_bearsAt_30 (by decide) ?_
    exact ge_i E hr hlocks hf hM hS (Nat.le_of_ble_eq_true rfl) (Nat.le_of_ble_eq_true rfl) dX9_bearsAt_42
theorem c_X9_bearsAt (l : Launch) (X : gX) (c0 : Nat) (u1 : Int32) (u2 : Int32) (u3 : Int32) (m0 : gMem) {res : Int32 × gMem} (hk0 : gk c0 = 9) (hf : f_X9_bearsAt c0 u1 u2 u3 m0 = some res) : Met l yX9_bearsAt (gWs yX9_bearsAt cX9_bearsAt 5 (some .int)) { frames := 1, cells := 0, slots := 0, locals := 22 } (va_Pc [.ref (X.1 + c0), .int u1, .int u2, .int u3] (gB X m0)) (gQi X res) 0 0 (gA X) :=
  gMet (own := RX9) (by decide +kernel) rfl (Nat.le_of_ble_eq_true rfl) (fun p e s m args below meth c ls E hr hlocks hml hM hl => b_X9_bearsAt E hr hlocks hml (Nat.le_refl _) (Nat.le_refl _) (Nat.le_refl _) (Nat.le_refl _) hk0 hf hM va_S.rf hl)
def L_X9_above_7 (c0 : Nat) (u1 : Int32) : Nat → Int32 → Int32 → gMem → Option (Int32 × gMem)
  | 0, _, _, _ => none
  | n + 1, y3, y4, m0 => if ¬ (((36 : Int32) + u1) < 0 ∨ gl (c0 + 1) ≤ ((36 : Int32) + u1).toNatClampNeg) then if (m0 (c0 + 1) ((36 : Int32) + u1).toNatClampNeg) ≤ y4 then (some (y3, m0)) else (g1 (f_X9_cubesOf c0 u1 y4 m0) (fun r7 m5 => gv ((y3 + r7)) (fun x8 => gv (y4 + (1 : Int32)) (fun x9 => L_X9_above_7 c0 u1 n x8 x9 m5)))) else none
def f_X9_above (c0 : Nat) (u1 : Int32) (u2 : Int32) (m0 : gMem) : Option (Int32 × gMem) := gv ((u2 + (1 : Int32))) (fun x1 => L_X9_above_7 c0 u1 gF (0 : Int32) x1 m0)
set_option maxRecDepth 100000 in
set_option maxHeartbeats 4000000 in
theorem l_X9_above_7 {p : Program} {l : Launch} {e : Env} {R : Room} {s : State} {m : MethodId} {args : Array Value} {below : List Frame} {meth : Method} {c : Code} {cells slots : Nat} {X : gX} (E : gEn p s m args c cX9_above RX9 X) (hr : meth.sig.returnType = (some .int)) (hlocks : meth.locks = false) (hml : c.maxLocals = 5) (hRf : 1 ≤ R.frames) (hRl : 22 ≤ R.locals) (hRc : 0 ≤ R.cells) (hRs : 0 ≤ R.slots) (hc : cells ≤ 0) (hs : slots ≤ 0) (c0 : Nat) (u1 : Int32) (hk0 : gk c0 = 9) {res : Int32 × gMem} :
    ∀ (n : Nat) (y3 : Int32) (y4 : Int32) (m0 : gMem) (H : Heap) (locs : List Loc) (ls : Array Slot), L_X9_above_7 c0 u1 n y3 y4 m0 = some res → gM X m0 H → va_S (gA X) s.heap H locs → lv_has ls 5 [(0, .ref (X.1 + c0)), (1, .int u1), (3, .int y3), (4, .int y4)] → W p l e R s m args below meth c H locs cells slots (MQ below (gQi X res) args s 0 0 (gA X)) (F0 m 7 ls []) := by
  obtain ⟨hx, hb⟩ := (⟨E.1, E.2.1⟩ : _ ∧ _)
  intro n
  induction n with
  | zero =>
    intro _ _ _ _ _ _ hf
    cases hf
  | succ n ih =>
    intro y3 y4 m0 H locs ls hf hM hS hl
    rw [L_X9_above_7] at hf
    refine lv_iload hx hb dX9_above_7 (lv_at hl 3 rfl) ?_
    refine lv_aload_n hx hb dX9_above_9 rfl (lv_at hl 0 rfl) ?_
    refine GX9_7 E hM hk0 dX9_above_10 ?_
    have hg2 : gk (c0 + 1) = 20 := gkf_9_0 hk0
    refine lv_bipush (v := (36 : Int32)) hx hb dX9_above_13 (by decide) ?_
    refine lv_iload_n hx hb dX9_above_15 rfl (lv_at hl 1 rfl) ?_
    refine lv_iadd hx hb dX9_above_16 ?_
    obtain ⟨hi3, hf⟩ := g_ck hf
    refine gg_iald E hM (gk_in hg2 (by decide)) hg2 hi3 dX9_above_17 ?_
    refine lv_icmp_ge (tgt := 37) hx hb dX9_above_18 (by decide) (fun h4 => ?_) (fun h4 => ?_)
    · have hf := g_t h4 hf
      refine lv_iload_n hx hb dX9_above_37 rfl (lv_at hl 2 rfl) ?_
      exact ge_i E hr hlocks hf hM hS hc hs dX9_above_38
    · have hf := g_f h4 hf
      refine lv_iload_n hx hb dX9_above_21 rfl (lv_at hl 2 rfl) ?_
      refine lv_aload_n hx hb dX9_above_22 rfl (lv_at hl 0 rfl) ?_
      refine lv_iload_n hx hb dX9_above_23 rfl (lv_at hl 1 rfl) ?_
      refine lv_iload hx hb dX9_above_24 (lv_at hl 3 rfl) ?_
      obtain ⟨r7, m5, hqq6, hf⟩ := g1_o hf
      refine ga_i (gr_V (As := [.int u1, .int y4]) (ci := 9) (rm := { frames := 0, cells := 0, slots := 0, locals := 0 }) E hml hl.1 (c_X9_cubesOf l X c0 u1 y4 m0 hk0 hqq6) wt_X9_cubesOf wl_RX9_94 rfl hk0 (by decide) rfl rfl hM hS rfl rfl (Nat.le_trans (by decide) hRf) (Nat.le_trans (by decide) hRl) (Nat.le_trans hc hRc) (Nat.le_trans hs hRs) (Nat.le_of_ble_eq_true rfl) dX9_above_26 rfl) hS (fun H locs hM hS => ?_)
      refine lv_iadd hx hb dX9_above_29 ?_
      obtain ⟨x8, ex8, hf⟩ := gv_o hf
      rw [← ex8]
      refine lv_istore_n (lv' := [(3, .int x8), (0, .ref (X.1 + c0)), (1, .int u1), (4, .int y4)]) hx hb dX9_above_30 rfl hl (by decide) rfl (fun ls hl => ?_)
      obtain ⟨x9, ex9, hf⟩ := gv_o hf
      refine lv_iinc (v := x9) (lv' := [(4, .int x9), (3, .int x8), (0, .ref (X.1 + c0)), (1, .int u1)]) hx hb dX9_above_31 hl (k := 3) rfl (by rw [ex9]; rfl) (by decide) rfl (fun ls hl => ?_)
      refine lv_goto (tgt := 7) hx hb dX9_above_34 (by decide) ?_
      exact ih x8 x9 m5 _ _ _ hf hM hS (lv_sub hl [2, 3, 1, 0] rfl)
set_option maxRecDepth 100000 in
set_option maxHeartbeats 4000000 in
theorem b_X9_above {p : Program} {l : Launch} {e : Env} {R : Room} {s : State} {m : MethodId} {args : Array Value} {below : List Frame} {meth : Method} {c : Code} {H : Heap} {locs : List Loc} {ls : Array Slot} {X : gX} (E : gEn p s m args c cX9_above RX9 X) (hr : meth.sig.returnType = (some .int)) (hlocks : meth.locks = false) (hml : c.maxLocals = 5) (hRf : 1 ≤ R.frames) (hRl : 22 ≤ R.locals) (hRc : 0 ≤ R.cells) (hRs : 0 ≤ R.slots) {c0 : Nat} {u1 : Int32} {u2 : Int32} {m0 : gMem} {res : Int32 × gMem} (hk0 : gk c0 = 9) (hf : f_X9_above c0 u1 u2 m0 = some res) (hM : gM X m0 H) (hS : va_S (gA X) s.heap H locs) (hl : lv_has ls 5 [(0, .ref (X.1 + c0)), (1, .int u1), (2, .int u2)]) : W p l e R s m args below meth c H locs 0 0 (MQ below (gQi X res) args s 0 0 (gA X)) (F0 m 0 ls []) := by
  obtain ⟨hx, hb⟩ := (⟨E.1, E.2.1⟩ : _ ∧ _)
  unfold f_X9_above at hf
  refine lv_iconst (v := (0 : Int32)) hx hb dX9_above_0 (by decide) ?_
  refine lv_istore_n (lv' := [(3, .int (0 : Int32)), (0, .ref (X.1 + c0)), (1, .int u1), (2, .int u2)]) hx hb dX9_above_1 rfl hl (by decide) rfl (fun ls hl => ?_)
  refine lv_iload_n hx hb dX9_above_2 rfl (lv_at hl 3 rfl) ?_
  refine lv_iconst (v := (1 : Int32)) hx hb dX9_above_3 (by decide) ?_
  refine lv_iadd hx hb dX9_above_4 ?_
  obtain ⟨x1, ex1, hf⟩ := gv_o hf
  rw [← ex1]
  refine lv_istore (lv' := [(4, .int x1), (3, .int (0 : Int32)), (0, .ref (X.1 + c0)), (1, .int u1), (2, .int u2)]) hx hb dX9_above_5 hl (by decide) rfl (fun ls hl => ?_)
  refine l_X9_above_7 E hr hlocks hml hRf hRl hRc hRs (Nat.le_of_ble_eq_true rfl) (Nat.le_of_ble_eq_true rfl) c0 u1 hk0 gF (0 : Int32) x1 m0 _ _ _ hf hM hS (lv_sub hl [2, 3, 1, 0] rfl)
theorem c_X9_above (l : Launch) (X : gX) (c0 : Nat) (u1 : Int32) (u2 : Int32) (m0 : gMem) {res : Int32 × gMem} (hk0 : gk c0 = 9) (hf : f_X9_above c0 u1 u2 m0 = some res) : Met l yX9_above (gWs yX9_above cX9_above 5 (some .int)) { frames := 1, cells := 0, slots := 0, locals := 22 } (va_Pc [.ref (X.1 + c0), .int u1, .int u2] (gB X m0)) (gQi X res) 0 0 (gA X) :=
  gMet (own := RX9) (by decide +kernel) rfl (Nat.le_of_ble_eq_true rfl) (fun p e s m args below meth c ls E hr hlocks hml hM hl => b_X9_above E hr hlocks hml (Nat.le_refl _) (Nat.le_refl _) (Nat.le_refl _) (Nat.le_refl _) hk0 hf hM va_S.rf hl)
def L_X9_weakAt_3 (c0 : Nat) (u1 : Int32) (u2 : Int32) (u3 : Int32) : Nat → Int32 → gMem → Option (Int32 × gMem)
  | 0, _, _ => none
  | n + 1, y4, m0 => if ¬ (((36 : Int32) + u1) < 0 ∨ gl (c0 + 1) ≤ ((36 : Int32) + u1).toNatClampNeg) then if (m0 (c0 + 1) ((36 : Int32) + u1).toNatClampNeg) ≤ y4 then (some ((-1 : Int32), m0)) else (g1 (f_X9_bearsAt c0 u1 y4 u2 m0) (fun r6 m4 => g1 (f_X9_above c0 u1 y4 m4) (fun r9 m7 => if (r9 + u3) ≤ r6 then (gv (y4 + (1 : Int32)) (fun x11 => L_X9_weakAt_3 c0 u1 u2 u3 n x11 m7)) else (some (y4, m7))))) else none
def f_X9_weakAt (c0 : Nat) (u1 : Int32) (u2 : Int32) (u3 : Int32) (m0 : gMem) : Option (Int32 × gMem) := L_X9_weakAt_3 c0 u1 u2 u3 gF (0 : Int32) m0
set_option maxRecDepth 100000 in
set_option maxHeartbeats 4000000 in
theorem l_X9_weakAt_3 {p : Program} {l : Launch} {e : Env} {R : Room} {s : State} {m : MethodId} {args : Array Value} {below : List Frame} {meth : Method} {c : Code} {cells slots : Nat} {X : gX} (E : gEn p s m args c cX9_weakAt RX9 X) (hr : meth.sig.returnType = (some .int)) (hlocks : meth.locks = false) (hml : c.maxLocals = 5) (hRf : 2 ≤ R.frames) (hRl : 46 ≤ R.locals) (hRc : 0 ≤ R.cells) (hRs : 0 ≤ R.slots) (hc : cells ≤ 0) (hs : slots ≤ 0) (c0 : Nat) (u1 : Int32) (u2 : Int32) (u3 : Int32) (hk0 : gk c0 = 9) {res : Int32 × gMem} :
    ∀ (n : Nat) (y4 : Int32) (m0 : gMem) (H : Heap) (locs : List Loc) (ls : Array Slot), L_X9_weakAt_3 c0 u1 u2 u3 n y4 m0 = some res → gM X m0 H → va_S (gA X) s.heap H locs → lv_has ls 5 [(0, .ref (X.1 + c0)), (1, .int u1), (2, .int u2), (3, .int u3), (4, .int y4)] → W p l e R s m args below meth c H locs cells slots (MQ below (gQi X res) args s 0 0 (gA X)) (F0 m 3 ls []) := by
  obtain ⟨hx, hb⟩ := (⟨E.1, E.2.1⟩ : _ ∧ _)
  intro n
  induction n with
  | zero =>
    intro _ _ _ _ _ hf
    cases hf
  | succ n ih =>
    intro y4 m0 H locs ls hf hM hS hl
    rw [L_X9_weakAt_3] at hf
    refine lv_iload hx hb dX9_weakAt_3 (lv_at hl 4 rfl) ?_
    refine lv_aload_n hx hb dX9_weakAt_5 rfl (lv_at hl 0 rfl) ?_
    refine GX9_7 E hM hk0 dX9_weakAt_6 ?_
    have hg1 : gk (c0 + 1) = 20 := gkf_9_0 hk0
    refine lv_bipush (v := (36 : Int32)) hx hb dX9_weakAt_9 (by decide) ?_
    refine lv_iload_n hx hb dX9_weakAt_11 rfl (lv_at hl 1 rfl) ?_
    refine lv_iadd hx hb dX9_weakAt_12 ?_
    obtain ⟨hi2, hf⟩ := g_ck hf
    refine gg_iald E hM (gk_in hg1 (by decide)) hg1 hi2 dX9_weakAt_13 ?_
    refine lv_icmp_ge (tgt := 46) hx hb dX9_weakAt_14 (by decide) (fun h3 => ?_) (fun h3 => ?_)
    · have hf := g_t h3 hf
      refine lv_iconst (v := (-1 : Int32)) hx hb dX9_weakAt_46 (by decide) ?_
      exact ge_i E hr hlocks hf hM hS hc hs dX9_weakAt_47
    · have hf := g_f h3 hf
      refine lv_aload_n hx hb dX9_weakAt_17 rfl (lv_at hl 0 rfl) ?_
      refine lv_iload_n hx hb dX9_weakAt_18 rfl (lv_at hl 1 rfl) ?_
      refine lv_iload hx hb dX9_weakAt_19 (lv_at hl 4 rfl) ?_
      refine lv_iload_n hx hb dX9_weakAt_21 rfl (lv_at hl 2 rfl) ?_
      obtain ⟨r6, m4, hqq5, hf⟩ := g1_o hf
      refine ga_i (gr_V (As := [.int u1, .int y4, .int u2]) (ci := 9) (rm := { frames := 1, cells := 0, slots := 0, locals := 22 }) E hml hl.1 (c_X9_bearsAt l X c0 u1 y4 u2 m0 hk0 hqq5) wt_X9_bearsAt wl_RX9_97 rfl hk0 (by decide) rfl rfl hM hS rfl rfl (Nat.le_trans (by decide) hRf) (Nat.le_trans (by decide) hRl) (Nat.le_trans hc hRc) (Nat.le_trans hs hRs) (Nat.le_of_ble_eq_true rfl) dX9_weakAt_22 rfl) hS (fun H locs hM hS => ?_)
      refine lv_aload_n hx hb dX9_weakAt_25 rfl (lv_at hl 0 rfl) ?_
      refine lv_iload_n hx hb dX9_weakAt_26 rfl (lv_at hl 1 rfl) ?_
      refine lv_iload hx hb dX9_weakAt_27 (lv_at hl 4 rfl) ?_
      obtain ⟨r9, m7, hqq8, hf⟩ := g1_o hf
      refine ga_i (gr_V (As := [.int u1, .int y4]) (ci := 9) (rm := { frames := 1, cells := 0, slots := 0, locals := 22 }) E hml hl.1 (c_X9_above l X c0 u1 y4 m4 hk0 hqq8) wt_X9_above wl_RX9_100 rfl hk0 (by decide) rfl rfl hM hS rfl rfl (Nat.le_trans (by decide) hRf) (Nat.le_trans (by decide) hRl) (Nat.le_trans hc hRc) (Nat.le_trans hs hRs) (Nat.le_of_ble_eq_true rfl) dX9_weakAt_29 rfl) hS (fun H locs hM hS => ?_)
      refine lv_iload_n hx hb dX9_weakAt_32 rfl (lv_at hl 3 rfl) ?_
      refine lv_iadd hx hb dX9_weakAt_33 ?_
      refine lv_icmp_ge (tgt := 40) hx hb dX9_weakAt_34 (by decide) (fun h10 => ?_) (fun h10 => ?_)
      · have hf := g_t h10 hf
        obtain ⟨x11, ex11, hf⟩ := gv_o hf
        refine lv_iinc (v := x11) (lv' := [(4, .int x11), (0, .ref (X.1 + c0)), (1, .int u1), (2, .int u2), (3, .int u3)]) hx hb dX9_weakAt_40 hl (k := 4) rfl (by rw [ex11]; rfl) (by decide) rfl (fun ls hl => ?_)
        refine lv_goto (tgt := 3) hx hb dX9_weakAt_43 (by decide) ?_
        exact ih x11 m7 _ _ _ hf hM hS (lv_sub hl [1, 2, 3, 4, 0] rfl)
      · have hf := g_f h10 hf
        refine lv_iload hx hb dX9_weakAt_37 (lv_at hl 4 rfl) ?_
        exact ge_i E hr hlocks hf hM hS hc hs dX9_weakAt_39
set_option maxRecDepth 100000 in
set_option maxHeartbeats 4000000 in
theorem b_X9_weakAt {p : Program} {l : Launch} {e : Env} {R : Room} {s : State} {m : MethodId} {args : Array Value} {below : List Frame} {meth : Method} {c : Code} {H : Heap} {locs : List Loc} {ls : Array Slot} {X : gX} (E : gEn p s m args c cX9_weakAt RX9 X) (hr : meth.sig.returnType = (some .int)) (hlocks : meth.locks = false) (hml : c.maxLocals = 5) (hRf : 2 ≤ R.frames) (hRl : 46 ≤ R.locals) (hRc : 0 ≤ R.cells) (hRs : 0 ≤ R.slots) {c0 : Nat} {u1 : Int32} {u2 : Int32} {u3 : Int32} {m0 : gMem} {res : Int32 × gMem} (hk0 : gk c0 = 9) (hf : f_X9_weakAt c0 u1 u2 u3 m0 = some res) (hM : gM X m0 H) (hS : va_S (gA X) s.heap H locs) (hl : lv_has ls 5 [(0, .ref (X.1 + c0)), (1, .int u1), (2, .int u2), (3, .int u3)]) : W p l e R s m args below meth c H locs 0 0 (MQ below (gQi X res) args s 0 0 (gA X)) (F0 m 0 ls []) := by
  obtain ⟨hx, hb⟩ := (⟨E.1, E.2.1⟩ : _ ∧ _)
  unfold f_X9_weakAt at hf
  refine lv_iconst (v := (0 : Int32)) hx hb dX9_weakAt_0 (by decide) ?_
  refine lv_istore (lv' := [(4, .int (0 : Int32)), (0, .ref (X.1 + c0)), (1, .int u1), (2, .int u2), (3, .int u3)]) hx hb dX9_weakAt_1 hl (by decide) rfl (fun ls hl => ?_)
  refine l_X9_weakAt_3 E hr hlocks hml hRf hRl hRc hRs (Nat.le_of_ble_eq_true rfl) (Nat.le_of_ble_eq_true rfl) c0 u1 u2 u3 hk0 gF (0 : Int32) m0 _ _ _ hf hM hS (lv_sub hl [1, 2, 3, 4, 0] rfl)
theorem c_X9_weakAt (l : Launch) (X : gX) (c0 : Nat) (u1 : Int32) (u2 : Int32) (u3 : Int32) (m0 : gMem) {res : Int32 × gMem} (hk0 : gk c0 = 9) (hf : f_X9_weakAt c0 u1 u2 u3 m0 = some res) : Met l yX9_weakAt (gWs yX9_weakAt cX9_weakAt 5 (some .int)) { frames := 2, cells := 0, slots := 0, locals := 46 } (va_Pc [.ref (X.1 + c0), .int u1, .int u2, .int u3] (gB X m0)) (gQi X res) 0 0 (gA X) :=
  gMet (own := RX9) (by decide +kernel) rfl (Nat.le_of_ble_eq_true rfl) (fun p e s m args below meth c ls E hr hlocks hml hM hl => b_X9_weakAt E hr hlocks hml (Nat.le_refl _) (Nat.le_refl _) (Nat.le_refl _) (Nat.le_refl _) hk0 hf hM va_S.rf hl)
def f_X9_hinder (c0 : Nat) (u1 : Int32) (u2 : Int32) (m0 : gMem) : Option (Unit × gMem) := gv (ms m0 c0 13 u1) (fun m1 => gv (ms m1 c0 14 u2) (fun m2 => some ((), m2)))
set_option maxRecDepth 100000 in
set_option maxHeartbeats 4000000 in
theorem b_X9_hinder {p : Program} {l : Launch} {e : Env} {R : Room} {s : State} {m : MethodId} {args : Array Value} {below : List Frame} {meth : Method} {c : Code} {H : Heap} {locs : List Loc} {ls : Array Slot} {X : gX} (E : gEn p s m args c cX9_hinder RX9 X) (hr : meth.sig.returnType = none) (hlocks : meth.locks = false) (hml : c.maxLocals = 3) (hRf : 0 ≤ R.frames) (hRl : 0 ≤ R.locals) (hRc : 0 ≤ R.cells) (hRs : 0 ≤ R.slots) {c0 : Nat} {u1 : Int32} {u2 : Int32} {m0 : gMem} {res : Unit × gMem} (hk0 : gk c0 = 9) (hf : f_X9_hinder c0 u1 u2 m0 = some res) (hM : gM X m0 H) (hS : va_S (gA X) s.heap H locs) (hl : lv_has ls 3 [(0, .ref (X.1 + c0)), (1, .int u1), (2, .int u2)]) : W p l e R s m args below meth c H locs 0 0 (MQ below (gQv X res) args s 0 0 (gA X)) (F0 m 0 ls []) := by
  obtain ⟨hx, hb⟩ := (⟨E.1, E.2.1⟩ : _ ∧ _)
  unfold f_X9_hinder at hf
  refine lv_aload_n hx hb dX9_hinder_0 rfl (lv_at hl 0 rfl) ?_
  refine lv_iload_n hx hb dX9_hinder_1 rfl (lv_at hl 1 rfl) ?_
  obtain ⟨m1, em1, hf⟩ := gv_o hf
  refine PX9_103 E hM hS hk0 em1 dX9_hinder_2 (fun H locs hM hS => ?_)
  refine lv_aload_n hx hb dX9_hinder_5 rfl (lv_at hl 0 rfl) ?_
  refine lv_iload_n hx hb dX9_hinder_6 rfl (lv_at hl 2 rfl) ?_
  obtain ⟨m2, em2, hf⟩ := gv_o hf
  refine PX9_106 E hM hS hk0 em2 dX9_hinder_7 (fun H locs hM hS => ?_)
  exact ge_v E hr hlocks hf hM hS (Nat.le_of_ble_eq_true rfl) (Nat.le_of_ble_eq_true rfl) dX9_hinder_10
theorem c_X9_hinder (l : Launch) (X : gX) (c0 : Nat) (u1 : Int32) (u2 : Int32) (m0 : gMem) {res : Unit × gMem} (hk0 : gk c0 = 9) (hf : f_X9_hinder c0 u1 u2 m0 = some res) : Met l yX9_hinder (gWs yX9_hinder cX9_hinder 3 none) { frames := 0, cells := 0, slots := 0, locals := 0 } (va_Pc [.ref (X.1 + c0), .int u1, .int u2] (gB X m0)) (gQv X res) 0 0 (gA X) :=
  gMet (own := RX9) (by decide +kernel) rfl (Nat.le_of_ble_eq_true rfl) (fun p e s m args below meth c ls E hr hlocks hml hM hl => b_X9_hinder E hr hlocks hml (Nat.le_refl _) (Nat.le_refl _) (Nat.le_refl _) (Nat.le_refl _) hk0 hf hM va_S.rf hl)
def f_X9_looks (c0 : Nat) (u1 : Int32) (u2 : Int32) (u3 : Int32) (u4 : Int32) (m0 : gMem) : Option (Unit × gMem) := if ¬ (((36 : Int32) + u1) < 0 ∨ gl (c0 + 1) ≤ ((36 : Int32) + u1).toNatClampNeg) then gv ((m0 (c0 + 1) ((36 : Int32) + u1).toNatClampNeg)) (fun x3 => if x3 = (0 : Int32) then (if ¬ (((30 : Int32) + u1) < 0 ∨ gl (c0 + 1) ≤ ((30 : Int32) + u1).toNatClampNeg) then g1 (f_X9_weakAt c0 u1 (m0 (c0 + 1) ((30 : Int32) + u1).toNatClampNeg) u4 m0) (fun r45 m43 => if x3 = (10 : Int32) then (g1 (f_X9_hinder c0 (1 : Int32) (10 : Int32) m43) (fun r75 m73 => some ((), m73))) else (if ¬ (((53 : Int32) + u2) < 0 ∨ gl (c0 + 1) ≤ ((53 : Int32) + u2).toNatClampNeg) then if (m43 (c0 + 1) ((53 : Int32) + u2).toNatClampNeg) ≤ (0 : Int32) then (if ¬ (((49 : Int32) + u2) < 0 ∨ gl (c0 + 1) ≤ ((49 : Int32) + u2).toNatClampNeg) then if x3 < (m43 (c0 + 1) ((49 : Int32) + u2).toNatClampNeg) then (if ¬ (((26 : Int32) + u3) < 0 ∨ gl (c0 + 1) ≤ ((26 : Int32) + u3).toNatClampNeg) then if u4 ≤ (m43 (c0 + 1) ((26 : Int32) + u3).toNatClampNeg) then (if u4 ≤ (20 : Int32) then (if r45 = (-1 : Int32) then (g1 (f_X9_hinder c0 (0 : Int32) (0 : Int32) m43) (fun r57 m55 => some ((), m55))) else (g1 (f_X9_hinder c0 (8 : Int32) r45 m43) (fun r60 m58 => some ((), m58)))) else (g1 (f_X9_hinder c0 (7 : Int32) (20 : Int32) m43) (fun r63 m61 => some ((), m61)))) else (g1 (f_X9_hinder c0 (6 : Int32) (m43 (c0 + 1) ((26 : Int32) + u3).toNatClampNeg) m43) (fun r66 m64 => some ((), m64))) else none) else (g1 (f_X9_hinder c0 (5 : Int32) (m43 (c0 + 1) ((49 : Int32) + u2).toNatClampNeg) m43) (fun r69 m67 => some ((), m67))) else none) else (g1 (f_X9_hinder c0 (4 : Int32) (m43 (c0 + 1) ((53 : Int32) + u2).toNatClampNeg) m43) (fun r72 m70 => some ((), m70))) else none)) else none) else (g1 (f_X9_cubesOf c0 u1 (x3 - (1 : Int32)) m0) (fun r7 m5 => if ¬ (((30 : Int32) + u1) < 0 ∨ gl (c0 + 1) ≤ ((30 : Int32) + u1).toNatClampNeg) then g1 (f_X9_weakAt c0 u1 (m5 (c0 + 1) ((30 : Int32) + u1).toNatClampNeg) u4 m5) (fun r11 m9 => if x3 = (10 : Int32) then (g1 (f_X9_hinder c0 (1 : Int32) (10 : Int32) m9) (fun r41 m39 => some ((), m39))) else (if ¬ (((53 : Int32) + u2) < 0 ∨ gl (c0 + 1) ≤ ((53 : Int32) + u2).toNatClampNeg) then if (m9 (c0 + 1) ((53 : Int32) + u2).toNatClampNeg) ≤ (0 : Int32) then (if ¬ (((49 : Int32) + u2) < 0 ∨ gl (c0 + 1) ≤ ((49 : Int32) + u2).toNatClampNeg) then if x3 < (m9 (c0 + 1) ((49 : Int32) + u2).toNatClampNeg) then (if ¬ (((26 : Int32) + u3) < 0 ∨ gl (c0 + 1) ≤ ((26 : Int32) + u3).toNatClampNeg) then if u4 ≤ (m9 (c0 + 1) ((26 : Int32) + u3).toNatClampNeg) then (if u4 ≤ r7 then (if r11 = (-1 : Int32) then (g1 (f_X9_hinder c0 (0 : Int32) (0 : Int32) m9) (fun r23 m21 => some ((), m21))) else (g1 (f_X9_hinder c0 (8 : Int32) r11 m9) (fun r26 m24 => some ((), m24)))) else (g1 (f_X9_hinder c0 (7 : Int32) r7 m9) (fun r29 m27 => some ((), m27)))) else (g1 (f_X9_hinder c0 (6 : Int32) (m9 (c0 + 1) ((26 : Int32) + u3).toNatClampNeg) m9) (fun r32 m30 => some ((), m30))) else none) else (g1 (f_X9_hinder c0 (5 : Int32) (m9 (c0 + 1) ((49 : Int32) + u2).toNatClampNeg) m9) (fun r35 m33 => some ((), m33))) else none) else (g1 (f_X9_hinder c0 (4 : Int32) (m9 (c0 + 1) ((53 : Int32) + u2).toNatClampNeg) m9) (fun r38 m36 => some ((), m36))) else none)) else none))) else none
set_option maxRecDepth 100000 in
set_option maxHeartbeats 4000000 in
theorem b_X9_looks {p : Program} {l : Launch} {e : Env} {R : Room} {s : State} {m : MethodId} {args : Array Value} {below : List Frame} {meth : Method} {c : Code} {H : Heap} {locs : List Loc} {ls : Array Slot} {X : gX} (E : gEn p s m args c cX9_looks RX9 X) (hr : meth.sig.returnType = none) (hlocks : meth.locks = false) (hml : c.maxLocals = 8) (hRf : 3 ≤ R.frames) (hRl : 70 ≤ R.locals) (hRc : 0 ≤ R.cells) (hRs : 0 ≤ R.slots) {c0 : Nat} {u1 : Int32} {u2 : Int32} {u3 : Int32} {u4 : Int32} {m0 : gMem} {res : Unit × gMem} (hk0 : gk c0 = 9) (hf : f_X9_looks c0 u1 u2 u3 u4 m0 = some res) (hM : gM X m0 H) (hS : va_S (gA X) s.heap H locs) (hl : lv_has ls 8 [(0, .ref (X.1 + c0)), (1, .int u1), (2, .int u2), (3, .int u3), (4, .int u4)]) : W p l e R s m args below meth c H locs 0 0 (MQ below (gQv X res) args s 0 0 (gA X)) (F0 m 0 ls []) := by
  obtain ⟨hx, hb⟩ := (⟨E.1, E.2.1⟩ : _ ∧ _)
  unfold f_X9_looks at hf
  refine lv_aload_n hx hb dX9_looks_0 rfl (lv_at hl 0 rfl) ?_
  refine GX9_7 E hM hk0 dX9_looks_1 ?_
  have hg1 : gk (c0 + 1) = 20 := gkf_9_0 hk0
  refine lv_bipush (v := (36 : Int32)) hx hb dX9_looks_4 (by decide) ?_
  refine lv_iload_n hx hb dX9_looks_6 rfl (lv_at hl 1 rfl) ?_
  refine lv_iadd hx hb dX9_looks_7 ?_
  obtain ⟨hi2, hf⟩ := g_ck hf
  refine gg_iald E hM (gk_in hg1 (by decide)) hg1 hi2 dX9_looks_8 ?_
  obtain ⟨x3, ex3, hf⟩ := gv_o hf
  rw [← ex3]
  refine lv_istore (lv' := [(5, .int x3), (0, .ref (X.1 + c0)), (1, .int u1), (2, .int u2), (3, .int u3), (4, .int u4)]) hx hb dX9_looks_9 hl (by decide) rfl (fun ls hl => ?_)
  refine lv_iload hx hb dX9_looks_11 (lv_at hl 0 rfl) ?_
  refine lv_if_ne (tgt := 21) hx hb dX9_looks_13 (by decide) (fun h4 => ?_) (fun h4 => ?_)
  · have hf := g_f h4 hf
    refine lv_aload_n hx hb dX9_looks_21 rfl (lv_at hl 1 rfl) ?_
    refine lv_iload_n hx hb dX9_looks_22 rfl (lv_at hl 2 rfl) ?_
    refine lv_iload hx hb dX9_looks_23 (lv_at hl 0 rfl) ?_
    refine lv_iconst (v := (1 : Int32)) hx hb dX9_looks_25 (by decide) ?_
    refine lv_isub hx hb dX9_looks_26 ?_
    obtain ⟨r7, m5, hqq6, hf⟩ := g1_o hf
    refine ga_i (gr_V (As := [.int u1, .int (x3 - (1 : Int32))]) (ci := 9) (rm := { frames := 0, cells := 0, slots := 0, locals := 0 }) E hml hl.1 (c_X9_cubesOf l X c0 u1 (x3 - (1 : Int32)) m0 hk0 hqq6) wt_X9_cubesOf wl_RX9_94 rfl hk0 (by decide) rfl rfl hM hS rfl rfl (Nat.le_trans (by decide) hRf) (Nat.le_trans (by decide) hRl) (Nat.le_trans (Nat.le_of_ble_eq_true rfl) hRc) (Nat.le_trans (Nat.le_of_ble_eq_true rfl) hRs) (Nat.le_of_ble_eq_true rfl) dX9_looks_27 rfl) hS (fun H locs hM hS => ?_)
    refine lv_istore (lv' := [(6, .int r7), (5, .int x3), (0, .ref (X.1 + c0)), (1, .int u1), (2, .int u2), (3, .int u3), (4, .int u4)]) hx hb dX9_looks_30 hl (by decide) rfl (fun ls hl => ?_)
    refine lv_aload_n hx hb dX9_looks_32 rfl (lv_at hl 2 rfl) ?_
    refine lv_iload_n hx hb dX9_looks_33 rfl (lv_at hl 3 rfl) ?_
    refine lv_aload_n hx hb dX9_looks_34 rfl (lv_at hl 2 rfl) ?_
    refine GX9_7 E hM hk0 dX9_looks_35 ?_
    refine lv_bipush (v := (30 : Int32)) hx hb dX9_looks_38 (by decide) ?_
    refine lv_iload_n hx hb dX9_looks_40 rfl (lv_at hl 3 rfl) ?_
    refine lv_iadd hx hb dX9_looks_41 ?_
    obtain ⟨hi8, hf⟩ := g_ck hf
    refine gg_iald E hM (gk_in hg1 (by decide)) hg1 hi8 dX9_looks_42 ?_
    refine lv_iload hx hb dX9_looks_43 (lv_at hl 6 rfl) ?_
    obtain ⟨r11, m9, hqq10, hf⟩ := g1_o hf
    refine ga_i (gr_V (As := [.int u1, .int (m5 (c0 + 1) ((30 : Int32) + u1).toNatClampNeg), .int u4]) (ci := 9) (rm := { frames := 2, cells := 0, slots := 0, locals := 46 }) E hml hl.1 (c_X9_weakAt l X c0 u1 (m5 (c0 + 1) ((30 : Int32) + u1).toNatClampNeg) u4 m5 hk0 hqq10) wt_X9_weakAt wl_RX9_109 rfl hk0 (by decide) rfl rfl hM hS rfl rfl (Nat.le_trans (by decide) hRf) (Nat.le_trans (by decide) hRl) (Nat.le_trans (Nat.le_of_ble_eq_true rfl) hRc) (Nat.le_trans (Nat.le_of_ble_eq_true rfl) hRs) (Nat.le_of_ble_eq_true rfl) dX9_looks_45 rfl) hS (fun H locs hM hS => ?_)
    refine lv_istore (lv' := [(7, .int r11), (6, .int r7), (5, .int x3), (0, .ref (X.1 + c0)), (1, .int u1), (2, .int u2), (3, .int u3), (4, .int u4)]) hx hb dX9_looks_48 hl (by decide) rfl (fun ls hl => ?_)
    refine lv_iload hx hb dX9_looks_50 (lv_at hl 2 rfl) ?_
    refine lv_bipush (v := (10 : Int32)) hx hb dX9_looks_52 (by decide) ?_
    refine lv_icmp_ne (tgt := 67) hx hb dX9_looks_54 (by decide) (fun h12 => ?_) (fun h12 => ?_)
    · have hf := g_f h12 hf
      refine lv_aload_n hx hb dX9_looks_67 rfl (lv_at hl 3 rfl) ?_
      refine GX9_7 E hM hk0 dX9_looks_68 ?_
      refine lv_bipush (v := (53 : Int32)) hx hb dX9_looks_71 (by decide) ?_
      refine lv_iload_n hx hb dX9_looks_73 rfl (lv_at hl 5 rfl) ?_
      refine lv_iadd hx hb dX9_looks_74 ?_
      obtain ⟨hi13, hf⟩ := g_ck hf
      refine gg_iald E hM (gk_in hg1 (by decide)) hg1 hi13 dX9_looks_75 ?_
      refine lv_if_le (tgt := 96) hx hb dX9_looks_76 (by decide) (fun h14 => ?_) (fun h14 => ?_)
      · have hf := g_t h14 hf
        refine lv_iload hx hb dX9_looks_96 (lv_at hl 2 rfl) ?_
        refine lv_aload_n hx hb dX9_looks_98 rfl (lv_at hl 3 rfl) ?_
        refine GX9_7 E hM hk0 dX9_looks_99 ?_
        refine lv_bipush (v := (49 : Int32)) hx hb dX9_looks_102 (by decide) ?_
        refine lv_iload_n hx hb dX9_looks_104 rfl (lv_at hl 5 rfl) ?_
        refine lv_iadd hx hb dX9_looks_105 ?_
        obtain ⟨hi15, hf⟩ := g_ck hf
        refine gg_iald E hM (gk_in hg1 (by decide)) hg1 hi15 dX9_looks_106 ?_
        refine lv_icmp_lt (tgt := 127) hx hb dX9_looks_107 (by decide) (fun h16 => ?_) (fun h16 => ?_)
        · have hf := g_t h16 hf
          refine lv_aload_n hx hb dX9_looks_127 rfl (lv_at hl 3 rfl) ?_
          refine GX9_7 E hM hk0 dX9_looks_128 ?_
          refine lv_bipush (v := (26 : Int32)) hx hb dX9_looks_131 (by decide) ?_
          refine lv_iload_n hx hb dX9_looks_133 rfl (lv_at hl 6 rfl) ?_
          refine lv_iadd hx hb dX9_looks_134 ?_
          obtain ⟨hi17, hf⟩ := g_ck hf
          refine gg_iald E hM (gk_in hg1 (by decide)) hg1 hi17 dX9_looks_135 ?_
          refine lv_iload hx hb dX9_looks_136 (lv_at hl 7 rfl) ?_
          refine lv_icmp_ge (tgt := 159) hx hb dX9_looks_138 (by decide) (fun h18 => ?_) (fun h18 => ?_)
          · have hf := g_t h18 hf
            refine lv_iload hx hb dX9_looks_159 (lv_at hl 7 rfl) ?_
            refine lv_iload hx hb dX9_looks_161 (lv_at hl 1 rfl) ?_
            refine lv_icmp_le (tgt := 177) hx hb dX9_looks_163 (by decide) (fun h19 => ?_) (fun h19 => ?_)
            · have hf := g_t h19 hf
              refine lv_iload hx hb dX9_looks_177 (lv_at hl 0 rfl) ?_
              refine lv_iconst (v := (-1 : Int32)) hx hb dX9_looks_179 (by decide) ?_
              refine lv_icmp_eq (tgt := 194) hx hb dX9_looks_180 (by decide) (fun h20 => ?_) (fun h20 => ?_)
              · have hf := g_t h20 hf
                refine lv_aload_n hx hb dX9_looks_194 rfl (lv_at hl 3 rfl) ?_
                refine lv_iconst (v := (0 : Int32)) hx hb dX9_looks_195 (by decide) ?_
                refine lv_iconst (v := (0 : Int32)) hx hb dX9_looks_196 (by decide) ?_
                obtain ⟨r23, m21, hqq22, hf⟩ := g1_o hf
                refine ga_v (gr_V (As := [.int (0 : Int32), .int (0 : Int32)]) (ci := 9) (rm := { frames := 0, cells := 0, slots := 0, locals := 0 }) E hml hl.1 (c_X9_hinder l X c0 (0 : Int32) (0 : Int32) m9 hk0 hqq22) wt_X9_hinder wl_RX9_112 rfl hk0 (by decide) rfl rfl hM hS rfl rfl (Nat.le_trans (by decide) hRf) (Nat.le_trans (by decide) hRl) (Nat.le_trans (Nat.le_of_ble_eq_true rfl) hRc) (Nat.le_trans (Nat.le_of_ble_eq_true rfl) hRs) (Nat.le_of_ble_eq_true rfl) dX9_looks_197 rfl) hS (fun H locs hM hS => ?_)
                exact ge_v E hr hlocks hf hM hS (Nat.le_of_ble_eq_true rfl) (Nat.le_of_ble_eq_true rfl) dX9_looks_200
              · have hf := g_f h20 hf
                refine lv_aload_n hx hb dX9_looks_183 rfl (lv_at hl 3 rfl) ?_
                refine lv_bipush (v := (8 : Int32)) hx hb dX9_looks_184 (by decide) ?_
                refine lv_iload hx hb dX9_looks_186 (lv_at hl 0 rfl) ?_
                obtain ⟨r26, m24, hqq25, hf⟩ := g1_o hf
                refine ga_v (gr_V (As := [.int (8 : Int32), .int r11]) (ci := 9) (rm := { frames := 0, cells := 0, slots := 0, locals := 0 }) E hml hl.1 (c_X9_hinder l X c0 (8 : Int32) r11 m9 hk0 hqq25) wt_X9_hinder wl_RX9_112 rfl hk0 (by decide) rfl rfl hM hS rfl rfl (Nat.le_trans (by decide) hRf) (Nat.le_trans (by decide) hRl) (Nat.le_trans (Nat.le_of_ble_eq_true rfl) hRc) (Nat.le_trans (Nat.le_of_ble_eq_true rfl) hRs) (Nat.le_of_ble_eq_true rfl) dX9_looks_188 rfl) hS (fun H locs hM hS => ?_)
                refine lv_goto (tgt := 200) hx hb dX9_looks_191 (by decide) ?_
                exact ge_v E hr hlocks hf hM hS (Nat.le_of_ble_eq_true rfl) (Nat.le_of_ble_eq_true rfl) dX9_looks_200
            · have hf := g_f h19 hf
              refine lv_aload_n hx hb dX9_looks_166 rfl (lv_at hl 3 rfl) ?_
              refine lv_bipush (v := (7 : Int32)) hx hb dX9_looks_167 (by decide) ?_
              refine lv_iload hx hb dX9_looks_169 (lv_at hl 1 rfl) ?_
              obtain ⟨r29, m27, hqq28, hf⟩ := g1_o hf
              refine ga_v (gr_V (As := [.int (7 : Int32), .int r7]) (ci := 9) (rm := { frames := 0, cells := 0, slots := 0, locals := 0 }) E hml hl.1 (c_X9_hinder l X c0 (7 : Int32) r7 m9 hk0 hqq28) wt_X9_hinder wl_RX9_112 rfl hk0 (by decide) rfl rfl hM hS rfl rfl (Nat.le_trans (by decide) hRf) (Nat.le_trans (by decide) hRl) (Nat.le_trans (Nat.le_of_ble_eq_true rfl) hRc) (Nat.le_trans (Nat.le_of_ble_eq_true rfl) hRs) (Nat.le_of_ble_eq_true rfl) dX9_looks_171 rfl) hS (fun H locs hM hS => ?_)
              refine lv_goto (tgt := 200) hx hb dX9_looks_174 (by decide) ?_
              exact ge_v E hr hlocks hf hM hS (Nat.le_of_ble_eq_true rfl) (Nat.le_of_ble_eq_true rfl) dX9_looks_200
          · have hf := g_f h18 hf
            refine lv_aload_n hx hb dX9_looks_141 rfl (lv_at hl 3 rfl) ?_
            refine lv_bipush (v := (6 : Int32)) hx hb dX9_looks_142 (by decide) ?_
            refine lv_aload_n hx hb dX9_looks_144 rfl (lv_at hl 3 rfl) ?_
            refine GX9_7 E hM hk0 dX9_looks_145 ?_
            refine lv_bipush (v := (26 : Int32)) hx hb dX9_looks_148 (by decide) ?_
            refine lv_iload_n hx hb dX9_looks_150 rfl (lv_at hl 6 rfl) ?_
            refine lv_iadd hx hb dX9_looks_151 ?_
            refine gg_iald E hM (gk_in hg1 (by decide)) hg1 hi17 dX9_looks_152 ?_
            obtain ⟨r32, m30, hqq31, hf⟩ := g1_o hf
            refine ga_v (gr_V (As := [.int (6 : Int32), .int (m9 (c0 + 1) ((26 : Int32) + u3).toNatClampNeg)]) (ci := 9) (rm := { frames := 0, cells := 0, slots := 0, locals := 0 }) E hml hl.1 (c_X9_hinder l X c0 (6 : Int32) (m9 (c0 + 1) ((26 : Int32) + u3).toNatClampNeg) m9 hk0 hqq31) wt_X9_hinder wl_RX9_112 rfl hk0 (by decide) rfl rfl hM hS rfl rfl (Nat.le_trans (by decide) hRf) (Nat.le_trans (by decide) hRl) (Nat.le_trans (Nat.le_of_ble_eq_true rfl) hRc) (Nat.le_trans (Nat.le_of_ble_eq_true rfl) hRs) (Nat.le_of_ble_eq_true rfl) dX9_looks_153 rfl) hS (fun H locs hM hS => ?_)
            refine lv_goto (tgt := 200) hx hb dX9_looks_156 (by decide) ?_
            exact ge_v E hr hlocks hf hM hS (Nat.le_of_ble_eq_true rfl) (Nat.le_of_ble_eq_true rfl) dX9_looks_200
        · have hf := g_f h16 hf
          refine lv_aload_n hx hb dX9_looks_110 rfl (lv_at hl 3 rfl) ?_
          refine lv_iconst (v := (5 : Int32)) hx hb dX9_looks_111 (by decide) ?_
          refine lv_aload_n hx hb dX9_looks_112 rfl (lv_at hl 3 rfl) ?_
          refine GX9_7 E hM hk0 dX9_looks_113 ?_
          refine lv_bipush (v := (49 : Int32)) hx hb dX9_looks_116 (by decide) ?_
          refine lv_iload_n hx hb dX9_looks_118 rfl (lv_at hl 5 rfl) ?_
          refine lv_iadd hx hb dX9_looks_119 ?_
          refine gg_iald E hM (gk_in hg1 (by decide)) hg1 hi15 dX9_looks_120 ?_
          obtain ⟨r35, m33, hqq34, hf⟩ := g1_o hf
          refine ga_v (gr_V (As := [.int (5 : Int32), .int (m9 (c0 + 1) ((49 : Int32) + u2).toNatClampNeg)]) (ci := 9) (rm := { frames := 0, cells := 0, slots := 0, locals := 0 }) E hml hl.1 (c_X9_hinder l X c0 (5 : Int32) (m9 (c0 + 1) ((49 : Int32) + u2).toNatClampNeg) m9 hk0 hqq34) wt_X9_hinder wl_RX9_112 rfl hk0 (by decide) rfl rfl hM hS rfl rfl (Nat.le_trans (by decide) hRf) (Nat.le_trans (by decide) hRl) (Nat.le_trans (Nat.le_of_ble_eq_true rfl) hRc) (Nat.le_trans (Nat.le_of_ble_eq_true rfl) hRs) (Nat.le_of_ble_eq_true rfl) dX9_looks_121 rfl) hS (fun H locs hM hS => ?_)
          refine lv_goto (tgt := 200) hx hb dX9_looks_124 (by decide) ?_
          exact ge_v E hr hlocks hf hM hS (Nat.le_of_ble_eq_true rfl) (Nat.le_of_ble_eq_true rfl) dX9_looks_200
      · have hf := g_f h14 hf
        refine lv_aload_n hx hb dX9_looks_79 rfl (lv_at hl 3 rfl) ?_
        refine lv_iconst (v := (4 : Int32)) hx hb dX9_looks_80 (by decide) ?_
        refine lv_aload_n hx hb dX9_looks_81 rfl (lv_at hl 3 rfl) ?_
        refine GX9_7 E hM hk0 dX9_looks_82 ?_
        refine lv_bipush (v := (53 : Int32)) hx hb dX9_looks_85 (by decide) ?_
        refine lv_iload_n hx hb dX9_looks_87 rfl (lv_at hl 5 rfl) ?_
        refine lv_iadd hx hb dX9_looks_88 ?_
        refine gg_iald E hM (gk_in hg1 (by decide)) hg1 hi13 dX9_looks_89 ?_
        obtain ⟨r38, m36, hqq37, hf⟩ := g1_o hf
        refine ga_v (gr_V (As := [.int (4 : Int32), .int (m9 (c0 + 1) ((53 : Int32) + u2).toNatClampNeg)]) (ci := 9) (rm := { frames := 0, cells := 0, slots := 0, locals := 0 }) E hml hl.1 (c_X9_hinder l X c0 (4 : Int32) (m9 (c0 + 1) ((53 : Int32) + u2).toNatClampNeg) m9 hk0 hqq37) wt_X9_hinder wl_RX9_112 rfl hk0 (by decide) rfl rfl hM hS rfl rfl (Nat.le_trans (by decide) hRf) (Nat.le_trans (by decide) hRl) (Nat.le_trans (Nat.le_of_ble_eq_true rfl) hRc) (Nat.le_trans (Nat.le_of_ble_eq_true rfl) hRs) (Nat.le_of_ble_eq_true rfl) dX9_looks_90 rfl) hS (fun H locs hM hS => ?_)
        refine lv_goto (tgt := 200) hx hb dX9_looks_93 (by decide) ?_
        exact ge_v E hr hlocks hf hM hS (Nat.le_of_ble_eq_true rfl) (Nat.le_of_ble_eq_true rfl) dX9_looks_200
    · have hf := g_t h12 hf
      refine lv_aload_n hx hb dX9_looks_57 rfl (lv_at hl 3 rfl) ?_
      refine lv_iconst (v := (1 : Int32)) hx hb dX9_looks_58 (by decide) ?_
      refine lv_bipush (v := (10 : Int32)) hx hb dX9_looks_59 (by decide) ?_
      obtain ⟨r41, m39, hqq40, hf⟩ := g1_o hf
      refine ga_v (gr_V (As := [.int (1 : Int32), .int (10 : Int32)]) (ci := 9) (rm := { frames := 0, cells := 0, slots := 0, locals := 0 }) E hml hl.1 (c_X9_hinder l X c0 (1 : Int32) (10 : Int32) m9 hk0 hqq40) wt_X9_hinder wl_RX9_112 rfl hk0 (by decide) rfl rfl hM hS rfl rfl (Nat.le_trans (by decide) hRf) (Nat.le_trans (by decide) hRl) (Nat.le_trans (Nat.le_of_ble_eq_true rfl) hRc) (Nat.le_trans (Nat.le_of_ble_eq_true rfl) hRs) (Nat.le_of_ble_eq_true rfl) dX9_looks_61 rfl) hS (fun H locs hM hS => ?_)
      refine lv_goto (tgt := 200) hx hb dX9_looks_64 (by decide) ?_
      exact ge_v E hr hlocks hf hM hS (Nat.le_of_ble_eq_true rfl) (Nat.le_of_ble_eq_true rfl) dX9_looks_200
  · have hf := g_t h4 hf
    refine lv_bipush (v := (20 : Int32)) hx hb dX9_looks_16 (by decide) ?_
    refine lv_goto (tgt := 30) hx hb dX9_looks_18 (by decide) ?_
    refine lv_istore (lv' := [(6, .int (20 : Int32)), (5, .int x3), (0, .ref (X.1 + c0)), (1, .int u1), (2, .int u2), (3, .int u3), (4, .int u4)]) hx hb dX9_looks_30 hl (by decide) rfl (fun ls hl => ?_)
    refine lv_aload_n hx hb dX9_looks_32 rfl (lv_at hl 2 rfl) ?_
    refine lv_iload_n hx hb dX9_looks_33 rfl (lv_at hl 3 rfl) ?_
    refine lv_aload_n hx hb dX9_looks_34 rfl (lv_at hl 2 rfl) ?_
    refine GX9_7 E hM hk0 dX9_looks_35 ?_
    refine lv_bipush (v := (30 : Int32)) hx hb dX9_looks_38 (by decide) ?_
    refine lv_iload_n hx hb dX9_looks_40 rfl (lv_at hl 3 rfl) ?_
    refine lv_iadd hx hb dX9_looks_41 ?_
    obtain ⟨hi42, hf⟩ := g_ck hf
    refine gg_iald E hM (gk_in hg1 (by decide)) hg1 hi42 dX9_looks_42 ?_
    refine lv_iload hx hb dX9_looks_43 (lv_at hl 6 rfl) ?_
    obtain ⟨r45, m43, hqq44, hf⟩ := g1_o hf
    refine ga_i (gr_V (As := [.int u1, .int (m0 (c0 + 1) ((30 : Int32) + u1).toNatClampNeg), .int u4]) (ci := 9) (rm := { frames := 2, cells := 0, slots := 0, locals := 46 }) E hml hl.1 (c_X9_weakAt l X c0 u1 (m0 (c0 + 1) ((30 : Int32) + u1).toNatClampNeg) u4 m0 hk0 hqq44) wt_X9_weakAt wl_RX9_109 rfl hk0 (by decide) rfl rfl hM hS rfl rfl (Nat.le_trans (by decide) hRf) (Nat.le_trans (by decide) hRl) (Nat.le_trans (Nat.le_of_ble_eq_true rfl) hRc) (Nat.le_trans (Nat.le_of_ble_eq_true rfl) hRs) (Nat.le_of_ble_eq_true rfl) dX9_looks_45 rfl) hS (fun H locs hM hS => ?_)
    refine lv_istore (lv' := [(7, .int r45), (6, .int (20 : Int32)), (5, .int x3), (0, .ref (X.1 + c0)), (1, .int u1), (2, .int u2), (3, .int u3), (4, .int u4)]) hx hb dX9_looks_48 hl (by decide) rfl (fun ls hl => ?_)
    refine lv_iload hx hb dX9_looks_50 (lv_at hl 2 rfl) ?_
    refine lv_bipush (v := (10 : Int32)) hx hb dX9_looks_52 (by decide) ?_
    refine lv_icmp_ne (tgt := 67) hx hb dX9_looks_54 (by decide) (fun h46 => ?_) (fun h46 => ?_)
    · have hf := g_f h46 hf
      refine lv_aload_n hx hb dX9_looks_67 rfl (lv_at hl 3 rfl) ?_
      refine GX9_7 E hM hk0 dX9_looks_68 ?_
      refine lv_bipush (v := (53 : Int32)) hx hb dX9_looks_71 (by decide) ?_
      refine lv_iload_n hx hb dX9_looks_73 rfl (lv_at hl 5 rfl) ?_
      refine lv_iadd hx hb dX9_looks_74 ?_
      obtain ⟨hi47, hf⟩ := g_ck hf
      refine gg_iald E hM (gk_in hg1 (by decide)) hg1 hi47 dX9_looks_75 ?_
      refine lv_if_le (tgt := 96) hx hb dX9_looks_76 (by decide) (fun h48 => ?_) (fun h48 => ?_)
      · have hf := g_t h48 hf
        refine lv_iload hx hb dX9_looks_96 (lv_at hl 2 rfl) ?_
        refine lv_aload_n hx hb dX9_looks_98 rfl (lv_at hl 3 rfl) ?_
        refine GX9_7 E hM hk0 dX9_looks_99 ?_
        refine lv_bipush (v := (49 : Int32)) hx hb dX9_looks_102 (by decide) ?_
        refine lv_iload_n hx hb dX9_looks_104 rfl (lv_at hl 5 rfl) ?_
        refine lv_iadd hx hb dX9_looks_105 ?_
        obtain ⟨hi49, hf⟩ := g_ck hf
        refine gg_iald E hM (gk_in hg1 (by decide)) hg1 hi49 dX9_looks_106 ?_
        refine lv_icmp_lt (tgt := 127) hx hb dX9_looks_107 (by decide) (fun h50 => ?_) (fun h50 => ?_)
        · have hf := g_t h50 hf
          refine lv_aload_n hx hb dX9_looks_127 rfl (lv_at hl 3 rfl) ?_
          refine GX9_7 E hM hk0 dX9_looks_128 ?_
          refine lv_bipush (v := (26 : Int32)) hx hb dX9_looks_131 (by decide) ?_
          refine lv_iload_n hx hb dX9_looks_133 rfl (lv_at hl 6 rfl) ?_
          refine lv_iadd hx hb dX9_looks_134 ?_
          obtain ⟨hi51, hf⟩ := g_ck hf
          refine gg_iald E hM (gk_in hg1 (by decide)) hg1 hi51 dX9_looks_135 ?_
          refine lv_iload hx hb dX9_looks_136 (lv_at hl 7 rfl) ?_
          refine lv_icmp_ge (tgt := 159) hx hb dX9_looks_138 (by decide) (fun h52 => ?_) (fun h52 => ?_)
          · have hf := g_t h52 hf
            refine lv_iload hx hb dX9_looks_159 (lv_at hl 7 rfl) ?_
            refine lv_iload hx hb dX9_looks_161 (lv_at hl 1 rfl) ?_
            refine lv_icmp_le (tgt := 177) hx hb dX9_looks_163 (by decide) (fun h53 => ?_) (fun h53 => ?_)
            · have hf := g_t h53 hf
              refine lv_iload hx hb dX9_looks_177 (lv_at hl 0 rfl) ?_
              refine lv_iconst (v := (-1 : Int32)) hx hb dX9_looks_179 (by decide) ?_
              refine lv_icmp_eq (tgt := 194) hx hb dX9_looks_180 (by decide) (fun h54 => ?_) (fun h54 => ?_)
              · have hf := g_t h54 hf
                refine lv_aload_n hx hb dX9_looks_194 rfl (lv_at hl 3 rfl) ?_
                refine lv_iconst (v := (0 : Int32)) hx hb dX9_looks_195 (by decide) ?_
                refine lv_iconst (v := (0 : Int32)) hx hb dX9_looks_196 (by decide) ?_
                obtain ⟨r57, m55, hqq56, hf⟩ := g1_o hf
                refine ga_v (gr_V (As := [.int (0 : Int32), .int (0 : Int32)]) (ci := 9) (rm := { frames := 0, cells := 0, slots := 0, locals := 0 }) E hml hl.1 (c_X9_hinder l X c0 (0 : Int32) (0 : Int32) m43 hk0 hqq56) wt_X9_hinder wl_RX9_112 rfl hk0 (by decide) rfl rfl hM hS rfl rfl (Nat.le_trans (by decide) hRf) (Nat.le_trans (by decide) hRl) (Nat.le_trans (Nat.le_of_ble_eq_true rfl) hRc) (Nat.le_trans (Nat.le_of_ble_eq_true rfl) hRs) (Nat.le_of_ble_eq_true rfl) dX9_looks_197 rfl) hS (fun H locs hM hS => ?_)
                exact ge_v E hr hlocks hf hM hS (Nat.le_of_ble_eq_true rfl) (Nat.le_of_ble_eq_true rfl) dX9_looks_200
              · have hf := g_f h54 hf
                refine lv_aload_n hx hb dX9_looks_183 rfl (lv_at hl 3 rfl) ?_
                refine lv_bipush (v := (8 : Int32)) hx hb dX9_looks_184 (by decide) ?_
                refine lv_iload hx hb dX9_looks_186 (lv_at hl 0 rfl) ?_
                obtain ⟨r60, m58, hqq59, hf⟩ := g1_o hf
                refine ga_v (gr_V (As := [.int (8 : Int32), .int r45]) (ci := 9) (rm := { frames := 0, cells := 0, slots := 0, locals := 0 }) E hml hl.1 (c_X9_hinder l X c0 (8 : Int32) r45 m43 hk0 hqq59) wt_X9_hinder wl_RX9_112 rfl hk0 (by decide) rfl rfl hM hS rfl rfl (Nat.le_trans (by decide) hRf) (Nat.le_trans (by decide) hRl) (Nat.le_trans (Nat.le_of_ble_eq_true rfl) hRc) (Nat.le_trans (Nat.le_of_ble_eq_true rfl) hRs) (Nat.le_of_ble_eq_true rfl) dX9_looks_188 rfl) hS (fun H locs hM hS => ?_)
                refine lv_goto (tgt := 200) hx hb dX9_looks_191 (by decide) ?_
                exact ge_v E hr hlocks hf hM hS (Nat.le_of_ble_eq_true rfl) (Nat.le_of_ble_eq_true rfl) dX9_looks_200
            · have hf := g_f h53 hf
              refine lv_aload_n hx hb dX9_looks_166 rfl (lv_at hl 3 rfl) ?_
              refine lv_bipush (v := (7 : Int32)) hx hb dX9_looks_167 (by decide) ?_
              refine lv_iload hx hb dX9_looks_169 (lv_at hl 1 rfl) ?_
              obtain ⟨r63, m61, hqq62, hf⟩ := g1_o hf
              refine ga_v (gr_V (As := [.int (7 : Int32), .int (20 : Int32)]) (ci := 9) (rm := { frames := 0, cells := 0, slots := 0, locals := 0 }) E hml hl.1 (c_X9_hinder l X c0 (7 : Int32) (20 : Int32) m43 hk0 hqq62) wt_X9_hinder wl_RX9_112 rfl hk0 (by decide) rfl rfl hM hS rfl rfl (Nat.le_trans (by decide) hRf) (Nat.le_trans (by decide) hRl) (Nat.le_trans (Nat.le_of_ble_eq_true rfl) hRc) (Nat.le_trans (Nat.le_of_ble_eq_true rfl) hRs) (Nat.le_of_ble_eq_true rfl) dX9_looks_171 rfl) hS (fun H locs hM hS => ?_)
              refine lv_goto (tgt := 200) hx hb dX9_looks_174 (by decide) ?_
              exact ge_v E hr hlocks hf hM hS (Nat.le_of_ble_eq_true rfl) (Nat.le_of_ble_eq_true rfl) dX9_looks_200
          · have hf := g_f h52 hf
            refine lv_aload_n hx hb dX9_looks_141 rfl (lv_at hl 3 rfl) ?_
            refine lv_bipush (v := (6 : Int32)) hx hb dX9_looks_142 (by decide) ?_
            refine lv_aload_n hx hb dX9_looks_144 rfl (lv_at hl 3 rfl) ?_
            refine GX9_7 E hM hk0 dX9_looks_145 ?_
            refine lv_bipush (v := (26 : Int32)) hx hb dX9_looks_148 (by decide) ?_
            refine lv_iload_n hx hb dX9_looks_150 rfl (lv_at hl 6 rfl) ?_
            refine lv_iadd hx hb dX9_looks_151 ?_
            refine gg_iald E hM (gk_in hg1 (by decide)) hg1 hi51 dX9_looks_152 ?_
            obtain ⟨r66, m64, hqq65, hf⟩ := g1_o hf
            refine ga_v (gr_V (As := [.int (6 : Int32), .int (m43 (c0 + 1) ((26 : Int32) + u3).toNatClampNeg)]) (ci := 9) (rm := { frames := 0, cells := 0, slots := 0, locals := 0 }) E hml hl.1 (c_X9_hinder l X c0 (6 : Int32) (m43 (c0 + 1) ((26 : Int32) + u3).toNatClampNeg) m43 hk0 hqq65) wt_X9_hinder wl_RX9_112 rfl hk0 (by decide) rfl rfl hM hS rfl rfl (Nat.le_trans (by decide) hRf) (Nat.le_trans (by decide) hRl) (Nat.le_trans (Nat.le_of_ble_eq_true rfl) hRc) (Nat.le_trans (Nat.le_of_ble_eq_true rfl) hRs) (Nat.le_of_ble_eq_true rfl) dX9_looks_153 rfl) hS (fun H locs hM hS => ?_)
            refine lv_goto (tgt := 200) hx hb dX9_looks_156 (by decide) ?_
            exact ge_v E hr hlocks hf hM hS (Nat.le_of_ble_eq_true rfl) (Nat.le_of_ble_eq_true rfl) dX9_looks_200
        · have hf := g_f h50 hf
          refine lv_aload_n hx hb dX9_looks_110 rfl (lv_at hl 3 rfl) ?_
          refine lv_iconst (v := (5 : Int32)) hx hb dX9_looks_111 (by decide) ?_
          refine lv_aload_n hx hb dX9_looks_112 rfl (lv_at hl 3 rfl) ?_
          refine GX9_7 E hM hk0 dX9_looks_113 ?_
          refine lv_bipush (v := (49 : Int32)) hx hb dX9_looks_116 (by decide) ?_
          refine lv_iload_n hx hb dX9_looks_118 rfl (lv_at hl 5 rfl) ?_
          refine lv_iadd hx hb dX9_looks_119 ?_
          refine gg_iald E hM (gk_in hg1 (by decide)) hg1 hi49 dX9_looks_120 ?_
          obtain ⟨r69, m67, hqq68, hf⟩ := g1_o hf
          refine ga_v (gr_V (As := [.int (5 : Int32), .int (m43 (c0 + 1) ((49 : Int32) + u2).toNatClampNeg)]) (ci := 9) (rm := { frames := 0, cells := 0, slots := 0, locals := 0 }) E hml hl.1 (c_X9_hinder l X c0 (5 : Int32) (m43 (c0 + 1) ((49 : Int32) + u2).toNatClampNeg) m43 hk0 hqq68) wt_X9_hinder wl_RX9_112 rfl hk0 (by decide) rfl rfl hM hS rfl rfl (Nat.le_trans (by decide) hRf) (Nat.le_trans (by decide) hRl) (Nat.le_trans (Nat.le_of_ble_eq_true rfl) hRc) (Nat.le_trans (Nat.le_of_ble_eq_true rfl) hRs) (Nat.le_of_ble_eq_true rfl) dX9_looks_121 rfl) hS (fun H locs hM hS => ?_)
          refine lv_goto (tgt := 200) hx hb dX9_looks_124 (by decide) ?_
          exact ge_v E hr hlocks hf hM hS (Nat.le_of_ble_eq_true rfl) (Nat.le_of_ble_eq_true rfl) dX9_looks_200
      · have hf := g_f h48 hf
        refine lv_aload_n hx hb dX9_looks_79 rfl (lv_at hl 3 rfl) ?_
        refine lv_iconst (v := (4 : Int32)) hx hb dX9_looks_80 (by decide) ?_
        refine lv_aload_n hx hb dX9_looks_81 rfl (lv_at hl 3 rfl) ?_
        refine GX9_7 E hM hk0 dX9_looks_82 ?_
        refine lv_bipush (v := (53 : Int32)) hx hb dX9_looks_85 (by decide) ?_
        refine lv_iload_n hx hb dX9_looks_87 rfl (lv_at hl 5 rfl) ?_
        refine lv_iadd hx hb dX9_looks_88 ?_
        refine gg_iald E hM (gk_in hg1 (by decide)) hg1 hi47 dX9_looks_89 ?_
        obtain ⟨r72, m70, hqq71, hf⟩ := g1_o hf
        refine ga_v (gr_V (As := [.int (4 : Int32), .int (m43 (c0 + 1) ((53 : Int32) + u2).toNatClampNeg)]) (ci := 9) (rm := { frames := 0, cells := 0, slots := 0, locals := 0 }) E hml hl.1 (c_X9_hinder l X c0 (4 : Int32) (m43 (c0 + 1) ((53 : Int32) + u2).toNatClampNeg) m43 hk0 hqq71) wt_X9_hinder wl_RX9_112 rfl hk0 (by decide) rfl rfl hM hS rfl rfl (Nat.le_trans (by decide) hRf) (Nat.le_trans (by decide) hRl) (Nat.le_trans (Nat.le_of_ble_eq_true rfl) hRc) (Nat.le_trans (Nat.le_of_ble_eq_true rfl) hRs) (Nat.le_of_ble_eq_true rfl) dX9_looks_90 rfl) hS (fun H locs hM hS => ?_)
        refine lv_goto (tgt := 200) hx hb dX9_looks_93 (by decide) ?_
        exact ge_v E hr hlocks hf hM hS (Nat.le_of_ble_eq_true rfl) (Nat.le_of_ble_eq_true rfl) dX9_looks_200
    · have hf := g_t h46 hf
      refine lv_aload_n hx hb dX9_looks_57 rfl (lv_at hl 3 rfl) ?_
      refine lv_iconst (v := (1 : Int32)) hx hb dX9_looks_58 (by decide) ?_
      refine lv_bipush (v := (10 : Int32)) hx hb dX9_looks_59 (by decide) ?_
      obtain ⟨r75, m73, hqq74, hf⟩ := g1_o hf
      refine ga_v (gr_V (As := [.int (1 : Int32), .int (10 : Int32)]) (ci := 9) (rm := { frames := 0, cells := 0, slots := 0, locals := 0 }) E hml hl.1 (c_X9_hinder l X c0 (1 : Int32) (10 : Int32) m43 hk0 hqq74) wt_X9_hinder wl_RX9_112 rfl hk0 (by decide) rfl rfl hM hS rfl rfl (Nat.le_trans (by decide) hRf) (Nat.le_trans (by decide) hRl) (Nat.le_trans (Nat.le_of_ble_eq_true rfl) hRc) (Nat.le_trans (Nat.le_of_ble_eq_true rfl) hRs) (Nat.le_of_ble_eq_true rfl) dX9_looks_61 rfl) hS (fun H locs hM hS => ?_)
      refine lv_goto (tgt := 200) hx hb dX9_looks_64 (by decide) ?_
      exact ge_v E hr hlocks hf hM hS (Nat.le_of_ble_eq_true rfl) (Nat.le_of_ble_eq_true rfl) dX9_looks_200
theorem c_X9_looks (l : Launch) (X : gX) (c0 : Nat) (u1 : Int32) (u2 : Int32) (u3 : Int32) (u4 : Int32) (m0 : gMem) {res : Unit × gMem} (hk0 : gk c0 = 9) (hf : f_X9_looks c0 u1 u2 u3 u4 m0 = some res) : Met l yX9_looks (gWs yX9_looks cX9_looks 8 none) { frames := 3, cells := 0, slots := 0, locals := 70 } (va_Pc [.ref (X.1 + c0), .int u1, .int u2, .int u3, .int u4] (gB X m0)) (gQv X res) 0 0 (gA X) :=
  gMet (own := RX9) (by decide +kernel) rfl (Nat.le_of_ble_eq_true rfl) (fun p e s m args below meth c ls E hr hlocks hml hM hl => b_X9_looks E hr hlocks hml (Nat.le_refl _) (Nat.le_refl _) (Nat.le_refl _) (Nat.le_refl _) hk0 hf hM va_S.rf hl)
def f_X9_lays (c0 : Nat) (u1 : Int32) (u2 : Int32) (u3 : Int32) (u4 : Int32) (m0 : gMem) : Option (Int32 × gMem) := g1 (f_X9_isTower c0 u1 m0) (fun r3 m1 => if r3 = (0 : Int32) then (g1 (f_X9_fails c0 (1 : Int32) m1) (fun r7 m5 => some (r7, m5))) else (g1 (f_X9_isTongs c0 u2 m1) (fun r10 m8 => if r10 = (0 : Int32) then (g1 (f_X9_fails c0 (1 : Int32) m8) (fun r52 m50 => some (r52, m50))) else (g1 (f_X9_isGrade u3 m8) (fun r14 m12 => if r14 = (0 : Int32) then (g1 (f_X9_fails c0 (2 : Int32) m12) (fun r18 m16 => some (r18, m16))) else (g1 (f_X9_in u4 (1 : Int32) (20 : Int32) m12) (fun r21 m19 => if r21 = (0 : Int32) then (g1 (f_X9_fails c0 (2 : Int32) m19) (fun r49 m47 => some (r49, m47))) else (g1 (f_X9_looks c0 u1 u2 u3 u4 m19) (fun r25 m23 => if (m23 c0 13) = (0 : Int32) then (if ¬ (((36 : Int32) + u1) < 0 ∨ gl (c0 + 1) ≤ ((36 : Int32) + u1).toNatClampNeg) then gv ((m23 (c0 + 1) ((36 : Int32) + u1).toNatClampNeg)) (fun x29 => if ¬ ((((100 : Int32) + ((10 : Int32) * u1)) + x29) < 0 ∨ gl (c0 + 1) ≤ (((100 : Int32) + ((10 : Int32) * u1)) + x29).toNatClampNeg) then gv (ms m23 (c0 + 1) (((100 : Int32) + ((10 : Int32) * u1)) + x29).toNatClampNeg u3) (fun m31 => if ¬ ((((160 : Int32) + ((10 : Int32) * u1)) + x29) < 0 ∨ gl (c0 + 1) ≤ (((160 : Int32) + ((10 : Int32) * u1)) + x29).toNatClampNeg) then gv (ms m31 (c0 + 1) (((160 : Int32) + ((10 : Int32) * u1)) + x29).toNatClampNeg u4) (fun m33 => gv (ms m33 (c0 + 1) ((36 : Int32) + u1).toNatClampNeg ((m33 (c0 + 1) ((36 : Int32) + u1).toNatClampNeg) + (1 : Int32))) (fun m34 => if ¬ (((26 : Int32) + u3) < 0 ∨ gl (c0 + 1) ≤ ((26 : Int32) + u3).toNatClampNeg) then gv (ms m34 (c0 + 1) ((26 : Int32) + u3).toNatClampNeg ((m34 (c0 + 1) ((26 : Int32) + u3).toNatClampNeg) - u4)) (fun m36 => if ¬ (((53 : Int32) + u2) < 0 ∨ gl (c0 + 1) ≤ ((53 : Int32) + u2).toNatClampNeg) then gv (ms m36 (c0 + 1) ((53 : Int32) + u2).toNatClampNeg ((u4 / (5 : Int32)) + (1 : Int32))) (fun m38 => if ¬ (((57 : Int32) + u2) < 0 ∨ gl (c0 + 1) ≤ ((57 : Int32) + u2).toNatClampNeg) then gv (ms m38 (c0 + 1) ((57 : Int32) + u2).toNatClampNeg ((m38 (c0 + 1) ((57 : Int32) + u2).toNatClampNeg) + u4)) (fun m40 => g1 (f_X9_done c0 x29 m40) (fun r43 m41 => some (r43, m41))) else none) else none) else none)) else none) else none) else none) else (g1 (f_X9_refused c0 (m23 c0 13) (m23 c0 14) (3 : Int32) m23) (fun r46 m44 => some (r46, m44))))))))))))
set_option maxRecDepth 100000 in
set_option maxHeartbeats 4000000 in
theorem b_X9_lays {p : Program} {l : Launch} {e : Env} {R : Room} {s : State} {m : MethodId} {args : Array Value} {below : List Frame} {meth : Method} {c : Code} {H : Heap} {locs : List Loc} {ls : Array Slot} {X : gX} (E : gEn p s m args c cX9_lays RX9 X) (hr : meth.sig.returnType = (some .int)) (hlocks : meth.locks = false) (hml : c.maxLocals = 6) (hRf : 4 ≤ R.frames) (hRl : 97 ≤ R.locals) (hRc : 0 ≤ R.cells) (hRs : 0 ≤ R.slots) {c0 : Nat} {u1 : Int32} {u2 : Int32} {u3 : Int32} {u4 : Int32} {m0 : gMem} {res : Int32 × gMem} (hk0 : gk c0 = 9) (hf : f_X9_lays c0 u1 u2 u3 u4 m0 = some res) (hM : gM X m0 H) (hS : va_S (gA X) s.heap H locs) (hl : lv_has ls 6 [(0, .ref (X.1 + c0)), (1, .int u1), (2, .int u2), (3, .int u3), (4, .int u4)]) : W p l e R s m args below meth c H locs 0 0 (MQ below (gQi X res) args s 0 0 (gA X)) (F0 m 0 ls []) := by
  obtain ⟨hx, hb⟩ := (⟨E.1, E.2.1⟩ : _ ∧ _)
  unfold f_X9_lays at hf
  refine lv_aload_n hx hb dX9_lays_0 rfl (lv_at hl 0 rfl) ?_
  refine lv_iload_n hx hb dX9_lays_1 rfl (lv_at hl 1 rfl) ?_
  obtain ⟨r3, m1, hqq2, hf⟩ := g1_o hf
  refine ga_i (gr_V (As := [.int u1]) (ci := 9) (rm := { frames := 1, cells := 0, slots := 0, locals := 22 }) E hml hl.1 (c_X9_isTower l X c0 u1 m0 hk0 hqq2) wt_X9_isTower wl_RX9_88 rfl hk0 (by decide) rfl rfl hM hS rfl rfl (Nat.le_trans (by decide) hRf) (Nat.le_trans (by decide) hRl) (Nat.le_trans (Nat.le_of_ble_eq_true rfl) hRc) (Nat.le_trans (Nat.le_of_ble_eq_true rfl) hRs) (Nat.le_of_ble_eq_true rfl) dX9_lays_2 rfl) hS (fun H locs hM hS => ?_)
  refine lv_if_eq (tgt := 16) hx hb dX9_lays_5 (by decide) (fun h4 => ?_) (fun h4 => ?_)
  · have hf := g_t h4 hf
    refine lv_aload_n hx hb dX9_lays_16 rfl (lv_at hl 0 rfl) ?_
    refine lv_iconst (v := (1 : Int32)) hx hb dX9_lays_17 (by decide) ?_
    obtain ⟨r7, m5, hqq6, hf⟩ := g1_o hf
    refine ga_i (gr_V (As := [.int (1 : Int32)]) (ci := 9) (rm := { frames := 0, cells := 0, slots := 0, locals := 0 }) E hml hl.1 (c_X9_fails l X c0 (1 : Int32) m1 hk0 hqq6) wt_X9_fails wl_RX9_57 rfl hk0 (by decide) rfl rfl hM hS rfl rfl (Nat.le_trans (by decide) hRf) (Nat.le_trans (by decide) hRl) (Nat.le_trans (Nat.le_of_ble_eq_true rfl) hRc) (Nat.le_trans (Nat.le_of_ble_eq_true rfl) hRs) (Nat.le_of_ble_eq_true rfl) dX9_lays_18 rfl) hS (fun H locs hM hS => ?_)
    exact ge_i E hr hlocks hf hM hS (Nat.le_of_ble_eq_true rfl) (Nat.le_of_ble_eq_true rfl) dX9_lays_21
  · have hf := g_f h4 hf
    refine lv_aload_n hx hb dX9_lays_8 rfl (lv_at hl 0 rfl) ?_
    refine lv_iload_n hx hb dX9_lays_9 rfl (lv_at hl 2 rfl) ?_
    obtain ⟨r10, m8, hqq9, hf⟩ := g1_o hf
    refine ga_i (gr_V (As := [.int u2]) (ci := 9) (rm := { frames := 1, cells := 0, slots := 0, locals := 22 }) E hml hl.1 (c_X9_isTongs l X c0 u2 m1 hk0 hqq9) wt_X9_isTongs wl_RX9_85 rfl hk0 (by decide) rfl rfl hM hS rfl rfl (Nat.le_trans (by decide) hRf) (Nat.le_trans (by decide) hRl) (Nat.le_trans (Nat.le_of_ble_eq_true rfl) hRc) (Nat.le_trans (Nat.le_of_ble_eq_true rfl) hRs) (Nat.le_of_ble_eq_true rfl) dX9_lays_10 rfl) hS (fun H locs hM hS => ?_)
    refine lv_if_ne (tgt := 22) hx hb dX9_lays_13 (by decide) (fun h11 => ?_) (fun h11 => ?_)
    · have hf := g_f h11 hf
      refine lv_iload_n hx hb dX9_lays_22 rfl (lv_at hl 3 rfl) ?_
      obtain ⟨r14, m12, hqq13, hf⟩ := g1_o hf
      refine ga_i (gr_S (As := [.int u3]) (rm := { frames := 1, cells := 0, slots := 0, locals := 22 }) E hml hl.1 (c_X9_isGrade l X u3 m8 hqq13) wt_X9_isGrade wl_RX9_73 rfl hM hS rfl rfl (Nat.le_trans (by decide) hRf) (Nat.le_trans (by decide) hRl) (Nat.le_trans (Nat.le_of_ble_eq_true rfl) hRc) (Nat.le_trans (Nat.le_of_ble_eq_true rfl) hRs) (Nat.le_of_ble_eq_true rfl) dX9_lays_23 rfl) hS (fun H locs hM hS => ?_)
      refine lv_if_eq (tgt := 40) hx hb dX9_lays_26 (by decide) (fun h15 => ?_) (fun h15 => ?_)
      · have hf := g_t h15 hf
        refine lv_aload_n hx hb dX9_lays_40 rfl (lv_at hl 0 rfl) ?_
        refine lv_iconst (v := (2 : Int32)) hx hb dX9_lays_41 (by decide) ?_
        obtain ⟨r18, m16, hqq17, hf⟩ := g1_o hf
        refine ga_i (gr_V (As := [.int (2 : Int32)]) (ci := 9) (rm := { frames := 0, cells := 0, slots := 0, locals := 0 }) E hml hl.1 (c_X9_fails l X c0 (2 : Int32) m12 hk0 hqq17) wt_X9_fails wl_RX9_57 rfl hk0 (by decide) rfl rfl hM hS rfl rfl (Nat.le_trans (by decide) hRf) (Nat.le_trans (by decide) hRl) (Nat.le_trans (Nat.le_of_ble_eq_true rfl) hRc) (Nat.le_trans (Nat.le_of_ble_eq_true rfl) hRs) (Nat.le_of_ble_eq_true rfl) dX9_lays_42 rfl) hS (fun H locs hM hS => ?_)
        exact ge_i E hr hlocks hf hM hS (Nat.le_of_ble_eq_true rfl) (Nat.le_of_ble_eq_true rfl) dX9_lays_45
      · have hf := g_f h15 hf
        refine lv_iload hx hb dX9_lays_29 (lv_at hl 4 rfl) ?_
        refine lv_iconst (v := (1 : Int32)) hx hb dX9_lays_31 (by decide) ?_
        refine lv_bipush (v := (20 : Int32)) hx hb dX9_lays_32 (by decide) ?_
        obtain ⟨r21, m19, hqq20, hf⟩ := g1_o hf
        refine ga_i (gr_S (As := [.int u4, .int (1 : Int32), .int (20 : Int32)]) (rm := { frames := 0, cells := 0, slots := 0, locals := 0 }) E hml hl.1 (c_X9_in l X u4 (1 : Int32) (20 : Int32) m12 hqq20) wt_X9_in wl_RX9_53 rfl hM hS rfl rfl (Nat.le_trans (by decide) hRf) (Nat.le_trans (by decide) hRl) (Nat.le_trans (Nat.le_of_ble_eq_true rfl) hRc) (Nat.le_trans (Nat.le_of_ble_eq_true rfl) hRs) (Nat.le_of_ble_eq_true rfl) dX9_lays_34 rfl) hS (fun H locs hM hS => ?_)
        refine lv_if_ne (tgt := 46) hx hb dX9_lays_37 (by decide) (fun h22 => ?_) (fun h22 => ?_)
        · have hf := g_f h22 hf
          refine lv_aload_n hx hb dX9_lays_46 rfl (lv_at hl 0 rfl) ?_
          refine lv_iload_n hx hb dX9_lays_47 rfl (lv_at hl 1 rfl) ?_
          refine lv_iload_n hx hb dX9_lays_48 rfl (lv_at hl 2 rfl) ?_
          refine lv_iload_n hx hb dX9_lays_49 rfl (lv_at hl 3 rfl) ?_
          refine lv_iload hx hb dX9_lays_50 (lv_at hl 4 rfl) ?_
          obtain ⟨r25, m23, hqq24, hf⟩ := g1_o hf
          refine ga_v (gr_V (As := [.int u1, .int u2, .int u3, .int u4]) (ci := 9) (rm := { frames := 3, cells := 0, slots := 0, locals := 70 }) E hml hl.1 (c_X9_looks l X c0 u1 u2 u3 u4 m19 hk0 hqq24) wt_X9_looks wl_RX9_116 rfl hk0 (by decide) rfl rfl hM hS rfl rfl (Nat.le_trans (by decide) hRf) (Nat.le_trans (by decide) hRl) (Nat.le_trans (Nat.le_of_ble_eq_true rfl) hRc) (Nat.le_trans (Nat.le_of_ble_eq_true rfl) hRs) (Nat.le_of_ble_eq_true rfl) dX9_lays_52 rfl) hS (fun H locs hM hS => ?_)
          refine lv_aload_n hx hb dX9_lays_55 rfl (lv_at hl 0 rfl) ?_
          refine GX9_103 E hM hk0 dX9_lays_56 ?_
          refine lv_if_eq (tgt := 76) hx hb dX9_lays_59 (by decide) (fun h26 => ?_) (fun h26 => ?_)
          · have hf := g_t h26 hf
            refine lv_aload_n hx hb dX9_lays_76 rfl (lv_at hl 0 rfl) ?_
            refine GX9_7 E hM hk0 dX9_lays_77 ?_
            have hg27 : gk (c0 + 1) = 20 := gkf_9_0 hk0
            refine lv_bipush (v := (36 : Int32)) hx hb dX9_lays_80 (by decide) ?_
            refine lv_iload_n hx hb dX9_lays_82 rfl (lv_at hl 1 rfl) ?_
            refine lv_iadd hx hb dX9_lays_83 ?_
            obtain ⟨hi28, hf⟩ := g_ck hf
            refine gg_iald E hM (gk_in hg27 (by decide)) hg27 hi28 dX9_lays_84 ?_
            obtain ⟨x29, ex29, hf⟩ := gv_o hf
            rw [← ex29]
            refine lv_istore (lv' := [(5, .int x29), (0, .ref (X.1 + c0)), (1, .int u1), (2, .int u2), (3, .int u3), (4, .int u4)]) hx hb dX9_lays_85 hl (by decide) rfl (fun ls hl => ?_)
            refine lv_aload_n hx hb dX9_lays_87 rfl (lv_at hl 1 rfl) ?_
            refine GX9_7 E hM hk0 dX9_lays_88 ?_
            refine lv_bipush (v := (100 : Int32)) hx hb dX9_lays_91 (by decide) ?_
            refine lv_bipush (v := (10 : Int32)) hx hb dX9_lays_93 (by decide) ?_
            refine lv_iload_n hx hb dX9_lays_95 rfl (lv_at hl 2 rfl) ?_
            refine lv_imul hx hb dX9_lays_96 ?_
            refine lv_iadd hx hb dX9_lays_97 ?_
            refine lv_iload hx hb dX9_lays_98 (lv_at hl 0 rfl) ?_
            refine lv_iadd hx hb dX9_lays_100 ?_
            refine lv_iload_n hx hb dX9_lays_101 rfl (lv_at hl 4 rfl) ?_
            obtain ⟨hi30, hf⟩ := g_ck hf
            obtain ⟨m31, em31, hf⟩ := gv_o hf
            refine gg_iast E (fun c hc => gA_in X hc) hM hS (gk_in hg27 (by decide)) hg27 hi30 em31 dX9_lays_102 (fun H locs hM hS => ?_)
            refine lv_aload_n hx hb dX9_lays_103 rfl (lv_at hl 1 rfl) ?_
            refine GX9_7 E hM hk0 dX9_lays_104 ?_
            refine lv_sipush (v := (160 : Int32)) hx hb dX9_lays_107 (by decide) ?_
            refine lv_bipush (v := (10 : Int32)) hx hb dX9_lays_110 (by decide) ?_
            refine lv_iload_n hx hb dX9_lays_112 rfl (lv_at hl 2 rfl) ?_
            refine lv_imul hx hb dX9_lays_113 ?_
            refine lv_iadd hx hb dX9_lays_114 ?_
            refine lv_iload hx hb dX9_lays_115 (lv_at hl 0 rfl) ?_
            refine lv_iadd hx hb dX9_lays_117 ?_
            refine lv_iload hx hb dX9_lays_118 (lv_at hl 5 rfl) ?_
            obtain ⟨hi32, hf⟩ := g_ck hf
            obtain ⟨m33, em33, hf⟩ := gv_o hf
            refine gg_iast E (fun c hc => gA_in X hc) hM hS (gk_in hg27 (by decide)) hg27 hi32 em33 dX9_lays_120 (fun H locs hM hS => ?_)
            refine lv_aload_n hx hb dX9_lays_121 rfl (lv_at hl 1 rfl) ?_
            refine GX9_7 E hM hk0 dX9_lays_122 ?_
            refine lv_bipush (v := (36 : Int32)) hx hb dX9_lays_125 (by decide) ?_
            refine lv_iload_n hx hb dX9_lays_127 rfl (lv_at hl 2 rfl) ?_
            refine lv_iadd hx hb dX9_lays_128 ?_
            refine lv_dup2_11 hx hb dX9_lays_129 rfl rfl ?_
            refine gg_iald E hM (gk_in hg27 (by decide)) hg27 hi28 dX9_lays_130 ?_
            refine lv_iconst (v := (1 : Int32)) hx hb dX9_lays_131 (by decide) ?_
            refine lv_iadd hx hb dX9_lays_132 ?_
            obtain ⟨m34, em34, hf⟩ := gv_o hf
            refine gg_iast E (fun c hc => gA_in X hc) hM hS (gk_in hg27 (by decide)) hg27 hi28 em34 dX9_lays_133 (fun H locs hM hS => ?_)
            refine lv_aload_n hx hb dX9_lays_134 rfl (lv_at hl 1 rfl) ?_
            refine GX9_7 E hM hk0 dX9_lays_135 ?_
            refine lv_bipush (v := (26 : Int32)) hx hb dX9_lays_138 (by decide) ?_
            refine lv_iload_n hx hb dX9_lays_140 rfl (lv_at hl 4 rfl) ?_
            refine lv_iadd hx hb dX9_lays_141 ?_
            refine lv_dup2_11 hx hb dX9_lays_142 rfl rfl ?_
            obtain ⟨hi35, hf⟩ := g_ck hf
            refine gg_iald E hM (gk_in hg27 (by decide)) hg27 hi35 dX9_lays_143 ?_
            refine lv_iload hx hb dX9_lays_144 (lv_at hl 5 rfl) ?_
            refine lv_isub hx hb dX9_lays_146 ?_
            obtain ⟨m36, em36, hf⟩ := gv_o hf
            refine gg_iast E (fun c hc => gA_in X hc) hM hS (gk_in hg27 (by decide)) hg27 hi35 em36 dX9_lays_147 (fun H locs hM hS => ?_)
            refine lv_aload_n hx hb dX9_lays_148 rfl (lv_at hl 1 rfl) ?_
            refine GX9_7 E hM hk0 dX9_lays_149 ?_
            refine lv_bipush (v := (53 : Int32)) hx hb dX9_lays_152 (by decide) ?_
            refine lv_iload_n hx hb dX9_lays_154 rfl (lv_at hl 3 rfl) ?_
            refine lv_iadd hx hb dX9_lays_155 ?_
            refine lv_iload hx hb dX9_lays_156 (lv_at hl 5 rfl) ?_
            refine lv_iconst (v := (5 : Int32)) hx hb dX9_lays_158 (by decide) ?_
            refine lv_idiv hx hb dX9_lays_159 (by decide) ?_
            refine lv_iconst (v := (1 : Int32)) hx hb dX9_lays_160 (by decide) ?_
            refine lv_iadd hx hb dX9_lays_161 ?_
            obtain ⟨hi37, hf⟩ := g_ck hf
            obtain ⟨m38, em38, hf⟩ := gv_o hf
            refine gg_iast E (fun c hc => gA_in X hc) hM hS (gk_in hg27 (by decide)) hg27 hi37 em38 dX9_lays_162 (fun H locs hM hS => ?_)
            refine lv_aload_n hx hb dX9_lays_163 rfl (lv_at hl 1 rfl) ?_
            refine GX9_7 E hM hk0 dX9_lays_164 ?_
            refine lv_bipush (v := (57 : Int32)) hx hb dX9_lays_167 (by decide) ?_
            refine lv_iload_n hx hb dX9_lays_169 rfl (lv_at hl 3 rfl) ?_
            refine lv_iadd hx hb dX9_lays_170 ?_
            refine lv_dup2_11 hx hb dX9_lays_171 rfl rfl ?_
            obtain ⟨hi39, hf⟩ := g_ck hf
            refine gg_iald E hM (gk_in hg27 (by decide)) hg27 hi39 dX9_lays_172 ?_
            refine lv_iload hx hb dX9_lays_173 (lv_at hl 5 rfl) ?_
            refine lv_iadd hx hb dX9_lays_175 ?_
            obtain ⟨m40, em40, hf⟩ := gv_o hf
            refine gg_iast E (fun c hc => gA_in X hc) hM hS (gk_in hg27 (by decide)) hg27 hi39 em40 dX9_lays_176 (fun H locs hM hS => ?_)
            refine lv_aload_n hx hb dX9_lays_177 rfl (lv_at hl 1 rfl) ?_
            refine lv_iload hx hb dX9_lays_178 (lv_at hl 0 rfl) ?_
            obtain ⟨r43, m41, hqq42, hf⟩ := g1_o hf
            refine ga_i (gr_V (As := [.int x29]) (ci := 9) (rm := { frames := 0, cells := 0, slots := 0, locals := 0 }) E hml hl.1 (c_X9_done l X c0 x29 m40 hk0 hqq42) wt_X9_done wl_RX9_64 rfl hk0 (by decide) rfl rfl hM hS rfl rfl (Nat.le_trans (by decide) hRf) (Nat.le_trans (by decide) hRl) (Nat.le_trans (Nat.le_of_ble_eq_true rfl) hRc) (Nat.le_trans (Nat.le_of_ble_eq_true rfl) hRs) (Nat.le_of_ble_eq_true rfl) dX9_lays_180 rfl) hS (fun H locs hM hS => ?_)
            exact ge_i E hr hlocks hf hM hS (Nat.le_of_ble_eq_true rfl) (Nat.le_of_ble_eq_true rfl) dX9_lays_183
          · have hf := g_f h26 hf
            refine lv_aload_n hx hb dX9_lays_62 rfl (lv_at hl 0 rfl) ?_
            refine lv_aload_n hx hb dX9_lays_63 rfl (lv_at hl 0 rfl) ?_
            refine GX9_103 E hM hk0 dX9_lays_64 ?_
            refine lv_aload_n hx hb dX9_lays_67 rfl (lv_at hl 0 rfl) ?_
            refine GX9_106 E hM hk0 dX9_lays_68 ?_
            refine lv_iconst (v := (3 : Int32)) hx hb dX9_lays_71 (by decide) ?_
            obtain ⟨r46, m44, hqq45, hf⟩ := g1_o hf
            refine ga_i (gr_V (As := [.int (m23 c0 13), .int (m23 c0 14), .int (3 : Int32)]) (ci := 9) (rm := { frames := 0, cells := 0, slots := 0, locals := 0 }) E hml hl.1 (c_X9_refused l X c0 (m23 c0 13) (m23 c0 14) (3 : Int32) m23 hk0 hqq45) wt_X9_refused wl_RX9_77 rfl hk0 (by decide) rfl rfl hM hS rfl rfl (Nat.le_trans (by decide) hRf) (Nat.le_trans (by decide) hRl) (Nat.le_trans (Nat.le_of_ble_eq_true rfl) hRc) (Nat.le_trans (Nat.le_of_ble_eq_true rfl) hRs) (Nat.le_of_ble_eq_true rfl) dX9_lays_72 rfl) hS (fun H locs hM hS => ?_)
            exact ge_i E hr hlocks hf hM hS (Nat.le_of_ble_eq_true rfl) (Nat.le_of_ble_eq_true rfl) dX9_lays_75
        · have hf := g_t h22 hf
          refine lv_aload_n hx hb dX9_lays_40 rfl (lv_at hl 0 rfl) ?_
          refine lv_iconst (v := (2 : Int32)) hx hb dX9_lays_41 (by decide) ?_
          obtain ⟨r49, m47, hqq48, hf⟩ := g1_o hf
          refine ga_i (gr_V (As := [.int (2 : Int32)]) (ci := 9) (rm := { frames := 0, cells := 0, slots := 0, locals := 0 }) E hml hl.1 (c_X9_fails l X c0 (2 : Int32) m19 hk0 hqq48) wt_X9_fails wl_RX9_57 rfl hk0 (by decide) rfl rfl hM hS rfl rfl (Nat.le_trans (by decide) hRf) (Nat.le_trans (by decide) hRl) (Nat.le_trans (Nat.le_of_ble_eq_true rfl) hRc) (Nat.le_trans (Nat.le_of_ble_eq_true rfl) hRs) (Nat.le_of_ble_eq_true rfl) dX9_lays_42 rfl) hS (fun H locs hM hS => ?_)
          exact ge_i E hr hlocks hf hM hS (Nat.le_of_ble_eq_true rfl) (Nat.le_of_ble_eq_true rfl) dX9_lays_45
    · have hf := g_t h11 hf
      refine lv_aload_n hx hb dX9_lays_16 rfl (lv_at hl 0 rfl) ?_
      refine lv_iconst (v := (1 : Int32)) hx hb dX9_lays_17 (by decide) ?_
      obtain ⟨r52, m50, hqq51, hf⟩ := g1_o hf
      refine ga_i (gr_V (As := [.int (1 : Int32)]) (ci := 9) (rm := { frames := 0, cells := 0, slots := 0, locals := 0 }) E hml hl.1 (c_X9_fails l X c0 (1 : Int32) m8 hk0 hqq51) wt_X9_fails wl_RX9_57 rfl hk0 (by decide) rfl rfl hM hS rfl rfl (Nat.le_trans (by decide) hRf) (Nat.le_trans (by decide) hRl) (Nat.le_trans (Nat.le_of_ble_eq_true rfl) hRc) (Nat.le_trans (Nat.le_of_ble_eq_true rfl) hRs) (Nat.le_of_ble_eq_true rfl) dX9_lays_18 rfl) hS (fun H locs hM hS => ?_)
      exact ge_i E hr hlocks hf hM hS (Nat.le_of_ble_eq_true rfl) (Nat.le_of_ble_eq_true rfl) dX9_lays_21
theorem c_X9_lays (l : Launch) (X : gX) (c0 : Nat) (u1 : Int32) (u2 : Int32) (u3 : Int32) (u4 : Int32) (m0 : gMem) {res : Int32 × gMem} (hk0 : gk c0 = 9) (hf : f_X9_lays c0 u1 u2 u3 u4 m0 = some res) : Met l yX9_lays (gWs yX9_lays cX9_lays 6 (some .int)) { frames := 4, cells := 0, slots := 0, locals := 97 } (va_Pc [.ref (X.1 + c0), .int u1, .int u2, .int u3, .int u4] (gB X m0)) (gQi X res) 0 0 (gA X) :=
  gMet (own := RX9) (by decide +kernel) rfl (Nat.le_of_ble_eq_true rfl) (fun p e s m args below meth c ls E hr hlocks hml hM hl => b_X9_lays E hr hlocks hml (Nat.le_refl _) (Nat.le_refl _) (Nat.le_refl _) (Nat.le_refl _) hk0 hf hM va_S.rf hl)
def f_X9_lay (c0 : Nat) (u1 : Int32) (u2 : Int32) (u3 : Int32) (u4 : Int32) (m0 : gMem) : Option (Int32 × gMem) := g1 (f_X9_looksBack c0 m0) (fun r3 m1 => g1 (f_X9_lays c0 u1 u2 u3 u4 m1) (fun r6 m4 => g1 (f_X9_kept c0 r6 m4) (fun r9 m7 => some (r9, m7))))
set_option maxRecDepth 100000 in
set_option maxHeartbeats 4000000 in
theorem b_X9_lay {p : Program} {l : Launch} {e : Env} {R : Room} {s : State} {m : MethodId} {args : Array Value} {below : List Frame} {meth : Method} {c : Code} {H : Heap} {locs : List Loc} {ls : Array Slot} {X : gX} (E : gEn p s m args c cX9_lay RX9 X) (hr : meth.sig.returnType = (some .int)) (hlocks : meth.locks = false) (hml : c.maxLocals = 5) (hRf : 5 ≤ R.frames) (hRl : 122 ≤ R.locals) (hRc : 0 ≤ R.cells) (hRs : 0 ≤ R.slots) {c0 : Nat} {u1 : Int32} {u2 : Int32} {u3 : Int32} {u4 : Int32} {m0 : gMem} {res : Int32 × gMem} (hk0 : gk c0 = 9) (hf : f_X9_lay c0 u1 u2 u3 u4 m0 = some res) (hM : gM X m0 H) (hS : va_S (gA X) s.heap H locs) (hl : lv_has ls 5 [(0, .ref (X.1 + c0)), (1, .int u1), (2, .int u2), (3, .int u3), (4, .int u4)]) : W p l e R s m args below meth c H locs 0 0 (MQ below (gQi X res) args s 0 0 (gA X)) (F0 m 0 ls []) := by
  obtain ⟨hx, hb⟩ := (⟨E.1, E.2.1⟩ : _ ∧ _)
  unfold f_X9_lay at hf
  refine lv_aload_n hx hb dX9_lay_0 rfl (lv_at hl 0 rfl) ?_
  obtain ⟨r3, m1, hqq2, hf⟩ := g1_o hf
  refine ga_v (gr_V (As := []) (ci := 9) (rm := { frames := 1, cells := 0, slots := 0, locals := 24 }) E hml hl.1 (c_X9_looksBack l X c0 m0 hk0 hqq2) wt_X9_looksBack wl_RX9_61 rfl hk0 (by decide) rfl rfl hM hS rfl rfl (Nat.le_trans (by decide) hRf) (Nat.le_trans (by decide) hRl) (Nat.le_trans (Nat.le_of_ble_eq_true rfl) hRc) (Nat.le_trans (Nat.le_of_ble_eq_true rfl) hRs) (Nat.le_of_ble_eq_true rfl) dX9_lay_1 rfl) hS (fun H locs hM hS => ?_)
  refine lv_aload_n hx hb dX9_lay_4 rfl (lv_at hl 0 rfl) ?_
  refine lv_aload_n hx hb dX9_lay_5 rfl (lv_at hl 0 rfl) ?_
  refine lv_iload_n hx hb dX9_lay_6 rfl (lv_at hl 1 rfl) ?_
  refine lv_iload_n hx hb dX9_lay_7 rfl (lv_at hl 2 rfl) ?_
  refine lv_iload_n hx hb dX9_lay_8 rfl (lv_at hl 3 rfl) ?_
  refine lv_iload hx hb dX9_lay_9 (lv_at hl 4 rfl) ?_
  obtain ⟨r6, m4, hqq5, hf⟩ := g1_o hf
  refine ga_i (gr_V (As := [.int u1, .int u2, .int u3, .int u4]) (ci := 9) (rm := { frames := 4, cells := 0, slots := 0, locals := 97 }) E hml hl.1 (c_X9_lays l X c0 u1 u2 u3 u4 m1 hk0 hqq5) wt_X9_lays wl_RX9_120 rfl hk0 (by decide) rfl rfl hM hS rfl rfl (Nat.le_trans (by decide) hRf) (Nat.le_trans (by decide) hRl) (Nat.le_trans (Nat.le_of_ble_eq_true rfl) hRc) (Nat.le_trans (Nat.le_of_ble_eq_true rfl) hRs) (Nat.le_of_ble_eq_true rfl) dX9_lay_11 rfl) hS (fun H locs hM hS => ?_)
  obtain ⟨r9, m7, hqq8, hf⟩ := g1_o hf
  refine ga_i (gr_V (As := [.int r6]) (ci := 9) (rm := { frames := 1, cells := 0, slots := 0, locals := 24 }) E hml hl.1 (c_X9_kept l X c0 r6 m4 hk0 hqq8) wt_X9_kept wl_RX9_67 rfl hk0 (by decide) rfl rfl hM hS rfl rfl (Nat.le_trans (by decide) hRf) (Nat.le_trans (by decide) hRl) (Nat.le_trans (Nat.le_of_ble_eq_true rfl) hRc) (Nat.le_trans (Nat.le_of_ble_eq_true rfl) hRs) (Nat.le_of_ble_eq_true rfl) dX9_lay_14 rfl) hS (fun H locs hM hS => ?_)
  exact ge_i E hr hlocks hf hM hS (Nat.le_of_ble_eq_true rfl) (Nat.le_of_ble_eq_true rfl) dX9_lay_17
theorem c_X9_lay (l : Launch) (X : gX) (c0 : Nat) (u1 : Int32) (u2 : Int32) (u3 : Int32) (u4 : Int32) (m0 : gMem) {res : Int32 × gMem} (hk0 : gk c0 = 9) (hf : f_X9_lay c0 u1 u2 u3 u4 m0 = some res) : Met l yX9_lay (gWs yX9_lay cX9_lay 5 (some .int)) { frames := 5, cells := 0, slots := 0, locals := 122 } (va_Pc [.ref (X.1 + c0), .int u1, .int u2, .int u3, .int u4] (gB X m0)) (gQi X res) 0 0 (gA X) :=
  gMet (own := RX9) (by decide +kernel) rfl (Nat.le_of_ble_eq_true rfl) (fun p e s m args below meth c ls E hr hlocks hml hM hl => b_X9_lay E hr hlocks hml (Nat.le_refl _) (Nat.le_refl _) (Nat.le_refl _) (Nat.le_refl _) hk0 hf hM va_S.rf hl)
def f_X9_why (c0 : Nat) (u1 : Int32) (u2 : Int32) (u3 : Int32) (u4 : Int32) (m0 : gMem) : Option (Int32 × gMem) := g1 (f_X9_isTower c0 u1 m0) (fun r3 m1 => if r3 = (0 : Int32) then (g1 (f_X9_fails c0 (1 : Int32) m1) (fun r7 m5 => some (r7, m5))) else (g1 (f_X9_isTongs c0 u2 m1) (fun r10 m8 => if r10 = (0 : Int32) then (g1 (f_X9_fails c0 (1 : Int32) m8) (fun r34 m32 => some (r34, m32))) else (g1 (f_X9_isGrade u3 m8) (fun r14 m12 => if r14 = (0 : Int32) then (g1 (f_X9_fails c0 (2 : Int32) m12) (fun r18 m16 => some (r18, m16))) else (g1 (f_X9_in u4 (1 : Int32) (20 : Int32) m12) (fun r21 m19 => if r21 = (0 : Int32) then (g1 (f_X9_fails c0 (2 : Int32) m19) (fun r31 m29 => some (r31, m29))) else (g1 (f_X9_looks c0 u1 u2 u3 u4 m19) (fun r25 m23 => g1 (f_X9_done c0 (m23 c0 13) m23) (fun r28 m26 => some (r28, m26)))))))))))
set_option maxRecDepth 100000 in
set_option maxHeartbeats 4000000 in
theorem b_X9_why {p : Program} {l : Launch} {e : Env} {R : Room} {s : State} {m : MethodId} {args : Array Value} {below : List Frame} {meth : Method} {c : Code} {H : Heap} {locs : List Loc} {ls : Array Slot} {X : gX} (E : gEn p s m args c cX9_why RX9 X) (hr : meth.sig.returnType = (some .int)) (hlocks : meth.locks = false) (hml : c.maxLocals = 5) (hRf : 4 ≤ R.frames) (hRl : 97 ≤ R.locals) (hRc : 0 ≤ R.cells) (hRs : 0 ≤ R.slots) {c0 : Nat} {u1 : Int32} {u2 : Int32} {u3 : Int32} {u4 : Int32} {m0 : gMem} {res : Int32 × gMem} (hk0 : gk c0 = 9) (hf : f_X9_why c0 u1 u2 u3 u4 m0 = some res) (hM : gM X m0 H) (hS : va_S (gA X) s.heap H locs) (hl : lv_has ls 5 [(0, .ref (X.1 + c0)), (1, .int u1), (2, .int u2), (3, .int u3), (4, .int u4)]) : W p l e R s m args below meth c H locs 0 0 (MQ below (gQi X res) args s 0 0 (gA X)) (F0 m 0 ls []) := by
  obtain ⟨hx, hb⟩ := (⟨E.1, E.2.1⟩ : _ ∧ _)
  unfold f_X9_why at hf
  refine lv_aload_n hx hb dX9_why_0 rfl (lv_at hl 0 rfl) ?_
  refine lv_iload_n hx hb dX9_why_1 rfl (lv_at hl 1 rfl) ?_
  obtain ⟨r3, m1, hqq2, hf⟩ := g1_o hf
  refine ga_i (gr_V (As := [.int u1]) (ci := 9) (rm := { frames := 1, cells := 0, slots := 0, locals := 22 }) E hml hl.1 (c_X9_isTower l X c0 u1 m0 hk0 hqq2) wt_X9_isTower wl_RX9_88 rfl hk0 (by decide) rfl rfl hM hS rfl rfl (Nat.le_trans (by decide) hRf) (Nat.le_trans (by decide) hRl) (Nat.le_trans (Nat.le_of_ble_eq_true rfl) hRc) (Nat.le_trans (Nat.le_of_ble_eq_true rfl) hRs) (Nat.le_of_ble_eq_true rfl) dX9_why_2 rfl) hS (fun H locs hM hS => ?_)
  refine lv_if_eq (tgt := 16) hx hb dX9_why_5 (by decide) (fun h4 => ?_) (fun h4 => ?_)
  · have hf := g_t h4 hf
    refine lv_aload_n hx hb dX9_why_16 rfl (lv_at hl 0 rfl) ?_
    refine lv_iconst (v := (1 : Int32)) hx hb dX9_why_17 (by decide) ?_
    obtain ⟨r7, m5, hqq6, hf⟩ := g1_o hf
    refine ga_i (gr_V (As := [.int (1 : Int32)]) (ci := 9) (rm := { frames := 0, cells := 0, slots := 0, locals := 0 }) E hml hl.1 (c_X9_fails l X c0 (1 : Int32) m1 hk0 hqq6) wt_X9_fails wl_RX9_57 rfl hk0 (by decide) rfl rfl hM hS rfl rfl (Nat.le_trans (by decide) hRf) (Nat.le_trans (by decide) hRl) (Nat.le_trans (Nat.le_of_ble_eq_true rfl) hRc) (Nat.le_trans (Nat.le_of_ble_eq_true rfl) hRs) (Nat.le_of_ble_eq_true rfl) dX9_why_18 rfl) hS (fun H locs hM hS => ?_)
    exact ge_i E hr hlocks hf hM hS (Nat.le_of_ble_eq_true rfl) (Nat.le_of_ble_eq_true rfl) dX9_why_21
  · have hf := g_f h4 hf
    refine lv_aload_n hx hb dX9_why_8 rfl (lv_at hl 0 rfl) ?_
    refine lv_iload_n hx hb dX9_why_9 rfl (lv_at hl 2 rfl) ?_
    obtain ⟨r10, m8, hqq9, hf⟩ := g1_o hf
    refine ga_i (gr_V (As := [.int u2]) (ci := 9) (rm := { frames := 1, cells := 0, slots := 0, locals := 22 }) E hml hl.1 (c_X9_isTongs l X c0 u2 m1 hk0 hqq9) wt_X9_isTongs wl_RX9_85 rfl hk0 (by decide) rfl rfl hM hS rfl rfl (Nat.le_trans (by decide) hRf) (Nat.le_trans (by decide) hRl) (Nat.le_trans (Nat.le_of_ble_eq_true rfl) hRc) (Nat.le_trans (Nat.le_of_ble_eq_true rfl) hRs) (Nat.le_of_ble_eq_true rfl) dX9_why_10 rfl) hS (fun H locs hM hS => ?_)
    refine lv_if_ne (tgt := 22) hx hb dX9_why_13 (by decide) (fun h11 => ?_) (fun h11 => ?_)
    · have hf := g_f h11 hf
      refine lv_iload_n hx hb dX9_why_22 rfl (lv_at hl 3 rfl) ?_
      obtain ⟨r14, m12, hqq13, hf⟩ := g1_o hf
      refine ga_i (gr_S (As := [.int u3]) (rm := { frames := 1, cells := 0, slots := 0, locals := 22 }) E hml hl.1 (c_X9_isGrade l X u3 m8 hqq13) wt_X9_isGrade wl_RX9_73 rfl hM hS rfl rfl (Nat.le_trans (by decide) hRf) (Nat.le_trans (by decide) hRl) (Nat.le_trans (Nat.le_of_ble_eq_true rfl) hRc) (Nat.le_trans (Nat.le_of_ble_eq_true rfl) hRs) (Nat.le_of_ble_eq_true rfl) dX9_why_23 rfl) hS (fun H locs hM hS => ?_)
      refine lv_if_eq (tgt := 40) hx hb dX9_why_26 (by decide) (fun h15 => ?_) (fun h15 => ?_)
      · have hf := g_t h15 hf
        refine lv_aload_n hx hb dX9_why_40 rfl (lv_at hl 0 rfl) ?_
        refine lv_iconst (v := (2 : Int32)) hx hb dX9_why_41 (by decide) ?_
        obtain ⟨r18, m16, hqq17, hf⟩ := g1_o hf
        refine ga_i (gr_V (As := [.int (2 : Int32)]) (ci := 9) (rm := { frames := 0, cells := 0, slots := 0, locals := 0 }) E hml hl.1 (c_X9_fails l X c0 (2 : Int32) m12 hk0 hqq17) wt_X9_fails wl_RX9_57 rfl hk0 (by decide) rfl rfl hM hS rfl rfl (Nat.le_trans (by decide) hRf) (Nat.le_trans (by decide) hRl) (Nat.le_trans (Nat.le_of_ble_eq_true rfl) hRc) (Nat.le_trans (Nat.le_of_ble_eq_true rfl) hRs) (Nat.le_of_ble_eq_true rfl) dX9_why_42 rfl) hS (fun H locs hM hS => ?_)
        exact ge_i E hr hlocks hf hM hS (Nat.le_of_ble_eq_true rfl) (Nat.le_of_ble_eq_true rfl) dX9_why_45
      · have hf := g_f h15 hf
        refine lv_iload hx hb dX9_why_29 (lv_at hl 4 rfl) ?_
        refine lv_iconst (v := (1 : Int32)) hx hb dX9_why_31 (by decide) ?_
        refine lv_bipush (v := (20 : Int32)) hx hb dX9_why_32 (by decide) ?_
        obtain ⟨r21, m19, hqq20, hf⟩ := g1_o hf
        refine ga_i (gr_S (As := [.int u4, .int (1 : Int32), .int (20 : Int32)]) (rm := { frames := 0, cells := 0, slots := 0, locals := 0 }) E hml hl.1 (c_X9_in l X u4 (1 : Int32) (20 : Int32) m12 hqq20) wt_X9_in wl_RX9_53 rfl hM hS rfl rfl (Nat.le_trans (by decide) hRf) (Nat.le_trans (by decide) hRl) (Nat.le_trans (Nat.le_of_ble_eq_true rfl) hRc) (Nat.le_trans (Nat.le_of_ble_eq_true rfl) hRs) (Nat.le_of_ble_eq_true rfl) dX9_why_34 rfl) hS (fun H locs hM hS => ?_)
        refine lv_if_ne (tgt := 46) hx hb dX9_why_37 (by decide) (fun h22 => ?_) (fun h22 => ?_)
        · have hf := g_f h22 hf
          refine lv_aload_n hx hb dX9_why_46 rfl (lv_at hl 0 rfl) ?_
          refine lv_iload_n hx hb dX9_why_47 rfl (lv_at hl 1 rfl) ?_
          refine lv_iload_n hx hb dX9_why_48 rfl (lv_at hl 2 rfl) ?_
          refine lv_iload_n hx hb dX9_why_49 rfl (lv_at hl 3 rfl) ?_
          refine lv_iload hx hb dX9_why_50 (lv_at hl 4 rfl) ?_
          obtain ⟨r25, m23, hqq24, hf⟩ := g1_o hf
          refine ga_v (gr_V (As := [.int u1, .int u2, .int u3, .int u4]) (ci := 9) (rm := { frames := 3, cells := 0, slots := 0, locals := 70 }) E hml hl.1 (c_X9_looks l X c0 u1 u2 u3 u4 m19 hk0 hqq24) wt_X9_looks wl_RX9_116 rfl hk0 (by decide) rfl rfl hM hS rfl rfl (Nat.le_trans (by decide) hRf) (Nat.le_trans (by decide) hRl) (Nat.le_trans (Nat.le_of_ble_eq_true rfl) hRc) (Nat.le_trans (Nat.le_of_ble_eq_true rfl) hRs) (Nat.le_of_ble_eq_true rfl) dX9_why_52 rfl) hS (fun H locs hM hS => ?_)
          refine lv_aload_n hx hb dX9_why_55 rfl (lv_at hl 0 rfl) ?_
          refine lv_aload_n hx hb dX9_why_56 rfl (lv_at hl 0 rfl) ?_
          refine GX9_103 E hM hk0 dX9_why_57 ?_
          obtain ⟨r28, m26, hqq27, hf⟩ := g1_o hf
          refine ga_i (gr_V (As := [.int (m23 c0 13)]) (ci := 9) (rm := { frames := 0, cells := 0, slots := 0, locals := 0 }) E hml hl.1 (c_X9_done l X c0 (m23 c0 13) m23 hk0 hqq27) wt_X9_done wl_RX9_64 rfl hk0 (by decide) rfl rfl hM hS rfl rfl (Nat.le_trans (by decide) hRf) (Nat.le_trans (by decide) hRl) (Nat.le_trans (Nat.le_of_ble_eq_true rfl) hRc) (Nat.le_trans (Nat.le_of_ble_eq_true rfl) hRs) (Nat.le_of_ble_eq_true rfl) dX9_why_60 rfl) hS (fun H locs hM hS => ?_)
          exact ge_i E hr hlocks hf hM hS (Nat.le_of_ble_eq_true rfl) (Nat.le_of_ble_eq_true rfl) dX9_why_63
        · have hf := g_t h22 hf
          refine lv_aload_n hx hb dX9_why_40 rfl (lv_at hl 0 rfl) ?_
          refine lv_iconst (v := (2 : Int32)) hx hb dX9_why_41 (by decide) ?_
          obtain ⟨r31, m29, hqq30, hf⟩ := g1_o hf
          refine ga_i (gr_V (As := [.int (2 : Int32)]) (ci := 9) (rm := { frames := 0, cells := 0, slots := 0, locals := 0 }) E hml hl.1 (c_X9_fails l X c0 (2 : Int32) m19 hk0 hqq30) wt_X9_fails wl_RX9_57 rfl hk0 (by decide) rfl rfl hM hS rfl rfl (Nat.le_trans (by decide) hRf) (Nat.le_trans (by decide) hRl) (Nat.le_trans (Nat.le_of_ble_eq_true rfl) hRc) (Nat.le_trans (Nat.le_of_ble_eq_true rfl) hRs) (Nat.le_of_ble_eq_true rfl) dX9_why_42 rfl) hS (fun H locs hM hS => ?_)
          exact ge_i E hr hlocks hf hM hS (Nat.le_of_ble_eq_true rfl) (Nat.le_of_ble_eq_true rfl) dX9_why_45
    · have hf := g_t h11 hf
      refine lv_aload_n hx hb dX9_why_16 rfl (lv_at hl 0 rfl) ?_
      refine lv_iconst (v := (1 : Int32)) hx hb dX9_why_17 (by decide) ?_
      obtain ⟨r34, m32, hqq33, hf⟩ := g1_o hf
      refine ga_i (gr_V (As := [.int (1 : Int32)]) (ci := 9) (rm := { frames := 0, cells := 0, slots := 0, locals := 0 }) E hml hl.1 (c_X9_fails l X c0 (1 : Int32) m8 hk0 hqq33) wt_X9_fails wl_RX9_57 rfl hk0 (by decide) rfl rfl hM hS rfl rfl (Nat.le_trans (by decide) hRf) (Nat.le_trans (by decide) hRl) (Nat.le_trans (Nat.le_of_ble_eq_true rfl) hRc) (Nat.le_trans (Nat.le_of_ble_eq_true rfl) hRs) (Nat.le_of_ble_eq_true rfl) dX9_why_18 rfl) hS (fun H locs hM hS => ?_)
      exact ge_i E hr hlocks hf hM hS (Nat.le_of_ble_eq_true rfl) (Nat.le_of_ble_eq_true rfl) dX9_why_21
theorem c_X9_why (l : Launch) (X : gX) (c0 : Nat) (u1 : Int32) (u2 : Int32) (u3 : Int32) (u4 : Int32) (m0 : gMem) {res : Int32 × gMem} (hk0 : gk c0 = 9) (hf : f_X9_why c0 u1 u2 u3 u4 m0 = some res) : Met l yX9_why (gWs yX9_why cX9_why 5 (some .int)) { frames := 4, cells := 0, slots := 0, locals := 97 } (va_Pc [.ref (X.1 + c0), .int u1, .int u2, .int u3, .int u4] (gB X m0)) (gQi X res) 0 0 (gA X) :=
  gMet (own := RX9) (by decide +kernel) rfl (Nat.le_of_ble_eq_true rfl) (fun p e s m args below meth c ls E hr hlocks hml hM hl => b_X9_why E hr hlocks hml (Nat.le_refl _) (Nat.le_refl _) (Nat.le_refl _) (Nat.le_refl _) hk0 hf hM va_S.rf hl)
def f_X9_takes (c0 : Nat) (u1 : Int32) (m0 : gMem) : Option (Int32 × gMem) := g1 (f_X9_isTower c0 u1 m0) (fun r3 m1 => if r3 = (0 : Int32) then (g1 (f_X9_fails c0 (1 : Int32) m1) (fun r34 m32 => some (r34, m32))) else (if ¬ (((36 : Int32) + u1) < 0 ∨ gl (c0 + 1) ≤ ((36 : Int32) + u1).toNatClampNeg) then if (m1 (c0 + 1) ((36 : Int32) + u1).toNatClampNeg) = (0 : Int32) then (g1 (f_X9_refused c0 (9 : Int32) u1 (2 : Int32) m1) (fun r31 m29 => some (r31, m29))) else (gv (ms m1 (c0 + 1) ((36 : Int32) + u1).toNatClampNeg ((m1 (c0 + 1) ((36 : Int32) + u1).toNatClampNeg) - (1 : Int32))) (fun m8 => g1 (f_X9_cubesOf c0 u1 (m8 (c0 + 1) ((36 : Int32) + u1).toNatClampNeg) m8) (fun r11 m9 => if ¬ ((((100 : Int32) + ((10 : Int32) * u1)) + (m9 (c0 + 1) ((36 : Int32) + u1).toNatClampNeg)) < 0 ∨ gl (c0 + 1) ≤ (((100 : Int32) + ((10 : Int32) * u1)) + (m9 (c0 + 1) ((36 : Int32) + u1).toNatClampNeg)).toNatClampNeg) then gv (((26 : Int32) + (m9 (c0 + 1) (((100 : Int32) + ((10 : Int32) * u1)) + (m9 (c0 + 1) ((36 : Int32) + u1).toNatClampNeg)).toNatClampNeg))) (fun x13 => if ¬ (x13 < 0 ∨ gl (c0 + 1) ≤ x13.toNatClampNeg) then if ((m9 (c0 + 1) x13.toNatClampNeg) + r11) ≤ (300 : Int32) then (gv (ms m9 (c0 + 1) x13.toNatClampNeg ((m9 (c0 + 1) x13.toNatClampNeg) + r11)) (fun m16 => if ¬ ((96 : Int32) < 0 ∨ gl (c0 + 1) ≤ (96 : Int32).toNatClampNeg) then gv (ms m16 (c0 + 1) (96 : Int32).toNatClampNeg ((m16 (c0 + 1) (96 : Int32).toNatClampNeg) + (r11 - r11))) (fun m18 => g1 (f_X9_done c0 r11 m18) (fun r21 m19 => some (r21, m19))) else none)) else (gv (((300 : Int32) - (m9 (c0 + 1) x13.toNatClampNeg))) (fun x22 => gv (ms m9 (c0 + 1) x13.toNatClampNeg ((m9 (c0 + 1) x13.toNatClampNeg) + x22)) (fun m23 => if ¬ ((96 : Int32) < 0 ∨ gl (c0 + 1) ≤ (96 : Int32).toNatClampNeg) then gv (ms m23 (c0 + 1) (96 : Int32).toNatClampNeg ((m23 (c0 + 1) (96 : Int32).toNatClampNeg) + (r11 - x22))) (fun m25 => g1 (f_X9_done c0 r11 m25) (fun r28 m26 => some (r28, m26))) else none))) else none) else none))) else none))
set_option maxRecDepth 100000 in
set_option maxHeartbeats 4000000 in
theorem b_X9_takes {p : Program} {l : Launch} {e : Env} {R : Room} {s : State} {m : MethodId} {args : Array Value} {below : List Frame} {meth : Method} {c : Code} {H : Heap} {locs : List Loc} {ls : Array Slot} {X : gX} (E : gEn p s m args c cX9_takes RX9 X) (hr : meth.sig.returnType = (some .int)) (hlocks : meth.locks = false) (hml : c.maxLocals = 5) (hRf : 2 ≤ R.frames) (hRl : 43 ≤ R.locals) (hRc : 0 ≤ R.cells) (hRs : 0 ≤ R.slots) {c0 : Nat} {u1 : Int32} {m0 : gMem} {res : Int32 × gMem} (hk0 : gk c0 = 9) (hf : f_X9_takes c0 u1 m0 = some res) (hM : gM X m0 H) (hS : va_S (gA X) s.heap H locs) (hl : lv_has ls 5 [(0, .ref (X.1 + c0)), (1, .int u1)]) : W p l e R s m args below meth c H locs 0 0 (MQ below (gQi X res) args s 0 0 (gA X)) (F0 m 0 ls []) := by
  obtain ⟨hx, hb⟩ := (⟨E.1, E.2.1⟩ : _ ∧ _)
  unfold f_X9_takes at hf
  refine lv_aload_n hx hb dX9_takes_0 rfl (lv_at hl 0 rfl) ?_
  refine lv_iload_n hx hb dX9_takes_1 rfl (lv_at hl 1 rfl) ?_
  obtain ⟨r3, m1, hqq2, hf⟩ := g1_o hf
  refine ga_i (gr_V (As := [.int u1]) (ci := 9) (rm := { frames := 1, cells := 0, slots := 0, locals := 22 }) E hml hl.1 (c_X9_isTower l X c0 u1 m0 hk0 hqq2) wt_X9_isTower wl_RX9_88 rfl hk0 (by decide) rfl rfl hM hS rfl rfl (Nat.le_trans (by decide) hRf) (Nat.le_trans (by decide) hRl) (Nat.le_trans (Nat.le_of_ble_eq_true rfl) hRc) (Nat.le_trans (Nat.le_of_ble_eq_true rfl) hRs) (Nat.le_of_ble_eq_true rfl) dX9_takes_2 rfl) hS (fun H locs hM hS => ?_)
  refine lv_if_ne (tgt := 14) hx hb dX9_takes_5 (by decide) (fun h4 => ?_) (fun h4 => ?_)
  · have hf := g_f h4 hf
    refine lv_aload_n hx hb dX9_takes_14 rfl (lv_at hl 0 rfl) ?_
    refine GX9_7 E hM hk0 dX9_takes_15 ?_
    have hg5 : gk (c0 + 1) = 20 := gkf_9_0 hk0
    refine lv_bipush (v := (36 : Int32)) hx hb dX9_takes_18 (by decide) ?_
    refine lv_iload_n hx hb dX9_takes_20 rfl (lv_at hl 1 rfl) ?_
    refine lv_iadd hx hb dX9_takes_21 ?_
    obtain ⟨hi6, hf⟩ := g_ck hf
    refine gg_iald E hM (gk_in hg5 (by decide)) hg5 hi6 dX9_takes_22 ?_
    refine lv_if_ne (tgt := 35) hx hb dX9_takes_23 (by decide) (fun h7 => ?_) (fun h7 => ?_)
    · have hf := g_f h7 hf
      refine lv_aload_n hx hb dX9_takes_35 rfl (lv_at hl 0 rfl) ?_
      refine GX9_7 E hM hk0 dX9_takes_36 ?_
      refine lv_bipush (v := (36 : Int32)) hx hb dX9_takes_39 (by decide) ?_
      refine lv_iload_n hx hb dX9_takes_41 rfl (lv_at hl 1 rfl) ?_
      refine lv_iadd hx hb dX9_takes_42 ?_
      refine lv_dup2_11 hx hb dX9_takes_43 rfl rfl ?_
      refine gg_iald E hM (gk_in hg5 (by decide)) hg5 hi6 dX9_takes_44 ?_
      refine lv_iconst (v := (1 : Int32)) hx hb dX9_takes_45 (by decide) ?_
      refine lv_isub hx hb dX9_takes_46 ?_
      obtain ⟨m8, em8, hf⟩ := gv_o hf
      refine gg_iast E (fun c hc => gA_in X hc) hM hS (gk_in hg5 (by decide)) hg5 hi6 em8 dX9_takes_47 (fun H locs hM hS => ?_)
      refine lv_aload_n hx hb dX9_takes_48 rfl (lv_at hl 0 rfl) ?_
      refine lv_iload_n hx hb dX9_takes_49 rfl (lv_at hl 1 rfl) ?_
      refine lv_aload_n hx hb dX9_takes_50 rfl (lv_at hl 0 rfl) ?_
      refine GX9_7 E hM hk0 dX9_takes_51 ?_
      refine lv_bipush (v := (36 : Int32)) hx hb dX9_takes_54 (by decide) ?_
      refine lv_iload_n hx hb dX9_takes_56 rfl (lv_at hl 1 rfl) ?_
      refine lv_iadd hx hb dX9_takes_57 ?_
      refine gg_iald E hM (gk_in hg5 (by decide)) hg5 hi6 dX9_takes_58 ?_
      obtain ⟨r11, m9, hqq10, hf⟩ := g1_o hf
      refine ga_i (gr_V (As := [.int u1, .int (m8 (c0 + 1) ((36 : Int32) + u1).toNatClampNeg)]) (ci := 9) (rm := { frames := 0, cells := 0, slots := 0, locals := 0 }) E hml hl.1 (c_X9_cubesOf l X c0 u1 (m8 (c0 + 1) ((36 : Int32) + u1).toNatClampNeg) m8 hk0 hqq10) wt_X9_cubesOf wl_RX9_94 rfl hk0 (by decide) rfl rfl hM hS rfl rfl (Nat.le_trans (by decide) hRf) (Nat.le_trans (by decide) hRl) (Nat.le_trans (Nat.le_of_ble_eq_true rfl) hRc) (Nat.le_trans (Nat.le_of_ble_eq_true rfl) hRs) (Nat.le_of_ble_eq_true rfl) dX9_takes_59 rfl) hS (fun H locs hM hS => ?_)
      refine lv_istore_n (lv' := [(2, .int r11), (0, .ref (X.1 + c0)), (1, .int u1)]) hx hb dX9_takes_62 rfl hl (by decide) rfl (fun ls hl => ?_)
      refine lv_bipush (v := (26 : Int32)) hx hb dX9_takes_63 (by decide) ?_
      refine lv_aload_n hx hb dX9_takes_65 rfl (lv_at hl 1 rfl) ?_
      refine GX9_7 E hM hk0 dX9_takes_66 ?_
      refine lv_bipush (v := (100 : Int32)) hx hb dX9_takes_69 (by decide) ?_
      refine lv_bipush (v := (10 : Int32)) hx hb dX9_takes_71 (by decide) ?_
      refine lv_iload_n hx hb dX9_takes_73 rfl (lv_at hl 2 rfl) ?_
      refine lv_imul hx hb dX9_takes_74 ?_
      refine lv_iadd hx hb dX9_takes_75 ?_
      refine lv_aload_n hx hb dX9_takes_76 rfl (lv_at hl 1 rfl) ?_
      refine GX9_7 E hM hk0 dX9_takes_77 ?_
      refine lv_bipush (v := (36 : Int32)) hx hb dX9_takes_80 (by decide) ?_
      refine lv_iload_n hx hb dX9_takes_82 rfl (lv_at hl 2 rfl) ?_
      refine lv_iadd hx hb dX9_takes_83 ?_
      refine gg_iald E hM (gk_in hg5 (by decide)) hg5 hi6 dX9_takes_84 ?_
      refine lv_iadd hx hb dX9_takes_85 ?_
      obtain ⟨hi12, hf⟩ := g_ck hf
      refine gg_iald E hM (gk_in hg5 (by decide)) hg5 hi12 dX9_takes_86 ?_
      refine lv_iadd hx hb dX9_takes_87 ?_
      obtain ⟨x13, ex13, hf⟩ := gv_o hf
      rw [← ex13]
      refine lv_istore_n (lv' := [(3, .int x13), (2, .int r11), (0, .ref (X.1 + c0)), (1, .int u1)]) hx hb dX9_takes_88 rfl hl (by decide) rfl (fun ls hl => ?_)
      refine lv_aload_n hx hb dX9_takes_89 rfl (lv_at hl 2 rfl) ?_
      refine GX9_7 E hM hk0 dX9_takes_90 ?_
      refine lv_iload_n hx hb dX9_takes_93 rfl (lv_at hl 0 rfl) ?_
      obtain ⟨hi14, hf⟩ := g_ck hf
      refine gg_iald E hM (gk_in hg5 (by decide)) hg5 hi14 dX9_takes_94 ?_
      refine lv_iload_n hx hb dX9_takes_95 rfl (lv_at hl 1 rfl) ?_
      refine lv_iadd hx hb dX9_takes_96 ?_
      refine lv_sipush (v := (300 : Int32)) hx hb dX9_takes_97 (by decide) ?_
      refine lv_icmp_le (tgt := 116) hx hb dX9_takes_100 (by decide) (fun h15 => ?_) (fun h15 => ?_)
      · have hf := g_t h15 hf
        refine lv_iload_n hx hb dX9_takes_116 rfl (lv_at hl 1 rfl) ?_
        refine lv_istore (lv' := [(4, .int r11), (3, .int x13), (2, .int r11), (0, .ref (X.1 + c0)), (1, .int u1)]) hx hb dX9_takes_117 hl (by decide) rfl (fun ls hl => ?_)
        refine lv_aload_n hx hb dX9_takes_119 rfl (lv_at hl 3 rfl) ?_
        refine GX9_7 E hM hk0 dX9_takes_120 ?_
        refine lv_iload_n hx hb dX9_takes_123 rfl (lv_at hl 1 rfl) ?_
        refine lv_dup2_11 hx hb dX9_takes_124 rfl rfl ?_
        refine gg_iald E hM (gk_in hg5 (by decide)) hg5 hi14 dX9_takes_125 ?_
        refine lv_iload hx hb dX9_takes_126 (lv_at hl 0 rfl) ?_
        refine lv_iadd hx hb dX9_takes_128 ?_
        obtain ⟨m16, em16, hf⟩ := gv_o hf
        refine gg_iast E (fun c hc => gA_in X hc) hM hS (gk_in hg5 (by decide)) hg5 hi14 em16 dX9_takes_129 (fun H locs hM hS => ?_)
        refine lv_aload_n hx hb dX9_takes_130 rfl (lv_at hl 3 rfl) ?_
        refine GX9_7 E hM hk0 dX9_takes_131 ?_
        refine lv_bipush (v := (96 : Int32)) hx hb dX9_takes_134 (by decide) ?_
        refine lv_dup2_11 hx hb dX9_takes_136 rfl rfl ?_
        obtain ⟨hi17, hf⟩ := g_ck hf
        refine gg_iald E hM (gk_in hg5 (by decide)) hg5 hi17 dX9_takes_137 ?_
        refine lv_iload_n hx hb dX9_takes_138 rfl (lv_at hl 2 rfl) ?_
        refine lv_iload hx hb dX9_takes_139 (lv_at hl 0 rfl) ?_
        refine lv_isub hx hb dX9_takes_141 ?_
        refine lv_iadd hx hb dX9_takes_142 ?_
        obtain ⟨m18, em18, hf⟩ := gv_o hf
        refine gg_iast E (fun c hc => gA_in X hc) hM hS (gk_in hg5 (by decide)) hg5 hi17 em18 dX9_takes_143 (fun H locs hM hS => ?_)
        refine lv_aload_n hx hb dX9_takes_144 rfl (lv_at hl 3 rfl) ?_
        refine lv_iload_n hx hb dX9_takes_145 rfl (lv_at hl 2 rfl) ?_
        obtain ⟨r21, m19, hqq20, hf⟩ := g1_o hf
        refine ga_i (gr_V (As := [.int r11]) (ci := 9) (rm := { frames := 0, cells := 0, slots := 0, locals := 0 }) E hml hl.1 (c_X9_done l X c0 r11 m18 hk0 hqq20) wt_X9_done wl_RX9_64 rfl hk0 (by decide) rfl rfl hM hS rfl rfl (Nat.le_trans (by decide) hRf) (Nat.le_trans (by decide) hRl) (Nat.le_trans (Nat.le_of_ble_eq_true rfl) hRc) (Nat.le_trans (Nat.le_of_ble_eq_true rfl) hRs) (Nat.le_of_ble_eq_true rfl) dX9_takes_146 rfl) hS (fun H locs hM hS => ?_)
        exact ge_i E hr hlocks hf hM hS (Nat.le_of_ble_eq_true rfl) (Nat.le_of_ble_eq_true rfl) dX9_takes_149
      · have hf := g_f h15 hf
        refine lv_sipush (v := (300 : Int32)) hx hb dX9_takes_103 (by decide) ?_
        refine lv_aload_n hx hb dX9_takes_106 rfl (lv_at hl 2 rfl) ?_
        refine GX9_7 E hM hk0 dX9_takes_107 ?_
        refine lv_iload_n hx hb dX9_takes_110 rfl (lv_at hl 0 rfl) ?_
        refine gg_iald E hM (gk_in hg5 (by decide)) hg5 hi14 dX9_takes_111 ?_
        refine lv_isub hx hb dX9_takes_112 ?_
        refine lv_goto (tgt := 117) hx hb dX9_takes_113 (by decide) ?_
        obtain ⟨x22, ex22, hf⟩ := gv_o hf
        rw [← ex22]
        refine lv_istore (lv' := [(4, .int x22), (3, .int x13), (2, .int r11), (0, .ref (X.1 + c0)), (1, .int u1)]) hx hb dX9_takes_117 hl (by decide) rfl (fun ls hl => ?_)
        refine lv_aload_n hx hb dX9_takes_119 rfl (lv_at hl 3 rfl) ?_
        refine GX9_7 E hM hk0 dX9_takes_120 ?_
        refine lv_iload_n hx hb dX9_takes_123 rfl (lv_at hl 1 rfl) ?_
        refine lv_dup2_11 hx hb dX9_takes_124 rfl rfl ?_
        refine gg_iald E hM (gk_in hg5 (by decide)) hg5 hi14 dX9_takes_125 ?_
        refine lv_iload hx hb dX9_takes_126 (lv_at hl 0 rfl) ?_
        refine lv_iadd hx hb dX9_takes_128 ?_
        obtain ⟨m23, em23, hf⟩ := gv_o hf
        refine gg_iast E (fun c hc => gA_in X hc) hM hS (gk_in hg5 (by decide)) hg5 hi14 em23 dX9_takes_129 (fun H locs hM hS => ?_)
        refine lv_aload_n hx hb dX9_takes_130 rfl (lv_at hl 3 rfl) ?_
        refine GX9_7 E hM hk0 dX9_takes_131 ?_
        refine lv_bipush (v := (96 : Int32)) hx hb dX9_takes_134 (by decide) ?_
        refine lv_dup2_11 hx hb dX9_takes_136 rfl rfl ?_
        obtain ⟨hi24, hf⟩ := g_ck hf
        refine gg_iald E hM (gk_in hg5 (by decide)) hg5 hi24 dX9_takes_137 ?_
        refine lv_iload_n hx hb dX9_takes_138 rfl (lv_at hl 2 rfl) ?_
        refine lv_iload hx hb dX9_takes_139 (lv_at hl 0 rfl) ?_
        refine lv_isub hx hb dX9_takes_141 ?_
        refine lv_iadd hx hb dX9_takes_142 ?_
        obtain ⟨m25, em25, hf⟩ := gv_o hf
        refine gg_iast E (fun c hc => gA_in X hc) hM hS (gk_in hg5 (by decide)) hg5 hi24 em25 dX9_takes_143 (fun H locs hM hS => ?_)
        refine lv_aload_n hx hb dX9_takes_144 rfl (lv_at hl 3 rfl) ?_
        refine lv_iload_n hx hb dX9_takes_145 rfl (lv_at hl 2 rfl) ?_
        obtain ⟨r28, m26, hqq27, hf⟩ := g1_o hf
        refine ga_i (gr_V (As := [.int r11]) (ci := 9) (rm := { frames := 0, cells := 0, slots := 0, locals := 0 }) E hml hl.1 (c_X9_done l X c0 r11 m25 hk0 hqq27) wt_X9_done wl_RX9_64 rfl hk0 (by decide) rfl rfl hM hS rfl rfl (Nat.le_trans (by decide) hRf) (Nat.le_trans (by decide) hRl) (Nat.le_trans (Nat.le_of_ble_eq_true rfl) hRc) (Nat.le_trans (Nat.le_of_ble_eq_true rfl) hRs) (Nat.le_of_ble_eq_true rfl) dX9_takes_146 rfl) hS (fun H locs hM hS => ?_)
        exact ge_i E hr hlocks hf hM hS (Nat.le_of_ble_eq_true rfl) (Nat.le_of_ble_eq_true rfl) dX9_takes_149
    · have hf := g_t h7 hf
      refine lv_aload_n hx hb dX9_takes_26 rfl (lv_at hl 0 rfl) ?_
      refine lv_bipush (v := (9 : Int32)) hx hb dX9_takes_27 (by decide) ?_
      refine lv_iload_n hx hb dX9_takes_29 rfl (lv_at hl 1 rfl) ?_
      refine lv_iconst (v := (2 : Int32)) hx hb dX9_takes_30 (by decide) ?_
      obtain ⟨r31, m29, hqq30, hf⟩ := g1_o hf
      refine ga_i (gr_V (As := [.int (9 : Int32), .int u1, .int (2 : Int32)]) (ci := 9) (rm := { frames := 0, cells := 0, slots := 0, locals := 0 }) E hml hl.1 (c_X9_refused l X c0 (9 : Int32) u1 (2 : Int32) m1 hk0 hqq30) wt_X9_refused wl_RX9_77 rfl hk0 (by decide) rfl rfl hM hS rfl rfl (Nat.le_trans (by decide) hRf) (Nat.le_trans (by decide) hRl) (Nat.le_trans (Nat.le_of_ble_eq_true rfl) hRc) (Nat.le_trans (Nat.le_of_ble_eq_true rfl) hRs) (Nat.le_of_ble_eq_true rfl) dX9_takes_31 rfl) hS (fun H locs hM hS => ?_)
      exact ge_i E hr hlocks hf hM hS (Nat.le_of_ble_eq_true rfl) (Nat.le_of_ble_eq_true rfl) dX9_takes_34
  · have hf := g_t h4 hf
    refine lv_aload_n hx hb dX9_takes_8 rfl (lv_at hl 0 rfl) ?_
    refine lv_iconst (v := (1 : Int32)) hx hb dX9_takes_9 (by decide) ?_
    obtain ⟨r34, m32, hqq33, hf⟩ := g1_o hf
    refine ga_i (gr_V (As := [.int (1 : Int32)]) (ci := 9) (rm := { frames := 0, cells := 0, slots := 0, locals := 0 }) E hml hl.1 (c_X9_fails l X c0 (1 : Int32) m1 hk0 hqq33) wt_X9_fails wl_RX9_57 rfl hk0 (by decide) rfl rfl hM hS rfl rfl (Nat.le_trans (by decide) hRf) (Nat.le_trans (by decide) hRl) (Nat.le_trans (Nat.le_of_ble_eq_true rfl) hRc) (Nat.le_trans (Nat.le_of_ble_eq_true rfl) hRs) (Nat.le_of_ble_eq_true rfl) dX9_takes_10 rfl) hS (fun H locs hM hS => ?_)
    exact ge_i E hr hlocks hf hM hS (Nat.le_of_ble_eq_true rfl) (Nat.le_of_ble_eq_true rfl) dX9_takes_13
theorem c_X9_takes (l : Launch) (X : gX) (c0 : Nat) (u1 : Int32) (m0 : gMem) {res : Int32 × gMem} (hk0 : gk c0 = 9) (hf : f_X9_takes c0 u1 m0 = some res) : Met l yX9_takes (gWs yX9_takes cX9_takes 5 (some .int)) { frames := 2, cells := 0, slots := 0, locals := 43 } (va_Pc [.ref (X.1 + c0), .int u1] (gB X m0)) (gQi X res) 0 0 (gA X) :=
  gMet (own := RX9) (by decide +kernel) rfl (Nat.le_of_ble_eq_true rfl) (fun p e s m args below meth c ls E hr hlocks hml hM hl => b_X9_takes E hr hlocks hml (Nat.le_refl _) (Nat.le_refl _) (Nat.le_refl _) (Nat.le_refl _) hk0 hf hM va_S.rf hl)
def f_X9_take (c0 : Nat) (u1 : Int32) (m0 : gMem) : Option (Int32 × gMem) := g1 (f_X9_looksBack c0 m0) (fun r3 m1 => g1 (f_X9_takes c0 u1 m1) (fun r6 m4 => g1 (f_X9_kept c0 r6 m4) (fun r9 m7 => some (r9, m7))))
set_option maxRecDepth 100000 in
set_option maxHeartbeats 4000000 in
theorem b_X9_take {p : Program} {l : Launch} {e : Env} {R : Room} {s : State} {m : MethodId} {args : Array Value} {below : List Frame} {meth : Method} {c : Code} {H : Heap} {locs : List Loc} {ls : Array Slot} {X : gX} (E : gEn p s m args c cX9_take RX9 X) (hr : meth.sig.returnType = (some .int)) (hlocks : meth.locks = false) (hml : c.maxLocals = 2) (hRf : 3 ≤ R.frames) (hRl : 67 ≤ R.locals) (hRc : 0 ≤ R.cells) (hRs : 0 ≤ R.slots) {c0 : Nat} {u1 : Int32} {m0 : gMem} {res : Int32 × gMem} (hk0 : gk c0 = 9) (hf : f_X9_take c0 u1 m0 = some res) (hM : gM X m0 H) (hS : va_S (gA X) s.heap H locs) (hl : lv_has ls 2 [(0, .ref (X.1 + c0)), (1, .int u1)]) : W p l e R s m args below meth c H locs 0 0 (MQ below (gQi X res) args s 0 0 (gA X)) (F0 m 0 ls []) := by
  obtain ⟨hx, hb⟩ := (⟨E.1, E.2.1⟩ : _ ∧ _)
  unfold f_X9_take at hf
  refine lv_aload_n hx hb dX9_take_0 rfl (lv_at hl 0 rfl) ?_
  obtain ⟨r3, m1, hqq2, hf⟩ := g1_o hf
  refine ga_v (gr_V (As := []) (ci := 9) (rm := { frames := 1, cells := 0, slots := 0, locals := 24 }) E hml hl.1 (c_X9_looksBack l X c0 m0 hk0 hqq2) wt_X9_looksBack wl_RX9_61 rfl hk0 (by decide) rfl rfl hM hS rfl rfl (Nat.le_trans (by decide) hRf) (Nat.le_trans (by decide) hRl) (Nat.le_trans (Nat.le_of_ble_eq_true rfl) hRc) (Nat.le_trans (Nat.le_of_ble_eq_true rfl) hRs) (Nat.le_of_ble_eq_true rfl) dX9_take_1 rfl) hS (fun H locs hM hS => ?_)
  refine lv_aload_n hx hb dX9_take_4 rfl (lv_at hl 0 rfl) ?_
  refine lv_aload_n hx hb dX9_take_5 rfl (lv_at hl 0 rfl) ?_
  refine lv_iload_n hx hb dX9_take_6 rfl (lv_at hl 1 rfl) ?_
  obtain ⟨r6, m4, hqq5, hf⟩ := g1_o hf
  refine ga_i (gr_V (As := [.int u1]) (ci := 9) (rm := { frames := 2, cells := 0, slots := 0, locals := 43 }) E hml hl.1 (c_X9_takes l X c0 u1 m1 hk0 hqq5) wt_X9_takes wl_RX9_124 rfl hk0 (by decide) rfl rfl hM hS rfl rfl (Nat.le_trans (by decide) hRf) (Nat.le_trans (by decide) hRl) (Nat.le_trans (Nat.le_of_ble_eq_true rfl) hRc) (Nat.le_trans (Nat.le_of_ble_eq_true rfl) hRs) (Nat.le_of_ble_eq_true rfl) dX9_take_7 rfl) hS (fun H locs hM hS => ?_)
  obtain ⟨r9, m7, hqq8, hf⟩ := g1_o hf
  refine ga_i (gr_V (As := [.int r6]) (ci := 9) (rm := { frames := 1, cells := 0, slots := 0, locals := 24 }) E hml hl.1 (c_X9_kept l X c0 r6 m4 hk0 hqq8) wt_X9_kept wl_RX9_67 rfl hk0 (by decide) rfl rfl hM hS rfl rfl (Nat.le_trans (by decide) hRf) (Nat.le_trans (by decide) hRl) (Nat.le_trans (Nat.le_of_ble_eq_true rfl) hRc) (Nat.le_trans (Nat.le_of_ble_eq_true rfl) hRs) (Nat.le_of_ble_eq_true rfl) dX9_take_10 rfl) hS (fun H locs hM hS => ?_)
  exact ge_i E hr hlocks hf hM hS (Nat.le_of_ble_eq_true rfl) (Nat.le_of_ble_eq_true rfl) dX9_take_13
theorem c_X9_take (l : Launch) (X : gX) (c0 : Nat) (u1 : Int32) (m0 : gMem) {res : Int32 × gMem} (hk0 : gk c0 = 9) (hf : f_X9_take c0 u1 m0 = some res) : Met l yX9_take (gWs yX9_take cX9_take 2 (some .int)) { frames := 3, cells := 0, slots := 0, locals := 67 } (va_Pc [.ref (X.1 + c0), .int u1] (gB X m0)) (gQi X res) 0 0 (gA X) :=
  gMet (own := RX9) (by decide +kernel) rfl (Nat.le_of_ble_eq_true rfl) (fun p e s m args below meth c ls E hr hlocks hml hM hl => b_X9_take E hr hlocks hml (Nat.le_refl _) (Nat.le_refl _) (Nat.le_refl _) (Nat.le_refl _) hk0 hf hM va_S.rf hl)
def f_X9_courseOf (c0 : Nat) (u1 : Int32) (u2 : Int32) (u3 : Int32) (m0 : gMem) : Option (Int32 × gMem) := g1 (f_X9_isCourse c0 u1 u2 m0) (fun r3 m1 => if r3 = (0 : Int32) then (g1 (f_X9_fails c0 (1 : Int32) m1) (fun r40 m38 => some (r40, m38))) else (if u3 = (0 : Int32) then (if ¬ ((((100 : Int32) + ((10 : Int32) * u1)) + u2) < 0 ∨ gl (c0 + 1) ≤ (((100 : Int32) + ((10 : Int32) * u1)) + u2).toNatClampNeg) then g1 (f_X9_done c0 (m1 (c0 + 1) (((100 : Int32) + ((10 : Int32) * u1)) + u2).toNatClampNeg) m1) (fun r11 m9 => some (r11, m9)) else none) else (if u3 = (1 : Int32) then (g1 (f_X9_cubesOf c0 u1 u2 m1) (fun r15 m13 => g1 (f_X9_done c0 r15 m13) (fun r18 m16 => some (r18, m16)))) else (if u3 = (2 : Int32) then (g1 (f_X9_above c0 u1 u2 m1) (fun r22 m20 => g1 (f_X9_done c0 r22 m20) (fun r25 m23 => some (r25, m23)))) else (if u3 = (3 : Int32) then (if ¬ (((30 : Int32) + u1) < 0 ∨ gl (c0 + 1) ≤ ((30 : Int32) + u1).toNatClampNeg) then g1 (f_X9_bearsAt c0 u1 u2 (m1 (c0 + 1) ((30 : Int32) + u1).toNatClampNeg) m1) (fun r31 m29 => g1 (f_X9_done c0 r31 m29) (fun r34 m32 => some (r34, m32))) else none) else (g1 (f_X9_fails c0 (2 : Int32) m1) (fun r37 m35 => some (r37, m35))))))))
set_option maxRecDepth 100000 in
set_option maxHeartbeats 4000000 in
theorem b_X9_courseOf {p : Program} {l : Launch} {e : Env} {R : Room} {s : State} {m : MethodId} {args : Array Value} {below : List Frame} {meth : Method} {c : Code} {H : Heap} {locs : List Loc} {ls : Array Slot} {X : gX} (E : gEn p s m args c cX9_courseOf RX9 X) (hr : meth.sig.returnType = (some .int)) (hlocks : meth.locks = false) (hml : c.maxLocals = 4) (hRf : 3 ≤ R.frames) (hRl : 65 ≤ R.locals) (hRc : 0 ≤ R.cells) (hRs : 0 ≤ R.slots) {c0 : Nat} {u1 : Int32} {u2 : Int32} {u3 : Int32} {m0 : gMem} {res : Int32 × gMem} (hk0 : gk c0 = 9) (hf : f_X9_courseOf c0 u1 u2 u3 m0 = some res) (hM : gM X m0 H) (hS : va_S (gA X) s.heap H locs) (hl : lv_has ls 4 [(0, .ref (X.1 + c0)), (1, .int u1), (2, .int u2), (3, .int u3)]) : W p l e R s m args below meth c H locs 0 0 (MQ below (gQi X res) args s 0 0 (gA X)) (F0 m 0 ls []) := by
  obtain ⟨hx, hb⟩ := (⟨E.1, E.2.1⟩ : _ ∧ _)
  unfold f_X9_courseOf at hf
  refine lv_aload_n hx hb dX9_courseOf_0 rfl (lv_at hl 0 rfl) ?_
  refine lv_iload_n hx hb dX9_courseOf_1 rfl (lv_at hl 1 rfl) ?_
  refine lv_iload_n hx hb dX9_courseOf_2 rfl (lv_at hl 2 rfl) ?_
  obtain ⟨r3, m1, hqq2, hf⟩ := g1_o hf
  refine ga_i (gr_V (As := [.int u1, .int u2]) (ci := 9) (rm := { frames := 2, cells := 0, slots := 0, locals := 43 }) E hml hl.1 (c_X9_isCourse l X c0 u1 u2 m0 hk0 hqq2) wt_X9_isCourse wl_RX9_127 rfl hk0 (by decide) rfl rfl hM hS rfl rfl (Nat.le_trans (by decide) hRf) (Nat.le_trans (by decide) hRl) (Nat.le_trans (Nat.le_of_ble_eq_true rfl) hRc) (Nat.le_trans (Nat.le_of_ble_eq_true rfl) hRs) (Nat.le_of_ble_eq_true rfl) dX9_courseOf_3 rfl) hS (fun H locs hM hS => ?_)
  refine lv_if_ne (tgt := 15) hx hb dX9_courseOf_6 (by decide) (fun h4 => ?_) (fun h4 => ?_)
  · have hf := g_f h4 hf
    refine lv_iload_n hx hb dX9_courseOf_15 rfl (lv_at hl 3 rfl) ?_
    by_cases h6 : u3 = (0 : Int32)
    · have hf := g_t h6 hf
      refine lv_tableIn (tgt := 48) hx hb dX9_courseOf_16 (by rw [h6]; decide) (by rw [h6]; decide) (by rw [h6]; rfl) (by decide) ?_
      refine lv_aload_n hx hb dX9_courseOf_48 rfl (lv_at hl 0 rfl) ?_
      refine lv_aload_n hx hb dX9_courseOf_49 rfl (lv_at hl 0 rfl) ?_
      refine GX9_7 E hM hk0 dX9_courseOf_50 ?_
      have hg7 : gk (c0 + 1) = 20 := gkf_9_0 hk0
      refine lv_bipush (v := (100 : Int32)) hx hb dX9_courseOf_53 (by decide) ?_
      refine lv_bipush (v := (10 : Int32)) hx hb dX9_courseOf_55 (by decide) ?_
      refine lv_iload_n hx hb dX9_courseOf_57 rfl (lv_at hl 1 rfl) ?_
      refine lv_imul hx hb dX9_courseOf_58 ?_
      refine lv_iadd hx hb dX9_courseOf_59 ?_
      refine lv_iload_n hx hb dX9_courseOf_60 rfl (lv_at hl 2 rfl) ?_
      refine lv_iadd hx hb dX9_courseOf_61 ?_
      obtain ⟨hi8, hf⟩ := g_ck hf
      refine gg_iald E hM (gk_in hg7 (by decide)) hg7 hi8 dX9_courseOf_62 ?_
      obtain ⟨r11, m9, hqq10, hf⟩ := g1_o hf
      refine ga_i (gr_V (As := [.int (m1 (c0 + 1) (((100 : Int32) + ((10 : Int32) * u1)) + u2).toNatClampNeg)]) (ci := 9) (rm := { frames := 0, cells := 0, slots := 0, locals := 0 }) E hml hl.1 (c_X9_done l X c0 (m1 (c0 + 1) (((100 : Int32) + ((10 : Int32) * u1)) + u2).toNatClampNeg) m1 hk0 hqq10) wt_X9_done wl_RX9_64 rfl hk0 (by decide) rfl rfl hM hS rfl rfl (Nat.le_trans (by decide) hRf) (Nat.le_trans (by decide) hRl) (Nat.le_trans (Nat.le_of_ble_eq_true rfl) hRc) (Nat.le_trans (Nat.le_of_ble_eq_true rfl) hRs) (Nat.le_of_ble_eq_true rfl) dX9_courseOf_63 rfl) hS (fun H locs hM hS => ?_)
      exact ge_i E hr hlocks hf hM hS (Nat.le_of_ble_eq_true rfl) (Nat.le_of_ble_eq_true rfl) dX9_courseOf_66
    have hf := g_f h6 hf
    by_cases h12 : u3 = (1 : Int32)
    · have hf := g_t h12 hf
      refine lv_tableIn (tgt := 67) hx hb dX9_courseOf_16 (by rw [h12]; decide) (by rw [h12]; decide) (by rw [h12]; rfl) (by decide) ?_
      refine lv_aload_n hx hb dX9_courseOf_67 rfl (lv_at hl 0 rfl) ?_
      refine lv_aload_n hx hb dX9_courseOf_68 rfl (lv_at hl 0 rfl) ?_
      refine lv_iload_n hx hb dX9_courseOf_69 rfl (lv_at hl 1 rfl) ?_
      refine lv_iload_n hx hb dX9_courseOf_70 rfl (lv_at hl 2 rfl) ?_
      obtain ⟨r15, m13, hqq14, hf⟩ := g1_o hf
      refine ga_i (gr_V (As := [.int u1, .int u2]) (ci := 9) (rm := { frames := 0, cells := 0, slots := 0, locals := 0 }) E hml hl.1 (c_X9_cubesOf l X c0 u1 u2 m1 hk0 hqq14) wt_X9_cubesOf wl_RX9_94 rfl hk0 (by decide) rfl rfl hM hS rfl rfl (Nat.le_trans (by decide) hRf) (Nat.le_trans (by decide) hRl) (Nat.le_trans (Nat.le_of_ble_eq_true rfl) hRc) (Nat.le_trans (Nat.le_of_ble_eq_true rfl) hRs) (Nat.le_of_ble_eq_true rfl) dX9_courseOf_71 rfl) hS (fun H locs hM hS => ?_)
      obtain ⟨r18, m16, hqq17, hf⟩ := g1_o hf
      refine ga_i (gr_V (As := [.int r15]) (ci := 9) (rm := { frames := 0, cells := 0, slots := 0, locals := 0 }) E hml hl.1 (c_X9_done l X c0 r15 m13 hk0 hqq17) wt_X9_done wl_RX9_64 rfl hk0 (by decide) rfl rfl hM hS rfl rfl (Nat.le_trans (by decide) hRf) (Nat.le_trans (by decide) hRl) (Nat.le_trans (Nat.le_of_ble_eq_true rfl) hRc) (Nat.le_trans (Nat.le_of_ble_eq_true rfl) hRs) (Nat.le_of_ble_eq_true rfl) dX9_courseOf_74 rfl) hS (fun H locs hM hS => ?_)
      exact ge_i E hr hlocks hf hM hS (Nat.le_of_ble_eq_true rfl) (Nat.le_of_ble_eq_true rfl) dX9_courseOf_77
    have hf := g_f h12 hf
    by_cases h19 : u3 = (2 : Int32)
    · have hf := g_t h19 hf
      refine lv_tableIn (tgt := 78) hx hb dX9_courseOf_16 (by rw [h19]; decide) (by rw [h19]; decide) (by rw [h19]; rfl) (by decide) ?_
      refine lv_aload_n hx hb dX9_courseOf_78 rfl (lv_at hl 0 rfl) ?_
      refine lv_aload_n hx hb dX9_courseOf_79 rfl (lv_at hl 0 rfl) ?_
      refine lv_iload_n hx hb dX9_courseOf_80 rfl (lv_at hl 1 rfl) ?_
      refine lv_iload_n hx hb dX9_courseOf_81 rfl (lv_at hl 2 rfl) ?_
      obtain ⟨r22, m20, hqq21, hf⟩ := g1_o hf
      refine ga_i (gr_V (As := [.int u1, .int u2]) (ci := 9) (rm := { frames := 1, cells := 0, slots := 0, locals := 22 }) E hml hl.1 (c_X9_above l X c0 u1 u2 m1 hk0 hqq21) wt_X9_above wl_RX9_100 rfl hk0 (by decide) rfl rfl hM hS rfl rfl (Nat.le_trans (by decide) hRf) (Nat.le_trans (by decide) hRl) (Nat.le_trans (Nat.le_of_ble_eq_true rfl) hRc) (Nat.le_trans (Nat.le_of_ble_eq_true rfl) hRs) (Nat.le_of_ble_eq_true rfl) dX9_courseOf_82 rfl) hS (fun H locs hM hS => ?_)
      obtain ⟨r25, m23, hqq24, hf⟩ := g1_o hf
      refine ga_i (gr_V (As := [.int r22]) (ci := 9) (rm := { frames := 0, cells := 0, slots := 0, locals := 0 }) E hml hl.1 (c_X9_done l X c0 r22 m20 hk0 hqq24) wt_X9_done wl_RX9_64 rfl hk0 (by decide) rfl rfl hM hS rfl rfl (Nat.le_trans (by decide) hRf) (Nat.le_trans (by decide) hRl) (Nat.le_trans (Nat.le_of_ble_eq_true rfl) hRc) (Nat.le_trans (Nat.le_of_ble_eq_true rfl) hRs) (Nat.le_of_ble_eq_true rfl) dX9_courseOf_85 rfl) hS (fun H locs hM hS => ?_)
      exact ge_i E hr hlocks hf hM hS (Nat.le_of_ble_eq_true rfl) (Nat.le_of_ble_eq_true rfl) dX9_courseOf_88
    have hf := g_f h19 hf
    by_cases h26 : u3 = (3 : Int32)
    · have hf := g_t h26 hf
      refine lv_tableIn (tgt := 89) hx hb dX9_courseOf_16 (by rw [h26]; decide) (by rw [h26]; decide) (by rw [h26]; rfl) (by decide) ?_
      refine lv_aload_n hx hb dX9_courseOf_89 rfl (lv_at hl 0 rfl) ?_
      refine lv_aload_n hx hb dX9_courseOf_90 rfl (lv_at hl 0 rfl) ?_
      refine lv_iload_n hx hb dX9_courseOf_91 rfl (lv_at hl 1 rfl) ?_
      refine lv_iload_n hx hb dX9_courseOf_92 rfl (lv_at hl 2 rfl) ?_
      refine lv_aload_n hx hb dX9_courseOf_93 rfl (lv_at hl 0 rfl) ?_
      refine GX9_7 E hM hk0 dX9_courseOf_94 ?_
      have hg27 : gk (c0 + 1) = 20 := gkf_9_0 hk0
      refine lv_bipush (v := (30 : Int32)) hx hb dX9_courseOf_97 (by decide) ?_
      refine lv_iload_n hx hb dX9_courseOf_99 rfl (lv_at hl 1 rfl) ?_
      refine lv_iadd hx hb dX9_courseOf_100 ?_
      obtain ⟨hi28, hf⟩ := g_ck hf
      refine gg_iald E hM (gk_in hg27 (by decide)) hg27 hi28 dX9_courseOf_101 ?_
      obtain ⟨r31, m29, hqq30, hf⟩ := g1_o hf
      refine ga_i (gr_V (As := [.int u1, .int u2, .int (m1 (c0 + 1) ((30 : Int32) + u1).toNatClampNeg)]) (ci := 9) (rm := { frames := 1, cells := 0, slots := 0, locals := 22 }) E hml hl.1 (c_X9_bearsAt l X c0 u1 u2 (m1 (c0 + 1) ((30 : Int32) + u1).toNatClampNeg) m1 hk0 hqq30) wt_X9_bearsAt wl_RX9_97 rfl hk0 (by decide) rfl rfl hM hS rfl rfl (Nat.le_trans (by decide) hRf) (Nat.le_trans (by decide) hRl) (Nat.le_trans (Nat.le_of_ble_eq_true rfl) hRc) (Nat.le_trans (Nat.le_of_ble_eq_true rfl) hRs) (Nat.le_of_ble_eq_true rfl) dX9_courseOf_102 rfl) hS (fun H locs hM hS => ?_)
      obtain ⟨r34, m32, hqq33, hf⟩ := g1_o hf
      refine ga_i (gr_V (As := [.int r31]) (ci := 9) (rm := { frames := 0, cells := 0, slots := 0, locals := 0 }) E hml hl.1 (c_X9_done l X c0 r31 m29 hk0 hqq33) wt_X9_done wl_RX9_64 rfl hk0 (by decide) rfl rfl hM hS rfl rfl (Nat.le_trans (by decide) hRf) (Nat.le_trans (by decide) hRl) (Nat.le_trans (Nat.le_of_ble_eq_true rfl) hRc) (Nat.le_trans (Nat.le_of_ble_eq_true rfl) hRs) (Nat.le_of_ble_eq_true rfl) dX9_courseOf_105 rfl) hS (fun H locs hM hS => ?_)
      exact ge_i E hr hlocks hf hM hS (Nat.le_of_ble_eq_true rfl) (Nat.le_of_ble_eq_true rfl) dX9_courseOf_108
    have hf := g_f h26 hf
    have ah6 := g_tn (z := 0) h6 rfl
    have ah12 := g_tn (z := 1) h12 rfl
    have ah19 := g_tn (z := 2) h19 rfl
    have ah26 := g_tn (z := 3) h26 rfl
    refine lv_tableOut (tgt := 109) hx hb dX9_courseOf_16 (by omega) (by decide) ?_
    refine lv_aload_n hx hb dX9_courseOf_109 rfl (lv_at hl 0 rfl) ?_
    refine lv_iconst (v := (2 : Int32)) hx hb dX9_courseOf_110 (by decide) ?_
    obtain ⟨r37, m35, hqq36, hf⟩ := g1_o hf
    refine ga_i (gr_V (As := [.int (2 : Int32)]) (ci := 9) (rm := { frames := 0, cells := 0, slots := 0, locals := 0 }) E hml hl.1 (c_X9_fails l X c0 (2 : Int32) m1 hk0 hqq36) wt_X9_fails wl_RX9_57 rfl hk0 (by decide) rfl rfl hM hS rfl rfl (Nat.le_trans (by decide) hRf) (Nat.le_trans (by decide) hRl) (Nat.le_trans (Nat.le_of_ble_eq_true rfl) hRc) (Nat.le_trans (Nat.le_of_ble_eq_true rfl) hRs) (Nat.le_of_ble_eq_true rfl) dX9_courseOf_111 rfl) hS (fun H locs hM hS => ?_)
    exact ge_i E hr hlocks hf hM hS (Nat.le_of_ble_eq_true rfl) (Nat.le_of_ble_eq_true rfl) dX9_courseOf_114
  · have hf := g_t h4 hf
    refine lv_aload_n hx hb dX9_courseOf_9 rfl (lv_at hl 0 rfl) ?_
    refine lv_iconst (v := (1 : Int32)) hx hb dX9_courseOf_10 (by decide) ?_
    obtain ⟨r40, m38, hqq39, hf⟩ := g1_o hf
    refine ga_i (gr_V (As := [.int (1 : Int32)]) (ci := 9) (rm := { frames := 0, cells := 0, slots := 0, locals := 0 }) E hml hl.1 (c_X9_fails l X c0 (1 : Int32) m1 hk0 hqq39) wt_X9_fails wl_RX9_57 rfl hk0 (by decide) rfl rfl hM hS rfl rfl (Nat.le_trans (by decide) hRf) (Nat.le_trans (by decide) hRl) (Nat.le_trans (Nat.le_of_ble_eq_true rfl) hRc) (Nat.le_trans (Nat.le_of_ble_eq_true rfl) hRs) (Nat.le_of_ble_eq_true rfl) dX9_courseOf_11 rfl) hS (fun H locs hM hS => ?_)
    exact ge_i E hr hlocks hf hM hS (Nat.le_of_ble_eq_true rfl) (Nat.le_of_ble_eq_true rfl) dX9_courseOf_14
theorem c_X9_courseOf (l : Launch) (X : gX) (c0 : Nat) (u1 : Int32) (u2 : Int32) (u3 : Int32) (m0 : gMem) {res : Int32 × gMem} (hk0 : gk c0 = 9) (hf : f_X9_courseOf c0 u1 u2 u3 m0 = some res) : Met l yX9_courseOf (gWs yX9_courseOf cX9_courseOf 4 (some .int)) { frames := 3, cells := 0, slots := 0, locals := 65 } (va_Pc [.ref (X.1 + c0), .int u1, .int u2, .int u3] (gB X m0)) (gQi X res) 0 0 (gA X) :=
  gMet (own := RX9) (by decide +kernel) rfl (Nat.le_of_ble_eq_true rfl) (fun p e s m args below meth c ls E hr hlocks hml hM hl => b_X9_courseOf E hr hlocks hml (Nat.le_refl _) (Nat.le_refl _) (Nat.le_refl _) (Nat.le_refl _) hk0 hf hM va_S.rf hl)
def L_X9_bearsAgain_20 (c0 : Nat) (u1 : Int32) (u2 : Int32) : Nat → Int32 → Int32 → gMem → Option (Int32 × gMem)
  | 0, _, _, _ => none
  | n + 1, y3, y4, m0 => g1 (f_X9_cubesOf c0 u1 u2 m0) (fun r7 m5 => if r7 ≤ y4 then (g1 (f_X9_done c0 y3 m5) (fun r11 m9 => some (r11, m9))) else (if ¬ ((((100 : Int32) + ((10 : Int32) * u1)) + u2) < 0 ∨ gl (c0 + 1) ≤ (((100 : Int32) + ((10 : Int32) * u1)) + u2).toNatClampNeg) then g1 (f_X9_strength (m5 (c0 + 1) (((100 : Int32) + ((10 : Int32) * u1)) + u2).toNatClampNeg) m5) (fun r16 m14 => if ¬ (((30 : Int32) + u1) < 0 ∨ gl (c0 + 1) ≤ ((30 : Int32) + u1).toNatClampNeg) then gv ((r16 - ((m14 (c0 + 1) ((30 : Int32) + u1).toNatClampNeg) / (10 : Int32)))) (fun x18 => if x18 ≤ (0 : Int32) then (gv ((y3 + (0 : Int32))) (fun x20 => gv (y4 + (1 : Int32)) (fun x21 => L_X9_bearsAgain_20 c0 u1 u2 n x20 x21 m14))) else (gv ((y3 + x18)) (fun x22 => gv (y4 + (1 : Int32)) (fun x23 => L_X9_bearsAgain_20 c0 u1 u2 n x22 x23 m14)))) else none) else none))
def f_X9_bearsAgain (c0 : Nat) (u1 : Int32) (u2 : Int32) (m0 : gMem) : Option (Int32 × gMem) := g1 (f_X9_isCourse c0 u1 u2 m0) (fun r3 m1 => if r3 = (0 : Int32) then (g1 (f_X9_fails c0 (1 : Int32) m1) (fun r26 m24 => some (r26, m24))) else (L_X9_bearsAgain_20 c0 u1 u2 gF (0 : Int32) (0 : Int32) m1))
set_option maxRecDepth 100000 in
set_option maxHeartbeats 4000000 in
theorem l_X9_bearsAgain_20 {p : Program} {l : Launch} {e : Env} {R : Room} {s : State} {m : MethodId} {args : Array Value} {below : List Frame} {meth : Method} {c : Code} {cells slots : Nat} {X : gX} (E : gEn p s m args c cX9_bearsAgain RX9 X) (hr : meth.sig.returnType = (some .int)) (hlocks : meth.locks = false) (hml : c.maxLocals = 6) (hRf : 3 ≤ R.frames) (hRl : 65 ≤ R.locals) (hRc : 0 ≤ R.cells) (hRs : 0 ≤ R.slots) (hc : cells ≤ 0) (hs : slots ≤ 0) (c0 : Nat) (u1 : Int32) (u2 : Int32) (hk0 : gk c0 = 9) {res : Int32 × gMem} :
    ∀ (n : Nat) (y3 : Int32) (y4 : Int32) (m0 : gMem) (H : Heap) (locs : List Loc) (ls : Array Slot), L_X9_bearsAgain_20 c0 u1 u2 n y3 y4 m0 = some res → gM X m0 H → va_S (gA X) s.heap H locs → lv_has ls 6 [(0, .ref (X.1 + c0)), (1, .int u1), (2, .int u2), (3, .int y3), (4, .int y4)] → W p l e R s m args below meth c H locs cells slots (MQ below (gQi X res) args s 0 0 (gA X)) (F0 m 20 ls []) := by
  obtain ⟨hx, hb⟩ := (⟨E.1, E.2.1⟩ : _ ∧ _)
  intro n
  induction n with
  | zero =>
    intro _ _ _ _ _ _ hf
    cases hf
  | succ n ih =>
    intro y3 y4 m0 H locs ls hf hM hS hl
    rw [L_X9_bearsAgain_20] at hf
    refine lv_iload hx hb dX9_bearsAgain_20 (lv_at hl 4 rfl) ?_
    refine lv_aload_n hx hb dX9_bearsAgain_22 rfl (lv_at hl 0 rfl) ?_
    refine lv_iload_n hx hb dX9_bearsAgain_23 rfl (lv_at hl 1 rfl) ?_
    refine lv_iload_n hx hb dX9_bearsAgain_24 rfl (lv_at hl 2 rfl) ?_
    obtain ⟨r7, m5, hqq6, hf⟩ := g1_o hf
    refine ga_i (gr_V (As := [.int u1, .int u2]) (ci := 9) (rm := { frames := 0, cells := 0, slots := 0, locals := 0 }) E hml hl.1 (c_X9_cubesOf l X c0 u1 u2 m0 hk0 hqq6) wt_X9_cubesOf wl_RX9_94 rfl hk0 (by decide) rfl rfl hM hS rfl rfl (Nat.le_trans (by decide) hRf) (Nat.le_trans (by decide) hRl) (Nat.le_trans hc hRc) (Nat.le_trans hs hRs) (Nat.le_of_ble_eq_true rfl) dX9_bearsAgain_25 rfl) hS (fun H locs hM hS => ?_)
    refine lv_icmp_ge (tgt := 83) hx hb dX9_bearsAgain_28 (by decide) (fun h8 => ?_) (fun h8 => ?_)
    · have hf := g_t h8 hf
      refine lv_aload_n hx hb dX9_bearsAgain_83 rfl (lv_at hl 0 rfl) ?_
      refine lv_iload_n hx hb dX9_bearsAgain_84 rfl (lv_at hl 3 rfl) ?_
      obtain ⟨r11, m9, hqq10, hf⟩ := g1_o hf
      refine ga_i (gr_V (As := [.int y3]) (ci := 9) (rm := { frames := 0, cells := 0, slots := 0, locals := 0 }) E hml hl.1 (c_X9_done l X c0 y3 m5 hk0 hqq10) wt_X9_done wl_RX9_64 rfl hk0 (by decide) rfl rfl hM hS rfl rfl (Nat.le_trans (by decide) hRf) (Nat.le_trans (by decide) hRl) (Nat.le_trans hc hRc) (Nat.le_trans hs hRs) (Nat.le_of_ble_eq_true rfl) dX9_bearsAgain_85 rfl) hS (fun H locs hM hS => ?_)
      exact ge_i E hr hlocks hf hM hS hc hs dX9_bearsAgain_88
    · have hf := g_f h8 hf
      refine lv_aload_n hx hb dX9_bearsAgain_31 rfl (lv_at hl 0 rfl) ?_
      refine GX9_7 E hM hk0 dX9_bearsAgain_32 ?_
      have hg12 : gk (c0 + 1) = 20 := gkf_9_0 hk0
      refine lv_bipush (v := (100 : Int32)) hx hb dX9_bearsAgain_35 (by decide) ?_
      refine lv_bipush (v := (10 : Int32)) hx hb dX9_bearsAgain_37 (by decide) ?_
      refine lv_iload_n hx hb dX9_bearsAgain_39 rfl (lv_at hl 1 rfl) ?_
      refine lv_imul hx hb dX9_bearsAgain_40 ?_
      refine lv_iadd hx hb dX9_bearsAgain_41 ?_
      refine lv_iload_n hx hb dX9_bearsAgain_42 rfl (lv_at hl 2 rfl) ?_
      refine lv_iadd hx hb dX9_bearsAgain_43 ?_
      obtain ⟨hi13, hf⟩ := g_ck hf
      refine gg_iald E hM (gk_in hg12 (by decide)) hg12 hi13 dX9_bearsAgain_44 ?_
      obtain ⟨r16, m14, hqq15, hf⟩ := g1_o hf
      refine ga_i (gr_S (As := [.int (m5 (c0 + 1) (((100 : Int32) + ((10 : Int32) * u1)) + u2).toNatClampNeg)]) (rm := { frames := 0, cells := 0, slots := 0, locals := 0 }) E hml hl.1 (c_X9_strength l X (m5 (c0 + 1) (((100 : Int32) + ((10 : Int32) * u1)) + u2).toNatClampNeg) m5 hqq15) wt_X9_strength wl_RX9_91 rfl hM hS rfl rfl (Nat.le_trans (by decide) hRf) (Nat.le_trans (by decide) hRl) (Nat.le_trans hc hRc) (Nat.le_trans hs hRs) (Nat.le_of_ble_eq_true rfl) dX9_bearsAgain_45 rfl) hS (fun H locs hM hS => ?_)
      refine lv_aload_n hx hb dX9_bearsAgain_48 rfl (lv_at hl 0 rfl) ?_
      refine GX9_7 E hM hk0 dX9_bearsAgain_49 ?_
      refine lv_bipush (v := (30 : Int32)) hx hb dX9_bearsAgain_52 (by decide) ?_
      refine lv_iload_n hx hb dX9_bearsAgain_54 rfl (lv_at hl 1 rfl) ?_
      refine lv_iadd hx hb dX9_bearsAgain_55 ?_
      obtain ⟨hi17, hf⟩ := g_ck hf
      refine gg_iald E hM (gk_in hg12 (by decide)) hg12 hi17 dX9_bearsAgain_56 ?_
      refine lv_bipush (v := (10 : Int32)) hx hb dX9_bearsAgain_57 (by decide) ?_
      refine lv_idiv hx hb dX9_bearsAgain_59 (by decide) ?_
      refine lv_isub hx hb dX9_bearsAgain_60 ?_
      obtain ⟨x18, ex18, hf⟩ := gv_o hf
      rw [← ex18]
      refine lv_istore (lv' := [(5, .int x18), (0, .ref (X.1 + c0)), (1, .int u1), (2, .int u2), (3, .int y3), (4, .int y4)]) hx hb dX9_bearsAgain_61 hl (by decide) rfl (fun ls hl => ?_)
      refine lv_iload_n hx hb dX9_bearsAgain_63 rfl (lv_at hl 4 rfl) ?_
      refine lv_iload hx hb dX9_bearsAgain_64 (lv_at hl 0 rfl) ?_
      refine lv_if_le (tgt := 74) hx hb dX9_bearsAgain_66 (by decide) (fun h19 => ?_) (fun h19 => ?_)
      · have hf := g_t h19 hf
        refine lv_iconst (v := (0 : Int32)) hx hb dX9_bearsAgain_74 (by decide) ?_
        refine lv_iadd hx hb dX9_bearsAgain_75 ?_
        obtain ⟨x20, ex20, hf⟩ := gv_o hf
        rw [← ex20]
        refine lv_istore_n (lv' := [(3, .int x20), (5, .int x18), (0, .ref (X.1 + c0)), (1, .int u1), (2, .int u2), (4, .int y4)]) hx hb dX9_bearsAgain_76 rfl hl (by decide) rfl (fun ls hl => ?_)
        obtain ⟨x21, ex21, hf⟩ := gv_o hf
        refine lv_iinc (v := x21) (lv' := [(4, .int x21), (3, .int x20), (5, .int x18), (0, .ref (X.1 + c0)), (1, .int u1), (2, .int u2)]) hx hb dX9_bearsAgain_77 hl (k := 5) rfl (by rw [ex21]; rfl) (by decide) rfl (fun ls hl => ?_)
        refine lv_goto (tgt := 20) hx hb dX9_bearsAgain_80 (by decide) ?_
        exact ih x20 x21 m14 _ _ _ hf hM hS (lv_sub hl [3, 4, 5, 1, 0] rfl)
      · have hf := g_f h19 hf
        refine lv_iload hx hb dX9_bearsAgain_69 (lv_at hl 0 rfl) ?_
        refine lv_goto (tgt := 75) hx hb dX9_bearsAgain_71 (by decide) ?_
        refine lv_iadd hx hb dX9_bearsAgain_75 ?_
        obtain ⟨x22, ex22, hf⟩ := gv_o hf
        rw [← ex22]
        refine lv_istore_n (lv' := [(3, .int x22), (5, .int x18), (0, .ref (X.1 + c0)), (1, .int u1), (2, .int u2), (4, .int y4)]) hx hb dX9_bearsAgain_76 rfl hl (by decide) rfl (fun ls hl => ?_)
        obtain ⟨x23, ex23, hf⟩ := gv_o hf
        refine lv_iinc (v := x23) (lv' := [(4, .int x23), (3, .int x22), (5, .int x18), (0, .ref (X.1 + c0)), (1, .int u1), (2, .int u2)]) hx hb dX9_bearsAgain_77 hl (k := 5) rfl (by rw [ex23]; rfl) (by decide) rfl (fun ls hl => ?_)
        refine lv_goto (tgt := 20) hx hb dX9_bearsAgain_80 (by decide) ?_
        exact ih x22 x23 m14 _ _ _ hf hM hS (lv_sub hl [3, 4, 5, 1, 0] rfl)
set_option maxRecDepth 100000 in
set_option maxHeartbeats 4000000 in
theorem b_X9_bearsAgain {p : Program} {l : Launch} {e : Env} {R : Room} {s : State} {m : MethodId} {args : Array Value} {below : List Frame} {meth : Method} {c : Code} {H : Heap} {locs : List Loc} {ls : Array Slot} {X : gX} (E : gEn p s m args c cX9_bearsAgain RX9 X) (hr : meth.sig.returnType = (some .int)) (hlocks : meth.locks = false) (hml : c.maxLocals = 6) (hRf : 3 ≤ R.frames) (hRl : 65 ≤ R.locals) (hRc : 0 ≤ R.cells) (hRs : 0 ≤ R.slots) {c0 : Nat} {u1 : Int32} {u2 : Int32} {m0 : gMem} {res : Int32 × gMem} (hk0 : gk c0 = 9) (hf : f_X9_bearsAgain c0 u1 u2 m0 = some res) (hM : gM X m0 H) (hS : va_S (gA X) s.heap H locs) (hl : lv_has ls 6 [(0, .ref (X.1 + c0)), (1, .int u1), (2, .int u2)]) : W p l e R s m args below meth c H locs 0 0 (MQ below (gQi X res) args s 0 0 (gA X)) (F0 m 0 ls []) := by
  obtain ⟨hx, hb⟩ := (⟨E.1, E.2.1⟩ : _ ∧ _)
  unfold f_X9_bearsAgain at hf
  refine lv_aload_n hx hb dX9_bearsAgain_0 rfl (lv_at hl 0 rfl) ?_
  refine lv_iload_n hx hb dX9_bearsAgain_1 rfl (lv_at hl 1 rfl) ?_
  refine lv_iload_n hx hb dX9_bearsAgain_2 rfl (lv_at hl 2 rfl) ?_
  obtain ⟨r3, m1, hqq2, hf⟩ := g1_o hf
  refine ga_i (gr_V (As := [.int u1, .int u2]) (ci := 9) (rm := { frames := 2, cells := 0, slots := 0, locals := 43 }) E hml hl.1 (c_X9_isCourse l X c0 u1 u2 m0 hk0 hqq2) wt_X9_isCourse wl_RX9_127 rfl hk0 (by decide) rfl rfl hM hS rfl rfl (Nat.le_trans (by decide) hRf) (Nat.le_trans (by decide) hRl) (Nat.le_trans (Nat.le_of_ble_eq_true rfl) hRc) (Nat.le_trans (Nat.le_of_ble_eq_true rfl) hRs) (Nat.le_of_ble_eq_true rfl) dX9_bearsAgain_3 rfl) hS (fun H locs hM hS => ?_)
  refine lv_if_ne (tgt := 15) hx hb dX9_bearsAgain_6 (by decide) (fun h4 => ?_) (fun h4 => ?_)
  · have hf := g_f h4 hf
    refine lv_iconst (v := (0 : Int32)) hx hb dX9_bearsAgain_15 (by decide) ?_
    refine lv_istore_n (lv' := [(3, .int (0 : Int32)), (0, .ref (X.1 + c0)), (1, .int u1), (2, .int u2)]) hx hb dX9_bearsAgain_16 rfl hl (by decide) rfl (fun ls hl => ?_)
    refine lv_iconst (v := (0 : Int32)) hx hb dX9_bearsAgain_17 (by decide) ?_
    refine lv_istore (lv' := [(4, .int (0 : Int32)), (3, .int (0 : Int32)), (0, .ref (X.1 + c0)), (1, .int u1), (2, .int u2)]) hx hb dX9_bearsAgain_18 hl (by decide) rfl (fun ls hl => ?_)
    refine l_X9_bearsAgain_20 E hr hlocks hml hRf hRl hRc hRs (Nat.le_of_ble_eq_true rfl) (Nat.le_of_ble_eq_true rfl) c0 u1 u2 hk0 gF (0 : Int32) (0 : Int32) m1 _ _ _ hf hM hS (lv_sub hl [2, 3, 4, 1, 0] rfl)
  · have hf := g_t h4 hf
    refine lv_aload_n hx hb dX9_bearsAgain_9 rfl (lv_at hl 0 rfl) ?_
    refine lv_iconst (v := (1 : Int32)) hx hb dX9_bearsAgain_10 (by decide) ?_
    obtain ⟨r26, m24, hqq25, hf⟩ := g1_o hf
    refine ga_i (gr_V (As := [.int (1 : Int32)]) (ci := 9) (rm := { frames := 0, cells := 0, slots := 0, locals := 0 }) E hml hl.1 (c_X9_fails l X c0 (1 : Int32) m1 hk0 hqq25) wt_X9_fails wl_RX9_57 rfl hk0 (by decide) rfl rfl hM hS rfl rfl (Nat.le_trans (by decide) hRf) (Nat.le_trans (by decide) hRl) (Nat.le_trans (Nat.le_of_ble_eq_true rfl) hRc) (Nat.le_trans (Nat.le_of_ble_eq_true rfl) hRs) (Nat.le_of_ble_eq_true rfl) dX9_bearsAgain_11 rfl) hS (fun H locs hM hS => ?_)
    exact ge_i E hr hlocks hf hM hS (Nat.le_of_ble_eq_true rfl) (Nat.le_of_ble_eq_true rfl) dX9_bearsAgain_14
theorem c_X9_bearsAgain (l : Launch) (X : gX) (c0 : Nat) (u1 : Int32) (u2 : Int32) (m0 : gMem) {res : Int32 × gMem} (hk0 : gk c0 = 9) (hf : f_X9_bearsAgain c0 u1 u2 m0 = some res) : Met l yX9_bearsAgain (gWs yX9_bearsAgain cX9_bearsAgain 6 (some .int)) { frames := 3, cells := 0, slots := 0, locals := 65 } (va_Pc [.ref (X.1 + c0), .int u1, .int u2] (gB X m0)) (gQi X res) 0 0 (gA X) :=
  gMet (own := RX9) (by decide +kernel) rfl (Nat.le_of_ble_eq_true rfl) (fun p e s m args below meth c ls E hr hlocks hml hM hl => b_X9_bearsAgain E hr hlocks hml (Nat.le_refl _) (Nat.le_refl _) (Nat.le_refl _) (Nat.le_refl _) hk0 hf hM va_S.rf hl)
def f_X9_cubesIn (c0 : Nat) (u1 : Int32) (m0 : gMem) : Option (Int32 × gMem) := if ¬ (((36 : Int32) + u1) < 0 ∨ gl (c0 + 1) ≤ ((36 : Int32) + u1).toNatClampNeg) then g1 (f_X9_sum c0 ((160 : Int32) + ((10 : Int32) * u1)) (m0 (c0 + 1) ((36 : Int32) + u1).toNatClampNeg) m0) (fun r5 m3 => some (r5, m3)) else none
set_option maxRecDepth 100000 in
set_option maxHeartbeats 4000000 in
theorem b_X9_cubesIn {p : Program} {l : Launch} {e : Env} {R : Room} {s : State} {m : MethodId} {args : Array Value} {below : List Frame} {meth : Method} {c : Code} {H : Heap} {locs : List Loc} {ls : Array Slot} {X : gX} (E : gEn p s m args c cX9_cubesIn RX9 X) (hr : meth.sig.returnType = (some .int)) (hlocks : meth.locks = false) (hml : c.maxLocals = 2) (hRf : 1 ≤ R.frames) (hRl : 24 ≤ R.locals) (hRc : 0 ≤ R.cells) (hRs : 0 ≤ R.slots) {c0 : Nat} {u1 : Int32} {m0 : gMem} {res : Int32 × gMem} (hk0 : gk c0 = 9) (hf : f_X9_cubesIn c0 u1 m0 = some res) (hM : gM X m0 H) (hS : va_S (gA X) s.heap H locs) (hl : lv_has ls 2 [(0, .ref (X.1 + c0)), (1, .int u1)]) : W p l e R s m args below meth c H locs 0 0 (MQ below (gQi X res) args s 0 0 (gA X)) (F0 m 0 ls []) := by
  obtain ⟨hx, hb⟩ := (⟨E.1, E.2.1⟩ : _ ∧ _)
  unfold f_X9_cubesIn at hf
  refine lv_aload_n hx hb dX9_cubesIn_0 rfl (lv_at hl 0 rfl) ?_
  refine lv_sipush (v := (160 : Int32)) hx hb dX9_cubesIn_1 (by decide) ?_
  refine lv_bipush (v := (10 : Int32)) hx hb dX9_cubesIn_4 (by decide) ?_
  refine lv_iload_n hx hb dX9_cubesIn_6 rfl (lv_at hl 1 rfl) ?_
  refine lv_imul hx hb dX9_cubesIn_7 ?_
  refine lv_iadd hx hb dX9_cubesIn_8 ?_
  refine lv_aload_n hx hb dX9_cubesIn_9 rfl (lv_at hl 0 rfl) ?_
  refine GX9_7 E hM hk0 dX9_cubesIn_10 ?_
  have hg1 : gk (c0 + 1) = 20 := gkf_9_0 hk0
  refine lv_bipush (v := (36 : Int32)) hx hb dX9_cubesIn_13 (by decide) ?_
  refine lv_iload_n hx hb dX9_cubesIn_15 rfl (lv_at hl 1 rfl) ?_
  refine lv_iadd hx hb dX9_cubesIn_16 ?_
  obtain ⟨hi2, hf⟩ := g_ck hf
  refine gg_iald E hM (gk_in hg1 (by decide)) hg1 hi2 dX9_cubesIn_17 ?_
  obtain ⟨r5, m3, hqq4, hf⟩ := g1_o hf
  refine ga_i (gr_V (As := [.int ((160 : Int32) + ((10 : Int32) * u1)), .int (m0 (c0 + 1) ((36 : Int32) + u1).toNatClampNeg)]) (ci := 9) (rm := { frames := 0, cells := 0, slots := 0, locals := 0 }) E hml hl.1 (c_X9_sum l X c0 ((160 : Int32) + ((10 : Int32) * u1)) (m0 (c0 + 1) ((36 : Int32) + u1).toNatClampNeg) m0 hk0 hqq4) wt_X9_sum wl_RX9_131 rfl hk0 (by decide) rfl rfl hM hS rfl rfl (Nat.le_trans (by decide) hRf) (Nat.le_trans (by decide) hRl) (Nat.le_trans (Nat.le_of_ble_eq_true rfl) hRc) (Nat.le_trans (Nat.le_of_ble_eq_true rfl) hRs) (Nat.le_of_ble_eq_true rfl) dX9_cubesIn_18 rfl) hS (fun H locs hM hS => ?_)
  exact ge_i E hr hlocks hf hM hS (Nat.le_of_ble_eq_true rfl) (Nat.le_of_ble_eq_true rfl) dX9_cubesIn_21
theorem c_X9_cubesIn (l : Launch) (X : gX) (c0 : Nat) (u1 : Int32) (m0 : gMem) {res : Int32 × gMem} (hk0 : gk c0 = 9) (hf : f_X9_cubesIn c0 u1 m0 = some res) : Met l yX9_cubesIn (gWs yX9_cubesIn cX9_cubesIn 2 (some .int)) { frames := 1, cells := 0, slots := 0, locals := 24 } (va_Pc [.ref (X.1 + c0), .int u1] (gB X m0)) (gQi X res) 0 0 (gA X) :=
  gMet (own := RX9) (by decide +kernel) rfl (Nat.le_of_ble_eq_true rfl) (fun p e s m args below meth c ls E hr hlocks hml hM hl => b_X9_cubesIn E hr hlocks hml (Nat.le_refl _) (Nat.le_refl _) (Nat.le_refl _) (Nat.le_refl _) hk0 hf hM va_S.rf hl)
def L_X9_shownAt_4 (c0 : Nat) (u1 : Int32) : Nat → Int32 → Int32 → gMem → Option (Int32 × gMem)
  | 0, _, _, _ => none
  | n + 1, y2, y3, m0 => if ¬ ((61 : Int32) < 0 ∨ gl (c0 + 1) ≤ (61 : Int32).toNatClampNeg) then if (m0 (c0 + 1) (61 : Int32).toNatClampNeg) ≤ y3 then (some (y2, m0)) else (if ¬ (((86 : Int32) + y3) < 0 ∨ gl (c0 + 1) ≤ ((86 : Int32) + y3).toNatClampNeg) then if (m0 (c0 + 1) ((86 : Int32) + y3).toNatClampNeg) = u1 then (gv ((y2 + (1 : Int32))) (fun x8 => gv (y3 + (1 : Int32)) (fun x9 => L_X9_shownAt_4 c0 u1 n x8 x9 m0))) else (gv ((y2 + (0 : Int32))) (fun x6 => gv (y3 + (1 : Int32)) (fun x7 => L_X9_shownAt_4 c0 u1 n x6 x7 m0))) else none) else none
def f_X9_shownAt (c0 : Nat) (u1 : Int32) (m0 : gMem) : Option (Int32 × gMem) := L_X9_shownAt_4 c0 u1 gF (0 : Int32) (0 : Int32) m0
set_option maxRecDepth 100000 in
set_option maxHeartbeats 4000000 in
theorem l_X9_shownAt_4 {p : Program} {l : Launch} {e : Env} {R : Room} {s : State} {m : MethodId} {args : Array Value} {below : List Frame} {meth : Method} {c : Code} {cells slots : Nat} {X : gX} (E : gEn p s m args c cX9_shownAt RX9 X) (hr : meth.sig.returnType = (some .int)) (hlocks : meth.locks = false) (hml : c.maxLocals = 4) (hRf : 0 ≤ R.frames) (hRl : 0 ≤ R.locals) (hRc : 0 ≤ R.cells) (hRs : 0 ≤ R.slots) (hc : cells ≤ 0) (hs : slots ≤ 0) (c0 : Nat) (u1 : Int32) (hk0 : gk c0 = 9) {res : Int32 × gMem} :
    ∀ (n : Nat) (y2 : Int32) (y3 : Int32) (m0 : gMem) (H : Heap) (locs : List Loc) (ls : Array Slot), L_X9_shownAt_4 c0 u1 n y2 y3 m0 = some res → gM X m0 H → va_S (gA X) s.heap H locs → lv_has ls 4 [(0, .ref (X.1 + c0)), (1, .int u1), (2, .int y2), (3, .int y3)] → W p l e R s m args below meth c H locs cells slots (MQ below (gQi X res) args s 0 0 (gA X)) (F0 m 4 ls []) := by
  obtain ⟨hx, hb⟩ := (⟨E.1, E.2.1⟩ : _ ∧ _)
  intro n
  induction n with
  | zero =>
    intro _ _ _ _ _ _ hf
    cases hf
  | succ n ih =>
    intro y2 y3 m0 H locs ls hf hM hS hl
    rw [L_X9_shownAt_4] at hf
    refine lv_iload_n hx hb dX9_shownAt_4 rfl (lv_at hl 3 rfl) ?_
    refine lv_aload_n hx hb dX9_shownAt_5 rfl (lv_at hl 0 rfl) ?_
    refine GX9_7 E hM hk0 dX9_shownAt_6 ?_
    have hg1 : gk (c0 + 1) = 20 := gkf_9_0 hk0
    refine lv_bipush (v := (61 : Int32)) hx hb dX9_shownAt_9 (by decide) ?_
    obtain ⟨hi2, hf⟩ := g_ck hf
    refine gg_iald E hM (gk_in hg1 (by decide)) hg1 hi2 dX9_shownAt_11 ?_
    refine lv_icmp_ge (tgt := 42) hx hb dX9_shownAt_12 (by decide) (fun h3 => ?_) (fun h3 => ?_)
    · have hf := g_t h3 hf
      refine lv_iload_n hx hb dX9_shownAt_42 rfl (lv_at hl 2 rfl) ?_
      exact ge_i E hr hlocks hf hM hS hc hs dX9_shownAt_43
    · have hf := g_f h3 hf
      refine lv_iload_n hx hb dX9_shownAt_15 rfl (lv_at hl 2 rfl) ?_
      refine lv_aload_n hx hb dX9_shownAt_16 rfl (lv_at hl 0 rfl) ?_
      refine GX9_7 E hM hk0 dX9_shownAt_17 ?_
      refine lv_bipush (v := (86 : Int32)) hx hb dX9_shownAt_20 (by decide) ?_
      refine lv_iload_n hx hb dX9_shownAt_22 rfl (lv_at hl 3 rfl) ?_
      refine lv_iadd hx hb dX9_shownAt_23 ?_
      obtain ⟨hi4, hf⟩ := g_ck hf
      refine gg_iald E hM (gk_in hg1 (by decide)) hg1 hi4 dX9_shownAt_24 ?_
      refine lv_iload_n hx hb dX9_shownAt_25 rfl (lv_at hl 1 rfl) ?_
      refine lv_icmp_ne (tgt := 33) hx hb dX9_shownAt_26 (by decide) (fun h5 => ?_) (fun h5 => ?_)
      · have hf := g_f h5 hf
        refine lv_iconst (v := (0 : Int32)) hx hb dX9_shownAt_33 (by decide) ?_
        refine lv_iadd hx hb dX9_shownAt_34 ?_
        obtain ⟨x6, ex6, hf⟩ := gv_o hf
        rw [← ex6]
        refine lv_istore_n (lv' := [(2, .int x6), (0, .ref (X.1 + c0)), (1, .int u1), (3, .int y3)]) hx hb dX9_shownAt_35 rfl hl (by decide) rfl (fun ls hl => ?_)
        obtain ⟨x7, ex7, hf⟩ := gv_o hf
        refine lv_iinc (v := x7) (lv' := [(3, .int x7), (2, .int x6), (0, .ref (X.1 + c0)), (1, .int u1)]) hx hb dX9_shownAt_36 hl (k := 3) rfl (by rw [ex7]; rfl) (by decide) rfl (fun ls hl => ?_)
        refine lv_goto (tgt := 4) hx hb dX9_shownAt_39 (by decide) ?_
        exact ih x6 x7 m0 _ _ _ hf hM hS (lv_sub hl [2, 3, 1, 0] rfl)
      · have hf := g_t h5 hf
        refine lv_iconst (v := (1 : Int32)) hx hb dX9_shownAt_29 (by decide) ?_
        refine lv_goto (tgt := 34) hx hb dX9_shownAt_30 (by decide) ?_
        refine lv_iadd hx hb dX9_shownAt_34 ?_
        obtain ⟨x8, ex8, hf⟩ := gv_o hf
        rw [← ex8]
        refine lv_istore_n (lv' := [(2, .int x8), (0, .ref (X.1 + c0)), (1, .int u1), (3, .int y3)]) hx hb dX9_shownAt_35 rfl hl (by decide) rfl (fun ls hl => ?_)
        obtain ⟨x9, ex9, hf⟩ := gv_o hf
        refine lv_iinc (v := x9) (lv' := [(3, .int x9), (2, .int x8), (0, .ref (X.1 + c0)), (1, .int u1)]) hx hb dX9_shownAt_36 hl (k := 3) rfl (by rw [ex9]; rfl) (by decide) rfl (fun ls hl => ?_)
        refine lv_goto (tgt := 4) hx hb dX9_shownAt_39 (by decide) ?_
        exact ih x8 x9 m0 _ _ _ hf hM hS (lv_sub hl [2, 3, 1, 0] rfl)
set_option maxRecDepth 100000 in
set_option maxHeartbeats 4000000 in
theorem b_X9_shownAt {p : Program} {l : Launch} {e : Env} {R : Room} {s : State} {m : MethodId} {args : Array Value} {below : List Frame} {meth : Method} {c : Code} {H : Heap} {locs : List Loc} {ls : Array Slot} {X : gX} (E : gEn p s m args c cX9_shownAt RX9 X) (hr : meth.sig.returnType = (some .int)) (hlocks : meth.locks = false) (hml : c.maxLocals = 4) (hRf : 0 ≤ R.frames) (hRl : 0 ≤ R.locals) (hRc : 0 ≤ R.cells) (hRs : 0 ≤ R.slots) {c0 : Nat} {u1 : Int32} {m0 : gMem} {res : Int32 × gMem} (hk0 : gk c0 = 9) (hf : f_X9_shownAt c0 u1 m0 = some res) (hM : gM X m0 H) (hS : va_S (gA X) s.heap H locs) (hl : lv_has ls 4 [(0, .ref (X.1 + c0)), (1, .int u1)]) : W p l e R s m args below meth c H locs 0 0 (MQ below (gQi X res) args s 0 0 (gA X)) (F0 m 0 ls []) := by
  obtain ⟨hx, hb⟩ := (⟨E.1, E.2.1⟩ : _ ∧ _)
  unfold f_X9_shownAt at hf
  refine lv_iconst (v := (0 : Int32)) hx hb dX9_shownAt_0 (by decide) ?_
  refine lv_istore_n (lv' := [(2, .int (0 : Int32)), (0, .ref (X.1 + c0)), (1, .int u1)]) hx hb dX9_shownAt_1 rfl hl (by decide) rfl (fun ls hl => ?_)
  refine lv_iconst (v := (0 : Int32)) hx hb dX9_shownAt_2 (by decide) ?_
  refine lv_istore_n (lv' := [(3, .int (0 : Int32)), (2, .int (0 : Int32)), (0, .ref (X.1 + c0)), (1, .int u1)]) hx hb dX9_shownAt_3 rfl hl (by decide) rfl (fun ls hl => ?_)
  refine l_X9_shownAt_4 E hr hlocks hml hRf hRl hRc hRs (Nat.le_of_ble_eq_true rfl) (Nat.le_of_ble_eq_true rfl) c0 u1 hk0 gF (0 : Int32) (0 : Int32) m0 _ _ _ hf hM hS (lv_sub hl [2, 3, 1, 0] rfl)
theorem c_X9_shownAt (l : Launch) (X : gX) (c0 : Nat) (u1 : Int32) (m0 : gMem) {res : Int32 × gMem} (hk0 : gk c0 = 9) (hf : f_X9_shownAt c0 u1 m0 = some res) : Met l yX9_shownAt (gWs yX9_shownAt cX9_shownAt 4 (some .int)) { frames := 0, cells := 0, slots := 0, locals := 0 } (va_Pc [.ref (X.1 + c0), .int u1] (gB X m0)) (gQi X res) 0 0 (gA X) :=
  gMet (own := RX9) (by decide +kernel) rfl (Nat.le_of_ble_eq_true rfl) (fun p e s m args below meth c ls E hr hlocks hml hM hl => b_X9_shownAt E hr hlocks hml (Nat.le_refl _) (Nat.le_refl _) (Nat.le_refl _) (Nat.le_refl _) hk0 hf hM va_S.rf hl)
def f_X9_towerOf (c0 : Nat) (u1 : Int32) (u2 : Int32) (m0 : gMem) : Option (Int32 × gMem) := g1 (f_X9_isTower c0 u1 m0) (fun r3 m1 => if r3 = (0 : Int32) then (g1 (f_X9_fails c0 (1 : Int32) m1) (fun r43 m41 => some (r43, m41))) else (if u2 = (0 : Int32) then (if ¬ (((36 : Int32) + u1) < 0 ∨ gl (c0 + 1) ≤ ((36 : Int32) + u1).toNatClampNeg) then g1 (f_X9_done c0 (m1 (c0 + 1) ((36 : Int32) + u1).toNatClampNeg) m1) (fun r11 m9 => some (r11, m9)) else none) else (if u2 = (1 : Int32) then (g1 (f_X9_cubesIn c0 u1 m1) (fun r15 m13 => g1 (f_X9_done c0 r15 m13) (fun r18 m16 => some (r18, m16)))) else (if u2 = (2 : Int32) then (if ¬ (((30 : Int32) + u1) < 0 ∨ gl (c0 + 1) ≤ ((30 : Int32) + u1).toNatClampNeg) then g1 (f_X9_done c0 (m1 (c0 + 1) ((30 : Int32) + u1).toNatClampNeg) m1) (fun r24 m22 => some (r24, m22)) else none) else (if u2 = (3 : Int32) then (g1 (f_X9_shownAt c0 u1 m1) (fun r28 m26 => g1 (f_X9_done c0 r28 m26) (fun r31 m29 => some (r31, m29)))) else (if u2 = (4 : Int32) then (if ¬ (((42 : Int32) + u1) < 0 ∨ gl (c0 + 1) ≤ ((42 : Int32) + u1).toNatClampNeg) then g1 (f_X9_done c0 (m1 (c0 + 1) ((42 : Int32) + u1).toNatClampNeg) m1) (fun r37 m35 => some (r37, m35)) else none) else (g1 (f_X9_fails c0 (2 : Int32) m1) (fun r40 m38 => some (r40, m38)))))))))
set_option maxRecDepth 100000 in
set_option maxHeartbeats 4000000 in
theorem b_X9_towerOf {p : Program} {l : Launch} {e : Env} {R : Room} {s : State} {m : MethodId} {args : Array Value} {below : List Frame} {meth : Method} {c : Code} {H : Heap} {locs : List Loc} {ls : Array Slot} {X : gX} (E : gEn p s m args c cX9_towerOf RX9 X) (hr : meth.sig.returnType = (some .int)) (hlocks : meth.locks = false) (hml : c.maxLocals = 3) (hRf : 2 ≤ R.frames) (hRl : 45 ≤ R.locals) (hRc : 0 ≤ R.cells) (hRs : 0 ≤ R.slots) {c0 : Nat} {u1 : Int32} {u2 : Int32} {m0 : gMem} {res : Int32 × gMem} (hk0 : gk c0 = 9) (hf : f_X9_towerOf c0 u1 u2 m0 = some res) (hM : gM X m0 H) (hS : va_S (gA X) s.heap H locs) (hl : lv_has ls 3 [(0, .ref (X.1 + c0)), (1, .int u1), (2, .int u2)]) : W p l e R s m args below meth c H locs 0 0 (MQ below (gQi X res) args s 0 0 (gA X)) (F0 m 0 ls []) := by
  obtain ⟨hx, hb⟩ := (⟨E.1, E.2.1⟩ : _ ∧ _)
  unfold f_X9_towerOf at hf
  refine lv_aload_n hx hb dX9_towerOf_0 rfl (lv_at hl 0 rfl) ?_
  refine lv_iload_n hx hb dX9_towerOf_1 rfl (lv_at hl 1 rfl) ?_
  obtain ⟨r3, m1, hqq2, hf⟩ := g1_o hf
  refine ga_i (gr_V (As := [.int u1]) (ci := 9) (rm := { frames := 1, cells := 0, slots := 0, locals := 22 }) E hml hl.1 (c_X9_isTower l X c0 u1 m0 hk0 hqq2) wt_X9_isTower wl_RX9_88 rfl hk0 (by decide) rfl rfl hM hS rfl rfl (Nat.le_trans (by decide) hRf) (Nat.le_trans (by decide) hRl) (Nat.le_trans (Nat.le_of_ble_eq_true rfl) hRc) (Nat.le_trans (Nat.le_of_ble_eq_true rfl) hRs) (Nat.le_of_ble_eq_true rfl) dX9_towerOf_2 rfl) hS (fun H locs hM hS => ?_)
  refine lv_if_ne (tgt := 14) hx hb dX9_towerOf_5 (by decide) (fun h4 => ?_) (fun h4 => ?_)
  · have hf := g_f h4 hf
    refine lv_iload_n hx hb dX9_towerOf_14 rfl (lv_at hl 2 rfl) ?_
    by_cases h6 : u2 = (0 : Int32)
    · have hf := g_t h6 hf
      refine lv_tableIn (tgt := 48) hx hb dX9_towerOf_15 (by rw [h6]; decide) (by rw [h6]; decide) (by rw [h6]; rfl) (by decide) ?_
      refine lv_aload_n hx hb dX9_towerOf_48 rfl (lv_at hl 0 rfl) ?_
      refine lv_aload_n hx hb dX9_towerOf_49 rfl (lv_at hl 0 rfl) ?_
      refine GX9_7 E hM hk0 dX9_towerOf_50 ?_
      have hg7 : gk (c0 + 1) = 20 := gkf_9_0 hk0
      refine lv_bipush (v := (36 : Int32)) hx hb dX9_towerOf_53 (by decide) ?_
      refine lv_iload_n hx hb dX9_towerOf_55 rfl (lv_at hl 1 rfl) ?_
      refine lv_iadd hx hb dX9_towerOf_56 ?_
      obtain ⟨hi8, hf⟩ := g_ck hf
      refine gg_iald E hM (gk_in hg7 (by decide)) hg7 hi8 dX9_towerOf_57 ?_
      obtain ⟨r11, m9, hqq10, hf⟩ := g1_o hf
      refine ga_i (gr_V (As := [.int (m1 (c0 + 1) ((36 : Int32) + u1).toNatClampNeg)]) (ci := 9) (rm := { frames := 0, cells := 0, slots := 0, locals := 0 }) E hml hl.1 (c_X9_done l X c0 (m1 (c0 + 1) ((36 : Int32) + u1).toNatClampNeg) m1 hk0 hqq10) wt_X9_done wl_RX9_64 rfl hk0 (by decide) rfl rfl hM hS rfl rfl (Nat.le_trans (by decide) hRf) (Nat.le_trans (by decide) hRl) (Nat.le_trans (Nat.le_of_ble_eq_true rfl) hRc) (Nat.le_trans (Nat.le_of_ble_eq_true rfl) hRs) (Nat.le_of_ble_eq_true rfl) dX9_towerOf_58 rfl) hS (fun H locs hM hS => ?_)
      exact ge_i E hr hlocks hf hM hS (Nat.le_of_ble_eq_true rfl) (Nat.le_of_ble_eq_true rfl) dX9_towerOf_61
    have hf := g_f h6 hf
    by_cases h12 : u2 = (1 : Int32)
    · have hf := g_t h12 hf
      refine lv_tableIn (tgt := 62) hx hb dX9_towerOf_15 (by rw [h12]; decide) (by rw [h12]; decide) (by rw [h12]; rfl) (by decide) ?_
      refine lv_aload_n hx hb dX9_towerOf_62 rfl (lv_at hl 0 rfl) ?_
      refine lv_aload_n hx hb dX9_towerOf_63 rfl (lv_at hl 0 rfl) ?_
      refine lv_iload_n hx hb dX9_towerOf_64 rfl (lv_at hl 1 rfl) ?_
      obtain ⟨r15, m13, hqq14, hf⟩ := g1_o hf
      refine ga_i (gr_V (As := [.int u1]) (ci := 9) (rm := { frames := 1, cells := 0, slots := 0, locals := 24 }) E hml hl.1 (c_X9_cubesIn l X c0 u1 m1 hk0 hqq14) wt_X9_cubesIn wl_RX9_134 rfl hk0 (by decide) rfl rfl hM hS rfl rfl (Nat.le_trans (by decide) hRf) (Nat.le_trans (by decide) hRl) (Nat.le_trans (Nat.le_of_ble_eq_true rfl) hRc) (Nat.le_trans (Nat.le_of_ble_eq_true rfl) hRs) (Nat.le_of_ble_eq_true rfl) dX9_towerOf_65 rfl) hS (fun H locs hM hS => ?_)
      obtain ⟨r18, m16, hqq17, hf⟩ := g1_o hf
      refine ga_i (gr_V (As := [.int r15]) (ci := 9) (rm := { frames := 0, cells := 0, slots := 0, locals := 0 }) E hml hl.1 (c_X9_done l X c0 r15 m13 hk0 hqq17) wt_X9_done wl_RX9_64 rfl hk0 (by decide) rfl rfl hM hS rfl rfl (Nat.le_trans (by decide) hRf) (Nat.le_trans (by decide) hRl) (Nat.le_trans (Nat.le_of_ble_eq_true rfl) hRc) (Nat.le_trans (Nat.le_of_ble_eq_true rfl) hRs) (Nat.le_of_ble_eq_true rfl) dX9_towerOf_68 rfl) hS (fun H locs hM hS => ?_)
      exact ge_i E hr hlocks hf hM hS (Nat.le_of_ble_eq_true rfl) (Nat.le_of_ble_eq_true rfl) dX9_towerOf_71
    have hf := g_f h12 hf
    by_cases h19 : u2 = (2 : Int32)
    · have hf := g_t h19 hf
      refine lv_tableIn (tgt := 72) hx hb dX9_towerOf_15 (by rw [h19]; decide) (by rw [h19]; decide) (by rw [h19]; rfl) (by decide) ?_
      refine lv_aload_n hx hb dX9_towerOf_72 rfl (lv_at hl 0 rfl) ?_
      refine lv_aload_n hx hb dX9_towerOf_73 rfl (lv_at hl 0 rfl) ?_
      refine GX9_7 E hM hk0 dX9_towerOf_74 ?_
      have hg20 : gk (c0 + 1) = 20 := gkf_9_0 hk0
      refine lv_bipush (v := (30 : Int32)) hx hb dX9_towerOf_77 (by decide) ?_
      refine lv_iload_n hx hb dX9_towerOf_79 rfl (lv_at hl 1 rfl) ?_
      refine lv_iadd hx hb dX9_towerOf_80 ?_
      obtain ⟨hi21, hf⟩ := g_ck hf
      refine gg_iald E hM (gk_in hg20 (by decide)) hg20 hi21 dX9_towerOf_81 ?_
      obtain ⟨r24, m22, hqq23, hf⟩ := g1_o hf
      refine ga_i (gr_V (As := [.int (m1 (c0 + 1) ((30 : Int32) + u1).toNatClampNeg)]) (ci := 9) (rm := { frames := 0, cells := 0, slots := 0, locals := 0 }) E hml hl.1 (c_X9_done l X c0 (m1 (c0 + 1) ((30 : Int32) + u1).toNatClampNeg) m1 hk0 hqq23) wt_X9_done wl_RX9_64 rfl hk0 (by decide) rfl rfl hM hS rfl rfl (Nat.le_trans (by decide) hRf) (Nat.le_trans (by decide) hRl) (Nat.le_trans (Nat.le_of_ble_eq_true rfl) hRc) (Nat.le_trans (Nat.le_of_ble_eq_true rfl) hRs) (Nat.le_of_ble_eq_true rfl) dX9_towerOf_82 rfl) hS (fun H locs hM hS => ?_)
      exact ge_i E hr hlocks hf hM hS (Nat.le_of_ble_eq_true rfl) (Nat.le_of_ble_eq_true rfl) dX9_towerOf_85
    have hf := g_f h19 hf
    by_cases h25 : u2 = (3 : Int32)
    · have hf := g_t h25 hf
      refine lv_tableIn (tgt := 86) hx hb dX9_towerOf_15 (by rw [h25]; decide) (by rw [h25]; decide) (by rw [h25]; rfl) (by decide) ?_
      refine lv_aload_n hx hb dX9_towerOf_86 rfl (lv_at hl 0 rfl) ?_
      refine lv_aload_n hx hb dX9_towerOf_87 rfl (lv_at hl 0 rfl) ?_
      refine lv_iload_n hx hb dX9_towerOf_88 rfl (lv_at hl 1 rfl) ?_
      obtain ⟨r28, m26, hqq27, hf⟩ := g1_o hf
      refine ga_i (gr_V (As := [.int u1]) (ci := 9) (rm := { frames := 0, cells := 0, slots := 0, locals := 0 }) E hml hl.1 (c_X9_shownAt l X c0 u1 m1 hk0 hqq27) wt_X9_shownAt wl_RX9_137 rfl hk0 (by decide) rfl rfl hM hS rfl rfl (Nat.le_trans (by decide) hRf) (Nat.le_trans (by decide) hRl) (Nat.le_trans (Nat.le_of_ble_eq_true rfl) hRc) (Nat.le_trans (Nat.le_of_ble_eq_true rfl) hRs) (Nat.le_of_ble_eq_true rfl) dX9_towerOf_89 rfl) hS (fun H locs hM hS => ?_)
      obtain ⟨r31, m29, hqq30, hf⟩ := g1_o hf
      refine ga_i (gr_V (As := [.int r28]) (ci := 9) (rm := { frames := 0, cells := 0, slots := 0, locals := 0 }) E hml hl.1 (c_X9_done l X c0 r28 m26 hk0 hqq30) wt_X9_done wl_RX9_64 rfl hk0 (by decide) rfl rfl hM hS rfl rfl (Nat.le_trans (by decide) hRf) (Nat.le_trans (by decide) hRl) (Nat.le_trans (Nat.le_of_ble_eq_true rfl) hRc) (Nat.le_trans (Nat.le_of_ble_eq_true rfl) hRs) (Nat.le_of_ble_eq_true rfl) dX9_towerOf_92 rfl) hS (fun H locs hM hS => ?_)
      exact ge_i E hr hlocks hf hM hS (Nat.le_of_ble_eq_true rfl) (Nat.le_of_ble_eq_true rfl) dX9_towerOf_95
    have hf := g_f h25 hf
    by_cases h32 : u2 = (4 : Int32)
    · have hf := g_t h32 hf
      refine lv_tableIn (tgt := 96) hx hb dX9_towerOf_15 (by rw [h32]; decide) (by rw [h32]; decide) (by rw [h32]; rfl) (by decide) ?_
      refine lv_aload_n hx hb dX9_towerOf_96 rfl (lv_at hl 0 rfl) ?_
      refine lv_aload_n hx hb dX9_towerOf_97 rfl (lv_at hl 0 rfl) ?_
      refine GX9_7 E hM hk0 dX9_towerOf_98 ?_
      have hg33 : gk (c0 + 1) = 20 := gkf_9_0 hk0
      refine lv_bipush (v := (42 : Int32)) hx hb dX9_towerOf_101 (by decide) ?_
      refine lv_iload_n hx hb dX9_towerOf_103 rfl (lv_at hl 1 rfl) ?_
      refine lv_iadd hx hb dX9_towerOf_104 ?_
      obtain ⟨hi34, hf⟩ := g_ck hf
      refine gg_iald E hM (gk_in hg33 (by decide)) hg33 hi34 dX9_towerOf_105 ?_
      obtain ⟨r37, m35, hqq36, hf⟩ := g1_o hf
      refine ga_i (gr_V (As := [.int (m1 (c0 + 1) ((42 : Int32) + u1).toNatClampNeg)]) (ci := 9) (rm := { frames := 0, cells := 0, slots := 0, locals := 0 }) E hml hl.1 (c_X9_done l X c0 (m1 (c0 + 1) ((42 : Int32) + u1).toNatClampNeg) m1 hk0 hqq36) wt_X9_done wl_RX9_64 rfl hk0 (by decide) rfl rfl hM hS rfl rfl (Nat.le_trans (by decide) hRf) (Nat.le_trans (by decide) hRl) (Nat.le_trans (Nat.le_of_ble_eq_true rfl) hRc) (Nat.le_trans (Nat.le_of_ble_eq_true rfl) hRs) (Nat.le_of_ble_eq_true rfl) dX9_towerOf_106 rfl) hS (fun H locs hM hS => ?_)
      exact ge_i E hr hlocks hf hM hS (Nat.le_of_ble_eq_true rfl) (Nat.le_of_ble_eq_true rfl) dX9_towerOf_109
    have hf := g_f h32 hf
    have ah6 := g_tn (z := 0) h6 rfl
    have ah12 := g_tn (z := 1) h12 rfl
    have ah19 := g_tn (z := 2) h19 rfl
    have ah25 := g_tn (z := 3) h25 rfl
    have ah32 := g_tn (z := 4) h32 rfl
    refine lv_tableOut (tgt := 110) hx hb dX9_towerOf_15 (by omega) (by decide) ?_
    refine lv_aload_n hx hb dX9_towerOf_110 rfl (lv_at hl 0 rfl) ?_
    refine lv_iconst (v := (2 : Int32)) hx hb dX9_towerOf_111 (by decide) ?_
    obtain ⟨r40, m38, hqq39, hf⟩ := g1_o hf
    refine ga_i (gr_V (As := [.int (2 : Int32)]) (ci := 9) (rm := { frames := 0, cells := 0, slots := 0, locals := 0 }) E hml hl.1 (c_X9_fails l X c0 (2 : Int32) m1 hk0 hqq39) wt_X9_fails wl_RX9_57 rfl hk0 (by decide) rfl rfl hM hS rfl rfl (Nat.le_trans (by decide) hRf) (Nat.le_trans (by decide) hRl) (Nat.le_trans (Nat.le_of_ble_eq_true rfl) hRc) (Nat.le_trans (Nat.le_of_ble_eq_true rfl) hRs) (Nat.le_of_ble_eq_true rfl) dX9_towerOf_112 rfl) hS (fun H locs hM hS => ?_)
    exact ge_i E hr hlocks hf hM hS (Nat.le_of_ble_eq_true rfl) (Nat.le_of_ble_eq_true rfl) dX9_towerOf_115
  · have hf := g_t h4 hf
    refine lv_aload_n hx hb dX9_towerOf_8 rfl (lv_at hl 0 rfl) ?_
    refine lv_iconst (v := (1 : Int32)) hx hb dX9_towerOf_9 (by decide) ?_
    obtain ⟨r43, m41, hqq42, hf⟩ := g1_o hf
    refine ga_i (gr_V (As := [.int (1 : Int32)]) (ci := 9) (rm := { frames := 0, cells := 0, slots := 0, locals := 0 }) E hml hl.1 (c_X9_fails l X c0 (1 : Int32) m1 hk0 hqq42) wt_X9_fails wl_RX9_57 rfl hk0 (by decide) rfl rfl hM hS rfl rfl (Nat.le_trans (by decide) hRf) (Nat.le_trans (by decide) hRl) (Nat.le_trans (Nat.le_of_ble_eq_true rfl) hRc) (Nat.le_trans (Nat.le_of_ble_eq_true rfl) hRs) (Nat.le_of_ble_eq_true rfl) dX9_towerOf_10 rfl) hS (fun H locs hM hS => ?_)
    exact ge_i E hr hlocks hf hM hS (Nat.le_of_ble_eq_true rfl) (Nat.le_of_ble_eq_true rfl) dX9_towerOf_13
theorem c_X9_towerOf (l : Launch) (X : gX) (c0 : Nat) (u1 : Int32) (u2 : Int32) (m0 : gMem) {res : Int32 × gMem} (hk0 : gk c0 = 9) (hf : f_X9_towerOf c0 u1 u2 m0 = some res) : Met l yX9_towerOf (gWs yX9_towerOf cX9_towerOf 3 (some .int)) { frames := 2, cells := 0, slots := 0, locals := 45 } (va_Pc [.ref (X.1 + c0), .int u1, .int u2] (gB X m0)) (gQi X res) 0 0 (gA X) :=
  gMet (own := RX9) (by decide +kernel) rfl (Nat.le_of_ble_eq_true rfl) (fun p e s m args below meth c ls E hr hlocks hml hM hl => b_X9_towerOf E hr hlocks hml (Nat.le_refl _) (Nat.le_refl _) (Nat.le_refl _) (Nat.le_refl _) hk0 hf hM va_S.rf hl)
def L_X9_spareOf_5 (c0 : Nat) (u1 : Int32) : Nat → Int32 → Int32 → gMem → Option (Int32 × gMem)
  | 0, _, _, _ => none
  | n + 1, y2, y3, m0 => if ¬ (((36 : Int32) + u1) < 0 ∨ gl (c0 + 1) ≤ ((36 : Int32) + u1).toNatClampNeg) then if (m0 (c0 + 1) ((36 : Int32) + u1).toNatClampNeg) ≤ y3 then (if (0 : Int32) ≤ y2 then (some (y2, m0)) else (some ((0 : Int32), m0))) else (if ¬ (((30 : Int32) + u1) < 0 ∨ gl (c0 + 1) ≤ ((30 : Int32) + u1).toNatClampNeg) then g1 (f_X9_bearsAt c0 u1 y3 (m0 (c0 + 1) ((30 : Int32) + u1).toNatClampNeg) m0) (fun r8 m6 => g1 (f_X9_above c0 u1 y3 m6) (fun r11 m9 => gv ((r8 - r11)) (fun x12 => if y2 ≤ x12 then (gv (y3 + (1 : Int32)) (fun x14 => L_X9_spareOf_5 c0 u1 n y2 x14 m9)) else (gv (y3 + (1 : Int32)) (fun x15 => L_X9_spareOf_5 c0 u1 n x12 x15 m9))))) else none) else none
def f_X9_spareOf (c0 : Nat) (u1 : Int32) (m0 : gMem) : Option (Int32 × gMem) := L_X9_spareOf_5 c0 u1 gF (20 : Int32) (0 : Int32) m0
set_option maxRecDepth 100000 in
set_option maxHeartbeats 4000000 in
theorem l_X9_spareOf_5 {p : Program} {l : Launch} {e : Env} {R : Room} {s : State} {m : MethodId} {args : Array Value} {below : List Frame} {meth : Method} {c : Code} {cells slots : Nat} {X : gX} (E : gEn p s m args c cX9_spareOf RX9 X) (hr : meth.sig.returnType = (some .int)) (hlocks : meth.locks = false) (hml : c.maxLocals = 5) (hRf : 2 ≤ R.frames) (hRl : 46 ≤ R.locals) (hRc : 0 ≤ R.cells) (hRs : 0 ≤ R.slots) (hc : cells ≤ 0) (hs : slots ≤ 0) (c0 : Nat) (u1 : Int32) (hk0 : gk c0 = 9) {res : Int32 × gMem} :
    ∀ (n : Nat) (y2 : Int32) (y3 : Int32) (m0 : gMem) (H : Heap) (locs : List Loc) (ls : Array Slot), L_X9_spareOf_5 c0 u1 n y2 y3 m0 = some res → gM X m0 H → va_S (gA X) s.heap H locs → lv_has ls 5 [(0, .ref (X.1 + c0)), (1, .int u1), (2, .int y2), (3, .int y3)] → W p l e R s m args below meth c H locs cells slots (MQ below (gQi X res) args s 0 0 (gA X)) (F0 m 5 ls []) := by
  obtain ⟨hx, hb⟩ := (⟨E.1, E.2.1⟩ : _ ∧ _)
  intro n
  induction n with
  | zero =>
    intro _ _ _ _ _ _ hf
    cases hf
  | succ n ih =>
    intro y2 y3 m0 H locs ls hf hM hS hl
    rw [L_X9_spareOf_5] at hf
    refine lv_iload_n hx hb dX9_spareOf_5 rfl (lv_at hl 3 rfl) ?_
    refine lv_aload_n hx hb dX9_spareOf_6 rfl (lv_at hl 0 rfl) ?_
    refine GX9_7 E hM hk0 dX9_spareOf_7 ?_
    have hg1 : gk (c0 + 1) = 20 := gkf_9_0 hk0
    refine lv_bipush (v := (36 : Int32)) hx hb dX9_spareOf_10 (by decide) ?_
    refine lv_iload_n hx hb dX9_spareOf_12 rfl (lv_at hl 1 rfl) ?_
    refine lv_iadd hx hb dX9_spareOf_13 ?_
    obtain ⟨hi2, hf⟩ := g_ck hf
    refine gg_iald E hM (gk_in hg1 (by decide)) hg1 hi2 dX9_spareOf_14 ?_
    refine lv_icmp_ge (tgt := 61) hx hb dX9_spareOf_15 (by decide) (fun h3 => ?_) (fun h3 => ?_)
    · have hf := g_t h3 hf
      refine lv_iload_n hx hb dX9_spareOf_61 rfl (lv_at hl 2 rfl) ?_
      refine lv_if_ge (tgt := 69) hx hb dX9_spareOf_62 (by decide) (fun h4 => ?_) (fun h4 => ?_)
      · have hf := g_t h4 hf
        refine lv_iload_n hx hb dX9_spareOf_69 rfl (lv_at hl 2 rfl) ?_
        exact ge_i E hr hlocks hf hM hS hc hs dX9_spareOf_70
      · have hf := g_f h4 hf
        refine lv_iconst (v := (0 : Int32)) hx hb dX9_spareOf_65 (by decide) ?_
        refine lv_goto (tgt := 70) hx hb dX9_spareOf_66 (by decide) ?_
        exact ge_i E hr hlocks hf hM hS hc hs dX9_spareOf_70
    · have hf := g_f h3 hf
      refine lv_aload_n hx hb dX9_spareOf_18 rfl (lv_at hl 0 rfl) ?_
      refine lv_iload_n hx hb dX9_spareOf_19 rfl (lv_at hl 1 rfl) ?_
      refine lv_iload_n hx hb dX9_spareOf_20 rfl (lv_at hl 3 rfl) ?_
      refine lv_aload_n hx hb dX9_spareOf_21 rfl (lv_at hl 0 rfl) ?_
      refine GX9_7 E hM hk0 dX9_spareOf_22 ?_
      refine lv_bipush (v := (30 : Int32)) hx hb dX9_spareOf_25 (by decide) ?_
      refine lv_iload_n hx hb dX9_spareOf_27 rfl (lv_at hl 1 rfl) ?_
      refine lv_iadd hx hb dX9_spareOf_28 ?_
      obtain ⟨hi5, hf⟩ := g_ck hf
      refine gg_iald E hM (gk_in hg1 (by decide)) hg1 hi5 dX9_spareOf_29 ?_
      obtain ⟨r8, m6, hqq7, hf⟩ := g1_o hf
      refine ga_i (gr_V (As := [.int u1, .int y3, .int (m0 (c0 + 1) ((30 : Int32) + u1).toNatClampNeg)]) (ci := 9) (rm := { frames := 1, cells := 0, slots := 0, locals := 22 }) E hml hl.1 (c_X9_bearsAt l X c0 u1 y3 (m0 (c0 + 1) ((30 : Int32) + u1).toNatClampNeg) m0 hk0 hqq7) wt_X9_bearsAt wl_RX9_97 rfl hk0 (by decide) rfl rfl hM hS rfl rfl (Nat.le_trans (by decide) hRf) (Nat.le_trans (by decide) hRl) (Nat.le_trans hc hRc) (Nat.le_trans hs hRs) (Nat.le_of_ble_eq_true rfl) dX9_spareOf_30 rfl) hS (fun H locs hM hS => ?_)
      refine lv_aload_n hx hb dX9_spareOf_33 rfl (lv_at hl 0 rfl) ?_
      refine lv_iload_n hx hb dX9_spareOf_34 rfl (lv_at hl 1 rfl) ?_
      refine lv_iload_n hx hb dX9_spareOf_35 rfl (lv_at hl 3 rfl) ?_
      obtain ⟨r11, m9, hqq10, hf⟩ := g1_o hf
      refine ga_i (gr_V (As := [.int u1, .int y3]) (ci := 9) (rm := { frames := 1, cells := 0, slots := 0, locals := 22 }) E hml hl.1 (c_X9_above l X c0 u1 y3 m6 hk0 hqq10) wt_X9_above wl_RX9_100 rfl hk0 (by decide) rfl rfl hM hS rfl rfl (Nat.le_trans (by decide) hRf) (Nat.le_trans (by decide) hRl) (Nat.le_trans hc hRc) (Nat.le_trans hs hRs) (Nat.le_of_ble_eq_true rfl) dX9_spareOf_36 rfl) hS (fun H locs hM hS => ?_)
      refine lv_isub hx hb dX9_spareOf_39 ?_
      obtain ⟨x12, ex12, hf⟩ := gv_o hf
      rw [← ex12]
      refine lv_istore (lv' := [(4, .int x12), (0, .ref (X.1 + c0)), (1, .int u1), (2, .int y2), (3, .int y3)]) hx hb dX9_spareOf_40 hl (by decide) rfl (fun ls hl => ?_)
      refine lv_iload hx hb dX9_spareOf_42 (lv_at hl 0 rfl) ?_
      refine lv_iload_n hx hb dX9_spareOf_44 rfl (lv_at hl 3 rfl) ?_
      refine lv_icmp_ge (tgt := 53) hx hb dX9_spareOf_45 (by decide) (fun h13 => ?_) (fun h13 => ?_)
      · have hf := g_t h13 hf
        refine lv_iload_n hx hb dX9_spareOf_53 rfl (lv_at hl 3 rfl) ?_
        refine lv_istore_n (lv' := [(2, .int y2), (4, .int x12), (0, .ref (X.1 + c0)), (1, .int u1), (3, .int y3)]) hx hb dX9_spareOf_54 rfl hl (by decide) rfl (fun ls hl => ?_)
        obtain ⟨x14, ex14, hf⟩ := gv_o hf
        refine lv_iinc (v := x14) (lv' := [(3, .int x14), (2, .int y2), (4, .int x12), (0, .ref (X.1 + c0)), (1, .int u1)]) hx hb dX9_spareOf_55 hl (k := 4) rfl (by rw [ex14]; rfl) (by decide) rfl (fun ls hl => ?_)
        refine lv_goto (tgt := 5) hx hb dX9_spareOf_58 (by decide) ?_
        exact ih y2 x14 m9 _ _ _ hf hM hS (lv_sub hl [3, 4, 1, 0] rfl)
      · have hf := g_f h13 hf
        refine lv_iload hx hb dX9_spareOf_48 (lv_at hl 0 rfl) ?_
        refine lv_goto (tgt := 54) hx hb dX9_spareOf_50 (by decide) ?_
        refine lv_istore_n (lv' := [(2, .int x12), (4, .int x12), (0, .ref (X.1 + c0)), (1, .int u1), (3, .int y3)]) hx hb dX9_spareOf_54 rfl hl (by decide) rfl (fun ls hl => ?_)
        obtain ⟨x15, ex15, hf⟩ := gv_o hf
        refine lv_iinc (v := x15) (lv' := [(3, .int x15), (2, .int x12), (4, .int x12), (0, .ref (X.1 + c0)), (1, .int u1)]) hx hb dX9_spareOf_55 hl (k := 4) rfl (by rw [ex15]; rfl) (by decide) rfl (fun ls hl => ?_)
        refine lv_goto (tgt := 5) hx hb dX9_spareOf_58 (by decide) ?_
        exact ih x12 x15 m9 _ _ _ hf hM hS (lv_sub hl [3, 4, 1, 0] rfl)
set_option maxRecDepth 100000 in
set_option maxHeartbeats 4000000 in
theorem b_X9_spareOf {p : Program} {l : Launch} {e : Env} {R : Room} {s : State} {m : MethodId} {args : Array Value} {below : List Frame} {meth : Method} {c : Code} {H : Heap} {locs : List Loc} {ls : Array Slot} {X : gX} (E : gEn p s m args c cX9_spareOf RX9 X) (hr : meth.sig.returnType = (some .int)) (hlocks : meth.locks = false) (hml : c.maxLocals = 5) (hRf : 2 ≤ R.frames) (hRl : 46 ≤ R.locals) (hRc : 0 ≤ R.cells) (hRs : 0 ≤ R.slots) {c0 : Nat} {u1 : Int32} {m0 : gMem} {res : Int32 × gMem} (hk0 : gk c0 = 9) (hf : f_X9_spareOf c0 u1 m0 = some res) (hM : gM X m0 H) (hS : va_S (gA X) s.heap H locs) (hl : lv_has ls 5 [(0, .ref (X.1 + c0)), (1, .int u1)]) : W p l e R s m args below meth c H locs 0 0 (MQ below (gQi X res) args s 0 0 (gA X)) (F0 m 0 ls []) := by
  obtain ⟨hx, hb⟩ := (⟨E.1, E.2.1⟩ : _ ∧ _)
  unfold f_X9_spareOf at hf
  refine lv_bipush (v := (20 : Int32)) hx hb dX9_spareOf_0 (by decide) ?_
  refine lv_istore_n (lv' := [(2, .int (20 : Int32)), (0, .ref (X.1 + c0)), (1, .int u1)]) hx hb dX9_spareOf_2 rfl hl (by decide) rfl (fun ls hl => ?_)
  refine lv_iconst (v := (0 : Int32)) hx hb dX9_spareOf_3 (by decide) ?_
  refine lv_istore_n (lv' := [(3, .int (0 : Int32)), (2, .int (20 : Int32)), (0, .ref (X.1 + c0)), (1, .int u1)]) hx hb dX9_spareOf_4 rfl hl (by decide) rfl (fun ls hl => ?_)
  refine l_X9_spareOf_5 E hr hlocks hml hRf hRl hRc hRs (Nat.le_of_ble_eq_true rfl) (Nat.le_of_ble_eq_true rfl) c0 u1 hk0 gF (20 : Int32) (0 : Int32) m0 _ _ _ hf hM hS (lv_sub hl [2, 3, 1, 0] rfl)
theorem c_X9_spareOf (l : Launch) (X : gX) (c0 : Nat) (u1 : Int32) (m0 : gMem) {res : Int32 × gMem} (hk0 : gk c0 = 9) (hf : f_X9_spareOf c0 u1 m0 = some res) : Met l yX9_spareOf (gWs yX9_spareOf cX9_spareOf 5 (some .int)) { frames := 2, cells := 0, slots := 0, locals := 46 } (va_Pc [.ref (X.1 + c0), .int u1] (gB X m0)) (gQi X res) 0 0 (gA X) :=
  gMet (own := RX9) (by decide +kernel) rfl (Nat.le_of_ble_eq_true rfl) (fun p e s m args below meth c ls E hr hlocks hml hM hl => b_X9_spareOf E hr hlocks hml (Nat.le_refl _) (Nat.le_refl _) (Nat.le_refl _) (Nat.le_refl _) hk0 hf hM va_S.rf hl)
def f_X9_spare (c0 : Nat) (u1 : Int32) (m0 : gMem) : Option (Int32 × gMem) := g1 (f_X9_isTower c0 u1 m0) (fun r3 m1 => if r3 = (0 : Int32) then (g1 (f_X9_fails c0 (1 : Int32) m1) (fun r7 m5 => some (r7, m5))) else (g1 (f_X9_spareOf c0 u1 m1) (fun r10 m8 => g1 (f_X9_done c0 r10 m8) (fun r13 m11 => some (r13, m11)))))
set_option maxRecDepth 100000 in
set_option maxHeartbeats 4000000 in
theorem b_X9_spare {p : Program} {l : Launch} {e : Env} {R : Room} {s : State} {m : MethodId} {args : Array Value} {below : List Frame} {meth : Method} {c : Code} {H : Heap} {locs : List Loc} {ls : Array Slot} {X : gX} (E : gEn p s m args c cX9_spare RX9 X) (hr : meth.sig.returnType = (some .int)) (hlocks : meth.locks = false) (hml : c.maxLocals = 2) (hRf : 3 ≤ R.frames) (hRl : 70 ≤ R.locals) (hRc : 0 ≤ R.cells) (hRs : 0 ≤ R.slots) {c0 : Nat} {u1 : Int32} {m0 : gMem} {res : Int32 × gMem} (hk0 : gk c0 = 9) (hf : f_X9_spare c0 u1 m0 = some res) (hM : gM X m0 H) (hS : va_S (gA X) s.heap H locs) (hl : lv_has ls 2 [(0, .ref (X.1 + c0)), (1, .int u1)]) : W p l e R s m args below meth c H locs 0 0 (MQ below (gQi X res) args s 0 0 (gA X)) (F0 m 0 ls []) := by
  obtain ⟨hx, hb⟩ := (⟨E.1, E.2.1⟩ : _ ∧ _)
  unfold f_X9_spare at hf
  refine lv_aload_n hx hb dX9_spare_0 rfl (lv_at hl 0 rfl) ?_
  refine lv_iload_n hx hb dX9_spare_1 rfl (lv_at hl 1 rfl) ?_
  obtain ⟨r3, m1, hqq2, hf⟩ := g1_o hf
  refine ga_i (gr_V (As := [.int u1]) (ci := 9) (rm := { frames := 1, cells := 0, slots := 0, locals := 22 }) E hml hl.1 (c_X9_isTower l X c0 u1 m0 hk0 hqq2) wt_X9_isTower wl_RX9_88 rfl hk0 (by decide) rfl rfl hM hS rfl rfl (Nat.le_trans (by decide) hRf) (Nat.le_trans (by decide) hRl) (Nat.le_trans (Nat.le_of_ble_eq_true rfl) hRc) (Nat.le_trans (Nat.le_of_ble_eq_true rfl) hRs) (Nat.le_of_ble_eq_true rfl) dX9_spare_2 rfl) hS (fun H locs hM hS => ?_)
  refine lv_if_eq (tgt := 20) hx hb dX9_spare_5 (by decide) (fun h4 => ?_) (fun h4 => ?_)
  · have hf := g_t h4 hf
    refine lv_aload_n hx hb dX9_spare_20 rfl (lv_at hl 0 rfl) ?_
    refine lv_iconst (v := (1 : Int32)) hx hb dX9_spare_21 (by decide) ?_
    obtain ⟨r7, m5, hqq6, hf⟩ := g1_o hf
    refine ga_i (gr_V (As := [.int (1 : Int32)]) (ci := 9) (rm := { frames := 0, cells := 0, slots := 0, locals := 0 }) E hml hl.1 (c_X9_fails l X c0 (1 : Int32) m1 hk0 hqq6) wt_X9_fails wl_RX9_57 rfl hk0 (by decide) rfl rfl hM hS rfl rfl (Nat.le_trans (by decide) hRf) (Nat.le_trans (by decide) hRl) (Nat.le_trans (Nat.le_of_ble_eq_true rfl) hRc) (Nat.le_trans (Nat.le_of_ble_eq_true rfl) hRs) (Nat.le_of_ble_eq_true rfl) dX9_spare_22 rfl) hS (fun H locs hM hS => ?_)
    exact ge_i E hr hlocks hf hM hS (Nat.le_of_ble_eq_true rfl) (Nat.le_of_ble_eq_true rfl) dX9_spare_25
  · have hf := g_f h4 hf
    refine lv_aload_n hx hb dX9_spare_8 rfl (lv_at hl 0 rfl) ?_
    refine lv_aload_n hx hb dX9_spare_9 rfl (lv_at hl 0 rfl) ?_
    refine lv_iload_n hx hb dX9_spare_10 rfl (lv_at hl 1 rfl) ?_
    obtain ⟨r10, m8, hqq9, hf⟩ := g1_o hf
    refine ga_i (gr_V (As := [.int u1]) (ci := 9) (rm := { frames := 2, cells := 0, slots := 0, locals := 46 }) E hml hl.1 (c_X9_spareOf l X c0 u1 m1 hk0 hqq9) wt_X9_spareOf wl_RX9_140 rfl hk0 (by decide) rfl rfl hM hS rfl rfl (Nat.le_trans (by decide) hRf) (Nat.le_trans (by decide) hRl) (Nat.le_trans (Nat.le_of_ble_eq_true rfl) hRc) (Nat.le_trans (Nat.le_of_ble_eq_true rfl) hRs) (Nat.le_of_ble_eq_true rfl) dX9_spare_11 rfl) hS (fun H locs hM hS => ?_)
    obtain ⟨r13, m11, hqq12, hf⟩ := g1_o hf
    refine ga_i (gr_V (As := [.int r10]) (ci := 9) (rm := { frames := 0, cells := 0, slots := 0, locals := 0 }) E hml hl.1 (c_X9_done l X c0 r10 m8 hk0 hqq12) wt_X9_done wl_RX9_64 rfl hk0 (by decide) rfl rfl hM hS rfl rfl (Nat.le_trans (by decide) hRf) (Nat.le_trans (by decide) hRl) (Nat.le_trans (Nat.le_of_ble_eq_true rfl) hRc) (Nat.le_trans (Nat.le_of_ble_eq_true rfl) hRs) (Nat.le_of_ble_eq_true rfl) dX9_spare_14 rfl) hS (fun H locs hM hS => ?_)
    refine lv_goto (tgt := 25) hx hb dX9_spare_17 (by decide) ?_
    exact ge_i E hr hlocks hf hM hS (Nat.le_of_ble_eq_true rfl) (Nat.le_of_ble_eq_true rfl) dX9_spare_25
theorem c_X9_spare (l : Launch) (X : gX) (c0 : Nat) (u1 : Int32) (m0 : gMem) {res : Int32 × gMem} (hk0 : gk c0 = 9) (hf : f_X9_spare c0 u1 m0 = some res) : Met l yX9_spare (gWs yX9_spare cX9_spare 2 (some .int)) { frames := 3, cells := 0, slots := 0, locals := 70 } (va_Pc [.ref (X.1 + c0), .int u1] (gB X m0)) (gQi X res) 0 0 (gA X) :=
  gMet (own := RX9) (by decide +kernel) rfl (Nat.le_of_ble_eq_true rfl) (fun p e s m args below meth c ls E hr hlocks hml hM hl => b_X9_spare E hr hlocks hml (Nat.le_refl _) (Nat.le_refl _) (Nat.le_refl _) (Nat.le_refl _) hk0 hf hM va_S.rf hl)
def f_X9_sign (c0 : Nat) (u1 : Int32) (m0 : gMem) : Option (Int32 × gMem) := g1 (f_X9_isTower c0 u1 m0) (fun r3 m1 => if r3 = (0 : Int32) then (gv (ms m1 c0 12 (1 : Int32)) (fun m5 => if (m5 c0 12) = (0 : Int32) then (if ¬ (((36 : Int32) + u1) < 0 ∨ gl (c0 + 1) ≤ ((36 : Int32) + u1).toNatClampNeg) then if (m5 (c0 + 1) ((36 : Int32) + u1).toNatClampNeg) = (0 : Int32) then (some ((110 : Int32), m5)) else (g1 (f_X9_spareOf c0 u1 m5) (fun r12 m10 => if r12 = (0 : Int32) then (some ((119 : Int32), m10)) else (some ((115 : Int32), m10)))) else none) else (some ((0 : Int32), m5)))) else (gv (ms m1 c0 12 (0 : Int32)) (fun m14 => if (m14 c0 12) = (0 : Int32) then (if ¬ (((36 : Int32) + u1) < 0 ∨ gl (c0 + 1) ≤ ((36 : Int32) + u1).toNatClampNeg) then if (m14 (c0 + 1) ((36 : Int32) + u1).toNatClampNeg) = (0 : Int32) then (some ((110 : Int32), m14)) else (g1 (f_X9_spareOf c0 u1 m14) (fun r21 m19 => if r21 = (0 : Int32) then (some ((119 : Int32), m19)) else (some ((115 : Int32), m19)))) else none) else (some ((0 : Int32), m14)))))
set_option maxRecDepth 100000 in
set_option maxHeartbeats 4000000 in
theorem b_X9_sign {p : Program} {l : Launch} {e : Env} {R : Room} {s : State} {m : MethodId} {args : Array Value} {below : List Frame} {meth : Method} {c : Code} {H : Heap} {locs : List Loc} {ls : Array Slot} {X : gX} (E : gEn p s m args c cX9_sign RX9 X) (hr : meth.sig.returnType = (some .char)) (hlocks : meth.locks = false) (hml : c.maxLocals = 2) (hRf : 3 ≤ R.frames) (hRl : 70 ≤ R.locals) (hRc : 0 ≤ R.cells) (hRs : 0 ≤ R.slots) {c0 : Nat} {u1 : Int32} {m0 : gMem} {res : Int32 × gMem} (hk0 : gk c0 = 9) (hf : f_X9_sign c0 u1 m0 = some res) (hM : gM X m0 H) (hS : va_S (gA X) s.heap H locs) (hl : lv_has ls 2 [(0, .ref (X.1 + c0)), (1, .int u1)]) : W p l e R s m args below meth c H locs 0 0 (MQ below (gQi X res) args s 0 0 (gA X)) (F0 m 0 ls []) := by
  obtain ⟨hx, hb⟩ := (⟨E.1, E.2.1⟩ : _ ∧ _)
  unfold f_X9_sign at hf
  refine lv_aload_n hx hb dX9_sign_0 rfl (lv_at hl 0 rfl) ?_
  refine lv_aload_n hx hb dX9_sign_1 rfl (lv_at hl 0 rfl) ?_
  refine lv_iload_n hx hb dX9_sign_2 rfl (lv_at hl 1 rfl) ?_
  obtain ⟨r3, m1, hqq2, hf⟩ := g1_o hf
  refine ga_i (gr_V (As := [.int u1]) (ci := 9) (rm := { frames := 1, cells := 0, slots := 0, locals := 22 }) E hml hl.1 (c_X9_isTower l X c0 u1 m0 hk0 hqq2) wt_X9_isTower wl_RX9_88 rfl hk0 (by decide) rfl rfl hM hS rfl rfl (Nat.le_trans (by decide) hRf) (Nat.le_trans (by decide) hRl) (Nat.le_trans (Nat.le_of_ble_eq_true rfl) hRc) (Nat.le_trans (Nat.le_of_ble_eq_true rfl) hRs) (Nat.le_of_ble_eq_true rfl) dX9_sign_3 rfl) hS (fun H locs hM hS => ?_)
  refine lv_if_eq (tgt := 13) hx hb dX9_sign_6 (by decide) (fun h4 => ?_) (fun h4 => ?_)
  · have hf := g_t h4 hf
    refine lv_iconst (v := (1 : Int32)) hx hb dX9_sign_13 (by decide) ?_
    obtain ⟨m5, em5, hf⟩ := gv_o hf
    refine PX9_33 E hM hS hk0 em5 dX9_sign_14 (fun H locs hM hS => ?_)
    refine lv_aload_n hx hb dX9_sign_17 rfl (lv_at hl 0 rfl) ?_
    refine GX9_33 E hM hk0 dX9_sign_18 ?_
    refine lv_if_eq (tgt := 26) hx hb dX9_sign_21 (by decide) (fun h6 => ?_) (fun h6 => ?_)
    · have hf := g_t h6 hf
      refine lv_aload_n hx hb dX9_sign_26 rfl (lv_at hl 0 rfl) ?_
      refine GX9_7 E hM hk0 dX9_sign_27 ?_
      have hg7 : gk (c0 + 1) = 20 := gkf_9_0 hk0
      refine lv_bipush (v := (36 : Int32)) hx hb dX9_sign_30 (by decide) ?_
      refine lv_iload_n hx hb dX9_sign_32 rfl (lv_at hl 1 rfl) ?_
      refine lv_iadd hx hb dX9_sign_33 ?_
      obtain ⟨hi8, hf⟩ := g_ck hf
      refine gg_iald E hM (gk_in hg7 (by decide)) hg7 hi8 dX9_sign_34 ?_
      refine lv_if_ne (tgt := 43) hx hb dX9_sign_35 (by decide) (fun h9 => ?_) (fun h9 => ?_)
      · have hf := g_f h9 hf
        refine lv_aload_n hx hb dX9_sign_43 rfl (lv_at hl 0 rfl) ?_
        refine lv_iload_n hx hb dX9_sign_44 rfl (lv_at hl 1 rfl) ?_
        obtain ⟨r12, m10, hqq11, hf⟩ := g1_o hf
        refine ga_i (gr_V (As := [.int u1]) (ci := 9) (rm := { frames := 2, cells := 0, slots := 0, locals := 46 }) E hml hl.1 (c_X9_spareOf l X c0 u1 m5 hk0 hqq11) wt_X9_spareOf wl_RX9_140 rfl hk0 (by decide) rfl rfl hM hS rfl rfl (Nat.le_trans (by decide) hRf) (Nat.le_trans (by decide) hRl) (Nat.le_trans (Nat.le_of_ble_eq_true rfl) hRc) (Nat.le_trans (Nat.le_of_ble_eq_true rfl) hRs) (Nat.le_of_ble_eq_true rfl) dX9_sign_45 rfl) hS (fun H locs hM hS => ?_)
        refine lv_if_ne (tgt := 56) hx hb dX9_sign_48 (by decide) (fun h13 => ?_) (fun h13 => ?_)
        · have hf := g_f h13 hf
          refine lv_bipush (v := (115 : Int32)) hx hb dX9_sign_56 (by decide) ?_
          exact ge_z E hr rfl hlocks hf hM hS (Nat.le_of_ble_eq_true rfl) (Nat.le_of_ble_eq_true rfl) dX9_sign_58
        · have hf := g_t h13 hf
          refine lv_bipush (v := (119 : Int32)) hx hb dX9_sign_51 (by decide) ?_
          refine lv_goto (tgt := 58) hx hb dX9_sign_53 (by decide) ?_
          exact ge_z E hr rfl hlocks hf hM hS (Nat.le_of_ble_eq_true rfl) (Nat.le_of_ble_eq_true rfl) dX9_sign_58
      · have hf := g_t h9 hf
        refine lv_bipush (v := (110 : Int32)) hx hb dX9_sign_38 (by decide) ?_
        refine lv_goto (tgt := 58) hx hb dX9_sign_40 (by decide) ?_
        exact ge_z E hr rfl hlocks hf hM hS (Nat.le_of_ble_eq_true rfl) (Nat.le_of_ble_eq_true rfl) dX9_sign_58
    · have hf := g_f h6 hf
      refine lv_iconst (v := (0 : Int32)) hx hb dX9_sign_24 (by decide) ?_
      exact ge_z E hr rfl hlocks hf hM hS (Nat.le_of_ble_eq_true rfl) (Nat.le_of_ble_eq_true rfl) dX9_sign_25
  · have hf := g_f h4 hf
    refine lv_iconst (v := (0 : Int32)) hx hb dX9_sign_9 (by decide) ?_
    refine lv_goto (tgt := 14) hx hb dX9_sign_10 (by decide) ?_
    obtain ⟨m14, em14, hf⟩ := gv_o hf
    refine PX9_33 E hM hS hk0 em14 dX9_sign_14 (fun H locs hM hS => ?_)
    refine lv_aload_n hx hb dX9_sign_17 rfl (lv_at hl 0 rfl) ?_
    refine GX9_33 E hM hk0 dX9_sign_18 ?_
    refine lv_if_eq (tgt := 26) hx hb dX9_sign_21 (by decide) (fun h15 => ?_) (fun h15 => ?_)
    · have hf := g_t h15 hf
      refine lv_aload_n hx hb dX9_sign_26 rfl (lv_at hl 0 rfl) ?_
      refine GX9_7 E hM hk0 dX9_sign_27 ?_
      have hg16 : gk (c0 + 1) = 20 := gkf_9_0 hk0
      refine lv_bipush (v := (36 : Int32)) hx hb dX9_sign_30 (by decide) ?_
      refine lv_iload_n hx hb dX9_sign_32 rfl (lv_at hl 1 rfl) ?_
      refine lv_iadd hx hb dX9_sign_33 ?_
      obtain ⟨hi17, hf⟩ := g_ck hf
      refine gg_iald E hM (gk_in hg16 (by decide)) hg16 hi17 dX9_sign_34 ?_
      refine lv_if_ne (tgt := 43) hx hb dX9_sign_35 (by decide) (fun h18 => ?_) (fun h18 => ?_)
      · have hf := g_f h18 hf
        refine lv_aload_n hx hb dX9_sign_43 rfl (lv_at hl 0 rfl) ?_
        refine lv_iload_n hx hb dX9_sign_44 rfl (lv_at hl 1 rfl) ?_
        obtain ⟨r21, m19, hqq20, hf⟩ := g1_o hf
        refine ga_i (gr_V (As := [.int u1]) (ci := 9) (rm := { frames := 2, cells := 0, slots := 0, locals := 46 }) E hml hl.1 (c_X9_spareOf l X c0 u1 m14 hk0 hqq20) wt_X9_spareOf wl_RX9_140 rfl hk0 (by decide) rfl rfl hM hS rfl rfl (Nat.le_trans (by decide) hRf) (Nat.le_trans (by decide) hRl) (Nat.le_trans (Nat.le_of_ble_eq_true rfl) hRc) (Nat.le_trans (Nat.le_of_ble_eq_true rfl) hRs) (Nat.le_of_ble_eq_true rfl) dX9_sign_45 rfl) hS (fun H locs hM hS => ?_)
        refine lv_if_ne (tgt := 56) hx hb dX9_sign_48 (by decide) (fun h22 => ?_) (fun h22 => ?_)
        · have hf := g_f h22 hf
          refine lv_bipush (v := (115 : Int32)) hx hb dX9_sign_56 (by decide) ?_
          exact ge_z E hr rfl hlocks hf hM hS (Nat.le_of_ble_eq_true rfl) (Nat.le_of_ble_eq_true rfl) dX9_sign_58
        · have hf := g_t h22 hf
          refine lv_bipush (v := (119 : Int32)) hx hb dX9_sign_51 (by decide) ?_
          refine lv_goto (tgt := 58) hx hb dX9_sign_53 (by decide) ?_
          exact ge_z E hr rfl hlocks hf hM hS (Nat.le_of_ble_eq_true rfl) (Nat.le_of_ble_eq_true rfl) dX9_sign_58
      · have hf := g_t h18 hf
        refine lv_bipush (v := (110 : Int32)) hx hb dX9_sign_38 (by decide) ?_
        refine lv_goto (tgt := 58) hx hb dX9_sign_40 (by decide) ?_
        exact ge_z E hr rfl hlocks hf hM hS (Nat.le_of_ble_eq_true rfl) (Nat.le_of_ble_eq_true rfl) dX9_sign_58
    · have hf := g_f h15 hf
      refine lv_iconst (v := (0 : Int32)) hx hb dX9_sign_24 (by decide) ?_
      exact ge_z E hr rfl hlocks hf hM hS (Nat.le_of_ble_eq_true rfl) (Nat.le_of_ble_eq_true rfl) dX9_sign_25
theorem c_X9_sign (l : Launch) (X : gX) (c0 : Nat) (u1 : Int32) (m0 : gMem) {res : Int32 × gMem} (hk0 : gk c0 = 9) (hf : f_X9_sign c0 u1 m0 = some res) : Met l yX9_sign (gWs yX9_sign cX9_sign 2 (some .char)) { frames := 3, cells := 0, slots := 0, locals := 70 } (va_Pc [.ref (X.1 + c0), .int u1] (gB X m0)) (gQi X res) 0 0 (gA X) :=
  gMet (own := RX9) (by decide +kernel) rfl (Nat.le_of_ble_eq_true rfl) (fun p e s m args below meth c ls E hr hlocks hml hM hl => b_X9_sign E hr hlocks hml (Nat.le_refl _) (Nat.le_refl _) (Nat.le_refl _) (Nat.le_refl _) hk0 hf hM va_S.rf hl)
def f_X9_stands (c0 : Nat) (u1 : Int32) (u2 : Int32) (m0 : gMem) : Option (Int32 × gMem) := g1 (f_X9_isTower c0 u1 m0) (fun r3 m1 => if r3 = (0 : Int32) then (gv (ms m1 c0 12 (1 : Int32)) (fun m21 => if (m21 c0 12) = (0 : Int32) then (g1 (f_X9_weakAt c0 u1 u2 (0 : Int32) m21) (fun r25 m23 => if r25 = (-1 : Int32) then (some ((1 : Int32), m23)) else (some ((0 : Int32), m23)))) else (some ((0 : Int32), m21)))) else (g1 (f_X9_in u2 (0 : Int32) (99 : Int32) m1) (fun r7 m5 => if r7 = (0 : Int32) then (gv (ms m5 c0 12 (2 : Int32)) (fun m15 => if (m15 c0 12) = (0 : Int32) then (g1 (f_X9_weakAt c0 u1 u2 (0 : Int32) m15) (fun r19 m17 => if r19 = (-1 : Int32) then (some ((1 : Int32), m17)) else (some ((0 : Int32), m17)))) else (some ((0 : Int32), m15)))) else (gv (ms m5 c0 12 (0 : Int32)) (fun m9 => if (m9 c0 12) = (0 : Int32) then (g1 (f_X9_weakAt c0 u1 u2 (0 : Int32) m9) (fun r13 m11 => if r13 = (-1 : Int32) then (some ((1 : Int32), m11)) else (some ((0 : Int32), m11)))) else (some ((0 : Int32), m9)))))))
set_option maxRecDepth 100000 in
set_option maxHeartbeats 4000000 in
theorem b_X9_stands {p : Program} {l : Launch} {e : Env} {R : Room} {s : State} {m : MethodId} {args : Array Value} {below : List Frame} {meth : Method} {c : Code} {H : Heap} {locs : List Loc} {ls : Array Slot} {X : gX} (E : gEn p s m args c cX9_stands RX9 X) (hr : meth.sig.returnType = (some .boolean)) (hlocks : meth.locks = false) (hml : c.maxLocals = 3) (hRf : 3 ≤ R.frames) (hRl : 70 ≤ R.locals) (hRc : 0 ≤ R.cells) (hRs : 0 ≤ R.slots) {c0 : Nat} {u1 : Int32} {u2 : Int32} {m0 : gMem} {res : Int32 × gMem} (hk0 : gk c0 = 9) (hf : f_X9_stands c0 u1 u2 m0 = some res) (hM : gM X m0 H) (hS : va_S (gA X) s.heap H locs) (hl : lv_has ls 3 [(0, .ref (X.1 + c0)), (1, .int u1), (2, .int u2)]) : W p l e R s m args below meth c H locs 0 0 (MQ below (gQi X res) args s 0 0 (gA X)) (F0 m 0 ls []) := by
  obtain ⟨hx, hb⟩ := (⟨E.1, E.2.1⟩ : _ ∧ _)
  unfold f_X9_stands at hf
  refine lv_aload_n hx hb dX9_stands_0 rfl (lv_at hl 0 rfl) ?_
  refine lv_aload_n hx hb dX9_stands_1 rfl (lv_at hl 0 rfl) ?_
  refine lv_iload_n hx hb dX9_stands_2 rfl (lv_at hl 1 rfl) ?_
  obtain ⟨r3, m1, hqq2, hf⟩ := g1_o hf
  refine ga_i (gr_V (As := [.int u1]) (ci := 9) (rm := { frames := 1, cells := 0, slots := 0, locals := 22 }) E hml hl.1 (c_X9_isTower l X c0 u1 m0 hk0 hqq2) wt_X9_isTower wl_RX9_88 rfl hk0 (by decide) rfl rfl hM hS rfl rfl (Nat.le_trans (by decide) hRf) (Nat.le_trans (by decide) hRl) (Nat.le_trans (Nat.le_of_ble_eq_true rfl) hRc) (Nat.le_trans (Nat.le_of_ble_eq_true rfl) hRs) (Nat.le_of_ble_eq_true rfl) dX9_stands_3 rfl) hS (fun H locs hM hS => ?_)
  refine lv_if_ne (tgt := 13) hx hb dX9_stands_6 (by decide) (fun h4 => ?_) (fun h4 => ?_)
  · have hf := g_f h4 hf
    refine lv_iload_n hx hb dX9_stands_13 rfl (lv_at hl 2 rfl) ?_
    refine lv_iconst (v := (0 : Int32)) hx hb dX9_stands_14 (by decide) ?_
    refine lv_bipush (v := (99 : Int32)) hx hb dX9_stands_15 (by decide) ?_
    obtain ⟨r7, m5, hqq6, hf⟩ := g1_o hf
    refine ga_i (gr_S (As := [.int u2, .int (0 : Int32), .int (99 : Int32)]) (rm := { frames := 0, cells := 0, slots := 0, locals := 0 }) E hml hl.1 (c_X9_in l X u2 (0 : Int32) (99 : Int32) m1 hqq6) wt_X9_in wl_RX9_53 rfl hM hS rfl rfl (Nat.le_trans (by decide) hRf) (Nat.le_trans (by decide) hRl) (Nat.le_trans (Nat.le_of_ble_eq_true rfl) hRc) (Nat.le_trans (Nat.le_of_ble_eq_true rfl) hRs) (Nat.le_of_ble_eq_true rfl) dX9_stands_17 rfl) hS (fun H locs hM hS => ?_)
    refine lv_if_ne (tgt := 27) hx hb dX9_stands_20 (by decide) (fun h8 => ?_) (fun h8 => ?_)
    · have hf := g_f h8 hf
      refine lv_iconst (v := (0 : Int32)) hx hb dX9_stands_27 (by decide) ?_
      obtain ⟨m9, em9, hf⟩ := gv_o hf
      refine PX9_33 E hM hS hk0 em9 dX9_stands_28 (fun H locs hM hS => ?_)
      refine lv_aload_n hx hb dX9_stands_31 rfl (lv_at hl 0 rfl) ?_
      refine GX9_33 E hM hk0 dX9_stands_32 ?_
      refine lv_if_ne (tgt := 53) hx hb dX9_stands_35 (by decide) (fun h10 => ?_) (fun h10 => ?_)
      · have hf := g_f h10 hf
        refine lv_iconst (v := (0 : Int32)) hx hb dX9_stands_53 (by decide) ?_
        exact ge_z E hr rfl hlocks hf hM hS (Nat.le_of_ble_eq_true rfl) (Nat.le_of_ble_eq_true rfl) dX9_stands_54
      · have hf := g_t h10 hf
        refine lv_aload_n hx hb dX9_stands_38 rfl (lv_at hl 0 rfl) ?_
        refine lv_iload_n hx hb dX9_stands_39 rfl (lv_at hl 1 rfl) ?_
        refine lv_iload_n hx hb dX9_stands_40 rfl (lv_at hl 2 rfl) ?_
        refine lv_iconst (v := (0 : Int32)) hx hb dX9_stands_41 (by decide) ?_
        obtain ⟨r13, m11, hqq12, hf⟩ := g1_o hf
        refine ga_i (gr_V (As := [.int u1, .int u2, .int (0 : Int32)]) (ci := 9) (rm := { frames := 2, cells := 0, slots := 0, locals := 46 }) E hml hl.1 (c_X9_weakAt l X c0 u1 u2 (0 : Int32) m9 hk0 hqq12) wt_X9_weakAt wl_RX9_109 rfl hk0 (by decide) rfl rfl hM hS rfl rfl (Nat.le_trans (by decide) hRf) (Nat.le_trans (by decide) hRl) (Nat.le_trans (Nat.le_of_ble_eq_true rfl) hRc) (Nat.le_trans (Nat.le_of_ble_eq_true rfl) hRs) (Nat.le_of_ble_eq_true rfl) dX9_stands_42 rfl) hS (fun H locs hM hS => ?_)
        refine lv_iconst (v := (-1 : Int32)) hx hb dX9_stands_45 (by decide) ?_
        refine lv_icmp_ne (tgt := 53) hx hb dX9_stands_46 (by decide) (fun h14 => ?_) (fun h14 => ?_)
        · have hf := g_f h14 hf
          refine lv_iconst (v := (0 : Int32)) hx hb dX9_stands_53 (by decide) ?_
          exact ge_z E hr rfl hlocks hf hM hS (Nat.le_of_ble_eq_true rfl) (Nat.le_of_ble_eq_true rfl) dX9_stands_54
        · have hf := g_t h14 hf
          refine lv_iconst (v := (1 : Int32)) hx hb dX9_stands_49 (by decide) ?_
          refine lv_goto (tgt := 54) hx hb dX9_stands_50 (by decide) ?_
          exact ge_z E hr rfl hlocks hf hM hS (Nat.le_of_ble_eq_true rfl) (Nat.le_of_ble_eq_true rfl) dX9_stands_54
    · have hf := g_t h8 hf
      refine lv_iconst (v := (2 : Int32)) hx hb dX9_stands_23 (by decide) ?_
      refine lv_goto (tgt := 28) hx hb dX9_stands_24 (by decide) ?_
      obtain ⟨m15, em15, hf⟩ := gv_o hf
      refine PX9_33 E hM hS hk0 em15 dX9_stands_28 (fun H locs hM hS => ?_)
      refine lv_aload_n hx hb dX9_stands_31 rfl (lv_at hl 0 rfl) ?_
      refine GX9_33 E hM hk0 dX9_stands_32 ?_
      refine lv_if_ne (tgt := 53) hx hb dX9_stands_35 (by decide) (fun h16 => ?_) (fun h16 => ?_)
      · have hf := g_f h16 hf
        refine lv_iconst (v := (0 : Int32)) hx hb dX9_stands_53 (by decide) ?_
        exact ge_z E hr rfl hlocks hf hM hS (Nat.le_of_ble_eq_true rfl) (Nat.le_of_ble_eq_true rfl) dX9_stands_54
      · have hf := g_t h16 hf
        refine lv_aload_n hx hb dX9_stands_38 rfl (lv_at hl 0 rfl) ?_
        refine lv_iload_n hx hb dX9_stands_39 rfl (lv_at hl 1 rfl) ?_
        refine lv_iload_n hx hb dX9_stands_40 rfl (lv_at hl 2 rfl) ?_
        refine lv_iconst (v := (0 : Int32)) hx hb dX9_stands_41 (by decide) ?_
        obtain ⟨r19, m17, hqq18, hf⟩ := g1_o hf
        refine ga_i (gr_V (As := [.int u1, .int u2, .int (0 : Int32)]) (ci := 9) (rm := { frames := 2, cells := 0, slots := 0, locals := 46 }) E hml hl.1 (c_X9_weakAt l X c0 u1 u2 (0 : Int32) m15 hk0 hqq18) wt_X9_weakAt wl_RX9_109 rfl hk0 (by decide) rfl rfl hM hS rfl rfl (Nat.le_trans (by decide) hRf) (Nat.le_trans (by decide) hRl) (Nat.le_trans (Nat.le_of_ble_eq_true rfl) hRc) (Nat.le_trans (Nat.le_of_ble_eq_true rfl) hRs) (Nat.le_of_ble_eq_true rfl) dX9_stands_42 rfl) hS (fun H locs hM hS => ?_)
        refine lv_iconst (v := (-1 : Int32)) hx hb dX9_stands_45 (by decide) ?_
        refine lv_icmp_ne (tgt := 53) hx hb dX9_stands_46 (by decide) (fun h20 => ?_) (fun h20 => ?_)
        · have hf := g_f h20 hf
          refine lv_iconst (v := (0 : Int32)) hx hb dX9_stands_53 (by decide) ?_
          exact ge_z E hr rfl hlocks hf hM hS (Nat.le_of_ble_eq_true rfl) (Nat.le_of_ble_eq_true rfl) dX9_stands_54
        · have hf := g_t h20 hf
          refine lv_iconst (v := (1 : Int32)) hx hb dX9_stands_49 (by decide) ?_
          refine lv_goto (tgt := 54) hx hb dX9_stands_50 (by decide) ?_
          exact ge_z E hr rfl hlocks hf hM hS (Nat.le_of_ble_eq_true rfl) (Nat.le_of_ble_eq_true rfl) dX9_stands_54
  · have hf := g_t h4 hf
    refine lv_iconst (v := (1 : Int32)) hx hb dX9_stands_9 (by decide) ?_
    refine lv_goto (tgt := 28) hx hb dX9_stands_10 (by decide) ?_
    obtain ⟨m21, em21, hf⟩ := gv_o hf
    refine PX9_33 E hM hS hk0 em21 dX9_stands_28 (fun H locs hM hS => ?_)
    refine lv_aload_n hx hb dX9_stands_31 rfl (lv_at hl 0 rfl) ?_
    refine GX9_33 E hM hk0 dX9_stands_32 ?_
    refine lv_if_ne (tgt := 53) hx hb dX9_stands_35 (by decide) (fun h22 => ?_) (fun h22 => ?_)
    · have hf := g_f h22 hf
      refine lv_iconst (v := (0 : Int32)) hx hb dX9_stands_53 (by decide) ?_
      exact ge_z E hr rfl hlocks hf hM hS (Nat.le_of_ble_eq_true rfl) (Nat.le_of_ble_eq_true rfl) dX9_stands_54
    · have hf := g_t h22 hf
      refine lv_aload_n hx hb dX9_stands_38 rfl (lv_at hl 0 rfl) ?_
      refine lv_iload_n hx hb dX9_stands_39 rfl (lv_at hl 1 rfl) ?_
      refine lv_iload_n hx hb dX9_stands_40 rfl (lv_at hl 2 rfl) ?_
      refine lv_iconst (v := (0 : Int32)) hx hb dX9_stands_41 (by decide) ?_
      obtain ⟨r25, m23, hqq24, hf⟩ := g1_o hf
      refine ga_i (gr_V (As := [.int u1, .int u2, .int (0 : Int32)]) (ci := 9) (rm := { frames := 2, cells := 0, slots := 0, locals := 46 }) E hml hl.1 (c_X9_weakAt l X c0 u1 u2 (0 : Int32) m21 hk0 hqq24) wt_X9_weakAt wl_RX9_109 rfl hk0 (by decide) rfl rfl hM hS rfl rfl (Nat.le_trans (by decide) hRf) (Nat.le_trans (by decide) hRl) (Nat.le_trans (Nat.le_of_ble_eq_true rfl) hRc) (Nat.le_trans (Nat.le_of_ble_eq_true rfl) hRs) (Nat.le_of_ble_eq_true rfl) dX9_stands_42 rfl) hS (fun H locs hM hS => ?_)
      refine lv_iconst (v := (-1 : Int32)) hx hb dX9_stands_45 (by decide) ?_
      refine lv_icmp_ne (tgt := 53) hx hb dX9_stands_46 (by decide) (fun h26 => ?_) (fun h26 => ?_)
      · have hf := g_f h26 hf
        refine lv_iconst (v := (0 : Int32)) hx hb dX9_stands_53 (by decide) ?_
        exact ge_z E hr rfl hlocks hf hM hS (Nat.le_of_ble_eq_true rfl) (Nat.le_of_ble_eq_true rfl) dX9_stands_54
      · have hf := g_t h26 hf
        refine lv_iconst (v := (1 : Int32)) hx hb dX9_stands_49 (by decide) ?_
        refine lv_goto (tgt := 54) hx hb dX9_stands_50 (by decide) ?_
        exact ge_z E hr rfl hlocks hf hM hS (Nat.le_of_ble_eq_true rfl) (Nat.le_of_ble_eq_true rfl) dX9_stands_54
theorem c_X9_stands (l : Launch) (X : gX) (c0 : Nat) (u1 : Int32) (u2 : Int32) (m0 : gMem) {res : Int32 × gMem} (hk0 : gk c0 = 9) (hf : f_X9_stands c0 u1 u2 m0 = some res) : Met l yX9_stands (gWs yX9_stands cX9_stands 3 (some .boolean)) { frames := 3, cells := 0, slots := 0, locals := 70 } (va_Pc [.ref (X.1 + c0), .int u1, .int u2] (gB X m0)) (gQi X res) 0 0 (gA X) :=
  gMet (own := RX9) (by decide +kernel) rfl (Nat.le_of_ble_eq_true rfl) (fun p e s m args below meth c ls E hr hlocks hml hM hl => b_X9_stands E hr hlocks hml (Nat.le_refl _) (Nat.le_refl _) (Nat.le_refl _) (Nat.le_refl _) hk0 hf hM va_S.rf hl)
def f_X9_damper (u0 : Int32) (u1 : Int32) (m0 : gMem) : Option (Int32 × gMem) := if u1 ≤ (50 : Int32) then (if (40 : Int32) ≤ u1 then (gv ((u0 + (0 : Int32))) (fun x3 => if (0 : Int32) ≤ x3 then (if x3 ≤ (99 : Int32) then (some (x3, m0)) else (some ((99 : Int32), m0))) else (some ((0 : Int32), m0)))) else (gv ((u0 + (-1 : Int32))) (fun x6 => if (0 : Int32) ≤ x6 then (if x6 ≤ (99 : Int32) then (some (x6, m0)) else (some ((99 : Int32), m0))) else (some ((0 : Int32), m0))))) else (gv (((u1 - (50 : Int32)) / (10 : Int32))) (fun x9 => gv ((u0 + x9)) (fun x10 => if (0 : Int32) ≤ x10 then (if x10 ≤ (99 : Int32) then (some (x10, m0)) else (some ((99 : Int32), m0))) else (some ((0 : Int32), m0)))))
set_option maxRecDepth 100000 in
set_option maxHeartbeats 4000000 in
theorem b_X9_damper {p : Program} {l : Launch} {e : Env} {R : Room} {s : State} {m : MethodId} {args : Array Value} {below : List Frame} {meth : Method} {c : Code} {H : Heap} {locs : List Loc} {ls : Array Slot} {X : gX} (E : gEn p s m args c cX9_damper RX9 X) (hr : meth.sig.returnType = (some .int)) (hlocks : meth.locks = false) (hml : c.maxLocals = 4) (hRf : 0 ≤ R.frames) (hRl : 0 ≤ R.locals) (hRc : 0 ≤ R.cells) (hRs : 0 ≤ R.slots) {u0 : Int32} {u1 : Int32} {m0 : gMem} {res : Int32 × gMem}  (hf : f_X9_damper u0 u1 m0 = some res) (hM : gM X m0 H) (hS : va_S (gA X) s.heap H locs) (hl : lv_has ls 4 [(0, .int u0), (1, .int u1)]) : W p l e R s m args below meth c H locs 0 0 (MQ below (gQi X res) args s 0 0 (gA X)) (F0 m 0 ls []) := by
  obtain ⟨hx, hb⟩ := (⟨E.1, E.2.1⟩ : _ ∧ _)
  unfold f_X9_damper at hf
  refine lv_iload_n hx hb dX9_damper_0 rfl (lv_at hl 1 rfl) ?_
  refine lv_bipush (v := (50 : Int32)) hx hb dX9_damper_1 (by decide) ?_
  refine lv_icmp_le (tgt := 16) hx hb dX9_damper_3 (by decide) (fun h1 => ?_) (fun h1 => ?_)
  · have hf := g_t h1 hf
    refine lv_iload_n hx hb dX9_damper_16 rfl (lv_at hl 1 rfl) ?_
    refine lv_bipush (v := (40 : Int32)) hx hb dX9_damper_17 (by decide) ?_
    refine lv_icmp_ge (tgt := 26) hx hb dX9_damper_19 (by decide) (fun h2 => ?_) (fun h2 => ?_)
    · have hf := g_t h2 hf
      refine lv_iconst (v := (0 : Int32)) hx hb dX9_damper_26 (by decide) ?_
      refine lv_istore_n (lv' := [(2, .int (0 : Int32)), (0, .int u0), (1, .int u1)]) hx hb dX9_damper_27 rfl hl (by decide) rfl (fun ls hl => ?_)
      refine lv_iload_n hx hb dX9_damper_28 rfl (lv_at hl 1 rfl) ?_
      refine lv_iload_n hx hb dX9_damper_29 rfl (lv_at hl 0 rfl) ?_
      refine lv_iadd hx hb dX9_damper_30 ?_
      obtain ⟨x3, ex3, hf⟩ := gv_o hf
      rw [← ex3]
      refine lv_istore_n (lv' := [(3, .int x3), (2, .int (0 : Int32)), (0, .int u0), (1, .int u1)]) hx hb dX9_damper_31 rfl hl (by decide) rfl (fun ls hl => ?_)
      refine lv_iload_n hx hb dX9_damper_32 rfl (lv_at hl 0 rfl) ?_
      refine lv_if_ge (tgt := 40) hx hb dX9_damper_33 (by decide) (fun h4 => ?_) (fun h4 => ?_)
      · have hf := g_t h4 hf
        refine lv_iload_n hx hb dX9_damper_40 rfl (lv_at hl 0 rfl) ?_
        refine lv_bipush (v := (99 : Int32)) hx hb dX9_damper_41 (by decide) ?_
        refine lv_icmp_le (tgt := 51) hx hb dX9_damper_43 (by decide) (fun h5 => ?_) (fun h5 => ?_)
        · have hf := g_t h5 hf
          refine lv_iload_n hx hb dX9_damper_51 rfl (lv_at hl 0 rfl) ?_
          exact ge_i E hr hlocks hf hM hS (Nat.le_of_ble_eq_true rfl) (Nat.le_of_ble_eq_true rfl) dX9_damper_52
        · have hf := g_f h5 hf
          refine lv_bipush (v := (99 : Int32)) hx hb dX9_damper_46 (by decide) ?_
          refine lv_goto (tgt := 52) hx hb dX9_damper_48 (by decide) ?_
          exact ge_i E hr hlocks hf hM hS (Nat.le_of_ble_eq_true rfl) (Nat.le_of_ble_eq_true rfl) dX9_damper_52
      · have hf := g_f h4 hf
        refine lv_iconst (v := (0 : Int32)) hx hb dX9_damper_36 (by decide) ?_
        refine lv_goto (tgt := 52) hx hb dX9_damper_37 (by decide) ?_
        exact ge_i E hr hlocks hf hM hS (Nat.le_of_ble_eq_true rfl) (Nat.le_of_ble_eq_true rfl) dX9_damper_52
    · have hf := g_f h2 hf
      refine lv_iconst (v := (-1 : Int32)) hx hb dX9_damper_22 (by decide) ?_
      refine lv_goto (tgt := 27) hx hb dX9_damper_23 (by decide) ?_
      refine lv_istore_n (lv' := [(2, .int (-1 : Int32)), (0, .int u0), (1, .int u1)]) hx hb dX9_damper_27 rfl hl (by decide) rfl (fun ls hl => ?_)
      refine lv_iload_n hx hb dX9_damper_28 rfl (lv_at hl 1 rfl) ?_
      refine lv_iload_n hx hb dX9_damper_29 rfl (lv_at hl 0 rfl) ?_
      refine lv_iadd hx hb dX9_damper_30 ?_
      obtain ⟨x6, ex6, hf⟩ := gv_o hf
      rw [← ex6]
      refine lv_istore_n (lv' := [(3, .int x6), (2, .int (-1 : Int32)), (0, .int u0), (1, .int u1)]) hx hb dX9_damper_31 rfl hl (by decide) rfl (fun ls hl => ?_)
      refine lv_iload_n hx hb dX9_damper_32 rfl (lv_at hl 0 rfl) ?_
      refine lv_if_ge (tgt := 40) hx hb dX9_damper_33 (by decide) (fun h7 => ?_) (fun h7 => ?_)
      · have hf := g_t h7 hf
        refine lv_iload_n hx hb dX9_damper_40 rfl (lv_at hl 0 rfl) ?_
        refine lv_bipush (v := (99 : Int32)) hx hb dX9_damper_41 (by decide) ?_
        refine lv_icmp_le (tgt := 51) hx hb dX9_damper_43 (by decide) (fun h8 => ?_) (fun h8 => ?_)
        · have hf := g_t h8 hf
          refine lv_iload_n hx hb dX9_damper_51 rfl (lv_at hl 0 rfl) ?_
          exact ge_i E hr hlocks hf hM hS (Nat.le_of_ble_eq_true rfl) (Nat.le_of_ble_eq_true rfl) dX9_damper_52
        · have hf := g_f h8 hf
          refine lv_bipush (v := (99 : Int32)) hx hb dX9_damper_46 (by decide) ?_
          refine lv_goto (tgt := 52) hx hb dX9_damper_48 (by decide) ?_
          exact ge_i E hr hlocks hf hM hS (Nat.le_of_ble_eq_true rfl) (Nat.le_of_ble_eq_true rfl) dX9_damper_52
      · have hf := g_f h7 hf
        refine lv_iconst (v := (0 : Int32)) hx hb dX9_damper_36 (by decide) ?_
        refine lv_goto (tgt := 52) hx hb dX9_damper_37 (by decide) ?_
        exact ge_i E hr hlocks hf hM hS (Nat.le_of_ble_eq_true rfl) (Nat.le_of_ble_eq_true rfl) dX9_damper_52
  · have hf := g_f h1 hf
    refine lv_iload_n hx hb dX9_damper_6 rfl (lv_at hl 1 rfl) ?_
    refine lv_bipush (v := (50 : Int32)) hx hb dX9_damper_7 (by decide) ?_
    refine lv_isub hx hb dX9_damper_9 ?_
    refine lv_bipush (v := (10 : Int32)) hx hb dX9_damper_10 (by decide) ?_
    refine lv_idiv hx hb dX9_damper_12 (by decide) ?_
    refine lv_goto (tgt := 27) hx hb dX9_damper_13 (by decide) ?_
    obtain ⟨x9, ex9, hf⟩ := gv_o hf
    rw [← ex9]
    refine lv_istore_n (lv' := [(2, .int x9), (0, .int u0), (1, .int u1)]) hx hb dX9_damper_27 rfl hl (by decide) rfl (fun ls hl => ?_)
    refine lv_iload_n hx hb dX9_damper_28 rfl (lv_at hl 1 rfl) ?_
    refine lv_iload_n hx hb dX9_damper_29 rfl (lv_at hl 0 rfl) ?_
    refine lv_iadd hx hb dX9_damper_30 ?_
    obtain ⟨x10, ex10, hf⟩ := gv_o hf
    rw [← ex10]
    refine lv_istore_n (lv' := [(3, .int x10), (2, .int x9), (0, .int u0), (1, .int u1)]) hx hb dX9_damper_31 rfl hl (by decide) rfl (fun ls hl => ?_)
    refine lv_iload_n hx hb dX9_damper_32 rfl (lv_at hl 0 rfl) ?_
    refine lv_if_ge (tgt := 40) hx hb dX9_damper_33 (by decide) (fun h11 => ?_) (fun h11 => ?_)
    · have hf := g_t h11 hf
      refine lv_iload_n hx hb dX9_damper_40 rfl (lv_at hl 0 rfl) ?_
      refine lv_bipush (v := (99 : Int32)) hx hb dX9_damper_41 (by decide) ?_
      refine lv_icmp_le (tgt := 51) hx hb dX9_damper_43 (by decide) (fun h12 => ?_) (fun h12 => ?_)
      · have hf := g_t h12 hf
        refine lv_iload_n hx hb dX9_damper_51 rfl (lv_at hl 0 rfl) ?_
        exact ge_i E hr hlocks hf hM hS (Nat.le_of_ble_eq_true rfl) (Nat.le_of_ble_eq_true rfl) dX9_damper_52
      · have hf := g_f h12 hf
        refine lv_bipush (v := (99 : Int32)) hx hb dX9_damper_46 (by decide) ?_
        refine lv_goto (tgt := 52) hx hb dX9_damper_48 (by decide) ?_
        exact ge_i E hr hlocks hf hM hS (Nat.le_of_ble_eq_true rfl) (Nat.le_of_ble_eq_true rfl) dX9_damper_52
    · have hf := g_f h11 hf
      refine lv_iconst (v := (0 : Int32)) hx hb dX9_damper_36 (by decide) ?_
      refine lv_goto (tgt := 52) hx hb dX9_damper_37 (by decide) ?_
      exact ge_i E hr hlocks hf hM hS (Nat.le_of_ble_eq_true rfl) (Nat.le_of_ble_eq_true rfl) dX9_damper_52
theorem c_X9_damper (l : Launch) (X : gX) (u0 : Int32) (u1 : Int32) (m0 : gMem) {res : Int32 × gMem}  (hf : f_X9_damper u0 u1 m0 = some res) : Met l yX9_damper (gWs yX9_damper cX9_damper 4 (some .int)) { frames := 0, cells := 0, slots := 0, locals := 0 } (va_Pc [.int u0, .int u1] (gB X m0)) (gQi X res) 0 0 (gA X) :=
  gMet (own := RX9) (by decide +kernel) rfl (Nat.le_of_ble_eq_true rfl) (fun p e s m args below meth c ls E hr hlocks hml hM hl => b_X9_damper E hr hlocks hml (Nat.le_refl _) (Nat.le_refl _) (Nat.le_refl _) (Nat.le_refl _)  hf hM va_S.rf hl)
def L_X9_breaksIn_26 (c0 : Nat) (u1 : Int32) : Nat → Int32 → Int32 → gMem → Option (Int32 × gMem)
  | 0, _, _, _ => none
  | n + 1, y2, y3, m0 => if (72 : Int32) < y3 then (g1 (f_X9_fails c0 (2 : Int32) m0) (fun r11 m9 => some (r11, m9))) else (if ¬ ((0 : Int32) < 0 ∨ gl (c0 + 1) ≤ (0 : Int32).toNatClampNeg) then g1 (f_X9_humidAt c0 (((m0 (c0 + 1) (0 : Int32).toNatClampNeg) + y3) - (1 : Int32)) m0) (fun r16 m14 => g1 (f_X9_damper y2 r16 m14) (fun r19 m17 => g1 (f_X9_weakAt c0 u1 r19 (0 : Int32) m17) (fun r22 m20 => if r22 = (-1 : Int32) then (gv (y3 + (1 : Int32)) (fun x24 => L_X9_breaksIn_26 c0 u1 n r19 x24 m20)) else (g1 (f_X9_done c0 y3 m20) (fun r27 m25 => some (r27, m25)))))) else none)
def f_X9_breaksIn (c0 : Nat) (u1 : Int32) (m0 : gMem) : Option (Int32 × gMem) := g1 (f_X9_isTower c0 u1 m0) (fun r3 m1 => if r3 = (0 : Int32) then (g1 (f_X9_fails c0 (1 : Int32) m1) (fun r30 m28 => some (r30, m28))) else (if ¬ (((30 : Int32) + u1) < 0 ∨ gl (c0 + 1) ≤ ((30 : Int32) + u1).toNatClampNeg) then gv ((m1 (c0 + 1) ((30 : Int32) + u1).toNatClampNeg)) (fun x7 => L_X9_breaksIn_26 c0 u1 gF x7 (1 : Int32) m1) else none))
set_option maxRecDepth 100000 in
set_option maxHeartbeats 4000000 in
theorem l_X9_breaksIn_26 {p : Program} {l : Launch} {e : Env} {R : Room} {s : State} {m : MethodId} {args : Array Value} {below : List Frame} {meth : Method} {c : Code} {cells slots : Nat} {X : gX} (E : gEn p s m args c cX9_breaksIn RX9 X) (hr : meth.sig.returnType = (some .int)) (hlocks : meth.locks = false) (hml : c.maxLocals = 4) (hRf : 3 ≤ R.frames) (hRl : 70 ≤ R.locals) (hRc : 0 ≤ R.cells) (hRs : 0 ≤ R.slots) (hc : cells ≤ 0) (hs : slots ≤ 0) (c0 : Nat) (u1 : Int32) (hk0 : gk c0 = 9) {res : Int32 × gMem} :
    ∀ (n : Nat) (y2 : Int32) (y3 : Int32) (m0 : gMem) (H : Heap) (locs : List Loc) (ls : Array Slot), L_X9_breaksIn_26 c0 u1 n y2 y3 m0 = some res → gM X m0 H → va_S (gA X) s.heap H locs → lv_has ls 4 [(0, .ref (X.1 + c0)), (1, .int u1), (2, .int y2), (3, .int y3)] → W p l e R s m args below meth c H locs cells slots (MQ below (gQi X res) args s 0 0 (gA X)) (F0 m 26 ls []) := by
  obtain ⟨hx, hb⟩ := (⟨E.1, E.2.1⟩ : _ ∧ _)
  intro n
  induction n with
  | zero =>
    intro _ _ _ _ _ _ hf
    cases hf
  | succ n ih =>
    intro y2 y3 m0 H locs ls hf hM hS hl
    rw [L_X9_breaksIn_26] at hf
    refine lv_iload_n hx hb dX9_breaksIn_26 rfl (lv_at hl 3 rfl) ?_
    refine lv_bipush (v := (72 : Int32)) hx hb dX9_breaksIn_27 (by decide) ?_
    refine lv_icmp_gt (tgt := 74) hx hb dX9_breaksIn_29 (by decide) (fun h8 => ?_) (fun h8 => ?_)
    · have hf := g_t h8 hf
      refine lv_aload_n hx hb dX9_breaksIn_74 rfl (lv_at hl 0 rfl) ?_
      refine lv_iconst (v := (2 : Int32)) hx hb dX9_breaksIn_75 (by decide) ?_
      obtain ⟨r11, m9, hqq10, hf⟩ := g1_o hf
      refine ga_i (gr_V (As := [.int (2 : Int32)]) (ci := 9) (rm := { frames := 0, cells := 0, slots := 0, locals := 0 }) E hml hl.1 (c_X9_fails l X c0 (2 : Int32) m0 hk0 hqq10) wt_X9_fails wl_RX9_57 rfl hk0 (by decide) rfl rfl hM hS rfl rfl (Nat.le_trans (by decide) hRf) (Nat.le_trans (by decide) hRl) (Nat.le_trans hc hRc) (Nat.le_trans hs hRs) (Nat.le_of_ble_eq_true rfl) dX9_breaksIn_76 rfl) hS (fun H locs hM hS => ?_)
      exact ge_i E hr hlocks hf hM hS hc hs dX9_breaksIn_79
    · have hf := g_f h8 hf
      refine lv_iload_n hx hb dX9_breaksIn_32 rfl (lv_at hl 2 rfl) ?_
      refine lv_aload_n hx hb dX9_breaksIn_33 rfl (lv_at hl 0 rfl) ?_
      refine lv_aload_n hx hb dX9_breaksIn_34 rfl (lv_at hl 0 rfl) ?_
      refine GX9_7 E hM hk0 dX9_breaksIn_35 ?_
      have hg12 : gk (c0 + 1) = 20 := gkf_9_0 hk0
      refine lv_iconst (v := (0 : Int32)) hx hb dX9_breaksIn_38 (by decide) ?_
      obtain ⟨hi13, hf⟩ := g_ck hf
      refine gg_iald E hM (gk_in hg12 (by decide)) hg12 hi13 dX9_breaksIn_39 ?_
      refine lv_iload_n hx hb dX9_breaksIn_40 rfl (lv_at hl 3 rfl) ?_
      refine lv_iadd hx hb dX9_breaksIn_41 ?_
      refine lv_iconst (v := (1 : Int32)) hx hb dX9_breaksIn_42 (by decide) ?_
      refine lv_isub hx hb dX9_breaksIn_43 ?_
      obtain ⟨r16, m14, hqq15, hf⟩ := g1_o hf
      refine ga_i (gr_V (As := [.int (((m0 (c0 + 1) (0 : Int32).toNatClampNeg) + y3) - (1 : Int32))]) (ci := 9) (rm := { frames := 0, cells := 0, slots := 0, locals := 0 }) E hml hl.1 (c_X9_humidAt l X c0 (((m0 (c0 + 1) (0 : Int32).toNatClampNeg) + y3) - (1 : Int32)) m0 hk0 hqq15) wt_X9_humidAt wl_RX9_70 rfl hk0 (by decide) rfl rfl hM hS rfl rfl (Nat.le_trans (by decide) hRf) (Nat.le_trans (by decide) hRl) (Nat.le_trans hc hRc) (Nat.le_trans hs hRs) (Nat.le_of_ble_eq_true rfl) dX9_breaksIn_44 rfl) hS (fun H locs hM hS => ?_)
      obtain ⟨r19, m17, hqq18, hf⟩ := g1_o hf
      refine ga_i (gr_S (As := [.int y2, .int r16]) (rm := { frames := 0, cells := 0, slots := 0, locals := 0 }) E hml hl.1 (c_X9_damper l X y2 r16 m14 hqq18) wt_X9_damper wl_RX9_143 rfl hM hS rfl rfl (Nat.le_trans (by decide) hRf) (Nat.le_trans (by decide) hRl) (Nat.le_trans hc hRc) (Nat.le_trans hs hRs) (Nat.le_of_ble_eq_true rfl) dX9_breaksIn_47 rfl) hS (fun H locs hM hS => ?_)
      refine lv_istore_n (lv' := [(2, .int r19), (0, .ref (X.1 + c0)), (1, .int u1), (3, .int y3)]) hx hb dX9_breaksIn_50 rfl hl (by decide) rfl (fun ls hl => ?_)
      refine lv_aload_n hx hb dX9_breaksIn_51 rfl (lv_at hl 1 rfl) ?_
      refine lv_iload_n hx hb dX9_breaksIn_52 rfl (lv_at hl 2 rfl) ?_
      refine lv_iload_n hx hb dX9_breaksIn_53 rfl (lv_at hl 0 rfl) ?_
      refine lv_iconst (v := (0 : Int32)) hx hb dX9_breaksIn_54 (by decide) ?_
      obtain ⟨r22, m20, hqq21, hf⟩ := g1_o hf
      refine ga_i (gr_V (As := [.int u1, .int r19, .int (0 : Int32)]) (ci := 9) (rm := { frames := 2, cells := 0, slots := 0, locals := 46 }) E hml hl.1 (c_X9_weakAt l X c0 u1 r19 (0 : Int32) m17 hk0 hqq21) wt_X9_weakAt wl_RX9_109 rfl hk0 (by decide) rfl rfl hM hS rfl rfl (Nat.le_trans (by decide) hRf) (Nat.le_trans (by decide) hRl) (Nat.le_trans hc hRc) (Nat.le_trans hs hRs) (Nat.le_of_ble_eq_true rfl) dX9_breaksIn_55 rfl) hS (fun H locs hM hS => ?_)
      refine lv_iconst (v := (-1 : Int32)) hx hb dX9_breaksIn_58 (by decide) ?_
      refine lv_icmp_eq (tgt := 68) hx hb dX9_breaksIn_59 (by decide) (fun h23 => ?_) (fun h23 => ?_)
      · have hf := g_t h23 hf
        obtain ⟨x24, ex24, hf⟩ := gv_o hf
        refine lv_iinc (v := x24) (lv' := [(3, .int x24), (2, .int r19), (0, .ref (X.1 + c0)), (1, .int u1)]) hx hb dX9_breaksIn_68 hl (k := 3) rfl (by rw [ex24]; rfl) (by decide) rfl (fun ls hl => ?_)
        refine lv_goto (tgt := 26) hx hb dX9_breaksIn_71 (by decide) ?_
        exact ih r19 x24 m20 _ _ _ hf hM hS (lv_sub hl [2, 3, 1, 0] rfl)
      · have hf := g_f h23 hf
        refine lv_aload_n hx hb dX9_breaksIn_62 rfl (lv_at hl 1 rfl) ?_
        refine lv_iload_n hx hb dX9_breaksIn_63 rfl (lv_at hl 3 rfl) ?_
        obtain ⟨r27, m25, hqq26, hf⟩ := g1_o hf
        refine ga_i (gr_V (As := [.int y3]) (ci := 9) (rm := { frames := 0, cells := 0, slots := 0, locals := 0 }) E hml hl.1 (c_X9_done l X c0 y3 m20 hk0 hqq26) wt_X9_done wl_RX9_64 rfl hk0 (by decide) rfl rfl hM hS rfl rfl (Nat.le_trans (by decide) hRf) (Nat.le_trans (by decide) hRl) (Nat.le_trans hc hRc) (Nat.le_trans hs hRs) (Nat.le_of_ble_eq_true rfl) dX9_breaksIn_64 rfl) hS (fun H locs hM hS => ?_)
        exact ge_i E hr hlocks hf hM hS hc hs dX9_breaksIn_67
set_option maxRecDepth 100000 in
set_option maxHeartbeats 4000000 in
theorem b_X9_breaksIn {p : Program} {l : Launch} {e : Env} {R : Room} {s : State} {m : MethodId} {args : Array Value} {below : List Frame} {meth : Method} {c : Code} {H : Heap} {locs : List Loc} {ls : Array Slot} {X : gX} (E : gEn p s m args c cX9_breaksIn RX9 X) (hr : meth.sig.returnType = (some .int)) (hlocks : meth.locks = false) (hml : c.maxLocals = 4) (hRf : 3 ≤ R.frames) (hRl : 70 ≤ R.locals) (hRc : 0 ≤ R.cells) (hRs : 0 ≤ R.slots) {c0 : Nat} {u1 : Int32} {m0 : gMem} {res : Int32 × gMem} (hk0 : gk c0 = 9) (hf : f_X9_breaksIn c0 u1 m0 = some res) (hM : gM X m0 H) (hS : va_S (gA X) s.heap H locs) (hl : lv_has ls 4 [(0, .ref (X.1 + c0)), (1, .int u1)]) : W p l e R s m args below meth c H locs 0 0 (MQ below (gQi X res) args s 0 0 (gA X)) (F0 m 0 ls []) := by
  obtain ⟨hx, hb⟩ := (⟨E.1, E.2.1⟩ : _ ∧ _)
  unfold f_X9_breaksIn at hf
  refine lv_aload_n hx hb dX9_breaksIn_0 rfl (lv_at hl 0 rfl) ?_
  refine lv_iload_n hx hb dX9_breaksIn_1 rfl (lv_at hl 1 rfl) ?_
  obtain ⟨r3, m1, hqq2, hf⟩ := g1_o hf
  refine ga_i (gr_V (As := [.int u1]) (ci := 9) (rm := { frames := 1, cells := 0, slots := 0, locals := 22 }) E hml hl.1 (c_X9_isTower l X c0 u1 m0 hk0 hqq2) wt_X9_isTower wl_RX9_88 rfl hk0 (by decide) rfl rfl hM hS rfl rfl (Nat.le_trans (by decide) hRf) (Nat.le_trans (by decide) hRl) (Nat.le_trans (Nat.le_of_ble_eq_true rfl) hRc) (Nat.le_trans (Nat.le_of_ble_eq_true rfl) hRs) (Nat.le_of_ble_eq_true rfl) dX9_breaksIn_2 rfl) hS (fun H locs hM hS => ?_)
  refine lv_if_ne (tgt := 14) hx hb dX9_breaksIn_5 (by decide) (fun h4 => ?_) (fun h4 => ?_)
  · have hf := g_f h4 hf
    refine lv_aload_n hx hb dX9_breaksIn_14 rfl (lv_at hl 0 rfl) ?_
    refine GX9_7 E hM hk0 dX9_breaksIn_15 ?_
    have hg5 : gk (c0 + 1) = 20 := gkf_9_0 hk0
    refine lv_bipush (v := (30 : Int32)) hx hb dX9_breaksIn_18 (by decide) ?_
    refine lv_iload_n hx hb dX9_breaksIn_20 rfl (lv_at hl 1 rfl) ?_
    refine lv_iadd hx hb dX9_breaksIn_21 ?_
    obtain ⟨hi6, hf⟩ := g_ck hf
    refine gg_iald E hM (gk_in hg5 (by decide)) hg5 hi6 dX9_breaksIn_22 ?_
    obtain ⟨x7, ex7, hf⟩ := gv_o hf
    rw [← ex7]
    refine lv_istore_n (lv' := [(2, .int x7), (0, .ref (X.1 + c0)), (1, .int u1)]) hx hb dX9_breaksIn_23 rfl hl (by decide) rfl (fun ls hl => ?_)
    refine lv_iconst (v := (1 : Int32)) hx hb dX9_breaksIn_24 (by decide) ?_
    refine lv_istore_n (lv' := [(3, .int (1 : Int32)), (2, .int x7), (0, .ref (X.1 + c0)), (1, .int u1)]) hx hb dX9_breaksIn_25 rfl hl (by decide) rfl (fun ls hl => ?_)
    refine l_X9_breaksIn_26 E hr hlocks hml hRf hRl hRc hRs (Nat.le_of_ble_eq_true rfl) (Nat.le_of_ble_eq_true rfl) c0 u1 hk0 gF x7 (1 : Int32) m1 _ _ _ hf hM hS (lv_sub hl [2, 3, 1, 0] rfl)
  · have hf := g_t h4 hf
    refine lv_aload_n hx hb dX9_breaksIn_8 rfl (lv_at hl 0 rfl) ?_
    refine lv_iconst (v := (1 : Int32)) hx hb dX9_breaksIn_9 (by decide) ?_
    obtain ⟨r30, m28, hqq29, hf⟩ := g1_o hf
    refine ga_i (gr_V (As := [.int (1 : Int32)]) (ci := 9) (rm := { frames := 0, cells := 0, slots := 0, locals := 0 }) E hml hl.1 (c_X9_fails l X c0 (1 : Int32) m1 hk0 hqq29) wt_X9_fails wl_RX9_57 rfl hk0 (by decide) rfl rfl hM hS rfl rfl (Nat.le_trans (by decide) hRf) (Nat.le_trans (by decide) hRl) (Nat.le_trans (Nat.le_of_ble_eq_true rfl) hRc) (Nat.le_trans (Nat.le_of_ble_eq_true rfl) hRs) (Nat.le_of_ble_eq_true rfl) dX9_breaksIn_10 rfl) hS (fun H locs hM hS => ?_)
    exact ge_i E hr hlocks hf hM hS (Nat.le_of_ble_eq_true rfl) (Nat.le_of_ble_eq_true rfl) dX9_breaksIn_13
theorem c_X9_breaksIn (l : Launch) (X : gX) (c0 : Nat) (u1 : Int32) (m0 : gMem) {res : Int32 × gMem} (hk0 : gk c0 = 9) (hf : f_X9_breaksIn c0 u1 m0 = some res) : Met l yX9_breaksIn (gWs yX9_breaksIn cX9_breaksIn 4 (some .int)) { frames := 3, cells := 0, slots := 0, locals := 70 } (va_Pc [.ref (X.1 + c0), .int u1] (gB X m0)) (gQi X res) 0 0 (gA X) :=
  gMet (own := RX9) (by decide +kernel) rfl (Nat.le_of_ble_eq_true rfl) (fun p e s m args below meth c ls E hr hlocks hml hM hl => b_X9_breaksIn E hr hlocks hml (Nat.le_refl _) (Nat.le_refl _) (Nat.le_refl _) (Nat.le_refl _) hk0 hf hM va_S.rf hl)
def f_X9_banquet (c0 : Nat) (u1 : Int32) (u2 : Int32) (u3 : Int32) (m0 : gMem) : Option (Int32 × gMem) := g1 (f_X9_in u1 (0 : Int32) (9999 : Int32) m0) (fun r3 m1 => if r3 = (0 : Int32) then (g1 (f_X9_fails c0 (1 : Int32) m1) (fun r7 m5 => some (r7, m5))) else (g1 (f_X9_in u2 (1 : Int32) (10 : Int32) m1) (fun r10 m8 => if r10 = (0 : Int32) then (g1 (f_X9_fails c0 (1 : Int32) m8) (fun r14 m12 => some (r14, m12))) else (g1 (f_X9_in u3 (1 : Int32) (200 : Int32) m8) (fun r17 m15 => if r17 = (0 : Int32) then (g1 (f_X9_fails c0 (1 : Int32) m15) (fun r55 m53 => some (r55, m53))) else (if ¬ ((61 : Int32) < 0 ∨ gl (c0 + 1) ≤ (61 : Int32).toNatClampNeg) then gv ((m15 (c0 + 1) (61 : Int32).toNatClampNeg)) (fun x21 => if x21 = (6 : Int32) then (g1 (f_X9_refused c0 (1 : Int32) (6 : Int32) (2 : Int32) m15) (fun r52 m50 => some (r52, m50))) else (if ¬ ((0 : Int32) < 0 ∨ gl (c0 + 1) ≤ (0 : Int32).toNatClampNeg) then if (m15 (c0 + 1) (0 : Int32).toNatClampNeg) < u1 then (g1 (f_X9_looksBack c0 m15) (fun r27 m25 => if ¬ ((92 : Int32) < 0 ∨ gl (c0 + 1) ≤ (92 : Int32).toNatClampNeg) then if ¬ (((62 : Int32) + x21) < 0 ∨ gl (c0 + 1) ≤ ((62 : Int32) + x21).toNatClampNeg) then gv (ms m25 (c0 + 1) ((62 : Int32) + x21).toNatClampNeg (m25 (c0 + 1) (92 : Int32).toNatClampNeg)) (fun m30 => if ¬ (((68 : Int32) + x21) < 0 ∨ gl (c0 + 1) ≤ ((68 : Int32) + x21).toNatClampNeg) then gv (ms m30 (c0 + 1) ((68 : Int32) + x21).toNatClampNeg u1) (fun m32 => if ¬ (((74 : Int32) + x21) < 0 ∨ gl (c0 + 1) ≤ ((74 : Int32) + x21).toNatClampNeg) then gv (ms m32 (c0 + 1) ((74 : Int32) + x21).toNatClampNeg u2) (fun m34 => if ¬ (((80 : Int32) + x21) < 0 ∨ gl (c0 + 1) ≤ ((80 : Int32) + x21).toNatClampNeg) then gv (ms m34 (c0 + 1) ((80 : Int32) + x21).toNatClampNeg u3) (fun m36 => if ¬ (((86 : Int32) + x21) < 0 ∨ gl (c0 + 1) ≤ ((86 : Int32) + x21).toNatClampNeg) then gv (ms m36 (c0 + 1) ((86 : Int32) + x21).toNatClampNeg (-1 : Int32)) (fun m38 => gv (ms m38 (c0 + 1) (61 : Int32).toNatClampNeg ((m38 (c0 + 1) (61 : Int32).toNatClampNeg) + (1 : Int32))) (fun m39 => gv (ms m39 (c0 + 1) (92 : Int32).toNatClampNeg ((m39 (c0 + 1) (92 : Int32).toNatClampNeg) + (1 : Int32))) (fun m40 => g1 (f_X9_done c0 (m40 (c0 + 1) ((62 : Int32) + x21).toNatClampNeg) m40) (fun r43 m41 => g1 (f_X9_kept c0 r43 m41) (fun r46 m44 => some (r46, m44)))))) else none) else none) else none) else none) else none else none)) else (g1 (f_X9_refused c0 (10 : Int32) (m15 (c0 + 1) (0 : Int32).toNatClampNeg) (2 : Int32) m15) (fun r49 m47 => some (r49, m47))) else none)) else none))))))
set_option maxRecDepth 100000 in
set_option maxHeartbeats 4000000 in
theorem b_X9_banquet {p : Program} {l : Launch} {e : Env} {R : Room} {s : State} {m : MethodId} {args : Array Value} {below : List Frame} {meth : Method} {c : Code} {H : Heap} {locs : List Loc} {ls : Array Slot} {X : gX} (E : gEn p s m args c cX9_banquet RX9 X) (hr : meth.sig.returnType = (some .int)) (hlocks : meth.locks = false) (hml : c.maxLocals = 5) (hRf : 2 ≤ R.frames) (hRl : 46 ≤ R.locals) (hRc : 0 ≤ R.cells) (hRs : 0 ≤ R.slots) {c0 : Nat} {u1 : Int32} {u2 : Int32} {u3 : Int32} {m0 : gMem} {res : Int32 × gMem} (hk0 : gk c0 = 9) (hf : f_X9_banquet c0 u1 u2 u3 m0 = some res) (hM : gM X m0 H) (hS : va_S (gA X) s.heap H locs) (hl : lv_has ls 5 [(0, .ref (X.1 + c0)), (1, .int u1), (2, .int u2), (3, .int u3)]) : W p l e R s m args below meth c H locs 0 0 (MQ below (gQi X res) args s 0 0 (gA X)) (F0 m 0 ls []) := by
  obtain ⟨hx, hb⟩ := (⟨E.1, E.2.1⟩ : _ ∧ _)
  unfold f_X9_banquet at hf
  refine lv_iload_n hx hb dX9_banquet_0 rfl (lv_at hl 1 rfl) ?_
  refine lv_iconst (v := (0 : Int32)) hx hb dX9_banquet_1 (by decide) ?_
  refine lv_sipush (v := (9999 : Int32)) hx hb dX9_banquet_2 (by decide) ?_
  obtain ⟨r3, m1, hqq2, hf⟩ := g1_o hf
  refine ga_i (gr_S (As := [.int u1, .int (0 : Int32), .int (9999 : Int32)]) (rm := { frames := 0, cells := 0, slots := 0, locals := 0 }) E hml hl.1 (c_X9_in l X u1 (0 : Int32) (9999 : Int32) m0 hqq2) wt_X9_in wl_RX9_53 rfl hM hS rfl rfl (Nat.le_trans (by decide) hRf) (Nat.le_trans (by decide) hRl) (Nat.le_trans (Nat.le_of_ble_eq_true rfl) hRc) (Nat.le_trans (Nat.le_of_ble_eq_true rfl) hRs) (Nat.le_of_ble_eq_true rfl) dX9_banquet_5 rfl) hS (fun H locs hM hS => ?_)
  refine lv_if_eq (tgt := 32) hx hb dX9_banquet_8 (by decide) (fun h4 => ?_) (fun h4 => ?_)
  · have hf := g_t h4 hf
    refine lv_aload_n hx hb dX9_banquet_32 rfl (lv_at hl 0 rfl) ?_
    refine lv_iconst (v := (1 : Int32)) hx hb dX9_banquet_33 (by decide) ?_
    obtain ⟨r7, m5, hqq6, hf⟩ := g1_o hf
    refine ga_i (gr_V (As := [.int (1 : Int32)]) (ci := 9) (rm := { frames := 0, cells := 0, slots := 0, locals := 0 }) E hml hl.1 (c_X9_fails l X c0 (1 : Int32) m1 hk0 hqq6) wt_X9_fails wl_RX9_57 rfl hk0 (by decide) rfl rfl hM hS rfl rfl (Nat.le_trans (by decide) hRf) (Nat.le_trans (by decide) hRl) (Nat.le_trans (Nat.le_of_ble_eq_true rfl) hRc) (Nat.le_trans (Nat.le_of_ble_eq_true rfl) hRs) (Nat.le_of_ble_eq_true rfl) dX9_banquet_34 rfl) hS (fun H locs hM hS => ?_)
    exact ge_i E hr hlocks hf hM hS (Nat.le_of_ble_eq_true rfl) (Nat.le_of_ble_eq_true rfl) dX9_banquet_37
  · have hf := g_f h4 hf
    refine lv_iload_n hx hb dX9_banquet_11 rfl (lv_at hl 2 rfl) ?_
    refine lv_iconst (v := (1 : Int32)) hx hb dX9_banquet_12 (by decide) ?_
    refine lv_bipush (v := (10 : Int32)) hx hb dX9_banquet_13 (by decide) ?_
    obtain ⟨r10, m8, hqq9, hf⟩ := g1_o hf
    refine ga_i (gr_S (As := [.int u2, .int (1 : Int32), .int (10 : Int32)]) (rm := { frames := 0, cells := 0, slots := 0, locals := 0 }) E hml hl.1 (c_X9_in l X u2 (1 : Int32) (10 : Int32) m1 hqq9) wt_X9_in wl_RX9_53 rfl hM hS rfl rfl (Nat.le_trans (by decide) hRf) (Nat.le_trans (by decide) hRl) (Nat.le_trans (Nat.le_of_ble_eq_true rfl) hRc) (Nat.le_trans (Nat.le_of_ble_eq_true rfl) hRs) (Nat.le_of_ble_eq_true rfl) dX9_banquet_15 rfl) hS (fun H locs hM hS => ?_)
    refine lv_if_eq (tgt := 32) hx hb dX9_banquet_18 (by decide) (fun h11 => ?_) (fun h11 => ?_)
    · have hf := g_t h11 hf
      refine lv_aload_n hx hb dX9_banquet_32 rfl (lv_at hl 0 rfl) ?_
      refine lv_iconst (v := (1 : Int32)) hx hb dX9_banquet_33 (by decide) ?_
      obtain ⟨r14, m12, hqq13, hf⟩ := g1_o hf
      refine ga_i (gr_V (As := [.int (1 : Int32)]) (ci := 9) (rm := { frames := 0, cells := 0, slots := 0, locals := 0 }) E hml hl.1 (c_X9_fails l X c0 (1 : Int32) m8 hk0 hqq13) wt_X9_fails wl_RX9_57 rfl hk0 (by decide) rfl rfl hM hS rfl rfl (Nat.le_trans (by decide) hRf) (Nat.le_trans (by decide) hRl) (Nat.le_trans (Nat.le_of_ble_eq_true rfl) hRc) (Nat.le_trans (Nat.le_of_ble_eq_true rfl) hRs) (Nat.le_of_ble_eq_true rfl) dX9_banquet_34 rfl) hS (fun H locs hM hS => ?_)
      exact ge_i E hr hlocks hf hM hS (Nat.le_of_ble_eq_true rfl) (Nat.le_of_ble_eq_true rfl) dX9_banquet_37
    · have hf := g_f h11 hf
      refine lv_iload_n hx hb dX9_banquet_21 rfl (lv_at hl 3 rfl) ?_
      refine lv_iconst (v := (1 : Int32)) hx hb dX9_banquet_22 (by decide) ?_
      refine lv_sipush (v := (200 : Int32)) hx hb dX9_banquet_23 (by decide) ?_
      obtain ⟨r17, m15, hqq16, hf⟩ := g1_o hf
      refine ga_i (gr_S (As := [.int u3, .int (1 : Int32), .int (200 : Int32)]) (rm := { frames := 0, cells := 0, slots := 0, locals := 0 }) E hml hl.1 (c_X9_in l X u3 (1 : Int32) (200 : Int32) m8 hqq16) wt_X9_in wl_RX9_53 rfl hM hS rfl rfl (Nat.le_trans (by decide) hRf) (Nat.le_trans (by decide) hRl) (Nat.le_trans (Nat.le_of_ble_eq_true rfl) hRc) (Nat.le_trans (Nat.le_of_ble_eq_true rfl) hRs) (Nat.le_of_ble_eq_true rfl) dX9_banquet_26 rfl) hS (fun H locs hM hS => ?_)
      refine lv_if_ne (tgt := 38) hx hb dX9_banquet_29 (by decide) (fun h18 => ?_) (fun h18 => ?_)
      · have hf := g_f h18 hf
        refine lv_aload_n hx hb dX9_banquet_38 rfl (lv_at hl 0 rfl) ?_
        refine GX9_7 E hM hk0 dX9_banquet_39 ?_
        have hg19 : gk (c0 + 1) = 20 := gkf_9_0 hk0
        refine lv_bipush (v := (61 : Int32)) hx hb dX9_banquet_42 (by decide) ?_
        obtain ⟨hi20, hf⟩ := g_ck hf
        refine gg_iald E hM (gk_in hg19 (by decide)) hg19 hi20 dX9_banquet_44 ?_
        obtain ⟨x21, ex21, hf⟩ := gv_o hf
        rw [← ex21]
        refine lv_istore (lv' := [(4, .int x21), (0, .ref (X.1 + c0)), (1, .int u1), (2, .int u2), (3, .int u3)]) hx hb dX9_banquet_45 hl (by decide) rfl (fun ls hl => ?_)
        refine lv_iload hx hb dX9_banquet_47 (lv_at hl 0 rfl) ?_
        refine lv_bipush (v := (6 : Int32)) hx hb dX9_banquet_49 (by decide) ?_
        refine lv_icmp_ne (tgt := 63) hx hb dX9_banquet_51 (by decide) (fun h22 => ?_) (fun h22 => ?_)
        · have hf := g_f h22 hf
          refine lv_iload_n hx hb dX9_banquet_63 rfl (lv_at hl 2 rfl) ?_
          refine lv_aload_n hx hb dX9_banquet_64 rfl (lv_at hl 1 rfl) ?_
          refine GX9_7 E hM hk0 dX9_banquet_65 ?_
          refine lv_iconst (v := (0 : Int32)) hx hb dX9_banquet_68 (by decide) ?_
          obtain ⟨hi23, hf⟩ := g_ck hf
          refine gg_iald E hM (gk_in hg19 (by decide)) hg19 hi23 dX9_banquet_69 ?_
          refine lv_icmp_gt (tgt := 87) hx hb dX9_banquet_70 (by decide) (fun h24 => ?_) (fun h24 => ?_)
          · have hf := g_t h24 hf
            refine lv_aload_n hx hb dX9_banquet_87 rfl (lv_at hl 1 rfl) ?_
            obtain ⟨r27, m25, hqq26, hf⟩ := g1_o hf
            refine ga_v (gr_V (As := []) (ci := 9) (rm := { frames := 1, cells := 0, slots := 0, locals := 24 }) E hml hl.1 (c_X9_looksBack l X c0 m15 hk0 hqq26) wt_X9_looksBack wl_RX9_61 rfl hk0 (by decide) rfl rfl hM hS rfl rfl (Nat.le_trans (by decide) hRf) (Nat.le_trans (by decide) hRl) (Nat.le_trans (Nat.le_of_ble_eq_true rfl) hRc) (Nat.le_trans (Nat.le_of_ble_eq_true rfl) hRs) (Nat.le_of_ble_eq_true rfl) dX9_banquet_88 rfl) hS (fun H locs hM hS => ?_)
            refine lv_aload_n hx hb dX9_banquet_91 rfl (lv_at hl 1 rfl) ?_
            refine GX9_7 E hM hk0 dX9_banquet_92 ?_
            refine lv_bipush (v := (62 : Int32)) hx hb dX9_banquet_95 (by decide) ?_
            refine lv_iload hx hb dX9_banquet_97 (lv_at hl 0 rfl) ?_
            refine lv_iadd hx hb dX9_banquet_99 ?_
            refine lv_aload_n hx hb dX9_banquet_100 rfl (lv_at hl 1 rfl) ?_
            refine GX9_7 E hM hk0 dX9_banquet_101 ?_
            refine lv_bipush (v := (92 : Int32)) hx hb dX9_banquet_104 (by decide) ?_
            obtain ⟨hi28, hf⟩ := g_ck hf
            refine gg_iald E hM (gk_in hg19 (by decide)) hg19 hi28 dX9_banquet_106 ?_
            obtain ⟨hi29, hf⟩ := g_ck hf
            obtain ⟨m30, em30, hf⟩ := gv_o hf
            refine gg_iast E (fun c hc => gA_in X hc) hM hS (gk_in hg19 (by decide)) hg19 hi29 em30 dX9_banquet_107 (fun H locs hM hS => ?_)
            refine lv_aload_n hx hb dX9_banquet_108 rfl (lv_at hl 1 rfl) ?_
            refine GX9_7 E hM hk0 dX9_banquet_109 ?_
            refine lv_bipush (v := (68 : Int32)) hx hb dX9_banquet_112 (by decide) ?_
            refine lv_iload hx hb dX9_banquet_114 (lv_at hl 0 rfl) ?_
            refine lv_iadd hx hb dX9_banquet_116 ?_
            refine lv_iload_n hx hb dX9_banquet_117 rfl (lv_at hl 2 rfl) ?_
            obtain ⟨hi31, hf⟩ := g_ck hf
            obtain ⟨m32, em32, hf⟩ := gv_o hf
            refine gg_iast E (fun c hc => gA_in X hc) hM hS (gk_in hg19 (by decide)) hg19 hi31 em32 dX9_banquet_118 (fun H locs hM hS => ?_)
            refine lv_aload_n hx hb dX9_banquet_119 rfl (lv_at hl 1 rfl) ?_
            refine GX9_7 E hM hk0 dX9_banquet_120 ?_
            refine lv_bipush (v := (74 : Int32)) hx hb dX9_banquet_123 (by decide) ?_
            refine lv_iload hx hb dX9_banquet_125 (lv_at hl 0 rfl) ?_
            refine lv_iadd hx hb dX9_banquet_127 ?_
            refine lv_iload_n hx hb dX9_banquet_128 rfl (lv_at hl 3 rfl) ?_
            obtain ⟨hi33, hf⟩ := g_ck hf
            obtain ⟨m34, em34, hf⟩ := gv_o hf
            refine gg_iast E (fun c hc => gA_in X hc) hM hS (gk_in hg19 (by decide)) hg19 hi33 em34 dX9_banquet_129 (fun H locs hM hS => ?_)
            refine lv_aload_n hx hb dX9_banquet_130 rfl (lv_at hl 1 rfl) ?_
            refine GX9_7 E hM hk0 dX9_banquet_131 ?_
            refine lv_bipush (v := (80 : Int32)) hx hb dX9_banquet_134 (by decide) ?_
            refine lv_iload hx hb dX9_banquet_136 (lv_at hl 0 rfl) ?_
            refine lv_iadd hx hb dX9_banquet_138 ?_
            refine lv_iload_n hx hb dX9_banquet_139 rfl (lv_at hl 4 rfl) ?_
            obtain ⟨hi35, hf⟩ := g_ck hf
            obtain ⟨m36, em36, hf⟩ := gv_o hf
            refine gg_iast E (fun c hc => gA_in X hc) hM hS (gk_in hg19 (by decide)) hg19 hi35 em36 dX9_banquet_140 (fun H locs hM hS => ?_)
            refine lv_aload_n hx hb dX9_banquet_141 rfl (lv_at hl 1 rfl) ?_
            refine GX9_7 E hM hk0 dX9_banquet_142 ?_
            refine lv_bipush (v := (86 : Int32)) hx hb dX9_banquet_145 (by decide) ?_
            refine lv_iload hx hb dX9_banquet_147 (lv_at hl 0 rfl) ?_
            refine lv_iadd hx hb dX9_banquet_149 ?_
            refine lv_iconst (v := (-1 : Int32)) hx hb dX9_banquet_150 (by decide) ?_
            obtain ⟨hi37, hf⟩ := g_ck hf
            obtain ⟨m38, em38, hf⟩ := gv_o hf
            refine gg_iast E (fun c hc => gA_in X hc) hM hS (gk_in hg19 (by decide)) hg19 hi37 em38 dX9_banquet_151 (fun H locs hM hS => ?_)
            refine lv_aload_n hx hb dX9_banquet_152 rfl (lv_at hl 1 rfl) ?_
            refine GX9_7 E hM hk0 dX9_banquet_153 ?_
            refine lv_bipush (v := (61 : Int32)) hx hb dX9_banquet_156 (by decide) ?_
            refine lv_dup2_11 hx hb dX9_banquet_158 rfl rfl ?_
            refine gg_iald E hM (gk_in hg19 (by decide)) hg19 hi20 dX9_banquet_159 ?_
            refine lv_iconst (v := (1 : Int32)) hx hb dX9_banquet_160 (by decide) ?_
            refine lv_iadd hx hb dX9_banquet_161 ?_
            obtain ⟨m39, em39, hf⟩ := gv_o hf
            refine gg_iast E (fun c hc => gA_in X hc) hM hS (gk_in hg19 (by decide)) hg19 hi20 em39 dX9_banquet_162 (fun H locs hM hS => ?_)
            refine lv_aload_n hx hb dX9_banquet_163 rfl (lv_at hl 1 rfl) ?_
            refine GX9_7 E hM hk0 dX9_banquet_164 ?_
            refine lv_bipush (v := (92 : Int32)) hx hb dX9_banquet_167 (by decide) ?_
            refine lv_dup2_11 hx hb dX9_banquet_169 rfl rfl ?_
            refine gg_iald E hM (gk_in hg19 (by decide)) hg19 hi28 dX9_banquet_170 ?_
            refine lv_iconst (v := (1 : Int32)) hx hb dX9_banquet_171 (by decide) ?_
            refine lv_iadd hx hb dX9_banquet_172 ?_
            obtain ⟨m40, em40, hf⟩ := gv_o hf
            refine gg_iast E (fun c hc => gA_in X hc) hM hS (gk_in hg19 (by decide)) hg19 hi28 em40 dX9_banquet_173 (fun H locs hM hS => ?_)
            refine lv_aload_n hx hb dX9_banquet_174 rfl (lv_at hl 1 rfl) ?_
            refine lv_aload_n hx hb dX9_banquet_175 rfl (lv_at hl 1 rfl) ?_
            refine lv_aload_n hx hb dX9_banquet_176 rfl (lv_at hl 1 rfl) ?_
            refine GX9_7 E hM hk0 dX9_banquet_177 ?_
            refine lv_bipush (v := (62 : Int32)) hx hb dX9_banquet_180 (by decide) ?_
            refine lv_iload hx hb dX9_banquet_182 (lv_at hl 0 rfl) ?_
            refine lv_iadd hx hb dX9_banquet_184 ?_
            refine gg_iald E hM (gk_in hg19 (by decide)) hg19 hi29 dX9_banquet_185 ?_
            obtain ⟨r43, m41, hqq42, hf⟩ := g1_o hf
            refine ga_i (gr_V (As := [.int (m40 (c0 + 1) ((62 : Int32) + x21).toNatClampNeg)]) (ci := 9) (rm := { frames := 0, cells := 0, slots := 0, locals := 0 }) E hml hl.1 (c_X9_done l X c0 (m40 (c0 + 1) ((62 : Int32) + x21).toNatClampNeg) m40 hk0 hqq42) wt_X9_done wl_RX9_64 rfl hk0 (by decide) rfl rfl hM hS rfl rfl (Nat.le_trans (by decide) hRf) (Nat.le_trans (by decide) hRl) (Nat.le_trans (Nat.le_of_ble_eq_true rfl) hRc) (Nat.le_trans (Nat.le_of_ble_eq_true rfl) hRs) (Nat.le_of_ble_eq_true rfl) dX9_banquet_186 rfl) hS (fun H locs hM hS => ?_)
            obtain ⟨r46, m44, hqq45, hf⟩ := g1_o hf
            refine ga_i (gr_V (As := [.int r43]) (ci := 9) (rm := { frames := 1, cells := 0, slots := 0, locals := 24 }) E hml hl.1 (c_X9_kept l X c0 r43 m41 hk0 hqq45) wt_X9_kept wl_RX9_67 rfl hk0 (by decide) rfl rfl hM hS rfl rfl (Nat.le_trans (by decide) hRf) (Nat.le_trans (by decide) hRl) (Nat.le_trans (Nat.le_of_ble_eq_true rfl) hRc) (Nat.le_trans (Nat.le_of_ble_eq_true rfl) hRs) (Nat.le_of_ble_eq_true rfl) dX9_banquet_189 rfl) hS (fun H locs hM hS => ?_)
            exact ge_i E hr hlocks hf hM hS (Nat.le_of_ble_eq_true rfl) (Nat.le_of_ble_eq_true rfl) dX9_banquet_192
          · have hf := g_f h24 hf
            refine lv_aload_n hx hb dX9_banquet_73 rfl (lv_at hl 1 rfl) ?_
            refine lv_bipush (v := (10 : Int32)) hx hb dX9_banquet_74 (by decide) ?_
            refine lv_aload_n hx hb dX9_banquet_76 rfl (lv_at hl 1 rfl) ?_
            refine GX9_7 E hM hk0 dX9_banquet_77 ?_
            refine lv_iconst (v := (0 : Int32)) hx hb dX9_banquet_80 (by decide) ?_
            refine gg_iald E hM (gk_in hg19 (by decide)) hg19 hi23 dX9_banquet_81 ?_
            refine lv_iconst (v := (2 : Int32)) hx hb dX9_banquet_82 (by decide) ?_
            obtain ⟨r49, m47, hqq48, hf⟩ := g1_o hf
            refine ga_i (gr_V (As := [.int (10 : Int32), .int (m15 (c0 + 1) (0 : Int32).toNatClampNeg), .int (2 : Int32)]) (ci := 9) (rm := { frames := 0, cells := 0, slots := 0, locals := 0 }) E hml hl.1 (c_X9_refused l X c0 (10 : Int32) (m15 (c0 + 1) (0 : Int32).toNatClampNeg) (2 : Int32) m15 hk0 hqq48) wt_X9_refused wl_RX9_77 rfl hk0 (by decide) rfl rfl hM hS rfl rfl (Nat.le_trans (by decide) hRf) (Nat.le_trans (by decide) hRl) (Nat.le_trans (Nat.le_of_ble_eq_true rfl) hRc) (Nat.le_trans (Nat.le_of_ble_eq_true rfl) hRs) (Nat.le_of_ble_eq_true rfl) dX9_banquet_83 rfl) hS (fun H locs hM hS => ?_)
            exact ge_i E hr hlocks hf hM hS (Nat.le_of_ble_eq_true rfl) (Nat.le_of_ble_eq_true rfl) dX9_banquet_86
        · have hf := g_t h22 hf
          refine lv_aload_n hx hb dX9_banquet_54 rfl (lv_at hl 1 rfl) ?_
          refine lv_iconst (v := (1 : Int32)) hx hb dX9_banquet_55 (by decide) ?_
          refine lv_bipush (v := (6 : Int32)) hx hb dX9_banquet_56 (by decide) ?_
          refine lv_iconst (v := (2 : Int32)) hx hb dX9_banquet_58 (by decide) ?_
          obtain ⟨r52, m50, hqq51, hf⟩ := g1_o hf
          refine ga_i (gr_V (As := [.int (1 : Int32), .int (6 : Int32), .int (2 : Int32)]) (ci := 9) (rm := { frames := 0, cells := 0, slots := 0, locals := 0 }) E hml hl.1 (c_X9_refused l X c0 (1 : Int32) (6 : Int32) (2 : Int32) m15 hk0 hqq51) wt_X9_refused wl_RX9_77 rfl hk0 (by decide) rfl rfl hM hS rfl rfl (Nat.le_trans (by decide) hRf) (Nat.le_trans (by decide) hRl) (Nat.le_trans (Nat.le_of_ble_eq_true rfl) hRc) (Nat.le_trans (Nat.le_of_ble_eq_true rfl) hRs) (Nat.le_of_ble_eq_true rfl) dX9_banquet_59 rfl) hS (fun H locs hM hS => ?_)
          exact ge_i E hr hlocks hf hM hS (Nat.le_of_ble_eq_true rfl) (Nat.le_of_ble_eq_true rfl) dX9_banquet_62
      · have hf := g_t h18 hf
        refine lv_aload_n hx hb dX9_banquet_32 rfl (lv_at hl 0 rfl) ?_
        refine lv_iconst (v := (1 : Int32)) hx hb dX9_banquet_33 (by decide) ?_
        obtain ⟨r55, m53, hqq54, hf⟩ := g1_o hf
        refine ga_i (gr_V (As := [.int (1 : Int32)]) (ci := 9) (rm := { frames := 0, cells := 0, slots := 0, locals := 0 }) E hml hl.1 (c_X9_fails l X c0 (1 : Int32) m15 hk0 hqq54) wt_X9_fails wl_RX9_57 rfl hk0 (by decide) rfl rfl hM hS rfl rfl (Nat.le_trans (by decide) hRf) (Nat.le_trans (by decide) hRl) (Nat.le_trans (Nat.le_of_ble_eq_true rfl) hRc) (Nat.le_trans (Nat.le_of_ble_eq_true rfl) hRs) (Nat.le_of_ble_eq_true rfl) dX9_banquet_34 rfl) hS (fun H locs hM hS => ?_)
        exact ge_i E hr hlocks hf hM hS (Nat.le_of_ble_eq_true rfl) (Nat.le_of_ble_eq_true rfl) dX9_banquet_37
theorem c_X9_banquet (l : Launch) (X : gX) (c0 : Nat) (u1 : Int32) (u2 : Int32) (u3 : Int32) (m0 : gMem) {res : Int32 × gMem} (hk0 : gk c0 = 9) (hf : f_X9_banquet c0 u1 u2 u3 m0 = some res) : Met l yX9_banquet (gWs yX9_banquet cX9_banquet 5 (some .int)) { frames := 2, cells := 0, slots := 0, locals := 46 } (va_Pc [.ref (X.1 + c0), .int u1, .int u2, .int u3] (gB X m0)) (gQi X res) 0 0 (gA X) :=
  gMet (own := RX9) (by decide +kernel) rfl (Nat.le_of_ble_eq_true rfl) (fun p e s m args below meth c ls E hr hlocks hml hM hl => b_X9_banquet E hr hlocks hml (Nat.le_refl _) (Nat.le_refl _) (Nat.le_refl _) (Nat.le_refl _) hk0 hf hM va_S.rf hl)
def L_X9_placeOf_2 (c0 : Nat) (u1 : Int32) : Nat → Int32 → gMem → Option (Int32 × gMem)
  | 0, _, _ => none
  | n + 1, y2, m0 => if ¬ ((61 : Int32) < 0 ∨ gl (c0 + 1) ≤ (61 : Int32).toNatClampNeg) then if (m0 (c0 + 1) (61 : Int32).toNatClampNeg) ≤ y2 then (some ((-1 : Int32), m0)) else (if ¬ (((62 : Int32) + y2) < 0 ∨ gl (c0 + 1) ≤ ((62 : Int32) + y2).toNatClampNeg) then if (m0 (c0 + 1) ((62 : Int32) + y2).toNatClampNeg) = u1 then (some (y2, m0)) else (gv (y2 + (1 : Int32)) (fun x6 => L_X9_placeOf_2 c0 u1 n x6 m0)) else none) else none
def f_X9_placeOf (c0 : Nat) (u1 : Int32) (m0 : gMem) : Option (Int32 × gMem) := L_X9_placeOf_2 c0 u1 gF (0 : Int32) m0
set_option maxRecDepth 100000 in
set_option maxHeartbeats 4000000 in
theorem l_X9_placeOf_2 {p : Program} {l : Launch} {e : Env} {R : Room} {s : State} {m : MethodId} {args : Array Value} {below : List Frame} {meth : Method} {c : Code} {cells slots : Nat} {X : gX} (E : gEn p s m args c cX9_placeOf RX9 X) (hr : meth.sig.returnType = (some .int)) (hlocks : meth.locks = false) (hml : c.maxLocals = 3) (hRf : 0 ≤ R.frames) (hRl : 0 ≤ R.locals) (hRc : 0 ≤ R.cells) (hRs : 0 ≤ R.slots) (hc : cells ≤ 0) (hs : slots ≤ 0) (c0 : Nat) (u1 : Int32) (hk0 : gk c0 = 9) {res : Int32 × gMem} :
    ∀ (n : Nat) (y2 : Int32) (m0 : gMem) (H : Heap) (locs : List Loc) (ls : Array Slot), L_X9_placeOf_2 c0 u1 n y2 m0 = some res → gM X m0 H → va_S (gA X) s.heap H locs → lv_has ls 3 [(0, .ref (X.1 + c0)), (1, .int u1), (2, .int y2)] → W p l e R s m args below meth c H locs cells slots (MQ below (gQi X res) args s 0 0 (gA X)) (F0 m 2 ls []) := by
  obtain ⟨hx, hb⟩ := (⟨E.1, E.2.1⟩ : _ ∧ _)
  intro n
  induction n with
  | zero =>
    intro _ _ _ _ _ hf
    cases hf
  | succ n ih =>
    intro y2 m0 H locs ls hf hM hS hl
    rw [L_X9_placeOf_2] at hf
    refine lv_iload_n hx hb dX9_placeOf_2 rfl (lv_at hl 2 rfl) ?_
    refine lv_aload_n hx hb dX9_placeOf_3 rfl (lv_at hl 0 rfl) ?_
    refine GX9_7 E hM hk0 dX9_placeOf_4 ?_
    have hg1 : gk (c0 + 1) = 20 := gkf_9_0 hk0
    refine lv_bipush (v := (61 : Int32)) hx hb dX9_placeOf_7 (by decide) ?_
    obtain ⟨hi2, hf⟩ := g_ck hf
    refine gg_iald E hM (gk_in hg1 (by decide)) hg1 hi2 dX9_placeOf_9 ?_
    refine lv_icmp_ge (tgt := 34) hx hb dX9_placeOf_10 (by decide) (fun h3 => ?_) (fun h3 => ?_)
    · have hf := g_t h3 hf
      refine lv_iconst (v := (-1 : Int32)) hx hb dX9_placeOf_34 (by decide) ?_
      exact ge_i E hr hlocks hf hM hS hc hs dX9_placeOf_35
    · have hf := g_f h3 hf
      refine lv_aload_n hx hb dX9_placeOf_13 rfl (lv_at hl 0 rfl) ?_
      refine GX9_7 E hM hk0 dX9_placeOf_14 ?_
      refine lv_bipush (v := (62 : Int32)) hx hb dX9_placeOf_17 (by decide) ?_
      refine lv_iload_n hx hb dX9_placeOf_19 rfl (lv_at hl 2 rfl) ?_
      refine lv_iadd hx hb dX9_placeOf_20 ?_
      obtain ⟨hi4, hf⟩ := g_ck hf
      refine gg_iald E hM (gk_in hg1 (by decide)) hg1 hi4 dX9_placeOf_21 ?_
      refine lv_iload_n hx hb dX9_placeOf_22 rfl (lv_at hl 1 rfl) ?_
      refine lv_icmp_ne (tgt := 28) hx hb dX9_placeOf_23 (by decide) (fun h5 => ?_) (fun h5 => ?_)
      · have hf := g_f h5 hf
        obtain ⟨x6, ex6, hf⟩ := gv_o hf
        refine lv_iinc (v := x6) (lv' := [(2, .int x6), (0, .ref (X.1 + c0)), (1, .int u1)]) hx hb dX9_placeOf_28 hl (k := 2) rfl (by rw [ex6]; rfl) (by decide) rfl (fun ls hl => ?_)
        refine lv_goto (tgt := 2) hx hb dX9_placeOf_31 (by decide) ?_
        exact ih x6 m0 _ _ _ hf hM hS (lv_sub hl [1, 2, 0] rfl)
      · have hf := g_t h5 hf
        refine lv_iload_n hx hb dX9_placeOf_26 rfl (lv_at hl 2 rfl) ?_
        exact ge_i E hr hlocks hf hM hS hc hs dX9_placeOf_27
set_option maxRecDepth 100000 in
set_option maxHeartbeats 4000000 in
theorem b_X9_placeOf {p : Program} {l : Launch} {e : Env} {R : Room} {s : State} {m : MethodId} {args : Array Value} {below : List Frame} {meth : Method} {c : Code} {H : Heap} {locs : List Loc} {ls : Array Slot} {X : gX} (E : gEn p s m args c cX9_placeOf RX9 X) (hr : meth.sig.returnType = (some .int)) (hlocks : meth.locks = false) (hml : c.maxLocals = 3) (hRf : 0 ≤ R.frames) (hRl : 0 ≤ R.locals) (hRc : 0 ≤ R.cells) (hRs : 0 ≤ R.slots) {c0 : Nat} {u1 : Int32} {m0 : gMem} {res : Int32 × gMem} (hk0 : gk c0 = 9) (hf : f_X9_placeOf c0 u1 m0 = some res) (hM : gM X m0 H) (hS : va_S (gA X) s.heap H locs) (hl : lv_has ls 3 [(0, .ref (X.1 + c0)), (1, .int u1)]) : W p l e R s m args below meth c H locs 0 0 (MQ below (gQi X res) args s 0 0 (gA X)) (F0 m 0 ls []) := by
  obtain ⟨hx, hb⟩ := (⟨E.1, E.2.1⟩ : _ ∧ _)
  unfold f_X9_placeOf at hf
  refine lv_iconst (v := (0 : Int32)) hx hb dX9_placeOf_0 (by decide) ?_
  refine lv_istore_n (lv' := [(2, .int (0 : Int32)), (0, .ref (X.1 + c0)), (1, .int u1)]) hx hb dX9_placeOf_1 rfl hl (by decide) rfl (fun ls hl => ?_)
  refine l_X9_placeOf_2 E hr hlocks hml hRf hRl hRc hRs (Nat.le_of_ble_eq_true rfl) (Nat.le_of_ble_eq_true rfl) c0 u1 hk0 gF (0 : Int32) m0 _ _ _ hf hM hS (lv_sub hl [1, 2, 0] rfl)
theorem c_X9_placeOf (l : Launch) (X : gX) (c0 : Nat) (u1 : Int32) (m0 : gMem) {res : Int32 × gMem} (hk0 : gk c0 = 9) (hf : f_X9_placeOf c0 u1 m0 = some res) : Met l yX9_placeOf (gWs yX9_placeOf cX9_placeOf 3 (some .int)) { frames := 0, cells := 0, slots := 0, locals := 0 } (va_Pc [.ref (X.1 + c0), .int u1] (gB X m0)) (gQi X res) 0 0 (gA X) :=
  gMet (own := RX9) (by decide +kernel) rfl (Nat.le_of_ble_eq_true rfl) (fun p e s m args below meth c ls E hr hlocks hml hM hl => b_X9_placeOf E hr hlocks hml (Nat.le_refl _) (Nat.le_refl _) (Nat.le_refl _) (Nat.le_refl _) hk0 hf hM va_S.rf hl)
def f_X9_missing (c0 : Nat) (u1 : Int32) (m0 : gMem) : Option (Int32 × gMem) := if ¬ (((74 : Int32) + u1) < 0 ∨ gl (c0 + 1) ≤ ((74 : Int32) + u1).toNatClampNeg) then if ¬ (((86 : Int32) + u1) < 0 ∨ gl (c0 + 1) ≤ ((86 : Int32) + u1).toNatClampNeg) then if (m0 (c0 + 1) ((86 : Int32) + u1).toNatClampNeg) = (-1 : Int32) then (gv (((m0 (c0 + 1) ((74 : Int32) + u1).toNatClampNeg) - (0 : Int32))) (fun x8 => if (0 : Int32) ≤ x8 then (some (x8, m0)) else (some ((0 : Int32), m0)))) else (if ¬ (((36 : Int32) + (m0 (c0 + 1) ((86 : Int32) + u1).toNatClampNeg)) < 0 ∨ gl (c0 + 1) ≤ ((36 : Int32) + (m0 (c0 + 1) ((86 : Int32) + u1).toNatClampNeg)).toNatClampNeg) then gv (((m0 (c0 + 1) ((74 : Int32) + u1).toNatClampNeg) - (m0 (c0 + 1) ((36 : Int32) + (m0 (c0 + 1) ((86 : Int32) + u1).toNatClampNeg)).toNatClampNeg))) (fun x6 => if (0 : Int32) ≤ x6 then (some (x6, m0)) else (some ((0 : Int32), m0))) else none) else none else none
set_option maxRecDepth 100000 in
set_option maxHeartbeats 4000000 in
theorem b_X9_missing {p : Program} {l : Launch} {e : Env} {R : Room} {s : State} {m : MethodId} {args : Array Value} {below : List Frame} {meth : Method} {c : Code} {H : Heap} {locs : List Loc} {ls : Array Slot} {X : gX} (E : gEn p s m args c cX9_missing RX9 X) (hr : meth.sig.returnType = (some .int)) (hlocks : meth.locks = false) (hml : c.maxLocals = 3) (hRf : 0 ≤ R.frames) (hRl : 0 ≤ R.locals) (hRc : 0 ≤ R.cells) (hRs : 0 ≤ R.slots) {c0 : Nat} {u1 : Int32} {m0 : gMem} {res : Int32 × gMem} (hk0 : gk c0 = 9) (hf : f_X9_missing c0 u1 m0 = some res) (hM : gM X m0 H) (hS : va_S (gA X) s.heap H locs) (hl : lv_has ls 3 [(0, .ref (X.1 + c0)), (1, .int u1)]) : W p l e R s m args below meth c H locs 0 0 (MQ below (gQi X res) args s 0 0 (gA X)) (F0 m 0 ls []) := by
  obtain ⟨hx, hb⟩ := (⟨E.1, E.2.1⟩ : _ ∧ _)
  unfold f_X9_missing at hf
  refine lv_aload_n hx hb dX9_missing_0 rfl (lv_at hl 0 rfl) ?_
  refine GX9_7 E hM hk0 dX9_missing_1 ?_
  have hg1 : gk (c0 + 1) = 20 := gkf_9_0 hk0
  refine lv_bipush (v := (74 : Int32)) hx hb dX9_missing_4 (by decide) ?_
  refine lv_iload_n hx hb dX9_missing_6 rfl (lv_at hl 1 rfl) ?_
  refine lv_iadd hx hb dX9_missing_7 ?_
  obtain ⟨hi2, hf⟩ := g_ck hf
  refine gg_iald E hM (gk_in hg1 (by decide)) hg1 hi2 dX9_missing_8 ?_
  refine lv_aload_n hx hb dX9_missing_9 rfl (lv_at hl 0 rfl) ?_
  refine GX9_7 E hM hk0 dX9_missing_10 ?_
  refine lv_bipush (v := (86 : Int32)) hx hb dX9_missing_13 (by decide) ?_
  refine lv_iload_n hx hb dX9_missing_15 rfl (lv_at hl 1 rfl) ?_
  refine lv_iadd hx hb dX9_missing_16 ?_
  obtain ⟨hi3, hf⟩ := g_ck hf
  refine gg_iald E hM (gk_in hg1 (by decide)) hg1 hi3 dX9_missing_17 ?_
  refine lv_iconst (v := (-1 : Int32)) hx hb dX9_missing_18 (by decide) ?_
  refine lv_icmp_ne (tgt := 26) hx hb dX9_missing_19 (by decide) (fun h4 => ?_) (fun h4 => ?_)
  · have hf := g_f h4 hf
    refine lv_aload_n hx hb dX9_missing_26 rfl (lv_at hl 0 rfl) ?_
    refine GX9_7 E hM hk0 dX9_missing_27 ?_
    refine lv_bipush (v := (36 : Int32)) hx hb dX9_missing_30 (by decide) ?_
    refine lv_aload_n hx hb dX9_missing_32 rfl (lv_at hl 0 rfl) ?_
    refine GX9_7 E hM hk0 dX9_missing_33 ?_
    refine lv_bipush (v := (86 : Int32)) hx hb dX9_missing_36 (by decide) ?_
    refine lv_iload_n hx hb dX9_missing_38 rfl (lv_at hl 1 rfl) ?_
    refine lv_iadd hx hb dX9_missing_39 ?_
    refine gg_iald E hM (gk_in hg1 (by decide)) hg1 hi3 dX9_missing_40 ?_
    refine lv_iadd hx hb dX9_missing_41 ?_
    obtain ⟨hi5, hf⟩ := g_ck hf
    refine gg_iald E hM (gk_in hg1 (by decide)) hg1 hi5 dX9_missing_42 ?_
    refine lv_isub hx hb dX9_missing_43 ?_
    obtain ⟨x6, ex6, hf⟩ := gv_o hf
    rw [← ex6]
    refine lv_istore_n (lv' := [(2, .int x6), (0, .ref (X.1 + c0)), (1, .int u1)]) hx hb dX9_missing_44 rfl hl (by decide) rfl (fun ls hl => ?_)
    refine lv_iload_n hx hb dX9_missing_45 rfl (lv_at hl 0 rfl) ?_
    refine lv_if_ge (tgt := 53) hx hb dX9_missing_46 (by decide) (fun h7 => ?_) (fun h7 => ?_)
    · have hf := g_t h7 hf
      refine lv_iload_n hx hb dX9_missing_53 rfl (lv_at hl 0 rfl) ?_
      exact ge_i E hr hlocks hf hM hS (Nat.le_of_ble_eq_true rfl) (Nat.le_of_ble_eq_true rfl) dX9_missing_54
    · have hf := g_f h7 hf
      refine lv_iconst (v := (0 : Int32)) hx hb dX9_missing_49 (by decide) ?_
      refine lv_goto (tgt := 54) hx hb dX9_missing_50 (by decide) ?_
      exact ge_i E hr hlocks hf hM hS (Nat.le_of_ble_eq_true rfl) (Nat.le_of_ble_eq_true rfl) dX9_missing_54
  · have hf := g_t h4 hf
    refine lv_iconst (v := (0 : Int32)) hx hb dX9_missing_22 (by decide) ?_
    refine lv_goto (tgt := 43) hx hb dX9_missing_23 (by decide) ?_
    refine lv_isub hx hb dX9_missing_43 ?_
    obtain ⟨x8, ex8, hf⟩ := gv_o hf
    rw [← ex8]
    refine lv_istore_n (lv' := [(2, .int x8), (0, .ref (X.1 + c0)), (1, .int u1)]) hx hb dX9_missing_44 rfl hl (by decide) rfl (fun ls hl => ?_)
    refine lv_iload_n hx hb dX9_missing_45 rfl (lv_at hl 0 rfl) ?_
    refine lv_if_ge (tgt := 53) hx hb dX9_missing_46 (by decide) (fun h9 => ?_) (fun h9 => ?_)
    · have hf := g_t h9 hf
      refine lv_iload_n hx hb dX9_missing_53 rfl (lv_at hl 0 rfl) ?_
      exact ge_i E hr hlocks hf hM hS (Nat.le_of_ble_eq_true rfl) (Nat.le_of_ble_eq_true rfl) dX9_missing_54
    · have hf := g_f h9 hf
      refine lv_iconst (v := (0 : Int32)) hx hb dX9_missing_49 (by decide) ?_
      refine lv_goto (tgt := 54) hx hb dX9_missing_50 (by decide) ?_
      exact ge_i E hr hlocks hf hM hS (Nat.le_of_ble_eq_true rfl) (Nat.le_of_ble_eq_true rfl) dX9_missing_54
theorem c_X9_missing (l : Launch) (X : gX) (c0 : Nat) (u1 : Int32) (m0 : gMem) {res : Int32 × gMem} (hk0 : gk c0 = 9) (hf : f_X9_missing c0 u1 m0 = some res) : Met l yX9_missing (gWs yX9_missing cX9_missing 3 (some .int)) { frames := 0, cells := 0, slots := 0, locals := 0 } (va_Pc [.ref (X.1 + c0), .int u1] (gB X m0)) (gQi X res) 0 0 (gA X) :=
  gMet (own := RX9) (by decide +kernel) rfl (Nat.le_of_ble_eq_true rfl) (fun p e s m args below meth c ls E hr hlocks hml hM hl => b_X9_missing E hr hlocks hml (Nat.le_refl _) (Nat.le_refl _) (Nat.le_refl _) (Nat.le_refl _) hk0 hf hM va_S.rf hl)
def f_X9_shows (c0 : Nat) (u1 : Int32) (u2 : Int32) (m0 : gMem) : Option (Int32 × gMem) := g1 (f_X9_placeOf c0 u1 m0) (fun r3 m1 => if r3 = (-1 : Int32) then (g1 (f_X9_fails c0 (1 : Int32) m1) (fun r23 m21 => some (r23, m21))) else (g1 (f_X9_isTower c0 u2 m1) (fun r7 m5 => if r7 = (0 : Int32) then (g1 (f_X9_fails c0 (2 : Int32) m5) (fun r20 m18 => some (r20, m18))) else (if ¬ (((86 : Int32) + r3) < 0 ∨ gl (c0 + 1) ≤ ((86 : Int32) + r3).toNatClampNeg) then gv (ms m5 (c0 + 1) ((86 : Int32) + r3).toNatClampNeg u2) (fun m11 => g1 (f_X9_missing c0 r3 m11) (fun r14 m12 => g1 (f_X9_done c0 r14 m12) (fun r17 m15 => some (r17, m15)))) else none))))
set_option maxRecDepth 100000 in
set_option maxHeartbeats 4000000 in
theorem b_X9_shows {p : Program} {l : Launch} {e : Env} {R : Room} {s : State} {m : MethodId} {args : Array Value} {below : List Frame} {meth : Method} {c : Code} {H : Heap} {locs : List Loc} {ls : Array Slot} {X : gX} (E : gEn p s m args c cX9_shows RX9 X) (hr : meth.sig.returnType = (some .int)) (hlocks : meth.locks = false) (hml : c.maxLocals = 4) (hRf : 2 ≤ R.frames) (hRl : 43 ≤ R.locals) (hRc : 0 ≤ R.cells) (hRs : 0 ≤ R.slots) {c0 : Nat} {u1 : Int32} {u2 : Int32} {m0 : gMem} {res : Int32 × gMem} (hk0 : gk c0 = 9) (hf : f_X9_shows c0 u1 u2 m0 = some res) (hM : gM X m0 H) (hS : va_S (gA X) s.heap H locs) (hl : lv_has ls 4 [(0, .ref (X.1 + c0)), (1, .int u1), (2, .int u2)]) : W p l e R s m args below meth c H locs 0 0 (MQ below (gQi X res) args s 0 0 (gA X)) (F0 m 0 ls []) := by
  obtain ⟨hx, hb⟩ := (⟨E.1, E.2.1⟩ : _ ∧ _)
  unfold f_X9_shows at hf
  refine lv_aload_n hx hb dX9_shows_0 rfl (lv_at hl 0 rfl) ?_
  refine lv_iload_n hx hb dX9_shows_1 rfl (lv_at hl 1 rfl) ?_
  obtain ⟨r3, m1, hqq2, hf⟩ := g1_o hf
  refine ga_i (gr_V (As := [.int u1]) (ci := 9) (rm := { frames := 0, cells := 0, slots := 0, locals := 0 }) E hml hl.1 (c_X9_placeOf l X c0 u1 m0 hk0 hqq2) wt_X9_placeOf wl_RX9_146 rfl hk0 (by decide) rfl rfl hM hS rfl rfl (Nat.le_trans (by decide) hRf) (Nat.le_trans (by decide) hRl) (Nat.le_trans (Nat.le_of_ble_eq_true rfl) hRc) (Nat.le_trans (Nat.le_of_ble_eq_true rfl) hRs) (Nat.le_of_ble_eq_true rfl) dX9_shows_2 rfl) hS (fun H locs hM hS => ?_)
  refine lv_istore_n (lv' := [(3, .int r3), (0, .ref (X.1 + c0)), (1, .int u1), (2, .int u2)]) hx hb dX9_shows_5 rfl hl (by decide) rfl (fun ls hl => ?_)
  refine lv_iload_n hx hb dX9_shows_6 rfl (lv_at hl 0 rfl) ?_
  refine lv_iconst (v := (-1 : Int32)) hx hb dX9_shows_7 (by decide) ?_
  refine lv_icmp_ne (tgt := 17) hx hb dX9_shows_8 (by decide) (fun h4 => ?_) (fun h4 => ?_)
  · have hf := g_f h4 hf
    refine lv_aload_n hx hb dX9_shows_17 rfl (lv_at hl 1 rfl) ?_
    refine lv_iload_n hx hb dX9_shows_18 rfl (lv_at hl 3 rfl) ?_
    obtain ⟨r7, m5, hqq6, hf⟩ := g1_o hf
    refine ga_i (gr_V (As := [.int u2]) (ci := 9) (rm := { frames := 1, cells := 0, slots := 0, locals := 22 }) E hml hl.1 (c_X9_isTower l X c0 u2 m1 hk0 hqq6) wt_X9_isTower wl_RX9_88 rfl hk0 (by decide) rfl rfl hM hS rfl rfl (Nat.le_trans (by decide) hRf) (Nat.le_trans (by decide) hRl) (Nat.le_trans (Nat.le_of_ble_eq_true rfl) hRc) (Nat.le_trans (Nat.le_of_ble_eq_true rfl) hRs) (Nat.le_of_ble_eq_true rfl) dX9_shows_19 rfl) hS (fun H locs hM hS => ?_)
    refine lv_if_ne (tgt := 31) hx hb dX9_shows_22 (by decide) (fun h8 => ?_) (fun h8 => ?_)
    · have hf := g_f h8 hf
      refine lv_aload_n hx hb dX9_shows_31 rfl (lv_at hl 1 rfl) ?_
      refine GX9_7 E hM hk0 dX9_shows_32 ?_
      have hg9 : gk (c0 + 1) = 20 := gkf_9_0 hk0
      refine lv_bipush (v := (86 : Int32)) hx hb dX9_shows_35 (by decide) ?_
      refine lv_iload_n hx hb dX9_shows_37 rfl (lv_at hl 0 rfl) ?_
      refine lv_iadd hx hb dX9_shows_38 ?_
      refine lv_iload_n hx hb dX9_shows_39 rfl (lv_at hl 3 rfl) ?_
      obtain ⟨hi10, hf⟩ := g_ck hf
      obtain ⟨m11, em11, hf⟩ := gv_o hf
      refine gg_iast E (fun c hc => gA_in X hc) hM hS (gk_in hg9 (by decide)) hg9 hi10 em11 dX9_shows_40 (fun H locs hM hS => ?_)
      refine lv_aload_n hx hb dX9_shows_41 rfl (lv_at hl 1 rfl) ?_
      refine lv_aload_n hx hb dX9_shows_42 rfl (lv_at hl 1 rfl) ?_
      refine lv_iload_n hx hb dX9_shows_43 rfl (lv_at hl 0 rfl) ?_
      obtain ⟨r14, m12, hqq13, hf⟩ := g1_o hf
      refine ga_i (gr_V (As := [.int r3]) (ci := 9) (rm := { frames := 0, cells := 0, slots := 0, locals := 0 }) E hml hl.1 (c_X9_missing l X c0 r3 m11 hk0 hqq13) wt_X9_missing wl_RX9_149 rfl hk0 (by decide) rfl rfl hM hS rfl rfl (Nat.le_trans (by decide) hRf) (Nat.le_trans (by decide) hRl) (Nat.le_trans (Nat.le_of_ble_eq_true rfl) hRc) (Nat.le_trans (Nat.le_of_ble_eq_true rfl) hRs) (Nat.le_of_ble_eq_true rfl) dX9_shows_44 rfl) hS (fun H locs hM hS => ?_)
      obtain ⟨r17, m15, hqq16, hf⟩ := g1_o hf
      refine ga_i (gr_V (As := [.int r14]) (ci := 9) (rm := { frames := 0, cells := 0, slots := 0, locals := 0 }) E hml hl.1 (c_X9_done l X c0 r14 m12 hk0 hqq16) wt_X9_done wl_RX9_64 rfl hk0 (by decide) rfl rfl hM hS rfl rfl (Nat.le_trans (by decide) hRf) (Nat.le_trans (by decide) hRl) (Nat.le_trans (Nat.le_of_ble_eq_true rfl) hRc) (Nat.le_trans (Nat.le_of_ble_eq_true rfl) hRs) (Nat.le_of_ble_eq_true rfl) dX9_shows_47 rfl) hS (fun H locs hM hS => ?_)
      exact ge_i E hr hlocks hf hM hS (Nat.le_of_ble_eq_true rfl) (Nat.le_of_ble_eq_true rfl) dX9_shows_50
    · have hf := g_t h8 hf
      refine lv_aload_n hx hb dX9_shows_25 rfl (lv_at hl 1 rfl) ?_
      refine lv_iconst (v := (2 : Int32)) hx hb dX9_shows_26 (by decide) ?_
      obtain ⟨r20, m18, hqq19, hf⟩ := g1_o hf
      refine ga_i (gr_V (As := [.int (2 : Int32)]) (ci := 9) (rm := { frames := 0, cells := 0, slots := 0, locals := 0 }) E hml hl.1 (c_X9_fails l X c0 (2 : Int32) m5 hk0 hqq19) wt_X9_fails wl_RX9_57 rfl hk0 (by decide) rfl rfl hM hS rfl rfl (Nat.le_trans (by decide) hRf) (Nat.le_trans (by decide) hRl) (Nat.le_trans (Nat.le_of_ble_eq_true rfl) hRc) (Nat.le_trans (Nat.le_of_ble_eq_true rfl) hRs) (Nat.le_of_ble_eq_true rfl) dX9_shows_27 rfl) hS (fun H locs hM hS => ?_)
      exact ge_i E hr hlocks hf hM hS (Nat.le_of_ble_eq_true rfl) (Nat.le_of_ble_eq_true rfl) dX9_shows_30
  · have hf := g_t h4 hf
    refine lv_aload_n hx hb dX9_shows_11 rfl (lv_at hl 1 rfl) ?_
    refine lv_iconst (v := (1 : Int32)) hx hb dX9_shows_12 (by decide) ?_
    obtain ⟨r23, m21, hqq22, hf⟩ := g1_o hf
    refine ga_i (gr_V (As := [.int (1 : Int32)]) (ci := 9) (rm := { frames := 0, cells := 0, slots := 0, locals := 0 }) E hml hl.1 (c_X9_fails l X c0 (1 : Int32) m1 hk0 hqq22) wt_X9_fails wl_RX9_57 rfl hk0 (by decide) rfl rfl hM hS rfl rfl (Nat.le_trans (by decide) hRf) (Nat.le_trans (by decide) hRl) (Nat.le_trans (Nat.le_of_ble_eq_true rfl) hRc) (Nat.le_trans (Nat.le_of_ble_eq_true rfl) hRs) (Nat.le_of_ble_eq_true rfl) dX9_shows_13 rfl) hS (fun H locs hM hS => ?_)
    exact ge_i E hr hlocks hf hM hS (Nat.le_of_ble_eq_true rfl) (Nat.le_of_ble_eq_true rfl) dX9_shows_16
theorem c_X9_shows (l : Launch) (X : gX) (c0 : Nat) (u1 : Int32) (u2 : Int32) (m0 : gMem) {res : Int32 × gMem} (hk0 : gk c0 = 9) (hf : f_X9_shows c0 u1 u2 m0 = some res) : Met l yX9_shows (gWs yX9_shows cX9_shows 4 (some .int)) { frames := 2, cells := 0, slots := 0, locals := 43 } (va_Pc [.ref (X.1 + c0), .int u1, .int u2] (gB X m0)) (gQi X res) 0 0 (gA X) :=
  gMet (own := RX9) (by decide +kernel) rfl (Nat.le_of_ble_eq_true rfl) (fun p e s m args below meth c ls E hr hlocks hml hM hl => b_X9_shows E hr hlocks hml (Nat.le_refl _) (Nat.le_refl _) (Nat.le_refl _) (Nat.le_refl _) hk0 hf hM va_S.rf hl)
def f_X9_show (c0 : Nat) (u1 : Int32) (u2 : Int32) (m0 : gMem) : Option (Int32 × gMem) := g1 (f_X9_looksBack c0 m0) (fun r3 m1 => g1 (f_X9_shows c0 u1 u2 m1) (fun r6 m4 => g1 (f_X9_kept c0 r6 m4) (fun r9 m7 => some (r9, m7))))
set_option maxRecDepth 100000 in
set_option maxHeartbeats 4000000 in
theorem b_X9_show {p : Program} {l : Launch} {e : Env} {R : Room} {s : State} {m : MethodId} {args : Array Value} {below : List Frame} {meth : Method} {c : Code} {H : Heap} {locs : List Loc} {ls : Array Slot} {X : gX} (E : gEn p s m args c cX9_show RX9 X) (hr : meth.sig.returnType = (some .int)) (hlocks : meth.locks = false) (hml : c.maxLocals = 3) (hRf : 3 ≤ R.frames) (hRl : 66 ≤ R.locals) (hRc : 0 ≤ R.cells) (hRs : 0 ≤ R.slots) {c0 : Nat} {u1 : Int32} {u2 : Int32} {m0 : gMem} {res : Int32 × gMem} (hk0 : gk c0 = 9) (hf : f_X9_show c0 u1 u2 m0 = some res) (hM : gM X m0 H) (hS : va_S (gA X) s.heap H locs) (hl : lv_has ls 3 [(0, .ref (X.1 + c0)), (1, .int u1), (2, .int u2)]) : W p l e R s m args below meth c H locs 0 0 (MQ below (gQi X res) args s 0 0 (gA X)) (F0 m 0 ls []) := by
  obtain ⟨hx, hb⟩ := (⟨E.1, E.2.1⟩ : _ ∧ _)
  unfold f_X9_show at hf
  refine lv_aload_n hx hb dX9_show_0 rfl (lv_at hl 0 rfl) ?_
  obtain ⟨r3, m1, hqq2, hf⟩ := g1_o hf
  refine ga_v (gr_V (As := []) (ci := 9) (rm := { frames := 1, cells := 0, slots := 0, locals := 24 }) E hml hl.1 (c_X9_looksBack l X c0 m0 hk0 hqq2) wt_X9_looksBack wl_RX9_61 rfl hk0 (by decide) rfl rfl hM hS rfl rfl (Nat.le_trans (by decide) hRf) (Nat.le_trans (by decide) hRl) (Nat.le_trans (Nat.le_of_ble_eq_true rfl) hRc) (Nat.le_trans (Nat.le_of_ble_eq_true rfl) hRs) (Nat.le_of_ble_eq_true rfl) dX9_show_1 rfl) hS (fun H locs hM hS => ?_)
  refine lv_aload_n hx hb dX9_show_4 rfl (lv_at hl 0 rfl) ?_
  refine lv_aload_n hx hb dX9_show_5 rfl (lv_at hl 0 rfl) ?_
  refine lv_iload_n hx hb dX9_show_6 rfl (lv_at hl 1 rfl) ?_
  refine lv_iload_n hx hb dX9_show_7 rfl (lv_at hl 2 rfl) ?_
  obtain ⟨r6, m4, hqq5, hf⟩ := g1_o hf
  refine ga_i (gr_V (As := [.int u1, .int u2]) (ci := 9) (rm := { frames := 2, cells := 0, slots := 0, locals := 43 }) E hml hl.1 (c_X9_shows l X c0 u1 u2 m1 hk0 hqq5) wt_X9_shows wl_RX9_152 rfl hk0 (by decide) rfl rfl hM hS rfl rfl (Nat.le_trans (by decide) hRf) (Nat.le_trans (by decide) hRl) (Nat.le_trans (Nat.le_of_ble_eq_true rfl) hRc) (Nat.le_trans (Nat.le_of_ble_eq_true rfl) hRs) (Nat.le_of_ble_eq_true rfl) dX9_show_8 rfl) hS (fun H locs hM hS => ?_)
  obtain ⟨r9, m7, hqq8, hf⟩ := g1_o hf
  refine ga_i (gr_V (As := [.int r6]) (ci := 9) (rm := { frames := 1, cells := 0, slots := 0, locals := 24 }) E hml hl.1 (c_X9_kept l X c0 r6 m4 hk0 hqq8) wt_X9_kept wl_RX9_67 rfl hk0 (by decide) rfl rfl hM hS rfl rfl (Nat.le_trans (by decide) hRf) (Nat.le_trans (by decide) hRl) (Nat.le_trans (Nat.le_of_ble_eq_true rfl) hRc) (Nat.le_trans (Nat.le_of_ble_eq_true rfl) hRs) (Nat.le_of_ble_eq_true rfl) dX9_show_11 rfl) hS (fun H locs hM hS => ?_)
  exact ge_i E hr hlocks hf hM hS (Nat.le_of_ble_eq_true rfl) (Nat.le_of_ble_eq_true rfl) dX9_show_14
theorem c_X9_show (l : Launch) (X : gX) (c0 : Nat) (u1 : Int32) (u2 : Int32) (m0 : gMem) {res : Int32 × gMem} (hk0 : gk c0 = 9) (hf : f_X9_show c0 u1 u2 m0 = some res) : Met l yX9_show (gWs yX9_show cX9_show 3 (some .int)) { frames := 3, cells := 0, slots := 0, locals := 66 } (va_Pc [.ref (X.1 + c0), .int u1, .int u2] (gB X m0)) (gQi X res) 0 0 (gA X) :=
  gMet (own := RX9) (by decide +kernel) rfl (Nat.le_of_ble_eq_true rfl) (fun p e s m args below meth c ls E hr hlocks hml hM hl => b_X9_show E hr hlocks hml (Nat.le_refl _) (Nat.le_refl _) (Nat.le_refl _) (Nat.le_refl _) hk0 hf hM va_S.rf hl)
def L_X9_drops_20 (c0 : Nat) (u1 : Int32) (u2 : Int32) (k67 : Int32 →  gMem → Option (Unit × gMem)) : Nat → Int32 → gMem → Option (Unit × gMem)
  | 0, _, _ => none
  | n + 1, y3, m0 => if ¬ ((61 : Int32) < 0 ∨ gl (c0 + 1) ≤ (61 : Int32).toNatClampNeg) then if (m0 (c0 + 1) (61 : Int32).toNatClampNeg) ≤ y3 then (k67 y3 m0) else (if ¬ (((((62 : Int32) + ((6 : Int32) * u2)) + y3) + (1 : Int32)) < 0 ∨ gl (c0 + 1) ≤ ((((62 : Int32) + ((6 : Int32) * u2)) + y3) + (1 : Int32)).toNatClampNeg) then if ¬ ((((62 : Int32) + ((6 : Int32) * u2)) + y3) < 0 ∨ gl (c0 + 1) ≤ (((62 : Int32) + ((6 : Int32) * u2)) + y3).toNatClampNeg) then gv (ms m0 (c0 + 1) (((62 : Int32) + ((6 : Int32) * u2)) + y3).toNatClampNeg (m0 (c0 + 1) ((((62 : Int32) + ((6 : Int32) * u2)) + y3) + (1 : Int32)).toNatClampNeg)) (fun m10 => gv (y3 + (1 : Int32)) (fun x11 => L_X9_drops_20 c0 u1 u2 k67 n x11 m10)) else none else none) else none
def L_X9_drops_13 (c0 : Nat) (u1 : Int32) : Nat → Int32 → gMem → Option (Unit × gMem)
  | 0, _, _ => none
  | n + 1, y2, m0 => if (5 : Int32) ≤ y2 then (some ((), m0)) else (L_X9_drops_20 c0 u1 y2 (fun y12 m13 => gv (y2 + (1 : Int32)) (fun x14 => L_X9_drops_13 c0 u1 n x14 m13)) gF u1 m0)
def f_X9_drops (c0 : Nat) (u1 : Int32) (m0 : gMem) : Option (Unit × gMem) := if ¬ ((61 : Int32) < 0 ∨ gl (c0 + 1) ≤ (61 : Int32).toNatClampNeg) then gv (ms m0 (c0 + 1) (61 : Int32).toNatClampNeg ((m0 (c0 + 1) (61 : Int32).toNatClampNeg) - (1 : Int32))) (fun m3 => L_X9_drops_13 c0 u1 gF (0 : Int32) m3) else none
set_option maxRecDepth 100000 in
set_option maxHeartbeats 4000000 in
theorem l_X9_drops_20 {p : Program} {l : Launch} {e : Env} {R : Room} {s : State} {m : MethodId} {args : Array Value} {below : List Frame} {meth : Method} {c : Code} {cells slots : Nat} {X : gX} (E : gEn p s m args c cX9_drops RX9 X) (hr : meth.sig.returnType = none) (hlocks : meth.locks = false) (hml : c.maxLocals = 4) (hRf : 0 ≤ R.frames) (hRl : 0 ≤ R.locals) (hRc : 0 ≤ R.cells) (hRs : 0 ≤ R.slots) (hc : cells ≤ 0) (hs : slots ≤ 0) (c0 : Nat) (u1 : Int32) (u2 : Int32) (hk0 : gk c0 = 9) (k67 : Int32 →  gMem → Option (Unit × gMem)) {res : Unit × gMem}
    (hk67 : ∀ (y3 : Int32) (m0 : gMem) (H : Heap) (locs : List Loc) (ls : Array Slot), k67 y3 m0 = some res → gM X m0 H → va_S (gA X) s.heap H locs → lv_has ls 4 [(0, .ref (X.1 + c0)), (1, .int u1), (2, .int u2), (3, .int y3)] → W p l e R s m args below meth c H locs cells slots (MQ below (gQv X res) args s 0 0 (gA X)) (F0 m 67 ls [])) :
    ∀ (n : Nat) (y3 : Int32) (m0 : gMem) (H : Heap) (locs : List Loc) (ls : Array Slot), L_X9_drops_20 c0 u1 u2 k67 n y3 m0 = some res → gM X m0 H → va_S (gA X) s.heap H locs → lv_has ls 4 [(0, .ref (X.1 + c0)), (1, .int u1), (2, .int u2), (3, .int y3)] → W p l e R s m args below meth c H locs cells slots (MQ below (gQv X res) args s 0 0 (gA X)) (F0 m 20 ls []) := by
  obtain ⟨hx, hb⟩ := (⟨E.1, E.2.1⟩ : _ ∧ _)
  intro n
  induction n with
  | zero =>
    intro _ _ _ _ _ hf
    cases hf
  | succ n ih =>
    intro y3 m0 H locs ls hf hM hS hl
    rw [L_X9_drops_20] at hf
    refine lv_iload_n hx hb dX9_drops_20 rfl (lv_at hl 3 rfl) ?_
    refine lv_aload_n hx hb dX9_drops_21 rfl (lv_at hl 0 rfl) ?_
    refine GX9_7 E hM hk0 dX9_drops_22 ?_
    have hg5 : gk (c0 + 1) = 20 := gkf_9_0 hk0
    refine lv_bipush (v := (61 : Int32)) hx hb dX9_drops_25 (by decide) ?_
    obtain ⟨hi6, hf⟩ := g_ck hf
    refine gg_iald E hM (gk_in hg5 (by decide)) hg5 hi6 dX9_drops_27 ?_
    refine lv_icmp_ge (tgt := 67) hx hb dX9_drops_28 (by decide) (fun h7 => ?_) (fun h7 => ?_)
    · have hf := g_t h7 hf
      exact hk67 y3 m0 _ _ _ hf hM hS (lv_sub hl [0, 1, 2, 3] rfl)
    · have hf := g_f h7 hf
      refine lv_aload_n hx hb dX9_drops_31 rfl (lv_at hl 0 rfl) ?_
      refine GX9_7 E hM hk0 dX9_drops_32 ?_
      refine lv_bipush (v := (62 : Int32)) hx hb dX9_drops_35 (by decide) ?_
      refine lv_bipush (v := (6 : Int32)) hx hb dX9_drops_37 (by decide) ?_
      refine lv_iload_n hx hb dX9_drops_39 rfl (lv_at hl 2 rfl) ?_
      refine lv_imul hx hb dX9_drops_40 ?_
      refine lv_iadd hx hb dX9_drops_41 ?_
      refine lv_iload_n hx hb dX9_drops_42 rfl (lv_at hl 3 rfl) ?_
      refine lv_iadd hx hb dX9_drops_43 ?_
      refine lv_aload_n hx hb dX9_drops_44 rfl (lv_at hl 0 rfl) ?_
      refine GX9_7 E hM hk0 dX9_drops_45 ?_
      refine lv_bipush (v := (62 : Int32)) hx hb dX9_drops_48 (by decide) ?_
      refine lv_bipush (v := (6 : Int32)) hx hb dX9_drops_50 (by decide) ?_
      refine lv_iload_n hx hb dX9_drops_52 rfl (lv_at hl 2 rfl) ?_
      refine lv_imul hx hb dX9_drops_53 ?_
      refine lv_iadd hx hb dX9_drops_54 ?_
      refine lv_iload_n hx hb dX9_drops_55 rfl (lv_at hl 3 rfl) ?_
      refine lv_iadd hx hb dX9_drops_56 ?_
      refine lv_iconst (v := (1 : Int32)) hx hb dX9_drops_57 (by decide) ?_
      refine lv_iadd hx hb dX9_drops_58 ?_
      obtain ⟨hi8, hf⟩ := g_ck hf
      refine gg_iald E hM (gk_in hg5 (by decide)) hg5 hi8 dX9_drops_59 ?_
      obtain ⟨hi9, hf⟩ := g_ck hf
      obtain ⟨m10, em10, hf⟩ := gv_o hf
      refine gg_iast E (fun c hc => gA_in X hc) hM hS (gk_in hg5 (by decide)) hg5 hi9 em10 dX9_drops_60 (fun H locs hM hS => ?_)
      obtain ⟨x11, ex11, hf⟩ := gv_o hf
      refine lv_iinc (v := x11) (lv' := [(3, .int x11), (0, .ref (X.1 + c0)), (1, .int u1), (2, .int u2)]) hx hb dX9_drops_61 hl (k := 3) rfl (by rw [ex11]; rfl) (by decide) rfl (fun ls hl => ?_)
      refine lv_goto (tgt := 20) hx hb dX9_drops_64 (by decide) ?_
      exact ih x11 m10 _ _ _ hf hM hS (lv_sub hl [1, 2, 3, 0] rfl)
set_option maxRecDepth 100000 in
set_option maxHeartbeats 4000000 in
theorem l_X9_drops_13 {p : Program} {l : Launch} {e : Env} {R : Room} {s : State} {m : MethodId} {args : Array Value} {below : List Frame} {meth : Method} {c : Code} {cells slots : Nat} {X : gX} (E : gEn p s m args c cX9_drops RX9 X) (hr : meth.sig.returnType = none) (hlocks : meth.locks = false) (hml : c.maxLocals = 4) (hRf : 0 ≤ R.frames) (hRl : 0 ≤ R.locals) (hRc : 0 ≤ R.cells) (hRs : 0 ≤ R.slots) (hc : cells ≤ 0) (hs : slots ≤ 0) (c0 : Nat) (u1 : Int32) (hk0 : gk c0 = 9) {res : Unit × gMem} :
    ∀ (n : Nat) (y2 : Int32) (m0 : gMem) (H : Heap) (locs : List Loc) (ls : Array Slot), L_X9_drops_13 c0 u1 n y2 m0 = some res → gM X m0 H → va_S (gA X) s.heap H locs → lv_has ls 4 [(0, .ref (X.1 + c0)), (1, .int u1), (2, .int y2)] → W p l e R s m args below meth c H locs cells slots (MQ below (gQv X res) args s 0 0 (gA X)) (F0 m 13 ls []) := by
  obtain ⟨hx, hb⟩ := (⟨E.1, E.2.1⟩ : _ ∧ _)
  intro n
  induction n with
  | zero =>
    intro _ _ _ _ _ hf
    cases hf
  | succ n ih =>
    intro y2 m0 H locs ls hf hM hS hl
    rw [L_X9_drops_13] at hf
    refine lv_iload_n hx hb dX9_drops_13 rfl (lv_at hl 2 rfl) ?_
    refine lv_iconst (v := (5 : Int32)) hx hb dX9_drops_14 (by decide) ?_
    refine lv_icmp_ge (tgt := 73) hx hb dX9_drops_15 (by decide) (fun h4 => ?_) (fun h4 => ?_)
    · have hf := g_t h4 hf
      exact ge_v E hr hlocks hf hM hS hc hs dX9_drops_73
    · have hf := g_f h4 hf
      refine lv_iload_n hx hb dX9_drops_18 rfl (lv_at hl 1 rfl) ?_
      refine lv_istore_n (lv' := [(3, .int u1), (0, .ref (X.1 + c0)), (1, .int u1), (2, .int y2)]) hx hb dX9_drops_19 rfl hl (by decide) rfl (fun ls hl => ?_)
      refine l_X9_drops_20 E hr hlocks hml hRf hRl hRc hRs hc hs c0 u1 y2 hk0 _ (fun y12 m13 H locs ls hf hM hS hl => ?_) gF u1 m0 _ _ _ hf hM hS (lv_sub hl [1, 2, 3, 0] rfl)
      obtain ⟨x14, ex14, hf⟩ := gv_o hf
      refine lv_iinc (v := x14) (lv' := [(2, .int x14), (0, .ref (X.1 + c0)), (1, .int u1), (3, .int y12)]) hx hb dX9_drops_67 hl (k := 2) rfl (by rw [ex14]; rfl) (by decide) rfl (fun ls hl => ?_)
      refine lv_goto (tgt := 13) hx hb dX9_drops_70 (by decide) ?_
      exact ih x14 m13 _ _ _ hf hM hS (lv_sub hl [1, 2, 0] rfl)
set_option maxRecDepth 100000 in
set_option maxHeartbeats 4000000 in
theorem b_X9_drops {p : Program} {l : Launch} {e : Env} {R : Room} {s : State} {m : MethodId} {args : Array Value} {below : List Frame} {meth : Method} {c : Code} {H : Heap} {locs : List Loc} {ls : Array Slot} {X : gX} (E : gEn p s m args c cX9_drops RX9 X) (hr : meth.sig.returnType = none) (hlocks : meth.locks = false) (hml : c.maxLocals = 4) (hRf : 0 ≤ R.frames) (hRl : 0 ≤ R.locals) (hRc : 0 ≤ R.cells) (hRs : 0 ≤ R.slots) {c0 : Nat} {u1 : Int32} {m0 : gMem} {res : Unit × gMem} (hk0 : gk c0 = 9) (hf : f_X9_drops c0 u1 m0 = some res) (hM : gM X m0 H) (hS : va_S (gA X) s.heap H locs) (hl : lv_has ls 4 [(0, .ref (X.1 + c0)), (1, .int u1)]) : W p l e R s m args below meth c H locs 0 0 (MQ below (gQv X res) args s 0 0 (gA X)) (F0 m 0 ls []) := by
  obtain ⟨hx, hb⟩ := (⟨E.1, E.2.1⟩ : _ ∧ _)
  unfold f_X9_drops at hf
  refine lv_aload_n hx hb dX9_drops_0 rfl (lv_at hl 0 rfl) ?_
  refine GX9_7 E hM hk0 dX9_drops_1 ?_
  have hg1 : gk (c0 + 1) = 20 := gkf_9_0 hk0
  refine lv_bipush (v := (61 : Int32)) hx hb dX9_drops_4 (by decide) ?_
  refine lv_dup2_11 hx hb dX9_drops_6 rfl rfl ?_
  obtain ⟨hi2, hf⟩ := g_ck hf
  refine gg_iald E hM (gk_in hg1 (by decide)) hg1 hi2 dX9_drops_7 ?_
  refine lv_iconst (v := (1 : Int32)) hx hb dX9_drops_8 (by decide) ?_
  refine lv_isub hx hb dX9_drops_9 ?_
  obtain ⟨m3, em3, hf⟩ := gv_o hf
  refine gg_iast E (fun c hc => gA_in X hc) hM hS (gk_in hg1 (by decide)) hg1 hi2 em3 dX9_drops_10 (fun H locs hM hS => ?_)
  refine lv_iconst (v := (0 : Int32)) hx hb dX9_drops_11 (by decide) ?_
  refine lv_istore_n (lv' := [(2, .int (0 : Int32)), (0, .ref (X.1 + c0)), (1, .int u1)]) hx hb dX9_drops_12 rfl hl (by decide) rfl (fun ls hl => ?_)
  refine l_X9_drops_13 E hr hlocks hml hRf hRl hRc hRs (Nat.le_of_ble_eq_true rfl) (Nat.le_of_ble_eq_true rfl) c0 u1 hk0 gF (0 : Int32) m3 _ _ _ hf hM hS (lv_sub hl [1, 2, 0] rfl)
theorem c_X9_drops (l : Launch) (X : gX) (c0 : Nat) (u1 : Int32) (m0 : gMem) {res : Unit × gMem} (hk0 : gk c0 = 9) (hf : f_X9_drops c0 u1 m0 = some res) : Met l yX9_drops (gWs yX9_drops cX9_drops 4 none) { frames := 0, cells := 0, slots := 0, locals := 0 } (va_Pc [.ref (X.1 + c0), .int u1] (gB X m0)) (gQv X res) 0 0 (gA X) :=
  gMet (own := RX9) (by decide +kernel) rfl (Nat.le_of_ble_eq_true rfl) (fun p e s m args below meth c ls E hr hlocks hml hM hl => b_X9_drops E hr hlocks hml (Nat.le_refl _) (Nat.le_refl _) (Nat.le_refl _) (Nat.le_refl _) hk0 hf hM va_S.rf hl)
def f_X9_cancel (c0 : Nat) (u1 : Int32) (m0 : gMem) : Option (Int32 × gMem) := g1 (f_X9_placeOf c0 u1 m0) (fun r3 m1 => if r3 = (-1 : Int32) then (g1 (f_X9_fails c0 (1 : Int32) m1) (fun r21 m19 => some (r21, m19))) else (g1 (f_X9_looksBack c0 m1) (fun r7 m5 => g1 (f_X9_drops c0 r3 m5) (fun r10 m8 => if ¬ ((61 : Int32) < 0 ∨ gl (c0 + 1) ≤ (61 : Int32).toNatClampNeg) then g1 (f_X9_done c0 (m8 (c0 + 1) (61 : Int32).toNatClampNeg) m8) (fun r15 m13 => g1 (f_X9_kept c0 r15 m13) (fun r18 m16 => some (r18, m16))) else none))))
set_option maxRecDepth 100000 in
set_option maxHeartbeats 4000000 in
theorem b_X9_cancel {p : Program} {l : Launch} {e : Env} {R : Room} {s : State} {m : MethodId} {args : Array Value} {below : List Frame} {meth : Method} {c : Code} {H : Heap} {locs : List Loc} {ls : Array Slot} {X : gX} (E : gEn p s m args c cX9_cancel RX9 X) (hr : meth.sig.returnType = (some .int)) (hlocks : meth.locks = false) (hml : c.maxLocals = 3) (hRf : 2 ≤ R.frames) (hRl : 46 ≤ R.locals) (hRc : 0 ≤ R.cells) (hRs : 0 ≤ R.slots) {c0 : Nat} {u1 : Int32} {m0 : gMem} {res : Int32 × gMem} (hk0 : gk c0 = 9) (hf : f_X9_cancel c0 u1 m0 = some res) (hM : gM X m0 H) (hS : va_S (gA X) s.heap H locs) (hl : lv_has ls 3 [(0, .ref (X.1 + c0)), (1, .int u1)]) : W p l e R s m args below meth c H locs 0 0 (MQ below (gQi X res) args s 0 0 (gA X)) (F0 m 0 ls []) := by
  obtain ⟨hx, hb⟩ := (⟨E.1, E.2.1⟩ : _ ∧ _)
  unfold f_X9_cancel at hf
  refine lv_aload_n hx hb dX9_cancel_0 rfl (lv_at hl 0 rfl) ?_
  refine lv_iload_n hx hb dX9_cancel_1 rfl (lv_at hl 1 rfl) ?_
  obtain ⟨r3, m1, hqq2, hf⟩ := g1_o hf
  refine ga_i (gr_V (As := [.int u1]) (ci := 9) (rm := { frames := 0, cells := 0, slots := 0, locals := 0 }) E hml hl.1 (c_X9_placeOf l X c0 u1 m0 hk0 hqq2) wt_X9_placeOf wl_RX9_146 rfl hk0 (by decide) rfl rfl hM hS rfl rfl (Nat.le_trans (by decide) hRf) (Nat.le_trans (by decide) hRl) (Nat.le_trans (Nat.le_of_ble_eq_true rfl) hRc) (Nat.le_trans (Nat.le_of_ble_eq_true rfl) hRs) (Nat.le_of_ble_eq_true rfl) dX9_cancel_2 rfl) hS (fun H locs hM hS => ?_)
  refine lv_istore_n (lv' := [(2, .int r3), (0, .ref (X.1 + c0)), (1, .int u1)]) hx hb dX9_cancel_5 rfl hl (by decide) rfl (fun ls hl => ?_)
  refine lv_iload_n hx hb dX9_cancel_6 rfl (lv_at hl 0 rfl) ?_
  refine lv_iconst (v := (-1 : Int32)) hx hb dX9_cancel_7 (by decide) ?_
  refine lv_icmp_ne (tgt := 17) hx hb dX9_cancel_8 (by decide) (fun h4 => ?_) (fun h4 => ?_)
  · have hf := g_f h4 hf
    refine lv_aload_n hx hb dX9_cancel_17 rfl (lv_at hl 1 rfl) ?_
    obtain ⟨r7, m5, hqq6, hf⟩ := g1_o hf
    refine ga_v (gr_V (As := []) (ci := 9) (rm := { frames := 1, cells := 0, slots := 0, locals := 24 }) E hml hl.1 (c_X9_looksBack l X c0 m1 hk0 hqq6) wt_X9_looksBack wl_RX9_61 rfl hk0 (by decide) rfl rfl hM hS rfl rfl (Nat.le_trans (by decide) hRf) (Nat.le_trans (by decide) hRl) (Nat.le_trans (Nat.le_of_ble_eq_true rfl) hRc) (Nat.le_trans (Nat.le_of_ble_eq_true rfl) hRs) (Nat.le_of_ble_eq_true rfl) dX9_cancel_18 rfl) hS (fun H locs hM hS => ?_)
    refine lv_aload_n hx hb dX9_cancel_21 rfl (lv_at hl 1 rfl) ?_
    refine lv_iload_n hx hb dX9_cancel_22 rfl (lv_at hl 0 rfl) ?_
    obtain ⟨r10, m8, hqq9, hf⟩ := g1_o hf
    refine ga_v (gr_V (As := [.int r3]) (ci := 9) (rm := { frames := 0, cells := 0, slots := 0, locals := 0 }) E hml hl.1 (c_X9_drops l X c0 r3 m5 hk0 hqq9) wt_X9_drops wl_RX9_155 rfl hk0 (by decide) rfl rfl hM hS rfl rfl (Nat.le_trans (by decide) hRf) (Nat.le_trans (by decide) hRl) (Nat.le_trans (Nat.le_of_ble_eq_true rfl) hRc) (Nat.le_trans (Nat.le_of_ble_eq_true rfl) hRs) (Nat.le_of_ble_eq_true rfl) dX9_cancel_23 rfl) hS (fun H locs hM hS => ?_)
    refine lv_aload_n hx hb dX9_cancel_26 rfl (lv_at hl 1 rfl) ?_
    refine lv_aload_n hx hb dX9_cancel_27 rfl (lv_at hl 1 rfl) ?_
    refine lv_aload_n hx hb dX9_cancel_28 rfl (lv_at hl 1 rfl) ?_
    refine GX9_7 E hM hk0 dX9_cancel_29 ?_
    have hg11 : gk (c0 + 1) = 20 := gkf_9_0 hk0
    refine lv_bipush (v := (61 : Int32)) hx hb dX9_cancel_32 (by decide) ?_
    obtain ⟨hi12, hf⟩ := g_ck hf
    refine gg_iald E hM (gk_in hg11 (by decide)) hg11 hi12 dX9_cancel_34 ?_
    obtain ⟨r15, m13, hqq14, hf⟩ := g1_o hf
    refine ga_i (gr_V (As := [.int (m8 (c0 + 1) (61 : Int32).toNatClampNeg)]) (ci := 9) (rm := { frames := 0, cells := 0, slots := 0, locals := 0 }) E hml hl.1 (c_X9_done l X c0 (m8 (c0 + 1) (61 : Int32).toNatClampNeg) m8 hk0 hqq14) wt_X9_done wl_RX9_64 rfl hk0 (by decide) rfl rfl hM hS rfl rfl (Nat.le_trans (by decide) hRf) (Nat.le_trans (by decide) hRl) (Nat.le_trans (Nat.le_of_ble_eq_true rfl) hRc) (Nat.le_trans (Nat.le_of_ble_eq_true rfl) hRs) (Nat.le_of_ble_eq_true rfl) dX9_cancel_35 rfl) hS (fun H locs hM hS => ?_)
    obtain ⟨r18, m16, hqq17, hf⟩ := g1_o hf
    refine ga_i (gr_V (As := [.int r15]) (ci := 9) (rm := { frames := 1, cells := 0, slots := 0, locals := 24 }) E hml hl.1 (c_X9_kept l X c0 r15 m13 hk0 hqq17) wt_X9_kept wl_RX9_67 rfl hk0 (by decide) rfl rfl hM hS rfl rfl (Nat.le_trans (by decide) hRf) (Nat.le_trans (by decide) hRl) (Nat.le_trans (Nat.le_of_ble_eq_true rfl) hRc) (Nat.le_trans (Nat.le_of_ble_eq_true rfl) hRs) (Nat.le_of_ble_eq_true rfl) dX9_cancel_38 rfl) hS (fun H locs hM hS => ?_)
    exact ge_i E hr hlocks hf hM hS (Nat.le_of_ble_eq_true rfl) (Nat.le_of_ble_eq_true rfl) dX9_cancel_41
  · have hf := g_t h4 hf
    refine lv_aload_n hx hb dX9_cancel_11 rfl (lv_at hl 1 rfl) ?_
    refine lv_iconst (v := (1 : Int32)) hx hb dX9_cancel_12 (by decide) ?_
    obtain ⟨r21, m19, hqq20, hf⟩ := g1_o hf
    refine ga_i (gr_V (As := [.int (1 : Int32)]) (ci := 9) (rm := { frames := 0, cells := 0, slots := 0, locals := 0 }) E hml hl.1 (c_X9_fails l X c0 (1 : Int32) m1 hk0 hqq20) wt_X9_fails wl_RX9_57 rfl hk0 (by decide) rfl rfl hM hS rfl rfl (Nat.le_trans (by decide) hRf) (Nat.le_trans (by decide) hRl) (Nat.le_trans (Nat.le_of_ble_eq_true rfl) hRc) (Nat.le_trans (Nat.le_of_ble_eq_true rfl) hRs) (Nat.le_of_ble_eq_true rfl) dX9_cancel_13 rfl) hS (fun H locs hM hS => ?_)
    exact ge_i E hr hlocks hf hM hS (Nat.le_of_ble_eq_true rfl) (Nat.le_of_ble_eq_true rfl) dX9_cancel_16
theorem c_X9_cancel (l : Launch) (X : gX) (c0 : Nat) (u1 : Int32) (m0 : gMem) {res : Int32 × gMem} (hk0 : gk c0 = 9) (hf : f_X9_cancel c0 u1 m0 = some res) : Met l yX9_cancel (gWs yX9_cancel cX9_cancel 3 (some .int)) { frames := 2, cells := 0, slots := 0, locals := 46 } (va_Pc [.ref (X.1 + c0), .int u1] (gB X m0)) (gQi X res) 0 0 (gA X) :=
  gMet (own := RX9) (by decide +kernel) rfl (Nat.le_of_ble_eq_true rfl) (fun p e s m args below meth c ls E hr hlocks hml hM hl => b_X9_cancel E hr hlocks hml (Nat.le_refl _) (Nat.le_refl _) (Nat.le_refl _) (Nat.le_refl _) hk0 hf hM va_S.rf hl)
def f_X9_banquetOf (c0 : Nat) (u1 : Int32) (u2 : Int32) (m0 : gMem) : Option (Int32 × gMem) := g1 (f_X9_placeOf c0 u1 m0) (fun r3 m1 => if r3 = (-1 : Int32) then (g1 (f_X9_fails c0 (1 : Int32) m1) (fun r42 m40 => some (r42, m40))) else (if u2 = (0 : Int32) then (if ¬ ((((68 : Int32) + ((6 : Int32) * u2)) + r3) < 0 ∨ gl (c0 + 1) ≤ (((68 : Int32) + ((6 : Int32) * u2)) + r3).toNatClampNeg) then g1 (f_X9_done c0 (m1 (c0 + 1) (((68 : Int32) + ((6 : Int32) * u2)) + r3).toNatClampNeg) m1) (fun r11 m9 => some (r11, m9)) else none) else (if u2 = (1 : Int32) then (if ¬ ((((68 : Int32) + ((6 : Int32) * u2)) + r3) < 0 ∨ gl (c0 + 1) ≤ (((68 : Int32) + ((6 : Int32) * u2)) + r3).toNatClampNeg) then g1 (f_X9_done c0 (m1 (c0 + 1) (((68 : Int32) + ((6 : Int32) * u2)) + r3).toNatClampNeg) m1) (fun r17 m15 => some (r17, m15)) else none) else (if u2 = (2 : Int32) then (if ¬ ((((68 : Int32) + ((6 : Int32) * u2)) + r3) < 0 ∨ gl (c0 + 1) ≤ (((68 : Int32) + ((6 : Int32) * u2)) + r3).toNatClampNeg) then g1 (f_X9_done c0 (m1 (c0 + 1) (((68 : Int32) + ((6 : Int32) * u2)) + r3).toNatClampNeg) m1) (fun r23 m21 => some (r23, m21)) else none) else (if u2 = (3 : Int32) then (if ¬ ((((68 : Int32) + ((6 : Int32) * u2)) + r3) < 0 ∨ gl (c0 + 1) ≤ (((68 : Int32) + ((6 : Int32) * u2)) + r3).toNatClampNeg) then g1 (f_X9_done c0 (m1 (c0 + 1) (((68 : Int32) + ((6 : Int32) * u2)) + r3).toNatClampNeg) m1) (fun r29 m27 => some (r29, m27)) else none) else (if u2 = (4 : Int32) then (g1 (f_X9_missing c0 r3 m1) (fun r33 m31 => g1 (f_X9_done c0 r33 m31) (fun r36 m34 => some (r36, m34)))) else (g1 (f_X9_fails c0 (2 : Int32) m1) (fun r39 m37 => some (r39, m37)))))))))
set_option maxRecDepth 100000 in
set_option maxHeartbeats 4000000 in
theorem b_X9_banquetOf {p : Program} {l : Launch} {e : Env} {R : Room} {s : State} {m : MethodId} {args : Array Value} {below : List Frame} {meth : Method} {c : Code} {H : Heap} {locs : List Loc} {ls : Array Slot} {X : gX} (E : gEn p s m args c cX9_banquetOf RX9 X) (hr : meth.sig.returnType = (some .int)) (hlocks : meth.locks = false) (hml : c.maxLocals = 4) (hRf : 1 ≤ R.frames) (hRl : 22 ≤ R.locals) (hRc : 0 ≤ R.cells) (hRs : 0 ≤ R.slots) {c0 : Nat} {u1 : Int32} {u2 : Int32} {m0 : gMem} {res : Int32 × gMem} (hk0 : gk c0 = 9) (hf : f_X9_banquetOf c0 u1 u2 m0 = some res) (hM : gM X m0 H) (hS : va_S (gA X) s.heap H locs) (hl : lv_has ls 4 [(0, .ref (X.1 + c0)), (1, .int u1), (2, .int u2)]) : W p l e R s m args below meth c H locs 0 0 (MQ below (gQi X res) args s 0 0 (gA X)) (F0 m 0 ls []) := by
  obtain ⟨hx, hb⟩ := (⟨E.1, E.2.1⟩ : _ ∧ _)
  unfold f_X9_banquetOf at hf
  refine lv_aload_n hx hb dX9_banquetOf_0 rfl (lv_at hl 0 rfl) ?_
  refine lv_iload_n hx hb dX9_banquetOf_1 rfl (lv_at hl 1 rfl) ?_
  obtain ⟨r3, m1, hqq2, hf⟩ := g1_o hf
  refine ga_i (gr_V (As := [.int u1]) (ci := 9) (rm := { frames := 0, cells := 0, slots := 0, locals := 0 }) E hml hl.1 (c_X9_placeOf l X c0 u1 m0 hk0 hqq2) wt_X9_placeOf wl_RX9_146 rfl hk0 (by decide) rfl rfl hM hS rfl rfl (Nat.le_trans (by decide) hRf) (Nat.le_trans (by decide) hRl) (Nat.le_trans (Nat.le_of_ble_eq_true rfl) hRc) (Nat.le_trans (Nat.le_of_ble_eq_true rfl) hRs) (Nat.le_of_ble_eq_true rfl) dX9_banquetOf_2 rfl) hS (fun H locs hM hS => ?_)
  refine lv_istore_n (lv' := [(3, .int r3), (0, .ref (X.1 + c0)), (1, .int u1), (2, .int u2)]) hx hb dX9_banquetOf_5 rfl hl (by decide) rfl (fun ls hl => ?_)
  refine lv_iload_n hx hb dX9_banquetOf_6 rfl (lv_at hl 0 rfl) ?_
  refine lv_iconst (v := (-1 : Int32)) hx hb dX9_banquetOf_7 (by decide) ?_
  refine lv_icmp_ne (tgt := 17) hx hb dX9_banquetOf_8 (by decide) (fun h4 => ?_) (fun h4 => ?_)
  · have hf := g_f h4 hf
    refine lv_iload_n hx hb dX9_banquetOf_17 rfl (lv_at hl 3 rfl) ?_
    by_cases h6 : u2 = (0 : Int32)
    · have hf := g_t h6 hf
      refine lv_tableIn (tgt := 52) hx hb dX9_banquetOf_18 (by rw [h6]; decide) (by rw [h6]; decide) (by rw [h6]; rfl) (by decide) ?_
      refine lv_aload_n hx hb dX9_banquetOf_52 rfl (lv_at hl 1 rfl) ?_
      refine lv_aload_n hx hb dX9_banquetOf_53 rfl (lv_at hl 1 rfl) ?_
      refine GX9_7 E hM hk0 dX9_banquetOf_54 ?_
      have hg7 : gk (c0 + 1) = 20 := gkf_9_0 hk0
      refine lv_bipush (v := (68 : Int32)) hx hb dX9_banquetOf_57 (by decide) ?_
      refine lv_bipush (v := (6 : Int32)) hx hb dX9_banquetOf_59 (by decide) ?_
      refine lv_iload_n hx hb dX9_banquetOf_61 rfl (lv_at hl 3 rfl) ?_
      refine lv_imul hx hb dX9_banquetOf_62 ?_
      refine lv_iadd hx hb dX9_banquetOf_63 ?_
      refine lv_iload_n hx hb dX9_banquetOf_64 rfl (lv_at hl 0 rfl) ?_
      refine lv_iadd hx hb dX9_banquetOf_65 ?_
      obtain ⟨hi8, hf⟩ := g_ck hf
      refine gg_iald E hM (gk_in hg7 (by decide)) hg7 hi8 dX9_banquetOf_66 ?_
      obtain ⟨r11, m9, hqq10, hf⟩ := g1_o hf
      refine ga_i (gr_V (As := [.int (m1 (c0 + 1) (((68 : Int32) + ((6 : Int32) * u2)) + r3).toNatClampNeg)]) (ci := 9) (rm := { frames := 0, cells := 0, slots := 0, locals := 0 }) E hml hl.1 (c_X9_done l X c0 (m1 (c0 + 1) (((68 : Int32) + ((6 : Int32) * u2)) + r3).toNatClampNeg) m1 hk0 hqq10) wt_X9_done wl_RX9_64 rfl hk0 (by decide) rfl rfl hM hS rfl rfl (Nat.le_trans (by decide) hRf) (Nat.le_trans (by decide) hRl) (Nat.le_trans (Nat.le_of_ble_eq_true rfl) hRc) (Nat.le_trans (Nat.le_of_ble_eq_true rfl) hRs) (Nat.le_of_ble_eq_true rfl) dX9_banquetOf_67 rfl) hS (fun H locs hM hS => ?_)
      exact ge_i E hr hlocks hf hM hS (Nat.le_of_ble_eq_true rfl) (Nat.le_of_ble_eq_true rfl) dX9_banquetOf_70
    have hf := g_f h6 hf
    by_cases h12 : u2 = (1 : Int32)
    · have hf := g_t h12 hf
      refine lv_tableIn (tgt := 52) hx hb dX9_banquetOf_18 (by rw [h12]; decide) (by rw [h12]; decide) (by rw [h12]; rfl) (by decide) ?_
      refine lv_aload_n hx hb dX9_banquetOf_52 rfl (lv_at hl 1 rfl) ?_
      refine lv_aload_n hx hb dX9_banquetOf_53 rfl (lv_at hl 1 rfl) ?_
      refine GX9_7 E hM hk0 dX9_banquetOf_54 ?_
      have hg13 : gk (c0 + 1) = 20 := gkf_9_0 hk0
      refine lv_bipush (v := (68 : Int32)) hx hb dX9_banquetOf_57 (by decide) ?_
      refine lv_bipush (v := (6 : Int32)) hx hb dX9_banquetOf_59 (by decide) ?_
      refine lv_iload_n hx hb dX9_banquetOf_61 rfl (lv_at hl 3 rfl) ?_
      refine lv_imul hx hb dX9_banquetOf_62 ?_
      refine lv_iadd hx hb dX9_banquetOf_63 ?_
      refine lv_iload_n hx hb dX9_banquetOf_64 rfl (lv_at hl 0 rfl) ?_
      refine lv_iadd hx hb dX9_banquetOf_65 ?_
      obtain ⟨hi14, hf⟩ := g_ck hf
      refine gg_iald E hM (gk_in hg13 (by decide)) hg13 hi14 dX9_banquetOf_66 ?_
      obtain ⟨r17, m15, hqq16, hf⟩ := g1_o hf
      refine ga_i (gr_V (As := [.int (m1 (c0 + 1) (((68 : Int32) + ((6 : Int32) * u2)) + r3).toNatClampNeg)]) (ci := 9) (rm := { frames := 0, cells := 0, slots := 0, locals := 0 }) E hml hl.1 (c_X9_done l X c0 (m1 (c0 + 1) (((68 : Int32) + ((6 : Int32) * u2)) + r3).toNatClampNeg) m1 hk0 hqq16) wt_X9_done wl_RX9_64 rfl hk0 (by decide) rfl rfl hM hS rfl rfl (Nat.le_trans (by decide) hRf) (Nat.le_trans (by decide) hRl) (Nat.le_trans (Nat.le_of_ble_eq_true rfl) hRc) (Nat.le_trans (Nat.le_of_ble_eq_true rfl) hRs) (Nat.le_of_ble_eq_true rfl) dX9_banquetOf_67 rfl) hS (fun H locs hM hS => ?_)
      exact ge_i E hr hlocks hf hM hS (Nat.le_of_ble_eq_true rfl) (Nat.le_of_ble_eq_true rfl) dX9_banquetOf_70
    have hf := g_f h12 hf
    by_cases h18 : u2 = (2 : Int32)
    · have hf := g_t h18 hf
      refine lv_tableIn (tgt := 52) hx hb dX9_banquetOf_18 (by rw [h18]; decide) (by rw [h18]; decide) (by rw [h18]; rfl) (by decide) ?_
      refine lv_aload_n hx hb dX9_banquetOf_52 rfl (lv_at hl 1 rfl) ?_
      refine lv_aload_n hx hb dX9_banquetOf_53 rfl (lv_at hl 1 rfl) ?_
      refine GX9_7 E hM hk0 dX9_banquetOf_54 ?_
      have hg19 : gk (c0 + 1) = 20 := gkf_9_0 hk0
      refine lv_bipush (v := (68 : Int32)) hx hb dX9_banquetOf_57 (by decide) ?_
      refine lv_bipush (v := (6 : Int32)) hx hb dX9_banquetOf_59 (by decide) ?_
      refine lv_iload_n hx hb dX9_banquetOf_61 rfl (lv_at hl 3 rfl) ?_
      refine lv_imul hx hb dX9_banquetOf_62 ?_
      refine lv_iadd hx hb dX9_banquetOf_63 ?_
      refine lv_iload_n hx hb dX9_banquetOf_64 rfl (lv_at hl 0 rfl) ?_
      refine lv_iadd hx hb dX9_banquetOf_65 ?_
      obtain ⟨hi20, hf⟩ := g_ck hf
      refine gg_iald E hM (gk_in hg19 (by decide)) hg19 hi20 dX9_banquetOf_66 ?_
      obtain ⟨r23, m21, hqq22, hf⟩ := g1_o hf
      refine ga_i (gr_V (As := [.int (m1 (c0 + 1) (((68 : Int32) + ((6 : Int32) * u2)) + r3).toNatClampNeg)]) (ci := 9) (rm := { frames := 0, cells := 0, slots := 0, locals := 0 }) E hml hl.1 (c_X9_done l X c0 (m1 (c0 + 1) (((68 : Int32) + ((6 : Int32) * u2)) + r3).toNatClampNeg) m1 hk0 hqq22) wt_X9_done wl_RX9_64 rfl hk0 (by decide) rfl rfl hM hS rfl rfl (Nat.le_trans (by decide) hRf) (Nat.le_trans (by decide) hRl) (Nat.le_trans (Nat.le_of_ble_eq_true rfl) hRc) (Nat.le_trans (Nat.le_of_ble_eq_true rfl) hRs) (Nat.le_of_ble_eq_true rfl) dX9_banquetOf_67 rfl) hS (fun H locs hM hS => ?_)
      exact ge_i E hr hlocks hf hM hS (Nat.le_of_ble_eq_true rfl) (Nat.le_of_ble_eq_true rfl) dX9_banquetOf_70
    have hf := g_f h18 hf
    by_cases h24 : u2 = (3 : Int32)
    · have hf := g_t h24 hf
      refine lv_tableIn (tgt := 52) hx hb dX9_banquetOf_18 (by rw [h24]; decide) (by rw [h24]; decide) (by rw [h24]; rfl) (by decide) ?_
      refine lv_aload_n hx hb dX9_banquetOf_52 rfl (lv_at hl 1 rfl) ?_
      refine lv_aload_n hx hb dX9_banquetOf_53 rfl (lv_at hl 1 rfl) ?_
      refine GX9_7 E hM hk0 dX9_banquetOf_54 ?_
      have hg25 : gk (c0 + 1) = 20 := gkf_9_0 hk0
      refine lv_bipush (v := (68 : Int32)) hx hb dX9_banquetOf_57 (by decide) ?_
      refine lv_bipush (v := (6 : Int32)) hx hb dX9_banquetOf_59 (by decide) ?_
      refine lv_iload_n hx hb dX9_banquetOf_61 rfl (lv_at hl 3 rfl) ?_
      refine lv_imul hx hb dX9_banquetOf_62 ?_
      refine lv_iadd hx hb dX9_banquetOf_63 ?_
      refine lv_iload_n hx hb dX9_banquetOf_64 rfl (lv_at hl 0 rfl) ?_
      refine lv_iadd hx hb dX9_banquetOf_65 ?_
      obtain ⟨hi26, hf⟩ := g_ck hf
      refine gg_iald E hM (gk_in hg25 (by decide)) hg25 hi26 dX9_banquetOf_66 ?_
      obtain ⟨r29, m27, hqq28, hf⟩ := g1_o hf
      refine ga_i (gr_V (As := [.int (m1 (c0 + 1) (((68 : Int32) + ((6 : Int32) * u2)) + r3).toNatClampNeg)]) (ci := 9) (rm := { frames := 0, cells := 0, slots := 0, locals := 0 }) E hml hl.1 (c_X9_done l X c0 (m1 (c0 + 1) (((68 : Int32) + ((6 : Int32) * u2)) + r3).toNatClampNeg) m1 hk0 hqq28) wt_X9_done wl_RX9_64 rfl hk0 (by decide) rfl rfl hM hS rfl rfl (Nat.le_trans (by decide) hRf) (Nat.le_trans (by decide) hRl) (Nat.le_trans (Nat.le_of_ble_eq_true rfl) hRc) (Nat.le_trans (Nat.le_of_ble_eq_true rfl) hRs) (Nat.le_of_ble_eq_true rfl) dX9_banquetOf_67 rfl) hS (fun H locs hM hS => ?_)
      exact ge_i E hr hlocks hf hM hS (Nat.le_of_ble_eq_true rfl) (Nat.le_of_ble_eq_true rfl) dX9_banquetOf_70
    have hf := g_f h24 hf
    by_cases h30 : u2 = (4 : Int32)
    · have hf := g_t h30 hf
      refine lv_tableIn (tgt := 71) hx hb dX9_banquetOf_18 (by rw [h30]; decide) (by rw [h30]; decide) (by rw [h30]; rfl) (by decide) ?_
      refine lv_aload_n hx hb dX9_banquetOf_71 rfl (lv_at hl 1 rfl) ?_
      refine lv_aload_n hx hb dX9_banquetOf_72 rfl (lv_at hl 1 rfl) ?_
      refine lv_iload_n hx hb dX9_banquetOf_73 rfl (lv_at hl 0 rfl) ?_
      obtain ⟨r33, m31, hqq32, hf⟩ := g1_o hf
      refine ga_i (gr_V (As := [.int r3]) (ci := 9) (rm := { frames := 0, cells := 0, slots := 0, locals := 0 }) E hml hl.1 (c_X9_missing l X c0 r3 m1 hk0 hqq32) wt_X9_missing wl_RX9_149 rfl hk0 (by decide) rfl rfl hM hS rfl rfl (Nat.le_trans (by decide) hRf) (Nat.le_trans (by decide) hRl) (Nat.le_trans (Nat.le_of_ble_eq_true rfl) hRc) (Nat.le_trans (Nat.le_of_ble_eq_true rfl) hRs) (Nat.le_of_ble_eq_true rfl) dX9_banquetOf_74 rfl) hS (fun H locs hM hS => ?_)
      obtain ⟨r36, m34, hqq35, hf⟩ := g1_o hf
      refine ga_i (gr_V (As := [.int r33]) (ci := 9) (rm := { frames := 0, cells := 0, slots := 0, locals := 0 }) E hml hl.1 (c_X9_done l X c0 r33 m31 hk0 hqq35) wt_X9_done wl_RX9_64 rfl hk0 (by decide) rfl rfl hM hS rfl rfl (Nat.le_trans (by decide) hRf) (Nat.le_trans (by decide) hRl) (Nat.le_trans (Nat.le_of_ble_eq_true rfl) hRc) (Nat.le_trans (Nat.le_of_ble_eq_true rfl) hRs) (Nat.le_of_ble_eq_true rfl) dX9_banquetOf_77 rfl) hS (fun H locs hM hS => ?_)
      exact ge_i E hr hlocks hf hM hS (Nat.le_of_ble_eq_true rfl) (Nat.le_of_ble_eq_true rfl) dX9_banquetOf_80
    have hf := g_f h30 hf
    have ah6 := g_tn (z := 0) h6 rfl
    have ah12 := g_tn (z := 1) h12 rfl
    have ah18 := g_tn (z := 2) h18 rfl
    have ah24 := g_tn (z := 3) h24 rfl
    have ah30 := g_tn (z := 4) h30 rfl
    refine lv_tableOut (tgt := 81) hx hb dX9_banquetOf_18 (by omega) (by decide) ?_
    refine lv_aload_n hx hb dX9_banquetOf_81 rfl (lv_at hl 1 rfl) ?_
    refine lv_iconst (v := (2 : Int32)) hx hb dX9_banquetOf_82 (by decide) ?_
    obtain ⟨r39, m37, hqq38, hf⟩ := g1_o hf
    refine ga_i (gr_V (As := [.int (2 : Int32)]) (ci := 9) (rm := { frames := 0, cells := 0, slots := 0, locals := 0 }) E hml hl.1 (c_X9_fails l X c0 (2 : Int32) m1 hk0 hqq38) wt_X9_fails wl_RX9_57 rfl hk0 (by decide) rfl rfl hM hS rfl rfl (Nat.le_trans (by decide) hRf) (Nat.le_trans (by decide) hRl) (Nat.le_trans (Nat.le_of_ble_eq_true rfl) hRc) (Nat.le_trans (Nat.le_of_ble_eq_true rfl) hRs) (Nat.le_of_ble_eq_true rfl) dX9_banquetOf_83 rfl) hS (fun H locs hM hS => ?_)
    exact ge_i E hr hlocks hf hM hS (Nat.le_of_ble_eq_true rfl) (Nat.le_of_ble_eq_true rfl) dX9_banquetOf_86
  · have hf := g_t h4 hf
    refine lv_aload_n hx hb dX9_banquetOf_11 rfl (lv_at hl 1 rfl) ?_
    refine lv_iconst (v := (1 : Int32)) hx hb dX9_banquetOf_12 (by decide) ?_
    obtain ⟨r42, m40, hqq41, hf⟩ := g1_o hf
    refine ga_i (gr_V (As := [.int (1 : Int32)]) (ci := 9) (rm := { frames := 0, cells := 0, slots := 0, locals := 0 }) E hml hl.1 (c_X9_fails l X c0 (1 : Int32) m1 hk0 hqq41) wt_X9_fails wl_RX9_57 rfl hk0 (by decide) rfl rfl hM hS rfl rfl (Nat.le_trans (by decide) hRf) (Nat.le_trans (by decide) hRl) (Nat.le_trans (Nat.le_of_ble_eq_true rfl) hRc) (Nat.le_trans (Nat.le_of_ble_eq_true rfl) hRs) (Nat.le_of_ble_eq_true rfl) dX9_banquetOf_13 rfl) hS (fun H locs hM hS => ?_)
    exact ge_i E hr hlocks hf hM hS (Nat.le_of_ble_eq_true rfl) (Nat.le_of_ble_eq_true rfl) dX9_banquetOf_16
theorem c_X9_banquetOf (l : Launch) (X : gX) (c0 : Nat) (u1 : Int32) (u2 : Int32) (m0 : gMem) {res : Int32 × gMem} (hk0 : gk c0 = 9) (hf : f_X9_banquetOf c0 u1 u2 m0 = some res) : Met l yX9_banquetOf (gWs yX9_banquetOf cX9_banquetOf 4 (some .int)) { frames := 1, cells := 0, slots := 0, locals := 22 } (va_Pc [.ref (X.1 + c0), .int u1, .int u2] (gB X m0)) (gQi X res) 0 0 (gA X) :=
  gMet (own := RX9) (by decide +kernel) rfl (Nat.le_of_ble_eq_true rfl) (fun p e s m args below meth c ls E hr hlocks hml hM hl => b_X9_banquetOf E hr hlocks hml (Nat.le_refl _) (Nat.le_refl _) (Nat.le_refl _) (Nat.le_refl _) hk0 hf hM va_S.rf hl)
def L_X9_next_4 (c0 : Nat) (k48 : Int32 → Int32 →  gMem → Option (Int32 × gMem)) : Nat → Int32 → Int32 → gMem → Option (Int32 × gMem)
  | 0, _, _, _ => none
  | n + 1, y1, y2, m0 => if ¬ ((61 : Int32) < 0 ∨ gl (c0 + 1) ≤ (61 : Int32).toNatClampNeg) then if (m0 (c0 + 1) (61 : Int32).toNatClampNeg) ≤ y2 then (k48 y1 y2 m0) else (if ¬ (((68 : Int32) + y2) < 0 ∨ gl (c0 + 1) ≤ ((68 : Int32) + y2).toNatClampNeg) then if ¬ (((68 : Int32) + y1) < 0 ∨ gl (c0 + 1) ≤ ((68 : Int32) + y1).toNatClampNeg) then if (m0 (c0 + 1) ((68 : Int32) + y1).toNatClampNeg) ≤ (m0 (c0 + 1) ((68 : Int32) + y2).toNatClampNeg) then (gv (y2 + (1 : Int32)) (fun x7 => L_X9_next_4 c0 k48 n y1 x7 m0)) else (gv (y2 + (1 : Int32)) (fun x8 => L_X9_next_4 c0 k48 n y2 x8 m0)) else none else none) else none
def f_X9_next (c0 : Nat) (m0 : gMem) : Option (Int32 × gMem) := L_X9_next_4 c0 (fun y9 y10 m11 => if ¬ ((61 : Int32) < 0 ∨ gl (c0 + 1) ≤ (61 : Int32).toNatClampNeg) then if (m11 (c0 + 1) (61 : Int32).toNatClampNeg) = (0 : Int32) then (g1 (f_X9_fails c0 (1 : Int32) m11) (fun r21 m19 => some (r21, m19))) else (if ¬ (((62 : Int32) + y9) < 0 ∨ gl (c0 + 1) ≤ ((62 : Int32) + y9).toNatClampNeg) then g1 (f_X9_done c0 (m11 (c0 + 1) ((62 : Int32) + y9).toNatClampNeg) m11) (fun r18 m16 => some (r18, m16)) else none) else none) gF (0 : Int32) (1 : Int32) m0
set_option maxRecDepth 100000 in
set_option maxHeartbeats 4000000 in
theorem l_X9_next_4 {p : Program} {l : Launch} {e : Env} {R : Room} {s : State} {m : MethodId} {args : Array Value} {below : List Frame} {meth : Method} {c : Code} {cells slots : Nat} {X : gX} (E : gEn p s m args c cX9_next RX9 X) (hr : meth.sig.returnType = (some .int)) (hlocks : meth.locks = false) (hml : c.maxLocals = 3) (hRf : 1 ≤ R.frames) (hRl : 21 ≤ R.locals) (hRc : 0 ≤ R.cells) (hRs : 0 ≤ R.slots) (hc : cells ≤ 0) (hs : slots ≤ 0) (c0 : Nat) (hk0 : gk c0 = 9) (k48 : Int32 → Int32 →  gMem → Option (Int32 × gMem)) {res : Int32 × gMem}
    (hk48 : ∀ (y1 : Int32) (y2 : Int32) (m0 : gMem) (H : Heap) (locs : List Loc) (ls : Array Slot), k48 y1 y2 m0 = some res → gM X m0 H → va_S (gA X) s.heap H locs → lv_has ls 3 [(0, .ref (X.1 + c0)), (1, .int y1), (2, .int y2)] → W p l e R s m args below meth c H locs cells slots (MQ below (gQi X res) args s 0 0 (gA X)) (F0 m 48 ls [])) :
    ∀ (n : Nat) (y1 : Int32) (y2 : Int32) (m0 : gMem) (H : Heap) (locs : List Loc) (ls : Array Slot), L_X9_next_4 c0 k48 n y1 y2 m0 = some res → gM X m0 H → va_S (gA X) s.heap H locs → lv_has ls 3 [(0, .ref (X.1 + c0)), (1, .int y1), (2, .int y2)] → W p l e R s m args below meth c H locs cells slots (MQ below (gQi X res) args s 0 0 (gA X)) (F0 m 4 ls []) := by
  obtain ⟨hx, hb⟩ := (⟨E.1, E.2.1⟩ : _ ∧ _)
  intro n
  induction n with
  | zero =>
    intro _ _ _ _ _ _ hf
    cases hf
  | succ n ih =>
    intro y1 y2 m0 H locs ls hf hM hS hl
    rw [L_X9_next_4] at hf
    refine lv_iload_n hx hb dX9_next_4 rfl (lv_at hl 2 rfl) ?_
    refine lv_aload_n hx hb dX9_next_5 rfl (lv_at hl 0 rfl) ?_
    refine GX9_7 E hM hk0 dX9_next_6 ?_
    have hg1 : gk (c0 + 1) = 20 := gkf_9_0 hk0
    refine lv_bipush (v := (61 : Int32)) hx hb dX9_next_9 (by decide) ?_
    obtain ⟨hi2, hf⟩ := g_ck hf
    refine gg_iald E hM (gk_in hg1 (by decide)) hg1 hi2 dX9_next_11 ?_
    refine lv_icmp_ge (tgt := 48) hx hb dX9_next_12 (by decide) (fun h3 => ?_) (fun h3 => ?_)
    · have hf := g_t h3 hf
      exact hk48 y1 y2 m0 _ _ _ hf hM hS (lv_sub hl [0, 1, 2] rfl)
    · have hf := g_f h3 hf
      refine lv_aload_n hx hb dX9_next_15 rfl (lv_at hl 0 rfl) ?_
      refine GX9_7 E hM hk0 dX9_next_16 ?_
      refine lv_bipush (v := (68 : Int32)) hx hb dX9_next_19 (by decide) ?_
      refine lv_iload_n hx hb dX9_next_21 rfl (lv_at hl 2 rfl) ?_
      refine lv_iadd hx hb dX9_next_22 ?_
      obtain ⟨hi4, hf⟩ := g_ck hf
      refine gg_iald E hM (gk_in hg1 (by decide)) hg1 hi4 dX9_next_23 ?_
      refine lv_aload_n hx hb dX9_next_24 rfl (lv_at hl 0 rfl) ?_
      refine GX9_7 E hM hk0 dX9_next_25 ?_
      refine lv_bipush (v := (68 : Int32)) hx hb dX9_next_28 (by decide) ?_
      refine lv_iload_n hx hb dX9_next_30 rfl (lv_at hl 1 rfl) ?_
      refine lv_iadd hx hb dX9_next_31 ?_
      obtain ⟨hi5, hf⟩ := g_ck hf
      refine gg_iald E hM (gk_in hg1 (by decide)) hg1 hi5 dX9_next_32 ?_
      refine lv_icmp_ge (tgt := 40) hx hb dX9_next_33 (by decide) (fun h6 => ?_) (fun h6 => ?_)
      · have hf := g_t h6 hf
        refine lv_iload_n hx hb dX9_next_40 rfl (lv_at hl 1 rfl) ?_
        refine lv_istore_n (lv' := [(1, .int y1), (0, .ref (X.1 + c0)), (2, .int y2)]) hx hb dX9_next_41 rfl hl (by decide) rfl (fun ls hl => ?_)
        obtain ⟨x7, ex7, hf⟩ := gv_o hf
        refine lv_iinc (v := x7) (lv' := [(2, .int x7), (1, .int y1), (0, .ref (X.1 + c0))]) hx hb dX9_next_42 hl (k := 2) rfl (by rw [ex7]; rfl) (by decide) rfl (fun ls hl => ?_)
        refine lv_goto (tgt := 4) hx hb dX9_next_45 (by decide) ?_
        exact ih y1 x7 m0 _ _ _ hf hM hS (lv_sub hl [2, 1, 0] rfl)
      · have hf := g_f h6 hf
        refine lv_iload_n hx hb dX9_next_36 rfl (lv_at hl 2 rfl) ?_
        refine lv_goto (tgt := 41) hx hb dX9_next_37 (by decide) ?_
        refine lv_istore_n (lv' := [(1, .int y2), (0, .ref (X.1 + c0)), (2, .int y2)]) hx hb dX9_next_41 rfl hl (by decide) rfl (fun ls hl => ?_)
        obtain ⟨x8, ex8, hf⟩ := gv_o hf
        refine lv_iinc (v := x8) (lv' := [(2, .int x8), (1, .int y2), (0, .ref (X.1 + c0))]) hx hb dX9_next_42 hl (k := 2) rfl (by rw [ex8]; rfl) (by decide) rfl (fun ls hl => ?_)
        refine lv_goto (tgt := 4) hx hb dX9_next_45 (by decide) ?_
        exact ih y2 x8 m0 _ _ _ hf hM hS (lv_sub hl [2, 1, 0] rfl)
set_option maxRecDepth 100000 in
set_option maxHeartbeats 4000000 in
theorem b_X9_next {p : Program} {l : Launch} {e : Env} {R : Room} {s : State} {m : MethodId} {args : Array Value} {below : List Frame} {meth : Method} {c : Code} {H : Heap} {locs : List Loc} {ls : Array Slot} {X : gX} (E : gEn p s m args c cX9_next RX9 X) (hr : meth.sig.returnType = (some .int)) (hlocks : meth.locks = false) (hml : c.maxLocals = 3) (hRf : 1 ≤ R.frames) (hRl : 21 ≤ R.locals) (hRc : 0 ≤ R.cells) (hRs : 0 ≤ R.slots) {c0 : Nat} {m0 : gMem} {res : Int32 × gMem} (hk0 : gk c0 = 9) (hf : f_X9_next c0 m0 = some res) (hM : gM X m0 H) (hS : va_S (gA X) s.heap H locs) (hl : lv_has ls 3 [(0, .ref (X.1 + c0))]) : W p l e R s m args below meth c H locs 0 0 (MQ below (gQi X res) args s 0 0 (gA X)) (F0 m 0 ls []) := by
  obtain ⟨hx, hb⟩ := (⟨E.1, E.2.1⟩ : _ ∧ _)
  unfold f_X9_next at hf
  refine lv_iconst (v := (0 : Int32)) hx hb dX9_next_0 (by decide) ?_
  refine lv_istore_n (lv' := [(1, .int (0 : Int32)), (0, .ref (X.1 + c0))]) hx hb dX9_next_1 rfl hl (by decide) rfl (fun ls hl => ?_)
  refine lv_iconst (v := (1 : Int32)) hx hb dX9_next_2 (by decide) ?_
  refine lv_istore_n (lv' := [(2, .int (1 : Int32)), (1, .int (0 : Int32)), (0, .ref (X.1 + c0))]) hx hb dX9_next_3 rfl hl (by decide) rfl (fun ls hl => ?_)
  refine l_X9_next_4 E hr hlocks hml hRf hRl hRc hRs (Nat.le_of_ble_eq_true rfl) (Nat.le_of_ble_eq_true rfl) c0 hk0 _ (fun y9 y10 m11 H locs ls hf hM hS hl => ?_) gF (0 : Int32) (1 : Int32) m0 _ _ _ hf hM hS (lv_sub hl [2, 1, 0] rfl)
  refine lv_aload_n hx hb dX9_next_48 rfl (lv_at hl 0 rfl) ?_
  refine GX9_7 E hM hk0 dX9_next_49 ?_
  have hg12 : gk (c0 + 1) = 20 := gkf_9_0 hk0
  refine lv_bipush (v := (61 : Int32)) hx hb dX9_next_52 (by decide) ?_
  obtain ⟨hi13, hf⟩ := g_ck hf
  refine gg_iald E hM (gk_in hg12 (by decide)) hg12 hi13 dX9_next_54 ?_
  refine lv_if_ne (tgt := 66) hx hb dX9_next_55 (by decide) (fun h14 => ?_) (fun h14 => ?_)
  · have hf := g_f h14 hf
    refine lv_aload_n hx hb dX9_next_66 rfl (lv_at hl 0 rfl) ?_
    refine lv_aload_n hx hb dX9_next_67 rfl (lv_at hl 0 rfl) ?_
    refine GX9_7 E hM hk0 dX9_next_68 ?_
    refine lv_bipush (v := (62 : Int32)) hx hb dX9_next_71 (by decide) ?_
    refine lv_iload_n hx hb dX9_next_73 rfl (lv_at hl 1 rfl) ?_
    refine lv_iadd hx hb dX9_next_74 ?_
    obtain ⟨hi15, hf⟩ := g_ck hf
    refine gg_iald E hM (gk_in hg12 (by decide)) hg12 hi15 dX9_next_75 ?_
    obtain ⟨r18, m16, hqq17, hf⟩ := g1_o hf
    refine ga_i (gr_V (As := [.int (m11 (c0 + 1) ((62 : Int32) + y9).toNatClampNeg)]) (ci := 9) (rm := { frames := 0, cells := 0, slots := 0, locals := 0 }) E hml hl.1 (c_X9_done l X c0 (m11 (c0 + 1) ((62 : Int32) + y9).toNatClampNeg) m11 hk0 hqq17) wt_X9_done wl_RX9_64 rfl hk0 (by decide) rfl rfl hM hS rfl rfl (Nat.le_trans (by decide) hRf) (Nat.le_trans (by decide) hRl) (Nat.le_trans (Nat.le_of_ble_eq_true rfl) hRc) (Nat.le_trans (Nat.le_of_ble_eq_true rfl) hRs) (Nat.le_of_ble_eq_true rfl) dX9_next_76 rfl) hS (fun H locs hM hS => ?_)
    exact ge_i E hr hlocks hf hM hS (Nat.le_of_ble_eq_true rfl) (Nat.le_of_ble_eq_true rfl) dX9_next_79
  · have hf := g_t h14 hf
    refine lv_aload_n hx hb dX9_next_58 rfl (lv_at hl 0 rfl) ?_
    refine lv_iconst (v := (1 : Int32)) hx hb dX9_next_59 (by decide) ?_
    obtain ⟨r21, m19, hqq20, hf⟩ := g1_o hf
    refine ga_i (gr_V (As := [.int (1 : Int32)]) (ci := 9) (rm := { frames := 0, cells := 0, slots := 0, locals := 0 }) E hml hl.1 (c_X9_fails l X c0 (1 : Int32) m11 hk0 hqq20) wt_X9_fails wl_RX9_57 rfl hk0 (by decide) rfl rfl hM hS rfl rfl (Nat.le_trans (by decide) hRf) (Nat.le_trans (by decide) hRl) (Nat.le_trans (Nat.le_of_ble_eq_true rfl) hRc) (Nat.le_trans (Nat.le_of_ble_eq_true rfl) hRs) (Nat.le_of_ble_eq_true rfl) dX9_next_60 rfl) hS (fun H locs hM hS => ?_)
    refine lv_goto (tgt := 79) hx hb dX9_next_63 (by decide) ?_
    exact ge_i E hr hlocks hf hM hS (Nat.le_of_ble_eq_true rfl) (Nat.le_of_ble_eq_true rfl) dX9_next_79
theorem c_X9_next (l : Launch) (X : gX) (c0 : Nat) (m0 : gMem) {res : Int32 × gMem} (hk0 : gk c0 = 9) (hf : f_X9_next c0 m0 = some res) : Met l yX9_next (gWs yX9_next cX9_next 3 (some .int)) { frames := 1, cells := 0, slots := 0, locals := 21 } (va_Pc [.ref (X.1 + c0)] (gB X m0)) (gQi X res) 0 0 (gA X) :=
  gMet (own := RX9) (by decide +kernel) rfl (Nat.le_of_ble_eq_true rfl) (fun p e s m args below meth c ls E hr hlocks hml hM hl => b_X9_next E hr hlocks hml (Nat.le_refl _) (Nat.le_refl _) (Nat.le_refl _) (Nat.le_refl _) hk0 hf hM va_S.rf hl)
def f_X9_breaks (c0 : Nat) (u1 : Int32) (m0 : gMem) : Option (Int32 × gMem) := if ¬ (((30 : Int32) + u1) < 0 ∨ gl (c0 + 1) ≤ ((30 : Int32) + u1).toNatClampNeg) then g1 (f_X9_weakAt c0 u1 (m0 (c0 + 1) ((30 : Int32) + u1).toNatClampNeg) (0 : Int32) m0) (fun r5 m3 => if r5 = (-1 : Int32) then (some ((0 : Int32), m3)) else (if ¬ (((36 : Int32) + u1) < 0 ∨ gl (c0 + 1) ≤ ((36 : Int32) + u1).toNatClampNeg) then gv (((m3 (c0 + 1) ((36 : Int32) + u1).toNatClampNeg) - r5)) (fun x8 => if ¬ ((96 : Int32) < 0 ∨ gl (c0 + 1) ≤ (96 : Int32).toNatClampNeg) then g1 (f_X9_cubesOf c0 u1 r5 m3) (fun r12 m10 => g1 (f_X9_above c0 u1 r5 m10) (fun r15 m13 => gv (ms m13 (c0 + 1) (96 : Int32).toNatClampNeg ((m3 (c0 + 1) (96 : Int32).toNatClampNeg) + (r12 + r15))) (fun m16 => gv (ms m16 (c0 + 1) ((36 : Int32) + u1).toNatClampNeg r5) (fun m17 => if ¬ (((42 : Int32) + u1) < 0 ∨ gl (c0 + 1) ≤ ((42 : Int32) + u1).toNatClampNeg) then gv (ms m17 (c0 + 1) ((42 : Int32) + u1).toNatClampNeg ((m17 (c0 + 1) ((42 : Int32) + u1).toNatClampNeg) + x8)) (fun m19 => some (x8, m19)) else none)))) else none) else none)) else none
set_option maxRecDepth 100000 in
set_option maxHeartbeats 4000000 in
theorem b_X9_breaks {p : Program} {l : Launch} {e : Env} {R : Room} {s : State} {m : MethodId} {args : Array Value} {below : List Frame} {meth : Method} {c : Code} {H : Heap} {locs : List Loc} {ls : Array Slot} {X : gX} (E : gEn p s m args c cX9_breaks RX9 X) (hr : meth.sig.returnType = (some .int)) (hlocks : meth.locks = false) (hml : c.maxLocals = 4) (hRf : 3 ≤ R.frames) (hRl : 70 ≤ R.locals) (hRc : 0 ≤ R.cells) (hRs : 0 ≤ R.slots) {c0 : Nat} {u1 : Int32} {m0 : gMem} {res : Int32 × gMem} (hk0 : gk c0 = 9) (hf : f_X9_breaks c0 u1 m0 = some res) (hM : gM X m0 H) (hS : va_S (gA X) s.heap H locs) (hl : lv_has ls 4 [(0, .ref (X.1 + c0)), (1, .int u1)]) : W p l e R s m args below meth c H locs 0 0 (MQ below (gQi X res) args s 0 0 (gA X)) (F0 m 0 ls []) := by
  obtain ⟨hx, hb⟩ := (⟨E.1, E.2.1⟩ : _ ∧ _)
  unfold f_X9_breaks at hf
  refine lv_aload_n hx hb dX9_breaks_0 rfl (lv_at hl 0 rfl) ?_
  refine lv_iload_n hx hb dX9_breaks_1 rfl (lv_at hl 1 rfl) ?_
  refine lv_aload_n hx hb dX9_breaks_2 rfl (lv_at hl 0 rfl) ?_
  refine GX9_7 E hM hk0 dX9_breaks_3 ?_
  have hg1 : gk (c0 + 1) = 20 := gkf_9_0 hk0
  refine lv_bipush (v := (30 : Int32)) hx hb dX9_breaks_6 (by decide) ?_
  refine lv_iload_n hx hb dX9_breaks_8 rfl (lv_at hl 1 rfl) ?_
  refine lv_iadd hx hb dX9_breaks_9 ?_
  obtain ⟨hi2, hf⟩ := g_ck hf
  refine gg_iald E hM (gk_in hg1 (by decide)) hg1 hi2 dX9_breaks_10 ?_
  refine lv_iconst (v := (0 : Int32)) hx hb dX9_breaks_11 (by decide) ?_
  obtain ⟨r5, m3, hqq4, hf⟩ := g1_o hf
  refine ga_i (gr_V (As := [.int u1, .int (m0 (c0 + 1) ((30 : Int32) + u1).toNatClampNeg), .int (0 : Int32)]) (ci := 9) (rm := { frames := 2, cells := 0, slots := 0, locals := 46 }) E hml hl.1 (c_X9_weakAt l X c0 u1 (m0 (c0 + 1) ((30 : Int32) + u1).toNatClampNeg) (0 : Int32) m0 hk0 hqq4) wt_X9_weakAt wl_RX9_109 rfl hk0 (by decide) rfl rfl hM hS rfl rfl (Nat.le_trans (by decide) hRf) (Nat.le_trans (by decide) hRl) (Nat.le_trans (Nat.le_of_ble_eq_true rfl) hRc) (Nat.le_trans (Nat.le_of_ble_eq_true rfl) hRs) (Nat.le_of_ble_eq_true rfl) dX9_breaks_12 rfl) hS (fun H locs hM hS => ?_)
  refine lv_istore_n (lv' := [(2, .int r5), (0, .ref (X.1 + c0)), (1, .int u1)]) hx hb dX9_breaks_15 rfl hl (by decide) rfl (fun ls hl => ?_)
  refine lv_iload_n hx hb dX9_breaks_16 rfl (lv_at hl 0 rfl) ?_
  refine lv_iconst (v := (-1 : Int32)) hx hb dX9_breaks_17 (by decide) ?_
  refine lv_icmp_ne (tgt := 23) hx hb dX9_breaks_18 (by decide) (fun h6 => ?_) (fun h6 => ?_)
  · have hf := g_f h6 hf
    refine lv_aload_n hx hb dX9_breaks_23 rfl (lv_at hl 1 rfl) ?_
    refine GX9_7 E hM hk0 dX9_breaks_24 ?_
    refine lv_bipush (v := (36 : Int32)) hx hb dX9_breaks_27 (by decide) ?_
    refine lv_iload_n hx hb dX9_breaks_29 rfl (lv_at hl 2 rfl) ?_
    refine lv_iadd hx hb dX9_breaks_30 ?_
    obtain ⟨hi7, hf⟩ := g_ck hf
    refine gg_iald E hM (gk_in hg1 (by decide)) hg1 hi7 dX9_breaks_31 ?_
    refine lv_iload_n hx hb dX9_breaks_32 rfl (lv_at hl 0 rfl) ?_
    refine lv_isub hx hb dX9_breaks_33 ?_
    obtain ⟨x8, ex8, hf⟩ := gv_o hf
    rw [← ex8]
    refine lv_istore_n (lv' := [(3, .int x8), (2, .int r5), (0, .ref (X.1 + c0)), (1, .int u1)]) hx hb dX9_breaks_34 rfl hl (by decide) rfl (fun ls hl => ?_)
    refine lv_aload_n hx hb dX9_breaks_35 rfl (lv_at hl 2 rfl) ?_
    refine GX9_7 E hM hk0 dX9_breaks_36 ?_
    refine lv_bipush (v := (96 : Int32)) hx hb dX9_breaks_39 (by decide) ?_
    refine lv_dup2_11 hx hb dX9_breaks_41 rfl rfl ?_
    obtain ⟨hi9, hf⟩ := g_ck hf
    refine gg_iald E hM (gk_in hg1 (by decide)) hg1 hi9 dX9_breaks_42 ?_
    refine lv_aload_n hx hb dX9_breaks_43 rfl (lv_at hl 2 rfl) ?_
    refine lv_iload_n hx hb dX9_breaks_44 rfl (lv_at hl 3 rfl) ?_
    refine lv_iload_n hx hb dX9_breaks_45 rfl (lv_at hl 1 rfl) ?_
    obtain ⟨r12, m10, hqq11, hf⟩ := g1_o hf
    refine ga_i (gr_V (As := [.int u1, .int r5]) (ci := 9) (rm := { frames := 0, cells := 0, slots := 0, locals := 0 }) E hml hl.1 (c_X9_cubesOf l X c0 u1 r5 m3 hk0 hqq11) wt_X9_cubesOf wl_RX9_94 rfl hk0 (by decide) rfl rfl hM hS rfl rfl (Nat.le_trans (by decide) hRf) (Nat.le_trans (by decide) hRl) (Nat.le_trans (Nat.le_of_ble_eq_true rfl) hRc) (Nat.le_trans (Nat.le_of_ble_eq_true rfl) hRs) (Nat.le_of_ble_eq_true rfl) dX9_breaks_46 rfl) hS (fun H locs hM hS => ?_)
    refine lv_aload_n hx hb dX9_breaks_49 rfl (lv_at hl 2 rfl) ?_
    refine lv_iload_n hx hb dX9_breaks_50 rfl (lv_at hl 3 rfl) ?_
    refine lv_iload_n hx hb dX9_breaks_51 rfl (lv_at hl 1 rfl) ?_
    obtain ⟨r15, m13, hqq14, hf⟩ := g1_o hf
    refine ga_i (gr_V (As := [.int u1, .int r5]) (ci := 9) (rm := { frames := 1, cells := 0, slots := 0, locals := 22 }) E hml hl.1 (c_X9_above l X c0 u1 r5 m10 hk0 hqq14) wt_X9_above wl_RX9_100 rfl hk0 (by decide) rfl rfl hM hS rfl rfl (Nat.le_trans (by decide) hRf) (Nat.le_trans (by decide) hRl) (Nat.le_trans (Nat.le_of_ble_eq_true rfl) hRc) (Nat.le_trans (Nat.le_of_ble_eq_true rfl) hRs) (Nat.le_of_ble_eq_true rfl) dX9_breaks_52 rfl) hS (fun H locs hM hS => ?_)
    refine lv_iadd hx hb dX9_breaks_55 ?_
    refine lv_iadd hx hb dX9_breaks_56 ?_
    obtain ⟨m16, em16, hf⟩ := gv_o hf
    refine gg_iast E (fun c hc => gA_in X hc) hM hS (gk_in hg1 (by decide)) hg1 hi9 em16 dX9_breaks_57 (fun H locs hM hS => ?_)
    refine lv_aload_n hx hb dX9_breaks_58 rfl (lv_at hl 2 rfl) ?_
    refine GX9_7 E hM hk0 dX9_breaks_59 ?_
    refine lv_bipush (v := (36 : Int32)) hx hb dX9_breaks_62 (by decide) ?_
    refine lv_iload_n hx hb dX9_breaks_64 rfl (lv_at hl 3 rfl) ?_
    refine lv_iadd hx hb dX9_breaks_65 ?_
    refine lv_iload_n hx hb dX9_breaks_66 rfl (lv_at hl 1 rfl) ?_
    obtain ⟨m17, em17, hf⟩ := gv_o hf
    refine gg_iast E (fun c hc => gA_in X hc) hM hS (gk_in hg1 (by decide)) hg1 hi7 em17 dX9_breaks_67 (fun H locs hM hS => ?_)
    refine lv_aload_n hx hb dX9_breaks_68 rfl (lv_at hl 2 rfl) ?_
    refine GX9_7 E hM hk0 dX9_breaks_69 ?_
    refine lv_bipush (v := (42 : Int32)) hx hb dX9_breaks_72 (by decide) ?_
    refine lv_iload_n hx hb dX9_breaks_74 rfl (lv_at hl 3 rfl) ?_
    refine lv_iadd hx hb dX9_breaks_75 ?_
    refine lv_dup2_11 hx hb dX9_breaks_76 rfl rfl ?_
    obtain ⟨hi18, hf⟩ := g_ck hf
    refine gg_iald E hM (gk_in hg1 (by decide)) hg1 hi18 dX9_breaks_77 ?_
    refine lv_iload_n hx hb dX9_breaks_78 rfl (lv_at hl 0 rfl) ?_
    refine lv_iadd hx hb dX9_breaks_79 ?_
    obtain ⟨m19, em19, hf⟩ := gv_o hf
    refine gg_iast E (fun c hc => gA_in X hc) hM hS (gk_in hg1 (by decide)) hg1 hi18 em19 dX9_breaks_80 (fun H locs hM hS => ?_)
    refine lv_iload_n hx hb dX9_breaks_81 rfl (lv_at hl 0 rfl) ?_
    exact ge_i E hr hlocks hf hM hS (Nat.le_of_ble_eq_true rfl) (Nat.le_of_ble_eq_true rfl) dX9_breaks_82
  · have hf := g_t h6 hf
    refine lv_iconst (v := (0 : Int32)) hx hb dX9_breaks_21 (by decide) ?_
    exact ge_i E hr hlocks hf hM hS (Nat.le_of_ble_eq_true rfl) (Nat.le_of_ble_eq_true rfl) dX9_breaks_22
theorem c_X9_breaks (l : Launch) (X : gX) (c0 : Nat) (u1 : Int32) (m0 : gMem) {res : Int32 × gMem} (hk0 : gk c0 = 9) (hf : f_X9_breaks c0 u1 m0 = some res) : Met l yX9_breaks (gWs yX9_breaks cX9_breaks 4 (some .int)) { frames := 3, cells := 0, slots := 0, locals := 70 } (va_Pc [.ref (X.1 + c0), .int u1] (gB X m0)) (gQi X res) 0 0 (gA X) :=
  gMet (own := RX9) (by decide +kernel) rfl (Nat.le_of_ble_eq_true rfl) (fun p e s m args below meth c ls E hr hlocks hml hM hl => b_X9_breaks E hr hlocks hml (Nat.le_refl _) (Nat.le_refl _) (Nat.le_refl _) (Nat.le_refl _) hk0 hf hM va_S.rf hl)
def f_X9_holds (c0 : Nat) (u1 : Int32) (m0 : gMem) : Option (Unit × gMem) := if ¬ (((86 : Int32) + u1) < 0 ∨ gl (c0 + 1) ≤ ((86 : Int32) + u1).toNatClampNeg) then gv ((m0 (c0 + 1) ((86 : Int32) + u1).toNatClampNeg)) (fun x3 => if x3 = (-1 : Int32) then (if ¬ ((94 : Int32) < 0 ∨ gl (c0 + 1) ≤ (94 : Int32).toNatClampNeg) then gv (ms m0 (c0 + 1) (94 : Int32).toNatClampNeg ((m0 (c0 + 1) (94 : Int32).toNatClampNeg) + (1 : Int32))) (fun m6 => g1 (f_X9_drops c0 u1 m6) (fun r9 m7 => some ((), m7))) else none) else (g1 (f_X9_missing c0 u1 m0) (fun r12 m10 => if r12 = (0 : Int32) then (if ¬ ((1 : Int32) < 0 ∨ gl (c0 + 1) ≤ (1 : Int32).toNatClampNeg) then if ¬ (((80 : Int32) + u1) < 0 ∨ gl (c0 + 1) ≤ ((80 : Int32) + u1).toNatClampNeg) then gv (ms m10 (c0 + 1) (1 : Int32).toNatClampNeg ((m10 (c0 + 1) (1 : Int32).toNatClampNeg) + (m10 (c0 + 1) ((80 : Int32) + u1).toNatClampNeg))) (fun m21 => if ¬ ((98 : Int32) < 0 ∨ gl (c0 + 1) ≤ (98 : Int32).toNatClampNeg) then gv (ms m21 (c0 + 1) (98 : Int32).toNatClampNeg ((m21 (c0 + 1) (98 : Int32).toNatClampNeg) + (m21 (c0 + 1) ((80 : Int32) + u1).toNatClampNeg))) (fun m23 => if ¬ ((97 : Int32) < 0 ∨ gl (c0 + 1) ≤ (97 : Int32).toNatClampNeg) then g1 (f_X9_cubesIn c0 x3 m23) (fun r27 m25 => gv (ms m25 (c0 + 1) (97 : Int32).toNatClampNeg ((m23 (c0 + 1) (97 : Int32).toNatClampNeg) + r27)) (fun m28 => if ¬ (((36 : Int32) + x3) < 0 ∨ gl (c0 + 1) ≤ ((36 : Int32) + x3).toNatClampNeg) then gv (ms m28 (c0 + 1) ((36 : Int32) + x3).toNatClampNeg (0 : Int32)) (fun m30 => if ¬ (((30 : Int32) + x3) < 0 ∨ gl (c0 + 1) ≤ ((30 : Int32) + x3).toNatClampNeg) then gv (ms m30 (c0 + 1) ((30 : Int32) + x3).toNatClampNeg (0 : Int32)) (fun m32 => if ¬ ((93 : Int32) < 0 ∨ gl (c0 + 1) ≤ (93 : Int32).toNatClampNeg) then gv (ms m32 (c0 + 1) (93 : Int32).toNatClampNeg ((m32 (c0 + 1) (93 : Int32).toNatClampNeg) + (1 : Int32))) (fun m34 => g1 (f_X9_drops c0 u1 m34) (fun r37 m35 => some ((), m35))) else none) else none) else none)) else none) else none) else none else none) else (if ¬ ((94 : Int32) < 0 ∨ gl (c0 + 1) ≤ (94 : Int32).toNatClampNeg) then gv (ms m10 (c0 + 1) (94 : Int32).toNatClampNeg ((m10 (c0 + 1) (94 : Int32).toNatClampNeg) + (1 : Int32))) (fun m15 => g1 (f_X9_drops c0 u1 m15) (fun r18 m16 => some ((), m16))) else none)))) else none
set_option maxRecDepth 100000 in
set_option maxHeartbeats 4000000 in
theorem b_X9_holds {p : Program} {l : Launch} {e : Env} {R : Room} {s : State} {m : MethodId} {args : Array Value} {below : List Frame} {meth : Method} {c : Code} {H : Heap} {locs : List Loc} {ls : Array Slot} {X : gX} (E : gEn p s m args c cX9_holds RX9 X) (hr : meth.sig.returnType = none) (hlocks : meth.locks = false) (hml : c.maxLocals = 3) (hRf : 2 ≤ R.frames) (hRl : 45 ≤ R.locals) (hRc : 0 ≤ R.cells) (hRs : 0 ≤ R.slots) {c0 : Nat} {u1 : Int32} {m0 : gMem} {res : Unit × gMem} (hk0 : gk c0 = 9) (hf : f_X9_holds c0 u1 m0 = some res) (hM : gM X m0 H) (hS : va_S (gA X) s.heap H locs) (hl : lv_has ls 3 [(0, .ref (X.1 + c0)), (1, .int u1)]) : W p l e R s m args below meth c H locs 0 0 (MQ below (gQv X res) args s 0 0 (gA X)) (F0 m 0 ls []) := by
  obtain ⟨hx, hb⟩ := (⟨E.1, E.2.1⟩ : _ ∧ _)
  unfold f_X9_holds at hf
  refine lv_aload_n hx hb dX9_holds_0 rfl (lv_at hl 0 rfl) ?_
  refine GX9_7 E hM hk0 dX9_holds_1 ?_
  have hg1 : gk (c0 + 1) = 20 := gkf_9_0 hk0
  refine lv_bipush (v := (86 : Int32)) hx hb dX9_holds_4 (by decide) ?_
  refine lv_iload_n hx hb dX9_holds_6 rfl (lv_at hl 1 rfl) ?_
  refine lv_iadd hx hb dX9_holds_7 ?_
  obtain ⟨hi2, hf⟩ := g_ck hf
  refine gg_iald E hM (gk_in hg1 (by decide)) hg1 hi2 dX9_holds_8 ?_
  obtain ⟨x3, ex3, hf⟩ := gv_o hf
  rw [← ex3]
  refine lv_istore_n (lv' := [(2, .int x3), (0, .ref (X.1 + c0)), (1, .int u1)]) hx hb dX9_holds_9 rfl hl (by decide) rfl (fun ls hl => ?_)
  refine lv_iload_n hx hb dX9_holds_10 rfl (lv_at hl 0 rfl) ?_
  refine lv_iconst (v := (-1 : Int32)) hx hb dX9_holds_11 (by decide) ?_
  refine lv_icmp_eq (tgt := 109) hx hb dX9_holds_12 (by decide) (fun h4 => ?_) (fun h4 => ?_)
  · have hf := g_t h4 hf
    refine lv_aload_n hx hb dX9_holds_109 rfl (lv_at hl 1 rfl) ?_
    refine GX9_7 E hM hk0 dX9_holds_110 ?_
    refine lv_bipush (v := (94 : Int32)) hx hb dX9_holds_113 (by decide) ?_
    refine lv_dup2_11 hx hb dX9_holds_115 rfl rfl ?_
    obtain ⟨hi5, hf⟩ := g_ck hf
    refine gg_iald E hM (gk_in hg1 (by decide)) hg1 hi5 dX9_holds_116 ?_
    refine lv_iconst (v := (1 : Int32)) hx hb dX9_holds_117 (by decide) ?_
    refine lv_iadd hx hb dX9_holds_118 ?_
    obtain ⟨m6, em6, hf⟩ := gv_o hf
    refine gg_iast E (fun c hc => gA_in X hc) hM hS (gk_in hg1 (by decide)) hg1 hi5 em6 dX9_holds_119 (fun H locs hM hS => ?_)
    refine lv_aload_n hx hb dX9_holds_120 rfl (lv_at hl 1 rfl) ?_
    refine lv_iload_n hx hb dX9_holds_121 rfl (lv_at hl 2 rfl) ?_
    obtain ⟨r9, m7, hqq8, hf⟩ := g1_o hf
    refine ga_v (gr_V (As := [.int u1]) (ci := 9) (rm := { frames := 0, cells := 0, slots := 0, locals := 0 }) E hml hl.1 (c_X9_drops l X c0 u1 m6 hk0 hqq8) wt_X9_drops wl_RX9_155 rfl hk0 (by decide) rfl rfl hM hS rfl rfl (Nat.le_trans (by decide) hRf) (Nat.le_trans (by decide) hRl) (Nat.le_trans (Nat.le_of_ble_eq_true rfl) hRc) (Nat.le_trans (Nat.le_of_ble_eq_true rfl) hRs) (Nat.le_of_ble_eq_true rfl) dX9_holds_122 rfl) hS (fun H locs hM hS => ?_)
    exact ge_v E hr hlocks hf hM hS (Nat.le_of_ble_eq_true rfl) (Nat.le_of_ble_eq_true rfl) dX9_holds_125
  · have hf := g_f h4 hf
    refine lv_aload_n hx hb dX9_holds_15 rfl (lv_at hl 1 rfl) ?_
    refine lv_iload_n hx hb dX9_holds_16 rfl (lv_at hl 2 rfl) ?_
    obtain ⟨r12, m10, hqq11, hf⟩ := g1_o hf
    refine ga_i (gr_V (As := [.int u1]) (ci := 9) (rm := { frames := 0, cells := 0, slots := 0, locals := 0 }) E hml hl.1 (c_X9_missing l X c0 u1 m0 hk0 hqq11) wt_X9_missing wl_RX9_149 rfl hk0 (by decide) rfl rfl hM hS rfl rfl (Nat.le_trans (by decide) hRf) (Nat.le_trans (by decide) hRl) (Nat.le_trans (Nat.le_of_ble_eq_true rfl) hRc) (Nat.le_trans (Nat.le_of_ble_eq_true rfl) hRs) (Nat.le_of_ble_eq_true rfl) dX9_holds_17 rfl) hS (fun H locs hM hS => ?_)
    refine lv_if_ne (tgt := 109) hx hb dX9_holds_20 (by decide) (fun h13 => ?_) (fun h13 => ?_)
    · have hf := g_f h13 hf
      refine lv_aload_n hx hb dX9_holds_109 rfl (lv_at hl 1 rfl) ?_
      refine GX9_7 E hM hk0 dX9_holds_110 ?_
      refine lv_bipush (v := (94 : Int32)) hx hb dX9_holds_113 (by decide) ?_
      refine lv_dup2_11 hx hb dX9_holds_115 rfl rfl ?_
      obtain ⟨hi14, hf⟩ := g_ck hf
      refine gg_iald E hM (gk_in hg1 (by decide)) hg1 hi14 dX9_holds_116 ?_
      refine lv_iconst (v := (1 : Int32)) hx hb dX9_holds_117 (by decide) ?_
      refine lv_iadd hx hb dX9_holds_118 ?_
      obtain ⟨m15, em15, hf⟩ := gv_o hf
      refine gg_iast E (fun c hc => gA_in X hc) hM hS (gk_in hg1 (by decide)) hg1 hi14 em15 dX9_holds_119 (fun H locs hM hS => ?_)
      refine lv_aload_n hx hb dX9_holds_120 rfl (lv_at hl 1 rfl) ?_
      refine lv_iload_n hx hb dX9_holds_121 rfl (lv_at hl 2 rfl) ?_
      obtain ⟨r18, m16, hqq17, hf⟩ := g1_o hf
      refine ga_v (gr_V (As := [.int u1]) (ci := 9) (rm := { frames := 0, cells := 0, slots := 0, locals := 0 }) E hml hl.1 (c_X9_drops l X c0 u1 m15 hk0 hqq17) wt_X9_drops wl_RX9_155 rfl hk0 (by decide) rfl rfl hM hS rfl rfl (Nat.le_trans (by decide) hRf) (Nat.le_trans (by decide) hRl) (Nat.le_trans (Nat.le_of_ble_eq_true rfl) hRc) (Nat.le_trans (Nat.le_of_ble_eq_true rfl) hRs) (Nat.le_of_ble_eq_true rfl) dX9_holds_122 rfl) hS (fun H locs hM hS => ?_)
      exact ge_v E hr hlocks hf hM hS (Nat.le_of_ble_eq_true rfl) (Nat.le_of_ble_eq_true rfl) dX9_holds_125
    · have hf := g_t h13 hf
      refine lv_aload_n hx hb dX9_holds_23 rfl (lv_at hl 1 rfl) ?_
      refine GX9_7 E hM hk0 dX9_holds_24 ?_
      refine lv_iconst (v := (1 : Int32)) hx hb dX9_holds_27 (by decide) ?_
      refine lv_dup2_11 hx hb dX9_holds_28 rfl rfl ?_
      obtain ⟨hi19, hf⟩ := g_ck hf
      refine gg_iald E hM (gk_in hg1 (by decide)) hg1 hi19 dX9_holds_29 ?_
      refine lv_aload_n hx hb dX9_holds_30 rfl (lv_at hl 1 rfl) ?_
      refine GX9_7 E hM hk0 dX9_holds_31 ?_
      refine lv_bipush (v := (80 : Int32)) hx hb dX9_holds_34 (by decide) ?_
      refine lv_iload_n hx hb dX9_holds_36 rfl (lv_at hl 2 rfl) ?_
      refine lv_iadd hx hb dX9_holds_37 ?_
      obtain ⟨hi20, hf⟩ := g_ck hf
      refine gg_iald E hM (gk_in hg1 (by decide)) hg1 hi20 dX9_holds_38 ?_
      refine lv_iadd hx hb dX9_holds_39 ?_
      obtain ⟨m21, em21, hf⟩ := gv_o hf
      refine gg_iast E (fun c hc => gA_in X hc) hM hS (gk_in hg1 (by decide)) hg1 hi19 em21 dX9_holds_40 (fun H locs hM hS => ?_)
      refine lv_aload_n hx hb dX9_holds_41 rfl (lv_at hl 1 rfl) ?_
      refine GX9_7 E hM hk0 dX9_holds_42 ?_
      refine lv_bipush (v := (98 : Int32)) hx hb dX9_holds_45 (by decide) ?_
      refine lv_dup2_11 hx hb dX9_holds_47 rfl rfl ?_
      obtain ⟨hi22, hf⟩ := g_ck hf
      refine gg_iald E hM (gk_in hg1 (by decide)) hg1 hi22 dX9_holds_48 ?_
      refine lv_aload_n hx hb dX9_holds_49 rfl (lv_at hl 1 rfl) ?_
      refine GX9_7 E hM hk0 dX9_holds_50 ?_
      refine lv_bipush (v := (80 : Int32)) hx hb dX9_holds_53 (by decide) ?_
      refine lv_iload_n hx hb dX9_holds_55 rfl (lv_at hl 2 rfl) ?_
      refine lv_iadd hx hb dX9_holds_56 ?_
      refine gg_iald E hM (gk_in hg1 (by decide)) hg1 hi20 dX9_holds_57 ?_
      refine lv_iadd hx hb dX9_holds_58 ?_
      obtain ⟨m23, em23, hf⟩ := gv_o hf
      refine gg_iast E (fun c hc => gA_in X hc) hM hS (gk_in hg1 (by decide)) hg1 hi22 em23 dX9_holds_59 (fun H locs hM hS => ?_)
      refine lv_aload_n hx hb dX9_holds_60 rfl (lv_at hl 1 rfl) ?_
      refine GX9_7 E hM hk0 dX9_holds_61 ?_
      refine lv_bipush (v := (97 : Int32)) hx hb dX9_holds_64 (by decide) ?_
      refine lv_dup2_11 hx hb dX9_holds_66 rfl rfl ?_
      obtain ⟨hi24, hf⟩ := g_ck hf
      refine gg_iald E hM (gk_in hg1 (by decide)) hg1 hi24 dX9_holds_67 ?_
      refine lv_aload_n hx hb dX9_holds_68 rfl (lv_at hl 1 rfl) ?_
      refine lv_iload_n hx hb dX9_holds_69 rfl (lv_at hl 0 rfl) ?_
      obtain ⟨r27, m25, hqq26, hf⟩ := g1_o hf
      refine ga_i (gr_V (As := [.int x3]) (ci := 9) (rm := { frames := 1, cells := 0, slots := 0, locals := 24 }) E hml hl.1 (c_X9_cubesIn l X c0 x3 m23 hk0 hqq26) wt_X9_cubesIn wl_RX9_134 rfl hk0 (by decide) rfl rfl hM hS rfl rfl (Nat.le_trans (by decide) hRf) (Nat.le_trans (by decide) hRl) (Nat.le_trans (Nat.le_of_ble_eq_true rfl) hRc) (Nat.le_trans (Nat.le_of_ble_eq_true rfl) hRs) (Nat.le_of_ble_eq_true rfl) dX9_holds_70 rfl) hS (fun H locs hM hS => ?_)
      refine lv_iadd hx hb dX9_holds_73 ?_
      obtain ⟨m28, em28, hf⟩ := gv_o hf
      refine gg_iast E (fun c hc => gA_in X hc) hM hS (gk_in hg1 (by decide)) hg1 hi24 em28 dX9_holds_74 (fun H locs hM hS => ?_)
      refine lv_aload_n hx hb dX9_holds_75 rfl (lv_at hl 1 rfl) ?_
      refine GX9_7 E hM hk0 dX9_holds_76 ?_
      refine lv_bipush (v := (36 : Int32)) hx hb dX9_holds_79 (by decide) ?_
      refine lv_iload_n hx hb dX9_holds_81 rfl (lv_at hl 0 rfl) ?_
      refine lv_iadd hx hb dX9_holds_82 ?_
      refine lv_iconst (v := (0 : Int32)) hx hb dX9_holds_83 (by decide) ?_
      obtain ⟨hi29, hf⟩ := g_ck hf
      obtain ⟨m30, em30, hf⟩ := gv_o hf
      refine gg_iast E (fun c hc => gA_in X hc) hM hS (gk_in hg1 (by decide)) hg1 hi29 em30 dX9_holds_84 (fun H locs hM hS => ?_)
      refine lv_aload_n hx hb dX9_holds_85 rfl (lv_at hl 1 rfl) ?_
      refine GX9_7 E hM hk0 dX9_holds_86 ?_
      refine lv_bipush (v := (30 : Int32)) hx hb dX9_holds_89 (by decide) ?_
      refine lv_iload_n hx hb dX9_holds_91 rfl (lv_at hl 0 rfl) ?_
      refine lv_iadd hx hb dX9_holds_92 ?_
      refine lv_iconst (v := (0 : Int32)) hx hb dX9_holds_93 (by decide) ?_
      obtain ⟨hi31, hf⟩ := g_ck hf
      obtain ⟨m32, em32, hf⟩ := gv_o hf
      refine gg_iast E (fun c hc => gA_in X hc) hM hS (gk_in hg1 (by decide)) hg1 hi31 em32 dX9_holds_94 (fun H locs hM hS => ?_)
      refine lv_aload_n hx hb dX9_holds_95 rfl (lv_at hl 1 rfl) ?_
      refine GX9_7 E hM hk0 dX9_holds_96 ?_
      refine lv_bipush (v := (93 : Int32)) hx hb dX9_holds_99 (by decide) ?_
      refine lv_dup2_11 hx hb dX9_holds_101 rfl rfl ?_
      obtain ⟨hi33, hf⟩ := g_ck hf
      refine gg_iald E hM (gk_in hg1 (by decide)) hg1 hi33 dX9_holds_102 ?_
      refine lv_iconst (v := (1 : Int32)) hx hb dX9_holds_103 (by decide) ?_
      refine lv_iadd hx hb dX9_holds_104 ?_
      obtain ⟨m34, em34, hf⟩ := gv_o hf
      refine gg_iast E (fun c hc => gA_in X hc) hM hS (gk_in hg1 (by decide)) hg1 hi33 em34 dX9_holds_105 (fun H locs hM hS => ?_)
      refine lv_goto (tgt := 120) hx hb dX9_holds_106 (by decide) ?_
      refine lv_aload_n hx hb dX9_holds_120 rfl (lv_at hl 1 rfl) ?_
      refine lv_iload_n hx hb dX9_holds_121 rfl (lv_at hl 2 rfl) ?_
      obtain ⟨r37, m35, hqq36, hf⟩ := g1_o hf
      refine ga_v (gr_V (As := [.int u1]) (ci := 9) (rm := { frames := 0, cells := 0, slots := 0, locals := 0 }) E hml hl.1 (c_X9_drops l X c0 u1 m34 hk0 hqq36) wt_X9_drops wl_RX9_155 rfl hk0 (by decide) rfl rfl hM hS rfl rfl (Nat.le_trans (by decide) hRf) (Nat.le_trans (by decide) hRl) (Nat.le_trans (Nat.le_of_ble_eq_true rfl) hRc) (Nat.le_trans (Nat.le_of_ble_eq_true rfl) hRs) (Nat.le_of_ble_eq_true rfl) dX9_holds_122 rfl) hS (fun H locs hM hS => ?_)
      exact ge_v E hr hlocks hf hM hS (Nat.le_of_ble_eq_true rfl) (Nat.le_of_ble_eq_true rfl) dX9_holds_125
theorem c_X9_holds (l : Launch) (X : gX) (c0 : Nat) (u1 : Int32) (m0 : gMem) {res : Unit × gMem} (hk0 : gk c0 = 9) (hf : f_X9_holds c0 u1 m0 = some res) : Met l yX9_holds (gWs yX9_holds cX9_holds 3 none) { frames := 2, cells := 0, slots := 0, locals := 45 } (va_Pc [.ref (X.1 + c0), .int u1] (gB X m0)) (gQv X res) 0 0 (gA X) :=
  gMet (own := RX9) (by decide +kernel) rfl (Nat.le_of_ble_eq_true rfl) (fun p e s m args below meth c ls E hr hlocks hml hM hl => b_X9_holds E hr hlocks hml (Nat.le_refl _) (Nat.le_refl _) (Nat.le_refl _) (Nat.le_refl _) hk0 hf hM va_S.rf hl)
def L_X9_goesHour_4 (c0 : Nat) (u1 : Int32) (k52 : Int32 →  gMem → Option (Int32 × gMem)) : Nat → Int32 → gMem → Option (Int32 × gMem)
  | 0, _, _ => none
  | n + 1, y2, m0 => if ¬ ((29 : Int32) < 0 ∨ gl (c0 + 1) ≤ (29 : Int32).toNatClampNeg) then if (m0 (c0 + 1) (29 : Int32).toNatClampNeg) ≤ y2 then (k52 y2 m0) else (if ¬ (((30 : Int32) + y2) < 0 ∨ gl (c0 + 1) ≤ ((30 : Int32) + y2).toNatClampNeg) then if ¬ ((0 : Int32) < 0 ∨ gl (c0 + 1) ≤ (0 : Int32).toNatClampNeg) then g1 (f_X9_humidAt c0 (m0 (c0 + 1) (0 : Int32).toNatClampNeg) m0) (fun r8 m6 => g1 (f_X9_damper (m0 (c0 + 1) ((30 : Int32) + y2).toNatClampNeg) r8 m6) (fun r11 m9 => gv (ms m9 (c0 + 1) ((30 : Int32) + y2).toNatClampNeg r11) (fun m12 => gv (y2 + (1 : Int32)) (fun x13 => L_X9_goesHour_4 c0 u1 k52 n x13 m12)))) else none else none) else none
def L_X9_goesHour_54 (c0 : Nat) (k79 : Int32 → Int32 →  gMem → Option (Int32 × gMem)) : Nat → Int32 → Int32 → gMem → Option (Int32 × gMem)
  | 0, _, _, _ => none
  | n + 1, y1, y2, m0 => if ¬ ((29 : Int32) < 0 ∨ gl (c0 + 1) ≤ (29 : Int32).toNatClampNeg) then if (m0 (c0 + 1) (29 : Int32).toNatClampNeg) ≤ y2 then (k79 y1 y2 m0) else (g1 (f_X9_breaks c0 y2 m0) (fun r21 m19 => gv ((y1 + r21)) (fun x22 => gv (y2 + (1 : Int32)) (fun x23 => L_X9_goesHour_54 c0 k79 n x22 x23 m19)))) else none
def L_X9_goesHour_81 (c0 : Nat) (u1 : Int32) (k127 : Int32 →  gMem → Option (Int32 × gMem)) : Nat → Int32 → gMem → Option (Int32 × gMem)
  | 0, _, _ => none
  | n + 1, y2, m0 => if ¬ ((48 : Int32) < 0 ∨ gl (c0 + 1) ≤ (48 : Int32).toNatClampNeg) then if (m0 (c0 + 1) (48 : Int32).toNatClampNeg) ≤ y2 then (k127 y2 m0) else (if ¬ (((53 : Int32) + y2) < 0 ∨ gl (c0 + 1) ≤ ((53 : Int32) + y2).toNatClampNeg) then if (m0 (c0 + 1) ((53 : Int32) + y2).toNatClampNeg) ≤ (0 : Int32) then (gv (ms m0 (c0 + 1) ((53 : Int32) + y2).toNatClampNeg ((m0 (c0 + 1) ((53 : Int32) + y2).toNatClampNeg) - (0 : Int32))) (fun m32 => gv (y2 + (1 : Int32)) (fun x33 => L_X9_goesHour_81 c0 u1 k127 n x33 m32))) else (gv (ms m0 (c0 + 1) ((53 : Int32) + y2).toNatClampNeg ((m0 (c0 + 1) ((53 : Int32) + y2).toNatClampNeg) - (1 : Int32))) (fun m34 => gv (y2 + (1 : Int32)) (fun x35 => L_X9_goesHour_81 c0 u1 k127 n x35 m34))) else none) else none
def L_X9_goesHour_139 (c0 : Nat) (u1 : Int32) : Nat → Int32 → gMem → Option (Int32 × gMem)
  | 0, _, _ => none
  | n + 1, y2, m0 => if ¬ ((61 : Int32) < 0 ∨ gl (c0 + 1) ≤ (61 : Int32).toNatClampNeg) then if (m0 (c0 + 1) (61 : Int32).toNatClampNeg) ≤ y2 then (some (u1, m0)) else (if ¬ (((68 : Int32) + y2) < 0 ∨ gl (c0 + 1) ≤ ((68 : Int32) + y2).toNatClampNeg) then if ¬ ((0 : Int32) < 0 ∨ gl (c0 + 1) ≤ (0 : Int32).toNatClampNeg) then if (m0 (c0 + 1) ((68 : Int32) + y2).toNatClampNeg) = (m0 (c0 + 1) (0 : Int32).toNatClampNeg) then (g1 (f_X9_holds c0 y2 m0) (fun r50 m48 => L_X9_goesHour_139 c0 u1 n y2 m48)) else (gv (y2 + (1 : Int32)) (fun x47 => L_X9_goesHour_139 c0 u1 n x47 m0)) else none else none) else none
def f_X9_goesHour (c0 : Nat) (m0 : gMem) : Option (Int32 × gMem) := L_X9_goesHour_4 c0 (0 : Int32) (fun y14 m15 => L_X9_goesHour_54 c0 (fun y24 y25 m26 => L_X9_goesHour_81 c0 y24 (fun y36 m37 => if ¬ ((0 : Int32) < 0 ∨ gl (c0 + 1) ≤ (0 : Int32).toNatClampNeg) then gv (ms m37 (c0 + 1) (0 : Int32).toNatClampNeg ((m37 (c0 + 1) (0 : Int32).toNatClampNeg) + (1 : Int32))) (fun m40 => L_X9_goesHour_139 c0 y24 gF (0 : Int32) m40) else none) gF (0 : Int32) m26) gF (0 : Int32) (0 : Int32) m15) gF (0 : Int32) m0
set_option maxRecDepth 100000 in
set_option maxHeartbeats 4000000 in
theorem l_X9_goesHour_4 {p : Program} {l : Launch} {e : Env} {R : Room} {s : State} {m : MethodId} {args : Array Value} {below : List Frame} {meth : Method} {c : Code} {cells slots : Nat} {X : gX} (E : gEn p s m args c cX9_goesHour RX9 X) (hr : meth.sig.returnType = (some .int)) (hlocks : meth.locks = false) (hml : c.maxLocals = 3) (hRf : 4 ≤ R.frames) (hRl : 93 ≤ R.locals) (hRc : 0 ≤ R.cells) (hRs : 0 ≤ R.slots) (hc : cells ≤ 0) (hs : slots ≤ 0) (c0 : Nat) (u1 : Int32) (hk0 : gk c0 = 9) (k52 : Int32 →  gMem → Option (Int32 × gMem)) {res : Int32 × gMem}
    (hk52 : ∀ (y2 : Int32) (m0 : gMem) (H : Heap) (locs : List Loc) (ls : Array Slot), k52 y2 m0 = some res → gM X m0 H → va_S (gA X) s.heap H locs → lv_has ls 3 [(0, .ref (X.1 + c0)), (1, .int u1), (2, .int y2)] → W p l e R s m args below meth c H locs cells slots (MQ below (gQi X res) args s 0 0 (gA X)) (F0 m 52 ls [])) :
    ∀ (n : Nat) (y2 : Int32) (m0 : gMem) (H : Heap) (locs : List Loc) (ls : Array Slot), L_X9_goesHour_4 c0 u1 k52 n y2 m0 = some res → gM X m0 H → va_S (gA X) s.heap H locs → lv_has ls 3 [(0, .ref (X.1 + c0)), (1, .int u1), (2, .int y2)] → W p l e R s m args below meth c H locs cells slots (MQ below (gQi X res) args s 0 0 (gA X)) (F0 m 4 ls []) := by
  obtain ⟨hx, hb⟩ := (⟨E.1, E.2.1⟩ : _ ∧ _)
  intro n
  induction n with
  | zero =>
    intro _ _ _ _ _ hf
    cases hf
  | succ n ih =>
    intro y2 m0 H locs ls hf hM hS hl
    rw [L_X9_goesHour_4] at hf
    refine lv_iload_n hx hb dX9_goesHour_4 rfl (lv_at hl 2 rfl) ?_
    refine lv_aload_n hx hb dX9_goesHour_5 rfl (lv_at hl 0 rfl) ?_
    refine GX9_7 E hM hk0 dX9_goesHour_6 ?_
    have hg1 : gk (c0 + 1) = 20 := gkf_9_0 hk0
    refine lv_bipush (v := (29 : Int32)) hx hb dX9_goesHour_9 (by decide) ?_
    obtain ⟨hi2, hf⟩ := g_ck hf
    refine gg_iald E hM (gk_in hg1 (by decide)) hg1 hi2 dX9_goesHour_11 ?_
    refine lv_icmp_ge (tgt := 52) hx hb dX9_goesHour_12 (by decide) (fun h3 => ?_) (fun h3 => ?_)
    · have hf := g_t h3 hf
      exact hk52 y2 m0 _ _ _ hf hM hS (lv_sub hl [0, 1, 2] rfl)
    · have hf := g_f h3 hf
      refine lv_aload_n hx hb dX9_goesHour_15 rfl (lv_at hl 0 rfl) ?_
      refine GX9_7 E hM hk0 dX9_goesHour_16 ?_
      refine lv_bipush (v := (30 : Int32)) hx hb dX9_goesHour_19 (by decide) ?_
      refine lv_iload_n hx hb dX9_goesHour_21 rfl (lv_at hl 2 rfl) ?_
      refine lv_iadd hx hb dX9_goesHour_22 ?_
      refine lv_aload_n hx hb dX9_goesHour_23 rfl (lv_at hl 0 rfl) ?_
      refine GX9_7 E hM hk0 dX9_goesHour_24 ?_
      refine lv_bipush (v := (30 : Int32)) hx hb dX9_goesHour_27 (by decide) ?_
      refine lv_iload_n hx hb dX9_goesHour_29 rfl (lv_at hl 2 rfl) ?_
      refine lv_iadd hx hb dX9_goesHour_30 ?_
      obtain ⟨hi4, hf⟩ := g_ck hf
      refine gg_iald E hM (gk_in hg1 (by decide)) hg1 hi4 dX9_goesHour_31 ?_
      refine lv_aload_n hx hb dX9_goesHour_32 rfl (lv_at hl 0 rfl) ?_
      refine lv_aload_n hx hb dX9_goesHour_33 rfl (lv_at hl 0 rfl) ?_
      refine GX9_7 E hM hk0 dX9_goesHour_34 ?_
      refine lv_iconst (v := (0 : Int32)) hx hb dX9_goesHour_37 (by decide) ?_
      obtain ⟨hi5, hf⟩ := g_ck hf
      refine gg_iald E hM (gk_in hg1 (by decide)) hg1 hi5 dX9_goesHour_38 ?_
      obtain ⟨r8, m6, hqq7, hf⟩ := g1_o hf
      refine ga_i (gr_V (As := [.int (m0 (c0 + 1) (0 : Int32).toNatClampNeg)]) (ci := 9) (rm := { frames := 0, cells := 0, slots := 0, locals := 0 }) E hml hl.1 (c_X9_humidAt l X c0 (m0 (c0 + 1) (0 : Int32).toNatClampNeg) m0 hk0 hqq7) wt_X9_humidAt wl_RX9_70 rfl hk0 (by decide) rfl rfl hM hS rfl rfl (Nat.le_trans (by decide) hRf) (Nat.le_trans (by decide) hRl) (Nat.le_trans hc hRc) (Nat.le_trans hs hRs) (Nat.le_of_ble_eq_true rfl) dX9_goesHour_39 rfl) hS (fun H locs hM hS => ?_)
      obtain ⟨r11, m9, hqq10, hf⟩ := g1_o hf
      refine ga_i (gr_S (As := [.int (m0 (c0 + 1) ((30 : Int32) + y2).toNatClampNeg), .int r8]) (rm := { frames := 0, cells := 0, slots := 0, locals := 0 }) E hml hl.1 (c_X9_damper l X (m0 (c0 + 1) ((30 : Int32) + y2).toNatClampNeg) r8 m6 hqq10) wt_X9_damper wl_RX9_143 rfl hM hS rfl rfl (Nat.le_trans (by decide) hRf) (Nat.le_trans (by decide) hRl) (Nat.le_trans hc hRc) (Nat.le_trans hs hRs) (Nat.le_of_ble_eq_true rfl) dX9_goesHour_42 rfl) hS (fun H locs hM hS => ?_)
      obtain ⟨m12, em12, hf⟩ := gv_o hf
      refine gg_iast E (fun c hc => gA_in X hc) hM hS (gk_in hg1 (by decide)) hg1 hi4 em12 dX9_goesHour_45 (fun H locs hM hS => ?_)
      obtain ⟨x13, ex13, hf⟩ := gv_o hf
      refine lv_iinc (v := x13) (lv' := [(2, .int x13), (0, .ref (X.1 + c0)), (1, .int u1)]) hx hb dX9_goesHour_46 hl (k := 2) rfl (by rw [ex13]; rfl) (by decide) rfl (fun ls hl => ?_)
      refine lv_goto (tgt := 4) hx hb dX9_goesHour_49 (by decide) ?_
      exact ih x13 m12 _ _ _ hf hM hS (lv_sub hl [1, 2, 0] rfl)
set_option maxRecDepth 100000 in
set_option maxHeartbeats 4000000 in
theorem l_X9_goesHour_54 {p : Program} {l : Launch} {e : Env} {R : Room} {s : State} {m : MethodId} {args : Array Value} {below : List Frame} {meth : Method} {c : Code} {cells slots : Nat} {X : gX} (E : gEn p s m args c cX9_goesHour RX9 X) (hr : meth.sig.returnType = (some .int)) (hlocks : meth.locks = false) (hml : c.maxLocals = 3) (hRf : 4 ≤ R.frames) (hRl : 93 ≤ R.locals) (hRc : 0 ≤ R.cells) (hRs : 0 ≤ R.slots) (hc : cells ≤ 0) (hs : slots ≤ 0) (c0 : Nat) (hk0 : gk c0 = 9) (k79 : Int32 → Int32 →  gMem → Option (Int32 × gMem)) {res : Int32 × gMem}
    (hk79 : ∀ (y1 : Int32) (y2 : Int32) (m0 : gMem) (H : Heap) (locs : List Loc) (ls : Array Slot), k79 y1 y2 m0 = some res → gM X m0 H → va_S (gA X) s.heap H locs → lv_has ls 3 [(0, .ref (X.1 + c0)), (1, .int y1), (2, .int y2)] → W p l e R s m args below meth c H locs cells slots (MQ below (gQi X res) args s 0 0 (gA X)) (F0 m 79 ls [])) :
    ∀ (n : Nat) (y1 : Int32) (y2 : Int32) (m0 : gMem) (H : Heap) (locs : List Loc) (ls : Array Slot), L_X9_goesHour_54 c0 k79 n y1 y2 m0 = some res → gM X m0 H → va_S (gA X) s.heap H locs → lv_has ls 3 [(0, .ref (X.1 + c0)), (1, .int y1), (2, .int y2)] → W p l e R s m args below meth c H locs cells slots (MQ below (gQi X res) args s 0 0 (gA X)) (F0 m 54 ls []) := by
  obtain ⟨hx, hb⟩ := (⟨E.1, E.2.1⟩ : _ ∧ _)
  intro n
  induction n with
  | zero =>
    intro _ _ _ _ _ _ hf
    cases hf
  | succ n ih =>
    intro y1 y2 m0 H locs ls hf hM hS hl
    rw [L_X9_goesHour_54] at hf
    refine lv_iload_n hx hb dX9_goesHour_54 rfl (lv_at hl 2 rfl) ?_
    refine lv_aload_n hx hb dX9_goesHour_55 rfl (lv_at hl 0 rfl) ?_
    refine GX9_7 E hM hk0 dX9_goesHour_56 ?_
    have hg16 : gk (c0 + 1) = 20 := gkf_9_0 hk0
    refine lv_bipush (v := (29 : Int32)) hx hb dX9_goesHour_59 (by decide) ?_
    obtain ⟨hi17, hf⟩ := g_ck hf
    refine gg_iald E hM (gk_in hg16 (by decide)) hg16 hi17 dX9_goesHour_61 ?_
    refine lv_icmp_ge (tgt := 79) hx hb dX9_goesHour_62 (by decide) (fun h18 => ?_) (fun h18 => ?_)
    · have hf := g_t h18 hf
      exact hk79 y1 y2 m0 _ _ _ hf hM hS (lv_sub hl [0, 1, 2] rfl)
    · have hf := g_f h18 hf
      refine lv_iload_n hx hb dX9_goesHour_65 rfl (lv_at hl 1 rfl) ?_
      refine lv_aload_n hx hb dX9_goesHour_66 rfl (lv_at hl 0 rfl) ?_
      refine lv_iload_n hx hb dX9_goesHour_67 rfl (lv_at hl 2 rfl) ?_
      obtain ⟨r21, m19, hqq20, hf⟩ := g1_o hf
      refine ga_i (gr_V (As := [.int y2]) (ci := 9) (rm := { frames := 3, cells := 0, slots := 0, locals := 70 }) E hml hl.1 (c_X9_breaks l X c0 y2 m0 hk0 hqq20) wt_X9_breaks wl_RX9_159 rfl hk0 (by decide) rfl rfl hM hS rfl rfl (Nat.le_trans (by decide) hRf) (Nat.le_trans (by decide) hRl) (Nat.le_trans hc hRc) (Nat.le_trans hs hRs) (Nat.le_of_ble_eq_true rfl) dX9_goesHour_68 rfl) hS (fun H locs hM hS => ?_)
      refine lv_iadd hx hb dX9_goesHour_71 ?_
      obtain ⟨x22, ex22, hf⟩ := gv_o hf
      rw [← ex22]
      refine lv_istore_n (lv' := [(1, .int x22), (0, .ref (X.1 + c0)), (2, .int y2)]) hx hb dX9_goesHour_72 rfl hl (by decide) rfl (fun ls hl => ?_)
      obtain ⟨x23, ex23, hf⟩ := gv_o hf
      refine lv_iinc (v := x23) (lv' := [(2, .int x23), (1, .int x22), (0, .ref (X.1 + c0))]) hx hb dX9_goesHour_73 hl (k := 2) rfl (by rw [ex23]; rfl) (by decide) rfl (fun ls hl => ?_)
      refine lv_goto (tgt := 54) hx hb dX9_goesHour_76 (by decide) ?_
      exact ih x22 x23 m19 _ _ _ hf hM hS (lv_sub hl [2, 1, 0] rfl)
set_option maxRecDepth 100000 in
set_option maxHeartbeats 4000000 in
theorem l_X9_goesHour_81 {p : Program} {l : Launch} {e : Env} {R : Room} {s : State} {m : MethodId} {args : Array Value} {below : List Frame} {meth : Method} {c : Code} {cells slots : Nat} {X : gX} (E : gEn p s m args c cX9_goesHour RX9 X) (hr : meth.sig.returnType = (some .int)) (hlocks : meth.locks = false) (hml : c.maxLocals = 3) (hRf : 4 ≤ R.frames) (hRl : 93 ≤ R.locals) (hRc : 0 ≤ R.cells) (hRs : 0 ≤ R.slots) (hc : cells ≤ 0) (hs : slots ≤ 0) (c0 : Nat) (u1 : Int32) (hk0 : gk c0 = 9) (k127 : Int32 →  gMem → Option (Int32 × gMem)) {res : Int32 × gMem}
    (hk127 : ∀ (y2 : Int32) (m0 : gMem) (H : Heap) (locs : List Loc) (ls : Array Slot), k127 y2 m0 = some res → gM X m0 H → va_S (gA X) s.heap H locs → lv_has ls 3 [(0, .ref (X.1 + c0)), (1, .int u1), (2, .int y2)] → W p l e R s m args below meth c H locs cells slots (MQ below (gQi X res) args s 0 0 (gA X)) (F0 m 127 ls [])) :
    ∀ (n : Nat) (y2 : Int32) (m0 : gMem) (H : Heap) (locs : List Loc) (ls : Array Slot), L_X9_goesHour_81 c0 u1 k127 n y2 m0 = some res → gM X m0 H → va_S (gA X) s.heap H locs → lv_has ls 3 [(0, .ref (X.1 + c0)), (1, .int u1), (2, .int y2)] → W p l e R s m args below meth c H locs cells slots (MQ below (gQi X res) args s 0 0 (gA X)) (F0 m 81 ls []) := by
  obtain ⟨hx, hb⟩ := (⟨E.1, E.2.1⟩ : _ ∧ _)
  intro n
  induction n with
  | zero =>
    intro _ _ _ _ _ hf
    cases hf
  | succ n ih =>
    intro y2 m0 H locs ls hf hM hS hl
    rw [L_X9_goesHour_81] at hf
    refine lv_iload_n hx hb dX9_goesHour_81 rfl (lv_at hl 2 rfl) ?_
    refine lv_aload_n hx hb dX9_goesHour_82 rfl (lv_at hl 0 rfl) ?_
    refine GX9_7 E hM hk0 dX9_goesHour_83 ?_
    have hg27 : gk (c0 + 1) = 20 := gkf_9_0 hk0
    refine lv_bipush (v := (48 : Int32)) hx hb dX9_goesHour_86 (by decide) ?_
    obtain ⟨hi28, hf⟩ := g_ck hf
    refine gg_iald E hM (gk_in hg27 (by decide)) hg27 hi28 dX9_goesHour_88 ?_
    refine lv_icmp_ge (tgt := 127) hx hb dX9_goesHour_89 (by decide) (fun h29 => ?_) (fun h29 => ?_)
    · have hf := g_t h29 hf
      exact hk127 y2 m0 _ _ _ hf hM hS (lv_sub hl [0, 1, 2] rfl)
    · have hf := g_f h29 hf
      refine lv_aload_n hx hb dX9_goesHour_92 rfl (lv_at hl 0 rfl) ?_
      refine GX9_7 E hM hk0 dX9_goesHour_93 ?_
      refine lv_bipush (v := (53 : Int32)) hx hb dX9_goesHour_96 (by decide) ?_
      refine lv_iload_n hx hb dX9_goesHour_98 rfl (lv_at hl 2 rfl) ?_
      refine lv_iadd hx hb dX9_goesHour_99 ?_
      refine lv_dup2_11 hx hb dX9_goesHour_100 rfl rfl ?_
      obtain ⟨hi30, hf⟩ := g_ck hf
      refine gg_iald E hM (gk_in hg27 (by decide)) hg27 hi30 dX9_goesHour_101 ?_
      refine lv_aload_n hx hb dX9_goesHour_102 rfl (lv_at hl 0 rfl) ?_
      refine GX9_7 E hM hk0 dX9_goesHour_103 ?_
      refine lv_bipush (v := (53 : Int32)) hx hb dX9_goesHour_106 (by decide) ?_
      refine lv_iload_n hx hb dX9_goesHour_108 rfl (lv_at hl 2 rfl) ?_
      refine lv_iadd hx hb dX9_goesHour_109 ?_
      refine gg_iald E hM (gk_in hg27 (by decide)) hg27 hi30 dX9_goesHour_110 ?_
      refine lv_if_le (tgt := 118) hx hb dX9_goesHour_111 (by decide) (fun h31 => ?_) (fun h31 => ?_)
      · have hf := g_t h31 hf
        refine lv_iconst (v := (0 : Int32)) hx hb dX9_goesHour_118 (by decide) ?_
        refine lv_isub hx hb dX9_goesHour_119 ?_
        obtain ⟨m32, em32, hf⟩ := gv_o hf
        refine gg_iast E (fun c hc => gA_in X hc) hM hS (gk_in hg27 (by decide)) hg27 hi30 em32 dX9_goesHour_120 (fun H locs hM hS => ?_)
        obtain ⟨x33, ex33, hf⟩ := gv_o hf
        refine lv_iinc (v := x33) (lv' := [(2, .int x33), (0, .ref (X.1 + c0)), (1, .int u1)]) hx hb dX9_goesHour_121 hl (k := 2) rfl (by rw [ex33]; rfl) (by decide) rfl (fun ls hl => ?_)
        refine lv_goto (tgt := 81) hx hb dX9_goesHour_124 (by decide) ?_
        exact ih x33 m32 _ _ _ hf hM hS (lv_sub hl [1, 2, 0] rfl)
      · have hf := g_f h31 hf
        refine lv_iconst (v := (1 : Int32)) hx hb dX9_goesHour_114 (by decide) ?_
        refine lv_goto (tgt := 119) hx hb dX9_goesHour_115 (by decide) ?_
        refine lv_isub hx hb dX9_goesHour_119 ?_
        obtain ⟨m34, em34, hf⟩ := gv_o hf
        refine gg_iast E (fun c hc => gA_in X hc) hM hS (gk_in hg27 (by decide)) hg27 hi30 em34 dX9_goesHour_120 (fun H locs hM hS => ?_)
        obtain ⟨x35, ex35, hf⟩ := gv_o hf
        refine lv_iinc (v := x35) (lv' := [(2, .int x35), (0, .ref (X.1 + c0)), (1, .int u1)]) hx hb dX9_goesHour_121 hl (k := 2) rfl (by rw [ex35]; rfl) (by decide) rfl (fun ls hl => ?_)
        refine lv_goto (tgt := 81) hx hb dX9_goesHour_124 (by decide) ?_
        exact ih x35 m34 _ _ _ hf hM hS (lv_sub hl [1, 2, 0] rfl)
set_option maxRecDepth 100000 in
set_option maxHeartbeats 4000000 in
theorem l_X9_goesHour_139 {p : Program} {l : Launch} {e : Env} {R : Room} {s : State} {m : MethodId} {args : Array Value} {below : List Frame} {meth : Method} {c : Code} {cells slots : Nat} {X : gX} (E : gEn p s m args c cX9_goesHour RX9 X) (hr : meth.sig.returnType = (some .int)) (hlocks : meth.locks = false) (hml : c.maxLocals = 3) (hRf : 4 ≤ R.frames) (hRl : 93 ≤ R.locals) (hRc : 0 ≤ R.cells) (hRs : 0 ≤ R.slots) (hc : cells ≤ 0) (hs : slots ≤ 0) (c0 : Nat) (u1 : Int32) (hk0 : gk c0 = 9) {res : Int32 × gMem} :
    ∀ (n : Nat) (y2 : Int32) (m0 : gMem) (H : Heap) (locs : List Loc) (ls : Array Slot), L_X9_goesHour_139 c0 u1 n y2 m0 = some res → gM X m0 H → va_S (gA X) s.heap H locs → lv_has ls 3 [(0, .ref (X.1 + c0)), (1, .int u1), (2, .int y2)] → W p l e R s m args below meth c H locs cells slots (MQ below (gQi X res) args s 0 0 (gA X)) (F0 m 139 ls []) := by
  obtain ⟨hx, hb⟩ := (⟨E.1, E.2.1⟩ : _ ∧ _)
  intro n
  induction n with
  | zero =>
    intro _ _ _ _ _ hf
    cases hf
  | succ n ih =>
    intro y2 m0 H locs ls hf hM hS hl
    rw [L_X9_goesHour_139] at hf
    refine lv_iload_n hx hb dX9_goesHour_139 rfl (lv_at hl 2 rfl) ?_
    refine lv_aload_n hx hb dX9_goesHour_140 rfl (lv_at hl 0 rfl) ?_
    refine GX9_7 E hM hk0 dX9_goesHour_141 ?_
    have hg41 : gk (c0 + 1) = 20 := gkf_9_0 hk0
    refine lv_bipush (v := (61 : Int32)) hx hb dX9_goesHour_144 (by decide) ?_
    obtain ⟨hi42, hf⟩ := g_ck hf
    refine gg_iald E hM (gk_in hg41 (by decide)) hg41 hi42 dX9_goesHour_146 ?_
    refine lv_icmp_ge (tgt := 182) hx hb dX9_goesHour_147 (by decide) (fun h43 => ?_) (fun h43 => ?_)
    · have hf := g_t h43 hf
      refine lv_iload_n hx hb dX9_goesHour_182 rfl (lv_at hl 1 rfl) ?_
      exact ge_i E hr hlocks hf hM hS hc hs dX9_goesHour_183
    · have hf := g_f h43 hf
      refine lv_aload_n hx hb dX9_goesHour_150 rfl (lv_at hl 0 rfl) ?_
      refine GX9_7 E hM hk0 dX9_goesHour_151 ?_
      refine lv_bipush (v := (68 : Int32)) hx hb dX9_goesHour_154 (by decide) ?_
      refine lv_iload_n hx hb dX9_goesHour_156 rfl (lv_at hl 2 rfl) ?_
      refine lv_iadd hx hb dX9_goesHour_157 ?_
      obtain ⟨hi44, hf⟩ := g_ck hf
      refine gg_iald E hM (gk_in hg41 (by decide)) hg41 hi44 dX9_goesHour_158 ?_
      refine lv_aload_n hx hb dX9_goesHour_159 rfl (lv_at hl 0 rfl) ?_
      refine GX9_7 E hM hk0 dX9_goesHour_160 ?_
      refine lv_iconst (v := (0 : Int32)) hx hb dX9_goesHour_163 (by decide) ?_
      obtain ⟨hi45, hf⟩ := g_ck hf
      refine gg_iald E hM (gk_in hg41 (by decide)) hg41 hi45 dX9_goesHour_164 ?_
      refine lv_icmp_ne (tgt := 176) hx hb dX9_goesHour_165 (by decide) (fun h46 => ?_) (fun h46 => ?_)
      · have hf := g_f h46 hf
        obtain ⟨x47, ex47, hf⟩ := gv_o hf
        refine lv_iinc (v := x47) (lv' := [(2, .int x47), (0, .ref (X.1 + c0)), (1, .int u1)]) hx hb dX9_goesHour_176 hl (k := 2) rfl (by rw [ex47]; rfl) (by decide) rfl (fun ls hl => ?_)
        refine lv_goto (tgt := 139) hx hb dX9_goesHour_179 (by decide) ?_
        exact ih x47 m0 _ _ _ hf hM hS (lv_sub hl [1, 2, 0] rfl)
      · have hf := g_t h46 hf
        refine lv_aload_n hx hb dX9_goesHour_168 rfl (lv_at hl 0 rfl) ?_
        refine lv_iload_n hx hb dX9_goesHour_169 rfl (lv_at hl 2 rfl) ?_
        obtain ⟨r50, m48, hqq49, hf⟩ := g1_o hf
        refine ga_v (gr_V (As := [.int y2]) (ci := 9) (rm := { frames := 2, cells := 0, slots := 0, locals := 45 }) E hml hl.1 (c_X9_holds l X c0 y2 m0 hk0 hqq49) wt_X9_holds wl_RX9_162 rfl hk0 (by decide) rfl rfl hM hS rfl rfl (Nat.le_trans (by decide) hRf) (Nat.le_trans (by decide) hRl) (Nat.le_trans hc hRc) (Nat.le_trans hs hRs) (Nat.le_of_ble_eq_true rfl) dX9_goesHour_170 rfl) hS (fun H locs hM hS => ?_)
        refine lv_goto (tgt := 139) hx hb dX9_goesHour_173 (by decide) ?_
        exact ih y2 m48 _ _ _ hf hM hS (lv_sub hl [0, 1, 2] rfl)
set_option maxRecDepth 100000 in
set_option maxHeartbeats 4000000 in
theorem b_X9_goesHour {p : Program} {l : Launch} {e : Env} {R : Room} {s : State} {m : MethodId} {args : Array Value} {below : List Frame} {meth : Method} {c : Code} {H : Heap} {locs : List Loc} {ls : Array Slot} {X : gX} (E : gEn p s m args c cX9_goesHour RX9 X) (hr : meth.sig.returnType = (some .int)) (hlocks : meth.locks = false) (hml : c.maxLocals = 3) (hRf : 4 ≤ R.frames) (hRl : 93 ≤ R.locals) (hRc : 0 ≤ R.cells) (hRs : 0 ≤ R.slots) {c0 : Nat} {m0 : gMem} {res : Int32 × gMem} (hk0 : gk c0 = 9) (hf : f_X9_goesHour c0 m0 = some res) (hM : gM X m0 H) (hS : va_S (gA X) s.heap H locs) (hl : lv_has ls 3 [(0, .ref (X.1 + c0))]) : W p l e R s m args below meth c H locs 0 0 (MQ below (gQi X res) args s 0 0 (gA X)) (F0 m 0 ls []) := by
  obtain ⟨hx, hb⟩ := (⟨E.1, E.2.1⟩ : _ ∧ _)
  unfold f_X9_goesHour at hf
  refine lv_iconst (v := (0 : Int32)) hx hb dX9_goesHour_0 (by decide) ?_
  refine lv_istore_n (lv' := [(1, .int (0 : Int32)), (0, .ref (X.1 + c0))]) hx hb dX9_goesHour_1 rfl hl (by decide) rfl (fun ls hl => ?_)
  refine lv_iconst (v := (0 : Int32)) hx hb dX9_goesHour_2 (by decide) ?_
  refine lv_istore_n (lv' := [(2, .int (0 : Int32)), (1, .int (0 : Int32)), (0, .ref (X.1 + c0))]) hx hb dX9_goesHour_3 rfl hl (by decide) rfl (fun ls hl => ?_)
  refine l_X9_goesHour_4 E hr hlocks hml hRf hRl hRc hRs (Nat.le_of_ble_eq_true rfl) (Nat.le_of_ble_eq_true rfl) c0 (0 : Int32) hk0 _ (fun y14 m15 H locs ls hf hM hS hl => ?_) gF (0 : Int32) m0 _ _ _ hf hM hS (lv_sub hl [2, 1, 0] rfl)
  refine lv_iconst (v := (0 : Int32)) hx hb dX9_goesHour_52 (by decide) ?_
  refine lv_istore_n (lv' := [(2, .int (0 : Int32)), (0, .ref (X.1 + c0)), (1, .int (0 : Int32))]) hx hb dX9_goesHour_53 rfl hl (by decide) rfl (fun ls hl => ?_)
  refine l_X9_goesHour_54 E hr hlocks hml hRf hRl hRc hRs (Nat.le_of_ble_eq_true rfl) (Nat.le_of_ble_eq_true rfl) c0 hk0 _ (fun y24 y25 m26 H locs ls hf hM hS hl => ?_) gF (0 : Int32) (0 : Int32) m15 _ _ _ hf hM hS (lv_sub hl [1, 2, 0] rfl)
  refine lv_iconst (v := (0 : Int32)) hx hb dX9_goesHour_79 (by decide) ?_
  refine lv_istore_n (lv' := [(2, .int (0 : Int32)), (0, .ref (X.1 + c0)), (1, .int y24)]) hx hb dX9_goesHour_80 rfl hl (by decide) rfl (fun ls hl => ?_)
  refine l_X9_goesHour_81 E hr hlocks hml hRf hRl hRc hRs (Nat.le_of_ble_eq_true rfl) (Nat.le_of_ble_eq_true rfl) c0 y24 hk0 _ (fun y36 m37 H locs ls hf hM hS hl => ?_) gF (0 : Int32) m26 _ _ _ hf hM hS (lv_sub hl [1, 2, 0] rfl)
  refine lv_aload_n hx hb dX9_goesHour_127 rfl (lv_at hl 0 rfl) ?_
  refine GX9_7 E hM hk0 dX9_goesHour_128 ?_
  have hg38 : gk (c0 + 1) = 20 := gkf_9_0 hk0
  refine lv_iconst (v := (0 : Int32)) hx hb dX9_goesHour_131 (by decide) ?_
  refine lv_dup2_11 hx hb dX9_goesHour_132 rfl rfl ?_
  obtain ⟨hi39, hf⟩ := g_ck hf
  refine gg_iald E hM (gk_in hg38 (by decide)) hg38 hi39 dX9_goesHour_133 ?_
  refine lv_iconst (v := (1 : Int32)) hx hb dX9_goesHour_134 (by decide) ?_
  refine lv_iadd hx hb dX9_goesHour_135 ?_
  obtain ⟨m40, em40, hf⟩ := gv_o hf
  refine gg_iast E (fun c hc => gA_in X hc) hM hS (gk_in hg38 (by decide)) hg38 hi39 em40 dX9_goesHour_136 (fun H locs hM hS => ?_)
  refine lv_iconst (v := (0 : Int32)) hx hb dX9_goesHour_137 (by decide) ?_
  refine lv_istore_n (lv' := [(2, .int (0 : Int32)), (0, .ref (X.1 + c0)), (1, .int y24)]) hx hb dX9_goesHour_138 rfl hl (by decide) rfl (fun ls hl => ?_)
  refine l_X9_goesHour_139 E hr hlocks hml hRf hRl hRc hRs (Nat.le_of_ble_eq_true rfl) (Nat.le_of_ble_eq_true rfl) c0 y24 hk0 gF (0 : Int32) m40 _ _ _ hf hM hS (lv_sub hl [1, 2, 0] rfl)
theorem c_X9_goesHour (l : Launch) (X : gX) (c0 : Nat) (m0 : gMem) {res : Int32 × gMem} (hk0 : gk c0 = 9) (hf : f_X9_goesHour c0 m0 = some res) : Met l yX9_goesHour (gWs yX9_goesHour cX9_goesHour 3 (some .int)) { frames := 4, cells := 0, slots := 0, locals := 93 } (va_Pc [.ref (X.1 + c0)] (gB X m0)) (gQi X res) 0 0 (gA X) :=
  gMet (own := RX9) (by decide +kernel) rfl (Nat.le_of_ble_eq_true rfl) (fun p e s m args below meth c ls E hr hlocks hml hM hl => b_X9_goesHour E hr hlocks hml (Nat.le_refl _) (Nat.le_refl _) (Nat.le_refl _) (Nat.le_refl _) hk0 hf hM va_S.rf hl)
def L_X9_passes_20 (c0 : Nat) (u1 : Int32) : Nat → Int32 → Int32 → gMem → Option (Int32 × gMem)
  | 0, _, _, _ => none
  | n + 1, y2, y3, m0 => if u1 ≤ y3 then (g1 (f_X9_done c0 y2 m0) (fun r8 m6 => some (r8, m6))) else (g1 (f_X9_goesHour c0 m0) (fun r11 m9 => gv ((y2 + r11)) (fun x12 => gv (y3 + (1 : Int32)) (fun x13 => L_X9_passes_20 c0 u1 n x12 x13 m9))))
def f_X9_passes (c0 : Nat) (u1 : Int32) (m0 : gMem) : Option (Int32 × gMem) := g1 (f_X9_in u1 (1 : Int32) (72 : Int32) m0) (fun r3 m1 => if r3 = (0 : Int32) then (g1 (f_X9_fails c0 (1 : Int32) m1) (fun r16 m14 => some (r16, m14))) else (L_X9_passes_20 c0 u1 gF (0 : Int32) (0 : Int32) m1))
set_option maxRecDepth 100000 in
set_option maxHeartbeats 4000000 in
theorem l_X9_passes_20 {p : Program} {l : Launch} {e : Env} {R : Room} {s : State} {m : MethodId} {args : Array Value} {below : List Frame} {meth : Method} {c : Code} {cells slots : Nat} {X : gX} (E : gEn p s m args c cX9_passes RX9 X) (hr : meth.sig.returnType = (some .int)) (hlocks : meth.locks = false) (hml : c.maxLocals = 4) (hRf : 5 ≤ R.frames) (hRl : 115 ≤ R.locals) (hRc : 0 ≤ R.cells) (hRs : 0 ≤ R.slots) (hc : cells ≤ 0) (hs : slots ≤ 0) (c0 : Nat) (u1 : Int32) (hk0 : gk c0 = 9) {res : Int32 × gMem} :
    ∀ (n : Nat) (y2 : Int32) (y3 : Int32) (m0 : gMem) (H : Heap) (locs : List Loc) (ls : Array Slot), L_X9_passes_20 c0 u1 n y2 y3 m0 = some res → gM X m0 H → va_S (gA X) s.heap H locs → lv_has ls 4 [(0, .ref (X.1 + c0)), (1, .int u1), (2, .int y2), (3, .int y3)] → W p l e R s m args below meth c H locs cells slots (MQ below (gQi X res) args s 0 0 (gA X)) (F0 m 20 ls []) := by
  obtain ⟨hx, hb⟩ := (⟨E.1, E.2.1⟩ : _ ∧ _)
  intro n
  induction n with
  | zero =>
    intro _ _ _ _ _ _ hf
    cases hf
  | succ n ih =>
    intro y2 y3 m0 H locs ls hf hM hS hl
    rw [L_X9_passes_20] at hf
    refine lv_iload_n hx hb dX9_passes_20 rfl (lv_at hl 3 rfl) ?_
    refine lv_iload_n hx hb dX9_passes_21 rfl (lv_at hl 1 rfl) ?_
    refine lv_icmp_ge (tgt := 38) hx hb dX9_passes_22 (by decide) (fun h5 => ?_) (fun h5 => ?_)
    · have hf := g_t h5 hf
      refine lv_aload_n hx hb dX9_passes_38 rfl (lv_at hl 0 rfl) ?_
      refine lv_iload_n hx hb dX9_passes_39 rfl (lv_at hl 2 rfl) ?_
      obtain ⟨r8, m6, hqq7, hf⟩ := g1_o hf
      refine ga_i (gr_V (As := [.int y2]) (ci := 9) (rm := { frames := 0, cells := 0, slots := 0, locals := 0 }) E hml hl.1 (c_X9_done l X c0 y2 m0 hk0 hqq7) wt_X9_done wl_RX9_64 rfl hk0 (by decide) rfl rfl hM hS rfl rfl (Nat.le_trans (by decide) hRf) (Nat.le_trans (by decide) hRl) (Nat.le_trans hc hRc) (Nat.le_trans hs hRs) (Nat.le_of_ble_eq_true rfl) dX9_passes_40 rfl) hS (fun H locs hM hS => ?_)
      exact ge_i E hr hlocks hf hM hS hc hs dX9_passes_43
    · have hf := g_f h5 hf
      refine lv_iload_n hx hb dX9_passes_25 rfl (lv_at hl 2 rfl) ?_
      refine lv_aload_n hx hb dX9_passes_26 rfl (lv_at hl 0 rfl) ?_
      obtain ⟨r11, m9, hqq10, hf⟩ := g1_o hf
      refine ga_i (gr_V (As := []) (ci := 9) (rm := { frames := 4, cells := 0, slots := 0, locals := 93 }) E hml hl.1 (c_X9_goesHour l X c0 m0 hk0 hqq10) wt_X9_goesHour wl_RX9_165 rfl hk0 (by decide) rfl rfl hM hS rfl rfl (Nat.le_trans (by decide) hRf) (Nat.le_trans (by decide) hRl) (Nat.le_trans hc hRc) (Nat.le_trans hs hRs) (Nat.le_of_ble_eq_true rfl) dX9_passes_27 rfl) hS (fun H locs hM hS => ?_)
      refine lv_iadd hx hb dX9_passes_30 ?_
      obtain ⟨x12, ex12, hf⟩ := gv_o hf
      rw [← ex12]
      refine lv_istore_n (lv' := [(2, .int x12), (0, .ref (X.1 + c0)), (1, .int u1), (3, .int y3)]) hx hb dX9_passes_31 rfl hl (by decide) rfl (fun ls hl => ?_)
      obtain ⟨x13, ex13, hf⟩ := gv_o hf
      refine lv_iinc (v := x13) (lv' := [(3, .int x13), (2, .int x12), (0, .ref (X.1 + c0)), (1, .int u1)]) hx hb dX9_passes_32 hl (k := 3) rfl (by rw [ex13]; rfl) (by decide) rfl (fun ls hl => ?_)
      refine lv_goto (tgt := 20) hx hb dX9_passes_35 (by decide) ?_
      exact ih x12 x13 m9 _ _ _ hf hM hS (lv_sub hl [2, 3, 1, 0] rfl)
set_option maxRecDepth 100000 in
set_option maxHeartbeats 4000000 in
theorem b_X9_passes {p : Program} {l : Launch} {e : Env} {R : Room} {s : State} {m : MethodId} {args : Array Value} {below : List Frame} {meth : Method} {c : Code} {H : Heap} {locs : List Loc} {ls : Array Slot} {X : gX} (E : gEn p s m args c cX9_passes RX9 X) (hr : meth.sig.returnType = (some .int)) (hlocks : meth.locks = false) (hml : c.maxLocals = 4) (hRf : 5 ≤ R.frames) (hRl : 115 ≤ R.locals) (hRc : 0 ≤ R.cells) (hRs : 0 ≤ R.slots) {c0 : Nat} {u1 : Int32} {m0 : gMem} {res : Int32 × gMem} (hk0 : gk c0 = 9) (hf : f_X9_passes c0 u1 m0 = some res) (hM : gM X m0 H) (hS : va_S (gA X) s.heap H locs) (hl : lv_has ls 4 [(0, .ref (X.1 + c0)), (1, .int u1)]) : W p l e R s m args below meth c H locs 0 0 (MQ below (gQi X res) args s 0 0 (gA X)) (F0 m 0 ls []) := by
  obtain ⟨hx, hb⟩ := (⟨E.1, E.2.1⟩ : _ ∧ _)
  unfold f_X9_passes at hf
  refine lv_iload_n hx hb dX9_passes_0 rfl (lv_at hl 1 rfl) ?_
  refine lv_iconst (v := (1 : Int32)) hx hb dX9_passes_1 (by decide) ?_
  refine lv_bipush (v := (72 : Int32)) hx hb dX9_passes_2 (by decide) ?_
  obtain ⟨r3, m1, hqq2, hf⟩ := g1_o hf
  refine ga_i (gr_S (As := [.int u1, .int (1 : Int32), .int (72 : Int32)]) (rm := { frames := 0, cells := 0, slots := 0, locals := 0 }) E hml hl.1 (c_X9_in l X u1 (1 : Int32) (72 : Int32) m0 hqq2) wt_X9_in wl_RX9_53 rfl hM hS rfl rfl (Nat.le_trans (by decide) hRf) (Nat.le_trans (by decide) hRl) (Nat.le_trans (Nat.le_of_ble_eq_true rfl) hRc) (Nat.le_trans (Nat.le_of_ble_eq_true rfl) hRs) (Nat.le_of_ble_eq_true rfl) dX9_passes_4 rfl) hS (fun H locs hM hS => ?_)
  refine lv_if_ne (tgt := 16) hx hb dX9_passes_7 (by decide) (fun h4 => ?_) (fun h4 => ?_)
  · have hf := g_f h4 hf
    refine lv_iconst (v := (0 : Int32)) hx hb dX9_passes_16 (by decide) ?_
    refine lv_istore_n (lv' := [(2, .int (0 : Int32)), (0, .ref (X.1 + c0)), (1, .int u1)]) hx hb dX9_passes_17 rfl hl (by decide) rfl (fun ls hl => ?_)
    refine lv_iconst (v := (0 : Int32)) hx hb dX9_passes_18 (by decide) ?_
    refine lv_istore_n (lv' := [(3, .int (0 : Int32)), (2, .int (0 : Int32)), (0, .ref (X.1 + c0)), (1, .int u1)]) hx hb dX9_passes_19 rfl hl (by decide) rfl (fun ls hl => ?_)
    refine l_X9_passes_20 E hr hlocks hml hRf hRl hRc hRs (Nat.le_of_ble_eq_true rfl) (Nat.le_of_ble_eq_true rfl) c0 u1 hk0 gF (0 : Int32) (0 : Int32) m1 _ _ _ hf hM hS (lv_sub hl [2, 3, 1, 0] rfl)
  · have hf := g_t h4 hf
    refine lv_aload_n hx hb dX9_passes_10 rfl (lv_at hl 0 rfl) ?_
    refine lv_iconst (v := (1 : Int32)) hx hb dX9_passes_11 (by decide) ?_
    obtain ⟨r16, m14, hqq15, hf⟩ := g1_o hf
    refine ga_i (gr_V (As := [.int (1 : Int32)]) (ci := 9) (rm := { frames := 0, cells := 0, slots := 0, locals := 0 }) E hml hl.1 (c_X9_fails l X c0 (1 : Int32) m1 hk0 hqq15) wt_X9_fails wl_RX9_57 rfl hk0 (by decide) rfl rfl hM hS rfl rfl (Nat.le_trans (by decide) hRf) (Nat.le_trans (by decide) hRl) (Nat.le_trans (Nat.le_of_ble_eq_true rfl) hRc) (Nat.le_trans (Nat.le_of_ble_eq_true rfl) hRs) (Nat.le_of_ble_eq_true rfl) dX9_passes_12 rfl) hS (fun H locs hM hS => ?_)
    exact ge_i E hr hlocks hf hM hS (Nat.le_of_ble_eq_true rfl) (Nat.le_of_ble_eq_true rfl) dX9_passes_15
theorem c_X9_passes (l : Launch) (X : gX) (c0 : Nat) (u1 : Int32) (m0 : gMem) {res : Int32 × gMem} (hk0 : gk c0 = 9) (hf : f_X9_passes c0 u1 m0 = some res) : Met l yX9_passes (gWs yX9_passes cX9_passes 4 (some .int)) { frames := 5, cells := 0, slots := 0, locals := 115 } (va_Pc [.ref (X.1 + c0), .int u1] (gB X m0)) (gQi X res) 0 0 (gA X) :=
  gMet (own := RX9) (by decide +kernel) rfl (Nat.le_of_ble_eq_true rfl) (fun p e s m args below meth c ls E hr hlocks hml hM hl => b_X9_passes E hr hlocks hml (Nat.le_refl _) (Nat.le_refl _) (Nat.le_refl _) (Nat.le_refl _) hk0 hf hM va_S.rf hl)
def f_X9_pass (c0 : Nat) (u1 : Int32) (m0 : gMem) : Option (Int32 × gMem) := g1 (f_X9_looksBack c0 m0) (fun r3 m1 => g1 (f_X9_passes c0 u1 m1) (fun r6 m4 => g1 (f_X9_kept c0 r6 m4) (fun r9 m7 => some (r9, m7))))
set_option maxRecDepth 100000 in
set_option maxHeartbeats 4000000 in
theorem b_X9_pass {p : Program} {l : Launch} {e : Env} {R : Room} {s : State} {m : MethodId} {args : Array Value} {below : List Frame} {meth : Method} {c : Code} {H : Heap} {locs : List Loc} {ls : Array Slot} {X : gX} (E : gEn p s m args c cX9_pass RX9 X) (hr : meth.sig.returnType = (some .int)) (hlocks : meth.locks = false) (hml : c.maxLocals = 2) (hRf : 6 ≤ R.frames) (hRl : 138 ≤ R.locals) (hRc : 0 ≤ R.cells) (hRs : 0 ≤ R.slots) {c0 : Nat} {u1 : Int32} {m0 : gMem} {res : Int32 × gMem} (hk0 : gk c0 = 9) (hf : f_X9_pass c0 u1 m0 = some res) (hM : gM X m0 H) (hS : va_S (gA X) s.heap H locs) (hl : lv_has ls 2 [(0, .ref (X.1 + c0)), (1, .int u1)]) : W p l e R s m args below meth c H locs 0 0 (MQ below (gQi X res) args s 0 0 (gA X)) (F0 m 0 ls []) := by
  obtain ⟨hx, hb⟩ := (⟨E.1, E.2.1⟩ : _ ∧ _)
  unfold f_X9_pass at hf
  refine lv_aload_n hx hb dX9_pass_0 rfl (lv_at hl 0 rfl) ?_
  obtain ⟨r3, m1, hqq2, hf⟩ := g1_o hf
  refine ga_v (gr_V (As := []) (ci := 9) (rm := { frames := 1, cells := 0, slots := 0, locals := 24 }) E hml hl.1 (c_X9_looksBack l X c0 m0 hk0 hqq2) wt_X9_looksBack wl_RX9_61 rfl hk0 (by decide) rfl rfl hM hS rfl rfl (Nat.le_trans (by decide) hRf) (Nat.le_trans (by decide) hRl) (Nat.le_trans (Nat.le_of_ble_eq_true rfl) hRc) (Nat.le_trans (Nat.le_of_ble_eq_true rfl) hRs) (Nat.le_of_ble_eq_true rfl) dX9_pass_1 rfl) hS (fun H locs hM hS => ?_)
  refine lv_aload_n hx hb dX9_pass_4 rfl (lv_at hl 0 rfl) ?_
  refine lv_aload_n hx hb dX9_pass_5 rfl (lv_at hl 0 rfl) ?_
  refine lv_iload_n hx hb dX9_pass_6 rfl (lv_at hl 1 rfl) ?_
  obtain ⟨r6, m4, hqq5, hf⟩ := g1_o hf
  refine ga_i (gr_V (As := [.int u1]) (ci := 9) (rm := { frames := 5, cells := 0, slots := 0, locals := 115 }) E hml hl.1 (c_X9_passes l X c0 u1 m1 hk0 hqq5) wt_X9_passes wl_RX9_169 rfl hk0 (by decide) rfl rfl hM hS rfl rfl (Nat.le_trans (by decide) hRf) (Nat.le_trans (by decide) hRl) (Nat.le_trans (Nat.le_of_ble_eq_true rfl) hRc) (Nat.le_trans (Nat.le_of_ble_eq_true rfl) hRs) (Nat.le_of_ble_eq_true rfl) dX9_pass_7 rfl) hS (fun H locs hM hS => ?_)
  obtain ⟨r9, m7, hqq8, hf⟩ := g1_o hf
  refine ga_i (gr_V (As := [.int r6]) (ci := 9) (rm := { frames := 1, cells := 0, slots := 0, locals := 24 }) E hml hl.1 (c_X9_kept l X c0 r6 m4 hk0 hqq8) wt_X9_kept wl_RX9_67 rfl hk0 (by decide) rfl rfl hM hS rfl rfl (Nat.le_trans (by decide) hRf) (Nat.le_trans (by decide) hRl) (Nat.le_trans (Nat.le_of_ble_eq_true rfl) hRc) (Nat.le_trans (Nat.le_of_ble_eq_true rfl) hRs) (Nat.le_of_ble_eq_true rfl) dX9_pass_10 rfl) hS (fun H locs hM hS => ?_)
  exact ge_i E hr hlocks hf hM hS (Nat.le_of_ble_eq_true rfl) (Nat.le_of_ble_eq_true rfl) dX9_pass_13
theorem c_X9_pass (l : Launch) (X : gX) (c0 : Nat) (u1 : Int32) (m0 : gMem) {res : Int32 × gMem} (hk0 : gk c0 = 9) (hf : f_X9_pass c0 u1 m0 = some res) : Met l yX9_pass (gWs yX9_pass cX9_pass 2 (some .int)) { frames := 6, cells := 0, slots := 0, locals := 138 } (va_Pc [.ref (X.1 + c0), .int u1] (gB X m0)) (gQi X res) 0 0 (gA X) :=
  gMet (own := RX9) (by decide +kernel) rfl (Nat.le_of_ble_eq_true rfl) (fun p e s m args below meth c ls E hr hlocks hml hM hl => b_X9_pass E hr hlocks hml (Nat.le_refl _) (Nat.le_refl _) (Nat.le_refl _) (Nat.le_refl _) hk0 hf hM va_S.rf hl)
def f_X9_append (c0 : Nat) (u1 : Int32) (m0 : gMem) : Option (Int32 × gMem) := if (m0 c0 7) = (60 : Int32) then (g1 (f_X9_fails c0 (1 : Int32) m0) (fun r11 m9 => some (r11, m9))) else (if ¬ ((m0 c0 7) < 0 ∨ gl (c0 + 5) ≤ (m0 c0 7).toNatClampNeg) then gv (ms m0 (c0 + 5) (m0 c0 7).toNatClampNeg (vp_nar .char u1)) (fun m4 => gv (ms m4 c0 7 ((m4 c0 7) + (1 : Int32))) (fun m5 => g1 (f_X9_done c0 (m5 c0 7) m5) (fun r8 m6 => some (r8, m6)))) else none)
set_option maxRecDepth 100000 in
set_option maxHeartbeats 4000000 in
theorem b_X9_append {p : Program} {l : Launch} {e : Env} {R : Room} {s : State} {m : MethodId} {args : Array Value} {below : List Frame} {meth : Method} {c : Code} {H : Heap} {locs : List Loc} {ls : Array Slot} {X : gX} (E : gEn p s m args c cX9_append RX9 X) (hr : meth.sig.returnType = (some .int)) (hlocks : meth.locks = false) (hml : c.maxLocals = 2) (hRf : 1 ≤ R.frames) (hRl : 21 ≤ R.locals) (hRc : 0 ≤ R.cells) (hRs : 0 ≤ R.slots) {c0 : Nat} {u1 : Int32} {m0 : gMem} {res : Int32 × gMem} (hk0 : gk c0 = 9) (hf : f_X9_append c0 u1 m0 = some res) (hM : gM X m0 H) (hS : va_S (gA X) s.heap H locs) (hl : lv_has ls 2 [(0, .ref (X.1 + c0)), (1, .int u1)]) : W p l e R s m args below meth c H locs 0 0 (MQ below (gQi X res) args s 0 0 (gA X)) (F0 m 0 ls []) := by
  obtain ⟨hx, hb⟩ := (⟨E.1, E.2.1⟩ : _ ∧ _)
  unfold f_X9_append at hf
  refine lv_aload_n hx hb dX9_append_0 rfl (lv_at hl 0 rfl) ?_
  refine GX9_172 E hM hk0 dX9_append_1 ?_
  refine lv_bipush (v := (60 : Int32)) hx hb dX9_append_4 (by decide) ?_
  refine lv_icmp_ne (tgt := 15) hx hb dX9_append_6 (by decide) (fun h1 => ?_) (fun h1 => ?_)
  · have hf := g_f h1 hf
    refine lv_aload_n hx hb dX9_append_15 rfl (lv_at hl 0 rfl) ?_
    refine GX9_22 E hM hk0 dX9_append_16 ?_
    have hg2 : gk (c0 + 5) = 21 := gkf_9_6 hk0
    refine lv_aload_n hx hb dX9_append_19 rfl (lv_at hl 0 rfl) ?_
    refine GX9_172 E hM hk0 dX9_append_20 ?_
    refine lv_iload_n hx hb dX9_append_23 rfl (lv_at hl 1 rfl) ?_
    obtain ⟨hi3, hf⟩ := g_ck hf
    obtain ⟨m4, em4, hf⟩ := gv_o hf
    refine gg_cast E (fun c hc => gA_in X hc) hM hS (gk_in hg2 (by decide)) hg2 hi3 em4 dX9_append_24 (fun H locs hM hS => ?_)
    refine lv_aload_n hx hb dX9_append_25 rfl (lv_at hl 0 rfl) ?_
    refine lv_dup hx hb dX9_append_26 rfl ?_
    refine GX9_172 E hM hk0 dX9_append_27 ?_
    refine lv_iconst (v := (1 : Int32)) hx hb dX9_append_30 (by decide) ?_
    refine lv_iadd hx hb dX9_append_31 ?_
    obtain ⟨m5, em5, hf⟩ := gv_o hf
    refine PX9_172 E hM hS hk0 em5 dX9_append_32 (fun H locs hM hS => ?_)
    refine lv_aload_n hx hb dX9_append_35 rfl (lv_at hl 0 rfl) ?_
    refine lv_aload_n hx hb dX9_append_36 rfl (lv_at hl 0 rfl) ?_
    refine GX9_172 E hM hk0 dX9_append_37 ?_
    obtain ⟨r8, m6, hqq7, hf⟩ := g1_o hf
    refine ga_i (gr_V (As := [.int (m5 c0 7)]) (ci := 9) (rm := { frames := 0, cells := 0, slots := 0, locals := 0 }) E hml hl.1 (c_X9_done l X c0 (m5 c0 7) m5 hk0 hqq7) wt_X9_done wl_RX9_64 rfl hk0 (by decide) rfl rfl hM hS rfl rfl (Nat.le_trans (by decide) hRf) (Nat.le_trans (by decide) hRl) (Nat.le_trans (Nat.le_of_ble_eq_true rfl) hRc) (Nat.le_trans (Nat.le_of_ble_eq_true rfl) hRs) (Nat.le_of_ble_eq_true rfl) dX9_append_40 rfl) hS (fun H locs hM hS => ?_)
    exact ge_i E hr hlocks hf hM hS (Nat.le_of_ble_eq_true rfl) (Nat.le_of_ble_eq_true rfl) dX9_append_43
  · have hf := g_t h1 hf
    refine lv_aload_n hx hb dX9_append_9 rfl (lv_at hl 0 rfl) ?_
    refine lv_iconst (v := (1 : Int32)) hx hb dX9_append_10 (by decide) ?_
    obtain ⟨r11, m9, hqq10, hf⟩ := g1_o hf
    refine ga_i (gr_V (As := [.int (1 : Int32)]) (ci := 9) (rm := { frames := 0, cells := 0, slots := 0, locals := 0 }) E hml hl.1 (c_X9_fails l X c0 (1 : Int32) m0 hk0 hqq10) wt_X9_fails wl_RX9_57 rfl hk0 (by decide) rfl rfl hM hS rfl rfl (Nat.le_trans (by decide) hRf) (Nat.le_trans (by decide) hRl) (Nat.le_trans (Nat.le_of_ble_eq_true rfl) hRc) (Nat.le_trans (Nat.le_of_ble_eq_true rfl) hRs) (Nat.le_of_ble_eq_true rfl) dX9_append_11 rfl) hS (fun H locs hM hS => ?_)
    exact ge_i E hr hlocks hf hM hS (Nat.le_of_ble_eq_true rfl) (Nat.le_of_ble_eq_true rfl) dX9_append_14
theorem c_X9_append (l : Launch) (X : gX) (c0 : Nat) (u1 : Int32) (m0 : gMem) {res : Int32 × gMem} (hk0 : gk c0 = 9) (hf : f_X9_append c0 u1 m0 = some res) : Met l yX9_append (gWs yX9_append cX9_append 2 (some .int)) { frames := 1, cells := 0, slots := 0, locals := 21 } (va_Pc [.ref (X.1 + c0), .int u1] (gB X m0)) (gQi X res) 0 0 (gA X) :=
  gMet (own := RX9) (by decide +kernel) rfl (Nat.le_of_ble_eq_true rfl) (fun p e s m args below meth c ls E hr hlocks hml hM hl => b_X9_append E hr hlocks hml (Nat.le_refl _) (Nat.le_refl _) (Nat.le_refl _) (Nat.le_refl _) hk0 hf hM va_S.rf hl)
def f_X9_here (c0 : Nat) (m0 : gMem) : Option (Int32 × gMem) := if (m0 c0 7) ≤ (m0 c0 15) then (some ((-1 : Int32), m0)) else (if ¬ ((m0 c0 15) < 0 ∨ gl (c0 + 5) ≤ (m0 c0 15).toNatClampNeg) then some ((m0 (c0 + 5) (m0 c0 15).toNatClampNeg), m0) else none)
set_option maxRecDepth 100000 in
set_option maxHeartbeats 4000000 in
theorem b_X9_here {p : Program} {l : Launch} {e : Env} {R : Room} {s : State} {m : MethodId} {args : Array Value} {below : List Frame} {meth : Method} {c : Code} {H : Heap} {locs : List Loc} {ls : Array Slot} {X : gX} (E : gEn p s m args c cX9_here RX9 X) (hr : meth.sig.returnType = (some .int)) (hlocks : meth.locks = false) (hml : c.maxLocals = 1) (hRf : 0 ≤ R.frames) (hRl : 0 ≤ R.locals) (hRc : 0 ≤ R.cells) (hRs : 0 ≤ R.slots) {c0 : Nat} {m0 : gMem} {res : Int32 × gMem} (hk0 : gk c0 = 9) (hf : f_X9_here c0 m0 = some res) (hM : gM X m0 H) (hS : va_S (gA X) s.heap H locs) (hl : lv_has ls 1 [(0, .ref (X.1 + c0))]) : W p l e R s m args below meth c H locs 0 0 (MQ below (gQi X res) args s 0 0 (gA X)) (F0 m 0 ls []) := by
  obtain ⟨hx, hb⟩ := (⟨E.1, E.2.1⟩ : _ ∧ _)
  unfold f_X9_here at hf
  refine lv_aload_n hx hb dX9_here_0 rfl (lv_at hl 0 rfl) ?_
  refine GX9_175 E hM hk0 dX9_here_1 ?_
  refine lv_aload_n hx hb dX9_here_4 rfl (lv_at hl 0 rfl) ?_
  refine GX9_172 E hM hk0 dX9_here_5 ?_
  refine lv_icmp_ge (tgt := 23) hx hb dX9_here_8 (by decide) (fun h1 => ?_) (fun h1 => ?_)
  · have hf := g_t h1 hf
    refine lv_iconst (v := (-1 : Int32)) hx hb dX9_here_23 (by decide) ?_
    exact ge_i E hr hlocks hf hM hS (Nat.le_of_ble_eq_true rfl) (Nat.le_of_ble_eq_true rfl) dX9_here_24
  · have hf := g_f h1 hf
    refine lv_aload_n hx hb dX9_here_11 rfl (lv_at hl 0 rfl) ?_
    refine GX9_22 E hM hk0 dX9_here_12 ?_
    have hg2 : gk (c0 + 5) = 21 := gkf_9_6 hk0
    refine lv_aload_n hx hb dX9_here_15 rfl (lv_at hl 0 rfl) ?_
    refine GX9_175 E hM hk0 dX9_here_16 ?_
    obtain ⟨hi3, hf⟩ := g_ck hf
    refine gg_cald E hM (gk_in hg2 (by decide)) hg2 hi3 dX9_here_19 ?_
    refine lv_goto (tgt := 24) hx hb dX9_here_20 (by decide) ?_
    exact ge_i E hr hlocks hf hM hS (Nat.le_of_ble_eq_true rfl) (Nat.le_of_ble_eq_true rfl) dX9_here_24
theorem c_X9_here (l : Launch) (X : gX) (c0 : Nat) (m0 : gMem) {res : Int32 × gMem} (hk0 : gk c0 = 9) (hf : f_X9_here c0 m0 = some res) : Met l yX9_here (gWs yX9_here cX9_here 1 (some .int)) { frames := 0, cells := 0, slots := 0, locals := 0 } (va_Pc [.ref (X.1 + c0)] (gB X m0)) (gQi X res) 0 0 (gA X) :=
  gMet (own := RX9) (by decide +kernel) rfl (Nat.le_of_ble_eq_true rfl) (fun p e s m args below meth c ls E hr hlocks hml hM hl => b_X9_here E hr hlocks hml (Nat.le_refl _) (Nat.le_refl _) (Nat.le_refl _) (Nat.le_refl _) hk0 hf hM va_S.rf hl)
def f_X9_digit (c0 : Nat) (m0 : gMem) : Option (Int32 × gMem) := if (m0 c0 16) = (0 : Int32) then (g1 (f_X9_here c0 m0) (fun r16 m14 => g1 (f_X9_in r16 (48 : Int32) (57 : Int32) m14) (fun r19 m17 => if r19 = (0 : Int32) then (gv (ms m17 c0 16 (1 : Int32)) (fun m33 => if (m33 c0 16) = (0 : Int32) then (g1 (f_X9_here c0 m33) (fun r37 m35 => gv ((r37 - (48 : Int32))) (fun x38 => if (m35 c0 16) = (0 : Int32) then (gv (ms m35 c0 15 ((m35 c0 15) + (1 : Int32))) (fun m40 => some (x38, m40))) else (gv (ms m35 c0 15 ((m35 c0 15) + (0 : Int32))) (fun m41 => some (x38, m41)))))) else (if (m33 c0 16) = (0 : Int32) then (gv (ms m33 c0 15 ((m33 c0 15) + (1 : Int32))) (fun m43 => some ((0 : Int32), m43))) else (gv (ms m33 c0 15 ((m33 c0 15) + (0 : Int32))) (fun m44 => some ((0 : Int32), m44)))))) else (gv (ms m17 c0 16 (0 : Int32)) (fun m21 => if (m21 c0 16) = (0 : Int32) then (g1 (f_X9_here c0 m21) (fun r25 m23 => gv ((r25 - (48 : Int32))) (fun x26 => if (m23 c0 16) = (0 : Int32) then (gv (ms m23 c0 15 ((m23 c0 15) + (1 : Int32))) (fun m28 => some (x26, m28))) else (gv (ms m23 c0 15 ((m23 c0 15) + (0 : Int32))) (fun m29 => some (x26, m29)))))) else (if (m21 c0 16) = (0 : Int32) then (gv (ms m21 c0 15 ((m21 c0 15) + (1 : Int32))) (fun m31 => some ((0 : Int32), m31))) else (gv (ms m21 c0 15 ((m21 c0 15) + (0 : Int32))) (fun m32 => some ((0 : Int32), m32))))))))) else (gv (ms m0 c0 16 (1 : Int32)) (fun m2 => if (m2 c0 16) = (0 : Int32) then (g1 (f_X9_here c0 m2) (fun r6 m4 => gv ((r6 - (48 : Int32))) (fun x7 => if (m4 c0 16) = (0 : Int32) then (gv (ms m4 c0 15 ((m4 c0 15) + (1 : Int32))) (fun m9 => some (x7, m9))) else (gv (ms m4 c0 15 ((m4 c0 15) + (0 : Int32))) (fun m10 => some (x7, m10)))))) else (if (m2 c0 16) = (0 : Int32) then (gv (ms m2 c0 15 ((m2 c0 15) + (1 : Int32))) (fun m12 => some ((0 : Int32), m12))) else (gv (ms m2 c0 15 ((m2 c0 15) + (0 : Int32))) (fun m13 => some ((0 : Int32), m13))))))
set_option maxRecDepth 100000 in
set_option maxHeartbeats 4000000 in
theorem b_X9_digit {p : Program} {l : Launch} {e : Env} {R : Room} {s : State} {m : MethodId} {args : Array Value} {below : List Frame} {meth : Method} {c : Code} {H : Heap} {locs : List Loc} {ls : Array Slot} {X : gX} (E : gEn p s m args c cX9_digit RX9 X) (hr : meth.sig.returnType = (some .int)) (hlocks : meth.locks = false) (hml : c.maxLocals = 2) (hRf : 1 ≤ R.frames) (hRl : 22 ≤ R.locals) (hRc : 0 ≤ R.cells) (hRs : 0 ≤ R.slots) {c0 : Nat} {m0 : gMem} {res : Int32 × gMem} (hk0 : gk c0 = 9) (hf : f_X9_digit c0 m0 = some res) (hM : gM X m0 H) (hS : va_S (gA X) s.heap H locs) (hl : lv_has ls 2 [(0, .ref (X.1 + c0))]) : W p l e R s m args below meth c H locs 0 0 (MQ below (gQi X res) args s 0 0 (gA X)) (F0 m 0 ls []) := by
  obtain ⟨hx, hb⟩ := (⟨E.1, E.2.1⟩ : _ ∧ _)
  unfold f_X9_digit at hf
  refine lv_aload_n hx hb dX9_digit_0 rfl (lv_at hl 0 rfl) ?_
  refine lv_aload_n hx hb dX9_digit_1 rfl (lv_at hl 0 rfl) ?_
  refine GX9_178 E hM hk0 dX9_digit_2 ?_
  refine lv_if_ne (tgt := 22) hx hb dX9_digit_5 (by decide) (fun h1 => ?_) (fun h1 => ?_)
  · have hf := g_f h1 hf
    refine lv_iconst (v := (1 : Int32)) hx hb dX9_digit_22 (by decide) ?_
    refine lv_goto (tgt := 27) hx hb dX9_digit_23 (by decide) ?_
    obtain ⟨m2, em2, hf⟩ := gv_o hf
    refine PX9_178 E hM hS hk0 (Or.inr rfl) em2 dX9_digit_27 (fun H locs hM hS => ?_)
    refine lv_aload_n hx hb dX9_digit_30 rfl (lv_at hl 0 rfl) ?_
    refine GX9_178 E hM hk0 dX9_digit_31 ?_
    refine lv_if_eq (tgt := 41) hx hb dX9_digit_34 (by decide) (fun h3 => ?_) (fun h3 => ?_)
    · have hf := g_t h3 hf
      refine lv_aload_n hx hb dX9_digit_41 rfl (lv_at hl 0 rfl) ?_
      obtain ⟨r6, m4, hqq5, hf⟩ := g1_o hf
      refine ga_i (gr_V (As := []) (ci := 9) (rm := { frames := 0, cells := 0, slots := 0, locals := 0 }) E hml hl.1 (c_X9_here l X c0 m2 hk0 hqq5) wt_X9_here wl_RX9_181 rfl hk0 (by decide) rfl rfl hM hS rfl rfl (Nat.le_trans (by decide) hRf) (Nat.le_trans (by decide) hRl) (Nat.le_trans (Nat.le_of_ble_eq_true rfl) hRc) (Nat.le_trans (Nat.le_of_ble_eq_true rfl) hRs) (Nat.le_of_ble_eq_true rfl) dX9_digit_42 rfl) hS (fun H locs hM hS => ?_)
      refine lv_bipush (v := (48 : Int32)) hx hb dX9_digit_45 (by decide) ?_
      refine lv_isub hx hb dX9_digit_47 ?_
      obtain ⟨x7, ex7, hf⟩ := gv_o hf
      rw [← ex7]
      refine lv_istore_n (lv' := [(1, .int x7), (0, .ref (X.1 + c0))]) hx hb dX9_digit_48 rfl hl (by decide) rfl (fun ls hl => ?_)
      refine lv_aload_n hx hb dX9_digit_49 rfl (lv_at hl 1 rfl) ?_
      refine lv_dup hx hb dX9_digit_50 rfl ?_
      refine GX9_175 E hM hk0 dX9_digit_51 ?_
      refine lv_aload_n hx hb dX9_digit_54 rfl (lv_at hl 1 rfl) ?_
      refine GX9_178 E hM hk0 dX9_digit_55 ?_
      refine lv_if_eq (tgt := 65) hx hb dX9_digit_58 (by decide) (fun h8 => ?_) (fun h8 => ?_)
      · have hf := g_t h8 hf
        refine lv_iconst (v := (1 : Int32)) hx hb dX9_digit_65 (by decide) ?_
        refine lv_iadd hx hb dX9_digit_66 ?_
        obtain ⟨m9, em9, hf⟩ := gv_o hf
        refine PX9_175 E hM hS hk0 em9 dX9_digit_67 (fun H locs hM hS => ?_)
        refine lv_iload_n hx hb dX9_digit_70 rfl (lv_at hl 0 rfl) ?_
        exact ge_i E hr hlocks hf hM hS (Nat.le_of_ble_eq_true rfl) (Nat.le_of_ble_eq_true rfl) dX9_digit_71
      · have hf := g_f h8 hf
        refine lv_iconst (v := (0 : Int32)) hx hb dX9_digit_61 (by decide) ?_
        refine lv_goto (tgt := 66) hx hb dX9_digit_62 (by decide) ?_
        refine lv_iadd hx hb dX9_digit_66 ?_
        obtain ⟨m10, em10, hf⟩ := gv_o hf
        refine PX9_175 E hM hS hk0 em10 dX9_digit_67 (fun H locs hM hS => ?_)
        refine lv_iload_n hx hb dX9_digit_70 rfl (lv_at hl 0 rfl) ?_
        exact ge_i E hr hlocks hf hM hS (Nat.le_of_ble_eq_true rfl) (Nat.le_of_ble_eq_true rfl) dX9_digit_71
    · have hf := g_f h3 hf
      refine lv_iconst (v := (0 : Int32)) hx hb dX9_digit_37 (by decide) ?_
      refine lv_goto (tgt := 48) hx hb dX9_digit_38 (by decide) ?_
      refine lv_istore_n (lv' := [(1, .int (0 : Int32)), (0, .ref (X.1 + c0))]) hx hb dX9_digit_48 rfl hl (by decide) rfl (fun ls hl => ?_)
      refine lv_aload_n hx hb dX9_digit_49 rfl (lv_at hl 1 rfl) ?_
      refine lv_dup hx hb dX9_digit_50 rfl ?_
      refine GX9_175 E hM hk0 dX9_digit_51 ?_
      refine lv_aload_n hx hb dX9_digit_54 rfl (lv_at hl 1 rfl) ?_
      refine GX9_178 E hM hk0 dX9_digit_55 ?_
      refine lv_if_eq (tgt := 65) hx hb dX9_digit_58 (by decide) (fun h11 => ?_) (fun h11 => ?_)
      · have hf := g_t h11 hf
        refine lv_iconst (v := (1 : Int32)) hx hb dX9_digit_65 (by decide) ?_
        refine lv_iadd hx hb dX9_digit_66 ?_
        obtain ⟨m12, em12, hf⟩ := gv_o hf
        refine PX9_175 E hM hS hk0 em12 dX9_digit_67 (fun H locs hM hS => ?_)
        refine lv_iload_n hx hb dX9_digit_70 rfl (lv_at hl 0 rfl) ?_
        exact ge_i E hr hlocks hf hM hS (Nat.le_of_ble_eq_true rfl) (Nat.le_of_ble_eq_true rfl) dX9_digit_71
      · have hf := g_f h11 hf
        refine lv_iconst (v := (0 : Int32)) hx hb dX9_digit_61 (by decide) ?_
        refine lv_goto (tgt := 66) hx hb dX9_digit_62 (by decide) ?_
        refine lv_iadd hx hb dX9_digit_66 ?_
        obtain ⟨m13, em13, hf⟩ := gv_o hf
        refine PX9_175 E hM hS hk0 em13 dX9_digit_67 (fun H locs hM hS => ?_)
        refine lv_iload_n hx hb dX9_digit_70 rfl (lv_at hl 0 rfl) ?_
        exact ge_i E hr hlocks hf hM hS (Nat.le_of_ble_eq_true rfl) (Nat.le_of_ble_eq_true rfl) dX9_digit_71
  · have hf := g_t h1 hf
    refine lv_aload_n hx hb dX9_digit_8 rfl (lv_at hl 0 rfl) ?_
    obtain ⟨r16, m14, hqq15, hf⟩ := g1_o hf
    refine ga_i (gr_V (As := []) (ci := 9) (rm := { frames := 0, cells := 0, slots := 0, locals := 0 }) E hml hl.1 (c_X9_here l X c0 m0 hk0 hqq15) wt_X9_here wl_RX9_181 rfl hk0 (by decide) rfl rfl hM hS rfl rfl (Nat.le_trans (by decide) hRf) (Nat.le_trans (by decide) hRl) (Nat.le_trans (Nat.le_of_ble_eq_true rfl) hRc) (Nat.le_trans (Nat.le_of_ble_eq_true rfl) hRs) (Nat.le_of_ble_eq_true rfl) dX9_digit_9 rfl) hS (fun H locs hM hS => ?_)
    refine lv_bipush (v := (48 : Int32)) hx hb dX9_digit_12 (by decide) ?_
    refine lv_bipush (v := (57 : Int32)) hx hb dX9_digit_14 (by decide) ?_
    obtain ⟨r19, m17, hqq18, hf⟩ := g1_o hf
    refine ga_i (gr_S (As := [.int r16, .int (48 : Int32), .int (57 : Int32)]) (rm := { frames := 0, cells := 0, slots := 0, locals := 0 }) E hml hl.1 (c_X9_in l X r16 (48 : Int32) (57 : Int32) m14 hqq18) wt_X9_in wl_RX9_53 rfl hM hS rfl rfl (Nat.le_trans (by decide) hRf) (Nat.le_trans (by decide) hRl) (Nat.le_trans (Nat.le_of_ble_eq_true rfl) hRc) (Nat.le_trans (Nat.le_of_ble_eq_true rfl) hRs) (Nat.le_of_ble_eq_true rfl) dX9_digit_16 rfl) hS (fun H locs hM hS => ?_)
    refine lv_if_ne (tgt := 26) hx hb dX9_digit_19 (by decide) (fun h20 => ?_) (fun h20 => ?_)
    · have hf := g_f h20 hf
      refine lv_iconst (v := (0 : Int32)) hx hb dX9_digit_26 (by decide) ?_
      obtain ⟨m21, em21, hf⟩ := gv_o hf
      refine PX9_178 E hM hS hk0 (Or.inl rfl) em21 dX9_digit_27 (fun H locs hM hS => ?_)
      refine lv_aload_n hx hb dX9_digit_30 rfl (lv_at hl 0 rfl) ?_
      refine GX9_178 E hM hk0 dX9_digit_31 ?_
      refine lv_if_eq (tgt := 41) hx hb dX9_digit_34 (by decide) (fun h22 => ?_) (fun h22 => ?_)
      · have hf := g_t h22 hf
        refine lv_aload_n hx hb dX9_digit_41 rfl (lv_at hl 0 rfl) ?_
        obtain ⟨r25, m23, hqq24, hf⟩ := g1_o hf
        refine ga_i (gr_V (As := []) (ci := 9) (rm := { frames := 0, cells := 0, slots := 0, locals := 0 }) E hml hl.1 (c_X9_here l X c0 m21 hk0 hqq24) wt_X9_here wl_RX9_181 rfl hk0 (by decide) rfl rfl hM hS rfl rfl (Nat.le_trans (by decide) hRf) (Nat.le_trans (by decide) hRl) (Nat.le_trans (Nat.le_of_ble_eq_true rfl) hRc) (Nat.le_trans (Nat.le_of_ble_eq_true rfl) hRs) (Nat.le_of_ble_eq_true rfl) dX9_digit_42 rfl) hS (fun H locs hM hS => ?_)
        refine lv_bipush (v := (48 : Int32)) hx hb dX9_digit_45 (by decide) ?_
        refine lv_isub hx hb dX9_digit_47 ?_
        obtain ⟨x26, ex26, hf⟩ := gv_o hf
        rw [← ex26]
        refine lv_istore_n (lv' := [(1, .int x26), (0, .ref (X.1 + c0))]) hx hb dX9_digit_48 rfl hl (by decide) rfl (fun ls hl => ?_)
        refine lv_aload_n hx hb dX9_digit_49 rfl (lv_at hl 1 rfl) ?_
        refine lv_dup hx hb dX9_digit_50 rfl ?_
        refine GX9_175 E hM hk0 dX9_digit_51 ?_
        refine lv_aload_n hx hb dX9_digit_54 rfl (lv_at hl 1 rfl) ?_
        refine GX9_178 E hM hk0 dX9_digit_55 ?_
        refine lv_if_eq (tgt := 65) hx hb dX9_digit_58 (by decide) (fun h27 => ?_) (fun h27 => ?_)
        · have hf := g_t h27 hf
          refine lv_iconst (v := (1 : Int32)) hx hb dX9_digit_65 (by decide) ?_
          refine lv_iadd hx hb dX9_digit_66 ?_
          obtain ⟨m28, em28, hf⟩ := gv_o hf
          refine PX9_175 E hM hS hk0 em28 dX9_digit_67 (fun H locs hM hS => ?_)
          refine lv_iload_n hx hb dX9_digit_70 rfl (lv_at hl 0 rfl) ?_
          exact ge_i E hr hlocks hf hM hS (Nat.le_of_ble_eq_true rfl) (Nat.le_of_ble_eq_true rfl) dX9_digit_71
        · have hf := g_f h27 hf
          refine lv_iconst (v := (0 : Int32)) hx hb dX9_digit_61 (by decide) ?_
          refine lv_goto (tgt := 66) hx hb dX9_digit_62 (by decide) ?_
          refine lv_iadd hx hb dX9_digit_66 ?_
          obtain ⟨m29, em29, hf⟩ := gv_o hf
          refine PX9_175 E hM hS hk0 em29 dX9_digit_67 (fun H locs hM hS => ?_)
          refine lv_iload_n hx hb dX9_digit_70 rfl (lv_at hl 0 rfl) ?_
          exact ge_i E hr hlocks hf hM hS (Nat.le_of_ble_eq_true rfl) (Nat.le_of_ble_eq_true rfl) dX9_digit_71
      · have hf := g_f h22 hf
        refine lv_iconst (v := (0 : Int32)) hx hb dX9_digit_37 (by decide) ?_
        refine lv_goto (tgt := 48) hx hb dX9_digit_38 (by decide) ?_
        refine lv_istore_n (lv' := [(1, .int (0 : Int32)), (0, .ref (X.1 + c0))]) hx hb dX9_digit_48 rfl hl (by decide) rfl (fun ls hl => ?_)
        refine lv_aload_n hx hb dX9_digit_49 rfl (lv_at hl 1 rfl) ?_
        refine lv_dup hx hb dX9_digit_50 rfl ?_
        refine GX9_175 E hM hk0 dX9_digit_51 ?_
        refine lv_aload_n hx hb dX9_digit_54 rfl (lv_at hl 1 rfl) ?_
        refine GX9_178 E hM hk0 dX9_digit_55 ?_
        refine lv_if_eq (tgt := 65) hx hb dX9_digit_58 (by decide) (fun h30 => ?_) (fun h30 => ?_)
        · have hf := g_t h30 hf
          refine lv_iconst (v := (1 : Int32)) hx hb dX9_digit_65 (by decide) ?_
          refine lv_iadd hx hb dX9_digit_66 ?_
          obtain ⟨m31, em31, hf⟩ := gv_o hf
          refine PX9_175 E hM hS hk0 em31 dX9_digit_67 (fun H locs hM hS => ?_)
          refine lv_iload_n hx hb dX9_digit_70 rfl (lv_at hl 0 rfl) ?_
          exact ge_i E hr hlocks hf hM hS (Nat.le_of_ble_eq_true rfl) (Nat.le_of_ble_eq_true rfl) dX9_digit_71
        · have hf := g_f h30 hf
          refine lv_iconst (v := (0 : Int32)) hx hb dX9_digit_61 (by decide) ?_
          refine lv_goto (tgt := 66) hx hb dX9_digit_62 (by decide) ?_
          refine lv_iadd hx hb dX9_digit_66 ?_
          obtain ⟨m32, em32, hf⟩ := gv_o hf
          refine PX9_175 E hM hS hk0 em32 dX9_digit_67 (fun H locs hM hS => ?_)
          refine lv_iload_n hx hb dX9_digit_70 rfl (lv_at hl 0 rfl) ?_
          exact ge_i E hr hlocks hf hM hS (Nat.le_of_ble_eq_true rfl) (Nat.le_of_ble_eq_true rfl) dX9_digit_71
    · have hf := g_t h20 hf
      refine lv_iconst (v := (1 : Int32)) hx hb dX9_digit_22 (by decide) ?_
      refine lv_goto (tgt := 27) hx hb dX9_digit_23 (by decide) ?_
      obtain ⟨m33, em33, hf⟩ := gv_o hf
      refine PX9_178 E hM hS hk0 (Or.inr rfl) em33 dX9_digit_27 (fun H locs hM hS => ?_)
      refine lv_aload_n hx hb dX9_digit_30 rfl (lv_at hl 0 rfl) ?_
      refine GX9_178 E hM hk0 dX9_digit_31 ?_
      refine lv_if_eq (tgt := 41) hx hb dX9_digit_34 (by decide) (fun h34 => ?_) (fun h34 => ?_)
      · have hf := g_t h34 hf
        refine lv_aload_n hx hb dX9_digit_41 rfl (lv_at hl 0 rfl) ?_
        obtain ⟨r37, m35, hqq36, hf⟩ := g1_o hf
        refine ga_i (gr_V (As := []) (ci := 9) (rm := { frames := 0, cells := 0, slots := 0, locals := 0 }) E hml hl.1 (c_X9_here l X c0 m33 hk0 hqq36) wt_X9_here wl_RX9_181 rfl hk0 (by decide) rfl rfl hM hS rfl rfl (Nat.le_trans (by decide) hRf) (Nat.le_trans (by decide) hRl) (Nat.le_trans (Nat.le_of_ble_eq_true rfl) hRc) (Nat.le_trans (Nat.le_of_ble_eq_true rfl) hRs) (Nat.le_of_ble_eq_true rfl) dX9_digit_42 rfl) hS (fun H locs hM hS => ?_)
        refine lv_bipush (v := (48 : Int32)) hx hb dX9_digit_45 (by decide) ?_
        refine lv_isub hx hb dX9_digit_47 ?_
        obtain ⟨x38, ex38, hf⟩ := gv_o hf
        rw [← ex38]
        refine lv_istore_n (lv' := [(1, .int x38), (0, .ref (X.1 + c0))]) hx hb dX9_digit_48 rfl hl (by decide) rfl (fun ls hl => ?_)
        refine lv_aload_n hx hb dX9_digit_49 rfl (lv_at hl 1 rfl) ?_
        refine lv_dup hx hb dX9_digit_50 rfl ?_
        refine GX9_175 E hM hk0 dX9_digit_51 ?_
        refine lv_aload_n hx hb dX9_digit_54 rfl (lv_at hl 1 rfl) ?_
        refine GX9_178 E hM hk0 dX9_digit_55 ?_
        refine lv_if_eq (tgt := 65) hx hb dX9_digit_58 (by decide) (fun h39 => ?_) (fun h39 => ?_)
        · have hf := g_t h39 hf
          refine lv_iconst (v := (1 : Int32)) hx hb dX9_digit_65 (by decide) ?_
          refine lv_iadd hx hb dX9_digit_66 ?_
          obtain ⟨m40, em40, hf⟩ := gv_o hf
          refine PX9_175 E hM hS hk0 em40 dX9_digit_67 (fun H locs hM hS => ?_)
          refine lv_iload_n hx hb dX9_digit_70 rfl (lv_at hl 0 rfl) ?_
          exact ge_i E hr hlocks hf hM hS (Nat.le_of_ble_eq_true rfl) (Nat.le_of_ble_eq_true rfl) dX9_digit_71
        · have hf := g_f h39 hf
          refine lv_iconst (v := (0 : Int32)) hx hb dX9_digit_61 (by decide) ?_
          refine lv_goto (tgt := 66) hx hb dX9_digit_62 (by decide) ?_
          refine lv_iadd hx hb dX9_digit_66 ?_
          obtain ⟨m41, em41, hf⟩ := gv_o hf
          refine PX9_175 E hM hS hk0 em41 dX9_digit_67 (fun H locs hM hS => ?_)
          refine lv_iload_n hx hb dX9_digit_70 rfl (lv_at hl 0 rfl) ?_
          exact ge_i E hr hlocks hf hM hS (Nat.le_of_ble_eq_true rfl) (Nat.le_of_ble_eq_true rfl) dX9_digit_71
      · have hf := g_f h34 hf
        refine lv_iconst (v := (0 : Int32)) hx hb dX9_digit_37 (by decide) ?_
        refine lv_goto (tgt := 48) hx hb dX9_digit_38 (by decide) ?_
        refine lv_istore_n (lv' := [(1, .int (0 : Int32)), (0, .ref (X.1 + c0))]) hx hb dX9_digit_48 rfl hl (by decide) rfl (fun ls hl => ?_)
        refine lv_aload_n hx hb dX9_digit_49 rfl (lv_at hl 1 rfl) ?_
        refine lv_dup hx hb dX9_digit_50 rfl ?_
        refine GX9_175 E hM hk0 dX9_digit_51 ?_
        refine lv_aload_n hx hb dX9_digit_54 rfl (lv_at hl 1 rfl) ?_
        refine GX9_178 E hM hk0 dX9_digit_55 ?_
        refine lv_if_eq (tgt := 65) hx hb dX9_digit_58 (by decide) (fun h42 => ?_) (fun h42 => ?_)
        · have hf := g_t h42 hf
          refine lv_iconst (v := (1 : Int32)) hx hb dX9_digit_65 (by decide) ?_
          refine lv_iadd hx hb dX9_digit_66 ?_
          obtain ⟨m43, em43, hf⟩ := gv_o hf
          refine PX9_175 E hM hS hk0 em43 dX9_digit_67 (fun H locs hM hS => ?_)
          refine lv_iload_n hx hb dX9_digit_70 rfl (lv_at hl 0 rfl) ?_
          exact ge_i E hr hlocks hf hM hS (Nat.le_of_ble_eq_true rfl) (Nat.le_of_ble_eq_true rfl) dX9_digit_71
        · have hf := g_f h42 hf
          refine lv_iconst (v := (0 : Int32)) hx hb dX9_digit_61 (by decide) ?_
          refine lv_goto (tgt := 66) hx hb dX9_digit_62 (by decide) ?_
          refine lv_iadd hx hb dX9_digit_66 ?_
          obtain ⟨m44, em44, hf⟩ := gv_o hf
          refine PX9_175 E hM hS hk0 em44 dX9_digit_67 (fun H locs hM hS => ?_)
          refine lv_iload_n hx hb dX9_digit_70 rfl (lv_at hl 0 rfl) ?_
          exact ge_i E hr hlocks hf hM hS (Nat.le_of_ble_eq_true rfl) (Nat.le_of_ble_eq_true rfl) dX9_digit_71
theorem c_X9_digit (l : Launch) (X : gX) (c0 : Nat) (m0 : gMem) {res : Int32 × gMem} (hk0 : gk c0 = 9) (hf : f_X9_digit c0 m0 = some res) : Met l yX9_digit (gWs yX9_digit cX9_digit 2 (some .int)) { frames := 1, cells := 0, slots := 0, locals := 22 } (va_Pc [.ref (X.1 + c0)] (gB X m0)) (gQi X res) 0 0 (gA X) :=
  gMet (own := RX9) (by decide +kernel) rfl (Nat.le_of_ble_eq_true rfl) (fun p e s m args below meth c ls E hr hlocks hml hM hl => b_X9_digit E hr hlocks hml (Nat.le_refl _) (Nat.le_refl _) (Nat.le_refl _) (Nat.le_refl _) hk0 hf hM va_S.rf hl)
def f_X9_number (c0 : Nat) (m0 : gMem) : Option (Int32 × gMem) := g1 (f_X9_digit c0 m0) (fun r3 m1 => if (m1 c0 16) = (0 : Int32) then (g1 (f_X9_here c0 m1) (fun r7 m5 => g1 (f_X9_in r7 (48 : Int32) (57 : Int32) m5) (fun r10 m8 => if r10 = (0 : Int32) then (some (r3, m8)) else (g1 (f_X9_digit c0 m8) (fun r14 m12 => some ((((10 : Int32) * r3) + r14), m12)))))) else (some (r3, m1)))
set_option maxRecDepth 100000 in
set_option maxHeartbeats 4000000 in
theorem b_X9_number {p : Program} {l : Launch} {e : Env} {R : Room} {s : State} {m : MethodId} {args : Array Value} {below : List Frame} {meth : Method} {c : Code} {H : Heap} {locs : List Loc} {ls : Array Slot} {X : gX} (E : gEn p s m args c cX9_number RX9 X) (hr : meth.sig.returnType = (some .int)) (hlocks : meth.locks = false) (hml : c.maxLocals = 2) (hRf : 2 ≤ R.frames) (hRl : 43 ≤ R.locals) (hRc : 0 ≤ R.cells) (hRs : 0 ≤ R.slots) {c0 : Nat} {m0 : gMem} {res : Int32 × gMem} (hk0 : gk c0 = 9) (hf : f_X9_number c0 m0 = some res) (hM : gM X m0 H) (hS : va_S (gA X) s.heap H locs) (hl : lv_has ls 2 [(0, .ref (X.1 + c0))]) : W p l e R s m args below meth c H locs 0 0 (MQ below (gQi X res) args s 0 0 (gA X)) (F0 m 0 ls []) := by
  obtain ⟨hx, hb⟩ := (⟨E.1, E.2.1⟩ : _ ∧ _)
  unfold f_X9_number at hf
  refine lv_aload_n hx hb dX9_number_0 rfl (lv_at hl 0 rfl) ?_
  obtain ⟨r3, m1, hqq2, hf⟩ := g1_o hf
  refine ga_i (gr_V (As := []) (ci := 9) (rm := { frames := 1, cells := 0, slots := 0, locals := 22 }) E hml hl.1 (c_X9_digit l X c0 m0 hk0 hqq2) wt_X9_digit wl_RX9_184 rfl hk0 (by decide) rfl rfl hM hS rfl rfl (Nat.le_trans (by decide) hRf) (Nat.le_trans (by decide) hRl) (Nat.le_trans (Nat.le_of_ble_eq_true rfl) hRc) (Nat.le_trans (Nat.le_of_ble_eq_true rfl) hRs) (Nat.le_of_ble_eq_true rfl) dX9_number_1 rfl) hS (fun H locs hM hS => ?_)
  refine lv_istore_n (lv' := [(1, .int r3), (0, .ref (X.1 + c0))]) hx hb dX9_number_4 rfl hl (by decide) rfl (fun ls hl => ?_)
  refine lv_aload_n hx hb dX9_number_5 rfl (lv_at hl 1 rfl) ?_
  refine GX9_178 E hM hk0 dX9_number_6 ?_
  refine lv_if_ne (tgt := 38) hx hb dX9_number_9 (by decide) (fun h4 => ?_) (fun h4 => ?_)
  · have hf := g_f h4 hf
    refine lv_iload_n hx hb dX9_number_38 rfl (lv_at hl 0 rfl) ?_
    exact ge_i E hr hlocks hf hM hS (Nat.le_of_ble_eq_true rfl) (Nat.le_of_ble_eq_true rfl) dX9_number_39
  · have hf := g_t h4 hf
    refine lv_aload_n hx hb dX9_number_12 rfl (lv_at hl 1 rfl) ?_
    obtain ⟨r7, m5, hqq6, hf⟩ := g1_o hf
    refine ga_i (gr_V (As := []) (ci := 9) (rm := { frames := 0, cells := 0, slots := 0, locals := 0 }) E hml hl.1 (c_X9_here l X c0 m1 hk0 hqq6) wt_X9_here wl_RX9_181 rfl hk0 (by decide) rfl rfl hM hS rfl rfl (Nat.le_trans (by decide) hRf) (Nat.le_trans (by decide) hRl) (Nat.le_trans (Nat.le_of_ble_eq_true rfl) hRc) (Nat.le_trans (Nat.le_of_ble_eq_true rfl) hRs) (Nat.le_of_ble_eq_true rfl) dX9_number_13 rfl) hS (fun H locs hM hS => ?_)
    refine lv_bipush (v := (48 : Int32)) hx hb dX9_number_16 (by decide) ?_
    refine lv_bipush (v := (57 : Int32)) hx hb dX9_number_18 (by decide) ?_
    obtain ⟨r10, m8, hqq9, hf⟩ := g1_o hf
    refine ga_i (gr_S (As := [.int r7, .int (48 : Int32), .int (57 : Int32)]) (rm := { frames := 0, cells := 0, slots := 0, locals := 0 }) E hml hl.1 (c_X9_in l X r7 (48 : Int32) (57 : Int32) m5 hqq9) wt_X9_in wl_RX9_53 rfl hM hS rfl rfl (Nat.le_trans (by decide) hRf) (Nat.le_trans (by decide) hRl) (Nat.le_trans (Nat.le_of_ble_eq_true rfl) hRc) (Nat.le_trans (Nat.le_of_ble_eq_true rfl) hRs) (Nat.le_of_ble_eq_true rfl) dX9_number_20 rfl) hS (fun H locs hM hS => ?_)
    refine lv_if_eq (tgt := 38) hx hb dX9_number_23 (by decide) (fun h11 => ?_) (fun h11 => ?_)
    · have hf := g_t h11 hf
      refine lv_iload_n hx hb dX9_number_38 rfl (lv_at hl 0 rfl) ?_
      exact ge_i E hr hlocks hf hM hS (Nat.le_of_ble_eq_true rfl) (Nat.le_of_ble_eq_true rfl) dX9_number_39
    · have hf := g_f h11 hf
      refine lv_bipush (v := (10 : Int32)) hx hb dX9_number_26 (by decide) ?_
      refine lv_iload_n hx hb dX9_number_28 rfl (lv_at hl 0 rfl) ?_
      refine lv_imul hx hb dX9_number_29 ?_
      refine lv_aload_n hx hb dX9_number_30 rfl (lv_at hl 1 rfl) ?_
      obtain ⟨r14, m12, hqq13, hf⟩ := g1_o hf
      refine ga_i (gr_V (As := []) (ci := 9) (rm := { frames := 1, cells := 0, slots := 0, locals := 22 }) E hml hl.1 (c_X9_digit l X c0 m8 hk0 hqq13) wt_X9_digit wl_RX9_184 rfl hk0 (by decide) rfl rfl hM hS rfl rfl (Nat.le_trans (by decide) hRf) (Nat.le_trans (by decide) hRl) (Nat.le_trans (Nat.le_of_ble_eq_true rfl) hRc) (Nat.le_trans (Nat.le_of_ble_eq_true rfl) hRs) (Nat.le_of_ble_eq_true rfl) dX9_number_31 rfl) hS (fun H locs hM hS => ?_)
      refine lv_iadd hx hb dX9_number_34 ?_
      refine lv_goto (tgt := 39) hx hb dX9_number_35 (by decide) ?_
      exact ge_i E hr hlocks hf hM hS (Nat.le_of_ble_eq_true rfl) (Nat.le_of_ble_eq_true rfl) dX9_number_39
theorem c_X9_number (l : Launch) (X : gX) (c0 : Nat) (m0 : gMem) {res : Int32 × gMem} (hk0 : gk c0 = 9) (hf : f_X9_number c0 m0 = some res) : Met l yX9_number (gWs yX9_number cX9_number 2 (some .int)) { frames := 2, cells := 0, slots := 0, locals := 43 } (va_Pc [.ref (X.1 + c0)] (gB X m0)) (gQi X res) 0 0 (gA X) :=
  gMet (own := RX9) (by decide +kernel) rfl (Nat.le_of_ble_eq_true rfl) (fun p e s m args below meth c ls E hr hlocks hml hM hl => b_X9_number E hr hlocks hml (Nat.le_refl _) (Nat.le_refl _) (Nat.le_refl _) (Nat.le_refl _) hk0 hf hM va_S.rf hl)
def f_X9_between (c0 : Nat) (u1 : Int32) (m0 : gMem) : Option (Unit × gMem) := if (m0 c0 16) = (0 : Int32) then (g1 (f_X9_here c0 m0) (fun r8 m6 => if r8 = u1 then (gv (ms m6 c0 16 (0 : Int32)) (fun m10 => if (m10 c0 16) = (0 : Int32) then (gv (ms m10 c0 15 ((m10 c0 15) + (1 : Int32))) (fun m12 => some ((), m12))) else (gv (ms m10 c0 15 ((m10 c0 15) + (0 : Int32))) (fun m13 => some ((), m13))))) else (gv (ms m6 c0 16 (1 : Int32)) (fun m14 => if (m14 c0 16) = (0 : Int32) then (gv (ms m14 c0 15 ((m14 c0 15) + (1 : Int32))) (fun m16 => some ((), m16))) else (gv (ms m14 c0 15 ((m14 c0 15) + (0 : Int32))) (fun m17 => some ((), m17))))))) else (gv (ms m0 c0 16 (1 : Int32)) (fun m2 => if (m2 c0 16) = (0 : Int32) then (gv (ms m2 c0 15 ((m2 c0 15) + (1 : Int32))) (fun m4 => some ((), m4))) else (gv (ms m2 c0 15 ((m2 c0 15) + (0 : Int32))) (fun m5 => some ((), m5)))))
set_option maxRecDepth 100000 in
set_option maxHeartbeats 4000000 in
theorem b_X9_between {p : Program} {l : Launch} {e : Env} {R : Room} {s : State} {m : MethodId} {args : Array Value} {below : List Frame} {meth : Method} {c : Code} {H : Heap} {locs : List Loc} {ls : Array Slot} {X : gX} (E : gEn p s m args c cX9_between RX9 X) (hr : meth.sig.returnType = none) (hlocks : meth.locks = false) (hml : c.maxLocals = 2) (hRf : 1 ≤ R.frames) (hRl : 20 ≤ R.locals) (hRc : 0 ≤ R.cells) (hRs : 0 ≤ R.slots) {c0 : Nat} {u1 : Int32} {m0 : gMem} {res : Unit × gMem} (hk0 : gk c0 = 9) (hf : f_X9_between c0 u1 m0 = some res) (hM : gM X m0 H) (hS : va_S (gA X) s.heap H locs) (hl : lv_has ls 2 [(0, .ref (X.1 + c0)), (1, .int u1)]) : W p l e R s m args below meth c H locs 0 0 (MQ below (gQv X res) args s 0 0 (gA X)) (F0 m 0 ls []) := by
  obtain ⟨hx, hb⟩ := (⟨E.1, E.2.1⟩ : _ ∧ _)
  unfold f_X9_between at hf
  refine lv_aload_n hx hb dX9_between_0 rfl (lv_at hl 0 rfl) ?_
  refine lv_aload_n hx hb dX9_between_1 rfl (lv_at hl 0 rfl) ?_
  refine GX9_178 E hM hk0 dX9_between_2 ?_
  refine lv_if_ne (tgt := 16) hx hb dX9_between_5 (by decide) (fun h1 => ?_) (fun h1 => ?_)
  · have hf := g_f h1 hf
    refine lv_iconst (v := (1 : Int32)) hx hb dX9_between_16 (by decide) ?_
    refine lv_goto (tgt := 21) hx hb dX9_between_17 (by decide) ?_
    obtain ⟨m2, em2, hf⟩ := gv_o hf
    refine PX9_178 E hM hS hk0 (Or.inr rfl) em2 dX9_between_21 (fun H locs hM hS => ?_)
    refine lv_aload_n hx hb dX9_between_24 rfl (lv_at hl 0 rfl) ?_
    refine lv_dup hx hb dX9_between_25 rfl ?_
    refine GX9_175 E hM hk0 dX9_between_26 ?_
    refine lv_aload_n hx hb dX9_between_29 rfl (lv_at hl 0 rfl) ?_
    refine GX9_178 E hM hk0 dX9_between_30 ?_
    refine lv_if_eq (tgt := 40) hx hb dX9_between_33 (by decide) (fun h3 => ?_) (fun h3 => ?_)
    · have hf := g_t h3 hf
      refine lv_iconst (v := (1 : Int32)) hx hb dX9_between_40 (by decide) ?_
      refine lv_iadd hx hb dX9_between_41 ?_
      obtain ⟨m4, em4, hf⟩ := gv_o hf
      refine PX9_175 E hM hS hk0 em4 dX9_between_42 (fun H locs hM hS => ?_)
      exact ge_v E hr hlocks hf hM hS (Nat.le_of_ble_eq_true rfl) (Nat.le_of_ble_eq_true rfl) dX9_between_45
    · have hf := g_f h3 hf
      refine lv_iconst (v := (0 : Int32)) hx hb dX9_between_36 (by decide) ?_
      refine lv_goto (tgt := 41) hx hb dX9_between_37 (by decide) ?_
      refine lv_iadd hx hb dX9_between_41 ?_
      obtain ⟨m5, em5, hf⟩ := gv_o hf
      refine PX9_175 E hM hS hk0 em5 dX9_between_42 (fun H locs hM hS => ?_)
      exact ge_v E hr hlocks hf hM hS (Nat.le_of_ble_eq_true rfl) (Nat.le_of_ble_eq_true rfl) dX9_between_45
  · have hf := g_t h1 hf
    refine lv_aload_n hx hb dX9_between_8 rfl (lv_at hl 0 rfl) ?_
    obtain ⟨r8, m6, hqq7, hf⟩ := g1_o hf
    refine ga_i (gr_V (As := []) (ci := 9) (rm := { frames := 0, cells := 0, slots := 0, locals := 0 }) E hml hl.1 (c_X9_here l X c0 m0 hk0 hqq7) wt_X9_here wl_RX9_181 rfl hk0 (by decide) rfl rfl hM hS rfl rfl (Nat.le_trans (by decide) hRf) (Nat.le_trans (by decide) hRl) (Nat.le_trans (Nat.le_of_ble_eq_true rfl) hRc) (Nat.le_trans (Nat.le_of_ble_eq_true rfl) hRs) (Nat.le_of_ble_eq_true rfl) dX9_between_9 rfl) hS (fun H locs hM hS => ?_)
    refine lv_iload_n hx hb dX9_between_12 rfl (lv_at hl 1 rfl) ?_
    refine lv_icmp_eq (tgt := 20) hx hb dX9_between_13 (by decide) (fun h9 => ?_) (fun h9 => ?_)
    · have hf := g_t h9 hf
      refine lv_iconst (v := (0 : Int32)) hx hb dX9_between_20 (by decide) ?_
      obtain ⟨m10, em10, hf⟩ := gv_o hf
      refine PX9_178 E hM hS hk0 (Or.inl rfl) em10 dX9_between_21 (fun H locs hM hS => ?_)
      refine lv_aload_n hx hb dX9_between_24 rfl (lv_at hl 0 rfl) ?_
      refine lv_dup hx hb dX9_between_25 rfl ?_
      refine GX9_175 E hM hk0 dX9_between_26 ?_
      refine lv_aload_n hx hb dX9_between_29 rfl (lv_at hl 0 rfl) ?_
      refine GX9_178 E hM hk0 dX9_between_30 ?_
      refine lv_if_eq (tgt := 40) hx hb dX9_between_33 (by decide) (fun h11 => ?_) (fun h11 => ?_)
      · have hf := g_t h11 hf
        refine lv_iconst (v := (1 : Int32)) hx hb dX9_between_40 (by decide) ?_
        refine lv_iadd hx hb dX9_between_41 ?_
        obtain ⟨m12, em12, hf⟩ := gv_o hf
        refine PX9_175 E hM hS hk0 em12 dX9_between_42 (fun H locs hM hS => ?_)
        exact ge_v E hr hlocks hf hM hS (Nat.le_of_ble_eq_true rfl) (Nat.le_of_ble_eq_true rfl) dX9_between_45
      · have hf := g_f h11 hf
        refine lv_iconst (v := (0 : Int32)) hx hb dX9_between_36 (by decide) ?_
        refine lv_goto (tgt := 41) hx hb dX9_between_37 (by decide) ?_
        refine lv_iadd hx hb dX9_between_41 ?_
        obtain ⟨m13, em13, hf⟩ := gv_o hf
        refine PX9_175 E hM hS hk0 em13 dX9_between_42 (fun H locs hM hS => ?_)
        exact ge_v E hr hlocks hf hM hS (Nat.le_of_ble_eq_true rfl) (Nat.le_of_ble_eq_true rfl) dX9_between_45
    · have hf := g_f h9 hf
      refine lv_iconst (v := (1 : Int32)) hx hb dX9_between_16 (by decide) ?_
      refine lv_goto (tgt := 21) hx hb dX9_between_17 (by decide) ?_
      obtain ⟨m14, em14, hf⟩ := gv_o hf
      refine PX9_178 E hM hS hk0 (Or.inr rfl) em14 dX9_between_21 (fun H locs hM hS => ?_)
      refine lv_aload_n hx hb dX9_between_24 rfl (lv_at hl 0 rfl) ?_
      refine lv_dup hx hb dX9_between_25 rfl ?_
      refine GX9_175 E hM hk0 dX9_between_26 ?_
      refine lv_aload_n hx hb dX9_between_29 rfl (lv_at hl 0 rfl) ?_
      refine GX9_178 E hM hk0 dX9_between_30 ?_
      refine lv_if_eq (tgt := 40) hx hb dX9_between_33 (by decide) (fun h15 => ?_) (fun h15 => ?_)
      · have hf := g_t h15 hf
        refine lv_iconst (v := (1 : Int32)) hx hb dX9_between_40 (by decide) ?_
        refine lv_iadd hx hb dX9_between_41 ?_
        obtain ⟨m16, em16, hf⟩ := gv_o hf
        refine PX9_175 E hM hS hk0 em16 dX9_between_42 (fun H locs hM hS => ?_)
        exact ge_v E hr hlocks hf hM hS (Nat.le_of_ble_eq_true rfl) (Nat.le_of_ble_eq_true rfl) dX9_between_45
      · have hf := g_f h15 hf
        refine lv_iconst (v := (0 : Int32)) hx hb dX9_between_36 (by decide) ?_
        refine lv_goto (tgt := 41) hx hb dX9_between_37 (by decide) ?_
        refine lv_iadd hx hb dX9_between_41 ?_
        obtain ⟨m17, em17, hf⟩ := gv_o hf
        refine PX9_175 E hM hS hk0 em17 dX9_between_42 (fun H locs hM hS => ?_)
        exact ge_v E hr hlocks hf hM hS (Nat.le_of_ble_eq_true rfl) (Nat.le_of_ble_eq_true rfl) dX9_between_45
theorem c_X9_between (l : Launch) (X : gX) (c0 : Nat) (u1 : Int32) (m0 : gMem) {res : Unit × gMem} (hk0 : gk c0 = 9) (hf : f_X9_between c0 u1 m0 = some res) : Met l yX9_between (gWs yX9_between cX9_between 2 none) { frames := 1, cells := 0, slots := 0, locals := 20 } (va_Pc [.ref (X.1 + c0), .int u1] (gB X m0)) (gQv X res) 0 0 (gA X) :=
  gMet (own := RX9) (by decide +kernel) rfl (Nat.le_of_ble_eq_true rfl) (fun p e s m args below meth c ls E hr hlocks hml hM hl => b_X9_between E hr hlocks hml (Nat.le_refl _) (Nat.le_refl _) (Nat.le_refl _) (Nat.le_refl _) hk0 hf hM va_S.rf hl)
def f_X9_readsOrder (c0 : Nat) (u1 : Int32) (m0 : gMem) : Option (Unit × gMem) := g1 (f_X9_here c0 m0) (fun r3 m1 => if ¬ (u1 < 0 ∨ gl (c0 + 6) ≤ u1.toNatClampNeg) then gv (ms m1 (c0 + 6) u1.toNatClampNeg r3) (fun m6 => if r3 = (98 : Int32) then (gv (ms m6 c0 16 (0 : Int32)) (fun m8 => if (m8 c0 16) = (0 : Int32) then (gv (ms m8 c0 15 ((m8 c0 15) + (1 : Int32))) (fun m10 => if r3 = (98 : Int32) then (g1 (f_X9_digit c0 m10) (fun r15 m13 => if ¬ ((u1 + (1 : Int32)) < 0 ∨ gl (c0 + 6) ≤ (u1 + (1 : Int32)).toNatClampNeg) then gv (ms m13 (c0 + 6) (u1 + (1 : Int32)).toNatClampNeg r15) (fun m17 => g1 (f_X9_between c0 (43 : Int32) m17) (fun r20 m18 => g1 (f_X9_number c0 m18) (fun r23 m21 => if ¬ ((u1 + (2 : Int32)) < 0 ∨ gl (c0 + 6) ≤ (u1 + (2 : Int32)).toNatClampNeg) then gv (ms m21 (c0 + 6) (u1 + (2 : Int32)).toNatClampNeg r23) (fun m25 => some ((), m25)) else none))) else none)) else (if r3 = (108 : Int32) then (g1 (f_X9_digit c0 m10) (fun r29 m27 => if ¬ ((u1 + (1 : Int32)) < 0 ∨ gl (c0 + 6) ≤ (u1 + (1 : Int32)).toNatClampNeg) then gv (ms m27 (c0 + 6) (u1 + (1 : Int32)).toNatClampNeg r29) (fun m31 => g1 (f_X9_between c0 (47 : Int32) m31) (fun r34 m32 => g1 (f_X9_digit c0 m32) (fun r37 m35 => if ¬ ((u1 + (2 : Int32)) < 0 ∨ gl (c0 + 6) ≤ (u1 + (2 : Int32)).toNatClampNeg) then gv (ms m35 (c0 + 6) (u1 + (2 : Int32)).toNatClampNeg r37) (fun m39 => g1 (f_X9_between c0 (58 : Int32) m39) (fun r42 m40 => g1 (f_X9_digit c0 m40) (fun r45 m43 => if ¬ ((u1 + (3 : Int32)) < 0 ∨ gl (c0 + 6) ≤ (u1 + (3 : Int32)).toNatClampNeg) then gv (ms m43 (c0 + 6) (u1 + (3 : Int32)).toNatClampNeg r45) (fun m47 => g1 (f_X9_between c0 (42 : Int32) m47) (fun r50 m48 => g1 (f_X9_number c0 m48) (fun r53 m51 => if ¬ ((u1 + (4 : Int32)) < 0 ∨ gl (c0 + 6) ≤ (u1 + (4 : Int32)).toNatClampNeg) then gv (ms m51 (c0 + 6) (u1 + (4 : Int32)).toNatClampNeg r53) (fun m55 => some ((), m55)) else none))) else none))) else none))) else none)) else (if r3 = (115 : Int32) then (g1 (f_X9_number c0 m10) (fun r59 m57 => if ¬ ((u1 + (1 : Int32)) < 0 ∨ gl (c0 + 6) ≤ (u1 + (1 : Int32)).toNatClampNeg) then gv (ms m57 (c0 + 6) (u1 + (1 : Int32)).toNatClampNeg r59) (fun m61 => g1 (f_X9_between c0 (64 : Int32) m61) (fun r64 m62 => g1 (f_X9_digit c0 m62) (fun r67 m65 => if ¬ ((u1 + (2 : Int32)) < 0 ∨ gl (c0 + 6) ≤ (u1 + (2 : Int32)).toNatClampNeg) then gv (ms m65 (c0 + 6) (u1 + (2 : Int32)).toNatClampNeg r67) (fun m69 => some ((), m69)) else none))) else none)) else (if r3 = (116 : Int32) then (g1 (f_X9_digit c0 m10) (fun r73 m71 => if ¬ ((u1 + (1 : Int32)) < 0 ∨ gl (c0 + 6) ≤ (u1 + (1 : Int32)).toNatClampNeg) then gv (ms m71 (c0 + 6) (u1 + (1 : Int32)).toNatClampNeg r73) (fun m75 => some ((), m75)) else none)) else (g1 (f_X9_number c0 m10) (fun r78 m76 => if ¬ ((u1 + (1 : Int32)) < 0 ∨ gl (c0 + 6) ≤ (u1 + (1 : Int32)).toNatClampNeg) then gv (ms m76 (c0 + 6) (u1 + (1 : Int32)).toNatClampNeg r78) (fun m80 => some ((), m80)) else none))))))) else (gv (ms m8 c0 15 ((m8 c0 15) + (0 : Int32))) (fun m81 => if r3 = (98 : Int32) then (g1 (f_X9_digit c0 m81) (fun r86 m84 => if ¬ ((u1 + (1 : Int32)) < 0 ∨ gl (c0 + 6) ≤ (u1 + (1 : Int32)).toNatClampNeg) then gv (ms m84 (c0 + 6) (u1 + (1 : Int32)).toNatClampNeg r86) (fun m88 => g1 (f_X9_between c0 (43 : Int32) m88) (fun r91 m89 => g1 (f_X9_number c0 m89) (fun r94 m92 => if ¬ ((u1 + (2 : Int32)) < 0 ∨ gl (c0 + 6) ≤ (u1 + (2 : Int32)).toNatClampNeg) then gv (ms m92 (c0 + 6) (u1 + (2 : Int32)).toNatClampNeg r94) (fun m96 => some ((), m96)) else none))) else none)) else (if r3 = (108 : Int32) then (g1 (f_X9_digit c0 m81) (fun r100 m98 => if ¬ ((u1 + (1 : Int32)) < 0 ∨ gl (c0 + 6) ≤ (u1 + (1 : Int32)).toNatClampNeg) then gv (ms m98 (c0 + 6) (u1 + (1 : Int32)).toNatClampNeg r100) (fun m102 => g1 (f_X9_between c0 (47 : Int32) m102) (fun r105 m103 => g1 (f_X9_digit c0 m103) (fun r108 m106 => if ¬ ((u1 + (2 : Int32)) < 0 ∨ gl (c0 + 6) ≤ (u1 + (2 : Int32)).toNatClampNeg) then gv (ms m106 (c0 + 6) (u1 + (2 : Int32)).toNatClampNeg r108) (fun m110 => g1 (f_X9_between c0 (58 : Int32) m110) (fun r113 m111 => g1 (f_X9_digit c0 m111) (fun r116 m114 => if ¬ ((u1 + (3 : Int32)) < 0 ∨ gl (c0 + 6) ≤ (u1 + (3 : Int32)).toNatClampNeg) then gv (ms m114 (c0 + 6) (u1 + (3 : Int32)).toNatClampNeg r116) (fun m118 => g1 (f_X9_between c0 (42 : Int32) m118) (fun r121 m119 => g1 (f_X9_number c0 m119) (fun r124 m122 => if ¬ ((u1 + (4 : Int32)) < 0 ∨ gl (c0 + 6) ≤ (u1 + (4 : Int32)).toNatClampNeg) then gv (ms m122 (c0 + 6) (u1 + (4 : Int32)).toNatClampNeg r124) (fun m126 => some ((), m126)) else none))) else none))) else none))) else none)) else (if r3 = (115 : Int32) then (g1 (f_X9_number c0 m81) (fun r130 m128 => if ¬ ((u1 + (1 : Int32)) < 0 ∨ gl (c0 + 6) ≤ (u1 + (1 : Int32)).toNatClampNeg) then gv (ms m128 (c0 + 6) (u1 + (1 : Int32)).toNatClampNeg r130) (fun m132 => g1 (f_X9_between c0 (64 : Int32) m132) (fun r135 m133 => g1 (f_X9_digit c0 m133) (fun r138 m136 => if ¬ ((u1 + (2 : Int32)) < 0 ∨ gl (c0 + 6) ≤ (u1 + (2 : Int32)).toNatClampNeg) then gv (ms m136 (c0 + 6) (u1 + (2 : Int32)).toNatClampNeg r138) (fun m140 => some ((), m140)) else none))) else none)) else (if r3 = (116 : Int32) then (g1 (f_X9_digit c0 m81) (fun r144 m142 => if ¬ ((u1 + (1 : Int32)) < 0 ∨ gl (c0 + 6) ≤ (u1 + (1 : Int32)).toNatClampNeg) then gv (ms m142 (c0 + 6) (u1 + (1 : Int32)).toNatClampNeg r144) (fun m146 => some ((), m146)) else none)) else (g1 (f_X9_number c0 m81) (fun r149 m147 => if ¬ ((u1 + (1 : Int32)) < 0 ∨ gl (c0 + 6) ≤ (u1 + (1 : Int32)).toNatClampNeg) then gv (ms m147 (c0 + 6) (u1 + (1 : Int32)).toNatClampNeg r149) (fun m151 => some ((), m151)) else none))))))))) else (if r3 = (108 : Int32) then (gv (ms m6 c0 16 (0 : Int32)) (fun m153 => if (m153 c0 16) = (0 : Int32) then (gv (ms m153 c0 15 ((m153 c0 15) + (1 : Int32))) (fun m155 => if r3 = (98 : Int32) then (g1 (f_X9_digit c0 m155) (fun r160 m158 => if ¬ ((u1 + (1 : Int32)) < 0 ∨ gl (c0 + 6) ≤ (u1 + (1 : Int32)).toNatClampNeg) then gv (ms m158 (c0 + 6) (u1 + (1 : Int32)).toNatClampNeg r160) (fun m162 => g1 (f_X9_between c0 (43 : Int32) m162) (fun r165 m163 => g1 (f_X9_number c0 m163) (fun r168 m166 => if ¬ ((u1 + (2 : Int32)) < 0 ∨ gl (c0 + 6) ≤ (u1 + (2 : Int32)).toNatClampNeg) then gv (ms m166 (c0 + 6) (u1 + (2 : Int32)).toNatClampNeg r168) (fun m170 => some ((), m170)) else none))) else none)) else (if r3 = (108 : Int32) then (g1 (f_X9_digit c0 m155) (fun r174 m172 => if ¬ ((u1 + (1 : Int32)) < 0 ∨ gl (c0 + 6) ≤ (u1 + (1 : Int32)).toNatClampNeg) then gv (ms m172 (c0 + 6) (u1 + (1 : Int32)).toNatClampNeg r174) (fun m176 => g1 (f_X9_between c0 (47 : Int32) m176) (fun r179 m177 => g1 (f_X9_digit c0 m177) (fun r182 m180 => if ¬ ((u1 + (2 : Int32)) < 0 ∨ gl (c0 + 6) ≤ (u1 + (2 : Int32)).toNatClampNeg) then gv (ms m180 (c0 + 6) (u1 + (2 : Int32)).toNatClampNeg r182) (fun m184 => g1 (f_X9_between c0 (58 : Int32) m184) (fun r187 m185 => g1 (f_X9_digit c0 m185) (fun r190 m188 => if ¬ ((u1 + (3 : Int32)) < 0 ∨ gl (c0 + 6) ≤ (u1 + (3 : Int32)).toNatClampNeg) then gv (ms m188 (c0 + 6) (u1 + (3 : Int32)).toNatClampNeg r190) (fun m192 => g1 (f_X9_between c0 (42 : Int32) m192) (fun r195 m193 => g1 (f_X9_number c0 m193) (fun r198 m196 => if ¬ ((u1 + (4 : Int32)) < 0 ∨ gl (c0 + 6) ≤ (u1 + (4 : Int32)).toNatClampNeg) then gv (ms m196 (c0 + 6) (u1 + (4 : Int32)).toNatClampNeg r198) (fun m200 => some ((), m200)) else none))) else none))) else none))) else none)) else (if r3 = (115 : Int32) then (g1 (f_X9_number c0 m155) (fun r204 m202 => if ¬ ((u1 + (1 : Int32)) < 0 ∨ gl (c0 + 6) ≤ (u1 + (1 : Int32)).toNatClampNeg) then gv (ms m202 (c0 + 6) (u1 + (1 : Int32)).toNatClampNeg r204) (fun m206 => g1 (f_X9_between c0 (64 : Int32) m206) (fun r209 m207 => g1 (f_X9_digit c0 m207) (fun r212 m210 => if ¬ ((u1 + (2 : Int32)) < 0 ∨ gl (c0 + 6) ≤ (u1 + (2 : Int32)).toNatClampNeg) then gv (ms m210 (c0 + 6) (u1 + (2 : Int32)).toNatClampNeg r212) (fun m214 => some ((), m214)) else none))) else none)) else (if r3 = (116 : Int32) then (g1 (f_X9_digit c0 m155) (fun r218 m216 => if ¬ ((u1 + (1 : Int32)) < 0 ∨ gl (c0 + 6) ≤ (u1 + (1 : Int32)).toNatClampNeg) then gv (ms m216 (c0 + 6) (u1 + (1 : Int32)).toNatClampNeg r218) (fun m220 => some ((), m220)) else none)) else (g1 (f_X9_number c0 m155) (fun r223 m221 => if ¬ ((u1 + (1 : Int32)) < 0 ∨ gl (c0 + 6) ≤ (u1 + (1 : Int32)).toNatClampNeg) then gv (ms m221 (c0 + 6) (u1 + (1 : Int32)).toNatClampNeg r223) (fun m225 => some ((), m225)) else none))))))) else (gv (ms m153 c0 15 ((m153 c0 15) + (0 : Int32))) (fun m226 => if r3 = (98 : Int32) then (g1 (f_X9_digit c0 m226) (fun r231 m229 => if ¬ ((u1 + (1 : Int32)) < 0 ∨ gl (c0 + 6) ≤ (u1 + (1 : Int32)).toNatClampNeg) then gv (ms m229 (c0 + 6) (u1 + (1 : Int32)).toNatClampNeg r231) (fun m233 => g1 (f_X9_between c0 (43 : Int32) m233) (fun r236 m234 => g1 (f_X9_number c0 m234) (fun r239 m237 => if ¬ ((u1 + (2 : Int32)) < 0 ∨ gl (c0 + 6) ≤ (u1 + (2 : Int32)).toNatClampNeg) then gv (ms m237 (c0 + 6) (u1 + (2 : Int32)).toNatClampNeg r239) (fun m241 => some ((), m241)) else none))) else none)) else (if r3 = (108 : Int32) then (g1 (f_X9_digit c0 m226) (fun r245 m243 => if ¬ ((u1 + (1 : Int32)) < 0 ∨ gl (c0 + 6) ≤ (u1 + (1 : Int32)).toNatClampNeg) then gv (ms m243 (c0 + 6) (u1 + (1 : Int32)).toNatClampNeg r245) (fun m247 => g1 (f_X9_between c0 (47 : Int32) m247) (fun r250 m248 => g1 (f_X9_digit c0 m248) (fun r253 m251 => if ¬ ((u1 + (2 : Int32)) < 0 ∨ gl (c0 + 6) ≤ (u1 + (2 : Int32)).toNatClampNeg) then gv (ms m251 (c0 + 6) (u1 + (2 : Int32)).toNatClampNeg r253) (fun m255 => g1 (f_X9_between c0 (58 : Int32) m255) (fun r258 m256 => g1 (f_X9_digit c0 m256) (fun r261 m259 => if ¬ ((u1 + (3 : Int32)) < 0 ∨ gl (c0 + 6) ≤ (u1 + (3 : Int32)).toNatClampNeg) then gv (ms m259 (c0 + 6) (u1 + (3 : Int32)).toNatClampNeg r261) (fun m263 => g1 (f_X9_between c0 (42 : Int32) m263) (fun r266 m264 => g1 (f_X9_number c0 m264) (fun r269 m267 => if ¬ ((u1 + (4 : Int32)) < 0 ∨ gl (c0 + 6) ≤ (u1 + (4 : Int32)).toNatClampNeg) then gv (ms m267 (c0 + 6) (u1 + (4 : Int32)).toNatClampNeg r269) (fun m271 => some ((), m271)) else none))) else none))) else none))) else none)) else (if r3 = (115 : Int32) then (g1 (f_X9_number c0 m226) (fun r275 m273 => if ¬ ((u1 + (1 : Int32)) < 0 ∨ gl (c0 + 6) ≤ (u1 + (1 : Int32)).toNatClampNeg) then gv (ms m273 (c0 + 6) (u1 + (1 : Int32)).toNatClampNeg r275) (fun m277 => g1 (f_X9_between c0 (64 : Int32) m277) (fun r280 m278 => g1 (f_X9_digit c0 m278) (fun r283 m281 => if ¬ ((u1 + (2 : Int32)) < 0 ∨ gl (c0 + 6) ≤ (u1 + (2 : Int32)).toNatClampNeg) then gv (ms m281 (c0 + 6) (u1 + (2 : Int32)).toNatClampNeg r283) (fun m285 => some ((), m285)) else none))) else none)) else (if r3 = (116 : Int32) then (g1 (f_X9_digit c0 m226) (fun r289 m287 => if ¬ ((u1 + (1 : Int32)) < 0 ∨ gl (c0 + 6) ≤ (u1 + (1 : Int32)).toNatClampNeg) then gv (ms m287 (c0 + 6) (u1 + (1 : Int32)).toNatClampNeg r289) (fun m291 => some ((), m291)) else none)) else (g1 (f_X9_number c0 m226) (fun r294 m292 => if ¬ ((u1 + (1 : Int32)) < 0 ∨ gl (c0 + 6) ≤ (u1 + (1 : Int32)).toNatClampNeg) then gv (ms m292 (c0 + 6) (u1 + (1 : Int32)).toNatClampNeg r294) (fun m296 => some ((), m296)) else none))))))))) else (if r3 = (116 : Int32) then (gv (ms m6 c0 16 (0 : Int32)) (fun m298 => if (m298 c0 16) = (0 : Int32) then (gv (ms m298 c0 15 ((m298 c0 15) + (1 : Int32))) (fun m300 => if r3 = (98 : Int32) then (g1 (f_X9_digit c0 m300) (fun r305 m303 => if ¬ ((u1 + (1 : Int32)) < 0 ∨ gl (c0 + 6) ≤ (u1 + (1 : Int32)).toNatClampNeg) then gv (ms m303 (c0 + 6) (u1 + (1 : Int32)).toNatClampNeg r305) (fun m307 => g1 (f_X9_between c0 (43 : Int32) m307) (fun r310 m308 => g1 (f_X9_number c0 m308) (fun r313 m311 => if ¬ ((u1 + (2 : Int32)) < 0 ∨ gl (c0 + 6) ≤ (u1 + (2 : Int32)).toNatClampNeg) then gv (ms m311 (c0 + 6) (u1 + (2 : Int32)).toNatClampNeg r313) (fun m315 => some ((), m315)) else none))) else none)) else (if r3 = (108 : Int32) then (g1 (f_X9_digit c0 m300) (fun r319 m317 => if ¬ ((u1 + (1 : Int32)) < 0 ∨ gl (c0 + 6) ≤ (u1 + (1 : Int32)).toNatClampNeg) then gv (ms m317 (c0 + 6) (u1 + (1 : Int32)).toNatClampNeg r319) (fun m321 => g1 (f_X9_between c0 (47 : Int32) m321) (fun r324 m322 => g1 (f_X9_digit c0 m322) (fun r327 m325 => if ¬ ((u1 + (2 : Int32)) < 0 ∨ gl (c0 + 6) ≤ (u1 + (2 : Int32)).toNatClampNeg) then gv (ms m325 (c0 + 6) (u1 + (2 : Int32)).toNatClampNeg r327) (fun m329 => g1 (f_X9_between c0 (58 : Int32) m329) (fun r332 m330 => g1 (f_X9_digit c0 m330) (fun r335 m333 => if ¬ ((u1 + (3 : Int32)) < 0 ∨ gl (c0 + 6) ≤ (u1 + (3 : Int32)).toNatClampNeg) then gv (ms m333 (c0 + 6) (u1 + (3 : Int32)).toNatClampNeg r335) (fun m337 => g1 (f_X9_between c0 (42 : Int32) m337) (fun r340 m338 => g1 (f_X9_number c0 m338) (fun r343 m341 => if ¬ ((u1 + (4 : Int32)) < 0 ∨ gl (c0 + 6) ≤ (u1 + (4 : Int32)).toNatClampNeg) then gv (ms m341 (c0 + 6) (u1 + (4 : Int32)).toNatClampNeg r343) (fun m345 => some ((), m345)) else none))) else none))) else none))) else none)) else (if r3 = (115 : Int32) then (g1 (f_X9_number c0 m300) (fun r349 m347 => if ¬ ((u1 + (1 : Int32)) < 0 ∨ gl (c0 + 6) ≤ (u1 + (1 : Int32)).toNatClampNeg) then gv (ms m347 (c0 + 6) (u1 + (1 : Int32)).toNatClampNeg r349) (fun m351 => g1 (f_X9_between c0 (64 : Int32) m351) (fun r354 m352 => g1 (f_X9_digit c0 m352) (fun r357 m355 => if ¬ ((u1 + (2 : Int32)) < 0 ∨ gl (c0 + 6) ≤ (u1 + (2 : Int32)).toNatClampNeg) then gv (ms m355 (c0 + 6) (u1 + (2 : Int32)).toNatClampNeg r357) (fun m359 => some ((), m359)) else none))) else none)) else (if r3 = (116 : Int32) then (g1 (f_X9_digit c0 m300) (fun r363 m361 => if ¬ ((u1 + (1 : Int32)) < 0 ∨ gl (c0 + 6) ≤ (u1 + (1 : Int32)).toNatClampNeg) then gv (ms m361 (c0 + 6) (u1 + (1 : Int32)).toNatClampNeg r363) (fun m365 => some ((), m365)) else none)) else (g1 (f_X9_number c0 m300) (fun r368 m366 => if ¬ ((u1 + (1 : Int32)) < 0 ∨ gl (c0 + 6) ≤ (u1 + (1 : Int32)).toNatClampNeg) then gv (ms m366 (c0 + 6) (u1 + (1 : Int32)).toNatClampNeg r368) (fun m370 => some ((), m370)) else none))))))) else (gv (ms m298 c0 15 ((m298 c0 15) + (0 : Int32))) (fun m371 => if r3 = (98 : Int32) then (g1 (f_X9_digit c0 m371) (fun r376 m374 => if ¬ ((u1 + (1 : Int32)) < 0 ∨ gl (c0 + 6) ≤ (u1 + (1 : Int32)).toNatClampNeg) then gv (ms m374 (c0 + 6) (u1 + (1 : Int32)).toNatClampNeg r376) (fun m378 => g1 (f_X9_between c0 (43 : Int32) m378) (fun r381 m379 => g1 (f_X9_number c0 m379) (fun r384 m382 => if ¬ ((u1 + (2 : Int32)) < 0 ∨ gl (c0 + 6) ≤ (u1 + (2 : Int32)).toNatClampNeg) then gv (ms m382 (c0 + 6) (u1 + (2 : Int32)).toNatClampNeg r384) (fun m386 => some ((), m386)) else none))) else none)) else (if r3 = (108 : Int32) then (g1 (f_X9_digit c0 m371) (fun r390 m388 => if ¬ ((u1 + (1 : Int32)) < 0 ∨ gl (c0 + 6) ≤ (u1 + (1 : Int32)).toNatClampNeg) then gv (ms m388 (c0 + 6) (u1 + (1 : Int32)).toNatClampNeg r390) (fun m392 => g1 (f_X9_between c0 (47 : Int32) m392) (fun r395 m393 => g1 (f_X9_digit c0 m393) (fun r398 m396 => if ¬ ((u1 + (2 : Int32)) < 0 ∨ gl (c0 + 6) ≤ (u1 + (2 : Int32)).toNatClampNeg) then gv (ms m396 (c0 + 6) (u1 + (2 : Int32)).toNatClampNeg r398) (fun m400 => g1 (f_X9_between c0 (58 : Int32) m400) (fun r403 m401 => g1 (f_X9_digit c0 m401) (fun r406 m404 => if ¬ ((u1 + (3 : Int32)) < 0 ∨ gl (c0 + 6) ≤ (u1 + (3 : Int32)).toNatClampNeg) then gv (ms m404 (c0 + 6) (u1 + (3 : Int32)).toNatClampNeg r406) (fun m408 => g1 (f_X9_between c0 (42 : Int32) m408) (fun r411 m409 => g1 (f_X9_number c0 m409) (fun r414 m412 => if ¬ ((u1 + (4 : Int32)) < 0 ∨ gl (c0 + 6) ≤ (u1 + (4 : Int32)).toNatClampNeg) then gv (ms m412 (c0 + 6) (u1 + (4 : Int32)).toNatClampNeg r414) (fun m416 => some ((), m416)) else none))) else none))) else none))) else none)) else (if r3 = (115 : Int32) then (g1 (f_X9_number c0 m371) (fun r420 m418 => if ¬ ((u1 + (1 : Int32)) < 0 ∨ gl (c0 + 6) ≤ (u1 + (1 : Int32)).toNatClampNeg) then gv (ms m418 (c0 + 6) (u1 + (1 : Int32)).toNatClampNeg r420) (fun m422 => g1 (f_X9_between c0 (64 : Int32) m422) (fun r425 m423 => g1 (f_X9_digit c0 m423) (fun r428 m426 => if ¬ ((u1 + (2 : Int32)) < 0 ∨ gl (c0 + 6) ≤ (u1 + (2 : Int32)).toNatClampNeg) then gv (ms m426 (c0 + 6) (u1 + (2 : Int32)).toNatClampNeg r428) (fun m430 => some ((), m430)) else none))) else none)) else (if r3 = (116 : Int32) then (g1 (f_X9_digit c0 m371) (fun r434 m432 => if ¬ ((u1 + (1 : Int32)) < 0 ∨ gl (c0 + 6) ≤ (u1 + (1 : Int32)).toNatClampNeg) then gv (ms m432 (c0 + 6) (u1 + (1 : Int32)).toNatClampNeg r434) (fun m436 => some ((), m436)) else none)) else (g1 (f_X9_number c0 m371) (fun r439 m437 => if ¬ ((u1 + (1 : Int32)) < 0 ∨ gl (c0 + 6) ≤ (u1 + (1 : Int32)).toNatClampNeg) then gv (ms m437 (c0 + 6) (u1 + (1 : Int32)).toNatClampNeg r439) (fun m441 => some ((), m441)) else none))))))))) else (if r3 = (115 : Int32) then (gv (ms m6 c0 16 (0 : Int32)) (fun m443 => if (m443 c0 16) = (0 : Int32) then (gv (ms m443 c0 15 ((m443 c0 15) + (1 : Int32))) (fun m445 => if r3 = (98 : Int32) then (g1 (f_X9_digit c0 m445) (fun r450 m448 => if ¬ ((u1 + (1 : Int32)) < 0 ∨ gl (c0 + 6) ≤ (u1 + (1 : Int32)).toNatClampNeg) then gv (ms m448 (c0 + 6) (u1 + (1 : Int32)).toNatClampNeg r450) (fun m452 => g1 (f_X9_between c0 (43 : Int32) m452) (fun r455 m453 => g1 (f_X9_number c0 m453) (fun r458 m456 => if ¬ ((u1 + (2 : Int32)) < 0 ∨ gl (c0 + 6) ≤ (u1 + (2 : Int32)).toNatClampNeg) then gv (ms m456 (c0 + 6) (u1 + (2 : Int32)).toNatClampNeg r458) (fun m460 => some ((), m460)) else none))) else none)) else (if r3 = (108 : Int32) then (g1 (f_X9_digit c0 m445) (fun r464 m462 => if ¬ ((u1 + (1 : Int32)) < 0 ∨ gl (c0 + 6) ≤ (u1 + (1 : Int32)).toNatClampNeg) then gv (ms m462 (c0 + 6) (u1 + (1 : Int32)).toNatClampNeg r464) (fun m466 => g1 (f_X9_between c0 (47 : Int32) m466) (fun r469 m467 => g1 (f_X9_digit c0 m467) (fun r472 m470 => if ¬ ((u1 + (2 : Int32)) < 0 ∨ gl (c0 + 6) ≤ (u1 + (2 : Int32)).toNatClampNeg) then gv (ms m470 (c0 + 6) (u1 + (2 : Int32)).toNatClampNeg r472) (fun m474 => g1 (f_X9_between c0 (58 : Int32) m474) (fun r477 m475 => g1 (f_X9_digit c0 m475) (fun r480 m478 => if ¬ ((u1 + (3 : Int32)) < 0 ∨ gl (c0 + 6) ≤ (u1 + (3 : Int32)).toNatClampNeg) then gv (ms m478 (c0 + 6) (u1 + (3 : Int32)).toNatClampNeg r480) (fun m482 => g1 (f_X9_between c0 (42 : Int32) m482) (fun r485 m483 => g1 (f_X9_number c0 m483) (fun r488 m486 => if ¬ ((u1 + (4 : Int32)) < 0 ∨ gl (c0 + 6) ≤ (u1 + (4 : Int32)).toNatClampNeg) then gv (ms m486 (c0 + 6) (u1 + (4 : Int32)).toNatClampNeg r488) (fun m490 => some ((), m490)) else none))) else none))) else none))) else none)) else (if r3 = (115 : Int32) then (g1 (f_X9_number c0 m445) (fun r494 m492 => if ¬ ((u1 + (1 : Int32)) < 0 ∨ gl (c0 + 6) ≤ (u1 + (1 : Int32)).toNatClampNeg) then gv (ms m492 (c0 + 6) (u1 + (1 : Int32)).toNatClampNeg r494) (fun m496 => g1 (f_X9_between c0 (64 : Int32) m496) (fun r499 m497 => g1 (f_X9_digit c0 m497) (fun r502 m500 => if ¬ ((u1 + (2 : Int32)) < 0 ∨ gl (c0 + 6) ≤ (u1 + (2 : Int32)).toNatClampNeg) then gv (ms m500 (c0 + 6) (u1 + (2 : Int32)).toNatClampNeg r502) (fun m504 => some ((), m504)) else none))) else none)) else (if r3 = (116 : Int32) then (g1 (f_X9_digit c0 m445) (fun r508 m506 => if ¬ ((u1 + (1 : Int32)) < 0 ∨ gl (c0 + 6) ≤ (u1 + (1 : Int32)).toNatClampNeg) then gv (ms m506 (c0 + 6) (u1 + (1 : Int32)).toNatClampNeg r508) (fun m510 => some ((), m510)) else none)) else (g1 (f_X9_number c0 m445) (fun r513 m511 => if ¬ ((u1 + (1 : Int32)) < 0 ∨ gl (c0 + 6) ≤ (u1 + (1 : Int32)).toNatClampNeg) then gv (ms m511 (c0 + 6) (u1 + (1 : Int32)).toNatClampNeg r513) (fun m515 => some ((), m515)) else none))))))) else (gv (ms m443 c0 15 ((m443 c0 15) + (0 : Int32))) (fun m516 => if r3 = (98 : Int32) then (g1 (f_X9_digit c0 m516) (fun r521 m519 => if ¬ ((u1 + (1 : Int32)) < 0 ∨ gl (c0 + 6) ≤ (u1 + (1 : Int32)).toNatClampNeg) then gv (ms m519 (c0 + 6) (u1 + (1 : Int32)).toNatClampNeg r521) (fun m523 => g1 (f_X9_between c0 (43 : Int32) m523) (fun r526 m524 => g1 (f_X9_number c0 m524) (fun r529 m527 => if ¬ ((u1 + (2 : Int32)) < 0 ∨ gl (c0 + 6) ≤ (u1 + (2 : Int32)).toNatClampNeg) then gv (ms m527 (c0 + 6) (u1 + (2 : Int32)).toNatClampNeg r529) (fun m531 => some ((), m531)) else none))) else none)) else (if r3 = (108 : Int32) then (g1 (f_X9_digit c0 m516) (fun r535 m533 => if ¬ ((u1 + (1 : Int32)) < 0 ∨ gl (c0 + 6) ≤ (u1 + (1 : Int32)).toNatClampNeg) then gv (ms m533 (c0 + 6) (u1 + (1 : Int32)).toNatClampNeg r535) (fun m537 => g1 (f_X9_between c0 (47 : Int32) m537) (fun r540 m538 => g1 (f_X9_digit c0 m538) (fun r543 m541 => if ¬ ((u1 + (2 : Int32)) < 0 ∨ gl (c0 + 6) ≤ (u1 + (2 : Int32)).toNatClampNeg) then gv (ms m541 (c0 + 6) (u1 + (2 : Int32)).toNatClampNeg r543) (fun m545 => g1 (f_X9_between c0 (58 : Int32) m545) (fun r548 m546 => g1 (f_X9_digit c0 m546) (fun r551 m549 => if ¬ ((u1 + (3 : Int32)) < 0 ∨ gl (c0 + 6) ≤ (u1 + (3 : Int32)).toNatClampNeg) then gv (ms m549 (c0 + 6) (u1 + (3 : Int32)).toNatClampNeg r551) (fun m553 => g1 (f_X9_between c0 (42 : Int32) m553) (fun r556 m554 => g1 (f_X9_number c0 m554) (fun r559 m557 => if ¬ ((u1 + (4 : Int32)) < 0 ∨ gl (c0 + 6) ≤ (u1 + (4 : Int32)).toNatClampNeg) then gv (ms m557 (c0 + 6) (u1 + (4 : Int32)).toNatClampNeg r559) (fun m561 => some ((), m561)) else none))) else none))) else none))) else none)) else (if r3 = (115 : Int32) then (g1 (f_X9_number c0 m516) (fun r565 m563 => if ¬ ((u1 + (1 : Int32)) < 0 ∨ gl (c0 + 6) ≤ (u1 + (1 : Int32)).toNatClampNeg) then gv (ms m563 (c0 + 6) (u1 + (1 : Int32)).toNatClampNeg r565) (fun m567 => g1 (f_X9_between c0 (64 : Int32) m567) (fun r570 m568 => g1 (f_X9_digit c0 m568) (fun r573 m571 => if ¬ ((u1 + (2 : Int32)) < 0 ∨ gl (c0 + 6) ≤ (u1 + (2 : Int32)).toNatClampNeg) then gv (ms m571 (c0 + 6) (u1 + (2 : Int32)).toNatClampNeg r573) (fun m575 => some ((), m575)) else none))) else none)) else (if r3 = (116 : Int32) then (g1 (f_X9_digit c0 m516) (fun r579 m577 => if ¬ ((u1 + (1 : Int32)) < 0 ∨ gl (c0 + 6) ≤ (u1 + (1 : Int32)).toNatClampNeg) then gv (ms m577 (c0 + 6) (u1 + (1 : Int32)).toNatClampNeg r579) (fun m581 => some ((), m581)) else none)) else (g1 (f_X9_number c0 m516) (fun r584 m582 => if ¬ ((u1 + (1 : Int32)) < 0 ∨ gl (c0 + 6) ≤ (u1 + (1 : Int32)).toNatClampNeg) then gv (ms m582 (c0 + 6) (u1 + (1 : Int32)).toNatClampNeg r584) (fun m586 => some ((), m586)) else none))))))))) else (if r3 = (104 : Int32) then (gv (ms m6 c0 16 (0 : Int32)) (fun m588 => if (m588 c0 16) = (0 : Int32) then (gv (ms m588 c0 15 ((m588 c0 15) + (1 : Int32))) (fun m590 => if r3 = (98 : Int32) then (g1 (f_X9_digit c0 m590) (fun r595 m593 => if ¬ ((u1 + (1 : Int32)) < 0 ∨ gl (c0 + 6) ≤ (u1 + (1 : Int32)).toNatClampNeg) then gv (ms m593 (c0 + 6) (u1 + (1 : Int32)).toNatClampNeg r595) (fun m597 => g1 (f_X9_between c0 (43 : Int32) m597) (fun r600 m598 => g1 (f_X9_number c0 m598) (fun r603 m601 => if ¬ ((u1 + (2 : Int32)) < 0 ∨ gl (c0 + 6) ≤ (u1 + (2 : Int32)).toNatClampNeg) then gv (ms m601 (c0 + 6) (u1 + (2 : Int32)).toNatClampNeg r603) (fun m605 => some ((), m605)) else none))) else none)) else (if r3 = (108 : Int32) then (g1 (f_X9_digit c0 m590) (fun r609 m607 => if ¬ ((u1 + (1 : Int32)) < 0 ∨ gl (c0 + 6) ≤ (u1 + (1 : Int32)).toNatClampNeg) then gv (ms m607 (c0 + 6) (u1 + (1 : Int32)).toNatClampNeg r609) (fun m611 => g1 (f_X9_between c0 (47 : Int32) m611) (fun r614 m612 => g1 (f_X9_digit c0 m612) (fun r617 m615 => if ¬ ((u1 + (2 : Int32)) < 0 ∨ gl (c0 + 6) ≤ (u1 + (2 : Int32)).toNatClampNeg) then gv (ms m615 (c0 + 6) (u1 + (2 : Int32)).toNatClampNeg r617) (fun m619 => g1 (f_X9_between c0 (58 : Int32) m619) (fun r622 m620 => g1 (f_X9_digit c0 m620) (fun r625 m623 => if ¬ ((u1 + (3 : Int32)) < 0 ∨ gl (c0 + 6) ≤ (u1 + (3 : Int32)).toNatClampNeg) then gv (ms m623 (c0 + 6) (u1 + (3 : Int32)).toNatClampNeg r625) (fun m627 => g1 (f_X9_between c0 (42 : Int32) m627) (fun r630 m628 => g1 (f_X9_number c0 m628) (fun r633 m631 => if ¬ ((u1 + (4 : Int32)) < 0 ∨ gl (c0 + 6) ≤ (u1 + (4 : Int32)).toNatClampNeg) then gv (ms m631 (c0 + 6) (u1 + (4 : Int32)).toNatClampNeg r633) (fun m635 => some ((), m635)) else none))) else none))) else none))) else none)) else (if r3 = (115 : Int32) then (g1 (f_X9_number c0 m590) (fun r639 m637 => if ¬ ((u1 + (1 : Int32)) < 0 ∨ gl (c0 + 6) ≤ (u1 + (1 : Int32)).toNatClampNeg) then gv (ms m637 (c0 + 6) (u1 + (1 : Int32)).toNatClampNeg r639) (fun m641 => g1 (f_X9_between c0 (64 : Int32) m641) (fun r644 m642 => g1 (f_X9_digit c0 m642) (fun r647 m645 => if ¬ ((u1 + (2 : Int32)) < 0 ∨ gl (c0 + 6) ≤ (u1 + (2 : Int32)).toNatClampNeg) then gv (ms m645 (c0 + 6) (u1 + (2 : Int32)).toNatClampNeg r647) (fun m649 => some ((), m649)) else none))) else none)) else (if r3 = (116 : Int32) then (g1 (f_X9_digit c0 m590) (fun r653 m651 => if ¬ ((u1 + (1 : Int32)) < 0 ∨ gl (c0 + 6) ≤ (u1 + (1 : Int32)).toNatClampNeg) then gv (ms m651 (c0 + 6) (u1 + (1 : Int32)).toNatClampNeg r653) (fun m655 => some ((), m655)) else none)) else (g1 (f_X9_number c0 m590) (fun r658 m656 => if ¬ ((u1 + (1 : Int32)) < 0 ∨ gl (c0 + 6) ≤ (u1 + (1 : Int32)).toNatClampNeg) then gv (ms m656 (c0 + 6) (u1 + (1 : Int32)).toNatClampNeg r658) (fun m660 => some ((), m660)) else none))))))) else (gv (ms m588 c0 15 ((m588 c0 15) + (0 : Int32))) (fun m661 => if r3 = (98 : Int32) then (g1 (f_X9_digit c0 m661) (fun r666 m664 => if ¬ ((u1 + (1 : Int32)) < 0 ∨ gl (c0 + 6) ≤ (u1 + (1 : Int32)).toNatClampNeg) then gv (ms m664 (c0 + 6) (u1 + (1 : Int32)).toNatClampNeg r666) (fun m668 => g1 (f_X9_between c0 (43 : Int32) m668) (fun r671 m669 => g1 (f_X9_number c0 m669) (fun r674 m672 => if ¬ ((u1 + (2 : Int32)) < 0 ∨ gl (c0 + 6) ≤ (u1 + (2 : Int32)).toNatClampNeg) then gv (ms m672 (c0 + 6) (u1 + (2 : Int32)).toNatClampNeg r674) (fun m676 => some ((), m676)) else none))) else none)) else (if r3 = (108 : Int32) then (g1 (f_X9_digit c0 m661) (fun r680 m678 => if ¬ ((u1 + (1 : Int32)) < 0 ∨ gl (c0 + 6) ≤ (u1 + (1 : Int32)).toNatClampNeg) then gv (ms m678 (c0 + 6) (u1 + (1 : Int32)).toNatClampNeg r680) (fun m682 => g1 (f_X9_between c0 (47 : Int32) m682) (fun r685 m683 => g1 (f_X9_digit c0 m683) (fun r688 m686 => if ¬ ((u1 + (2 : Int32)) < 0 ∨ gl (c0 + 6) ≤ (u1 + (2 : Int32)).toNatClampNeg) then gv (ms m686 (c0 + 6) (u1 + (2 : Int32)).toNatClampNeg r688) (fun m690 => g1 (f_X9_between c0 (58 : Int32) m690) (fun r693 m691 => g1 (f_X9_digit c0 m691) (fun r696 m694 => if ¬ ((u1 + (3 : Int32)) < 0 ∨ gl (c0 + 6) ≤ (u1 + (3 : Int32)).toNatClampNeg) then gv (ms m694 (c0 + 6) (u1 + (3 : Int32)).toNatClampNeg r696) (fun m698 => g1 (f_X9_between c0 (42 : Int32) m698) (fun r701 m699 => g1 (f_X9_number c0 m699) (fun r704 m702 => if ¬ ((u1 + (4 : Int32)) < 0 ∨ gl (c0 + 6) ≤ (u1 + (4 : Int32)).toNatClampNeg) then gv (ms m702 (c0 + 6) (u1 + (4 : Int32)).toNatClampNeg r704) (fun m706 => some ((), m706)) else none))) else none))) else none))) else none)) else (if r3 = (115 : Int32) then (g1 (f_X9_number c0 m661) (fun r710 m708 => if ¬ ((u1 + (1 : Int32)) < 0 ∨ gl (c0 + 6) ≤ (u1 + (1 : Int32)).toNatClampNeg) then gv (ms m708 (c0 + 6) (u1 + (1 : Int32)).toNatClampNeg r710) (fun m712 => g1 (f_X9_between c0 (64 : Int32) m712) (fun r715 m713 => g1 (f_X9_digit c0 m713) (fun r718 m716 => if ¬ ((u1 + (2 : Int32)) < 0 ∨ gl (c0 + 6) ≤ (u1 + (2 : Int32)).toNatClampNeg) then gv (ms m716 (c0 + 6) (u1 + (2 : Int32)).toNatClampNeg r718) (fun m720 => some ((), m720)) else none))) else none)) else (if r3 = (116 : Int32) then (g1 (f_X9_digit c0 m661) (fun r724 m722 => if ¬ ((u1 + (1 : Int32)) < 0 ∨ gl (c0 + 6) ≤ (u1 + (1 : Int32)).toNatClampNeg) then gv (ms m722 (c0 + 6) (u1 + (1 : Int32)).toNatClampNeg r724) (fun m726 => some ((), m726)) else none)) else (g1 (f_X9_number c0 m661) (fun r729 m727 => if ¬ ((u1 + (1 : Int32)) < 0 ∨ gl (c0 + 6) ≤ (u1 + (1 : Int32)).toNatClampNeg) then gv (ms m727 (c0 + 6) (u1 + (1 : Int32)).toNatClampNeg r729) (fun m731 => some ((), m731)) else none))))))))) else (gv (ms m6 c0 16 (1 : Int32)) (fun m732 => if (m732 c0 16) = (0 : Int32) then (gv (ms m732 c0 15 ((m732 c0 15) + (1 : Int32))) (fun m734 => if r3 = (98 : Int32) then (g1 (f_X9_digit c0 m734) (fun r739 m737 => if ¬ ((u1 + (1 : Int32)) < 0 ∨ gl (c0 + 6) ≤ (u1 + (1 : Int32)).toNatClampNeg) then gv (ms m737 (c0 + 6) (u1 + (1 : Int32)).toNatClampNeg r739) (fun m741 => g1 (f_X9_between c0 (43 : Int32) m741) (fun r744 m742 => g1 (f_X9_number c0 m742) (fun r747 m745 => if ¬ ((u1 + (2 : Int32)) < 0 ∨ gl (c0 + 6) ≤ (u1 + (2 : Int32)).toNatClampNeg) then gv (ms m745 (c0 + 6) (u1 + (2 : Int32)).toNatClampNeg r747) (fun m749 => some ((), m749)) else none))) else none)) else (if r3 = (108 : Int32) then (g1 (f_X9_digit c0 m734) (fun r753 m751 => if ¬ ((u1 + (1 : Int32)) < 0 ∨ gl (c0 + 6) ≤ (u1 + (1 : Int32)).toNatClampNeg) then gv (ms m751 (c0 + 6) (u1 + (1 : Int32)).toNatClampNeg r753) (fun m755 => g1 (f_X9_between c0 (47 : Int32) m755) (fun r758 m756 => g1 (f_X9_digit c0 m756) (fun r761 m759 => if ¬ ((u1 + (2 : Int32)) < 0 ∨ gl (c0 + 6) ≤ (u1 + (2 : Int32)).toNatClampNeg) then gv (ms m759 (c0 + 6) (u1 + (2 : Int32)).toNatClampNeg r761) (fun m763 => g1 (f_X9_between c0 (58 : Int32) m763) (fun r766 m764 => g1 (f_X9_digit c0 m764) (fun r769 m767 => if ¬ ((u1 + (3 : Int32)) < 0 ∨ gl (c0 + 6) ≤ (u1 + (3 : Int32)).toNatClampNeg) then gv (ms m767 (c0 + 6) (u1 + (3 : Int32)).toNatClampNeg r769) (fun m771 => g1 (f_X9_between c0 (42 : Int32) m771) (fun r774 m772 => g1 (f_X9_number c0 m772) (fun r777 m775 => if ¬ ((u1 + (4 : Int32)) < 0 ∨ gl (c0 + 6) ≤ (u1 + (4 : Int32)).toNatClampNeg) then gv (ms m775 (c0 + 6) (u1 + (4 : Int32)).toNatClampNeg r777) (fun m779 => some ((), m779)) else none))) else none))) else none))) else none)) else (if r3 = (115 : Int32) then (g1 (f_X9_number c0 m734) (fun r783 m781 => if ¬ ((u1 + (1 : Int32)) < 0 ∨ gl (c0 + 6) ≤ (u1 + (1 : Int32)).toNatClampNeg) then gv (ms m781 (c0 + 6) (u1 + (1 : Int32)).toNatClampNeg r783) (fun m785 => g1 (f_X9_between c0 (64 : Int32) m785) (fun r788 m786 => g1 (f_X9_digit c0 m786) (fun r791 m789 => if ¬ ((u1 + (2 : Int32)) < 0 ∨ gl (c0 + 6) ≤ (u1 + (2 : Int32)).toNatClampNeg) then gv (ms m789 (c0 + 6) (u1 + (2 : Int32)).toNatClampNeg r791) (fun m793 => some ((), m793)) else none))) else none)) else (if r3 = (116 : Int32) then (g1 (f_X9_digit c0 m734) (fun r797 m795 => if ¬ ((u1 + (1 : Int32)) < 0 ∨ gl (c0 + 6) ≤ (u1 + (1 : Int32)).toNatClampNeg) then gv (ms m795 (c0 + 6) (u1 + (1 : Int32)).toNatClampNeg r797) (fun m799 => some ((), m799)) else none)) else (g1 (f_X9_number c0 m734) (fun r802 m800 => if ¬ ((u1 + (1 : Int32)) < 0 ∨ gl (c0 + 6) ≤ (u1 + (1 : Int32)).toNatClampNeg) then gv (ms m800 (c0 + 6) (u1 + (1 : Int32)).toNatClampNeg r802) (fun m804 => some ((), m804)) else none))))))) else (gv (ms m732 c0 15 ((m732 c0 15) + (0 : Int32))) (fun m805 => if r3 = (98 : Int32) then (g1 (f_X9_digit c0 m805) (fun r810 m808 => if ¬ ((u1 + (1 : Int32)) < 0 ∨ gl (c0 + 6) ≤ (u1 + (1 : Int32)).toNatClampNeg) then gv (ms m808 (c0 + 6) (u1 + (1 : Int32)).toNatClampNeg r810) (fun m812 => g1 (f_X9_between c0 (43 : Int32) m812) (fun r815 m813 => g1 (f_X9_number c0 m813) (fun r818 m816 => if ¬ ((u1 + (2 : Int32)) < 0 ∨ gl (c0 + 6) ≤ (u1 + (2 : Int32)).toNatClampNeg) then gv (ms m816 (c0 + 6) (u1 + (2 : Int32)).toNatClampNeg r818) (fun m820 => some ((), m820)) else none))) else none)) else (if r3 = (108 : Int32) then (g1 (f_X9_digit c0 m805) (fun r824 m822 => if ¬ ((u1 + (1 : Int32)) < 0 ∨ gl (c0 + 6) ≤ (u1 + (1 : Int32)).toNatClampNeg) then gv (ms m822 (c0 + 6) (u1 + (1 : Int32)).toNatClampNeg r824) (fun m826 => g1 (f_X9_between c0 (47 : Int32) m826) (fun r829 m827 => g1 (f_X9_digit c0 m827) (fun r832 m830 => if ¬ ((u1 + (2 : Int32)) < 0 ∨ gl (c0 + 6) ≤ (u1 + (2 : Int32)).toNatClampNeg) then gv (ms m830 (c0 + 6) (u1 + (2 : Int32)).toNatClampNeg r832) (fun m834 => g1 (f_X9_between c0 (58 : Int32) m834) (fun r837 m835 => g1 (f_X9_digit c0 m835) (fun r840 m838 => if ¬ ((u1 + (3 : Int32)) < 0 ∨ gl (c0 + 6) ≤ (u1 + (3 : Int32)).toNatClampNeg) then gv (ms m838 (c0 + 6) (u1 + (3 : Int32)).toNatClampNeg r840) (fun m842 => g1 (f_X9_between c0 (42 : Int32) m842) (fun r845 m843 => g1 (f_X9_number c0 m843) (fun r848 m846 => if ¬ ((u1 + (4 : Int32)) < 0 ∨ gl (c0 + 6) ≤ (u1 + (4 : Int32)).toNatClampNeg) then gv (ms m846 (c0 + 6) (u1 + (4 : Int32)).toNatClampNeg r848) (fun m850 => some ((), m850)) else none))) else none))) else none))) else none)) else (if r3 = (115 : Int32) then (g1 (f_X9_number c0 m805) (fun r854 m852 => if ¬ ((u1 + (1 : Int32)) < 0 ∨ gl (c0 + 6) ≤ (u1 + (1 : Int32)).toNatClampNeg) then gv (ms m852 (c0 + 6) (u1 + (1 : Int32)).toNatClampNeg r854) (fun m856 => g1 (f_X9_between c0 (64 : Int32) m856) (fun r859 m857 => g1 (f_X9_digit c0 m857) (fun r862 m860 => if ¬ ((u1 + (2 : Int32)) < 0 ∨ gl (c0 + 6) ≤ (u1 + (2 : Int32)).toNatClampNeg) then gv (ms m860 (c0 + 6) (u1 + (2 : Int32)).toNatClampNeg r862) (fun m864 => some ((), m864)) else none))) else none)) else (if r3 = (116 : Int32) then (g1 (f_X9_digit c0 m805) (fun r868 m866 => if ¬ ((u1 + (1 : Int32)) < 0 ∨ gl (c0 + 6) ≤ (u1 + (1 : Int32)).toNatClampNeg) then gv (ms m866 (c0 + 6) (u1 + (1 : Int32)).toNatClampNeg r868) (fun m870 => some ((), m870)) else none)) else (g1 (f_X9_number c0 m805) (fun r873 m871 => if ¬ ((u1 + (1 : Int32)) < 0 ∨ gl (c0 + 6) ≤ (u1 + (1 : Int32)).toNatClampNeg) then gv (ms m871 (c0 + 6) (u1 + (1 : Int32)).toNatClampNeg r873) (fun m875 => some ((), m875)) else none)))))))))))))) else none)
set_option maxRecDepth 100000 in
set_option maxHeartbeats 4000000 in
theorem b_X9_readsOrder {p : Program} {l : Launch} {e : Env} {R : Room} {s : State} {m : MethodId} {args : Array Value} {below : List Frame} {meth : Method} {c : Code} {H : Heap} {locs : List Loc} {ls : Array Slot} {X : gX} (E : gEn p s m args c cX9_readsOrder RX9 X) (hr : meth.sig.returnType = none) (hlocks : meth.locks = false) (hml : c.maxLocals = 3) (hRf : 3 ≤ R.frames) (hRl : 64 ≤ R.locals) (hRc : 0 ≤ R.cells) (hRs : 0 ≤ R.slots) {c0 : Nat} {u1 : Int32} {m0 : gMem} {res : Unit × gMem} (hk0 : gk c0 = 9) (hf : f_X9_readsOrder c0 u1 m0 = some res) (hM : gM X m0 H) (hS : va_S (gA X) s.heap H locs) (hl : lv_has ls 3 [(0, .ref (X.1 + c0)), (1, .int u1)]) : W p l e R s m args below meth c H locs 0 0 (MQ below (gQv X res) args s 0 0 (gA X)) (F0 m 0 ls []) := by
  obtain ⟨hx, hb⟩ := (⟨E.1, E.2.1⟩ : _ ∧ _)
  unfold f_X9_readsOrder at hf
  refine lv_aload_n hx hb dX9_readsOrder_0 rfl (lv_at hl 0 rfl) ?_
  obtain ⟨r3, m1, hqq2, hf⟩ := g1_o hf
  refine ga_i (gr_V (As := []) (ci := 9) (rm := { frames := 0, cells := 0, slots := 0, locals := 0 }) E hml hl.1 (c_X9_here l X c0 m0 hk0 hqq2) wt_X9_here wl_RX9_181 rfl hk0 (by decide) rfl rfl hM hS rfl rfl (Nat.le_trans (by decide) hRf) (Nat.le_trans (by decide) hRl) (Nat.le_trans (Nat.le_of_ble_eq_true rfl) hRc) (Nat.le_trans (Nat.le_of_ble_eq_true rfl) hRs) (Nat.le_of_ble_eq_true rfl) dX9_readsOrder_1 rfl) hS (fun H locs hM hS => ?_)
  refine lv_istore_n (lv' := [(2, .int r3), (0, .ref (X.1 + c0)), (1, .int u1)]) hx hb dX9_readsOrder_4 rfl hl (by decide) rfl (fun ls hl => ?_)
  refine lv_aload_n hx hb dX9_readsOrder_5 rfl (lv_at hl 1 rfl) ?_
  refine GX9_30 E hM hk0 dX9_readsOrder_6 ?_
  have hg4 : gk (c0 + 6) = 20 := gkf_9_17 hk0
  refine lv_iload_n hx hb dX9_readsOrder_9 rfl (lv_at hl 2 rfl) ?_
  refine lv_iload_n hx hb dX9_readsOrder_10 rfl (lv_at hl 0 rfl) ?_
  obtain ⟨hi5, hf⟩ := g_ck hf
  obtain ⟨m6, em6, hf⟩ := gv_o hf
  refine gg_iast E (fun c hc => gA_in X hc) hM hS (gk_in hg4 (by decide)) hg4 hi5 em6 dX9_readsOrder_11 (fun H locs hM hS => ?_)
  refine lv_aload_n hx hb dX9_readsOrder_12 rfl (lv_at hl 1 rfl) ?_
  refine lv_iload_n hx hb dX9_readsOrder_13 rfl (lv_at hl 0 rfl) ?_
  refine lv_bipush (v := (98 : Int32)) hx hb dX9_readsOrder_14 (by decide) ?_
  refine lv_icmp_eq (tgt := 47) hx hb dX9_readsOrder_16 (by decide) (fun h7 => ?_) (fun h7 => ?_)
  · have hf := g_t h7 hf
    refine lv_iconst (v := (0 : Int32)) hx hb dX9_readsOrder_47 (by decide) ?_
    obtain ⟨m8, em8, hf⟩ := gv_o hf
    refine PX9_178 E hM hS hk0 (Or.inl rfl) em8 dX9_readsOrder_48 (fun H locs hM hS => ?_)
    refine lv_aload_n hx hb dX9_readsOrder_51 rfl (lv_at hl 1 rfl) ?_
    refine lv_dup hx hb dX9_readsOrder_52 rfl ?_
    refine GX9_175 E hM hk0 dX9_readsOrder_53 ?_
    refine lv_aload_n hx hb dX9_readsOrder_56 rfl (lv_at hl 1 rfl) ?_
    refine GX9_178 E hM hk0 dX9_readsOrder_57 ?_
    refine lv_if_eq (tgt := 67) hx hb dX9_readsOrder_60 (by decide) (fun h9 => ?_) (fun h9 => ?_)
    · have hf := g_t h9 hf
      refine lv_iconst (v := (1 : Int32)) hx hb dX9_readsOrder_67 (by decide) ?_
      refine lv_iadd hx hb dX9_readsOrder_68 ?_
      obtain ⟨m10, em10, hf⟩ := gv_o hf
      refine PX9_175 E hM hS hk0 em10 dX9_readsOrder_69 (fun H locs hM hS => ?_)
      refine lv_iload_n hx hb dX9_readsOrder_72 rfl (lv_at hl 0 rfl) ?_
      by_cases h12 : r3 = (98 : Int32)
      · have hf := g_t h12 hf
        refine lv_lookup (tgt := 116) (off := 43) hx hb dX9_readsOrder_73 (by decide) (by rw [h12]; decide) (by decide) ?_
        refine lv_aload_n hx hb dX9_readsOrder_116 rfl (lv_at hl 1 rfl) ?_
        refine GX9_30 E hM hk0 dX9_readsOrder_117 ?_
        refine lv_iload_n hx hb dX9_readsOrder_120 rfl (lv_at hl 2 rfl) ?_
        refine lv_iconst (v := (1 : Int32)) hx hb dX9_readsOrder_121 (by decide) ?_
        refine lv_iadd hx hb dX9_readsOrder_122 ?_
        refine lv_aload_n hx hb dX9_readsOrder_123 rfl (lv_at hl 1 rfl) ?_
        obtain ⟨r15, m13, hqq14, hf⟩ := g1_o hf
        refine ga_i (gr_V (As := []) (ci := 9) (rm := { frames := 1, cells := 0, slots := 0, locals := 22 }) E hml hl.1 (c_X9_digit l X c0 m10 hk0 hqq14) wt_X9_digit wl_RX9_184 rfl hk0 (by decide) rfl rfl hM hS rfl rfl (Nat.le_trans (by decide) hRf) (Nat.le_trans (by decide) hRl) (Nat.le_trans (Nat.le_of_ble_eq_true rfl) hRc) (Nat.le_trans (Nat.le_of_ble_eq_true rfl) hRs) (Nat.le_of_ble_eq_true rfl) dX9_readsOrder_124 rfl) hS (fun H locs hM hS => ?_)
        obtain ⟨hi16, hf⟩ := g_ck hf
        obtain ⟨m17, em17, hf⟩ := gv_o hf
        refine gg_iast E (fun c hc => gA_in X hc) hM hS (gk_in hg4 (by decide)) hg4 hi16 em17 dX9_readsOrder_127 (fun H locs hM hS => ?_)
        refine lv_aload_n hx hb dX9_readsOrder_128 rfl (lv_at hl 1 rfl) ?_
        refine lv_bipush (v := (43 : Int32)) hx hb dX9_readsOrder_129 (by decide) ?_
        obtain ⟨r20, m18, hqq19, hf⟩ := g1_o hf
        refine ga_v (gr_V (As := [.int (43 : Int32)]) (ci := 9) (rm := { frames := 1, cells := 0, slots := 0, locals := 20 }) E hml hl.1 (c_X9_between l X c0 (43 : Int32) m17 hk0 hqq19) wt_X9_between wl_RX9_187 rfl hk0 (by decide) rfl rfl hM hS rfl rfl (Nat.le_trans (by decide) hRf) (Nat.le_trans (by decide) hRl) (Nat.le_trans (Nat.le_of_ble_eq_true rfl) hRc) (Nat.le_trans (Nat.le_of_ble_eq_true rfl) hRs) (Nat.le_of_ble_eq_true rfl) dX9_readsOrder_131 rfl) hS (fun H locs hM hS => ?_)
        refine lv_aload_n hx hb dX9_readsOrder_134 rfl (lv_at hl 1 rfl) ?_
        refine GX9_30 E hM hk0 dX9_readsOrder_135 ?_
        refine lv_iload_n hx hb dX9_readsOrder_138 rfl (lv_at hl 2 rfl) ?_
        refine lv_iconst (v := (2 : Int32)) hx hb dX9_readsOrder_139 (by decide) ?_
        refine lv_iadd hx hb dX9_readsOrder_140 ?_
        refine lv_aload_n hx hb dX9_readsOrder_141 rfl (lv_at hl 1 rfl) ?_
        obtain ⟨r23, m21, hqq22, hf⟩ := g1_o hf
        refine ga_i (gr_V (As := []) (ci := 9) (rm := { frames := 2, cells := 0, slots := 0, locals := 43 }) E hml hl.1 (c_X9_number l X c0 m18 hk0 hqq22) wt_X9_number wl_RX9_190 rfl hk0 (by decide) rfl rfl hM hS rfl rfl (Nat.le_trans (by decide) hRf) (Nat.le_trans (by decide) hRl) (Nat.le_trans (Nat.le_of_ble_eq_true rfl) hRc) (Nat.le_trans (Nat.le_of_ble_eq_true rfl) hRs) (Nat.le_of_ble_eq_true rfl) dX9_readsOrder_142 rfl) hS (fun H locs hM hS => ?_)
        obtain ⟨hi24, hf⟩ := g_ck hf
        obtain ⟨m25, em25, hf⟩ := gv_o hf
        refine gg_iast E (fun c hc => gA_in X hc) hM hS (gk_in hg4 (by decide)) hg4 hi24 em25 dX9_readsOrder_145 (fun H locs hM hS => ?_)
        exact ge_v E hr hlocks hf hM hS (Nat.le_of_ble_eq_true rfl) (Nat.le_of_ble_eq_true rfl) dX9_readsOrder_146
      have hf := g_f h12 hf
      by_cases h26 : r3 = (108 : Int32)
      · have hf := g_t h26 hf
        refine lv_lookup (tgt := 147) (off := 74) hx hb dX9_readsOrder_73 (by decide) (by rw [h26]; decide) (by decide) ?_
        refine lv_aload_n hx hb dX9_readsOrder_147 rfl (lv_at hl 1 rfl) ?_
        refine GX9_30 E hM hk0 dX9_readsOrder_148 ?_
        refine lv_iload_n hx hb dX9_readsOrder_151 rfl (lv_at hl 2 rfl) ?_
        refine lv_iconst (v := (1 : Int32)) hx hb dX9_readsOrder_152 (by decide) ?_
        refine lv_iadd hx hb dX9_readsOrder_153 ?_
        refine lv_aload_n hx hb dX9_readsOrder_154 rfl (lv_at hl 1 rfl) ?_
        obtain ⟨r29, m27, hqq28, hf⟩ := g1_o hf
        refine ga_i (gr_V (As := []) (ci := 9) (rm := { frames := 1, cells := 0, slots := 0, locals := 22 }) E hml hl.1 (c_X9_digit l X c0 m10 hk0 hqq28) wt_X9_digit wl_RX9_184 rfl hk0 (by decide) rfl rfl hM hS rfl rfl (Nat.le_trans (by decide) hRf) (Nat.le_trans (by decide) hRl) (Nat.le_trans (Nat.le_of_ble_eq_true rfl) hRc) (Nat.le_trans (Nat.le_of_ble_eq_true rfl) hRs) (Nat.le_of_ble_eq_true rfl) dX9_readsOrder_155 rfl) hS (fun H locs hM hS => ?_)
        obtain ⟨hi30, hf⟩ := g_ck hf
        obtain ⟨m31, em31, hf⟩ := gv_o hf
        refine gg_iast E (fun c hc => gA_in X hc) hM hS (gk_in hg4 (by decide)) hg4 hi30 em31 dX9_readsOrder_158 (fun H locs hM hS => ?_)
        refine lv_aload_n hx hb dX9_readsOrder_159 rfl (lv_at hl 1 rfl) ?_
        refine lv_bipush (v := (47 : Int32)) hx hb dX9_readsOrder_160 (by decide) ?_
        obtain ⟨r34, m32, hqq33, hf⟩ := g1_o hf
        refine ga_v (gr_V (As := [.int (47 : Int32)]) (ci := 9) (rm := { frames := 1, cells := 0, slots := 0, locals := 20 }) E hml hl.1 (c_X9_between l X c0 (47 : Int32) m31 hk0 hqq33) wt_X9_between wl_RX9_187 rfl hk0 (by decide) rfl rfl hM hS rfl rfl (Nat.le_trans (by decide) hRf) (Nat.le_trans (by decide) hRl) (Nat.le_trans (Nat.le_of_ble_eq_true rfl) hRc) (Nat.le_trans (Nat.le_of_ble_eq_true rfl) hRs) (Nat.le_of_ble_eq_true rfl) dX9_readsOrder_162 rfl) hS (fun H locs hM hS => ?_)
        refine lv_aload_n hx hb dX9_readsOrder_165 rfl (lv_at hl 1 rfl) ?_
        refine GX9_30 E hM hk0 dX9_readsOrder_166 ?_
        refine lv_iload_n hx hb dX9_readsOrder_169 rfl (lv_at hl 2 rfl) ?_
        refine lv_iconst (v := (2 : Int32)) hx hb dX9_readsOrder_170 (by decide) ?_
        refine lv_iadd hx hb dX9_readsOrder_171 ?_
        refine lv_aload_n hx hb dX9_readsOrder_172 rfl (lv_at hl 1 rfl) ?_
        obtain ⟨r37, m35, hqq36, hf⟩ := g1_o hf
        refine ga_i (gr_V (As := []) (ci := 9) (rm := { frames := 1, cells := 0, slots := 0, locals := 22 }) E hml hl.1 (c_X9_digit l X c0 m32 hk0 hqq36) wt_X9_digit wl_RX9_184 rfl hk0 (by decide) rfl rfl hM hS rfl rfl (Nat.le_trans (by decide) hRf) (Nat.le_trans (by decide) hRl) (Nat.le_trans (Nat.le_of_ble_eq_true rfl) hRc) (Nat.le_trans (Nat.le_of_ble_eq_true rfl) hRs) (Nat.le_of_ble_eq_true rfl) dX9_readsOrder_173 rfl) hS (fun H locs hM hS => ?_)
        obtain ⟨hi38, hf⟩ := g_ck hf
        obtain ⟨m39, em39, hf⟩ := gv_o hf
        refine gg_iast E (fun c hc => gA_in X hc) hM hS (gk_in hg4 (by decide)) hg4 hi38 em39 dX9_readsOrder_176 (fun H locs hM hS => ?_)
        refine lv_aload_n hx hb dX9_readsOrder_177 rfl (lv_at hl 1 rfl) ?_
        refine lv_bipush (v := (58 : Int32)) hx hb dX9_readsOrder_178 (by decide) ?_
        obtain ⟨r42, m40, hqq41, hf⟩ := g1_o hf
        refine ga_v (gr_V (As := [.int (58 : Int32)]) (ci := 9) (rm := { frames := 1, cells := 0, slots := 0, locals := 20 }) E hml hl.1 (c_X9_between l X c0 (58 : Int32) m39 hk0 hqq41) wt_X9_between wl_RX9_187 rfl hk0 (by decide) rfl rfl hM hS rfl rfl (Nat.le_trans (by decide) hRf) (Nat.le_trans (by decide) hRl) (Nat.le_trans (Nat.le_of_ble_eq_true rfl) hRc) (Nat.le_trans (Nat.le_of_ble_eq_true rfl) hRs) (Nat.le_of_ble_eq_true rfl) dX9_readsOrder_180 rfl) hS (fun H locs hM hS => ?_)
        refine lv_aload_n hx hb dX9_readsOrder_183 rfl (lv_at hl 1 rfl) ?_
        refine GX9_30 E hM hk0 dX9_readsOrder_184 ?_
        refine lv_iload_n hx hb dX9_readsOrder_187 rfl (lv_at hl 2 rfl) ?_
        refine lv_iconst (v := (3 : Int32)) hx hb dX9_readsOrder_188 (by decide) ?_
        refine lv_iadd hx hb dX9_readsOrder_189 ?_
        refine lv_aload_n hx hb dX9_readsOrder_190 rfl (lv_at hl 1 rfl) ?_
        obtain ⟨r45, m43, hqq44, hf⟩ := g1_o hf
        refine ga_i (gr_V (As := []) (ci := 9) (rm := { frames := 1, cells := 0, slots := 0, locals := 22 }) E hml hl.1 (c_X9_digit l X c0 m40 hk0 hqq44) wt_X9_digit wl_RX9_184 rfl hk0 (by decide) rfl rfl hM hS rfl rfl (Nat.le_trans (by decide) hRf) (Nat.le_trans (by decide) hRl) (Nat.le_trans (Nat.le_of_ble_eq_true rfl) hRc) (Nat.le_trans (Nat.le_of_ble_eq_true rfl) hRs) (Nat.le_of_ble_eq_true rfl) dX9_readsOrder_191 rfl) hS (fun H locs hM hS => ?_)
        obtain ⟨hi46, hf⟩ := g_ck hf
        obtain ⟨m47, em47, hf⟩ := gv_o hf
        refine gg_iast E (fun c hc => gA_in X hc) hM hS (gk_in hg4 (by decide)) hg4 hi46 em47 dX9_readsOrder_194 (fun H locs hM hS => ?_)
        refine lv_aload_n hx hb dX9_readsOrder_195 rfl (lv_at hl 1 rfl) ?_
        refine lv_bipush (v := (42 : Int32)) hx hb dX9_readsOrder_196 (by decide) ?_
        obtain ⟨r50, m48, hqq49, hf⟩ := g1_o hf
        refine ga_v (gr_V (As := [.int (42 : Int32)]) (ci := 9) (rm := { frames := 1, cells := 0, slots := 0, locals := 20 }) E hml hl.1 (c_X9_between l X c0 (42 : Int32) m47 hk0 hqq49) wt_X9_between wl_RX9_187 rfl hk0 (by decide) rfl rfl hM hS rfl rfl (Nat.le_trans (by decide) hRf) (Nat.le_trans (by decide) hRl) (Nat.le_trans (Nat.le_of_ble_eq_true rfl) hRc) (Nat.le_trans (Nat.le_of_ble_eq_true rfl) hRs) (Nat.le_of_ble_eq_true rfl) dX9_readsOrder_198 rfl) hS (fun H locs hM hS => ?_)
        refine lv_aload_n hx hb dX9_readsOrder_201 rfl (lv_at hl 1 rfl) ?_
        refine GX9_30 E hM hk0 dX9_readsOrder_202 ?_
        refine lv_iload_n hx hb dX9_readsOrder_205 rfl (lv_at hl 2 rfl) ?_
        refine lv_iconst (v := (4 : Int32)) hx hb dX9_readsOrder_206 (by decide) ?_
        refine lv_iadd hx hb dX9_readsOrder_207 ?_
        refine lv_aload_n hx hb dX9_readsOrder_208 rfl (lv_at hl 1 rfl) ?_
        obtain ⟨r53, m51, hqq52, hf⟩ := g1_o hf
        refine ga_i (gr_V (As := []) (ci := 9) (rm := { frames := 2, cells := 0, slots := 0, locals := 43 }) E hml hl.1 (c_X9_number l X c0 m48 hk0 hqq52) wt_X9_number wl_RX9_190 rfl hk0 (by decide) rfl rfl hM hS rfl rfl (Nat.le_trans (by decide) hRf) (Nat.le_trans (by decide) hRl) (Nat.le_trans (Nat.le_of_ble_eq_true rfl) hRc) (Nat.le_trans (Nat.le_of_ble_eq_true rfl) hRs) (Nat.le_of_ble_eq_true rfl) dX9_readsOrder_209 rfl) hS (fun H locs hM hS => ?_)
        obtain ⟨hi54, hf⟩ := g_ck hf
        obtain ⟨m55, em55, hf⟩ := gv_o hf
        refine gg_iast E (fun c hc => gA_in X hc) hM hS (gk_in hg4 (by decide)) hg4 hi54 em55 dX9_readsOrder_212 (fun H locs hM hS => ?_)
        exact ge_v E hr hlocks hf hM hS (Nat.le_of_ble_eq_true rfl) (Nat.le_of_ble_eq_true rfl) dX9_readsOrder_213
      have hf := g_f h26 hf
      by_cases h56 : r3 = (115 : Int32)
      · have hf := g_t h56 hf
        refine lv_lookup (tgt := 214) (off := 141) hx hb dX9_readsOrder_73 (by decide) (by rw [h56]; decide) (by decide) ?_
        refine lv_aload_n hx hb dX9_readsOrder_214 rfl (lv_at hl 1 rfl) ?_
        refine GX9_30 E hM hk0 dX9_readsOrder_215 ?_
        refine lv_iload_n hx hb dX9_readsOrder_218 rfl (lv_at hl 2 rfl) ?_
        refine lv_iconst (v := (1 : Int32)) hx hb dX9_readsOrder_219 (by decide) ?_
        refine lv_iadd hx hb dX9_readsOrder_220 ?_
        refine lv_aload_n hx hb dX9_readsOrder_221 rfl (lv_at hl 1 rfl) ?_
        obtain ⟨r59, m57, hqq58, hf⟩ := g1_o hf
        refine ga_i (gr_V (As := []) (ci := 9) (rm := { frames := 2, cells := 0, slots := 0, locals := 43 }) E hml hl.1 (c_X9_number l X c0 m10 hk0 hqq58) wt_X9_number wl_RX9_190 rfl hk0 (by decide) rfl rfl hM hS rfl rfl (Nat.le_trans (by decide) hRf) (Nat.le_trans (by decide) hRl) (Nat.le_trans (Nat.le_of_ble_eq_true rfl) hRc) (Nat.le_trans (Nat.le_of_ble_eq_true rfl) hRs) (Nat.le_of_ble_eq_true rfl) dX9_readsOrder_222 rfl) hS (fun H locs hM hS => ?_)
        obtain ⟨hi60, hf⟩ := g_ck hf
        obtain ⟨m61, em61, hf⟩ := gv_o hf
        refine gg_iast E (fun c hc => gA_in X hc) hM hS (gk_in hg4 (by decide)) hg4 hi60 em61 dX9_readsOrder_225 (fun H locs hM hS => ?_)
        refine lv_aload_n hx hb dX9_readsOrder_226 rfl (lv_at hl 1 rfl) ?_
        refine lv_bipush (v := (64 : Int32)) hx hb dX9_readsOrder_227 (by decide) ?_
        obtain ⟨r64, m62, hqq63, hf⟩ := g1_o hf
        refine ga_v (gr_V (As := [.int (64 : Int32)]) (ci := 9) (rm := { frames := 1, cells := 0, slots := 0, locals := 20 }) E hml hl.1 (c_X9_between l X c0 (64 : Int32) m61 hk0 hqq63) wt_X9_between wl_RX9_187 rfl hk0 (by decide) rfl rfl hM hS rfl rfl (Nat.le_trans (by decide) hRf) (Nat.le_trans (by decide) hRl) (Nat.le_trans (Nat.le_of_ble_eq_true rfl) hRc) (Nat.le_trans (Nat.le_of_ble_eq_true rfl) hRs) (Nat.le_of_ble_eq_true rfl) dX9_readsOrder_229 rfl) hS (fun H locs hM hS => ?_)
        refine lv_aload_n hx hb dX9_readsOrder_232 rfl (lv_at hl 1 rfl) ?_
        refine GX9_30 E hM hk0 dX9_readsOrder_233 ?_
        refine lv_iload_n hx hb dX9_readsOrder_236 rfl (lv_at hl 2 rfl) ?_
        refine lv_iconst (v := (2 : Int32)) hx hb dX9_readsOrder_237 (by decide) ?_
        refine lv_iadd hx hb dX9_readsOrder_238 ?_
        refine lv_aload_n hx hb dX9_readsOrder_239 rfl (lv_at hl 1 rfl) ?_
        obtain ⟨r67, m65, hqq66, hf⟩ := g1_o hf
        refine ga_i (gr_V (As := []) (ci := 9) (rm := { frames := 1, cells := 0, slots := 0, locals := 22 }) E hml hl.1 (c_X9_digit l X c0 m62 hk0 hqq66) wt_X9_digit wl_RX9_184 rfl hk0 (by decide) rfl rfl hM hS rfl rfl (Nat.le_trans (by decide) hRf) (Nat.le_trans (by decide) hRl) (Nat.le_trans (Nat.le_of_ble_eq_true rfl) hRc) (Nat.le_trans (Nat.le_of_ble_eq_true rfl) hRs) (Nat.le_of_ble_eq_true rfl) dX9_readsOrder_240 rfl) hS (fun H locs hM hS => ?_)
        obtain ⟨hi68, hf⟩ := g_ck hf
        obtain ⟨m69, em69, hf⟩ := gv_o hf
        refine gg_iast E (fun c hc => gA_in X hc) hM hS (gk_in hg4 (by decide)) hg4 hi68 em69 dX9_readsOrder_243 (fun H locs hM hS => ?_)
        exact ge_v E hr hlocks hf hM hS (Nat.le_of_ble_eq_true rfl) (Nat.le_of_ble_eq_true rfl) dX9_readsOrder_244
      have hf := g_f h56 hf
      by_cases h70 : r3 = (116 : Int32)
      · have hf := g_t h70 hf
        refine lv_lookup (tgt := 245) (off := 172) hx hb dX9_readsOrder_73 (by decide) (by rw [h70]; decide) (by decide) ?_
        refine lv_aload_n hx hb dX9_readsOrder_245 rfl (lv_at hl 1 rfl) ?_
        refine GX9_30 E hM hk0 dX9_readsOrder_246 ?_
        refine lv_iload_n hx hb dX9_readsOrder_249 rfl (lv_at hl 2 rfl) ?_
        refine lv_iconst (v := (1 : Int32)) hx hb dX9_readsOrder_250 (by decide) ?_
        refine lv_iadd hx hb dX9_readsOrder_251 ?_
        refine lv_aload_n hx hb dX9_readsOrder_252 rfl (lv_at hl 1 rfl) ?_
        obtain ⟨r73, m71, hqq72, hf⟩ := g1_o hf
        refine ga_i (gr_V (As := []) (ci := 9) (rm := { frames := 1, cells := 0, slots := 0, locals := 22 }) E hml hl.1 (c_X9_digit l X c0 m10 hk0 hqq72) wt_X9_digit wl_RX9_184 rfl hk0 (by decide) rfl rfl hM hS rfl rfl (Nat.le_trans (by decide) hRf) (Nat.le_trans (by decide) hRl) (Nat.le_trans (Nat.le_of_ble_eq_true rfl) hRc) (Nat.le_trans (Nat.le_of_ble_eq_true rfl) hRs) (Nat.le_of_ble_eq_true rfl) dX9_readsOrder_253 rfl) hS (fun H locs hM hS => ?_)
        obtain ⟨hi74, hf⟩ := g_ck hf
        obtain ⟨m75, em75, hf⟩ := gv_o hf
        refine gg_iast E (fun c hc => gA_in X hc) hM hS (gk_in hg4 (by decide)) hg4 hi74 em75 dX9_readsOrder_256 (fun H locs hM hS => ?_)
        exact ge_v E hr hlocks hf hM hS (Nat.le_of_ble_eq_true rfl) (Nat.le_of_ble_eq_true rfl) dX9_readsOrder_257
      have hf := g_f h70 hf
      have ah12 := g_tn (z := 98) h12 rfl
      have ah26 := g_tn (z := 108) h26 rfl
      have ah56 := g_tn (z := 115) h56 rfl
      have ah70 := g_tn (z := 116) h70 rfl
      refine lv_lookup (tgt := 258) (off := 185) hx hb dX9_readsOrder_73 (by decide) (by simp [Op.lookupswitch.offset, ah12, ah26, ah56, ah70]) (by decide) ?_
      refine lv_aload_n hx hb dX9_readsOrder_258 rfl (lv_at hl 1 rfl) ?_
      refine GX9_30 E hM hk0 dX9_readsOrder_259 ?_
      refine lv_iload_n hx hb dX9_readsOrder_262 rfl (lv_at hl 2 rfl) ?_
      refine lv_iconst (v := (1 : Int32)) hx hb dX9_readsOrder_263 (by decide) ?_
      refine lv_iadd hx hb dX9_readsOrder_264 ?_
      refine lv_aload_n hx hb dX9_readsOrder_265 rfl (lv_at hl 1 rfl) ?_
      obtain ⟨r78, m76, hqq77, hf⟩ := g1_o hf
      refine ga_i (gr_V (As := []) (ci := 9) (rm := { frames := 2, cells := 0, slots := 0, locals := 43 }) E hml hl.1 (c_X9_number l X c0 m10 hk0 hqq77) wt_X9_number wl_RX9_190 rfl hk0 (by decide) rfl rfl hM hS rfl rfl (Nat.le_trans (by decide) hRf) (Nat.le_trans (by decide) hRl) (Nat.le_trans (Nat.le_of_ble_eq_true rfl) hRc) (Nat.le_trans (Nat.le_of_ble_eq_true rfl) hRs) (Nat.le_of_ble_eq_true rfl) dX9_readsOrder_266 rfl) hS (fun H locs hM hS => ?_)
      obtain ⟨hi79, hf⟩ := g_ck hf
      obtain ⟨m80, em80, hf⟩ := gv_o hf
      refine gg_iast E (fun c hc => gA_in X hc) hM hS (gk_in hg4 (by decide)) hg4 hi79 em80 dX9_readsOrder_269 (fun H locs hM hS => ?_)
      exact ge_v E hr hlocks hf hM hS (Nat.le_of_ble_eq_true rfl) (Nat.le_of_ble_eq_true rfl) dX9_readsOrder_270
    · have hf := g_f h9 hf
      refine lv_iconst (v := (0 : Int32)) hx hb dX9_readsOrder_63 (by decide) ?_
      refine lv_goto (tgt := 68) hx hb dX9_readsOrder_64 (by decide) ?_
      refine lv_iadd hx hb dX9_readsOrder_68 ?_
      obtain ⟨m81, em81, hf⟩ := gv_o hf
      refine PX9_175 E hM hS hk0 em81 dX9_readsOrder_69 (fun H locs hM hS => ?_)
      refine lv_iload_n hx hb dX9_readsOrder_72 rfl (lv_at hl 0 rfl) ?_
      by_cases h83 : r3 = (98 : Int32)
      · have hf := g_t h83 hf
        refine lv_lookup (tgt := 116) (off := 43) hx hb dX9_readsOrder_73 (by decide) (by rw [h83]; decide) (by decide) ?_
        refine lv_aload_n hx hb dX9_readsOrder_116 rfl (lv_at hl 1 rfl) ?_
        refine GX9_30 E hM hk0 dX9_readsOrder_117 ?_
        refine lv_iload_n hx hb dX9_readsOrder_120 rfl (lv_at hl 2 rfl) ?_
        refine lv_iconst (v := (1 : Int32)) hx hb dX9_readsOrder_121 (by decide) ?_
        refine lv_iadd hx hb dX9_readsOrder_122 ?_
        refine lv_aload_n hx hb dX9_readsOrder_123 rfl (lv_at hl 1 rfl) ?_
        obtain ⟨r86, m84, hqq85, hf⟩ := g1_o hf
        refine ga_i (gr_V (As := []) (ci := 9) (rm := { frames := 1, cells := 0, slots := 0, locals := 22 }) E hml hl.1 (c_X9_digit l X c0 m81 hk0 hqq85) wt_X9_digit wl_RX9_184 rfl hk0 (by decide) rfl rfl hM hS rfl rfl (Nat.le_trans (by decide) hRf) (Nat.le_trans (by decide) hRl) (Nat.le_trans (Nat.le_of_ble_eq_true rfl) hRc) (Nat.le_trans (Nat.le_of_ble_eq_true rfl) hRs) (Nat.le_of_ble_eq_true rfl) dX9_readsOrder_124 rfl) hS (fun H locs hM hS => ?_)
        obtain ⟨hi87, hf⟩ := g_ck hf
        obtain ⟨m88, em88, hf⟩ := gv_o hf
        refine gg_iast E (fun c hc => gA_in X hc) hM hS (gk_in hg4 (by decide)) hg4 hi87 em88 dX9_readsOrder_127 (fun H locs hM hS => ?_)
        refine lv_aload_n hx hb dX9_readsOrder_128 rfl (lv_at hl 1 rfl) ?_
        refine lv_bipush (v := (43 : Int32)) hx hb dX9_readsOrder_129 (by decide) ?_
        obtain ⟨r91, m89, hqq90, hf⟩ := g1_o hf
        refine ga_v (gr_V (As := [.int (43 : Int32)]) (ci := 9) (rm := { frames := 1, cells := 0, slots := 0, locals := 20 }) E hml hl.1 (c_X9_between l X c0 (43 : Int32) m88 hk0 hqq90) wt_X9_between wl_RX9_187 rfl hk0 (by decide) rfl rfl hM hS rfl rfl (Nat.le_trans (by decide) hRf) (Nat.le_trans (by decide) hRl) (Nat.le_trans (Nat.le_of_ble_eq_true rfl) hRc) (Nat.le_trans (Nat.le_of_ble_eq_true rfl) hRs) (Nat.le_of_ble_eq_true rfl) dX9_readsOrder_131 rfl) hS (fun H locs hM hS => ?_)
        refine lv_aload_n hx hb dX9_readsOrder_134 rfl (lv_at hl 1 rfl) ?_
        refine GX9_30 E hM hk0 dX9_readsOrder_135 ?_
        refine lv_iload_n hx hb dX9_readsOrder_138 rfl (lv_at hl 2 rfl) ?_
        refine lv_iconst (v := (2 : Int32)) hx hb dX9_readsOrder_139 (by decide) ?_
        refine lv_iadd hx hb dX9_readsOrder_140 ?_
        refine lv_aload_n hx hb dX9_readsOrder_141 rfl (lv_at hl 1 rfl) ?_
        obtain ⟨r94, m92, hqq93, hf⟩ := g1_o hf
        refine ga_i (gr_V (As := []) (ci := 9) (rm := { frames := 2, cells := 0, slots := 0, locals := 43 }) E hml hl.1 (c_X9_number l X c0 m89 hk0 hqq93) wt_X9_number wl_RX9_190 rfl hk0 (by decide) rfl rfl hM hS rfl rfl (Nat.le_trans (by decide) hRf) (Nat.le_trans (by decide) hRl) (Nat.le_trans (Nat.le_of_ble_eq_true rfl) hRc) (Nat.le_trans (Nat.le_of_ble_eq_true rfl) hRs) (Nat.le_of_ble_eq_true rfl) dX9_readsOrder_142 rfl) hS (fun H locs hM hS => ?_)
        obtain ⟨hi95, hf⟩ := g_ck hf
        obtain ⟨m96, em96, hf⟩ := gv_o hf
        refine gg_iast E (fun c hc => gA_in X hc) hM hS (gk_in hg4 (by decide)) hg4 hi95 em96 dX9_readsOrder_145 (fun H locs hM hS => ?_)
        exact ge_v E hr hlocks hf hM hS (Nat.le_of_ble_eq_true rfl) (Nat.le_of_ble_eq_true rfl) dX9_readsOrder_146
      have hf := g_f h83 hf
      by_cases h97 : r3 = (108 : Int32)
      · have hf := g_t h97 hf
        refine lv_lookup (tgt := 147) (off := 74) hx hb dX9_readsOrder_73 (by decide) (by rw [h97]; decide) (by decide) ?_
        refine lv_aload_n hx hb dX9_readsOrder_147 rfl (lv_at hl 1 rfl) ?_
        refine GX9_30 E hM hk0 dX9_readsOrder_148 ?_
        refine lv_iload_n hx hb dX9_readsOrder_151 rfl (lv_at hl 2 rfl) ?_
        refine lv_iconst (v := (1 : Int32)) hx hb dX9_readsOrder_152 (by decide) ?_
        refine lv_iadd hx hb dX9_readsOrder_153 ?_
        refine lv_aload_n hx hb dX9_readsOrder_154 rfl (lv_at hl 1 rfl) ?_
        obtain ⟨r100, m98, hqq99, hf⟩ := g1_o hf
        refine ga_i (gr_V (As := []) (ci := 9) (rm := { frames := 1, cells := 0, slots := 0, locals := 22 }) E hml hl.1 (c_X9_digit l X c0 m81 hk0 hqq99) wt_X9_digit wl_RX9_184 rfl hk0 (by decide) rfl rfl hM hS rfl rfl (Nat.le_trans (by decide) hRf) (Nat.le_trans (by decide) hRl) (Nat.le_trans (Nat.le_of_ble_eq_true rfl) hRc) (Nat.le_trans (Nat.le_of_ble_eq_true rfl) hRs) (Nat.le_of_ble_eq_true rfl) dX9_readsOrder_155 rfl) hS (fun H locs hM hS => ?_)
        obtain ⟨hi101, hf⟩ := g_ck hf
        obtain ⟨m102, em102, hf⟩ := gv_o hf
        refine gg_iast E (fun c hc => gA_in X hc) hM hS (gk_in hg4 (by decide)) hg4 hi101 em102 dX9_readsOrder_158 (fun H locs hM hS => ?_)
        refine lv_aload_n hx hb dX9_readsOrder_159 rfl (lv_at hl 1 rfl) ?_
        refine lv_bipush (v := (47 : Int32)) hx hb dX9_readsOrder_160 (by decide) ?_
        obtain ⟨r105, m103, hqq104, hf⟩ := g1_o hf
        refine ga_v (gr_V (As := [.int (47 : Int32)]) (ci := 9) (rm := { frames := 1, cells := 0, slots := 0, locals := 20 }) E hml hl.1 (c_X9_between l X c0 (47 : Int32) m102 hk0 hqq104) wt_X9_between wl_RX9_187 rfl hk0 (by decide) rfl rfl hM hS rfl rfl (Nat.le_trans (by decide) hRf) (Nat.le_trans (by decide) hRl) (Nat.le_trans (Nat.le_of_ble_eq_true rfl) hRc) (Nat.le_trans (Nat.le_of_ble_eq_true rfl) hRs) (Nat.le_of_ble_eq_true rfl) dX9_readsOrder_162 rfl) hS (fun H locs hM hS => ?_)
        refine lv_aload_n hx hb dX9_readsOrder_165 rfl (lv_at hl 1 rfl) ?_
        refine GX9_30 E hM hk0 dX9_readsOrder_166 ?_
        refine lv_iload_n hx hb dX9_readsOrder_169 rfl (lv_at hl 2 rfl) ?_
        refine lv_iconst (v := (2 : Int32)) hx hb dX9_readsOrder_170 (by decide) ?_
        refine lv_iadd hx hb dX9_readsOrder_171 ?_
        refine lv_aload_n hx hb dX9_readsOrder_172 rfl (lv_at hl 1 rfl) ?_
        obtain ⟨r108, m106, hqq107, hf⟩ := g1_o hf
        refine ga_i (gr_V (As := []) (ci := 9) (rm := { frames := 1, cells := 0, slots := 0, locals := 22 }) E hml hl.1 (c_X9_digit l X c0 m103 hk0 hqq107) wt_X9_digit wl_RX9_184 rfl hk0 (by decide) rfl rfl hM hS rfl rfl (Nat.le_trans (by decide) hRf) (Nat.le_trans (by decide) hRl) (Nat.le_trans (Nat.le_of_ble_eq_true rfl) hRc) (Nat.le_trans (Nat.le_of_ble_eq_true rfl) hRs) (Nat.le_of_ble_eq_true rfl) dX9_readsOrder_173 rfl) hS (fun H locs hM hS => ?_)
        obtain ⟨hi109, hf⟩ := g_ck hf
        obtain ⟨m110, em110, hf⟩ := gv_o hf
        refine gg_iast E (fun c hc => gA_in X hc) hM hS (gk_in hg4 (by decide)) hg4 hi109 em110 dX9_readsOrder_176 (fun H locs hM hS => ?_)
        refine lv_aload_n hx hb dX9_readsOrder_177 rfl (lv_at hl 1 rfl) ?_
        refine lv_bipush (v := (58 : Int32)) hx hb dX9_readsOrder_178 (by decide) ?_
        obtain ⟨r113, m111, hqq112, hf⟩ := g1_o hf
        refine ga_v (gr_V (As := [.int (58 : Int32)]) (ci := 9) (rm := { frames := 1, cells := 0, slots := 0, locals := 20 }) E hml hl.1 (c_X9_between l X c0 (58 : Int32) m110 hk0 hqq112) wt_X9_between wl_RX9_187 rfl hk0 (by decide) rfl rfl hM hS rfl rfl (Nat.le_trans (by decide) hRf) (Nat.le_trans (by decide) hRl) (Nat.le_trans (Nat.le_of_ble_eq_true rfl) hRc) (Nat.le_trans (Nat.le_of_ble_eq_true rfl) hRs) (Nat.le_of_ble_eq_true rfl) dX9_readsOrder_180 rfl) hS (fun H locs hM hS => ?_)
        refine lv_aload_n hx hb dX9_readsOrder_183 rfl (lv_at hl 1 rfl) ?_
        refine GX9_30 E hM hk0 dX9_readsOrder_184 ?_
        refine lv_iload_n hx hb dX9_readsOrder_187 rfl (lv_at hl 2 rfl) ?_
        refine lv_iconst (v := (3 : Int32)) hx hb dX9_readsOrder_188 (by decide) ?_
        refine lv_iadd hx hb dX9_readsOrder_189 ?_
        refine lv_aload_n hx hb dX9_readsOrder_190 rfl (lv_at hl 1 rfl) ?_
        obtain ⟨r116, m114, hqq115, hf⟩ := g1_o hf
        refine ga_i (gr_V (As := []) (ci := 9) (rm := { frames := 1, cells := 0, slots := 0, locals := 22 }) E hml hl.1 (c_X9_digit l X c0 m111 hk0 hqq115) wt_X9_digit wl_RX9_184 rfl hk0 (by decide) rfl rfl hM hS rfl rfl (Nat.le_trans (by decide) hRf) (Nat.le_trans (by decide) hRl) (Nat.le_trans (Nat.le_of_ble_eq_true rfl) hRc) (Nat.le_trans (Nat.le_of_ble_eq_true rfl) hRs) (Nat.le_of_ble_eq_true rfl) dX9_readsOrder_191 rfl) hS (fun H locs hM hS => ?_)
        obtain ⟨hi117, hf⟩ := g_ck hf
        obtain ⟨m118, em118, hf⟩ := gv_o hf
        refine gg_iast E (fun c hc => gA_in X hc) hM hS (gk_in hg4 (by decide)) hg4 hi117 em118 dX9_readsOrder_194 (fun H locs hM hS => ?_)
        refine lv_aload_n hx hb dX9_readsOrder_195 rfl (lv_at hl 1 rfl) ?_
        refine lv_bipush (v := (42 : Int32)) hx hb dX9_readsOrder_196 (by decide) ?_
        obtain ⟨r121, m119, hqq120, hf⟩ := g1_o hf
        refine ga_v (gr_V (As := [.int (42 : Int32)]) (ci := 9) (rm := { frames := 1, cells := 0, slots := 0, locals := 20 }) E hml hl.1 (c_X9_between l X c0 (42 : Int32) m118 hk0 hqq120) wt_X9_between wl_RX9_187 rfl hk0 (by decide) rfl rfl hM hS rfl rfl (Nat.le_trans (by decide) hRf) (Nat.le_trans (by decide) hRl) (Nat.le_trans (Nat.le_of_ble_eq_true rfl) hRc) (Nat.le_trans (Nat.le_of_ble_eq_true rfl) hRs) (Nat.le_of_ble_eq_true rfl) dX9_readsOrder_198 rfl) hS (fun H locs hM hS => ?_)
        refine lv_aload_n hx hb dX9_readsOrder_201 rfl (lv_at hl 1 rfl) ?_
        refine GX9_30 E hM hk0 dX9_readsOrder_202 ?_
        refine lv_iload_n hx hb dX9_readsOrder_205 rfl (lv_at hl 2 rfl) ?_
        refine lv_iconst (v := (4 : Int32)) hx hb dX9_readsOrder_206 (by decide) ?_
        refine lv_iadd hx hb dX9_readsOrder_207 ?_
        refine lv_aload_n hx hb dX9_readsOrder_208 rfl (lv_at hl 1 rfl) ?_
        obtain ⟨r124, m122, hqq123, hf⟩ := g1_o hf
        refine ga_i (gr_V (As := []) (ci := 9) (rm := { frames := 2, cells := 0, slots := 0, locals := 43 }) E hml hl.1 (c_X9_number l X c0 m119 hk0 hqq123) wt_X9_number wl_RX9_190 rfl hk0 (by decide) rfl rfl hM hS rfl rfl (Nat.le_trans (by decide) hRf) (Nat.le_trans (by decide) hRl) (Nat.le_trans (Nat.le_of_ble_eq_true rfl) hRc) (Nat.le_trans (Nat.le_of_ble_eq_true rfl) hRs) (Nat.le_of_ble_eq_true rfl) dX9_readsOrder_209 rfl) hS (fun H locs hM hS => ?_)
        obtain ⟨hi125, hf⟩ := g_ck hf
        obtain ⟨m126, em126, hf⟩ := gv_o hf
        refine gg_iast E (fun c hc => gA_in X hc) hM hS (gk_in hg4 (by decide)) hg4 hi125 em126 dX9_readsOrder_212 (fun H locs hM hS => ?_)
        exact ge_v E hr hlocks hf hM hS (Nat.le_of_ble_eq_true rfl) (Nat.le_of_ble_eq_true rfl) dX9_readsOrder_213
      have hf := g_f h97 hf
      by_cases h127 : r3 = (115 : Int32)
      · have hf := g_t h127 hf
        refine lv_lookup (tgt := 214) (off := 141) hx hb dX9_readsOrder_73 (by decide) (by rw [h127]; decide) (by decide) ?_
        refine lv_aload_n hx hb dX9_readsOrder_214 rfl (lv_at hl 1 rfl) ?_
        refine GX9_30 E hM hk0 dX9_readsOrder_215 ?_
        refine lv_iload_n hx hb dX9_readsOrder_218 rfl (lv_at hl 2 rfl) ?_
        refine lv_iconst (v := (1 : Int32)) hx hb dX9_readsOrder_219 (by decide) ?_
        refine lv_iadd hx hb dX9_readsOrder_220 ?_
        refine lv_aload_n hx hb dX9_readsOrder_221 rfl (lv_at hl 1 rfl) ?_
        obtain ⟨r130, m128, hqq129, hf⟩ := g1_o hf
        refine ga_i (gr_V (As := []) (ci := 9) (rm := { frames := 2, cells := 0, slots := 0, locals := 43 }) E hml hl.1 (c_X9_number l X c0 m81 hk0 hqq129) wt_X9_number wl_RX9_190 rfl hk0 (by decide) rfl rfl hM hS rfl rfl (Nat.le_trans (by decide) hRf) (Nat.le_trans (by decide) hRl) (Nat.le_trans (Nat.le_of_ble_eq_true rfl) hRc) (Nat.le_trans (Nat.le_of_ble_eq_true rfl) hRs) (Nat.le_of_ble_eq_true rfl) dX9_readsOrder_222 rfl) hS (fun H locs hM hS => ?_)
        obtain ⟨hi131, hf⟩ := g_ck hf
        obtain ⟨m132, em132, hf⟩ := gv_o hf
        refine gg_iast E (fun c hc => gA_in X hc) hM hS (gk_in hg4 (by decide)) hg4 hi131 em132 dX9_readsOrder_225 (fun H locs hM hS => ?_)
        refine lv_aload_n hx hb dX9_readsOrder_226 rfl (lv_at hl 1 rfl) ?_
        refine lv_bipush (v := (64 : Int32)) hx hb dX9_readsOrder_227 (by decide) ?_
        obtain ⟨r135, m133, hqq134, hf⟩ := g1_o hf
        refine ga_v (gr_V (As := [.int (64 : Int32)]) (ci := 9) (rm := { frames := 1, cells := 0, slots := 0, locals := 20 }) E hml hl.1 (c_X9_between l X c0 (64 : Int32) m132 hk0 hqq134) wt_X9_between wl_RX9_187 rfl hk0 (by decide) rfl rfl hM hS rfl rfl (Nat.le_trans (by decide) hRf) (Nat.le_trans (by decide) hRl) (Nat.le_trans (Nat.le_of_ble_eq_true rfl) hRc) (Nat.le_trans (Nat.le_of_ble_eq_true rfl) hRs) (Nat.le_of_ble_eq_true rfl) dX9_readsOrder_229 rfl) hS (fun H locs hM hS => ?_)
        refine lv_aload_n hx hb dX9_readsOrder_232 rfl (lv_at hl 1 rfl) ?_
        refine GX9_30 E hM hk0 dX9_readsOrder_233 ?_
        refine lv_iload_n hx hb dX9_readsOrder_236 rfl (lv_at hl 2 rfl) ?_
        refine lv_iconst (v := (2 : Int32)) hx hb dX9_readsOrder_237 (by decide) ?_
        refine lv_iadd hx hb dX9_readsOrder_238 ?_
        refine lv_aload_n hx hb dX9_readsOrder_239 rfl (lv_at hl 1 rfl) ?_
        obtain ⟨r138, m136, hqq137, hf⟩ := g1_o hf
        refine ga_i (gr_V (As := []) (ci := 9) (rm := { frames := 1, cells := 0, slots := 0, locals := 22 }) E hml hl.1 (c_X9_digit l X c0 m133 hk0 hqq137) wt_X9_digit wl_RX9_184 rfl hk0 (by decide) rfl rfl hM hS rfl rfl (Nat.le_trans (by decide) hRf) (Nat.le_trans (by decide) hRl) (Nat.le_trans (Nat.le_of_ble_eq_true rfl) hRc) (Nat.le_trans (Nat.le_of_ble_eq_true rfl) hRs) (Nat.le_of_ble_eq_true rfl) dX9_readsOrder_240 rfl) hS (fun H locs hM hS => ?_)
        obtain ⟨hi139, hf⟩ := g_ck hf
        obtain ⟨m140, em140, hf⟩ := gv_o hf
        refine gg_iast E (fun c hc => gA_in X hc) hM hS (gk_in hg4 (by decide)) hg4 hi139 em140 dX9_readsOrder_243 (fun H locs hM hS => ?_)
        exact ge_v E hr hlocks hf hM hS (Nat.le_of_ble_eq_true rfl) (Nat.le_of_ble_eq_true rfl) dX9_readsOrder_244
      have hf := g_f h127 hf
      by_cases h141 : r3 = (116 : Int32)
      · have hf := g_t h141 hf
        refine lv_lookup (tgt := 245) (off := 172) hx hb dX9_readsOrder_73 (by decide) (by rw [h141]; decide) (by decide) ?_
        refine lv_aload_n hx hb dX9_readsOrder_245 rfl (lv_at hl 1 rfl) ?_
        refine GX9_30 E hM hk0 dX9_readsOrder_246 ?_
        refine lv_iload_n hx hb dX9_readsOrder_249 rfl (lv_at hl 2 rfl) ?_
        refine lv_iconst (v := (1 : Int32)) hx hb dX9_readsOrder_250 (by decide) ?_
        refine lv_iadd hx hb dX9_readsOrder_251 ?_
        refine lv_aload_n hx hb dX9_readsOrder_252 rfl (lv_at hl 1 rfl) ?_
        obtain ⟨r144, m142, hqq143, hf⟩ := g1_o hf
        refine ga_i (gr_V (As := []) (ci := 9) (rm := { frames := 1, cells := 0, slots := 0, locals := 22 }) E hml hl.1 (c_X9_digit l X c0 m81 hk0 hqq143) wt_X9_digit wl_RX9_184 rfl hk0 (by decide) rfl rfl hM hS rfl rfl (Nat.le_trans (by decide) hRf) (Nat.le_trans (by decide) hRl) (Nat.le_trans (Nat.le_of_ble_eq_true rfl) hRc) (Nat.le_trans (Nat.le_of_ble_eq_true rfl) hRs) (Nat.le_of_ble_eq_true rfl) dX9_readsOrder_253 rfl) hS (fun H locs hM hS => ?_)
        obtain ⟨hi145, hf⟩ := g_ck hf
        obtain ⟨m146, em146, hf⟩ := gv_o hf
        refine gg_iast E (fun c hc => gA_in X hc) hM hS (gk_in hg4 (by decide)) hg4 hi145 em146 dX9_readsOrder_256 (fun H locs hM hS => ?_)
        exact ge_v E hr hlocks hf hM hS (Nat.le_of_ble_eq_true rfl) (Nat.le_of_ble_eq_true rfl) dX9_readsOrder_257
      have hf := g_f h141 hf
      have ah83 := g_tn (z := 98) h83 rfl
      have ah97 := g_tn (z := 108) h97 rfl
      have ah127 := g_tn (z := 115) h127 rfl
      have ah141 := g_tn (z := 116) h141 rfl
      refine lv_lookup (tgt := 258) (off := 185) hx hb dX9_readsOrder_73 (by decide) (by simp [Op.lookupswitch.offset, ah83, ah97, ah127, ah141]) (by decide) ?_
      refine lv_aload_n hx hb dX9_readsOrder_258 rfl (lv_at hl 1 rfl) ?_
      refine GX9_30 E hM hk0 dX9_readsOrder_259 ?_
      refine lv_iload_n hx hb dX9_readsOrder_262 rfl (lv_at hl 2 rfl) ?_
      refine lv_iconst (v := (1 : Int32)) hx hb dX9_readsOrder_263 (by decide) ?_
      refine lv_iadd hx hb dX9_readsOrder_264 ?_
      refine lv_aload_n hx hb dX9_readsOrder_265 rfl (lv_at hl 1 rfl) ?_
      obtain ⟨r149, m147, hqq148, hf⟩ := g1_o hf
      refine ga_i (gr_V (As := []) (ci := 9) (rm := { frames := 2, cells := 0, slots := 0, locals := 43 }) E hml hl.1 (c_X9_number l X c0 m81 hk0 hqq148) wt_X9_number wl_RX9_190 rfl hk0 (by decide) rfl rfl hM hS rfl rfl (Nat.le_trans (by decide) hRf) (Nat.le_trans (by decide) hRl) (Nat.le_trans (Nat.le_of_ble_eq_true rfl) hRc) (Nat.le_trans (Nat.le_of_ble_eq_true rfl) hRs) (Nat.le_of_ble_eq_true rfl) dX9_readsOrder_266 rfl) hS (fun H locs hM hS => ?_)
      obtain ⟨hi150, hf⟩ := g_ck hf
      obtain ⟨m151, em151, hf⟩ := gv_o hf
      refine gg_iast E (fun c hc => gA_in X hc) hM hS (gk_in hg4 (by decide)) hg4 hi150 em151 dX9_readsOrder_269 (fun H locs hM hS => ?_)
      exact ge_v E hr hlocks hf hM hS (Nat.le_of_ble_eq_true rfl) (Nat.le_of_ble_eq_true rfl) dX9_readsOrder_270
  · have hf := g_f h7 hf
    refine lv_iload_n hx hb dX9_readsOrder_19 rfl (lv_at hl 0 rfl) ?_
    refine lv_bipush (v := (108 : Int32)) hx hb dX9_readsOrder_20 (by decide) ?_
    refine lv_icmp_eq (tgt := 47) hx hb dX9_readsOrder_22 (by decide) (fun h152 => ?_) (fun h152 => ?_)
    · have hf := g_t h152 hf
      refine lv_iconst (v := (0 : Int32)) hx hb dX9_readsOrder_47 (by decide) ?_
      obtain ⟨m153, em153, hf⟩ := gv_o hf
      refine PX9_178 E hM hS hk0 (Or.inl rfl) em153 dX9_readsOrder_48 (fun H locs hM hS => ?_)
      refine lv_aload_n hx hb dX9_readsOrder_51 rfl (lv_at hl 1 rfl) ?_
      refine lv_dup hx hb dX9_readsOrder_52 rfl ?_
      refine GX9_175 E hM hk0 dX9_readsOrder_53 ?_
      refine lv_aload_n hx hb dX9_readsOrder_56 rfl (lv_at hl 1 rfl) ?_
      refine GX9_178 E hM hk0 dX9_readsOrder_57 ?_
      refine lv_if_eq (tgt := 67) hx hb dX9_readsOrder_60 (by decide) (fun h154 => ?_) (fun h154 => ?_)
      · have hf := g_t h154 hf
        refine lv_iconst (v := (1 : Int32)) hx hb dX9_readsOrder_67 (by decide) ?_
        refine lv_iadd hx hb dX9_readsOrder_68 ?_
        obtain ⟨m155, em155, hf⟩ := gv_o hf
        refine PX9_175 E hM hS hk0 em155 dX9_readsOrder_69 (fun H locs hM hS => ?_)
        refine lv_iload_n hx hb dX9_readsOrder_72 rfl (lv_at hl 0 rfl) ?_
        by_cases h157 : r3 = (98 : Int32)
        · have hf := g_t h157 hf
          refine lv_lookup (tgt := 116) (off := 43) hx hb dX9_readsOrder_73 (by decide) (by rw [h157]; decide) (by decide) ?_
          refine lv_aload_n hx hb dX9_readsOrder_116 rfl (lv_at hl 1 rfl) ?_
          refine GX9_30 E hM hk0 dX9_readsOrder_117 ?_
          refine lv_iload_n hx hb dX9_readsOrder_120 rfl (lv_at hl 2 rfl) ?_
          refine lv_iconst (v := (1 : Int32)) hx hb dX9_readsOrder_121 (by decide) ?_
          refine lv_iadd hx hb dX9_readsOrder_122 ?_
          refine lv_aload_n hx hb dX9_readsOrder_123 rfl (lv_at hl 1 rfl) ?_
          obtain ⟨r160, m158, hqq159, hf⟩ := g1_o hf
          refine ga_i (gr_V (As := []) (ci := 9) (rm := { frames := 1, cells := 0, slots := 0, locals := 22 }) E hml hl.1 (c_X9_digit l X c0 m155 hk0 hqq159) wt_X9_digit wl_RX9_184 rfl hk0 (by decide) rfl rfl hM hS rfl rfl (Nat.le_trans (by decide) hRf) (Nat.le_trans (by decide) hRl) (Nat.le_trans (Nat.le_of_ble_eq_true rfl) hRc) (Nat.le_trans (Nat.le_of_ble_eq_true rfl) hRs) (Nat.le_of_ble_eq_true rfl) dX9_readsOrder_124 rfl) hS (fun H locs hM hS => ?_)
          obtain ⟨hi161, hf⟩ := g_ck hf
          obtain ⟨m162, em162, hf⟩ := gv_o hf
          refine gg_iast E (fun c hc => gA_in X hc) hM hS (gk_in hg4 (by decide)) hg4 hi161 em162 dX9_readsOrder_127 (fun H locs hM hS => ?_)
          refine lv_aload_n hx hb dX9_readsOrder_128 rfl (lv_at hl 1 rfl) ?_
          refine lv_bipush (v := (43 : Int32)) hx hb dX9_readsOrder_129 (by decide) ?_
          obtain ⟨r165, m163, hqq164, hf⟩ := g1_o hf
          refine ga_v (gr_V (As := [.int (43 : Int32)]) (ci := 9) (rm := { frames := 1, cells := 0, slots := 0, locals := 20 }) E hml hl.1 (c_X9_between l X c0 (43 : Int32) m162 hk0 hqq164) wt_X9_between wl_RX9_187 rfl hk0 (by decide) rfl rfl hM hS rfl rfl (Nat.le_trans (by decide) hRf) (Nat.le_trans (by decide) hRl) (Nat.le_trans (Nat.le_of_ble_eq_true rfl) hRc) (Nat.le_trans (Nat.le_of_ble_eq_true rfl) hRs) (Nat.le_of_ble_eq_true rfl) dX9_readsOrder_131 rfl) hS (fun H locs hM hS => ?_)
          refine lv_aload_n hx hb dX9_readsOrder_134 rfl (lv_at hl 1 rfl) ?_
          refine GX9_30 E hM hk0 dX9_readsOrder_135 ?_
          refine lv_iload_n hx hb dX9_readsOrder_138 rfl (lv_at hl 2 rfl) ?_
          refine lv_iconst (v := (2 : Int32)) hx hb dX9_readsOrder_139 (by decide) ?_
          refine lv_iadd hx hb dX9_readsOrder_140 ?_
          refine lv_aload_n hx hb dX9_readsOrder_141 rfl (lv_at hl 1 rfl) ?_
          obtain ⟨r168, m166, hqq167, hf⟩ := g1_o hf
          refine ga_i (gr_V (As := []) (ci := 9) (rm := { frames := 2, cells := 0, slots := 0, locals := 43 }) E hml hl.1 (c_X9_number l X c0 m163 hk0 hqq167) wt_X9_number wl_RX9_190 rfl hk0 (by decide) rfl rfl hM hS rfl rfl (Nat.le_trans (by decide) hRf) (Nat.le_trans (by decide) hRl) (Nat.le_trans (Nat.le_of_ble_eq_true rfl) hRc) (Nat.le_trans (Nat.le_of_ble_eq_true rfl) hRs) (Nat.le_of_ble_eq_true rfl) dX9_readsOrder_142 rfl) hS (fun H locs hM hS => ?_)
          obtain ⟨hi169, hf⟩ := g_ck hf
          obtain ⟨m170, em170, hf⟩ := gv_o hf
          refine gg_iast E (fun c hc => gA_in X hc) hM hS (gk_in hg4 (by decide)) hg4 hi169 em170 dX9_readsOrder_145 (fun H locs hM hS => ?_)
          exact ge_v E hr hlocks hf hM hS (Nat.le_of_ble_eq_true rfl) (Nat.le_of_ble_eq_true rfl) dX9_readsOrder_146
        have hf := g_f h157 hf
        by_cases h171 : r3 = (108 : Int32)
        · have hf := g_t h171 hf
          refine lv_lookup (tgt := 147) (off := 74) hx hb dX9_readsOrder_73 (by decide) (by rw [h171]; decide) (by decide) ?_
          refine lv_aload_n hx hb dX9_readsOrder_147 rfl (lv_at hl 1 rfl) ?_
          refine GX9_30 E hM hk0 dX9_readsOrder_148 ?_
          refine lv_iload_n hx hb dX9_readsOrder_151 rfl (lv_at hl 2 rfl) ?_
          refine lv_iconst (v := (1 : Int32)) hx hb dX9_readsOrder_152 (by decide) ?_
          refine lv_iadd hx hb dX9_readsOrder_153 ?_
          refine lv_aload_n hx hb dX9_readsOrder_154 rfl (lv_at hl 1 rfl) ?_
          obtain ⟨r174, m172, hqq173, hf⟩ := g1_o hf
          refine ga_i (gr_V (As := []) (ci := 9) (rm := { frames := 1, cells := 0, slots := 0, locals := 22 }) E hml hl.1 (c_X9_digit l X c0 m155 hk0 hqq173) wt_X9_digit wl_RX9_184 rfl hk0 (by decide) rfl rfl hM hS rfl rfl (Nat.le_trans (by decide) hRf) (Nat.le_trans (by decide) hRl) (Nat.le_trans (Nat.le_of_ble_eq_true rfl) hRc) (Nat.le_trans (Nat.le_of_ble_eq_true rfl) hRs) (Nat.le_of_ble_eq_true rfl) dX9_readsOrder_155 rfl) hS (fun H locs hM hS => ?_)
          obtain ⟨hi175, hf⟩ := g_ck hf
          obtain ⟨m176, em176, hf⟩ := gv_o hf
          refine gg_iast E (fun c hc => gA_in X hc) hM hS (gk_in hg4 (by decide)) hg4 hi175 em176 dX9_readsOrder_158 (fun H locs hM hS => ?_)
          refine lv_aload_n hx hb dX9_readsOrder_159 rfl (lv_at hl 1 rfl) ?_
          refine lv_bipush (v := (47 : Int32)) hx hb dX9_readsOrder_160 (by decide) ?_
          obtain ⟨r179, m177, hqq178, hf⟩ := g1_o hf
          refine ga_v (gr_V (As := [.int (47 : Int32)]) (ci := 9) (rm := { frames := 1, cells := 0, slots := 0, locals := 20 }) E hml hl.1 (c_X9_between l X c0 (47 : Int32) m176 hk0 hqq178) wt_X9_between wl_RX9_187 rfl hk0 (by decide) rfl rfl hM hS rfl rfl (Nat.le_trans (by decide) hRf) (Nat.le_trans (by decide) hRl) (Nat.le_trans (Nat.le_of_ble_eq_true rfl) hRc) (Nat.le_trans (Nat.le_of_ble_eq_true rfl) hRs) (Nat.le_of_ble_eq_true rfl) dX9_readsOrder_162 rfl) hS (fun H locs hM hS => ?_)
          refine lv_aload_n hx hb dX9_readsOrder_165 rfl (lv_at hl 1 rfl) ?_
          refine GX9_30 E hM hk0 dX9_readsOrder_166 ?_
          refine lv_iload_n hx hb dX9_readsOrder_169 rfl (lv_at hl 2 rfl) ?_
          refine lv_iconst (v := (2 : Int32)) hx hb dX9_readsOrder_170 (by decide) ?_
          refine lv_iadd hx hb dX9_readsOrder_171 ?_
          refine lv_aload_n hx hb dX9_readsOrder_172 rfl (lv_at hl 1 rfl) ?_
          obtain ⟨r182, m180, hqq181, hf⟩ := g1_o hf
          refine ga_i (gr_V (As := []) (ci := 9) (rm := { frames := 1, cells := 0, slots := 0, locals := 22 }) E hml hl.1 (c_X9_digit l X c0 m177 hk0 hqq181) wt_X9_digit wl_RX9_184 rfl hk0 (by decide) rfl rfl hM hS rfl rfl (Nat.le_trans (by decide) hRf) (Nat.le_trans (by decide) hRl) (Nat.le_trans (Nat.le_of_ble_eq_true rfl) hRc) (Nat.le_trans (Nat.le_of_ble_eq_true rfl) hRs) (Nat.le_of_ble_eq_true rfl) dX9_readsOrder_173 rfl) hS (fun H locs hM hS => ?_)
          obtain ⟨hi183, hf⟩ := g_ck hf
          obtain ⟨m184, em184, hf⟩ := gv_o hf
          refine gg_iast E (fun c hc => gA_in X hc) hM hS (gk_in hg4 (by decide)) hg4 hi183 em184 dX9_readsOrder_176 (fun H locs hM hS => ?_)
          refine lv_aload_n hx hb dX9_readsOrder_177 rfl (lv_at hl 1 rfl) ?_
          refine lv_bipush (v := (58 : Int32)) hx hb dX9_readsOrder_178 (by decide) ?_
          obtain ⟨r187, m185, hqq186, hf⟩ := g1_o hf
          refine ga_v (gr_V (As := [.int (58 : Int32)]) (ci := 9) (rm := { frames := 1, cells := 0, slots := 0, locals := 20 }) E hml hl.1 (c_X9_between l X c0 (58 : Int32) m184 hk0 hqq186) wt_X9_between wl_RX9_187 rfl hk0 (by decide) rfl rfl hM hS rfl rfl (Nat.le_trans (by decide) hRf) (Nat.le_trans (by decide) hRl) (Nat.le_trans (Nat.le_of_ble_eq_true rfl) hRc) (Nat.le_trans (Nat.le_of_ble_eq_true rfl) hRs) (Nat.le_of_ble_eq_true rfl) dX9_readsOrder_180 rfl) hS (fun H locs hM hS => ?_)
          refine lv_aload_n hx hb dX9_readsOrder_183 rfl (lv_at hl 1 rfl) ?_
          refine GX9_30 E hM hk0 dX9_readsOrder_184 ?_
          refine lv_iload_n hx hb dX9_readsOrder_187 rfl (lv_at hl 2 rfl) ?_
          refine lv_iconst (v := (3 : Int32)) hx hb dX9_readsOrder_188 (by decide) ?_
          refine lv_iadd hx hb dX9_readsOrder_189 ?_
          refine lv_aload_n hx hb dX9_readsOrder_190 rfl (lv_at hl 1 rfl) ?_
          obtain ⟨r190, m188, hqq189, hf⟩ := g1_o hf
          refine ga_i (gr_V (As := []) (ci := 9) (rm := { frames := 1, cells := 0, slots := 0, locals := 22 }) E hml hl.1 (c_X9_digit l X c0 m185 hk0 hqq189) wt_X9_digit wl_RX9_184 rfl hk0 (by decide) rfl rfl hM hS rfl rfl (Nat.le_trans (by decide) hRf) (Nat.le_trans (by decide) hRl) (Nat.le_trans (Nat.le_of_ble_eq_true rfl) hRc) (Nat.le_trans (Nat.le_of_ble_eq_true rfl) hRs) (Nat.le_of_ble_eq_true rfl) dX9_readsOrder_191 rfl) hS (fun H locs hM hS => ?_)
          obtain ⟨hi191, hf⟩ := g_ck hf
          obtain ⟨m192, em192, hf⟩ := gv_o hf
          refine gg_iast E (fun c hc => gA_in X hc) hM hS (gk_in hg4 (by decide)) hg4 hi191 em192 dX9_readsOrder_194 (fun H locs hM hS => ?_)
          refine lv_aload_n hx hb dX9_readsOrder_195 rfl (lv_at hl 1 rfl) ?_
          refine lv_bipush (v := (42 : Int32)) hx hb dX9_readsOrder_196 (by decide) ?_
          obtain ⟨r195, m193, hqq194, hf⟩ := g1_o hf
          refine ga_v (gr_V (As := [.int (42 : Int32)]) (ci := 9) (rm := { frames := 1, cells := 0, slots := 0, locals := 20 }) E hml hl.1 (c_X9_between l X c0 (42 : Int32) m192 hk0 hqq194) wt_X9_between wl_RX9_187 rfl hk0 (by decide) rfl rfl hM hS rfl rfl (Nat.le_trans (by decide) hRf) (Nat.le_trans (by decide) hRl) (Nat.le_trans (Nat.le_of_ble_eq_true rfl) hRc) (Nat.le_trans (Nat.le_of_ble_eq_true rfl) hRs) (Nat.le_of_ble_eq_true rfl) dX9_readsOrder_198 rfl) hS (fun H locs hM hS => ?_)
          refine lv_aload_n hx hb dX9_readsOrder_201 rfl (lv_at hl 1 rfl) ?_
          refine GX9_30 E hM hk0 dX9_readsOrder_202 ?_
          refine lv_iload_n hx hb dX9_readsOrder_205 rfl (lv_at hl 2 rfl) ?_
          refine lv_iconst (v := (4 : Int32)) hx hb dX9_readsOrder_206 (by decide) ?_
          refine lv_iadd hx hb dX9_readsOrder_207 ?_
          refine lv_aload_n hx hb dX9_readsOrder_208 rfl (lv_at hl 1 rfl) ?_
          obtain ⟨r198, m196, hqq197, hf⟩ := g1_o hf
          refine ga_i (gr_V (As := []) (ci := 9) (rm := { frames := 2, cells := 0, slots := 0, locals := 43 }) E hml hl.1 (c_X9_number l X c0 m193 hk0 hqq197) wt_X9_number wl_RX9_190 rfl hk0 (by decide) rfl rfl hM hS rfl rfl (Nat.le_trans (by decide) hRf) (Nat.le_trans (by decide) hRl) (Nat.le_trans (Nat.le_of_ble_eq_true rfl) hRc) (Nat.le_trans (Nat.le_of_ble_eq_true rfl) hRs) (Nat.le_of_ble_eq_true rfl) dX9_readsOrder_209 rfl) hS (fun H locs hM hS => ?_)
          obtain ⟨hi199, hf⟩ := g_ck hf
          obtain ⟨m200, em200, hf⟩ := gv_o hf
          refine gg_iast E (fun c hc => gA_in X hc) hM hS (gk_in hg4 (by decide)) hg4 hi199 em200 dX9_readsOrder_212 (fun H locs hM hS => ?_)
          exact ge_v E hr hlocks hf hM hS (Nat.le_of_ble_eq_true rfl) (Nat.le_of_ble_eq_true rfl) dX9_readsOrder_213
        have hf := g_f h171 hf
        by_cases h201 : r3 = (115 : Int32)
        · have hf := g_t h201 hf
          refine lv_lookup (tgt := 214) (off := 141) hx hb dX9_readsOrder_73 (by decide) (by rw [h201]; decide) (by decide) ?_
          refine lv_aload_n hx hb dX9_readsOrder_214 rfl (lv_at hl 1 rfl) ?_
          refine GX9_30 E hM hk0 dX9_readsOrder_215 ?_
          refine lv_iload_n hx hb dX9_readsOrder_218 rfl (lv_at hl 2 rfl) ?_
          refine lv_iconst (v := (1 : Int32)) hx hb dX9_readsOrder_219 (by decide) ?_
          refine lv_iadd hx hb dX9_readsOrder_220 ?_
          refine lv_aload_n hx hb dX9_readsOrder_221 rfl (lv_at hl 1 rfl) ?_
          obtain ⟨r204, m202, hqq203, hf⟩ := g1_o hf
          refine ga_i (gr_V (As := []) (ci := 9) (rm := { frames := 2, cells := 0, slots := 0, locals := 43 }) E hml hl.1 (c_X9_number l X c0 m155 hk0 hqq203) wt_X9_number wl_RX9_190 rfl hk0 (by decide) rfl rfl hM hS rfl rfl (Nat.le_trans (by decide) hRf) (Nat.le_trans (by decide) hRl) (Nat.le_trans (Nat.le_of_ble_eq_true rfl) hRc) (Nat.le_trans (Nat.le_of_ble_eq_true rfl) hRs) (Nat.le_of_ble_eq_true rfl) dX9_readsOrder_222 rfl) hS (fun H locs hM hS => ?_)
          obtain ⟨hi205, hf⟩ := g_ck hf
          obtain ⟨m206, em206, hf⟩ := gv_o hf
          refine gg_iast E (fun c hc => gA_in X hc) hM hS (gk_in hg4 (by decide)) hg4 hi205 em206 dX9_readsOrder_225 (fun H locs hM hS => ?_)
          refine lv_aload_n hx hb dX9_readsOrder_226 rfl (lv_at hl 1 rfl) ?_
          refine lv_bipush (v := (64 : Int32)) hx hb dX9_readsOrder_227 (by decide) ?_
          obtain ⟨r209, m207, hqq208, hf⟩ := g1_o hf
          refine ga_v (gr_V (As := [.int (64 : Int32)]) (ci := 9) (rm := { frames := 1, cells := 0, slots := 0, locals := 20 }) E hml hl.1 (c_X9_between l X c0 (64 : Int32) m206 hk0 hqq208) wt_X9_between wl_RX9_187 rfl hk0 (by decide) rfl rfl hM hS rfl rfl (Nat.le_trans (by decide) hRf) (Nat.le_trans (by decide) hRl) (Nat.le_trans (Nat.le_of_ble_eq_true rfl) hRc) (Nat.le_trans (Nat.le_of_ble_eq_true rfl) hRs) (Nat.le_of_ble_eq_true rfl) dX9_readsOrder_229 rfl) hS (fun H locs hM hS => ?_)
          refine lv_aload_n hx hb dX9_readsOrder_232 rfl (lv_at hl 1 rfl) ?_
          refine GX9_30 E hM hk0 dX9_readsOrder_233 ?_
          refine lv_iload_n hx hb dX9_readsOrder_236 rfl (lv_at hl 2 rfl) ?_
          refine lv_iconst (v := (2 : Int32)) hx hb dX9_readsOrder_237 (by decide) ?_
          refine lv_iadd hx hb dX9_readsOrder_238 ?_
          refine lv_aload_n hx hb dX9_readsOrder_239 rfl (lv_at hl 1 rfl) ?_
          obtain ⟨r212, m210, hqq211, hf⟩ := g1_o hf
          refine ga_i (gr_V (As := []) (ci := 9) (rm := { frames := 1, cells := 0, slots := 0, locals := 22 }) E hml hl.1 (c_X9_digit l X c0 m207 hk0 hqq211) wt_X9_digit wl_RX9_184 rfl hk0 (by decide) rfl rfl hM hS rfl rfl (Nat.le_trans (by decide) hRf) (Nat.le_trans (by decide) hRl) (Nat.le_trans (Nat.le_of_ble_eq_true rfl) hRc) (Nat.le_trans (Nat.le_of_ble_eq_true rfl) hRs) (Nat.le_of_ble_eq_true rfl) dX9_readsOrder_240 rfl) hS (fun H locs hM hS => ?_)
          obtain ⟨hi213, hf⟩ := g_ck hf
          obtain ⟨m214, em214, hf⟩ := gv_o hf
          refine gg_iast E (fun c hc => gA_in X hc) hM hS (gk_in hg4 (by decide)) hg4 hi213 em214 dX9_readsOrder_243 (fun H locs hM hS => ?_)
          exact ge_v E hr hlocks hf hM hS (Nat.le_of_ble_eq_true rfl) (Nat.le_of_ble_eq_true rfl) dX9_readsOrder_244
        have hf := g_f h201 hf
        by_cases h215 : r3 = (116 : Int32)
        · have hf := g_t h215 hf
          refine lv_lookup (tgt := 245) (off := 172) hx hb dX9_readsOrder_73 (by decide) (by rw [h215]; decide) (by decide) ?_
          refine lv_aload_n hx hb dX9_readsOrder_245 rfl (lv_at hl 1 rfl) ?_
          refine GX9_30 E hM hk0 dX9_readsOrder_246 ?_
          refine lv_iload_n hx hb dX9_readsOrder_249 rfl (lv_at hl 2 rfl) ?_
          refine lv_iconst (v := (1 : Int32)) hx hb dX9_readsOrder_250 (by decide) ?_
          refine lv_iadd hx hb dX9_readsOrder_251 ?_
          refine lv_aload_n hx hb dX9_readsOrder_252 rfl (lv_at hl 1 rfl) ?_
          obtain ⟨r218, m216, hqq217, hf⟩ := g1_o hf
          refine ga_i (gr_V (As := []) (ci := 9) (rm := { frames := 1, cells := 0, slots := 0, locals := 22 }) E hml hl.1 (c_X9_digit l X c0 m155 hk0 hqq217) wt_X9_digit wl_RX9_184 rfl hk0 (by decide) rfl rfl hM hS rfl rfl (Nat.le_trans (by decide) hRf) (Nat.le_trans (by decide) hRl) (Nat.le_trans (Nat.le_of_ble_eq_true rfl) hRc) (Nat.le_trans (Nat.le_of_ble_eq_true rfl) hRs) (Nat.le_of_ble_eq_true rfl) dX9_readsOrder_253 rfl) hS (fun H locs hM hS => ?_)
          obtain ⟨hi219, hf⟩ := g_ck hf
          obtain ⟨m220, em220, hf⟩ := gv_o hf
          refine gg_iast E (fun c hc => gA_in X hc) hM hS (gk_in hg4 (by decide)) hg4 hi219 em220 dX9_readsOrder_256 (fun H locs hM hS => ?_)
          exact ge_v E hr hlocks hf hM hS (Nat.le_of_ble_eq_true rfl) (Nat.le_of_ble_eq_true rfl) dX9_readsOrder_257
        have hf := g_f h215 hf
        have ah157 := g_tn (z := 98) h157 rfl
        have ah171 := g_tn (z := 108) h171 rfl
        have ah201 := g_tn (z := 115) h201 rfl
        have ah215 := g_tn (z := 116) h215 rfl
        refine lv_lookup (tgt := 258) (off := 185) hx hb dX9_readsOrder_73 (by decide) (by simp [Op.lookupswitch.offset, ah157, ah171, ah201, ah215]) (by decide) ?_
        refine lv_aload_n hx hb dX9_readsOrder_258 rfl (lv_at hl 1 rfl) ?_
        refine GX9_30 E hM hk0 dX9_readsOrder_259 ?_
        refine lv_iload_n hx hb dX9_readsOrder_262 rfl (lv_at hl 2 rfl) ?_
        refine lv_iconst (v := (1 : Int32)) hx hb dX9_readsOrder_263 (by decide) ?_
        refine lv_iadd hx hb dX9_readsOrder_264 ?_
        refine lv_aload_n hx hb dX9_readsOrder_265 rfl (lv_at hl 1 rfl) ?_
        obtain ⟨r223, m221, hqq222, hf⟩ := g1_o hf
        refine ga_i (gr_V (As := []) (ci := 9) (rm := { frames := 2, cells := 0, slots := 0, locals := 43 }) E hml hl.1 (c_X9_number l X c0 m155 hk0 hqq222) wt_X9_number wl_RX9_190 rfl hk0 (by decide) rfl rfl hM hS rfl rfl (Nat.le_trans (by decide) hRf) (Nat.le_trans (by decide) hRl) (Nat.le_trans (Nat.le_of_ble_eq_true rfl) hRc) (Nat.le_trans (Nat.le_of_ble_eq_true rfl) hRs) (Nat.le_of_ble_eq_true rfl) dX9_readsOrder_266 rfl) hS (fun H locs hM hS => ?_)
        obtain ⟨hi224, hf⟩ := g_ck hf
        obtain ⟨m225, em225, hf⟩ := gv_o hf
        refine gg_iast E (fun c hc => gA_in X hc) hM hS (gk_in hg4 (by decide)) hg4 hi224 em225 dX9_readsOrder_269 (fun H locs hM hS => ?_)
        exact ge_v E hr hlocks hf hM hS (Nat.le_of_ble_eq_true rfl) (Nat.le_of_ble_eq_true rfl) dX9_readsOrder_270
      · have hf := g_f h154 hf
        refine lv_iconst (v := (0 : Int32)) hx hb dX9_readsOrder_63 (by decide) ?_
        refine lv_goto (tgt := 68) hx hb dX9_readsOrder_64 (by decide) ?_
        refine lv_iadd hx hb dX9_readsOrder_68 ?_
        obtain ⟨m226, em226, hf⟩ := gv_o hf
        refine PX9_175 E hM hS hk0 em226 dX9_readsOrder_69 (fun H locs hM hS => ?_)
        refine lv_iload_n hx hb dX9_readsOrder_72 rfl (lv_at hl 0 rfl) ?_
        by_cases h228 : r3 = (98 : Int32)
        · have hf := g_t h228 hf
          refine lv_lookup (tgt := 116) (off := 43) hx hb dX9_readsOrder_73 (by decide) (by rw [h228]; decide) (by decide) ?_
          refine lv_aload_n hx hb dX9_readsOrder_116 rfl (lv_at hl 1 rfl) ?_
          refine GX9_30 E hM hk0 dX9_readsOrder_117 ?_
          refine lv_iload_n hx hb dX9_readsOrder_120 rfl (lv_at hl 2 rfl) ?_
          refine lv_iconst (v := (1 : Int32)) hx hb dX9_readsOrder_121 (by decide) ?_
          refine lv_iadd hx hb dX9_readsOrder_122 ?_
          refine lv_aload_n hx hb dX9_readsOrder_123 rfl (lv_at hl 1 rfl) ?_
          obtain ⟨r231, m229, hqq230, hf⟩ := g1_o hf
          refine ga_i (gr_V (As := []) (ci := 9) (rm := { frames := 1, cells := 0, slots := 0, locals := 22 }) E hml hl.1 (c_X9_digit l X c0 m226 hk0 hqq230) wt_X9_digit wl_RX9_184 rfl hk0 (by decide) rfl rfl hM hS rfl rfl (Nat.le_trans (by decide) hRf) (Nat.le_trans (by decide) hRl) (Nat.le_trans (Nat.le_of_ble_eq_true rfl) hRc) (Nat.le_trans (Nat.le_of_ble_eq_true rfl) hRs) (Nat.le_of_ble_eq_true rfl) dX9_readsOrder_124 rfl) hS (fun H locs hM hS => ?_)
          obtain ⟨hi232, hf⟩ := g_ck hf
          obtain ⟨m233, em233, hf⟩ := gv_o hf
          refine gg_iast E (fun c hc => gA_in X hc) hM hS (gk_in hg4 (by decide)) hg4 hi232 em233 dX9_readsOrder_127 (fun H locs hM hS => ?_)
          refine lv_aload_n hx hb dX9_readsOrder_128 rfl (lv_at hl 1 rfl) ?_
          refine lv_bipush (v := (43 : Int32)) hx hb dX9_readsOrder_129 (by decide) ?_
          obtain ⟨r236, m234, hqq235, hf⟩ := g1_o hf
          refine ga_v (gr_V (As := [.int (43 : Int32)]) (ci := 9) (rm := { frames := 1, cells := 0, slots := 0, locals := 20 }) E hml hl.1 (c_X9_between l X c0 (43 : Int32) m233 hk0 hqq235) wt_X9_between wl_RX9_187 rfl hk0 (by decide) rfl rfl hM hS rfl rfl (Nat.le_trans (by decide) hRf) (Nat.le_trans (by decide) hRl) (Nat.le_trans (Nat.le_of_ble_eq_true rfl) hRc) (Nat.le_trans (Nat.le_of_ble_eq_true rfl) hRs) (Nat.le_of_ble_eq_true rfl) dX9_readsOrder_131 rfl) hS (fun H locs hM hS => ?_)
          refine lv_aload_n hx hb dX9_readsOrder_134 rfl (lv_at hl 1 rfl) ?_
          refine GX9_30 E hM hk0 dX9_readsOrder_135 ?_
          refine lv_iload_n hx hb dX9_readsOrder_138 rfl (lv_at hl 2 rfl) ?_
          refine lv_iconst (v := (2 : Int32)) hx hb dX9_readsOrder_139 (by decide) ?_
          refine lv_iadd hx hb dX9_readsOrder_140 ?_
          refine lv_aload_n hx hb dX9_readsOrder_141 rfl (lv_at hl 1 rfl) ?_
          obtain ⟨r239, m237, hqq238, hf⟩ := g1_o hf
          refine ga_i (gr_V (As := []) (ci := 9) (rm := { frames := 2, cells := 0, slots := 0, locals := 43 }) E hml hl.1 (c_X9_number l X c0 m234 hk0 hqq238) wt_X9_number wl_RX9_190 rfl hk0 (by decide) rfl rfl hM hS rfl rfl (Nat.le_trans (by decide) hRf) (Nat.le_trans (by decide) hRl) (Nat.le_trans (Nat.le_of_ble_eq_true rfl) hRc) (Nat.le_trans (Nat.le_of_ble_eq_true rfl) hRs) (Nat.le_of_ble_eq_true rfl) dX9_readsOrder_142 rfl) hS (fun H locs hM hS => ?_)
          obtain ⟨hi240, hf⟩ := g_ck hf
          obtain ⟨m241, em241, hf⟩ := gv_o hf
          refine gg_iast E (fun c hc => gA_in X hc) hM hS (gk_in hg4 (by decide)) hg4 hi240 em241 dX9_readsOrder_145 (fun H locs hM hS => ?_)
          exact ge_v E hr hlocks hf hM hS (Nat.le_of_ble_eq_true rfl) (Nat.le_of_ble_eq_true rfl) dX9_readsOrder_146
        have hf := g_f h228 hf
        by_cases h242 : r3 = (108 : Int32)
        · have hf := g_t h242 hf
          refine lv_lookup (tgt := 147) (off := 74) hx hb dX9_readsOrder_73 (by decide) (by rw [h242]; decide) (by decide) ?_
          refine lv_aload_n hx hb dX9_readsOrder_147 rfl (lv_at hl 1 rfl) ?_
          refine GX9_30 E hM hk0 dX9_readsOrder_148 ?_
          refine lv_iload_n hx hb dX9_readsOrder_151 rfl (lv_at hl 2 rfl) ?_
          refine lv_iconst (v := (1 : Int32)) hx hb dX9_readsOrder_152 (by decide) ?_
          refine lv_iadd hx hb dX9_readsOrder_153 ?_
          refine lv_aload_n hx hb dX9_readsOrder_154 rfl (lv_at hl 1 rfl) ?_
          obtain ⟨r245, m243, hqq244, hf⟩ := g1_o hf
          refine ga_i (gr_V (As := []) (ci := 9) (rm := { frames := 1, cells := 0, slots := 0, locals := 22 }) E hml hl.1 (c_X9_digit l X c0 m226 hk0 hqq244) wt_X9_digit wl_RX9_184 rfl hk0 (by decide) rfl rfl hM hS rfl rfl (Nat.le_trans (by decide) hRf) (Nat.le_trans (by decide) hRl) (Nat.le_trans (Nat.le_of_ble_eq_true rfl) hRc) (Nat.le_trans (Nat.le_of_ble_eq_true rfl) hRs) (Nat.le_of_ble_eq_true rfl) dX9_readsOrder_155 rfl) hS (fun H locs hM hS => ?_)
          obtain ⟨hi246, hf⟩ := g_ck hf
          obtain ⟨m247, em247, hf⟩ := gv_o hf
          refine gg_iast E (fun c hc => gA_in X hc) hM hS (gk_in hg4 (by decide)) hg4 hi246 em247 dX9_readsOrder_158 (fun H locs hM hS => ?_)
          refine lv_aload_n hx hb dX9_readsOrder_159 rfl (lv_at hl 1 rfl) ?_
          refine lv_bipush (v := (47 : Int32)) hx hb dX9_readsOrder_160 (by decide) ?_
          obtain ⟨r250, m248, hqq249, hf⟩ := g1_o hf
          refine ga_v (gr_V (As := [.int (47 : Int32)]) (ci := 9) (rm := { frames := 1, cells := 0, slots := 0, locals := 20 }) E hml hl.1 (c_X9_between l X c0 (47 : Int32) m247 hk0 hqq249) wt_X9_between wl_RX9_187 rfl hk0 (by decide) rfl rfl hM hS rfl rfl (Nat.le_trans (by decide) hRf) (Nat.le_trans (by decide) hRl) (Nat.le_trans (Nat.le_of_ble_eq_true rfl) hRc) (Nat.le_trans (Nat.le_of_ble_eq_true rfl) hRs) (Nat.le_of_ble_eq_true rfl) dX9_readsOrder_162 rfl) hS (fun H locs hM hS => ?_)
          refine lv_aload_n hx hb dX9_readsOrder_165 rfl (lv_at hl 1 rfl) ?_
          refine GX9_30 E hM hk0 dX9_readsOrder_166 ?_
          refine lv_iload_n hx hb dX9_readsOrder_169 rfl (lv_at hl 2 rfl) ?_
          refine lv_iconst (v := (2 : Int32)) hx hb dX9_readsOrder_170 (by decide) ?_
          refine lv_iadd hx hb dX9_readsOrder_171 ?_
          refine lv_aload_n hx hb dX9_readsOrder_172 rfl (lv_at hl 1 rfl) ?_
          obtain ⟨r253, m251, hqq252, hf⟩ := g1_o hf
          refine ga_i (gr_V (As := []) (ci := 9) (rm := { frames := 1, cells := 0, slots := 0, locals := 22 }) E hml hl.1 (c_X9_digit l X c0 m248 hk0 hqq252) wt_X9_digit wl_RX9_184 rfl hk0 (by decide) rfl rfl hM hS rfl rfl (Nat.le_trans (by decide) hRf) (Nat.le_trans (by decide) hRl) (Nat.le_trans (Nat.le_of_ble_eq_true rfl) hRc) (Nat.le_trans (Nat.le_of_ble_eq_true rfl) hRs) (Nat.le_of_ble_eq_true rfl) dX9_readsOrder_173 rfl) hS (fun H locs hM hS => ?_)
          obtain ⟨hi254, hf⟩ := g_ck hf
          obtain ⟨m255, em255, hf⟩ := gv_o hf
          refine gg_iast E (fun c hc => gA_in X hc) hM hS (gk_in hg4 (by decide)) hg4 hi254 em255 dX9_readsOrder_176 (fun H locs hM hS => ?_)
          refine lv_aload_n hx hb dX9_readsOrder_177 rfl (lv_at hl 1 rfl) ?_
          refine lv_bipush (v := (58 : Int32)) hx hb dX9_readsOrder_178 (by decide) ?_
          obtain ⟨r258, m256, hqq257, hf⟩ := g1_o hf
          refine ga_v (gr_V (As := [.int (58 : Int32)]) (ci := 9) (rm := { frames := 1, cells := 0, slots := 0, locals := 20 }) E hml hl.1 (c_X9_between l X c0 (58 : Int32) m255 hk0 hqq257) wt_X9_between wl_RX9_187 rfl hk0 (by decide) rfl rfl hM hS rfl rfl (Nat.le_trans (by decide) hRf) (Nat.le_trans (by decide) hRl) (Nat.le_trans (Nat.le_of_ble_eq_true rfl) hRc) (Nat.le_trans (Nat.le_of_ble_eq_true rfl) hRs) (Nat.le_of_ble_eq_true rfl) dX9_readsOrder_180 rfl) hS (fun H locs hM hS => ?_)
          refine lv_aload_n hx hb dX9_readsOrder_183 rfl (lv_at hl 1 rfl) ?_
          refine GX9_30 E hM hk0 dX9_readsOrder_184 ?_
          refine lv_iload_n hx hb dX9_readsOrder_187 rfl (lv_at hl 2 rfl) ?_
          refine lv_iconst (v := (3 : Int32)) hx hb dX9_readsOrder_188 (by decide) ?_
          refine lv_iadd hx hb dX9_readsOrder_189 ?_
          refine lv_aload_n hx hb dX9_readsOrder_190 rfl (lv_at hl 1 rfl) ?_
          obtain ⟨r261, m259, hqq260, hf⟩ := g1_o hf
          refine ga_i (gr_V (As := []) (ci := 9) (rm := { frames := 1, cells := 0, slots := 0, locals := 22 }) E hml hl.1 (c_X9_digit l X c0 m256 hk0 hqq260) wt_X9_digit wl_RX9_184 rfl hk0 (by decide) rfl rfl hM hS rfl rfl (Nat.le_trans (by decide) hRf) (Nat.le_trans (by decide) hRl) (Nat.le_trans (Nat.le_of_ble_eq_true rfl) hRc) (Nat.le_trans (Nat.le_of_ble_eq_true rfl) hRs) (Nat.le_of_ble_eq_true rfl) dX9_readsOrder_191 rfl) hS (fun H locs hM hS => ?_)
          obtain ⟨hi262, hf⟩ := g_ck hf
          obtain ⟨m263, em263, hf⟩ := gv_o hf
          refine gg_iast E (fun c hc => gA_in X hc) hM hS (gk_in hg4 (by decide)) hg4 hi262 em263 dX9_readsOrder_194 (fun H locs hM hS => ?_)
          refine lv_aload_n hx hb dX9_readsOrder_195 rfl (lv_at hl 1 rfl) ?_
          refine lv_bipush (v := (42 : Int32)) hx hb dX9_readsOrder_196 (by decide) ?_
          obtain ⟨r266, m264, hqq265, hf⟩ := g1_o hf
          refine ga_v (gr_V (As := [.int (42 : Int32)]) (ci := 9) (rm := { frames := 1, cells := 0, slots := 0, locals := 20 }) E hml hl.1 (c_X9_between l X c0 (42 : Int32) m263 hk0 hqq265) wt_X9_between wl_RX9_187 rfl hk0 (by decide) rfl rfl hM hS rfl rfl (Nat.le_trans (by decide) hRf) (Nat.le_trans (by decide) hRl) (Nat.le_trans (Nat.le_of_ble_eq_true rfl) hRc) (Nat.le_trans (Nat.le_of_ble_eq_true rfl) hRs) (Nat.le_of_ble_eq_true rfl) dX9_readsOrder_198 rfl) hS (fun H locs hM hS => ?_)
          refine lv_aload_n hx hb dX9_readsOrder_201 rfl (lv_at hl 1 rfl) ?_
          refine GX9_30 E hM hk0 dX9_readsOrder_202 ?_
          refine lv_iload_n hx hb dX9_readsOrder_205 rfl (lv_at hl 2 rfl) ?_
          refine lv_iconst (v := (4 : Int32)) hx hb dX9_readsOrder_206 (by decide) ?_
          refine lv_iadd hx hb dX9_readsOrder_207 ?_
          refine lv_aload_n hx hb dX9_readsOrder_208 rfl (lv_at hl 1 rfl) ?_
          obtain ⟨r269, m267, hqq268, hf⟩ := g1_o hf
          refine ga_i (gr_V (As := []) (ci := 9) (rm := { frames := 2, cells := 0, slots := 0, locals := 43 }) E hml hl.1 (c_X9_number l X c0 m264 hk0 hqq268) wt_X9_number wl_RX9_190 rfl hk0 (by decide) rfl rfl hM hS rfl rfl (Nat.le_trans (by decide) hRf) (Nat.le_trans (by decide) hRl) (Nat.le_trans (Nat.le_of_ble_eq_true rfl) hRc) (Nat.le_trans (Nat.le_of_ble_eq_true rfl) hRs) (Nat.le_of_ble_eq_true rfl) dX9_readsOrder_209 rfl) hS (fun H locs hM hS => ?_)
          obtain ⟨hi270, hf⟩ := g_ck hf
          obtain ⟨m271, em271, hf⟩ := gv_o hf
          refine gg_iast E (fun c hc => gA_in X hc) hM hS (gk_in hg4 (by decide)) hg4 hi270 em271 dX9_readsOrder_212 (fun H locs hM hS => ?_)
          exact ge_v E hr hlocks hf hM hS (Nat.le_of_ble_eq_true rfl) (Nat.le_of_ble_eq_true rfl) dX9_readsOrder_213
        have hf := g_f h242 hf
        by_cases h272 : r3 = (115 : Int32)
        · have hf := g_t h272 hf
          refine lv_lookup (tgt := 214) (off := 141) hx hb dX9_readsOrder_73 (by decide) (by rw [h272]; decide) (by decide) ?_
          refine lv_aload_n hx hb dX9_readsOrder_214 rfl (lv_at hl 1 rfl) ?_
          refine GX9_30 E hM hk0 dX9_readsOrder_215 ?_
          refine lv_iload_n hx hb dX9_readsOrder_218 rfl (lv_at hl 2 rfl) ?_
          refine lv_iconst (v := (1 : Int32)) hx hb dX9_readsOrder_219 (by decide) ?_
          refine lv_iadd hx hb dX9_readsOrder_220 ?_
          refine lv_aload_n hx hb dX9_readsOrder_221 rfl (lv_at hl 1 rfl) ?_
          obtain ⟨r275, m273, hqq274, hf⟩ := g1_o hf
          refine ga_i (gr_V (As := []) (ci := 9) (rm := { frames := 2, cells := 0, slots := 0, locals := 43 }) E hml hl.1 (c_X9_number l X c0 m226 hk0 hqq274) wt_X9_number wl_RX9_190 rfl hk0 (by decide) rfl rfl hM hS rfl rfl (Nat.le_trans (by decide) hRf) (Nat.le_trans (by decide) hRl) (Nat.le_trans (Nat.le_of_ble_eq_true rfl) hRc) (Nat.le_trans (Nat.le_of_ble_eq_true rfl) hRs) (Nat.le_of_ble_eq_true rfl) dX9_readsOrder_222 rfl) hS (fun H locs hM hS => ?_)
          obtain ⟨hi276, hf⟩ := g_ck hf
          obtain ⟨m277, em277, hf⟩ := gv_o hf
          refine gg_iast E (fun c hc => gA_in X hc) hM hS (gk_in hg4 (by decide)) hg4 hi276 em277 dX9_readsOrder_225 (fun H locs hM hS => ?_)
          refine lv_aload_n hx hb dX9_readsOrder_226 rfl (lv_at hl 1 rfl) ?_
          refine lv_bipush (v := (64 : Int32)) hx hb dX9_readsOrder_227 (by decide) ?_
          obtain ⟨r280, m278, hqq279, hf⟩ := g1_o hf
          refine ga_v (gr_V (As := [.int (64 : Int32)]) (ci := 9) (rm := { frames := 1, cells := 0, slots := 0, locals := 20 }) E hml hl.1 (c_X9_between l X c0 (64 : Int32) m277 hk0 hqq279) wt_X9_between wl_RX9_187 rfl hk0 (by decide) rfl rfl hM hS rfl rfl (Nat.le_trans (by decide) hRf) (Nat.le_trans (by decide) hRl) (Nat.le_trans (Nat.le_of_ble_eq_true rfl) hRc) (Nat.le_trans (Nat.le_of_ble_eq_true rfl) hRs) (Nat.le_of_ble_eq_true rfl) dX9_readsOrder_229 rfl) hS (fun H locs hM hS => ?_)
          refine lv_aload_n hx hb dX9_readsOrder_232 rfl (lv_at hl 1 rfl) ?_
          refine GX9_30 E hM hk0 dX9_readsOrder_233 ?_
          refine lv_iload_n hx hb dX9_readsOrder_236 rfl (lv_at hl 2 rfl) ?_
          refine lv_iconst (v := (2 : Int32)) hx hb dX9_readsOrder_237 (by decide) ?_
          refine lv_iadd hx hb dX9_readsOrder_238 ?_
          refine lv_aload_n hx hb dX9_readsOrder_239 rfl (lv_at hl 1 rfl) ?_
          obtain ⟨r283, m281, hqq282, hf⟩ := g1_o hf
          refine ga_i (gr_V (As := []) (ci := 9) (rm := { frames := 1, cells := 0, slots := 0, locals := 22 }) E hml hl.1 (c_X9_digit l X c0 m278 hk0 hqq282) wt_X9_digit wl_RX9_184 rfl hk0 (by decide) rfl rfl hM hS rfl rfl (Nat.le_trans (by decide) hRf) (Nat.le_trans (by decide) hRl) (Nat.le_trans (Nat.le_of_ble_eq_true rfl) hRc) (Nat.le_trans (Nat.le_of_ble_eq_true rfl) hRs) (Nat.le_of_ble_eq_true rfl) dX9_readsOrder_240 rfl) hS (fun H locs hM hS => ?_)
          obtain ⟨hi284, hf⟩ := g_ck hf
          obtain ⟨m285, em285, hf⟩ := gv_o hf
          refine gg_iast E (fun c hc => gA_in X hc) hM hS (gk_in hg4 (by decide)) hg4 hi284 em285 dX9_readsOrder_243 (fun H locs hM hS => ?_)
          exact ge_v E hr hlocks hf hM hS (Nat.le_of_ble_eq_true rfl) (Nat.le_of_ble_eq_true rfl) dX9_readsOrder_244
        have hf := g_f h272 hf
        by_cases h286 : r3 = (116 : Int32)
        · have hf := g_t h286 hf
          refine lv_lookup (tgt := 245) (off := 172) hx hb dX9_readsOrder_73 (by decide) (by rw [h286]; decide) (by decide) ?_
          refine lv_aload_n hx hb dX9_readsOrder_245 rfl (lv_at hl 1 rfl) ?_
          refine GX9_30 E hM hk0 dX9_readsOrder_246 ?_
          refine lv_iload_n hx hb dX9_readsOrder_249 rfl (lv_at hl 2 rfl) ?_
          refine lv_iconst (v := (1 : Int32)) hx hb dX9_readsOrder_250 (by decide) ?_
          refine lv_iadd hx hb dX9_readsOrder_251 ?_
          refine lv_aload_n hx hb dX9_readsOrder_252 rfl (lv_at hl 1 rfl) ?_
          obtain ⟨r289, m287, hqq288, hf⟩ := g1_o hf
          refine ga_i (gr_V (As := []) (ci := 9) (rm := { frames := 1, cells := 0, slots := 0, locals := 22 }) E hml hl.1 (c_X9_digit l X c0 m226 hk0 hqq288) wt_X9_digit wl_RX9_184 rfl hk0 (by decide) rfl rfl hM hS rfl rfl (Nat.le_trans (by decide) hRf) (Nat.le_trans (by decide) hRl) (Nat.le_trans (Nat.le_of_ble_eq_true rfl) hRc) (Nat.le_trans (Nat.le_of_ble_eq_true rfl) hRs) (Nat.le_of_ble_eq_true rfl) dX9_readsOrder_253 rfl) hS (fun H locs hM hS => ?_)
          obtain ⟨hi290, hf⟩ := g_ck hf
          obtain ⟨m291, em291, hf⟩ := gv_o hf
          refine gg_iast E (fun c hc => gA_in X hc) hM hS (gk_in hg4 (by decide)) hg4 hi290 em291 dX9_readsOrder_256 (fun H locs hM hS => ?_)
          exact ge_v E hr hlocks hf hM hS (Nat.le_of_ble_eq_true rfl) (Nat.le_of_ble_eq_true rfl) dX9_readsOrder_257
        have hf := g_f h286 hf
        have ah228 := g_tn (z := 98) h228 rfl
        have ah242 := g_tn (z := 108) h242 rfl
        have ah272 := g_tn (z := 115) h272 rfl
        have ah286 := g_tn (z := 116) h286 rfl
        refine lv_lookup (tgt := 258) (off := 185) hx hb dX9_readsOrder_73 (by decide) (by simp [Op.lookupswitch.offset, ah228, ah242, ah272, ah286]) (by decide) ?_
        refine lv_aload_n hx hb dX9_readsOrder_258 rfl (lv_at hl 1 rfl) ?_
        refine GX9_30 E hM hk0 dX9_readsOrder_259 ?_
        refine lv_iload_n hx hb dX9_readsOrder_262 rfl (lv_at hl 2 rfl) ?_
        refine lv_iconst (v := (1 : Int32)) hx hb dX9_readsOrder_263 (by decide) ?_
        refine lv_iadd hx hb dX9_readsOrder_264 ?_
        refine lv_aload_n hx hb dX9_readsOrder_265 rfl (lv_at hl 1 rfl) ?_
        obtain ⟨r294, m292, hqq293, hf⟩ := g1_o hf
        refine ga_i (gr_V (As := []) (ci := 9) (rm := { frames := 2, cells := 0, slots := 0, locals := 43 }) E hml hl.1 (c_X9_number l X c0 m226 hk0 hqq293) wt_X9_number wl_RX9_190 rfl hk0 (by decide) rfl rfl hM hS rfl rfl (Nat.le_trans (by decide) hRf) (Nat.le_trans (by decide) hRl) (Nat.le_trans (Nat.le_of_ble_eq_true rfl) hRc) (Nat.le_trans (Nat.le_of_ble_eq_true rfl) hRs) (Nat.le_of_ble_eq_true rfl) dX9_readsOrder_266 rfl) hS (fun H locs hM hS => ?_)
        obtain ⟨hi295, hf⟩ := g_ck hf
        obtain ⟨m296, em296, hf⟩ := gv_o hf
        refine gg_iast E (fun c hc => gA_in X hc) hM hS (gk_in hg4 (by decide)) hg4 hi295 em296 dX9_readsOrder_269 (fun H locs hM hS => ?_)
        exact ge_v E hr hlocks hf hM hS (Nat.le_of_ble_eq_true rfl) (Nat.le_of_ble_eq_true rfl) dX9_readsOrder_270
    · have hf := g_f h152 hf
      refine lv_iload_n hx hb dX9_readsOrder_25 rfl (lv_at hl 0 rfl) ?_
      refine lv_bipush (v := (116 : Int32)) hx hb dX9_readsOrder_26 (by decide) ?_
      refine lv_icmp_eq (tgt := 47) hx hb dX9_readsOrder_28 (by decide) (fun h297 => ?_) (fun h297 => ?_)
      · have hf := g_t h297 hf
        refine lv_iconst (v := (0 : Int32)) hx hb dX9_readsOrder_47 (by decide) ?_
        obtain ⟨m298, em298, hf⟩ := gv_o hf
        refine PX9_178 E hM hS hk0 (Or.inl rfl) em298 dX9_readsOrder_48 (fun H locs hM hS => ?_)
        refine lv_aload_n hx hb dX9_readsOrder_51 rfl (lv_at hl 1 rfl) ?_
        refine lv_dup hx hb dX9_readsOrder_52 rfl ?_
        refine GX9_175 E hM hk0 dX9_readsOrder_53 ?_
        refine lv_aload_n hx hb dX9_readsOrder_56 rfl (lv_at hl 1 rfl) ?_
        refine GX9_178 E hM hk0 dX9_readsOrder_57 ?_
        refine lv_if_eq (tgt := 67) hx hb dX9_readsOrder_60 (by decide) (fun h299 => ?_) (fun h299 => ?_)
        · have hf := g_t h299 hf
          refine lv_iconst (v := (1 : Int32)) hx hb dX9_readsOrder_67 (by decide) ?_
          refine lv_iadd hx hb dX9_readsOrder_68 ?_
          obtain ⟨m300, em300, hf⟩ := gv_o hf
          refine PX9_175 E hM hS hk0 em300 dX9_readsOrder_69 (fun H locs hM hS => ?_)
          refine lv_iload_n hx hb dX9_readsOrder_72 rfl (lv_at hl 0 rfl) ?_
          by_cases h302 : r3 = (98 : Int32)
          · have hf := g_t h302 hf
            refine lv_lookup (tgt := 116) (off := 43) hx hb dX9_readsOrder_73 (by decide) (by rw [h302]; decide) (by decide) ?_
            refine lv_aload_n hx hb dX9_readsOrder_116 rfl (lv_at hl 1 rfl) ?_
            refine GX9_30 E hM hk0 dX9_readsOrder_117 ?_
            refine lv_iload_n hx hb dX9_readsOrder_120 rfl (lv_at hl 2 rfl) ?_
            refine lv_iconst (v := (1 : Int32)) hx hb dX9_readsOrder_121 (by decide) ?_
            refine lv_iadd hx hb dX9_readsOrder_122 ?_
            refine lv_aload_n hx hb dX9_readsOrder_123 rfl (lv_at hl 1 rfl) ?_
            obtain ⟨r305, m303, hqq304, hf⟩ := g1_o hf
            refine ga_i (gr_V (As := []) (ci := 9) (rm := { frames := 1, cells := 0, slots := 0, locals := 22 }) E hml hl.1 (c_X9_digit l X c0 m300 hk0 hqq304) wt_X9_digit wl_RX9_184 rfl hk0 (by decide) rfl rfl hM hS rfl rfl (Nat.le_trans (by decide) hRf) (Nat.le_trans (by decide) hRl) (Nat.le_trans (Nat.le_of_ble_eq_true rfl) hRc) (Nat.le_trans (Nat.le_of_ble_eq_true rfl) hRs) (Nat.le_of_ble_eq_true rfl) dX9_readsOrder_124 rfl) hS (fun H locs hM hS => ?_)
            obtain ⟨hi306, hf⟩ := g_ck hf
            obtain ⟨m307, em307, hf⟩ := gv_o hf
            refine gg_iast E (fun c hc => gA_in X hc) hM hS (gk_in hg4 (by decide)) hg4 hi306 em307 dX9_readsOrder_127 (fun H locs hM hS => ?_)
            refine lv_aload_n hx hb dX9_readsOrder_128 rfl (lv_at hl 1 rfl) ?_
            refine lv_bipush (v := (43 : Int32)) hx hb dX9_readsOrder_129 (by decide) ?_
            obtain ⟨r310, m308, hqq309, hf⟩ := g1_o hf
            refine ga_v (gr_V (As := [.int (43 : Int32)]) (ci := 9) (rm := { frames := 1, cells := 0, slots := 0, locals := 20 }) E hml hl.1 (c_X9_between l X c0 (43 : Int32) m307 hk0 hqq309) wt_X9_between wl_RX9_187 rfl hk0 (by decide) rfl rfl hM hS rfl rfl (Nat.le_trans (by decide) hRf) (Nat.le_trans (by decide) hRl) (Nat.le_trans (Nat.le_of_ble_eq_true rfl) hRc) (Nat.le_trans (Nat.le_of_ble_eq_true rfl) hRs) (Nat.le_of_ble_eq_true rfl) dX9_readsOrder_131 rfl) hS (fun H locs hM hS => ?_)
            refine lv_aload_n hx hb dX9_readsOrder_134 rfl (lv_at hl 1 rfl) ?_
            refine GX9_30 E hM hk0 dX9_readsOrder_135 ?_
            refine lv_iload_n hx hb dX9_readsOrder_138 rfl (lv_at hl 2 rfl) ?_
            refine lv_iconst (v := (2 : Int32)) hx hb dX9_readsOrder_139 (by decide) ?_
            refine lv_iadd hx hb dX9_readsOrder_140 ?_
            refine lv_aload_n hx hb dX9_readsOrder_141 rfl (lv_at hl 1 rfl) ?_
            obtain ⟨r313, m311, hqq312, hf⟩ := g1_o hf
            refine ga_i (gr_V (As := []) (ci := 9) (rm := { frames := 2, cells := 0, slots := 0, locals := 43 }) E hml hl.1 (c_X9_number l X c0 m308 hk0 hqq312) wt_X9_number wl_RX9_190 rfl hk0 (by decide) rfl rfl hM hS rfl rfl (Nat.le_trans (by decide) hRf) (Nat.le_trans (by decide) hRl) (Nat.le_trans (Nat.le_of_ble_eq_true rfl) hRc) (Nat.le_trans (Nat.le_of_ble_eq_true rfl) hRs) (Nat.le_of_ble_eq_true rfl) dX9_readsOrder_142 rfl) hS (fun H locs hM hS => ?_)
            obtain ⟨hi314, hf⟩ := g_ck hf
            obtain ⟨m315, em315, hf⟩ := gv_o hf
            refine gg_iast E (fun c hc => gA_in X hc) hM hS (gk_in hg4 (by decide)) hg4 hi314 em315 dX9_readsOrder_145 (fun H locs hM hS => ?_)
            exact ge_v E hr hlocks hf hM hS (Nat.le_of_ble_eq_true rfl) (Nat.le_of_ble_eq_true rfl) dX9_readsOrder_146
          have hf := g_f h302 hf
          by_cases h316 : r3 = (108 : Int32)
          · have hf := g_t h316 hf
            refine lv_lookup (tgt := 147) (off := 74) hx hb dX9_readsOrder_73 (by decide) (by rw [h316]; decide) (by decide) ?_
            refine lv_aload_n hx hb dX9_readsOrder_147 rfl (lv_at hl 1 rfl) ?_
            refine GX9_30 E hM hk0 dX9_readsOrder_148 ?_
            refine lv_iload_n hx hb dX9_readsOrder_151 rfl (lv_at hl 2 rfl) ?_
            refine lv_iconst (v := (1 : Int32)) hx hb dX9_readsOrder_152 (by decide) ?_
            refine lv_iadd hx hb dX9_readsOrder_153 ?_
            refine lv_aload_n hx hb dX9_readsOrder_154 rfl (lv_at hl 1 rfl) ?_
            obtain ⟨r319, m317, hqq318, hf⟩ := g1_o hf
            refine ga_i (gr_V (As := []) (ci := 9) (rm := { frames := 1, cells := 0, slots := 0, locals := 22 }) E hml hl.1 (c_X9_digit l X c0 m300 hk0 hqq318) wt_X9_digit wl_RX9_184 rfl hk0 (by decide) rfl rfl hM hS rfl rfl (Nat.le_trans (by decide) hRf) (Nat.le_trans (by decide) hRl) (Nat.le_trans (Nat.le_of_ble_eq_true rfl) hRc) (Nat.le_trans (Nat.le_of_ble_eq_true rfl) hRs) (Nat.le_of_ble_eq_true rfl) dX9_readsOrder_155 rfl) hS (fun H locs hM hS => ?_)
            obtain ⟨hi320, hf⟩ := g_ck hf
            obtain ⟨m321, em321, hf⟩ := gv_o hf
            refine gg_iast E (fun c hc => gA_in X hc) hM hS (gk_in hg4 (by decide)) hg4 hi320 em321 dX9_readsOrder_158 (fun H locs hM hS => ?_)
            refine lv_aload_n hx hb dX9_readsOrder_159 rfl (lv_at hl 1 rfl) ?_
            refine lv_bipush (v := (47 : Int32)) hx hb dX9_readsOrder_160 (by decide) ?_
            obtain ⟨r324, m322, hqq323, hf⟩ := g1_o hf
            refine ga_v (gr_V (As := [.int (47 : Int32)]) (ci := 9) (rm := { frames := 1, cells := 0, slots := 0, locals := 20 }) E hml hl.1 (c_X9_between l X c0 (47 : Int32) m321 hk0 hqq323) wt_X9_between wl_RX9_187 rfl hk0 (by decide) rfl rfl hM hS rfl rfl (Nat.le_trans (by decide) hRf) (Nat.le_trans (by decide) hRl) (Nat.le_trans (Nat.le_of_ble_eq_true rfl) hRc) (Nat.le_trans (Nat.le_of_ble_eq_true rfl) hRs) (Nat.le_of_ble_eq_true rfl) dX9_readsOrder_162 rfl) hS (fun H locs hM hS => ?_)
            refine lv_aload_n hx hb dX9_readsOrder_165 rfl (lv_at hl 1 rfl) ?_
            refine GX9_30 E hM hk0 dX9_readsOrder_166 ?_
            refine lv_iload_n hx hb dX9_readsOrder_169 rfl (lv_at hl 2 rfl) ?_
            refine lv_iconst (v := (2 : Int32)) hx hb dX9_readsOrder_170 (by decide) ?_
            refine lv_iadd hx hb dX9_readsOrder_171 ?_
            refine lv_aload_n hx hb dX9_readsOrder_172 rfl (lv_at hl 1 rfl) ?_
            obtain ⟨r327, m325, hqq326, hf⟩ := g1_o hf
            refine ga_i (gr_V (As := []) (ci := 9) (rm := { frames := 1, cells := 0, slots := 0, locals := 22 }) E hml hl.1 (c_X9_digit l X c0 m322 hk0 hqq326) wt_X9_digit wl_RX9_184 rfl hk0 (by decide) rfl rfl hM hS rfl rfl (Nat.le_trans (by decide) hRf) (Nat.le_trans (by decide) hRl) (Nat.le_trans (Nat.le_of_ble_eq_true rfl) hRc) (Nat.le_trans (Nat.le_of_ble_eq_true rfl) hRs) (Nat.le_of_ble_eq_true rfl) dX9_readsOrder_173 rfl) hS (fun H locs hM hS => ?_)
            obtain ⟨hi328, hf⟩ := g_ck hf
            obtain ⟨m329, em329, hf⟩ := gv_o hf
            refine gg_iast E (fun c hc => gA_in X hc) hM hS (gk_in hg4 (by decide)) hg4 hi328 em329 dX9_readsOrder_176 (fun H locs hM hS => ?_)
            refine lv_aload_n hx hb dX9_readsOrder_177 rfl (lv_at hl 1 rfl) ?_
            refine lv_bipush (v := (58 : Int32)) hx hb dX9_readsOrder_178 (by decide) ?_
            obtain ⟨r332, m330, hqq331, hf⟩ := g1_o hf
            refine ga_v (gr_V (As := [.int (58 : Int32)]) (ci := 9) (rm := { frames := 1, cells := 0, slots := 0, locals := 20 }) E hml hl.1 (c_X9_between l X c0 (58 : Int32) m329 hk0 hqq331) wt_X9_between wl_RX9_187 rfl hk0 (by decide) rfl rfl hM hS rfl rfl (Nat.le_trans (by decide) hRf) (Nat.le_trans (by decide) hRl) (Nat.le_trans (Nat.le_of_ble_eq_true rfl) hRc) (Nat.le_trans (Nat.le_of_ble_eq_true rfl) hRs) (Nat.le_of_ble_eq_true rfl) dX9_readsOrder_180 rfl) hS (fun H locs hM hS => ?_)
            refine lv_aload_n hx hb dX9_readsOrder_183 rfl (lv_at hl 1 rfl) ?_
            refine GX9_30 E hM hk0 dX9_readsOrder_184 ?_
            refine lv_iload_n hx hb dX9_readsOrder_187 rfl (lv_at hl 2 rfl) ?_
            refine lv_iconst (v := (3 : Int32)) hx hb dX9_readsOrder_188 (by decide) ?_
            refine lv_iadd hx hb dX9_readsOrder_189 ?_
            refine lv_aload_n hx hb dX9_readsOrder_190 rfl (lv_at hl 1 rfl) ?_
            obtain ⟨r335, m333, hqq334, hf⟩ := g1_o hf
            refine ga_i (gr_V (As := []) (ci := 9) (rm := { frames := 1, cells := 0, slots := 0, locals := 22 }) E hml hl.1 (c_X9_digit l X c0 m330 hk0 hqq334) wt_X9_digit wl_RX9_184 rfl hk0 (by decide) rfl rfl hM hS rfl rfl (Nat.le_trans (by decide) hRf) (Nat.le_trans (by decide) hRl) (Nat.le_trans (Nat.le_of_ble_eq_true rfl) hRc) (Nat.le_trans (Nat.le_of_ble_eq_true rfl) hRs) (Nat.le_of_ble_eq_true rfl) dX9_readsOrder_191 rfl) hS (fun H locs hM hS => ?_)
            obtain ⟨hi336, hf⟩ := g_ck hf
            obtain ⟨m337, em337, hf⟩ := gv_o hf
            refine gg_iast E (fun c hc => gA_in X hc) hM hS (gk_in hg4 (by decide)) hg4 hi336 em337 dX9_readsOrder_194 (fun H locs hM hS => ?_)
            refine lv_aload_n hx hb dX9_readsOrder_195 rfl (lv_at hl 1 rfl) ?_
            refine lv_bipush (v := (42 : Int32)) hx hb dX9_readsOrder_196 (by decide) ?_
            obtain ⟨r340, m338, hqq339, hf⟩ := g1_o hf
            refine ga_v (gr_V (As := [.int (42 : Int32)]) (ci := 9) (rm := { frames := 1, cells := 0, slots := 0, locals := 20 }) E hml hl.1 (c_X9_between l X c0 (42 : Int32) m337 hk0 hqq339) wt_X9_between wl_RX9_187 rfl hk0 (by decide) rfl rfl hM hS rfl rfl (Nat.le_trans (by decide) hRf) (Nat.le_trans (by decide) hRl) (Nat.le_trans (Nat.le_of_ble_eq_true rfl) hRc) (Nat.le_trans (Nat.le_of_ble_eq_true rfl) hRs) (Nat.le_of_ble_eq_true rfl) dX9_readsOrder_198 rfl) hS (fun H locs hM hS => ?_)
            refine lv_aload_n hx hb dX9_readsOrder_201 rfl (lv_at hl 1 rfl) ?_
            refine GX9_30 E hM hk0 dX9_readsOrder_202 ?_
            refine lv_iload_n hx hb dX9_readsOrder_205 rfl (lv_at hl 2 rfl) ?_
            refine lv_iconst (v := (4 : Int32)) hx hb dX9_readsOrder_206 (by decide) ?_
            refine lv_iadd hx hb dX9_readsOrder_207 ?_
            refine lv_aload_n hx hb dX9_readsOrder_208 rfl (lv_at hl 1 rfl) ?_
            obtain ⟨r343, m341, hqq342, hf⟩ := g1_o hf
            refine ga_i (gr_V (As := []) (ci := 9) (rm := { frames := 2, cells := 0, slots := 0, locals := 43 }) E hml hl.1 (c_X9_number l X c0 m338 hk0 hqq342) wt_X9_number wl_RX9_190 rfl hk0 (by decide) rfl rfl hM hS rfl rfl (Nat.le_trans (by decide) hRf) (Nat.le_trans (by decide) hRl) (Nat.le_trans (Nat.le_of_ble_eq_true rfl) hRc) (Nat.le_trans (Nat.le_of_ble_eq_true rfl) hRs) (Nat.le_of_ble_eq_true rfl) dX9_readsOrder_209 rfl) hS (fun H locs hM hS => ?_)
            obtain ⟨hi344, hf⟩ := g_ck hf
            obtain ⟨m345, em345, hf⟩ := gv_o hf
            refine gg_iast E (fun c hc => gA_in X hc) hM hS (gk_in hg4 (by decide)) hg4 hi344 em345 dX9_readsOrder_212 (fun H locs hM hS => ?_)
            exact ge_v E hr hlocks hf hM hS (Nat.le_of_ble_eq_true rfl) (Nat.le_of_ble_eq_true rfl) dX9_readsOrder_213
          have hf := g_f h316 hf
          by_cases h346 : r3 = (115 : Int32)
          · have hf := g_t h346 hf
            refine lv_lookup (tgt := 214) (off := 141) hx hb dX9_readsOrder_73 (by decide) (by rw [h346]; decide) (by decide) ?_
            refine lv_aload_n hx hb dX9_readsOrder_214 rfl (lv_at hl 1 rfl) ?_
            refine GX9_30 E hM hk0 dX9_readsOrder_215 ?_
            refine lv_iload_n hx hb dX9_readsOrder_218 rfl (lv_at hl 2 rfl) ?_
            refine lv_iconst (v := (1 : Int32)) hx hb dX9_readsOrder_219 (by decide) ?_
            refine lv_iadd hx hb dX9_readsOrder_220 ?_
            refine lv_aload_n hx hb dX9_readsOrder_221 rfl (lv_at hl 1 rfl) ?_
            obtain ⟨r349, m347, hqq348, hf⟩ := g1_o hf
            refine ga_i (gr_V (As := []) (ci := 9) (rm := { frames := 2, cells := 0, slots := 0, locals := 43 }) E hml hl.1 (c_X9_number l X c0 m300 hk0 hqq348) wt_X9_number wl_RX9_190 rfl hk0 (by decide) rfl rfl hM hS rfl rfl (Nat.le_trans (by decide) hRf) (Nat.le_trans (by decide) hRl) (Nat.le_trans (Nat.le_of_ble_eq_true rfl) hRc) (Nat.le_trans (Nat.le_of_ble_eq_true rfl) hRs) (Nat.le_of_ble_eq_true rfl) dX9_readsOrder_222 rfl) hS (fun H locs hM hS => ?_)
            obtain ⟨hi350, hf⟩ := g_ck hf
            obtain ⟨m351, em351, hf⟩ := gv_o hf
            refine gg_iast E (fun c hc => gA_in X hc) hM hS (gk_in hg4 (by decide)) hg4 hi350 em351 dX9_readsOrder_225 (fun H locs hM hS => ?_)
            refine lv_aload_n hx hb dX9_readsOrder_226 rfl (lv_at hl 1 rfl) ?_
            refine lv_bipush (v := (64 : Int32)) hx hb dX9_readsOrder_227 (by decide) ?_
            obtain ⟨r354, m352, hqq353, hf⟩ := g1_o hf
            refine ga_v (gr_V (As := [.int (64 : Int32)]) (ci := 9) (rm := { frames := 1, cells := 0, slots := 0, locals := 20 }) E hml hl.1 (c_X9_between l X c0 (64 : Int32) m351 hk0 hqq353) wt_X9_between wl_RX9_187 rfl hk0 (by decide) rfl rfl hM hS rfl rfl (Nat.le_trans (by decide) hRf) (Nat.le_trans (by decide) hRl) (Nat.le_trans (Nat.le_of_ble_eq_true rfl) hRc) (Nat.le_trans (Nat.le_of_ble_eq_true rfl) hRs) (Nat.le_of_ble_eq_true rfl) dX9_readsOrder_229 rfl) hS (fun H locs hM hS => ?_)
            refine lv_aload_n hx hb dX9_readsOrder_232 rfl (lv_at hl 1 rfl) ?_
            refine GX9_30 E hM hk0 dX9_readsOrder_233 ?_
            refine lv_iload_n hx hb dX9_readsOrder_236 rfl (lv_at hl 2 rfl) ?_
            refine lv_iconst (v := (2 : Int32)) hx hb dX9_readsOrder_237 (by decide) ?_
            refine lv_iadd hx hb dX9_readsOrder_238 ?_
            refine lv_aload_n hx hb dX9_readsOrder_239 rfl (lv_at hl 1 rfl) ?_
            obtain ⟨r357, m355, hqq356, hf⟩ := g1_o hf
            refine ga_i (gr_V (As := []) (ci := 9) (rm := { frames := 1, cells := 0, slots := 0, locals := 22 }) E hml hl.1 (c_X9_digit l X c0 m352 hk0 hqq356) wt_X9_digit wl_RX9_184 rfl hk0 (by decide) rfl rfl hM hS rfl rfl (Nat.le_trans (by decide) hRf) (Nat.le_trans (by decide) hRl) (Nat.le_trans (Nat.le_of_ble_eq_true rfl) hRc) (Nat.le_trans (Nat.le_of_ble_eq_true rfl) hRs) (Nat.le_of_ble_eq_true rfl) dX9_readsOrder_240 rfl) hS (fun H locs hM hS => ?_)
            obtain ⟨hi358, hf⟩ := g_ck hf
            obtain ⟨m359, em359, hf⟩ := gv_o hf
            refine gg_iast E (fun c hc => gA_in X hc) hM hS (gk_in hg4 (by decide)) hg4 hi358 em359 dX9_readsOrder_243 (fun H locs hM hS => ?_)
            exact ge_v E hr hlocks hf hM hS (Nat.le_of_ble_eq_true rfl) (Nat.le_of_ble_eq_true rfl) dX9_readsOrder_244
          have hf := g_f h346 hf
          by_cases h360 : r3 = (116 : Int32)
          · have hf := g_t h360 hf
            refine lv_lookup (tgt := 245) (off := 172) hx hb dX9_readsOrder_73 (by decide) (by rw [h360]; decide) (by decide) ?_
            refine lv_aload_n hx hb dX9_readsOrder_245 rfl (lv_at hl 1 rfl) ?_
            refine GX9_30 E hM hk0 dX9_readsOrder_246 ?_
            refine lv_iload_n hx hb dX9_readsOrder_249 rfl (lv_at hl 2 rfl) ?_
            refine lv_iconst (v := (1 : Int32)) hx hb dX9_readsOrder_250 (by decide) ?_
            refine lv_iadd hx hb dX9_readsOrder_251 ?_
            refine lv_aload_n hx hb dX9_readsOrder_252 rfl (lv_at hl 1 rfl) ?_
            obtain ⟨r363, m361, hqq362, hf⟩ := g1_o hf
            refine ga_i (gr_V (As := []) (ci := 9) (rm := { frames := 1, cells := 0, slots := 0, locals := 22 }) E hml hl.1 (c_X9_digit l X c0 m300 hk0 hqq362) wt_X9_digit wl_RX9_184 rfl hk0 (by decide) rfl rfl hM hS rfl rfl (Nat.le_trans (by decide) hRf) (Nat.le_trans (by decide) hRl) (Nat.le_trans (Nat.le_of_ble_eq_true rfl) hRc) (Nat.le_trans (Nat.le_of_ble_eq_true rfl) hRs) (Nat.le_of_ble_eq_true rfl) dX9_readsOrder_253 rfl) hS (fun H locs hM hS => ?_)
            obtain ⟨hi364, hf⟩ := g_ck hf
            obtain ⟨m365, em365, hf⟩ := gv_o hf
            refine gg_iast E (fun c hc => gA_in X hc) hM hS (gk_in hg4 (by decide)) hg4 hi364 em365 dX9_readsOrder_256 (fun H locs hM hS => ?_)
            exact ge_v E hr hlocks hf hM hS (Nat.le_of_ble_eq_true rfl) (Nat.le_of_ble_eq_true rfl) dX9_readsOrder_257
          have hf := g_f h360 hf
          have ah302 := g_tn (z := 98) h302 rfl
          have ah316 := g_tn (z := 108) h316 rfl
          have ah346 := g_tn (z := 115) h346 rfl
          have ah360 := g_tn (z := 116) h360 rfl
          refine lv_lookup (tgt := 258) (off := 185) hx hb dX9_readsOrder_73 (by decide) (by simp [Op.lookupswitch.offset, ah302, ah316, ah346, ah360]) (by decide) ?_
          refine lv_aload_n hx hb dX9_readsOrder_258 rfl (lv_at hl 1 rfl) ?_
          refine GX9_30 E hM hk0 dX9_readsOrder_259 ?_
          refine lv_iload_n hx hb dX9_readsOrder_262 rfl (lv_at hl 2 rfl) ?_
          refine lv_iconst (v := (1 : Int32)) hx hb dX9_readsOrder_263 (by decide) ?_
          refine lv_iadd hx hb dX9_readsOrder_264 ?_
          refine lv_aload_n hx hb dX9_readsOrder_265 rfl (lv_at hl 1 rfl) ?_
          obtain ⟨r368, m366, hqq367, hf⟩ := g1_o hf
          refine ga_i (gr_V (As := []) (ci := 9) (rm := { frames := 2, cells := 0, slots := 0, locals := 43 }) E hml hl.1 (c_X9_number l X c0 m300 hk0 hqq367) wt_X9_number wl_RX9_190 rfl hk0 (by decide) rfl rfl hM hS rfl rfl (Nat.le_trans (by decide) hRf) (Nat.le_trans (by decide) hRl) (Nat.le_trans (Nat.le_of_ble_eq_true rfl) hRc) (Nat.le_trans (Nat.le_of_ble_eq_true rfl) hRs) (Nat.le_of_ble_eq_true rfl) dX9_readsOrder_266 rfl) hS (fun H locs hM hS => ?_)
          obtain ⟨hi369, hf⟩ := g_ck hf
          obtain ⟨m370, em370, hf⟩ := gv_o hf
          refine gg_iast E (fun c hc => gA_in X hc) hM hS (gk_in hg4 (by decide)) hg4 hi369 em370 dX9_readsOrder_269 (fun H locs hM hS => ?_)
          exact ge_v E hr hlocks hf hM hS (Nat.le_of_ble_eq_true rfl) (Nat.le_of_ble_eq_true rfl) dX9_readsOrder_270
        · have hf := g_f h299 hf
          refine lv_iconst (v := (0 : Int32)) hx hb dX9_readsOrder_63 (by decide) ?_
          refine lv_goto (tgt := 68) hx hb dX9_readsOrder_64 (by decide) ?_
          refine lv_iadd hx hb dX9_readsOrder_68 ?_
          obtain ⟨m371, em371, hf⟩ := gv_o hf
          refine PX9_175 E hM hS hk0 em371 dX9_readsOrder_69 (fun H locs hM hS => ?_)
          refine lv_iload_n hx hb dX9_readsOrder_72 rfl (lv_at hl 0 rfl) ?_
          by_cases h373 : r3 = (98 : Int32)
          · have hf := g_t h373 hf
            refine lv_lookup (tgt := 116) (off := 43) hx hb dX9_readsOrder_73 (by decide) (by rw [h373]; decide) (by decide) ?_
            refine lv_aload_n hx hb dX9_readsOrder_116 rfl (lv_at hl 1 rfl) ?_
            refine GX9_30 E hM hk0 dX9_readsOrder_117 ?_
            refine lv_iload_n hx hb dX9_readsOrder_120 rfl (lv_at hl 2 rfl) ?_
            refine lv_iconst (v := (1 : Int32)) hx hb dX9_readsOrder_121 (by decide) ?_
            refine lv_iadd hx hb dX9_readsOrder_122 ?_
            refine lv_aload_n hx hb dX9_readsOrder_123 rfl (lv_at hl 1 rfl) ?_
            obtain ⟨r376, m374, hqq375, hf⟩ := g1_o hf
            refine ga_i (gr_V (As := []) (ci := 9) (rm := { frames := 1, cells := 0, slots := 0, locals := 22 }) E hml hl.1 (c_X9_digit l X c0 m371 hk0 hqq375) wt_X9_digit wl_RX9_184 rfl hk0 (by decide) rfl rfl hM hS rfl rfl (Nat.le_trans (by decide) hRf) (Nat.le_trans (by decide) hRl) (Nat.le_trans (Nat.le_of_ble_eq_true rfl) hRc) (Nat.le_trans (Nat.le_of_ble_eq_true rfl) hRs) (Nat.le_of_ble_eq_true rfl) dX9_readsOrder_124 rfl) hS (fun H locs hM hS => ?_)
            obtain ⟨hi377, hf⟩ := g_ck hf
            obtain ⟨m378, em378, hf⟩ := gv_o hf
            refine gg_iast E (fun c hc => gA_in X hc) hM hS (gk_in hg4 (by decide)) hg4 hi377 em378 dX9_readsOrder_127 (fun H locs hM hS => ?_)
            refine lv_aload_n hx hb dX9_readsOrder_128 rfl (lv_at hl 1 rfl) ?_
            refine lv_bipush (v := (43 : Int32)) hx hb dX9_readsOrder_129 (by decide) ?_
            obtain ⟨r381, m379, hqq380, hf⟩ := g1_o hf
            refine ga_v (gr_V (As := [.int (43 : Int32)]) (ci := 9) (rm := { frames := 1, cells := 0, slots := 0, locals := 20 }) E hml hl.1 (c_X9_between l X c0 (43 : Int32) m378 hk0 hqq380) wt_X9_between wl_RX9_187 rfl hk0 (by decide) rfl rfl hM hS rfl rfl (Nat.le_trans (by decide) hRf) (Nat.le_trans (by decide) hRl) (Nat.le_trans (Nat.le_of_ble_eq_true rfl) hRc) (Nat.le_trans (Nat.le_of_ble_eq_true rfl) hRs) (Nat.le_of_ble_eq_true rfl) dX9_readsOrder_131 rfl) hS (fun H locs hM hS => ?_)
            refine lv_aload_n hx hb dX9_readsOrder_134 rfl (lv_at hl 1 rfl) ?_
            refine GX9_30 E hM hk0 dX9_readsOrder_135 ?_
            refine lv_iload_n hx hb dX9_readsOrder_138 rfl (lv_at hl 2 rfl) ?_
            refine lv_iconst (v := (2 : Int32)) hx hb dX9_readsOrder_139 (by decide) ?_
            refine lv_iadd hx hb dX9_readsOrder_140 ?_
            refine lv_aload_n hx hb dX9_readsOrder_141 rfl (lv_at hl 1 rfl) ?_
            obtain ⟨r384, m382, hqq383, hf⟩ := g1_o hf
            refine ga_i (gr_V (As := []) (ci := 9) (rm := { frames := 2, cells := 0, slots := 0, locals := 43 }) E hml hl.1 (c_X9_number l X c0 m379 hk0 hqq383) wt_X9_number wl_RX9_190 rfl hk0 (by decide) rfl rfl hM hS rfl rfl (Nat.le_trans (by decide) hRf) (Nat.le_trans (by decide) hRl) (Nat.le_trans (Nat.le_of_ble_eq_true rfl) hRc) (Nat.le_trans (Nat.le_of_ble_eq_true rfl) hRs) (Nat.le_of_ble_eq_true rfl) dX9_readsOrder_142 rfl) hS (fun H locs hM hS => ?_)
            obtain ⟨hi385, hf⟩ := g_ck hf
            obtain ⟨m386, em386, hf⟩ := gv_o hf
            refine gg_iast E (fun c hc => gA_in X hc) hM hS (gk_in hg4 (by decide)) hg4 hi385 em386 dX9_readsOrder_145 (fun H locs hM hS => ?_)
            exact ge_v E hr hlocks hf hM hS (Nat.le_of_ble_eq_true rfl) (Nat.le_of_ble_eq_true rfl) dX9_readsOrder_146
          have hf := g_f h373 hf
          by_cases h387 : r3 = (108 : Int32)
          · have hf := g_t h387 hf
            refine lv_lookup (tgt := 147) (off := 74) hx hb dX9_readsOrder_73 (by decide) (by rw [h387]; decide) (by decide) ?_
            refine lv_aload_n hx hb dX9_readsOrder_147 rfl (lv_at hl 1 rfl) ?_
            refine GX9_30 E hM hk0 dX9_readsOrder_148 ?_
            refine lv_iload_n hx hb dX9_readsOrder_151 rfl (lv_at hl 2 rfl) ?_
            refine lv_iconst (v := (1 : Int32)) hx hb dX9_readsOrder_152 (by decide) ?_
            refine lv_iadd hx hb dX9_readsOrder_153 ?_
            refine lv_aload_n hx hb dX9_readsOrder_154 rfl (lv_at hl 1 rfl) ?_
            obtain ⟨r390, m388, hqq389, hf⟩ := g1_o hf
            refine ga_i (gr_V (As := []) (ci := 9) (rm := { frames := 1, cells := 0, slots := 0, locals := 22 }) E hml hl.1 (c_X9_digit l X c0 m371 hk0 hqq389) wt_X9_digit wl_RX9_184 rfl hk0 (by decide) rfl rfl hM hS rfl rfl (Nat.le_trans (by decide) hRf) (Nat.le_trans (by decide) hRl) (Nat.le_trans (Nat.le_of_ble_eq_true rfl) hRc) (Nat.le_trans (Nat.le_of_ble_eq_true rfl) hRs) (Nat.le_of_ble_eq_true rfl) dX9_readsOrder_155 rfl) hS (fun H locs hM hS => ?_)
            obtain ⟨hi391, hf⟩ := g_ck hf
            obtain ⟨m392, em392, hf⟩ := gv_o hf
            refine gg_iast E (fun c hc => gA_in X hc) hM hS (gk_in hg4 (by decide)) hg4 hi391 em392 dX9_readsOrder_158 (fun H locs hM hS => ?_)
            refine lv_aload_n hx hb dX9_readsOrder_159 rfl (lv_at hl 1 rfl) ?_
            refine lv_bipush (v := (47 : Int32)) hx hb dX9_readsOrder_160 (by decide) ?_
            obtain ⟨r395, m393, hqq394, hf⟩ := g1_o hf
            refine ga_v (gr_V (As := [.int (47 : Int32)]) (ci := 9) (rm := { frames := 1, cells := 0, slots := 0, locals := 20 }) E hml hl.1 (c_X9_between l X c0 (47 : Int32) m392 hk0 hqq394) wt_X9_between wl_RX9_187 rfl hk0 (by decide) rfl rfl hM hS rfl rfl (Nat.le_trans (by decide) hRf) (Nat.le_trans (by decide) hRl) (Nat.le_trans (Nat.le_of_ble_eq_true rfl) hRc) (Nat.le_trans (Nat.le_of_ble_eq_true rfl) hRs) (Nat.le_of_ble_eq_true rfl) dX9_readsOrder_162 rfl) hS (fun H locs hM hS => ?_)
            refine lv_aload_n hx hb dX9_readsOrder_165 rfl (lv_at hl 1 rfl) ?_
            refine GX9_30 E hM hk0 dX9_readsOrder_166 ?_
            refine lv_iload_n hx hb dX9_readsOrder_169 rfl (lv_at hl 2 rfl) ?_
            refine lv_iconst (v := (2 : Int32)) hx hb dX9_readsOrder_170 (by decide) ?_
            refine lv_iadd hx hb dX9_readsOrder_171 ?_
            refine lv_aload_n hx hb dX9_readsOrder_172 rfl (lv_at hl 1 rfl) ?_
            obtain ⟨r398, m396, hqq397, hf⟩ := g1_o hf
            refine ga_i (gr_V (As := []) (ci := 9) (rm := { frames := 1, cells := 0, slots := 0, locals := 22 }) E hml hl.1 (c_X9_digit l X c0 m393 hk0 hqq397) wt_X9_digit wl_RX9_184 rfl hk0 (by decide) rfl rfl hM hS rfl rfl (Nat.le_trans (by decide) hRf) (Nat.le_trans (by decide) hRl) (Nat.le_trans (Nat.le_of_ble_eq_true rfl) hRc) (Nat.le_trans (Nat.le_of_ble_eq_true rfl) hRs) (Nat.le_of_ble_eq_true rfl) dX9_readsOrder_173 rfl) hS (fun H locs hM hS => ?_)
            obtain ⟨hi399, hf⟩ := g_ck hf
            obtain ⟨m400, em400, hf⟩ := gv_o hf
            refine gg_iast E (fun c hc => gA_in X hc) hM hS (gk_in hg4 (by decide)) hg4 hi399 em400 dX9_readsOrder_176 (fun H locs hM hS => ?_)
            refine lv_aload_n hx hb dX9_readsOrder_177 rfl (lv_at hl 1 rfl) ?_
            refine lv_bipush (v := (58 : Int32)) hx hb dX9_readsOrder_178 (by decide) ?_
            obtain ⟨r403, m401, hqq402, hf⟩ := g1_o hf
            refine ga_v (gr_V (As := [.int (58 : Int32)]) (ci := 9) (rm := { frames := 1, cells := 0, slots := 0, locals := 20 }) E hml hl.1 (c_X9_between l X c0 (58 : Int32) m400 hk0 hqq402) wt_X9_between wl_RX9_187 rfl hk0 (by decide) rfl rfl hM hS rfl rfl (Nat.le_trans (by decide) hRf) (Nat.le_trans (by decide) hRl) (Nat.le_trans (Nat.le_of_ble_eq_true rfl) hRc) (Nat.le_trans (Nat.le_of_ble_eq_true rfl) hRs) (Nat.le_of_ble_eq_true rfl) dX9_readsOrder_180 rfl) hS (fun H locs hM hS => ?_)
            refine lv_aload_n hx hb dX9_readsOrder_183 rfl (lv_at hl 1 rfl) ?_
            refine GX9_30 E hM hk0 dX9_readsOrder_184 ?_
            refine lv_iload_n hx hb dX9_readsOrder_187 rfl (lv_at hl 2 rfl) ?_
            refine lv_iconst (v := (3 : Int32)) hx hb dX9_readsOrder_188 (by decide) ?_
            refine lv_iadd hx hb dX9_readsOrder_189 ?_
            refine lv_aload_n hx hb dX9_readsOrder_190 rfl (lv_at hl 1 rfl) ?_
            obtain ⟨r406, m404, hqq405, hf⟩ := g1_o hf
            refine ga_i (gr_V (As := []) (ci := 9) (rm := { frames := 1, cells := 0, slots := 0, locals := 22 }) E hml hl.1 (c_X9_digit l X c0 m401 hk0 hqq405) wt_X9_digit wl_RX9_184 rfl hk0 (by decide) rfl rfl hM hS rfl rfl (Nat.le_trans (by decide) hRf) (Nat.le_trans (by decide) hRl) (Nat.le_trans (Nat.le_of_ble_eq_true rfl) hRc) (Nat.le_trans (Nat.le_of_ble_eq_true rfl) hRs) (Nat.le_of_ble_eq_true rfl) dX9_readsOrder_191 rfl) hS (fun H locs hM hS => ?_)
            obtain ⟨hi407, hf⟩ := g_ck hf
            obtain ⟨m408, em408, hf⟩ := gv_o hf
            refine gg_iast E (fun c hc => gA_in X hc) hM hS (gk_in hg4 (by decide)) hg4 hi407 em408 dX9_readsOrder_194 (fun H locs hM hS => ?_)
            refine lv_aload_n hx hb dX9_readsOrder_195 rfl (lv_at hl 1 rfl) ?_
            refine lv_bipush (v := (42 : Int32)) hx hb dX9_readsOrder_196 (by decide) ?_
            obtain ⟨r411, m409, hqq410, hf⟩ := g1_o hf
            refine ga_v (gr_V (As := [.int (42 : Int32)]) (ci := 9) (rm := { frames := 1, cells := 0, slots := 0, locals := 20 }) E hml hl.1 (c_X9_between l X c0 (42 : Int32) m408 hk0 hqq410) wt_X9_between wl_RX9_187 rfl hk0 (by decide) rfl rfl hM hS rfl rfl (Nat.le_trans (by decide) hRf) (Nat.le_trans (by decide) hRl) (Nat.le_trans (Nat.le_of_ble_eq_true rfl) hRc) (Nat.le_trans (Nat.le_of_ble_eq_true rfl) hRs) (Nat.le_of_ble_eq_true rfl) dX9_readsOrder_198 rfl) hS (fun H locs hM hS => ?_)
            refine lv_aload_n hx hb dX9_readsOrder_201 rfl (lv_at hl 1 rfl) ?_
            refine GX9_30 E hM hk0 dX9_readsOrder_202 ?_
            refine lv_iload_n hx hb dX9_readsOrder_205 rfl (lv_at hl 2 rfl) ?_
            refine lv_iconst (v := (4 : Int32)) hx hb dX9_readsOrder_206 (by decide) ?_
            refine lv_iadd hx hb dX9_readsOrder_207 ?_
            refine lv_aload_n hx hb dX9_readsOrder_208 rfl (lv_at hl 1 rfl) ?_
            obtain ⟨r414, m412, hqq413, hf⟩ := g1_o hf
            refine ga_i (gr_V (As := []) (ci := 9) (rm := { frames := 2, cells := 0, slots := 0, locals := 43 }) E hml hl.1 (c_X9_number l X c0 m409 hk0 hqq413) wt_X9_number wl_RX9_190 rfl hk0 (by decide) rfl rfl hM hS rfl rfl (Nat.le_trans (by decide) hRf) (Nat.le_trans (by decide) hRl) (Nat.le_trans (Nat.le_of_ble_eq_true rfl) hRc) (Nat.le_trans (Nat.le_of_ble_eq_true rfl) hRs) (Nat.le_of_ble_eq_true rfl) dX9_readsOrder_209 rfl) hS (fun H locs hM hS => ?_)
            obtain ⟨hi415, hf⟩ := g_ck hf
            obtain ⟨m416, em416, hf⟩ := gv_o hf
            refine gg_iast E (fun c hc => gA_in X hc) hM hS (gk_in hg4 (by decide)) hg4 hi415 em416 dX9_readsOrder_212 (fun H locs hM hS => ?_)
            exact ge_v E hr hlocks hf hM hS (Nat.le_of_ble_eq_true rfl) (Nat.le_of_ble_eq_true rfl) dX9_readsOrder_213
          have hf := g_f h387 hf
          by_cases h417 : r3 = (115 : Int32)
          · have hf := g_t h417 hf
            refine lv_lookup (tgt := 214) (off := 141) hx hb dX9_readsOrder_73 (by decide) (by rw [h417]; decide) (by decide) ?_
            refine lv_aload_n hx hb dX9_readsOrder_214 rfl (lv_at hl 1 rfl) ?_
            refine GX9_30 E hM hk0 dX9_readsOrder_215 ?_
            refine lv_iload_n hx hb dX9_readsOrder_218 rfl (lv_at hl 2 rfl) ?_
            refine lv_iconst (v := (1 : Int32)) hx hb dX9_readsOrder_219 (by decide) ?_
            refine lv_iadd hx hb dX9_readsOrder_220 ?_
            refine lv_aload_n hx hb dX9_readsOrder_221 rfl (lv_at hl 1 rfl) ?_
            obtain ⟨r420, m418, hqq419, hf⟩ := g1_o hf
            refine ga_i (gr_V (As := []) (ci := 9) (rm := { frames := 2, cells := 0, slots := 0, locals := 43 }) E hml hl.1 (c_X9_number l X c0 m371 hk0 hqq419) wt_X9_number wl_RX9_190 rfl hk0 (by decide) rfl rfl hM hS rfl rfl (Nat.le_trans (by decide) hRf) (Nat.le_trans (by decide) hRl) (Nat.le_trans (Nat.le_of_ble_eq_true rfl) hRc) (Nat.le_trans (Nat.le_of_ble_eq_true rfl) hRs) (Nat.le_of_ble_eq_true rfl) dX9_readsOrder_222 rfl) hS (fun H locs hM hS => ?_)
            obtain ⟨hi421, hf⟩ := g_ck hf
            obtain ⟨m422, em422, hf⟩ := gv_o hf
            refine gg_iast E (fun c hc => gA_in X hc) hM hS (gk_in hg4 (by decide)) hg4 hi421 em422 dX9_readsOrder_225 (fun H locs hM hS => ?_)
            refine lv_aload_n hx hb dX9_readsOrder_226 rfl (lv_at hl 1 rfl) ?_
            refine lv_bipush (v := (64 : Int32)) hx hb dX9_readsOrder_227 (by decide) ?_
            obtain ⟨r425, m423, hqq424, hf⟩ := g1_o hf
            refine ga_v (gr_V (As := [.int (64 : Int32)]) (ci := 9) (rm := { frames := 1, cells := 0, slots := 0, locals := 20 }) E hml hl.1 (c_X9_between l X c0 (64 : Int32) m422 hk0 hqq424) wt_X9_between wl_RX9_187 rfl hk0 (by decide) rfl rfl hM hS rfl rfl (Nat.le_trans (by decide) hRf) (Nat.le_trans (by decide) hRl) (Nat.le_trans (Nat.le_of_ble_eq_true rfl) hRc) (Nat.le_trans (Nat.le_of_ble_eq_true rfl) hRs) (Nat.le_of_ble_eq_true rfl) dX9_readsOrder_229 rfl) hS (fun H locs hM hS => ?_)
            refine lv_aload_n hx hb dX9_readsOrder_232 rfl (lv_at hl 1 rfl) ?_
            refine GX9_30 E hM hk0 dX9_readsOrder_233 ?_
            refine lv_iload_n hx hb dX9_readsOrder_236 rfl (lv_at hl 2 rfl) ?_
            refine lv_iconst (v := (2 : Int32)) hx hb dX9_readsOrder_237 (by decide) ?_
            refine lv_iadd hx hb dX9_readsOrder_238 ?_
            refine lv_aload_n hx hb dX9_readsOrder_239 rfl (lv_at hl 1 rfl) ?_
            obtain ⟨r428, m426, hqq427, hf⟩ := g1_o hf
            refine ga_i (gr_V (As := []) (ci := 9) (rm := { frames := 1, cells := 0, slots := 0, locals := 22 }) E hml hl.1 (c_X9_digit l X c0 m423 hk0 hqq427) wt_X9_digit wl_RX9_184 rfl hk0 (by decide) rfl rfl hM hS rfl rfl (Nat.le_trans (by decide) hRf) (Nat.le_trans (by decide) hRl) (Nat.le_trans (Nat.le_of_ble_eq_true rfl) hRc) (Nat.le_trans (Nat.le_of_ble_eq_true rfl) hRs) (Nat.le_of_ble_eq_true rfl) dX9_readsOrder_240 rfl) hS (fun H locs hM hS => ?_)
            obtain ⟨hi429, hf⟩ := g_ck hf
            obtain ⟨m430, em430, hf⟩ := gv_o hf
            refine gg_iast E (fun c hc => gA_in X hc) hM hS (gk_in hg4 (by decide)) hg4 hi429 em430 dX9_readsOrder_243 (fun H locs hM hS => ?_)
            exact ge_v E hr hlocks hf hM hS (Nat.le_of_ble_eq_true rfl) (Nat.le_of_ble_eq_true rfl) dX9_readsOrder_244
          have hf := g_f h417 hf
          by_cases h431 : r3 = (116 : Int32)
          · have hf := g_t h431 hf
            refine lv_lookup (tgt := 245) (off := 172) hx hb dX9_readsOrder_73 (by decide) (by rw [h431]; decide) (by decide) ?_
            refine lv_aload_n hx hb dX9_readsOrder_245 rfl (lv_at hl 1 rfl) ?_
            refine GX9_30 E hM hk0 dX9_readsOrder_246 ?_
            refine lv_iload_n hx hb dX9_readsOrder_249 rfl (lv_at hl 2 rfl) ?_
            refine lv_iconst (v := (1 : Int32)) hx hb dX9_readsOrder_250 (by decide) ?_
            refine lv_iadd hx hb dX9_readsOrder_251 ?_
            refine lv_aload_n hx hb dX9_readsOrder_252 rfl (lv_at hl 1 rfl) ?_
            obtain ⟨r434, m432, hqq433, hf⟩ := g1_o hf
            refine ga_i (gr_V (As := []) (ci := 9) (rm := { frames := 1, cells := 0, slots := 0, locals := 22 }) E hml hl.1 (c_X9_digit l X c0 m371 hk0 hqq433) wt_X9_digit wl_RX9_184 rfl hk0 (by decide) rfl rfl hM hS rfl rfl (Nat.le_trans (by decide) hRf) (Nat.le_trans (by decide) hRl) (Nat.le_trans (Nat.le_of_ble_eq_true rfl) hRc) (Nat.le_trans (Nat.le_of_ble_eq_true rfl) hRs) (Nat.le_of_ble_eq_true rfl) dX9_readsOrder_253 rfl) hS (fun H locs hM hS => ?_)
            obtain ⟨hi435, hf⟩ := g_ck hf
            obtain ⟨m436, em436, hf⟩ := gv_o hf
            refine gg_iast E (fun c hc => gA_in X hc) hM hS (gk_in hg4 (by decide)) hg4 hi435 em436 dX9_readsOrder_256 (fun H locs hM hS => ?_)
            exact ge_v E hr hlocks hf hM hS (Nat.le_of_ble_eq_true rfl) (Nat.le_of_ble_eq_true rfl) dX9_readsOrder_257
          have hf := g_f h431 hf
          have ah373 := g_tn (z := 98) h373 rfl
          have ah387 := g_tn (z := 108) h387 rfl
          have ah417 := g_tn (z := 115) h417 rfl
          have ah431 := g_tn (z := 116) h431 rfl
          refine lv_lookup (tgt := 258) (off := 185) hx hb dX9_readsOrder_73 (by decide) (by simp [Op.lookupswitch.offset, ah373, ah387, ah417, ah431]) (by decide) ?_
          refine lv_aload_n hx hb dX9_readsOrder_258 rfl (lv_at hl 1 rfl) ?_
          refine GX9_30 E hM hk0 dX9_readsOrder_259 ?_
          refine lv_iload_n hx hb dX9_readsOrder_262 rfl (lv_at hl 2 rfl) ?_
          refine lv_iconst (v := (1 : Int32)) hx hb dX9_readsOrder_263 (by decide) ?_
          refine lv_iadd hx hb dX9_readsOrder_264 ?_
          refine lv_aload_n hx hb dX9_readsOrder_265 rfl (lv_at hl 1 rfl) ?_
          obtain ⟨r439, m437, hqq438, hf⟩ := g1_o hf
          refine ga_i (gr_V (As := []) (ci := 9) (rm := { frames := 2, cells := 0, slots := 0, locals := 43 }) E hml hl.1 (c_X9_number l X c0 m371 hk0 hqq438) wt_X9_number wl_RX9_190 rfl hk0 (by decide) rfl rfl hM hS rfl rfl (Nat.le_trans (by decide) hRf) (Nat.le_trans (by decide) hRl) (Nat.le_trans (Nat.le_of_ble_eq_true rfl) hRc) (Nat.le_trans (Nat.le_of_ble_eq_true rfl) hRs) (Nat.le_of_ble_eq_true rfl) dX9_readsOrder_266 rfl) hS (fun H locs hM hS => ?_)
          obtain ⟨hi440, hf⟩ := g_ck hf
          obtain ⟨m441, em441, hf⟩ := gv_o hf
          refine gg_iast E (fun c hc => gA_in X hc) hM hS (gk_in hg4 (by decide)) hg4 hi440 em441 dX9_readsOrder_269 (fun H locs hM hS => ?_)
          exact ge_v E hr hlocks hf hM hS (Nat.le_of_ble_eq_true rfl) (Nat.le_of_ble_eq_true rfl) dX9_readsOrder_270
      · have hf := g_f h297 hf
        refine lv_iload_n hx hb dX9_readsOrder_31 rfl (lv_at hl 0 rfl) ?_
        refine lv_bipush (v := (115 : Int32)) hx hb dX9_readsOrder_32 (by decide) ?_
        refine lv_icmp_eq (tgt := 47) hx hb dX9_readsOrder_34 (by decide) (fun h442 => ?_) (fun h442 => ?_)
        · have hf := g_t h442 hf
          refine lv_iconst (v := (0 : Int32)) hx hb dX9_readsOrder_47 (by decide) ?_
          obtain ⟨m443, em443, hf⟩ := gv_o hf
          refine PX9_178 E hM hS hk0 (Or.inl rfl) em443 dX9_readsOrder_48 (fun H locs hM hS => ?_)
          refine lv_aload_n hx hb dX9_readsOrder_51 rfl (lv_at hl 1 rfl) ?_
          refine lv_dup hx hb dX9_readsOrder_52 rfl ?_
          refine GX9_175 E hM hk0 dX9_readsOrder_53 ?_
          refine lv_aload_n hx hb dX9_readsOrder_56 rfl (lv_at hl 1 rfl) ?_
          refine GX9_178 E hM hk0 dX9_readsOrder_57 ?_
          refine lv_if_eq (tgt := 67) hx hb dX9_readsOrder_60 (by decide) (fun h444 => ?_) (fun h444 => ?_)
          · have hf := g_t h444 hf
            refine lv_iconst (v := (1 : Int32)) hx hb dX9_readsOrder_67 (by decide) ?_
            refine lv_iadd hx hb dX9_readsOrder_68 ?_
            obtain ⟨m445, em445, hf⟩ := gv_o hf
            refine PX9_175 E hM hS hk0 em445 dX9_readsOrder_69 (fun H locs hM hS => ?_)
            refine lv_iload_n hx hb dX9_readsOrder_72 rfl (lv_at hl 0 rfl) ?_
            by_cases h447 : r3 = (98 : Int32)
            · have hf := g_t h447 hf
              refine lv_lookup (tgt := 116) (off := 43) hx hb dX9_readsOrder_73 (by decide) (by rw [h447]; decide) (by decide) ?_
              refine lv_aload_n hx hb dX9_readsOrder_116 rfl (lv_at hl 1 rfl) ?_
              refine GX9_30 E hM hk0 dX9_readsOrder_117 ?_
              refine lv_iload_n hx hb dX9_readsOrder_120 rfl (lv_at hl 2 rfl) ?_
              refine lv_iconst (v := (1 : Int32)) hx hb dX9_readsOrder_121 (by decide) ?_
              refine lv_iadd hx hb dX9_readsOrder_122 ?_
              refine lv_aload_n hx hb dX9_readsOrder_123 rfl (lv_at hl 1 rfl) ?_
              obtain ⟨r450, m448, hqq449, hf⟩ := g1_o hf
              refine ga_i (gr_V (As := []) (ci := 9) (rm := { frames := 1, cells := 0, slots := 0, locals := 22 }) E hml hl.1 (c_X9_digit l X c0 m445 hk0 hqq449) wt_X9_digit wl_RX9_184 rfl hk0 (by decide) rfl rfl hM hS rfl rfl (Nat.le_trans (by decide) hRf) (Nat.le_trans (by decide) hRl) (Nat.le_trans (Nat.le_of_ble_eq_true rfl) hRc) (Nat.le_trans (Nat.le_of_ble_eq_true rfl) hRs) (Nat.le_of_ble_eq_true rfl) dX9_readsOrder_124 rfl) hS (fun H locs hM hS => ?_)
              obtain ⟨hi451, hf⟩ := g_ck hf
              obtain ⟨m452, em452, hf⟩ := gv_o hf
              refine gg_iast E (fun c hc => gA_in X hc) hM hS (gk_in hg4 (by decide)) hg4 hi451 em452 dX9_readsOrder_127 (fun H locs hM hS => ?_)
              refine lv_aload_n hx hb dX9_readsOrder_128 rfl (lv_at hl 1 rfl) ?_
              refine lv_bipush (v := (43 : Int32)) hx hb dX9_readsOrder_129 (by decide) ?_
              obtain ⟨r455, m453, hqq454, hf⟩ := g1_o hf
              refine ga_v (gr_V (As := [.int (43 : Int32)]) (ci := 9) (rm := { frames := 1, cells := 0, slots := 0, locals := 20 }) E hml hl.1 (c_X9_between l X c0 (43 : Int32) m452 hk0 hqq454) wt_X9_between wl_RX9_187 rfl hk0 (by decide) rfl rfl hM hS rfl rfl (Nat.le_trans (by decide) hRf) (Nat.le_trans (by decide) hRl) (Nat.le_trans (Nat.le_of_ble_eq_true rfl) hRc) (Nat.le_trans (Nat.le_of_ble_eq_true rfl) hRs) (Nat.le_of_ble_eq_true rfl) dX9_readsOrder_131 rfl) hS (fun H locs hM hS => ?_)
              refine lv_aload_n hx hb dX9_readsOrder_134 rfl (lv_at hl 1 rfl) ?_
              refine GX9_30 E hM hk0 dX9_readsOrder_135 ?_
              refine lv_iload_n hx hb dX9_readsOrder_138 rfl (lv_at hl 2 rfl) ?_
              refine lv_iconst (v := (2 : Int32)) hx hb dX9_readsOrder_139 (by decide) ?_
              refine lv_iadd hx hb dX9_readsOrder_140 ?_
              refine lv_aload_n hx hb dX9_readsOrder_141 rfl (lv_at hl 1 rfl) ?_
              obtain ⟨r458, m456, hqq457, hf⟩ := g1_o hf
              refine ga_i (gr_V (As := []) (ci := 9) (rm := { frames := 2, cells := 0, slots := 0, locals := 43 }) E hml hl.1 (c_X9_number l X c0 m453 hk0 hqq457) wt_X9_number wl_RX9_190 rfl hk0 (by decide) rfl rfl hM hS rfl rfl (Nat.le_trans (by decide) hRf) (Nat.le_trans (by decide) hRl) (Nat.le_trans (Nat.le_of_ble_eq_true rfl) hRc) (Nat.le_trans (Nat.le_of_ble_eq_true rfl) hRs) (Nat.le_of_ble_eq_true rfl) dX9_readsOrder_142 rfl) hS (fun H locs hM hS => ?_)
              obtain ⟨hi459, hf⟩ := g_ck hf
              obtain ⟨m460, em460, hf⟩ := gv_o hf
              refine gg_iast E (fun c hc => gA_in X hc) hM hS (gk_in hg4 (by decide)) hg4 hi459 em460 dX9_readsOrder_145 (fun H locs hM hS => ?_)
              exact ge_v E hr hlocks hf hM hS (Nat.le_of_ble_eq_true rfl) (Nat.le_of_ble_eq_true rfl) dX9_readsOrder_146
            have hf := g_f h447 hf
            by_cases h461 : r3 = (108 : Int32)
            · have hf := g_t h461 hf
              refine lv_lookup (tgt := 147) (off := 74) hx hb dX9_readsOrder_73 (by decide) (by rw [h461]; decide) (by decide) ?_
              refine lv_aload_n hx hb dX9_readsOrder_147 rfl (lv_at hl 1 rfl) ?_
              refine GX9_30 E hM hk0 dX9_readsOrder_148 ?_
              refine lv_iload_n hx hb dX9_readsOrder_151 rfl (lv_at hl 2 rfl) ?_
              refine lv_iconst (v := (1 : Int32)) hx hb dX9_readsOrder_152 (by decide) ?_
              refine lv_iadd hx hb dX9_readsOrder_153 ?_
              refine lv_aload_n hx hb dX9_readsOrder_154 rfl (lv_at hl 1 rfl) ?_
              obtain ⟨r464, m462, hqq463, hf⟩ := g1_o hf
              refine ga_i (gr_V (As := []) (ci := 9) (rm := { frames := 1, cells := 0, slots := 0, locals := 22 }) E hml hl.1 (c_X9_digit l X c0 m445 hk0 hqq463) wt_X9_digit wl_RX9_184 rfl hk0 (by decide) rfl rfl hM hS rfl rfl (Nat.le_trans (by decide) hRf) (Nat.le_trans (by decide) hRl) (Nat.le_trans (Nat.le_of_ble_eq_true rfl) hRc) (Nat.le_trans (Nat.le_of_ble_eq_true rfl) hRs) (Nat.le_of_ble_eq_true rfl) dX9_readsOrder_155 rfl) hS (fun H locs hM hS => ?_)
              obtain ⟨hi465, hf⟩ := g_ck hf
              obtain ⟨m466, em466, hf⟩ := gv_o hf
              refine gg_iast E (fun c hc => gA_in X hc) hM hS (gk_in hg4 (by decide)) hg4 hi465 em466 dX9_readsOrder_158 (fun H locs hM hS => ?_)
              refine lv_aload_n hx hb dX9_readsOrder_159 rfl (lv_at hl 1 rfl) ?_
              refine lv_bipush (v := (47 : Int32)) hx hb dX9_readsOrder_160 (by decide) ?_
              obtain ⟨r469, m467, hqq468, hf⟩ := g1_o hf
              refine ga_v (gr_V (As := [.int (47 : Int32)]) (ci := 9) (rm := { frames := 1, cells := 0, slots := 0, locals := 20 }) E hml hl.1 (c_X9_between l X c0 (47 : Int32) m466 hk0 hqq468) wt_X9_between wl_RX9_187 rfl hk0 (by decide) rfl rfl hM hS rfl rfl (Nat.le_trans (by decide) hRf) (Nat.le_trans (by decide) hRl) (Nat.le_trans (Nat.le_of_ble_eq_true rfl) hRc) (Nat.le_trans (Nat.le_of_ble_eq_true rfl) hRs) (Nat.le_of_ble_eq_true rfl) dX9_readsOrder_162 rfl) hS (fun H locs hM hS => ?_)
              refine lv_aload_n hx hb dX9_readsOrder_165 rfl (lv_at hl 1 rfl) ?_
              refine GX9_30 E hM hk0 dX9_readsOrder_166 ?_
              refine lv_iload_n hx hb dX9_readsOrder_169 rfl (lv_at hl 2 rfl) ?_
              refine lv_iconst (v := (2 : Int32)) hx hb dX9_readsOrder_170 (by decide) ?_
              refine lv_iadd hx hb dX9_readsOrder_171 ?_
              refine lv_aload_n hx hb dX9_readsOrder_172 rfl (lv_at hl 1 rfl) ?_
              obtain ⟨r472, m470, hqq471, hf⟩ := g1_o hf
              refine ga_i (gr_V (As := []) (ci := 9) (rm := { frames := 1, cells := 0, slots := 0, locals := 22 }) E hml hl.1 (c_X9_digit l X c0 m467 hk0 hqq471) wt_X9_digit wl_RX9_184 rfl hk0 (by decide) rfl rfl hM hS rfl rfl (Nat.le_trans (by decide) hRf) (Nat.le_trans (by decide) hRl) (Nat.le_trans (Nat.le_of_ble_eq_true rfl) hRc) (Nat.le_trans (Nat.le_of_ble_eq_true rfl) hRs) (Nat.le_of_ble_eq_true rfl) dX9_readsOrder_173 rfl) hS (fun H locs hM hS => ?_)
              obtain ⟨hi473, hf⟩ := g_ck hf
              obtain ⟨m474, em474, hf⟩ := gv_o hf
              refine gg_iast E (fun c hc => gA_in X hc) hM hS (gk_in hg4 (by decide)) hg4 hi473 em474 dX9_readsOrder_176 (fun H locs hM hS => ?_)
              refine lv_aload_n hx hb dX9_readsOrder_177 rfl (lv_at hl 1 rfl) ?_
              refine lv_bipush (v := (58 : Int32)) hx hb dX9_readsOrder_178 (by decide) ?_
              obtain ⟨r477, m475, hqq476, hf⟩ := g1_o hf
              refine ga_v (gr_V (As := [.int (58 : Int32)]) (ci := 9) (rm := { frames := 1, cells := 0, slots := 0, locals := 20 }) E hml hl.1 (c_X9_between l X c0 (58 : Int32) m474 hk0 hqq476) wt_X9_between wl_RX9_187 rfl hk0 (by decide) rfl rfl hM hS rfl rfl (Nat.le_trans (by decide) hRf) (Nat.le_trans (by decide) hRl) (Nat.le_trans (Nat.le_of_ble_eq_true rfl) hRc) (Nat.le_trans (Nat.le_of_ble_eq_true rfl) hRs) (Nat.le_of_ble_eq_true rfl) dX9_readsOrder_180 rfl) hS (fun H locs hM hS => ?_)
              refine lv_aload_n hx hb dX9_readsOrder_183 rfl (lv_at hl 1 rfl) ?_
              refine GX9_30 E hM hk0 dX9_readsOrder_184 ?_
              refine lv_iload_n hx hb dX9_readsOrder_187 rfl (lv_at hl 2 rfl) ?_
              refine lv_iconst (v := (3 : Int32)) hx hb dX9_readsOrder_188 (by decide) ?_
              refine lv_iadd hx hb dX9_readsOrder_189 ?_
              refine lv_aload_n hx hb dX9_readsOrder_190 rfl (lv_at hl 1 rfl) ?_
              obtain ⟨r480, m478, hqq479, hf⟩ := g1_o hf
              refine ga_i (gr_V (As := []) (ci := 9) (rm := { frames := 1, cells := 0, slots := 0, locals := 22 }) E hml hl.1 (c_X9_digit l X c0 m475 hk0 hqq479) wt_X9_digit wl_RX9_184 rfl hk0 (by decide) rfl rfl hM hS rfl rfl (Nat.le_trans (by decide) hRf) (Nat.le_trans (by decide) hRl) (Nat.le_trans (Nat.le_of_ble_eq_true rfl) hRc) (Nat.le_trans (Nat.le_of_ble_eq_true rfl) hRs) (Nat.le_of_ble_eq_true rfl) dX9_readsOrder_191 rfl) hS (fun H locs hM hS => ?_)
              obtain ⟨hi481, hf⟩ := g_ck hf
              obtain ⟨m482, em482, hf⟩ := gv_o hf
              refine gg_iast E (fun c hc => gA_in X hc) hM hS (gk_in hg4 (by decide)) hg4 hi481 em482 dX9_readsOrder_194 (fun H locs hM hS => ?_)
              refine lv_aload_n hx hb dX9_readsOrder_195 rfl (lv_at hl 1 rfl) ?_
              refine lv_bipush (v := (42 : Int32)) hx hb dX9_readsOrder_196 (by decide) ?_
              obtain ⟨r485, m483, hqq484, hf⟩ := g1_o hf
              refine ga_v (gr_V (As := [.int (42 : Int32)]) (ci := 9) (rm := { frames := 1, cells := 0, slots := 0, locals := 20 }) E hml hl.1 (c_X9_between l X c0 (42 : Int32) m482 hk0 hqq484) wt_X9_between wl_RX9_187 rfl hk0 (by decide) rfl rfl hM hS rfl rfl (Nat.le_trans (by decide) hRf) (Nat.le_trans (by decide) hRl) (Nat.le_trans (Nat.le_of_ble_eq_true rfl) hRc) (Nat.le_trans (Nat.le_of_ble_eq_true rfl) hRs) (Nat.le_of_ble_eq_true rfl) dX9_readsOrder_198 rfl) hS (fun H locs hM hS => ?_)
              refine lv_aload_n hx hb dX9_readsOrder_201 rfl (lv_at hl 1 rfl) ?_
              refine GX9_30 E hM hk0 dX9_readsOrder_202 ?_
              refine lv_iload_n hx hb dX9_readsOrder_205 rfl (lv_at hl 2 rfl) ?_
              refine lv_iconst (v := (4 : Int32)) hx hb dX9_readsOrder_206 (by decide) ?_
              refine lv_iadd hx hb dX9_readsOrder_207 ?_
              refine lv_aload_n hx hb dX9_readsOrder_208 rfl (lv_at hl 1 rfl) ?_
              obtain ⟨r488, m486, hqq487, hf⟩ := g1_o hf
              refine ga_i (gr_V (As := []) (ci := 9) (rm := { frames := 2, cells := 0, slots := 0, locals := 43 }) E hml hl.1 (c_X9_number l X c0 m483 hk0 hqq487) wt_X9_number wl_RX9_190 rfl hk0 (by decide) rfl rfl hM hS rfl rfl (Nat.le_trans (by decide) hRf) (Nat.le_trans (by decide) hRl) (Nat.le_trans (Nat.le_of_ble_eq_true rfl) hRc) (Nat.le_trans (Nat.le_of_ble_eq_true rfl) hRs) (Nat.le_of_ble_eq_true rfl) dX9_readsOrder_209 rfl) hS (fun H locs hM hS => ?_)
              obtain ⟨hi489, hf⟩ := g_ck hf
              obtain ⟨m490, em490, hf⟩ := gv_o hf
              refine gg_iast E (fun c hc => gA_in X hc) hM hS (gk_in hg4 (by decide)) hg4 hi489 em490 dX9_readsOrder_212 (fun H locs hM hS => ?_)
              exact ge_v E hr hlocks hf hM hS (Nat.le_of_ble_eq_true rfl) (Nat.le_of_ble_eq_true rfl) dX9_readsOrder_213
            have hf := g_f h461 hf
            by_cases h491 : r3 = (115 : Int32)
            · have hf := g_t h491 hf
              refine lv_lookup (tgt := 214) (off := 141) hx hb dX9_readsOrder_73 (by decide) (by rw [h491]; decide) (by decide) ?_
              refine lv_aload_n hx hb dX9_readsOrder_214 rfl (lv_at hl 1 rfl) ?_
              refine GX9_30 E hM hk0 dX9_readsOrder_215 ?_
              refine lv_iload_n hx hb dX9_readsOrder_218 rfl (lv_at hl 2 rfl) ?_
              refine lv_iconst (v := (1 : Int32)) hx hb dX9_readsOrder_219 (by decide) ?_
              refine lv_iadd hx hb dX9_readsOrder_220 ?_
              refine lv_aload_n hx hb dX9_readsOrder_221 rfl (lv_at hl 1 rfl) ?_
              obtain ⟨r494, m492, hqq493, hf⟩ := g1_o hf
              refine ga_i (gr_V (As := []) (ci := 9) (rm := { frames := 2, cells := 0, slots := 0, locals := 43 }) E hml hl.1 (c_X9_number l X c0 m445 hk0 hqq493) wt_X9_number wl_RX9_190 rfl hk0 (by decide) rfl rfl hM hS rfl rfl (Nat.le_trans (by decide) hRf) (Nat.le_trans (by decide) hRl) (Nat.le_trans (Nat.le_of_ble_eq_true rfl) hRc) (Nat.le_trans (Nat.le_of_ble_eq_true rfl) hRs) (Nat.le_of_ble_eq_true rfl) dX9_readsOrder_222 rfl) hS (fun H locs hM hS => ?_)
              obtain ⟨hi495, hf⟩ := g_ck hf
              obtain ⟨m496, em496, hf⟩ := gv_o hf
              refine gg_iast E (fun c hc => gA_in X hc) hM hS (gk_in hg4 (by decide)) hg4 hi495 em496 dX9_readsOrder_225 (fun H locs hM hS => ?_)
              refine lv_aload_n hx hb dX9_readsOrder_226 rfl (lv_at hl 1 rfl) ?_
              refine lv_bipush (v := (64 : Int32)) hx hb dX9_readsOrder_227 (by decide) ?_
              obtain ⟨r499, m497, hqq498, hf⟩ := g1_o hf
              refine ga_v (gr_V (As := [.int (64 : Int32)]) (ci := 9) (rm := { frames := 1, cells := 0, slots := 0, locals := 20 }) E hml hl.1 (c_X9_between l X c0 (64 : Int32) m496 hk0 hqq498) wt_X9_between wl_RX9_187 rfl hk0 (by decide) rfl rfl hM hS rfl rfl (Nat.le_trans (by decide) hRf) (Nat.le_trans (by decide) hRl) (Nat.le_trans (Nat.le_of_ble_eq_true rfl) hRc) (Nat.le_trans (Nat.le_of_ble_eq_true rfl) hRs) (Nat.le_of_ble_eq_true rfl) dX9_readsOrder_229 rfl) hS (fun H locs hM hS => ?_)
              refine lv_aload_n hx hb dX9_readsOrder_232 rfl (lv_at hl 1 rfl) ?_
              refine GX9_30 E hM hk0 dX9_readsOrder_233 ?_
              refine lv_iload_n hx hb dX9_readsOrder_236 rfl (lv_at hl 2 rfl) ?_
              refine lv_iconst (v := (2 : Int32)) hx hb dX9_readsOrder_237 (by decide) ?_
              refine lv_iadd hx hb dX9_readsOrder_238 ?_
              refine lv_aload_n hx hb dX9_readsOrder_239 rfl (lv_at hl 1 rfl) ?_
              obtain ⟨r502, m500, hqq501, hf⟩ := g1_o hf
              refine ga_i (gr_V (As := []) (ci := 9) (rm := { frames := 1, cells := 0, slots := 0, locals := 22 }) E hml hl.1 (c_X9_digit l X c0 m497 hk0 hqq501) wt_X9_digit wl_RX9_184 rfl hk0 (by decide) rfl rfl hM hS rfl rfl (Nat.le_trans (by decide) hRf) (Nat.le_trans (by decide) hRl) (Nat.le_trans (Nat.le_of_ble_eq_true rfl) hRc) (Nat.le_trans (Nat.le_of_ble_eq_true rfl) hRs) (Nat.le_of_ble_eq_true rfl) dX9_readsOrder_240 rfl) hS (fun H locs hM hS => ?_)
              obtain ⟨hi503, hf⟩ := g_ck hf
              obtain ⟨m504, em504, hf⟩ := gv_o hf
              refine gg_iast E (fun c hc => gA_in X hc) hM hS (gk_in hg4 (by decide)) hg4 hi503 em504 dX9_readsOrder_243 (fun H locs hM hS => ?_)
              exact ge_v E hr hlocks hf hM hS (Nat.le_of_ble_eq_true rfl) (Nat.le_of_ble_eq_true rfl) dX9_readsOrder_244
            have hf := g_f h491 hf
            by_cases h505 : r3 = (116 : Int32)
            · have hf := g_t h505 hf
              refine lv_lookup (tgt := 245) (off := 172) hx hb dX9_readsOrder_73 (by decide) (by rw [h505]; decide) (by decide) ?_
              refine lv_aload_n hx hb dX9_readsOrder_245 rfl (lv_at hl 1 rfl) ?_
              refine GX9_30 E hM hk0 dX9_readsOrder_246 ?_
              refine lv_iload_n hx hb dX9_readsOrder_249 rfl (lv_at hl 2 rfl) ?_
              refine lv_iconst (v := (1 : Int32)) hx hb dX9_readsOrder_250 (by decide) ?_
              refine lv_iadd hx hb dX9_readsOrder_251 ?_
              refine lv_aload_n hx hb dX9_readsOrder_252 rfl (lv_at hl 1 rfl) ?_
              obtain ⟨r508, m506, hqq507, hf⟩ := g1_o hf
              refine ga_i (gr_V (As := []) (ci := 9) (rm := { frames := 1, cells := 0, slots := 0, locals := 22 }) E hml hl.1 (c_X9_digit l X c0 m445 hk0 hqq507) wt_X9_digit wl_RX9_184 rfl hk0 (by decide) rfl rfl hM hS rfl rfl (Nat.le_trans (by decide) hRf) (Nat.le_trans (by decide) hRl) (Nat.le_trans (Nat.le_of_ble_eq_true rfl) hRc) (Nat.le_trans (Nat.le_of_ble_eq_true rfl) hRs) (Nat.le_of_ble_eq_true rfl) dX9_readsOrder_253 rfl) hS (fun H locs hM hS => ?_)
              obtain ⟨hi509, hf⟩ := g_ck hf
              obtain ⟨m510, em510, hf⟩ := gv_o hf
              refine gg_iast E (fun c hc => gA_in X hc) hM hS (gk_in hg4 (by decide)) hg4 hi509 em510 dX9_readsOrder_256 (fun H locs hM hS => ?_)
              exact ge_v E hr hlocks hf hM hS (Nat.le_of_ble_eq_true rfl) (Nat.le_of_ble_eq_true rfl) dX9_readsOrder_257
            have hf := g_f h505 hf
            have ah447 := g_tn (z := 98) h447 rfl
            have ah461 := g_tn (z := 108) h461 rfl
            have ah491 := g_tn (z := 115) h491 rfl
            have ah505 := g_tn (z := 116) h505 rfl
            refine lv_lookup (tgt := 258) (off := 185) hx hb dX9_readsOrder_73 (by decide) (by simp [Op.lookupswitch.offset, ah447, ah461, ah491, ah505]) (by decide) ?_
            refine lv_aload_n hx hb dX9_readsOrder_258 rfl (lv_at hl 1 rfl) ?_
            refine GX9_30 E hM hk0 dX9_readsOrder_259 ?_
            refine lv_iload_n hx hb dX9_readsOrder_262 rfl (lv_at hl 2 rfl) ?_
            refine lv_iconst (v := (1 : Int32)) hx hb dX9_readsOrder_263 (by decide) ?_
            refine lv_iadd hx hb dX9_readsOrder_264 ?_
            refine lv_aload_n hx hb dX9_readsOrder_265 rfl (lv_at hl 1 rfl) ?_
            obtain ⟨r513, m511, hqq512, hf⟩ := g1_o hf
            refine ga_i (gr_V (As := []) (ci := 9) (rm := { frames := 2, cells := 0, slots := 0, locals := 43 }) E hml hl.1 (c_X9_number l X c0 m445 hk0 hqq512) wt_X9_number wl_RX9_190 rfl hk0 (by decide) rfl rfl hM hS rfl rfl (Nat.le_trans (by decide) hRf) (Nat.le_trans (by decide) hRl) (Nat.le_trans (Nat.le_of_ble_eq_true rfl) hRc) (Nat.le_trans (Nat.le_of_ble_eq_true rfl) hRs) (Nat.le_of_ble_eq_true rfl) dX9_readsOrder_266 rfl) hS (fun H locs hM hS => ?_)
            obtain ⟨hi514, hf⟩ := g_ck hf
            obtain ⟨m515, em515, hf⟩ := gv_o hf
            refine gg_iast E (fun c hc => gA_in X hc) hM hS (gk_in hg4 (by decide)) hg4 hi514 em515 dX9_readsOrder_269 (fun H locs hM hS => ?_)
            exact ge_v E hr hlocks hf hM hS (Nat.le_of_ble_eq_true rfl) (Nat.le_of_ble_eq_true rfl) dX9_readsOrder_270
          · have hf := g_f h444 hf
            refine lv_iconst (v := (0 : Int32)) hx hb dX9_readsOrder_63 (by decide) ?_
            refine lv_goto (tgt := 68) hx hb dX9_readsOrder_64 (by decide) ?_
            refine lv_iadd hx hb dX9_readsOrder_68 ?_
            obtain ⟨m516, em516, hf⟩ := gv_o hf
            refine PX9_175 E hM hS hk0 em516 dX9_readsOrder_69 (fun H locs hM hS => ?_)
            refine lv_iload_n hx hb dX9_readsOrder_72 rfl (lv_at hl 0 rfl) ?_
            by_cases h518 : r3 = (98 : Int32)
            · have hf := g_t h518 hf
              refine lv_lookup (tgt := 116) (off := 43) hx hb dX9_readsOrder_73 (by decide) (by rw [h518]; decide) (by decide) ?_
              refine lv_aload_n hx hb dX9_readsOrder_116 rfl (lv_at hl 1 rfl) ?_
              refine GX9_30 E hM hk0 dX9_readsOrder_117 ?_
              refine lv_iload_n hx hb dX9_readsOrder_120 rfl (lv_at hl 2 rfl) ?_
              refine lv_iconst (v := (1 : Int32)) hx hb dX9_readsOrder_121 (by decide) ?_
              refine lv_iadd hx hb dX9_readsOrder_122 ?_
              refine lv_aload_n hx hb dX9_readsOrder_123 rfl (lv_at hl 1 rfl) ?_
              obtain ⟨r521, m519, hqq520, hf⟩ := g1_o hf
              refine ga_i (gr_V (As := []) (ci := 9) (rm := { frames := 1, cells := 0, slots := 0, locals := 22 }) E hml hl.1 (c_X9_digit l X c0 m516 hk0 hqq520) wt_X9_digit wl_RX9_184 rfl hk0 (by decide) rfl rfl hM hS rfl rfl (Nat.le_trans (by decide) hRf) (Nat.le_trans (by decide) hRl) (Nat.le_trans (Nat.le_of_ble_eq_true rfl) hRc) (Nat.le_trans (Nat.le_of_ble_eq_true rfl) hRs) (Nat.le_of_ble_eq_true rfl) dX9_readsOrder_124 rfl) hS (fun H locs hM hS => ?_)
              obtain ⟨hi522, hf⟩ := g_ck hf
              obtain ⟨m523, em523, hf⟩ := gv_o hf
              refine gg_iast E (fun c hc => gA_in X hc) hM hS (gk_in hg4 (by decide)) hg4 hi522 em523 dX9_readsOrder_127 (fun H locs hM hS => ?_)
              refine lv_aload_n hx hb dX9_readsOrder_128 rfl (lv_at hl 1 rfl) ?_
              refine lv_bipush (v := (43 : Int32)) hx hb dX9_readsOrder_129 (by decide) ?_
              obtain ⟨r526, m524, hqq525, hf⟩ := g1_o hf
              refine ga_v (gr_V (As := [.int (43 : Int32)]) (ci := 9) (rm := { frames := 1, cells := 0, slots := 0, locals := 20 }) E hml hl.1 (c_X9_between l X c0 (43 : Int32) m523 hk0 hqq525) wt_X9_between wl_RX9_187 rfl hk0 (by decide) rfl rfl hM hS rfl rfl (Nat.le_trans (by decide) hRf) (Nat.le_trans (by decide) hRl) (Nat.le_trans (Nat.le_of_ble_eq_true rfl) hRc) (Nat.le_trans (Nat.le_of_ble_eq_true rfl) hRs) (Nat.le_of_ble_eq_true rfl) dX9_readsOrder_131 rfl) hS (fun H locs hM hS => ?_)
              refine lv_aload_n hx hb dX9_readsOrder_134 rfl (lv_at hl 1 rfl) ?_
              refine GX9_30 E hM hk0 dX9_readsOrder_135 ?_
              refine lv_iload_n hx hb dX9_readsOrder_138 rfl (lv_at hl 2 rfl) ?_
              refine lv_iconst (v := (2 : Int32)) hx hb dX9_readsOrder_139 (by decide) ?_
              refine lv_iadd hx hb dX9_readsOrder_140 ?_
              refine lv_aload_n hx hb dX9_readsOrder_141 rfl (lv_at hl 1 rfl) ?_
              obtain ⟨r529, m527, hqq528, hf⟩ := g1_o hf
              refine ga_i (gr_V (As := []) (ci := 9) (rm := { frames := 2, cells := 0, slots := 0, locals := 43 }) E hml hl.1 (c_X9_number l X c0 m524 hk0 hqq528) wt_X9_number wl_RX9_190 rfl hk0 (by decide) rfl rfl hM hS rfl rfl (Nat.le_trans (by decide) hRf) (Nat.le_trans (by decide) hRl) (Nat.le_trans (Nat.le_of_ble_eq_true rfl) hRc) (Nat.le_trans (Nat.le_of_ble_eq_true rfl) hRs) (Nat.le_of_ble_eq_true rfl) dX9_readsOrder_142 rfl) hS (fun H locs hM hS => ?_)
              obtain ⟨hi530, hf⟩ := g_ck hf
              obtain ⟨m531, em531, hf⟩ := gv_o hf
              refine gg_iast E (fun c hc => gA_in X hc) hM hS (gk_in hg4 (by decide)) hg4 hi530 em531 dX9_readsOrder_145 (fun H locs hM hS => ?_)
              exact ge_v E hr hlocks hf hM hS (Nat.le_of_ble_eq_true rfl) (Nat.le_of_ble_eq_true rfl) dX9_readsOrder_146
            have hf := g_f h518 hf
            by_cases h532 : r3 = (108 : Int32)
            · have hf := g_t h532 hf
              refine lv_lookup (tgt := 147) (off := 74) hx hb dX9_readsOrder_73 (by decide) (by rw [h532]; decide) (by decide) ?_
              refine lv_aload_n hx hb dX9_readsOrder_147 rfl (lv_at hl 1 rfl) ?_
              refine GX9_30 E hM hk0 dX9_readsOrder_148 ?_
              refine lv_iload_n hx hb dX9_readsOrder_151 rfl (lv_at hl 2 rfl) ?_
              refine lv_iconst (v := (1 : Int32)) hx hb dX9_readsOrder_152 (by decide) ?_
              refine lv_iadd hx hb dX9_readsOrder_153 ?_
              refine lv_aload_n hx hb dX9_readsOrder_154 rfl (lv_at hl 1 rfl) ?_
              obtain ⟨r535, m533, hqq534, hf⟩ := g1_o hf
              refine ga_i (gr_V (As := []) (ci := 9) (rm := { frames := 1, cells := 0, slots := 0, locals := 22 }) E hml hl.1 (c_X9_digit l X c0 m516 hk0 hqq534) wt_X9_digit wl_RX9_184 rfl hk0 (by decide) rfl rfl hM hS rfl rfl (Nat.le_trans (by decide) hRf) (Nat.le_trans (by decide) hRl) (Nat.le_trans (Nat.le_of_ble_eq_true rfl) hRc) (Nat.le_trans (Nat.le_of_ble_eq_true rfl) hRs) (Nat.le_of_ble_eq_true rfl) dX9_readsOrder_155 rfl) hS (fun H locs hM hS => ?_)
              obtain ⟨hi536, hf⟩ := g_ck hf
              obtain ⟨m537, em537, hf⟩ := gv_o hf
              refine gg_iast E (fun c hc => gA_in X hc) hM hS (gk_in hg4 (by decide)) hg4 hi536 em537 dX9_readsOrder_158 (fun H locs hM hS => ?_)
              refine lv_aload_n hx hb dX9_readsOrder_159 rfl (lv_at hl 1 rfl) ?_
              refine lv_bipush (v := (47 : Int32)) hx hb dX9_readsOrder_160 (by decide) ?_
              obtain ⟨r540, m538, hqq539, hf⟩ := g1_o hf
              refine ga_v (gr_V (As := [.int (47 : Int32)]) (ci := 9) (rm := { frames := 1, cells := 0, slots := 0, locals := 20 }) E hml hl.1 (c_X9_between l X c0 (47 : Int32) m537 hk0 hqq539) wt_X9_between wl_RX9_187 rfl hk0 (by decide) rfl rfl hM hS rfl rfl (Nat.le_trans (by decide) hRf) (Nat.le_trans (by decide) hRl) (Nat.le_trans (Nat.le_of_ble_eq_true rfl) hRc) (Nat.le_trans (Nat.le_of_ble_eq_true rfl) hRs) (Nat.le_of_ble_eq_true rfl) dX9_readsOrder_162 rfl) hS (fun H locs hM hS => ?_)
              refine lv_aload_n hx hb dX9_readsOrder_165 rfl (lv_at hl 1 rfl) ?_
              refine GX9_30 E hM hk0 dX9_readsOrder_166 ?_
              refine lv_iload_n hx hb dX9_readsOrder_169 rfl (lv_at hl 2 rfl) ?_
              refine lv_iconst (v := (2 : Int32)) hx hb dX9_readsOrder_170 (by decide) ?_
              refine lv_iadd hx hb dX9_readsOrder_171 ?_
              refine lv_aload_n hx hb dX9_readsOrder_172 rfl (lv_at hl 1 rfl) ?_
              obtain ⟨r543, m541, hqq542, hf⟩ := g1_o hf
              refine ga_i (gr_V (As := []) (ci := 9) (rm := { frames := 1, cells := 0, slots := 0, locals := 22 }) E hml hl.1 (c_X9_digit l X c0 m538 hk0 hqq542) wt_X9_digit wl_RX9_184 rfl hk0 (by decide) rfl rfl hM hS rfl rfl (Nat.le_trans (by decide) hRf) (Nat.le_trans (by decide) hRl) (Nat.le_trans (Nat.le_of_ble_eq_true rfl) hRc) (Nat.le_trans (Nat.le_of_ble_eq_true rfl) hRs) (Nat.le_of_ble_eq_true rfl) dX9_readsOrder_173 rfl) hS (fun H locs hM hS => ?_)
              obtain ⟨hi544, hf⟩ := g_ck hf
              obtain ⟨m545, em545, hf⟩ := gv_o hf
              refine gg_iast E (fun c hc => gA_in X hc) hM hS (gk_in hg4 (by decide)) hg4 hi544 em545 dX9_readsOrder_176 (fun H locs hM hS => ?_)
              refine lv_aload_n hx hb dX9_readsOrder_177 rfl (lv_at hl 1 rfl) ?_
              refine lv_bipush (v := (58 : Int32)) hx hb dX9_readsOrder_178 (by decide) ?_
              obtain ⟨r548, m546, hqq547, hf⟩ := g1_o hf
              refine ga_v (gr_V (As := [.int (58 : Int32)]) (ci := 9) (rm := { frames := 1, cells := 0, slots := 0, locals := 20 }) E hml hl.1 (c_X9_between l X c0 (58 : Int32) m545 hk0 hqq547) wt_X9_between wl_RX9_187 rfl hk0 (by decide) rfl rfl hM hS rfl rfl (Nat.le_trans (by decide) hRf) (Nat.le_trans (by decide) hRl) (Nat.le_trans (Nat.le_of_ble_eq_true rfl) hRc) (Nat.le_trans (Nat.le_of_ble_eq_true rfl) hRs) (Nat.le_of_ble_eq_true rfl) dX9_readsOrder_180 rfl) hS (fun H locs hM hS => ?_)
              refine lv_aload_n hx hb dX9_readsOrder_183 rfl (lv_at hl 1 rfl) ?_
              refine GX9_30 E hM hk0 dX9_readsOrder_184 ?_
              refine lv_iload_n hx hb dX9_readsOrder_187 rfl (lv_at hl 2 rfl) ?_
              refine lv_iconst (v := (3 : Int32)) hx hb dX9_readsOrder_188 (by decide) ?_
              refine lv_iadd hx hb dX9_readsOrder_189 ?_
              refine lv_aload_n hx hb dX9_readsOrder_190 rfl (lv_at hl 1 rfl) ?_
              obtain ⟨r551, m549, hqq550, hf⟩ := g1_o hf
              refine ga_i (gr_V (As := []) (ci := 9) (rm := { frames := 1, cells := 0, slots := 0, locals := 22 }) E hml hl.1 (c_X9_digit l X c0 m546 hk0 hqq550) wt_X9_digit wl_RX9_184 rfl hk0 (by decide) rfl rfl hM hS rfl rfl (Nat.le_trans (by decide) hRf) (Nat.le_trans (by decide) hRl) (Nat.le_trans (Nat.le_of_ble_eq_true rfl) hRc) (Nat.le_trans (Nat.le_of_ble_eq_true rfl) hRs) (Nat.le_of_ble_eq_true rfl) dX9_readsOrder_191 rfl) hS (fun H locs hM hS => ?_)
              obtain ⟨hi552, hf⟩ := g_ck hf
              obtain ⟨m553, em553, hf⟩ := gv_o hf
              refine gg_iast E (fun c hc => gA_in X hc) hM hS (gk_in hg4 (by decide)) hg4 hi552 em553 dX9_readsOrder_194 (fun H locs hM hS => ?_)
              refine lv_aload_n hx hb dX9_readsOrder_195 rfl (lv_at hl 1 rfl) ?_
              refine lv_bipush (v := (42 : Int32)) hx hb dX9_readsOrder_196 (by decide) ?_
              obtain ⟨r556, m554, hqq555, hf⟩ := g1_o hf
              refine ga_v (gr_V (As := [.int (42 : Int32)]) (ci := 9) (rm := { frames := 1, cells := 0, slots := 0, locals := 20 }) E hml hl.1 (c_X9_between l X c0 (42 : Int32) m553 hk0 hqq555) wt_X9_between wl_RX9_187 rfl hk0 (by decide) rfl rfl hM hS rfl rfl (Nat.le_trans (by decide) hRf) (Nat.le_trans (by decide) hRl) (Nat.le_trans (Nat.le_of_ble_eq_true rfl) hRc) (Nat.le_trans (Nat.le_of_ble_eq_true rfl) hRs) (Nat.le_of_ble_eq_true rfl) dX9_readsOrder_198 rfl) hS (fun H locs hM hS => ?_)
              refine lv_aload_n hx hb dX9_readsOrder_201 rfl (lv_at hl 1 rfl) ?_
              refine GX9_30 E hM hk0 dX9_readsOrder_202 ?_
              refine lv_iload_n hx hb dX9_readsOrder_205 rfl (lv_at hl 2 rfl) ?_
              refine lv_iconst (v := (4 : Int32)) hx hb dX9_readsOrder_206 (by decide) ?_
              refine lv_iadd hx hb dX9_readsOrder_207 ?_
              refine lv_aload_n hx hb dX9_readsOrder_208 rfl (lv_at hl 1 rfl) ?_
              obtain ⟨r559, m557, hqq558, hf⟩ := g1_o hf
              refine ga_i (gr_V (As := []) (ci := 9) (rm := { frames := 2, cells := 0, slots := 0, locals := 43 }) E hml hl.1 (c_X9_number l X c0 m554 hk0 hqq558) wt_X9_number wl_RX9_190 rfl hk0 (by decide) rfl rfl hM hS rfl rfl (Nat.le_trans (by decide) hRf) (Nat.le_trans (by decide) hRl) (Nat.le_trans (Nat.le_of_ble_eq_true rfl) hRc) (Nat.le_trans (Nat.le_of_ble_eq_true rfl) hRs) (Nat.le_of_ble_eq_true rfl) dX9_readsOrder_209 rfl) hS (fun H locs hM hS => ?_)
              obtain ⟨hi560, hf⟩ := g_ck hf
              obtain ⟨m561, em561, hf⟩ := gv_o hf
              refine gg_iast E (fun c hc => gA_in X hc) hM hS (gk_in hg4 (by decide)) hg4 hi560 em561 dX9_readsOrder_212 (fun H locs hM hS => ?_)
              exact ge_v E hr hlocks hf hM hS (Nat.le_of_ble_eq_true rfl) (Nat.le_of_ble_eq_true rfl) dX9_readsOrder_213
            have hf := g_f h532 hf
            by_cases h562 : r3 = (115 : Int32)
            · have hf := g_t h562 hf
              refine lv_lookup (tgt := 214) (off := 141) hx hb dX9_readsOrder_73 (by decide) (by rw [h562]; decide) (by decide) ?_
              refine lv_aload_n hx hb dX9_readsOrder_214 rfl (lv_at hl 1 rfl) ?_
              refine GX9_30 E hM hk0 dX9_readsOrder_215 ?_
              refine lv_iload_n hx hb dX9_readsOrder_218 rfl (lv_at hl 2 rfl) ?_
              refine lv_iconst (v := (1 : Int32)) hx hb dX9_readsOrder_219 (by decide) ?_
              refine lv_iadd hx hb dX9_readsOrder_220 ?_
              refine lv_aload_n hx hb dX9_readsOrder_221 rfl (lv_at hl 1 rfl) ?_
              obtain ⟨r565, m563, hqq564, hf⟩ := g1_o hf
              refine ga_i (gr_V (As := []) (ci := 9) (rm := { frames := 2, cells := 0, slots := 0, locals := 43 }) E hml hl.1 (c_X9_number l X c0 m516 hk0 hqq564) wt_X9_number wl_RX9_190 rfl hk0 (by decide) rfl rfl hM hS rfl rfl (Nat.le_trans (by decide) hRf) (Nat.le_trans (by decide) hRl) (Nat.le_trans (Nat.le_of_ble_eq_true rfl) hRc) (Nat.le_trans (Nat.le_of_ble_eq_true rfl) hRs) (Nat.le_of_ble_eq_true rfl) dX9_readsOrder_222 rfl) hS (fun H locs hM hS => ?_)
              obtain ⟨hi566, hf⟩ := g_ck hf
              obtain ⟨m567, em567, hf⟩ := gv_o hf
              refine gg_iast E (fun c hc => gA_in X hc) hM hS (gk_in hg4 (by decide)) hg4 hi566 em567 dX9_readsOrder_225 (fun H locs hM hS => ?_)
              refine lv_aload_n hx hb dX9_readsOrder_226 rfl (lv_at hl 1 rfl) ?_
              refine lv_bipush (v := (64 : Int32)) hx hb dX9_readsOrder_227 (by decide) ?_
              obtain ⟨r570, m568, hqq569, hf⟩ := g1_o hf
              refine ga_v (gr_V (As := [.int (64 : Int32)]) (ci := 9) (rm := { frames := 1, cells := 0, slots := 0, locals := 20 }) E hml hl.1 (c_X9_between l X c0 (64 : Int32) m567 hk0 hqq569) wt_X9_between wl_RX9_187 rfl hk0 (by decide) rfl rfl hM hS rfl rfl (Nat.le_trans (by decide) hRf) (Nat.le_trans (by decide) hRl) (Nat.le_trans (Nat.le_of_ble_eq_true rfl) hRc) (Nat.le_trans (Nat.le_of_ble_eq_true rfl) hRs) (Nat.le_of_ble_eq_true rfl) dX9_readsOrder_229 rfl) hS (fun H locs hM hS => ?_)
              refine lv_aload_n hx hb dX9_readsOrder_232 rfl (lv_at hl 1 rfl) ?_
              refine GX9_30 E hM hk0 dX9_readsOrder_233 ?_
              refine lv_iload_n hx hb dX9_readsOrder_236 rfl (lv_at hl 2 rfl) ?_
              refine lv_iconst (v := (2 : Int32)) hx hb dX9_readsOrder_237 (by decide) ?_
              refine lv_iadd hx hb dX9_readsOrder_238 ?_
              refine lv_aload_n hx hb dX9_readsOrder_239 rfl (lv_at hl 1 rfl) ?_
              obtain ⟨r573, m571, hqq572, hf⟩ := g1_o hf
              refine ga_i (gr_V (As := []) (ci := 9) (rm := { frames := 1, cells := 0, slots := 0, locals := 22 }) E hml hl.1 (c_X9_digit l X c0 m568 hk0 hqq572) wt_X9_digit wl_RX9_184 rfl hk0 (by decide) rfl rfl hM hS rfl rfl (Nat.le_trans (by decide) hRf) (Nat.le_trans (by decide) hRl) (Nat.le_trans (Nat.le_of_ble_eq_true rfl) hRc) (Nat.le_trans (Nat.le_of_ble_eq_true rfl) hRs) (Nat.le_of_ble_eq_true rfl) dX9_readsOrder_240 rfl) hS (fun H locs hM hS => ?_)
              obtain ⟨hi574, hf⟩ := g_ck hf
              obtain ⟨m575, em575, hf⟩ := gv_o hf
              refine gg_iast E (fun c hc => gA_in X hc) hM hS (gk_in hg4 (by decide)) hg4 hi574 em575 dX9_readsOrder_243 (fun H locs hM hS => ?_)
              exact ge_v E hr hlocks hf hM hS (Nat.le_of_ble_eq_true rfl) (Nat.le_of_ble_eq_true rfl) dX9_readsOrder_244
            have hf := g_f h562 hf
            by_cases h576 : r3 = (116 : Int32)
            · have hf := g_t h576 hf
              refine lv_lookup (tgt := 245) (off := 172) hx hb dX9_readsOrder_73 (by decide) (by rw [h576]; decide) (by decide) ?_
              refine lv_aload_n hx hb dX9_readsOrder_245 rfl (lv_at hl 1 rfl) ?_
              refine GX9_30 E hM hk0 dX9_readsOrder_246 ?_
              refine lv_iload_n hx hb dX9_readsOrder_249 rfl (lv_at hl 2 rfl) ?_
              refine lv_iconst (v := (1 : Int32)) hx hb dX9_readsOrder_250 (by decide) ?_
              refine lv_iadd hx hb dX9_readsOrder_251 ?_
              refine lv_aload_n hx hb dX9_readsOrder_252 rfl (lv_at hl 1 rfl) ?_
              obtain ⟨r579, m577, hqq578, hf⟩ := g1_o hf
              refine ga_i (gr_V (As := []) (ci := 9) (rm := { frames := 1, cells := 0, slots := 0, locals := 22 }) E hml hl.1 (c_X9_digit l X c0 m516 hk0 hqq578) wt_X9_digit wl_RX9_184 rfl hk0 (by decide) rfl rfl hM hS rfl rfl (Nat.le_trans (by decide) hRf) (Nat.le_trans (by decide) hRl) (Nat.le_trans (Nat.le_of_ble_eq_true rfl) hRc) (Nat.le_trans (Nat.le_of_ble_eq_true rfl) hRs) (Nat.le_of_ble_eq_true rfl) dX9_readsOrder_253 rfl) hS (fun H locs hM hS => ?_)
              obtain ⟨hi580, hf⟩ := g_ck hf
              obtain ⟨m581, em581, hf⟩ := gv_o hf
              refine gg_iast E (fun c hc => gA_in X hc) hM hS (gk_in hg4 (by decide)) hg4 hi580 em581 dX9_readsOrder_256 (fun H locs hM hS => ?_)
              exact ge_v E hr hlocks hf hM hS (Nat.le_of_ble_eq_true rfl) (Nat.le_of_ble_eq_true rfl) dX9_readsOrder_257
            have hf := g_f h576 hf
            have ah518 := g_tn (z := 98) h518 rfl
            have ah532 := g_tn (z := 108) h532 rfl
            have ah562 := g_tn (z := 115) h562 rfl
            have ah576 := g_tn (z := 116) h576 rfl
            refine lv_lookup (tgt := 258) (off := 185) hx hb dX9_readsOrder_73 (by decide) (by simp [Op.lookupswitch.offset, ah518, ah532, ah562, ah576]) (by decide) ?_
            refine lv_aload_n hx hb dX9_readsOrder_258 rfl (lv_at hl 1 rfl) ?_
            refine GX9_30 E hM hk0 dX9_readsOrder_259 ?_
            refine lv_iload_n hx hb dX9_readsOrder_262 rfl (lv_at hl 2 rfl) ?_
            refine lv_iconst (v := (1 : Int32)) hx hb dX9_readsOrder_263 (by decide) ?_
            refine lv_iadd hx hb dX9_readsOrder_264 ?_
            refine lv_aload_n hx hb dX9_readsOrder_265 rfl (lv_at hl 1 rfl) ?_
            obtain ⟨r584, m582, hqq583, hf⟩ := g1_o hf
            refine ga_i (gr_V (As := []) (ci := 9) (rm := { frames := 2, cells := 0, slots := 0, locals := 43 }) E hml hl.1 (c_X9_number l X c0 m516 hk0 hqq583) wt_X9_number wl_RX9_190 rfl hk0 (by decide) rfl rfl hM hS rfl rfl (Nat.le_trans (by decide) hRf) (Nat.le_trans (by decide) hRl) (Nat.le_trans (Nat.le_of_ble_eq_true rfl) hRc) (Nat.le_trans (Nat.le_of_ble_eq_true rfl) hRs) (Nat.le_of_ble_eq_true rfl) dX9_readsOrder_266 rfl) hS (fun H locs hM hS => ?_)
            obtain ⟨hi585, hf⟩ := g_ck hf
            obtain ⟨m586, em586, hf⟩ := gv_o hf
            refine gg_iast E (fun c hc => gA_in X hc) hM hS (gk_in hg4 (by decide)) hg4 hi585 em586 dX9_readsOrder_269 (fun H locs hM hS => ?_)
            exact ge_v E hr hlocks hf hM hS (Nat.le_of_ble_eq_true rfl) (Nat.le_of_ble_eq_true rfl) dX9_readsOrder_270
        · have hf := g_f h442 hf
          refine lv_iload_n hx hb dX9_readsOrder_37 rfl (lv_at hl 0 rfl) ?_
          refine lv_bipush (v := (104 : Int32)) hx hb dX9_readsOrder_38 (by decide) ?_
          refine lv_icmp_eq (tgt := 47) hx hb dX9_readsOrder_40 (by decide) (fun h587 => ?_) (fun h587 => ?_)
          · have hf := g_t h587 hf
            refine lv_iconst (v := (0 : Int32)) hx hb dX9_readsOrder_47 (by decide) ?_
            obtain ⟨m588, em588, hf⟩ := gv_o hf
            refine PX9_178 E hM hS hk0 (Or.inl rfl) em588 dX9_readsOrder_48 (fun H locs hM hS => ?_)
            refine lv_aload_n hx hb dX9_readsOrder_51 rfl (lv_at hl 1 rfl) ?_
            refine lv_dup hx hb dX9_readsOrder_52 rfl ?_
            refine GX9_175 E hM hk0 dX9_readsOrder_53 ?_
            refine lv_aload_n hx hb dX9_readsOrder_56 rfl (lv_at hl 1 rfl) ?_
            refine GX9_178 E hM hk0 dX9_readsOrder_57 ?_
            refine lv_if_eq (tgt := 67) hx hb dX9_readsOrder_60 (by decide) (fun h589 => ?_) (fun h589 => ?_)
            · have hf := g_t h589 hf
              refine lv_iconst (v := (1 : Int32)) hx hb dX9_readsOrder_67 (by decide) ?_
              refine lv_iadd hx hb dX9_readsOrder_68 ?_
              obtain ⟨m590, em590, hf⟩ := gv_o hf
              refine PX9_175 E hM hS hk0 em590 dX9_readsOrder_69 (fun H locs hM hS => ?_)
              refine lv_iload_n hx hb dX9_readsOrder_72 rfl (lv_at hl 0 rfl) ?_
              by_cases h592 : r3 = (98 : Int32)
              · have hf := g_t h592 hf
                refine lv_lookup (tgt := 116) (off := 43) hx hb dX9_readsOrder_73 (by decide) (by rw [h592]; decide) (by decide) ?_
                refine lv_aload_n hx hb dX9_readsOrder_116 rfl (lv_at hl 1 rfl) ?_
                refine GX9_30 E hM hk0 dX9_readsOrder_117 ?_
                refine lv_iload_n hx hb dX9_readsOrder_120 rfl (lv_at hl 2 rfl) ?_
                refine lv_iconst (v := (1 : Int32)) hx hb dX9_readsOrder_121 (by decide) ?_
                refine lv_iadd hx hb dX9_readsOrder_122 ?_
                refine lv_aload_n hx hb dX9_readsOrder_123 rfl (lv_at hl 1 rfl) ?_
                obtain ⟨r595, m593, hqq594, hf⟩ := g1_o hf
                refine ga_i (gr_V (As := []) (ci := 9) (rm := { frames := 1, cells := 0, slots := 0, locals := 22 }) E hml hl.1 (c_X9_digit l X c0 m590 hk0 hqq594) wt_X9_digit wl_RX9_184 rfl hk0 (by decide) rfl rfl hM hS rfl rfl (Nat.le_trans (by decide) hRf) (Nat.le_trans (by decide) hRl) (Nat.le_trans (Nat.le_of_ble_eq_true rfl) hRc) (Nat.le_trans (Nat.le_of_ble_eq_true rfl) hRs) (Nat.le_of_ble_eq_true rfl) dX9_readsOrder_124 rfl) hS (fun H locs hM hS => ?_)
                obtain ⟨hi596, hf⟩ := g_ck hf
                obtain ⟨m597, em597, hf⟩ := gv_o hf
                refine gg_iast E (fun c hc => gA_in X hc) hM hS (gk_in hg4 (by decide)) hg4 hi596 em597 dX9_readsOrder_127 (fun H locs hM hS => ?_)
                refine lv_aload_n hx hb dX9_readsOrder_128 rfl (lv_at hl 1 rfl) ?_
                refine lv_bipush (v := (43 : Int32)) hx hb dX9_readsOrder_129 (by decide) ?_
                obtain ⟨r600, m598, hqq599, hf⟩ := g1_o hf
                refine ga_v (gr_V (As := [.int (43 : Int32)]) (ci := 9) (rm := { frames := 1, cells := 0, slots := 0, locals := 20 }) E hml hl.1 (c_X9_between l X c0 (43 : Int32) m597 hk0 hqq599) wt_X9_between wl_RX9_187 rfl hk0 (by decide) rfl rfl hM hS rfl rfl (Nat.le_trans (by decide) hRf) (Nat.le_trans (by decide) hRl) (Nat.le_trans (Nat.le_of_ble_eq_true rfl) hRc) (Nat.le_trans (Nat.le_of_ble_eq_true rfl) hRs) (Nat.le_of_ble_eq_true rfl) dX9_readsOrder_131 rfl) hS (fun H locs hM hS => ?_)
                refine lv_aload_n hx hb dX9_readsOrder_134 rfl (lv_at hl 1 rfl) ?_
                refine GX9_30 E hM hk0 dX9_readsOrder_135 ?_
                refine lv_iload_n hx hb dX9_readsOrder_138 rfl (lv_at hl 2 rfl) ?_
                refine lv_iconst (v := (2 : Int32)) hx hb dX9_readsOrder_139 (by decide) ?_
                refine lv_iadd hx hb dX9_readsOrder_140 ?_
                refine lv_aload_n hx hb dX9_readsOrder_141 rfl (lv_at hl 1 rfl) ?_
                obtain ⟨r603, m601, hqq602, hf⟩ := g1_o hf
                refine ga_i (gr_V (As := []) (ci := 9) (rm := { frames := 2, cells := 0, slots := 0, locals := 43 }) E hml hl.1 (c_X9_number l X c0 m598 hk0 hqq602) wt_X9_number wl_RX9_190 rfl hk0 (by decide) rfl rfl hM hS rfl rfl (Nat.le_trans (by decide) hRf) (Nat.le_trans (by decide) hRl) (Nat.le_trans (Nat.le_of_ble_eq_true rfl) hRc) (Nat.le_trans (Nat.le_of_ble_eq_true rfl) hRs) (Nat.le_of_ble_eq_true rfl) dX9_readsOrder_142 rfl) hS (fun H locs hM hS => ?_)
                obtain ⟨hi604, hf⟩ := g_ck hf
                obtain ⟨m605, em605, hf⟩ := gv_o hf
                refine gg_iast E (fun c hc => gA_in X hc) hM hS (gk_in hg4 (by decide)) hg4 hi604 em605 dX9_readsOrder_145 (fun H locs hM hS => ?_)
                exact ge_v E hr hlocks hf hM hS (Nat.le_of_ble_eq_true rfl) (Nat.le_of_ble_eq_true rfl) dX9_readsOrder_146
              have hf := g_f h592 hf
              by_cases h606 : r3 = (108 : Int32)
              · have hf := g_t h606 hf
                refine lv_lookup (tgt := 147) (off := 74) hx hb dX9_readsOrder_73 (by decide) (by rw [h606]; decide) (by decide) ?_
                refine lv_aload_n hx hb dX9_readsOrder_147 rfl (lv_at hl 1 rfl) ?_
                refine GX9_30 E hM hk0 dX9_readsOrder_148 ?_
                refine lv_iload_n hx hb dX9_readsOrder_151 rfl (lv_at hl 2 rfl) ?_
                refine lv_iconst (v := (1 : Int32)) hx hb dX9_readsOrder_152 (by decide) ?_
                refine lv_iadd hx hb dX9_readsOrder_153 ?_
                refine lv_aload_n hx hb dX9_readsOrder_154 rfl (lv_at hl 1 rfl) ?_
                obtain ⟨r609, m607, hqq608, hf⟩ := g1_o hf
                refine ga_i (gr_V (As := []) (ci := 9) (rm := { frames := 1, cells := 0, slots := 0, locals := 22 }) E hml hl.1 (c_X9_digit l X c0 m590 hk0 hqq608) wt_X9_digit wl_RX9_184 rfl hk0 (by decide) rfl rfl hM hS rfl rfl (Nat.le_trans (by decide) hRf) (Nat.le_trans (by decide) hRl) (Nat.le_trans (Nat.le_of_ble_eq_true rfl) hRc) (Nat.le_trans (Nat.le_of_ble_eq_true rfl) hRs) (Nat.le_of_ble_eq_true rfl) dX9_readsOrder_155 rfl) hS (fun H locs hM hS => ?_)
                obtain ⟨hi610, hf⟩ := g_ck hf
                obtain ⟨m611, em611, hf⟩ := gv_o hf
                refine gg_iast E (fun c hc => gA_in X hc) hM hS (gk_in hg4 (by decide)) hg4 hi610 em611 dX9_readsOrder_158 (fun H locs hM hS => ?_)
                refine lv_aload_n hx hb dX9_readsOrder_159 rfl (lv_at hl 1 rfl) ?_
                refine lv_bipush (v := (47 : Int32)) hx hb dX9_readsOrder_160 (by decide) ?_
                obtain ⟨r614, m612, hqq613, hf⟩ := g1_o hf
                refine ga_v (gr_V (As := [.int (47 : Int32)]) (ci := 9) (rm := { frames := 1, cells := 0, slots := 0, locals := 20 }) E hml hl.1 (c_X9_between l X c0 (47 : Int32) m611 hk0 hqq613) wt_X9_between wl_RX9_187 rfl hk0 (by decide) rfl rfl hM hS rfl rfl (Nat.le_trans (by decide) hRf) (Nat.le_trans (by decide) hRl) (Nat.le_trans (Nat.le_of_ble_eq_true rfl) hRc) (Nat.le_trans (Nat.le_of_ble_eq_true rfl) hRs) (Nat.le_of_ble_eq_true rfl) dX9_readsOrder_162 rfl) hS (fun H locs hM hS => ?_)
                refine lv_aload_n hx hb dX9_readsOrder_165 rfl (lv_at hl 1 rfl) ?_
                refine GX9_30 E hM hk0 dX9_readsOrder_166 ?_
                refine lv_iload_n hx hb dX9_readsOrder_169 rfl (lv_at hl 2 rfl) ?_
                refine lv_iconst (v := (2 : Int32)) hx hb dX9_readsOrder_170 (by decide) ?_
                refine lv_iadd hx hb dX9_readsOrder_171 ?_
                refine lv_aload_n hx hb dX9_readsOrder_172 rfl (lv_at hl 1 rfl) ?_
                obtain ⟨r617, m615, hqq616, hf⟩ := g1_o hf
                refine ga_i (gr_V (As := []) (ci := 9) (rm := { frames := 1, cells := 0, slots := 0, locals := 22 }) E hml hl.1 (c_X9_digit l X c0 m612 hk0 hqq616) wt_X9_digit wl_RX9_184 rfl hk0 (by decide) rfl rfl hM hS rfl rfl (Nat.le_trans (by decide) hRf) (Nat.le_trans (by decide) hRl) (Nat.le_trans (Nat.le_of_ble_eq_true rfl) hRc) (Nat.le_trans (Nat.le_of_ble_eq_true rfl) hRs) (Nat.le_of_ble_eq_true rfl) dX9_readsOrder_173 rfl) hS (fun H locs hM hS => ?_)
                obtain ⟨hi618, hf⟩ := g_ck hf
                obtain ⟨m619, em619, hf⟩ := gv_o hf
                refine gg_iast E (fun c hc => gA_in X hc) hM hS (gk_in hg4 (by decide)) hg4 hi618 em619 dX9_readsOrder_176 (fun H locs hM hS => ?_)
                refine lv_aload_n hx hb dX9_readsOrder_177 rfl (lv_at hl 1 rfl) ?_
                refine lv_bipush (v := (58 : Int32)) hx hb dX9_readsOrder_178 (by decide) ?_
                obtain ⟨r622, m620, hqq621, hf⟩ := g1_o hf
                refine ga_v (gr_V (As := [.int (58 : Int32)]) (ci := 9) (rm := { frames := 1, cells := 0, slots := 0, locals := 20 }) E hml hl.1 (c_X9_between l X c0 (58 : Int32) m619 hk0 hqq621) wt_X9_between wl_RX9_187 rfl hk0 (by decide) rfl rfl hM hS rfl rfl (Nat.le_trans (by decide) hRf) (Nat.le_trans (by decide) hRl) (Nat.le_trans (Nat.le_of_ble_eq_true rfl) hRc) (Nat.le_trans (Nat.le_of_ble_eq_true rfl) hRs) (Nat.le_of_ble_eq_true rfl) dX9_readsOrder_180 rfl) hS (fun H locs hM hS => ?_)
                refine lv_aload_n hx hb dX9_readsOrder_183 rfl (lv_at hl 1 rfl) ?_
                refine GX9_30 E hM hk0 dX9_readsOrder_184 ?_
                refine lv_iload_n hx hb dX9_readsOrder_187 rfl (lv_at hl 2 rfl) ?_
                refine lv_iconst (v := (3 : Int32)) hx hb dX9_readsOrder_188 (by decide) ?_
                refine lv_iadd hx hb dX9_readsOrder_189 ?_
                refine lv_aload_n hx hb dX9_readsOrder_190 rfl (lv_at hl 1 rfl) ?_
                obtain ⟨r625, m623, hqq624, hf⟩ := g1_o hf
                refine ga_i (gr_V (As := []) (ci := 9) (rm := { frames := 1, cells := 0, slots := 0, locals := 22 }) E hml hl.1 (c_X9_digit l X c0 m620 hk0 hqq624) wt_X9_digit wl_RX9_184 rfl hk0 (by decide) rfl rfl hM hS rfl rfl (Nat.le_trans (by decide) hRf) (Nat.le_trans (by decide) hRl) (Nat.le_trans (Nat.le_of_ble_eq_true rfl) hRc) (Nat.le_trans (Nat.le_of_ble_eq_true rfl) hRs) (Nat.le_of_ble_eq_true rfl) dX9_readsOrder_191 rfl) hS (fun H locs hM hS => ?_)
                obtain ⟨hi626, hf⟩ := g_ck hf
                obtain ⟨m627, em627, hf⟩ := gv_o hf
                refine gg_iast E (fun c hc => gA_in X hc) hM hS (gk_in hg4 (by decide)) hg4 hi626 em627 dX9_readsOrder_194 (fun H locs hM hS => ?_)
                refine lv_aload_n hx hb dX9_readsOrder_195 rfl (lv_at hl 1 rfl) ?_
                refine lv_bipush (v := (42 : Int32)) hx hb dX9_readsOrder_196 (by decide) ?_
                obtain ⟨r630, m628, hqq629, hf⟩ := g1_o hf
                refine ga_v (gr_V (As := [.int (42 : Int32)]) (ci := 9) (rm := { frames := 1, cells := 0, slots := 0, locals := 20 }) E hml hl.1 (c_X9_between l X c0 (42 : Int32) m627 hk0 hqq629) wt_X9_between wl_RX9_187 rfl hk0 (by decide) rfl rfl hM hS rfl rfl (Nat.le_trans (by decide) hRf) (Nat.le_trans (by decide) hRl) (Nat.le_trans (Nat.le_of_ble_eq_true rfl) hRc) (Nat.le_trans (Nat.le_of_ble_eq_true rfl) hRs) (Nat.le_of_ble_eq_true rfl) dX9_readsOrder_198 rfl) hS (fun H locs hM hS => ?_)
                refine lv_aload_n hx hb dX9_readsOrder_201 rfl (lv_at hl 1 rfl) ?_
                refine GX9_30 E hM hk0 dX9_readsOrder_202 ?_
                refine lv_iload_n hx hb dX9_readsOrder_205 rfl (lv_at hl 2 rfl) ?_
                refine lv_iconst (v := (4 : Int32)) hx hb dX9_readsOrder_206 (by decide) ?_
                refine lv_iadd hx hb dX9_readsOrder_207 ?_
                refine lv_aload_n hx hb dX9_readsOrder_208 rfl (lv_at hl 1 rfl) ?_
                obtain ⟨r633, m631, hqq632, hf⟩ := g1_o hf
                refine ga_i (gr_V (As := []) (ci := 9) (rm := { frames := 2, cells := 0, slots := 0, locals := 43 }) E hml hl.1 (c_X9_number l X c0 m628 hk0 hqq632) wt_X9_number wl_RX9_190 rfl hk0 (by decide) rfl rfl hM hS rfl rfl (Nat.le_trans (by decide) hRf) (Nat.le_trans (by decide) hRl) (Nat.le_trans (Nat.le_of_ble_eq_true rfl) hRc) (Nat.le_trans (Nat.le_of_ble_eq_true rfl) hRs) (Nat.le_of_ble_eq_true rfl) dX9_readsOrder_209 rfl) hS (fun H locs hM hS => ?_)
                obtain ⟨hi634, hf⟩ := g_ck hf
                obtain ⟨m635, em635, hf⟩ := gv_o hf
                refine gg_iast E (fun c hc => gA_in X hc) hM hS (gk_in hg4 (by decide)) hg4 hi634 em635 dX9_readsOrder_212 (fun H locs hM hS => ?_)
                exact ge_v E hr hlocks hf hM hS (Nat.le_of_ble_eq_true rfl) (Nat.le_of_ble_eq_true rfl) dX9_readsOrder_213
              have hf := g_f h606 hf
              by_cases h636 : r3 = (115 : Int32)
              · have hf := g_t h636 hf
                refine lv_lookup (tgt := 214) (off := 141) hx hb dX9_readsOrder_73 (by decide) (by rw [h636]; decide) (by decide) ?_
                refine lv_aload_n hx hb dX9_readsOrder_214 rfl (lv_at hl 1 rfl) ?_
                refine GX9_30 E hM hk0 dX9_readsOrder_215 ?_
                refine lv_iload_n hx hb dX9_readsOrder_218 rfl (lv_at hl 2 rfl) ?_
                refine lv_iconst (v := (1 : Int32)) hx hb dX9_readsOrder_219 (by decide) ?_
                refine lv_iadd hx hb dX9_readsOrder_220 ?_
                refine lv_aload_n hx hb dX9_readsOrder_221 rfl (lv_at hl 1 rfl) ?_
                obtain ⟨r639, m637, hqq638, hf⟩ := g1_o hf
                refine ga_i (gr_V (As := []) (ci := 9) (rm := { frames := 2, cells := 0, slots := 0, locals := 43 }) E hml hl.1 (c_X9_number l X c0 m590 hk0 hqq638) wt_X9_number wl_RX9_190 rfl hk0 (by decide) rfl rfl hM hS rfl rfl (Nat.le_trans (by decide) hRf) (Nat.le_trans (by decide) hRl) (Nat.le_trans (Nat.le_of_ble_eq_true rfl) hRc) (Nat.le_trans (Nat.le_of_ble_eq_true rfl) hRs) (Nat.le_of_ble_eq_true rfl) dX9_readsOrder_222 rfl) hS (fun H locs hM hS => ?_)
                obtain ⟨hi640, hf⟩ := g_ck hf
                obtain ⟨m641, em641, hf⟩ := gv_o hf
                refine gg_iast E (fun c hc => gA_in X hc) hM hS (gk_in hg4 (by decide)) hg4 hi640 em641 dX9_readsOrder_225 (fun H locs hM hS => ?_)
                refine lv_aload_n hx hb dX9_readsOrder_226 rfl (lv_at hl 1 rfl) ?_
                refine lv_bipush (v := (64 : Int32)) hx hb dX9_readsOrder_227 (by decide) ?_
                obtain ⟨r644, m642, hqq643, hf⟩ := g1_o hf
                refine ga_v (gr_V (As := [.int (64 : Int32)]) (ci := 9) (rm := { frames := 1, cells := 0, slots := 0, locals := 20 }) E hml hl.1 (c_X9_between l X c0 (64 : Int32) m641 hk0 hqq643) wt_X9_between wl_RX9_187 rfl hk0 (by decide) rfl rfl hM hS rfl rfl (Nat.le_trans (by decide) hRf) (Nat.le_trans (by decide) hRl) (Nat.le_trans (Nat.le_of_ble_eq_true rfl) hRc) (Nat.le_trans (Nat.le_of_ble_eq_true rfl) hRs) (Nat.le_of_ble_eq_true rfl) dX9_readsOrder_229 rfl) hS (fun H locs hM hS => ?_)
                refine lv_aload_n hx hb dX9_readsOrder_232 rfl (lv_at hl 1 rfl) ?_
                refine GX9_30 E hM hk0 dX9_readsOrder_233 ?_
                refine lv_iload_n hx hb dX9_readsOrder_236 rfl (lv_at hl 2 rfl) ?_
                refine lv_iconst (v := (2 : Int32)) hx hb dX9_readsOrder_237 (by decide) ?_
                refine lv_iadd hx hb dX9_readsOrder_238 ?_
                refine lv_aload_n hx hb dX9_readsOrder_239 rfl (lv_at hl 1 rfl) ?_
                obtain ⟨r647, m645, hqq646, hf⟩ := g1_o hf
                refine ga_i (gr_V (As := []) (ci := 9) (rm := { frames := 1, cells := 0, slots := 0, locals := 22 }) E hml hl.1 (c_X9_digit l X c0 m642 hk0 hqq646) wt_X9_digit wl_RX9_184 rfl hk0 (by decide) rfl rfl hM hS rfl rfl (Nat.le_trans (by decide) hRf) (Nat.le_trans (by decide) hRl) (Nat.le_trans (Nat.le_of_ble_eq_true rfl) hRc) (Nat.le_trans (Nat.le_of_ble_eq_true rfl) hRs) (Nat.le_of_ble_eq_true rfl) dX9_readsOrder_240 rfl) hS (fun H locs hM hS => ?_)
                obtain ⟨hi648, hf⟩ := g_ck hf
                obtain ⟨m649, em649, hf⟩ := gv_o hf
                refine gg_iast E (fun c hc => gA_in X hc) hM hS (gk_in hg4 (by decide)) hg4 hi648 em649 dX9_readsOrder_243 (fun H locs hM hS => ?_)
                exact ge_v E hr hlocks hf hM hS (Nat.le_of_ble_eq_true rfl) (Nat.le_of_ble_eq_true rfl) dX9_readsOrder_244
              have hf := g_f h636 hf
              by_cases h650 : r3 = (116 : Int32)
              · have hf := g_t h650 hf
                refine lv_lookup (tgt := 245) (off := 172) hx hb dX9_readsOrder_73 (by decide) (by rw [h650]; decide) (by decide) ?_
                refine lv_aload_n hx hb dX9_readsOrder_245 rfl (lv_at hl 1 rfl) ?_
                refine GX9_30 E hM hk0 dX9_readsOrder_246 ?_
                refine lv_iload_n hx hb dX9_readsOrder_249 rfl (lv_at hl 2 rfl) ?_
                refine lv_iconst (v := (1 : Int32)) hx hb dX9_readsOrder_250 (by decide) ?_
                refine lv_iadd hx hb dX9_readsOrder_251 ?_
                refine lv_aload_n hx hb dX9_readsOrder_252 rfl (lv_at hl 1 rfl) ?_
                obtain ⟨r653, m651, hqq652, hf⟩ := g1_o hf
                refine ga_i (gr_V (As := []) (ci := 9) (rm := { frames := 1, cells := 0, slots := 0, locals := 22 }) E hml hl.1 (c_X9_digit l X c0 m590 hk0 hqq652) wt_X9_digit wl_RX9_184 rfl hk0 (by decide) rfl rfl hM hS rfl rfl (Nat.le_trans (by decide) hRf) (Nat.le_trans (by decide) hRl) (Nat.le_trans (Nat.le_of_ble_eq_true rfl) hRc) (Nat.le_trans (Nat.le_of_ble_eq_true rfl) hRs) (Nat.le_of_ble_eq_true rfl) dX9_readsOrder_253 rfl) hS (fun H locs hM hS => ?_)
                obtain ⟨hi654, hf⟩ := g_ck hf
                obtain ⟨m655, em655, hf⟩ := gv_o hf
                refine gg_iast E (fun c hc => gA_in X hc) hM hS (gk_in hg4 (by decide)) hg4 hi654 em655 dX9_readsOrder_256 (fun H locs hM hS => ?_)
                exact ge_v E hr hlocks hf hM hS (Nat.le_of_ble_eq_true rfl) (Nat.le_of_ble_eq_true rfl) dX9_readsOrder_257
              have hf := g_f h650 hf
              have ah592 := g_tn (z := 98) h592 rfl
              have ah606 := g_tn (z := 108) h606 rfl
              have ah636 := g_tn (z := 115) h636 rfl
              have ah650 := g_tn (z := 116) h650 rfl
              refine lv_lookup (tgt := 258) (off := 185) hx hb dX9_readsOrder_73 (by decide) (by simp [Op.lookupswitch.offset, ah592, ah606, ah636, ah650]) (by decide) ?_
              refine lv_aload_n hx hb dX9_readsOrder_258 rfl (lv_at hl 1 rfl) ?_
              refine GX9_30 E hM hk0 dX9_readsOrder_259 ?_
              refine lv_iload_n hx hb dX9_readsOrder_262 rfl (lv_at hl 2 rfl) ?_
              refine lv_iconst (v := (1 : Int32)) hx hb dX9_readsOrder_263 (by decide) ?_
              refine lv_iadd hx hb dX9_readsOrder_264 ?_
              refine lv_aload_n hx hb dX9_readsOrder_265 rfl (lv_at hl 1 rfl) ?_
              obtain ⟨r658, m656, hqq657, hf⟩ := g1_o hf
              refine ga_i (gr_V (As := []) (ci := 9) (rm := { frames := 2, cells := 0, slots := 0, locals := 43 }) E hml hl.1 (c_X9_number l X c0 m590 hk0 hqq657) wt_X9_number wl_RX9_190 rfl hk0 (by decide) rfl rfl hM hS rfl rfl (Nat.le_trans (by decide) hRf) (Nat.le_trans (by decide) hRl) (Nat.le_trans (Nat.le_of_ble_eq_true rfl) hRc) (Nat.le_trans (Nat.le_of_ble_eq_true rfl) hRs) (Nat.le_of_ble_eq_true rfl) dX9_readsOrder_266 rfl) hS (fun H locs hM hS => ?_)
              obtain ⟨hi659, hf⟩ := g_ck hf
              obtain ⟨m660, em660, hf⟩ := gv_o hf
              refine gg_iast E (fun c hc => gA_in X hc) hM hS (gk_in hg4 (by decide)) hg4 hi659 em660 dX9_readsOrder_269 (fun H locs hM hS => ?_)
              exact ge_v E hr hlocks hf hM hS (Nat.le_of_ble_eq_true rfl) (Nat.le_of_ble_eq_true rfl) dX9_readsOrder_270
            · have hf := g_f h589 hf
              refine lv_iconst (v := (0 : Int32)) hx hb dX9_readsOrder_63 (by decide) ?_
              refine lv_goto (tgt := 68) hx hb dX9_readsOrder_64 (by decide) ?_
              refine lv_iadd hx hb dX9_readsOrder_68 ?_
              obtain ⟨m661, em661, hf⟩ := gv_o hf
              refine PX9_175 E hM hS hk0 em661 dX9_readsOrder_69 (fun H locs hM hS => ?_)
              refine lv_iload_n hx hb dX9_readsOrder_72 rfl (lv_at hl 0 rfl) ?_
              by_cases h663 : r3 = (98 : Int32)
              · have hf := g_t h663 hf
                refine lv_lookup (tgt := 116) (off := 43) hx hb dX9_readsOrder_73 (by decide) (by rw [h663]; decide) (by decide) ?_
                refine lv_aload_n hx hb dX9_readsOrder_116 rfl (lv_at hl 1 rfl) ?_
                refine GX9_30 E hM hk0 dX9_readsOrder_117 ?_
                refine lv_iload_n hx hb dX9_readsOrder_120 rfl (lv_at hl 2 rfl) ?_
                refine lv_iconst (v := (1 : Int32)) hx hb dX9_readsOrder_121 (by decide) ?_
                refine lv_iadd hx hb dX9_readsOrder_122 ?_
                refine lv_aload_n hx hb dX9_readsOrder_123 rfl (lv_at hl 1 rfl) ?_
                obtain ⟨r666, m664, hqq665, hf⟩ := g1_o hf
                refine ga_i (gr_V (As := []) (ci := 9) (rm := { frames := 1, cells := 0, slots := 0, locals := 22 }) E hml hl.1 (c_X9_digit l X c0 m661 hk0 hqq665) wt_X9_digit wl_RX9_184 rfl hk0 (by decide) rfl rfl hM hS rfl rfl (Nat.le_trans (by decide) hRf) (Nat.le_trans (by decide) hRl) (Nat.le_trans (Nat.le_of_ble_eq_true rfl) hRc) (Nat.le_trans (Nat.le_of_ble_eq_true rfl) hRs) (Nat.le_of_ble_eq_true rfl) dX9_readsOrder_124 rfl) hS (fun H locs hM hS => ?_)
                obtain ⟨hi667, hf⟩ := g_ck hf
                obtain ⟨m668, em668, hf⟩ := gv_o hf
                refine gg_iast E (fun c hc => gA_in X hc) hM hS (gk_in hg4 (by decide)) hg4 hi667 em668 dX9_readsOrder_127 (fun H locs hM hS => ?_)
                refine lv_aload_n hx hb dX9_readsOrder_128 rfl (lv_at hl 1 rfl) ?_
                refine lv_bipush (v := (43 : Int32)) hx hb dX9_readsOrder_129 (by decide) ?_
                obtain ⟨r671, m669, hqq670, hf⟩ := g1_o hf
                refine ga_v (gr_V (As := [.int (43 : Int32)]) (ci := 9) (rm := { frames := 1, cells := 0, slots := 0, locals := 20 }) E hml hl.1 (c_X9_between l X c0 (43 : Int32) m668 hk0 hqq670) wt_X9_between wl_RX9_187 rfl hk0 (by decide) rfl rfl hM hS rfl rfl (Nat.le_trans (by decide) hRf) (Nat.le_trans (by decide) hRl) (Nat.le_trans (Nat.le_of_ble_eq_true rfl) hRc) (Nat.le_trans (Nat.le_of_ble_eq_true rfl) hRs) (Nat.le_of_ble_eq_true rfl) dX9_readsOrder_131 rfl) hS (fun H locs hM hS => ?_)
                refine lv_aload_n hx hb dX9_readsOrder_134 rfl (lv_at hl 1 rfl) ?_
                refine GX9_30 E hM hk0 dX9_readsOrder_135 ?_
                refine lv_iload_n hx hb dX9_readsOrder_138 rfl (lv_at hl 2 rfl) ?_
                refine lv_iconst (v := (2 : Int32)) hx hb dX9_readsOrder_139 (by decide) ?_
                refine lv_iadd hx hb dX9_readsOrder_140 ?_
                refine lv_aload_n hx hb dX9_readsOrder_141 rfl (lv_at hl 1 rfl) ?_
                obtain ⟨r674, m672, hqq673, hf⟩ := g1_o hf
                refine ga_i (gr_V (As := []) (ci := 9) (rm := { frames := 2, cells := 0, slots := 0, locals := 43 }) E hml hl.1 (c_X9_number l X c0 m669 hk0 hqq673) wt_X9_number wl_RX9_190 rfl hk0 (by decide) rfl rfl hM hS rfl rfl (Nat.le_trans (by decide) hRf) (Nat.le_trans (by decide) hRl) (Nat.le_trans (Nat.le_of_ble_eq_true rfl) hRc) (Nat.le_trans (Nat.le_of_ble_eq_true rfl) hRs) (Nat.le_of_ble_eq_true rfl) dX9_readsOrder_142 rfl) hS (fun H locs hM hS => ?_)
                obtain ⟨hi675, hf⟩ := g_ck hf
                obtain ⟨m676, em676, hf⟩ := gv_o hf
                refine gg_iast E (fun c hc => gA_in X hc) hM hS (gk_in hg4 (by decide)) hg4 hi675 em676 dX9_readsOrder_145 (fun H locs hM hS => ?_)
                exact ge_v E hr hlocks hf hM hS (Nat.le_of_ble_eq_true rfl) (Nat.le_of_ble_eq_true rfl) dX9_readsOrder_146
              have hf := g_f h663 hf
              by_cases h677 : r3 = (108 : Int32)
              · have hf := g_t h677 hf
                refine lv_lookup (tgt := 147) (off := 74) hx hb dX9_readsOrder_73 (by decide) (by rw [h677]; decide) (by decide) ?_
                refine lv_aload_n hx hb dX9_readsOrder_147 rfl (lv_at hl 1 rfl) ?_
                refine GX9_30 E hM hk0 dX9_readsOrder_148 ?_
                refine lv_iload_n hx hb dX9_readsOrder_151 rfl (lv_at hl 2 rfl) ?_
                refine lv_iconst (v := (1 : Int32)) hx hb dX9_readsOrder_152 (by decide) ?_
                refine lv_iadd hx hb dX9_readsOrder_153 ?_
                refine lv_aload_n hx hb dX9_readsOrder_154 rfl (lv_at hl 1 rfl) ?_
                obtain ⟨r680, m678, hqq679, hf⟩ := g1_o hf
                refine ga_i (gr_V (As := []) (ci := 9) (rm := { frames := 1, cells := 0, slots := 0, locals := 22 }) E hml hl.1 (c_X9_digit l X c0 m661 hk0 hqq679) wt_X9_digit wl_RX9_184 rfl hk0 (by decide) rfl rfl hM hS rfl rfl (Nat.le_trans (by decide) hRf) (Nat.le_trans (by decide) hRl) (Nat.le_trans (Nat.le_of_ble_eq_true rfl) hRc) (Nat.le_trans (Nat.le_of_ble_eq_true rfl) hRs) (Nat.le_of_ble_eq_true rfl) dX9_readsOrder_155 rfl) hS (fun H locs hM hS => ?_)
                obtain ⟨hi681, hf⟩ := g_ck hf
                obtain ⟨m682, em682, hf⟩ := gv_o hf
                refine gg_iast E (fun c hc => gA_in X hc) hM hS (gk_in hg4 (by decide)) hg4 hi681 em682 dX9_readsOrder_158 (fun H locs hM hS => ?_)
                refine lv_aload_n hx hb dX9_readsOrder_159 rfl (lv_at hl 1 rfl) ?_
                refine lv_bipush (v := (47 : Int32)) hx hb dX9_readsOrder_160 (by decide) ?_
                obtain ⟨r685, m683, hqq684, hf⟩ := g1_o hf
                refine ga_v (gr_V (As := [.int (47 : Int32)]) (ci := 9) (rm := { frames := 1, cells := 0, slots := 0, locals := 20 }) E hml hl.1 (c_X9_between l X c0 (47 : Int32) m682 hk0 hqq684) wt_X9_between wl_RX9_187 rfl hk0 (by decide) rfl rfl hM hS rfl rfl (Nat.le_trans (by decide) hRf) (Nat.le_trans (by decide) hRl) (Nat.le_trans (Nat.le_of_ble_eq_true rfl) hRc) (Nat.le_trans (Nat.le_of_ble_eq_true rfl) hRs) (Nat.le_of_ble_eq_true rfl) dX9_readsOrder_162 rfl) hS (fun H locs hM hS => ?_)
                refine lv_aload_n hx hb dX9_readsOrder_165 rfl (lv_at hl 1 rfl) ?_
                refine GX9_30 E hM hk0 dX9_readsOrder_166 ?_
                refine lv_iload_n hx hb dX9_readsOrder_169 rfl (lv_at hl 2 rfl) ?_
                refine lv_iconst (v := (2 : Int32)) hx hb dX9_readsOrder_170 (by decide) ?_
                refine lv_iadd hx hb dX9_readsOrder_171 ?_
                refine lv_aload_n hx hb dX9_readsOrder_172 rfl (lv_at hl 1 rfl) ?_
                obtain ⟨r688, m686, hqq687, hf⟩ := g1_o hf
                refine ga_i (gr_V (As := []) (ci := 9) (rm := { frames := 1, cells := 0, slots := 0, locals := 22 }) E hml hl.1 (c_X9_digit l X c0 m683 hk0 hqq687) wt_X9_digit wl_RX9_184 rfl hk0 (by decide) rfl rfl hM hS rfl rfl (Nat.le_trans (by decide) hRf) (Nat.le_trans (by decide) hRl) (Nat.le_trans (Nat.le_of_ble_eq_true rfl) hRc) (Nat.le_trans (Nat.le_of_ble_eq_true rfl) hRs) (Nat.le_of_ble_eq_true rfl) dX9_readsOrder_173 rfl) hS (fun H locs hM hS => ?_)
                obtain ⟨hi689, hf⟩ := g_ck hf
                obtain ⟨m690, em690, hf⟩ := gv_o hf
                refine gg_iast E (fun c hc => gA_in X hc) hM hS (gk_in hg4 (by decide)) hg4 hi689 em690 dX9_readsOrder_176 (fun H locs hM hS => ?_)
                refine lv_aload_n hx hb dX9_readsOrder_177 rfl (lv_at hl 1 rfl) ?_
                refine lv_bipush (v := (58 : Int32)) hx hb dX9_readsOrder_178 (by decide) ?_
                obtain ⟨r693, m691, hqq692, hf⟩ := g1_o hf
                refine ga_v (gr_V (As := [.int (58 : Int32)]) (ci := 9) (rm := { frames := 1, cells := 0, slots := 0, locals := 20 }) E hml hl.1 (c_X9_between l X c0 (58 : Int32) m690 hk0 hqq692) wt_X9_between wl_RX9_187 rfl hk0 (by decide) rfl rfl hM hS rfl rfl (Nat.le_trans (by decide) hRf) (Nat.le_trans (by decide) hRl) (Nat.le_trans (Nat.le_of_ble_eq_true rfl) hRc) (Nat.le_trans (Nat.le_of_ble_eq_true rfl) hRs) (Nat.le_of_ble_eq_true rfl) dX9_readsOrder_180 rfl) hS (fun H locs hM hS => ?_)
                refine lv_aload_n hx hb dX9_readsOrder_183 rfl (lv_at hl 1 rfl) ?_
                refine GX9_30 E hM hk0 dX9_readsOrder_184 ?_
                refine lv_iload_n hx hb dX9_readsOrder_187 rfl (lv_at hl 2 rfl) ?_
                refine lv_iconst (v := (3 : Int32)) hx hb dX9_readsOrder_188 (by decide) ?_
                refine lv_iadd hx hb dX9_readsOrder_189 ?_
                refine lv_aload_n hx hb dX9_readsOrder_190 rfl (lv_at hl 1 rfl) ?_
                obtain ⟨r696, m694, hqq695, hf⟩ := g1_o hf
                refine ga_i (gr_V (As := []) (ci := 9) (rm := { frames := 1, cells := 0, slots := 0, locals := 22 }) E hml hl.1 (c_X9_digit l X c0 m691 hk0 hqq695) wt_X9_digit wl_RX9_184 rfl hk0 (by decide) rfl rfl hM hS rfl rfl (Nat.le_trans (by decide) hRf) (Nat.le_trans (by decide) hRl) (Nat.le_trans (Nat.le_of_ble_eq_true rfl) hRc) (Nat.le_trans (Nat.le_of_ble_eq_true rfl) hRs) (Nat.le_of_ble_eq_true rfl) dX9_readsOrder_191 rfl) hS (fun H locs hM hS => ?_)
                obtain ⟨hi697, hf⟩ := g_ck hf
                obtain ⟨m698, em698, hf⟩ := gv_o hf
                refine gg_iast E (fun c hc => gA_in X hc) hM hS (gk_in hg4 (by decide)) hg4 hi697 em698 dX9_readsOrder_194 (fun H locs hM hS => ?_)
                refine lv_aload_n hx hb dX9_readsOrder_195 rfl (lv_at hl 1 rfl) ?_
                refine lv_bipush (v := (42 : Int32)) hx hb dX9_readsOrder_196 (by decide) ?_
                obtain ⟨r701, m699, hqq700, hf⟩ := g1_o hf
                refine ga_v (gr_V (As := [.int (42 : Int32)]) (ci := 9) (rm := { frames := 1, cells := 0, slots := 0, locals := 20 }) E hml hl.1 (c_X9_between l X c0 (42 : Int32) m698 hk0 hqq700) wt_X9_between wl_RX9_187 rfl hk0 (by decide) rfl rfl hM hS rfl rfl (Nat.le_trans (by decide) hRf) (Nat.le_trans (by decide) hRl) (Nat.le_trans (Nat.le_of_ble_eq_true rfl) hRc) (Nat.le_trans (Nat.le_of_ble_eq_true rfl) hRs) (Nat.le_of_ble_eq_true rfl) dX9_readsOrder_198 rfl) hS (fun H locs hM hS => ?_)
                refine lv_aload_n hx hb dX9_readsOrder_201 rfl (lv_at hl 1 rfl) ?_
                refine GX9_30 E hM hk0 dX9_readsOrder_202 ?_
                refine lv_iload_n hx hb dX9_readsOrder_205 rfl (lv_at hl 2 rfl) ?_
                refine lv_iconst (v := (4 : Int32)) hx hb dX9_readsOrder_206 (by decide) ?_
                refine lv_iadd hx hb dX9_readsOrder_207 ?_
                refine lv_aload_n hx hb dX9_readsOrder_208 rfl (lv_at hl 1 rfl) ?_
                obtain ⟨r704, m702, hqq703, hf⟩ := g1_o hf
                refine ga_i (gr_V (As := []) (ci := 9) (rm := { frames := 2, cells := 0, slots := 0, locals := 43 }) E hml hl.1 (c_X9_number l X c0 m699 hk0 hqq703) wt_X9_number wl_RX9_190 rfl hk0 (by decide) rfl rfl hM hS rfl rfl (Nat.le_trans (by decide) hRf) (Nat.le_trans (by decide) hRl) (Nat.le_trans (Nat.le_of_ble_eq_true rfl) hRc) (Nat.le_trans (Nat.le_of_ble_eq_true rfl) hRs) (Nat.le_of_ble_eq_true rfl) dX9_readsOrder_209 rfl) hS (fun H locs hM hS => ?_)
                obtain ⟨hi705, hf⟩ := g_ck hf
                obtain ⟨m706, em706, hf⟩ := gv_o hf
                refine gg_iast E (fun c hc => gA_in X hc) hM hS (gk_in hg4 (by decide)) hg4 hi705 em706 dX9_readsOrder_212 (fun H locs hM hS => ?_)
                exact ge_v E hr hlocks hf hM hS (Nat.le_of_ble_eq_true rfl) (Nat.le_of_ble_eq_true rfl) dX9_readsOrder_213
              have hf := g_f h677 hf
              by_cases h707 : r3 = (115 : Int32)
              · have hf := g_t h707 hf
                refine lv_lookup (tgt := 214) (off := 141) hx hb dX9_readsOrder_73 (by decide) (by rw [h707]; decide) (by decide) ?_
                refine lv_aload_n hx hb dX9_readsOrder_214 rfl (lv_at hl 1 rfl) ?_
                refine GX9_30 E hM hk0 dX9_readsOrder_215 ?_
                refine lv_iload_n hx hb dX9_readsOrder_218 rfl (lv_at hl 2 rfl) ?_
                refine lv_iconst (v := (1 : Int32)) hx hb dX9_readsOrder_219 (by decide) ?_
                refine lv_iadd hx hb dX9_readsOrder_220 ?_
                refine lv_aload_n hx hb dX9_readsOrder_221 rfl (lv_at hl 1 rfl) ?_
                obtain ⟨r710, m708, hqq709, hf⟩ := g1_o hf
                refine ga_i (gr_V (As := []) (ci := 9) (rm := { frames := 2, cells := 0, slots := 0, locals := 43 }) E hml hl.1 (c_X9_number l X c0 m661 hk0 hqq709) wt_X9_number wl_RX9_190 rfl hk0 (by decide) rfl rfl hM hS rfl rfl (Nat.le_trans (by decide) hRf) (Nat.le_trans (by decide) hRl) (Nat.le_trans (Nat.le_of_ble_eq_true rfl) hRc) (Nat.le_trans (Nat.le_of_ble_eq_true rfl) hRs) (Nat.le_of_ble_eq_true rfl) dX9_readsOrder_222 rfl) hS (fun H locs hM hS => ?_)
                obtain ⟨hi711, hf⟩ := g_ck hf
                obtain ⟨m712, em712, hf⟩ := gv_o hf
                refine gg_iast E (fun c hc => gA_in X hc) hM hS (gk_in hg4 (by decide)) hg4 hi711 em712 dX9_readsOrder_225 (fun H locs hM hS => ?_)
                refine lv_aload_n hx hb dX9_readsOrder_226 rfl (lv_at hl 1 rfl) ?_
                refine lv_bipush (v := (64 : Int32)) hx hb dX9_readsOrder_227 (by decide) ?_
                obtain ⟨r715, m713, hqq714, hf⟩ := g1_o hf
                refine ga_v (gr_V (As := [.int (64 : Int32)]) (ci := 9) (rm := { frames := 1, cells := 0, slots := 0, locals := 20 }) E hml hl.1 (c_X9_between l X c0 (64 : Int32) m712 hk0 hqq714) wt_X9_between wl_RX9_187 rfl hk0 (by decide) rfl rfl hM hS rfl rfl (Nat.le_trans (by decide) hRf) (Nat.le_trans (by decide) hRl) (Nat.le_trans (Nat.le_of_ble_eq_true rfl) hRc) (Nat.le_trans (Nat.le_of_ble_eq_true rfl) hRs) (Nat.le_of_ble_eq_true rfl) dX9_readsOrder_229 rfl) hS (fun H locs hM hS => ?_)
                refine lv_aload_n hx hb dX9_readsOrder_232 rfl (lv_at hl 1 rfl) ?_
                refine GX9_30 E hM hk0 dX9_readsOrder_233 ?_
                refine lv_iload_n hx hb dX9_readsOrder_236 rfl (lv_at hl 2 rfl) ?_
                refine lv_iconst (v := (2 : Int32)) hx hb dX9_readsOrder_237 (by decide) ?_
                refine lv_iadd hx hb dX9_readsOrder_238 ?_
                refine lv_aload_n hx hb dX9_readsOrder_239 rfl (lv_at hl 1 rfl) ?_
                obtain ⟨r718, m716, hqq717, hf⟩ := g1_o hf
                refine ga_i (gr_V (As := []) (ci := 9) (rm := { frames := 1, cells := 0, slots := 0, locals := 22 }) E hml hl.1 (c_X9_digit l X c0 m713 hk0 hqq717) wt_X9_digit wl_RX9_184 rfl hk0 (by decide) rfl rfl hM hS rfl rfl (Nat.le_trans (by decide) hRf) (Nat.le_trans (by decide) hRl) (Nat.le_trans (Nat.le_of_ble_eq_true rfl) hRc) (Nat.le_trans (Nat.le_of_ble_eq_true rfl) hRs) (Nat.le_of_ble_eq_true rfl) dX9_readsOrder_240 rfl) hS (fun H locs hM hS => ?_)
                obtain ⟨hi719, hf⟩ := g_ck hf
                obtain ⟨m720, em720, hf⟩ := gv_o hf
                refine gg_iast E (fun c hc => gA_in X hc) hM hS (gk_in hg4 (by decide)) hg4 hi719 em720 dX9_readsOrder_243 (fun H locs hM hS => ?_)
                exact ge_v E hr hlocks hf hM hS (Nat.le_of_ble_eq_true rfl) (Nat.le_of_ble_eq_true rfl) dX9_readsOrder_244
              have hf := g_f h707 hf
              by_cases h721 : r3 = (116 : Int32)
              · have hf := g_t h721 hf
                refine lv_lookup (tgt := 245) (off := 172) hx hb dX9_readsOrder_73 (by decide) (by rw [h721]; decide) (by decide) ?_
                refine lv_aload_n hx hb dX9_readsOrder_245 rfl (lv_at hl 1 rfl) ?_
                refine GX9_30 E hM hk0 dX9_readsOrder_246 ?_
                refine lv_iload_n hx hb dX9_readsOrder_249 rfl (lv_at hl 2 rfl) ?_
                refine lv_iconst (v := (1 : Int32)) hx hb dX9_readsOrder_250 (by decide) ?_
                refine lv_iadd hx hb dX9_readsOrder_251 ?_
                refine lv_aload_n hx hb dX9_readsOrder_252 rfl (lv_at hl 1 rfl) ?_
                obtain ⟨r724, m722, hqq723, hf⟩ := g1_o hf
                refine ga_i (gr_V (As := []) (ci := 9) (rm := { frames := 1, cells := 0, slots := 0, locals := 22 }) E hml hl.1 (c_X9_digit l X c0 m661 hk0 hqq723) wt_X9_digit wl_RX9_184 rfl hk0 (by decide) rfl rfl hM hS rfl rfl (Nat.le_trans (by decide) hRf) (Nat.le_trans (by decide) hRl) (Nat.le_trans (Nat.le_of_ble_eq_true rfl) hRc) (Nat.le_trans (Nat.le_of_ble_eq_true rfl) hRs) (Nat.le_of_ble_eq_true rfl) dX9_readsOrder_253 rfl) hS (fun H locs hM hS => ?_)
                obtain ⟨hi725, hf⟩ := g_ck hf
                obtain ⟨m726, em726, hf⟩ := gv_o hf
                refine gg_iast E (fun c hc => gA_in X hc) hM hS (gk_in hg4 (by decide)) hg4 hi725 em726 dX9_readsOrder_256 (fun H locs hM hS => ?_)
                exact ge_v E hr hlocks hf hM hS (Nat.le_of_ble_eq_true rfl) (Nat.le_of_ble_eq_true rfl) dX9_readsOrder_257
              have hf := g_f h721 hf
              have ah663 := g_tn (z := 98) h663 rfl
              have ah677 := g_tn (z := 108) h677 rfl
              have ah707 := g_tn (z := 115) h707 rfl
              have ah721 := g_tn (z := 116) h721 rfl
              refine lv_lookup (tgt := 258) (off := 185) hx hb dX9_readsOrder_73 (by decide) (by simp [Op.lookupswitch.offset, ah663, ah677, ah707, ah721]) (by decide) ?_
              refine lv_aload_n hx hb dX9_readsOrder_258 rfl (lv_at hl 1 rfl) ?_
              refine GX9_30 E hM hk0 dX9_readsOrder_259 ?_
              refine lv_iload_n hx hb dX9_readsOrder_262 rfl (lv_at hl 2 rfl) ?_
              refine lv_iconst (v := (1 : Int32)) hx hb dX9_readsOrder_263 (by decide) ?_
              refine lv_iadd hx hb dX9_readsOrder_264 ?_
              refine lv_aload_n hx hb dX9_readsOrder_265 rfl (lv_at hl 1 rfl) ?_
              obtain ⟨r729, m727, hqq728, hf⟩ := g1_o hf
              refine ga_i (gr_V (As := []) (ci := 9) (rm := { frames := 2, cells := 0, slots := 0, locals := 43 }) E hml hl.1 (c_X9_number l X c0 m661 hk0 hqq728) wt_X9_number wl_RX9_190 rfl hk0 (by decide) rfl rfl hM hS rfl rfl (Nat.le_trans (by decide) hRf) (Nat.le_trans (by decide) hRl) (Nat.le_trans (Nat.le_of_ble_eq_true rfl) hRc) (Nat.le_trans (Nat.le_of_ble_eq_true rfl) hRs) (Nat.le_of_ble_eq_true rfl) dX9_readsOrder_266 rfl) hS (fun H locs hM hS => ?_)
              obtain ⟨hi730, hf⟩ := g_ck hf
              obtain ⟨m731, em731, hf⟩ := gv_o hf
              refine gg_iast E (fun c hc => gA_in X hc) hM hS (gk_in hg4 (by decide)) hg4 hi730 em731 dX9_readsOrder_269 (fun H locs hM hS => ?_)
              exact ge_v E hr hlocks hf hM hS (Nat.le_of_ble_eq_true rfl) (Nat.le_of_ble_eq_true rfl) dX9_readsOrder_270
          · have hf := g_f h587 hf
            refine lv_iconst (v := (1 : Int32)) hx hb dX9_readsOrder_43 (by decide) ?_
            refine lv_goto (tgt := 48) hx hb dX9_readsOrder_44 (by decide) ?_
            obtain ⟨m732, em732, hf⟩ := gv_o hf
            refine PX9_178 E hM hS hk0 (Or.inr rfl) em732 dX9_readsOrder_48 (fun H locs hM hS => ?_)
            refine lv_aload_n hx hb dX9_readsOrder_51 rfl (lv_at hl 1 rfl) ?_
            refine lv_dup hx hb dX9_readsOrder_52 rfl ?_
            refine GX9_175 E hM hk0 dX9_readsOrder_53 ?_
            refine lv_aload_n hx hb dX9_readsOrder_56 rfl (lv_at hl 1 rfl) ?_
            refine GX9_178 E hM hk0 dX9_readsOrder_57 ?_
            refine lv_if_eq (tgt := 67) hx hb dX9_readsOrder_60 (by decide) (fun h733 => ?_) (fun h733 => ?_)
            · have hf := g_t h733 hf
              refine lv_iconst (v := (1 : Int32)) hx hb dX9_readsOrder_67 (by decide) ?_
              refine lv_iadd hx hb dX9_readsOrder_68 ?_
              obtain ⟨m734, em734, hf⟩ := gv_o hf
              refine PX9_175 E hM hS hk0 em734 dX9_readsOrder_69 (fun H locs hM hS => ?_)
              refine lv_iload_n hx hb dX9_readsOrder_72 rfl (lv_at hl 0 rfl) ?_
              by_cases h736 : r3 = (98 : Int32)
              · have hf := g_t h736 hf
                refine lv_lookup (tgt := 116) (off := 43) hx hb dX9_readsOrder_73 (by decide) (by rw [h736]; decide) (by decide) ?_
                refine lv_aload_n hx hb dX9_readsOrder_116 rfl (lv_at hl 1 rfl) ?_
                refine GX9_30 E hM hk0 dX9_readsOrder_117 ?_
                refine lv_iload_n hx hb dX9_readsOrder_120 rfl (lv_at hl 2 rfl) ?_
                refine lv_iconst (v := (1 : Int32)) hx hb dX9_readsOrder_121 (by decide) ?_
                refine lv_iadd hx hb dX9_readsOrder_122 ?_
                refine lv_aload_n hx hb dX9_readsOrder_123 rfl (lv_at hl 1 rfl) ?_
                obtain ⟨r739, m737, hqq738, hf⟩ := g1_o hf
                refine ga_i (gr_V (As := []) (ci := 9) (rm := { frames := 1, cells := 0, slots := 0, locals := 22 }) E hml hl.1 (c_X9_digit l X c0 m734 hk0 hqq738) wt_X9_digit wl_RX9_184 rfl hk0 (by decide) rfl rfl hM hS rfl rfl (Nat.le_trans (by decide) hRf) (Nat.le_trans (by decide) hRl) (Nat.le_trans (Nat.le_of_ble_eq_true rfl) hRc) (Nat.le_trans (Nat.le_of_ble_eq_true rfl) hRs) (Nat.le_of_ble_eq_true rfl) dX9_readsOrder_124 rfl) hS (fun H locs hM hS => ?_)
                obtain ⟨hi740, hf⟩ := g_ck hf
                obtain ⟨m741, em741, hf⟩ := gv_o hf
                refine gg_iast E (fun c hc => gA_in X hc) hM hS (gk_in hg4 (by decide)) hg4 hi740 em741 dX9_readsOrder_127 (fun H locs hM hS => ?_)
                refine lv_aload_n hx hb dX9_readsOrder_128 rfl (lv_at hl 1 rfl) ?_
                refine lv_bipush (v := (43 : Int32)) hx hb dX9_readsOrder_129 (by decide) ?_
                obtain ⟨r744, m742, hqq743, hf⟩ := g1_o hf
                refine ga_v (gr_V (As := [.int (43 : Int32)]) (ci := 9) (rm := { frames := 1, cells := 0, slots := 0, locals := 20 }) E hml hl.1 (c_X9_between l X c0 (43 : Int32) m741 hk0 hqq743) wt_X9_between wl_RX9_187 rfl hk0 (by decide) rfl rfl hM hS rfl rfl (Nat.le_trans (by decide) hRf) (Nat.le_trans (by decide) hRl) (Nat.le_trans (Nat.le_of_ble_eq_true rfl) hRc) (Nat.le_trans (Nat.le_of_ble_eq_true rfl) hRs) (Nat.le_of_ble_eq_true rfl) dX9_readsOrder_131 rfl) hS (fun H locs hM hS => ?_)
                refine lv_aload_n hx hb dX9_readsOrder_134 rfl (lv_at hl 1 rfl) ?_
                refine GX9_30 E hM hk0 dX9_readsOrder_135 ?_
                refine lv_iload_n hx hb dX9_readsOrder_138 rfl (lv_at hl 2 rfl) ?_
                refine lv_iconst (v := (2 : Int32)) hx hb dX9_readsOrder_139 (by decide) ?_
                refine lv_iadd hx hb dX9_readsOrder_140 ?_
                refine lv_aload_n hx hb dX9_readsOrder_141 rfl (lv_at hl 1 rfl) ?_
                obtain ⟨r747, m745, hqq746, hf⟩ := g1_o hf
                refine ga_i (gr_V (As := []) (ci := 9) (rm := { frames := 2, cells := 0, slots := 0, locals := 43 }) E hml hl.1 (c_X9_number l X c0 m742 hk0 hqq746) wt_X9_number wl_RX9_190 rfl hk0 (by decide) rfl rfl hM hS rfl rfl (Nat.le_trans (by decide) hRf) (Nat.le_trans (by decide) hRl) (Nat.le_trans (Nat.le_of_ble_eq_true rfl) hRc) (Nat.le_trans (Nat.le_of_ble_eq_true rfl) hRs) (Nat.le_of_ble_eq_true rfl) dX9_readsOrder_142 rfl) hS (fun H locs hM hS => ?_)
                obtain ⟨hi748, hf⟩ := g_ck hf
                obtain ⟨m749, em749, hf⟩ := gv_o hf
                refine gg_iast E (fun c hc => gA_in X hc) hM hS (gk_in hg4 (by decide)) hg4 hi748 em749 dX9_readsOrder_145 (fun H locs hM hS => ?_)
                exact ge_v E hr hlocks hf hM hS (Nat.le_of_ble_eq_true rfl) (Nat.le_of_ble_eq_true rfl) dX9_readsOrder_146
              have hf := g_f h736 hf
              by_cases h750 : r3 = (108 : Int32)
              · have hf := g_t h750 hf
                refine lv_lookup (tgt := 147) (off := 74) hx hb dX9_readsOrder_73 (by decide) (by rw [h750]; decide) (by decide) ?_
                refine lv_aload_n hx hb dX9_readsOrder_147 rfl (lv_at hl 1 rfl) ?_
                refine GX9_30 E hM hk0 dX9_readsOrder_148 ?_
                refine lv_iload_n hx hb dX9_readsOrder_151 rfl (lv_at hl 2 rfl) ?_
                refine lv_iconst (v := (1 : Int32)) hx hb dX9_readsOrder_152 (by decide) ?_
                refine lv_iadd hx hb dX9_readsOrder_153 ?_
                refine lv_aload_n hx hb dX9_readsOrder_154 rfl (lv_at hl 1 rfl) ?_
                obtain ⟨r753, m751, hqq752, hf⟩ := g1_o hf
                refine ga_i (gr_V (As := []) (ci := 9) (rm := { frames := 1, cells := 0, slots := 0, locals := 22 }) E hml hl.1 (c_X9_digit l X c0 m734 hk0 hqq752) wt_X9_digit wl_RX9_184 rfl hk0 (by decide) rfl rfl hM hS rfl rfl (Nat.le_trans (by decide) hRf) (Nat.le_trans (by decide) hRl) (Nat.le_trans (Nat.le_of_ble_eq_true rfl) hRc) (Nat.le_trans (Nat.le_of_ble_eq_true rfl) hRs) (Nat.le_of_ble_eq_true rfl) dX9_readsOrder_155 rfl) hS (fun H locs hM hS => ?_)
                obtain ⟨hi754, hf⟩ := g_ck hf
                obtain ⟨m755, em755, hf⟩ := gv_o hf
                refine gg_iast E (fun c hc => gA_in X hc) hM hS (gk_in hg4 (by decide)) hg4 hi754 em755 dX9_readsOrder_158 (fun H locs hM hS => ?_)
                refine lv_aload_n hx hb dX9_readsOrder_159 rfl (lv_at hl 1 rfl) ?_
                refine lv_bipush (v := (47 : Int32)) hx hb dX9_readsOrder_160 (by decide) ?_
                obtain ⟨r758, m756, hqq757, hf⟩ := g1_o hf
                refine ga_v (gr_V (As := [.int (47 : Int32)]) (ci := 9) (rm := { frames := 1, cells := 0, slots := 0, locals := 20 }) E hml hl.1 (c_X9_between l X c0 (47 : Int32) m755 hk0 hqq757) wt_X9_between wl_RX9_187 rfl hk0 (by decide) rfl rfl hM hS rfl rfl (Nat.le_trans (by decide) hRf) (Nat.le_trans (by decide) hRl) (Nat.le_trans (Nat.le_of_ble_eq_true rfl) hRc) (Nat.le_trans (Nat.le_of_ble_eq_true rfl) hRs) (Nat.le_of_ble_eq_true rfl) dX9_readsOrder_162 rfl) hS (fun H locs hM hS => ?_)
                refine lv_aload_n hx hb dX9_readsOrder_165 rfl (lv_at hl 1 rfl) ?_
                refine GX9_30 E hM hk0 dX9_readsOrder_166 ?_
                refine lv_iload_n hx hb dX9_readsOrder_169 rfl (lv_at hl 2 rfl) ?_
                refine lv_iconst (v := (2 : Int32)) hx hb dX9_readsOrder_170 (by decide) ?_
                refine lv_iadd hx hb dX9_readsOrder_171 ?_
                refine lv_aload_n hx hb dX9_readsOrder_172 rfl (lv_at hl 1 rfl) ?_
                obtain ⟨r761, m759, hqq760, hf⟩ := g1_o hf
                refine ga_i (gr_V (As := []) (ci := 9) (rm := { frames := 1, cells := 0, slots := 0, locals := 22 }) E hml hl.1 (c_X9_digit l X c0 m756 hk0 hqq760) wt_X9_digit wl_RX9_184 rfl hk0 (by decide) rfl rfl hM hS rfl rfl (Nat.le_trans (by decide) hRf) (Nat.le_trans (by decide) hRl) (Nat.le_trans (Nat.le_of_ble_eq_true rfl) hRc) (Nat.le_trans (Nat.le_of_ble_eq_true rfl) hRs) (Nat.le_of_ble_eq_true rfl) dX9_readsOrder_173 rfl) hS (fun H locs hM hS => ?_)
                obtain ⟨hi762, hf⟩ := g_ck hf
                obtain ⟨m763, em763, hf⟩ := gv_o hf
                refine gg_iast E (fun c hc => gA_in X hc) hM hS (gk_in hg4 (by decide)) hg4 hi762 em763 dX9_readsOrder_176 (fun H locs hM hS => ?_)
                refine lv_aload_n hx hb dX9_readsOrder_177 rfl (lv_at hl 1 rfl) ?_
                refine lv_bipush (v := (58 : Int32)) hx hb dX9_readsOrder_178 (by decide) ?_
                obtain ⟨r766, m764, hqq765, hf⟩ := g1_o hf
                refine ga_v (gr_V (As := [.int (58 : Int32)]) (ci := 9) (rm := { frames := 1, cells := 0, slots := 0, locals := 20 }) E hml hl.1 (c_X9_between l X c0 (58 : Int32) m763 hk0 hqq765) wt_X9_between wl_RX9_187 rfl hk0 (by decide) rfl rfl hM hS rfl rfl (Nat.le_trans (by decide) hRf) (Nat.le_trans (by decide) hRl) (Nat.le_trans (Nat.le_of_ble_eq_true rfl) hRc) (Nat.le_trans (Nat.le_of_ble_eq_true rfl) hRs) (Nat.le_of_ble_eq_true rfl) dX9_readsOrder_180 rfl) hS (fun H locs hM hS => ?_)
                refine lv_aload_n hx hb dX9_readsOrder_183 rfl (lv_at hl 1 rfl) ?_
                refine GX9_30 E hM hk0 dX9_readsOrder_184 ?_
                refine lv_iload_n hx hb dX9_readsOrder_187 rfl (lv_at hl 2 rfl) ?_
                refine lv_iconst (v := (3 : Int32)) hx hb dX9_readsOrder_188 (by decide) ?_
                refine lv_iadd hx hb dX9_readsOrder_189 ?_
                refine lv_aload_n hx hb dX9_readsOrder_190 rfl (lv_at hl 1 rfl) ?_
                obtain ⟨r769, m767, hqq768, hf⟩ := g1_o hf
                refine ga_i (gr_V (As := []) (ci := 9) (rm := { frames := 1, cells := 0, slots := 0, locals := 22 }) E hml hl.1 (c_X9_digit l X c0 m764 hk0 hqq768) wt_X9_digit wl_RX9_184 rfl hk0 (by decide) rfl rfl hM hS rfl rfl (Nat.le_trans (by decide) hRf) (Nat.le_trans (by decide) hRl) (Nat.le_trans (Nat.le_of_ble_eq_true rfl) hRc) (Nat.le_trans (Nat.le_of_ble_eq_true rfl) hRs) (Nat.le_of_ble_eq_true rfl) dX9_readsOrder_191 rfl) hS (fun H locs hM hS => ?_)
                obtain ⟨hi770, hf⟩ := g_ck hf
                obtain ⟨m771, em771, hf⟩ := gv_o hf
                refine gg_iast E (fun c hc => gA_in X hc) hM hS (gk_in hg4 (by decide)) hg4 hi770 em771 dX9_readsOrder_194 (fun H locs hM hS => ?_)
                refine lv_aload_n hx hb dX9_readsOrder_195 rfl (lv_at hl 1 rfl) ?_
                refine lv_bipush (v := (42 : Int32)) hx hb dX9_readsOrder_196 (by decide) ?_
                obtain ⟨r774, m772, hqq773, hf⟩ := g1_o hf
                refine ga_v (gr_V (As := [.int (42 : Int32)]) (ci := 9) (rm := { frames := 1, cells := 0, slots := 0, locals := 20 }) E hml hl.1 (c_X9_between l X c0 (42 : Int32) m771 hk0 hqq773) wt_X9_between wl_RX9_187 rfl hk0 (by decide) rfl rfl hM hS rfl rfl (Nat.le_trans (by decide) hRf) (Nat.le_trans (by decide) hRl) (Nat.le_trans (Nat.le_of_ble_eq_true rfl) hRc) (Nat.le_trans (Nat.le_of_ble_eq_true rfl) hRs) (Nat.le_of_ble_eq_true rfl) dX9_readsOrder_198 rfl) hS (fun H locs hM hS => ?_)
                refine lv_aload_n hx hb dX9_readsOrder_201 rfl (lv_at hl 1 rfl) ?_
                refine GX9_30 E hM hk0 dX9_readsOrder_202 ?_
                refine lv_iload_n hx hb dX9_readsOrder_205 rfl (lv_at hl 2 rfl) ?_
                refine lv_iconst (v := (4 : Int32)) hx hb dX9_readsOrder_206 (by decide) ?_
                refine lv_iadd hx hb dX9_readsOrder_207 ?_
                refine lv_aload_n hx hb dX9_readsOrder_208 rfl (lv_at hl 1 rfl) ?_
                obtain ⟨r777, m775, hqq776, hf⟩ := g1_o hf
                refine ga_i (gr_V (As := []) (ci := 9) (rm := { frames := 2, cells := 0, slots := 0, locals := 43 }) E hml hl.1 (c_X9_number l X c0 m772 hk0 hqq776) wt_X9_number wl_RX9_190 rfl hk0 (by decide) rfl rfl hM hS rfl rfl (Nat.le_trans (by decide) hRf) (Nat.le_trans (by decide) hRl) (Nat.le_trans (Nat.le_of_ble_eq_true rfl) hRc) (Nat.le_trans (Nat.le_of_ble_eq_true rfl) hRs) (Nat.le_of_ble_eq_true rfl) dX9_readsOrder_209 rfl) hS (fun H locs hM hS => ?_)
                obtain ⟨hi778, hf⟩ := g_ck hf
                obtain ⟨m779, em779, hf⟩ := gv_o hf
                refine gg_iast E (fun c hc => gA_in X hc) hM hS (gk_in hg4 (by decide)) hg4 hi778 em779 dX9_readsOrder_212 (fun H locs hM hS => ?_)
                exact ge_v E hr hlocks hf hM hS (Nat.le_of_ble_eq_true rfl) (Nat.le_of_ble_eq_true rfl) dX9_readsOrder_213
              have hf := g_f h750 hf
              by_cases h780 : r3 = (115 : Int32)
              · have hf := g_t h780 hf
                refine lv_lookup (tgt := 214) (off := 141) hx hb dX9_readsOrder_73 (by decide) (by rw [h780]; decide) (by decide) ?_
                refine lv_aload_n hx hb dX9_readsOrder_214 rfl (lv_at hl 1 rfl) ?_
                refine GX9_30 E hM hk0 dX9_readsOrder_215 ?_
                refine lv_iload_n hx hb dX9_readsOrder_218 rfl (lv_at hl 2 rfl) ?_
                refine lv_iconst (v := (1 : Int32)) hx hb dX9_readsOrder_219 (by decide) ?_
                refine lv_iadd hx hb dX9_readsOrder_220 ?_
                refine lv_aload_n hx hb dX9_readsOrder_221 rfl (lv_at hl 1 rfl) ?_
                obtain ⟨r783, m781, hqq782, hf⟩ := g1_o hf
                refine ga_i (gr_V (As := []) (ci := 9) (rm := { frames := 2, cells := 0, slots := 0, locals := 43 }) E hml hl.1 (c_X9_number l X c0 m734 hk0 hqq782) wt_X9_number wl_RX9_190 rfl hk0 (by decide) rfl rfl hM hS rfl rfl (Nat.le_trans (by decide) hRf) (Nat.le_trans (by decide) hRl) (Nat.le_trans (Nat.le_of_ble_eq_true rfl) hRc) (Nat.le_trans (Nat.le_of_ble_eq_true rfl) hRs) (Nat.le_of_ble_eq_true rfl) dX9_readsOrder_222 rfl) hS (fun H locs hM hS => ?_)
                obtain ⟨hi784, hf⟩ := g_ck hf
                obtain ⟨m785, em785, hf⟩ := gv_o hf
                refine gg_iast E (fun c hc => gA_in X hc) hM hS (gk_in hg4 (by decide)) hg4 hi784 em785 dX9_readsOrder_225 (fun H locs hM hS => ?_)
                refine lv_aload_n hx hb dX9_readsOrder_226 rfl (lv_at hl 1 rfl) ?_
                refine lv_bipush (v := (64 : Int32)) hx hb dX9_readsOrder_227 (by decide) ?_
                obtain ⟨r788, m786, hqq787, hf⟩ := g1_o hf
                refine ga_v (gr_V (As := [.int (64 : Int32)]) (ci := 9) (rm := { frames := 1, cells := 0, slots := 0, locals := 20 }) E hml hl.1 (c_X9_between l X c0 (64 : Int32) m785 hk0 hqq787) wt_X9_between wl_RX9_187 rfl hk0 (by decide) rfl rfl hM hS rfl rfl (Nat.le_trans (by decide) hRf) (Nat.le_trans (by decide) hRl) (Nat.le_trans (Nat.le_of_ble_eq_true rfl) hRc) (Nat.le_trans (Nat.le_of_ble_eq_true rfl) hRs) (Nat.le_of_ble_eq_true rfl) dX9_readsOrder_229 rfl) hS (fun H locs hM hS => ?_)
                refine lv_aload_n hx hb dX9_readsOrder_232 rfl (lv_at hl 1 rfl) ?_
                refine GX9_30 E hM hk0 dX9_readsOrder_233 ?_
                refine lv_iload_n hx hb dX9_readsOrder_236 rfl (lv_at hl 2 rfl) ?_
                refine lv_iconst (v := (2 : Int32)) hx hb dX9_readsOrder_237 (by decide) ?_
                refine lv_iadd hx hb dX9_readsOrder_238 ?_
                refine lv_aload_n hx hb dX9_readsOrder_239 rfl (lv_at hl 1 rfl) ?_
                obtain ⟨r791, m789, hqq790, hf⟩ := g1_o hf
                refine ga_i (gr_V (As := []) (ci := 9) (rm := { frames := 1, cells := 0, slots := 0, locals := 22 }) E hml hl.1 (c_X9_digit l X c0 m786 hk0 hqq790) wt_X9_digit wl_RX9_184 rfl hk0 (by decide) rfl rfl hM hS rfl rfl (Nat.le_trans (by decide) hRf) (Nat.le_trans (by decide) hRl) (Nat.le_trans (Nat.le_of_ble_eq_true rfl) hRc) (Nat.le_trans (Nat.le_of_ble_eq_true rfl) hRs) (Nat.le_of_ble_eq_true rfl) dX9_readsOrder_240 rfl) hS (fun H locs hM hS => ?_)
                obtain ⟨hi792, hf⟩ := g_ck hf
                obtain ⟨m793, em793, hf⟩ := gv_o hf
                refine gg_iast E (fun c hc => gA_in X hc) hM hS (gk_in hg4 (by decide)) hg4 hi792 em793 dX9_readsOrder_243 (fun H locs hM hS => ?_)
                exact ge_v E hr hlocks hf hM hS (Nat.le_of_ble_eq_true rfl) (Nat.le_of_ble_eq_true rfl) dX9_readsOrder_244
              have hf := g_f h780 hf
              by_cases h794 : r3 = (116 : Int32)
              · have hf := g_t h794 hf
                refine lv_lookup (tgt := 245) (off := 172) hx hb dX9_readsOrder_73 (by decide) (by rw [h794]; decide) (by decide) ?_
                refine lv_aload_n hx hb dX9_readsOrder_245 rfl (lv_at hl 1 rfl) ?_
                refine GX9_30 E hM hk0 dX9_readsOrder_246 ?_
                refine lv_iload_n hx hb dX9_readsOrder_249 rfl (lv_at hl 2 rfl) ?_
                refine lv_iconst (v := (1 : Int32)) hx hb dX9_readsOrder_250 (by decide) ?_
                refine lv_iadd hx hb dX9_readsOrder_251 ?_
                refine lv_aload_n hx hb dX9_readsOrder_252 rfl (lv_at hl 1 rfl) ?_
                obtain ⟨r797, m795, hqq796, hf⟩ := g1_o hf
                refine ga_i (gr_V (As := []) (ci := 9) (rm := { frames := 1, cells := 0, slots := 0, locals := 22 }) E hml hl.1 (c_X9_digit l X c0 m734 hk0 hqq796) wt_X9_digit wl_RX9_184 rfl hk0 (by decide) rfl rfl hM hS rfl rfl (Nat.le_trans (by decide) hRf) (Nat.le_trans (by decide) hRl) (Nat.le_trans (Nat.le_of_ble_eq_true rfl) hRc) (Nat.le_trans (Nat.le_of_ble_eq_true rfl) hRs) (Nat.le_of_ble_eq_true rfl) dX9_readsOrder_253 rfl) hS (fun H locs hM hS => ?_)
                obtain ⟨hi798, hf⟩ := g_ck hf
                obtain ⟨m799, em799, hf⟩ := gv_o hf
                refine gg_iast E (fun c hc => gA_in X hc) hM hS (gk_in hg4 (by decide)) hg4 hi798 em799 dX9_readsOrder_256 (fun H locs hM hS => ?_)
                exact ge_v E hr hlocks hf hM hS (Nat.le_of_ble_eq_true rfl) (Nat.le_of_ble_eq_true rfl) dX9_readsOrder_257
              have hf := g_f h794 hf
              have ah736 := g_tn (z := 98) h736 rfl
              have ah750 := g_tn (z := 108) h750 rfl
              have ah780 := g_tn (z := 115) h780 rfl
              have ah794 := g_tn (z := 116) h794 rfl
              refine lv_lookup (tgt := 258) (off := 185) hx hb dX9_readsOrder_73 (by decide) (by simp [Op.lookupswitch.offset, ah736, ah750, ah780, ah794]) (by decide) ?_
              refine lv_aload_n hx hb dX9_readsOrder_258 rfl (lv_at hl 1 rfl) ?_
              refine GX9_30 E hM hk0 dX9_readsOrder_259 ?_
              refine lv_iload_n hx hb dX9_readsOrder_262 rfl (lv_at hl 2 rfl) ?_
              refine lv_iconst (v := (1 : Int32)) hx hb dX9_readsOrder_263 (by decide) ?_
              refine lv_iadd hx hb dX9_readsOrder_264 ?_
              refine lv_aload_n hx hb dX9_readsOrder_265 rfl (lv_at hl 1 rfl) ?_
              obtain ⟨r802, m800, hqq801, hf⟩ := g1_o hf
              refine ga_i (gr_V (As := []) (ci := 9) (rm := { frames := 2, cells := 0, slots := 0, locals := 43 }) E hml hl.1 (c_X9_number l X c0 m734 hk0 hqq801) wt_X9_number wl_RX9_190 rfl hk0 (by decide) rfl rfl hM hS rfl rfl (Nat.le_trans (by decide) hRf) (Nat.le_trans (by decide) hRl) (Nat.le_trans (Nat.le_of_ble_eq_true rfl) hRc) (Nat.le_trans (Nat.le_of_ble_eq_true rfl) hRs) (Nat.le_of_ble_eq_true rfl) dX9_readsOrder_266 rfl) hS (fun H locs hM hS => ?_)
              obtain ⟨hi803, hf⟩ := g_ck hf
              obtain ⟨m804, em804, hf⟩ := gv_o hf
              refine gg_iast E (fun c hc => gA_in X hc) hM hS (gk_in hg4 (by decide)) hg4 hi803 em804 dX9_readsOrder_269 (fun H locs hM hS => ?_)
              exact ge_v E hr hlocks hf hM hS (Nat.le_of_ble_eq_true rfl) (Nat.le_of_ble_eq_true rfl) dX9_readsOrder_270
            · have hf := g_f h733 hf
              refine lv_iconst (v := (0 : Int32)) hx hb dX9_readsOrder_63 (by decide) ?_
              refine lv_goto (tgt := 68) hx hb dX9_readsOrder_64 (by decide) ?_
              refine lv_iadd hx hb dX9_readsOrder_68 ?_
              obtain ⟨m805, em805, hf⟩ := gv_o hf
              refine PX9_175 E hM hS hk0 em805 dX9_readsOrder_69 (fun H locs hM hS => ?_)
              refine lv_iload_n hx hb dX9_readsOrder_72 rfl (lv_at hl 0 rfl) ?_
              by_cases h807 : r3 = (98 : Int32)
              · have hf := g_t h807 hf
                refine lv_lookup (tgt := 116) (off := 43) hx hb dX9_readsOrder_73 (by decide) (by rw [h807]; decide) (by decide) ?_
                refine lv_aload_n hx hb dX9_readsOrder_116 rfl (lv_at hl 1 rfl) ?_
                refine GX9_30 E hM hk0 dX9_readsOrder_117 ?_
                refine lv_iload_n hx hb dX9_readsOrder_120 rfl (lv_at hl 2 rfl) ?_
                refine lv_iconst (v := (1 : Int32)) hx hb dX9_readsOrder_121 (by decide) ?_
                refine lv_iadd hx hb dX9_readsOrder_122 ?_
                refine lv_aload_n hx hb dX9_readsOrder_123 rfl (lv_at hl 1 rfl) ?_
                obtain ⟨r810, m808, hqq809, hf⟩ := g1_o hf
                refine ga_i (gr_V (As := []) (ci := 9) (rm := { frames := 1, cells := 0, slots := 0, locals := 22 }) E hml hl.1 (c_X9_digit l X c0 m805 hk0 hqq809) wt_X9_digit wl_RX9_184 rfl hk0 (by decide) rfl rfl hM hS rfl rfl (Nat.le_trans (by decide) hRf) (Nat.le_trans (by decide) hRl) (Nat.le_trans (Nat.le_of_ble_eq_true rfl) hRc) (Nat.le_trans (Nat.le_of_ble_eq_true rfl) hRs) (Nat.le_of_ble_eq_true rfl) dX9_readsOrder_124 rfl) hS (fun H locs hM hS => ?_)
                obtain ⟨hi811, hf⟩ := g_ck hf
                obtain ⟨m812, em812, hf⟩ := gv_o hf
                refine gg_iast E (fun c hc => gA_in X hc) hM hS (gk_in hg4 (by decide)) hg4 hi811 em812 dX9_readsOrder_127 (fun H locs hM hS => ?_)
                refine lv_aload_n hx hb dX9_readsOrder_128 rfl (lv_at hl 1 rfl) ?_
                refine lv_bipush (v := (43 : Int32)) hx hb dX9_readsOrder_129 (by decide) ?_
                obtain ⟨r815, m813, hqq814, hf⟩ := g1_o hf
                refine ga_v (gr_V (As := [.int (43 : Int32)]) (ci := 9) (rm := { frames := 1, cells := 0, slots := 0, locals := 20 }) E hml hl.1 (c_X9_between l X c0 (43 : Int32) m812 hk0 hqq814) wt_X9_between wl_RX9_187 rfl hk0 (by decide) rfl rfl hM hS rfl rfl (Nat.le_trans (by decide) hRf) (Nat.le_trans (by decide) hRl) (Nat.le_trans (Nat.le_of_ble_eq_true rfl) hRc) (Nat.le_trans (Nat.le_of_ble_eq_true rfl) hRs) (Nat.le_of_ble_eq_true rfl) dX9_readsOrder_131 rfl) hS (fun H locs hM hS => ?_)
                refine lv_aload_n hx hb dX9_readsOrder_134 rfl (lv_at hl 1 rfl) ?_
                refine GX9_30 E hM hk0 dX9_readsOrder_135 ?_
                refine lv_iload_n hx hb dX9_readsOrder_138 rfl (lv_at hl 2 rfl) ?_
                refine lv_iconst (v := (2 : Int32)) hx hb dX9_readsOrder_139 (by decide) ?_
                refine lv_iadd hx hb dX9_readsOrder_140 ?_
                refine lv_aload_n hx hb dX9_readsOrder_141 rfl (lv_at hl 1 rfl) ?_
                obtain ⟨r818, m816, hqq817, hf⟩ := g1_o hf
                refine ga_i (gr_V (As := []) (ci := 9) (rm := { frames := 2, cells := 0, slots := 0, locals := 43 }) E hml hl.1 (c_X9_number l X c0 m813 hk0 hqq817) wt_X9_number wl_RX9_190 rfl hk0 (by decide) rfl rfl hM hS rfl rfl (Nat.le_trans (by decide) hRf) (Nat.le_trans (by decide) hRl) (Nat.le_trans (Nat.le_of_ble_eq_true rfl) hRc) (Nat.le_trans (Nat.le_of_ble_eq_true rfl) hRs) (Nat.le_of_ble_eq_true rfl) dX9_readsOrder_142 rfl) hS (fun H locs hM hS => ?_)
                obtain ⟨hi819, hf⟩ := g_ck hf
                obtain ⟨m820, em820, hf⟩ := gv_o hf
                refine gg_iast E (fun c hc => gA_in X hc) hM hS (gk_in hg4 (by decide)) hg4 hi819 em820 dX9_readsOrder_145 (fun H locs hM hS => ?_)
                exact ge_v E hr hlocks hf hM hS (Nat.le_of_ble_eq_true rfl) (Nat.le_of_ble_eq_true rfl) dX9_readsOrder_146
              have hf := g_f h807 hf
              by_cases h821 : r3 = (108 : Int32)
              · have hf := g_t h821 hf
                refine lv_lookup (tgt := 147) (off := 74) hx hb dX9_readsOrder_73 (by decide) (by rw [h821]; decide) (by decide) ?_
                refine lv_aload_n hx hb dX9_readsOrder_147 rfl (lv_at hl 1 rfl) ?_
                refine GX9_30 E hM hk0 dX9_readsOrder_148 ?_
                refine lv_iload_n hx hb dX9_readsOrder_151 rfl (lv_at hl 2 rfl) ?_
                refine lv_iconst (v := (1 : Int32)) hx hb dX9_readsOrder_152 (by decide) ?_
                refine lv_iadd hx hb dX9_readsOrder_153 ?_
                refine lv_aload_n hx hb dX9_readsOrder_154 rfl (lv_at hl 1 rfl) ?_
                obtain ⟨r824, m822, hqq823, hf⟩ := g1_o hf
                refine ga_i (gr_V (As := []) (ci := 9) (rm := { frames := 1, cells := 0, slots := 0, locals := 22 }) E hml hl.1 (c_X9_digit l X c0 m805 hk0 hqq823) wt_X9_digit wl_RX9_184 rfl hk0 (by decide) rfl rfl hM hS rfl rfl (Nat.le_trans (by decide) hRf) (Nat.le_trans (by decide) hRl) (Nat.le_trans (Nat.le_of_ble_eq_true rfl) hRc) (Nat.le_trans (Nat.le_of_ble_eq_true rfl) hRs) (Nat.le_of_ble_eq_true rfl) dX9_readsOrder_155 rfl) hS (fun H locs hM hS => ?_)
                obtain ⟨hi825, hf⟩ := g_ck hf
                obtain ⟨m826, em826, hf⟩ := gv_o hf
                refine gg_iast E (fun c hc => gA_in X hc) hM hS (gk_in hg4 (by decide)) hg4 hi825 em826 dX9_readsOrder_158 (fun H locs hM hS => ?_)
                refine lv_aload_n hx hb dX9_readsOrder_159 rfl (lv_at hl 1 rfl) ?_
                refine lv_bipush (v := (47 : Int32)) hx hb dX9_readsOrder_160 (by decide) ?_
                obtain ⟨r829, m827, hqq828, hf⟩ := g1_o hf
                refine ga_v (gr_V (As := [.int (47 : Int32)]) (ci := 9) (rm := { frames := 1, cells := 0, slots := 0, locals := 20 }) E hml hl.1 (c_X9_between l X c0 (47 : Int32) m826 hk0 hqq828) wt_X9_between wl_RX9_187 rfl hk0 (by decide) rfl rfl hM hS rfl rfl (Nat.le_trans (by decide) hRf) (Nat.le_trans (by decide) hRl) (Nat.le_trans (Nat.le_of_ble_eq_true rfl) hRc) (Nat.le_trans (Nat.le_of_ble_eq_true rfl) hRs) (Nat.le_of_ble_eq_true rfl) dX9_readsOrder_162 rfl) hS (fun H locs hM hS => ?_)
                refine lv_aload_n hx hb dX9_readsOrder_165 rfl (lv_at hl 1 rfl) ?_
                refine GX9_30 E hM hk0 dX9_readsOrder_166 ?_
                refine lv_iload_n hx hb dX9_readsOrder_169 rfl (lv_at hl 2 rfl) ?_
                refine lv_iconst (v := (2 : Int32)) hx hb dX9_readsOrder_170 (by decide) ?_
                refine lv_iadd hx hb dX9_readsOrder_171 ?_
                refine lv_aload_n hx hb dX9_readsOrder_172 rfl (lv_at hl 1 rfl) ?_
                obtain ⟨r832, m830, hqq831, hf⟩ := g1_o hf
                refine ga_i (gr_V (As := []) (ci := 9) (rm := { frames := 1, cells := 0, slots := 0, locals := 22 }) E hml hl.1 (c_X9_digit l X c0 m827 hk0 hqq831) wt_X9_digit wl_RX9_184 rfl hk0 (by decide) rfl rfl hM hS rfl rfl (Nat.le_trans (by decide) hRf) (Nat.le_trans (by decide) hRl) (Nat.le_trans (Nat.le_of_ble_eq_true rfl) hRc) (Nat.le_trans (Nat.le_of_ble_eq_true rfl) hRs) (Nat.le_of_ble_eq_true rfl) dX9_readsOrder_173 rfl) hS (fun H locs hM hS => ?_)
                obtain ⟨hi833, hf⟩ := g_ck hf
                obtain ⟨m834, em834, hf⟩ := gv_o hf
                refine gg_iast E (fun c hc => gA_in X hc) hM hS (gk_in hg4 (by decide)) hg4 hi833 em834 dX9_readsOrder_176 (fun H locs hM hS => ?_)
                refine lv_aload_n hx hb dX9_readsOrder_177 rfl (lv_at hl 1 rfl) ?_
                refine lv_bipush (v := (58 : Int32)) hx hb dX9_readsOrder_178 (by decide) ?_
                obtain ⟨r837, m835, hqq836, hf⟩ := g1_o hf
                refine ga_v (gr_V (As := [.int (58 : Int32)]) (ci := 9) (rm := { frames := 1, cells := 0, slots := 0, locals := 20 }) E hml hl.1 (c_X9_between l X c0 (58 : Int32) m834 hk0 hqq836) wt_X9_between wl_RX9_187 rfl hk0 (by decide) rfl rfl hM hS rfl rfl (Nat.le_trans (by decide) hRf) (Nat.le_trans (by decide) hRl) (Nat.le_trans (Nat.le_of_ble_eq_true rfl) hRc) (Nat.le_trans (Nat.le_of_ble_eq_true rfl) hRs) (Nat.le_of_ble_eq_true rfl) dX9_readsOrder_180 rfl) hS (fun H locs hM hS => ?_)
                refine lv_aload_n hx hb dX9_readsOrder_183 rfl (lv_at hl 1 rfl) ?_
                refine GX9_30 E hM hk0 dX9_readsOrder_184 ?_
                refine lv_iload_n hx hb dX9_readsOrder_187 rfl (lv_at hl 2 rfl) ?_
                refine lv_iconst (v := (3 : Int32)) hx hb dX9_readsOrder_188 (by decide) ?_
                refine lv_iadd hx hb dX9_readsOrder_189 ?_
                refine lv_aload_n hx hb dX9_readsOrder_190 rfl (lv_at hl 1 rfl) ?_
                obtain ⟨r840, m838, hqq839, hf⟩ := g1_o hf
                refine ga_i (gr_V (As := []) (ci := 9) (rm := { frames := 1, cells := 0, slots := 0, locals := 22 }) E hml hl.1 (c_X9_digit l X c0 m835 hk0 hqq839) wt_X9_digit wl_RX9_184 rfl hk0 (by decide) rfl rfl hM hS rfl rfl (Nat.le_trans (by decide) hRf) (Nat.le_trans (by decide) hRl) (Nat.le_trans (Nat.le_of_ble_eq_true rfl) hRc) (Nat.le_trans (Nat.le_of_ble_eq_true rfl) hRs) (Nat.le_of_ble_eq_true rfl) dX9_readsOrder_191 rfl) hS (fun H locs hM hS => ?_)
                obtain ⟨hi841, hf⟩ := g_ck hf
                obtain ⟨m842, em842, hf⟩ := gv_o hf
                refine gg_iast E (fun c hc => gA_in X hc) hM hS (gk_in hg4 (by decide)) hg4 hi841 em842 dX9_readsOrder_194 (fun H locs hM hS => ?_)
                refine lv_aload_n hx hb dX9_readsOrder_195 rfl (lv_at hl 1 rfl) ?_
                refine lv_bipush (v := (42 : Int32)) hx hb dX9_readsOrder_196 (by decide) ?_
                obtain ⟨r845, m843, hqq844, hf⟩ := g1_o hf
                refine ga_v (gr_V (As := [.int (42 : Int32)]) (ci := 9) (rm := { frames := 1, cells := 0, slots := 0, locals := 20 }) E hml hl.1 (c_X9_between l X c0 (42 : Int32) m842 hk0 hqq844) wt_X9_between wl_RX9_187 rfl hk0 (by decide) rfl rfl hM hS rfl rfl (Nat.le_trans (by decide) hRf) (Nat.le_trans (by decide) hRl) (Nat.le_trans (Nat.le_of_ble_eq_true rfl) hRc) (Nat.le_trans (Nat.le_of_ble_eq_true rfl) hRs) (Nat.le_of_ble_eq_true rfl) dX9_readsOrder_198 rfl) hS (fun H locs hM hS => ?_)
                refine lv_aload_n hx hb dX9_readsOrder_201 rfl (lv_at hl 1 rfl) ?_
                refine GX9_30 E hM hk0 dX9_readsOrder_202 ?_
                refine lv_iload_n hx hb dX9_readsOrder_205 rfl (lv_at hl 2 rfl) ?_
                refine lv_iconst (v := (4 : Int32)) hx hb dX9_readsOrder_206 (by decide) ?_
                refine lv_iadd hx hb dX9_readsOrder_207 ?_
                refine lv_aload_n hx hb dX9_readsOrder_208 rfl (lv_at hl 1 rfl) ?_
                obtain ⟨r848, m846, hqq847, hf⟩ := g1_o hf
                refine ga_i (gr_V (As := []) (ci := 9) (rm := { frames := 2, cells := 0, slots := 0, locals := 43 }) E hml hl.1 (c_X9_number l X c0 m843 hk0 hqq847) wt_X9_number wl_RX9_190 rfl hk0 (by decide) rfl rfl hM hS rfl rfl (Nat.le_trans (by decide) hRf) (Nat.le_trans (by decide) hRl) (Nat.le_trans (Nat.le_of_ble_eq_true rfl) hRc) (Nat.le_trans (Nat.le_of_ble_eq_true rfl) hRs) (Nat.le_of_ble_eq_true rfl) dX9_readsOrder_209 rfl) hS (fun H locs hM hS => ?_)
                obtain ⟨hi849, hf⟩ := g_ck hf
                obtain ⟨m850, em850, hf⟩ := gv_o hf
                refine gg_iast E (fun c hc => gA_in X hc) hM hS (gk_in hg4 (by decide)) hg4 hi849 em850 dX9_readsOrder_212 (fun H locs hM hS => ?_)
                exact ge_v E hr hlocks hf hM hS (Nat.le_of_ble_eq_true rfl) (Nat.le_of_ble_eq_true rfl) dX9_readsOrder_213
              have hf := g_f h821 hf
              by_cases h851 : r3 = (115 : Int32)
              · have hf := g_t h851 hf
                refine lv_lookup (tgt := 214) (off := 141) hx hb dX9_readsOrder_73 (by decide) (by rw [h851]; decide) (by decide) ?_
                refine lv_aload_n hx hb dX9_readsOrder_214 rfl (lv_at hl 1 rfl) ?_
                refine GX9_30 E hM hk0 dX9_readsOrder_215 ?_
                refine lv_iload_n hx hb dX9_readsOrder_218 rfl (lv_at hl 2 rfl) ?_
                refine lv_iconst (v := (1 : Int32)) hx hb dX9_readsOrder_219 (by decide) ?_
                refine lv_iadd hx hb dX9_readsOrder_220 ?_
                refine lv_aload_n hx hb dX9_readsOrder_221 rfl (lv_at hl 1 rfl) ?_
                obtain ⟨r854, m852, hqq853, hf⟩ := g1_o hf
                refine ga_i (gr_V (As := []) (ci := 9) (rm := { frames := 2, cells := 0, slots := 0, locals := 43 }) E hml hl.1 (c_X9_number l X c0 m805 hk0 hqq853) wt_X9_number wl_RX9_190 rfl hk0 (by decide) rfl rfl hM hS rfl rfl (Nat.le_trans (by decide) hRf) (Nat.le_trans (by decide) hRl) (Nat.le_trans (Nat.le_of_ble_eq_true rfl) hRc) (Nat.le_trans (Nat.le_of_ble_eq_true rfl) hRs) (Nat.le_of_ble_eq_true rfl) dX9_readsOrder_222 rfl) hS (fun H locs hM hS => ?_)
                obtain ⟨hi855, hf⟩ := g_ck hf
                obtain ⟨m856, em856, hf⟩ := gv_o hf
                refine gg_iast E (fun c hc => gA_in X hc) hM hS (gk_in hg4 (by decide)) hg4 hi855 em856 dX9_readsOrder_225 (fun H locs hM hS => ?_)
                refine lv_aload_n hx hb dX9_readsOrder_226 rfl (lv_at hl 1 rfl) ?_
                refine lv_bipush (v := (64 : Int32)) hx hb dX9_readsOrder_227 (by decide) ?_
                obtain ⟨r859, m857, hqq858, hf⟩ := g1_o hf
                refine ga_v (gr_V (As := [.int (64 : Int32)]) (ci := 9) (rm := { frames := 1, cells := 0, slots := 0, locals := 20 }) E hml hl.1 (c_X9_between l X c0 (64 : Int32) m856 hk0 hqq858) wt_X9_between wl_RX9_187 rfl hk0 (by decide) rfl rfl hM hS rfl rfl (Nat.le_trans (by decide) hRf) (Nat.le_trans (by decide) hRl) (Nat.le_trans (Nat.le_of_ble_eq_true rfl) hRc) (Nat.le_trans (Nat.le_of_ble_eq_true rfl) hRs) (Nat.le_of_ble_eq_true rfl) dX9_readsOrder_229 rfl) hS (fun H locs hM hS => ?_)
                refine lv_aload_n hx hb dX9_readsOrder_232 rfl (lv_at hl 1 rfl) ?_
                refine GX9_30 E hM hk0 dX9_readsOrder_233 ?_
                refine lv_iload_n hx hb dX9_readsOrder_236 rfl (lv_at hl 2 rfl) ?_
                refine lv_iconst (v := (2 : Int32)) hx hb dX9_readsOrder_237 (by decide) ?_
                refine lv_iadd hx hb dX9_readsOrder_238 ?_
                refine lv_aload_n hx hb dX9_readsOrder_239 rfl (lv_at hl 1 rfl) ?_
                obtain ⟨r862, m860, hqq861, hf⟩ := g1_o hf
                refine ga_i (gr_V (As := []) (ci := 9) (rm := { frames := 1, cells := 0, slots := 0, locals := 22 }) E hml hl.1 (c_X9_digit l X c0 m857 hk0 hqq861) wt_X9_digit wl_RX9_184 rfl hk0 (by decide) rfl rfl hM hS rfl rfl (Nat.le_trans (by decide) hRf) (Nat.le_trans (by decide) hRl) (Nat.le_trans (Nat.le_of_ble_eq_true rfl) hRc) (Nat.le_trans (Nat.le_of_ble_eq_true rfl) hRs) (Nat.le_of_ble_eq_true rfl) dX9_readsOrder_240 rfl) hS (fun H locs hM hS => ?_)
                obtain ⟨hi863, hf⟩ := g_ck hf
                obtain ⟨m864, em864, hf⟩ := gv_o hf
                refine gg_iast E (fun c hc => gA_in X hc) hM hS (gk_in hg4 (by decide)) hg4 hi863 em864 dX9_readsOrder_243 (fun H locs hM hS => ?_)
                exact ge_v E hr hlocks hf hM hS (Nat.le_of_ble_eq_true rfl) (Nat.le_of_ble_eq_true rfl) dX9_readsOrder_244
              have hf := g_f h851 hf
              by_cases h865 : r3 = (116 : Int32)
              · have hf := g_t h865 hf
                refine lv_lookup (tgt := 245) (off := 172) hx hb dX9_readsOrder_73 (by decide) (by rw [h865]; decide) (by decide) ?_
                refine lv_aload_n hx hb dX9_readsOrder_245 rfl (lv_at hl 1 rfl) ?_
                refine GX9_30 E hM hk0 dX9_readsOrder_246 ?_
                refine lv_iload_n hx hb dX9_readsOrder_249 rfl (lv_at hl 2 rfl) ?_
                refine lv_iconst (v := (1 : Int32)) hx hb dX9_readsOrder_250 (by decide) ?_
                refine lv_iadd hx hb dX9_readsOrder_251 ?_
                refine lv_aload_n hx hb dX9_readsOrder_252 rfl (lv_at hl 1 rfl) ?_
                obtain ⟨r868, m866, hqq867, hf⟩ := g1_o hf
                refine ga_i (gr_V (As := []) (ci := 9) (rm := { frames := 1, cells := 0, slots := 0, locals := 22 }) E hml hl.1 (c_X9_digit l X c0 m805 hk0 hqq867) wt_X9_digit wl_RX9_184 rfl hk0 (by decide) rfl rfl hM hS rfl rfl (Nat.le_trans (by decide) hRf) (Nat.le_trans (by decide) hRl) (Nat.le_trans (Nat.le_of_ble_eq_true rfl) hRc) (Nat.le_trans (Nat.le_of_ble_eq_true rfl) hRs) (Nat.le_of_ble_eq_true rfl) dX9_readsOrder_253 rfl) hS (fun H locs hM hS => ?_)
                obtain ⟨hi869, hf⟩ := g_ck hf
                obtain ⟨m870, em870, hf⟩ := gv_o hf
                refine gg_iast E (fun c hc => gA_in X hc) hM hS (gk_in hg4 (by decide)) hg4 hi869 em870 dX9_readsOrder_256 (fun H locs hM hS => ?_)
                exact ge_v E hr hlocks hf hM hS (Nat.le_of_ble_eq_true rfl) (Nat.le_of_ble_eq_true rfl) dX9_readsOrder_257
              have hf := g_f h865 hf
              have ah807 := g_tn (z := 98) h807 rfl
              have ah821 := g_tn (z := 108) h821 rfl
              have ah851 := g_tn (z := 115) h851 rfl
              have ah865 := g_tn (z := 116) h865 rfl
              refine lv_lookup (tgt := 258) (off := 185) hx hb dX9_readsOrder_73 (by decide) (by simp [Op.lookupswitch.offset, ah807, ah821, ah851, ah865]) (by decide) ?_
              refine lv_aload_n hx hb dX9_readsOrder_258 rfl (lv_at hl 1 rfl) ?_
              refine GX9_30 E hM hk0 dX9_readsOrder_259 ?_
              refine lv_iload_n hx hb dX9_readsOrder_262 rfl (lv_at hl 2 rfl) ?_
              refine lv_iconst (v := (1 : Int32)) hx hb dX9_readsOrder_263 (by decide) ?_
              refine lv_iadd hx hb dX9_readsOrder_264 ?_
              refine lv_aload_n hx hb dX9_readsOrder_265 rfl (lv_at hl 1 rfl) ?_
              obtain ⟨r873, m871, hqq872, hf⟩ := g1_o hf
              refine ga_i (gr_V (As := []) (ci := 9) (rm := { frames := 2, cells := 0, slots := 0, locals := 43 }) E hml hl.1 (c_X9_number l X c0 m805 hk0 hqq872) wt_X9_number wl_RX9_190 rfl hk0 (by decide) rfl rfl hM hS rfl rfl (Nat.le_trans (by decide) hRf) (Nat.le_trans (by decide) hRl) (Nat.le_trans (Nat.le_of_ble_eq_true rfl) hRc) (Nat.le_trans (Nat.le_of_ble_eq_true rfl) hRs) (Nat.le_of_ble_eq_true rfl) dX9_readsOrder_266 rfl) hS (fun H locs hM hS => ?_)
              obtain ⟨hi874, hf⟩ := g_ck hf
              obtain ⟨m875, em875, hf⟩ := gv_o hf
              refine gg_iast E (fun c hc => gA_in X hc) hM hS (gk_in hg4 (by decide)) hg4 hi874 em875 dX9_readsOrder_269 (fun H locs hM hS => ?_)
              exact ge_v E hr hlocks hf hM hS (Nat.le_of_ble_eq_true rfl) (Nat.le_of_ble_eq_true rfl) dX9_readsOrder_270
theorem c_X9_readsOrder (l : Launch) (X : gX) (c0 : Nat) (u1 : Int32) (m0 : gMem) {res : Unit × gMem} (hk0 : gk c0 = 9) (hf : f_X9_readsOrder c0 u1 m0 = some res) : Met l yX9_readsOrder (gWs yX9_readsOrder cX9_readsOrder 3 none) { frames := 3, cells := 0, slots := 0, locals := 64 } (va_Pc [.ref (X.1 + c0), .int u1] (gB X m0)) (gQv X res) 0 0 (gA X) :=
  gMet (own := RX9) (by decide +kernel) rfl (Nat.le_of_ble_eq_true rfl) (fun p e s m args below meth c ls E hr hlocks hml hM hl => b_X9_readsOrder E hr hlocks hml (Nat.le_refl _) (Nat.le_refl _) (Nat.le_refl _) (Nat.le_refl _) hk0 hf hM va_S.rf hl)
def L_X9_readsText_14 (c0 : Nat) (k71 : Int32 → Int32 →  gMem → Option (Int32 × gMem)) : Nat → Int32 → Int32 → gMem → Option (Int32 × gMem)
  | 0, _, _, _ => none
  | n + 1, y1, y2, m0 => if y2 = (0 : Int32) then (k71 y1 y2 m0) else (g1 (f_X9_readsOrder c0 ((5 : Int32) * y1) m0) (fun r6 m4 => gv (y1 + (1 : Int32)) (fun x7 => if (m4 c0 16) = (0 : Int32) then (g1 (f_X9_here c0 m4) (fun r14 m12 => if r14 = (59 : Int32) then (if (1 : Int32) = (0 : Int32) then (gv (ms m12 c0 15 ((m12 c0 15) + (0 : Int32))) (fun m20 => L_X9_readsText_14 c0 k71 n x7 (1 : Int32) m20)) else (gv (ms m12 c0 15 ((m12 c0 15) + (1 : Int32))) (fun m21 => L_X9_readsText_14 c0 k71 n x7 (1 : Int32) m21))) else (if (0 : Int32) = (0 : Int32) then (gv (ms m12 c0 15 ((m12 c0 15) + (0 : Int32))) (fun m17 => L_X9_readsText_14 c0 k71 n x7 (0 : Int32) m17)) else (gv (ms m12 c0 15 ((m12 c0 15) + (1 : Int32))) (fun m18 => L_X9_readsText_14 c0 k71 n x7 (0 : Int32) m18))))) else (if (0 : Int32) = (0 : Int32) then (gv (ms m4 c0 15 ((m4 c0 15) + (0 : Int32))) (fun m10 => L_X9_readsText_14 c0 k71 n x7 (0 : Int32) m10)) else (gv (ms m4 c0 15 ((m4 c0 15) + (1 : Int32))) (fun m11 => L_X9_readsText_14 c0 k71 n x7 (0 : Int32) m11))))))
def f_X9_readsText (c0 : Nat) (m0 : gMem) : Option (Int32 × gMem) := gv (ms m0 c0 15 (0 : Int32)) (fun m1 => gv (ms m1 c0 16 (0 : Int32)) (fun m2 => L_X9_readsText_14 c0 (fun y22 y23 m24 => if (m24 c0 16) = (0 : Int32) then (if (m24 c0 7) ≤ (m24 c0 15) then (gv (ms m24 c0 16 (0 : Int32)) (fun m29 => gv (ms m29 c0 7 (0 : Int32)) (fun m30 => some (y22, m30)))) else (gv (ms m24 c0 16 (1 : Int32)) (fun m31 => gv (ms m31 c0 7 (0 : Int32)) (fun m32 => some (y22, m32))))) else (gv (ms m24 c0 16 (1 : Int32)) (fun m26 => gv (ms m26 c0 7 (0 : Int32)) (fun m27 => some (y22, m27))))) gF (0 : Int32) (1 : Int32) m2))
set_option maxRecDepth 100000 in
set_option maxHeartbeats 4000000 in
theorem l_X9_readsText_14 {p : Program} {l : Launch} {e : Env} {R : Room} {s : State} {m : MethodId} {args : Array Value} {below : List Frame} {meth : Method} {c : Code} {cells slots : Nat} {X : gX} (E : gEn p s m args c cX9_readsText RX9 X) (hr : meth.sig.returnType = (some .int)) (hlocks : meth.locks = false) (hml : c.maxLocals = 3) (hRf : 4 ≤ R.frames) (hRl : 86 ≤ R.locals) (hRc : 0 ≤ R.cells) (hRs : 0 ≤ R.slots) (hc : cells ≤ 0) (hs : slots ≤ 0) (c0 : Nat) (hk0 : gk c0 = 9) (k71 : Int32 → Int32 →  gMem → Option (Int32 × gMem)) {res : Int32 × gMem}
    (hk71 : ∀ (y1 : Int32) (y2 : Int32) (m0 : gMem) (H : Heap) (locs : List Loc) (ls : Array Slot), k71 y1 y2 m0 = some res → gM X m0 H → va_S (gA X) s.heap H locs → lv_has ls 3 [(0, .ref (X.1 + c0)), (1, .int y1), (2, .int y2)] → W p l e R s m args below meth c H locs cells slots (MQ below (gQi X res) args s 0 0 (gA X)) (F0 m 71 ls [])) :
    ∀ (n : Nat) (y1 : Int32) (y2 : Int32) (m0 : gMem) (H : Heap) (locs : List Loc) (ls : Array Slot), L_X9_readsText_14 c0 k71 n y1 y2 m0 = some res → gM X m0 H → va_S (gA X) s.heap H locs → lv_has ls 3 [(0, .ref (X.1 + c0)), (1, .int y1), (2, .int y2)] → W p l e R s m args below meth c H locs cells slots (MQ below (gQi X res) args s 0 0 (gA X)) (F0 m 14 ls []) := by
  obtain ⟨hx, hb⟩ := (⟨E.1, E.2.1⟩ : _ ∧ _)
  intro n
  induction n with
  | zero =>
    intro _ _ _ _ _ _ hf
    cases hf
  | succ n ih =>
    intro y1 y2 m0 H locs ls hf hM hS hl
    rw [L_X9_readsText_14] at hf
    refine lv_iload_n hx hb dX9_readsText_14 rfl (lv_at hl 2 rfl) ?_
    refine lv_if_eq (tgt := 71) hx hb dX9_readsText_15 (by decide) (fun h3 => ?_) (fun h3 => ?_)
    · have hf := g_t h3 hf
      exact hk71 y1 y2 m0 _ _ _ hf hM hS (lv_sub hl [0, 1, 2] rfl)
    · have hf := g_f h3 hf
      refine lv_aload_n hx hb dX9_readsText_18 rfl (lv_at hl 0 rfl) ?_
      refine lv_iconst (v := (5 : Int32)) hx hb dX9_readsText_19 (by decide) ?_
      refine lv_iload_n hx hb dX9_readsText_20 rfl (lv_at hl 1 rfl) ?_
      refine lv_imul hx hb dX9_readsText_21 ?_
      obtain ⟨r6, m4, hqq5, hf⟩ := g1_o hf
      refine ga_v (gr_V (As := [.int ((5 : Int32) * y1)]) (ci := 9) (rm := { frames := 3, cells := 0, slots := 0, locals := 64 }) E hml hl.1 (c_X9_readsOrder l X c0 ((5 : Int32) * y1) m0 hk0 hqq5) wt_X9_readsOrder wl_RX9_193 rfl hk0 (by decide) rfl rfl hM hS rfl rfl (Nat.le_trans (by decide) hRf) (Nat.le_trans (by decide) hRl) (Nat.le_trans hc hRc) (Nat.le_trans hs hRs) (Nat.le_of_ble_eq_true rfl) dX9_readsText_22 rfl) hS (fun H locs hM hS => ?_)
      obtain ⟨x7, ex7, hf⟩ := gv_o hf
      refine lv_iinc (v := x7) (lv' := [(1, .int x7), (0, .ref (X.1 + c0)), (2, .int y2)]) hx hb dX9_readsText_25 hl (k := 1) rfl (by rw [ex7]; rfl) (by decide) rfl (fun ls hl => ?_)
      refine lv_aload_n hx hb dX9_readsText_28 rfl (lv_at hl 1 rfl) ?_
      refine GX9_178 E hM hk0 dX9_readsText_29 ?_
      refine lv_if_ne (tgt := 48) hx hb dX9_readsText_32 (by decide) (fun h8 => ?_) (fun h8 => ?_)
      · have hf := g_f h8 hf
        refine lv_iconst (v := (0 : Int32)) hx hb dX9_readsText_48 (by decide) ?_
        refine lv_istore_n (lv' := [(2, .int (0 : Int32)), (1, .int x7), (0, .ref (X.1 + c0))]) hx hb dX9_readsText_49 rfl hl (by decide) rfl (fun ls hl => ?_)
        refine lv_aload_n hx hb dX9_readsText_50 rfl (lv_at hl 2 rfl) ?_
        refine lv_dup hx hb dX9_readsText_51 rfl ?_
        refine GX9_175 E hM hk0 dX9_readsText_52 ?_
        refine lv_iload_n hx hb dX9_readsText_55 rfl (lv_at hl 0 rfl) ?_
        refine lv_if_eq (tgt := 63) hx hb dX9_readsText_56 (by decide) (fun h9 => ?_) (fun h9 => ?_)
        · have hf := g_t h9 hf
          refine lv_iconst (v := (0 : Int32)) hx hb dX9_readsText_63 (by decide) ?_
          refine lv_iadd hx hb dX9_readsText_64 ?_
          obtain ⟨m10, em10, hf⟩ := gv_o hf
          refine PX9_175 E hM hS hk0 em10 dX9_readsText_65 (fun H locs hM hS => ?_)
          refine lv_goto (tgt := 14) hx hb dX9_readsText_68 (by decide) ?_
          exact ih x7 (0 : Int32) m10 _ _ _ hf hM hS (lv_sub hl [2, 1, 0] rfl)
        · have hf := g_f h9 hf
          refine lv_iconst (v := (1 : Int32)) hx hb dX9_readsText_59 (by decide) ?_
          refine lv_goto (tgt := 64) hx hb dX9_readsText_60 (by decide) ?_
          refine lv_iadd hx hb dX9_readsText_64 ?_
          obtain ⟨m11, em11, hf⟩ := gv_o hf
          refine PX9_175 E hM hS hk0 em11 dX9_readsText_65 (fun H locs hM hS => ?_)
          refine lv_goto (tgt := 14) hx hb dX9_readsText_68 (by decide) ?_
          exact ih x7 (0 : Int32) m11 _ _ _ hf hM hS (lv_sub hl [2, 1, 0] rfl)
      · have hf := g_t h8 hf
        refine lv_aload_n hx hb dX9_readsText_35 rfl (lv_at hl 1 rfl) ?_
        obtain ⟨r14, m12, hqq13, hf⟩ := g1_o hf
        refine ga_i (gr_V (As := []) (ci := 9) (rm := { frames := 0, cells := 0, slots := 0, locals := 0 }) E hml hl.1 (c_X9_here l X c0 m4 hk0 hqq13) wt_X9_here wl_RX9_181 rfl hk0 (by decide) rfl rfl hM hS rfl rfl (Nat.le_trans (by decide) hRf) (Nat.le_trans (by decide) hRl) (Nat.le_trans hc hRc) (Nat.le_trans hs hRs) (Nat.le_of_ble_eq_true rfl) dX9_readsText_36 rfl) hS (fun H locs hM hS => ?_)
        refine lv_bipush (v := (59 : Int32)) hx hb dX9_readsText_39 (by decide) ?_
        refine lv_icmp_ne (tgt := 48) hx hb dX9_readsText_41 (by decide) (fun h15 => ?_) (fun h15 => ?_)
        · have hf := g_f h15 hf
          refine lv_iconst (v := (0 : Int32)) hx hb dX9_readsText_48 (by decide) ?_
          refine lv_istore_n (lv' := [(2, .int (0 : Int32)), (1, .int x7), (0, .ref (X.1 + c0))]) hx hb dX9_readsText_49 rfl hl (by decide) rfl (fun ls hl => ?_)
          refine lv_aload_n hx hb dX9_readsText_50 rfl (lv_at hl 2 rfl) ?_
          refine lv_dup hx hb dX9_readsText_51 rfl ?_
          refine GX9_175 E hM hk0 dX9_readsText_52 ?_
          refine lv_iload_n hx hb dX9_readsText_55 rfl (lv_at hl 0 rfl) ?_
          refine lv_if_eq (tgt := 63) hx hb dX9_readsText_56 (by decide) (fun h16 => ?_) (fun h16 => ?_)
          · have hf := g_t h16 hf
            refine lv_iconst (v := (0 : Int32)) hx hb dX9_readsText_63 (by decide) ?_
            refine lv_iadd hx hb dX9_readsText_64 ?_
            obtain ⟨m17, em17, hf⟩ := gv_o hf
            refine PX9_175 E hM hS hk0 em17 dX9_readsText_65 (fun H locs hM hS => ?_)
            refine lv_goto (tgt := 14) hx hb dX9_readsText_68 (by decide) ?_
            exact ih x7 (0 : Int32) m17 _ _ _ hf hM hS (lv_sub hl [2, 1, 0] rfl)
          · have hf := g_f h16 hf
            refine lv_iconst (v := (1 : Int32)) hx hb dX9_readsText_59 (by decide) ?_
            refine lv_goto (tgt := 64) hx hb dX9_readsText_60 (by decide) ?_
            refine lv_iadd hx hb dX9_readsText_64 ?_
            obtain ⟨m18, em18, hf⟩ := gv_o hf
            refine PX9_175 E hM hS hk0 em18 dX9_readsText_65 (fun H locs hM hS => ?_)
            refine lv_goto (tgt := 14) hx hb dX9_readsText_68 (by decide) ?_
            exact ih x7 (0 : Int32) m18 _ _ _ hf hM hS (lv_sub hl [2, 1, 0] rfl)
        · have hf := g_t h15 hf
          refine lv_iconst (v := (1 : Int32)) hx hb dX9_readsText_44 (by decide) ?_
          refine lv_goto (tgt := 49) hx hb dX9_readsText_45 (by decide) ?_
          refine lv_istore_n (lv' := [(2, .int (1 : Int32)), (1, .int x7), (0, .ref (X.1 + c0))]) hx hb dX9_readsText_49 rfl hl (by decide) rfl (fun ls hl => ?_)
          refine lv_aload_n hx hb dX9_readsText_50 rfl (lv_at hl 2 rfl) ?_
          refine lv_dup hx hb dX9_readsText_51 rfl ?_
          refine GX9_175 E hM hk0 dX9_readsText_52 ?_
          refine lv_iload_n hx hb dX9_readsText_55 rfl (lv_at hl 0 rfl) ?_
          refine lv_if_eq (tgt := 63) hx hb dX9_readsText_56 (by decide) (fun h19 => ?_) (fun h19 => ?_)
          · have hf := g_t h19 hf
            refine lv_iconst (v := (0 : Int32)) hx hb dX9_readsText_63 (by decide) ?_
            refine lv_iadd hx hb dX9_readsText_64 ?_
            obtain ⟨m20, em20, hf⟩ := gv_o hf
            refine PX9_175 E hM hS hk0 em20 dX9_readsText_65 (fun H locs hM hS => ?_)
            refine lv_goto (tgt := 14) hx hb dX9_readsText_68 (by decide) ?_
            exact ih x7 (1 : Int32) m20 _ _ _ hf hM hS (lv_sub hl [2, 1, 0] rfl)
          · have hf := g_f h19 hf
            refine lv_iconst (v := (1 : Int32)) hx hb dX9_readsText_59 (by decide) ?_
            refine lv_goto (tgt := 64) hx hb dX9_readsText_60 (by decide) ?_
            refine lv_iadd hx hb dX9_readsText_64 ?_
            obtain ⟨m21, em21, hf⟩ := gv_o hf
            refine PX9_175 E hM hS hk0 em21 dX9_readsText_65 (fun H locs hM hS => ?_)
            refine lv_goto (tgt := 14) hx hb dX9_readsText_68 (by decide) ?_
            exact ih x7 (1 : Int32) m21 _ _ _ hf hM hS (lv_sub hl [2, 1, 0] rfl)
set_option maxRecDepth 100000 in
set_option maxHeartbeats 4000000 in
theorem b_X9_readsText {p : Program} {l : Launch} {e : Env} {R : Room} {s : State} {m : MethodId} {args : Array Value} {below : List Frame} {meth : Method} {c : Code} {H : Heap} {locs : List Loc} {ls : Array Slot} {X : gX} (E : gEn p s m args c cX9_readsText RX9 X) (hr : meth.sig.returnType = (some .int)) (hlocks : meth.locks = false) (hml : c.maxLocals = 3) (hRf : 4 ≤ R.frames) (hRl : 86 ≤ R.locals) (hRc : 0 ≤ R.cells) (hRs : 0 ≤ R.slots) {c0 : Nat} {m0 : gMem} {res : Int32 × gMem} (hk0 : gk c0 = 9) (hf : f_X9_readsText c0 m0 = some res) (hM : gM X m0 H) (hS : va_S (gA X) s.heap H locs) (hl : lv_has ls 3 [(0, .ref (X.1 + c0))]) : W p l e R s m args below meth c H locs 0 0 (MQ below (gQi X res) args s 0 0 (gA X)) (F0 m 0 ls []) := by
  obtain ⟨hx, hb⟩ := (⟨E.1, E.2.1⟩ : _ ∧ _)
  unfold f_X9_readsText at hf
  refine lv_aload_n hx hb dX9_readsText_0 rfl (lv_at hl 0 rfl) ?_
  refine lv_iconst (v := (0 : Int32)) hx hb dX9_readsText_1 (by decide) ?_
  obtain ⟨m1, em1, hf⟩ := gv_o hf
  refine PX9_175 E hM hS hk0 em1 dX9_readsText_2 (fun H locs hM hS => ?_)
  refine lv_aload_n hx hb dX9_readsText_5 rfl (lv_at hl 0 rfl) ?_
  refine lv_iconst (v := (0 : Int32)) hx hb dX9_readsText_6 (by decide) ?_
  obtain ⟨m2, em2, hf⟩ := gv_o hf
  refine PX9_178 E hM hS hk0 (Or.inl rfl) em2 dX9_readsText_7 (fun H locs hM hS => ?_)
  refine lv_iconst (v := (0 : Int32)) hx hb dX9_readsText_10 (by decide) ?_
  refine lv_istore_n (lv' := [(1, .int (0 : Int32)), (0, .ref (X.1 + c0))]) hx hb dX9_readsText_11 rfl hl (by decide) rfl (fun ls hl => ?_)
  refine lv_iconst (v := (1 : Int32)) hx hb dX9_readsText_12 (by decide) ?_
  refine lv_istore_n (lv' := [(2, .int (1 : Int32)), (1, .int (0 : Int32)), (0, .ref (X.1 + c0))]) hx hb dX9_readsText_13 rfl hl (by decide) rfl (fun ls hl => ?_)
  refine l_X9_readsText_14 E hr hlocks hml hRf hRl hRc hRs (Nat.le_of_ble_eq_true rfl) (Nat.le_of_ble_eq_true rfl) c0 hk0 _ (fun y22 y23 m24 H locs ls hf hM hS hl => ?_) gF (0 : Int32) (1 : Int32) m2 _ _ _ hf hM hS (lv_sub hl [2, 1, 0] rfl)
  refine lv_aload_n hx hb dX9_readsText_71 rfl (lv_at hl 0 rfl) ?_
  refine lv_aload_n hx hb dX9_readsText_72 rfl (lv_at hl 0 rfl) ?_
  refine GX9_178 E hM hk0 dX9_readsText_73 ?_
  refine lv_if_ne (tgt := 90) hx hb dX9_readsText_76 (by decide) (fun h25 => ?_) (fun h25 => ?_)
  · have hf := g_f h25 hf
    refine lv_iconst (v := (1 : Int32)) hx hb dX9_readsText_90 (by decide) ?_
    refine lv_goto (tgt := 95) hx hb dX9_readsText_91 (by decide) ?_
    obtain ⟨m26, em26, hf⟩ := gv_o hf
    refine PX9_178 E hM hS hk0 (Or.inr rfl) em26 dX9_readsText_95 (fun H locs hM hS => ?_)
    refine lv_aload_n hx hb dX9_readsText_98 rfl (lv_at hl 0 rfl) ?_
    refine lv_iconst (v := (0 : Int32)) hx hb dX9_readsText_99 (by decide) ?_
    obtain ⟨m27, em27, hf⟩ := gv_o hf
    refine PX9_172 E hM hS hk0 em27 dX9_readsText_100 (fun H locs hM hS => ?_)
    refine lv_iload_n hx hb dX9_readsText_103 rfl (lv_at hl 1 rfl) ?_
    exact ge_i E hr hlocks hf hM hS (Nat.le_of_ble_eq_true rfl) (Nat.le_of_ble_eq_true rfl) dX9_readsText_104
  · have hf := g_t h25 hf
    refine lv_aload_n hx hb dX9_readsText_79 rfl (lv_at hl 0 rfl) ?_
    refine GX9_175 E hM hk0 dX9_readsText_80 ?_
    refine lv_aload_n hx hb dX9_readsText_83 rfl (lv_at hl 0 rfl) ?_
    refine GX9_172 E hM hk0 dX9_readsText_84 ?_
    refine lv_icmp_ge (tgt := 94) hx hb dX9_readsText_87 (by decide) (fun h28 => ?_) (fun h28 => ?_)
    · have hf := g_t h28 hf
      refine lv_iconst (v := (0 : Int32)) hx hb dX9_readsText_94 (by decide) ?_
      obtain ⟨m29, em29, hf⟩ := gv_o hf
      refine PX9_178 E hM hS hk0 (Or.inl rfl) em29 dX9_readsText_95 (fun H locs hM hS => ?_)
      refine lv_aload_n hx hb dX9_readsText_98 rfl (lv_at hl 0 rfl) ?_
      refine lv_iconst (v := (0 : Int32)) hx hb dX9_readsText_99 (by decide) ?_
      obtain ⟨m30, em30, hf⟩ := gv_o hf
      refine PX9_172 E hM hS hk0 em30 dX9_readsText_100 (fun H locs hM hS => ?_)
      refine lv_iload_n hx hb dX9_readsText_103 rfl (lv_at hl 1 rfl) ?_
      exact ge_i E hr hlocks hf hM hS (Nat.le_of_ble_eq_true rfl) (Nat.le_of_ble_eq_true rfl) dX9_readsText_104
    · have hf := g_f h28 hf
      refine lv_iconst (v := (1 : Int32)) hx hb dX9_readsText_90 (by decide) ?_
      refine lv_goto (tgt := 95) hx hb dX9_readsText_91 (by decide) ?_
      obtain ⟨m31, em31, hf⟩ := gv_o hf
      refine PX9_178 E hM hS hk0 (Or.inr rfl) em31 dX9_readsText_95 (fun H locs hM hS => ?_)
      refine lv_aload_n hx hb dX9_readsText_98 rfl (lv_at hl 0 rfl) ?_
      refine lv_iconst (v := (0 : Int32)) hx hb dX9_readsText_99 (by decide) ?_
      obtain ⟨m32, em32, hf⟩ := gv_o hf
      refine PX9_172 E hM hS hk0 em32 dX9_readsText_100 (fun H locs hM hS => ?_)
      refine lv_iload_n hx hb dX9_readsText_103 rfl (lv_at hl 1 rfl) ?_
      exact ge_i E hr hlocks hf hM hS (Nat.le_of_ble_eq_true rfl) (Nat.le_of_ble_eq_true rfl) dX9_readsText_104
theorem c_X9_readsText (l : Launch) (X : gX) (c0 : Nat) (m0 : gMem) {res : Int32 × gMem} (hk0 : gk c0 = 9) (hf : f_X9_readsText c0 m0 = some res) : Met l yX9_readsText (gWs yX9_readsText cX9_readsText 3 (some .int)) { frames := 4, cells := 0, slots := 0, locals := 86 } (va_Pc [.ref (X.1 + c0)] (gB X m0)) (gQi X res) 0 0 (gA X) :=
  gMet (own := RX9) (by decide +kernel) rfl (Nat.le_of_ble_eq_true rfl) (fun p e s m args below meth c ls E hr hlocks hml hM hl => b_X9_readsText E hr hlocks hml (Nat.le_refl _) (Nat.le_refl _) (Nat.le_refl _) (Nat.le_refl _) hk0 hf hM va_S.rf hl)
def f_X9_does (c0 : Nat) (u1 : Int32) (m0 : gMem) : Option (Int32 × gMem) := if ¬ ((u1 + (1 : Int32)) < 0 ∨ gl (c0 + 6) ≤ (u1 + (1 : Int32)).toNatClampNeg) then gv ((m0 (c0 + 6) (u1 + (1 : Int32)).toNatClampNeg)) (fun x3 => if ¬ (u1 < 0 ∨ gl (c0 + 6) ≤ u1.toNatClampNeg) then if (m0 (c0 + 6) u1.toNatClampNeg) = (98 : Int32) then (if ¬ ((u1 + (2 : Int32)) < 0 ∨ gl (c0 + 6) ≤ (u1 + (2 : Int32)).toNatClampNeg) then g1 (f_X9_buys c0 x3 (m0 (c0 + 6) (u1 + (2 : Int32)).toNatClampNeg) m0) (fun r10 m8 => some (r10, m8)) else none) else (if (m0 (c0 + 6) u1.toNatClampNeg) = (108 : Int32) then (if ¬ ((u1 + (2 : Int32)) < 0 ∨ gl (c0 + 6) ≤ (u1 + (2 : Int32)).toNatClampNeg) then if ¬ ((u1 + (3 : Int32)) < 0 ∨ gl (c0 + 6) ≤ (u1 + (3 : Int32)).toNatClampNeg) then if ¬ ((u1 + (4 : Int32)) < 0 ∨ gl (c0 + 6) ≤ (u1 + (4 : Int32)).toNatClampNeg) then g1 (f_X9_lays c0 x3 (m0 (c0 + 6) (u1 + (2 : Int32)).toNatClampNeg) (m0 (c0 + 6) (u1 + (3 : Int32)).toNatClampNeg) (m0 (c0 + 6) (u1 + (4 : Int32)).toNatClampNeg) m0) (fun r17 m15 => some (r17, m15)) else none else none else none) else (if (m0 (c0 + 6) u1.toNatClampNeg) = (115 : Int32) then (if ¬ ((u1 + (2 : Int32)) < 0 ∨ gl (c0 + 6) ≤ (u1 + (2 : Int32)).toNatClampNeg) then g1 (f_X9_shows c0 x3 (m0 (c0 + 6) (u1 + (2 : Int32)).toNatClampNeg) m0) (fun r22 m20 => some (r22, m20)) else none) else (if (m0 (c0 + 6) u1.toNatClampNeg) = (116 : Int32) then (g1 (f_X9_takes c0 x3 m0) (fun r26 m24 => some (r26, m24))) else (g1 (f_X9_passes c0 x3 m0) (fun r29 m27 => some (r29, m27)))))) else none) else none
set_option maxRecDepth 100000 in
set_option maxHeartbeats 4000000 in
theorem b_X9_does {p : Program} {l : Launch} {e : Env} {R : Room} {s : State} {m : MethodId} {args : Array Value} {below : List Frame} {meth : Method} {c : Code} {H : Heap} {locs : List Loc} {ls : Array Slot} {X : gX} (E : gEn p s m args c cX9_does RX9 X) (hr : meth.sig.returnType = (some .int)) (hlocks : meth.locks = false) (hml : c.maxLocals = 3) (hRf : 6 ≤ R.frames) (hRl : 138 ≤ R.locals) (hRc : 0 ≤ R.cells) (hRs : 0 ≤ R.slots) {c0 : Nat} {u1 : Int32} {m0 : gMem} {res : Int32 × gMem} (hk0 : gk c0 = 9) (hf : f_X9_does c0 u1 m0 = some res) (hM : gM X m0 H) (hS : va_S (gA X) s.heap H locs) (hl : lv_has ls 3 [(0, .ref (X.1 + c0)), (1, .int u1)]) : W p l e R s m args below meth c H locs 0 0 (MQ below (gQi X res) args s 0 0 (gA X)) (F0 m 0 ls []) := by
  obtain ⟨hx, hb⟩ := (⟨E.1, E.2.1⟩ : _ ∧ _)
  unfold f_X9_does at hf
  refine lv_aload_n hx hb dX9_does_0 rfl (lv_at hl 0 rfl) ?_
  refine GX9_30 E hM hk0 dX9_does_1 ?_
  have hg1 : gk (c0 + 6) = 20 := gkf_9_17 hk0
  refine lv_iload_n hx hb dX9_does_4 rfl (lv_at hl 1 rfl) ?_
  refine lv_iconst (v := (1 : Int32)) hx hb dX9_does_5 (by decide) ?_
  refine lv_iadd hx hb dX9_does_6 ?_
  obtain ⟨hi2, hf⟩ := g_ck hf
  refine gg_iald E hM (gk_in hg1 (by decide)) hg1 hi2 dX9_does_7 ?_
  obtain ⟨x3, ex3, hf⟩ := gv_o hf
  rw [← ex3]
  refine lv_istore_n (lv' := [(2, .int x3), (0, .ref (X.1 + c0)), (1, .int u1)]) hx hb dX9_does_8 rfl hl (by decide) rfl (fun ls hl => ?_)
  refine lv_aload_n hx hb dX9_does_9 rfl (lv_at hl 1 rfl) ?_
  refine GX9_30 E hM hk0 dX9_does_10 ?_
  refine lv_iload_n hx hb dX9_does_13 rfl (lv_at hl 2 rfl) ?_
  obtain ⟨hi4, hf⟩ := g_ck hf
  refine gg_iald E hM (gk_in hg1 (by decide)) hg1 hi4 dX9_does_14 ?_
  by_cases h6 : (m0 (c0 + 6) u1.toNatClampNeg) = (98 : Int32)
  · have hf := g_t h6 hf
    refine lv_lookup (tgt := 56) (off := 41) hx hb dX9_does_15 (by decide) (by rw [h6]; decide) (by decide) ?_
    refine lv_aload_n hx hb dX9_does_56 rfl (lv_at hl 1 rfl) ?_
    refine lv_iload_n hx hb dX9_does_57 rfl (lv_at hl 0 rfl) ?_
    refine lv_aload_n hx hb dX9_does_58 rfl (lv_at hl 1 rfl) ?_
    refine GX9_30 E hM hk0 dX9_does_59 ?_
    refine lv_iload_n hx hb dX9_does_62 rfl (lv_at hl 2 rfl) ?_
    refine lv_iconst (v := (2 : Int32)) hx hb dX9_does_63 (by decide) ?_
    refine lv_iadd hx hb dX9_does_64 ?_
    obtain ⟨hi7, hf⟩ := g_ck hf
    refine gg_iald E hM (gk_in hg1 (by decide)) hg1 hi7 dX9_does_65 ?_
    obtain ⟨r10, m8, hqq9, hf⟩ := g1_o hf
    refine ga_i (gr_V (As := [.int x3, .int (m0 (c0 + 6) (u1 + (2 : Int32)).toNatClampNeg)]) (ci := 9) (rm := { frames := 2, cells := 0, slots := 0, locals := 42 }) E hml hl.1 (c_X9_buys l X c0 x3 (m0 (c0 + 6) (u1 + (2 : Int32)).toNatClampNeg) m0 hk0 hqq9) wt_X9_buys wl_RX9_81 rfl hk0 (by decide) rfl rfl hM hS rfl rfl (Nat.le_trans (by decide) hRf) (Nat.le_trans (by decide) hRl) (Nat.le_trans (Nat.le_of_ble_eq_true rfl) hRc) (Nat.le_trans (Nat.le_of_ble_eq_true rfl) hRs) (Nat.le_of_ble_eq_true rfl) dX9_does_66 rfl) hS (fun H locs hM hS => ?_)
    exact ge_i E hr hlocks hf hM hS (Nat.le_of_ble_eq_true rfl) (Nat.le_of_ble_eq_true rfl) dX9_does_69
  have hf := g_f h6 hf
  by_cases h11 : (m0 (c0 + 6) u1.toNatClampNeg) = (108 : Int32)
  · have hf := g_t h11 hf
    refine lv_lookup (tgt := 70) (off := 55) hx hb dX9_does_15 (by decide) (by rw [h11]; decide) (by decide) ?_
    refine lv_aload_n hx hb dX9_does_70 rfl (lv_at hl 1 rfl) ?_
    refine lv_iload_n hx hb dX9_does_71 rfl (lv_at hl 0 rfl) ?_
    refine lv_aload_n hx hb dX9_does_72 rfl (lv_at hl 1 rfl) ?_
    refine GX9_30 E hM hk0 dX9_does_73 ?_
    refine lv_iload_n hx hb dX9_does_76 rfl (lv_at hl 2 rfl) ?_
    refine lv_iconst (v := (2 : Int32)) hx hb dX9_does_77 (by decide) ?_
    refine lv_iadd hx hb dX9_does_78 ?_
    obtain ⟨hi12, hf⟩ := g_ck hf
    refine gg_iald E hM (gk_in hg1 (by decide)) hg1 hi12 dX9_does_79 ?_
    refine lv_aload_n hx hb dX9_does_80 rfl (lv_at hl 1 rfl) ?_
    refine GX9_30 E hM hk0 dX9_does_81 ?_
    refine lv_iload_n hx hb dX9_does_84 rfl (lv_at hl 2 rfl) ?_
    refine lv_iconst (v := (3 : Int32)) hx hb dX9_does_85 (by decide) ?_
    refine lv_iadd hx hb dX9_does_86 ?_
    obtain ⟨hi13, hf⟩ := g_ck hf
    refine gg_iald E hM (gk_in hg1 (by decide)) hg1 hi13 dX9_does_87 ?_
    refine lv_aload_n hx hb dX9_does_88 rfl (lv_at hl 1 rfl) ?_
    refine GX9_30 E hM hk0 dX9_does_89 ?_
    refine lv_iload_n hx hb dX9_does_92 rfl (lv_at hl 2 rfl) ?_
    refine lv_iconst (v := (4 : Int32)) hx hb dX9_does_93 (by decide) ?_
    refine lv_iadd hx hb dX9_does_94 ?_
    obtain ⟨hi14, hf⟩ := g_ck hf
    refine gg_iald E hM (gk_in hg1 (by decide)) hg1 hi14 dX9_does_95 ?_
    obtain ⟨r17, m15, hqq16, hf⟩ := g1_o hf
    refine ga_i (gr_V (As := [.int x3, .int (m0 (c0 + 6) (u1 + (2 : Int32)).toNatClampNeg), .int (m0 (c0 + 6) (u1 + (3 : Int32)).toNatClampNeg), .int (m0 (c0 + 6) (u1 + (4 : Int32)).toNatClampNeg)]) (ci := 9) (rm := { frames := 4, cells := 0, slots := 0, locals := 97 }) E hml hl.1 (c_X9_lays l X c0 x3 (m0 (c0 + 6) (u1 + (2 : Int32)).toNatClampNeg) (m0 (c0 + 6) (u1 + (3 : Int32)).toNatClampNeg) (m0 (c0 + 6) (u1 + (4 : Int32)).toNatClampNeg) m0 hk0 hqq16) wt_X9_lays wl_RX9_120 rfl hk0 (by decide) rfl rfl hM hS rfl rfl (Nat.le_trans (by decide) hRf) (Nat.le_trans (by decide) hRl) (Nat.le_trans (Nat.le_of_ble_eq_true rfl) hRc) (Nat.le_trans (Nat.le_of_ble_eq_true rfl) hRs) (Nat.le_of_ble_eq_true rfl) dX9_does_96 rfl) hS (fun H locs hM hS => ?_)
    exact ge_i E hr hlocks hf hM hS (Nat.le_of_ble_eq_true rfl) (Nat.le_of_ble_eq_true rfl) dX9_does_99
  have hf := g_f h11 hf
  by_cases h18 : (m0 (c0 + 6) u1.toNatClampNeg) = (115 : Int32)
  · have hf := g_t h18 hf
    refine lv_lookup (tgt := 106) (off := 91) hx hb dX9_does_15 (by decide) (by rw [h18]; decide) (by decide) ?_
    refine lv_aload_n hx hb dX9_does_106 rfl (lv_at hl 1 rfl) ?_
    refine lv_iload_n hx hb dX9_does_107 rfl (lv_at hl 0 rfl) ?_
    refine lv_aload_n hx hb dX9_does_108 rfl (lv_at hl 1 rfl) ?_
    refine GX9_30 E hM hk0 dX9_does_109 ?_
    refine lv_iload_n hx hb dX9_does_112 rfl (lv_at hl 2 rfl) ?_
    refine lv_iconst (v := (2 : Int32)) hx hb dX9_does_113 (by decide) ?_
    refine lv_iadd hx hb dX9_does_114 ?_
    obtain ⟨hi19, hf⟩ := g_ck hf
    refine gg_iald E hM (gk_in hg1 (by decide)) hg1 hi19 dX9_does_115 ?_
    obtain ⟨r22, m20, hqq21, hf⟩ := g1_o hf
    refine ga_i (gr_V (As := [.int x3, .int (m0 (c0 + 6) (u1 + (2 : Int32)).toNatClampNeg)]) (ci := 9) (rm := { frames := 2, cells := 0, slots := 0, locals := 43 }) E hml hl.1 (c_X9_shows l X c0 x3 (m0 (c0 + 6) (u1 + (2 : Int32)).toNatClampNeg) m0 hk0 hqq21) wt_X9_shows wl_RX9_152 rfl hk0 (by decide) rfl rfl hM hS rfl rfl (Nat.le_trans (by decide) hRf) (Nat.le_trans (by decide) hRl) (Nat.le_trans (Nat.le_of_ble_eq_true rfl) hRc) (Nat.le_trans (Nat.le_of_ble_eq_true rfl) hRs) (Nat.le_of_ble_eq_true rfl) dX9_does_116 rfl) hS (fun H locs hM hS => ?_)
    exact ge_i E hr hlocks hf hM hS (Nat.le_of_ble_eq_true rfl) (Nat.le_of_ble_eq_true rfl) dX9_does_119
  have hf := g_f h18 hf
  by_cases h23 : (m0 (c0 + 6) u1.toNatClampNeg) = (116 : Int32)
  · have hf := g_t h23 hf
    refine lv_lookup (tgt := 100) (off := 85) hx hb dX9_does_15 (by decide) (by rw [h23]; decide) (by decide) ?_
    refine lv_aload_n hx hb dX9_does_100 rfl (lv_at hl 1 rfl) ?_
    refine lv_iload_n hx hb dX9_does_101 rfl (lv_at hl 0 rfl) ?_
    obtain ⟨r26, m24, hqq25, hf⟩ := g1_o hf
    refine ga_i (gr_V (As := [.int x3]) (ci := 9) (rm := { frames := 2, cells := 0, slots := 0, locals := 43 }) E hml hl.1 (c_X9_takes l X c0 x3 m0 hk0 hqq25) wt_X9_takes wl_RX9_124 rfl hk0 (by decide) rfl rfl hM hS rfl rfl (Nat.le_trans (by decide) hRf) (Nat.le_trans (by decide) hRl) (Nat.le_trans (Nat.le_of_ble_eq_true rfl) hRc) (Nat.le_trans (Nat.le_of_ble_eq_true rfl) hRs) (Nat.le_of_ble_eq_true rfl) dX9_does_102 rfl) hS (fun H locs hM hS => ?_)
    exact ge_i E hr hlocks hf hM hS (Nat.le_of_ble_eq_true rfl) (Nat.le_of_ble_eq_true rfl) dX9_does_105
  have hf := g_f h23 hf
  have ah6 := g_tn (z := 98) h6 rfl
  have ah11 := g_tn (z := 108) h11 rfl
  have ah18 := g_tn (z := 115) h18 rfl
  have ah23 := g_tn (z := 116) h23 rfl
  refine lv_lookup (tgt := 120) (off := 105) hx hb dX9_does_15 (by decide) (by simp [Op.lookupswitch.offset, ah6, ah11, ah18, ah23]) (by decide) ?_
  refine lv_aload_n hx hb dX9_does_120 rfl (lv_at hl 1 rfl) ?_
  refine lv_iload_n hx hb dX9_does_121 rfl (lv_at hl 0 rfl) ?_
  obtain ⟨r29, m27, hqq28, hf⟩ := g1_o hf
  refine ga_i (gr_V (As := [.int x3]) (ci := 9) (rm := { frames := 5, cells := 0, slots := 0, locals := 115 }) E hml hl.1 (c_X9_passes l X c0 x3 m0 hk0 hqq28) wt_X9_passes wl_RX9_169 rfl hk0 (by decide) rfl rfl hM hS rfl rfl (Nat.le_trans (by decide) hRf) (Nat.le_trans (by decide) hRl) (Nat.le_trans (Nat.le_of_ble_eq_true rfl) hRc) (Nat.le_trans (Nat.le_of_ble_eq_true rfl) hRs) (Nat.le_of_ble_eq_true rfl) dX9_does_122 rfl) hS (fun H locs hM hS => ?_)
  exact ge_i E hr hlocks hf hM hS (Nat.le_of_ble_eq_true rfl) (Nat.le_of_ble_eq_true rfl) dX9_does_125
theorem c_X9_does (l : Launch) (X : gX) (c0 : Nat) (u1 : Int32) (m0 : gMem) {res : Int32 × gMem} (hk0 : gk c0 = 9) (hf : f_X9_does c0 u1 m0 = some res) : Met l yX9_does (gWs yX9_does cX9_does 3 (some .int)) { frames := 6, cells := 0, slots := 0, locals := 138 } (va_Pc [.ref (X.1 + c0), .int u1] (gB X m0)) (gQi X res) 0 0 (gA X) :=
  gMet (own := RX9) (by decide +kernel) rfl (Nat.le_of_ble_eq_true rfl) (fun p e s m args below meth c ls E hr hlocks hml hM hl => b_X9_does E hr hlocks hml (Nat.le_refl _) (Nat.le_refl _) (Nat.le_refl _) (Nat.le_refl _) hk0 hf hM va_S.rf hl)
def L_X9_read_43 (c0 : Nat) (u1 : Int32) : Nat → Int32 → gMem → Option (Int32 × gMem)
  | 0, _, _ => none
  | n + 1, y2, m0 => if u1 ≤ y2 then (g1 (f_X9_done c0 u1 m0) (fun r13 m11 => g1 (f_X9_kept c0 r13 m11) (fun r16 m14 => some (r16, m14)))) else (g1 (f_X9_does c0 ((5 : Int32) * y2) m0) (fun r19 m17 => if (m17 c0 12) = (0 : Int32) then (gv (y2 + (1 : Int32)) (fun x21 => L_X9_read_43 c0 u1 n x21 m17)) else (if (m17 c0 11) = (0 : Int32) then (gv (ms m17 c0 12 (1 : Int32)) (fun m23 => g1 (f_X9_kept c0 (0 : Int32) m23) (fun r26 m24 => some (r26, m24)))) else (gv (ms m17 c0 12 (2 : Int32)) (fun m27 => g1 (f_X9_kept c0 (0 : Int32) m27) (fun r30 m28 => some (r30, m28)))))))
def f_X9_read (c0 : Nat) (m0 : gMem) : Option (Int32 × gMem) := g1 (f_X9_readsText c0 m0) (fun r3 m1 => if (m1 c0 16) = (0 : Int32) then (gv (ms m1 c0 8 (-1 : Int32)) (fun m5 => if (m5 c0 16) = (0 : Int32) then (g1 (f_X9_looksBack c0 m5) (fun r9 m7 => L_X9_read_43 c0 r3 gF (0 : Int32) m7)) else (g1 (f_X9_fails c0 (1 : Int32) m5) (fun r33 m31 => some (r33, m31))))) else (gv (ms m1 c0 8 (m1 c0 15)) (fun m34 => if (m34 c0 16) = (0 : Int32) then (g1 (f_X9_looksBack c0 m34) (fun r38 m36 => L_X9_read_43 c0 r3 gF (0 : Int32) m36)) else (g1 (f_X9_fails c0 (1 : Int32) m34) (fun r41 m39 => some (r41, m39))))))
set_option maxRecDepth 100000 in
set_option maxHeartbeats 4000000 in
theorem l_X9_read_43 {p : Program} {l : Launch} {e : Env} {R : Room} {s : State} {m : MethodId} {args : Array Value} {below : List Frame} {meth : Method} {c : Code} {cells slots : Nat} {X : gX} (E : gEn p s m args c cX9_read RX9 X) (hr : meth.sig.returnType = (some .int)) (hlocks : meth.locks = false) (hml : c.maxLocals = 4) (hRf : 7 ≤ R.frames) (hRl : 160 ≤ R.locals) (hRc : 0 ≤ R.cells) (hRs : 0 ≤ R.slots) (hc : cells ≤ 0) (hs : slots ≤ 0) (c0 : Nat) (u1 : Int32) (hk0 : gk c0 = 9) {res : Int32 × gMem} :
    ∀ (n : Nat) (y2 : Int32) (m0 : gMem) (H : Heap) (locs : List Loc) (ls : Array Slot), L_X9_read_43 c0 u1 n y2 m0 = some res → gM X m0 H → va_S (gA X) s.heap H locs → lv_has ls 4 [(0, .ref (X.1 + c0)), (1, .int u1), (2, .int y2)] → W p l e R s m args below meth c H locs cells slots (MQ below (gQi X res) args s 0 0 (gA X)) (F0 m 43 ls []) := by
  obtain ⟨hx, hb⟩ := (⟨E.1, E.2.1⟩ : _ ∧ _)
  intro n
  induction n with
  | zero =>
    intro _ _ _ _ _ hf
    cases hf
  | succ n ih =>
    intro y2 m0 H locs ls hf hM hS hl
    rw [L_X9_read_43] at hf
    refine lv_iload_n hx hb dX9_read_43 rfl (lv_at hl 2 rfl) ?_
    refine lv_iload_n hx hb dX9_read_44 rfl (lv_at hl 1 rfl) ?_
    refine lv_icmp_ge (tgt := 91) hx hb dX9_read_45 (by decide) (fun h10 => ?_) (fun h10 => ?_)
    · have hf := g_t h10 hf
      refine lv_aload_n hx hb dX9_read_91 rfl (lv_at hl 0 rfl) ?_
      refine lv_aload_n hx hb dX9_read_92 rfl (lv_at hl 0 rfl) ?_
      refine lv_iload_n hx hb dX9_read_93 rfl (lv_at hl 1 rfl) ?_
      obtain ⟨r13, m11, hqq12, hf⟩ := g1_o hf
      refine ga_i (gr_V (As := [.int u1]) (ci := 9) (rm := { frames := 0, cells := 0, slots := 0, locals := 0 }) E hml hl.1 (c_X9_done l X c0 u1 m0 hk0 hqq12) wt_X9_done wl_RX9_64 rfl hk0 (by decide) rfl rfl hM hS rfl rfl (Nat.le_trans (by decide) hRf) (Nat.le_trans (by decide) hRl) (Nat.le_trans hc hRc) (Nat.le_trans hs hRs) (Nat.le_of_ble_eq_true rfl) dX9_read_94 rfl) hS (fun H locs hM hS => ?_)
      obtain ⟨r16, m14, hqq15, hf⟩ := g1_o hf
      refine ga_i (gr_V (As := [.int r13]) (ci := 9) (rm := { frames := 1, cells := 0, slots := 0, locals := 24 }) E hml hl.1 (c_X9_kept l X c0 r13 m11 hk0 hqq15) wt_X9_kept wl_RX9_67 rfl hk0 (by decide) rfl rfl hM hS rfl rfl (Nat.le_trans (by decide) hRf) (Nat.le_trans (by decide) hRl) (Nat.le_trans hc hRc) (Nat.le_trans hs hRs) (Nat.le_of_ble_eq_true rfl) dX9_read_97 rfl) hS (fun H locs hM hS => ?_)
      exact ge_i E hr hlocks hf hM hS hc hs dX9_read_100
    · have hf := g_f h10 hf
      refine lv_aload_n hx hb dX9_read_48 rfl (lv_at hl 0 rfl) ?_
      refine lv_iconst (v := (5 : Int32)) hx hb dX9_read_49 (by decide) ?_
      refine lv_iload_n hx hb dX9_read_50 rfl (lv_at hl 2 rfl) ?_
      refine lv_imul hx hb dX9_read_51 ?_
      obtain ⟨r19, m17, hqq18, hf⟩ := g1_o hf
      refine ga_i (gr_V (As := [.int ((5 : Int32) * y2)]) (ci := 9) (rm := { frames := 6, cells := 0, slots := 0, locals := 138 }) E hml hl.1 (c_X9_does l X c0 ((5 : Int32) * y2) m0 hk0 hqq18) wt_X9_does wl_RX9_199 rfl hk0 (by decide) rfl rfl hM hS rfl rfl (Nat.le_trans (by decide) hRf) (Nat.le_trans (by decide) hRl) (Nat.le_trans hc hRc) (Nat.le_trans hs hRs) (Nat.le_of_ble_eq_true rfl) dX9_read_52 rfl) hS (fun H locs hM hS => ?_)
      refine lv_istore_n (lv' := [(3, .int r19), (0, .ref (X.1 + c0)), (1, .int u1), (2, .int y2)]) hx hb dX9_read_55 rfl hl (by decide) rfl (fun ls hl => ?_)
      refine lv_aload_n hx hb dX9_read_56 rfl (lv_at hl 1 rfl) ?_
      refine GX9_33 E hM hk0 dX9_read_57 ?_
      refine lv_if_eq (tgt := 85) hx hb dX9_read_60 (by decide) (fun h20 => ?_) (fun h20 => ?_)
      · have hf := g_t h20 hf
        obtain ⟨x21, ex21, hf⟩ := gv_o hf
        refine lv_iinc (v := x21) (lv' := [(2, .int x21), (3, .int r19), (0, .ref (X.1 + c0)), (1, .int u1)]) hx hb dX9_read_85 hl (k := 3) rfl (by rw [ex21]; rfl) (by decide) rfl (fun ls hl => ?_)
        refine lv_goto (tgt := 43) hx hb dX9_read_88 (by decide) ?_
        exact ih x21 m17 _ _ _ hf hM hS (lv_sub hl [2, 3, 0] rfl)
      · have hf := g_f h20 hf
        refine lv_aload_n hx hb dX9_read_63 rfl (lv_at hl 1 rfl) ?_
        refine lv_aload_n hx hb dX9_read_64 rfl (lv_at hl 1 rfl) ?_
        refine GX9_36 E hM hk0 dX9_read_65 ?_
        refine lv_if_eq (tgt := 75) hx hb dX9_read_68 (by decide) (fun h22 => ?_) (fun h22 => ?_)
        · have hf := g_t h22 hf
          refine lv_iconst (v := (1 : Int32)) hx hb dX9_read_75 (by decide) ?_
          obtain ⟨m23, em23, hf⟩ := gv_o hf
          refine PX9_33 E hM hS hk0 em23 dX9_read_76 (fun H locs hM hS => ?_)
          refine lv_aload_n hx hb dX9_read_79 rfl (lv_at hl 1 rfl) ?_
          refine lv_iconst (v := (0 : Int32)) hx hb dX9_read_80 (by decide) ?_
          obtain ⟨r26, m24, hqq25, hf⟩ := g1_o hf
          refine ga_i (gr_V (As := [.int (0 : Int32)]) (ci := 9) (rm := { frames := 1, cells := 0, slots := 0, locals := 24 }) E hml hl.1 (c_X9_kept l X c0 (0 : Int32) m23 hk0 hqq25) wt_X9_kept wl_RX9_67 rfl hk0 (by decide) rfl rfl hM hS rfl rfl (Nat.le_trans (by decide) hRf) (Nat.le_trans (by decide) hRl) (Nat.le_trans hc hRc) (Nat.le_trans hs hRs) (Nat.le_of_ble_eq_true rfl) dX9_read_81 rfl) hS (fun H locs hM hS => ?_)
          exact ge_i E hr hlocks hf hM hS hc hs dX9_read_84
        · have hf := g_f h22 hf
          refine lv_iconst (v := (2 : Int32)) hx hb dX9_read_71 (by decide) ?_
          refine lv_goto (tgt := 76) hx hb dX9_read_72 (by decide) ?_
          obtain ⟨m27, em27, hf⟩ := gv_o hf
          refine PX9_33 E hM hS hk0 em27 dX9_read_76 (fun H locs hM hS => ?_)
          refine lv_aload_n hx hb dX9_read_79 rfl (lv_at hl 1 rfl) ?_
          refine lv_iconst (v := (0 : Int32)) hx hb dX9_read_80 (by decide) ?_
          obtain ⟨r30, m28, hqq29, hf⟩ := g1_o hf
          refine ga_i (gr_V (As := [.int (0 : Int32)]) (ci := 9) (rm := { frames := 1, cells := 0, slots := 0, locals := 24 }) E hml hl.1 (c_X9_kept l X c0 (0 : Int32) m27 hk0 hqq29) wt_X9_kept wl_RX9_67 rfl hk0 (by decide) rfl rfl hM hS rfl rfl (Nat.le_trans (by decide) hRf) (Nat.le_trans (by decide) hRl) (Nat.le_trans hc hRc) (Nat.le_trans hs hRs) (Nat.le_of_ble_eq_true rfl) dX9_read_81 rfl) hS (fun H locs hM hS => ?_)
          exact ge_i E hr hlocks hf hM hS hc hs dX9_read_84
set_option maxRecDepth 100000 in
set_option maxHeartbeats 4000000 in
theorem b_X9_read {p : Program} {l : Launch} {e : Env} {R : Room} {s : State} {m : MethodId} {args : Array Value} {below : List Frame} {meth : Method} {c : Code} {H : Heap} {locs : List Loc} {ls : Array Slot} {X : gX} (E : gEn p s m args c cX9_read RX9 X) (hr : meth.sig.returnType = (some .int)) (hlocks : meth.locks = false) (hml : c.maxLocals = 4) (hRf : 7 ≤ R.frames) (hRl : 160 ≤ R.locals) (hRc : 0 ≤ R.cells) (hRs : 0 ≤ R.slots) {c0 : Nat} {m0 : gMem} {res : Int32 × gMem} (hk0 : gk c0 = 9) (hf : f_X9_read c0 m0 = some res) (hM : gM X m0 H) (hS : va_S (gA X) s.heap H locs) (hl : lv_has ls 4 [(0, .ref (X.1 + c0))]) : W p l e R s m args below meth c H locs 0 0 (MQ below (gQi X res) args s 0 0 (gA X)) (F0 m 0 ls []) := by
  obtain ⟨hx, hb⟩ := (⟨E.1, E.2.1⟩ : _ ∧ _)
  unfold f_X9_read at hf
  refine lv_aload_n hx hb dX9_read_0 rfl (lv_at hl 0 rfl) ?_
  obtain ⟨r3, m1, hqq2, hf⟩ := g1_o hf
  refine ga_i (gr_V (As := []) (ci := 9) (rm := { frames := 4, cells := 0, slots := 0, locals := 86 }) E hml hl.1 (c_X9_readsText l X c0 m0 hk0 hqq2) wt_X9_readsText wl_RX9_196 rfl hk0 (by decide) rfl rfl hM hS rfl rfl (Nat.le_trans (by decide) hRf) (Nat.le_trans (by decide) hRl) (Nat.le_trans (Nat.le_of_ble_eq_true rfl) hRc) (Nat.le_trans (Nat.le_of_ble_eq_true rfl) hRs) (Nat.le_of_ble_eq_true rfl) dX9_read_1 rfl) hS (fun H locs hM hS => ?_)
  refine lv_istore_n (lv' := [(1, .int r3), (0, .ref (X.1 + c0))]) hx hb dX9_read_4 rfl hl (by decide) rfl (fun ls hl => ?_)
  refine lv_aload_n hx hb dX9_read_5 rfl (lv_at hl 1 rfl) ?_
  refine lv_aload_n hx hb dX9_read_6 rfl (lv_at hl 1 rfl) ?_
  refine GX9_178 E hM hk0 dX9_read_7 ?_
  refine lv_if_eq (tgt := 20) hx hb dX9_read_10 (by decide) (fun h4 => ?_) (fun h4 => ?_)
  · have hf := g_t h4 hf
    refine lv_iconst (v := (-1 : Int32)) hx hb dX9_read_20 (by decide) ?_
    obtain ⟨m5, em5, hf⟩ := gv_o hf
    refine PX9_26 E hM hS hk0 em5 dX9_read_21 (fun H locs hM hS => ?_)
    refine lv_aload_n hx hb dX9_read_24 rfl (lv_at hl 1 rfl) ?_
    refine GX9_178 E hM hk0 dX9_read_25 ?_
    refine lv_if_eq (tgt := 37) hx hb dX9_read_28 (by decide) (fun h6 => ?_) (fun h6 => ?_)
    · have hf := g_t h6 hf
      refine lv_aload_n hx hb dX9_read_37 rfl (lv_at hl 1 rfl) ?_
      obtain ⟨r9, m7, hqq8, hf⟩ := g1_o hf
      refine ga_v (gr_V (As := []) (ci := 9) (rm := { frames := 1, cells := 0, slots := 0, locals := 24 }) E hml hl.1 (c_X9_looksBack l X c0 m5 hk0 hqq8) wt_X9_looksBack wl_RX9_61 rfl hk0 (by decide) rfl rfl hM hS rfl rfl (Nat.le_trans (by decide) hRf) (Nat.le_trans (by decide) hRl) (Nat.le_trans (Nat.le_of_ble_eq_true rfl) hRc) (Nat.le_trans (Nat.le_of_ble_eq_true rfl) hRs) (Nat.le_of_ble_eq_true rfl) dX9_read_38 rfl) hS (fun H locs hM hS => ?_)
      refine lv_iconst (v := (0 : Int32)) hx hb dX9_read_41 (by decide) ?_
      refine lv_istore_n (lv' := [(2, .int (0 : Int32)), (1, .int r3), (0, .ref (X.1 + c0))]) hx hb dX9_read_42 rfl hl (by decide) rfl (fun ls hl => ?_)
      refine l_X9_read_43 E hr hlocks hml hRf hRl hRc hRs (Nat.le_of_ble_eq_true rfl) (Nat.le_of_ble_eq_true rfl) c0 r3 hk0 gF (0 : Int32) m7 _ _ _ hf hM hS (lv_sub hl [2, 1, 0] rfl)
    · have hf := g_f h6 hf
      refine lv_aload_n hx hb dX9_read_31 rfl (lv_at hl 1 rfl) ?_
      refine lv_iconst (v := (1 : Int32)) hx hb dX9_read_32 (by decide) ?_
      obtain ⟨r33, m31, hqq32, hf⟩ := g1_o hf
      refine ga_i (gr_V (As := [.int (1 : Int32)]) (ci := 9) (rm := { frames := 0, cells := 0, slots := 0, locals := 0 }) E hml hl.1 (c_X9_fails l X c0 (1 : Int32) m5 hk0 hqq32) wt_X9_fails wl_RX9_57 rfl hk0 (by decide) rfl rfl hM hS rfl rfl (Nat.le_trans (by decide) hRf) (Nat.le_trans (by decide) hRl) (Nat.le_trans (Nat.le_of_ble_eq_true rfl) hRc) (Nat.le_trans (Nat.le_of_ble_eq_true rfl) hRs) (Nat.le_of_ble_eq_true rfl) dX9_read_33 rfl) hS (fun H locs hM hS => ?_)
      exact ge_i E hr hlocks hf hM hS (Nat.le_of_ble_eq_true rfl) (Nat.le_of_ble_eq_true rfl) dX9_read_36
  · have hf := g_f h4 hf
    refine lv_aload_n hx hb dX9_read_13 rfl (lv_at hl 1 rfl) ?_
    refine GX9_175 E hM hk0 dX9_read_14 ?_
    refine lv_goto (tgt := 21) hx hb dX9_read_17 (by decide) ?_
    obtain ⟨m34, em34, hf⟩ := gv_o hf
    refine PX9_26 E hM hS hk0 em34 dX9_read_21 (fun H locs hM hS => ?_)
    refine lv_aload_n hx hb dX9_read_24 rfl (lv_at hl 1 rfl) ?_
    refine GX9_178 E hM hk0 dX9_read_25 ?_
    refine lv_if_eq (tgt := 37) hx hb dX9_read_28 (by decide) (fun h35 => ?_) (fun h35 => ?_)
    · have hf := g_t h35 hf
      refine lv_aload_n hx hb dX9_read_37 rfl (lv_at hl 1 rfl) ?_
      obtain ⟨r38, m36, hqq37, hf⟩ := g1_o hf
      refine ga_v (gr_V (As := []) (ci := 9) (rm := { frames := 1, cells := 0, slots := 0, locals := 24 }) E hml hl.1 (c_X9_looksBack l X c0 m34 hk0 hqq37) wt_X9_looksBack wl_RX9_61 rfl hk0 (by decide) rfl rfl hM hS rfl rfl (Nat.le_trans (by decide) hRf) (Nat.le_trans (by decide) hRl) (Nat.le_trans (Nat.le_of_ble_eq_true rfl) hRc) (Nat.le_trans (Nat.le_of_ble_eq_true rfl) hRs) (Nat.le_of_ble_eq_true rfl) dX9_read_38 rfl) hS (fun H locs hM hS => ?_)
      refine lv_iconst (v := (0 : Int32)) hx hb dX9_read_41 (by decide) ?_
      refine lv_istore_n (lv' := [(2, .int (0 : Int32)), (1, .int r3), (0, .ref (X.1 + c0))]) hx hb dX9_read_42 rfl hl (by decide) rfl (fun ls hl => ?_)
      refine l_X9_read_43 E hr hlocks hml hRf hRl hRc hRs (Nat.le_of_ble_eq_true rfl) (Nat.le_of_ble_eq_true rfl) c0 r3 hk0 gF (0 : Int32) m36 _ _ _ hf hM hS (lv_sub hl [2, 1, 0] rfl)
    · have hf := g_f h35 hf
      refine lv_aload_n hx hb dX9_read_31 rfl (lv_at hl 1 rfl) ?_
      refine lv_iconst (v := (1 : Int32)) hx hb dX9_read_32 (by decide) ?_
      obtain ⟨r41, m39, hqq40, hf⟩ := g1_o hf
      refine ga_i (gr_V (As := [.int (1 : Int32)]) (ci := 9) (rm := { frames := 0, cells := 0, slots := 0, locals := 0 }) E hml hl.1 (c_X9_fails l X c0 (1 : Int32) m34 hk0 hqq40) wt_X9_fails wl_RX9_57 rfl hk0 (by decide) rfl rfl hM hS rfl rfl (Nat.le_trans (by decide) hRf) (Nat.le_trans (by decide) hRl) (Nat.le_trans (Nat.le_of_ble_eq_true rfl) hRc) (Nat.le_trans (Nat.le_of_ble_eq_true rfl) hRs) (Nat.le_of_ble_eq_true rfl) dX9_read_33 rfl) hS (fun H locs hM hS => ?_)
      exact ge_i E hr hlocks hf hM hS (Nat.le_of_ble_eq_true rfl) (Nat.le_of_ble_eq_true rfl) dX9_read_36
theorem c_X9_read (l : Launch) (X : gX) (c0 : Nat) (m0 : gMem) {res : Int32 × gMem} (hk0 : gk c0 = 9) (hf : f_X9_read c0 m0 = some res) : Met l yX9_read (gWs yX9_read cX9_read 4 (some .int)) { frames := 7, cells := 0, slots := 0, locals := 160 } (va_Pc [.ref (X.1 + c0)] (gB X m0)) (gQi X res) 0 0 (gA X) :=
  gMet (own := RX9) (by decide +kernel) rfl (Nat.le_of_ble_eq_true rfl) (fun p e s m args below meth c ls E hr hlocks hml hM hl => b_X9_read E hr hlocks hml (Nat.le_refl _) (Nat.le_refl _) (Nat.le_refl _) (Nat.le_refl _) hk0 hf hM va_S.rf hl)
def f_X9_errorPosition (c0 : Nat) (m0 : gMem) : Option (Int32 × gMem) := g1 (f_X9_done c0 (m0 c0 8) m0) (fun r3 m1 => some (r3, m1))
set_option maxRecDepth 100000 in
set_option maxHeartbeats 4000000 in
theorem b_X9_errorPosition {p : Program} {l : Launch} {e : Env} {R : Room} {s : State} {m : MethodId} {args : Array Value} {below : List Frame} {meth : Method} {c : Code} {H : Heap} {locs : List Loc} {ls : Array Slot} {X : gX} (E : gEn p s m args c cX9_errorPosition RX9 X) (hr : meth.sig.returnType = (some .int)) (hlocks : meth.locks = false) (hml : c.maxLocals = 1) (hRf : 1 ≤ R.frames) (hRl : 21 ≤ R.locals) (hRc : 0 ≤ R.cells) (hRs : 0 ≤ R.slots) {c0 : Nat} {m0 : gMem} {res : Int32 × gMem} (hk0 : gk c0 = 9) (hf : f_X9_errorPosition c0 m0 = some res) (hM : gM X m0 H) (hS : va_S (gA X) s.heap H locs) (hl : lv_has ls 1 [(0, .ref (X.1 + c0))]) : W p l e R s m args below meth c H locs 0 0 (MQ below (gQi X res) args s 0 0 (gA X)) (F0 m 0 ls []) := by
  obtain ⟨hx, hb⟩ := (⟨E.1, E.2.1⟩ : _ ∧ _)
  unfold f_X9_errorPosition at hf
  refine lv_aload_n hx hb dX9_errorPosition_0 rfl (lv_at hl 0 rfl) ?_
  refine lv_aload_n hx hb dX9_errorPosition_1 rfl (lv_at hl 0 rfl) ?_
  refine GX9_26 E hM hk0 dX9_errorPosition_2 ?_
  obtain ⟨r3, m1, hqq2, hf⟩ := g1_o hf
  refine ga_i (gr_V (As := [.int (m0 c0 8)]) (ci := 9) (rm := { frames := 0, cells := 0, slots := 0, locals := 0 }) E hml hl.1 (c_X9_done l X c0 (m0 c0 8) m0 hk0 hqq2) wt_X9_done wl_RX9_64 rfl hk0 (by decide) rfl rfl hM hS rfl rfl (Nat.le_trans (by decide) hRf) (Nat.le_trans (by decide) hRl) (Nat.le_trans (Nat.le_of_ble_eq_true rfl) hRc) (Nat.le_trans (Nat.le_of_ble_eq_true rfl) hRs) (Nat.le_of_ble_eq_true rfl) dX9_errorPosition_5 rfl) hS (fun H locs hM hS => ?_)
  exact ge_i E hr hlocks hf hM hS (Nat.le_of_ble_eq_true rfl) (Nat.le_of_ble_eq_true rfl) dX9_errorPosition_8
theorem c_X9_errorPosition (l : Launch) (X : gX) (c0 : Nat) (m0 : gMem) {res : Int32 × gMem} (hk0 : gk c0 = 9) (hf : f_X9_errorPosition c0 m0 = some res) : Met l yX9_errorPosition (gWs yX9_errorPosition cX9_errorPosition 1 (some .int)) { frames := 1, cells := 0, slots := 0, locals := 21 } (va_Pc [.ref (X.1 + c0)] (gB X m0)) (gQi X res) 0 0 (gA X) :=
  gMet (own := RX9) (by decide +kernel) rfl (Nat.le_of_ble_eq_true rfl) (fun p e s m args below meth c ls E hr hlocks hml hM hl => b_X9_errorPosition E hr hlocks hml (Nat.le_refl _) (Nat.le_refl _) (Nat.le_refl _) (Nat.le_refl _) hk0 hf hM va_S.rf hl)
def f_X9_refusal (c0 : Nat) (u1 : Int32) (m0 : gMem) : Option (Int32 × gMem) := if (m0 c0 9) = (0 : Int32) then (g1 (f_X9_fails c0 (1 : Int32) m0) (fun r11 m9 => some (r11, m9))) else (if u1 = (0 : Int32) then (g1 (f_X9_done c0 (m0 c0 9) m0) (fun r5 m3 => some (r5, m3))) else (g1 (f_X9_done c0 (m0 c0 10) m0) (fun r8 m6 => some (r8, m6))))
set_option maxRecDepth 100000 in
set_option maxHeartbeats 4000000 in
theorem b_X9_refusal {p : Program} {l : Launch} {e : Env} {R : Room} {s : State} {m : MethodId} {args : Array Value} {below : List Frame} {meth : Method} {c : Code} {H : Heap} {locs : List Loc} {ls : Array Slot} {X : gX} (E : gEn p s m args c cX9_refusal RX9 X) (hr : meth.sig.returnType = (some .int)) (hlocks : meth.locks = false) (hml : c.maxLocals = 2) (hRf : 1 ≤ R.frames) (hRl : 21 ≤ R.locals) (hRc : 0 ≤ R.cells) (hRs : 0 ≤ R.slots) {c0 : Nat} {u1 : Int32} {m0 : gMem} {res : Int32 × gMem} (hk0 : gk c0 = 9) (hf : f_X9_refusal c0 u1 m0 = some res) (hM : gM X m0 H) (hS : va_S (gA X) s.heap H locs) (hl : lv_has ls 2 [(0, .ref (X.1 + c0)), (1, .int u1)]) : W p l e R s m args below meth c H locs 0 0 (MQ below (gQi X res) args s 0 0 (gA X)) (F0 m 0 ls []) := by
  obtain ⟨hx, hb⟩ := (⟨E.1, E.2.1⟩ : _ ∧ _)
  unfold f_X9_refusal at hf
  refine lv_aload_n hx hb dX9_refusal_0 rfl (lv_at hl 0 rfl) ?_
  refine GX9_40 E hM hk0 dX9_refusal_1 ?_
  refine lv_if_ne (tgt := 15) hx hb dX9_refusal_4 (by decide) (fun h1 => ?_) (fun h1 => ?_)
  · have hf := g_f h1 hf
    refine lv_aload_n hx hb dX9_refusal_15 rfl (lv_at hl 0 rfl) ?_
    refine lv_iload_n hx hb dX9_refusal_16 rfl (lv_at hl 1 rfl) ?_
    refine lv_if_eq (tgt := 27) hx hb dX9_refusal_17 (by decide) (fun h2 => ?_) (fun h2 => ?_)
    · have hf := g_t h2 hf
      refine lv_aload_n hx hb dX9_refusal_27 rfl (lv_at hl 0 rfl) ?_
      refine GX9_40 E hM hk0 dX9_refusal_28 ?_
      obtain ⟨r5, m3, hqq4, hf⟩ := g1_o hf
      refine ga_i (gr_V (As := [.int (m0 c0 9)]) (ci := 9) (rm := { frames := 0, cells := 0, slots := 0, locals := 0 }) E hml hl.1 (c_X9_done l X c0 (m0 c0 9) m0 hk0 hqq4) wt_X9_done wl_RX9_64 rfl hk0 (by decide) rfl rfl hM hS rfl rfl (Nat.le_trans (by decide) hRf) (Nat.le_trans (by decide) hRl) (Nat.le_trans (Nat.le_of_ble_eq_true rfl) hRc) (Nat.le_trans (Nat.le_of_ble_eq_true rfl) hRs) (Nat.le_of_ble_eq_true rfl) dX9_refusal_31 rfl) hS (fun H locs hM hS => ?_)
      exact ge_i E hr hlocks hf hM hS (Nat.le_of_ble_eq_true rfl) (Nat.le_of_ble_eq_true rfl) dX9_refusal_34
    · have hf := g_f h2 hf
      refine lv_aload_n hx hb dX9_refusal_20 rfl (lv_at hl 0 rfl) ?_
      refine GX9_43 E hM hk0 dX9_refusal_21 ?_
      refine lv_goto (tgt := 31) hx hb dX9_refusal_24 (by decide) ?_
      obtain ⟨r8, m6, hqq7, hf⟩ := g1_o hf
      refine ga_i (gr_V (As := [.int (m0 c0 10)]) (ci := 9) (rm := { frames := 0, cells := 0, slots := 0, locals := 0 }) E hml hl.1 (c_X9_done l X c0 (m0 c0 10) m0 hk0 hqq7) wt_X9_done wl_RX9_64 rfl hk0 (by decide) rfl rfl hM hS rfl rfl (Nat.le_trans (by decide) hRf) (Nat.le_trans (by decide) hRl) (Nat.le_trans (Nat.le_of_ble_eq_true rfl) hRc) (Nat.le_trans (Nat.le_of_ble_eq_true rfl) hRs) (Nat.le_of_ble_eq_true rfl) dX9_refusal_31 rfl) hS (fun H locs hM hS => ?_)
      exact ge_i E hr hlocks hf hM hS (Nat.le_of_ble_eq_true rfl) (Nat.le_of_ble_eq_true rfl) dX9_refusal_34
  · have hf := g_t h1 hf
    refine lv_aload_n hx hb dX9_refusal_7 rfl (lv_at hl 0 rfl) ?_
    refine lv_iconst (v := (1 : Int32)) hx hb dX9_refusal_8 (by decide) ?_
    obtain ⟨r11, m9, hqq10, hf⟩ := g1_o hf
    refine ga_i (gr_V (As := [.int (1 : Int32)]) (ci := 9) (rm := { frames := 0, cells := 0, slots := 0, locals := 0 }) E hml hl.1 (c_X9_fails l X c0 (1 : Int32) m0 hk0 hqq10) wt_X9_fails wl_RX9_57 rfl hk0 (by decide) rfl rfl hM hS rfl rfl (Nat.le_trans (by decide) hRf) (Nat.le_trans (by decide) hRl) (Nat.le_trans (Nat.le_of_ble_eq_true rfl) hRc) (Nat.le_trans (Nat.le_of_ble_eq_true rfl) hRs) (Nat.le_of_ble_eq_true rfl) dX9_refusal_9 rfl) hS (fun H locs hM hS => ?_)
    refine lv_goto (tgt := 34) hx hb dX9_refusal_12 (by decide) ?_
    exact ge_i E hr hlocks hf hM hS (Nat.le_of_ble_eq_true rfl) (Nat.le_of_ble_eq_true rfl) dX9_refusal_34
theorem c_X9_refusal (l : Launch) (X : gX) (c0 : Nat) (u1 : Int32) (m0 : gMem) {res : Int32 × gMem} (hk0 : gk c0 = 9) (hf : f_X9_refusal c0 u1 m0 = some res) : Met l yX9_refusal (gWs yX9_refusal cX9_refusal 2 (some .int)) { frames := 1, cells := 0, slots := 0, locals := 21 } (va_Pc [.ref (X.1 + c0), .int u1] (gB X m0)) (gQi X res) 0 0 (gA X) :=
  gMet (own := RX9) (by decide +kernel) rfl (Nat.le_of_ble_eq_true rfl) (fun p e s m args below meth c ls E hr hlocks hml hM hl => b_X9_refusal E hr hlocks hml (Nat.le_refl _) (Nat.le_refl _) (Nat.le_refl _) (Nat.le_refl _) hk0 hf hM va_S.rf hl)
def L_X9_busy_4 (c0 : Nat) : Nat → Int32 → Int32 → gMem → Option (Int32 × gMem)
  | 0, _, _, _ => none
  | n + 1, y1, y2, m0 => if ¬ ((48 : Int32) < 0 ∨ gl (c0 + 1) ≤ (48 : Int32).toNatClampNeg) then if (m0 (c0 + 1) (48 : Int32).toNatClampNeg) ≤ y2 then (some (y1, m0)) else (if ¬ (((53 : Int32) + y2) < 0 ∨ gl (c0 + 1) ≤ ((53 : Int32) + y2).toNatClampNeg) then if (m0 (c0 + 1) ((53 : Int32) + y2).toNatClampNeg) ≤ (0 : Int32) then (gv ((y1 + (0 : Int32))) (fun x6 => gv (y2 + (1 : Int32)) (fun x7 => L_X9_busy_4 c0 n x6 x7 m0))) else (gv ((y1 + (1 : Int32))) (fun x8 => gv (y2 + (1 : Int32)) (fun x9 => L_X9_busy_4 c0 n x8 x9 m0))) else none) else none
def f_X9_busy (c0 : Nat) (m0 : gMem) : Option (Int32 × gMem) := L_X9_busy_4 c0 gF (0 : Int32) (0 : Int32) m0
set_option maxRecDepth 100000 in
set_option maxHeartbeats 4000000 in
theorem l_X9_busy_4 {p : Program} {l : Launch} {e : Env} {R : Room} {s : State} {m : MethodId} {args : Array Value} {below : List Frame} {meth : Method} {c : Code} {cells slots : Nat} {X : gX} (E : gEn p s m args c cX9_busy RX9 X) (hr : meth.sig.returnType = (some .int)) (hlocks : meth.locks = false) (hml : c.maxLocals = 3) (hRf : 0 ≤ R.frames) (hRl : 0 ≤ R.locals) (hRc : 0 ≤ R.cells) (hRs : 0 ≤ R.slots) (hc : cells ≤ 0) (hs : slots ≤ 0) (c0 : Nat) (hk0 : gk c0 = 9) {res : Int32 × gMem} :
    ∀ (n : Nat) (y1 : Int32) (y2 : Int32) (m0 : gMem) (H : Heap) (locs : List Loc) (ls : Array Slot), L_X9_busy_4 c0 n y1 y2 m0 = some res → gM X m0 H → va_S (gA X) s.heap H locs → lv_has ls 3 [(0, .ref (X.1 + c0)), (1, .int y1), (2, .int y2)] → W p l e R s m args below meth c H locs cells slots (MQ below (gQi X res) args s 0 0 (gA X)) (F0 m 4 ls []) := by
  obtain ⟨hx, hb⟩ := (⟨E.1, E.2.1⟩ : _ ∧ _)
  intro n
  induction n with
  | zero =>
    intro _ _ _ _ _ _ hf
    cases hf
  | succ n ih =>
    intro y1 y2 m0 H locs ls hf hM hS hl
    rw [L_X9_busy_4] at hf
    refine lv_iload_n hx hb dX9_busy_4 rfl (lv_at hl 2 rfl) ?_
    refine lv_aload_n hx hb dX9_busy_5 rfl (lv_at hl 0 rfl) ?_
    refine GX9_7 E hM hk0 dX9_busy_6 ?_
    have hg1 : gk (c0 + 1) = 20 := gkf_9_0 hk0
    refine lv_bipush (v := (48 : Int32)) hx hb dX9_busy_9 (by decide) ?_
    obtain ⟨hi2, hf⟩ := g_ck hf
    refine gg_iald E hM (gk_in hg1 (by decide)) hg1 hi2 dX9_busy_11 ?_
    refine lv_icmp_ge (tgt := 41) hx hb dX9_busy_12 (by decide) (fun h3 => ?_) (fun h3 => ?_)
    · have hf := g_t h3 hf
      refine lv_iload_n hx hb dX9_busy_41 rfl (lv_at hl 1 rfl) ?_
      exact ge_i E hr hlocks hf hM hS hc hs dX9_busy_42
    · have hf := g_f h3 hf
      refine lv_iload_n hx hb dX9_busy_15 rfl (lv_at hl 1 rfl) ?_
      refine lv_aload_n hx hb dX9_busy_16 rfl (lv_at hl 0 rfl) ?_
      refine GX9_7 E hM hk0 dX9_busy_17 ?_
      refine lv_bipush (v := (53 : Int32)) hx hb dX9_busy_20 (by decide) ?_
      refine lv_iload_n hx hb dX9_busy_22 rfl (lv_at hl 2 rfl) ?_
      refine lv_iadd hx hb dX9_busy_23 ?_
      obtain ⟨hi4, hf⟩ := g_ck hf
      refine gg_iald E hM (gk_in hg1 (by decide)) hg1 hi4 dX9_busy_24 ?_
      refine lv_if_le (tgt := 32) hx hb dX9_busy_25 (by decide) (fun h5 => ?_) (fun h5 => ?_)
      · have hf := g_t h5 hf
        refine lv_iconst (v := (0 : Int32)) hx hb dX9_busy_32 (by decide) ?_
        refine lv_iadd hx hb dX9_busy_33 ?_
        obtain ⟨x6, ex6, hf⟩ := gv_o hf
        rw [← ex6]
        refine lv_istore_n (lv' := [(1, .int x6), (0, .ref (X.1 + c0)), (2, .int y2)]) hx hb dX9_busy_34 rfl hl (by decide) rfl (fun ls hl => ?_)
        obtain ⟨x7, ex7, hf⟩ := gv_o hf
        refine lv_iinc (v := x7) (lv' := [(2, .int x7), (1, .int x6), (0, .ref (X.1 + c0))]) hx hb dX9_busy_35 hl (k := 2) rfl (by rw [ex7]; rfl) (by decide) rfl (fun ls hl => ?_)
        refine lv_goto (tgt := 4) hx hb dX9_busy_38 (by decide) ?_
        exact ih x6 x7 m0 _ _ _ hf hM hS (lv_sub hl [2, 1, 0] rfl)
      · have hf := g_f h5 hf
        refine lv_iconst (v := (1 : Int32)) hx hb dX9_busy_28 (by decide) ?_
        refine lv_goto (tgt := 33) hx hb dX9_busy_29 (by decide) ?_
        refine lv_iadd hx hb dX9_busy_33 ?_
        obtain ⟨x8, ex8, hf⟩ := gv_o hf
        rw [← ex8]
        refine lv_istore_n (lv' := [(1, .int x8), (0, .ref (X.1 + c0)), (2, .int y2)]) hx hb dX9_busy_34 rfl hl (by decide) rfl (fun ls hl => ?_)
        obtain ⟨x9, ex9, hf⟩ := gv_o hf
        refine lv_iinc (v := x9) (lv' := [(2, .int x9), (1, .int x8), (0, .ref (X.1 + c0))]) hx hb dX9_busy_35 hl (k := 2) rfl (by rw [ex9]; rfl) (by decide) rfl (fun ls hl => ?_)
        refine lv_goto (tgt := 4) hx hb dX9_busy_38 (by decide) ?_
        exact ih x8 x9 m0 _ _ _ hf hM hS (lv_sub hl [2, 1, 0] rfl)
set_option maxRecDepth 100000 in
set_option maxHeartbeats 4000000 in
theorem b_X9_busy {p : Program} {l : Launch} {e : Env} {R : Room} {s : State} {m : MethodId} {args : Array Value} {below : List Frame} {meth : Method} {c : Code} {H : Heap} {locs : List Loc} {ls : Array Slot} {X : gX} (E : gEn p s m args c cX9_busy RX9 X) (hr : meth.sig.returnType = (some .int)) (hlocks : meth.locks = false) (hml : c.maxLocals = 3) (hRf : 0 ≤ R.frames) (hRl : 0 ≤ R.locals) (hRc : 0 ≤ R.cells) (hRs : 0 ≤ R.slots) {c0 : Nat} {m0 : gMem} {res : Int32 × gMem} (hk0 : gk c0 = 9) (hf : f_X9_busy c0 m0 = some res) (hM : gM X m0 H) (hS : va_S (gA X) s.heap H locs) (hl : lv_has ls 3 [(0, .ref (X.1 + c0))]) : W p l e R s m args below meth c H locs 0 0 (MQ below (gQi X res) args s 0 0 (gA X)) (F0 m 0 ls []) := by
  obtain ⟨hx, hb⟩ := (⟨E.1, E.2.1⟩ : _ ∧ _)
  unfold f_X9_busy at hf
  refine lv_iconst (v := (0 : Int32)) hx hb dX9_busy_0 (by decide) ?_
  refine lv_istore_n (lv' := [(1, .int (0 : Int32)), (0, .ref (X.1 + c0))]) hx hb dX9_busy_1 rfl hl (by decide) rfl (fun ls hl => ?_)
  refine lv_iconst (v := (0 : Int32)) hx hb dX9_busy_2 (by decide) ?_
  refine lv_istore_n (lv' := [(2, .int (0 : Int32)), (1, .int (0 : Int32)), (0, .ref (X.1 + c0))]) hx hb dX9_busy_3 rfl hl (by decide) rfl (fun ls hl => ?_)
  refine l_X9_busy_4 E hr hlocks hml hRf hRl hRc hRs (Nat.le_of_ble_eq_true rfl) (Nat.le_of_ble_eq_true rfl) c0 hk0 gF (0 : Int32) (0 : Int32) m0 _ _ _ hf hM hS (lv_sub hl [2, 1, 0] rfl)
theorem c_X9_busy (l : Launch) (X : gX) (c0 : Nat) (m0 : gMem) {res : Int32 × gMem} (hk0 : gk c0 = 9) (hf : f_X9_busy c0 m0 = some res) : Met l yX9_busy (gWs yX9_busy cX9_busy 3 (some .int)) { frames := 0, cells := 0, slots := 0, locals := 0 } (va_Pc [.ref (X.1 + c0)] (gB X m0)) (gQi X res) 0 0 (gA X) :=
  gMet (own := RX9) (by decide +kernel) rfl (Nat.le_of_ble_eq_true rfl) (fun p e s m args below meth c ls E hr hlocks hml hM hl => b_X9_busy E hr hlocks hml (Nat.le_refl _) (Nat.le_refl _) (Nat.le_refl _) (Nat.le_refl _) hk0 hf hM va_S.rf hl)
def L_X9_inTowers_4 (c0 : Nat) : Nat → Int32 → Int32 → gMem → Option (Int32 × gMem)
  | 0, _, _, _ => none
  | n + 1, y1, y2, m0 => if ¬ ((29 : Int32) < 0 ∨ gl (c0 + 1) ≤ (29 : Int32).toNatClampNeg) then if (m0 (c0 + 1) (29 : Int32).toNatClampNeg) ≤ y2 then (some (y1, m0)) else (g1 (f_X9_cubesIn c0 y2 m0) (fun r6 m4 => gv ((y1 + r6)) (fun x7 => gv (y2 + (1 : Int32)) (fun x8 => L_X9_inTowers_4 c0 n x7 x8 m4)))) else none
def f_X9_inTowers (c0 : Nat) (m0 : gMem) : Option (Int32 × gMem) := L_X9_inTowers_4 c0 gF (0 : Int32) (0 : Int32) m0
set_option maxRecDepth 100000 in
set_option maxHeartbeats 4000000 in
theorem l_X9_inTowers_4 {p : Program} {l : Launch} {e : Env} {R : Room} {s : State} {m : MethodId} {args : Array Value} {below : List Frame} {meth : Method} {c : Code} {cells slots : Nat} {X : gX} (E : gEn p s m args c cX9_inTowers RX9 X) (hr : meth.sig.returnType = (some .int)) (hlocks : meth.locks = false) (hml : c.maxLocals = 3) (hRf : 2 ≤ R.frames) (hRl : 45 ≤ R.locals) (hRc : 0 ≤ R.cells) (hRs : 0 ≤ R.slots) (hc : cells ≤ 0) (hs : slots ≤ 0) (c0 : Nat) (hk0 : gk c0 = 9) {res : Int32 × gMem} :
    ∀ (n : Nat) (y1 : Int32) (y2 : Int32) (m0 : gMem) (H : Heap) (locs : List Loc) (ls : Array Slot), L_X9_inTowers_4 c0 n y1 y2 m0 = some res → gM X m0 H → va_S (gA X) s.heap H locs → lv_has ls 3 [(0, .ref (X.1 + c0)), (1, .int y1), (2, .int y2)] → W p l e R s m args below meth c H locs cells slots (MQ below (gQi X res) args s 0 0 (gA X)) (F0 m 4 ls []) := by
  obtain ⟨hx, hb⟩ := (⟨E.1, E.2.1⟩ : _ ∧ _)
  intro n
  induction n with
  | zero =>
    intro _ _ _ _ _ _ hf
    cases hf
  | succ n ih =>
    intro y1 y2 m0 H locs ls hf hM hS hl
    rw [L_X9_inTowers_4] at hf
    refine lv_iload_n hx hb dX9_inTowers_4 rfl (lv_at hl 2 rfl) ?_
    refine lv_aload_n hx hb dX9_inTowers_5 rfl (lv_at hl 0 rfl) ?_
    refine GX9_7 E hM hk0 dX9_inTowers_6 ?_
    have hg1 : gk (c0 + 1) = 20 := gkf_9_0 hk0
    refine lv_bipush (v := (29 : Int32)) hx hb dX9_inTowers_9 (by decide) ?_
    obtain ⟨hi2, hf⟩ := g_ck hf
    refine gg_iald E hM (gk_in hg1 (by decide)) hg1 hi2 dX9_inTowers_11 ?_
    refine lv_icmp_ge (tgt := 29) hx hb dX9_inTowers_12 (by decide) (fun h3 => ?_) (fun h3 => ?_)
    · have hf := g_t h3 hf
      refine lv_iload_n hx hb dX9_inTowers_29 rfl (lv_at hl 1 rfl) ?_
      exact ge_i E hr hlocks hf hM hS hc hs dX9_inTowers_30
    · have hf := g_f h3 hf
      refine lv_iload_n hx hb dX9_inTowers_15 rfl (lv_at hl 1 rfl) ?_
      refine lv_aload_n hx hb dX9_inTowers_16 rfl (lv_at hl 0 rfl) ?_
      refine lv_iload_n hx hb dX9_inTowers_17 rfl (lv_at hl 2 rfl) ?_
      obtain ⟨r6, m4, hqq5, hf⟩ := g1_o hf
      refine ga_i (gr_V (As := [.int y2]) (ci := 9) (rm := { frames := 1, cells := 0, slots := 0, locals := 24 }) E hml hl.1 (c_X9_cubesIn l X c0 y2 m0 hk0 hqq5) wt_X9_cubesIn wl_RX9_134 rfl hk0 (by decide) rfl rfl hM hS rfl rfl (Nat.le_trans (by decide) hRf) (Nat.le_trans (by decide) hRl) (Nat.le_trans hc hRc) (Nat.le_trans hs hRs) (Nat.le_of_ble_eq_true rfl) dX9_inTowers_18 rfl) hS (fun H locs hM hS => ?_)
      refine lv_iadd hx hb dX9_inTowers_21 ?_
      obtain ⟨x7, ex7, hf⟩ := gv_o hf
      rw [← ex7]
      refine lv_istore_n (lv' := [(1, .int x7), (0, .ref (X.1 + c0)), (2, .int y2)]) hx hb dX9_inTowers_22 rfl hl (by decide) rfl (fun ls hl => ?_)
      obtain ⟨x8, ex8, hf⟩ := gv_o hf
      refine lv_iinc (v := x8) (lv' := [(2, .int x8), (1, .int x7), (0, .ref (X.1 + c0))]) hx hb dX9_inTowers_23 hl (k := 2) rfl (by rw [ex8]; rfl) (by decide) rfl (fun ls hl => ?_)
      refine lv_goto (tgt := 4) hx hb dX9_inTowers_26 (by decide) ?_
      exact ih x7 x8 m4 _ _ _ hf hM hS (lv_sub hl [2, 1, 0] rfl)
set_option maxRecDepth 100000 in
set_option maxHeartbeats 4000000 in
theorem b_X9_inTowers {p : Program} {l : Launch} {e : Env} {R : Room} {s : State} {m : MethodId} {args : Array Value} {below : List Frame} {meth : Method} {c : Code} {H : Heap} {locs : List Loc} {ls : Array Slot} {X : gX} (E : gEn p s m args c cX9_inTowers RX9 X) (hr : meth.sig.returnType = (some .int)) (hlocks : meth.locks = false) (hml : c.maxLocals = 3) (hRf : 2 ≤ R.frames) (hRl : 45 ≤ R.locals) (hRc : 0 ≤ R.cells) (hRs : 0 ≤ R.slots) {c0 : Nat} {m0 : gMem} {res : Int32 × gMem} (hk0 : gk c0 = 9) (hf : f_X9_inTowers c0 m0 = some res) (hM : gM X m0 H) (hS : va_S (gA X) s.heap H locs) (hl : lv_has ls 3 [(0, .ref (X.1 + c0))]) : W p l e R s m args below meth c H locs 0 0 (MQ below (gQi X res) args s 0 0 (gA X)) (F0 m 0 ls []) := by
  obtain ⟨hx, hb⟩ := (⟨E.1, E.2.1⟩ : _ ∧ _)
  unfold f_X9_inTowers at hf
  refine lv_iconst (v := (0 : Int32)) hx hb dX9_inTowers_0 (by decide) ?_
  refine lv_istore_n (lv' := [(1, .int (0 : Int32)), (0, .ref (X.1 + c0))]) hx hb dX9_inTowers_1 rfl hl (by decide) rfl (fun ls hl => ?_)
  refine lv_iconst (v := (0 : Int32)) hx hb dX9_inTowers_2 (by decide) ?_
  refine lv_istore_n (lv' := [(2, .int (0 : Int32)), (1, .int (0 : Int32)), (0, .ref (X.1 + c0))]) hx hb dX9_inTowers_3 rfl hl (by decide) rfl (fun ls hl => ?_)
  refine l_X9_inTowers_4 E hr hlocks hml hRf hRl hRc hRs (Nat.le_of_ble_eq_true rfl) (Nat.le_of_ble_eq_true rfl) c0 hk0 gF (0 : Int32) (0 : Int32) m0 _ _ _ hf hM hS (lv_sub hl [2, 1, 0] rfl)
theorem c_X9_inTowers (l : Launch) (X : gX) (c0 : Nat) (m0 : gMem) {res : Int32 × gMem} (hk0 : gk c0 = 9) (hf : f_X9_inTowers c0 m0 = some res) : Met l yX9_inTowers (gWs yX9_inTowers cX9_inTowers 3 (some .int)) { frames := 2, cells := 0, slots := 0, locals := 45 } (va_Pc [.ref (X.1 + c0)] (gB X m0)) (gQi X res) 0 0 (gA X) :=
  gMet (own := RX9) (by decide +kernel) rfl (Nat.le_of_ble_eq_true rfl) (fun p e s m args below meth c ls E hr hlocks hml hM hl => b_X9_inTowers E hr hlocks hml (Nat.le_refl _) (Nat.le_refl _) (Nat.le_refl _) (Nat.le_refl _) hk0 hf hM va_S.rf hl)
def f_X9_account (c0 : Nat) (u1 : Int32) (m0 : gMem) : Option (Int32 × gMem) := if u1 = (0 : Int32) then (if ¬ (u1 < 0 ∨ gl (c0 + 1) ≤ u1.toNatClampNeg) then g1 (f_X9_done c0 (m0 (c0 + 1) u1.toNatClampNeg) m0) (fun r7 m5 => some (r7, m5)) else none) else (if u1 = (1 : Int32) then (if ¬ (u1 < 0 ∨ gl (c0 + 1) ≤ u1.toNatClampNeg) then g1 (f_X9_done c0 (m0 (c0 + 1) u1.toNatClampNeg) m0) (fun r13 m11 => some (r13, m11)) else none) else (if u1 = (2 : Int32) then (if ¬ ((29 : Int32) < 0 ∨ gl (c0 + 1) ≤ (29 : Int32).toNatClampNeg) then g1 (f_X9_done c0 (m0 (c0 + 1) (29 : Int32).toNatClampNeg) m0) (fun r19 m17 => some (r19, m17)) else none) else (if u1 = (3 : Int32) then (if ¬ ((48 : Int32) < 0 ∨ gl (c0 + 1) ≤ (48 : Int32).toNatClampNeg) then g1 (f_X9_done c0 (m0 (c0 + 1) (48 : Int32).toNatClampNeg) m0) (fun r25 m23 => some (r25, m23)) else none) else (if u1 = (4 : Int32) then (g1 (f_X9_busy c0 m0) (fun r29 m27 => g1 (f_X9_done c0 r29 m27) (fun r32 m30 => some (r32, m30)))) else (if u1 = (5 : Int32) then (if ¬ ((61 : Int32) < 0 ∨ gl (c0 + 1) ≤ (61 : Int32).toNatClampNeg) then g1 (f_X9_done c0 (m0 (c0 + 1) (61 : Int32).toNatClampNeg) m0) (fun r38 m36 => some (r38, m36)) else none) else (if u1 = (6 : Int32) then (if ¬ ((((93 : Int32) + u1) - (6 : Int32)) < 0 ∨ gl (c0 + 1) ≤ (((93 : Int32) + u1) - (6 : Int32)).toNatClampNeg) then g1 (f_X9_done c0 (m0 (c0 + 1) (((93 : Int32) + u1) - (6 : Int32)).toNatClampNeg) m0) (fun r44 m42 => some (r44, m42)) else none) else (if u1 = (7 : Int32) then (if ¬ ((((93 : Int32) + u1) - (6 : Int32)) < 0 ∨ gl (c0 + 1) ≤ (((93 : Int32) + u1) - (6 : Int32)).toNatClampNeg) then g1 (f_X9_done c0 (m0 (c0 + 1) (((93 : Int32) + u1) - (6 : Int32)).toNatClampNeg) m0) (fun r50 m48 => some (r50, m48)) else none) else (if u1 = (8 : Int32) then (if ¬ ((((93 : Int32) + u1) - (6 : Int32)) < 0 ∨ gl (c0 + 1) ≤ (((93 : Int32) + u1) - (6 : Int32)).toNatClampNeg) then g1 (f_X9_done c0 (m0 (c0 + 1) (((93 : Int32) + u1) - (6 : Int32)).toNatClampNeg) m0) (fun r56 m54 => some (r56, m54)) else none) else (if u1 = (9 : Int32) then (g1 (f_X9_sum c0 (26 : Int32) (3 : Int32) m0) (fun r60 m58 => g1 (f_X9_done c0 r60 m58) (fun r63 m61 => some (r63, m61)))) else (if u1 = (10 : Int32) then (g1 (f_X9_inTowers c0 m0) (fun r67 m65 => g1 (f_X9_done c0 r67 m65) (fun r70 m68 => some (r70, m68)))) else (if u1 = (11 : Int32) then (if ¬ ((((96 : Int32) + u1) - (11 : Int32)) < 0 ∨ gl (c0 + 1) ≤ (((96 : Int32) + u1) - (11 : Int32)).toNatClampNeg) then g1 (f_X9_done c0 (m0 (c0 + 1) (((96 : Int32) + u1) - (11 : Int32)).toNatClampNeg) m0) (fun r76 m74 => some (r76, m74)) else none) else (if u1 = (12 : Int32) then (if ¬ ((((96 : Int32) + u1) - (11 : Int32)) < 0 ∨ gl (c0 + 1) ≤ (((96 : Int32) + u1) - (11 : Int32)).toNatClampNeg) then g1 (f_X9_done c0 (m0 (c0 + 1) (((96 : Int32) + u1) - (11 : Int32)).toNatClampNeg) m0) (fun r82 m80 => some (r82, m80)) else none) else (if u1 = (13 : Int32) then (if ¬ ((29 : Int32) < 0 ∨ gl (c0 + 1) ≤ (29 : Int32).toNatClampNeg) then g1 (f_X9_sum c0 (36 : Int32) (m0 (c0 + 1) (29 : Int32).toNatClampNeg) m0) (fun r88 m86 => g1 (f_X9_done c0 r88 m86) (fun r91 m89 => some (r91, m89))) else none) else (if u1 = (14 : Int32) then (if ¬ ((98 : Int32) < 0 ∨ gl (c0 + 1) ≤ (98 : Int32).toNatClampNeg) then g1 (f_X9_done c0 (m0 (c0 + 1) (98 : Int32).toNatClampNeg) m0) (fun r97 m95 => some (r97, m95)) else none) else (if u1 = (15 : Int32) then (g1 (f_X9_done c0 (m0 c0 7) m0) (fun r101 m99 => some (r101, m99))) else (if u1 = (16 : Int32) then (g1 (f_X9_done c0 (m0 c0 3) m0) (fun r105 m103 => some (r105, m103))) else (g1 (f_X9_fails c0 (1 : Int32) m0) (fun r108 m106 => some (r108, m106)))))))))))))))))))
set_option maxRecDepth 100000 in
set_option maxHeartbeats 4000000 in
theorem b_X9_account {p : Program} {l : Launch} {e : Env} {R : Room} {s : State} {m : MethodId} {args : Array Value} {below : List Frame} {meth : Method} {c : Code} {H : Heap} {locs : List Loc} {ls : Array Slot} {X : gX} (E : gEn p s m args c cX9_account RX9 X) (hr : meth.sig.returnType = (some .int)) (hlocks : meth.locks = false) (hml : c.maxLocals = 2) (hRf : 3 ≤ R.frames) (hRl : 67 ≤ R.locals) (hRc : 0 ≤ R.cells) (hRs : 0 ≤ R.slots) {c0 : Nat} {u1 : Int32} {m0 : gMem} {res : Int32 × gMem} (hk0 : gk c0 = 9) (hf : f_X9_account c0 u1 m0 = some res) (hM : gM X m0 H) (hS : va_S (gA X) s.heap H locs) (hl : lv_has ls 2 [(0, .ref (X.1 + c0)), (1, .int u1)]) : W p l e R s m args below meth c H locs 0 0 (MQ below (gQi X res) args s 0 0 (gA X)) (F0 m 0 ls []) := by
  obtain ⟨hx, hb⟩ := (⟨E.1, E.2.1⟩ : _ ∧ _)
  unfold f_X9_account at hf
  refine lv_iload_n hx hb dX9_account_0 rfl (lv_at hl 1 rfl) ?_
  by_cases h2 : u1 = (0 : Int32)
  · have hf := g_t h2 hf
    refine lv_tableIn (tgt := 84) hx hb dX9_account_1 (by rw [h2]; decide) (by rw [h2]; decide) (by rw [h2]; rfl) (by decide) ?_
    refine lv_aload_n hx hb dX9_account_84 rfl (lv_at hl 0 rfl) ?_
    refine lv_aload_n hx hb dX9_account_85 rfl (lv_at hl 0 rfl) ?_
    refine GX9_7 E hM hk0 dX9_account_86 ?_
    have hg3 : gk (c0 + 1) = 20 := gkf_9_0 hk0
    refine lv_iload_n hx hb dX9_account_89 rfl (lv_at hl 1 rfl) ?_
    obtain ⟨hi4, hf⟩ := g_ck hf
    refine gg_iald E hM (gk_in hg3 (by decide)) hg3 hi4 dX9_account_90 ?_
    obtain ⟨r7, m5, hqq6, hf⟩ := g1_o hf
    refine ga_i (gr_V (As := [.int (m0 (c0 + 1) u1.toNatClampNeg)]) (ci := 9) (rm := { frames := 0, cells := 0, slots := 0, locals := 0 }) E hml hl.1 (c_X9_done l X c0 (m0 (c0 + 1) u1.toNatClampNeg) m0 hk0 hqq6) wt_X9_done wl_RX9_64 rfl hk0 (by decide) rfl rfl hM hS rfl rfl (Nat.le_trans (by decide) hRf) (Nat.le_trans (by decide) hRl) (Nat.le_trans (Nat.le_of_ble_eq_true rfl) hRc) (Nat.le_trans (Nat.le_of_ble_eq_true rfl) hRs) (Nat.le_of_ble_eq_true rfl) dX9_account_91 rfl) hS (fun H locs hM hS => ?_)
    exact ge_i E hr hlocks hf hM hS (Nat.le_of_ble_eq_true rfl) (Nat.le_of_ble_eq_true rfl) dX9_account_94
  have hf := g_f h2 hf
  by_cases h8 : u1 = (1 : Int32)
  · have hf := g_t h8 hf
    refine lv_tableIn (tgt := 84) hx hb dX9_account_1 (by rw [h8]; decide) (by rw [h8]; decide) (by rw [h8]; rfl) (by decide) ?_
    refine lv_aload_n hx hb dX9_account_84 rfl (lv_at hl 0 rfl) ?_
    refine lv_aload_n hx hb dX9_account_85 rfl (lv_at hl 0 rfl) ?_
    refine GX9_7 E hM hk0 dX9_account_86 ?_
    have hg9 : gk (c0 + 1) = 20 := gkf_9_0 hk0
    refine lv_iload_n hx hb dX9_account_89 rfl (lv_at hl 1 rfl) ?_
    obtain ⟨hi10, hf⟩ := g_ck hf
    refine gg_iald E hM (gk_in hg9 (by decide)) hg9 hi10 dX9_account_90 ?_
    obtain ⟨r13, m11, hqq12, hf⟩ := g1_o hf
    refine ga_i (gr_V (As := [.int (m0 (c0 + 1) u1.toNatClampNeg)]) (ci := 9) (rm := { frames := 0, cells := 0, slots := 0, locals := 0 }) E hml hl.1 (c_X9_done l X c0 (m0 (c0 + 1) u1.toNatClampNeg) m0 hk0 hqq12) wt_X9_done wl_RX9_64 rfl hk0 (by decide) rfl rfl hM hS rfl rfl (Nat.le_trans (by decide) hRf) (Nat.le_trans (by decide) hRl) (Nat.le_trans (Nat.le_of_ble_eq_true rfl) hRc) (Nat.le_trans (Nat.le_of_ble_eq_true rfl) hRs) (Nat.le_of_ble_eq_true rfl) dX9_account_91 rfl) hS (fun H locs hM hS => ?_)
    exact ge_i E hr hlocks hf hM hS (Nat.le_of_ble_eq_true rfl) (Nat.le_of_ble_eq_true rfl) dX9_account_94
  have hf := g_f h8 hf
  by_cases h14 : u1 = (2 : Int32)
  · have hf := g_t h14 hf
    refine lv_tableIn (tgt := 95) hx hb dX9_account_1 (by rw [h14]; decide) (by rw [h14]; decide) (by rw [h14]; rfl) (by decide) ?_
    refine lv_aload_n hx hb dX9_account_95 rfl (lv_at hl 0 rfl) ?_
    refine lv_aload_n hx hb dX9_account_96 rfl (lv_at hl 0 rfl) ?_
    refine GX9_7 E hM hk0 dX9_account_97 ?_
    have hg15 : gk (c0 + 1) = 20 := gkf_9_0 hk0
    refine lv_bipush (v := (29 : Int32)) hx hb dX9_account_100 (by decide) ?_
    obtain ⟨hi16, hf⟩ := g_ck hf
    refine gg_iald E hM (gk_in hg15 (by decide)) hg15 hi16 dX9_account_102 ?_
    obtain ⟨r19, m17, hqq18, hf⟩ := g1_o hf
    refine ga_i (gr_V (As := [.int (m0 (c0 + 1) (29 : Int32).toNatClampNeg)]) (ci := 9) (rm := { frames := 0, cells := 0, slots := 0, locals := 0 }) E hml hl.1 (c_X9_done l X c0 (m0 (c0 + 1) (29 : Int32).toNatClampNeg) m0 hk0 hqq18) wt_X9_done wl_RX9_64 rfl hk0 (by decide) rfl rfl hM hS rfl rfl (Nat.le_trans (by decide) hRf) (Nat.le_trans (by decide) hRl) (Nat.le_trans (Nat.le_of_ble_eq_true rfl) hRc) (Nat.le_trans (Nat.le_of_ble_eq_true rfl) hRs) (Nat.le_of_ble_eq_true rfl) dX9_account_103 rfl) hS (fun H locs hM hS => ?_)
    exact ge_i E hr hlocks hf hM hS (Nat.le_of_ble_eq_true rfl) (Nat.le_of_ble_eq_true rfl) dX9_account_106
  have hf := g_f h14 hf
  by_cases h20 : u1 = (3 : Int32)
  · have hf := g_t h20 hf
    refine lv_tableIn (tgt := 107) hx hb dX9_account_1 (by rw [h20]; decide) (by rw [h20]; decide) (by rw [h20]; rfl) (by decide) ?_
    refine lv_aload_n hx hb dX9_account_107 rfl (lv_at hl 0 rfl) ?_
    refine lv_aload_n hx hb dX9_account_108 rfl (lv_at hl 0 rfl) ?_
    refine GX9_7 E hM hk0 dX9_account_109 ?_
    have hg21 : gk (c0 + 1) = 20 := gkf_9_0 hk0
    refine lv_bipush (v := (48 : Int32)) hx hb dX9_account_112 (by decide) ?_
    obtain ⟨hi22, hf⟩ := g_ck hf
    refine gg_iald E hM (gk_in hg21 (by decide)) hg21 hi22 dX9_account_114 ?_
    obtain ⟨r25, m23, hqq24, hf⟩ := g1_o hf
    refine ga_i (gr_V (As := [.int (m0 (c0 + 1) (48 : Int32).toNatClampNeg)]) (ci := 9) (rm := { frames := 0, cells := 0, slots := 0, locals := 0 }) E hml hl.1 (c_X9_done l X c0 (m0 (c0 + 1) (48 : Int32).toNatClampNeg) m0 hk0 hqq24) wt_X9_done wl_RX9_64 rfl hk0 (by decide) rfl rfl hM hS rfl rfl (Nat.le_trans (by decide) hRf) (Nat.le_trans (by decide) hRl) (Nat.le_trans (Nat.le_of_ble_eq_true rfl) hRc) (Nat.le_trans (Nat.le_of_ble_eq_true rfl) hRs) (Nat.le_of_ble_eq_true rfl) dX9_account_115 rfl) hS (fun H locs hM hS => ?_)
    exact ge_i E hr hlocks hf hM hS (Nat.le_of_ble_eq_true rfl) (Nat.le_of_ble_eq_true rfl) dX9_account_118
  have hf := g_f h20 hf
  by_cases h26 : u1 = (4 : Int32)
  · have hf := g_t h26 hf
    refine lv_tableIn (tgt := 119) hx hb dX9_account_1 (by rw [h26]; decide) (by rw [h26]; decide) (by rw [h26]; rfl) (by decide) ?_
    refine lv_aload_n hx hb dX9_account_119 rfl (lv_at hl 0 rfl) ?_
    refine lv_aload_n hx hb dX9_account_120 rfl (lv_at hl 0 rfl) ?_
    obtain ⟨r29, m27, hqq28, hf⟩ := g1_o hf
    refine ga_i (gr_V (As := []) (ci := 9) (rm := { frames := 0, cells := 0, slots := 0, locals := 0 }) E hml hl.1 (c_X9_busy l X c0 m0 hk0 hqq28) wt_X9_busy wl_RX9_202 rfl hk0 (by decide) rfl rfl hM hS rfl rfl (Nat.le_trans (by decide) hRf) (Nat.le_trans (by decide) hRl) (Nat.le_trans (Nat.le_of_ble_eq_true rfl) hRc) (Nat.le_trans (Nat.le_of_ble_eq_true rfl) hRs) (Nat.le_of_ble_eq_true rfl) dX9_account_121 rfl) hS (fun H locs hM hS => ?_)
    obtain ⟨r32, m30, hqq31, hf⟩ := g1_o hf
    refine ga_i (gr_V (As := [.int r29]) (ci := 9) (rm := { frames := 0, cells := 0, slots := 0, locals := 0 }) E hml hl.1 (c_X9_done l X c0 r29 m27 hk0 hqq31) wt_X9_done wl_RX9_64 rfl hk0 (by decide) rfl rfl hM hS rfl rfl (Nat.le_trans (by decide) hRf) (Nat.le_trans (by decide) hRl) (Nat.le_trans (Nat.le_of_ble_eq_true rfl) hRc) (Nat.le_trans (Nat.le_of_ble_eq_true rfl) hRs) (Nat.le_of_ble_eq_true rfl) dX9_account_124 rfl) hS (fun H locs hM hS => ?_)
    exact ge_i E hr hlocks hf hM hS (Nat.le_of_ble_eq_true rfl) (Nat.le_of_ble_eq_true rfl) dX9_account_127
  have hf := g_f h26 hf
  by_cases h33 : u1 = (5 : Int32)
  · have hf := g_t h33 hf
    refine lv_tableIn (tgt := 128) hx hb dX9_account_1 (by rw [h33]; decide) (by rw [h33]; decide) (by rw [h33]; rfl) (by decide) ?_
    refine lv_aload_n hx hb dX9_account_128 rfl (lv_at hl 0 rfl) ?_
    refine lv_aload_n hx hb dX9_account_129 rfl (lv_at hl 0 rfl) ?_
    refine GX9_7 E hM hk0 dX9_account_130 ?_
    have hg34 : gk (c0 + 1) = 20 := gkf_9_0 hk0
    refine lv_bipush (v := (61 : Int32)) hx hb dX9_account_133 (by decide) ?_
    obtain ⟨hi35, hf⟩ := g_ck hf
    refine gg_iald E hM (gk_in hg34 (by decide)) hg34 hi35 dX9_account_135 ?_
    obtain ⟨r38, m36, hqq37, hf⟩ := g1_o hf
    refine ga_i (gr_V (As := [.int (m0 (c0 + 1) (61 : Int32).toNatClampNeg)]) (ci := 9) (rm := { frames := 0, cells := 0, slots := 0, locals := 0 }) E hml hl.1 (c_X9_done l X c0 (m0 (c0 + 1) (61 : Int32).toNatClampNeg) m0 hk0 hqq37) wt_X9_done wl_RX9_64 rfl hk0 (by decide) rfl rfl hM hS rfl rfl (Nat.le_trans (by decide) hRf) (Nat.le_trans (by decide) hRl) (Nat.le_trans (Nat.le_of_ble_eq_true rfl) hRc) (Nat.le_trans (Nat.le_of_ble_eq_true rfl) hRs) (Nat.le_of_ble_eq_true rfl) dX9_account_136 rfl) hS (fun H locs hM hS => ?_)
    exact ge_i E hr hlocks hf hM hS (Nat.le_of_ble_eq_true rfl) (Nat.le_of_ble_eq_true rfl) dX9_account_139
  have hf := g_f h33 hf
  by_cases h39 : u1 = (6 : Int32)
  · have hf := g_t h39 hf
    refine lv_tableIn (tgt := 140) hx hb dX9_account_1 (by rw [h39]; decide) (by rw [h39]; decide) (by rw [h39]; rfl) (by decide) ?_
    refine lv_aload_n hx hb dX9_account_140 rfl (lv_at hl 0 rfl) ?_
    refine lv_aload_n hx hb dX9_account_141 rfl (lv_at hl 0 rfl) ?_
    refine GX9_7 E hM hk0 dX9_account_142 ?_
    have hg40 : gk (c0 + 1) = 20 := gkf_9_0 hk0
    refine lv_bipush (v := (93 : Int32)) hx hb dX9_account_145 (by decide) ?_
    refine lv_iload_n hx hb dX9_account_147 rfl (lv_at hl 1 rfl) ?_
    refine lv_iadd hx hb dX9_account_148 ?_
    refine lv_bipush (v := (6 : Int32)) hx hb dX9_account_149 (by decide) ?_
    refine lv_isub hx hb dX9_account_151 ?_
    obtain ⟨hi41, hf⟩ := g_ck hf
    refine gg_iald E hM (gk_in hg40 (by decide)) hg40 hi41 dX9_account_152 ?_
    obtain ⟨r44, m42, hqq43, hf⟩ := g1_o hf
    refine ga_i (gr_V (As := [.int (m0 (c0 + 1) (((93 : Int32) + u1) - (6 : Int32)).toNatClampNeg)]) (ci := 9) (rm := { frames := 0, cells := 0, slots := 0, locals := 0 }) E hml hl.1 (c_X9_done l X c0 (m0 (c0 + 1) (((93 : Int32) + u1) - (6 : Int32)).toNatClampNeg) m0 hk0 hqq43) wt_X9_done wl_RX9_64 rfl hk0 (by decide) rfl rfl hM hS rfl rfl (Nat.le_trans (by decide) hRf) (Nat.le_trans (by decide) hRl) (Nat.le_trans (Nat.le_of_ble_eq_true rfl) hRc) (Nat.le_trans (Nat.le_of_ble_eq_true rfl) hRs) (Nat.le_of_ble_eq_true rfl) dX9_account_153 rfl) hS (fun H locs hM hS => ?_)
    exact ge_i E hr hlocks hf hM hS (Nat.le_of_ble_eq_true rfl) (Nat.le_of_ble_eq_true rfl) dX9_account_156
  have hf := g_f h39 hf
  by_cases h45 : u1 = (7 : Int32)
  · have hf := g_t h45 hf
    refine lv_tableIn (tgt := 140) hx hb dX9_account_1 (by rw [h45]; decide) (by rw [h45]; decide) (by rw [h45]; rfl) (by decide) ?_
    refine lv_aload_n hx hb dX9_account_140 rfl (lv_at hl 0 rfl) ?_
    refine lv_aload_n hx hb dX9_account_141 rfl (lv_at hl 0 rfl) ?_
    refine GX9_7 E hM hk0 dX9_account_142 ?_
    have hg46 : gk (c0 + 1) = 20 := gkf_9_0 hk0
    refine lv_bipush (v := (93 : Int32)) hx hb dX9_account_145 (by decide) ?_
    refine lv_iload_n hx hb dX9_account_147 rfl (lv_at hl 1 rfl) ?_
    refine lv_iadd hx hb dX9_account_148 ?_
    refine lv_bipush (v := (6 : Int32)) hx hb dX9_account_149 (by decide) ?_
    refine lv_isub hx hb dX9_account_151 ?_
    obtain ⟨hi47, hf⟩ := g_ck hf
    refine gg_iald E hM (gk_in hg46 (by decide)) hg46 hi47 dX9_account_152 ?_
    obtain ⟨r50, m48, hqq49, hf⟩ := g1_o hf
    refine ga_i (gr_V (As := [.int (m0 (c0 + 1) (((93 : Int32) + u1) - (6 : Int32)).toNatClampNeg)]) (ci := 9) (rm := { frames := 0, cells := 0, slots := 0, locals := 0 }) E hml hl.1 (c_X9_done l X c0 (m0 (c0 + 1) (((93 : Int32) + u1) - (6 : Int32)).toNatClampNeg) m0 hk0 hqq49) wt_X9_done wl_RX9_64 rfl hk0 (by decide) rfl rfl hM hS rfl rfl (Nat.le_trans (by decide) hRf) (Nat.le_trans (by decide) hRl) (Nat.le_trans (Nat.le_of_ble_eq_true rfl) hRc) (Nat.le_trans (Nat.le_of_ble_eq_true rfl) hRs) (Nat.le_of_ble_eq_true rfl) dX9_account_153 rfl) hS (fun H locs hM hS => ?_)
    exact ge_i E hr hlocks hf hM hS (Nat.le_of_ble_eq_true rfl) (Nat.le_of_ble_eq_true rfl) dX9_account_156
  have hf := g_f h45 hf
  by_cases h51 : u1 = (8 : Int32)
  · have hf := g_t h51 hf
    refine lv_tableIn (tgt := 140) hx hb dX9_account_1 (by rw [h51]; decide) (by rw [h51]; decide) (by rw [h51]; rfl) (by decide) ?_
    refine lv_aload_n hx hb dX9_account_140 rfl (lv_at hl 0 rfl) ?_
    refine lv_aload_n hx hb dX9_account_141 rfl (lv_at hl 0 rfl) ?_
    refine GX9_7 E hM hk0 dX9_account_142 ?_
    have hg52 : gk (c0 + 1) = 20 := gkf_9_0 hk0
    refine lv_bipush (v := (93 : Int32)) hx hb dX9_account_145 (by decide) ?_
    refine lv_iload_n hx hb dX9_account_147 rfl (lv_at hl 1 rfl) ?_
    refine lv_iadd hx hb dX9_account_148 ?_
    refine lv_bipush (v := (6 : Int32)) hx hb dX9_account_149 (by decide) ?_
    refine lv_isub hx hb dX9_account_151 ?_
    obtain ⟨hi53, hf⟩ := g_ck hf
    refine gg_iald E hM (gk_in hg52 (by decide)) hg52 hi53 dX9_account_152 ?_
    obtain ⟨r56, m54, hqq55, hf⟩ := g1_o hf
    refine ga_i (gr_V (As := [.int (m0 (c0 + 1) (((93 : Int32) + u1) - (6 : Int32)).toNatClampNeg)]) (ci := 9) (rm := { frames := 0, cells := 0, slots := 0, locals := 0 }) E hml hl.1 (c_X9_done l X c0 (m0 (c0 + 1) (((93 : Int32) + u1) - (6 : Int32)).toNatClampNeg) m0 hk0 hqq55) wt_X9_done wl_RX9_64 rfl hk0 (by decide) rfl rfl hM hS rfl rfl (Nat.le_trans (by decide) hRf) (Nat.le_trans (by decide) hRl) (Nat.le_trans (Nat.le_of_ble_eq_true rfl) hRc) (Nat.le_trans (Nat.le_of_ble_eq_true rfl) hRs) (Nat.le_of_ble_eq_true rfl) dX9_account_153 rfl) hS (fun H locs hM hS => ?_)
    exact ge_i E hr hlocks hf hM hS (Nat.le_of_ble_eq_true rfl) (Nat.le_of_ble_eq_true rfl) dX9_account_156
  have hf := g_f h51 hf
  by_cases h57 : u1 = (9 : Int32)
  · have hf := g_t h57 hf
    refine lv_tableIn (tgt := 157) hx hb dX9_account_1 (by rw [h57]; decide) (by rw [h57]; decide) (by rw [h57]; rfl) (by decide) ?_
    refine lv_aload_n hx hb dX9_account_157 rfl (lv_at hl 0 rfl) ?_
    refine lv_aload_n hx hb dX9_account_158 rfl (lv_at hl 0 rfl) ?_
    refine lv_bipush (v := (26 : Int32)) hx hb dX9_account_159 (by decide) ?_
    refine lv_iconst (v := (3 : Int32)) hx hb dX9_account_161 (by decide) ?_
    obtain ⟨r60, m58, hqq59, hf⟩ := g1_o hf
    refine ga_i (gr_V (As := [.int (26 : Int32), .int (3 : Int32)]) (ci := 9) (rm := { frames := 0, cells := 0, slots := 0, locals := 0 }) E hml hl.1 (c_X9_sum l X c0 (26 : Int32) (3 : Int32) m0 hk0 hqq59) wt_X9_sum wl_RX9_131 rfl hk0 (by decide) rfl rfl hM hS rfl rfl (Nat.le_trans (by decide) hRf) (Nat.le_trans (by decide) hRl) (Nat.le_trans (Nat.le_of_ble_eq_true rfl) hRc) (Nat.le_trans (Nat.le_of_ble_eq_true rfl) hRs) (Nat.le_of_ble_eq_true rfl) dX9_account_162 rfl) hS (fun H locs hM hS => ?_)
    obtain ⟨r63, m61, hqq62, hf⟩ := g1_o hf
    refine ga_i (gr_V (As := [.int r60]) (ci := 9) (rm := { frames := 0, cells := 0, slots := 0, locals := 0 }) E hml hl.1 (c_X9_done l X c0 r60 m58 hk0 hqq62) wt_X9_done wl_RX9_64 rfl hk0 (by decide) rfl rfl hM hS rfl rfl (Nat.le_trans (by decide) hRf) (Nat.le_trans (by decide) hRl) (Nat.le_trans (Nat.le_of_ble_eq_true rfl) hRc) (Nat.le_trans (Nat.le_of_ble_eq_true rfl) hRs) (Nat.le_of_ble_eq_true rfl) dX9_account_165 rfl) hS (fun H locs hM hS => ?_)
    exact ge_i E hr hlocks hf hM hS (Nat.le_of_ble_eq_true rfl) (Nat.le_of_ble_eq_true rfl) dX9_account_168
  have hf := g_f h57 hf
  by_cases h64 : u1 = (10 : Int32)
  · have hf := g_t h64 hf
    refine lv_tableIn (tgt := 169) hx hb dX9_account_1 (by rw [h64]; decide) (by rw [h64]; decide) (by rw [h64]; rfl) (by decide) ?_
    refine lv_aload_n hx hb dX9_account_169 rfl (lv_at hl 0 rfl) ?_
    refine lv_aload_n hx hb dX9_account_170 rfl (lv_at hl 0 rfl) ?_
    obtain ⟨r67, m65, hqq66, hf⟩ := g1_o hf
    refine ga_i (gr_V (As := []) (ci := 9) (rm := { frames := 2, cells := 0, slots := 0, locals := 45 }) E hml hl.1 (c_X9_inTowers l X c0 m0 hk0 hqq66) wt_X9_inTowers wl_RX9_205 rfl hk0 (by decide) rfl rfl hM hS rfl rfl (Nat.le_trans (by decide) hRf) (Nat.le_trans (by decide) hRl) (Nat.le_trans (Nat.le_of_ble_eq_true rfl) hRc) (Nat.le_trans (Nat.le_of_ble_eq_true rfl) hRs) (Nat.le_of_ble_eq_true rfl) dX9_account_171 rfl) hS (fun H locs hM hS => ?_)
    obtain ⟨r70, m68, hqq69, hf⟩ := g1_o hf
    refine ga_i (gr_V (As := [.int r67]) (ci := 9) (rm := { frames := 0, cells := 0, slots := 0, locals := 0 }) E hml hl.1 (c_X9_done l X c0 r67 m65 hk0 hqq69) wt_X9_done wl_RX9_64 rfl hk0 (by decide) rfl rfl hM hS rfl rfl (Nat.le_trans (by decide) hRf) (Nat.le_trans (by decide) hRl) (Nat.le_trans (Nat.le_of_ble_eq_true rfl) hRc) (Nat.le_trans (Nat.le_of_ble_eq_true rfl) hRs) (Nat.le_of_ble_eq_true rfl) dX9_account_174 rfl) hS (fun H locs hM hS => ?_)
    exact ge_i E hr hlocks hf hM hS (Nat.le_of_ble_eq_true rfl) (Nat.le_of_ble_eq_true rfl) dX9_account_177
  have hf := g_f h64 hf
  by_cases h71 : u1 = (11 : Int32)
  · have hf := g_t h71 hf
    refine lv_tableIn (tgt := 178) hx hb dX9_account_1 (by rw [h71]; decide) (by rw [h71]; decide) (by rw [h71]; rfl) (by decide) ?_
    refine lv_aload_n hx hb dX9_account_178 rfl (lv_at hl 0 rfl) ?_
    refine lv_aload_n hx hb dX9_account_179 rfl (lv_at hl 0 rfl) ?_
    refine GX9_7 E hM hk0 dX9_account_180 ?_
    have hg72 : gk (c0 + 1) = 20 := gkf_9_0 hk0
    refine lv_bipush (v := (96 : Int32)) hx hb dX9_account_183 (by decide) ?_
    refine lv_iload_n hx hb dX9_account_185 rfl (lv_at hl 1 rfl) ?_
    refine lv_iadd hx hb dX9_account_186 ?_
    refine lv_bipush (v := (11 : Int32)) hx hb dX9_account_187 (by decide) ?_
    refine lv_isub hx hb dX9_account_189 ?_
    obtain ⟨hi73, hf⟩ := g_ck hf
    refine gg_iald E hM (gk_in hg72 (by decide)) hg72 hi73 dX9_account_190 ?_
    obtain ⟨r76, m74, hqq75, hf⟩ := g1_o hf
    refine ga_i (gr_V (As := [.int (m0 (c0 + 1) (((96 : Int32) + u1) - (11 : Int32)).toNatClampNeg)]) (ci := 9) (rm := { frames := 0, cells := 0, slots := 0, locals := 0 }) E hml hl.1 (c_X9_done l X c0 (m0 (c0 + 1) (((96 : Int32) + u1) - (11 : Int32)).toNatClampNeg) m0 hk0 hqq75) wt_X9_done wl_RX9_64 rfl hk0 (by decide) rfl rfl hM hS rfl rfl (Nat.le_trans (by decide) hRf) (Nat.le_trans (by decide) hRl) (Nat.le_trans (Nat.le_of_ble_eq_true rfl) hRc) (Nat.le_trans (Nat.le_of_ble_eq_true rfl) hRs) (Nat.le_of_ble_eq_true rfl) dX9_account_191 rfl) hS (fun H locs hM hS => ?_)
    exact ge_i E hr hlocks hf hM hS (Nat.le_of_ble_eq_true rfl) (Nat.le_of_ble_eq_true rfl) dX9_account_194
  have hf := g_f h71 hf
  by_cases h77 : u1 = (12 : Int32)
  · have hf := g_t h77 hf
    refine lv_tableIn (tgt := 178) hx hb dX9_account_1 (by rw [h77]; decide) (by rw [h77]; decide) (by rw [h77]; rfl) (by decide) ?_
    refine lv_aload_n hx hb dX9_account_178 rfl (lv_at hl 0 rfl) ?_
    refine lv_aload_n hx hb dX9_account_179 rfl (lv_at hl 0 rfl) ?_
    refine GX9_7 E hM hk0 dX9_account_180 ?_
    have hg78 : gk (c0 + 1) = 20 := gkf_9_0 hk0
    refine lv_bipush (v := (96 : Int32)) hx hb dX9_account_183 (by decide) ?_
    refine lv_iload_n hx hb dX9_account_185 rfl (lv_at hl 1 rfl) ?_
    refine lv_iadd hx hb dX9_account_186 ?_
    refine lv_bipush (v := (11 : Int32)) hx hb dX9_account_187 (by decide) ?_
    refine lv_isub hx hb dX9_account_189 ?_
    obtain ⟨hi79, hf⟩ := g_ck hf
    refine gg_iald E hM (gk_in hg78 (by decide)) hg78 hi79 dX9_account_190 ?_
    obtain ⟨r82, m80, hqq81, hf⟩ := g1_o hf
    refine ga_i (gr_V (As := [.int (m0 (c0 + 1) (((96 : Int32) + u1) - (11 : Int32)).toNatClampNeg)]) (ci := 9) (rm := { frames := 0, cells := 0, slots := 0, locals := 0 }) E hml hl.1 (c_X9_done l X c0 (m0 (c0 + 1) (((96 : Int32) + u1) - (11 : Int32)).toNatClampNeg) m0 hk0 hqq81) wt_X9_done wl_RX9_64 rfl hk0 (by decide) rfl rfl hM hS rfl rfl (Nat.le_trans (by decide) hRf) (Nat.le_trans (by decide) hRl) (Nat.le_trans (Nat.le_of_ble_eq_true rfl) hRc) (Nat.le_trans (Nat.le_of_ble_eq_true rfl) hRs) (Nat.le_of_ble_eq_true rfl) dX9_account_191 rfl) hS (fun H locs hM hS => ?_)
    exact ge_i E hr hlocks hf hM hS (Nat.le_of_ble_eq_true rfl) (Nat.le_of_ble_eq_true rfl) dX9_account_194
  have hf := g_f h77 hf
  by_cases h83 : u1 = (13 : Int32)
  · have hf := g_t h83 hf
    refine lv_tableIn (tgt := 195) hx hb dX9_account_1 (by rw [h83]; decide) (by rw [h83]; decide) (by rw [h83]; rfl) (by decide) ?_
    refine lv_aload_n hx hb dX9_account_195 rfl (lv_at hl 0 rfl) ?_
    refine lv_aload_n hx hb dX9_account_196 rfl (lv_at hl 0 rfl) ?_
    refine lv_bipush (v := (36 : Int32)) hx hb dX9_account_197 (by decide) ?_
    refine lv_aload_n hx hb dX9_account_199 rfl (lv_at hl 0 rfl) ?_
    refine GX9_7 E hM hk0 dX9_account_200 ?_
    have hg84 : gk (c0 + 1) = 20 := gkf_9_0 hk0
    refine lv_bipush (v := (29 : Int32)) hx hb dX9_account_203 (by decide) ?_
    obtain ⟨hi85, hf⟩ := g_ck hf
    refine gg_iald E hM (gk_in hg84 (by decide)) hg84 hi85 dX9_account_205 ?_
    obtain ⟨r88, m86, hqq87, hf⟩ := g1_o hf
    refine ga_i (gr_V (As := [.int (36 : Int32), .int (m0 (c0 + 1) (29 : Int32).toNatClampNeg)]) (ci := 9) (rm := { frames := 0, cells := 0, slots := 0, locals := 0 }) E hml hl.1 (c_X9_sum l X c0 (36 : Int32) (m0 (c0 + 1) (29 : Int32).toNatClampNeg) m0 hk0 hqq87) wt_X9_sum wl_RX9_131 rfl hk0 (by decide) rfl rfl hM hS rfl rfl (Nat.le_trans (by decide) hRf) (Nat.le_trans (by decide) hRl) (Nat.le_trans (Nat.le_of_ble_eq_true rfl) hRc) (Nat.le_trans (Nat.le_of_ble_eq_true rfl) hRs) (Nat.le_of_ble_eq_true rfl) dX9_account_206 rfl) hS (fun H locs hM hS => ?_)
    obtain ⟨r91, m89, hqq90, hf⟩ := g1_o hf
    refine ga_i (gr_V (As := [.int r88]) (ci := 9) (rm := { frames := 0, cells := 0, slots := 0, locals := 0 }) E hml hl.1 (c_X9_done l X c0 r88 m86 hk0 hqq90) wt_X9_done wl_RX9_64 rfl hk0 (by decide) rfl rfl hM hS rfl rfl (Nat.le_trans (by decide) hRf) (Nat.le_trans (by decide) hRl) (Nat.le_trans (Nat.le_of_ble_eq_true rfl) hRc) (Nat.le_trans (Nat.le_of_ble_eq_true rfl) hRs) (Nat.le_of_ble_eq_true rfl) dX9_account_209 rfl) hS (fun H locs hM hS => ?_)
    exact ge_i E hr hlocks hf hM hS (Nat.le_of_ble_eq_true rfl) (Nat.le_of_ble_eq_true rfl) dX9_account_212
  have hf := g_f h83 hf
  by_cases h92 : u1 = (14 : Int32)
  · have hf := g_t h92 hf
    refine lv_tableIn (tgt := 213) hx hb dX9_account_1 (by rw [h92]; decide) (by rw [h92]; decide) (by rw [h92]; rfl) (by decide) ?_
    refine lv_aload_n hx hb dX9_account_213 rfl (lv_at hl 0 rfl) ?_
    refine lv_aload_n hx hb dX9_account_214 rfl (lv_at hl 0 rfl) ?_
    refine GX9_7 E hM hk0 dX9_account_215 ?_
    have hg93 : gk (c0 + 1) = 20 := gkf_9_0 hk0
    refine lv_bipush (v := (98 : Int32)) hx hb dX9_account_218 (by decide) ?_
    obtain ⟨hi94, hf⟩ := g_ck hf
    refine gg_iald E hM (gk_in hg93 (by decide)) hg93 hi94 dX9_account_220 ?_
    obtain ⟨r97, m95, hqq96, hf⟩ := g1_o hf
    refine ga_i (gr_V (As := [.int (m0 (c0 + 1) (98 : Int32).toNatClampNeg)]) (ci := 9) (rm := { frames := 0, cells := 0, slots := 0, locals := 0 }) E hml hl.1 (c_X9_done l X c0 (m0 (c0 + 1) (98 : Int32).toNatClampNeg) m0 hk0 hqq96) wt_X9_done wl_RX9_64 rfl hk0 (by decide) rfl rfl hM hS rfl rfl (Nat.le_trans (by decide) hRf) (Nat.le_trans (by decide) hRl) (Nat.le_trans (Nat.le_of_ble_eq_true rfl) hRc) (Nat.le_trans (Nat.le_of_ble_eq_true rfl) hRs) (Nat.le_of_ble_eq_true rfl) dX9_account_221 rfl) hS (fun H locs hM hS => ?_)
    exact ge_i E hr hlocks hf hM hS (Nat.le_of_ble_eq_true rfl) (Nat.le_of_ble_eq_true rfl) dX9_account_224
  have hf := g_f h92 hf
  by_cases h98 : u1 = (15 : Int32)
  · have hf := g_t h98 hf
    refine lv_tableIn (tgt := 225) hx hb dX9_account_1 (by rw [h98]; decide) (by rw [h98]; decide) (by rw [h98]; rfl) (by decide) ?_
    refine lv_aload_n hx hb dX9_account_225 rfl (lv_at hl 0 rfl) ?_
    refine lv_aload_n hx hb dX9_account_226 rfl (lv_at hl 0 rfl) ?_
    refine GX9_172 E hM hk0 dX9_account_227 ?_
    obtain ⟨r101, m99, hqq100, hf⟩ := g1_o hf
    refine ga_i (gr_V (As := [.int (m0 c0 7)]) (ci := 9) (rm := { frames := 0, cells := 0, slots := 0, locals := 0 }) E hml hl.1 (c_X9_done l X c0 (m0 c0 7) m0 hk0 hqq100) wt_X9_done wl_RX9_64 rfl hk0 (by decide) rfl rfl hM hS rfl rfl (Nat.le_trans (by decide) hRf) (Nat.le_trans (by decide) hRl) (Nat.le_trans (Nat.le_of_ble_eq_true rfl) hRc) (Nat.le_trans (Nat.le_of_ble_eq_true rfl) hRs) (Nat.le_of_ble_eq_true rfl) dX9_account_230 rfl) hS (fun H locs hM hS => ?_)
    exact ge_i E hr hlocks hf hM hS (Nat.le_of_ble_eq_true rfl) (Nat.le_of_ble_eq_true rfl) dX9_account_233
  have hf := g_f h98 hf
  by_cases h102 : u1 = (16 : Int32)
  · have hf := g_t h102 hf
    refine lv_tableIn (tgt := 234) hx hb dX9_account_1 (by rw [h102]; decide) (by rw [h102]; decide) (by rw [h102]; rfl) (by decide) ?_
    refine lv_aload_n hx hb dX9_account_234 rfl (lv_at hl 0 rfl) ?_
    refine lv_aload_n hx hb dX9_account_235 rfl (lv_at hl 0 rfl) ?_
    refine GX9_50 E hM hk0 dX9_account_236 ?_
    obtain ⟨r105, m103, hqq104, hf⟩ := g1_o hf
    refine ga_i (gr_V (As := [.int (m0 c0 3)]) (ci := 9) (rm := { frames := 0, cells := 0, slots := 0, locals := 0 }) E hml hl.1 (c_X9_done l X c0 (m0 c0 3) m0 hk0 hqq104) wt_X9_done wl_RX9_64 rfl hk0 (by decide) rfl rfl hM hS rfl rfl (Nat.le_trans (by decide) hRf) (Nat.le_trans (by decide) hRl) (Nat.le_trans (Nat.le_of_ble_eq_true rfl) hRc) (Nat.le_trans (Nat.le_of_ble_eq_true rfl) hRs) (Nat.le_of_ble_eq_true rfl) dX9_account_239 rfl) hS (fun H locs hM hS => ?_)
    exact ge_i E hr hlocks hf hM hS (Nat.le_of_ble_eq_true rfl) (Nat.le_of_ble_eq_true rfl) dX9_account_242
  have hf := g_f h102 hf
  have ah2 := g_tn (z := 0) h2 rfl
  have ah8 := g_tn (z := 1) h8 rfl
  have ah14 := g_tn (z := 2) h14 rfl
  have ah20 := g_tn (z := 3) h20 rfl
  have ah26 := g_tn (z := 4) h26 rfl
  have ah33 := g_tn (z := 5) h33 rfl
  have ah39 := g_tn (z := 6) h39 rfl
  have ah45 := g_tn (z := 7) h45 rfl
  have ah51 := g_tn (z := 8) h51 rfl
  have ah57 := g_tn (z := 9) h57 rfl
  have ah64 := g_tn (z := 10) h64 rfl
  have ah71 := g_tn (z := 11) h71 rfl
  have ah77 := g_tn (z := 12) h77 rfl
  have ah83 := g_tn (z := 13) h83 rfl
  have ah92 := g_tn (z := 14) h92 rfl
  have ah98 := g_tn (z := 15) h98 rfl
  have ah102 := g_tn (z := 16) h102 rfl
  refine lv_tableOut (tgt := 243) hx hb dX9_account_1 (by omega) (by decide) ?_
  refine lv_aload_n hx hb dX9_account_243 rfl (lv_at hl 0 rfl) ?_
  refine lv_iconst (v := (1 : Int32)) hx hb dX9_account_244 (by decide) ?_
  obtain ⟨r108, m106, hqq107, hf⟩ := g1_o hf
  refine ga_i (gr_V (As := [.int (1 : Int32)]) (ci := 9) (rm := { frames := 0, cells := 0, slots := 0, locals := 0 }) E hml hl.1 (c_X9_fails l X c0 (1 : Int32) m0 hk0 hqq107) wt_X9_fails wl_RX9_57 rfl hk0 (by decide) rfl rfl hM hS rfl rfl (Nat.le_trans (by decide) hRf) (Nat.le_trans (by decide) hRl) (Nat.le_trans (Nat.le_of_ble_eq_true rfl) hRc) (Nat.le_trans (Nat.le_of_ble_eq_true rfl) hRs) (Nat.le_of_ble_eq_true rfl) dX9_account_245 rfl) hS (fun H locs hM hS => ?_)
  exact ge_i E hr hlocks hf hM hS (Nat.le_of_ble_eq_true rfl) (Nat.le_of_ble_eq_true rfl) dX9_account_248
theorem c_X9_account (l : Launch) (X : gX) (c0 : Nat) (u1 : Int32) (m0 : gMem) {res : Int32 × gMem} (hk0 : gk c0 = 9) (hf : f_X9_account c0 u1 m0 = some res) : Met l yX9_account (gWs yX9_account cX9_account 2 (some .int)) { frames := 3, cells := 0, slots := 0, locals := 67 } (va_Pc [.ref (X.1 + c0), .int u1] (gB X m0)) (gQi X res) 0 0 (gA X) :=
  gMet (own := RX9) (by decide +kernel) rfl (Nat.le_of_ble_eq_true rfl) (fun p e s m args below meth c ls E hr hlocks hml hM hl => b_X9_account E hr hlocks hml (Nat.le_refl _) (Nat.le_refl _) (Nat.le_refl _) (Nat.le_refl _) hk0 hf hM va_S.rf hl)
def L_X9_isWell_91 (c0 : Nat) (u2 : Int32) (k137 : Int32 → Int32 →  gMem → Option (Int32 × gMem)) : Nat → Int32 → Int32 → gMem → Option (Int32 × gMem)
  | 0, _, _, _ => none
  | n + 1, y1, y3, m0 => if ¬ (((36 : Int32) + u2) < 0 ∨ gl (c0 + 1) ≤ ((36 : Int32) + u2).toNatClampNeg) then if (m0 (c0 + 1) ((36 : Int32) + u2).toNatClampNeg) ≤ y3 then (k137 y1 y3 m0) else (if y1 = (0 : Int32) then (gv (y3 + (1 : Int32)) (fun x21 => L_X9_isWell_91 c0 u2 k137 n (0 : Int32) x21 m0)) else (g1 (f_X9_cubesOf c0 u2 y3 m0) (fun r24 m22 => g1 (f_X9_cubesOf c0 u2 (y3 - (1 : Int32)) m22) (fun r27 m25 => if r27 < r24 then (gv (y3 + (1 : Int32)) (fun x29 => L_X9_isWell_91 c0 u2 k137 n (0 : Int32) x29 m25)) else (gv (y3 + (1 : Int32)) (fun x30 => L_X9_isWell_91 c0 u2 k137 n (1 : Int32) x30 m25)))))) else none
def L_X9_isWell_78 (c0 : Nat) : Nat → Int32 → Int32 → gMem → Option (Int32 × gMem)
  | 0, _, _, _ => none
  | n + 1, y1, y2, m0 => if ¬ ((29 : Int32) < 0 ∨ gl (c0 + 1) ≤ (29 : Int32).toNatClampNeg) then if (m0 (c0 + 1) (29 : Int32).toNatClampNeg) ≤ y2 then (if y1 = 0 ∨ y1 = 1 then some (y1, m0) else none) else (L_X9_isWell_91 c0 y2 (fun y31 y32 m33 => gv (y2 + (1 : Int32)) (fun x34 => L_X9_isWell_78 c0 n y31 x34 m33)) gF y1 (1 : Int32) m0) else none
def f_X9_isWell (c0 : Nat) (m0 : gMem) : Option (Int32 × gMem) := gv (ms m0 c0 12 (0 : Int32)) (fun m1 => if ¬ ((95 : Int32) < 0 ∨ gl (c0 + 1) ≤ (95 : Int32).toNatClampNeg) then g1 (f_X9_sum c0 (26 : Int32) (3 : Int32) m1) (fun r6 m4 => g1 (f_X9_inTowers c0 m4) (fun r9 m7 => if ¬ ((96 : Int32) < 0 ∨ gl (c0 + 1) ≤ (96 : Int32).toNatClampNeg) then if ¬ ((97 : Int32) < 0 ∨ gl (c0 + 1) ≤ (97 : Int32).toNatClampNeg) then if (m1 (c0 + 1) (95 : Int32).toNatClampNeg) = (((r6 + r9) + (m7 (c0 + 1) (96 : Int32).toNatClampNeg)) + (m7 (c0 + 1) (97 : Int32).toNatClampNeg)) then (if ¬ ((1 : Int32) < 0 ∨ gl (c0 + 1) ≤ (1 : Int32).toNatClampNeg) then if ¬ ((99 : Int32) < 0 ∨ gl (c0 + 1) ≤ (99 : Int32).toNatClampNeg) then if ¬ ((98 : Int32) < 0 ∨ gl (c0 + 1) ≤ (98 : Int32).toNatClampNeg) then if (m7 (c0 + 1) (1 : Int32).toNatClampNeg) = (((100 : Int32) - (m7 (c0 + 1) (99 : Int32).toNatClampNeg)) + (m7 (c0 + 1) (98 : Int32).toNatClampNeg)) then (L_X9_isWell_78 c0 gF (1 : Int32) (0 : Int32) m7) else (L_X9_isWell_78 c0 gF (0 : Int32) (0 : Int32) m7) else none else none else none) else (L_X9_isWell_78 c0 gF (0 : Int32) (0 : Int32) m7) else none else none)) else none)
set_option maxRecDepth 100000 in
set_option maxHeartbeats 4000000 in
theorem l_X9_isWell_91 {p : Program} {l : Launch} {e : Env} {R : Room} {s : State} {m : MethodId} {args : Array Value} {below : List Frame} {meth : Method} {c : Code} {cells slots : Nat} {X : gX} (E : gEn p s m args c cX9_isWell RX9 X) (hr : meth.sig.returnType = (some .boolean)) (hlocks : meth.locks = false) (hml : c.maxLocals = 4) (hRf : 3 ≤ R.frames) (hRl : 67 ≤ R.locals) (hRc : 0 ≤ R.cells) (hRs : 0 ≤ R.slots) (hc : cells ≤ 0) (hs : slots ≤ 0) (c0 : Nat) (u2 : Int32) (hk0 : gk c0 = 9) (k137 : Int32 → Int32 →  gMem → Option (Int32 × gMem)) {res : Int32 × gMem}
    (hk137 : ∀ (y1 : Int32) (y3 : Int32) (m0 : gMem) (H : Heap) (locs : List Loc) (ls : Array Slot), k137 y1 y3 m0 = some res → gM X m0 H → va_S (gA X) s.heap H locs → lv_has ls 4 [(0, .ref (X.1 + c0)), (1, .int y1), (2, .int u2), (3, .int y3)] → W p l e R s m args below meth c H locs cells slots (MQ below (gQi X res) args s 0 0 (gA X)) (F0 m 137 ls [])) :
    ∀ (n : Nat) (y1 : Int32) (y3 : Int32) (m0 : gMem) (H : Heap) (locs : List Loc) (ls : Array Slot), L_X9_isWell_91 c0 u2 k137 n y1 y3 m0 = some res → gM X m0 H → va_S (gA X) s.heap H locs → lv_has ls 4 [(0, .ref (X.1 + c0)), (1, .int y1), (2, .int u2), (3, .int y3)] → W p l e R s m args below meth c H locs cells slots (MQ below (gQi X res) args s 0 0 (gA X)) (F0 m 91 ls []) := by
  obtain ⟨hx, hb⟩ := (⟨E.1, E.2.1⟩ : _ ∧ _)
  intro n
  induction n with
  | zero =>
    intro _ _ _ _ _ _ hf
    cases hf
  | succ n ih =>
    intro y1 y3 m0 H locs ls hf hM hS hl
    rw [L_X9_isWell_91] at hf
    refine lv_iload_n hx hb dX9_isWell_91 rfl (lv_at hl 3 rfl) ?_
    refine lv_aload_n hx hb dX9_isWell_92 rfl (lv_at hl 0 rfl) ?_
    refine GX9_7 E hM hk0 dX9_isWell_93 ?_
    have hg17 : gk (c0 + 1) = 20 := gkf_9_0 hk0
    refine lv_bipush (v := (36 : Int32)) hx hb dX9_isWell_96 (by decide) ?_
    refine lv_iload_n hx hb dX9_isWell_98 rfl (lv_at hl 2 rfl) ?_
    refine lv_iadd hx hb dX9_isWell_99 ?_
    obtain ⟨hi18, hf⟩ := g_ck hf
    refine gg_iald E hM (gk_in hg17 (by decide)) hg17 hi18 dX9_isWell_100 ?_
    refine lv_icmp_ge (tgt := 137) hx hb dX9_isWell_101 (by decide) (fun h19 => ?_) (fun h19 => ?_)
    · have hf := g_t h19 hf
      exact hk137 y1 y3 m0 _ _ _ hf hM hS (lv_sub hl [0, 1, 2, 3] rfl)
    · have hf := g_f h19 hf
      refine lv_iload_n hx hb dX9_isWell_104 rfl (lv_at hl 1 rfl) ?_
      refine lv_if_eq (tgt := 129) hx hb dX9_isWell_105 (by decide) (fun h20 => ?_) (fun h20 => ?_)
      · have hf := g_t h20 hf
        refine lv_iconst (v := (0 : Int32)) hx hb dX9_isWell_129 (by decide) ?_
        refine lv_istore_n (lv' := [(1, .int (0 : Int32)), (0, .ref (X.1 + c0)), (2, .int u2), (3, .int y3)]) hx hb dX9_isWell_130 rfl hl (by decide) rfl (fun ls hl => ?_)
        obtain ⟨x21, ex21, hf⟩ := gv_o hf
        refine lv_iinc (v := x21) (lv' := [(3, .int x21), (1, .int (0 : Int32)), (0, .ref (X.1 + c0)), (2, .int u2)]) hx hb dX9_isWell_131 hl (k := 3) rfl (by rw [ex21]; rfl) (by decide) rfl (fun ls hl => ?_)
        refine lv_goto (tgt := 91) hx hb dX9_isWell_134 (by decide) ?_
        exact ih (0 : Int32) x21 m0 _ _ _ hf hM hS (lv_sub hl [2, 1, 3, 0] rfl)
      · have hf := g_f h20 hf
        refine lv_aload_n hx hb dX9_isWell_108 rfl (lv_at hl 0 rfl) ?_
        refine lv_iload_n hx hb dX9_isWell_109 rfl (lv_at hl 2 rfl) ?_
        refine lv_iload_n hx hb dX9_isWell_110 rfl (lv_at hl 3 rfl) ?_
        obtain ⟨r24, m22, hqq23, hf⟩ := g1_o hf
        refine ga_i (gr_V (As := [.int u2, .int y3]) (ci := 9) (rm := { frames := 0, cells := 0, slots := 0, locals := 0 }) E hml hl.1 (c_X9_cubesOf l X c0 u2 y3 m0 hk0 hqq23) wt_X9_cubesOf wl_RX9_94 rfl hk0 (by decide) rfl rfl hM hS rfl rfl (Nat.le_trans (by decide) hRf) (Nat.le_trans (by decide) hRl) (Nat.le_trans hc hRc) (Nat.le_trans hs hRs) (Nat.le_of_ble_eq_true rfl) dX9_isWell_111 rfl) hS (fun H locs hM hS => ?_)
        refine lv_aload_n hx hb dX9_isWell_114 rfl (lv_at hl 0 rfl) ?_
        refine lv_iload_n hx hb dX9_isWell_115 rfl (lv_at hl 2 rfl) ?_
        refine lv_iload_n hx hb dX9_isWell_116 rfl (lv_at hl 3 rfl) ?_
        refine lv_iconst (v := (1 : Int32)) hx hb dX9_isWell_117 (by decide) ?_
        refine lv_isub hx hb dX9_isWell_118 ?_
        obtain ⟨r27, m25, hqq26, hf⟩ := g1_o hf
        refine ga_i (gr_V (As := [.int u2, .int (y3 - (1 : Int32))]) (ci := 9) (rm := { frames := 0, cells := 0, slots := 0, locals := 0 }) E hml hl.1 (c_X9_cubesOf l X c0 u2 (y3 - (1 : Int32)) m22 hk0 hqq26) wt_X9_cubesOf wl_RX9_94 rfl hk0 (by decide) rfl rfl hM hS rfl rfl (Nat.le_trans (by decide) hRf) (Nat.le_trans (by decide) hRl) (Nat.le_trans hc hRc) (Nat.le_trans hs hRs) (Nat.le_of_ble_eq_true rfl) dX9_isWell_119 rfl) hS (fun H locs hM hS => ?_)
        refine lv_icmp_gt (tgt := 129) hx hb dX9_isWell_122 (by decide) (fun h28 => ?_) (fun h28 => ?_)
        · have hf := g_t h28 hf
          refine lv_iconst (v := (0 : Int32)) hx hb dX9_isWell_129 (by decide) ?_
          refine lv_istore_n (lv' := [(1, .int (0 : Int32)), (0, .ref (X.1 + c0)), (2, .int u2), (3, .int y3)]) hx hb dX9_isWell_130 rfl hl (by decide) rfl (fun ls hl => ?_)
          obtain ⟨x29, ex29, hf⟩ := gv_o hf
          refine lv_iinc (v := x29) (lv' := [(3, .int x29), (1, .int (0 : Int32)), (0, .ref (X.1 + c0)), (2, .int u2)]) hx hb dX9_isWell_131 hl (k := 3) rfl (by rw [ex29]; rfl) (by decide) rfl (fun ls hl => ?_)
          refine lv_goto (tgt := 91) hx hb dX9_isWell_134 (by decide) ?_
          exact ih (0 : Int32) x29 m25 _ _ _ hf hM hS (lv_sub hl [2, 1, 3, 0] rfl)
        · have hf := g_f h28 hf
          refine lv_iconst (v := (1 : Int32)) hx hb dX9_isWell_125 (by decide) ?_
          refine lv_goto (tgt := 130) hx hb dX9_isWell_126 (by decide) ?_
          refine lv_istore_n (lv' := [(1, .int (1 : Int32)), (0, .ref (X.1 + c0)), (2, .int u2), (3, .int y3)]) hx hb dX9_isWell_130 rfl hl (by decide) rfl (fun ls hl => ?_)
          obtain ⟨x30, ex30, hf⟩ := gv_o hf
          refine lv_iinc (v := x30) (lv' := [(3, .int x30), (1, .int (1 : Int32)), (0, .ref (X.1 + c0)), (2, .int u2)]) hx hb dX9_isWell_131 hl (k := 3) rfl (by rw [ex30]; rfl) (by decide) rfl (fun ls hl => ?_)
          refine lv_goto (tgt := 91) hx hb dX9_isWell_134 (by decide) ?_
          exact ih (1 : Int32) x30 m25 _ _ _ hf hM hS (lv_sub hl [2, 1, 3, 0] rfl)
set_option maxRecDepth 100000 in
set_option maxHeartbeats 4000000 in
theorem l_X9_isWell_78 {p : Program} {l : Launch} {e : Env} {R : Room} {s : State} {m : MethodId} {args : Array Value} {below : List Frame} {meth : Method} {c : Code} {cells slots : Nat} {X : gX} (E : gEn p s m args c cX9_isWell RX9 X) (hr : meth.sig.returnType = (some .boolean)) (hlocks : meth.locks = false) (hml : c.maxLocals = 4) (hRf : 3 ≤ R.frames) (hRl : 67 ≤ R.locals) (hRc : 0 ≤ R.cells) (hRs : 0 ≤ R.slots) (hc : cells ≤ 0) (hs : slots ≤ 0) (c0 : Nat) (hk0 : gk c0 = 9) {res : Int32 × gMem} :
    ∀ (n : Nat) (y1 : Int32) (y2 : Int32) (m0 : gMem) (H : Heap) (locs : List Loc) (ls : Array Slot), L_X9_isWell_78 c0 n y1 y2 m0 = some res → gM X m0 H → va_S (gA X) s.heap H locs → lv_has ls 4 [(0, .ref (X.1 + c0)), (1, .int y1), (2, .int y2)] → W p l e R s m args below meth c H locs cells slots (MQ below (gQi X res) args s 0 0 (gA X)) (F0 m 78 ls []) := by
  obtain ⟨hx, hb⟩ := (⟨E.1, E.2.1⟩ : _ ∧ _)
  intro n
  induction n with
  | zero =>
    intro _ _ _ _ _ _ hf
    cases hf
  | succ n ih =>
    intro y1 y2 m0 H locs ls hf hM hS hl
    rw [L_X9_isWell_78] at hf
    refine lv_iload_n hx hb dX9_isWell_78 rfl (lv_at hl 2 rfl) ?_
    refine lv_aload_n hx hb dX9_isWell_79 rfl (lv_at hl 0 rfl) ?_
    refine GX9_7 E hM hk0 dX9_isWell_80 ?_
    have hg13 : gk (c0 + 1) = 20 := gkf_9_0 hk0
    refine lv_bipush (v := (29 : Int32)) hx hb dX9_isWell_83 (by decide) ?_
    obtain ⟨hi14, hf⟩ := g_ck hf
    refine gg_iald E hM (gk_in hg13 (by decide)) hg13 hi14 dX9_isWell_85 ?_
    refine lv_icmp_ge (tgt := 143) hx hb dX9_isWell_86 (by decide) (fun h15 => ?_) (fun h15 => ?_)
    · have hf := g_t h15 hf
      refine lv_iload_n hx hb dX9_isWell_143 rfl (lv_at hl 1 rfl) ?_
      obtain ⟨hb16, hf⟩ := g_ck hf
      exact ge_z E hr (g_nb hb16) hlocks hf hM hS hc hs dX9_isWell_144
    · have hf := g_f h15 hf
      refine lv_iconst (v := (1 : Int32)) hx hb dX9_isWell_89 (by decide) ?_
      refine lv_istore_n (lv' := [(3, .int (1 : Int32)), (0, .ref (X.1 + c0)), (1, .int y1), (2, .int y2)]) hx hb dX9_isWell_90 rfl hl (by decide) rfl (fun ls hl => ?_)
      refine l_X9_isWell_91 E hr hlocks hml hRf hRl hRc hRs hc hs c0 y2 hk0 _ (fun y31 y32 m33 H locs ls hf hM hS hl => ?_) gF y1 (1 : Int32) m0 _ _ _ hf hM hS (lv_sub hl [1, 2, 3, 0] rfl)
      obtain ⟨x34, ex34, hf⟩ := gv_o hf
      refine lv_iinc (v := x34) (lv' := [(2, .int x34), (0, .ref (X.1 + c0)), (1, .int y31), (3, .int y32)]) hx hb dX9_isWell_137 hl (k := 2) rfl (by rw [ex34]; rfl) (by decide) rfl (fun ls hl => ?_)
      refine lv_goto (tgt := 78) hx hb dX9_isWell_140 (by decide) ?_
      exact ih y31 x34 m33 _ _ _ hf hM hS (lv_sub hl [1, 2, 0] rfl)
set_option maxRecDepth 100000 in
set_option maxHeartbeats 4000000 in
theorem b_X9_isWell {p : Program} {l : Launch} {e : Env} {R : Room} {s : State} {m : MethodId} {args : Array Value} {below : List Frame} {meth : Method} {c : Code} {H : Heap} {locs : List Loc} {ls : Array Slot} {X : gX} (E : gEn p s m args c cX9_isWell RX9 X) (hr : meth.sig.returnType = (some .boolean)) (hlocks : meth.locks = false) (hml : c.maxLocals = 4) (hRf : 3 ≤ R.frames) (hRl : 67 ≤ R.locals) (hRc : 0 ≤ R.cells) (hRs : 0 ≤ R.slots) {c0 : Nat} {m0 : gMem} {res : Int32 × gMem} (hk0 : gk c0 = 9) (hf : f_X9_isWell c0 m0 = some res) (hM : gM X m0 H) (hS : va_S (gA X) s.heap H locs) (hl : lv_has ls 4 [(0, .ref (X.1 + c0))]) : W p l e R s m args below meth c H locs 0 0 (MQ below (gQi X res) args s 0 0 (gA X)) (F0 m 0 ls []) := by
  obtain ⟨hx, hb⟩ := (⟨E.1, E.2.1⟩ : _ ∧ _)
  unfold f_X9_isWell at hf
  refine lv_aload_n hx hb dX9_isWell_0 rfl (lv_at hl 0 rfl) ?_
  refine lv_iconst (v := (0 : Int32)) hx hb dX9_isWell_1 (by decide) ?_
  obtain ⟨m1, em1, hf⟩ := gv_o hf
  refine PX9_33 E hM hS hk0 em1 dX9_isWell_2 (fun H locs hM hS => ?_)
  refine lv_aload_n hx hb dX9_isWell_5 rfl (lv_at hl 0 rfl) ?_
  refine GX9_7 E hM hk0 dX9_isWell_6 ?_
  have hg2 : gk (c0 + 1) = 20 := gkf_9_0 hk0
  refine lv_bipush (v := (95 : Int32)) hx hb dX9_isWell_9 (by decide) ?_
  obtain ⟨hi3, hf⟩ := g_ck hf
  refine gg_iald E hM (gk_in hg2 (by decide)) hg2 hi3 dX9_isWell_11 ?_
  refine lv_aload_n hx hb dX9_isWell_12 rfl (lv_at hl 0 rfl) ?_
  refine lv_bipush (v := (26 : Int32)) hx hb dX9_isWell_13 (by decide) ?_
  refine lv_iconst (v := (3 : Int32)) hx hb dX9_isWell_15 (by decide) ?_
  obtain ⟨r6, m4, hqq5, hf⟩ := g1_o hf
  refine ga_i (gr_V (As := [.int (26 : Int32), .int (3 : Int32)]) (ci := 9) (rm := { frames := 0, cells := 0, slots := 0, locals := 0 }) E hml hl.1 (c_X9_sum l X c0 (26 : Int32) (3 : Int32) m1 hk0 hqq5) wt_X9_sum wl_RX9_131 rfl hk0 (by decide) rfl rfl hM hS rfl rfl (Nat.le_trans (by decide) hRf) (Nat.le_trans (by decide) hRl) (Nat.le_trans (Nat.le_of_ble_eq_true rfl) hRc) (Nat.le_trans (Nat.le_of_ble_eq_true rfl) hRs) (Nat.le_of_ble_eq_true rfl) dX9_isWell_16 rfl) hS (fun H locs hM hS => ?_)
  refine lv_aload_n hx hb dX9_isWell_19 rfl (lv_at hl 0 rfl) ?_
  obtain ⟨r9, m7, hqq8, hf⟩ := g1_o hf
  refine ga_i (gr_V (As := []) (ci := 9) (rm := { frames := 2, cells := 0, slots := 0, locals := 45 }) E hml hl.1 (c_X9_inTowers l X c0 m4 hk0 hqq8) wt_X9_inTowers wl_RX9_205 rfl hk0 (by decide) rfl rfl hM hS rfl rfl (Nat.le_trans (by decide) hRf) (Nat.le_trans (by decide) hRl) (Nat.le_trans (Nat.le_of_ble_eq_true rfl) hRc) (Nat.le_trans (Nat.le_of_ble_eq_true rfl) hRs) (Nat.le_of_ble_eq_true rfl) dX9_isWell_20 rfl) hS (fun H locs hM hS => ?_)
  refine lv_iadd hx hb dX9_isWell_23 ?_
  refine lv_aload_n hx hb dX9_isWell_24 rfl (lv_at hl 0 rfl) ?_
  refine GX9_7 E hM hk0 dX9_isWell_25 ?_
  refine lv_bipush (v := (96 : Int32)) hx hb dX9_isWell_28 (by decide) ?_
  obtain ⟨hi10, hf⟩ := g_ck hf
  refine gg_iald E hM (gk_in hg2 (by decide)) hg2 hi10 dX9_isWell_30 ?_
  refine lv_iadd hx hb dX9_isWell_31 ?_
  refine lv_aload_n hx hb dX9_isWell_32 rfl (lv_at hl 0 rfl) ?_
  refine GX9_7 E hM hk0 dX9_isWell_33 ?_
  refine lv_bipush (v := (97 : Int32)) hx hb dX9_isWell_36 (by decide) ?_
  obtain ⟨hi11, hf⟩ := g_ck hf
  refine gg_iald E hM (gk_in hg2 (by decide)) hg2 hi11 dX9_isWell_38 ?_
  refine lv_iadd hx hb dX9_isWell_39 ?_
  refine lv_icmp_ne (tgt := 74) hx hb dX9_isWell_40 (by decide) (fun h12 => ?_) (fun h12 => ?_)
  · have hf := g_f h12 hf
    refine lv_iconst (v := (0 : Int32)) hx hb dX9_isWell_74 (by decide) ?_
    refine lv_istore_n (lv' := [(1, .int (0 : Int32)), (0, .ref (X.1 + c0))]) hx hb dX9_isWell_75 rfl hl (by decide) rfl (fun ls hl => ?_)
    refine lv_iconst (v := (0 : Int32)) hx hb dX9_isWell_76 (by decide) ?_
    refine lv_istore_n (lv' := [(2, .int (0 : Int32)), (1, .int (0 : Int32)), (0, .ref (X.1 + c0))]) hx hb dX9_isWell_77 rfl hl (by decide) rfl (fun ls hl => ?_)
    refine l_X9_isWell_78 E hr hlocks hml hRf hRl hRc hRs (Nat.le_of_ble_eq_true rfl) (Nat.le_of_ble_eq_true rfl) c0 hk0 gF (0 : Int32) (0 : Int32) m7 _ _ _ hf hM hS (lv_sub hl [2, 1, 0] rfl)
  · have hf := g_t h12 hf
    refine lv_aload_n hx hb dX9_isWell_43 rfl (lv_at hl 0 rfl) ?_
    refine GX9_7 E hM hk0 dX9_isWell_44 ?_
    refine lv_iconst (v := (1 : Int32)) hx hb dX9_isWell_47 (by decide) ?_
    obtain ⟨hi35, hf⟩ := g_ck hf
    refine gg_iald E hM (gk_in hg2 (by decide)) hg2 hi35 dX9_isWell_48 ?_
    refine lv_bipush (v := (100 : Int32)) hx hb dX9_isWell_49 (by decide) ?_
    refine lv_aload_n hx hb dX9_isWell_51 rfl (lv_at hl 0 rfl) ?_
    refine GX9_7 E hM hk0 dX9_isWell_52 ?_
    refine lv_bipush (v := (99 : Int32)) hx hb dX9_isWell_55 (by decide) ?_
    obtain ⟨hi36, hf⟩ := g_ck hf
    refine gg_iald E hM (gk_in hg2 (by decide)) hg2 hi36 dX9_isWell_57 ?_
    refine lv_isub hx hb dX9_isWell_58 ?_
    refine lv_aload_n hx hb dX9_isWell_59 rfl (lv_at hl 0 rfl) ?_
    refine GX9_7 E hM hk0 dX9_isWell_60 ?_
    refine lv_bipush (v := (98 : Int32)) hx hb dX9_isWell_63 (by decide) ?_
    obtain ⟨hi37, hf⟩ := g_ck hf
    refine gg_iald E hM (gk_in hg2 (by decide)) hg2 hi37 dX9_isWell_65 ?_
    refine lv_iadd hx hb dX9_isWell_66 ?_
    refine lv_icmp_ne (tgt := 74) hx hb dX9_isWell_67 (by decide) (fun h38 => ?_) (fun h38 => ?_)
    · have hf := g_f h38 hf
      refine lv_iconst (v := (0 : Int32)) hx hb dX9_isWell_74 (by decide) ?_
      refine lv_istore_n (lv' := [(1, .int (0 : Int32)), (0, .ref (X.1 + c0))]) hx hb dX9_isWell_75 rfl hl (by decide) rfl (fun ls hl => ?_)
      refine lv_iconst (v := (0 : Int32)) hx hb dX9_isWell_76 (by decide) ?_
      refine lv_istore_n (lv' := [(2, .int (0 : Int32)), (1, .int (0 : Int32)), (0, .ref (X.1 + c0))]) hx hb dX9_isWell_77 rfl hl (by decide) rfl (fun ls hl => ?_)
      refine l_X9_isWell_78 E hr hlocks hml hRf hRl hRc hRs (Nat.le_of_ble_eq_true rfl) (Nat.le_of_ble_eq_true rfl) c0 hk0 gF (0 : Int32) (0 : Int32) m7 _ _ _ hf hM hS (lv_sub hl [2, 1, 0] rfl)
    · have hf := g_t h38 hf
      refine lv_iconst (v := (1 : Int32)) hx hb dX9_isWell_70 (by decide) ?_
      refine lv_goto (tgt := 75) hx hb dX9_isWell_71 (by decide) ?_
      refine lv_istore_n (lv' := [(1, .int (1 : Int32)), (0, .ref (X.1 + c0))]) hx hb dX9_isWell_75 rfl hl (by decide) rfl (fun ls hl => ?_)
      refine lv_iconst (v := (0 : Int32)) hx hb dX9_isWell_76 (by decide) ?_
      refine lv_istore_n (lv' := [(2, .int (0 : Int32)), (1, .int (1 : Int32)), (0, .ref (X.1 + c0))]) hx hb dX9_isWell_77 rfl hl (by decide) rfl (fun ls hl => ?_)
      refine l_X9_isWell_78 E hr hlocks hml hRf hRl hRc hRs (Nat.le_of_ble_eq_true rfl) (Nat.le_of_ble_eq_true rfl) c0 hk0 gF (1 : Int32) (0 : Int32) m7 _ _ _ hf hM hS (lv_sub hl [2, 1, 0] rfl)
theorem c_X9_isWell (l : Launch) (X : gX) (c0 : Nat) (m0 : gMem) {res : Int32 × gMem} (hk0 : gk c0 = 9) (hf : f_X9_isWell c0 m0 = some res) : Met l yX9_isWell (gWs yX9_isWell cX9_isWell 4 (some .boolean)) { frames := 3, cells := 0, slots := 0, locals := 67 } (va_Pc [.ref (X.1 + c0)] (gB X m0)) (gQi X res) 0 0 (gA X) :=
  gMet (own := RX9) (by decide +kernel) rfl (Nat.le_of_ble_eq_true rfl) (fun p e s m args below meth c ls E hr hlocks hml hM hl => b_X9_isWell E hr hlocks hml (Nat.le_refl _) (Nat.le_refl _) (Nat.le_refl _) (Nat.le_refl _) hk0 hf hM va_S.rf hl)
def f_X9_meanDampness (c0 : Nat) (m0 : gMem) : Option (UInt64 × gMem) := if ¬ ((29 : Int32) < 0 ∨ gl (c0 + 1) ≤ (29 : Int32).toNatClampNeg) then if (m0 (c0 + 1) (29 : Int32).toNatClampNeg) = (0 : Int32) then (gv (ms m0 c0 12 (1 : Int32)) (fun m10 => if (m10 c0 12) = (0 : Int32) then (g1 (f_X9_sum c0 (30 : Int32) (m10 (c0 + 1) (29 : Int32).toNatClampNeg) m10) (fun r14 m12 => if (FP.ddiv (FP.i2d r14) (FP.i2d (m12 (c0 + 1) (29 : Int32).toNatClampNeg))) &&& 0x7fffffffffffffff ≤ 0x7ff0000000000000 then some ((FP.ddiv (FP.i2d r14) (FP.i2d (m12 (c0 + 1) (29 : Int32).toNatClampNeg))), m12) else none)) else (some (FP.dconst0, m10)))) else (gv (ms m0 c0 12 (0 : Int32)) (fun m4 => if (m4 c0 12) = (0 : Int32) then (g1 (f_X9_sum c0 (30 : Int32) (m4 (c0 + 1) (29 : Int32).toNatClampNeg) m4) (fun r8 m6 => if (FP.ddiv (FP.i2d r8) (FP.i2d (m6 (c0 + 1) (29 : Int32).toNatClampNeg))) &&& 0x7fffffffffffffff ≤ 0x7ff0000000000000 then some ((FP.ddiv (FP.i2d r8) (FP.i2d (m6 (c0 + 1) (29 : Int32).toNatClampNeg))), m6) else none)) else (some (FP.dconst0, m4)))) else none
set_option maxRecDepth 100000 in
set_option maxHeartbeats 4000000 in
theorem b_X9_meanDampness {p : Program} {l : Launch} {e : Env} {R : Room} {s : State} {m : MethodId} {args : Array Value} {below : List Frame} {meth : Method} {c : Code} {H : Heap} {locs : List Loc} {ls : Array Slot} {X : gX} (E : gEn p s m args c cX9_meanDampness RX9 X) (hr : meth.sig.returnType = (some .double)) (hlocks : meth.locks = false) (hml : c.maxLocals = 1) (hRf : 1 ≤ R.frames) (hRl : 24 ≤ R.locals) (hRc : 0 ≤ R.cells) (hRs : 0 ≤ R.slots) {c0 : Nat} {m0 : gMem} {res : UInt64 × gMem} (hk0 : gk c0 = 9) (hf : f_X9_meanDampness c0 m0 = some res) (hM : gM X m0 H) (hS : va_S (gA X) s.heap H locs) (hl : lv_has ls 1 [(0, .ref (X.1 + c0))]) : W p l e R s m args below meth c H locs 0 0 (MQ below (gQd X res) args s 0 0 (gA X)) (F0 m 0 ls []) := by
  obtain ⟨hx, hb⟩ := (⟨E.1, E.2.1⟩ : _ ∧ _)
  unfold f_X9_meanDampness at hf
  refine lv_aload_n hx hb dX9_meanDampness_0 rfl (lv_at hl 0 rfl) ?_
  refine lv_aload_n hx hb dX9_meanDampness_1 rfl (lv_at hl 0 rfl) ?_
  refine GX9_7 E hM hk0 dX9_meanDampness_2 ?_
  have hg1 : gk (c0 + 1) = 20 := gkf_9_0 hk0
  refine lv_bipush (v := (29 : Int32)) hx hb dX9_meanDampness_5 (by decide) ?_
  obtain ⟨hi2, hf⟩ := g_ck hf
  refine gg_iald E hM (gk_in hg1 (by decide)) hg1 hi2 dX9_meanDampness_7 ?_
  refine lv_if_ne (tgt := 15) hx hb dX9_meanDampness_8 (by decide) (fun h3 => ?_) (fun h3 => ?_)
  · have hf := g_f h3 hf
    refine lv_iconst (v := (0 : Int32)) hx hb dX9_meanDampness_15 (by decide) ?_
    obtain ⟨m4, em4, hf⟩ := gv_o hf
    refine PX9_33 E hM hS hk0 em4 dX9_meanDampness_16 (fun H locs hM hS => ?_)
    refine lv_aload_n hx hb dX9_meanDampness_19 rfl (lv_at hl 0 rfl) ?_
    refine GX9_33 E hM hk0 dX9_meanDampness_20 ?_
    refine lv_if_eq (tgt := 30) hx hb dX9_meanDampness_23 (by decide) (fun h5 => ?_) (fun h5 => ?_)
    · have hf := g_t h5 hf
      refine lv_aload_n hx hb dX9_meanDampness_30 rfl (lv_at hl 0 rfl) ?_
      refine lv_bipush (v := (30 : Int32)) hx hb dX9_meanDampness_31 (by decide) ?_
      refine lv_aload_n hx hb dX9_meanDampness_33 rfl (lv_at hl 0 rfl) ?_
      refine GX9_7 E hM hk0 dX9_meanDampness_34 ?_
      refine lv_bipush (v := (29 : Int32)) hx hb dX9_meanDampness_37 (by decide) ?_
      refine gg_iald E hM (gk_in hg1 (by decide)) hg1 hi2 dX9_meanDampness_39 ?_
      obtain ⟨r8, m6, hqq7, hf⟩ := g1_o hf
      refine ga_i (gr_V (As := [.int (30 : Int32), .int (m4 (c0 + 1) (29 : Int32).toNatClampNeg)]) (ci := 9) (rm := { frames := 0, cells := 0, slots := 0, locals := 0 }) E hml hl.1 (c_X9_sum l X c0 (30 : Int32) (m4 (c0 + 1) (29 : Int32).toNatClampNeg) m4 hk0 hqq7) wt_X9_sum wl_RX9_131 rfl hk0 (by decide) rfl rfl hM hS rfl rfl (Nat.le_trans (by decide) hRf) (Nat.le_trans (by decide) hRl) (Nat.le_trans (Nat.le_of_ble_eq_true rfl) hRc) (Nat.le_trans (Nat.le_of_ble_eq_true rfl) hRs) (Nat.le_of_ble_eq_true rfl) dX9_meanDampness_40 rfl) hS (fun H locs hM hS => ?_)
      refine lv_i2d hx hb dX9_meanDampness_43 ?_
      refine lv_aload_n hx hb dX9_meanDampness_44 rfl (lv_at hl 0 rfl) ?_
      refine GX9_7 E hM hk0 dX9_meanDampness_45 ?_
      refine lv_bipush (v := (29 : Int32)) hx hb dX9_meanDampness_48 (by decide) ?_
      refine gg_iald E hM (gk_in hg1 (by decide)) hg1 hi2 dX9_meanDampness_50 ?_
      refine lv_i2d hx hb dX9_meanDampness_51 ?_
      obtain ⟨hn9, hf⟩ := g_ck hf
      refine lv_ddiv hx hb dX9_meanDampness_52 hn9 ?_
      exact ge_d E hr hlocks hf hM hS (Nat.le_of_ble_eq_true rfl) (Nat.le_of_ble_eq_true rfl) dX9_meanDampness_53
    · have hf := g_f h5 hf
      refine lv_dconst0 hx hb dX9_meanDampness_26 ?_
      refine lv_goto (tgt := 53) hx hb dX9_meanDampness_27 (by decide) ?_
      exact ge_d E hr hlocks hf hM hS (Nat.le_of_ble_eq_true rfl) (Nat.le_of_ble_eq_true rfl) dX9_meanDampness_53
  · have hf := g_t h3 hf
    refine lv_iconst (v := (1 : Int32)) hx hb dX9_meanDampness_11 (by decide) ?_
    refine lv_goto (tgt := 16) hx hb dX9_meanDampness_12 (by decide) ?_
    obtain ⟨m10, em10, hf⟩ := gv_o hf
    refine PX9_33 E hM hS hk0 em10 dX9_meanDampness_16 (fun H locs hM hS => ?_)
    refine lv_aload_n hx hb dX9_meanDampness_19 rfl (lv_at hl 0 rfl) ?_
    refine GX9_33 E hM hk0 dX9_meanDampness_20 ?_
    refine lv_if_eq (tgt := 30) hx hb dX9_meanDampness_23 (by decide) (fun h11 => ?_) (fun h11 => ?_)
    · have hf := g_t h11 hf
      refine lv_aload_n hx hb dX9_meanDampness_30 rfl (lv_at hl 0 rfl) ?_
      refine lv_bipush (v := (30 : Int32)) hx hb dX9_meanDampness_31 (by decide) ?_
      refine lv_aload_n hx hb dX9_meanDampness_33 rfl (lv_at hl 0 rfl) ?_
      refine GX9_7 E hM hk0 dX9_meanDampness_34 ?_
      refine lv_bipush (v := (29 : Int32)) hx hb dX9_meanDampness_37 (by decide) ?_
      refine gg_iald E hM (gk_in hg1 (by decide)) hg1 hi2 dX9_meanDampness_39 ?_
      obtain ⟨r14, m12, hqq13, hf⟩ := g1_o hf
      refine ga_i (gr_V (As := [.int (30 : Int32), .int (m10 (c0 + 1) (29 : Int32).toNatClampNeg)]) (ci := 9) (rm := { frames := 0, cells := 0, slots := 0, locals := 0 }) E hml hl.1 (c_X9_sum l X c0 (30 : Int32) (m10 (c0 + 1) (29 : Int32).toNatClampNeg) m10 hk0 hqq13) wt_X9_sum wl_RX9_131 rfl hk0 (by decide) rfl rfl hM hS rfl rfl (Nat.le_trans (by decide) hRf) (Nat.le_trans (by decide) hRl) (Nat.le_trans (Nat.le_of_ble_eq_true rfl) hRc) (Nat.le_trans (Nat.le_of_ble_eq_true rfl) hRs) (Nat.le_of_ble_eq_true rfl) dX9_meanDampness_40 rfl) hS (fun H locs hM hS => ?_)
      refine lv_i2d hx hb dX9_meanDampness_43 ?_
      refine lv_aload_n hx hb dX9_meanDampness_44 rfl (lv_at hl 0 rfl) ?_
      refine GX9_7 E hM hk0 dX9_meanDampness_45 ?_
      refine lv_bipush (v := (29 : Int32)) hx hb dX9_meanDampness_48 (by decide) ?_
      refine gg_iald E hM (gk_in hg1 (by decide)) hg1 hi2 dX9_meanDampness_50 ?_
      refine lv_i2d hx hb dX9_meanDampness_51 ?_
      obtain ⟨hn15, hf⟩ := g_ck hf
      refine lv_ddiv hx hb dX9_meanDampness_52 hn15 ?_
      exact ge_d E hr hlocks hf hM hS (Nat.le_of_ble_eq_true rfl) (Nat.le_of_ble_eq_true rfl) dX9_meanDampness_53
    · have hf := g_f h11 hf
      refine lv_dconst0 hx hb dX9_meanDampness_26 ?_
      refine lv_goto (tgt := 53) hx hb dX9_meanDampness_27 (by decide) ?_
      exact ge_d E hr hlocks hf hM hS (Nat.le_of_ble_eq_true rfl) (Nat.le_of_ble_eq_true rfl) dX9_meanDampness_53
theorem c_X9_meanDampness (l : Launch) (X : gX) (c0 : Nat) (m0 : gMem) {res : UInt64 × gMem} (hk0 : gk c0 = 9) (hf : f_X9_meanDampness c0 m0 = some res) : Met l yX9_meanDampness (gWs yX9_meanDampness cX9_meanDampness 1 (some .double)) { frames := 1, cells := 0, slots := 0, locals := 24 } (va_Pc [.ref (X.1 + c0)] (gB X m0)) (gQd X res) 0 0 (gA X) :=
  gMet (own := RX9) (by decide +kernel) rfl (Nat.le_of_ble_eq_true rfl) (fun p e s m args below meth c ls E hr hlocks hml hM hl => b_X9_meanDampness E hr hlocks hml (Nat.le_refl _) (Nat.le_refl _) (Nat.le_refl _) (Nat.le_refl _) hk0 hf hM va_S.rf hl)
def f_X9_broken (c0 : Nat) (m0 : gMem) : Option (UInt32 × gMem) := if ¬ ((95 : Int32) < 0 ∨ gl (c0 + 1) ≤ (95 : Int32).toNatClampNeg) then if (m0 (c0 + 1) (95 : Int32).toNatClampNeg) = (0 : Int32) then (gv (ms m0 c0 12 (1 : Int32)) (fun m8 => if (m8 c0 12) = (0 : Int32) then (if ¬ ((96 : Int32) < 0 ∨ gl (c0 + 1) ≤ (96 : Int32).toNatClampNeg) then if (FP.fdiv (FP.i2f (m8 (c0 + 1) (96 : Int32).toNatClampNeg)) (FP.i2f (m8 (c0 + 1) (95 : Int32).toNatClampNeg))) &&& 0x7fffffff ≤ 0x7f800000 then some ((FP.fdiv (FP.i2f (m8 (c0 + 1) (96 : Int32).toNatClampNeg)) (FP.i2f (m8 (c0 + 1) (95 : Int32).toNatClampNeg))), m8) else none else none) else (some (FP.fconst0, m8)))) else (gv (ms m0 c0 12 (0 : Int32)) (fun m4 => if (m4 c0 12) = (0 : Int32) then (if ¬ ((96 : Int32) < 0 ∨ gl (c0 + 1) ≤ (96 : Int32).toNatClampNeg) then if (FP.fdiv (FP.i2f (m4 (c0 + 1) (96 : Int32).toNatClampNeg)) (FP.i2f (m4 (c0 + 1) (95 : Int32).toNatClampNeg))) &&& 0x7fffffff ≤ 0x7f800000 then some ((FP.fdiv (FP.i2f (m4 (c0 + 1) (96 : Int32).toNatClampNeg)) (FP.i2f (m4 (c0 + 1) (95 : Int32).toNatClampNeg))), m4) else none else none) else (some (FP.fconst0, m4)))) else none
set_option maxRecDepth 100000 in
set_option maxHeartbeats 4000000 in
theorem b_X9_broken {p : Program} {l : Launch} {e : Env} {R : Room} {s : State} {m : MethodId} {args : Array Value} {below : List Frame} {meth : Method} {c : Code} {H : Heap} {locs : List Loc} {ls : Array Slot} {X : gX} (E : gEn p s m args c cX9_broken RX9 X) (hr : meth.sig.returnType = (some .float)) (hlocks : meth.locks = false) (hml : c.maxLocals = 1) (hRf : 0 ≤ R.frames) (hRl : 0 ≤ R.locals) (hRc : 0 ≤ R.cells) (hRs : 0 ≤ R.slots) {c0 : Nat} {m0 : gMem} {res : UInt32 × gMem} (hk0 : gk c0 = 9) (hf : f_X9_broken c0 m0 = some res) (hM : gM X m0 H) (hS : va_S (gA X) s.heap H locs) (hl : lv_has ls 1 [(0, .ref (X.1 + c0))]) : W p l e R s m args below meth c H locs 0 0 (MQ below (gQf X res) args s 0 0 (gA X)) (F0 m 0 ls []) := by
  obtain ⟨hx, hb⟩ := (⟨E.1, E.2.1⟩ : _ ∧ _)
  unfold f_X9_broken at hf
  refine lv_aload_n hx hb dX9_broken_0 rfl (lv_at hl 0 rfl) ?_
  refine lv_aload_n hx hb dX9_broken_1 rfl (lv_at hl 0 rfl) ?_
  refine GX9_7 E hM hk0 dX9_broken_2 ?_
  have hg1 : gk (c0 + 1) = 20 := gkf_9_0 hk0
  refine lv_bipush (v := (95 : Int32)) hx hb dX9_broken_5 (by decide) ?_
  obtain ⟨hi2, hf⟩ := g_ck hf
  refine gg_iald E hM (gk_in hg1 (by decide)) hg1 hi2 dX9_broken_7 ?_
  refine lv_if_ne (tgt := 15) hx hb dX9_broken_8 (by decide) (fun h3 => ?_) (fun h3 => ?_)
  · have hf := g_f h3 hf
    refine lv_iconst (v := (0 : Int32)) hx hb dX9_broken_15 (by decide) ?_
    obtain ⟨m4, em4, hf⟩ := gv_o hf
    refine PX9_33 E hM hS hk0 em4 dX9_broken_16 (fun H locs hM hS => ?_)
    refine lv_aload_n hx hb dX9_broken_19 rfl (lv_at hl 0 rfl) ?_
    refine GX9_33 E hM hk0 dX9_broken_20 ?_
    refine lv_if_eq (tgt := 30) hx hb dX9_broken_23 (by decide) (fun h5 => ?_) (fun h5 => ?_)
    · have hf := g_t h5 hf
      refine lv_aload_n hx hb dX9_broken_30 rfl (lv_at hl 0 rfl) ?_
      refine GX9_7 E hM hk0 dX9_broken_31 ?_
      refine lv_bipush (v := (96 : Int32)) hx hb dX9_broken_34 (by decide) ?_
      obtain ⟨hi6, hf⟩ := g_ck hf
      refine gg_iald E hM (gk_in hg1 (by decide)) hg1 hi6 dX9_broken_36 ?_
      refine lv_i2f hx hb dX9_broken_37 ?_
      refine lv_aload_n hx hb dX9_broken_38 rfl (lv_at hl 0 rfl) ?_
      refine GX9_7 E hM hk0 dX9_broken_39 ?_
      refine lv_bipush (v := (95 : Int32)) hx hb dX9_broken_42 (by decide) ?_
      refine gg_iald E hM (gk_in hg1 (by decide)) hg1 hi2 dX9_broken_44 ?_
      refine lv_i2f hx hb dX9_broken_45 ?_
      obtain ⟨hn7, hf⟩ := g_ck hf
      refine lv_fdiv hx hb dX9_broken_46 hn7 ?_
      exact ge_f E hr hlocks hf hM hS (Nat.le_of_ble_eq_true rfl) (Nat.le_of_ble_eq_true rfl) dX9_broken_47
    · have hf := g_f h5 hf
      refine lv_fconst0 hx hb dX9_broken_26 ?_
      refine lv_goto (tgt := 47) hx hb dX9_broken_27 (by decide) ?_
      exact ge_f E hr hlocks hf hM hS (Nat.le_of_ble_eq_true rfl) (Nat.le_of_ble_eq_true rfl) dX9_broken_47
  · have hf := g_t h3 hf
    refine lv_iconst (v := (1 : Int32)) hx hb dX9_broken_11 (by decide) ?_
    refine lv_goto (tgt := 16) hx hb dX9_broken_12 (by decide) ?_
    obtain ⟨m8, em8, hf⟩ := gv_o hf
    refine PX9_33 E hM hS hk0 em8 dX9_broken_16 (fun H locs hM hS => ?_)
    refine lv_aload_n hx hb dX9_broken_19 rfl (lv_at hl 0 rfl) ?_
    refine GX9_33 E hM hk0 dX9_broken_20 ?_
    refine lv_if_eq (tgt := 30) hx hb dX9_broken_23 (by decide) (fun h9 => ?_) (fun h9 => ?_)
    · have hf := g_t h9 hf
      refine lv_aload_n hx hb dX9_broken_30 rfl (lv_at hl 0 rfl) ?_
      refine GX9_7 E hM hk0 dX9_broken_31 ?_
      refine lv_bipush (v := (96 : Int32)) hx hb dX9_broken_34 (by decide) ?_
      obtain ⟨hi10, hf⟩ := g_ck hf
      refine gg_iald E hM (gk_in hg1 (by decide)) hg1 hi10 dX9_broken_36 ?_
      refine lv_i2f hx hb dX9_broken_37 ?_
      refine lv_aload_n hx hb dX9_broken_38 rfl (lv_at hl 0 rfl) ?_
      refine GX9_7 E hM hk0 dX9_broken_39 ?_
      refine lv_bipush (v := (95 : Int32)) hx hb dX9_broken_42 (by decide) ?_
      refine gg_iald E hM (gk_in hg1 (by decide)) hg1 hi2 dX9_broken_44 ?_
      refine lv_i2f hx hb dX9_broken_45 ?_
      obtain ⟨hn11, hf⟩ := g_ck hf
      refine lv_fdiv hx hb dX9_broken_46 hn11 ?_
      exact ge_f E hr hlocks hf hM hS (Nat.le_of_ble_eq_true rfl) (Nat.le_of_ble_eq_true rfl) dX9_broken_47
    · have hf := g_f h9 hf
      refine lv_fconst0 hx hb dX9_broken_26 ?_
      refine lv_goto (tgt := 47) hx hb dX9_broken_27 (by decide) ?_
      exact ge_f E hr hlocks hf hM hS (Nat.le_of_ble_eq_true rfl) (Nat.le_of_ble_eq_true rfl) dX9_broken_47
theorem c_X9_broken (l : Launch) (X : gX) (c0 : Nat) (m0 : gMem) {res : UInt32 × gMem} (hk0 : gk c0 = 9) (hf : f_X9_broken c0 m0 = some res) : Met l yX9_broken (gWs yX9_broken cX9_broken 1 (some .float)) { frames := 0, cells := 0, slots := 0, locals := 0 } (va_Pc [.ref (X.1 + c0)] (gB X m0)) (gQf X res) 0 0 (gA X) :=
  gMet (own := RX9) (by decide +kernel) rfl (Nat.le_of_ble_eq_true rfl) (fun p e s m args below meth c ls E hr hlocks hml hM hl => b_X9_broken E hr hlocks hml (Nat.le_refl _) (Nat.le_refl _) (Nat.le_refl _) (Nat.le_refl _) hk0 hf hM va_S.rf hl)
def f_X9_undo (c0 : Nat) (m0 : gMem) : Option (Int32 × gMem) := if (m0 c0 3) = (0 : Int32) then (g1 (f_X9_fails c0 (1 : Int32) m0) (fun r13 m11 => some (r13, m11))) else (gv (ms m0 c0 3 ((m0 c0 3) - (1 : Int32))) (fun m2 => g1 (f_X9_copy (c0 + 3) ((m2 c0 3) * (220 : Int32)) (c0 + 1) (0 : Int32) m2) (fun r7 m5 => g1 (f_X9_done c0 (m5 c0 3) m5) (fun r10 m8 => some (r10, m8)))))
set_option maxRecDepth 100000 in
set_option maxHeartbeats 4000000 in
theorem b_X9_undo {p : Program} {l : Launch} {e : Env} {R : Room} {s : State} {m : MethodId} {args : Array Value} {below : List Frame} {meth : Method} {c : Code} {H : Heap} {locs : List Loc} {ls : Array Slot} {X : gX} (E : gEn p s m args c cX9_undo RX9 X) (hr : meth.sig.returnType = (some .int)) (hlocks : meth.locks = false) (hml : c.maxLocals = 1) (hRf : 1 ≤ R.frames) (hRl : 24 ≤ R.locals) (hRc : 0 ≤ R.cells) (hRs : 0 ≤ R.slots) {c0 : Nat} {m0 : gMem} {res : Int32 × gMem} (hk0 : gk c0 = 9) (hf : f_X9_undo c0 m0 = some res) (hM : gM X m0 H) (hS : va_S (gA X) s.heap H locs) (hl : lv_has ls 1 [(0, .ref (X.1 + c0))]) : W p l e R s m args below meth c H locs 0 0 (MQ below (gQi X res) args s 0 0 (gA X)) (F0 m 0 ls []) := by
  obtain ⟨hx, hb⟩ := (⟨E.1, E.2.1⟩ : _ ∧ _)
  unfold f_X9_undo at hf
  refine lv_aload_n hx hb dX9_undo_0 rfl (lv_at hl 0 rfl) ?_
  refine GX9_50 E hM hk0 dX9_undo_1 ?_
  refine lv_if_ne (tgt := 13) hx hb dX9_undo_4 (by decide) (fun h1 => ?_) (fun h1 => ?_)
  · have hf := g_f h1 hf
    refine lv_aload_n hx hb dX9_undo_13 rfl (lv_at hl 0 rfl) ?_
    refine lv_dup hx hb dX9_undo_14 rfl ?_
    refine GX9_50 E hM hk0 dX9_undo_15 ?_
    refine lv_iconst (v := (1 : Int32)) hx hb dX9_undo_18 (by decide) ?_
    refine lv_isub hx hb dX9_undo_19 ?_
    obtain ⟨m2, em2, hf⟩ := gv_o hf
    refine PX9_50 E hM hS hk0 em2 dX9_undo_20 (fun H locs hM hS => ?_)
    refine lv_aload_n hx hb dX9_undo_23 rfl (lv_at hl 0 rfl) ?_
    refine GX9_16 E hM hk0 dX9_undo_24 ?_
    have hg3 : gk (c0 + 3) = 20 := gkf_9_2 hk0
    refine lv_aload_n hx hb dX9_undo_27 rfl (lv_at hl 0 rfl) ?_
    refine GX9_50 E hM hk0 dX9_undo_28 ?_
    refine lv_sipush (v := (220 : Int32)) hx hb dX9_undo_31 (by decide) ?_
    refine lv_imul hx hb dX9_undo_34 ?_
    refine lv_aload_n hx hb dX9_undo_35 rfl (lv_at hl 0 rfl) ?_
    refine GX9_7 E hM hk0 dX9_undo_36 ?_
    have hg4 : gk (c0 + 1) = 20 := gkf_9_0 hk0
    refine lv_iconst (v := (0 : Int32)) hx hb dX9_undo_39 (by decide) ?_
    obtain ⟨r7, m5, hqq6, hf⟩ := g1_o hf
    refine ga_v (gr_S (As := [.ref (X.1 + (c0 + 3)), .int ((m2 c0 3) * (220 : Int32)), .ref (X.1 + (c0 + 1)), .int (0 : Int32)]) (rm := { frames := 0, cells := 0, slots := 0, locals := 0 }) E hml hl.1 (c_X9_copy l X (c0 + 3) ((m2 c0 3) * (220 : Int32)) (c0 + 1) (0 : Int32) m2 hg3 hg4 hqq6) wt_X9_copy wl_RX9_46 rfl hM hS rfl rfl (Nat.le_trans (by decide) hRf) (Nat.le_trans (by decide) hRl) (Nat.le_trans (Nat.le_of_ble_eq_true rfl) hRc) (Nat.le_trans (Nat.le_of_ble_eq_true rfl) hRs) (Nat.le_of_ble_eq_true rfl) dX9_undo_40 rfl) hS (fun H locs hM hS => ?_)
    refine lv_aload_n hx hb dX9_undo_43 rfl (lv_at hl 0 rfl) ?_
    refine lv_aload_n hx hb dX9_undo_44 rfl (lv_at hl 0 rfl) ?_
    refine GX9_50 E hM hk0 dX9_undo_45 ?_
    obtain ⟨r10, m8, hqq9, hf⟩ := g1_o hf
    refine ga_i (gr_V (As := [.int (m5 c0 3)]) (ci := 9) (rm := { frames := 0, cells := 0, slots := 0, locals := 0 }) E hml hl.1 (c_X9_done l X c0 (m5 c0 3) m5 hk0 hqq9) wt_X9_done wl_RX9_64 rfl hk0 (by decide) rfl rfl hM hS rfl rfl (Nat.le_trans (by decide) hRf) (Nat.le_trans (by decide) hRl) (Nat.le_trans (Nat.le_of_ble_eq_true rfl) hRc) (Nat.le_trans (Nat.le_of_ble_eq_true rfl) hRs) (Nat.le_of_ble_eq_true rfl) dX9_undo_48 rfl) hS (fun H locs hM hS => ?_)
    exact ge_i E hr hlocks hf hM hS (Nat.le_of_ble_eq_true rfl) (Nat.le_of_ble_eq_true rfl) dX9_undo_51
  · have hf := g_t h1 hf
    refine lv_aload_n hx hb dX9_undo_7 rfl (lv_at hl 0 rfl) ?_
    refine lv_iconst (v := (1 : Int32)) hx hb dX9_undo_8 (by decide) ?_
    obtain ⟨r13, m11, hqq12, hf⟩ := g1_o hf
    refine ga_i (gr_V (As := [.int (1 : Int32)]) (ci := 9) (rm := { frames := 0, cells := 0, slots := 0, locals := 0 }) E hml hl.1 (c_X9_fails l X c0 (1 : Int32) m0 hk0 hqq12) wt_X9_fails wl_RX9_57 rfl hk0 (by decide) rfl rfl hM hS rfl rfl (Nat.le_trans (by decide) hRf) (Nat.le_trans (by decide) hRl) (Nat.le_trans (Nat.le_of_ble_eq_true rfl) hRc) (Nat.le_trans (Nat.le_of_ble_eq_true rfl) hRs) (Nat.le_of_ble_eq_true rfl) dX9_undo_9 rfl) hS (fun H locs hM hS => ?_)
    exact ge_i E hr hlocks hf hM hS (Nat.le_of_ble_eq_true rfl) (Nat.le_of_ble_eq_true rfl) dX9_undo_12
theorem c_X9_undo (l : Launch) (X : gX) (c0 : Nat) (m0 : gMem) {res : Int32 × gMem} (hk0 : gk c0 = 9) (hf : f_X9_undo c0 m0 = some res) : Met l yX9_undo (gWs yX9_undo cX9_undo 1 (some .int)) { frames := 1, cells := 0, slots := 0, locals := 24 } (va_Pc [.ref (X.1 + c0)] (gB X m0)) (gQi X res) 0 0 (gA X) :=
  gMet (own := RX9) (by decide +kernel) rfl (Nat.le_of_ble_eq_true rfl) (fun p e s m args below meth c ls E hr hlocks hml hM hl => b_X9_undo E hr hlocks hml (Nat.le_refl _) (Nat.le_refl _) (Nat.le_refl _) (Nat.le_refl _) hk0 hf hM va_S.rf hl)
def f_X9_save (c0 : Nat) (m0 : gMem) : Option (Int32 × gMem) := g1 (f_X9_copy (c0 + 1) (0 : Int32) (c0 + 4) (0 : Int32) m0) (fun r5 m3 => gv (ms m3 c0 5 (1 : Int32)) (fun m6 => if ¬ ((29 : Int32) < 0 ∨ gl (c0 + 1) ≤ (29 : Int32).toNatClampNeg) then g1 (f_X9_done c0 (m6 (c0 + 1) (29 : Int32).toNatClampNeg) m6) (fun r10 m8 => some (r10, m8)) else none))
set_option maxRecDepth 100000 in
set_option maxHeartbeats 4000000 in
theorem b_X9_save {p : Program} {l : Launch} {e : Env} {R : Room} {s : State} {m : MethodId} {args : Array Value} {below : List Frame} {meth : Method} {c : Code} {H : Heap} {locs : List Loc} {ls : Array Slot} {X : gX} (E : gEn p s m args c cX9_save RX9 X) (hr : meth.sig.returnType = (some .int)) (hlocks : meth.locks = false) (hml : c.maxLocals = 1) (hRf : 1 ≤ R.frames) (hRl : 24 ≤ R.locals) (hRc : 0 ≤ R.cells) (hRs : 0 ≤ R.slots) {c0 : Nat} {m0 : gMem} {res : Int32 × gMem} (hk0 : gk c0 = 9) (hf : f_X9_save c0 m0 = some res) (hM : gM X m0 H) (hS : va_S (gA X) s.heap H locs) (hl : lv_has ls 1 [(0, .ref (X.1 + c0))]) : W p l e R s m args below meth c H locs 0 0 (MQ below (gQi X res) args s 0 0 (gA X)) (F0 m 0 ls []) := by
  obtain ⟨hx, hb⟩ := (⟨E.1, E.2.1⟩ : _ ∧ _)
  unfold f_X9_save at hf
  refine lv_aload_n hx hb dX9_save_0 rfl (lv_at hl 0 rfl) ?_
  refine GX9_7 E hM hk0 dX9_save_1 ?_
  have hg1 : gk (c0 + 1) = 20 := gkf_9_0 hk0
  refine lv_iconst (v := (0 : Int32)) hx hb dX9_save_4 (by decide) ?_
  refine lv_aload_n hx hb dX9_save_5 rfl (lv_at hl 0 rfl) ?_
  refine GX9_19 E hM hk0 dX9_save_6 ?_
  have hg2 : gk (c0 + 4) = 20 := gkf_9_4 hk0
  refine lv_iconst (v := (0 : Int32)) hx hb dX9_save_9 (by decide) ?_
  obtain ⟨r5, m3, hqq4, hf⟩ := g1_o hf
  refine ga_v (gr_S (As := [.ref (X.1 + (c0 + 1)), .int (0 : Int32), .ref (X.1 + (c0 + 4)), .int (0 : Int32)]) (rm := { frames := 0, cells := 0, slots := 0, locals := 0 }) E hml hl.1 (c_X9_copy l X (c0 + 1) (0 : Int32) (c0 + 4) (0 : Int32) m0 hg1 hg2 hqq4) wt_X9_copy wl_RX9_46 rfl hM hS rfl rfl (Nat.le_trans (by decide) hRf) (Nat.le_trans (by decide) hRl) (Nat.le_trans (Nat.le_of_ble_eq_true rfl) hRc) (Nat.le_trans (Nat.le_of_ble_eq_true rfl) hRs) (Nat.le_of_ble_eq_true rfl) dX9_save_10 rfl) hS (fun H locs hM hS => ?_)
  refine lv_aload_n hx hb dX9_save_13 rfl (lv_at hl 0 rfl) ?_
  refine lv_iconst (v := (1 : Int32)) hx hb dX9_save_14 (by decide) ?_
  obtain ⟨m6, em6, hf⟩ := gv_o hf
  refine PX9_208 E hM hS hk0 (Or.inr rfl) em6 dX9_save_15 (fun H locs hM hS => ?_)
  refine lv_aload_n hx hb dX9_save_18 rfl (lv_at hl 0 rfl) ?_
  refine lv_aload_n hx hb dX9_save_19 rfl (lv_at hl 0 rfl) ?_
  refine GX9_7 E hM hk0 dX9_save_20 ?_
  refine lv_bipush (v := (29 : Int32)) hx hb dX9_save_23 (by decide) ?_
  obtain ⟨hi7, hf⟩ := g_ck hf
  refine gg_iald E hM (gk_in hg1 (by decide)) hg1 hi7 dX9_save_25 ?_
  obtain ⟨r10, m8, hqq9, hf⟩ := g1_o hf
  refine ga_i (gr_V (As := [.int (m6 (c0 + 1) (29 : Int32).toNatClampNeg)]) (ci := 9) (rm := { frames := 0, cells := 0, slots := 0, locals := 0 }) E hml hl.1 (c_X9_done l X c0 (m6 (c0 + 1) (29 : Int32).toNatClampNeg) m6 hk0 hqq9) wt_X9_done wl_RX9_64 rfl hk0 (by decide) rfl rfl hM hS rfl rfl (Nat.le_trans (by decide) hRf) (Nat.le_trans (by decide) hRl) (Nat.le_trans (Nat.le_of_ble_eq_true rfl) hRc) (Nat.le_trans (Nat.le_of_ble_eq_true rfl) hRs) (Nat.le_of_ble_eq_true rfl) dX9_save_26 rfl) hS (fun H locs hM hS => ?_)
  exact ge_i E hr hlocks hf hM hS (Nat.le_of_ble_eq_true rfl) (Nat.le_of_ble_eq_true rfl) dX9_save_29
theorem c_X9_save (l : Launch) (X : gX) (c0 : Nat) (m0 : gMem) {res : Int32 × gMem} (hk0 : gk c0 = 9) (hf : f_X9_save c0 m0 = some res) : Met l yX9_save (gWs yX9_save cX9_save 1 (some .int)) { frames := 1, cells := 0, slots := 0, locals := 24 } (va_Pc [.ref (X.1 + c0)] (gB X m0)) (gQi X res) 0 0 (gA X) :=
  gMet (own := RX9) (by decide +kernel) rfl (Nat.le_of_ble_eq_true rfl) (fun p e s m args below meth c ls E hr hlocks hml hM hl => b_X9_save E hr hlocks hml (Nat.le_refl _) (Nat.le_refl _) (Nat.le_refl _) (Nat.le_refl _) hk0 hf hM va_S.rf hl)
def f_X9_restore (c0 : Nat) (m0 : gMem) : Option (Int32 × gMem) := if (m0 c0 5) = (0 : Int32) then (g1 (f_X9_fails c0 (1 : Int32) m0) (fun r14 m12 => some (r14, m12))) else (g1 (f_X9_copy (c0 + 4) (0 : Int32) (c0 + 1) (0 : Int32) m0) (fun r6 m4 => gv (ms m4 c0 3 (0 : Int32)) (fun m7 => if ¬ ((29 : Int32) < 0 ∨ gl (c0 + 1) ≤ (29 : Int32).toNatClampNeg) then g1 (f_X9_done c0 (m7 (c0 + 1) (29 : Int32).toNatClampNeg) m7) (fun r11 m9 => some (r11, m9)) else none)))
set_option maxRecDepth 100000 in
set_option maxHeartbeats 4000000 in
theorem b_X9_restore {p : Program} {l : Launch} {e : Env} {R : Room} {s : State} {m : MethodId} {args : Array Value} {below : List Frame} {meth : Method} {c : Code} {H : Heap} {locs : List Loc} {ls : Array Slot} {X : gX} (E : gEn p s m args c cX9_restore RX9 X) (hr : meth.sig.returnType = (some .int)) (hlocks : meth.locks = false) (hml : c.maxLocals = 1) (hRf : 1 ≤ R.frames) (hRl : 24 ≤ R.locals) (hRc : 0 ≤ R.cells) (hRs : 0 ≤ R.slots) {c0 : Nat} {m0 : gMem} {res : Int32 × gMem} (hk0 : gk c0 = 9) (hf : f_X9_restore c0 m0 = some res) (hM : gM X m0 H) (hS : va_S (gA X) s.heap H locs) (hl : lv_has ls 1 [(0, .ref (X.1 + c0))]) : W p l e R s m args below meth c H locs 0 0 (MQ below (gQi X res) args s 0 0 (gA X)) (F0 m 0 ls []) := by
  obtain ⟨hx, hb⟩ := (⟨E.1, E.2.1⟩ : _ ∧ _)
  unfold f_X9_restore at hf
  refine lv_aload_n hx hb dX9_restore_0 rfl (lv_at hl 0 rfl) ?_
  refine GX9_208 E hM hk0 dX9_restore_1 ?_
  refine lv_if_ne (tgt := 13) hx hb dX9_restore_4 (by decide) (fun h1 => ?_) (fun h1 => ?_)
  · have hf := g_f h1 hf
    refine lv_aload_n hx hb dX9_restore_13 rfl (lv_at hl 0 rfl) ?_
    refine GX9_19 E hM hk0 dX9_restore_14 ?_
    have hg2 : gk (c0 + 4) = 20 := gkf_9_4 hk0
    refine lv_iconst (v := (0 : Int32)) hx hb dX9_restore_17 (by decide) ?_
    refine lv_aload_n hx hb dX9_restore_18 rfl (lv_at hl 0 rfl) ?_
    refine GX9_7 E hM hk0 dX9_restore_19 ?_
    have hg3 : gk (c0 + 1) = 20 := gkf_9_0 hk0
    refine lv_iconst (v := (0 : Int32)) hx hb dX9_restore_22 (by decide) ?_
    obtain ⟨r6, m4, hqq5, hf⟩ := g1_o hf
    refine ga_v (gr_S (As := [.ref (X.1 + (c0 + 4)), .int (0 : Int32), .ref (X.1 + (c0 + 1)), .int (0 : Int32)]) (rm := { frames := 0, cells := 0, slots := 0, locals := 0 }) E hml hl.1 (c_X9_copy l X (c0 + 4) (0 : Int32) (c0 + 1) (0 : Int32) m0 hg2 hg3 hqq5) wt_X9_copy wl_RX9_46 rfl hM hS rfl rfl (Nat.le_trans (by decide) hRf) (Nat.le_trans (by decide) hRl) (Nat.le_trans (Nat.le_of_ble_eq_true rfl) hRc) (Nat.le_trans (Nat.le_of_ble_eq_true rfl) hRs) (Nat.le_of_ble_eq_true rfl) dX9_restore_23 rfl) hS (fun H locs hM hS => ?_)
    refine lv_aload_n hx hb dX9_restore_26 rfl (lv_at hl 0 rfl) ?_
    refine lv_iconst (v := (0 : Int32)) hx hb dX9_restore_27 (by decide) ?_
    obtain ⟨m7, em7, hf⟩ := gv_o hf
    refine PX9_50 E hM hS hk0 em7 dX9_restore_28 (fun H locs hM hS => ?_)
    refine lv_aload_n hx hb dX9_restore_31 rfl (lv_at hl 0 rfl) ?_
    refine lv_aload_n hx hb dX9_restore_32 rfl (lv_at hl 0 rfl) ?_
    refine GX9_7 E hM hk0 dX9_restore_33 ?_
    refine lv_bipush (v := (29 : Int32)) hx hb dX9_restore_36 (by decide) ?_
    obtain ⟨hi8, hf⟩ := g_ck hf
    refine gg_iald E hM (gk_in hg3 (by decide)) hg3 hi8 dX9_restore_38 ?_
    obtain ⟨r11, m9, hqq10, hf⟩ := g1_o hf
    refine ga_i (gr_V (As := [.int (m7 (c0 + 1) (29 : Int32).toNatClampNeg)]) (ci := 9) (rm := { frames := 0, cells := 0, slots := 0, locals := 0 }) E hml hl.1 (c_X9_done l X c0 (m7 (c0 + 1) (29 : Int32).toNatClampNeg) m7 hk0 hqq10) wt_X9_done wl_RX9_64 rfl hk0 (by decide) rfl rfl hM hS rfl rfl (Nat.le_trans (by decide) hRf) (Nat.le_trans (by decide) hRl) (Nat.le_trans (Nat.le_of_ble_eq_true rfl) hRc) (Nat.le_trans (Nat.le_of_ble_eq_true rfl) hRs) (Nat.le_of_ble_eq_true rfl) dX9_restore_39 rfl) hS (fun H locs hM hS => ?_)
    exact ge_i E hr hlocks hf hM hS (Nat.le_of_ble_eq_true rfl) (Nat.le_of_ble_eq_true rfl) dX9_restore_42
  · have hf := g_t h1 hf
    refine lv_aload_n hx hb dX9_restore_7 rfl (lv_at hl 0 rfl) ?_
    refine lv_iconst (v := (1 : Int32)) hx hb dX9_restore_8 (by decide) ?_
    obtain ⟨r14, m12, hqq13, hf⟩ := g1_o hf
    refine ga_i (gr_V (As := [.int (1 : Int32)]) (ci := 9) (rm := { frames := 0, cells := 0, slots := 0, locals := 0 }) E hml hl.1 (c_X9_fails l X c0 (1 : Int32) m0 hk0 hqq13) wt_X9_fails wl_RX9_57 rfl hk0 (by decide) rfl rfl hM hS rfl rfl (Nat.le_trans (by decide) hRf) (Nat.le_trans (by decide) hRl) (Nat.le_trans (Nat.le_of_ble_eq_true rfl) hRc) (Nat.le_trans (Nat.le_of_ble_eq_true rfl) hRs) (Nat.le_of_ble_eq_true rfl) dX9_restore_9 rfl) hS (fun H locs hM hS => ?_)
    exact ge_i E hr hlocks hf hM hS (Nat.le_of_ble_eq_true rfl) (Nat.le_of_ble_eq_true rfl) dX9_restore_12
theorem c_X9_restore (l : Launch) (X : gX) (c0 : Nat) (m0 : gMem) {res : Int32 × gMem} (hk0 : gk c0 = 9) (hf : f_X9_restore c0 m0 = some res) : Met l yX9_restore (gWs yX9_restore cX9_restore 1 (some .int)) { frames := 1, cells := 0, slots := 0, locals := 24 } (va_Pc [.ref (X.1 + c0)] (gB X m0)) (gQi X res) 0 0 (gA X) :=
  gMet (own := RX9) (by decide +kernel) rfl (Nat.le_of_ble_eq_true rfl) (fun p e s m args below meth c ls E hr hlocks hml hM hl => b_X9_restore E hr hlocks hml (Nat.le_refl _) (Nat.le_refl _) (Nat.le_refl _) (Nat.le_refl _) hk0 hf hM va_S.rf hl)
