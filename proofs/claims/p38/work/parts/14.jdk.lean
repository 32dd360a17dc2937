def f_J9_floorMod_7cf53 (u0 : Int32) (u1 : Int32) (m0 : gMem) : Option (Int32 × gMem) := if ¬ u1 = 0 then gv ((u0 - u0 / u1 * u1)) (fun x2 => if (0 : Int32) ≤ (u0 ^^^ u1) then (some (x2, m0)) else (if x2 = (0 : Int32) then (some (x2, m0)) else (some ((x2 + u1), m0)))) else none
set_option maxRecDepth 100000 in
set_option maxHeartbeats 4000000 in
theorem b_J9_floorMod_7cf53 {p : Program} {l : Launch} {e : Env} {R : Room} {s : State} {m : MethodId} {args : Array Value} {below : List Frame} {meth : Method} {c : Code} {H : Heap} {locs : List Loc} {ls : Array Slot} {X : gX} (E : gEn p s m args c cJ9_floorMod_7cf53 RJ9 X) (hr : meth.sig.returnType = (some .int)) (hlocks : meth.locks = false) (hml : c.maxLocals = 3) (hRf : 0 ≤ R.frames) (hRl : 0 ≤ R.locals) (hRc : 0 ≤ R.cells) (hRs : 0 ≤ R.slots) {u0 : Int32} {u1 : Int32} {m0 : gMem} {res : Int32 × gMem}  (hf : f_J9_floorMod_7cf53 u0 u1 m0 = some res) (hM : gM X m0 H) (hS : va_S (gA X) s.heap H locs) (hl : lv_has ls 3 [(0, .int u0), (1, .int u1)]) : W p l e R s m args below meth c H locs 0 0 (MQ below (gQi X res) args s 0 0 (gA X)) (F0 m 0 ls []) := by
  obtain ⟨hx, hb⟩ := (⟨E.1, E.2.1⟩ : _ ∧ _)
  unfold f_J9_floorMod_7cf53 at hf
  refine lv_iload_n hx hb dJ9_floorMod_7cf53_0 rfl (lv_at hl 0 rfl) ?_
  refine lv_iload_n hx hb dJ9_floorMod_7cf53_1 rfl (lv_at hl 1 rfl) ?_
  obtain ⟨hz1, hf⟩ := g_ck hf
  refine lv_irem hx hb dJ9_floorMod_7cf53_2 hz1 ?_
  obtain ⟨x2, ex2, hf⟩ := gv_o hf
  rw [← ex2]
  refine lv_istore_n (lv' := [(2, .int x2), (0, .int u0), (1, .int u1)]) hx hb dJ9_floorMod_7cf53_3 rfl hl (by decide) rfl (fun ls hl => ?_)
  refine lv_iload_n hx hb dJ9_floorMod_7cf53_4 rfl (lv_at hl 1 rfl) ?_
  refine lv_iload_n hx hb dJ9_floorMod_7cf53_5 rfl (lv_at hl 2 rfl) ?_
  refine lv_ixor hx hb dJ9_floorMod_7cf53_6 ?_
  refine lv_if_ge (tgt := 18) hx hb dJ9_floorMod_7cf53_7 (by decide) (fun h3 => ?_) (fun h3 => ?_)
  · have hf := g_t h3 hf
    refine lv_iload_n hx hb dJ9_floorMod_7cf53_18 rfl (lv_at hl 0 rfl) ?_
    exact ge_i E hr hlocks hf hM hS (Nat.le_of_ble_eq_true rfl) (Nat.le_of_ble_eq_true rfl) dJ9_floorMod_7cf53_19
  · have hf := g_f h3 hf
    refine lv_iload_n hx hb dJ9_floorMod_7cf53_10 rfl (lv_at hl 0 rfl) ?_
    refine lv_if_eq (tgt := 18) hx hb dJ9_floorMod_7cf53_11 (by decide) (fun h4 => ?_) (fun h4 => ?_)
    · have hf := g_t h4 hf
      refine lv_iload_n hx hb dJ9_floorMod_7cf53_18 rfl (lv_at hl 0 rfl) ?_
      exact ge_i E hr hlocks hf hM hS (Nat.le_of_ble_eq_true rfl) (Nat.le_of_ble_eq_true rfl) dJ9_floorMod_7cf53_19
    · have hf := g_f h4 hf
      refine lv_iload_n hx hb dJ9_floorMod_7cf53_14 rfl (lv_at hl 0 rfl) ?_
      refine lv_iload_n hx hb dJ9_floorMod_7cf53_15 rfl (lv_at hl 2 rfl) ?_
      refine lv_iadd hx hb dJ9_floorMod_7cf53_16 ?_
      exact ge_i E hr hlocks hf hM hS (Nat.le_of_ble_eq_true rfl) (Nat.le_of_ble_eq_true rfl) dJ9_floorMod_7cf53_17
theorem c_J9_floorMod_7cf53 (l : Launch) (X : gX) (u0 : Int32) (u1 : Int32) (m0 : gMem) {res : Int32 × gMem}  (hf : f_J9_floorMod_7cf53 u0 u1 m0 = some res) : Met l yJ9_floorMod_7cf53 (gWs yJ9_floorMod_7cf53 cJ9_floorMod_7cf53 3 (some .int)) { frames := 0, cells := 0, slots := 0, locals := 0 } (va_Pc [.int u0, .int u1] (gB X m0)) (gQi X res) 0 0 (gA X) :=
  gMetF (own := RJ9) (by decide +kernel) rfl (Nat.le_of_ble_eq_true rfl) (fun p e s m args below meth c ls E hr hlocks hml hM hl => b_J9_floorMod_7cf53 E hr hlocks hml (Nat.le_refl _) (Nat.le_refl _) (Nat.le_refl _) (Nat.le_refl _)  hf hM va_S.rf hl)
