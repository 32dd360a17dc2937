/-! THE LAW: its cases -/
theorem wlL_148 : Cond.methodLink RL 148 yL_stock ∈ gT := gT_in 616 (by decide +kernel) rfl
theorem wt_X9_stock : gMv yX9_stock cX9_stock 2 (some .int) 1 := ⟨gT_in 1320 (by decide +kernel) rfl, gT_in 1321 (by decide +kernel) rfl, gT_in 69 (by decide +kernel) rfl, gT_in 1322 (by decide +kernel) rfl, by decide, by decide, by decide +kernel⟩
theorem wl_RL_150 : Cond.methodLink RL 150 yX9_stock ∈ gT := gT_in 1319 (by decide +kernel) rfl
theorem wt_X9_thrown : gMv yX9_thrown cX9_thrown 1 (some .int) 0 := ⟨gT_in 1267 (by decide +kernel) rfl, gT_in 1268 (by decide +kernel) rfl, gT_in 69 (by decide +kernel) rfl, gT_in 1269 (by decide +kernel) rfl, by decide, by decide, by decide +kernel⟩
theorem wl_RL_138 : Cond.methodLink RL 138 yX9_thrown ∈ gT := gT_in 1266 (by decide +kernel) rfl
set_option maxRecDepth 100000 in
set_option maxHeartbeats 4000000 in
theorem cs_3 {p : Program} {l : Launch} {e : Env} {R : Room} {s : State} {m : MethodId} {args : Array Value} {below : List Frame} {meth : Method} {c : Code} {H : Heap} {locs : List Loc} {ls : Array Slot} {cells slots : Nat} {Q : State → Prop} {X : gX} {z : Nat → Int64} {w : Nat → UInt64} (E : gE2 p s m args c cL_law X) (hml : c.maxLocals = 9) (hl0 : l.stackTraces = false) (hRf : 16 ≤ R.frames) (hRl : 1000 ≤ R.locals) (hRc : cells + 8 ≤ R.cells) (hRs : slots + 48 ≤ R.slots) {b L : Nat} {xs : Nat → Int32} (hXs : va_X b L xs s s.heap) (hbl : b < s.heap.size) (hbA : ¬ gA2 X b) {i : Int32} (hin : ∀ k : Nat, k < 5 → vp_in (i + nI k) L) {N : Nat} {σ : gMem} (hR : RR N σ σ) (hN : N ≤ 900000) (hM : gM X σ H) (hO : gO X z w H) (hS : va_S (gA2 X) s.heap H locs) (hl : lv_has ls 9 [(0, .ref b), (1, .ref (X.1 + 0)), (2, .ref (X.1 + 433)), (3, .ref (X.1 + 440)), (4, .ref (X.1 + 441)), (5, .int i)]) (kk : ∀ (H : Heap) (locs : List Loc) (ls : Array Slot) (σ : gMem) (z : Nat → Int64) (w : Nat → UInt64) (c1 s1 : Nat), c1 ≤ 8 → s1 ≤ 48 → RR (N + 1440) σ σ → gM X σ H → gO X z w H → va_S (gA2 X) s.heap H locs → lv_has ls 9 [(0, .ref b), (1, .ref (X.1 + 0)), (2, .ref (X.1 + 433)), (3, .ref (X.1 + 440)), (4, .ref (X.1 + 441)), (5, .int i)] → W p l e R s m args below meth c H locs (cells + c1) (slots + s1) Q (F0 m 2231 ls [])) : W p l e R s m args below meth c H locs cells slots Q (F0 m 392 ls []) := by
  obtain ⟨hx, hb⟩ := (⟨E.1.1, E.1.2.1⟩ : _ ∧ _)
  refine lv_aload_n hx hb dL_law_392 rfl (lv_at hl 1 rfl) ?_
  refine lv_aload_n hx hb dL_law_393 rfl (lv_at hl 0 rfl) ?_
  refine lv_iload hx hb dL_law_394 (lv_at hl 5 rfl) ?_
  refine lv_iconst (v := (1 : Int32)) hx hb dL_law_396 (by decide) ?_
  refine lv_iadd hx hb dL_law_397 ?_
  refine va_sld hx hb hXs hbl hbA hS (hin 1 (by decide)) dL_law_398 ?_
  refine lv_aload_n hx hb dL_law_399 rfl (lv_at hl 3 rfl) ?_
  obtain ⟨cd, z1, σ1, bv, σ2, w1, w2, w3, w4, w5, w6⟩ := stp_stock (z := z) (w := w) hR hN (xs (i + nI 1).toNatClampNeg)
  refine gq_W (n := 3) (As := [.ref (X.1 + 0), .int (xs (i + nI 1).toNatClampNeg), .ref (X.1 + 440)]) E hml hl.1 (cw_stock l X hl0 (xs (i + nI 1).toNatClampNeg) z w σ w1) wlw_stock_s wlw_ini wlw_stock_c (by decide +kernel) wlL_148 rfl hM hO hS rfl rfl (Nat.le_trans (by decide) hRf) (Nat.le_trans (by decide) hRl) (Nat.le_trans (by omega) hRc) (Nat.le_trans (by omega) hRs) (Nat.le_of_ble_eq_true rfl) dL_law_400 rfl (fun H locs hM hO hS => ?_)
  refine lv_istore (lv' := [(6, .int (nI cd)), (0, .ref b), (1, .ref (X.1 + 0)), (2, .ref (X.1 + 433)), (3, .ref (X.1 + 440)), (4, .ref (X.1 + 441)), (5, .int i)]) hx hb dL_law_403 hl (by decide) rfl (fun ls hl => ?_)
  refine lv_aload_n hx hb dL_law_405 rfl (lv_at hl 3 rfl) ?_
  refine lv_aload_n hx hb dL_law_406 rfl (lv_at hl 1 rfl) ?_
  refine lv_iload hx hb dL_law_407 (lv_at hl 6 rfl) ?_
  refine lv_iconst (v := (1 : Int32)) hx hb dL_law_409 (by decide) ?_
  refine lv_iadd hx hb dL_law_410 ?_
  refine va_sld hx hb hXs hbl hbA hS (hin 1 (by decide)) dL_law_411 ?_
  refine gb_i (gq_V (c0 := 433) (As := [.int (xs (i + nI 1).toNatClampNeg)]) (ci := 9) (rm := { frames := 2, cells := 0, slots := 0, locals := 42 }) E hml hl.1 (c_X9_stock l X 433 (xs (i + nI 1).toNatClampNeg) σ1 rfl w2) wt_X9_stock wl_RL_150 rfl rfl (by decide) rfl rfl hM hS rfl rfl (Nat.le_trans (by decide) hRf) (Nat.le_trans (by decide) hRl) (Nat.le_trans (by omega) hRc) (Nat.le_trans (by omega) hRs) (Nat.le_of_ble_eq_true rfl) dL_law_412 rfl) hO hS (fun H locs hM hO hS => ?_)
  refine lv_istore (lv' := [(7, .int bv), (6, .int (nI cd)), (0, .ref b), (1, .ref (X.1 + 0)), (2, .ref (X.1 + 433)), (3, .ref (X.1 + 440)), (4, .ref (X.1 + 441)), (5, .int i)]) hx hb dL_law_415 hl (by decide) rfl (fun ls hl => ?_)
  refine lv_aload_n hx hb dL_law_417 rfl (lv_at hl 4 rfl) ?_
  refine gb_i (gq_V (c0 := 433) (As := []) (ci := 9) (rm := { frames := 0, cells := 0, slots := 0, locals := 0 }) E hml hl.1 (c_X9_thrown l X 433 σ2 rfl (show f_X9_thrown 433 σ2 = some (nI cd, σ2) from congrArg (fun v => some (v, σ2)) w3)) wt_X9_thrown wl_RL_138 rfl rfl (by decide) rfl rfl hM hS rfl rfl (Nat.le_trans (by decide) hRf) (Nat.le_trans (by decide) hRl) (Nat.le_trans (by omega) hRc) (Nat.le_trans (by omega) hRs) (Nat.le_of_ble_eq_true rfl) dL_law_418 rfl) hO hS (fun H locs hM hO hS => ?_)
  refine lv_iload hx hb dL_law_421 (lv_at hl 1 rfl) ?_
  refine lv_icmp_eq (tgt := 428) hx hb dL_law_423 (by decide) (fun _ => ?_) (fun hne => absurd rfl hne)
  refine lv_iload hx hb dL_law_428 (lv_at hl 1 rfl) ?_
  have fin : W p l e R s m args below meth c H locs (cells + 1 + 0 + 0) (slots + 6 + 0 + 0) Q (F0 m 445 ls []) := by
    refine lv_goto (tgt := 2231) hx hb dL_law_445 (by decide) ?_
    exact kk H locs ls σ2 z1 w _ _ (by decide) (by decide) w4 hM hO hS ⟨hl.1, hl.2.1, fun q hq => hl.2.2 q (List.mem_cons_of_mem _ (List.mem_cons_of_mem _ hq))⟩
  refine lv_if_ne (tgt := 445) hx hb dL_law_430 (by decide) (fun _ => fin) (fun h0 => ?_)
  have hcd : cd = 0 := by
    have h1 : nI cd = nI 0 := h0
    rw [p_eq (by omega) (by decide)] at h1; exact h1
  have w7 := w6 hcd
  refine lv_aload_n hx hb dL_law_433 rfl (lv_at hl 5 rfl) ?_
  refine lv_iconst (v := (0 : Int32)) hx hb dL_law_434 (by decide) ?_
  refine gl_lld E hO dL_law_435 ?_
  refine lv_iload hx hb dL_law_436 (lv_at hl 0 rfl) ?_
  refine lv_i2l (v := bv.toInt64) hx hb dL_law_438 rfl ?_
  refine lr_lcmp hx hb dL_law_439 w7 ?_
  exact lv_if_eq (tgt := 445) hx hb dL_law_440 (by decide) (fun _ => fin) (fun hne => absurd rfl hne)
