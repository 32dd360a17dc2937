theorem wo_RX6_1 : Cond.methodLink RX6 1 objectInit ∈ gT := gT_in 638 (by decide +kernel) rfl
theorem wo_i : Cond.instanceMethod objectInit ∈ gT := gT_in 77 (by decide +kernel) rfl
theorem wo_c : Cond.code objectInit ⟨#[0xb1]⟩ 1 none ∈ gT := gT_in 78 (by decide +kernel) rfl
theorem wo_RX0_3 : Cond.methodLink RX0 3 objectInit ∈ gT := gT_in 687 (by decide +kernel) rfl
theorem wo_RX4_3 : Cond.methodLink RX4 3 objectInit ∈ gT := gT_in 843 (by decide +kernel) rfl
theorem wo_RX3_3 : Cond.methodLink RX3 3 objectInit ∈ gT := gT_in 808 (by decide +kernel) rfl
theorem wa_int : Cond.arrayClass (newarray.typeOf .int) ∈ gT := gT_in 655 (by decide +kernel) rfl
theorem wf_RX3_9 : Cond.fieldLink RX3 9 RX3 (TX3 1).2.1 (TX3 1).2.2.1 ∈ gT := gT_in 811 (by decide +kernel) rfl
theorem wo_RX7_3 : Cond.methodLink RX7 3 objectInit ∈ gT := gT_in 660 (by decide +kernel) rfl
theorem wo_RX5_3 : Cond.methodLink RX5 3 objectInit ∈ gT := gT_in 801 (by decide +kernel) rfl
theorem wa_char : Cond.arrayClass (newarray.typeOf .char) ∈ gT := gT_in 819 (by decide +kernel) rfl
theorem wc_RX5_15 : Cond.classLink RX5 15 RX3 ∈ gT := gT_in 802 (by decide +kernel) rfl
theorem wi_3 : Cond.instantiable RX3 2 ∈ gT := gT_in 804 (by decide +kernel) rfl
theorem wn_3 : Cond.initialized RX3 ∈ gT := gT_in 28 (by decide +kernel) rfl
theorem wt_X3_init : gMi yX3_init cX3_init 1 := ⟨gT_in 806 (by decide +kernel) rfl, gT_in 28 (by decide +kernel) rfl, gT_in 807 (by decide +kernel) rfl, rfl, by decide, by decide, by decide +kernel⟩
theorem wl_RX5_21 : Cond.methodLinkNest RX5 21 yX3_init "SugarTowers" ∈ gN := gN_in 785 (by decide +kernel) rfl
theorem wo_RX2_3 : Cond.methodLink RX2 3 objectInit ∈ gT := gT_in 627 (by decide +kernel) rfl
theorem wc_RX2_25 : Cond.classLink RX2 25 RX6 ∈ gT := gT_in 628 (by decide +kernel) rfl
theorem wi_6 : Cond.instantiable RX6 3 ∈ gT := gT_in 634 (by decide +kernel) rfl
theorem wn_6 : Cond.initialized RX6 ∈ gT := gT_in 23 (by decide +kernel) rfl
theorem wc_RX2_31 : Cond.classLink RX2 31 RX7 ∈ gT := gT_in 630 (by decide +kernel) rfl
theorem wi_7 : Cond.instantiable RX7 5 ∈ gT := gT_in 656 (by decide +kernel) rfl
theorem wn_7 : Cond.initialized RX7 ∈ gT := gT_in 24 (by decide +kernel) rfl
theorem wc_RX2_37 : Cond.classLink RX2 37 RX0 ∈ gT := gT_in 632 (by decide +kernel) rfl
theorem wi_0 : Cond.instantiable RX0 5 ∈ gT := gT_in 683 (by decide +kernel) rfl
theorem wn_0 : Cond.initialized RX0 ∈ gT := gT_in 25 (by decide +kernel) rfl
theorem wt_X0_init : gMi yX0_init cX0_init 1 := ⟨gT_in 685 (by decide +kernel) rfl, gT_in 25 (by decide +kernel) rfl, gT_in 686 (by decide +kernel) rfl, rfl, by decide, by decide, by decide +kernel⟩
theorem wl_RX2_45 : Cond.methodLinkNest RX2 45 yX0_init "SugarTowers" ∈ gN := gN_in 664 (by decide +kernel) rfl
theorem wt_X7_init : gMi yX7_init cX7_init 1 := ⟨gT_in 658 (by decide +kernel) rfl, gT_in 24 (by decide +kernel) rfl, gT_in 659 (by decide +kernel) rfl, rfl, by decide, by decide, by decide +kernel⟩
theorem wl_RX2_44 : Cond.methodLinkNest RX2 44 yX7_init "SugarTowers" ∈ gN := gN_in 637 (by decide +kernel) rfl
theorem wt_X6_init : gMi yX6_init cX6_init 1 := ⟨gT_in 636 (by decide +kernel) rfl, gT_in 23 (by decide +kernel) rfl, gT_in 637 (by decide +kernel) rfl, rfl, by decide, by decide, by decide +kernel⟩
theorem wl_RX2_43 : Cond.methodLinkNest RX2 43 yX6_init "SugarTowers" ∈ gN := gN_in 615 (by decide +kernel) rfl
theorem wo_RX1_3 : Cond.methodLink RX1 3 objectInit ∈ gT := gT_in 782 (by decide +kernel) rfl
theorem wc_RX1_9 : Cond.classLink RX1 9 RX2 ∈ gT := gT_in 783 (by decide +kernel) rfl
theorem wi_2 : Cond.instantiable RX2 17 ∈ gT := gT_in 344 (by decide +kernel) rfl
theorem wn_2 : Cond.initialized RX2 ∈ gT := gT_in 22 (by decide +kernel) rfl
theorem wt_X2_init : gMi yX2_init cX2_init 2 := ⟨gT_in 625 (by decide +kernel) rfl, gT_in 22 (by decide +kernel) rfl, gT_in 626 (by decide +kernel) rfl, rfl, by decide, by decide, by decide +kernel⟩
theorem wl_RX1_17 : Cond.methodLink RX1 17 yX2_init ∈ gT := gT_in 785 (by decide +kernel) rfl
theorem wo_RX8_1 : Cond.methodLink RX8 1 objectInit ∈ gT := gT_in 622 (by decide +kernel) rfl
theorem wc_RX8_7 : Cond.classLink RX8 7 RX2 ∈ gT := gT_in 623 (by decide +kernel) rfl
theorem wl_RX8_9 : Cond.methodLink RX8 9 yX2_init ∈ gT := gT_in 624 (by decide +kernel) rfl
theorem wc_RX8_22 : Cond.classLink RX8 22 RX1 ∈ gT := gT_in 777 (by decide +kernel) rfl
theorem wi_1 : Cond.instantiable RX1 3 ∈ gT := gT_in 778 (by decide +kernel) rfl
theorem wn_1 : Cond.initialized RX1 ∈ gT := gT_in 26 (by decide +kernel) rfl
theorem wt_X1_init : gMi yX1_init cX1_init 2 := ⟨gT_in 780 (by decide +kernel) rfl, gT_in 26 (by decide +kernel) rfl, gT_in 781 (by decide +kernel) rfl, rfl, by decide, by decide, by decide +kernel⟩
theorem wl_RX8_24 : Cond.methodLink RX8 24 yX1_init ∈ gT := gT_in 779 (by decide +kernel) rfl
theorem wc_RX8_29 : Cond.classLink RX8 29 RX5 ∈ gT := gT_in 797 (by decide +kernel) rfl
theorem wi_5 : Cond.instantiable RX5 5 ∈ gT := gT_in 388 (by decide +kernel) rfl
theorem wn_5 : Cond.initialized RX5 ∈ gT := gT_in 27 (by decide +kernel) rfl
theorem wt_X5_init : gMi yX5_init cX5_init 2 := ⟨gT_in 799 (by decide +kernel) rfl, gT_in 27 (by decide +kernel) rfl, gT_in 800 (by decide +kernel) rfl, rfl, by decide, by decide, by decide +kernel⟩
theorem wl_RX8_31 : Cond.methodLink RX8 31 yX5_init ∈ gT := gT_in 798 (by decide +kernel) rfl
theorem wc_RX8_40 : Cond.classLink RX8 40 RX4 ∈ gT := gT_in 838 (by decide +kernel) rfl
theorem wi_4 : Cond.instantiable RX4 2 ∈ gT := gT_in 839 (by decide +kernel) rfl
theorem wn_4 : Cond.initialized RX4 ∈ gT := gT_in 29 (by decide +kernel) rfl
theorem wt_X4_init : gMi yX4_init cX4_init 1 := ⟨gT_in 841 (by decide +kernel) rfl, gT_in 29 (by decide +kernel) rfl, gT_in 842 (by decide +kernel) rfl, rfl, by decide, by decide, by decide +kernel⟩
theorem wl_RX8_42 : Cond.methodLinkNest RX8 42 yX4_init "SugarTowers" ∈ gN := gN_in 820 (by decide +kernel) rfl
def f_X6_init (c0 : Nat) (z0 : gZ) : Option gZ := gv z0.1 (fun n0 => gv z0.2.1 (fun s0 => if z0.1 ≤ n0 + 0 ∧ z0.2.1 ≤ s0 + 0 then some z0 else none))
set_option maxRecDepth 100000 in
set_option maxHeartbeats 4000000 in
theorem b_X6_init {p : Program} {l : Launch} {e : Env} {R : Room} {s : State} {m : MethodId} {args : Array Value} {below : List Frame} {meth : Method} {c : Code} {H : Heap} {locs : List Loc} {ls : Array Slot} {X : gX} (E : gEn p s m args c cX6_init RX6 X) (hr : meth.sig.returnType = none) (hlocks : meth.locks = false) (hml : c.maxLocals = 1) (hin2 : meth.name = "<init>") (hAO : gAO s) (hRf : 1 ≤ R.frames) (hRl : 30 ≤ R.locals) (hRc : 0 ≤ R.cells) (hRs : 0 ≤ R.slots) {c0 : Nat} {z0 : gZ} {res : gZ} (hk0 : gk c0 = 6) (hf : f_X6_init c0 z0 = some res) (hM : gWz X z0 H) (hS : va_S (gA X) s.heap H locs) (hcz : s.heap.size = X.1 + z0.1) (hl : lv_has ls 1 [(0, .ref (X.1 + c0))]) : W p l e R s m args below meth c H locs 0 0 (MQ below (gQz X res) args s 0 0 (gA X)) (F0 m 0 ls []) := by
  obtain ⟨hx, hb⟩ := (⟨E.1, E.2.1⟩ : _ ∧ _)
  unfold f_X6_init at hf
  obtain ⟨n0, en0, hf⟩ := gv_o hf
  obtain ⟨s0, es0, hf⟩ := gv_o hf
  have hn0 : s.heap.size = X.1 + n0 := by rw [en0]; exact hcz
  have hcz : s.heap.size + 0 = X.1 + z0.1 := hcz
  have hsl : 0 + s0 = z0.2.1 := by rw [es0]; exact Nat.zero_add _
  refine lv_aload_n hx hb dX6_init_0 rfl (lv_at hl 0 rfl) ?_
  refine gz_obj E (hl.1.trans hml.symm) wo_RX6_1 wo_i wo_c dX6_init_1 (Nat.le_trans (by decide) hRf) (Nat.le_trans (by decide) hRl) ?_
  obtain ⟨h1, hf⟩ := g_ck hf
  exact gy_v E hr hlocks hf hM hS hcz hn0 hsl h1 dX6_init_4
theorem c_X6_init (l : Launch) (X : gX) (c0 : Nat) (z0 : gZ) {res : gZ} (hk0 : gk c0 = 6) (hf : f_X6_init c0 z0 = some res) : Met l yX6_init (gWs yX6_init cX6_init 1 none) { frames := 1, cells := 0, slots := 0, locals := 30 } (va_Pc [.ref (X.1 + c0)] (gBz X z0)) (gQz X res) 0 0 (gA X) :=
  gMetC (own := RX6) (by decide +kernel) rfl rfl (Nat.le_of_ble_eq_true rfl) (fun p e s m args below meth c ls E hr hlocks hml hin2 hAO hM hz hl => b_X6_init E hr hlocks hml hin2 hAO (Nat.le_refl _) (Nat.le_refl _) (Nat.le_refl _) (Nat.le_refl _) hk0 hf hM va_S.rf hz hl)
def f_X0_init (c0 : Nat) (z0 : gZ) : Option gZ := gv z0.1 (fun n0 => gv z0.2.1 (fun s0 => if c0 < z0.1 then gv (zI z0 c0 4 (-1 : Int32)) (fun z1 => if z1.1 ≤ n0 + 0 ∧ z1.2.1 ≤ s0 + 0 then some z1 else none) else none))
set_option maxRecDepth 100000 in
set_option maxHeartbeats 4000000 in
theorem b_X0_init {p : Program} {l : Launch} {e : Env} {R : Room} {s : State} {m : MethodId} {args : Array Value} {below : List Frame} {meth : Method} {c : Code} {H : Heap} {locs : List Loc} {ls : Array Slot} {X : gX} (E : gEn p s m args c cX0_init RX0 X) (hr : meth.sig.returnType = none) (hlocks : meth.locks = false) (hml : c.maxLocals = 1) (hin2 : meth.name = "<init>") (hAO : gAO s) (hRf : 1 ≤ R.frames) (hRl : 30 ≤ R.locals) (hRc : 0 ≤ R.cells) (hRs : 0 ≤ R.slots) {c0 : Nat} {z0 : gZ} {res : gZ} (hk0 : gk c0 = 0) (hf : f_X0_init c0 z0 = some res) (hM : gWz X z0 H) (hS : va_S (gA X) s.heap H locs) (hcz : s.heap.size = X.1 + z0.1) (hl : lv_has ls 1 [(0, .ref (X.1 + c0))]) : W p l e R s m args below meth c H locs 0 0 (MQ below (gQz X res) args s 0 0 (gA X)) (F0 m 0 ls []) := by
  obtain ⟨hx, hb⟩ := (⟨E.1, E.2.1⟩ : _ ∧ _)
  unfold f_X0_init at hf
  obtain ⟨n0, en0, hf⟩ := gv_o hf
  obtain ⟨s0, es0, hf⟩ := gv_o hf
  have hn0 : s.heap.size = X.1 + n0 := by rw [en0]; exact hcz
  have hcz : s.heap.size + 0 = X.1 + z0.1 := hcz
  have hsl : 0 + s0 = z0.2.1 := by rw [es0]; exact Nat.zero_add _
  refine lv_aload_n hx hb dX0_init_0 rfl (lv_at hl 0 rfl) ?_
  refine gz_obj E (hl.1.trans hml.symm) wo_RX0_3 wo_i wo_c dX0_init_1 (Nat.le_trans (by decide) hRf) (Nat.le_trans (by decide) hRl) ?_
  refine lv_aload_n hx hb dX0_init_4 rfl (lv_at hl 0 rfl) ?_
  refine lv_iconst (v := (-1 : Int32)) hx hb dX0_init_5 (by decide) ?_
  obtain ⟨h2, hf⟩ := g_ck hf
  obtain ⟨z1, ez1, hf⟩ := gv_o hf
  refine gz_puti 4 E gin_0 tyX0 tyX0_ok nmX0 rfl rfl (by decide) (by decide) rfl (gEn_t E wf_RX0_9) rfl (tyX0_ok 4 (by decide)) rfl hM hS h2 hk0 ez1 dX0_init_6 (fun H locs hM hS => ?_)
  have hcz := gcz hcz (show z1.1 = z0.1 by rw [ez1]; rfl)
  have hsl := hsl.trans (show z0.2.1 = z1.2.1 by rw [ez1]; rfl)
  obtain ⟨h3, hf⟩ := g_ck hf
  exact gy_v E hr hlocks hf hM hS hcz hn0 hsl h3 dX0_init_9
theorem c_X0_init (l : Launch) (X : gX) (c0 : Nat) (z0 : gZ) {res : gZ} (hk0 : gk c0 = 0) (hf : f_X0_init c0 z0 = some res) : Met l yX0_init (gWs yX0_init cX0_init 1 none) { frames := 1, cells := 0, slots := 0, locals := 30 } (va_Pc [.ref (X.1 + c0)] (gBz X z0)) (gQz X res) 0 0 (gA X) :=
  gMetC (own := RX0) (by decide +kernel) rfl rfl (Nat.le_of_ble_eq_true rfl) (fun p e s m args below meth c ls E hr hlocks hml hin2 hAO hM hz hl => b_X0_init E hr hlocks hml hin2 hAO (Nat.le_refl _) (Nat.le_refl _) (Nat.le_refl _) (Nat.le_refl _) hk0 hf hM va_S.rf hz hl)
def f_X4_init (c0 : Nat) (z0 : gZ) : Option gZ := gv z0.1 (fun n0 => gv z0.2.1 (fun s0 => if c0 < z0.1 then gv (zI z0 c0 0 (0 : Int32)) (fun z1 => if z1.1 ≤ n0 + 0 ∧ z1.2.1 ≤ s0 + 0 then some z1 else none) else none))
set_option maxRecDepth 100000 in
set_option maxHeartbeats 4000000 in
theorem b_X4_init {p : Program} {l : Launch} {e : Env} {R : Room} {s : State} {m : MethodId} {args : Array Value} {below : List Frame} {meth : Method} {c : Code} {H : Heap} {locs : List Loc} {ls : Array Slot} {X : gX} (E : gEn p s m args c cX4_init RX4 X) (hr : meth.sig.returnType = none) (hlocks : meth.locks = false) (hml : c.maxLocals = 1) (hin2 : meth.name = "<init>") (hAO : gAO s) (hRf : 1 ≤ R.frames) (hRl : 30 ≤ R.locals) (hRc : 0 ≤ R.cells) (hRs : 0 ≤ R.slots) {c0 : Nat} {z0 : gZ} {res : gZ} (hk0 : gk c0 = 4) (hf : f_X4_init c0 z0 = some res) (hM : gWz X z0 H) (hS : va_S (gA X) s.heap H locs) (hcz : s.heap.size = X.1 + z0.1) (hl : lv_has ls 1 [(0, .ref (X.1 + c0))]) : W p l e R s m args below meth c H locs 0 0 (MQ below (gQz X res) args s 0 0 (gA X)) (F0 m 0 ls []) := by
  obtain ⟨hx, hb⟩ := (⟨E.1, E.2.1⟩ : _ ∧ _)
  unfold f_X4_init at hf
  obtain ⟨n0, en0, hf⟩ := gv_o hf
  obtain ⟨s0, es0, hf⟩ := gv_o hf
  have hn0 : s.heap.size = X.1 + n0 := by rw [en0]; exact hcz
  have hcz : s.heap.size + 0 = X.1 + z0.1 := hcz
  have hsl : 0 + s0 = z0.2.1 := by rw [es0]; exact Nat.zero_add _
  refine lv_aload_n hx hb dX4_init_0 rfl (lv_at hl 0 rfl) ?_
  refine gz_obj E (hl.1.trans hml.symm) wo_RX4_3 wo_i wo_c dX4_init_1 (Nat.le_trans (by decide) hRf) (Nat.le_trans (by decide) hRl) ?_
  refine lv_aload_n hx hb dX4_init_4 rfl (lv_at hl 0 rfl) ?_
  refine lv_iconst (v := (0 : Int32)) hx hb dX4_init_5 (by decide) ?_
  obtain ⟨h2, hf⟩ := g_ck hf
  obtain ⟨z1, ez1, hf⟩ := gv_o hf
  refine gz_puti 0 E gin_4 tyX4 tyX4_ok nmX4 rfl rfl (by decide) (by decide) rfl (gEn_t E wf_RX4_9) rfl (tyX4_ok 0 (by decide)) rfl hM hS h2 hk0 ez1 dX4_init_6 (fun H locs hM hS => ?_)
  have hcz := gcz hcz (show z1.1 = z0.1 by rw [ez1]; rfl)
  have hsl := hsl.trans (show z0.2.1 = z1.2.1 by rw [ez1]; rfl)
  obtain ⟨h3, hf⟩ := g_ck hf
  exact gy_v E hr hlocks hf hM hS hcz hn0 hsl h3 dX4_init_9
theorem c_X4_init (l : Launch) (X : gX) (c0 : Nat) (z0 : gZ) {res : gZ} (hk0 : gk c0 = 4) (hf : f_X4_init c0 z0 = some res) : Met l yX4_init (gWs yX4_init cX4_init 1 none) { frames := 1, cells := 0, slots := 0, locals := 30 } (va_Pc [.ref (X.1 + c0)] (gBz X z0)) (gQz X res) 0 0 (gA X) :=
  gMetC (own := RX4) (by decide +kernel) rfl rfl (Nat.le_of_ble_eq_true rfl) (fun p e s m args below meth c ls E hr hlocks hml hin2 hAO hM hz hl => b_X4_init E hr hlocks hml hin2 hAO (Nat.le_refl _) (Nat.le_refl _) (Nat.le_refl _) (Nat.le_refl _) hk0 hf hM va_S.rf hz hl)
def f_X3_init (c0 : Nat) (z0 : gZ) : Option gZ := gv z0.1 (fun n0 => gv z0.2.1 (fun s0 => if gk z0.1 = 20 ∧ gl z0.1 = 4 ∧ z0.1 + 1 ≤ n0 + 1 ∧ z0.2.1 + 4 ≤ s0 + 4 then gv (zN 4 z0) (fun z1 => if z0.1 = c0 + 1 ∧ c0 < z1.1 then gv (zR z1 c0 1) (fun z3 => if z3.1 ≤ n0 + 1 ∧ z3.2.1 ≤ s0 + 4 then some z3 else none) else none) else none))
set_option maxRecDepth 100000 in
set_option maxHeartbeats 4000000 in
theorem b_X3_init {p : Program} {l : Launch} {e : Env} {R : Room} {s : State} {m : MethodId} {args : Array Value} {below : List Frame} {meth : Method} {c : Code} {H : Heap} {locs : List Loc} {ls : Array Slot} {X : gX} (E : gEn p s m args c cX3_init RX3 X) (hr : meth.sig.returnType = none) (hlocks : meth.locks = false) (hml : c.maxLocals = 1) (hin2 : meth.name = "<init>") (hAO : gAO s) (hRf : 1 ≤ R.frames) (hRl : 30 ≤ R.locals) (hRc : 1 ≤ R.cells) (hRs : 4 ≤ R.slots) {c0 : Nat} {z0 : gZ} {res : gZ} (hk0 : gk c0 = 3) (hf : f_X3_init c0 z0 = some res) (hM : gWz X z0 H) (hS : va_S (gA X) s.heap H locs) (hcz : s.heap.size = X.1 + z0.1) (hl : lv_has ls 1 [(0, .ref (X.1 + c0))]) : W p l e R s m args below meth c H locs 0 0 (MQ below (gQz X res) args s 1 4 (gA X)) (F0 m 0 ls []) := by
  obtain ⟨hx, hb⟩ := (⟨E.1, E.2.1⟩ : _ ∧ _)
  unfold f_X3_init at hf
  obtain ⟨n0, en0, hf⟩ := gv_o hf
  obtain ⟨s0, es0, hf⟩ := gv_o hf
  have hn0 : s.heap.size = X.1 + n0 := by rw [en0]; exact hcz
  have hcz : s.heap.size + 0 = X.1 + z0.1 := hcz
  have hsl : 0 + s0 = z0.2.1 := by rw [es0]; exact Nat.zero_add _
  refine lv_aload_n hx hb dX3_init_0 rfl (lv_at hl 0 rfl) ?_
  refine gz_obj E (hl.1.trans hml.symm) wo_RX3_3 wo_i wo_c dX3_init_1 (Nat.le_trans (by decide) hRf) (Nat.le_trans (by decide) hRl) ?_
  refine lv_aload_n hx hb dX3_init_4 rfl (lv_at hl 0 rfl) ?_
  refine lv_iconst (v := (4 : Int32)) hx hb dX3_init_5 (by decide) ?_
  obtain ⟨h2, hf⟩ := g_ck hf
  obtain ⟨z1, ez1, hf⟩ := gv_o hf
  refine gy_arr (k := 20) (N := 4) E (Or.inl ⟨rfl, rfl⟩) wa_int hM hS hcz hn0 hsl h2.2.2.1 h2.2.2.2 hRc hRs ez1 h2.1 h2.2.1 (by decide) (by decide) (Nat.le_of_ble_eq_true rfl) dX3_init_6 (fun cells slots H hM hS hcz hsl => ?_)
  obtain ⟨h4, hf⟩ := g_ck hf
  obtain ⟨z3, ez3, hf⟩ := gv_o hf
  refine gz_putr 1 E hin2 gin_3 tyX3 tyX3_ok nmX3 rfl rfl (by decide) (by decide) rfl rfl (gEn_t E wf_RX3_9) rfl (tyX3_ok 1 (by decide)) rfl rfl rfl h4.1 hM hS h4.2 hk0 ez3 dX3_init_8 (fun H locs hM hS => ?_)
  have hcz := gcz hcz (show z3.1 = z1.1 by rw [ez3]; rfl)
  have hsl := hsl.trans (show z1.2.1 = z3.2.1 by rw [ez3]; rfl)
  obtain ⟨h5, hf⟩ := g_ck hf
  exact gy_v E hr hlocks hf hM hS hcz hn0 hsl h5 dX3_init_11
theorem c_X3_init (l : Launch) (X : gX) (c0 : Nat) (z0 : gZ) {res : gZ} (hk0 : gk c0 = 3) (hf : f_X3_init c0 z0 = some res) : Met l yX3_init (gWs yX3_init cX3_init 1 none) { frames := 1, cells := 1, slots := 4, locals := 30 } (va_Pc [.ref (X.1 + c0)] (gBz X z0)) (gQz X res) 1 4 (gA X) :=
  gMetC (own := RX3) (by decide +kernel) rfl rfl (Nat.le_of_ble_eq_true rfl) (fun p e s m args below meth c ls E hr hlocks hml hin2 hAO hM hz hl => b_X3_init E hr hlocks hml hin2 hAO (Nat.le_refl _) (Nat.le_refl _) (Nat.le_refl _) (Nat.le_refl _) hk0 hf hM va_S.rf hz hl)
def f_X7_init (c0 : Nat) (z0 : gZ) : Option gZ := gv z0.1 (fun n0 => gv z0.2.1 (fun s0 => if gk z0.1 = 20 ∧ gl z0.1 = 10 ∧ z0.1 + 1 ≤ n0 + 2 ∧ z0.2.1 + 10 ≤ s0 + 20 then gv (zN 10 z0) (fun z1 => if z0.1 = c0 + 1 ∧ c0 < z1.1 then gv (zR z1 c0 0) (fun z3 => if gk z3.1 = 20 ∧ gl z3.1 = 10 ∧ z3.1 + 1 ≤ n0 + 2 ∧ z3.2.1 + 10 ≤ s0 + 20 then gv (zN 10 z3) (fun z5 => if z3.1 = c0 + 2 ∧ c0 < z5.1 then gv (zR z5 c0 1) (fun z7 => if z7.1 ≤ n0 + 2 ∧ z7.2.1 ≤ s0 + 20 then some z7 else none) else none) else none) else none) else none))
set_option maxRecDepth 100000 in
set_option maxHeartbeats 4000000 in
theorem b_X7_init {p : Program} {l : Launch} {e : Env} {R : Room} {s : State} {m : MethodId} {args : Array Value} {below : List Frame} {meth : Method} {c : Code} {H : Heap} {locs : List Loc} {ls : Array Slot} {X : gX} (E : gEn p s m args c cX7_init RX7 X) (hr : meth.sig.returnType = none) (hlocks : meth.locks = false) (hml : c.maxLocals = 1) (hin2 : meth.name = "<init>") (hAO : gAO s) (hRf : 1 ≤ R.frames) (hRl : 30 ≤ R.locals) (hRc : 2 ≤ R.cells) (hRs : 20 ≤ R.slots) {c0 : Nat} {z0 : gZ} {res : gZ} (hk0 : gk c0 = 7) (hf : f_X7_init c0 z0 = some res) (hM : gWz X z0 H) (hS : va_S (gA X) s.heap H locs) (hcz : s.heap.size = X.1 + z0.1) (hl : lv_has ls 1 [(0, .ref (X.1 + c0))]) : W p l e R s m args below meth c H locs 0 0 (MQ below (gQz X res) args s 2 20 (gA X)) (F0 m 0 ls []) := by
  obtain ⟨hx, hb⟩ := (⟨E.1, E.2.1⟩ : _ ∧ _)
  unfold f_X7_init at hf
  obtain ⟨n0, en0, hf⟩ := gv_o hf
  obtain ⟨s0, es0, hf⟩ := gv_o hf
  have hn0 : s.heap.size = X.1 + n0 := by rw [en0]; exact hcz
  have hcz : s.heap.size + 0 = X.1 + z0.1 := hcz
  have hsl : 0 + s0 = z0.2.1 := by rw [es0]; exact Nat.zero_add _
  refine lv_aload_n hx hb dX7_init_0 rfl (lv_at hl 0 rfl) ?_
  refine gz_obj E (hl.1.trans hml.symm) wo_RX7_3 wo_i wo_c dX7_init_1 (Nat.le_trans (by decide) hRf) (Nat.le_trans (by decide) hRl) ?_
  refine lv_aload_n hx hb dX7_init_4 rfl (lv_at hl 0 rfl) ?_
  refine lv_bipush (v := (10 : Int32)) hx hb dX7_init_5 (by decide) ?_
  obtain ⟨h2, hf⟩ := g_ck hf
  obtain ⟨z1, ez1, hf⟩ := gv_o hf
  refine gy_arr (k := 20) (N := 10) E (Or.inl ⟨rfl, rfl⟩) wa_int hM hS hcz hn0 hsl h2.2.2.1 h2.2.2.2 hRc hRs ez1 h2.1 h2.2.1 (by decide) (by decide) (Nat.le_of_ble_eq_true rfl) dX7_init_7 (fun cells slots H hM hS hcz hsl => ?_)
  obtain ⟨h4, hf⟩ := g_ck hf
  obtain ⟨z3, ez3, hf⟩ := gv_o hf
  refine gz_putr 0 E hin2 gin_7 tyX7 tyX7_ok nmX7 rfl rfl (by decide) (by decide) rfl rfl (gEn_t E wf_RX7_9) rfl (tyX7_ok 0 (by decide)) rfl rfl rfl h4.1 hM hS h4.2 hk0 ez3 dX7_init_9 (fun H locs hM hS => ?_)
  have hcz := gcz hcz (show z3.1 = z1.1 by rw [ez3]; rfl)
  have hsl := hsl.trans (show z1.2.1 = z3.2.1 by rw [ez3]; rfl)
  refine lv_aload_n hx hb dX7_init_12 rfl (lv_at hl 0 rfl) ?_
  refine lv_bipush (v := (10 : Int32)) hx hb dX7_init_13 (by decide) ?_
  obtain ⟨h6, hf⟩ := g_ck hf
  obtain ⟨z5, ez5, hf⟩ := gv_o hf
  refine gy_arr (k := 20) (N := 10) E (Or.inl ⟨rfl, rfl⟩) wa_int hM hS hcz hn0 hsl h6.2.2.1 h6.2.2.2 hRc hRs ez5 h6.1 h6.2.1 (by decide) (by decide) (Nat.le_of_ble_eq_true rfl) dX7_init_15 (fun cells slots H hM hS hcz hsl => ?_)
  obtain ⟨h8, hf⟩ := g_ck hf
  obtain ⟨z7, ez7, hf⟩ := gv_o hf
  refine gz_putr 1 E hin2 gin_7 tyX7 tyX7_ok nmX7 rfl rfl (by decide) (by decide) rfl rfl (gEn_t E wf_RX7_15) rfl (tyX7_ok 1 (by decide)) rfl rfl rfl h8.1 hM hS h8.2 hk0 ez7 dX7_init_17 (fun H locs hM hS => ?_)
  have hcz := gcz hcz (show z7.1 = z5.1 by rw [ez7]; rfl)
  have hsl := hsl.trans (show z5.2.1 = z7.2.1 by rw [ez7]; rfl)
  obtain ⟨h9, hf⟩ := g_ck hf
  exact gy_v E hr hlocks hf hM hS hcz hn0 hsl h9 dX7_init_20
theorem c_X7_init (l : Launch) (X : gX) (c0 : Nat) (z0 : gZ) {res : gZ} (hk0 : gk c0 = 7) (hf : f_X7_init c0 z0 = some res) : Met l yX7_init (gWs yX7_init cX7_init 1 none) { frames := 1, cells := 2, slots := 20, locals := 30 } (va_Pc [.ref (X.1 + c0)] (gBz X z0)) (gQz X res) 2 20 (gA X) :=
  gMetC (own := RX7) (by decide +kernel) rfl rfl (Nat.le_of_ble_eq_true rfl) (fun p e s m args below meth c ls E hr hlocks hml hin2 hAO hM hz hl => b_X7_init E hr hlocks hml hin2 hAO (Nat.le_refl _) (Nat.le_refl _) (Nat.le_refl _) (Nat.le_refl _) hk0 hf hM va_S.rf hz hl)
def L_X5_init_23 (c0 n0 s0 : Nat) : Nat → Int32 → gZ → Option gZ
  | 0, _, _ => none
  | n + 1, y1, z => if (20 : Int32) ≤ y1 then (if z.1 ≤ n0 + 42 ∧ z.2.1 ≤ s0 + 200 then some z else none) else (if z.2.2.1 c0 3 = true ∧ c0 < z.1 then if gk z.1 = 3 ∧ z.1 + 1 ≤ n0 + 42 ∧ z.2.1 + 2 ≤ s0 + 200 then gv (zN 2 z) (fun z13 => g3 (f_X3_init z.1 z13) (fun z15 => if z15.1 = z13.1 + 1 ∧ z15.2.1 = z13.2.1 + 4 ∧ z15.1 ≤ n0 + 42 ∧ z15.2.1 ≤ s0 + 200 then if ¬ (y1 < 0 ∨ gl (c0 + 2) ≤ y1.toNatClampNeg) ∧ (c0 + 2) < z15.1 ∧ z.1 < z15.1 ∧ z.1 = (c0 + 2) + (1 + 2 * y1.toNatClampNeg) then gv (zR z15 (c0 + 2) y1.toNatClampNeg) (fun z18 => gv (y1 + (1 : Int32)) (fun x19 => L_X5_init_23 c0 n0 s0 n x19 z18)) else none else none)) else none else none)
def f_X5_init (c0 : Nat) (z0 : gZ) : Option gZ := gv z0.1 (fun n0 => gv z0.2.1 (fun s0 => if gk z0.1 = 21 ∧ gl z0.1 = 60 ∧ z0.1 + 1 ≤ n0 + 42 ∧ z0.2.1 + 60 ≤ s0 + 200 then gv (zN 60 z0) (fun z1 => if z0.1 = c0 + 1 ∧ c0 < z1.1 then gv (zR z1 c0 0) (fun z3 => if gk z3.1 = 28 ∧ gl z3.1 = 20 ∧ z3.1 + 1 ≤ n0 + 42 ∧ z3.2.1 + 20 ≤ s0 + 200 then gv (zN 20 z3) (fun z5 => if z3.1 = c0 + 2 ∧ c0 < z5.1 then gv (zR z5 c0 3) (fun z7 => L_X5_init_23 c0 n0 s0 gF (0 : Int32) z7) else none) else none) else none) else none))
set_option maxRecDepth 100000 in
set_option maxHeartbeats 4000000 in
theorem l_X5_init_23 {p : Program} {l : Launch} {e : Env} {R : Room} {s : State} {m : MethodId} {args : Array Value} {below : List Frame} {meth : Method} {c : Code} {X : gX} (E : gEn p s m args c cX5_init RX5 X) (hr : meth.sig.returnType = none) (hlocks : meth.locks = false) (hml : c.maxLocals = 2) (hin2 : meth.name = "<init>") (hAO : gAO s) (hRf : 2 ≤ R.frames) (hRl : 50 ≤ R.locals) (hRc : 42 ≤ R.cells) (hRs : 200 ≤ R.slots) (c0 n0 s0 : Nat) (hk0 : gk c0 = 5) (hn0 : s.heap.size = X.1 + n0) {res : gZ} :
    ∀ (n : Nat) (y1 : Int32) (z : gZ) (cells slots : Nat) (H : Heap) (locs : List Loc) (ls : Array Slot), L_X5_init_23 c0 n0 s0 n y1 z = some res → gWz X z H → va_S (gA X) s.heap H locs → s.heap.size + cells = X.1 + z.1 → slots + s0 = z.2.1 → lv_has ls 2 [(0, .ref (X.1 + c0)), (1, .int y1)] → W p l e R s m args below meth c H locs cells slots (MQ below (gQz X res) args s 42 200 (gA X)) (F0 m 23 ls []) := by
  obtain ⟨hx, hb⟩ := (⟨E.1, E.2.1⟩ : _ ∧ _)
  intro n
  induction n with
  | zero =>
    intro _ _ _ _ _ _ _ hf
    cases hf
  | succ n ih =>
    intro y1 z cells slots H locs ls hf hM hS hcz hsl hl
    rw [L_X5_init_23] at hf
    refine lv_iload_n hx hb dX5_init_23 rfl (lv_at hl 1 rfl) ?_
    refine lv_bipush (v := (20 : Int32)) hx hb dX5_init_24 (by decide) ?_
    refine lv_icmp_ge (tgt := 48) hx hb dX5_init_26 (by decide) (fun h9 => ?_) (fun h9 => ?_)
    · have hf := g_t h9 hf
      obtain ⟨h10, hf⟩ := g_ck hf
      exact gy_v E hr hlocks hf hM hS hcz hn0 hsl h10 dX5_init_48
    · have hf := g_f h9 hf
      refine lv_aload_n hx hb dX5_init_29 rfl (lv_at hl 0 rfl) ?_
      obtain ⟨h11, hf⟩ := g_ck hf
      refine gz_getr 3 E gin_5 rfl rfl (by decide) (by decide) rfl (gEn_t E wf_RX5_17) hM h11.2 hk0 rfl h11.1 dX5_init_30 ?_
      have hg12 : gk (c0 + 2) = 28 := gkf_5_3 hk0
      refine lv_iload_n hx hb dX5_init_33 rfl (lv_at hl 1 rfl) ?_
      obtain ⟨h14, hf⟩ := g_ck hf
      obtain ⟨z13, ez13, hf⟩ := gv_o hf
      refine gy_new (N := 2) E gin_3 tyX3 tyX3_ok rfl rfl (by decide) wc_RX5_15 wi_3 wn_3 (by decide) hM hS hcz hn0 hsl h14.2.1 h14.2.2 hRc hRs ez13 h14.1 dX5_init_34 (fun cells slots H hM hS hcz hsl => ?_)
      refine lv_dup hx hb dX5_init_37 rfl ?_
      obtain ⟨z15, hqz15, hf⟩ := g3_o hf
      obtain ⟨h16, hf⟩ := g_ck hf
      refine gy_call (rm := { frames := 1, cells := 1, slots := 4, locals := 30 }) E hAO hml hl.1 (c_X3_init l X z.1 z13 h14.1 hqz15) wt_X3_init (Or.inr wl_RX5_21) hM hS hcz hn0 hsl ⟨h16.1, h16.2.1⟩ h16.2.2.1 h16.2.2.2 hRc hRs rfl rfl (Nat.le_trans (by decide) hRf) (Nat.le_trans (by decide) hRl) (Nat.le_of_ble_eq_true rfl) dX5_init_38 (fun cells slots H locs hM hS hcz hsl => ?_)
      obtain ⟨h17, hf⟩ := g_ck hf
      obtain ⟨z18, ez18, hf⟩ := gv_o hf
      refine gz_astq (k := 28) (ci := 3) E (by decide) rfl rfl (by decide) hM hS h17.2.1 hg12 h17.2.2.1 h14.1 h17.1 rfl h17.2.2.2 ez18 dX5_init_41 (fun H locs hM hS => ?_)
      have hcz := gcz hcz (show z18.1 = z15.1 by rw [ez18]; rfl)
      have hsl := hsl.trans (show z15.2.1 = z18.2.1 by rw [ez18]; rfl)
      obtain ⟨x19, ex19, hf⟩ := gv_o hf
      refine lv_iinc (v := x19) (lv' := [(1, .int x19), (0, .ref (X.1 + c0))]) hx hb dX5_init_42 hl (k := 1) rfl (by rw [ex19]; rfl) (by decide) rfl (fun ls hl => ?_)
      refine lv_goto (tgt := 23) hx hb dX5_init_45 (by decide) ?_
      exact ih x19 z18 _ _ _ _ _ hf hM hS hcz hsl (lv_sub hl [1, 0] rfl)
set_option maxRecDepth 100000 in
set_option maxHeartbeats 4000000 in
theorem b_X5_init {p : Program} {l : Launch} {e : Env} {R : Room} {s : State} {m : MethodId} {args : Array Value} {below : List Frame} {meth : Method} {c : Code} {H : Heap} {locs : List Loc} {ls : Array Slot} {X : gX} (E : gEn p s m args c cX5_init RX5 X) (hr : meth.sig.returnType = none) (hlocks : meth.locks = false) (hml : c.maxLocals = 2) (hin2 : meth.name = "<init>") (hAO : gAO s) (hRf : 2 ≤ R.frames) (hRl : 50 ≤ R.locals) (hRc : 42 ≤ R.cells) (hRs : 200 ≤ R.slots) {c0 : Nat} {z0 : gZ} {res : gZ} (hk0 : gk c0 = 5) (hf : f_X5_init c0 z0 = some res) (hM : gWz X z0 H) (hS : va_S (gA X) s.heap H locs) (hcz : s.heap.size = X.1 + z0.1) (hl : lv_has ls 2 [(0, .ref (X.1 + c0))]) : W p l e R s m args below meth c H locs 0 0 (MQ below (gQz X res) args s 42 200 (gA X)) (F0 m 0 ls []) := by
  obtain ⟨hx, hb⟩ := (⟨E.1, E.2.1⟩ : _ ∧ _)
  unfold f_X5_init at hf
  obtain ⟨n0, en0, hf⟩ := gv_o hf
  obtain ⟨s0, es0, hf⟩ := gv_o hf
  have hn0 : s.heap.size = X.1 + n0 := by rw [en0]; exact hcz
  have hcz : s.heap.size + 0 = X.1 + z0.1 := hcz
  have hsl : 0 + s0 = z0.2.1 := by rw [es0]; exact Nat.zero_add _
  refine lv_aload_n hx hb dX5_init_0 rfl (lv_at hl 0 rfl) ?_
  refine gz_obj E (hl.1.trans hml.symm) wo_RX5_3 wo_i wo_c dX5_init_1 (Nat.le_trans (by decide) hRf) (Nat.le_trans (by decide) hRl) ?_
  refine lv_aload_n hx hb dX5_init_4 rfl (lv_at hl 0 rfl) ?_
  refine lv_bipush (v := (60 : Int32)) hx hb dX5_init_5 (by decide) ?_
  obtain ⟨h2, hf⟩ := g_ck hf
  obtain ⟨z1, ez1, hf⟩ := gv_o hf
  refine gy_arr (k := 21) (N := 60) E (Or.inr ⟨rfl, rfl⟩) wa_char hM hS hcz hn0 hsl h2.2.2.1 h2.2.2.2 hRc hRs ez1 h2.1 h2.2.1 (by decide) (by decide) (Nat.le_of_ble_eq_true rfl) dX5_init_7 (fun cells slots H hM hS hcz hsl => ?_)
  obtain ⟨h4, hf⟩ := g_ck hf
  obtain ⟨z3, ez3, hf⟩ := gv_o hf
  refine gz_putr 0 E hin2 gin_5 tyX5 tyX5_ok nmX5 rfl rfl (by decide) (by decide) rfl rfl (gEn_t E wf_RX5_9) rfl (tyX5_ok 0 (by decide)) rfl rfl rfl h4.1 hM hS h4.2 hk0 ez3 dX5_init_9 (fun H locs hM hS => ?_)
  have hcz := gcz hcz (show z3.1 = z1.1 by rw [ez3]; rfl)
  have hsl := hsl.trans (show z1.2.1 = z3.2.1 by rw [ez3]; rfl)
  refine lv_aload_n hx hb dX5_init_12 rfl (lv_at hl 0 rfl) ?_
  refine lv_bipush (v := (20 : Int32)) hx hb dX5_init_13 (by decide) ?_
  obtain ⟨h6, hf⟩ := g_ck hf
  obtain ⟨z5, ez5, hf⟩ := gv_o hf
  refine gy_arrq (C := RX3) (k := 28) (N := 20) E hAO (by decide) (by decide) (by decide) rfl wc_RX5_15 hM hS hcz hn0 hsl h6.2.2.1 h6.2.2.2 hRc hRs ez5 h6.1 h6.2.1 (by decide) (by decide) (Nat.le_of_ble_eq_true rfl) dX5_init_15 (fun cells slots H hM hS hcz hsl => ?_)
  obtain ⟨h8, hf⟩ := g_ck hf
  obtain ⟨z7, ez7, hf⟩ := gv_o hf
  refine gz_putr 3 E hin2 gin_5 tyX5 tyX5_ok nmX5 rfl rfl (by decide) (by decide) rfl rfl (gEn_t E wf_RX5_17) rfl (tyX5_ok 3 (by decide)) rfl rfl rfl h8.1 hM hS h8.2 hk0 ez7 dX5_init_18 (fun H locs hM hS => ?_)
  have hcz := gcz hcz (show z7.1 = z5.1 by rw [ez7]; rfl)
  have hsl := hsl.trans (show z5.2.1 = z7.2.1 by rw [ez7]; rfl)
  refine lv_iconst (v := (0 : Int32)) hx hb dX5_init_21 (by decide) ?_
  refine lv_istore_n (lv' := [(1, .int (0 : Int32)), (0, .ref (X.1 + c0))]) hx hb dX5_init_22 rfl hl (by decide) rfl (fun ls hl => ?_)
  exact l_X5_init_23 E hr hlocks hml hin2 hAO hRf hRl hRc hRs c0 n0 s0 hk0 hn0 gF (0 : Int32) z7 _ _ _ _ _ hf hM hS hcz hsl (lv_sub hl [1, 0] rfl)
theorem c_X5_init (l : Launch) (X : gX) (c0 : Nat) (z0 : gZ) {res : gZ} (hk0 : gk c0 = 5) (hf : f_X5_init c0 z0 = some res) : Met l yX5_init (gWs yX5_init cX5_init 2 none) { frames := 2, cells := 42, slots := 200, locals := 50 } (va_Pc [.ref (X.1 + c0)] (gBz X z0)) (gQz X res) 42 200 (gA X) :=
  gMetC (own := RX5) (by decide +kernel) rfl rfl (Nat.le_of_ble_eq_true rfl) (fun p e s m args below meth c ls E hr hlocks hml hin2 hAO hM hz hl => b_X5_init E hr hlocks hml hin2 hAO (Nat.le_refl _) (Nat.le_refl _) (Nat.le_refl _) (Nat.le_refl _) hk0 hf hM va_S.rf hz hl)
def L_X2_init_135 (c0 n0 s0 : Nat) : Nat → Int32 → gZ → Option gZ
  | 0, _, _ => none
  | n + 1, y1, z => if (6 : Int32) ≤ y1 then (if z.1 ≤ n0 + 34 ∧ z.2.1 ≤ s0 + 238 then some z else none) else (if z.2.2.1 c0 9 = true ∧ c0 < z.1 then if gk z.1 = 0 ∧ z.1 + 1 ≤ n0 + 34 ∧ z.2.1 + 5 ≤ s0 + 238 then gv (zN 5 z) (fun z34 => g3 (f_X0_init z.1 z34) (fun z36 => if z36.1 = z34.1 + 0 ∧ z36.2.1 = z34.2.1 + 0 ∧ z36.1 ≤ n0 + 34 ∧ z36.2.1 ≤ s0 + 238 then if ¬ (y1 < 0 ∨ gl (c0 + 6) ≤ y1.toNatClampNeg) ∧ (c0 + 6) < z36.1 ∧ z.1 < z36.1 ∧ z.1 = (c0 + 6) + (23 + y1.toNatClampNeg) then gv (zR z36 (c0 + 6) y1.toNatClampNeg) (fun z39 => gv (y1 + (1 : Int32)) (fun x40 => L_X2_init_135 c0 n0 s0 n x40 z39)) else none else none)) else none else none)
def L_X2_init_108 (c0 n0 s0 : Nat) : Nat → Int32 → gZ → Option gZ
  | 0, _, _ => none
  | n + 1, y1, z => if (6 : Int32) ≤ y1 then (L_X2_init_135 c0 n0 s0 gF (0 : Int32) z) else (if z.2.2.1 c0 7 = true ∧ c0 < z.1 then if gk z.1 = 7 ∧ z.1 + 1 ≤ n0 + 34 ∧ z.2.1 + 5 ≤ s0 + 238 then gv (zN 5 z) (fun z43 => g3 (f_X7_init z.1 z43) (fun z45 => if z45.1 = z43.1 + 2 ∧ z45.2.1 = z43.2.1 + 20 ∧ z45.1 ≤ n0 + 34 ∧ z45.2.1 ≤ s0 + 238 then if ¬ (y1 < 0 ∨ gl (c0 + 5) ≤ y1.toNatClampNeg) ∧ (c0 + 5) < z45.1 ∧ z.1 < z45.1 ∧ z.1 = (c0 + 5) + (6 + 3 * y1.toNatClampNeg) then gv (zR z45 (c0 + 5) y1.toNatClampNeg) (fun z48 => gv (y1 + (1 : Int32)) (fun x49 => L_X2_init_108 c0 n0 s0 n x49 z48)) else none else none)) else none else none)
def L_X2_init_82 (c0 n0 s0 : Nat) : Nat → Int32 → gZ → Option gZ
  | 0, _, _ => none
  | n + 1, y1, z => if (4 : Int32) ≤ y1 then (L_X2_init_108 c0 n0 s0 gF (0 : Int32) z) else (if z.2.2.1 c0 5 = true ∧ c0 < z.1 then if gk z.1 = 6 ∧ z.1 + 1 ≤ n0 + 34 ∧ z.2.1 + 3 ≤ s0 + 238 then gv (zN 3 z) (fun z52 => g3 (f_X6_init z.1 z52) (fun z54 => if z54.1 = z52.1 + 0 ∧ z54.2.1 = z52.2.1 + 0 ∧ z54.1 ≤ n0 + 34 ∧ z54.2.1 ≤ s0 + 238 then if ¬ (y1 < 0 ∨ gl (c0 + 4) ≤ y1.toNatClampNeg) ∧ (c0 + 4) < z54.1 ∧ z.1 < z54.1 ∧ z.1 = (c0 + 4) + (3 + y1.toNatClampNeg) then gv (zR z54 (c0 + 4) y1.toNatClampNeg) (fun z57 => gv (y1 + (1 : Int32)) (fun x58 => L_X2_init_82 c0 n0 s0 n x58 z57)) else none else none)) else none else none)
def L_X2_init_60 (c0 n0 s0 : Nat) : Nat → Int32 → gZ → Option gZ
  | 0, _, _ => none
  | n + 1, y1, z => if (24 : Int32) ≤ y1 then (L_X2_init_82 c0 n0 s0 gF (0 : Int32) z) else (if z.2.2.1 c0 2 = true ∧ c0 < z.1 then if ¬ (y1 < 0 ∨ gl (c0 + 1) ≤ y1.toNatClampNeg) ∧ (c0 + 1) < z.1 then gv (zI z (c0 + 1) y1.toNatClampNeg (45 : Int32)) (fun z62 => gv (y1 + (1 : Int32)) (fun x63 => L_X2_init_60 c0 n0 s0 n x63 z62)) else none else none)
def f_X2_init (c0 : Nat) (z0 : gZ) : Option gZ := gv z0.1 (fun n0 => gv z0.2.1 (fun s0 => if c0 < z0.1 then gv (zI z0 c0 1 (100 : Int32)) (fun z1 => if gk z1.1 = 20 ∧ gl z1.1 = 24 ∧ z1.1 + 1 ≤ n0 + 34 ∧ z1.2.1 + 24 ≤ s0 + 238 then gv (zN 24 z1) (fun z3 => if z1.1 = c0 + 1 ∧ c0 < z3.1 then gv (zR z3 c0 2) (fun z5 => if gk z5.1 = 20 ∧ gl z5.1 = 3 ∧ z5.1 + 1 ≤ n0 + 34 ∧ z5.2.1 + 3 ≤ s0 + 238 then gv (zN 3 z5) (fun z7 => if z5.1 = c0 + 2 ∧ c0 < z7.1 then gv (zR z7 c0 3) (fun z9 => if gk z9.1 = 20 ∧ gl z9.1 = 3 ∧ z9.1 + 1 ≤ n0 + 34 ∧ z9.2.1 + 3 ≤ s0 + 238 then gv (zN 3 z9) (fun z11 => if z9.1 = c0 + 3 ∧ c0 < z11.1 then gv (zR z11 c0 4) (fun z13 => if gk z13.1 = 24 ∧ gl z13.1 = 4 ∧ z13.1 + 1 ≤ n0 + 34 ∧ z13.2.1 + 4 ≤ s0 + 238 then gv (zN 4 z13) (fun z15 => if z13.1 = c0 + 4 ∧ c0 < z15.1 then gv (zR z15 c0 5) (fun z17 => if gk z17.1 = 25 ∧ gl z17.1 = 6 ∧ z17.1 + 1 ≤ n0 + 34 ∧ z17.2.1 + 6 ≤ s0 + 238 then gv (zN 6 z17) (fun z19 => if z17.1 = c0 + 5 ∧ c0 < z19.1 then gv (zR z19 c0 7) (fun z21 => if gk z21.1 = 26 ∧ gl z21.1 = 6 ∧ z21.1 + 1 ≤ n0 + 34 ∧ z21.2.1 + 6 ≤ s0 + 238 then gv (zN 6 z21) (fun z23 => if z21.1 = c0 + 6 ∧ c0 < z23.1 then gv (zR z23 c0 9) (fun z25 => L_X2_init_60 c0 n0 s0 gF (0 : Int32) z25) else none) else none) else none) else none) else none) else none) else none) else none) else none) else none) else none) else none) else none))
set_option maxRecDepth 100000 in
set_option maxHeartbeats 4000000 in
theorem l_X2_init_135 {p : Program} {l : Launch} {e : Env} {R : Room} {s : State} {m : MethodId} {args : Array Value} {below : List Frame} {meth : Method} {c : Code} {X : gX} (E : gEn p s m args c cX2_init RX2 X) (hr : meth.sig.returnType = none) (hlocks : meth.locks = false) (hml : c.maxLocals = 2) (hin2 : meth.name = "<init>") (hAO : gAO s) (hRf : 2 ≤ R.frames) (hRl : 50 ≤ R.locals) (hRc : 34 ≤ R.cells) (hRs : 238 ≤ R.slots) (c0 n0 s0 : Nat) (hk0 : gk c0 = 2) (hn0 : s.heap.size = X.1 + n0) {res : gZ} :
    ∀ (n : Nat) (y1 : Int32) (z : gZ) (cells slots : Nat) (H : Heap) (locs : List Loc) (ls : Array Slot), L_X2_init_135 c0 n0 s0 n y1 z = some res → gWz X z H → va_S (gA X) s.heap H locs → s.heap.size + cells = X.1 + z.1 → slots + s0 = z.2.1 → lv_has ls 2 [(0, .ref (X.1 + c0)), (1, .int y1)] → W p l e R s m args below meth c H locs cells slots (MQ below (gQz X res) args s 34 238 (gA X)) (F0 m 135 ls []) := by
  obtain ⟨hx, hb⟩ := (⟨E.1, E.2.1⟩ : _ ∧ _)
  intro n
  induction n with
  | zero =>
    intro _ _ _ _ _ _ _ hf
    cases hf
  | succ n ih =>
    intro y1 z cells slots H locs ls hf hM hS hcz hsl hl
    rw [L_X2_init_135] at hf
    refine lv_iload_n hx hb dX2_init_135 rfl (lv_at hl 1 rfl) ?_
    refine lv_bipush (v := (6 : Int32)) hx hb dX2_init_136 (by decide) ?_
    refine lv_icmp_ge (tgt := 160) hx hb dX2_init_138 (by decide) (fun h30 => ?_) (fun h30 => ?_)
    · have hf := g_t h30 hf
      obtain ⟨h31, hf⟩ := g_ck hf
      exact gy_v E hr hlocks hf hM hS hcz hn0 hsl h31 dX2_init_160
    · have hf := g_f h30 hf
      refine lv_aload_n hx hb dX2_init_141 rfl (lv_at hl 0 rfl) ?_
      obtain ⟨h32, hf⟩ := g_ck hf
      refine gz_getr 9 E gin_2 rfl rfl (by decide) (by decide) rfl (gEn_t E wf_RX2_39) hM h32.2 hk0 rfl h32.1 dX2_init_142 ?_
      have hg33 : gk (c0 + 6) = 26 := gkf_2_9 hk0
      refine lv_iload_n hx hb dX2_init_145 rfl (lv_at hl 1 rfl) ?_
      obtain ⟨h35, hf⟩ := g_ck hf
      obtain ⟨z34, ez34, hf⟩ := gv_o hf
      refine gy_new (N := 5) E gin_0 tyX0 tyX0_ok rfl rfl (by decide) wc_RX2_37 wi_0 wn_0 (by decide) hM hS hcz hn0 hsl h35.2.1 h35.2.2 hRc hRs ez34 h35.1 dX2_init_146 (fun cells slots H hM hS hcz hsl => ?_)
      refine lv_dup hx hb dX2_init_149 rfl ?_
      obtain ⟨z36, hqz36, hf⟩ := g3_o hf
      obtain ⟨h37, hf⟩ := g_ck hf
      refine gy_call (rm := { frames := 1, cells := 0, slots := 0, locals := 30 }) E hAO hml hl.1 (c_X0_init l X z.1 z34 h35.1 hqz36) wt_X0_init (Or.inr wl_RX2_45) hM hS hcz hn0 hsl ⟨h37.1, h37.2.1⟩ h37.2.2.1 h37.2.2.2 hRc hRs rfl rfl (Nat.le_trans (by decide) hRf) (Nat.le_trans (by decide) hRl) (Nat.le_of_ble_eq_true rfl) dX2_init_150 (fun cells slots H locs hM hS hcz hsl => ?_)
      obtain ⟨h38, hf⟩ := g_ck hf
      obtain ⟨z39, ez39, hf⟩ := gv_o hf
      refine gz_astq (k := 26) (ci := 0) E (by decide) rfl rfl (by decide) hM hS h38.2.1 hg33 h38.2.2.1 h35.1 h38.1 rfl h38.2.2.2 ez39 dX2_init_153 (fun H locs hM hS => ?_)
      have hcz := gcz hcz (show z39.1 = z36.1 by rw [ez39]; rfl)
      have hsl := hsl.trans (show z36.2.1 = z39.2.1 by rw [ez39]; rfl)
      obtain ⟨x40, ex40, hf⟩ := gv_o hf
      refine lv_iinc (v := x40) (lv' := [(1, .int x40), (0, .ref (X.1 + c0))]) hx hb dX2_init_154 hl (k := 1) rfl (by rw [ex40]; rfl) (by decide) rfl (fun ls hl => ?_)
      refine lv_goto (tgt := 135) hx hb dX2_init_157 (by decide) ?_
      exact ih x40 z39 _ _ _ _ _ hf hM hS hcz hsl (lv_sub hl [1, 0] rfl)
set_option maxRecDepth 100000 in
set_option maxHeartbeats 4000000 in
theorem l_X2_init_108 {p : Program} {l : Launch} {e : Env} {R : Room} {s : State} {m : MethodId} {args : Array Value} {below : List Frame} {meth : Method} {c : Code} {X : gX} (E : gEn p s m args c cX2_init RX2 X) (hr : meth.sig.returnType = none) (hlocks : meth.locks = false) (hml : c.maxLocals = 2) (hin2 : meth.name = "<init>") (hAO : gAO s) (hRf : 2 ≤ R.frames) (hRl : 50 ≤ R.locals) (hRc : 34 ≤ R.cells) (hRs : 238 ≤ R.slots) (c0 n0 s0 : Nat) (hk0 : gk c0 = 2) (hn0 : s.heap.size = X.1 + n0) {res : gZ} :
    ∀ (n : Nat) (y1 : Int32) (z : gZ) (cells slots : Nat) (H : Heap) (locs : List Loc) (ls : Array Slot), L_X2_init_108 c0 n0 s0 n y1 z = some res → gWz X z H → va_S (gA X) s.heap H locs → s.heap.size + cells = X.1 + z.1 → slots + s0 = z.2.1 → lv_has ls 2 [(0, .ref (X.1 + c0)), (1, .int y1)] → W p l e R s m args below meth c H locs cells slots (MQ below (gQz X res) args s 34 238 (gA X)) (F0 m 108 ls []) := by
  obtain ⟨hx, hb⟩ := (⟨E.1, E.2.1⟩ : _ ∧ _)
  intro n
  induction n with
  | zero =>
    intro _ _ _ _ _ _ _ hf
    cases hf
  | succ n ih =>
    intro y1 z cells slots H locs ls hf hM hS hcz hsl hl
    rw [L_X2_init_108] at hf
    refine lv_iload_n hx hb dX2_init_108 rfl (lv_at hl 1 rfl) ?_
    refine lv_bipush (v := (6 : Int32)) hx hb dX2_init_109 (by decide) ?_
    refine lv_icmp_ge (tgt := 133) hx hb dX2_init_111 (by decide) (fun h29 => ?_) (fun h29 => ?_)
    · have hf := g_t h29 hf
      refine lv_iconst (v := (0 : Int32)) hx hb dX2_init_133 (by decide) ?_
      refine lv_istore_n (lv' := [(1, .int (0 : Int32)), (0, .ref (X.1 + c0))]) hx hb dX2_init_134 rfl hl (by decide) rfl (fun ls hl => ?_)
      exact l_X2_init_135 E hr hlocks hml hin2 hAO hRf hRl hRc hRs c0 n0 s0 hk0 hn0 gF (0 : Int32) z _ _ _ _ _ hf hM hS hcz hsl (lv_sub hl [1, 0] rfl)
    · have hf := g_f h29 hf
      refine lv_aload_n hx hb dX2_init_114 rfl (lv_at hl 0 rfl) ?_
      obtain ⟨h41, hf⟩ := g_ck hf
      refine gz_getr 7 E gin_2 rfl rfl (by decide) (by decide) rfl (gEn_t E wf_RX2_33) hM h41.2 hk0 rfl h41.1 dX2_init_115 ?_
      have hg42 : gk (c0 + 5) = 25 := gkf_2_7 hk0
      refine lv_iload_n hx hb dX2_init_118 rfl (lv_at hl 1 rfl) ?_
      obtain ⟨h44, hf⟩ := g_ck hf
      obtain ⟨z43, ez43, hf⟩ := gv_o hf
      refine gy_new (N := 5) E gin_7 tyX7 tyX7_ok rfl rfl (by decide) wc_RX2_31 wi_7 wn_7 (by decide) hM hS hcz hn0 hsl h44.2.1 h44.2.2 hRc hRs ez43 h44.1 dX2_init_119 (fun cells slots H hM hS hcz hsl => ?_)
      refine lv_dup hx hb dX2_init_122 rfl ?_
      obtain ⟨z45, hqz45, hf⟩ := g3_o hf
      obtain ⟨h46, hf⟩ := g_ck hf
      refine gy_call (rm := { frames := 1, cells := 2, slots := 20, locals := 30 }) E hAO hml hl.1 (c_X7_init l X z.1 z43 h44.1 hqz45) wt_X7_init (Or.inr wl_RX2_44) hM hS hcz hn0 hsl ⟨h46.1, h46.2.1⟩ h46.2.2.1 h46.2.2.2 hRc hRs rfl rfl (Nat.le_trans (by decide) hRf) (Nat.le_trans (by decide) hRl) (Nat.le_of_ble_eq_true rfl) dX2_init_123 (fun cells slots H locs hM hS hcz hsl => ?_)
      obtain ⟨h47, hf⟩ := g_ck hf
      obtain ⟨z48, ez48, hf⟩ := gv_o hf
      refine gz_astq (k := 25) (ci := 7) E (by decide) rfl rfl (by decide) hM hS h47.2.1 hg42 h47.2.2.1 h44.1 h47.1 rfl h47.2.2.2 ez48 dX2_init_126 (fun H locs hM hS => ?_)
      have hcz := gcz hcz (show z48.1 = z45.1 by rw [ez48]; rfl)
      have hsl := hsl.trans (show z45.2.1 = z48.2.1 by rw [ez48]; rfl)
      obtain ⟨x49, ex49, hf⟩ := gv_o hf
      refine lv_iinc (v := x49) (lv' := [(1, .int x49), (0, .ref (X.1 + c0))]) hx hb dX2_init_127 hl (k := 1) rfl (by rw [ex49]; rfl) (by decide) rfl (fun ls hl => ?_)
      refine lv_goto (tgt := 108) hx hb dX2_init_130 (by decide) ?_
      exact ih x49 z48 _ _ _ _ _ hf hM hS hcz hsl (lv_sub hl [1, 0] rfl)
set_option maxRecDepth 100000 in
set_option maxHeartbeats 4000000 in
theorem l_X2_init_82 {p : Program} {l : Launch} {e : Env} {R : Room} {s : State} {m : MethodId} {args : Array Value} {below : List Frame} {meth : Method} {c : Code} {X : gX} (E : gEn p s m args c cX2_init RX2 X) (hr : meth.sig.returnType = none) (hlocks : meth.locks = false) (hml : c.maxLocals = 2) (hin2 : meth.name = "<init>") (hAO : gAO s) (hRf : 2 ≤ R.frames) (hRl : 50 ≤ R.locals) (hRc : 34 ≤ R.cells) (hRs : 238 ≤ R.slots) (c0 n0 s0 : Nat) (hk0 : gk c0 = 2) (hn0 : s.heap.size = X.1 + n0) {res : gZ} :
    ∀ (n : Nat) (y1 : Int32) (z : gZ) (cells slots : Nat) (H : Heap) (locs : List Loc) (ls : Array Slot), L_X2_init_82 c0 n0 s0 n y1 z = some res → gWz X z H → va_S (gA X) s.heap H locs → s.heap.size + cells = X.1 + z.1 → slots + s0 = z.2.1 → lv_has ls 2 [(0, .ref (X.1 + c0)), (1, .int y1)] → W p l e R s m args below meth c H locs cells slots (MQ below (gQz X res) args s 34 238 (gA X)) (F0 m 82 ls []) := by
  obtain ⟨hx, hb⟩ := (⟨E.1, E.2.1⟩ : _ ∧ _)
  intro n
  induction n with
  | zero =>
    intro _ _ _ _ _ _ _ hf
    cases hf
  | succ n ih =>
    intro y1 z cells slots H locs ls hf hM hS hcz hsl hl
    rw [L_X2_init_82] at hf
    refine lv_iload_n hx hb dX2_init_82 rfl (lv_at hl 1 rfl) ?_
    refine lv_iconst (v := (4 : Int32)) hx hb dX2_init_83 (by decide) ?_
    refine lv_icmp_ge (tgt := 106) hx hb dX2_init_84 (by decide) (fun h28 => ?_) (fun h28 => ?_)
    · have hf := g_t h28 hf
      refine lv_iconst (v := (0 : Int32)) hx hb dX2_init_106 (by decide) ?_
      refine lv_istore_n (lv' := [(1, .int (0 : Int32)), (0, .ref (X.1 + c0))]) hx hb dX2_init_107 rfl hl (by decide) rfl (fun ls hl => ?_)
      exact l_X2_init_108 E hr hlocks hml hin2 hAO hRf hRl hRc hRs c0 n0 s0 hk0 hn0 gF (0 : Int32) z _ _ _ _ _ hf hM hS hcz hsl (lv_sub hl [1, 0] rfl)
    · have hf := g_f h28 hf
      refine lv_aload_n hx hb dX2_init_87 rfl (lv_at hl 0 rfl) ?_
      obtain ⟨h50, hf⟩ := g_ck hf
      refine gz_getr 5 E gin_2 rfl rfl (by decide) (by decide) rfl (gEn_t E wf_RX2_27) hM h50.2 hk0 rfl h50.1 dX2_init_88 ?_
      have hg51 : gk (c0 + 4) = 24 := gkf_2_5 hk0
      refine lv_iload_n hx hb dX2_init_91 rfl (lv_at hl 1 rfl) ?_
      obtain ⟨h53, hf⟩ := g_ck hf
      obtain ⟨z52, ez52, hf⟩ := gv_o hf
      refine gy_new (N := 3) E gin_6 tyX6 tyX6_ok rfl rfl (by decide) wc_RX2_25 wi_6 wn_6 (by decide) hM hS hcz hn0 hsl h53.2.1 h53.2.2 hRc hRs ez52 h53.1 dX2_init_92 (fun cells slots H hM hS hcz hsl => ?_)
      refine lv_dup hx hb dX2_init_95 rfl ?_
      obtain ⟨z54, hqz54, hf⟩ := g3_o hf
      obtain ⟨h55, hf⟩ := g_ck hf
      refine gy_call (rm := { frames := 1, cells := 0, slots := 0, locals := 30 }) E hAO hml hl.1 (c_X6_init l X z.1 z52 h53.1 hqz54) wt_X6_init (Or.inr wl_RX2_43) hM hS hcz hn0 hsl ⟨h55.1, h55.2.1⟩ h55.2.2.1 h55.2.2.2 hRc hRs rfl rfl (Nat.le_trans (by decide) hRf) (Nat.le_trans (by decide) hRl) (Nat.le_of_ble_eq_true rfl) dX2_init_96 (fun cells slots H locs hM hS hcz hsl => ?_)
      obtain ⟨h56, hf⟩ := g_ck hf
      obtain ⟨z57, ez57, hf⟩ := gv_o hf
      refine gz_astq (k := 24) (ci := 6) E (by decide) rfl rfl (by decide) hM hS h56.2.1 hg51 h56.2.2.1 h53.1 h56.1 rfl h56.2.2.2 ez57 dX2_init_99 (fun H locs hM hS => ?_)
      have hcz := gcz hcz (show z57.1 = z54.1 by rw [ez57]; rfl)
      have hsl := hsl.trans (show z54.2.1 = z57.2.1 by rw [ez57]; rfl)
      obtain ⟨x58, ex58, hf⟩ := gv_o hf
      refine lv_iinc (v := x58) (lv' := [(1, .int x58), (0, .ref (X.1 + c0))]) hx hb dX2_init_100 hl (k := 1) rfl (by rw [ex58]; rfl) (by decide) rfl (fun ls hl => ?_)
      refine lv_goto (tgt := 82) hx hb dX2_init_103 (by decide) ?_
      exact ih x58 z57 _ _ _ _ _ hf hM hS hcz hsl (lv_sub hl [1, 0] rfl)
set_option maxRecDepth 100000 in
set_option maxHeartbeats 4000000 in
theorem l_X2_init_60 {p : Program} {l : Launch} {e : Env} {R : Room} {s : State} {m : MethodId} {args : Array Value} {below : List Frame} {meth : Method} {c : Code} {X : gX} (E : gEn p s m args c cX2_init RX2 X) (hr : meth.sig.returnType = none) (hlocks : meth.locks = false) (hml : c.maxLocals = 2) (hin2 : meth.name = "<init>") (hAO : gAO s) (hRf : 2 ≤ R.frames) (hRl : 50 ≤ R.locals) (hRc : 34 ≤ R.cells) (hRs : 238 ≤ R.slots) (c0 n0 s0 : Nat) (hk0 : gk c0 = 2) (hn0 : s.heap.size = X.1 + n0) {res : gZ} :
    ∀ (n : Nat) (y1 : Int32) (z : gZ) (cells slots : Nat) (H : Heap) (locs : List Loc) (ls : Array Slot), L_X2_init_60 c0 n0 s0 n y1 z = some res → gWz X z H → va_S (gA X) s.heap H locs → s.heap.size + cells = X.1 + z.1 → slots + s0 = z.2.1 → lv_has ls 2 [(0, .ref (X.1 + c0)), (1, .int y1)] → W p l e R s m args below meth c H locs cells slots (MQ below (gQz X res) args s 34 238 (gA X)) (F0 m 60 ls []) := by
  obtain ⟨hx, hb⟩ := (⟨E.1, E.2.1⟩ : _ ∧ _)
  intro n
  induction n with
  | zero =>
    intro _ _ _ _ _ _ _ hf
    cases hf
  | succ n ih =>
    intro y1 z cells slots H locs ls hf hM hS hcz hsl hl
    rw [L_X2_init_60] at hf
    refine lv_iload_n hx hb dX2_init_60 rfl (lv_at hl 1 rfl) ?_
    refine lv_bipush (v := (24 : Int32)) hx hb dX2_init_61 (by decide) ?_
    refine lv_icmp_ge (tgt := 80) hx hb dX2_init_63 (by decide) (fun h27 => ?_) (fun h27 => ?_)
    · have hf := g_t h27 hf
      refine lv_iconst (v := (0 : Int32)) hx hb dX2_init_80 (by decide) ?_
      refine lv_istore_n (lv' := [(1, .int (0 : Int32)), (0, .ref (X.1 + c0))]) hx hb dX2_init_81 rfl hl (by decide) rfl (fun ls hl => ?_)
      exact l_X2_init_82 E hr hlocks hml hin2 hAO hRf hRl hRc hRs c0 n0 s0 hk0 hn0 gF (0 : Int32) z _ _ _ _ _ hf hM hS hcz hsl (lv_sub hl [1, 0] rfl)
    · have hf := g_f h27 hf
      refine lv_aload_n hx hb dX2_init_66 rfl (lv_at hl 0 rfl) ?_
      obtain ⟨h59, hf⟩ := g_ck hf
      refine gz_getr 2 E gin_2 rfl rfl (by decide) (by decide) rfl (gEn_t E wf_RX2_15) hM h59.2 hk0 rfl h59.1 dX2_init_67 ?_
      have hg60 : gk (c0 + 1) = 20 := gkf_2_2 hk0
      refine lv_iload_n hx hb dX2_init_70 rfl (lv_at hl 1 rfl) ?_
      refine lv_bipush (v := (45 : Int32)) hx hb dX2_init_71 (by decide) ?_
      obtain ⟨h61, hf⟩ := g_ck hf
      obtain ⟨z62, ez62, hf⟩ := gv_o hf
      refine gz_iast E hM hS h61.2 hg60 h61.1 ez62 dX2_init_73 (fun H locs hM hS => ?_)
      have hcz := gcz hcz (show z62.1 = z.1 by rw [ez62]; rfl)
      have hsl := hsl.trans (show z.2.1 = z62.2.1 by rw [ez62]; rfl)
      obtain ⟨x63, ex63, hf⟩ := gv_o hf
      refine lv_iinc (v := x63) (lv' := [(1, .int x63), (0, .ref (X.1 + c0))]) hx hb dX2_init_74 hl (k := 1) rfl (by rw [ex63]; rfl) (by decide) rfl (fun ls hl => ?_)
      refine lv_goto (tgt := 60) hx hb dX2_init_77 (by decide) ?_
      exact ih x63 z62 _ _ _ _ _ hf hM hS hcz hsl (lv_sub hl [1, 0] rfl)
set_option maxRecDepth 100000 in
set_option maxHeartbeats 4000000 in
theorem b_X2_init {p : Program} {l : Launch} {e : Env} {R : Room} {s : State} {m : MethodId} {args : Array Value} {below : List Frame} {meth : Method} {c : Code} {H : Heap} {locs : List Loc} {ls : Array Slot} {X : gX} (E : gEn p s m args c cX2_init RX2 X) (hr : meth.sig.returnType = none) (hlocks : meth.locks = false) (hml : c.maxLocals = 2) (hin2 : meth.name = "<init>") (hAO : gAO s) (hRf : 2 ≤ R.frames) (hRl : 50 ≤ R.locals) (hRc : 34 ≤ R.cells) (hRs : 238 ≤ R.slots) {c0 : Nat} {z0 : gZ} {res : gZ} (hk0 : gk c0 = 2) (hf : f_X2_init c0 z0 = some res) (hM : gWz X z0 H) (hS : va_S (gA X) s.heap H locs) (hcz : s.heap.size = X.1 + z0.1) (hl : lv_has ls 2 [(0, .ref (X.1 + c0))]) : W p l e R s m args below meth c H locs 0 0 (MQ below (gQz X res) args s 34 238 (gA X)) (F0 m 0 ls []) := by
  obtain ⟨hx, hb⟩ := (⟨E.1, E.2.1⟩ : _ ∧ _)
  unfold f_X2_init at hf
  obtain ⟨n0, en0, hf⟩ := gv_o hf
  obtain ⟨s0, es0, hf⟩ := gv_o hf
  have hn0 : s.heap.size = X.1 + n0 := by rw [en0]; exact hcz
  have hcz : s.heap.size + 0 = X.1 + z0.1 := hcz
  have hsl : 0 + s0 = z0.2.1 := by rw [es0]; exact Nat.zero_add _
  refine lv_aload_n hx hb dX2_init_0 rfl (lv_at hl 0 rfl) ?_
  refine gz_obj E (hl.1.trans hml.symm) wo_RX2_3 wo_i wo_c dX2_init_1 (Nat.le_trans (by decide) hRf) (Nat.le_trans (by decide) hRl) ?_
  refine lv_aload_n hx hb dX2_init_4 rfl (lv_at hl 0 rfl) ?_
  refine lv_bipush (v := (100 : Int32)) hx hb dX2_init_5 (by decide) ?_
  obtain ⟨h2, hf⟩ := g_ck hf
  obtain ⟨z1, ez1, hf⟩ := gv_o hf
  refine gz_puti 1 E gin_2 tyX2 tyX2_ok nmX2 rfl rfl (by decide) (by decide) rfl (gEn_t E wf_RX2_9) rfl (tyX2_ok 1 (by decide)) rfl hM hS h2 hk0 ez1 dX2_init_7 (fun H locs hM hS => ?_)
  have hcz := gcz hcz (show z1.1 = z0.1 by rw [ez1]; rfl)
  have hsl := hsl.trans (show z0.2.1 = z1.2.1 by rw [ez1]; rfl)
  refine lv_aload_n hx hb dX2_init_10 rfl (lv_at hl 0 rfl) ?_
  refine lv_bipush (v := (24 : Int32)) hx hb dX2_init_11 (by decide) ?_
  obtain ⟨h4, hf⟩ := g_ck hf
  obtain ⟨z3, ez3, hf⟩ := gv_o hf
  refine gy_arr (k := 20) (N := 24) E (Or.inl ⟨rfl, rfl⟩) wa_int hM hS hcz hn0 hsl h4.2.2.1 h4.2.2.2 hRc hRs ez3 h4.1 h4.2.1 (by decide) (by decide) (Nat.le_of_ble_eq_true rfl) dX2_init_13 (fun cells slots H hM hS hcz hsl => ?_)
  obtain ⟨h6, hf⟩ := g_ck hf
  obtain ⟨z5, ez5, hf⟩ := gv_o hf
  refine gz_putr 2 E hin2 gin_2 tyX2 tyX2_ok nmX2 rfl rfl (by decide) (by decide) rfl rfl (gEn_t E wf_RX2_15) rfl (tyX2_ok 2 (by decide)) rfl rfl rfl h6.1 hM hS h6.2 hk0 ez5 dX2_init_15 (fun H locs hM hS => ?_)
  have hcz := gcz hcz (show z5.1 = z3.1 by rw [ez5]; rfl)
  have hsl := hsl.trans (show z3.2.1 = z5.2.1 by rw [ez5]; rfl)
  refine lv_aload_n hx hb dX2_init_18 rfl (lv_at hl 0 rfl) ?_
  refine lv_iconst (v := (3 : Int32)) hx hb dX2_init_19 (by decide) ?_
  obtain ⟨h8, hf⟩ := g_ck hf
  obtain ⟨z7, ez7, hf⟩ := gv_o hf
  refine gy_arr (k := 20) (N := 3) E (Or.inl ⟨rfl, rfl⟩) wa_int hM hS hcz hn0 hsl h8.2.2.1 h8.2.2.2 hRc hRs ez7 h8.1 h8.2.1 (by decide) (by decide) (Nat.le_of_ble_eq_true rfl) dX2_init_20 (fun cells slots H hM hS hcz hsl => ?_)
  obtain ⟨h10, hf⟩ := g_ck hf
  obtain ⟨z9, ez9, hf⟩ := gv_o hf
  refine gz_putr 3 E hin2 gin_2 tyX2 tyX2_ok nmX2 rfl rfl (by decide) (by decide) rfl rfl (gEn_t E wf_RX2_19) rfl (tyX2_ok 3 (by decide)) rfl rfl rfl h10.1 hM hS h10.2 hk0 ez9 dX2_init_22 (fun H locs hM hS => ?_)
  have hcz := gcz hcz (show z9.1 = z7.1 by rw [ez9]; rfl)
  have hsl := hsl.trans (show z7.2.1 = z9.2.1 by rw [ez9]; rfl)
  refine lv_aload_n hx hb dX2_init_25 rfl (lv_at hl 0 rfl) ?_
  refine lv_iconst (v := (3 : Int32)) hx hb dX2_init_26 (by decide) ?_
  obtain ⟨h12, hf⟩ := g_ck hf
  obtain ⟨z11, ez11, hf⟩ := gv_o hf
  refine gy_arr (k := 20) (N := 3) E (Or.inl ⟨rfl, rfl⟩) wa_int hM hS hcz hn0 hsl h12.2.2.1 h12.2.2.2 hRc hRs ez11 h12.1 h12.2.1 (by decide) (by decide) (Nat.le_of_ble_eq_true rfl) dX2_init_27 (fun cells slots H hM hS hcz hsl => ?_)
  obtain ⟨h14, hf⟩ := g_ck hf
  obtain ⟨z13, ez13, hf⟩ := gv_o hf
  refine gz_putr 4 E hin2 gin_2 tyX2 tyX2_ok nmX2 rfl rfl (by decide) (by decide) rfl rfl (gEn_t E wf_RX2_22) rfl (tyX2_ok 4 (by decide)) rfl rfl rfl h14.1 hM hS h14.2 hk0 ez13 dX2_init_29 (fun H locs hM hS => ?_)
  have hcz := gcz hcz (show z13.1 = z11.1 by rw [ez13]; rfl)
  have hsl := hsl.trans (show z11.2.1 = z13.2.1 by rw [ez13]; rfl)
  refine lv_aload_n hx hb dX2_init_32 rfl (lv_at hl 0 rfl) ?_
  refine lv_iconst (v := (4 : Int32)) hx hb dX2_init_33 (by decide) ?_
  obtain ⟨h16, hf⟩ := g_ck hf
  obtain ⟨z15, ez15, hf⟩ := gv_o hf
  refine gy_arrq (C := RX6) (k := 24) (N := 4) E hAO (by decide) (by decide) (by decide) rfl wc_RX2_25 hM hS hcz hn0 hsl h16.2.2.1 h16.2.2.2 hRc hRs ez15 h16.1 h16.2.1 (by decide) (by decide) (Nat.le_of_ble_eq_true rfl) dX2_init_34 (fun cells slots H hM hS hcz hsl => ?_)
  obtain ⟨h18, hf⟩ := g_ck hf
  obtain ⟨z17, ez17, hf⟩ := gv_o hf
  refine gz_putr 5 E hin2 gin_2 tyX2 tyX2_ok nmX2 rfl rfl (by decide) (by decide) rfl rfl (gEn_t E wf_RX2_27) rfl (tyX2_ok 5 (by decide)) rfl rfl rfl h18.1 hM hS h18.2 hk0 ez17 dX2_init_37 (fun H locs hM hS => ?_)
  have hcz := gcz hcz (show z17.1 = z15.1 by rw [ez17]; rfl)
  have hsl := hsl.trans (show z15.2.1 = z17.2.1 by rw [ez17]; rfl)
  refine lv_aload_n hx hb dX2_init_40 rfl (lv_at hl 0 rfl) ?_
  refine lv_bipush (v := (6 : Int32)) hx hb dX2_init_41 (by decide) ?_
  obtain ⟨h20, hf⟩ := g_ck hf
  obtain ⟨z19, ez19, hf⟩ := gv_o hf
  refine gy_arrq (C := RX7) (k := 25) (N := 6) E hAO (by decide) (by decide) (by decide) rfl wc_RX2_31 hM hS hcz hn0 hsl h20.2.2.1 h20.2.2.2 hRc hRs ez19 h20.1 h20.2.1 (by decide) (by decide) (Nat.le_of_ble_eq_true rfl) dX2_init_43 (fun cells slots H hM hS hcz hsl => ?_)
  obtain ⟨h22, hf⟩ := g_ck hf
  obtain ⟨z21, ez21, hf⟩ := gv_o hf
  refine gz_putr 7 E hin2 gin_2 tyX2 tyX2_ok nmX2 rfl rfl (by decide) (by decide) rfl rfl (gEn_t E wf_RX2_33) rfl (tyX2_ok 7 (by decide)) rfl rfl rfl h22.1 hM hS h22.2 hk0 ez21 dX2_init_46 (fun H locs hM hS => ?_)
  have hcz := gcz hcz (show z21.1 = z19.1 by rw [ez21]; rfl)
  have hsl := hsl.trans (show z19.2.1 = z21.2.1 by rw [ez21]; rfl)
  refine lv_aload_n hx hb dX2_init_49 rfl (lv_at hl 0 rfl) ?_
  refine lv_bipush (v := (6 : Int32)) hx hb dX2_init_50 (by decide) ?_
  obtain ⟨h24, hf⟩ := g_ck hf
  obtain ⟨z23, ez23, hf⟩ := gv_o hf
  refine gy_arrq (C := RX0) (k := 26) (N := 6) E hAO (by decide) (by decide) (by decide) rfl wc_RX2_37 hM hS hcz hn0 hsl h24.2.2.1 h24.2.2.2 hRc hRs ez23 h24.1 h24.2.1 (by decide) (by decide) (Nat.le_of_ble_eq_true rfl) dX2_init_52 (fun cells slots H hM hS hcz hsl => ?_)
  obtain ⟨h26, hf⟩ := g_ck hf
  obtain ⟨z25, ez25, hf⟩ := gv_o hf
  refine gz_putr 9 E hin2 gin_2 tyX2 tyX2_ok nmX2 rfl rfl (by decide) (by decide) rfl rfl (gEn_t E wf_RX2_39) rfl (tyX2_ok 9 (by decide)) rfl rfl rfl h26.1 hM hS h26.2 hk0 ez25 dX2_init_55 (fun H locs hM hS => ?_)
  have hcz := gcz hcz (show z25.1 = z23.1 by rw [ez25]; rfl)
  have hsl := hsl.trans (show z23.2.1 = z25.2.1 by rw [ez25]; rfl)
  refine lv_iconst (v := (0 : Int32)) hx hb dX2_init_58 (by decide) ?_
  refine lv_istore_n (lv' := [(1, .int (0 : Int32)), (0, .ref (X.1 + c0))]) hx hb dX2_init_59 rfl hl (by decide) rfl (fun ls hl => ?_)
  exact l_X2_init_60 E hr hlocks hml hin2 hAO hRf hRl hRc hRs c0 n0 s0 hk0 hn0 gF (0 : Int32) z25 _ _ _ _ _ hf hM hS hcz hsl (lv_sub hl [1, 0] rfl)
theorem c_X2_init (l : Launch) (X : gX) (c0 : Nat) (z0 : gZ) {res : gZ} (hk0 : gk c0 = 2) (hf : f_X2_init c0 z0 = some res) : Met l yX2_init (gWs yX2_init cX2_init 2 none) { frames := 2, cells := 34, slots := 238, locals := 50 } (va_Pc [.ref (X.1 + c0)] (gBz X z0)) (gQz X res) 34 238 (gA X) :=
  gMetC (own := RX2) (by decide +kernel) rfl rfl (Nat.le_of_ble_eq_true rfl) (fun p e s m args below meth c ls E hr hlocks hml hin2 hAO hM hz hl => b_X2_init E hr hlocks hml hin2 hAO (Nat.le_refl _) (Nat.le_refl _) (Nat.le_refl _) (Nat.le_refl _) hk0 hf hM va_S.rf hz hl)
def L_X1_init_15 (c0 n0 s0 : Nat) : Nat → Int32 → gZ → Option gZ
  | 0, _, _ => none
  | n + 1, y1, z => if (8 : Int32) ≤ y1 then (if z.1 ≤ n0 + 281 ∧ z.2.1 ≤ s0 + 2048 then some z else none) else (if z.2.2.1 c0 0 = true ∧ c0 < z.1 then if gk z.1 = 2 ∧ z.1 + 1 ≤ n0 + 281 ∧ z.2.1 + 17 ≤ s0 + 2048 then gv (zN 17 z) (fun z9 => g3 (f_X2_init z.1 z9) (fun z11 => if z11.1 = z9.1 + 34 ∧ z11.2.1 = z9.2.1 + 238 ∧ z11.1 ≤ n0 + 281 ∧ z11.2.1 ≤ s0 + 2048 then if ¬ (y1 < 0 ∨ gl (c0 + 1) ≤ y1.toNatClampNeg) ∧ (c0 + 1) < z11.1 ∧ z.1 < z11.1 ∧ z.1 = (c0 + 1) + (1 + 35 * y1.toNatClampNeg) then gv (zR z11 (c0 + 1) y1.toNatClampNeg) (fun z14 => gv (y1 + (1 : Int32)) (fun x15 => L_X1_init_15 c0 n0 s0 n x15 z14)) else none else none)) else none else none)
def f_X1_init (c0 : Nat) (z0 : gZ) : Option gZ := gv z0.1 (fun n0 => gv z0.2.1 (fun s0 => if gk z0.1 = 27 ∧ gl z0.1 = 8 ∧ z0.1 + 1 ≤ n0 + 281 ∧ z0.2.1 + 8 ≤ s0 + 2048 then gv (zN 8 z0) (fun z1 => if z0.1 = c0 + 1 ∧ c0 < z1.1 then gv (zR z1 c0 0) (fun z3 => L_X1_init_15 c0 n0 s0 gF (0 : Int32) z3) else none) else none))
set_option maxRecDepth 100000 in
set_option maxHeartbeats 4000000 in
theorem l_X1_init_15 {p : Program} {l : Launch} {e : Env} {R : Room} {s : State} {m : MethodId} {args : Array Value} {below : List Frame} {meth : Method} {c : Code} {X : gX} (E : gEn p s m args c cX1_init RX1 X) (hr : meth.sig.returnType = none) (hlocks : meth.locks = false) (hml : c.maxLocals = 2) (hin2 : meth.name = "<init>") (hAO : gAO s) (hRf : 3 ≤ R.frames) (hRl : 71 ≤ R.locals) (hRc : 281 ≤ R.cells) (hRs : 2048 ≤ R.slots) (c0 n0 s0 : Nat) (hk0 : gk c0 = 1) (hn0 : s.heap.size = X.1 + n0) {res : gZ} :
    ∀ (n : Nat) (y1 : Int32) (z : gZ) (cells slots : Nat) (H : Heap) (locs : List Loc) (ls : Array Slot), L_X1_init_15 c0 n0 s0 n y1 z = some res → gWz X z H → va_S (gA X) s.heap H locs → s.heap.size + cells = X.1 + z.1 → slots + s0 = z.2.1 → lv_has ls 2 [(0, .ref (X.1 + c0)), (1, .int y1)] → W p l e R s m args below meth c H locs cells slots (MQ below (gQz X res) args s 281 2048 (gA X)) (F0 m 15 ls []) := by
  obtain ⟨hx, hb⟩ := (⟨E.1, E.2.1⟩ : _ ∧ _)
  intro n
  induction n with
  | zero =>
    intro _ _ _ _ _ _ _ hf
    cases hf
  | succ n ih =>
    intro y1 z cells slots H locs ls hf hM hS hcz hsl hl
    rw [L_X1_init_15] at hf
    refine lv_iload_n hx hb dX1_init_15 rfl (lv_at hl 1 rfl) ?_
    refine lv_bipush (v := (8 : Int32)) hx hb dX1_init_16 (by decide) ?_
    refine lv_icmp_ge (tgt := 40) hx hb dX1_init_18 (by decide) (fun h5 => ?_) (fun h5 => ?_)
    · have hf := g_t h5 hf
      obtain ⟨h6, hf⟩ := g_ck hf
      exact gy_v E hr hlocks hf hM hS hcz hn0 hsl h6 dX1_init_40
    · have hf := g_f h5 hf
      refine lv_aload_n hx hb dX1_init_21 rfl (lv_at hl 0 rfl) ?_
      obtain ⟨h7, hf⟩ := g_ck hf
      refine gz_getr 0 E gin_1 rfl rfl (by decide) (by decide) rfl (gEn_t E wf_RX1_11) hM h7.2 hk0 rfl h7.1 dX1_init_22 ?_
      have hg8 : gk (c0 + 1) = 27 := gkf_1_0 hk0
      refine lv_iload_n hx hb dX1_init_25 rfl (lv_at hl 1 rfl) ?_
      obtain ⟨h10, hf⟩ := g_ck hf
      obtain ⟨z9, ez9, hf⟩ := gv_o hf
      refine gy_new (N := 17) E gin_2 tyX2 tyX2_ok rfl rfl (by decide) wc_RX1_9 wi_2 wn_2 (by decide) hM hS hcz hn0 hsl h10.2.1 h10.2.2 hRc hRs ez9 h10.1 dX1_init_26 (fun cells slots H hM hS hcz hsl => ?_)
      refine lv_dup hx hb dX1_init_29 rfl ?_
      obtain ⟨z11, hqz11, hf⟩ := g3_o hf
      obtain ⟨h12, hf⟩ := g_ck hf
      refine gy_call (rm := { frames := 2, cells := 34, slots := 238, locals := 50 }) E hAO hml hl.1 (c_X2_init l X z.1 z9 h10.1 hqz11) wt_X2_init (Or.inl wl_RX1_17) hM hS hcz hn0 hsl ⟨h12.1, h12.2.1⟩ h12.2.2.1 h12.2.2.2 hRc hRs rfl rfl (Nat.le_trans (by decide) hRf) (Nat.le_trans (by decide) hRl) (Nat.le_of_ble_eq_true rfl) dX1_init_30 (fun cells slots H locs hM hS hcz hsl => ?_)
      obtain ⟨h13, hf⟩ := g_ck hf
      obtain ⟨z14, ez14, hf⟩ := gv_o hf
      refine gz_astq (k := 27) (ci := 2) E (by decide) rfl rfl (by decide) hM hS h13.2.1 hg8 h13.2.2.1 h10.1 h13.1 rfl h13.2.2.2 ez14 dX1_init_33 (fun H locs hM hS => ?_)
      have hcz := gcz hcz (show z14.1 = z11.1 by rw [ez14]; rfl)
      have hsl := hsl.trans (show z11.2.1 = z14.2.1 by rw [ez14]; rfl)
      obtain ⟨x15, ex15, hf⟩ := gv_o hf
      refine lv_iinc (v := x15) (lv' := [(1, .int x15), (0, .ref (X.1 + c0))]) hx hb dX1_init_34 hl (k := 1) rfl (by rw [ex15]; rfl) (by decide) rfl (fun ls hl => ?_)
      refine lv_goto (tgt := 15) hx hb dX1_init_37 (by decide) ?_
      exact ih x15 z14 _ _ _ _ _ hf hM hS hcz hsl (lv_sub hl [1, 0] rfl)
set_option maxRecDepth 100000 in
set_option maxHeartbeats 4000000 in
theorem b_X1_init {p : Program} {l : Launch} {e : Env} {R : Room} {s : State} {m : MethodId} {args : Array Value} {below : List Frame} {meth : Method} {c : Code} {H : Heap} {locs : List Loc} {ls : Array Slot} {X : gX} (E : gEn p s m args c cX1_init RX1 X) (hr : meth.sig.returnType = none) (hlocks : meth.locks = false) (hml : c.maxLocals = 2) (hin2 : meth.name = "<init>") (hAO : gAO s) (hRf : 3 ≤ R.frames) (hRl : 71 ≤ R.locals) (hRc : 281 ≤ R.cells) (hRs : 2048 ≤ R.slots) {c0 : Nat} {z0 : gZ} {res : gZ} (hk0 : gk c0 = 1) (hf : f_X1_init c0 z0 = some res) (hM : gWz X z0 H) (hS : va_S (gA X) s.heap H locs) (hcz : s.heap.size = X.1 + z0.1) (hl : lv_has ls 2 [(0, .ref (X.1 + c0))]) : W p l e R s m args below meth c H locs 0 0 (MQ below (gQz X res) args s 281 2048 (gA X)) (F0 m 0 ls []) := by
  obtain ⟨hx, hb⟩ := (⟨E.1, E.2.1⟩ : _ ∧ _)
  unfold f_X1_init at hf
  obtain ⟨n0, en0, hf⟩ := gv_o hf
  obtain ⟨s0, es0, hf⟩ := gv_o hf
  have hn0 : s.heap.size = X.1 + n0 := by rw [en0]; exact hcz
  have hcz : s.heap.size + 0 = X.1 + z0.1 := hcz
  have hsl : 0 + s0 = z0.2.1 := by rw [es0]; exact Nat.zero_add _
  refine lv_aload_n hx hb dX1_init_0 rfl (lv_at hl 0 rfl) ?_
  refine gz_obj E (hl.1.trans hml.symm) wo_RX1_3 wo_i wo_c dX1_init_1 (Nat.le_trans (by decide) hRf) (Nat.le_trans (by decide) hRl) ?_
  refine lv_aload_n hx hb dX1_init_4 rfl (lv_at hl 0 rfl) ?_
  refine lv_bipush (v := (8 : Int32)) hx hb dX1_init_5 (by decide) ?_
  obtain ⟨h2, hf⟩ := g_ck hf
  obtain ⟨z1, ez1, hf⟩ := gv_o hf
  refine gy_arrq (C := RX2) (k := 27) (N := 8) E hAO (by decide) (by decide) (by decide) rfl wc_RX1_9 hM hS hcz hn0 hsl h2.2.2.1 h2.2.2.2 hRc hRs ez1 h2.1 h2.2.1 (by decide) (by decide) (Nat.le_of_ble_eq_true rfl) dX1_init_7 (fun cells slots H hM hS hcz hsl => ?_)
  obtain ⟨h4, hf⟩ := g_ck hf
  obtain ⟨z3, ez3, hf⟩ := gv_o hf
  refine gz_putr 0 E hin2 gin_1 tyX1 tyX1_ok nmX1 rfl rfl (by decide) (by decide) rfl rfl (gEn_t E wf_RX1_11) rfl (tyX1_ok 0 (by decide)) rfl rfl rfl h4.1 hM hS h4.2 hk0 ez3 dX1_init_10 (fun H locs hM hS => ?_)
  have hcz := gcz hcz (show z3.1 = z1.1 by rw [ez3]; rfl)
  have hsl := hsl.trans (show z1.2.1 = z3.2.1 by rw [ez3]; rfl)
  refine lv_iconst (v := (0 : Int32)) hx hb dX1_init_13 (by decide) ?_
  refine lv_istore_n (lv' := [(1, .int (0 : Int32)), (0, .ref (X.1 + c0))]) hx hb dX1_init_14 rfl hl (by decide) rfl (fun ls hl => ?_)
  exact l_X1_init_15 E hr hlocks hml hin2 hAO hRf hRl hRc hRs c0 n0 s0 hk0 hn0 gF (0 : Int32) z3 _ _ _ _ _ hf hM hS hcz hsl (lv_sub hl [1, 0] rfl)
theorem c_X1_init (l : Launch) (X : gX) (c0 : Nat) (z0 : gZ) {res : gZ} (hk0 : gk c0 = 1) (hf : f_X1_init c0 z0 = some res) : Met l yX1_init (gWs yX1_init cX1_init 2 none) { frames := 3, cells := 281, slots := 2048, locals := 71 } (va_Pc [.ref (X.1 + c0)] (gBz X z0)) (gQz X res) 281 2048 (gA X) :=
  gMetC (own := RX1) (by decide +kernel) rfl rfl (Nat.le_of_ble_eq_true rfl) (fun p e s m args below meth c ls E hr hlocks hml hin2 hAO hM hz hl => b_X1_init E hr hlocks hml hin2 hAO (Nat.le_refl _) (Nat.le_refl _) (Nat.le_refl _) (Nat.le_refl _) hk0 hf hM va_S.rf hz hl)
def f_X8_init (c0 : Nat) (z0 : gZ) : Option gZ := gv z0.1 (fun n0 => gv z0.2.1 (fun s0 => if gk z0.1 = 2 ∧ z0.1 + 1 ≤ n0 + 432 ∧ z0.2.1 + 17 ≤ s0 + 3025 then gv (zN 17 z0) (fun z1 => g3 (f_X2_init z0.1 z1) (fun z3 => if z3.1 = z1.1 + 34 ∧ z3.2.1 = z1.2.1 + 238 ∧ z3.1 ≤ n0 + 432 ∧ z3.2.1 ≤ s0 + 3025 then if z0.1 = c0 + 1 ∧ c0 < z3.1 then gv (zR z3 c0 0) (fun z5 => if gk z5.1 = 2 ∧ z5.1 + 1 ≤ n0 + 432 ∧ z5.2.1 + 17 ≤ s0 + 3025 then gv (zN 17 z5) (fun z7 => g3 (f_X2_init z5.1 z7) (fun z9 => if z9.1 = z7.1 + 34 ∧ z9.2.1 = z7.2.1 + 238 ∧ z9.1 ≤ n0 + 432 ∧ z9.2.1 ≤ s0 + 3025 then if z5.1 = c0 + 36 ∧ c0 < z9.1 then gv (zR z9 c0 1) (fun z11 => if gk z11.1 = 2 ∧ z11.1 + 1 ≤ n0 + 432 ∧ z11.2.1 + 17 ≤ s0 + 3025 then gv (zN 17 z11) (fun z13 => g3 (f_X2_init z11.1 z13) (fun z15 => if z15.1 = z13.1 + 34 ∧ z15.2.1 = z13.2.1 + 238 ∧ z15.1 ≤ n0 + 432 ∧ z15.2.1 ≤ s0 + 3025 then if z11.1 = c0 + 71 ∧ c0 < z15.1 then gv (zR z15 c0 2) (fun z17 => if gk z17.1 = 1 ∧ z17.1 + 1 ≤ n0 + 432 ∧ z17.2.1 + 3 ≤ s0 + 3025 then gv (zN 3 z17) (fun z19 => g3 (f_X1_init z17.1 z19) (fun z21 => if z21.1 = z19.1 + 281 ∧ z21.2.1 = z19.2.1 + 2048 ∧ z21.1 ≤ n0 + 432 ∧ z21.2.1 ≤ s0 + 3025 then if z17.1 = c0 + 106 ∧ c0 < z21.1 then gv (zR z21 c0 4) (fun z23 => if gk z23.1 = 5 ∧ z23.1 + 1 ≤ n0 + 432 ∧ z23.2.1 + 5 ≤ s0 + 3025 then gv (zN 5 z23) (fun z25 => g3 (f_X5_init z23.1 z25) (fun z27 => if z27.1 = z25.1 + 42 ∧ z27.2.1 = z25.2.1 + 200 ∧ z27.1 ≤ n0 + 432 ∧ z27.2.1 ≤ s0 + 3025 then if z23.1 = c0 + 388 ∧ c0 < z27.1 then gv (zR z27 c0 5) (fun z29 => if c0 < z29.1 then gv (zI z29 c0 6 (-1 : Int32)) (fun z31 => if gk z31.1 = 4 ∧ z31.1 + 1 ≤ n0 + 432 ∧ z31.2.1 + 2 ≤ s0 + 3025 then gv (zN 2 z31) (fun z33 => g3 (f_X4_init z31.1 z33) (fun z35 => if z35.1 = z33.1 + 0 ∧ z35.2.1 = z33.2.1 + 0 ∧ z35.1 ≤ n0 + 432 ∧ z35.2.1 ≤ s0 + 3025 then if z31.1 = c0 + 431 ∧ c0 < z35.1 then gv (zR z35 c0 7) (fun z37 => if gk z37.1 = 4 ∧ z37.1 + 1 ≤ n0 + 432 ∧ z37.2.1 + 2 ≤ s0 + 3025 then gv (zN 2 z37) (fun z39 => g3 (f_X4_init z37.1 z39) (fun z41 => if z41.1 = z39.1 + 0 ∧ z41.2.1 = z39.2.1 + 0 ∧ z41.1 ≤ n0 + 432 ∧ z41.2.1 ≤ s0 + 3025 then if z37.1 = c0 + 432 ∧ c0 < z41.1 then gv (zR z41 c0 8) (fun z43 => if z43.1 ≤ n0 + 432 ∧ z43.2.1 ≤ s0 + 3025 then some z43 else none) else none else none)) else none) else none else none)) else none) else none) else none else none)) else none) else none else none)) else none) else none else none)) else none) else none else none)) else none) else none else none)) else none))
set_option maxRecDepth 100000 in
set_option maxHeartbeats 4000000 in
theorem b_X8_init {p : Program} {l : Launch} {e : Env} {R : Room} {s : State} {m : MethodId} {args : Array Value} {below : List Frame} {meth : Method} {c : Code} {H : Heap} {locs : List Loc} {ls : Array Slot} {X : gX} (E : gEn p s m args c cX8_init RX8 X) (hr : meth.sig.returnType = none) (hlocks : meth.locks = false) (hml : c.maxLocals = 1) (hin2 : meth.name = "<init>") (hAO : gAO s) (hRf : 4 ≤ R.frames) (hRl : 92 ≤ R.locals) (hRc : 432 ≤ R.cells) (hRs : 3025 ≤ R.slots) {c0 : Nat} {z0 : gZ} {res : gZ} (hk0 : gk c0 = 8) (hf : f_X8_init c0 z0 = some res) (hM : gWz X z0 H) (hS : va_S (gA X) s.heap H locs) (hcz : s.heap.size = X.1 + z0.1) (hl : lv_has ls 1 [(0, .ref (X.1 + c0))]) : W p l e R s m args below meth c H locs 0 0 (MQ below (gQz X res) args s 432 3025 (gA X)) (F0 m 0 ls []) := by
  obtain ⟨hx, hb⟩ := (⟨E.1, E.2.1⟩ : _ ∧ _)
  unfold f_X8_init at hf
  obtain ⟨n0, en0, hf⟩ := gv_o hf
  obtain ⟨s0, es0, hf⟩ := gv_o hf
  have hn0 : s.heap.size = X.1 + n0 := by rw [en0]; exact hcz
  have hcz : s.heap.size + 0 = X.1 + z0.1 := hcz
  have hsl : 0 + s0 = z0.2.1 := by rw [es0]; exact Nat.zero_add _
  refine lv_aload_n hx hb dX8_init_0 rfl (lv_at hl 0 rfl) ?_
  refine gz_obj E (hl.1.trans hml.symm) wo_RX8_1 wo_i wo_c dX8_init_1 (Nat.le_trans (by decide) hRf) (Nat.le_trans (by decide) hRl) ?_
  refine lv_aload_n hx hb dX8_init_4 rfl (lv_at hl 0 rfl) ?_
  obtain ⟨h2, hf⟩ := g_ck hf
  obtain ⟨z1, ez1, hf⟩ := gv_o hf
  refine gy_new (N := 17) E gin_2 tyX2 tyX2_ok rfl rfl (by decide) wc_RX8_7 wi_2 wn_2 (by decide) hM hS hcz hn0 hsl h2.2.1 h2.2.2 hRc hRs ez1 h2.1 dX8_init_5 (fun cells slots H hM hS hcz hsl => ?_)
  refine lv_dup hx hb dX8_init_8 rfl ?_
  obtain ⟨z3, hqz3, hf⟩ := g3_o hf
  obtain ⟨h4, hf⟩ := g_ck hf
  refine gy_call (rm := { frames := 2, cells := 34, slots := 238, locals := 50 }) E hAO hml hl.1 (c_X2_init l X z0.1 z1 h2.1 hqz3) wt_X2_init (Or.inl wl_RX8_9) hM hS hcz hn0 hsl ⟨h4.1, h4.2.1⟩ h4.2.2.1 h4.2.2.2 hRc hRs rfl rfl (Nat.le_trans (by decide) hRf) (Nat.le_trans (by decide) hRl) (Nat.le_of_ble_eq_true rfl) dX8_init_9 (fun cells slots H locs hM hS hcz hsl => ?_)
  obtain ⟨h6, hf⟩ := g_ck hf
  obtain ⟨z5, ez5, hf⟩ := gv_o hf
  refine gz_putr 0 E hin2 gin_8 tyX8 tyX8_ok nmX8 rfl rfl (by decide) (by decide) rfl rfl (gEn_t E wf_RX8_10) rfl (tyX8_ok 0 (by decide)) rfl rfl rfl h6.1 hM hS h6.2 hk0 ez5 dX8_init_12 (fun H locs hM hS => ?_)
  have hcz := gcz hcz (show z5.1 = z3.1 by rw [ez5]; rfl)
  have hsl := hsl.trans (show z3.2.1 = z5.2.1 by rw [ez5]; rfl)
  refine lv_aload_n hx hb dX8_init_15 rfl (lv_at hl 0 rfl) ?_
  obtain ⟨h8, hf⟩ := g_ck hf
  obtain ⟨z7, ez7, hf⟩ := gv_o hf
  refine gy_new (N := 17) E gin_2 tyX2 tyX2_ok rfl rfl (by decide) wc_RX8_7 wi_2 wn_2 (by decide) hM hS hcz hn0 hsl h8.2.1 h8.2.2 hRc hRs ez7 h8.1 dX8_init_16 (fun cells slots H hM hS hcz hsl => ?_)
  refine lv_dup hx hb dX8_init_19 rfl ?_
  obtain ⟨z9, hqz9, hf⟩ := g3_o hf
  obtain ⟨h10, hf⟩ := g_ck hf
  refine gy_call (rm := { frames := 2, cells := 34, slots := 238, locals := 50 }) E hAO hml hl.1 (c_X2_init l X z5.1 z7 h8.1 hqz9) wt_X2_init (Or.inl wl_RX8_9) hM hS hcz hn0 hsl ⟨h10.1, h10.2.1⟩ h10.2.2.1 h10.2.2.2 hRc hRs rfl rfl (Nat.le_trans (by decide) hRf) (Nat.le_trans (by decide) hRl) (Nat.le_of_ble_eq_true rfl) dX8_init_20 (fun cells slots H locs hM hS hcz hsl => ?_)
  obtain ⟨h12, hf⟩ := g_ck hf
  obtain ⟨z11, ez11, hf⟩ := gv_o hf
  refine gz_putr 1 E hin2 gin_8 tyX8 tyX8_ok nmX8 rfl rfl (by decide) (by decide) rfl rfl (gEn_t E wf_RX8_16) rfl (tyX8_ok 1 (by decide)) rfl rfl rfl h12.1 hM hS h12.2 hk0 ez11 dX8_init_23 (fun H locs hM hS => ?_)
  have hcz := gcz hcz (show z11.1 = z9.1 by rw [ez11]; rfl)
  have hsl := hsl.trans (show z9.2.1 = z11.2.1 by rw [ez11]; rfl)
  refine lv_aload_n hx hb dX8_init_26 rfl (lv_at hl 0 rfl) ?_
  obtain ⟨h14, hf⟩ := g_ck hf
  obtain ⟨z13, ez13, hf⟩ := gv_o hf
  refine gy_new (N := 17) E gin_2 tyX2 tyX2_ok rfl rfl (by decide) wc_RX8_7 wi_2 wn_2 (by decide) hM hS hcz hn0 hsl h14.2.1 h14.2.2 hRc hRs ez13 h14.1 dX8_init_27 (fun cells slots H hM hS hcz hsl => ?_)
  refine lv_dup hx hb dX8_init_30 rfl ?_
  obtain ⟨z15, hqz15, hf⟩ := g3_o hf
  obtain ⟨h16, hf⟩ := g_ck hf
  refine gy_call (rm := { frames := 2, cells := 34, slots := 238, locals := 50 }) E hAO hml hl.1 (c_X2_init l X z11.1 z13 h14.1 hqz15) wt_X2_init (Or.inl wl_RX8_9) hM hS hcz hn0 hsl ⟨h16.1, h16.2.1⟩ h16.2.2.1 h16.2.2.2 hRc hRs rfl rfl (Nat.le_trans (by decide) hRf) (Nat.le_trans (by decide) hRl) (Nat.le_of_ble_eq_true rfl) dX8_init_31 (fun cells slots H locs hM hS hcz hsl => ?_)
  obtain ⟨h18, hf⟩ := g_ck hf
  obtain ⟨z17, ez17, hf⟩ := gv_o hf
  refine gz_putr 2 E hin2 gin_8 tyX8 tyX8_ok nmX8 rfl rfl (by decide) (by decide) rfl rfl (gEn_t E wf_RX8_19) rfl (tyX8_ok 2 (by decide)) rfl rfl rfl h18.1 hM hS h18.2 hk0 ez17 dX8_init_34 (fun H locs hM hS => ?_)
  have hcz := gcz hcz (show z17.1 = z15.1 by rw [ez17]; rfl)
  have hsl := hsl.trans (show z15.2.1 = z17.2.1 by rw [ez17]; rfl)
  refine lv_aload_n hx hb dX8_init_37 rfl (lv_at hl 0 rfl) ?_
  obtain ⟨h20, hf⟩ := g_ck hf
  obtain ⟨z19, ez19, hf⟩ := gv_o hf
  refine gy_new (N := 3) E gin_1 tyX1 tyX1_ok rfl rfl (by decide) wc_RX8_22 wi_1 wn_1 (by decide) hM hS hcz hn0 hsl h20.2.1 h20.2.2 hRc hRs ez19 h20.1 dX8_init_38 (fun cells slots H hM hS hcz hsl => ?_)
  refine lv_dup hx hb dX8_init_41 rfl ?_
  obtain ⟨z21, hqz21, hf⟩ := g3_o hf
  obtain ⟨h22, hf⟩ := g_ck hf
  refine gy_call (rm := { frames := 3, cells := 281, slots := 2048, locals := 71 }) E hAO hml hl.1 (c_X1_init l X z17.1 z19 h20.1 hqz21) wt_X1_init (Or.inl wl_RX8_24) hM hS hcz hn0 hsl ⟨h22.1, h22.2.1⟩ h22.2.2.1 h22.2.2.2 hRc hRs rfl rfl (Nat.le_trans (by decide) hRf) (Nat.le_trans (by decide) hRl) (Nat.le_of_ble_eq_true rfl) dX8_init_42 (fun cells slots H locs hM hS hcz hsl => ?_)
  obtain ⟨h24, hf⟩ := g_ck hf
  obtain ⟨z23, ez23, hf⟩ := gv_o hf
  refine gz_putr 4 E hin2 gin_8 tyX8 tyX8_ok nmX8 rfl rfl (by decide) (by decide) rfl rfl (gEn_t E wf_RX8_25) rfl (tyX8_ok 4 (by decide)) rfl rfl rfl h24.1 hM hS h24.2 hk0 ez23 dX8_init_45 (fun H locs hM hS => ?_)
  have hcz := gcz hcz (show z23.1 = z21.1 by rw [ez23]; rfl)
  have hsl := hsl.trans (show z21.2.1 = z23.2.1 by rw [ez23]; rfl)
  refine lv_aload_n hx hb dX8_init_48 rfl (lv_at hl 0 rfl) ?_
  obtain ⟨h26, hf⟩ := g_ck hf
  obtain ⟨z25, ez25, hf⟩ := gv_o hf
  refine gy_new (N := 5) E gin_5 tyX5 tyX5_ok rfl rfl (by decide) wc_RX8_29 wi_5 wn_5 (by decide) hM hS hcz hn0 hsl h26.2.1 h26.2.2 hRc hRs ez25 h26.1 dX8_init_49 (fun cells slots H hM hS hcz hsl => ?_)
  refine lv_dup hx hb dX8_init_52 rfl ?_
  obtain ⟨z27, hqz27, hf⟩ := g3_o hf
  obtain ⟨h28, hf⟩ := g_ck hf
  refine gy_call (rm := { frames := 2, cells := 42, slots := 200, locals := 50 }) E hAO hml hl.1 (c_X5_init l X z23.1 z25 h26.1 hqz27) wt_X5_init (Or.inl wl_RX8_31) hM hS hcz hn0 hsl ⟨h28.1, h28.2.1⟩ h28.2.2.1 h28.2.2.2 hRc hRs rfl rfl (Nat.le_trans (by decide) hRf) (Nat.le_trans (by decide) hRl) (Nat.le_of_ble_eq_true rfl) dX8_init_53 (fun cells slots H locs hM hS hcz hsl => ?_)
  obtain ⟨h30, hf⟩ := g_ck hf
  obtain ⟨z29, ez29, hf⟩ := gv_o hf
  refine gz_putr 5 E hin2 gin_8 tyX8 tyX8_ok nmX8 rfl rfl (by decide) (by decide) rfl rfl (gEn_t E wf_RX8_32) rfl (tyX8_ok 5 (by decide)) rfl rfl rfl h30.1 hM hS h30.2 hk0 ez29 dX8_init_56 (fun H locs hM hS => ?_)
  have hcz := gcz hcz (show z29.1 = z27.1 by rw [ez29]; rfl)
  have hsl := hsl.trans (show z27.2.1 = z29.2.1 by rw [ez29]; rfl)
  refine lv_aload_n hx hb dX8_init_59 rfl (lv_at hl 0 rfl) ?_
  refine lv_iconst (v := (-1 : Int32)) hx hb dX8_init_60 (by decide) ?_
  obtain ⟨h32, hf⟩ := g_ck hf
  obtain ⟨z31, ez31, hf⟩ := gv_o hf
  refine gz_puti 6 E gin_8 tyX8 tyX8_ok nmX8 rfl rfl (by decide) (by decide) rfl (gEn_t E wf_RX8_36) rfl (tyX8_ok 6 (by decide)) rfl hM hS h32 hk0 ez31 dX8_init_61 (fun H locs hM hS => ?_)
  have hcz := gcz hcz (show z31.1 = z29.1 by rw [ez31]; rfl)
  have hsl := hsl.trans (show z29.2.1 = z31.2.1 by rw [ez31]; rfl)
  refine lv_aload_n hx hb dX8_init_64 rfl (lv_at hl 0 rfl) ?_
  obtain ⟨h34, hf⟩ := g_ck hf
  obtain ⟨z33, ez33, hf⟩ := gv_o hf
  refine gy_new (N := 2) E gin_4 tyX4 tyX4_ok rfl rfl (by decide) wc_RX8_40 wi_4 wn_4 (by decide) hM hS hcz hn0 hsl h34.2.1 h34.2.2 hRc hRs ez33 h34.1 dX8_init_65 (fun cells slots H hM hS hcz hsl => ?_)
  refine lv_dup hx hb dX8_init_68 rfl ?_
  obtain ⟨z35, hqz35, hf⟩ := g3_o hf
  obtain ⟨h36, hf⟩ := g_ck hf
  refine gy_call (rm := { frames := 1, cells := 0, slots := 0, locals := 30 }) E hAO hml hl.1 (c_X4_init l X z31.1 z33 h34.1 hqz35) wt_X4_init (Or.inr wl_RX8_42) hM hS hcz hn0 hsl ⟨h36.1, h36.2.1⟩ h36.2.2.1 h36.2.2.2 hRc hRs rfl rfl (Nat.le_trans (by decide) hRf) (Nat.le_trans (by decide) hRl) (Nat.le_of_ble_eq_true rfl) dX8_init_69 (fun cells slots H locs hM hS hcz hsl => ?_)
  obtain ⟨h38, hf⟩ := g_ck hf
  obtain ⟨z37, ez37, hf⟩ := gv_o hf
  refine gz_putr 7 E hin2 gin_8 tyX8 tyX8_ok nmX8 rfl rfl (by decide) (by decide) rfl rfl (gEn_t E wf_RX8_43) rfl (tyX8_ok 7 (by decide)) rfl rfl rfl h38.1 hM hS h38.2 hk0 ez37 dX8_init_72 (fun H locs hM hS => ?_)
  have hcz := gcz hcz (show z37.1 = z35.1 by rw [ez37]; rfl)
  have hsl := hsl.trans (show z35.2.1 = z37.2.1 by rw [ez37]; rfl)
  refine lv_aload_n hx hb dX8_init_75 rfl (lv_at hl 0 rfl) ?_
  obtain ⟨h40, hf⟩ := g_ck hf
  obtain ⟨z39, ez39, hf⟩ := gv_o hf
  refine gy_new (N := 2) E gin_4 tyX4 tyX4_ok rfl rfl (by decide) wc_RX8_40 wi_4 wn_4 (by decide) hM hS hcz hn0 hsl h40.2.1 h40.2.2 hRc hRs ez39 h40.1 dX8_init_76 (fun cells slots H hM hS hcz hsl => ?_)
  refine lv_dup hx hb dX8_init_79 rfl ?_
  obtain ⟨z41, hqz41, hf⟩ := g3_o hf
  obtain ⟨h42, hf⟩ := g_ck hf
  refine gy_call (rm := { frames := 1, cells := 0, slots := 0, locals := 30 }) E hAO hml hl.1 (c_X4_init l X z37.1 z39 h40.1 hqz41) wt_X4_init (Or.inr wl_RX8_42) hM hS hcz hn0 hsl ⟨h42.1, h42.2.1⟩ h42.2.2.1 h42.2.2.2 hRc hRs rfl rfl (Nat.le_trans (by decide) hRf) (Nat.le_trans (by decide) hRl) (Nat.le_of_ble_eq_true rfl) dX8_init_80 (fun cells slots H locs hM hS hcz hsl => ?_)
  obtain ⟨h44, hf⟩ := g_ck hf
  obtain ⟨z43, ez43, hf⟩ := gv_o hf
  refine gz_putr 8 E hin2 gin_8 tyX8 tyX8_ok nmX8 rfl rfl (by decide) (by decide) rfl rfl (gEn_t E wf_RX8_47) rfl (tyX8_ok 8 (by decide)) rfl rfl rfl h44.1 hM hS h44.2 hk0 ez43 dX8_init_83 (fun H locs hM hS => ?_)
  have hcz := gcz hcz (show z43.1 = z41.1 by rw [ez43]; rfl)
  have hsl := hsl.trans (show z41.2.1 = z43.2.1 by rw [ez43]; rfl)
  obtain ⟨h45, hf⟩ := g_ck hf
  exact gy_v E hr hlocks hf hM hS hcz hn0 hsl h45 dX8_init_86
theorem c_X8_init (l : Launch) (X : gX) (c0 : Nat) (z0 : gZ) {res : gZ} (hk0 : gk c0 = 8) (hf : f_X8_init c0 z0 = some res) : Met l yX8_init (gWs yX8_init cX8_init 1 none) { frames := 4, cells := 432, slots := 3025, locals := 92 } (va_Pc [.ref (X.1 + c0)] (gBz X z0)) (gQz X res) 432 3025 (gA X) :=
  gMetC (own := RX8) (by decide +kernel) rfl rfl (Nat.le_of_ble_eq_true rfl) (fun p e s m args below meth c ls E hr hlocks hml hin2 hAO hM hz hl => b_X8_init E hr hlocks hml hin2 hAO (Nat.le_refl _) (Nat.le_refl _) (Nat.le_refl _) (Nat.le_refl _) hk0 hf hM va_S.rf hz hl)
