def L_L_build_16 (xs : Nat → Int32) (L : Nat) (c1 : Nat) (u2 : Int32) (k65 : Int32 →  gMem → Option (Nat × Nat × gMem)) : Nat → Int32 → gMem → Option (Nat × Nat × gMem)
  | 0, _, _ => none
  | n + 1, y3, m0 => if (6 : Int32) ≤ y3 then (k65 y3 m0) else (g2 0 (f_X8_humidity c1 ((((atv xs L (1 : Int32)) >>> (((5 : Int32) * y3) &&& 31)) &&& (31 : Int32)) - (((atv xs L (1 : Int32)) >>> (((5 : Int32) * y3) &&& 31)) &&& (31 : Int32)) / (24 : Int32) * (24 : Int32)) ((30 : Int32) + ((((atv xs L (2 : Int32)) >>> (((5 : Int32) * y3) &&& 31)) &&& (31 : Int32)) * (2 : Int32))) m0) (fun r5 m3 => gv (y3 + (1 : Int32)) (fun x10 => L_L_build_16 xs L c1 u2 k65 n x10 m3)))
def L_L_build_90 (xs : Nat → Int32) (L : Nat) (c1 : Nat) (u2 : Int32) (k106 : Int32 →  gMem → Option (Nat × Nat × gMem)) : Nat → Int32 → gMem → Option (Nat × Nat × gMem)
  | 0, _, _ => none
  | n + 1, y3, m0 => if (3 : Int32) ≤ y3 then (k106 y3 m0) else (g2 0 (f_X8_tower c1 m0) (fun r30 m28 => gv (y3 + (1 : Int32)) (fun x35 => L_L_build_90 xs L c1 u2 k106 n x35 m28)))
def L_L_build_162 (xs : Nat → Int32) (L : Nat) (c1 : Nat) (u3 : Int32) (u4 : Int32) (k280 : Int32 →  gMem → Option (Nat × Nat × gMem)) : Nat → Int32 → gMem → Option (Nat × Nat × gMem)
  | 0, _, _ => none
  | n + 1, y5, m0 => if (2 : Int32) ≤ y5 then (k280 y5 m0) else (gv ((u4 >>> (((13 : Int32) * y5) &&& 31))) (fun x63 => g1 (f_L_act c1 (0 : Int32) ((x63 &&& (3 : Int32)) - (x63 &&& (3 : Int32)) / (3 : Int32) * (3 : Int32)) ((x63 >>> ((2 : Int32) &&& 31)) &&& (1 : Int32)) (((x63 >>> ((3 : Int32) &&& 31)) &&& (3 : Int32)) - ((x63 >>> ((3 : Int32) &&& 31)) &&& (3 : Int32)) / (3 : Int32) * (3 : Int32)) ((1 : Int32) + ((x63 >>> ((5 : Int32) &&& 31)) &&& (15 : Int32))) m0) (fun r64 m65 => if ((x63 >>> ((9 : Int32) &&& 31)) &&& (7 : Int32)) = (0 : Int32) then (g1 (f_L_act c1 (1 : Int32) ((x63 &&& (3 : Int32)) - (x63 &&& (3 : Int32)) / (3 : Int32) * (3 : Int32)) (0 : Int32) (0 : Int32) (0 : Int32) m65) (fun r74 m75 => if ((x63 >>> ((9 : Int32) &&& 31)) &&& (7 : Int32)) = (1 : Int32) then (g1 (f_L_act c1 (2 : Int32) ((x63 &&& (3 : Int32)) - (x63 &&& (3 : Int32)) / (3 : Int32) * (3 : Int32)) ((1 : Int32) + ((x63 >>> ((5 : Int32) &&& 31)) &&& (7 : Int32))) (0 : Int32) (0 : Int32) m75) (fun r79 m80 => gv (y5 + (1 : Int32)) (fun x82 => L_L_build_162 xs L c1 u3 u4 k280 n x82 m80))) else (gv (y5 + (1 : Int32)) (fun x78 => L_L_build_162 xs L c1 u3 u4 k280 n x78 m75)))) else (if ((x63 >>> ((9 : Int32) &&& 31)) &&& (7 : Int32)) = (1 : Int32) then (g1 (f_L_act c1 (2 : Int32) ((x63 &&& (3 : Int32)) - (x63 &&& (3 : Int32)) / (3 : Int32) * (3 : Int32)) ((1 : Int32) + ((x63 >>> ((5 : Int32) &&& 31)) &&& (7 : Int32))) (0 : Int32) (0 : Int32) m65) (fun r70 m71 => gv (y5 + (1 : Int32)) (fun x73 => L_L_build_162 xs L c1 u3 u4 k280 n x73 m71))) else (gv (y5 + (1 : Int32)) (fun x69 => L_L_build_162 xs L c1 u3 u4 k280 n x69 m65))))))
def L_L_build_146 (xs : Nat → Int32) (L : Nat) (c1 : Nat) : Nat → Int32 → gMem → Option (Nat × Nat × gMem)
  | 0, _, _ => none
  | n + 1, y3, m0 => if (13 : Int32) ≤ y3 then (some (0, c1, m0)) else (if ¬ y3 < 0 then gv ((atv xs L y3)) (fun x61 => L_L_build_162 xs L c1 y3 x61 (fun y83 m84 => if ((x61 >>> ((26 : Int32) &&& 31)) &&& (1 : Int32)) = (1 : Int32) then (g2 0 (f_X8_account c1 (0 : Int32) m84) (fun r96 m94 => g1 (f_L_act c1 (3 : Int32) ((r96 + (1 : Int32)) + (x61 &&& (7 : Int32))) ((1 : Int32) + ((x61 >>> ((3 : Int32) &&& 31)) &&& (3 : Int32))) ((1 : Int32) + ((x61 >>> ((5 : Int32) &&& 31)) &&& (31 : Int32))) (0 : Int32) m94) (fun r101 m102 => if r101 < (0 : Int32) then (g2 0 (f_X8_pass c1 ((1 : Int32) + ((x61 >>> ((27 : Int32) &&& 31)) &&& (7 : Int32))) m102) (fun r107 m105 => gv (y3 + (1 : Int32)) (fun x112 => L_L_build_146 xs L c1 n x112 m105))) else (g2 0 (f_X8_show c1 r101 (((x61 >>> ((10 : Int32) &&& 31)) &&& (3 : Int32)) - ((x61 >>> ((10 : Int32) &&& 31)) &&& (3 : Int32)) / (3 : Int32) * (3 : Int32)) m102) (fun r115 m113 => g2 0 (f_X8_pass c1 ((1 : Int32) + ((x61 >>> ((27 : Int32) &&& 31)) &&& (7 : Int32))) m113) (fun r122 m120 => gv (y3 + (1 : Int32)) (fun x127 => L_L_build_146 xs L c1 n x127 m120))))))) else (g2 0 (f_X8_pass c1 ((1 : Int32) + ((x61 >>> ((27 : Int32) &&& 31)) &&& (7 : Int32))) m84) (fun r88 m86 => gv (y3 + (1 : Int32)) (fun x93 => L_L_build_146 xs L c1 n x93 m86)))) 3 (0 : Int32) m0) else none)
def f_L_build (xs : Nat → Int32) (L : Nat) (m0 : gMem) : Option (Nat × Nat × gMem) := gv ((atv xs L (0 : Int32))) (fun x1 => L_L_build_16 xs L 0 x1 (fun y11 m12 => g2 0 (f_X8_tongs 0 ((3 : Int32) + (x1 &&& (3 : Int32))) m12) (fun r15 m13 => g2 0 (f_X8_tongs 0 ((8 : Int32) + ((x1 >>> ((2 : Int32) &&& 31)) &&& (1 : Int32))) m13) (fun r22 m20 => L_L_build_90 xs L 0 x1 (fun y36 m37 => g2 0 (f_X8_buy 0 (0 : Int32) ((20 : Int32) + ((x1 >>> ((3 : Int32) &&& 31)) &&& (15 : Int32))) m37) (fun r40 m38 => g2 0 (f_X8_buy 0 (1 : Int32) (10 : Int32) m38) (fun r47 m45 => g2 0 (f_X8_buy 0 (2 : Int32) ((8 : Int32) + ((x1 >>> ((7 : Int32) &&& 31)) &&& (3 : Int32))) m45) (fun r54 m52 => L_L_build_146 xs L 0 11 (3 : Int32) m52)))) 4 (0 : Int32) m20))) 7 (0 : Int32) m0)
set_option maxRecDepth 100000 in
set_option maxHeartbeats 4000000 in
theorem l_L_build_16 {p : Program} {l : Launch} {e : Env} {R : Room} {s : State} {m : MethodId} {args : Array Value} {below : List Frame} {meth : Method} {c : Code} {X : gX} (E : gEn p s m args c cL_build RL X) (hr : meth.sig.returnType = (some (.object "SugarTowers"))) (hlocks : meth.locks = false) (hml : c.maxLocals = 7) (hl0 : l.stackTraces = false) (hout : ∀ x ∈ c.exceptionTable.toList, False) (hRf : 10 ≤ R.frames) (hRl : 211 ≤ R.locals) (hRc : 933 ≤ R.cells) (hRs : 6034 ≤ R.slots) {b L : Nat} {xs : Nat → Int32} (hA : ∀ a : Nat, a < s.heap.size → ¬ gA X a) (hXs : va_X b L xs s s.heap) (hbl : b < s.heap.size) (hL : L ≤ 260) (c1 : Nat) (u2 : Int32) (hk1 : gk c1 = 8) (k65 : Int32 →  gMem → Option (Nat × Nat × gMem)) {res : Nat × Nat × gMem} (Bc Bs : Nat) (hBc : Bc ≤ 933) (hBs : Bs ≤ 6034)
    (hk65 : ∀ (y3 : Int32) (m0 : gMem) (H : Heap) (locs : List Loc) (ls : Array Slot) (cells slots : Nat), cells ≤ Bc → slots ≤ Bs → k65 y3 m0 = some res → gM X m0 H → va_S (gA X) s.heap H locs → lv_has ls 7 [(0, .ref b), (1, .ref (X.1 + c1)), (2, .int u2), (3, .int y3)] → W p l e R s m args below meth c H locs cells slots (vx_MQ below (gQTr X res) (gXC X res.1 res.2.2) args s 933 6034 (gA X)) (F0 m 65 ls [])) :
    ∀ (n : Nat) (y3 : Int32) (m0 : gMem) (H : Heap) (locs : List Loc) (ls : Array Slot) (cells slots : Nat), cells + n * 1 ≤ Bc → slots + n * 6 ≤ Bs → L_L_build_16 xs L c1 u2 k65 n y3 m0 = some res → gM X m0 H → va_S (gA X) s.heap H locs → lv_has ls 7 [(0, .ref b), (1, .ref (X.1 + c1)), (2, .int u2), (3, .int y3)] → W p l e R s m args below meth c H locs cells slots (vx_MQ below (gQTr X res) (gXC X res.1 res.2.2) args s 933 6034 (gA X)) (F0 m 16 ls []) := by
  obtain ⟨hx, hb⟩ := (⟨E.1, E.2.1⟩ : _ ∧ _)
  intro n
  induction n with
  | zero =>
    intro _ _ _ _ _ _ _ _ _ hf
    cases hf
  | succ n ih =>
    intro y3 m0 H locs ls cells slots hcl hsl hf hM hS hl
    rw [L_L_build_16] at hf
    refine lv_iload_n hx hb dL_build_16 rfl (lv_at hl 3 rfl) ?_
    refine lv_bipush (v := (6 : Int32)) hx hb dL_build_17 (by decide) ?_
    refine lv_icmp_ge (tgt := 65) hx hb dL_build_19 (by decide) (fun h2 => ?_) (fun h2 => ?_)
    · have hf := g_t h2 hf
      exact hk65 y3 m0 _ _ _ _ _ (by omega) (by omega) hf hM hS (lv_sub hl [0, 1, 2, 3] rfl)
    · have hf := g_f h2 hf
      refine lv_aload_n hx hb dL_build_22 rfl (lv_at hl 1 rfl) ?_
      refine lv_aload_n hx hb dL_build_23 rfl (lv_at hl 0 rfl) ?_
      refine lv_iconst (v := (1 : Int32)) hx hb dL_build_24 (by decide) ?_
      refine gk_at (own := RL) E.1 E.2.1 E.2.2.1 E.2.2.2.1 hA hml hl.1 (c_L_at l hL (1 : Int32) (by decide)) wt_L_at wl_RL_24 hXs hbl hS (Nat.le_trans (by decide) hRf) (Nat.le_trans (by decide) hRl) (Nat.le_trans (by omega) hRc) (Nat.le_trans (by omega) hRs) (Nat.le_of_ble_eq_true rfl) dL_build_25 (fun H1 locs hq hS => ?_)
      have hM := gM_kept hM hq
      refine lv_iconst (v := (5 : Int32)) hx hb dL_build_28 (by decide) ?_
      refine lv_iload_n hx hb dL_build_29 rfl (lv_at hl 3 rfl) ?_
      refine lv_imul hx hb dL_build_30 ?_
      refine lv_ishr hx hb dL_build_31 ?_
      refine lv_bipush (v := (31 : Int32)) hx hb dL_build_32 (by decide) ?_
      refine lv_iand hx hb dL_build_34 ?_
      refine lv_bipush (v := (24 : Int32)) hx hb dL_build_35 (by decide) ?_
      refine lv_irem hx hb dL_build_37 (by decide) ?_
      refine lv_bipush (v := (30 : Int32)) hx hb dL_build_38 (by decide) ?_
      refine lv_aload_n hx hb dL_build_40 rfl (lv_at hl 0 rfl) ?_
      refine lv_iconst (v := (2 : Int32)) hx hb dL_build_41 (by decide) ?_
      refine gk_at (own := RL) E.1 E.2.1 E.2.2.1 E.2.2.2.1 hA hml hl.1 (c_L_at l hL (2 : Int32) (by decide)) wt_L_at wl_RL_24 hXs hbl hS (Nat.le_trans (by decide) hRf) (Nat.le_trans (by decide) hRl) (Nat.le_trans (by omega) hRc) (Nat.le_trans (by omega) hRs) (Nat.le_of_ble_eq_true rfl) dL_build_42 (fun H1 locs hq hS => ?_)
      have hM := gM_kept hM hq
      refine lv_iconst (v := (5 : Int32)) hx hb dL_build_45 (by decide) ?_
      refine lv_iload_n hx hb dL_build_46 rfl (lv_at hl 3 rfl) ?_
      refine lv_imul hx hb dL_build_47 ?_
      refine lv_ishr hx hb dL_build_48 ?_
      refine lv_bipush (v := (31 : Int32)) hx hb dL_build_49 (by decide) ?_
      refine lv_iand hx hb dL_build_51 ?_
      refine lv_iconst (v := (2 : Int32)) hx hb dL_build_52 (by decide) ?_
      refine lv_imul hx hb dL_build_53 ?_
      refine lv_iadd hx hb dL_build_54 ?_
      obtain ⟨e6, r5, m3, hqq4, hf7, hx8⟩ := g2_o hf
      refine ga_Ti (gr_VX (As := [.int ((((atv xs L (1 : Int32)) >>> (((5 : Int32) * y3) &&& 31)) &&& (31 : Int32)) - (((atv xs L (1 : Int32)) >>> (((5 : Int32) * y3) &&& 31)) &&& (31 : Int32)) / (24 : Int32) * (24 : Int32)), .int ((30 : Int32) + ((((atv xs L (2 : Int32)) >>> (((5 : Int32) * y3) &&& 31)) &&& (31 : Int32)) * (2 : Int32)))]) (ci := 8) (rm := { frames := 6, cells := 1, slots := 6, locals := 124 }) E hml hl.1 (c_X8_humidity l X hl0 c1 ((((atv xs L (1 : Int32)) >>> (((5 : Int32) * y3) &&& 31)) &&& (31 : Int32)) - (((atv xs L (1 : Int32)) >>> (((5 : Int32) * y3) &&& 31)) &&& (31 : Int32)) / (24 : Int32) * (24 : Int32)) ((30 : Int32) + ((((atv xs L (2 : Int32)) >>> (((5 : Int32) * y3) &&& 31)) &&& (31 : Int32)) * (2 : Int32))) m0 hk1 hqq4) wt_X8_humidity wl_RL_30 rfl hk1 (by decide) rfl rfl hM hS rfl rfl (Nat.le_trans (by decide) hRf) (Nat.le_trans (by decide) hRl) (Nat.le_trans (by omega) hRc) (Nat.le_trans (by omega) hRs) (Nat.le_of_ble_eq_true rfl) dL_build_55 rfl) hout hlocks hS (by omega) (by omega) (fun h => by rw [hx8 h]; exact ⟨rfl, rfl⟩) (fun hz9 H locs hM hS => ?_)
      have hf := hf7 hz9
      refine lv_pop hx hb dL_build_58 rfl ?_
      obtain ⟨x10, ex10, hf⟩ := gv_o hf
      refine lv_iinc (v := x10) (lv' := [(3, .int x10), (0, .ref b), (1, .ref (X.1 + c1)), (2, .int u2)]) hx hb dL_build_59 hl (k := 3) rfl (by rw [ex10]; rfl) (by decide) rfl (fun ls hl => ?_)
      refine lv_goto (tgt := 16) hx hb dL_build_62 (by decide) ?_
      exact ih x10 m3 _ _ _ _ _ (by omega) (by omega) hf hM hS (lv_sub hl [1, 2, 3, 0] rfl)
set_option maxRecDepth 100000 in
set_option maxHeartbeats 4000000 in
theorem l_L_build_90 {p : Program} {l : Launch} {e : Env} {R : Room} {s : State} {m : MethodId} {args : Array Value} {below : List Frame} {meth : Method} {c : Code} {X : gX} (E : gEn p s m args c cL_build RL X) (hr : meth.sig.returnType = (some (.object "SugarTowers"))) (hlocks : meth.locks = false) (hml : c.maxLocals = 7) (hl0 : l.stackTraces = false) (hout : ∀ x ∈ c.exceptionTable.toList, False) (hRf : 10 ≤ R.frames) (hRl : 211 ≤ R.locals) (hRc : 933 ≤ R.cells) (hRs : 6034 ≤ R.slots) {b L : Nat} {xs : Nat → Int32} (hA : ∀ a : Nat, a < s.heap.size → ¬ gA X a) (hXs : va_X b L xs s s.heap) (hbl : b < s.heap.size) (hL : L ≤ 260) (c1 : Nat) (u2 : Int32) (hk1 : gk c1 = 8) (k106 : Int32 →  gMem → Option (Nat × Nat × gMem)) {res : Nat × Nat × gMem} (Bc Bs : Nat) (hBc : Bc ≤ 933) (hBs : Bs ≤ 6034)
    (hk106 : ∀ (y3 : Int32) (m0 : gMem) (H : Heap) (locs : List Loc) (ls : Array Slot) (cells slots : Nat), cells ≤ Bc → slots ≤ Bs → k106 y3 m0 = some res → gM X m0 H → va_S (gA X) s.heap H locs → lv_has ls 7 [(0, .ref b), (1, .ref (X.1 + c1)), (2, .int u2), (3, .int y3)] → W p l e R s m args below meth c H locs cells slots (vx_MQ below (gQTr X res) (gXC X res.1 res.2.2) args s 933 6034 (gA X)) (F0 m 106 ls [])) :
    ∀ (n : Nat) (y3 : Int32) (m0 : gMem) (H : Heap) (locs : List Loc) (ls : Array Slot) (cells slots : Nat), cells + n * 1 ≤ Bc → slots + n * 6 ≤ Bs → L_L_build_90 xs L c1 u2 k106 n y3 m0 = some res → gM X m0 H → va_S (gA X) s.heap H locs → lv_has ls 7 [(0, .ref b), (1, .ref (X.1 + c1)), (2, .int u2), (3, .int y3)] → W p l e R s m args below meth c H locs cells slots (vx_MQ below (gQTr X res) (gXC X res.1 res.2.2) args s 933 6034 (gA X)) (F0 m 90 ls []) := by
  obtain ⟨hx, hb⟩ := (⟨E.1, E.2.1⟩ : _ ∧ _)
  intro n
  induction n with
  | zero =>
    intro _ _ _ _ _ _ _ _ _ hf
    cases hf
  | succ n ih =>
    intro y3 m0 H locs ls cells slots hcl hsl hf hM hS hl
    rw [L_L_build_90] at hf
    refine lv_iload_n hx hb dL_build_90 rfl (lv_at hl 3 rfl) ?_
    refine lv_iconst (v := (3 : Int32)) hx hb dL_build_91 (by decide) ?_
    refine lv_icmp_ge (tgt := 106) hx hb dL_build_92 (by decide) (fun h27 => ?_) (fun h27 => ?_)
    · have hf := g_t h27 hf
      exact hk106 y3 m0 _ _ _ _ _ (by omega) (by omega) hf hM hS (lv_sub hl [0, 1, 2, 3] rfl)
    · have hf := g_f h27 hf
      refine lv_aload_n hx hb dL_build_95 rfl (lv_at hl 1 rfl) ?_
      obtain ⟨e31, r30, m28, hqq29, hf32, hx33⟩ := g2_o hf
      refine ga_Ti (gr_VX (As := []) (ci := 8) (rm := { frames := 6, cells := 1, slots := 6, locals := 124 }) E hml hl.1 (c_X8_tower l X hl0 c1 m0 hk1 hqq29) wt_X8_tower wl_RL_38 rfl hk1 (by decide) rfl rfl hM hS rfl rfl (Nat.le_trans (by decide) hRf) (Nat.le_trans (by decide) hRl) (Nat.le_trans (by omega) hRc) (Nat.le_trans (by omega) hRs) (Nat.le_of_ble_eq_true rfl) dL_build_96 rfl) hout hlocks hS (by omega) (by omega) (fun h => by rw [hx33 h]; exact ⟨rfl, rfl⟩) (fun hz34 H locs hM hS => ?_)
      have hf := hf32 hz34
      refine lv_pop hx hb dL_build_99 rfl ?_
      obtain ⟨x35, ex35, hf⟩ := gv_o hf
      refine lv_iinc (v := x35) (lv' := [(3, .int x35), (0, .ref b), (1, .ref (X.1 + c1)), (2, .int u2)]) hx hb dL_build_100 hl (k := 3) rfl (by rw [ex35]; rfl) (by decide) rfl (fun ls hl => ?_)
      refine lv_goto (tgt := 90) hx hb dL_build_103 (by decide) ?_
      exact ih x35 m28 _ _ _ _ _ (by omega) (by omega) hf hM hS (lv_sub hl [1, 2, 3, 0] rfl)
set_option maxRecDepth 100000 in
set_option maxHeartbeats 4000000 in
theorem l_L_build_162 {p : Program} {l : Launch} {e : Env} {R : Room} {s : State} {m : MethodId} {args : Array Value} {below : List Frame} {meth : Method} {c : Code} {X : gX} (E : gEn p s m args c cL_build RL X) (hr : meth.sig.returnType = (some (.object "SugarTowers"))) (hlocks : meth.locks = false) (hml : c.maxLocals = 7) (hl0 : l.stackTraces = false) (hout : ∀ x ∈ c.exceptionTable.toList, False) (hRf : 10 ≤ R.frames) (hRl : 211 ≤ R.locals) (hRc : 933 ≤ R.cells) (hRs : 6034 ≤ R.slots) {b L : Nat} {xs : Nat → Int32} (hA : ∀ a : Nat, a < s.heap.size → ¬ gA X a) (hXs : va_X b L xs s s.heap) (hbl : b < s.heap.size) (hL : L ≤ 260) (c1 : Nat) (u3 : Int32) (u4 : Int32) (hk1 : gk c1 = 8) (k280 : Int32 →  gMem → Option (Nat × Nat × gMem)) {res : Nat × Nat × gMem} (Bc Bs : Nat) (hBc : Bc ≤ 933) (hBs : Bs ≤ 6034)
    (hk280 : ∀ (y5 : Int32) (m0 : gMem) (H : Heap) (locs : List Loc) (ls : Array Slot) (cells slots : Nat), cells ≤ Bc → slots ≤ Bs → k280 y5 m0 = some res → gM X m0 H → va_S (gA X) s.heap H locs → lv_has ls 7 [(0, .ref b), (1, .ref (X.1 + c1)), (3, .int u3), (4, .int u4), (5, .int y5)] → W p l e R s m args below meth c H locs cells slots (vx_MQ below (gQTr X res) (gXC X res.1 res.2.2) args s 933 6034 (gA X)) (F0 m 280 ls [])) :
    ∀ (n : Nat) (y5 : Int32) (m0 : gMem) (H : Heap) (locs : List Loc) (ls : Array Slot) (cells slots : Nat), cells + n * 12 ≤ Bc → slots + n * 72 ≤ Bs → L_L_build_162 xs L c1 u3 u4 k280 n y5 m0 = some res → gM X m0 H → va_S (gA X) s.heap H locs → lv_has ls 7 [(0, .ref b), (1, .ref (X.1 + c1)), (3, .int u3), (4, .int u4), (5, .int y5)] → W p l e R s m args below meth c H locs cells slots (vx_MQ below (gQTr X res) (gXC X res.1 res.2.2) args s 933 6034 (gA X)) (F0 m 162 ls []) := by
  obtain ⟨hx, hb⟩ := (⟨E.1, E.2.1⟩ : _ ∧ _)
  intro n
  induction n with
  | zero =>
    intro _ _ _ _ _ _ _ _ _ hf
    cases hf
  | succ n ih =>
    intro y5 m0 H locs ls cells slots hcl hsl hf hM hS hl
    rw [L_L_build_162] at hf
    refine lv_iload hx hb dL_build_162 (lv_at hl 4 rfl) ?_
    refine lv_iconst (v := (2 : Int32)) hx hb dL_build_164 (by decide) ?_
    refine lv_icmp_ge (tgt := 280) hx hb dL_build_165 (by decide) (fun h62 => ?_) (fun h62 => ?_)
    · have hf := g_t h62 hf
      exact hk280 y5 m0 _ _ _ _ _ (by omega) (by omega) hf hM hS (lv_sub hl [0, 1, 2, 3, 4] rfl)
    · have hf := g_f h62 hf
      refine lv_iload hx hb dL_build_168 (lv_at hl 3 rfl) ?_
      refine lv_bipush (v := (13 : Int32)) hx hb dL_build_170 (by decide) ?_
      refine lv_iload hx hb dL_build_172 (lv_at hl 4 rfl) ?_
      refine lv_imul hx hb dL_build_174 ?_
      refine lv_ishr hx hb dL_build_175 ?_
      obtain ⟨x63, ex63, hf⟩ := gv_o hf
      rw [← ex63]
      refine lv_istore (lv' := [(6, .int x63), (0, .ref b), (1, .ref (X.1 + c1)), (3, .int u3), (4, .int u4), (5, .int y5)]) hx hb dL_build_176 hl (by decide) rfl (fun ls hl => ?_)
      refine lv_aload_n hx hb dL_build_178 rfl (lv_at hl 2 rfl) ?_
      refine lv_iconst (v := (0 : Int32)) hx hb dL_build_179 (by decide) ?_
      refine lv_iload hx hb dL_build_180 (lv_at hl 0 rfl) ?_
      refine lv_iconst (v := (3 : Int32)) hx hb dL_build_182 (by decide) ?_
      refine lv_iand hx hb dL_build_183 ?_
      refine lv_iconst (v := (3 : Int32)) hx hb dL_build_184 (by decide) ?_
      refine lv_irem hx hb dL_build_185 (by decide) ?_
      refine lv_iload hx hb dL_build_186 (lv_at hl 0 rfl) ?_
      refine lv_iconst (v := (2 : Int32)) hx hb dL_build_188 (by decide) ?_
      refine lv_ishr hx hb dL_build_189 ?_
      refine lv_iconst (v := (1 : Int32)) hx hb dL_build_190 (by decide) ?_
      refine lv_iand hx hb dL_build_191 ?_
      refine lv_iload hx hb dL_build_192 (lv_at hl 0 rfl) ?_
      refine lv_iconst (v := (3 : Int32)) hx hb dL_build_194 (by decide) ?_
      refine lv_ishr hx hb dL_build_195 ?_
      refine lv_iconst (v := (3 : Int32)) hx hb dL_build_196 (by decide) ?_
      refine lv_iand hx hb dL_build_197 ?_
      refine lv_iconst (v := (3 : Int32)) hx hb dL_build_198 (by decide) ?_
      refine lv_irem hx hb dL_build_199 (by decide) ?_
      refine lv_iconst (v := (1 : Int32)) hx hb dL_build_200 (by decide) ?_
      refine lv_iload hx hb dL_build_201 (lv_at hl 0 rfl) ?_
      refine lv_iconst (v := (5 : Int32)) hx hb dL_build_203 (by decide) ?_
      refine lv_ishr hx hb dL_build_204 ?_
      refine lv_bipush (v := (15 : Int32)) hx hb dL_build_205 (by decide) ?_
      refine lv_iand hx hb dL_build_207 ?_
      refine lv_iadd hx hb dL_build_208 ?_
      obtain ⟨r64, m65, hqq66, hf⟩ := g1_o hf
      refine gk_W (gq_SW (As := [.ref (X.1 + c1), .int (0 : Int32), .int ((x63 &&& (3 : Int32)) - (x63 &&& (3 : Int32)) / (3 : Int32) * (3 : Int32)), .int ((x63 >>> ((2 : Int32) &&& 31)) &&& (1 : Int32)), .int (((x63 >>> ((3 : Int32) &&& 31)) &&& (3 : Int32)) - ((x63 >>> ((3 : Int32) &&& 31)) &&& (3 : Int32)) / (3 : Int32) * (3 : Int32)), .int ((1 : Int32) + ((x63 >>> ((5 : Int32) &&& 31)) &&& (15 : Int32)))]) (rm := { frames := 9, cells := 4, slots := 24, locals := 185 }) E hA hml hl.1 (c_L_act l X hl0 c1 (0 : Int32) ((x63 &&& (3 : Int32)) - (x63 &&& (3 : Int32)) / (3 : Int32) * (3 : Int32)) ((x63 >>> ((2 : Int32) &&& 31)) &&& (1 : Int32)) (((x63 >>> ((3 : Int32) &&& 31)) &&& (3 : Int32)) - ((x63 >>> ((3 : Int32) &&& 31)) &&& (3 : Int32)) / (3 : Int32) * (3 : Int32)) ((1 : Int32) + ((x63 >>> ((5 : Int32) &&& 31)) &&& (15 : Int32))) m0 hk1 hqq66) wt_L_act wl_RL_44 rfl hM hS rfl rfl (Nat.le_trans (by decide) hRf) (Nat.le_trans (by decide) hRl) (Nat.le_trans (by omega) hRc) (Nat.le_trans (by omega) hRs) (Nat.le_of_ble_eq_true rfl) dL_build_209 rfl) (fun _ h => h) hS (fun H locs hM _ hS => ?_)
      refine lv_pop hx hb dL_build_212 rfl ?_
      refine lv_iload hx hb dL_build_213 (lv_at hl 0 rfl) ?_
      refine lv_bipush (v := (9 : Int32)) hx hb dL_build_215 (by decide) ?_
      refine lv_ishr hx hb dL_build_217 ?_
      refine lv_bipush (v := (7 : Int32)) hx hb dL_build_218 (by decide) ?_
      refine lv_iand hx hb dL_build_220 ?_
      refine lv_if_ne (tgt := 239) hx hb dL_build_221 (by decide) (fun h67 => ?_) (fun h67 => ?_)
      · have hf := g_f h67 hf
        refine lv_iload hx hb dL_build_239 (lv_at hl 0 rfl) ?_
        refine lv_bipush (v := (9 : Int32)) hx hb dL_build_241 (by decide) ?_
        refine lv_ishr hx hb dL_build_243 ?_
        refine lv_bipush (v := (7 : Int32)) hx hb dL_build_244 (by decide) ?_
        refine lv_iand hx hb dL_build_246 ?_
        refine lv_iconst (v := (1 : Int32)) hx hb dL_build_247 (by decide) ?_
        refine lv_icmp_ne (tgt := 274) hx hb dL_build_248 (by decide) (fun h68 => ?_) (fun h68 => ?_)
        · have hf := g_f h68 hf
          obtain ⟨x69, ex69, hf⟩ := gv_o hf
          refine lv_iinc (v := x69) (lv' := [(5, .int x69), (6, .int x63), (0, .ref b), (1, .ref (X.1 + c1)), (3, .int u3), (4, .int u4)]) hx hb dL_build_274 hl (k := 5) rfl (by rw [ex69]; rfl) (by decide) rfl (fun ls hl => ?_)
          refine lv_goto (tgt := 162) hx hb dL_build_277 (by decide) ?_
          exact ih x69 m65 _ _ _ _ _ (by omega) (by omega) hf hM hS (lv_sub hl [2, 3, 4, 5, 0] rfl)
        · have hf := g_t h68 hf
          refine lv_aload_n hx hb dL_build_251 rfl (lv_at hl 2 rfl) ?_
          refine lv_iconst (v := (2 : Int32)) hx hb dL_build_252 (by decide) ?_
          refine lv_iload hx hb dL_build_253 (lv_at hl 0 rfl) ?_
          refine lv_iconst (v := (3 : Int32)) hx hb dL_build_255 (by decide) ?_
          refine lv_iand hx hb dL_build_256 ?_
          refine lv_iconst (v := (3 : Int32)) hx hb dL_build_257 (by decide) ?_
          refine lv_irem hx hb dL_build_258 (by decide) ?_
          refine lv_iconst (v := (1 : Int32)) hx hb dL_build_259 (by decide) ?_
          refine lv_iload hx hb dL_build_260 (lv_at hl 0 rfl) ?_
          refine lv_iconst (v := (5 : Int32)) hx hb dL_build_262 (by decide) ?_
          refine lv_ishr hx hb dL_build_263 ?_
          refine lv_bipush (v := (7 : Int32)) hx hb dL_build_264 (by decide) ?_
          refine lv_iand hx hb dL_build_266 ?_
          refine lv_iadd hx hb dL_build_267 ?_
          refine lv_iconst (v := (0 : Int32)) hx hb dL_build_268 (by decide) ?_
          refine lv_iconst (v := (0 : Int32)) hx hb dL_build_269 (by decide) ?_
          obtain ⟨r70, m71, hqq72, hf⟩ := g1_o hf
          refine gk_W (gq_SW (As := [.ref (X.1 + c1), .int (2 : Int32), .int ((x63 &&& (3 : Int32)) - (x63 &&& (3 : Int32)) / (3 : Int32) * (3 : Int32)), .int ((1 : Int32) + ((x63 >>> ((5 : Int32) &&& 31)) &&& (7 : Int32))), .int (0 : Int32), .int (0 : Int32)]) (rm := { frames := 9, cells := 4, slots := 24, locals := 185 }) E hA hml hl.1 (c_L_act l X hl0 c1 (2 : Int32) ((x63 &&& (3 : Int32)) - (x63 &&& (3 : Int32)) / (3 : Int32) * (3 : Int32)) ((1 : Int32) + ((x63 >>> ((5 : Int32) &&& 31)) &&& (7 : Int32))) (0 : Int32) (0 : Int32) m65 hk1 hqq72) wt_L_act wl_RL_44 rfl hM hS rfl rfl (Nat.le_trans (by decide) hRf) (Nat.le_trans (by decide) hRl) (Nat.le_trans (by omega) hRc) (Nat.le_trans (by omega) hRs) (Nat.le_of_ble_eq_true rfl) dL_build_270 rfl) (fun _ h => h) hS (fun H locs hM _ hS => ?_)
          refine lv_pop hx hb dL_build_273 rfl ?_
          obtain ⟨x73, ex73, hf⟩ := gv_o hf
          refine lv_iinc (v := x73) (lv' := [(5, .int x73), (6, .int x63), (0, .ref b), (1, .ref (X.1 + c1)), (3, .int u3), (4, .int u4)]) hx hb dL_build_274 hl (k := 5) rfl (by rw [ex73]; rfl) (by decide) rfl (fun ls hl => ?_)
          refine lv_goto (tgt := 162) hx hb dL_build_277 (by decide) ?_
          exact ih x73 m71 _ _ _ _ _ (by omega) (by omega) hf hM hS (lv_sub hl [2, 3, 4, 5, 0] rfl)
      · have hf := g_t h67 hf
        refine lv_aload_n hx hb dL_build_224 rfl (lv_at hl 2 rfl) ?_
        refine lv_iconst (v := (1 : Int32)) hx hb dL_build_225 (by decide) ?_
        refine lv_iload hx hb dL_build_226 (lv_at hl 0 rfl) ?_
        refine lv_iconst (v := (3 : Int32)) hx hb dL_build_228 (by decide) ?_
        refine lv_iand hx hb dL_build_229 ?_
        refine lv_iconst (v := (3 : Int32)) hx hb dL_build_230 (by decide) ?_
        refine lv_irem hx hb dL_build_231 (by decide) ?_
        refine lv_iconst (v := (0 : Int32)) hx hb dL_build_232 (by decide) ?_
        refine lv_iconst (v := (0 : Int32)) hx hb dL_build_233 (by decide) ?_
        refine lv_iconst (v := (0 : Int32)) hx hb dL_build_234 (by decide) ?_
        obtain ⟨r74, m75, hqq76, hf⟩ := g1_o hf
        refine gk_W (gq_SW (As := [.ref (X.1 + c1), .int (1 : Int32), .int ((x63 &&& (3 : Int32)) - (x63 &&& (3 : Int32)) / (3 : Int32) * (3 : Int32)), .int (0 : Int32), .int (0 : Int32), .int (0 : Int32)]) (rm := { frames := 9, cells := 4, slots := 24, locals := 185 }) E hA hml hl.1 (c_L_act l X hl0 c1 (1 : Int32) ((x63 &&& (3 : Int32)) - (x63 &&& (3 : Int32)) / (3 : Int32) * (3 : Int32)) (0 : Int32) (0 : Int32) (0 : Int32) m65 hk1 hqq76) wt_L_act wl_RL_44 rfl hM hS rfl rfl (Nat.le_trans (by decide) hRf) (Nat.le_trans (by decide) hRl) (Nat.le_trans (by omega) hRc) (Nat.le_trans (by omega) hRs) (Nat.le_of_ble_eq_true rfl) dL_build_235 rfl) (fun _ h => h) hS (fun H locs hM _ hS => ?_)
        refine lv_pop hx hb dL_build_238 rfl ?_
        refine lv_iload hx hb dL_build_239 (lv_at hl 0 rfl) ?_
        refine lv_bipush (v := (9 : Int32)) hx hb dL_build_241 (by decide) ?_
        refine lv_ishr hx hb dL_build_243 ?_
        refine lv_bipush (v := (7 : Int32)) hx hb dL_build_244 (by decide) ?_
        refine lv_iand hx hb dL_build_246 ?_
        refine lv_iconst (v := (1 : Int32)) hx hb dL_build_247 (by decide) ?_
        refine lv_icmp_ne (tgt := 274) hx hb dL_build_248 (by decide) (fun h77 => ?_) (fun h77 => ?_)
        · have hf := g_f h77 hf
          obtain ⟨x78, ex78, hf⟩ := gv_o hf
          refine lv_iinc (v := x78) (lv' := [(5, .int x78), (6, .int x63), (0, .ref b), (1, .ref (X.1 + c1)), (3, .int u3), (4, .int u4)]) hx hb dL_build_274 hl (k := 5) rfl (by rw [ex78]; rfl) (by decide) rfl (fun ls hl => ?_)
          refine lv_goto (tgt := 162) hx hb dL_build_277 (by decide) ?_
          exact ih x78 m75 _ _ _ _ _ (by omega) (by omega) hf hM hS (lv_sub hl [2, 3, 4, 5, 0] rfl)
        · have hf := g_t h77 hf
          refine lv_aload_n hx hb dL_build_251 rfl (lv_at hl 2 rfl) ?_
          refine lv_iconst (v := (2 : Int32)) hx hb dL_build_252 (by decide) ?_
          refine lv_iload hx hb dL_build_253 (lv_at hl 0 rfl) ?_
          refine lv_iconst (v := (3 : Int32)) hx hb dL_build_255 (by decide) ?_
          refine lv_iand hx hb dL_build_256 ?_
          refine lv_iconst (v := (3 : Int32)) hx hb dL_build_257 (by decide) ?_
          refine lv_irem hx hb dL_build_258 (by decide) ?_
          refine lv_iconst (v := (1 : Int32)) hx hb dL_build_259 (by decide) ?_
          refine lv_iload hx hb dL_build_260 (lv_at hl 0 rfl) ?_
          refine lv_iconst (v := (5 : Int32)) hx hb dL_build_262 (by decide) ?_
          refine lv_ishr hx hb dL_build_263 ?_
          refine lv_bipush (v := (7 : Int32)) hx hb dL_build_264 (by decide) ?_
          refine lv_iand hx hb dL_build_266 ?_
          refine lv_iadd hx hb dL_build_267 ?_
          refine lv_iconst (v := (0 : Int32)) hx hb dL_build_268 (by decide) ?_
          refine lv_iconst (v := (0 : Int32)) hx hb dL_build_269 (by decide) ?_
          obtain ⟨r79, m80, hqq81, hf⟩ := g1_o hf
          refine gk_W (gq_SW (As := [.ref (X.1 + c1), .int (2 : Int32), .int ((x63 &&& (3 : Int32)) - (x63 &&& (3 : Int32)) / (3 : Int32) * (3 : Int32)), .int ((1 : Int32) + ((x63 >>> ((5 : Int32) &&& 31)) &&& (7 : Int32))), .int (0 : Int32), .int (0 : Int32)]) (rm := { frames := 9, cells := 4, slots := 24, locals := 185 }) E hA hml hl.1 (c_L_act l X hl0 c1 (2 : Int32) ((x63 &&& (3 : Int32)) - (x63 &&& (3 : Int32)) / (3 : Int32) * (3 : Int32)) ((1 : Int32) + ((x63 >>> ((5 : Int32) &&& 31)) &&& (7 : Int32))) (0 : Int32) (0 : Int32) m75 hk1 hqq81) wt_L_act wl_RL_44 rfl hM hS rfl rfl (Nat.le_trans (by decide) hRf) (Nat.le_trans (by decide) hRl) (Nat.le_trans (by omega) hRc) (Nat.le_trans (by omega) hRs) (Nat.le_of_ble_eq_true rfl) dL_build_270 rfl) (fun _ h => h) hS (fun H locs hM _ hS => ?_)
          refine lv_pop hx hb dL_build_273 rfl ?_
          obtain ⟨x82, ex82, hf⟩ := gv_o hf
          refine lv_iinc (v := x82) (lv' := [(5, .int x82), (6, .int x63), (0, .ref b), (1, .ref (X.1 + c1)), (3, .int u3), (4, .int u4)]) hx hb dL_build_274 hl (k := 5) rfl (by rw [ex82]; rfl) (by decide) rfl (fun ls hl => ?_)
          refine lv_goto (tgt := 162) hx hb dL_build_277 (by decide) ?_
          exact ih x82 m80 _ _ _ _ _ (by omega) (by omega) hf hM hS (lv_sub hl [2, 3, 4, 5, 0] rfl)
set_option maxRecDepth 100000 in
set_option maxHeartbeats 4000000 in
theorem l_L_build_146 {p : Program} {l : Launch} {e : Env} {R : Room} {s : State} {m : MethodId} {args : Array Value} {below : List Frame} {meth : Method} {c : Code} {X : gX} (E : gEn p s m args c cL_build RL X) (hr : meth.sig.returnType = (some (.object "SugarTowers"))) (hlocks : meth.locks = false) (hml : c.maxLocals = 7) (hl0 : l.stackTraces = false) (hout : ∀ x ∈ c.exceptionTable.toList, False) (hRf : 10 ≤ R.frames) (hRl : 211 ≤ R.locals) (hRc : 933 ≤ R.cells) (hRs : 6034 ≤ R.slots) {b L : Nat} {xs : Nat → Int32} (hA : ∀ a : Nat, a < s.heap.size → ¬ gA X a) (hXs : va_X b L xs s s.heap) (hbl : b < s.heap.size) (hL : L ≤ 260) (c1 : Nat) (hk1 : gk c1 = 8) {res : Nat × Nat × gMem} (Bc Bs : Nat) (hBc : Bc ≤ 933) (hBs : Bs ≤ 6034) :
    ∀ (n : Nat) (y3 : Int32) (m0 : gMem) (H : Heap) (locs : List Loc) (ls : Array Slot) (cells slots : Nat), cells + n * 44 ≤ Bc → slots + n * 264 ≤ Bs → L_L_build_146 xs L c1 n y3 m0 = some res → gM X m0 H → va_S (gA X) s.heap H locs → lv_has ls 7 [(0, .ref b), (1, .ref (X.1 + c1)), (3, .int y3)] → W p l e R s m args below meth c H locs cells slots (vx_MQ below (gQTr X res) (gXC X res.1 res.2.2) args s 933 6034 (gA X)) (F0 m 146 ls []) := by
  obtain ⟨hx, hb⟩ := (⟨E.1, E.2.1⟩ : _ ∧ _)
  intro n
  induction n with
  | zero =>
    intro _ _ _ _ _ _ _ _ _ hf
    cases hf
  | succ n ih =>
    intro y3 m0 H locs ls cells slots hcl hsl hf hM hS hl
    rw [L_L_build_146] at hf
    refine lv_iload_n hx hb dL_build_146 rfl (lv_at hl 2 rfl) ?_
    refine lv_bipush (v := (13 : Int32)) hx hb dL_build_147 (by decide) ?_
    refine lv_icmp_ge (tgt := 371) hx hb dL_build_149 (by decide) (fun h59 => ?_) (fun h59 => ?_)
    · have hf := g_t h59 hf
      refine lv_aload_n hx hb dL_build_371 rfl (lv_at hl 1 rfl) ?_
      exact ge_Tr E hr hlocks hf hM hS (by omega) (by omega) dL_build_372
    · have hf := g_f h59 hf
      refine lv_aload_n hx hb dL_build_152 rfl (lv_at hl 0 rfl) ?_
      refine lv_iload_n hx hb dL_build_153 rfl (lv_at hl 2 rfl) ?_
      obtain ⟨hi60, hf⟩ := g_ck hf
      refine gk_at (own := RL) E.1 E.2.1 E.2.2.1 E.2.2.2.1 hA hml hl.1 (c_L_at l hL y3 hi60) wt_L_at wl_RL_24 hXs hbl hS (Nat.le_trans (by decide) hRf) (Nat.le_trans (by decide) hRl) (Nat.le_trans (by omega) hRc) (Nat.le_trans (by omega) hRs) (Nat.le_of_ble_eq_true rfl) dL_build_154 (fun H1 locs hq hS => ?_)
      have hM := gM_kept hM hq
      obtain ⟨x61, ex61, hf⟩ := gv_o hf
      rw [← ex61]
      refine lv_istore (lv' := [(4, .int x61), (0, .ref b), (1, .ref (X.1 + c1)), (3, .int y3)]) hx hb dL_build_157 hl (by decide) rfl (fun ls hl => ?_)
      refine lv_iconst (v := (0 : Int32)) hx hb dL_build_159 (by decide) ?_
      refine lv_istore (lv' := [(5, .int (0 : Int32)), (4, .int x61), (0, .ref b), (1, .ref (X.1 + c1)), (3, .int y3)]) hx hb dL_build_160 hl (by decide) rfl (fun ls hl => ?_)
      have ba128 : cells + 36 ≤ 933 := by omega
      have bb129 : slots + 216 ≤ 6034 := by omega
      obtain ⟨kA130, hkA130, hf⟩ := ex_k (P := fun kA => L_L_build_162 xs L c1 y3 x61 kA 3 (0 : Int32) m0 = some res) hf
      refine l_L_build_162 E hr hlocks hml hl0 hout hRf hRl hRc hRs hA hXs hbl hL c1 y3 x61 hk1 kA130 (cells + 36) (slots + 216) ba128 bb129 (fun y83 m84 H locs ls cells slots hcl hsl hf hM hS hl => ?_) 3 (0 : Int32) m0 _ _ _ cells slots (Nat.le_refl _) (Nat.le_refl _) hf hM hS (lv_sub hl [2, 3, 4, 1, 0] rfl)
      rw [hkA130] at hf
      dsimp only at hf
      refine lv_iload hx hb dL_build_280 (lv_at hl 3 rfl) ?_
      refine lv_bipush (v := (26 : Int32)) hx hb dL_build_282 (by decide) ?_
      refine lv_ishr hx hb dL_build_284 ?_
      refine lv_iconst (v := (1 : Int32)) hx hb dL_build_285 (by decide) ?_
      refine lv_iand hx hb dL_build_286 ?_
      refine lv_iconst (v := (1 : Int32)) hx hb dL_build_287 (by decide) ?_
      refine lv_icmp_ne (tgt := 350) hx hb dL_build_288 (by decide) (fun h85 => ?_) (fun h85 => ?_)
      · have hf := g_f h85 hf
        refine lv_aload_n hx hb dL_build_350 rfl (lv_at hl 1 rfl) ?_
        refine lv_iconst (v := (1 : Int32)) hx hb dL_build_351 (by decide) ?_
        refine lv_iload hx hb dL_build_352 (lv_at hl 3 rfl) ?_
        refine lv_bipush (v := (27 : Int32)) hx hb dL_build_354 (by decide) ?_
        refine lv_ishr hx hb dL_build_356 ?_
        refine lv_bipush (v := (7 : Int32)) hx hb dL_build_357 (by decide) ?_
        refine lv_iand hx hb dL_build_359 ?_
        refine lv_iadd hx hb dL_build_360 ?_
        obtain ⟨e89, r88, m86, hqq87, hf90, hx91⟩ := g2_o hf
        refine ga_Ti (gr_VX (As := [.int ((1 : Int32) + ((x61 >>> ((27 : Int32) &&& 31)) &&& (7 : Int32)))]) (ci := 8) (rm := { frames := 6, cells := 1, slots := 6, locals := 155 }) E hml hl.1 (c_X8_pass l X hl0 c1 ((1 : Int32) + ((x61 >>> ((27 : Int32) &&& 31)) &&& (7 : Int32))) m84 hk1 hqq87) wt_X8_pass wl_RL_54 rfl hk1 (by decide) rfl rfl hM hS rfl rfl (Nat.le_trans (by decide) hRf) (Nat.le_trans (by decide) hRl) (Nat.le_trans (by omega) hRc) (Nat.le_trans (by omega) hRs) (Nat.le_of_ble_eq_true rfl) dL_build_361 rfl) hout hlocks hS (by omega) (by omega) (fun h => by rw [hx91 h]; exact ⟨rfl, rfl⟩) (fun hz92 H locs hM hS => ?_)
        have hf := hf90 hz92
        refine lv_pop hx hb dL_build_364 rfl ?_
        obtain ⟨x93, ex93, hf⟩ := gv_o hf
        refine lv_iinc (v := x93) (lv' := [(3, .int x93), (0, .ref b), (1, .ref (X.1 + c1)), (4, .int x61), (5, .int y83)]) hx hb dL_build_365 hl (k := 2) rfl (by rw [ex93]; rfl) (by decide) rfl (fun ls hl => ?_)
        refine lv_goto (tgt := 146) hx hb dL_build_368 (by decide) ?_
        exact ih x93 m86 _ _ _ _ _ (by omega) (by omega) hf hM hS (lv_sub hl [1, 2, 0] rfl)
      · have hf := g_t h85 hf
        refine lv_aload_n hx hb dL_build_291 rfl (lv_at hl 1 rfl) ?_
        refine lv_iconst (v := (3 : Int32)) hx hb dL_build_292 (by decide) ?_
        refine lv_aload_n hx hb dL_build_293 rfl (lv_at hl 1 rfl) ?_
        refine lv_iconst (v := (0 : Int32)) hx hb dL_build_294 (by decide) ?_
        obtain ⟨e97, r96, m94, hqq95, hf98, hx99⟩ := g2_o hf
        refine ga_Ti (gr_VX (As := [.int (0 : Int32)]) (ci := 8) (rm := { frames := 6, cells := 1, slots := 6, locals := 105 }) E hml hl.1 (c_X8_account l X hl0 c1 (0 : Int32) m84 hk1 hqq95) wt_X8_account wl_RL_48 rfl hk1 (by decide) rfl rfl hM hS rfl rfl (Nat.le_trans (by decide) hRf) (Nat.le_trans (by decide) hRl) (Nat.le_trans (by omega) hRc) (Nat.le_trans (by omega) hRs) (Nat.le_of_ble_eq_true rfl) dL_build_295 rfl) hout hlocks hS (by omega) (by omega) (fun h => by rw [hx99 h]; exact ⟨rfl, rfl⟩) (fun hz100 H locs hM hS => ?_)
        have hf := hf98 hz100
        refine lv_iconst (v := (1 : Int32)) hx hb dL_build_298 (by decide) ?_
        refine lv_iadd hx hb dL_build_299 ?_
        refine lv_iload hx hb dL_build_300 (lv_at hl 3 rfl) ?_
        refine lv_bipush (v := (7 : Int32)) hx hb dL_build_302 (by decide) ?_
        refine lv_iand hx hb dL_build_304 ?_
        refine lv_iadd hx hb dL_build_305 ?_
        refine lv_iconst (v := (1 : Int32)) hx hb dL_build_306 (by decide) ?_
        refine lv_iload hx hb dL_build_307 (lv_at hl 3 rfl) ?_
        refine lv_iconst (v := (3 : Int32)) hx hb dL_build_309 (by decide) ?_
        refine lv_ishr hx hb dL_build_310 ?_
        refine lv_iconst (v := (3 : Int32)) hx hb dL_build_311 (by decide) ?_
        refine lv_iand hx hb dL_build_312 ?_
        refine lv_iadd hx hb dL_build_313 ?_
        refine lv_iconst (v := (1 : Int32)) hx hb dL_build_314 (by decide) ?_
        refine lv_iload hx hb dL_build_315 (lv_at hl 3 rfl) ?_
        refine lv_iconst (v := (5 : Int32)) hx hb dL_build_317 (by decide) ?_
        refine lv_ishr hx hb dL_build_318 ?_
        refine lv_bipush (v := (31 : Int32)) hx hb dL_build_319 (by decide) ?_
        refine lv_iand hx hb dL_build_321 ?_
        refine lv_iadd hx hb dL_build_322 ?_
        refine lv_iconst (v := (0 : Int32)) hx hb dL_build_323 (by decide) ?_
        obtain ⟨r101, m102, hqq103, hf⟩ := g1_o hf
        refine gk_W (gq_SW (As := [.ref (X.1 + c1), .int (3 : Int32), .int ((r96 + (1 : Int32)) + (x61 &&& (7 : Int32))), .int ((1 : Int32) + ((x61 >>> ((3 : Int32) &&& 31)) &&& (3 : Int32))), .int ((1 : Int32) + ((x61 >>> ((5 : Int32) &&& 31)) &&& (31 : Int32))), .int (0 : Int32)]) (rm := { frames := 9, cells := 4, slots := 24, locals := 185 }) E hA hml hl.1 (c_L_act l X hl0 c1 (3 : Int32) ((r96 + (1 : Int32)) + (x61 &&& (7 : Int32))) ((1 : Int32) + ((x61 >>> ((3 : Int32) &&& 31)) &&& (3 : Int32))) ((1 : Int32) + ((x61 >>> ((5 : Int32) &&& 31)) &&& (31 : Int32))) (0 : Int32) m94 hk1 hqq103) wt_L_act wl_RL_44 rfl hM hS rfl rfl (Nat.le_trans (by decide) hRf) (Nat.le_trans (by decide) hRl) (Nat.le_trans (by omega) hRc) (Nat.le_trans (by omega) hRs) (Nat.le_of_ble_eq_true rfl) dL_build_324 rfl) (fun _ h => h) hS (fun H locs hM _ hS => ?_)
        refine lv_istore (lv' := [(5, .int r101), (0, .ref b), (1, .ref (X.1 + c1)), (3, .int y3), (4, .int x61)]) hx hb dL_build_327 hl (by decide) rfl (fun ls hl => ?_)
        refine lv_iload hx hb dL_build_329 (lv_at hl 0 rfl) ?_
        refine lv_if_lt (tgt := 350) hx hb dL_build_331 (by decide) (fun h104 => ?_) (fun h104 => ?_)
        · have hf := g_t h104 hf
          refine lv_aload_n hx hb dL_build_350 rfl (lv_at hl 2 rfl) ?_
          refine lv_iconst (v := (1 : Int32)) hx hb dL_build_351 (by decide) ?_
          refine lv_iload hx hb dL_build_352 (lv_at hl 4 rfl) ?_
          refine lv_bipush (v := (27 : Int32)) hx hb dL_build_354 (by decide) ?_
          refine lv_ishr hx hb dL_build_356 ?_
          refine lv_bipush (v := (7 : Int32)) hx hb dL_build_357 (by decide) ?_
          refine lv_iand hx hb dL_build_359 ?_
          refine lv_iadd hx hb dL_build_360 ?_
          obtain ⟨e108, r107, m105, hqq106, hf109, hx110⟩ := g2_o hf
          refine ga_Ti (gr_VX (As := [.int ((1 : Int32) + ((x61 >>> ((27 : Int32) &&& 31)) &&& (7 : Int32)))]) (ci := 8) (rm := { frames := 6, cells := 1, slots := 6, locals := 155 }) E hml hl.1 (c_X8_pass l X hl0 c1 ((1 : Int32) + ((x61 >>> ((27 : Int32) &&& 31)) &&& (7 : Int32))) m102 hk1 hqq106) wt_X8_pass wl_RL_54 rfl hk1 (by decide) rfl rfl hM hS rfl rfl (Nat.le_trans (by decide) hRf) (Nat.le_trans (by decide) hRl) (Nat.le_trans (by omega) hRc) (Nat.le_trans (by omega) hRs) (Nat.le_of_ble_eq_true rfl) dL_build_361 rfl) hout hlocks hS (by omega) (by omega) (fun h => by rw [hx110 h]; exact ⟨rfl, rfl⟩) (fun hz111 H locs hM hS => ?_)
          have hf := hf109 hz111
          refine lv_pop hx hb dL_build_364 rfl ?_
          obtain ⟨x112, ex112, hf⟩ := gv_o hf
          refine lv_iinc (v := x112) (lv' := [(3, .int x112), (5, .int r101), (0, .ref b), (1, .ref (X.1 + c1)), (4, .int x61)]) hx hb dL_build_365 hl (k := 3) rfl (by rw [ex112]; rfl) (by decide) rfl (fun ls hl => ?_)
          refine lv_goto (tgt := 146) hx hb dL_build_368 (by decide) ?_
          exact ih x112 m105 _ _ _ _ _ (by omega) (by omega) hf hM hS (lv_sub hl [2, 3, 0] rfl)
        · have hf := g_f h104 hf
          refine lv_aload_n hx hb dL_build_334 rfl (lv_at hl 2 rfl) ?_
          refine lv_iload hx hb dL_build_335 (lv_at hl 0 rfl) ?_
          refine lv_iload hx hb dL_build_337 (lv_at hl 4 rfl) ?_
          refine lv_bipush (v := (10 : Int32)) hx hb dL_build_339 (by decide) ?_
          refine lv_ishr hx hb dL_build_341 ?_
          refine lv_iconst (v := (3 : Int32)) hx hb dL_build_342 (by decide) ?_
          refine lv_iand hx hb dL_build_343 ?_
          refine lv_iconst (v := (3 : Int32)) hx hb dL_build_344 (by decide) ?_
          refine lv_irem hx hb dL_build_345 (by decide) ?_
          obtain ⟨e116, r115, m113, hqq114, hf117, hx118⟩ := g2_o hf
          refine ga_Ti (gr_VX (As := [.int r101, .int (((x61 >>> ((10 : Int32) &&& 31)) &&& (3 : Int32)) - ((x61 >>> ((10 : Int32) &&& 31)) &&& (3 : Int32)) / (3 : Int32) * (3 : Int32))]) (ci := 8) (rm := { frames := 7, cells := 2, slots := 12, locals := 124 }) E hml hl.1 (c_X8_show l X hl0 c1 r101 (((x61 >>> ((10 : Int32) &&& 31)) &&& (3 : Int32)) - ((x61 >>> ((10 : Int32) &&& 31)) &&& (3 : Int32)) / (3 : Int32) * (3 : Int32)) m102 hk1 hqq114) wt_X8_show wl_RL_51 rfl hk1 (by decide) rfl rfl hM hS rfl rfl (Nat.le_trans (by decide) hRf) (Nat.le_trans (by decide) hRl) (Nat.le_trans (by omega) hRc) (Nat.le_trans (by omega) hRs) (Nat.le_of_ble_eq_true rfl) dL_build_346 rfl) hout hlocks hS (by omega) (by omega) (fun h => by rw [hx118 h]; exact ⟨rfl, rfl⟩) (fun hz119 H locs hM hS => ?_)
          have hf := hf117 hz119
          refine lv_pop hx hb dL_build_349 rfl ?_
          refine lv_aload_n hx hb dL_build_350 rfl (lv_at hl 2 rfl) ?_
          refine lv_iconst (v := (1 : Int32)) hx hb dL_build_351 (by decide) ?_
          refine lv_iload hx hb dL_build_352 (lv_at hl 4 rfl) ?_
          refine lv_bipush (v := (27 : Int32)) hx hb dL_build_354 (by decide) ?_
          refine lv_ishr hx hb dL_build_356 ?_
          refine lv_bipush (v := (7 : Int32)) hx hb dL_build_357 (by decide) ?_
          refine lv_iand hx hb dL_build_359 ?_
          refine lv_iadd hx hb dL_build_360 ?_
          obtain ⟨e123, r122, m120, hqq121, hf124, hx125⟩ := g2_o hf
          refine ga_Ti (gr_VX (As := [.int ((1 : Int32) + ((x61 >>> ((27 : Int32) &&& 31)) &&& (7 : Int32)))]) (ci := 8) (rm := { frames := 6, cells := 1, slots := 6, locals := 155 }) E hml hl.1 (c_X8_pass l X hl0 c1 ((1 : Int32) + ((x61 >>> ((27 : Int32) &&& 31)) &&& (7 : Int32))) m113 hk1 hqq121) wt_X8_pass wl_RL_54 rfl hk1 (by decide) rfl rfl hM hS rfl rfl (Nat.le_trans (by decide) hRf) (Nat.le_trans (by decide) hRl) (Nat.le_trans (by omega) hRc) (Nat.le_trans (by omega) hRs) (Nat.le_of_ble_eq_true rfl) dL_build_361 rfl) hout hlocks hS (by omega) (by omega) (fun h => by rw [hx125 h]; exact ⟨rfl, rfl⟩) (fun hz126 H locs hM hS => ?_)
          have hf := hf124 hz126
          refine lv_pop hx hb dL_build_364 rfl ?_
          obtain ⟨x127, ex127, hf⟩ := gv_o hf
          refine lv_iinc (v := x127) (lv' := [(3, .int x127), (5, .int r101), (0, .ref b), (1, .ref (X.1 + c1)), (4, .int x61)]) hx hb dL_build_365 hl (k := 3) rfl (by rw [ex127]; rfl) (by decide) rfl (fun ls hl => ?_)
          refine lv_goto (tgt := 146) hx hb dL_build_368 (by decide) ?_
          exact ih x127 m120 _ _ _ _ _ (by omega) (by omega) hf hM hS (lv_sub hl [2, 3, 0] rfl)
set_option maxRecDepth 100000 in
set_option maxHeartbeats 4000000 in
theorem b_L_build {p : Program} {l : Launch} {e : Env} {R : Room} {s : State} {m : MethodId} {args : Array Value} {below : List Frame} {meth : Method} {c : Code} {H : Heap} {locs : List Loc} {ls : Array Slot} {X : gX} (E : gEn p s m args c cL_build RL X) (hr : meth.sig.returnType = (some (.object "SugarTowers"))) (hlocks : meth.locks = false) (hml : c.maxLocals = 7) (hl0 : l.stackTraces = false) (hout : ∀ x ∈ c.exceptionTable.toList, False) (hRf : 10 ≤ R.frames) (hRl : 211 ≤ R.locals) (hRc : 933 ≤ R.cells) (hRs : 6034 ≤ R.slots) {b L : Nat} {xs : Nat → Int32} (hA : ∀ a : Nat, a < s.heap.size → ¬ gA X a) (hXs : va_X b L xs s s.heap) (hbl : b < s.heap.size) (hL : L ≤ 260) {m0 : gMem} {res : Nat × Nat × gMem} (hf : f_L_build xs L m0 = some res) (hM : gM X m0 H) (hS : va_S (gA X) s.heap H locs) (hl : lv_has ls 7 [(1, .ref (X.1 + 0)), (0, .ref b)]) : W p l e R s m args below meth c H locs 433 3034 (vx_MQ below (gQTr X res) (gXC X res.1 res.2.2) args s 933 6034 (gA X)) (F0 m 8 ls []) := by
  obtain ⟨hx, hb⟩ := (⟨E.1, E.2.1⟩ : _ ∧ _)
  unfold f_L_build at hf
  refine lv_aload_n hx hb dL_build_8 rfl (lv_at hl 1 rfl) ?_
  refine lv_iconst (v := (0 : Int32)) hx hb dL_build_9 (by decide) ?_
  refine gk_at (own := RL) E.1 E.2.1 E.2.2.1 E.2.2.2.1 hA hml hl.1 (c_L_at l hL (0 : Int32) (by decide)) wt_L_at wl_RL_24 hXs hbl hS (Nat.le_trans (by decide) hRf) (Nat.le_trans (by decide) hRl) (Nat.le_trans (by omega) hRc) (Nat.le_trans (by omega) hRs) (Nat.le_of_ble_eq_true rfl) dL_build_10 (fun H1 locs hq hS => ?_)
  have hM := gM_kept hM hq
  obtain ⟨x1, ex1, hf⟩ := gv_o hf
  rw [← ex1]
  refine lv_istore_n (lv' := [(2, .int x1), (1, .ref (X.1 + 0)), (0, .ref b)]) hx hb dL_build_13 rfl hl (by decide) rfl (fun ls hl => ?_)
  refine lv_iconst (v := (0 : Int32)) hx hb dL_build_14 (by decide) ?_
  refine lv_istore_n (lv' := [(3, .int (0 : Int32)), (2, .int x1), (1, .ref (X.1 + 0)), (0, .ref b)]) hx hb dL_build_15 rfl hl (by decide) rfl (fun ls hl => ?_)
  have ba136 : 433 + 7 ≤ 933 := by omega
  have bb137 : 3034 + 42 ≤ 6034 := by omega
  obtain ⟨kA138, hkA138, hf⟩ := ex_k (P := fun kA => L_L_build_16 xs L 0 x1 kA 7 (0 : Int32) m0 = some res) hf
  refine l_L_build_16 E hr hlocks hml hl0 hout hRf hRl hRc hRs hA hXs hbl hL 0 x1 (rfl : gk 0 = 8) kA138 (433 + 7) (3034 + 42) ba136 bb137 (fun y11 m12 H locs ls cells slots hcl hsl hf hM hS hl => ?_) 7 (0 : Int32) m0 _ _ _ 433 3034 (Nat.le_refl _) (Nat.le_refl _) hf hM hS (lv_sub hl [3, 2, 1, 0] rfl)
  rw [hkA138] at hf
  dsimp only at hf
  refine lv_aload_n hx hb dL_build_65 rfl (lv_at hl 1 rfl) ?_
  refine lv_iconst (v := (3 : Int32)) hx hb dL_build_66 (by decide) ?_
  refine lv_iload_n hx hb dL_build_67 rfl (lv_at hl 2 rfl) ?_
  refine lv_iconst (v := (3 : Int32)) hx hb dL_build_68 (by decide) ?_
  refine lv_iand hx hb dL_build_69 ?_
  refine lv_iadd hx hb dL_build_70 ?_
  obtain ⟨e16, r15, m13, hqq14, hf17, hx18⟩ := g2_o hf
  refine ga_Ti (gr_VX (As := [.int ((3 : Int32) + (x1 &&& (3 : Int32)))]) (ci := 8) (rm := { frames := 6, cells := 1, slots := 6, locals := 124 }) E hml hl.1 (c_X8_tongs l X hl0 0 ((3 : Int32) + (x1 &&& (3 : Int32))) m12 (rfl : gk 0 = 8) hqq14) wt_X8_tongs wl_RL_34 rfl (rfl : gk 0 = 8) (by decide) rfl rfl hM hS rfl rfl (Nat.le_trans (by decide) hRf) (Nat.le_trans (by decide) hRl) (Nat.le_trans (by omega) hRc) (Nat.le_trans (by omega) hRs) (Nat.le_of_ble_eq_true rfl) dL_build_71 rfl) hout hlocks hS (by omega) (by omega) (fun h => by rw [hx18 h]; exact ⟨rfl, rfl⟩) (fun hz19 H locs hM hS => ?_)
  have hf := hf17 hz19
  refine lv_pop hx hb dL_build_74 rfl ?_
  refine lv_aload_n hx hb dL_build_75 rfl (lv_at hl 1 rfl) ?_
  refine lv_bipush (v := (8 : Int32)) hx hb dL_build_76 (by decide) ?_
  refine lv_iload_n hx hb dL_build_78 rfl (lv_at hl 2 rfl) ?_
  refine lv_iconst (v := (2 : Int32)) hx hb dL_build_79 (by decide) ?_
  refine lv_ishr hx hb dL_build_80 ?_
  refine lv_iconst (v := (1 : Int32)) hx hb dL_build_81 (by decide) ?_
  refine lv_iand hx hb dL_build_82 ?_
  refine lv_iadd hx hb dL_build_83 ?_
  obtain ⟨e23, r22, m20, hqq21, hf24, hx25⟩ := g2_o hf
  refine ga_Ti (gr_VX (As := [.int ((8 : Int32) + ((x1 >>> ((2 : Int32) &&& 31)) &&& (1 : Int32)))]) (ci := 8) (rm := { frames := 6, cells := 1, slots := 6, locals := 124 }) E hml hl.1 (c_X8_tongs l X hl0 0 ((8 : Int32) + ((x1 >>> ((2 : Int32) &&& 31)) &&& (1 : Int32))) m13 (rfl : gk 0 = 8) hqq21) wt_X8_tongs wl_RL_34 rfl (rfl : gk 0 = 8) (by decide) rfl rfl hM hS rfl rfl (Nat.le_trans (by decide) hRf) (Nat.le_trans (by decide) hRl) (Nat.le_trans (by omega) hRc) (Nat.le_trans (by omega) hRs) (Nat.le_of_ble_eq_true rfl) dL_build_84 rfl) hout hlocks hS (by omega) (by omega) (fun h => by rw [hx25 h]; exact ⟨rfl, rfl⟩) (fun hz26 H locs hM hS => ?_)
  have hf := hf24 hz26
  refine lv_pop hx hb dL_build_87 rfl ?_
  refine lv_iconst (v := (0 : Int32)) hx hb dL_build_88 (by decide) ?_
  refine lv_istore_n (lv' := [(3, .int (0 : Int32)), (0, .ref b), (1, .ref (X.1 + 0)), (2, .int x1)]) hx hb dL_build_89 rfl hl (by decide) rfl (fun ls hl => ?_)
  have ba133 : ((cells + 1) + 1) + 4 ≤ 933 := by omega
  have bb134 : ((slots + 6) + 6) + 24 ≤ 6034 := by omega
  obtain ⟨kA135, hkA135, hf⟩ := ex_k (P := fun kA => L_L_build_90 xs L 0 x1 kA 4 (0 : Int32) m20 = some res) hf
  refine l_L_build_90 E hr hlocks hml hl0 hout hRf hRl hRc hRs hA hXs hbl hL 0 x1 (rfl : gk 0 = 8) kA135 (((cells + 1) + 1) + 4) (((slots + 6) + 6) + 24) ba133 bb134 (fun y36 m37 H locs ls cells slots hcl hsl hf hM hS hl => ?_) 4 (0 : Int32) m20 _ _ _ ((cells + 1) + 1) ((slots + 6) + 6) (Nat.le_refl _) (Nat.le_refl _) hf hM hS (lv_sub hl [1, 2, 3, 0] rfl)
  rw [hkA135] at hf
  dsimp only at hf
  refine lv_aload_n hx hb dL_build_106 rfl (lv_at hl 1 rfl) ?_
  refine lv_iconst (v := (0 : Int32)) hx hb dL_build_107 (by decide) ?_
  refine lv_bipush (v := (20 : Int32)) hx hb dL_build_108 (by decide) ?_
  refine lv_iload_n hx hb dL_build_110 rfl (lv_at hl 2 rfl) ?_
  refine lv_iconst (v := (3 : Int32)) hx hb dL_build_111 (by decide) ?_
  refine lv_ishr hx hb dL_build_112 ?_
  refine lv_bipush (v := (15 : Int32)) hx hb dL_build_113 (by decide) ?_
  refine lv_iand hx hb dL_build_115 ?_
  refine lv_iadd hx hb dL_build_116 ?_
  obtain ⟨e41, r40, m38, hqq39, hf42, hx43⟩ := g2_o hf
  refine ga_Ti (gr_VX (As := [.int (0 : Int32), .int ((20 : Int32) + ((x1 >>> ((3 : Int32) &&& 31)) &&& (15 : Int32)))]) (ci := 8) (rm := { frames := 6, cells := 1, slots := 6, locals := 124 }) E hml hl.1 (c_X8_buy l X hl0 0 (0 : Int32) ((20 : Int32) + ((x1 >>> ((3 : Int32) &&& 31)) &&& (15 : Int32))) m37 (rfl : gk 0 = 8) hqq39) wt_X8_buy wl_RL_41 rfl (rfl : gk 0 = 8) (by decide) rfl rfl hM hS rfl rfl (Nat.le_trans (by decide) hRf) (Nat.le_trans (by decide) hRl) (Nat.le_trans (by omega) hRc) (Nat.le_trans (by omega) hRs) (Nat.le_of_ble_eq_true rfl) dL_build_117 rfl) hout hlocks hS (by omega) (by omega) (fun h => by rw [hx43 h]; exact ⟨rfl, rfl⟩) (fun hz44 H locs hM hS => ?_)
  have hf := hf42 hz44
  refine lv_pop hx hb dL_build_120 rfl ?_
  refine lv_aload_n hx hb dL_build_121 rfl (lv_at hl 1 rfl) ?_
  refine lv_iconst (v := (1 : Int32)) hx hb dL_build_122 (by decide) ?_
  refine lv_bipush (v := (10 : Int32)) hx hb dL_build_123 (by decide) ?_
  obtain ⟨e48, r47, m45, hqq46, hf49, hx50⟩ := g2_o hf
  refine ga_Ti (gr_VX (As := [.int (1 : Int32), .int (10 : Int32)]) (ci := 8) (rm := { frames := 6, cells := 1, slots := 6, locals := 124 }) E hml hl.1 (c_X8_buy l X hl0 0 (1 : Int32) (10 : Int32) m38 (rfl : gk 0 = 8) hqq46) wt_X8_buy wl_RL_41 rfl (rfl : gk 0 = 8) (by decide) rfl rfl hM hS rfl rfl (Nat.le_trans (by decide) hRf) (Nat.le_trans (by decide) hRl) (Nat.le_trans (by omega) hRc) (Nat.le_trans (by omega) hRs) (Nat.le_of_ble_eq_true rfl) dL_build_125 rfl) hout hlocks hS (by omega) (by omega) (fun h => by rw [hx50 h]; exact ⟨rfl, rfl⟩) (fun hz51 H locs hM hS => ?_)
  have hf := hf49 hz51
  refine lv_pop hx hb dL_build_128 rfl ?_
  refine lv_aload_n hx hb dL_build_129 rfl (lv_at hl 1 rfl) ?_
  refine lv_iconst (v := (2 : Int32)) hx hb dL_build_130 (by decide) ?_
  refine lv_bipush (v := (8 : Int32)) hx hb dL_build_131 (by decide) ?_
  refine lv_iload_n hx hb dL_build_133 rfl (lv_at hl 2 rfl) ?_
  refine lv_bipush (v := (7 : Int32)) hx hb dL_build_134 (by decide) ?_
  refine lv_ishr hx hb dL_build_136 ?_
  refine lv_iconst (v := (3 : Int32)) hx hb dL_build_137 (by decide) ?_
  refine lv_iand hx hb dL_build_138 ?_
  refine lv_iadd hx hb dL_build_139 ?_
  obtain ⟨e55, r54, m52, hqq53, hf56, hx57⟩ := g2_o hf
  refine ga_Ti (gr_VX (As := [.int (2 : Int32), .int ((8 : Int32) + ((x1 >>> ((7 : Int32) &&& 31)) &&& (3 : Int32)))]) (ci := 8) (rm := { frames := 6, cells := 1, slots := 6, locals := 124 }) E hml hl.1 (c_X8_buy l X hl0 0 (2 : Int32) ((8 : Int32) + ((x1 >>> ((7 : Int32) &&& 31)) &&& (3 : Int32))) m45 (rfl : gk 0 = 8) hqq53) wt_X8_buy wl_RL_41 rfl (rfl : gk 0 = 8) (by decide) rfl rfl hM hS rfl rfl (Nat.le_trans (by decide) hRf) (Nat.le_trans (by decide) hRl) (Nat.le_trans (by omega) hRc) (Nat.le_trans (by omega) hRs) (Nat.le_of_ble_eq_true rfl) dL_build_140 rfl) hout hlocks hS (by omega) (by omega) (fun h => by rw [hx57 h]; exact ⟨rfl, rfl⟩) (fun hz58 H locs hM hS => ?_)
  have hf := hf56 hz58
  refine lv_pop hx hb dL_build_143 rfl ?_
  refine lv_iconst (v := (3 : Int32)) hx hb dL_build_144 (by decide) ?_
  refine lv_istore_n (lv' := [(3, .int (3 : Int32)), (0, .ref b), (1, .ref (X.1 + 0)), (2, .int x1)]) hx hb dL_build_145 rfl hl (by decide) rfl (fun ls hl => ?_)
  have ba131 : (((cells + 1) + 1) + 1) + 484 ≤ 933 := by omega
  have bb132 : (((slots + 6) + 6) + 6) + 2904 ≤ 6034 := by omega
  refine l_L_build_146 E hr hlocks hml hl0 hout hRf hRl hRc hRs hA hXs hbl hL 0 (rfl : gk 0 = 8) ((((cells + 1) + 1) + 1) + 484) ((((slots + 6) + 6) + 6) + 2904) ba131 bb132 11 (3 : Int32) m52 _ _ _ (((cells + 1) + 1) + 1) (((slots + 6) + 6) + 6) (Nat.le_refl _) (Nat.le_refl _) hf hM hS (lv_sub hl [1, 2, 0] rfl)
