set_option maxRecDepth 100000 in
set_option maxHeartbeats 4000000 in
theorem ls_1132 {p : Program} {l : Launch} {e : Env} {s : State} {m : MethodId} {below : List Frame} {meth : Method} {c : Code} {b L : Nat} {xs : Nat → Int32} {X0 X Y : gX} (C : lwE p l s m meth c b L xs X0 X Y) {v3 : Int32} {v4 : Int32} {mx my : gMem} {H : Heap} {locs : List Loc} {ls : Array Slot} {cells slots : Nat} (hcl : cells ≤ 15177) (hsl : slots ≤ 91934) (hf : S_1132 xs L v3 v4 mx my = some 1) (hM : gM X mx H) (hN : gM Y my H) (hS : va_S (gA X0) s.heap H locs) (hl : lv_has ls 26 [(0, .ref b), (1, .ref (X.1 + 0)), (3, .int v3), (4, .int v4)]) : W p l e room_1 s m #[Value.ref b] below meth c H locs cells slots (lw_Z below #[Value.ref b] s) (F0 m 1132 ls []) := by
  obtain ⟨⟨hx, hb, hr, hml, hown, hts, hXs, hbl, hlocks, hgv⟩, EX, EY, hX0, hA, hsX, hsY, hXY, hYX, hL, hl0⟩ := id C
  unfold S_1132 at hf
  refine lv_aload_n hx hb dL_law_1132 rfl (lv_at hl 1 rfl) ?_
  obtain ⟨r1, n2, hqq3, hf⟩ := gx0_o hf
  refine gk_Ti (gq_VX (As := []) (ci := 8) (rm := { frames := 6, cells := 1, slots := 6, locals := 103 }) EX hA hml hl.1 (c_X8_restore l X hl0 0 mx rfl hqq3) wt_X8_restore wl_RL_136 rfl rfl (by decide) rfl rfl hM hS rfl rfl (show _ ≤ 13 by decide) (show _ ≤ 496 by decide) (show _ + 1 ≤ 657678 by omega) (show _ + 6 ≤ 7128590 by omega) (Nat.le_of_ble_eq_true rfl) dL_law_1133 rfl) hsX hS (fun H1 locs hM hk hS => ?_)
  have hN := gM_oth hN hk hXY
  refine lv_iload_n hx hb dL_law_1136 rfl (lv_at hl 2 rfl) ?_
  refine lv_icmp_ne (tgt := 1162) hx hb dL_law_1137 (by decide) (fun h4 => ?_) (fun h4 => ?_)
  · have hf := g_f h4 hf
    refine lv_iconst (v := (0 : Int32)) hx hb dL_law_1162 (by decide) ?_
    exact absurd hf (by decide)
  · have hf := g_t h4 hf
    refine lv_aload_n hx hb dL_law_1140 rfl (lv_at hl 1 rfl) ?_
    refine lv_bipush (v := (16 : Int32)) hx hb dL_law_1141 (by decide) ?_
    obtain ⟨r5, n6, hqq7, hf⟩ := gx0_o hf
    refine gk_Ti (gq_VX (As := [.int (16 : Int32)]) (ci := 8) (rm := { frames := 6, cells := 1, slots := 6, locals := 105 }) EX hA hml hl.1 (c_X8_account l X hl0 0 (16 : Int32) n2 rfl hqq7) wt_X8_account wl_RL_48 rfl rfl (by decide) rfl rfl hM hS rfl rfl (show _ ≤ 13 by decide) (show _ ≤ 496 by decide) (show _ + 1 ≤ 657678 by omega) (show _ + 6 ≤ 7128590 by omega) (Nat.le_of_ble_eq_true rfl) dL_law_1143 rfl) hsX hS (fun H1 locs hM hk hS => ?_)
    have hN := gM_oth hN hk hXY
    refine lv_if_ne (tgt := 1162) hx hb dL_law_1146 (by decide) (fun h8 => ?_) (fun h8 => ?_)
    · have hf := g_f h8 hf
      refine lv_iconst (v := (0 : Int32)) hx hb dL_law_1162 (by decide) ?_
      exact absurd hf (by decide)
    · have hf := g_t h8 hf
      refine lv_aload_n hx hb dL_law_1149 rfl (lv_at hl 1 rfl) ?_
      obtain ⟨r9, n10, hqq11, hf⟩ := gx0_o hf
      refine gk_Ti (gq_SX (As := [.ref (X.1 + 0)]) (rm := { frames := 9, cells := 1465, slots := 8790, locals := 169 }) EX hA hml hl.1 (c_L_state l X hl0 0 n6 rfl hqq11) wt_L_state wl_RL_94 rfl hM hS rfl rfl (show _ ≤ 13 by decide) (show _ ≤ 496 by decide) (show _ + 1465 ≤ 657678 by omega) (show _ + 8790 ≤ 7128590 by omega) (Nat.le_of_ble_eq_true rfl) dL_law_1150 rfl) hsX hS (fun H1 locs hM hk hS => ?_)
      have hN := gM_oth hN hk hXY
      refine lv_iload hx hb dL_law_1153 (lv_at hl 3 rfl) ?_
      refine lv_icmp_ne (tgt := 1162) hx hb dL_law_1155 (by decide) (fun h12 => ?_) (fun h12 => ?_)
      · have hf := g_f h12 hf
        refine lv_iconst (v := (0 : Int32)) hx hb dL_law_1162 (by decide) ?_
        exact absurd hf (by decide)
      · have hf := g_t h12 hf
        refine lv_iconst (v := (1 : Int32)) hx hb dL_law_1158 (by decide) ?_
        refine lv_goto (tgt := 1163) hx hb dL_law_1159 (by decide) ?_
        refine va_forget (fun q hq => ?_) (W.widen (k := 657678) (n := 7128590) (by omega) (by omega) (lw_ret hx hb hr hlocks dL_law_1163))
        have h2 : X0.1 ≤ q.base := (hS.2.2 q hq).1
        omega
set_option maxRecDepth 100000 in
set_option maxHeartbeats 4000000 in
theorem ls_927 {p : Program} {l : Launch} {e : Env} {s : State} {m : MethodId} {below : List Frame} {meth : Method} {c : Code} {b L : Nat} {xs : Nat → Int32} {X0 X Y : gX} (C : lwE p l s m meth c b L xs X0 X Y) {v3 : Int32} {v4 : Int32} {v7 : Int32} {v11 : Int32} {mx my : gMem} {H : Heap} {locs : List Loc} {ls : Array Slot} {cells slots : Nat} (hcl : cells ≤ 15154) (hsl : slots ≤ 91796) (hf : S_927 xs L v3 v4 v7 v11 mx my = some 1) (hM : gM X mx H) (hN : gM Y my H) (hS : va_S (gA X0) s.heap H locs) (hl : lv_has ls 26 [(0, .ref b), (1, .ref (X.1 + 0)), (3, .int v3), (4, .int v4), (7, .int v7), (11, .int v11)]) : W p l e room_1 s m #[Value.ref b] below meth c H locs cells slots (lw_Z below #[Value.ref b] s) (F0 m 927 ls []) := by
  obtain ⟨⟨hx, hb, hr, hml, hown, hts, hXs, hbl, hlocks, hgv⟩, EX, EY, hX0, hA, hsX, hsY, hXY, hYX, hL, hl0⟩ := id C
  unfold S_927 at hf
  refine lv_aload_n hx hb dL_law_927 rfl (lv_at hl 1 rfl) ?_
  obtain ⟨r13, n14, hqq15, hf⟩ := gx0_o hf
  refine gk_Ti (gq_VX (As := []) (ci := 8) (rm := { frames := 6, cells := 1, slots := 6, locals := 103 }) EX hA hml hl.1 (c_X8_restore l X hl0 0 mx rfl hqq15) wt_X8_restore wl_RL_136 rfl rfl (by decide) rfl rfl hM hS rfl rfl (show _ ≤ 13 by decide) (show _ ≤ 496 by decide) (show _ + 1 ≤ 657678 by omega) (show _ + 6 ≤ 7128590 by omega) (Nat.le_of_ble_eq_true rfl) dL_law_928 rfl) hsX hS (fun H1 locs hM hk hS => ?_)
  have hN := gM_oth hN hk hXY
  refine lv_pop hx hb dL_law_931 rfl ?_
  refine lv_aload_n hx hb dL_law_932 rfl (lv_at hl 1 rfl) ?_
  refine lv_iconst (v := (0 : Int32)) hx hb dL_law_933 (by decide) ?_
  obtain ⟨r16, n17, hqq18, hf⟩ := gx0_o hf
  refine gk_Ti (gq_VX (As := [.int (0 : Int32)]) (ci := 8) (rm := { frames := 6, cells := 1, slots := 6, locals := 105 }) EX hA hml hl.1 (c_X8_account l X hl0 0 (0 : Int32) n14 rfl hqq18) wt_X8_account wl_RL_48 rfl rfl (by decide) rfl rfl hM hS rfl rfl (show _ ≤ 13 by decide) (show _ ≤ 496 by decide) (show _ + 1 ≤ 657678 by omega) (show _ + 6 ≤ 7128590 by omega) (Nat.le_of_ble_eq_true rfl) dL_law_934 rfl) hsX hS (fun H1 locs hM hk hS => ?_)
  have hN := gM_oth hN hk hXY
  refine lv_istore (lv' := [(23, .int r16), (0, .ref b), (1, .ref (X.1 + 0)), (3, .int v3), (4, .int v4), (7, .int v7), (11, .int v11)]) hx hb dL_law_937 hl (by decide) rfl (fun ls hl => ?_)
  refine lv_aload_n hx hb dL_law_939 rfl (lv_at hl 2 rfl) ?_
  refine lv_iconst (v := (5 : Int32)) hx hb dL_law_940 (by decide) ?_
  obtain ⟨r19, n20, hqq21, hf⟩ := gx0_o hf
  refine gk_Ti (gq_VX (As := [.int (5 : Int32)]) (ci := 8) (rm := { frames := 6, cells := 1, slots := 6, locals := 105 }) EX hA hml hl.1 (c_X8_account l X hl0 0 (5 : Int32) n17 rfl hqq21) wt_X8_account wl_RL_48 rfl rfl (by decide) rfl rfl hM hS rfl rfl (show _ ≤ 13 by decide) (show _ ≤ 496 by decide) (show _ + 1 ≤ 657678 by omega) (show _ + 6 ≤ 7128590 by omega) (Nat.le_of_ble_eq_true rfl) dL_law_941 rfl) hsX hS (fun H1 locs hM hk hS => ?_)
  have hN := gM_oth hN hk hXY
  refine lv_istore (lv' := [(24, .int r19), (23, .int r16), (0, .ref b), (1, .ref (X.1 + 0)), (3, .int v3), (4, .int v4), (7, .int v7), (11, .int v11)]) hx hb dL_law_944 hl (by decide) rfl (fun ls hl => ?_)
  refine lv_iload hx hb dL_law_946 (lv_at hl 0 rfl) ?_
  refine lv_bipush (v := (6 : Int32)) hx hb dL_law_948 (by decide) ?_
  refine lv_icmp_ge (tgt := 1093) hx hb dL_law_950 (by decide) (fun h22 => ?_) (fun h22 => ?_)
  · have hf := g_t h22 hf
    refine lv_aload_n hx hb dL_law_1093 rfl (lv_at hl 3 rfl) ?_
    refine lv_iconst (v := (3 : Int32)) hx hb dL_law_1094 (by decide) ?_
    refine lv_iload hx hb dL_law_1095 (lv_at hl 1 rfl) ?_
    refine lv_bipush (v := (9 : Int32)) hx hb dL_law_1097 (by decide) ?_
    refine lv_iadd hx hb dL_law_1099 ?_
    refine lv_iconst (v := (2 : Int32)) hx hb dL_law_1100 (by decide) ?_
    refine lv_bipush (v := (7 : Int32)) hx hb dL_law_1101 (by decide) ?_
    refine lv_iconst (v := (0 : Int32)) hx hb dL_law_1103 (by decide) ?_
    obtain ⟨r23, n24, hqq25, hf⟩ := g1_o hf
    refine gk_W (gq_SW (As := [.ref (X.1 + 0), .int (3 : Int32), .int (r16 + (9 : Int32)), .int (2 : Int32), .int (7 : Int32), .int (0 : Int32)]) (rm := { frames := 9, cells := 4, slots := 24, locals := 185 }) EX hA hml hl.1 (c_L_act l X hl0 0 (3 : Int32) (r16 + (9 : Int32)) (2 : Int32) (7 : Int32) (0 : Int32) n20 rfl hqq25) wt_L_act wl_RL_44 rfl hM hS rfl rfl (show _ ≤ 13 by decide) (show _ ≤ 496 by decide) (show _ + 4 ≤ 657678 by omega) (show _ + 24 ≤ 7128590 by omega) (Nat.le_of_ble_eq_true rfl) dL_law_1104 rfl) hsX hS (fun H1 locs hM hk hS => ?_)
    have hN := gM_oth hN hk hXY
    refine lv_iconst (v := (-1 : Int32)) hx hb dL_law_1107 (by decide) ?_
    refine lv_icmp_ne (tgt := 1130) hx hb dL_law_1108 (by decide) (fun h26 => ?_) (fun h26 => ?_)
    · have hf := g_f h26 hf
      refine lv_iconst (v := (0 : Int32)) hx hb dL_law_1130 (by decide) ?_
      exact absurd hf (by decide)
    · have hf := g_t h26 hf
      refine lv_aload_n hx hb dL_law_1111 rfl (lv_at hl 3 rfl) ?_
      refine lv_iconst (v := (0 : Int32)) hx hb dL_law_1112 (by decide) ?_
      obtain ⟨r27, n28, hqq29, hf⟩ := gx0_o hf
      refine gk_Ti (gq_VX (As := [.int (0 : Int32)]) (ci := 8) (rm := { frames := 6, cells := 1, slots := 6, locals := 100 }) EX hA hml hl.1 (c_X8_refusal l X hl0 0 (0 : Int32) n24 rfl hqq29) wt_X8_refusal wl_RL_132 rfl rfl (by decide) rfl rfl hM hS rfl rfl (show _ ≤ 13 by decide) (show _ ≤ 496 by decide) (show _ + 1 ≤ 657678 by omega) (show _ + 6 ≤ 7128590 by omega) (Nat.le_of_ble_eq_true rfl) dL_law_1113 rfl) hsX hS (fun H1 locs hM hk hS => ?_)
      have hN := gM_oth hN hk hXY
      refine lv_iconst (v := (1 : Int32)) hx hb dL_law_1116 (by decide) ?_
      refine lv_icmp_ne (tgt := 1130) hx hb dL_law_1117 (by decide) (fun h30 => ?_) (fun h30 => ?_)
      · have hf := g_f h30 hf
        refine lv_iconst (v := (0 : Int32)) hx hb dL_law_1130 (by decide) ?_
        exact absurd hf (by decide)
      · have hf := g_t h30 hf
        refine lv_aload_n hx hb dL_law_1120 rfl (lv_at hl 3 rfl) ?_
        refine lv_iconst (v := (1 : Int32)) hx hb dL_law_1121 (by decide) ?_
        obtain ⟨r31, n32, hqq33, hf⟩ := gx0_o hf
        refine gk_Ti (gq_VX (As := [.int (1 : Int32)]) (ci := 8) (rm := { frames := 6, cells := 1, slots := 6, locals := 100 }) EX hA hml hl.1 (c_X8_refusal l X hl0 0 (1 : Int32) n28 rfl hqq33) wt_X8_refusal wl_RL_132 rfl rfl (by decide) rfl rfl hM hS rfl rfl (show _ ≤ 13 by decide) (show _ ≤ 496 by decide) (show _ + 1 ≤ 657678 by omega) (show _ + 6 ≤ 7128590 by omega) (Nat.le_of_ble_eq_true rfl) dL_law_1122 rfl) hsX hS (fun H1 locs hM hk hS => ?_)
        have hN := gM_oth hN hk hXY
        refine lv_bipush (v := (6 : Int32)) hx hb dL_law_1125 (by decide) ?_
        refine lv_icmp_eq (tgt := 1132) hx hb dL_law_1127 (by decide) (fun h34 => ?_) (fun h34 => ?_)
        · have hf := g_t h34 hf
          exact ls_1132 C (by omega) (by omega) hf hM hN hS (lv_sub hl [2, 3, 4, 5] rfl)
        · have hf := g_f h34 hf
          refine lv_iconst (v := (0 : Int32)) hx hb dL_law_1130 (by decide) ?_
          exact absurd hf (by decide)
  · have hf := g_f h22 hf
    refine lv_aload_n hx hb dL_law_953 rfl (lv_at hl 3 rfl) ?_
    refine lv_iconst (v := (3 : Int32)) hx hb dL_law_954 (by decide) ?_
    refine lv_iload hx hb dL_law_955 (lv_at hl 1 rfl) ?_
    refine lv_iconst (v := (1 : Int32)) hx hb dL_law_957 (by decide) ?_
    refine lv_iconst (v := (1 : Int32)) hx hb dL_law_958 (by decide) ?_
    refine lv_iconst (v := (0 : Int32)) hx hb dL_law_959 (by decide) ?_
    obtain ⟨r35, n36, hqq37, hf⟩ := g1_o hf
    refine gk_W (gq_SW (As := [.ref (X.1 + 0), .int (3 : Int32), .int r16, .int (1 : Int32), .int (1 : Int32), .int (0 : Int32)]) (rm := { frames := 9, cells := 4, slots := 24, locals := 185 }) EX hA hml hl.1 (c_L_act l X hl0 0 (3 : Int32) r16 (1 : Int32) (1 : Int32) (0 : Int32) n20 rfl hqq37) wt_L_act wl_RL_44 rfl hM hS rfl rfl (show _ ≤ 13 by decide) (show _ ≤ 496 by decide) (show _ + 4 ≤ 657678 by omega) (show _ + 24 ≤ 7128590 by omega) (Nat.le_of_ble_eq_true rfl) dL_law_960 rfl) hsX hS (fun H1 locs hM hk hS => ?_)
    have hN := gM_oth hN hk hXY
    refine lv_iconst (v := (-1 : Int32)) hx hb dL_law_963 (by decide) ?_
    refine lv_icmp_ne (tgt := 987) hx hb dL_law_964 (by decide) (fun h38 => ?_) (fun h38 => ?_)
    · have hf := g_f h38 hf
      refine lv_iconst (v := (0 : Int32)) hx hb dL_law_987 (by decide) ?_
      exact absurd hf (by decide)
    · have hf := g_t h38 hf
      refine lv_aload_n hx hb dL_law_967 rfl (lv_at hl 3 rfl) ?_
      refine lv_iconst (v := (0 : Int32)) hx hb dL_law_968 (by decide) ?_
      obtain ⟨r39, n40, hqq41, hf⟩ := gx0_o hf
      refine gk_Ti (gq_VX (As := [.int (0 : Int32)]) (ci := 8) (rm := { frames := 6, cells := 1, slots := 6, locals := 100 }) EX hA hml hl.1 (c_X8_refusal l X hl0 0 (0 : Int32) n36 rfl hqq41) wt_X8_refusal wl_RL_132 rfl rfl (by decide) rfl rfl hM hS rfl rfl (show _ ≤ 13 by decide) (show _ ≤ 496 by decide) (show _ + 1 ≤ 657678 by omega) (show _ + 6 ≤ 7128590 by omega) (Nat.le_of_ble_eq_true rfl) dL_law_969 rfl) hsX hS (fun H1 locs hM hk hS => ?_)
      have hN := gM_oth hN hk hXY
      refine lv_bipush (v := (10 : Int32)) hx hb dL_law_972 (by decide) ?_
      refine lv_icmp_ne (tgt := 987) hx hb dL_law_974 (by decide) (fun h42 => ?_) (fun h42 => ?_)
      · have hf := g_f h42 hf
        refine lv_iconst (v := (0 : Int32)) hx hb dL_law_987 (by decide) ?_
        exact absurd hf (by decide)
      · have hf := g_t h42 hf
        refine lv_aload_n hx hb dL_law_977 rfl (lv_at hl 3 rfl) ?_
        refine lv_iconst (v := (1 : Int32)) hx hb dL_law_978 (by decide) ?_
        obtain ⟨r43, n44, hqq45, hf⟩ := gx0_o hf
        refine gk_Ti (gq_VX (As := [.int (1 : Int32)]) (ci := 8) (rm := { frames := 6, cells := 1, slots := 6, locals := 100 }) EX hA hml hl.1 (c_X8_refusal l X hl0 0 (1 : Int32) n40 rfl hqq45) wt_X8_refusal wl_RL_132 rfl rfl (by decide) rfl rfl hM hS rfl rfl (show _ ≤ 13 by decide) (show _ ≤ 496 by decide) (show _ + 1 ≤ 657678 by omega) (show _ + 6 ≤ 7128590 by omega) (Nat.le_of_ble_eq_true rfl) dL_law_979 rfl) hsX hS (fun H1 locs hM hk hS => ?_)
        have hN := gM_oth hN hk hXY
        refine lv_iload hx hb dL_law_982 (lv_at hl 1 rfl) ?_
        refine lv_icmp_eq (tgt := 989) hx hb dL_law_984 (by decide) (fun h46 => ?_) (fun h46 => ?_)
        · have hf := g_t h46 hf
          refine lv_aload_n hx hb dL_law_989 rfl (lv_at hl 3 rfl) ?_
          refine lv_iconst (v := (3 : Int32)) hx hb dL_law_990 (by decide) ?_
          refine lv_iload hx hb dL_law_991 (lv_at hl 1 rfl) ?_
          refine lv_bipush (v := (9 : Int32)) hx hb dL_law_993 (by decide) ?_
          refine lv_iadd hx hb dL_law_995 ?_
          refine lv_iconst (v := (2 : Int32)) hx hb dL_law_996 (by decide) ?_
          refine lv_bipush (v := (7 : Int32)) hx hb dL_law_997 (by decide) ?_
          refine lv_iconst (v := (0 : Int32)) hx hb dL_law_999 (by decide) ?_
          obtain ⟨r47, n48, hqq49, hf⟩ := g1_o hf
          refine gk_W (gq_SW (As := [.ref (X.1 + 0), .int (3 : Int32), .int (r16 + (9 : Int32)), .int (2 : Int32), .int (7 : Int32), .int (0 : Int32)]) (rm := { frames := 9, cells := 4, slots := 24, locals := 185 }) EX hA hml hl.1 (c_L_act l X hl0 0 (3 : Int32) (r16 + (9 : Int32)) (2 : Int32) (7 : Int32) (0 : Int32) n44 rfl hqq49) wt_L_act wl_RL_44 rfl hM hS rfl rfl (show _ ≤ 13 by decide) (show _ ≤ 496 by decide) (show _ + 4 ≤ 657678 by omega) (show _ + 24 ≤ 7128590 by omega) (Nat.le_of_ble_eq_true rfl) dL_law_1000 rfl) hsX hS (fun H1 locs hM hk hS => ?_)
          have hN := gM_oth hN hk hXY
          refine lv_istore (lv' := [(25, .int r47), (24, .int r19), (23, .int r16), (0, .ref b), (1, .ref (X.1 + 0)), (3, .int v3), (4, .int v4), (7, .int v7), (11, .int v11)]) hx hb dL_law_1003 hl (by decide) rfl (fun ls hl => ?_)
          refine lv_iload hx hb dL_law_1005 (lv_at hl 0 rfl) ?_
          refine lv_if_lt (tgt := 1044) hx hb dL_law_1007 (by decide) (fun h50 => ?_) (fun h50 => ?_)
          · have hf := g_t h50 hf
            refine lv_iconst (v := (0 : Int32)) hx hb dL_law_1044 (by decide) ?_
            exact absurd hf (by decide)
          · have hf := g_f h50 hf
            refine lv_aload_n hx hb dL_law_1010 rfl (lv_at hl 4 rfl) ?_
            refine lv_iconst (v := (5 : Int32)) hx hb dL_law_1011 (by decide) ?_
            obtain ⟨r51, n52, hqq53, hf⟩ := gx0_o hf
            refine gk_Ti (gq_VX (As := [.int (5 : Int32)]) (ci := 8) (rm := { frames := 6, cells := 1, slots := 6, locals := 105 }) EX hA hml hl.1 (c_X8_account l X hl0 0 (5 : Int32) n48 rfl hqq53) wt_X8_account wl_RL_48 rfl rfl (by decide) rfl rfl hM hS rfl rfl (show _ ≤ 13 by decide) (show _ ≤ 496 by decide) (show _ + 1 ≤ 657678 by omega) (show _ + 6 ≤ 7128590 by omega) (Nat.le_of_ble_eq_true rfl) dL_law_1012 rfl) hsX hS (fun H1 locs hM hk hS => ?_)
            have hN := gM_oth hN hk hXY
            refine lv_iload hx hb dL_law_1015 (lv_at hl 1 rfl) ?_
            refine lv_iconst (v := (1 : Int32)) hx hb dL_law_1017 (by decide) ?_
            refine lv_iadd hx hb dL_law_1018 ?_
            refine lv_icmp_ne (tgt := 1044) hx hb dL_law_1019 (by decide) (fun h54 => ?_) (fun h54 => ?_)
            · have hf := g_f h54 hf
              refine lv_iconst (v := (0 : Int32)) hx hb dL_law_1044 (by decide) ?_
              exact absurd hf (by decide)
            · have hf := g_t h54 hf
              refine lv_aload_n hx hb dL_law_1022 rfl (lv_at hl 4 rfl) ?_
              refine lv_iload hx hb dL_law_1023 (lv_at hl 0 rfl) ?_
              refine lv_iconst (v := (3 : Int32)) hx hb dL_law_1025 (by decide) ?_
              obtain ⟨r55, n56, hqq57, hf⟩ := gx0_o hf
              refine gk_Ti (gq_VX (As := [.int r47, .int (3 : Int32)]) (ci := 8) (rm := { frames := 7, cells := 2, slots := 12, locals := 122 }) EX hA hml hl.1 (c_X8_banquetOf l X hl0 0 r47 (3 : Int32) n52 rfl hqq57) wt_X8_banquetOf wl_RL_139 rfl rfl (by decide) rfl rfl hM hS rfl rfl (show _ ≤ 13 by decide) (show _ ≤ 496 by decide) (show _ + 2 ≤ 657678 by omega) (show _ + 12 ≤ 7128590 by omega) (Nat.le_of_ble_eq_true rfl) dL_law_1026 rfl) hsX hS (fun H1 locs hM hk hS => ?_)
              have hN := gM_oth hN hk hXY
              refine lv_iconst (v := (-1 : Int32)) hx hb dL_law_1029 (by decide) ?_
              refine lv_icmp_ne (tgt := 1044) hx hb dL_law_1030 (by decide) (fun h58 => ?_) (fun h58 => ?_)
              · have hf := g_f h58 hf
                refine lv_iconst (v := (0 : Int32)) hx hb dL_law_1044 (by decide) ?_
                exact absurd hf (by decide)
              · have hf := g_t h58 hf
                refine lv_aload_n hx hb dL_law_1033 rfl (lv_at hl 4 rfl) ?_
                refine lv_iload hx hb dL_law_1034 (lv_at hl 0 rfl) ?_
                refine lv_iconst (v := (4 : Int32)) hx hb dL_law_1036 (by decide) ?_
                obtain ⟨r59, n60, hqq61, hf⟩ := gx0_o hf
                refine gk_Ti (gq_VX (As := [.int r47, .int (4 : Int32)]) (ci := 8) (rm := { frames := 7, cells := 2, slots := 12, locals := 122 }) EX hA hml hl.1 (c_X8_banquetOf l X hl0 0 r47 (4 : Int32) n56 rfl hqq61) wt_X8_banquetOf wl_RL_139 rfl rfl (by decide) rfl rfl hM hS rfl rfl (show _ ≤ 13 by decide) (show _ ≤ 496 by decide) (show _ + 2 ≤ 657678 by omega) (show _ + 12 ≤ 7128590 by omega) (Nat.le_of_ble_eq_true rfl) dL_law_1037 rfl) hsX hS (fun H1 locs hM hk hS => ?_)
                have hN := gM_oth hN hk hXY
                refine lv_iconst (v := (2 : Int32)) hx hb dL_law_1040 (by decide) ?_
                refine lv_icmp_eq (tgt := 1046) hx hb dL_law_1041 (by decide) (fun h62 => ?_) (fun h62 => ?_)
                · have hf := g_t h62 hf
                  refine lv_aload_n hx hb dL_law_1046 rfl (lv_at hl 4 rfl) ?_
                  refine lv_iload hx hb dL_law_1047 (lv_at hl 0 rfl) ?_
                  refine lv_iload hx hb dL_law_1049 (lv_at hl 7 rfl) ?_
                  obtain ⟨r63, n64, hqq65, hf⟩ := gx0_o hf
                  refine gk_Ti (gq_VX (As := [.int r47, .int v7]) (ci := 8) (rm := { frames := 7, cells := 2, slots := 12, locals := 124 }) EX hA hml hl.1 (c_X8_show l X hl0 0 r47 v7 n60 rfl hqq65) wt_X8_show wl_RL_51 rfl rfl (by decide) rfl rfl hM hS rfl rfl (show _ ≤ 13 by decide) (show _ ≤ 496 by decide) (show _ + 2 ≤ 657678 by omega) (show _ + 12 ≤ 7128590 by omega) (Nat.le_of_ble_eq_true rfl) dL_law_1051 rfl) hsX hS (fun H1 locs hM hk hS => ?_)
                  have hN := gM_oth hN hk hXY
                  refine lv_iconst (v := (0 : Int32)) hx hb dL_law_1054 (by decide) ?_
                  refine lv_iconst (v := (2 : Int32)) hx hb dL_law_1055 (by decide) ?_
                  refine lv_iload hx hb dL_law_1056 (lv_at hl 8 rfl) ?_
                  refine lv_isub hx hb dL_law_1058 ?_
                  refine gg_max EX hml hl.1 wl_RL_82 wj_max_s wj_math wj_max_c (show _ ≤ 13 by decide) (Nat.le_of_ble_eq_true rfl) (show _ ≤ 657678 by omega) (show _ ≤ 7128590 by omega) dL_law_1059 ?_
                  refine lv_icmp_ne (tgt := 1088) hx hb dL_law_1062 (by decide) (fun h66 => ?_) (fun h66 => ?_)
                  · have hf := g_f h66 hf
                    refine lv_iconst (v := (0 : Int32)) hx hb dL_law_1088 (by decide) ?_
                    exact absurd hf (by decide)
                  · have hf := g_t h66 hf
                    refine lv_aload_n hx hb dL_law_1065 rfl (lv_at hl 4 rfl) ?_
                    refine lv_iload hx hb dL_law_1066 (lv_at hl 0 rfl) ?_
                    refine lv_iconst (v := (3 : Int32)) hx hb dL_law_1068 (by decide) ?_
                    obtain ⟨r67, n68, hqq69, hf⟩ := gx0_o hf
                    refine gk_Ti (gq_VX (As := [.int r47, .int (3 : Int32)]) (ci := 8) (rm := { frames := 7, cells := 2, slots := 12, locals := 122 }) EX hA hml hl.1 (c_X8_banquetOf l X hl0 0 r47 (3 : Int32) n64 rfl hqq69) wt_X8_banquetOf wl_RL_139 rfl rfl (by decide) rfl rfl hM hS rfl rfl (show _ ≤ 13 by decide) (show _ ≤ 496 by decide) (show _ + 2 ≤ 657678 by omega) (show _ + 12 ≤ 7128590 by omega) (Nat.le_of_ble_eq_true rfl) dL_law_1069 rfl) hsX hS (fun H1 locs hM hk hS => ?_)
                    have hN := gM_oth hN hk hXY
                    refine lv_iload hx hb dL_law_1072 (lv_at hl 7 rfl) ?_
                    refine lv_icmp_ne (tgt := 1088) hx hb dL_law_1074 (by decide) (fun h70 => ?_) (fun h70 => ?_)
                    · have hf := g_f h70 hf
                      refine lv_iconst (v := (0 : Int32)) hx hb dL_law_1088 (by decide) ?_
                      exact absurd hf (by decide)
                    · have hf := g_t h70 hf
                      refine lv_aload_n hx hb dL_law_1077 rfl (lv_at hl 4 rfl) ?_
                      refine lv_iload hx hb dL_law_1078 (lv_at hl 0 rfl) ?_
                      obtain ⟨r71, n72, hqq73, hf⟩ := gx0_o hf
                      refine gk_Ti (gq_VX (As := [.int r47]) (ci := 8) (rm := { frames := 7, cells := 1, slots := 6, locals := 124 }) EX hA hml hl.1 (c_X8_cancel l X hl0 0 r47 n68 rfl hqq73) wt_X8_cancel wl_RL_142 rfl rfl (by decide) rfl rfl hM hS rfl rfl (show _ ≤ 13 by decide) (show _ ≤ 496 by decide) (show _ + 1 ≤ 657678 by omega) (show _ + 6 ≤ 7128590 by omega) (Nat.le_of_ble_eq_true rfl) dL_law_1080 rfl) hsX hS (fun H1 locs hM hk hS => ?_)
                      have hN := gM_oth hN hk hXY
                      refine lv_iload hx hb dL_law_1083 (lv_at hl 1 rfl) ?_
                      refine lv_icmp_eq (tgt := 1090) hx hb dL_law_1085 (by decide) (fun h74 => ?_) (fun h74 => ?_)
                      · have hf := g_t h74 hf
                        refine lv_goto (tgt := 1132) hx hb dL_law_1090 (by decide) ?_
                        exact ls_1132 C (by omega) (by omega) hf hM hN hS (lv_sub hl [3, 4, 5, 6] rfl)
                      · have hf := g_f h74 hf
                        refine lv_iconst (v := (0 : Int32)) hx hb dL_law_1088 (by decide) ?_
                        exact absurd hf (by decide)
                · have hf := g_f h62 hf
                  refine lv_iconst (v := (0 : Int32)) hx hb dL_law_1044 (by decide) ?_
                  exact absurd hf (by decide)
        · have hf := g_f h46 hf
          refine lv_iconst (v := (0 : Int32)) hx hb dL_law_987 (by decide) ?_
          exact absurd hf (by decide)
set_option maxRecDepth 100000 in
set_option maxHeartbeats 4000000 in
theorem ls_784 {p : Program} {l : Launch} {e : Env} {s : State} {m : MethodId} {below : List Frame} {meth : Method} {c : Code} {b L : Nat} {xs : Nat → Int32} {X0 X Y : gX} (C : lwE p l s m meth c b L xs X0 X Y) {v3 : Int32} {v4 : Int32} {v6 : Int32} {v7 : Int32} {v9 : Int32} {v11 : Int32} {v13 : Int32} {mx my : gMem} {H : Heap} {locs : List Loc} {ls : Array Slot} {cells slots : Nat} (hcl : cells ≤ 15147) (hsl : slots ≤ 91754) (hf : S_784 xs L v3 v4 v6 v7 v9 v11 v13 mx my = some 1) (hM : gM X mx H) (hN : gM Y my H) (hS : va_S (gA X0) s.heap H locs) (hl : lv_has ls 26 [(0, .ref b), (1, .ref (X.1 + 0)), (3, .int v3), (4, .int v4), (6, .int v6), (7, .int v7), (9, .int v9), (11, .int v11), (13, .int v13)]) : W p l e room_1 s m #[Value.ref b] below meth c H locs cells slots (lw_Z below #[Value.ref b] s) (F0 m 784 ls []) := by
  obtain ⟨⟨hx, hb, hr, hml, hown, hts, hXs, hbl, hlocks, hgv⟩, EX, EY, hX0, hA, hsX, hsY, hXY, hYX, hL, hl0⟩ := id C
  unfold S_784 at hf
  refine lv_aload_n hx hb dL_law_784 rfl (lv_at hl 1 rfl) ?_
  refine lv_iconst (v := (1 : Int32)) hx hb dL_law_785 (by decide) ?_
  obtain ⟨r75, n76, hqq77, hf⟩ := gx0_o hf
  refine gk_Ti (gq_VX (As := [.int (1 : Int32)]) (ci := 8) (rm := { frames := 6, cells := 1, slots := 6, locals := 105 }) EX hA hml hl.1 (c_X8_account l X hl0 0 (1 : Int32) mx rfl hqq77) wt_X8_account wl_RL_48 rfl rfl (by decide) rfl rfl hM hS rfl rfl (show _ ≤ 13 by decide) (show _ ≤ 496 by decide) (show _ + 1 ≤ 657678 by omega) (show _ + 6 ≤ 7128590 by omega) (Nat.le_of_ble_eq_true rfl) dL_law_786 rfl) hsX hS (fun H1 locs hM hk hS => ?_)
  have hN := gM_oth hN hk hXY
  refine lv_istore (lv' := [(19, .int r75), (0, .ref b), (1, .ref (X.1 + 0)), (3, .int v3), (4, .int v4), (6, .int v6), (7, .int v7), (9, .int v9), (11, .int v11), (13, .int v13)]) hx hb dL_law_789 hl (by decide) rfl (fun ls hl => ?_)
  refine lv_iconst (v := (1 : Int32)) hx hb dL_law_791 (by decide) ?_
  refine lv_iload hx hb dL_law_792 (lv_at hl 5 rfl) ?_
  refine lv_bipush (v := (9 : Int32)) hx hb dL_law_794 (by decide) ?_
  refine lv_ishr hx hb dL_law_796 ?_
  refine lv_bipush (v := (31 : Int32)) hx hb dL_law_797 (by decide) ?_
  refine lv_iand hx hb dL_law_799 ?_
  refine lv_iadd hx hb dL_law_800 ?_
  obtain ⟨x78, ex78, hf⟩ := gv_o hf
  rw [← ex78]
  refine lv_istore (lv' := [(20, .int x78), (19, .int r75), (0, .ref b), (1, .ref (X.1 + 0)), (3, .int v3), (4, .int v4), (6, .int v6), (7, .int v7), (9, .int v9), (11, .int v11), (13, .int v13)]) hx hb dL_law_801 hl (by decide) rfl (fun ls hl => ?_)
  refine lv_iload hx hb dL_law_803 (lv_at hl 0 rfl) ?_
  refine lv_iload hx hb dL_law_805 (lv_at hl 8 rfl) ?_
  refine lv_iconst (v := (1 : Int32)) hx hb dL_law_807 (by decide) ?_
  refine lv_iadd hx hb dL_law_808 ?_
  refine lv_imul hx hb dL_law_809 ?_
  obtain ⟨x79, ex79, hf⟩ := gv_o hf
  rw [← ex79]
  refine lv_istore (lv' := [(21, .int x79), (20, .int x78), (19, .int r75), (0, .ref b), (1, .ref (X.1 + 0)), (3, .int v3), (4, .int v4), (6, .int v6), (7, .int v7), (9, .int v9), (11, .int v11), (13, .int v13)]) hx hb dL_law_810 hl (by decide) rfl (fun ls hl => ?_)
  refine lv_aload_n hx hb dL_law_812 rfl (lv_at hl 4 rfl) ?_
  refine lv_iconst (v := (2 : Int32)) hx hb dL_law_813 (by decide) ?_
  refine lv_iload hx hb dL_law_814 (lv_at hl 9 rfl) ?_
  refine lv_iload hx hb dL_law_816 (lv_at hl 1 rfl) ?_
  refine lv_iconst (v := (0 : Int32)) hx hb dL_law_818 (by decide) ?_
  refine lv_iconst (v := (0 : Int32)) hx hb dL_law_819 (by decide) ?_
  obtain ⟨r80, n81, hqq82, hf⟩ := g1_o hf
  refine gk_W (gq_SW (As := [.ref (X.1 + 0), .int (2 : Int32), .int v9, .int x78, .int (0 : Int32), .int (0 : Int32)]) (rm := { frames := 9, cells := 4, slots := 24, locals := 185 }) EX hA hml hl.1 (c_L_act l X hl0 0 (2 : Int32) v9 x78 (0 : Int32) (0 : Int32) n76 rfl hqq82) wt_L_act wl_RL_44 rfl hM hS rfl rfl (show _ ≤ 13 by decide) (show _ ≤ 496 by decide) (show _ + 4 ≤ 657678 by omega) (show _ + 24 ≤ 7128590 by omega) (Nat.le_of_ble_eq_true rfl) dL_law_820 rfl) hsX hS (fun H1 locs hM hk hS => ?_)
  have hN := gM_oth hN hk hXY
  refine lv_istore (lv' := [(22, .int r80), (21, .int x79), (20, .int x78), (19, .int r75), (0, .ref b), (1, .ref (X.1 + 0)), (3, .int v3), (4, .int v4), (6, .int v6), (7, .int v7), (9, .int v9), (11, .int v11), (13, .int v13)]) hx hb dL_law_823 hl (by decide) rfl (fun ls hl => ?_)
  refine lv_iload hx hb dL_law_825 (lv_at hl 12 rfl) ?_
  refine lv_iload hx hb dL_law_827 (lv_at hl 2 rfl) ?_
  refine lv_iadd hx hb dL_law_829 ?_
  refine lv_sipush (v := (300 : Int32)) hx hb dL_law_830 (by decide) ?_
  refine lv_icmp_le (tgt := 864) hx hb dL_law_833 (by decide) (fun h83 => ?_) (fun h83 => ?_)
  · have hf := g_t h83 hf
    refine lv_iload hx hb dL_law_864 (lv_at hl 3 rfl) ?_
    refine lv_iload hx hb dL_law_866 (lv_at hl 1 rfl) ?_
    refine lv_icmp_ge (tgt := 902) hx hb dL_law_868 (by decide) (fun h84 => ?_) (fun h84 => ?_)
    · have hf := g_t h84 hf
      refine lv_iload hx hb dL_law_902 (lv_at hl 0 rfl) ?_
      refine lv_iload hx hb dL_law_904 (lv_at hl 12 rfl) ?_
      refine lv_iload hx hb dL_law_906 (lv_at hl 2 rfl) ?_
      refine lv_iadd hx hb dL_law_908 ?_
      refine lv_icmp_ne (tgt := 925) hx hb dL_law_909 (by decide) (fun h85 => ?_) (fun h85 => ?_)
      · have hf := g_f h85 hf
        refine lv_iconst (v := (0 : Int32)) hx hb dL_law_925 (by decide) ?_
        exact absurd hf (by decide)
      · have hf := g_t h85 hf
        refine lv_aload_n hx hb dL_law_912 rfl (lv_at hl 5 rfl) ?_
        refine lv_iconst (v := (1 : Int32)) hx hb dL_law_913 (by decide) ?_
        obtain ⟨r86, n87, hqq88, hf⟩ := gx0_o hf
        refine gk_Ti (gq_VX (As := [.int (1 : Int32)]) (ci := 8) (rm := { frames := 6, cells := 1, slots := 6, locals := 105 }) EX hA hml hl.1 (c_X8_account l X hl0 0 (1 : Int32) n81 rfl hqq88) wt_X8_account wl_RL_48 rfl rfl (by decide) rfl rfl hM hS rfl rfl (show _ ≤ 13 by decide) (show _ ≤ 496 by decide) (show _ + 1 ≤ 657678 by omega) (show _ + 6 ≤ 7128590 by omega) (Nat.le_of_ble_eq_true rfl) dL_law_914 rfl) hsX hS (fun H1 locs hM hk hS => ?_)
        have hN := gM_oth hN hk hXY
        refine lv_iload hx hb dL_law_917 (lv_at hl 3 rfl) ?_
        refine lv_iload hx hb dL_law_919 (lv_at hl 1 rfl) ?_
        refine lv_isub hx hb dL_law_921 ?_
        refine lv_icmp_eq (tgt := 927) hx hb dL_law_922 (by decide) (fun h89 => ?_) (fun h89 => ?_)
        · have hf := g_t h89 hf
          exact ls_927 C (by omega) (by omega) hf hM hN hS (lv_sub hl [4, 5, 6, 7, 9, 11] rfl)
        · have hf := g_f h89 hf
          refine lv_iconst (v := (0 : Int32)) hx hb dL_law_925 (by decide) ?_
          exact absurd hf (by decide)
    · have hf := g_f h84 hf
      refine lv_iload hx hb dL_law_871 (lv_at hl 0 rfl) ?_
      refine lv_iconst (v := (-1 : Int32)) hx hb dL_law_873 (by decide) ?_
      refine lv_icmp_ne (tgt := 925) hx hb dL_law_874 (by decide) (fun h90 => ?_) (fun h90 => ?_)
      · have hf := g_f h90 hf
        refine lv_iconst (v := (0 : Int32)) hx hb dL_law_925 (by decide) ?_
        exact absurd hf (by decide)
      · have hf := g_t h90 hf
        refine lv_aload_n hx hb dL_law_877 rfl (lv_at hl 5 rfl) ?_
        refine lv_iconst (v := (0 : Int32)) hx hb dL_law_878 (by decide) ?_
        obtain ⟨r91, n92, hqq93, hf⟩ := gx0_o hf
        refine gk_Ti (gq_VX (As := [.int (0 : Int32)]) (ci := 8) (rm := { frames := 6, cells := 1, slots := 6, locals := 100 }) EX hA hml hl.1 (c_X8_refusal l X hl0 0 (0 : Int32) n81 rfl hqq93) wt_X8_refusal wl_RL_132 rfl rfl (by decide) rfl rfl hM hS rfl rfl (show _ ≤ 13 by decide) (show _ ≤ 496 by decide) (show _ + 1 ≤ 657678 by omega) (show _ + 6 ≤ 7128590 by omega) (Nat.le_of_ble_eq_true rfl) dL_law_879 rfl) hsX hS (fun H1 locs hM hk hS => ?_)
        have hN := gM_oth hN hk hXY
        refine lv_iconst (v := (2 : Int32)) hx hb dL_law_882 (by decide) ?_
        refine lv_icmp_ne (tgt := 925) hx hb dL_law_883 (by decide) (fun h94 => ?_) (fun h94 => ?_)
        · have hf := g_f h94 hf
          refine lv_iconst (v := (0 : Int32)) hx hb dL_law_925 (by decide) ?_
          exact absurd hf (by decide)
        · have hf := g_t h94 hf
          refine lv_aload_n hx hb dL_law_886 rfl (lv_at hl 5 rfl) ?_
          refine lv_iconst (v := (1 : Int32)) hx hb dL_law_887 (by decide) ?_
          obtain ⟨r95, n96, hqq97, hf⟩ := gx0_o hf
          refine gk_Ti (gq_VX (As := [.int (1 : Int32)]) (ci := 8) (rm := { frames := 6, cells := 1, slots := 6, locals := 100 }) EX hA hml hl.1 (c_X8_refusal l X hl0 0 (1 : Int32) n92 rfl hqq97) wt_X8_refusal wl_RL_132 rfl rfl (by decide) rfl rfl hM hS rfl rfl (show _ ≤ 13 by decide) (show _ ≤ 496 by decide) (show _ + 1 ≤ 657678 by omega) (show _ + 6 ≤ 7128590 by omega) (Nat.le_of_ble_eq_true rfl) dL_law_888 rfl) hsX hS (fun H1 locs hM hk hS => ?_)
          have hN := gM_oth hN hk hXY
          refine lv_iload hx hb dL_law_891 (lv_at hl 1 rfl) ?_
          refine lv_iload hx hb dL_law_893 (lv_at hl 3 rfl) ?_
          refine lv_isub hx hb dL_law_895 ?_
          refine lv_icmp_eq (tgt := 927) hx hb dL_law_896 (by decide) (fun h98 => ?_) (fun h98 => ?_)
          · have hf := g_t h98 hf
            exact ls_927 C (by omega) (by omega) hf hM hN hS (lv_sub hl [4, 5, 6, 7, 9, 11] rfl)
          · have hf := g_f h98 hf
            refine lv_goto (tgt := 925) hx hb dL_law_899 (by decide) ?_
            refine lv_iconst (v := (0 : Int32)) hx hb dL_law_925 (by decide) ?_
            exact absurd hf (by decide)
  · have hf := g_f h83 hf
    refine lv_iload hx hb dL_law_836 (lv_at hl 0 rfl) ?_
    refine lv_iconst (v := (-1 : Int32)) hx hb dL_law_838 (by decide) ?_
    refine lv_icmp_ne (tgt := 925) hx hb dL_law_839 (by decide) (fun h99 => ?_) (fun h99 => ?_)
    · have hf := g_f h99 hf
      refine lv_iconst (v := (0 : Int32)) hx hb dL_law_925 (by decide) ?_
      exact absurd hf (by decide)
    · have hf := g_t h99 hf
      refine lv_aload_n hx hb dL_law_842 rfl (lv_at hl 5 rfl) ?_
      refine lv_iconst (v := (0 : Int32)) hx hb dL_law_843 (by decide) ?_
      obtain ⟨r100, n101, hqq102, hf⟩ := gx0_o hf
      refine gk_Ti (gq_VX (As := [.int (0 : Int32)]) (ci := 8) (rm := { frames := 6, cells := 1, slots := 6, locals := 100 }) EX hA hml hl.1 (c_X8_refusal l X hl0 0 (0 : Int32) n81 rfl hqq102) wt_X8_refusal wl_RL_132 rfl rfl (by decide) rfl rfl hM hS rfl rfl (show _ ≤ 13 by decide) (show _ ≤ 496 by decide) (show _ + 1 ≤ 657678 by omega) (show _ + 6 ≤ 7128590 by omega) (Nat.le_of_ble_eq_true rfl) dL_law_844 rfl) hsX hS (fun H1 locs hM hk hS => ?_)
      have hN := gM_oth hN hk hXY
      refine lv_iconst (v := (3 : Int32)) hx hb dL_law_847 (by decide) ?_
      refine lv_icmp_ne (tgt := 925) hx hb dL_law_848 (by decide) (fun h103 => ?_) (fun h103 => ?_)
      · have hf := g_f h103 hf
        refine lv_iconst (v := (0 : Int32)) hx hb dL_law_925 (by decide) ?_
        exact absurd hf (by decide)
      · have hf := g_t h103 hf
        refine lv_aload_n hx hb dL_law_851 rfl (lv_at hl 5 rfl) ?_
        refine lv_iconst (v := (1 : Int32)) hx hb dL_law_852 (by decide) ?_
        obtain ⟨r104, n105, hqq106, hf⟩ := gx0_o hf
        refine gk_Ti (gq_VX (As := [.int (1 : Int32)]) (ci := 8) (rm := { frames := 6, cells := 1, slots := 6, locals := 100 }) EX hA hml hl.1 (c_X8_refusal l X hl0 0 (1 : Int32) n101 rfl hqq106) wt_X8_refusal wl_RL_132 rfl rfl (by decide) rfl rfl hM hS rfl rfl (show _ ≤ 13 by decide) (show _ ≤ 496 by decide) (show _ + 1 ≤ 657678 by omega) (show _ + 6 ≤ 7128590 by omega) (Nat.le_of_ble_eq_true rfl) dL_law_853 rfl) hsX hS (fun H1 locs hM hk hS => ?_)
        have hN := gM_oth hN hk hXY
        refine lv_iload hx hb dL_law_856 (lv_at hl 12 rfl) ?_
        refine lv_icmp_eq (tgt := 927) hx hb dL_law_858 (by decide) (fun h107 => ?_) (fun h107 => ?_)
        · have hf := g_t h107 hf
          exact ls_927 C (by omega) (by omega) hf hM hN hS (lv_sub hl [4, 5, 6, 7, 9, 11] rfl)
        · have hf := g_f h107 hf
          refine lv_goto (tgt := 925) hx hb dL_law_861 (by decide) ?_
          refine lv_iconst (v := (0 : Int32)) hx hb dL_law_925 (by decide) ?_
          exact absurd hf (by decide)
set_option maxRecDepth 100000 in
set_option maxHeartbeats 4000000 in
theorem ls_669 {p : Program} {l : Launch} {e : Env} {s : State} {m : MethodId} {below : List Frame} {meth : Method} {c : Code} {b L : Nat} {xs : Nat → Int32} {X0 X Y : gX} (C : lwE p l s m meth c b L xs X0 X Y) {v3 : Int32} {v4 : Int32} {v6 : Int32} {v7 : Int32} {v9 : Int32} {v11 : Int32} {v13 : Int32} {mx my : gMem} {H : Heap} {locs : List Loc} {ls : Array Slot} {cells slots : Nat} (hcl : cells ≤ 15147) (hsl : slots ≤ 91754) (hf : S_669 xs L v3 v4 v6 v7 v9 v11 v13 mx my = some 1) (hM : gM X mx H) (hN : gM Y my H) (hS : va_S (gA X0) s.heap H locs) (hl : lv_has ls 26 [(0, .ref b), (1, .ref (X.1 + 0)), (3, .int v3), (4, .int v4), (6, .int v6), (7, .int v7), (9, .int v9), (11, .int v11), (13, .int v13)]) : W p l e room_1 s m #[Value.ref b] below meth c H locs cells slots (lw_Z below #[Value.ref b] s) (F0 m 669 ls []) := by
  obtain ⟨⟨hx, hb, hr, hml, hown, hts, hXs, hbl, hlocks, hgv⟩, EX, EY, hX0, hA, hsX, hsY, hXY, hYX, hL, hl0⟩ := id C
  unfold S_669 at hf
  refine lv_goto (tgt := 784) hx hb dL_law_669 (by decide) ?_
  exact ls_784 C (by omega) (by omega) hf hM hN hS (lv_sub hl [0, 1, 2, 3, 4, 5, 6, 7, 8] rfl)
set_option maxRecDepth 100000 in
set_option maxHeartbeats 4000000 in
theorem ls_636 {p : Program} {l : Launch} {e : Env} {s : State} {m : MethodId} {below : List Frame} {meth : Method} {c : Code} {b L : Nat} {xs : Nat → Int32} {X0 X Y : gX} (C : lwE p l s m meth c b L xs X0 X Y) {v3 : Int32} {v4 : Int32} {v6 : Int32} {v7 : Int32} {v9 : Int32} {v10 : Int32} {v11 : Int32} {v13 : Int32} {v17 : Int32} {v19 : Int32} {mx my : gMem} {H : Heap} {locs : List Loc} {ls : Array Slot} {cells slots : Nat} (hcl : cells ≤ 15141) (hsl : slots ≤ 91718) (hf : S_636 xs L v3 v4 v6 v7 v9 v10 v11 v13 v17 v19 mx my = some 1) (hM : gM X mx H) (hN : gM Y my H) (hS : va_S (gA X0) s.heap H locs) (hl : lv_has ls 26 [(0, .ref b), (1, .ref (X.1 + 0)), (3, .int v3), (4, .int v4), (6, .int v6), (7, .int v7), (9, .int v9), (10, .int v10), (11, .int v11), (13, .int v13), (17, .int v17), (19, .int v19)]) : W p l e room_1 s m #[Value.ref b] below meth c H locs cells slots (lw_Z below #[Value.ref b] s) (F0 m 636 ls []) := by
  obtain ⟨⟨hx, hb, hr, hml, hown, hts, hXs, hbl, hlocks, hgv⟩, EX, EY, hX0, hA, hsX, hsY, hXY, hYX, hL, hl0⟩ := id C
  unfold S_636 at hf
  refine lv_iload hx hb dL_law_636 (lv_at hl 10 rfl) ?_
  refine lv_bipush (v := (8 : Int32)) hx hb dL_law_638 (by decide) ?_
  refine lv_icmp_ne (tgt := 669) hx hb dL_law_640 (by decide) (fun h108 => ?_) (fun h108 => ?_)
  · have hf := g_f h108 hf
    exact ls_669 C (by omega) (by omega) hf hM hN hS (lv_sub hl [0, 1, 2, 3, 4, 5, 6, 8, 9] rfl)
  · have hf := g_t h108 hf
    refine lv_aload_n hx hb dL_law_643 rfl (lv_at hl 1 rfl) ?_
    refine lv_iload hx hb dL_law_644 (lv_at hl 5 rfl) ?_
    refine lv_iload hx hb dL_law_646 (lv_at hl 11 rfl) ?_
    refine lv_iconst (v := (3 : Int32)) hx hb dL_law_648 (by decide) ?_
    obtain ⟨r109, n110, hqq111, hf⟩ := gx0_o hf
    refine gk_Ti (gq_VX (As := [.int v7, .int v19, .int (3 : Int32)]) (ci := 8) (rm := { frames := 8, cells := 3, slots := 18, locals := 145 }) EX hA hml hl.1 (c_X8_courseOf l X hl0 0 v7 v19 (3 : Int32) mx rfl hqq111) wt_X8_courseOf wl_RL_79 rfl rfl (by decide) rfl rfl hM hS rfl rfl (show _ ≤ 13 by decide) (show _ ≤ 496 by decide) (show _ + 3 ≤ 657678 by omega) (show _ + 18 ≤ 7128590 by omega) (Nat.le_of_ble_eq_true rfl) dL_law_649 rfl) hsX hS (fun H1 locs hM hk hS => ?_)
    have hN := gM_oth hN hk hXY
    refine lv_aload_n hx hb dL_law_652 rfl (lv_at hl 1 rfl) ?_
    refine lv_iload hx hb dL_law_653 (lv_at hl 5 rfl) ?_
    refine lv_iload hx hb dL_law_655 (lv_at hl 11 rfl) ?_
    refine lv_iconst (v := (2 : Int32)) hx hb dL_law_657 (by decide) ?_
    obtain ⟨r112, n113, hqq114, hf⟩ := gx0_o hf
    refine gk_Ti (gq_VX (As := [.int v7, .int v19, .int (2 : Int32)]) (ci := 8) (rm := { frames := 8, cells := 3, slots := 18, locals := 145 }) EX hA hml hl.1 (c_X8_courseOf l X hl0 0 v7 v19 (2 : Int32) n110 rfl hqq114) wt_X8_courseOf wl_RL_79 rfl rfl (by decide) rfl rfl hM hS rfl rfl (show _ ≤ 13 by decide) (show _ ≤ 496 by decide) (show _ + 3 ≤ 657678 by omega) (show _ + 18 ≤ 7128590 by omega) (Nat.le_of_ble_eq_true rfl) dL_law_658 rfl) hsX hS (fun H1 locs hM hk hS => ?_)
    have hN := gM_oth hN hk hXY
    refine lv_iload hx hb dL_law_661 (lv_at hl 7 rfl) ?_
    refine lv_iadd hx hb dL_law_663 ?_
    refine lv_icmp_lt (tgt := 669) hx hb dL_law_664 (by decide) (fun h115 => ?_) (fun h115 => ?_)
    · have hf := g_t h115 hf
      exact ls_669 C (by omega) (by omega) hf hM hN hS (lv_sub hl [0, 1, 2, 3, 4, 5, 6, 8, 9] rfl)
    · have hf := g_f h115 hf
      refine lv_iconst (v := (0 : Int32)) hx hb dL_law_667 (by decide) ?_
      exact absurd hf (by decide)
set_option maxRecDepth 100000 in
set_option maxHeartbeats 4000000 in
theorem ls_620 {p : Program} {l : Launch} {e : Env} {s : State} {m : MethodId} {below : List Frame} {meth : Method} {c : Code} {b L : Nat} {xs : Nat → Int32} {X0 X Y : gX} (C : lwE p l s m meth c b L xs X0 X Y) {v3 : Int32} {v4 : Int32} {v6 : Int32} {v7 : Int32} {v9 : Int32} {v10 : Int32} {v11 : Int32} {v12 : Int32} {v13 : Int32} {v17 : Int32} {v19 : Int32} {mx my : gMem} {H : Heap} {locs : List Loc} {ls : Array Slot} {cells slots : Nat} (hcl : cells ≤ 15141) (hsl : slots ≤ 91718) (hf : S_620 xs L v3 v4 v6 v7 v9 v10 v11 v12 v13 v17 v19 mx my = some 1) (hM : gM X mx H) (hN : gM Y my H) (hS : va_S (gA X0) s.heap H locs) (hl : lv_has ls 26 [(0, .ref b), (1, .ref (X.1 + 0)), (3, .int v3), (4, .int v4), (6, .int v6), (7, .int v7), (9, .int v9), (10, .int v10), (11, .int v11), (12, .int v12), (13, .int v13), (17, .int v17), (19, .int v19)]) : W p l e room_1 s m #[Value.ref b] below meth c H locs cells slots (lw_Z below #[Value.ref b] s) (F0 m 620 ls []) := by
  obtain ⟨⟨hx, hb, hr, hml, hown, hts, hXs, hbl, hlocks, hgv⟩, EX, EY, hX0, hA, hsX, hsY, hXY, hYX, hL, hl0⟩ := id C
  unfold S_620 at hf
  refine lv_iload hx hb dL_law_620 (lv_at hl 11 rfl) ?_
  refine lv_bipush (v := (7 : Int32)) hx hb dL_law_622 (by decide) ?_
  refine lv_icmp_ne (tgt := 636) hx hb dL_law_624 (by decide) (fun h116 => ?_) (fun h116 => ?_)
  · have hf := g_f h116 hf
    exact ls_636 C (by omega) (by omega) hf hM hN hS (lv_sub hl [0, 1, 2, 3, 4, 5, 6, 7, 8, 10, 11, 12] rfl)
  · have hf := g_t h116 hf
    refine lv_iload hx hb dL_law_627 (lv_at hl 12 rfl) ?_
    refine lv_iload hx hb dL_law_629 (lv_at hl 9 rfl) ?_
    refine lv_icmp_eq (tgt := 636) hx hb dL_law_631 (by decide) (fun h117 => ?_) (fun h117 => ?_)
    · have hf := g_t h117 hf
      exact ls_636 C (by omega) (by omega) hf hM hN hS (lv_sub hl [0, 1, 2, 3, 4, 5, 6, 7, 8, 10, 11, 12] rfl)
    · have hf := g_f h117 hf
      refine lv_iconst (v := (0 : Int32)) hx hb dL_law_634 (by decide) ?_
      exact absurd hf (by decide)
set_option maxRecDepth 100000 in
set_option maxHeartbeats 4000000 in
theorem ls_606 {p : Program} {l : Launch} {e : Env} {s : State} {m : MethodId} {below : List Frame} {meth : Method} {c : Code} {b L : Nat} {xs : Nat → Int32} {X0 X Y : gX} (C : lwE p l s m meth c b L xs X0 X Y) {v3 : Int32} {v4 : Int32} {v6 : Int32} {v7 : Int32} {v9 : Int32} {v10 : Int32} {v11 : Int32} {v12 : Int32} {v13 : Int32} {v17 : Int32} {v19 : Int32} {mx my : gMem} {H : Heap} {locs : List Loc} {ls : Array Slot} {cells slots : Nat} (hcl : cells ≤ 15141) (hsl : slots ≤ 91718) (hf : S_606 xs L v3 v4 v6 v7 v9 v10 v11 v12 v13 v17 v19 mx my = some 1) (hM : gM X mx H) (hN : gM Y my H) (hS : va_S (gA X0) s.heap H locs) (hl : lv_has ls 26 [(0, .ref b), (1, .ref (X.1 + 0)), (3, .int v3), (4, .int v4), (6, .int v6), (7, .int v7), (9, .int v9), (10, .int v10), (11, .int v11), (12, .int v12), (13, .int v13), (17, .int v17), (19, .int v19)]) : W p l e room_1 s m #[Value.ref b] below meth c H locs cells slots (lw_Z below #[Value.ref b] s) (F0 m 606 ls []) := by
  obtain ⟨⟨hx, hb, hr, hml, hown, hts, hXs, hbl, hlocks, hgv⟩, EX, EY, hX0, hA, hsX, hsY, hXY, hYX, hL, hl0⟩ := id C
  unfold S_606 at hf
  refine lv_iload hx hb dL_law_606 (lv_at hl 11 rfl) ?_
  refine lv_bipush (v := (6 : Int32)) hx hb dL_law_608 (by decide) ?_
  refine lv_icmp_ne (tgt := 620) hx hb dL_law_610 (by decide) (fun h118 => ?_) (fun h118 => ?_)
  · have hf := g_f h118 hf
    exact ls_620 C (by omega) (by omega) hf hM hN hS (lv_sub hl [0, 1, 2, 3, 4, 5, 6, 7, 8, 9, 10, 11, 12] rfl)
  · have hf := g_t h118 hf
    refine lv_iload hx hb dL_law_613 (lv_at hl 12 rfl) ?_
    refine lv_iload hx hb dL_law_615 (lv_at hl 10 rfl) ?_
    refine lv_icmp_ne (tgt := 634) hx hb dL_law_617 (by decide) (fun h119 => ?_) (fun h119 => ?_)
    · have hf := g_f h119 hf
      refine lv_iconst (v := (0 : Int32)) hx hb dL_law_634 (by decide) ?_
      exact absurd hf (by decide)
    · have hf := g_t h119 hf
      exact ls_620 C (by omega) (by omega) hf hM hN hS (lv_sub hl [0, 1, 2, 3, 4, 5, 6, 7, 8, 9, 10, 11, 12] rfl)
set_option maxRecDepth 100000 in
set_option maxHeartbeats 4000000 in
theorem ls_593 {p : Program} {l : Launch} {e : Env} {s : State} {m : MethodId} {below : List Frame} {meth : Method} {c : Code} {b L : Nat} {xs : Nat → Int32} {X0 X Y : gX} (C : lwE p l s m meth c b L xs X0 X Y) {v3 : Int32} {v4 : Int32} {v6 : Int32} {v7 : Int32} {v9 : Int32} {v10 : Int32} {v11 : Int32} {v12 : Int32} {v13 : Int32} {v16 : Int32} {v17 : Int32} {v19 : Int32} {mx my : gMem} {H : Heap} {locs : List Loc} {ls : Array Slot} {cells slots : Nat} (hcl : cells ≤ 15141) (hsl : slots ≤ 91718) (hf : S_593 xs L v3 v4 v6 v7 v9 v10 v11 v12 v13 v16 v17 v19 mx my = some 1) (hM : gM X mx H) (hN : gM Y my H) (hS : va_S (gA X0) s.heap H locs) (hl : lv_has ls 26 [(0, .ref b), (1, .ref (X.1 + 0)), (3, .int v3), (4, .int v4), (6, .int v6), (7, .int v7), (9, .int v9), (10, .int v10), (11, .int v11), (12, .int v12), (13, .int v13), (16, .int v16), (17, .int v17), (19, .int v19)]) : W p l e room_1 s m #[Value.ref b] below meth c H locs cells slots (lw_Z below #[Value.ref b] s) (F0 m 593 ls []) := by
  obtain ⟨⟨hx, hb, hr, hml, hown, hts, hXs, hbl, hlocks, hgv⟩, EX, EY, hX0, hA, hsX, hsY, hXY, hYX, hL, hl0⟩ := id C
  unfold S_593 at hf
  refine lv_iload hx hb dL_law_593 (lv_at hl 12 rfl) ?_
  refine lv_iconst (v := (5 : Int32)) hx hb dL_law_595 (by decide) ?_
  refine lv_icmp_ne (tgt := 606) hx hb dL_law_596 (by decide) (fun h120 => ?_) (fun h120 => ?_)
  · have hf := g_f h120 hf
    exact ls_606 C (by omega) (by omega) hf hM hN hS (lv_sub hl [0, 1, 2, 3, 4, 5, 6, 7, 8, 9, 10, 12, 13] rfl)
  · have hf := g_t h120 hf
    refine lv_iload hx hb dL_law_599 (lv_at hl 13 rfl) ?_
    refine lv_iload hx hb dL_law_601 (lv_at hl 11 rfl) ?_
    refine lv_icmp_ne (tgt := 634) hx hb dL_law_603 (by decide) (fun h121 => ?_) (fun h121 => ?_)
    · have hf := g_f h121 hf
      refine lv_iconst (v := (0 : Int32)) hx hb dL_law_634 (by decide) ?_
      exact absurd hf (by decide)
    · have hf := g_t h121 hf
      exact ls_606 C (by omega) (by omega) hf hM hN hS (lv_sub hl [0, 1, 2, 3, 4, 5, 6, 7, 8, 9, 10, 12, 13] rfl)
set_option maxRecDepth 100000 in
set_option maxHeartbeats 4000000 in
theorem ls_580 {p : Program} {l : Launch} {e : Env} {s : State} {m : MethodId} {below : List Frame} {meth : Method} {c : Code} {b L : Nat} {xs : Nat → Int32} {X0 X Y : gX} (C : lwE p l s m meth c b L xs X0 X Y) {v3 : Int32} {v4 : Int32} {v6 : Int32} {v7 : Int32} {v9 : Int32} {v10 : Int32} {v11 : Int32} {v12 : Int32} {v13 : Int32} {v15 : Int32} {v16 : Int32} {v17 : Int32} {v19 : Int32} {mx my : gMem} {H : Heap} {locs : List Loc} {ls : Array Slot} {cells slots : Nat} (hcl : cells ≤ 15141) (hsl : slots ≤ 91718) (hf : S_580 xs L v3 v4 v6 v7 v9 v10 v11 v12 v13 v15 v16 v17 v19 mx my = some 1) (hM : gM X mx H) (hN : gM Y my H) (hS : va_S (gA X0) s.heap H locs) (hl : lv_has ls 26 [(0, .ref b), (1, .ref (X.1 + 0)), (3, .int v3), (4, .int v4), (6, .int v6), (7, .int v7), (9, .int v9), (10, .int v10), (11, .int v11), (12, .int v12), (13, .int v13), (15, .int v15), (16, .int v16), (17, .int v17), (19, .int v19)]) : W p l e room_1 s m #[Value.ref b] below meth c H locs cells slots (lw_Z below #[Value.ref b] s) (F0 m 580 ls []) := by
  obtain ⟨⟨hx, hb, hr, hml, hown, hts, hXs, hbl, hlocks, hgv⟩, EX, EY, hX0, hA, hsX, hsY, hXY, hYX, hL, hl0⟩ := id C
  unfold S_580 at hf
  refine lv_iload hx hb dL_law_580 (lv_at hl 13 rfl) ?_
  refine lv_iconst (v := (4 : Int32)) hx hb dL_law_582 (by decide) ?_
  refine lv_icmp_ne (tgt := 593) hx hb dL_law_583 (by decide) (fun h122 => ?_) (fun h122 => ?_)
  · have hf := g_f h122 hf
    exact ls_593 C (by omega) (by omega) hf hM hN hS (lv_sub hl [0, 1, 2, 3, 4, 5, 6, 7, 8, 9, 10, 12, 13, 14] rfl)
  · have hf := g_t h122 hf
    refine lv_iload hx hb dL_law_586 (lv_at hl 14 rfl) ?_
    refine lv_iload hx hb dL_law_588 (lv_at hl 11 rfl) ?_
    refine lv_icmp_ne (tgt := 634) hx hb dL_law_590 (by decide) (fun h123 => ?_) (fun h123 => ?_)
    · have hf := g_f h123 hf
      refine lv_iconst (v := (0 : Int32)) hx hb dL_law_634 (by decide) ?_
      exact absurd hf (by decide)
    · have hf := g_t h123 hf
      exact ls_593 C (by omega) (by omega) hf hM hN hS (lv_sub hl [0, 1, 2, 3, 4, 5, 6, 7, 8, 9, 10, 12, 13, 14] rfl)
set_option maxRecDepth 100000 in
set_option maxHeartbeats 4000000 in
theorem ls_483 {p : Program} {l : Launch} {e : Env} {s : State} {m : MethodId} {below : List Frame} {meth : Method} {c : Code} {b L : Nat} {xs : Nat → Int32} {X0 X Y : gX} (C : lwE p l s m meth c b L xs X0 X Y) {v3 : Int32} {v4 : Int32} {v6 : Int32} {v7 : Int32} {v8 : Int32} {v9 : Int32} {v10 : Int32} {v11 : Int32} {v12 : Int32} {v13 : Int32} {v15 : Int32} {v16 : Int32} {t0 : Int32} {mx my : gMem} {H : Heap} {locs : List Loc} {ls : Array Slot} {cells slots : Nat} (hcl : cells ≤ 12202) (hsl : slots ≤ 74084) (hf : S_483 xs L v3 v4 v6 v7 v8 v9 v10 v11 v12 v13 v15 v16 t0 mx my = some 1) (hM : gM X mx H) (hN : gM Y my H) (hS : va_S (gA X0) s.heap H locs) (hl : lv_has ls 26 [(0, .ref b), (1, .ref (X.1 + 0)), (3, .int v3), (4, .int v4), (6, .int v6), (7, .int v7), (8, .int v8), (9, .int v9), (10, .int v10), (11, .int v11), (12, .int v12), (13, .int v13), (15, .int v15), (16, .int v16)]) : W p l e room_1 s m #[Value.ref b] below meth c H locs cells slots (lw_Z below #[Value.ref b] s) (F0 m 483 ls [.int t0]) := by
  obtain ⟨⟨hx, hb, hr, hml, hown, hts, hXs, hbl, hlocks, hgv⟩, EX, EY, hX0, hA, hsX, hsY, hXY, hYX, hL, hl0⟩ := id C
  unfold S_483 at hf
  refine lv_istore (lv' := [(17, .int t0), (0, .ref b), (1, .ref (X.1 + 0)), (3, .int v3), (4, .int v4), (6, .int v6), (7, .int v7), (8, .int v8), (9, .int v9), (10, .int v10), (11, .int v11), (12, .int v12), (13, .int v13), (15, .int v15), (16, .int v16)]) hx hb dL_law_483 hl (by decide) rfl (fun ls hl => ?_)
  refine lv_aload_n hx hb dL_law_485 rfl (lv_at hl 2 rfl) ?_
  refine lv_iload hx hb dL_law_486 (lv_at hl 6 rfl) ?_
  refine lv_iload hx hb dL_law_488 (lv_at hl 7 rfl) ?_
  refine lv_iload hx hb dL_law_490 (lv_at hl 8 rfl) ?_
  refine lv_iload hx hb dL_law_492 (lv_at hl 9 rfl) ?_
  obtain ⟨r124, n125, hqq126, hf⟩ := gx0_o hf
  refine gk_Ti (gq_VX (As := [.int v7, .int v8, .int v9, .int v10]) (ci := 8) (rm := { frames := 8, cells := 3, slots := 18, locals := 161 }) EX hA hml hl.1 (c_X8_why l X hl0 0 v7 v8 v9 v10 mx rfl hqq126) wt_X8_why wl_RL_129 rfl rfl (by decide) rfl rfl hM hS rfl rfl (show _ ≤ 13 by decide) (show _ ≤ 496 by decide) (show _ + 3 ≤ 657678 by omega) (show _ + 18 ≤ 7128590 by omega) (Nat.le_of_ble_eq_true rfl) dL_law_494 rfl) hsX hS (fun H1 locs hM hk hS => ?_)
  have hN := gM_oth hN hk hXY
  refine lv_iload hx hb dL_law_497 (lv_at hl 0 rfl) ?_
  refine lv_icmp_ne (tgt := 511) hx hb dL_law_499 (by decide) (fun h127 => ?_) (fun h127 => ?_)
  · have hf := g_f h127 hf
    refine lv_iconst (v := (0 : Int32)) hx hb dL_law_511 (by decide) ?_
    exact absurd hf (by decide)
  · have hf := g_t h127 hf
    refine lv_aload_n hx hb dL_law_502 rfl (lv_at hl 2 rfl) ?_
    obtain ⟨r128, n129, hqq130, hf⟩ := gx0_o hf
    refine gk_Ti (gq_SX (As := [.ref (X.1 + 0)]) (rm := { frames := 9, cells := 1465, slots := 8790, locals := 169 }) EX hA hml hl.1 (c_L_state l X hl0 0 n125 rfl hqq130) wt_L_state wl_RL_94 rfl hM hS rfl rfl (show _ ≤ 13 by decide) (show _ ≤ 496 by decide) (show _ + 1465 ≤ 657678 by omega) (show _ + 8790 ≤ 7128590 by omega) (Nat.le_of_ble_eq_true rfl) dL_law_503 rfl) hsX hS (fun H1 locs hM hk hS => ?_)
    have hN := gM_oth hN hk hXY
    refine lv_iload hx hb dL_law_506 (lv_at hl 4 rfl) ?_
    refine lv_icmp_eq (tgt := 513) hx hb dL_law_508 (by decide) (fun h131 => ?_) (fun h131 => ?_)
    · have hf := g_t h131 hf
      refine lv_aload_n hx hb dL_law_513 rfl (lv_at hl 2 rfl) ?_
      refine lv_iconst (v := (0 : Int32)) hx hb dL_law_514 (by decide) ?_
      refine lv_iload hx hb dL_law_515 (lv_at hl 6 rfl) ?_
      refine lv_iload hx hb dL_law_517 (lv_at hl 7 rfl) ?_
      refine lv_iload hx hb dL_law_519 (lv_at hl 8 rfl) ?_
      refine lv_iload hx hb dL_law_521 (lv_at hl 9 rfl) ?_
      obtain ⟨r132, n133, hqq134, hf⟩ := g1_o hf
      refine gk_W (gq_SW (As := [.ref (X.1 + 0), .int (0 : Int32), .int v7, .int v8, .int v9, .int v10]) (rm := { frames := 9, cells := 4, slots := 24, locals := 185 }) EX hA hml hl.1 (c_L_act l X hl0 0 (0 : Int32) v7 v8 v9 v10 n129 rfl hqq134) wt_L_act wl_RL_44 rfl hM hS rfl rfl (show _ ≤ 13 by decide) (show _ ≤ 496 by decide) (show _ + 4 ≤ 657678 by omega) (show _ + 24 ≤ 7128590 by omega) (Nat.le_of_ble_eq_true rfl) dL_law_523 rfl) hsX hS (fun H1 locs hM hk hS => ?_)
      have hN := gM_oth hN hk hXY
      refine lv_istore (lv' := [(18, .int r132), (17, .int t0), (0, .ref b), (1, .ref (X.1 + 0)), (3, .int v3), (4, .int v4), (6, .int v6), (7, .int v7), (8, .int v8), (9, .int v9), (10, .int v10), (11, .int v11), (12, .int v12), (13, .int v13), (15, .int v15), (16, .int v16)]) hx hb dL_law_526 hl (by decide) rfl (fun ls hl => ?_)
      refine lv_iload hx hb dL_law_528 (lv_at hl 1 rfl) ?_
      refine lv_if_eq (tgt := 672) hx hb dL_law_530 (by decide) (fun h135 => ?_) (fun h135 => ?_)
      · have hf := g_t h135 hf
        refine lv_iload hx hb dL_law_672 (lv_at hl 0 rfl) ?_
        refine lv_iload hx hb dL_law_674 (lv_at hl 11 rfl) ?_
        refine lv_icmp_ne (tgt := 737) hx hb dL_law_676 (by decide) (fun h136 => ?_) (fun h136 => ?_)
        · have hf := g_f h136 hf
          refine lv_iconst (v := (0 : Int32)) hx hb dL_law_737 (by decide) ?_
          exact absurd hf (by decide)
        · have hf := g_t h136 hf
          refine lv_aload_n hx hb dL_law_679 rfl (lv_at hl 3 rfl) ?_
          refine lv_iload hx hb dL_law_680 (lv_at hl 7 rfl) ?_
          refine lv_iload hx hb dL_law_682 (lv_at hl 11 rfl) ?_
          refine lv_iconst (v := (0 : Int32)) hx hb dL_law_684 (by decide) ?_
          obtain ⟨r137, n138, hqq139, hf⟩ := gx0_o hf
          refine gk_Ti (gq_VX (As := [.int v7, .int v11, .int (0 : Int32)]) (ci := 8) (rm := { frames := 8, cells := 3, slots := 18, locals := 145 }) EX hA hml hl.1 (c_X8_courseOf l X hl0 0 v7 v11 (0 : Int32) n133 rfl hqq139) wt_X8_courseOf wl_RL_79 rfl rfl (by decide) rfl rfl hM hS rfl rfl (show _ ≤ 13 by decide) (show _ ≤ 496 by decide) (show _ + 3 ≤ 657678 by omega) (show _ + 18 ≤ 7128590 by omega) (Nat.le_of_ble_eq_true rfl) dL_law_685 rfl) hsX hS (fun H1 locs hM hk hS => ?_)
          have hN := gM_oth hN hk hXY
          refine lv_iload hx hb dL_law_688 (lv_at hl 9 rfl) ?_
          refine lv_icmp_ne (tgt := 737) hx hb dL_law_690 (by decide) (fun h140 => ?_) (fun h140 => ?_)
          · have hf := g_f h140 hf
            refine lv_iconst (v := (0 : Int32)) hx hb dL_law_737 (by decide) ?_
            exact absurd hf (by decide)
          · have hf := g_t h140 hf
            refine lv_aload_n hx hb dL_law_693 rfl (lv_at hl 3 rfl) ?_
            refine lv_iload hx hb dL_law_694 (lv_at hl 7 rfl) ?_
            refine lv_iload hx hb dL_law_696 (lv_at hl 11 rfl) ?_
            refine lv_iconst (v := (1 : Int32)) hx hb dL_law_698 (by decide) ?_
            obtain ⟨r141, n142, hqq143, hf⟩ := gx0_o hf
            refine gk_Ti (gq_VX (As := [.int v7, .int v11, .int (1 : Int32)]) (ci := 8) (rm := { frames := 8, cells := 3, slots := 18, locals := 145 }) EX hA hml hl.1 (c_X8_courseOf l X hl0 0 v7 v11 (1 : Int32) n138 rfl hqq143) wt_X8_courseOf wl_RL_79 rfl rfl (by decide) rfl rfl hM hS rfl rfl (show _ ≤ 13 by decide) (show _ ≤ 496 by decide) (show _ + 3 ≤ 657678 by omega) (show _ + 18 ≤ 7128590 by omega) (Nat.le_of_ble_eq_true rfl) dL_law_699 rfl) hsX hS (fun H1 locs hM hk hS => ?_)
            have hN := gM_oth hN hk hXY
            refine lv_iload hx hb dL_law_702 (lv_at hl 10 rfl) ?_
            refine lv_icmp_ne (tgt := 737) hx hb dL_law_704 (by decide) (fun h144 => ?_) (fun h144 => ?_)
            · have hf := g_f h144 hf
              refine lv_iconst (v := (0 : Int32)) hx hb dL_law_737 (by decide) ?_
              exact absurd hf (by decide)
            · have hf := g_t h144 hf
              refine lv_aload_n hx hb dL_law_707 rfl (lv_at hl 3 rfl) ?_
              refine lv_iload hx hb dL_law_708 (lv_at hl 9 rfl) ?_
              obtain ⟨r145, n146, hqq147, hf⟩ := gx0_o hf
              refine gk_Ti (gq_VX (As := [.int v9]) (ci := 8) (rm := { frames := 6, cells := 1, slots := 6, locals := 100 }) EX hA hml hl.1 (c_X8_stock l X hl0 0 v9 n142 rfl hqq147) wt_X8_stock wl_RL_70 rfl rfl (by decide) rfl rfl hM hS rfl rfl (show _ ≤ 13 by decide) (show _ ≤ 496 by decide) (show _ + 1 ≤ 657678 by omega) (show _ + 6 ≤ 7128590 by omega) (Nat.le_of_ble_eq_true rfl) dL_law_710 rfl) hsX hS (fun H1 locs hM hk hS => ?_)
              have hN := gM_oth hN hk hXY
              refine lv_iload hx hb dL_law_713 (lv_at hl 13 rfl) ?_
              refine lv_iload hx hb dL_law_715 (lv_at hl 10 rfl) ?_
              refine lv_isub hx hb dL_law_717 ?_
              refine lv_icmp_ne (tgt := 737) hx hb dL_law_718 (by decide) (fun h148 => ?_) (fun h148 => ?_)
              · have hf := g_f h148 hf
                refine lv_iconst (v := (0 : Int32)) hx hb dL_law_737 (by decide) ?_
                exact absurd hf (by decide)
              · have hf := g_t h148 hf
                refine lv_aload_n hx hb dL_law_721 rfl (lv_at hl 3 rfl) ?_
                refine lv_iload hx hb dL_law_722 (lv_at hl 8 rfl) ?_
                refine lv_iconst (v := (1 : Int32)) hx hb dL_law_724 (by decide) ?_
                obtain ⟨r149, n150, hqq151, hf⟩ := gx0_o hf
                refine gk_Ti (gq_VX (As := [.int v8, .int (1 : Int32)]) (ci := 8) (rm := { frames := 7, cells := 2, slots := 12, locals := 122 }) EX hA hml hl.1 (c_X8_tongsOf l X hl0 0 v8 (1 : Int32) n146 rfl hqq151) wt_X8_tongsOf wl_RL_73 rfl rfl (by decide) rfl rfl hM hS rfl rfl (show _ ≤ 13 by decide) (show _ ≤ 496 by decide) (show _ + 2 ≤ 657678 by omega) (show _ + 12 ≤ 7128590 by omega) (Nat.le_of_ble_eq_true rfl) dL_law_725 rfl) hsX hS (fun H1 locs hM hk hS => ?_)
                have hN := gM_oth hN hk hXY
                refine lv_iload hx hb dL_law_728 (lv_at hl 10 rfl) ?_
                refine lv_iconst (v := (5 : Int32)) hx hb dL_law_730 (by decide) ?_
                refine lv_idiv hx hb dL_law_731 (by decide) ?_
                refine lv_iconst (v := (1 : Int32)) hx hb dL_law_732 (by decide) ?_
                refine lv_iadd hx hb dL_law_733 ?_
                refine lv_icmp_eq (tgt := 739) hx hb dL_law_734 (by decide) (fun h152 => ?_) (fun h152 => ?_)
                · have hf := g_t h152 hf
                  refine lv_aload_n hx hb dL_law_739 rfl (lv_at hl 3 rfl) ?_
                  refine lv_iconst (v := (1 : Int32)) hx hb dL_law_740 (by decide) ?_
                  refine lv_iload hx hb dL_law_741 (lv_at hl 7 rfl) ?_
                  refine lv_iconst (v := (0 : Int32)) hx hb dL_law_743 (by decide) ?_
                  refine lv_iconst (v := (0 : Int32)) hx hb dL_law_744 (by decide) ?_
                  refine lv_iconst (v := (0 : Int32)) hx hb dL_law_745 (by decide) ?_
                  obtain ⟨r153, n154, hqq155, hf⟩ := g1_o hf
                  refine gk_W (gq_SW (As := [.ref (X.1 + 0), .int (1 : Int32), .int v7, .int (0 : Int32), .int (0 : Int32), .int (0 : Int32)]) (rm := { frames := 9, cells := 4, slots := 24, locals := 185 }) EX hA hml hl.1 (c_L_act l X hl0 0 (1 : Int32) v7 (0 : Int32) (0 : Int32) (0 : Int32) n150 rfl hqq155) wt_L_act wl_RL_44 rfl hM hS rfl rfl (show _ ≤ 13 by decide) (show _ ≤ 496 by decide) (show _ + 4 ≤ 657678 by omega) (show _ + 24 ≤ 7128590 by omega) (Nat.le_of_ble_eq_true rfl) dL_law_746 rfl) hsX hS (fun H1 locs hM hk hS => ?_)
                  have hN := gM_oth hN hk hXY
                  refine lv_iload hx hb dL_law_749 (lv_at hl 10 rfl) ?_
                  refine lv_icmp_ne (tgt := 777) hx hb dL_law_751 (by decide) (fun h156 => ?_) (fun h156 => ?_)
                  · have hf := g_f h156 hf
                    refine lv_iconst (v := (0 : Int32)) hx hb dL_law_777 (by decide) ?_
                    exact absurd hf (by decide)
                  · have hf := g_t h156 hf
                    refine lv_aload_n hx hb dL_law_754 rfl (lv_at hl 3 rfl) ?_
                    refine lv_iload hx hb dL_law_755 (lv_at hl 9 rfl) ?_
                    obtain ⟨r157, n158, hqq159, hf⟩ := gx0_o hf
                    refine gk_Ti (gq_VX (As := [.int v9]) (ci := 8) (rm := { frames := 6, cells := 1, slots := 6, locals := 100 }) EX hA hml hl.1 (c_X8_stock l X hl0 0 v9 n154 rfl hqq159) wt_X8_stock wl_RL_70 rfl rfl (by decide) rfl rfl hM hS rfl rfl (show _ ≤ 13 by decide) (show _ ≤ 496 by decide) (show _ + 1 ≤ 657678 by omega) (show _ + 6 ≤ 7128590 by omega) (Nat.le_of_ble_eq_true rfl) dL_law_757 rfl) hsX hS (fun H1 locs hM hk hS => ?_)
                    have hN := gM_oth hN hk hXY
                    refine lv_iload hx hb dL_law_760 (lv_at hl 13 rfl) ?_
                    refine lv_icmp_ne (tgt := 777) hx hb dL_law_762 (by decide) (fun h160 => ?_) (fun h160 => ?_)
                    · have hf := g_f h160 hf
                      refine lv_iconst (v := (0 : Int32)) hx hb dL_law_777 (by decide) ?_
                      exact absurd hf (by decide)
                    · have hf := g_t h160 hf
                      refine lv_aload_n hx hb dL_law_765 rfl (lv_at hl 3 rfl) ?_
                      refine lv_iload hx hb dL_law_766 (lv_at hl 7 rfl) ?_
                      refine lv_iconst (v := (0 : Int32)) hx hb dL_law_768 (by decide) ?_
                      obtain ⟨r161, n162, hqq163, hf⟩ := gx0_o hf
                      refine gk_Ti (gq_VX (As := [.int v7, .int (0 : Int32)]) (ci := 8) (rm := { frames := 7, cells := 2, slots := 12, locals := 122 }) EX hA hml hl.1 (c_X8_towerOf l X hl0 0 v7 (0 : Int32) n158 rfl hqq163) wt_X8_towerOf wl_RL_76 rfl rfl (by decide) rfl rfl hM hS rfl rfl (show _ ≤ 13 by decide) (show _ ≤ 496 by decide) (show _ + 2 ≤ 657678 by omega) (show _ + 12 ≤ 7128590 by omega) (Nat.le_of_ble_eq_true rfl) dL_law_769 rfl) hsX hS (fun H1 locs hM hk hS => ?_)
                      have hN := gM_oth hN hk hXY
                      refine lv_iload hx hb dL_law_772 (lv_at hl 11 rfl) ?_
                      refine lv_icmp_eq (tgt := 779) hx hb dL_law_774 (by decide) (fun h164 => ?_) (fun h164 => ?_)
                      · have hf := g_t h164 hf
                        refine lv_aload_n hx hb dL_law_779 rfl (lv_at hl 3 rfl) ?_
                        obtain ⟨r165, n166, hqq167, hf⟩ := gx0_o hf
                        refine gk_Ti (gq_VX (As := []) (ci := 8) (rm := { frames := 6, cells := 1, slots := 6, locals := 103 }) EX hA hml hl.1 (c_X8_restore l X hl0 0 n162 rfl hqq167) wt_X8_restore wl_RL_136 rfl rfl (by decide) rfl rfl hM hS rfl rfl (show _ ≤ 13 by decide) (show _ ≤ 496 by decide) (show _ + 1 ≤ 657678 by omega) (show _ + 6 ≤ 7128590 by omega) (Nat.le_of_ble_eq_true rfl) dL_law_780 rfl) hsX hS (fun H1 locs hM hk hS => ?_)
                        have hN := gM_oth hN hk hXY
                        refine lv_pop hx hb dL_law_783 rfl ?_
                        exact ls_784 C (by omega) (by omega) hf hM hN hS (lv_sub hl [2, 3, 4, 5, 6, 7, 9, 11, 13] rfl)
                      · have hf := g_f h164 hf
                        refine lv_iconst (v := (0 : Int32)) hx hb dL_law_777 (by decide) ?_
                        exact absurd hf (by decide)
                · have hf := g_f h152 hf
                  refine lv_iconst (v := (0 : Int32)) hx hb dL_law_737 (by decide) ?_
                  exact absurd hf (by decide)
      · have hf := g_f h135 hf
        refine lv_aload_n hx hb dL_law_533 rfl (lv_at hl 3 rfl) ?_
        refine lv_iconst (v := (1 : Int32)) hx hb dL_law_534 (by decide) ?_
        obtain ⟨r168, n169, hqq170, hf⟩ := gx0_o hf
        refine gk_Ti (gq_VX (As := [.int (1 : Int32)]) (ci := 8) (rm := { frames := 6, cells := 1, slots := 6, locals := 100 }) EX hA hml hl.1 (c_X8_refusal l X hl0 0 (1 : Int32) n133 rfl hqq170) wt_X8_refusal wl_RL_132 rfl rfl (by decide) rfl rfl hM hS rfl rfl (show _ ≤ 13 by decide) (show _ ≤ 496 by decide) (show _ + 1 ≤ 657678 by omega) (show _ + 6 ≤ 7128590 by omega) (Nat.le_of_ble_eq_true rfl) dL_law_535 rfl) hsX hS (fun H1 locs hM hk hS => ?_)
        have hN := gM_oth hN hk hXY
        refine lv_istore (lv' := [(19, .int r168), (18, .int r132), (17, .int t0), (0, .ref b), (1, .ref (X.1 + 0)), (3, .int v3), (4, .int v4), (6, .int v6), (7, .int v7), (8, .int v8), (9, .int v9), (10, .int v10), (11, .int v11), (12, .int v12), (13, .int v13), (15, .int v15), (16, .int v16)]) hx hb dL_law_538 hl (by decide) rfl (fun ls hl => ?_)
        refine lv_iload hx hb dL_law_540 (lv_at hl 1 rfl) ?_
        refine lv_iconst (v := (-1 : Int32)) hx hb dL_law_542 (by decide) ?_
        refine lv_icmp_ne (tgt := 565) hx hb dL_law_543 (by decide) (fun h171 => ?_) (fun h171 => ?_)
        · have hf := g_f h171 hf
          refine lv_iconst (v := (0 : Int32)) hx hb dL_law_565 (by decide) ?_
          exact absurd hf (by decide)
        · have hf := g_t h171 hf
          refine lv_aload_n hx hb dL_law_546 rfl (lv_at hl 4 rfl) ?_
          refine lv_iconst (v := (0 : Int32)) hx hb dL_law_547 (by decide) ?_
          obtain ⟨r172, n173, hqq174, hf⟩ := gx0_o hf
          refine gk_Ti (gq_VX (As := [.int (0 : Int32)]) (ci := 8) (rm := { frames := 6, cells := 1, slots := 6, locals := 100 }) EX hA hml hl.1 (c_X8_refusal l X hl0 0 (0 : Int32) n169 rfl hqq174) wt_X8_refusal wl_RL_132 rfl rfl (by decide) rfl rfl hM hS rfl rfl (show _ ≤ 13 by decide) (show _ ≤ 496 by decide) (show _ + 1 ≤ 657678 by omega) (show _ + 6 ≤ 7128590 by omega) (Nat.le_of_ble_eq_true rfl) dL_law_548 rfl) hsX hS (fun H1 locs hM hk hS => ?_)
          have hN := gM_oth hN hk hXY
          refine lv_iload hx hb dL_law_551 (lv_at hl 2 rfl) ?_
          refine lv_icmp_ne (tgt := 565) hx hb dL_law_553 (by decide) (fun h175 => ?_) (fun h175 => ?_)
          · have hf := g_f h175 hf
            refine lv_iconst (v := (0 : Int32)) hx hb dL_law_565 (by decide) ?_
            exact absurd hf (by decide)
          · have hf := g_t h175 hf
            refine lv_aload_n hx hb dL_law_556 rfl (lv_at hl 4 rfl) ?_
            obtain ⟨r176, n177, hqq178, hf⟩ := gx0_o hf
            refine gk_Ti (gq_SX (As := [.ref (X.1 + 0)]) (rm := { frames := 9, cells := 1465, slots := 8790, locals := 169 }) EX hA hml hl.1 (c_L_state l X hl0 0 n173 rfl hqq178) wt_L_state wl_RL_94 rfl hM hS rfl rfl (show _ ≤ 13 by decide) (show _ ≤ 496 by decide) (show _ + 1465 ≤ 657678 by omega) (show _ + 8790 ≤ 7128590 by omega) (Nat.le_of_ble_eq_true rfl) dL_law_557 rfl) hsX hS (fun H1 locs hM hk hS => ?_)
            have hN := gM_oth hN hk hXY
            refine lv_iload hx hb dL_law_560 (lv_at hl 6 rfl) ?_
            refine lv_icmp_eq (tgt := 567) hx hb dL_law_562 (by decide) (fun h179 => ?_) (fun h179 => ?_)
            · have hf := g_t h179 hf
              refine lv_iload hx hb dL_law_567 (lv_at hl 2 rfl) ?_
              refine lv_iconst (v := (1 : Int32)) hx hb dL_law_569 (by decide) ?_
              refine lv_icmp_ne (tgt := 580) hx hb dL_law_570 (by decide) (fun h180 => ?_) (fun h180 => ?_)
              · have hf := g_f h180 hf
                exact ls_580 C (by omega) (by omega) hf hM hN hS (lv_sub hl [3, 4, 5, 6, 7, 8, 10, 11, 12, 13, 14, 15, 16, 2, 0] rfl)
              · have hf := g_t h180 hf
                refine lv_iload hx hb dL_law_573 (lv_at hl 0 rfl) ?_
                refine lv_bipush (v := (10 : Int32)) hx hb dL_law_575 (by decide) ?_
                refine lv_icmp_ne (tgt := 634) hx hb dL_law_577 (by decide) (fun h181 => ?_) (fun h181 => ?_)
                · have hf := g_f h181 hf
                  refine lv_iconst (v := (0 : Int32)) hx hb dL_law_634 (by decide) ?_
                  exact absurd hf (by decide)
                · have hf := g_t h181 hf
                  exact ls_580 C (by omega) (by omega) hf hM hN hS (lv_sub hl [3, 4, 5, 6, 7, 8, 10, 11, 12, 13, 14, 15, 16, 2, 0] rfl)
            · have hf := g_f h179 hf
              refine lv_iconst (v := (0 : Int32)) hx hb dL_law_565 (by decide) ?_
              exact absurd hf (by decide)
    · have hf := g_f h131 hf
      refine lv_iconst (v := (0 : Int32)) hx hb dL_law_511 (by decide) ?_
      exact absurd hf (by decide)
set_option maxRecDepth 100000 in
set_option maxHeartbeats 4000000 in
theorem ls_379 {p : Program} {l : Launch} {e : Env} {s : State} {m : MethodId} {below : List Frame} {meth : Method} {c : Code} {b L : Nat} {xs : Nat → Int32} {X0 X Y : gX} (C : lwE p l s m meth c b L xs X0 X Y) {v3 : Int32} {v4 : Int32} {v6 : Int32} {v7 : Int32} {v8 : Int32} {v9 : Int32} {v10 : Int32} {v11 : Int32} {t0 : Int32} {mx my : gMem} {H : Heap} {locs : List Loc} {ls : Array Slot} {cells slots : Nat} (hcl : cells ≤ 12196) (hsl : slots ≤ 74048) (hf : S_379 xs L v3 v4 v6 v7 v8 v9 v10 v11 t0 mx my = some 1) (hM : gM X mx H) (hN : gM Y my H) (hS : va_S (gA X0) s.heap H locs) (hl : lv_has ls 26 [(0, .ref b), (1, .ref (X.1 + 0)), (3, .int v3), (4, .int v4), (6, .int v6), (7, .int v7), (8, .int v8), (9, .int v9), (10, .int v10), (11, .int v11)]) : W p l e room_1 s m #[Value.ref b] below meth c H locs cells slots (lw_Z below #[Value.ref b] s) (F0 m 379 ls [.int t0]) := by
  obtain ⟨⟨hx, hb, hr, hml, hown, hts, hXs, hbl, hlocks, hgv⟩, EX, EY, hX0, hA, hsX, hsY, hXY, hYX, hL, hl0⟩ := id C
  unfold S_379 at hf
  refine lv_istore (lv' := [(12, .int t0), (0, .ref b), (1, .ref (X.1 + 0)), (3, .int v3), (4, .int v4), (6, .int v6), (7, .int v7), (8, .int v8), (9, .int v9), (10, .int v10), (11, .int v11)]) hx hb dL_law_379 hl (by decide) rfl (fun ls hl => ?_)
  refine lv_aload_n hx hb dL_law_381 rfl (lv_at hl 2 rfl) ?_
  refine lv_iload hx hb dL_law_382 (lv_at hl 8 rfl) ?_
  obtain ⟨r182, n183, hqq184, hf⟩ := gx0_o hf
  refine gk_Ti (gq_VX (As := [.int v9]) (ci := 8) (rm := { frames := 6, cells := 1, slots := 6, locals := 100 }) EX hA hml hl.1 (c_X8_stock l X hl0 0 v9 mx rfl hqq184) wt_X8_stock wl_RL_70 rfl rfl (by decide) rfl rfl hM hS rfl rfl (show _ ≤ 13 by decide) (show _ ≤ 496 by decide) (show _ + 1 ≤ 657678 by omega) (show _ + 6 ≤ 7128590 by omega) (Nat.le_of_ble_eq_true rfl) dL_law_384 rfl) hsX hS (fun H1 locs hM hk hS => ?_)
  have hN := gM_oth hN hk hXY
  refine lv_istore (lv' := [(13, .int r182), (12, .int t0), (0, .ref b), (1, .ref (X.1 + 0)), (3, .int v3), (4, .int v4), (6, .int v6), (7, .int v7), (8, .int v8), (9, .int v9), (10, .int v10), (11, .int v11)]) hx hb dL_law_387 hl (by decide) rfl (fun ls hl => ?_)
  refine lv_aload_n hx hb dL_law_389 rfl (lv_at hl 3 rfl) ?_
  refine lv_iload hx hb dL_law_390 (lv_at hl 7 rfl) ?_
  obtain ⟨r185, n186, hqq187, hf⟩ := gx0_o hf
  refine gk_Ti (gq_VX (As := [.int v7]) (ci := 8) (rm := { frames := 7, cells := 1, slots := 6, locals := 122 }) EX hA hml hl.1 (c_X8_spare l X hl0 0 v7 n183 rfl hqq187) wt_X8_spare wl_RL_126 rfl rfl (by decide) rfl rfl hM hS rfl rfl (show _ ≤ 13 by decide) (show _ ≤ 496 by decide) (show _ + 1 ≤ 657678 by omega) (show _ + 6 ≤ 7128590 by omega) (Nat.le_of_ble_eq_true rfl) dL_law_392 rfl) hsX hS (fun H1 locs hM hk hS => ?_)
  have hN := gM_oth hN hk hXY
  refine lv_istore (lv' := [(14, .int r185), (13, .int r182), (12, .int t0), (0, .ref b), (1, .ref (X.1 + 0)), (3, .int v3), (4, .int v4), (6, .int v6), (7, .int v7), (8, .int v8), (9, .int v9), (10, .int v10), (11, .int v11)]) hx hb dL_law_395 hl (by decide) rfl (fun ls hl => ?_)
  refine lv_aload_n hx hb dL_law_397 rfl (lv_at hl 4 rfl) ?_
  refine lv_iload hx hb dL_law_398 (lv_at hl 9 rfl) ?_
  refine lv_iconst (v := (1 : Int32)) hx hb dL_law_400 (by decide) ?_
  obtain ⟨r188, n189, hqq190, hf⟩ := gx0_o hf
  refine gk_Ti (gq_VX (As := [.int v8, .int (1 : Int32)]) (ci := 8) (rm := { frames := 7, cells := 2, slots := 12, locals := 122 }) EX hA hml hl.1 (c_X8_tongsOf l X hl0 0 v8 (1 : Int32) n186 rfl hqq190) wt_X8_tongsOf wl_RL_73 rfl rfl (by decide) rfl rfl hM hS rfl rfl (show _ ≤ 13 by decide) (show _ ≤ 496 by decide) (show _ + 2 ≤ 657678 by omega) (show _ + 12 ≤ 7128590 by omega) (Nat.le_of_ble_eq_true rfl) dL_law_401 rfl) hsX hS (fun H1 locs hM hk hS => ?_)
  have hN := gM_oth hN hk hXY
  refine lv_istore (lv' := [(15, .int r188), (14, .int r185), (13, .int r182), (12, .int t0), (0, .ref b), (1, .ref (X.1 + 0)), (3, .int v3), (4, .int v4), (6, .int v6), (7, .int v7), (8, .int v8), (9, .int v9), (10, .int v10), (11, .int v11)]) hx hb dL_law_404 hl (by decide) rfl (fun ls hl => ?_)
  refine lv_aload_n hx hb dL_law_406 rfl (lv_at hl 5 rfl) ?_
  refine lv_iload hx hb dL_law_407 (lv_at hl 10 rfl) ?_
  refine lv_iconst (v := (0 : Int32)) hx hb dL_law_409 (by decide) ?_
  obtain ⟨r191, n192, hqq193, hf⟩ := gx0_o hf
  refine gk_Ti (gq_VX (As := [.int v8, .int (0 : Int32)]) (ci := 8) (rm := { frames := 7, cells := 2, slots := 12, locals := 122 }) EX hA hml hl.1 (c_X8_tongsOf l X hl0 0 v8 (0 : Int32) n189 rfl hqq193) wt_X8_tongsOf wl_RL_73 rfl rfl (by decide) rfl rfl hM hS rfl rfl (show _ ≤ 13 by decide) (show _ ≤ 496 by decide) (show _ + 2 ≤ 657678 by omega) (show _ + 12 ≤ 7128590 by omega) (Nat.le_of_ble_eq_true rfl) dL_law_410 rfl) hsX hS (fun H1 locs hM hk hS => ?_)
  have hN := gM_oth hN hk hXY
  refine lv_istore (lv' := [(16, .int r191), (15, .int r188), (14, .int r185), (13, .int r182), (12, .int t0), (0, .ref b), (1, .ref (X.1 + 0)), (3, .int v3), (4, .int v4), (6, .int v6), (7, .int v7), (8, .int v8), (9, .int v9), (10, .int v10), (11, .int v11)]) hx hb dL_law_413 hl (by decide) rfl (fun ls hl => ?_)
  refine lv_iload hx hb dL_law_415 (lv_at hl 14 rfl) ?_
  refine lv_bipush (v := (10 : Int32)) hx hb dL_law_417 (by decide) ?_
  refine lv_icmp_ne (tgt := 426) hx hb dL_law_419 (by decide) (fun h194 => ?_) (fun h194 => ?_)
  · have hf := g_f h194 hf
    refine lv_iload hx hb dL_law_426 (lv_at hl 1 rfl) ?_
    refine lv_if_le (tgt := 435) hx hb dL_law_428 (by decide) (fun h195 => ?_) (fun h195 => ?_)
    · have hf := g_t h195 hf
      refine lv_iload hx hb dL_law_435 (lv_at hl 0 rfl) ?_
      refine lv_iload hx hb dL_law_437 (lv_at hl 14 rfl) ?_
      refine lv_icmp_gt (tgt := 446) hx hb dL_law_439 (by decide) (fun h196 => ?_) (fun h196 => ?_)
      · have hf := g_t h196 hf
        refine lv_iload hx hb dL_law_446 (lv_at hl 3 rfl) ?_
        refine lv_iload hx hb dL_law_448 (lv_at hl 13 rfl) ?_
        refine lv_icmp_ge (tgt := 458) hx hb dL_law_450 (by decide) (fun h197 => ?_) (fun h197 => ?_)
        · have hf := g_t h197 hf
          refine lv_iload hx hb dL_law_458 (lv_at hl 13 rfl) ?_
          refine lv_iload hx hb dL_law_460 (lv_at hl 4 rfl) ?_
          refine lv_icmp_le (tgt := 470) hx hb dL_law_462 (by decide) (fun h198 => ?_) (fun h198 => ?_)
          · have hf := g_t h198 hf
            refine lv_iload hx hb dL_law_470 (lv_at hl 2 rfl) ?_
            refine lv_iload hx hb dL_law_472 (lv_at hl 13 rfl) ?_
            refine lv_icmp_ge (tgt := 482) hx hb dL_law_474 (by decide) (fun h199 => ?_) (fun h199 => ?_)
            · have hf := g_t h199 hf
              refine lv_iconst (v := (0 : Int32)) hx hb dL_law_482 (by decide) ?_
              exact ls_483 C (by omega) (by omega) hf hM hN hS (lv_sub hl [5, 6, 7, 8, 9, 10, 11, 12, 13, 14, 4, 3, 1, 0] rfl)
            · have hf := g_f h199 hf
              refine lv_bipush (v := (8 : Int32)) hx hb dL_law_477 (by decide) ?_
              refine lv_goto (tgt := 483) hx hb dL_law_479 (by decide) ?_
              exact ls_483 C (by omega) (by omega) hf hM hN hS (lv_sub hl [5, 6, 7, 8, 9, 10, 11, 12, 13, 14, 4, 3, 1, 0] rfl)
          · have hf := g_f h198 hf
            refine lv_bipush (v := (7 : Int32)) hx hb dL_law_465 (by decide) ?_
            refine lv_goto (tgt := 483) hx hb dL_law_467 (by decide) ?_
            exact ls_483 C (by omega) (by omega) hf hM hN hS (lv_sub hl [5, 6, 7, 8, 9, 10, 11, 12, 13, 14, 4, 3, 1, 0] rfl)
        · have hf := g_f h197 hf
          refine lv_bipush (v := (6 : Int32)) hx hb dL_law_453 (by decide) ?_
          refine lv_goto (tgt := 483) hx hb dL_law_455 (by decide) ?_
          exact ls_483 C (by omega) (by omega) hf hM hN hS (lv_sub hl [5, 6, 7, 8, 9, 10, 11, 12, 13, 14, 4, 3, 1, 0] rfl)
      · have hf := g_f h196 hf
        refine lv_iconst (v := (5 : Int32)) hx hb dL_law_442 (by decide) ?_
        refine lv_goto (tgt := 483) hx hb dL_law_443 (by decide) ?_
        exact ls_483 C (by omega) (by omega) hf hM hN hS (lv_sub hl [5, 6, 7, 8, 9, 10, 11, 12, 13, 14, 4, 3, 1, 0] rfl)
    · have hf := g_f h195 hf
      refine lv_iconst (v := (4 : Int32)) hx hb dL_law_431 (by decide) ?_
      refine lv_goto (tgt := 483) hx hb dL_law_432 (by decide) ?_
      exact ls_483 C (by omega) (by omega) hf hM hN hS (lv_sub hl [5, 6, 7, 8, 9, 10, 11, 12, 13, 14, 4, 3, 1, 0] rfl)
  · have hf := g_t h194 hf
    refine lv_iconst (v := (1 : Int32)) hx hb dL_law_422 (by decide) ?_
    refine lv_goto (tgt := 483) hx hb dL_law_423 (by decide) ?_
    exact ls_483 C (by omega) (by omega) hf hM hN hS (lv_sub hl [5, 6, 7, 8, 9, 10, 11, 12, 13, 14, 4, 3, 1, 0] rfl)
set_option maxRecDepth 100000 in
set_option maxHeartbeats 4000000 in
theorem ls_10 {p : Program} {l : Launch} {e : Env} {s : State} {m : MethodId} {below : List Frame} {meth : Method} {c : Code} {b L : Nat} {xs : Nat → Int32} {X0 X Y : gX} (C : lwE p l s m meth c b L xs X0 X Y) {mx my : gMem} {H : Heap} {locs : List Loc} {ls : Array Slot} {cells slots : Nat} (hcl : cells ≤ 1866) (hsl : slots ≤ 12068) (hf : S_10 xs L mx my = some 1) (hM : gM X mx H) (hN : gM Y my H) (hS : va_S (gA X0) s.heap H locs) (hl : lv_has ls 26 [(0, .ref b), (1, .ref (X.1 + 0)), (2, .ref (Y.1 + 0))]) : W p l e room_1 s m #[Value.ref b] below meth c H locs cells slots (lw_Z below #[Value.ref b] s) (F0 m 10 ls []) := by
  obtain ⟨⟨hx, hb, hr, hml, hown, hts, hXs, hbl, hlocks, hgv⟩, EX, EY, hX0, hA, hsX, hsY, hXY, hYX, hL, hl0⟩ := id C
  unfold S_10 at hf
  refine lv_aload_n hx hb dL_law_10 rfl (lv_at hl 1 rfl) ?_
  obtain ⟨r200, n201, hqq202, hf⟩ := g1_o hf
  refine gk_i (gq_V (As := []) (ci := 8) (rm := { frames := 3, cells := 0, slots := 0, locals := 103 }) EX hA hml hl.1 (c_X8_save l X 0 mx rfl hqq202) wt_X8_save wl_RL_91 rfl rfl (by decide) rfl rfl hM hS rfl rfl (show _ ≤ 13 by decide) (show _ ≤ 496 by decide) (show _ + 0 ≤ 657678 by omega) (show _ + 0 ≤ 7128590 by omega) (Nat.le_of_ble_eq_true rfl) dL_law_11 rfl) hsX hS (fun H1 locs hM hk hS => ?_)
  have hN := gM_oth hN hk hXY
  refine lv_istore_n (lv' := [(3, .int r200), (0, .ref b), (1, .ref (X.1 + 0)), (2, .ref (Y.1 + 0))]) hx hb dL_law_14 rfl hl (by decide) rfl (fun ls hl => ?_)
  refine lv_aload_n hx hb dL_law_15 rfl (lv_at hl 2 rfl) ?_
  obtain ⟨r203, n204, hqq205, hf⟩ := gx0_o hf
  refine gk_Ti (gq_SX (As := [.ref (X.1 + 0)]) (rm := { frames := 9, cells := 1465, slots := 8790, locals := 169 }) EX hA hml hl.1 (c_L_state l X hl0 0 n201 rfl hqq205) wt_L_state wl_RL_94 rfl hM hS rfl rfl (show _ ≤ 13 by decide) (show _ ≤ 496 by decide) (show _ + 1465 ≤ 657678 by omega) (show _ + 8790 ≤ 7128590 by omega) (Nat.le_of_ble_eq_true rfl) dL_law_16 rfl) hsX hS (fun H1 locs hM hk hS => ?_)
  have hN := gM_oth hN hk hXY
  refine lv_istore (lv' := [(4, .int r203), (3, .int r200), (0, .ref b), (1, .ref (X.1 + 0)), (2, .ref (Y.1 + 0))]) hx hb dL_law_19 hl (by decide) rfl (fun ls hl => ?_)
  refine lv_aload_n hx hb dL_law_21 rfl (lv_at hl 3 rfl) ?_
  refine gg_ldcL (i := 0) EX rfl dL_law_22 ?_
  obtain ⟨r206, n207, hqq208, hf⟩ := gx0_o hf
  refine gk_Tv (gq_SX (As := [.ref (X.1 + 0), .ref (X.2.2.2.1 (6 + 0))]) (rm := { frames := 7, cells := 9, slots := 54, locals := 121 }) EX hA hml hl.1 (c_L_put l X hl0 0 (6 + 0) n204 rfl hqq208) wt_L_put wl_RL_100 rfl hM hS rfl rfl (show _ ≤ 13 by decide) (show _ ≤ 496 by decide) (show _ + 9 ≤ 657678 by omega) (show _ + 54 ≤ 7128590 by omega) (Nat.le_of_ble_eq_true rfl) dL_law_24 rfl) hsX hS (fun H1 locs hM hk hS => ?_)
  have hN := gM_oth hN hk hXY
  refine lv_aload_n hx hb dL_law_27 rfl (lv_at hl 3 rfl) ?_
  obtain ⟨r209, n210, hqq211, hf⟩ := gx0_o hf
  refine gk_Ti (gq_VX (As := []) (ci := 8) (rm := { frames := 7, cells := 1, slots := 6, locals := 197 }) EX hA hml hl.1 (c_X8_read l X hl0 0 n207 rfl hqq211) wt_X8_read wl_RL_104 rfl rfl (by decide) rfl rfl hM hS rfl rfl (show _ ≤ 13 by decide) (show _ ≤ 496 by decide) (show _ + 1 ≤ 657678 by omega) (show _ + 6 ≤ 7128590 by omega) (Nat.le_of_ble_eq_true rfl) dL_law_28 rfl) hsX hS (fun H1 locs hM hk hS => ?_)
  have hN := gM_oth hN hk hXY
  refine lv_iconst (v := (3 : Int32)) hx hb dL_law_31 (by decide) ?_
  refine lv_icmp_ne (tgt := 87) hx hb dL_law_32 (by decide) (fun h212 => ?_) (fun h212 => ?_)
  · have hf := g_f h212 hf
    refine lv_iconst (v := (0 : Int32)) hx hb dL_law_87 (by decide) ?_
    exact absurd hf (by decide)
  · have hf := g_t h212 hf
    refine lv_aload_n hx hb dL_law_35 rfl (lv_at hl 4 rfl) ?_
    refine lv_iconst (v := (3 : Int32)) hx hb dL_law_36 (by decide) ?_
    obtain ⟨r213, o214, hqq215, hf⟩ := gx0_o hf
    refine gk_Ti (gq_VX (As := [.int (3 : Int32)]) (ci := 8) (rm := { frames := 6, cells := 1, slots := 6, locals := 155 }) EY hA hml hl.1 (c_X8_pass l Y hl0 0 (3 : Int32) my rfl hqq215) wt_X8_pass wl_RL_54 rfl rfl (by decide) rfl rfl hN hS rfl rfl (show _ ≤ 13 by decide) (show _ ≤ 496 by decide) (show _ + 1 ≤ 657678 by omega) (show _ + 6 ≤ 7128590 by omega) (Nat.le_of_ble_eq_true rfl) dL_law_37 rfl) hsY hS (fun H1 locs hN hk hS => ?_)
    have hM := gM_oth hM hk hYX
    refine lv_if_lt (tgt := 87) hx hb dL_law_40 (by decide) (fun h216 => ?_) (fun h216 => ?_)
    · have hf := g_t h216 hf
      refine lv_iconst (v := (0 : Int32)) hx hb dL_law_87 (by decide) ?_
      exact absurd hf (by decide)
    · have hf := g_f h216 hf
      refine lv_aload_n hx hb dL_law_43 rfl (lv_at hl 4 rfl) ?_
      refine lv_iconst (v := (1 : Int32)) hx hb dL_law_44 (by decide) ?_
      obtain ⟨r217, o218, hqq219, hf⟩ := gx0_o hf
      refine gk_Ti (gq_VX (As := [.int (1 : Int32)]) (ci := 8) (rm := { frames := 6, cells := 1, slots := 6, locals := 155 }) EY hA hml hl.1 (c_X8_pass l Y hl0 0 (1 : Int32) o214 rfl hqq219) wt_X8_pass wl_RL_54 rfl rfl (by decide) rfl rfl hN hS rfl rfl (show _ ≤ 13 by decide) (show _ ≤ 496 by decide) (show _ + 1 ≤ 657678 by omega) (show _ + 6 ≤ 7128590 by omega) (Nat.le_of_ble_eq_true rfl) dL_law_45 rfl) hsY hS (fun H1 locs hN hk hS => ?_)
      have hM := gM_oth hM hk hYX
      refine lv_if_lt (tgt := 87) hx hb dL_law_48 (by decide) (fun h220 => ?_) (fun h220 => ?_)
      · have hf := g_t h220 hf
        refine lv_iconst (v := (0 : Int32)) hx hb dL_law_87 (by decide) ?_
        exact absurd hf (by decide)
      · have hf := g_f h220 hf
        refine lv_aload_n hx hb dL_law_51 rfl (lv_at hl 4 rfl) ?_
        refine lv_iconst (v := (2 : Int32)) hx hb dL_law_52 (by decide) ?_
        obtain ⟨r221, o222, hqq223, hf⟩ := gx0_o hf
        refine gk_Ti (gq_VX (As := [.int (2 : Int32)]) (ci := 8) (rm := { frames := 6, cells := 1, slots := 6, locals := 155 }) EY hA hml hl.1 (c_X8_pass l Y hl0 0 (2 : Int32) o218 rfl hqq223) wt_X8_pass wl_RL_54 rfl rfl (by decide) rfl rfl hN hS rfl rfl (show _ ≤ 13 by decide) (show _ ≤ 496 by decide) (show _ + 1 ≤ 657678 by omega) (show _ + 6 ≤ 7128590 by omega) (Nat.le_of_ble_eq_true rfl) dL_law_53 rfl) hsY hS (fun H1 locs hN hk hS => ?_)
        have hM := gM_oth hM hk hYX
        refine lv_if_lt (tgt := 87) hx hb dL_law_56 (by decide) (fun h224 => ?_) (fun h224 => ?_)
        · have hf := g_t h224 hf
          refine lv_iconst (v := (0 : Int32)) hx hb dL_law_87 (by decide) ?_
          exact absurd hf (by decide)
        · have hf := g_f h224 hf
          refine lv_aload_n hx hb dL_law_59 rfl (lv_at hl 3 rfl) ?_
          obtain ⟨r225, n226, hqq227, hf⟩ := gx0_o hf
          refine gk_Ti (gq_SX (As := [.ref (X.1 + 0)]) (rm := { frames := 9, cells := 1465, slots := 8790, locals := 169 }) EX hA hml hl.1 (c_L_state l X hl0 0 n210 rfl hqq227) wt_L_state wl_RL_94 rfl hM hS rfl rfl (show _ ≤ 13 by decide) (show _ ≤ 496 by decide) (show _ + 1465 ≤ 657678 by omega) (show _ + 8790 ≤ 7128590 by omega) (Nat.le_of_ble_eq_true rfl) dL_law_60 rfl) hsX hS (fun H1 locs hM hk hS => ?_)
          have hN := gM_oth hN hk hXY
          refine lv_aload_n hx hb dL_law_63 rfl (lv_at hl 4 rfl) ?_
          obtain ⟨r228, o229, hqq230, hf⟩ := gx0_o hf
          refine gk_Ti (gq_SX (As := [.ref (Y.1 + 0)]) (rm := { frames := 9, cells := 1465, slots := 8790, locals := 169 }) EY hA hml hl.1 (c_L_state l Y hl0 0 o222 rfl hqq230) wt_L_state wl_RL_94 rfl hN hS rfl rfl (show _ ≤ 13 by decide) (show _ ≤ 496 by decide) (show _ + 1465 ≤ 657678 by omega) (show _ + 8790 ≤ 7128590 by omega) (Nat.le_of_ble_eq_true rfl) dL_law_64 rfl) hsY hS (fun H1 locs hN hk hS => ?_)
          have hM := gM_oth hM hk hYX
          refine lv_icmp_ne (tgt := 87) hx hb dL_law_67 (by decide) (fun h231 => ?_) (fun h231 => ?_)
          · have hf := g_f h231 hf
            refine lv_iconst (v := (0 : Int32)) hx hb dL_law_87 (by decide) ?_
            exact absurd hf (by decide)
          · have hf := g_t h231 hf
            refine lv_aload_n hx hb dL_law_70 rfl (lv_at hl 3 rfl) ?_
            refine lv_bipush (v := (15 : Int32)) hx hb dL_law_71 (by decide) ?_
            obtain ⟨r232, n233, hqq234, hf⟩ := gx0_o hf
            refine gk_Ti (gq_VX (As := [.int (15 : Int32)]) (ci := 8) (rm := { frames := 6, cells := 1, slots := 6, locals := 105 }) EX hA hml hl.1 (c_X8_account l X hl0 0 (15 : Int32) n226 rfl hqq234) wt_X8_account wl_RL_48 rfl rfl (by decide) rfl rfl hM hS rfl rfl (show _ ≤ 13 by decide) (show _ ≤ 496 by decide) (show _ + 1 ≤ 657678 by omega) (show _ + 6 ≤ 7128590 by omega) (Nat.le_of_ble_eq_true rfl) dL_law_73 rfl) hsX hS (fun H1 locs hM hk hS => ?_)
            have hN := gM_oth hN hk hXY
            refine lv_if_ne (tgt := 87) hx hb dL_law_76 (by decide) (fun h235 => ?_) (fun h235 => ?_)
            · have hf := g_f h235 hf
              refine lv_iconst (v := (0 : Int32)) hx hb dL_law_87 (by decide) ?_
              exact absurd hf (by decide)
            · have hf := g_t h235 hf
              refine lv_aload_n hx hb dL_law_79 rfl (lv_at hl 3 rfl) ?_
              obtain ⟨r236, n237, hqq238, hf⟩ := g1_o hf
              refine gk_i (gq_V (As := []) (ci := 8) (rm := { frames := 0, cells := 0, slots := 0, locals := 0 }) EX hA hml hl.1 (c_X8_errorPosition l X 0 n233 rfl hqq238) wt_X8_errorPosition wl_RL_107 rfl rfl (by decide) rfl rfl hM hS rfl rfl (show _ ≤ 13 by decide) (show _ ≤ 496 by decide) (show _ + 0 ≤ 657678 by omega) (show _ + 0 ≤ 7128590 by omega) (Nat.le_of_ble_eq_true rfl) dL_law_80 rfl) hsX hS (fun H1 locs hM hk hS => ?_)
              have hN := gM_oth hN hk hXY
              refine lv_iconst (v := (-1 : Int32)) hx hb dL_law_83 (by decide) ?_
              refine lv_icmp_eq (tgt := 89) hx hb dL_law_84 (by decide) (fun h239 => ?_) (fun h239 => ?_)
              · have hf := g_t h239 hf
                refine lv_aload_n hx hb dL_law_89 rfl (lv_at hl 3 rfl) ?_
                refine lv_bipush (v := (16 : Int32)) hx hb dL_law_90 (by decide) ?_
                obtain ⟨r240, n241, hqq242, hf⟩ := gx0_o hf
                refine gk_Ti (gq_VX (As := [.int (16 : Int32)]) (ci := 8) (rm := { frames := 6, cells := 1, slots := 6, locals := 105 }) EX hA hml hl.1 (c_X8_account l X hl0 0 (16 : Int32) n237 rfl hqq242) wt_X8_account wl_RL_48 rfl rfl (by decide) rfl rfl hM hS rfl rfl (show _ ≤ 13 by decide) (show _ ≤ 496 by decide) (show _ + 1 ≤ 657678 by omega) (show _ + 6 ≤ 7128590 by omega) (Nat.le_of_ble_eq_true rfl) dL_law_92 rfl) hsX hS (fun H1 locs hM hk hS => ?_)
                have hN := gM_oth hN hk hXY
                refine lv_istore (lv' := [(5, .int r240), (4, .int r203), (3, .int r200), (0, .ref b), (1, .ref (X.1 + 0)), (2, .ref (Y.1 + 0))]) hx hb dL_law_95 hl (by decide) rfl (fun ls hl => ?_)
                refine lv_aload_n hx hb dL_law_97 rfl (lv_at hl 4 rfl) ?_
                obtain ⟨r243, n244, hqq245, hf⟩ := gx0_o hf
                refine gk_Ti (gq_VX (As := []) (ci := 8) (rm := { frames := 6, cells := 1, slots := 6, locals := 124 }) EX hA hml hl.1 (c_X8_undo l X hl0 0 n241 rfl hqq245) wt_X8_undo wl_RL_110 rfl rfl (by decide) rfl rfl hM hS rfl rfl (show _ ≤ 13 by decide) (show _ ≤ 496 by decide) (show _ + 1 ≤ 657678 by omega) (show _ + 6 ≤ 7128590 by omega) (Nat.le_of_ble_eq_true rfl) dL_law_98 rfl) hsX hS (fun H1 locs hM hk hS => ?_)
                have hN := gM_oth hN hk hXY
                refine lv_iload hx hb dL_law_101 (lv_at hl 0 rfl) ?_
                refine lv_iconst (v := (1 : Int32)) hx hb dL_law_103 (by decide) ?_
                refine lv_isub hx hb dL_law_104 ?_
                refine lv_icmp_ne (tgt := 147) hx hb dL_law_105 (by decide) (fun h246 => ?_) (fun h246 => ?_)
                · have hf := g_f h246 hf
                  refine lv_iconst (v := (0 : Int32)) hx hb dL_law_147 (by decide) ?_
                  exact absurd hf (by decide)
                · have hf := g_t h246 hf
                  refine lv_aload_n hx hb dL_law_108 rfl (lv_at hl 4 rfl) ?_
                  obtain ⟨r247, n248, hqq249, hf⟩ := gx0_o hf
                  refine gk_Ti (gq_SX (As := [.ref (X.1 + 0)]) (rm := { frames := 9, cells := 1465, slots := 8790, locals := 169 }) EX hA hml hl.1 (c_L_state l X hl0 0 n244 rfl hqq249) wt_L_state wl_RL_94 rfl hM hS rfl rfl (show _ ≤ 13 by decide) (show _ ≤ 496 by decide) (show _ + 1465 ≤ 657678 by omega) (show _ + 8790 ≤ 7128590 by omega) (Nat.le_of_ble_eq_true rfl) dL_law_109 rfl) hsX hS (fun H1 locs hM hk hS => ?_)
                  have hN := gM_oth hN hk hXY
                  refine lv_iload hx hb dL_law_112 (lv_at hl 1 rfl) ?_
                  refine lv_icmp_ne (tgt := 147) hx hb dL_law_114 (by decide) (fun h250 => ?_) (fun h250 => ?_)
                  · have hf := g_f h250 hf
                    refine lv_iconst (v := (0 : Int32)) hx hb dL_law_147 (by decide) ?_
                    exact absurd hf (by decide)
                  · have hf := g_t h250 hf
                    refine lv_aload_n hx hb dL_law_117 rfl (lv_at hl 5 rfl) ?_
                    obtain ⟨r251, o252, hqq253, hf⟩ := gx0_o hf
                    refine gk_Ti (gq_VX (As := []) (ci := 8) (rm := { frames := 6, cells := 1, slots := 6, locals := 124 }) EY hA hml hl.1 (c_X8_undo l Y hl0 0 o229 rfl hqq253) wt_X8_undo wl_RL_110 rfl rfl (by decide) rfl rfl hN hS rfl rfl (show _ ≤ 13 by decide) (show _ ≤ 496 by decide) (show _ + 1 ≤ 657678 by omega) (show _ + 6 ≤ 7128590 by omega) (Nat.le_of_ble_eq_true rfl) dL_law_118 rfl) hsY hS (fun H1 locs hN hk hS => ?_)
                    have hM := gM_oth hM hk hYX
                    refine lv_if_lt (tgt := 147) hx hb dL_law_121 (by decide) (fun h254 => ?_) (fun h254 => ?_)
                    · have hf := g_t h254 hf
                      refine lv_iconst (v := (0 : Int32)) hx hb dL_law_147 (by decide) ?_
                      exact absurd hf (by decide)
                    · have hf := g_f h254 hf
                      refine lv_aload_n hx hb dL_law_124 rfl (lv_at hl 5 rfl) ?_
                      obtain ⟨r255, o256, hqq257, hf⟩ := gx0_o hf
                      refine gk_Ti (gq_VX (As := []) (ci := 8) (rm := { frames := 6, cells := 1, slots := 6, locals := 124 }) EY hA hml hl.1 (c_X8_undo l Y hl0 0 o252 rfl hqq257) wt_X8_undo wl_RL_110 rfl rfl (by decide) rfl rfl hN hS rfl rfl (show _ ≤ 13 by decide) (show _ ≤ 496 by decide) (show _ + 1 ≤ 657678 by omega) (show _ + 6 ≤ 7128590 by omega) (Nat.le_of_ble_eq_true rfl) dL_law_125 rfl) hsY hS (fun H1 locs hN hk hS => ?_)
                      have hM := gM_oth hM hk hYX
                      refine lv_if_lt (tgt := 147) hx hb dL_law_128 (by decide) (fun h258 => ?_) (fun h258 => ?_)
                      · have hf := g_t h258 hf
                        refine lv_iconst (v := (0 : Int32)) hx hb dL_law_147 (by decide) ?_
                        exact absurd hf (by decide)
                      · have hf := g_f h258 hf
                        refine lv_aload_n hx hb dL_law_131 rfl (lv_at hl 5 rfl) ?_
                        obtain ⟨r259, o260, hqq261, hf⟩ := gx0_o hf
                        refine gk_Ti (gq_VX (As := []) (ci := 8) (rm := { frames := 6, cells := 1, slots := 6, locals := 124 }) EY hA hml hl.1 (c_X8_undo l Y hl0 0 o256 rfl hqq261) wt_X8_undo wl_RL_110 rfl rfl (by decide) rfl rfl hN hS rfl rfl (show _ ≤ 13 by decide) (show _ ≤ 496 by decide) (show _ + 1 ≤ 657678 by omega) (show _ + 6 ≤ 7128590 by omega) (Nat.le_of_ble_eq_true rfl) dL_law_132 rfl) hsY hS (fun H1 locs hN hk hS => ?_)
                        have hM := gM_oth hM hk hYX
                        refine lv_if_lt (tgt := 147) hx hb dL_law_135 (by decide) (fun h262 => ?_) (fun h262 => ?_)
                        · have hf := g_t h262 hf
                          refine lv_iconst (v := (0 : Int32)) hx hb dL_law_147 (by decide) ?_
                          exact absurd hf (by decide)
                        · have hf := g_f h262 hf
                          refine lv_aload_n hx hb dL_law_138 rfl (lv_at hl 5 rfl) ?_
                          obtain ⟨r263, o264, hqq265, hf⟩ := gx0_o hf
                          refine gk_Ti (gq_SX (As := [.ref (Y.1 + 0)]) (rm := { frames := 9, cells := 1465, slots := 8790, locals := 169 }) EY hA hml hl.1 (c_L_state l Y hl0 0 o260 rfl hqq265) wt_L_state wl_RL_94 rfl hN hS rfl rfl (show _ ≤ 13 by decide) (show _ ≤ 496 by decide) (show _ + 1465 ≤ 657678 by omega) (show _ + 8790 ≤ 7128590 by omega) (Nat.le_of_ble_eq_true rfl) dL_law_139 rfl) hsY hS (fun H1 locs hN hk hS => ?_)
                          have hM := gM_oth hM hk hYX
                          refine lv_iload hx hb dL_law_142 (lv_at hl 1 rfl) ?_
                          refine lv_icmp_eq (tgt := 149) hx hb dL_law_144 (by decide) (fun h266 => ?_) (fun h266 => ?_)
                          · have hf := g_t h266 hf
                            refine lv_aload_n hx hb dL_law_149 rfl (lv_at hl 4 rfl) ?_
                            refine gg_ldcL (i := 1) EX rfl dL_law_150 ?_
                            obtain ⟨r267, n268, hqq269, hf⟩ := gx0_o hf
                            refine gk_Tv (gq_SX (As := [.ref (X.1 + 0), .ref (X.2.2.2.1 (6 + 1))]) (rm := { frames := 7, cells := 9, slots := 54, locals := 121 }) EX hA hml hl.1 (c_L_put l X hl0 0 (6 + 1) n248 rfl hqq269) wt_L_put wl_RL_100 rfl hM hS rfl rfl (show _ ≤ 13 by decide) (show _ ≤ 496 by decide) (show _ + 9 ≤ 657678 by omega) (show _ + 54 ≤ 7128590 by omega) (Nat.le_of_ble_eq_true rfl) dL_law_152 rfl) hsX hS (fun H1 locs hM hk hS => ?_)
                            have hN := gM_oth hN hk hXY
                            refine lv_aload_n hx hb dL_law_155 rfl (lv_at hl 4 rfl) ?_
                            obtain ⟨r270, n271, hqq272, hf⟩ := g1_o hf
                            refine gk_W (gq_SW (As := [.ref (X.1 + 0)]) (rm := { frames := 8, cells := 1, slots := 6, locals := 219 }) EX hA hml hl.1 (c_L_reads l X hl0 0 n268 rfl hqq272) wt_L_reads wl_RL_115 rfl hM hS rfl rfl (show _ ≤ 13 by decide) (show _ ≤ 496 by decide) (show _ + 1 ≤ 657678 by omega) (show _ + 6 ≤ 7128590 by omega) (Nat.le_of_ble_eq_true rfl) dL_law_156 rfl) hsX hS (fun H1 locs hM hk hS => ?_)
                            have hN := gM_oth hN hk hXY
                            refine lv_iconst (v := (-1 : Int32)) hx hb dL_law_159 (by decide) ?_
                            refine lv_icmp_ne (tgt := 180) hx hb dL_law_160 (by decide) (fun h273 => ?_) (fun h273 => ?_)
                            · have hf := g_f h273 hf
                              refine lv_iconst (v := (0 : Int32)) hx hb dL_law_180 (by decide) ?_
                              exact absurd hf (by decide)
                            · have hf := g_t h273 hf
                              refine lv_aload_n hx hb dL_law_163 rfl (lv_at hl 4 rfl) ?_
                              obtain ⟨r274, n275, hqq276, hf⟩ := g1_o hf
                              refine gk_i (gq_V (As := []) (ci := 8) (rm := { frames := 0, cells := 0, slots := 0, locals := 0 }) EX hA hml hl.1 (c_X8_errorPosition l X 0 n271 rfl hqq276) wt_X8_errorPosition wl_RL_107 rfl rfl (by decide) rfl rfl hM hS rfl rfl (show _ ≤ 13 by decide) (show _ ≤ 496 by decide) (show _ + 0 ≤ 657678 by omega) (show _ + 0 ≤ 7128590 by omega) (Nat.le_of_ble_eq_true rfl) dL_law_164 rfl) hsX hS (fun H1 locs hM hk hS => ?_)
                              have hN := gM_oth hN hk hXY
                              refine lv_iconst (v := (-1 : Int32)) hx hb dL_law_167 (by decide) ?_
                              refine lv_icmp_ne (tgt := 180) hx hb dL_law_168 (by decide) (fun h277 => ?_) (fun h277 => ?_)
                              · have hf := g_f h277 hf
                                refine lv_iconst (v := (0 : Int32)) hx hb dL_law_180 (by decide) ?_
                                exact absurd hf (by decide)
                              · have hf := g_t h277 hf
                                refine lv_aload_n hx hb dL_law_171 rfl (lv_at hl 4 rfl) ?_
                                obtain ⟨r278, n279, hqq280, hf⟩ := gx0_o hf
                                refine gk_Ti (gq_SX (As := [.ref (X.1 + 0)]) (rm := { frames := 9, cells := 1465, slots := 8790, locals := 169 }) EX hA hml hl.1 (c_L_state l X hl0 0 n275 rfl hqq280) wt_L_state wl_RL_94 rfl hM hS rfl rfl (show _ ≤ 13 by decide) (show _ ≤ 496 by decide) (show _ + 1465 ≤ 657678 by omega) (show _ + 8790 ≤ 7128590 by omega) (Nat.le_of_ble_eq_true rfl) dL_law_172 rfl) hsX hS (fun H1 locs hM hk hS => ?_)
                                have hN := gM_oth hN hk hXY
                                refine lv_iload hx hb dL_law_175 (lv_at hl 1 rfl) ?_
                                refine lv_icmp_eq (tgt := 182) hx hb dL_law_177 (by decide) (fun h281 => ?_) (fun h281 => ?_)
                                · have hf := g_t h281 hf
                                  refine lv_aload_n hx hb dL_law_182 rfl (lv_at hl 4 rfl) ?_
                                  refine gg_ldcL (i := 2) EX rfl dL_law_183 ?_
                                  obtain ⟨r282, n283, hqq284, hf⟩ := gx0_o hf
                                  refine gk_Tv (gq_SX (As := [.ref (X.1 + 0), .ref (X.2.2.2.1 (6 + 2))]) (rm := { frames := 7, cells := 9, slots := 54, locals := 121 }) EX hA hml hl.1 (c_L_put l X hl0 0 (6 + 2) n279 rfl hqq284) wt_L_put wl_RL_100 rfl hM hS rfl rfl (show _ ≤ 13 by decide) (show _ ≤ 496 by decide) (show _ + 9 ≤ 657678 by omega) (show _ + 54 ≤ 7128590 by omega) (Nat.le_of_ble_eq_true rfl) dL_law_185 rfl) hsX hS (fun H1 locs hM hk hS => ?_)
                                  have hN := gM_oth hN hk hXY
                                  refine lv_aload_n hx hb dL_law_188 rfl (lv_at hl 4 rfl) ?_
                                  obtain ⟨r285, n286, hqq287, hf⟩ := g1_o hf
                                  refine gk_W (gq_SW (As := [.ref (X.1 + 0)]) (rm := { frames := 8, cells := 1, slots := 6, locals := 219 }) EX hA hml hl.1 (c_L_reads l X hl0 0 n283 rfl hqq287) wt_L_reads wl_RL_115 rfl hM hS rfl rfl (show _ ≤ 13 by decide) (show _ ≤ 496 by decide) (show _ + 1 ≤ 657678 by omega) (show _ + 6 ≤ 7128590 by omega) (Nat.le_of_ble_eq_true rfl) dL_law_189 rfl) hsX hS (fun H1 locs hM hk hS => ?_)
                                  have hN := gM_oth hN hk hXY
                                  refine lv_iconst (v := (-1 : Int32)) hx hb dL_law_192 (by decide) ?_
                                  refine lv_icmp_ne (tgt := 204) hx hb dL_law_193 (by decide) (fun h288 => ?_) (fun h288 => ?_)
                                  · have hf := g_f h288 hf
                                    refine lv_iconst (v := (0 : Int32)) hx hb dL_law_204 (by decide) ?_
                                    exact absurd hf (by decide)
                                  · have hf := g_t h288 hf
                                    refine lv_aload_n hx hb dL_law_196 rfl (lv_at hl 4 rfl) ?_
                                    obtain ⟨r289, n290, hqq291, hf⟩ := g1_o hf
                                    refine gk_i (gq_V (As := []) (ci := 8) (rm := { frames := 0, cells := 0, slots := 0, locals := 0 }) EX hA hml hl.1 (c_X8_errorPosition l X 0 n286 rfl hqq291) wt_X8_errorPosition wl_RL_107 rfl rfl (by decide) rfl rfl hM hS rfl rfl (show _ ≤ 13 by decide) (show _ ≤ 496 by decide) (show _ + 0 ≤ 657678 by omega) (show _ + 0 ≤ 7128590 by omega) (Nat.le_of_ble_eq_true rfl) dL_law_197 rfl) hsX hS (fun H1 locs hM hk hS => ?_)
                                    have hN := gM_oth hN hk hXY
                                    refine lv_iconst (v := (-1 : Int32)) hx hb dL_law_200 (by decide) ?_
                                    refine lv_icmp_eq (tgt := 206) hx hb dL_law_201 (by decide) (fun h292 => ?_) (fun h292 => ?_)
                                    · have hf := g_t h292 hf
                                      refine lv_aload_n hx hb dL_law_206 rfl (lv_at hl 4 rfl) ?_
                                      refine gg_ldcL (i := 3) EX rfl dL_law_207 ?_
                                      obtain ⟨r293, n294, hqq295, hf⟩ := gx0_o hf
                                      refine gk_Tv (gq_SX (As := [.ref (X.1 + 0), .ref (X.2.2.2.1 (6 + 3))]) (rm := { frames := 7, cells := 9, slots := 54, locals := 121 }) EX hA hml hl.1 (c_L_put l X hl0 0 (6 + 3) n290 rfl hqq295) wt_L_put wl_RL_100 rfl hM hS rfl rfl (show _ ≤ 13 by decide) (show _ ≤ 496 by decide) (show _ + 9 ≤ 657678 by omega) (show _ + 54 ≤ 7128590 by omega) (Nat.le_of_ble_eq_true rfl) dL_law_209 rfl) hsX hS (fun H1 locs hM hk hS => ?_)
                                      have hN := gM_oth hN hk hXY
                                      refine lv_aload_n hx hb dL_law_212 rfl (lv_at hl 4 rfl) ?_
                                      obtain ⟨r296, n297, hqq298, hf⟩ := g1_o hf
                                      refine gk_W (gq_SW (As := [.ref (X.1 + 0)]) (rm := { frames := 8, cells := 1, slots := 6, locals := 219 }) EX hA hml hl.1 (c_L_reads l X hl0 0 n294 rfl hqq298) wt_L_reads wl_RL_115 rfl hM hS rfl rfl (show _ ≤ 13 by decide) (show _ ≤ 496 by decide) (show _ + 1 ≤ 657678 by omega) (show _ + 6 ≤ 7128590 by omega) (Nat.le_of_ble_eq_true rfl) dL_law_213 rfl) hsX hS (fun H1 locs hM hk hS => ?_)
                                      have hN := gM_oth hN hk hXY
                                      refine lv_iconst (v := (-1 : Int32)) hx hb dL_law_216 (by decide) ?_
                                      refine lv_icmp_ne (tgt := 228) hx hb dL_law_217 (by decide) (fun h299 => ?_) (fun h299 => ?_)
                                      · have hf := g_f h299 hf
                                        refine lv_iconst (v := (0 : Int32)) hx hb dL_law_228 (by decide) ?_
                                        exact absurd hf (by decide)
                                      · have hf := g_t h299 hf
                                        refine lv_aload_n hx hb dL_law_220 rfl (lv_at hl 4 rfl) ?_
                                        obtain ⟨r300, n301, hqq302, hf⟩ := g1_o hf
                                        refine gk_i (gq_V (As := []) (ci := 8) (rm := { frames := 0, cells := 0, slots := 0, locals := 0 }) EX hA hml hl.1 (c_X8_errorPosition l X 0 n297 rfl hqq302) wt_X8_errorPosition wl_RL_107 rfl rfl (by decide) rfl rfl hM hS rfl rfl (show _ ≤ 13 by decide) (show _ ≤ 496 by decide) (show _ + 0 ≤ 657678 by omega) (show _ + 0 ≤ 7128590 by omega) (Nat.le_of_ble_eq_true rfl) dL_law_221 rfl) hsX hS (fun H1 locs hM hk hS => ?_)
                                        have hN := gM_oth hN hk hXY
                                        refine lv_iconst (v := (4 : Int32)) hx hb dL_law_224 (by decide) ?_
                                        refine lv_icmp_eq (tgt := 230) hx hb dL_law_225 (by decide) (fun h303 => ?_) (fun h303 => ?_)
                                        · have hf := g_t h303 hf
                                          refine lv_aload_n hx hb dL_law_230 rfl (lv_at hl 4 rfl) ?_
                                          refine gg_ldcL (i := 4) EX rfl dL_law_231 ?_
                                          obtain ⟨r304, n305, hqq306, hf⟩ := gx0_o hf
                                          refine gk_Tv (gq_SX (As := [.ref (X.1 + 0), .ref (X.2.2.2.1 (6 + 4))]) (rm := { frames := 7, cells := 9, slots := 54, locals := 121 }) EX hA hml hl.1 (c_L_put l X hl0 0 (6 + 4) n301 rfl hqq306) wt_L_put wl_RL_100 rfl hM hS rfl rfl (show _ ≤ 13 by decide) (show _ ≤ 496 by decide) (show _ + 9 ≤ 657678 by omega) (show _ + 54 ≤ 7128590 by omega) (Nat.le_of_ble_eq_true rfl) dL_law_233 rfl) hsX hS (fun H1 locs hM hk hS => ?_)
                                          have hN := gM_oth hN hk hXY
                                          refine lv_aload_n hx hb dL_law_236 rfl (lv_at hl 4 rfl) ?_
                                          obtain ⟨r307, n308, hqq309, hf⟩ := g1_o hf
                                          refine gk_W (gq_SW (As := [.ref (X.1 + 0)]) (rm := { frames := 8, cells := 1, slots := 6, locals := 219 }) EX hA hml hl.1 (c_L_reads l X hl0 0 n305 rfl hqq309) wt_L_reads wl_RL_115 rfl hM hS rfl rfl (show _ ≤ 13 by decide) (show _ ≤ 496 by decide) (show _ + 1 ≤ 657678 by omega) (show _ + 6 ≤ 7128590 by omega) (Nat.le_of_ble_eq_true rfl) dL_law_237 rfl) hsX hS (fun H1 locs hM hk hS => ?_)
                                          have hN := gM_oth hN hk hXY
                                          refine lv_iconst (v := (-1 : Int32)) hx hb dL_law_240 (by decide) ?_
                                          refine lv_icmp_ne (tgt := 252) hx hb dL_law_241 (by decide) (fun h310 => ?_) (fun h310 => ?_)
                                          · have hf := g_f h310 hf
                                            refine lv_iconst (v := (0 : Int32)) hx hb dL_law_252 (by decide) ?_
                                            exact absurd hf (by decide)
                                          · have hf := g_t h310 hf
                                            refine lv_aload_n hx hb dL_law_244 rfl (lv_at hl 4 rfl) ?_
                                            obtain ⟨r311, n312, hqq313, hf⟩ := g1_o hf
                                            refine gk_i (gq_V (As := []) (ci := 8) (rm := { frames := 0, cells := 0, slots := 0, locals := 0 }) EX hA hml hl.1 (c_X8_errorPosition l X 0 n308 rfl hqq313) wt_X8_errorPosition wl_RL_107 rfl rfl (by decide) rfl rfl hM hS rfl rfl (show _ ≤ 13 by decide) (show _ ≤ 496 by decide) (show _ + 0 ≤ 657678 by omega) (show _ + 0 ≤ 7128590 by omega) (Nat.le_of_ble_eq_true rfl) dL_law_245 rfl) hsX hS (fun H1 locs hM hk hS => ?_)
                                            have hN := gM_oth hN hk hXY
                                            refine lv_iconst (v := (5 : Int32)) hx hb dL_law_248 (by decide) ?_
                                            refine lv_icmp_eq (tgt := 254) hx hb dL_law_249 (by decide) (fun h314 => ?_) (fun h314 => ?_)
                                            · have hf := g_t h314 hf
                                              refine lv_aload_n hx hb dL_law_254 rfl (lv_at hl 4 rfl) ?_
                                              refine gg_ldcL (i := 5) EX rfl dL_law_255 ?_
                                              obtain ⟨r315, n316, hqq317, hf⟩ := gx0_o hf
                                              refine gk_Tv (gq_SX (As := [.ref (X.1 + 0), .ref (X.2.2.2.1 (6 + 5))]) (rm := { frames := 7, cells := 9, slots := 54, locals := 121 }) EX hA hml hl.1 (c_L_put l X hl0 0 (6 + 5) n312 rfl hqq317) wt_L_put wl_RL_100 rfl hM hS rfl rfl (show _ ≤ 13 by decide) (show _ ≤ 496 by decide) (show _ + 9 ≤ 657678 by omega) (show _ + 54 ≤ 7128590 by omega) (Nat.le_of_ble_eq_true rfl) dL_law_257 rfl) hsX hS (fun H1 locs hM hk hS => ?_)
                                              have hN := gM_oth hN hk hXY
                                              refine lv_aload_n hx hb dL_law_260 rfl (lv_at hl 4 rfl) ?_
                                              obtain ⟨r318, n319, hqq320, hf⟩ := g1_o hf
                                              refine gk_W (gq_SW (As := [.ref (X.1 + 0)]) (rm := { frames := 8, cells := 1, slots := 6, locals := 219 }) EX hA hml hl.1 (c_L_reads l X hl0 0 n316 rfl hqq320) wt_L_reads wl_RL_115 rfl hM hS rfl rfl (show _ ≤ 13 by decide) (show _ ≤ 496 by decide) (show _ + 1 ≤ 657678 by omega) (show _ + 6 ≤ 7128590 by omega) (Nat.le_of_ble_eq_true rfl) dL_law_261 rfl) hsX hS (fun H1 locs hM hk hS => ?_)
                                              have hN := gM_oth hN hk hXY
                                              refine lv_iconst (v := (-1 : Int32)) hx hb dL_law_264 (by decide) ?_
                                              refine lv_icmp_ne (tgt := 300) hx hb dL_law_265 (by decide) (fun h321 => ?_) (fun h321 => ?_)
                                              · have hf := g_f h321 hf
                                                refine lv_iconst (v := (0 : Int32)) hx hb dL_law_300 (by decide) ?_
                                                exact absurd hf (by decide)
                                              · have hf := g_t h321 hf
                                                refine lv_aload_n hx hb dL_law_268 rfl (lv_at hl 4 rfl) ?_
                                                obtain ⟨r322, n323, hqq324, hf⟩ := g1_o hf
                                                refine gk_i (gq_V (As := []) (ci := 8) (rm := { frames := 0, cells := 0, slots := 0, locals := 0 }) EX hA hml hl.1 (c_X8_errorPosition l X 0 n319 rfl hqq324) wt_X8_errorPosition wl_RL_107 rfl rfl (by decide) rfl rfl hM hS rfl rfl (show _ ≤ 13 by decide) (show _ ≤ 496 by decide) (show _ + 0 ≤ 657678 by omega) (show _ + 0 ≤ 7128590 by omega) (Nat.le_of_ble_eq_true rfl) dL_law_269 rfl) hsX hS (fun H1 locs hM hk hS => ?_)
                                                have hN := gM_oth hN hk hXY
                                                refine lv_iconst (v := (2 : Int32)) hx hb dL_law_272 (by decide) ?_
                                                refine lv_icmp_ne (tgt := 300) hx hb dL_law_273 (by decide) (fun h325 => ?_) (fun h325 => ?_)
                                                · have hf := g_f h325 hf
                                                  refine lv_iconst (v := (0 : Int32)) hx hb dL_law_300 (by decide) ?_
                                                  exact absurd hf (by decide)
                                                · have hf := g_t h325 hf
                                                  refine lv_aload_n hx hb dL_law_276 rfl (lv_at hl 4 rfl) ?_
                                                  obtain ⟨r326, n327, hqq328, hf⟩ := g1_o hf
                                                  refine gk_W (gq_SW (As := [.ref (X.1 + 0)]) (rm := { frames := 8, cells := 1, slots := 6, locals := 219 }) EX hA hml hl.1 (c_L_reads l X hl0 0 n323 rfl hqq328) wt_L_reads wl_RL_115 rfl hM hS rfl rfl (show _ ≤ 13 by decide) (show _ ≤ 496 by decide) (show _ + 1 ≤ 657678 by omega) (show _ + 6 ≤ 7128590 by omega) (Nat.le_of_ble_eq_true rfl) dL_law_277 rfl) hsX hS (fun H1 locs hM hk hS => ?_)
                                                  have hN := gM_oth hN hk hXY
                                                  refine lv_iconst (v := (-1 : Int32)) hx hb dL_law_280 (by decide) ?_
                                                  refine lv_icmp_ne (tgt := 300) hx hb dL_law_281 (by decide) (fun h329 => ?_) (fun h329 => ?_)
                                                  · have hf := g_f h329 hf
                                                    refine lv_iconst (v := (0 : Int32)) hx hb dL_law_300 (by decide) ?_
                                                    exact absurd hf (by decide)
                                                  · have hf := g_t h329 hf
                                                    refine lv_aload_n hx hb dL_law_284 rfl (lv_at hl 4 rfl) ?_
                                                    obtain ⟨r330, n331, hqq332, hf⟩ := g1_o hf
                                                    refine gk_i (gq_V (As := []) (ci := 8) (rm := { frames := 0, cells := 0, slots := 0, locals := 0 }) EX hA hml hl.1 (c_X8_errorPosition l X 0 n327 rfl hqq332) wt_X8_errorPosition wl_RL_107 rfl rfl (by decide) rfl rfl hM hS rfl rfl (show _ ≤ 13 by decide) (show _ ≤ 496 by decide) (show _ + 0 ≤ 657678 by omega) (show _ + 0 ≤ 7128590 by omega) (Nat.le_of_ble_eq_true rfl) dL_law_285 rfl) hsX hS (fun H1 locs hM hk hS => ?_)
                                                    have hN := gM_oth hN hk hXY
                                                    refine lv_if_ne (tgt := 300) hx hb dL_law_288 (by decide) (fun h333 => ?_) (fun h333 => ?_)
                                                    · have hf := g_f h333 hf
                                                      refine lv_iconst (v := (0 : Int32)) hx hb dL_law_300 (by decide) ?_
                                                      exact absurd hf (by decide)
                                                    · have hf := g_t h333 hf
                                                      refine lv_aload_n hx hb dL_law_291 rfl (lv_at hl 4 rfl) ?_
                                                      obtain ⟨r334, n335, hqq336, hf⟩ := gx0_o hf
                                                      refine gk_Ti (gq_SX (As := [.ref (X.1 + 0)]) (rm := { frames := 9, cells := 1465, slots := 8790, locals := 169 }) EX hA hml hl.1 (c_L_state l X hl0 0 n331 rfl hqq336) wt_L_state wl_RL_94 rfl hM hS rfl rfl (show _ ≤ 13 by decide) (show _ ≤ 496 by decide) (show _ + 1465 ≤ 657678 by omega) (show _ + 8790 ≤ 7128590 by omega) (Nat.le_of_ble_eq_true rfl) dL_law_292 rfl) hsX hS (fun H1 locs hM hk hS => ?_)
                                                      have hN := gM_oth hN hk hXY
                                                      refine lv_iload hx hb dL_law_295 (lv_at hl 1 rfl) ?_
                                                      refine lv_icmp_eq (tgt := 302) hx hb dL_law_297 (by decide) (fun h337 => ?_) (fun h337 => ?_)
                                                      · have hf := g_t h337 hf
                                                        refine lv_aload_n hx hb dL_law_302 rfl (lv_at hl 3 rfl) ?_
                                                        refine lv_bipush (v := (13 : Int32)) hx hb dL_law_303 (by decide) ?_
                                                        refine gk_at (own := RL) hx hb EX.2.2.1 EX.2.2.2.1 hA hml hl.1 (c_L_at l hL (13 : Int32) (by decide)) wt_L_at wl_RL_24 hXs hbl hS (show _ ≤ 13 by decide) (show _ ≤ 496 by decide) (show _ + 0 ≤ 657678 by omega) (show _ + 0 ≤ 7128590 by omega) (Nat.le_of_ble_eq_true rfl) dL_law_305 (fun H1 locs hq hS => ?_)
                                                        have hM := gM_kept hM hq
                                                        have hN := gM_kept hN hq
                                                        refine lv_iconst (v := (4 : Int32)) hx hb dL_law_308 (by decide) ?_
                                                        refine lv_ishr hx hb dL_law_309 ?_
                                                        obtain ⟨x338, ex338, hf⟩ := gv_o hf
                                                        rw [← ex338]
                                                        refine lv_istore (lv' := [(6, .int x338), (5, .int r240), (4, .int r203), (3, .int r200), (0, .ref b), (1, .ref (X.1 + 0)), (2, .ref (Y.1 + 0))]) hx hb dL_law_310 hl (by decide) rfl (fun ls hl => ?_)
                                                        refine lv_iload hx hb dL_law_312 (lv_at hl 0 rfl) ?_
                                                        refine lv_iconst (v := (3 : Int32)) hx hb dL_law_314 (by decide) ?_
                                                        refine lv_iand hx hb dL_law_315 ?_
                                                        refine lv_iload_n hx hb dL_law_316 rfl (lv_at hl 3 rfl) ?_
                                                        obtain ⟨hz339, hf⟩ := g_ck hf
                                                        refine lv_irem hx hb dL_law_317 hz339 ?_
                                                        obtain ⟨x340, ex340, hf⟩ := gv_o hf
                                                        rw [← ex340]
                                                        refine lv_istore (lv' := [(7, .int x340), (6, .int x338), (5, .int r240), (4, .int r203), (3, .int r200), (0, .ref b), (1, .ref (X.1 + 0)), (2, .ref (Y.1 + 0))]) hx hb dL_law_318 hl (by decide) rfl (fun ls hl => ?_)
                                                        refine lv_iload hx hb dL_law_320 (lv_at hl 1 rfl) ?_
                                                        refine lv_iconst (v := (2 : Int32)) hx hb dL_law_322 (by decide) ?_
                                                        refine lv_ishr hx hb dL_law_323 ?_
                                                        refine lv_iconst (v := (1 : Int32)) hx hb dL_law_324 (by decide) ?_
                                                        refine lv_iand hx hb dL_law_325 ?_
                                                        obtain ⟨x341, ex341, hf⟩ := gv_o hf
                                                        rw [← ex341]
                                                        refine lv_istore (lv' := [(8, .int x341), (7, .int x340), (6, .int x338), (5, .int r240), (4, .int r203), (3, .int r200), (0, .ref b), (1, .ref (X.1 + 0)), (2, .ref (Y.1 + 0))]) hx hb dL_law_326 hl (by decide) rfl (fun ls hl => ?_)
                                                        refine lv_iload hx hb dL_law_328 (lv_at hl 2 rfl) ?_
                                                        refine lv_iconst (v := (3 : Int32)) hx hb dL_law_330 (by decide) ?_
                                                        refine lv_ishr hx hb dL_law_331 ?_
                                                        refine lv_iconst (v := (3 : Int32)) hx hb dL_law_332 (by decide) ?_
                                                        refine lv_iand hx hb dL_law_333 ?_
                                                        refine lv_iconst (v := (3 : Int32)) hx hb dL_law_334 (by decide) ?_
                                                        refine lv_irem hx hb dL_law_335 (by decide) ?_
                                                        obtain ⟨x342, ex342, hf⟩ := gv_o hf
                                                        rw [← ex342]
                                                        refine lv_istore (lv' := [(9, .int x342), (8, .int x341), (7, .int x340), (6, .int x338), (5, .int r240), (4, .int r203), (3, .int r200), (0, .ref b), (1, .ref (X.1 + 0)), (2, .ref (Y.1 + 0))]) hx hb dL_law_336 hl (by decide) rfl (fun ls hl => ?_)
                                                        refine lv_iconst (v := (1 : Int32)) hx hb dL_law_338 (by decide) ?_
                                                        refine lv_iload hx hb dL_law_339 (lv_at hl 3 rfl) ?_
                                                        refine lv_iconst (v := (5 : Int32)) hx hb dL_law_341 (by decide) ?_
                                                        refine lv_ishr hx hb dL_law_342 ?_
                                                        refine lv_bipush (v := (15 : Int32)) hx hb dL_law_343 (by decide) ?_
                                                        refine lv_iand hx hb dL_law_345 ?_
                                                        refine lv_iadd hx hb dL_law_346 ?_
                                                        obtain ⟨x343, ex343, hf⟩ := gv_o hf
                                                        rw [← ex343]
                                                        refine lv_istore (lv' := [(10, .int x343), (9, .int x342), (8, .int x341), (7, .int x340), (6, .int x338), (5, .int r240), (4, .int r203), (3, .int r200), (0, .ref b), (1, .ref (X.1 + 0)), (2, .ref (Y.1 + 0))]) hx hb dL_law_347 hl (by decide) rfl (fun ls hl => ?_)
                                                        refine lv_aload_n hx hb dL_law_349 rfl (lv_at hl 9 rfl) ?_
                                                        refine lv_iload hx hb dL_law_350 (lv_at hl 3 rfl) ?_
                                                        refine lv_iconst (v := (0 : Int32)) hx hb dL_law_352 (by decide) ?_
                                                        obtain ⟨r344, n345, hqq346, hf⟩ := gx0_o hf
                                                        refine gk_Ti (gq_VX (As := [.int x340, .int (0 : Int32)]) (ci := 8) (rm := { frames := 7, cells := 2, slots := 12, locals := 122 }) EX hA hml hl.1 (c_X8_towerOf l X hl0 0 x340 (0 : Int32) n335 rfl hqq346) wt_X8_towerOf wl_RL_76 rfl rfl (by decide) rfl rfl hM hS rfl rfl (show _ ≤ 13 by decide) (show _ ≤ 496 by decide) (show _ + 2 ≤ 657678 by omega) (show _ + 12 ≤ 7128590 by omega) (Nat.le_of_ble_eq_true rfl) dL_law_353 rfl) hsX hS (fun H1 locs hM hk hS => ?_)
                                                        have hN := gM_oth hN hk hXY
                                                        refine lv_istore (lv' := [(11, .int r344), (10, .int x343), (9, .int x342), (8, .int x341), (7, .int x340), (6, .int x338), (5, .int r240), (4, .int r203), (3, .int r200), (0, .ref b), (1, .ref (X.1 + 0)), (2, .ref (Y.1 + 0))]) hx hb dL_law_356 hl (by decide) rfl (fun ls hl => ?_)
                                                        refine lv_iload hx hb dL_law_358 (lv_at hl 0 rfl) ?_
                                                        refine lv_if_ne (tgt := 368) hx hb dL_law_360 (by decide) (fun h347 => ?_) (fun h347 => ?_)
                                                        · have hf := g_f h347 hf
                                                          refine lv_aload_n hx hb dL_law_368 rfl (lv_at hl 10 rfl) ?_
                                                          refine lv_iload hx hb dL_law_369 (lv_at hl 4 rfl) ?_
                                                          refine lv_iload hx hb dL_law_371 (lv_at hl 0 rfl) ?_
                                                          refine lv_iconst (v := (1 : Int32)) hx hb dL_law_373 (by decide) ?_
                                                          refine lv_isub hx hb dL_law_374 ?_
                                                          refine lv_iconst (v := (1 : Int32)) hx hb dL_law_375 (by decide) ?_
                                                          obtain ⟨r348, n349, hqq350, hf⟩ := gx0_o hf
                                                          refine gk_Ti (gq_VX (As := [.int x340, .int (r344 - (1 : Int32)), .int (1 : Int32)]) (ci := 8) (rm := { frames := 8, cells := 3, slots := 18, locals := 145 }) EX hA hml hl.1 (c_X8_courseOf l X hl0 0 x340 (r344 - (1 : Int32)) (1 : Int32) n345 rfl hqq350) wt_X8_courseOf wl_RL_79 rfl rfl (by decide) rfl rfl hM hS rfl rfl (show _ ≤ 13 by decide) (show _ ≤ 496 by decide) (show _ + 3 ≤ 657678 by omega) (show _ + 18 ≤ 7128590 by omega) (Nat.le_of_ble_eq_true rfl) dL_law_376 rfl) hsX hS (fun H1 locs hM hk hS => ?_)
                                                          have hN := gM_oth hN hk hXY
                                                          exact ls_379 C (by omega) (by omega) hf hM hN hS (lv_sub hl [9, 10, 8, 7, 5, 4, 3, 2, 1, 0] rfl)
                                                        · have hf := g_t h347 hf
                                                          refine lv_bipush (v := (20 : Int32)) hx hb dL_law_363 (by decide) ?_
                                                          refine lv_goto (tgt := 379) hx hb dL_law_365 (by decide) ?_
                                                          exact ls_379 C (by omega) (by omega) hf hM hN hS (lv_sub hl [9, 10, 8, 7, 5, 4, 3, 2, 1, 0] rfl)
                                                      · have hf := g_f h337 hf
                                                        refine lv_iconst (v := (0 : Int32)) hx hb dL_law_300 (by decide) ?_
                                                        exact absurd hf (by decide)
                                            · have hf := g_f h314 hf
                                              refine lv_iconst (v := (0 : Int32)) hx hb dL_law_252 (by decide) ?_
                                              exact absurd hf (by decide)
                                        · have hf := g_f h303 hf
                                          refine lv_iconst (v := (0 : Int32)) hx hb dL_law_228 (by decide) ?_
                                          exact absurd hf (by decide)
                                    · have hf := g_f h292 hf
                                      refine lv_iconst (v := (0 : Int32)) hx hb dL_law_204 (by decide) ?_
                                      exact absurd hf (by decide)
                                · have hf := g_f h281 hf
                                  refine lv_iconst (v := (0 : Int32)) hx hb dL_law_180 (by decide) ?_
                                  exact absurd hf (by decide)
                          · have hf := g_f h266 hf
                            refine lv_iconst (v := (0 : Int32)) hx hb dL_law_147 (by decide) ?_
                            exact absurd hf (by decide)
              · have hf := g_f h239 hf
                refine lv_iconst (v := (0 : Int32)) hx hb dL_law_87 (by decide) ?_
                exact absurd hf (by decide)
