theorem wl_RL_24 : Cond.methodLink RL 24 yL_at ∈ gT := gT_in 598 (by decide +kernel) rfl
theorem wt_L_at : gMs yL_at cL_at 2 (some .int) 2 := ⟨gT_in 599 (by decide +kernel) rfl, gT_in 20 (by decide +kernel) rfl, gT_in 600 (by decide +kernel) rfl, by decide, by decide, by decide +kernel⟩
theorem wt_X8_lay : gMv yX8_lay cX8_lay 5 (some .int) 4 := ⟨gT_in 928 (by decide +kernel) rfl, gT_in 929 (by decide +kernel) rfl, gT_in 21 (by decide +kernel) rfl, gT_in 930 (by decide +kernel) rfl, by decide, by decide, by decide +kernel⟩
theorem wl_RL_57 : Cond.methodLink RL 57 yX8_lay ∈ gT := gT_in 927 (by decide +kernel) rfl
theorem wcl_3 : Cond.classLink RL 68 (gEx 3) ∈ gT := gT_in 926 (by decide +kernel) rfl
theorem wca_3 : Cond.castable (gEx 3) (gEx 3) ∈ gN := gN_in 501 (by decide +kernel) rfl
theorem wt_X8_take : gMv yX8_take cX8_take 3 (some .int) 1 := ⟨gT_in 933 (by decide +kernel) rfl, gT_in 934 (by decide +kernel) rfl, gT_in 21 (by decide +kernel) rfl, gT_in 935 (by decide +kernel) rfl, by decide, by decide, by decide +kernel⟩
theorem wl_RL_61 : Cond.methodLink RL 61 yX8_take ∈ gT := gT_in 932 (by decide +kernel) rfl
theorem wt_X8_buy : gMv yX8_buy cX8_buy 3 (some .int) 2 := ⟨gT_in 919 (by decide +kernel) rfl, gT_in 920 (by decide +kernel) rfl, gT_in 21 (by decide +kernel) rfl, gT_in 921 (by decide +kernel) rfl, by decide, by decide, by decide +kernel⟩
theorem wl_RL_41 : Cond.methodLink RL 41 yX8_buy ∈ gT := gT_in 918 (by decide +kernel) rfl
theorem wt_X8_banquet : gMv yX8_banquet cX8_banquet 4 (some .int) 3 := ⟨gT_in 938 (by decide +kernel) rfl, gT_in 939 (by decide +kernel) rfl, gT_in 21 (by decide +kernel) rfl, gT_in 940 (by decide +kernel) rfl, by decide, by decide, by decide +kernel⟩
theorem wl_RL_64 : Cond.methodLink RL 64 yX8_banquet ∈ gT := gT_in 937 (by decide +kernel) rfl
theorem wt_L_act : gMsW yL_act cL_act 7 (some .int) [(0, 38, 61, 68), (39, 44, 61, 68), (45, 51, 61, 68), (52, 60, 61, 68)] 6 := ⟨gT_in 924 (by decide +kernel) rfl, gT_in 20 (by decide +kernel) rfl, gT_in 925 (by decide +kernel) rfl, by decide, by decide, by decide +kernel⟩
theorem wt_X8_read : gMv yX8_read cX8_read 3 (some .int) 0 := ⟨gT_in 378 (by decide +kernel) rfl, gT_in 379 (by decide +kernel) rfl, gT_in 21 (by decide +kernel) rfl, gT_in 380 (by decide +kernel) rfl, by decide, by decide, by decide +kernel⟩
theorem wl_RL_104 : Cond.methodLink RL 104 yX8_read ∈ gT := gT_in 377 (by decide +kernel) rfl
theorem wcl_2 : Cond.classLink RL 145 (gEx 2) ∈ gT := gT_in 961 (by decide +kernel) rfl
theorem wca_2 : Cond.castable (gEx 2) (gEx 2) ∈ gN := gN_in 33 (by decide +kernel) rfl
theorem wt_L_reads : gMsW yL_reads cL_reads 2 (some .int) [(0, 4, 5, 145), (0, 4, 8, 68)] 1 := ⟨gT_in 959 (by decide +kernel) rfl, gT_in 20 (by decide +kernel) rfl, gT_in 960 (by decide +kernel) rfl, by decide, by decide, by decide +kernel⟩
theorem wl_RL_7 : Cond.methodLink RL 7 yJ0_length_8abf5 ∈ gT := gT_in 604 (by decide +kernel) rfl
theorem wl_RL_13 : Cond.methodLink RL 13 yJ0_charAt_5068e ∈ gT := gT_in 605 (by decide +kernel) rfl
theorem wl_RL_17 : Cond.methodLink RL 17 yX8_append ∈ gT := gT_in 606 (by decide +kernel) rfl
theorem wt_X8_append : gMv yX8_append cX8_append 2 (some .int) 1 := ⟨gT_in 607 (by decide +kernel) rfl, gT_in 608 (by decide +kernel) rfl, gT_in 21 (by decide +kernel) rfl, gT_in 609 (by decide +kernel) rfl, by decide, by decide, by decide +kernel⟩
theorem wt_L_put : gMs yL_put cL_put 3 none 2 := ⟨gT_in 602 (by decide +kernel) rfl, gT_in 20 (by decide +kernel) rfl, gT_in 603 (by decide +kernel) rfl, by decide, by decide, by decide +kernel⟩
theorem wl_RL_48 : Cond.methodLink RL 48 yX8_account ∈ gT := gT_in 544 (by decide +kernel) rfl
theorem wt_X8_account : gMv yX8_account cX8_account 2 (some .int) 1 := ⟨gT_in 545 (by decide +kernel) rfl, gT_in 546 (by decide +kernel) rfl, gT_in 21 (by decide +kernel) rfl, gT_in 547 (by decide +kernel) rfl, by decide, by decide, by decide +kernel⟩
theorem wl_RL_70 : Cond.methodLink RL 70 yX8_stock ∈ gT := gT_in 44 (by decide +kernel) rfl
theorem wt_X8_stock : gMv yX8_stock cX8_stock 2 (some .int) 1 := ⟨gT_in 45 (by decide +kernel) rfl, gT_in 46 (by decide +kernel) rfl, gT_in 21 (by decide +kernel) rfl, gT_in 47 (by decide +kernel) rfl, by decide, by decide, by decide +kernel⟩
theorem wl_RL_73 : Cond.methodLink RL 73 yX8_tongsOf ∈ gT := gT_in 128 (by decide +kernel) rfl
theorem wt_X8_tongsOf : gMv yX8_tongsOf cX8_tongsOf 4 (some .int) 2 := ⟨gT_in 129 (by decide +kernel) rfl, gT_in 130 (by decide +kernel) rfl, gT_in 21 (by decide +kernel) rfl, gT_in 131 (by decide +kernel) rfl, by decide, by decide, by decide +kernel⟩
theorem wl_RL_76 : Cond.methodLink RL 76 yX8_towerOf ∈ gT := gT_in 236 (by decide +kernel) rfl
theorem wt_X8_towerOf : gMv yX8_towerOf cX8_towerOf 4 (some .int) 2 := ⟨gT_in 237 (by decide +kernel) rfl, gT_in 238 (by decide +kernel) rfl, gT_in 21 (by decide +kernel) rfl, gT_in 239 (by decide +kernel) rfl, by decide, by decide, by decide +kernel⟩
theorem wl_RL_79 : Cond.methodLink RL 79 yX8_courseOf ∈ gT := gT_in 214 (by decide +kernel) rfl
theorem wt_X8_courseOf : gMv yX8_courseOf cX8_courseOf 5 (some .int) 3 := ⟨gT_in 215 (by decide +kernel) rfl, gT_in 216 (by decide +kernel) rfl, gT_in 21 (by decide +kernel) rfl, gT_in 217 (by decide +kernel) rfl, by decide, by decide, by decide +kernel⟩
theorem wt_L_state : gMs yL_state cL_state 5 (some .int) 1 := ⟨gT_in 956 (by decide +kernel) rfl, gT_in 20 (by decide +kernel) rfl, gT_in 957 (by decide +kernel) rfl, by decide, by decide, by decide +kernel⟩
theorem wl_RL_30 : Cond.methodLink RL 30 yX8_humidity ∈ gT := gT_in 881 (by decide +kernel) rfl
theorem wt_X8_humidity : gMv yX8_humidity cX8_humidity 3 (some .int) 2 := ⟨gT_in 882 (by decide +kernel) rfl, gT_in 883 (by decide +kernel) rfl, gT_in 21 (by decide +kernel) rfl, gT_in 884 (by decide +kernel) rfl, by decide, by decide, by decide +kernel⟩
theorem wl_RL_34 : Cond.methodLink RL 34 yX8_tongs ∈ gT := gT_in 891 (by decide +kernel) rfl
theorem wt_X8_tongs : gMv yX8_tongs cX8_tongs 2 (some .int) 1 := ⟨gT_in 892 (by decide +kernel) rfl, gT_in 893 (by decide +kernel) rfl, gT_in 21 (by decide +kernel) rfl, gT_in 894 (by decide +kernel) rfl, by decide, by decide, by decide +kernel⟩
theorem wl_RL_38 : Cond.methodLink RL 38 yX8_tower ∈ gT := gT_in 905 (by decide +kernel) rfl
theorem wt_X8_tower : gMv yX8_tower cX8_tower 1 (some .int) 0 := ⟨gT_in 906 (by decide +kernel) rfl, gT_in 907 (by decide +kernel) rfl, gT_in 21 (by decide +kernel) rfl, gT_in 908 (by decide +kernel) rfl, by decide, by decide, by decide +kernel⟩
theorem wl_RL_44 : Cond.methodLink RL 44 yL_act ∈ gT := gT_in 923 (by decide +kernel) rfl
theorem wl_RL_54 : Cond.methodLink RL 54 yX8_pass ∈ gT := gT_in 332 (by decide +kernel) rfl
theorem wt_X8_pass : gMv yX8_pass cX8_pass 2 (some .int) 1 := ⟨gT_in 333 (by decide +kernel) rfl, gT_in 334 (by decide +kernel) rfl, gT_in 21 (by decide +kernel) rfl, gT_in 335 (by decide +kernel) rfl, by decide, by decide, by decide +kernel⟩
theorem wl_RL_51 : Cond.methodLink RL 51 yX8_show ∈ gT := gT_in 253 (by decide +kernel) rfl
theorem wt_X8_show : gMv yX8_show cX8_show 4 (some .int) 2 := ⟨gT_in 254 (by decide +kernel) rfl, gT_in 255 (by decide +kernel) rfl, gT_in 21 (by decide +kernel) rfl, gT_in 256 (by decide +kernel) rfl, by decide, by decide, by decide +kernel⟩
set_option maxRecDepth 100000 in
set_option maxHeartbeats 4000000 in
theorem c_L_at (l : Launch) {b L : Nat} {xs : Nat → Int32} (hL : L ≤ 260) (k : Int32) (hk : ¬ k < 0) : Met l yL_at (gWs yL_at cL_at 2 (some .int)) { frames := 0, cells := 0, slots := 0, locals := 0 } (va_Pc [.ref b, .int k] (gBs b L xs)) (va_Qi (fun r (_ : Unit) => r = atv xs L k) (fun _ _ => True) (fun _ => False)) 0 0 (fun _ => False) := by
  refine Met.ofW (cc := cL_at) (maxL := 2) (ret := some .int) (by decide +kernel) rfl ?_
  intro p e s m args below meth c s₁ B hml hv
  obtain ⟨rfl, hX, hbl⟩ := hv
  have hx := B.exec
  have hb := B.bytes
  have hl := lv_entry [.ref b, .int k] (n := 2) (Nat.le_of_ble_eq_true rfl)
  rw [lg_entry_eq]
  generalize (lg_sl [.ref b, .int k] ++ List.replicate (2 - (lg_sl [.ref b, .int k]).length) Slot.unset).toArray = ls at hl ⊢
  have hl : lv_has ls 2 [(0, .ref b), (1, .int k)] := hl
  have hS : va_S (fun _ => False) s.heap s.heap [] := va_S.rf
  have hfin : ∀ (v : Int32), v = atv xs L k → ∀ t : State, t.heap = s.heap → va_Qi (fun r (_ : Unit) => r = atv xs L k) (fun _ _ => True) (fun _ => False) (#[Value.ref b, Value.int k] : Array Value) s (.returned (some (.int v))) t := fun v hv t ht => ⟨⟨v, (), rfl, hv, trivial⟩, hS.F ht⟩
  refine lv_iload_n hx hb dL_at_0 rfl (lv_at hl 1 rfl) ?_
  refine lv_aload_n hx hb dL_at_1 rfl (lv_at hl 0 rfl) ?_
  refine va_slen hx hb hX hbl (A := fun _ => False) id hS dL_at_2 ?_
  refine lv_icmp_ge (tgt := 12) hx hb dL_at_3 (by decide) (fun h => ?_) (fun h => ?_)
  · refine lv_iconst (v := (0 : Int32)) hx hb dL_at_12 (by decide) ?_
    exact W.iret hx hb B.returns (fun t ht _ => hfin 0 (by unfold atv; rw [if_pos h]) t ht) (fun _ h => nomatch h) dL_at_13 B.notSynchronized
  · have h1 : k < Int32.ofNat L := Int32.not_le.mp h
    have hin : vp_in k L := by
      rintro (h2 | h2)
      · exact hk h2
      · obtain ⟨j, hj, rfl⟩ := nI_of hk
        rw [nI_clamp hj] at h2
        have h3 : nI j < nI L := h1
        rw [nI_ltI hj (by omega)] at h3
        omega
    refine lv_aload_n hx hb dL_at_6 rfl (lv_at hl 0 rfl) ?_
    refine lv_iload_n hx hb dL_at_7 rfl (lv_at hl 1 rfl) ?_
    refine va_sld hx hb hX hbl (A := fun _ => False) id hS hin dL_at_8 ?_
    refine lv_goto (tgt := 13) hx hb dL_at_9 (by decide) ?_
    exact W.iret hx hb B.returns (fun t ht _ => hfin _ (by unfold atv; rw [if_neg h]) t ht) (fun _ h => nomatch h) dL_at_13 B.notSynchronized
theorem ex_k {α : Type} {a : α} {P : α → Prop} (h : P a) : ∃ k, k = a ∧ P k := ⟨a, rfl, h⟩
def gcx (k : Nat) (o : Option (Nat × Int32 × gMem)) : Option (Int32 × gMem) := match o with
  | none => none
  | some q => if q.1 = 0 then some q.2 else if q.1 = k then some ((-1 : Int32), q.2.2) else none
theorem gcx_o {k : Nat} {o : Option (Nat × Int32 × gMem)} {r : Int32 × gMem} (h : gcx k o = some r) : ∃ (e1 : Nat) (x : Int32) (σ1 : gMem), o = some (e1, x, σ1) ∧ (e1 = 0 → some (x, σ1) = some r) ∧ (e1 ≠ 0 → e1 = k ∧ some ((-1 : Int32), σ1) = some r) := by
  cases o with
  | none => cases h
  | some q =>
    obtain ⟨e1, x, σ1⟩ := q
    refine ⟨e1, x, σ1, rfl, fun h0 => ?_, fun h0 => ?_⟩
    · have h2 : (if e1 = 0 then some (x, σ1) else if e1 = k then some ((-1 : Int32), σ1) else none) = some r := h
      rw [if_pos h0] at h2
      exact h2
    · have h2 : (if e1 = 0 then some (x, σ1) else if e1 = k then some ((-1 : Int32), σ1) else none) = some r := h
      rw [if_neg h0] at h2
      by_cases h3 : e1 = k
      · rw [if_pos h3] at h2
        exact ⟨h3, h2⟩
      · rw [if_neg h3] at h2
        cases h2
def f_L_act (c0 : Nat) (u1 : Int32) (u2 : Int32) (u3 : Int32) (u4 : Int32) (u5 : Int32) (m0 : gMem) : Option (Int32 × gMem) := if u1 = (0 : Int32) then gcx 3 (f_X8_lay c0 u2 u3 u4 u5 m0) else (if u1 = (1 : Int32) then gcx 3 (f_X8_take c0 u2 m0) else (if u1 = (2 : Int32) then gcx 3 (f_X8_buy c0 u2 u3 m0) else (gcx 3 (f_X8_banquet c0 u2 u3 u4 m0))))
set_option maxRecDepth 100000 in
set_option maxHeartbeats 4000000 in
theorem bw_act {p : Program} {l : Launch} {e : Env} {R : Room} {s : State} {m : MethodId} {args : Array Value} {below : List Frame} {meth : Method} {c : Code} {H : Heap} {locs : List Loc} {ls : Array Slot} {X : gX} (E : gEn p s m args c cL_act RL X) (hr : meth.sig.returnType = some .int) (hlocks : meth.locks = false) (hml : c.maxLocals = 7) (ht : c.exceptionTable.toList = tableOf [(0, 38, 61, 68), (39, 44, 61, 68), (45, 51, 61, 68), (52, 60, 61, 68)]) (hl0 : l.stackTraces = false) (hRf : 9 ≤ R.frames) (hRl : 185 ≤ R.locals) (hRc : 4 ≤ R.cells) (hRs : 24 ≤ R.slots) {c0 : Nat} {u1 : Int32} {u2 : Int32} {u3 : Int32} {u4 : Int32} {u5 : Int32} {m0 : gMem} {res : Int32 × gMem} (hk0 : gk c0 = 8) (hf : f_L_act c0 u1 u2 u3 u4 u5 m0 = some res) (hM : gM X m0 H) (hS : va_S (gA X) s.heap H locs) (hl : lv_has ls 7 [(0, .ref (X.1 + c0)), (1, .int u1), (2, .int u2), (3, .int u3), (4, .int u4), (5, .int u5)]) : W p l e R s m args below meth c H locs 0 0 (vx_MQ below (gQi X res) gXN args s 4 24 (gA X)) (F0 m 0 ls []) := by
  obtain ⟨hx, hb⟩ := (⟨E.1, E.2.1⟩ : _ ∧ _)
  unfold f_L_act at hf
  refine lv_iload_n hx hb dL_act_0 rfl (lv_at hl 1 rfl) ?_
  by_cases h0 : u1 = (0 : Int32)
  · have hf := g_t h0 hf
    refine lv_tableIn (tgt := 28) hx hb dL_act_1 (by rw [h0]; decide) (by rw [h0]; decide) (by rw [h0]; rfl) (by decide) ?_
    refine lv_aload_n hx hb dL_act_28 rfl (lv_at hl 0 rfl) ?_
    refine lv_iload_n hx hb dL_act_29 rfl (lv_at hl 2 rfl) ?_
    refine lv_iload_n hx hb dL_act_30 rfl (lv_at hl 3 rfl) ?_
    refine lv_iload hx hb dL_act_31 (lv_at hl 4 rfl) ?_
    refine lv_iload hx hb dL_act_33 (lv_at hl 5 rfl) ?_
    obtain ⟨e1, r1, m1, hq, hf0, hf1⟩ := gcx_o hf
    refine gb_Ti (gr_VX (As := [.int u2, .int u3, .int u4, .int u5]) (ci := 8) (rm := { frames := 8, cells := 4, slots := 24, locals := 161 }) E hml hl.1 (c_X8_lay l X hl0 c0 u2 u3 u4 u5 m0 hk0 hq) wt_X8_lay wl_RL_57 rfl hk0 (by decide) rfl rfl hM hS rfl rfl (Nat.le_trans (by decide) hRf) (Nat.le_trans (by decide) hRl) (Nat.le_trans (Nat.le_of_ble_eq_true rfl) hRc) (Nat.le_trans (Nat.le_of_ble_eq_true rfl) hRs) (Nat.le_of_ble_eq_true rfl) dL_act_35 rfl) hS (fun h0 => ?_) (fun h0 H locs hM hS => ?_)
    · obtain ⟨h3, hf⟩ := hf1 h0
      subst h3
      intro H locs ce q9 hM hS hce hcv hcl
      refine gl_catch E [] (⟨0, 38, 61, 68⟩ : ExceptionTableEntry) [(⟨39, 44, 61, 68⟩ : ExceptionTableEntry), (⟨45, 51, 61, 68⟩ : ExceptionTableEntry), (⟨52, 60, 61, 68⟩ : ExceptionTableEntry)] ht (fun a ha => nomatch ha) rfl (by decide) wcl_3 wca_3 hce hcv hcl ?_
      refine lv_astore (lv' := [(6, .ref q9), (0, .ref (X.1 + c0)), (1, .int u1), (2, .int u2), (3, .int u3), (4, .int u4), (5, .int u5)]) hx hb dL_act_61 hl (by decide) rfl (fun ls hl => ?_)
      refine lv_iconst (v := (-1 : Int32)) hx hb dL_act_63 (by decide) ?_
      exact ge_Wi E hr hlocks hf hM hS (Nat.le_of_ble_eq_true rfl) (Nat.le_of_ble_eq_true rfl) dL_act_64
    · have hf := hf0 h0
      exact ge_Wi E hr hlocks hf hM hS (Nat.le_of_ble_eq_true rfl) (Nat.le_of_ble_eq_true rfl) dL_act_38
  have hf := g_f h0 hf
  by_cases h1 : u1 = (1 : Int32)
  · have hf := g_t h1 hf
    refine lv_tableIn (tgt := 39) hx hb dL_act_1 (by rw [h1]; decide) (by rw [h1]; decide) (by rw [h1]; rfl) (by decide) ?_
    refine lv_aload_n hx hb dL_act_39 rfl (lv_at hl 0 rfl) ?_
    refine lv_iload_n hx hb dL_act_40 rfl (lv_at hl 2 rfl) ?_
    obtain ⟨e1, r1, m1, hq, hf0, hf1⟩ := gcx_o hf
    refine gb_Ti (gr_VX (As := [.int u2]) (ci := 8) (rm := { frames := 7, cells := 2, slots := 12, locals := 130 }) E hml hl.1 (c_X8_take l X hl0 c0 u2 m0 hk0 hq) wt_X8_take wl_RL_61 rfl hk0 (by decide) rfl rfl hM hS rfl rfl (Nat.le_trans (by decide) hRf) (Nat.le_trans (by decide) hRl) (Nat.le_trans (Nat.le_of_ble_eq_true rfl) hRc) (Nat.le_trans (Nat.le_of_ble_eq_true rfl) hRs) (Nat.le_of_ble_eq_true rfl) dL_act_41 rfl) hS (fun h0 => ?_) (fun h0 H locs hM hS => ?_)
    · obtain ⟨h3, hf⟩ := hf1 h0
      subst h3
      intro H locs ce q9 hM hS hce hcv hcl
      refine gl_catch E [(⟨0, 38, 61, 68⟩ : ExceptionTableEntry)] (⟨39, 44, 61, 68⟩ : ExceptionTableEntry) [(⟨45, 51, 61, 68⟩ : ExceptionTableEntry), (⟨52, 60, 61, 68⟩ : ExceptionTableEntry)] ht (fun a ha => by simp only [List.mem_cons, List.not_mem_nil, or_false] at ha; rcases ha with rfl <;> rfl) rfl (by decide) wcl_3 wca_3 hce hcv hcl ?_
      refine lv_astore (lv' := [(6, .ref q9), (0, .ref (X.1 + c0)), (1, .int u1), (2, .int u2), (3, .int u3), (4, .int u4), (5, .int u5)]) hx hb dL_act_61 hl (by decide) rfl (fun ls hl => ?_)
      refine lv_iconst (v := (-1 : Int32)) hx hb dL_act_63 (by decide) ?_
      exact ge_Wi E hr hlocks hf hM hS (Nat.le_of_ble_eq_true rfl) (Nat.le_of_ble_eq_true rfl) dL_act_64
    · have hf := hf0 h0
      exact ge_Wi E hr hlocks hf hM hS (Nat.le_of_ble_eq_true rfl) (Nat.le_of_ble_eq_true rfl) dL_act_44
  have hf := g_f h1 hf
  by_cases h2 : u1 = (2 : Int32)
  · have hf := g_t h2 hf
    refine lv_tableIn (tgt := 45) hx hb dL_act_1 (by rw [h2]; decide) (by rw [h2]; decide) (by rw [h2]; rfl) (by decide) ?_
    refine lv_aload_n hx hb dL_act_45 rfl (lv_at hl 0 rfl) ?_
    refine lv_iload_n hx hb dL_act_46 rfl (lv_at hl 2 rfl) ?_
    refine lv_iload_n hx hb dL_act_47 rfl (lv_at hl 3 rfl) ?_
    obtain ⟨e1, r1, m1, hq, hf0, hf1⟩ := gcx_o hf
    refine gb_Ti (gr_VX (As := [.int u2, .int u3]) (ci := 8) (rm := { frames := 6, cells := 1, slots := 6, locals := 124 }) E hml hl.1 (c_X8_buy l X hl0 c0 u2 u3 m0 hk0 hq) wt_X8_buy wl_RL_41 rfl hk0 (by decide) rfl rfl hM hS rfl rfl (Nat.le_trans (by decide) hRf) (Nat.le_trans (by decide) hRl) (Nat.le_trans (Nat.le_of_ble_eq_true rfl) hRc) (Nat.le_trans (Nat.le_of_ble_eq_true rfl) hRs) (Nat.le_of_ble_eq_true rfl) dL_act_48 rfl) hS (fun h0 => ?_) (fun h0 H locs hM hS => ?_)
    · obtain ⟨h3, hf⟩ := hf1 h0
      subst h3
      intro H locs ce q9 hM hS hce hcv hcl
      refine gl_catch E [(⟨0, 38, 61, 68⟩ : ExceptionTableEntry), (⟨39, 44, 61, 68⟩ : ExceptionTableEntry)] (⟨45, 51, 61, 68⟩ : ExceptionTableEntry) [(⟨52, 60, 61, 68⟩ : ExceptionTableEntry)] ht (fun a ha => by simp only [List.mem_cons, List.not_mem_nil, or_false] at ha; rcases ha with rfl | rfl <;> rfl) rfl (by decide) wcl_3 wca_3 hce hcv hcl ?_
      refine lv_astore (lv' := [(6, .ref q9), (0, .ref (X.1 + c0)), (1, .int u1), (2, .int u2), (3, .int u3), (4, .int u4), (5, .int u5)]) hx hb dL_act_61 hl (by decide) rfl (fun ls hl => ?_)
      refine lv_iconst (v := (-1 : Int32)) hx hb dL_act_63 (by decide) ?_
      exact ge_Wi E hr hlocks hf hM hS (Nat.le_of_ble_eq_true rfl) (Nat.le_of_ble_eq_true rfl) dL_act_64
    · have hf := hf0 h0
      exact ge_Wi E hr hlocks hf hM hS (Nat.le_of_ble_eq_true rfl) (Nat.le_of_ble_eq_true rfl) dL_act_51
  have hf := g_f h2 hf
  have ah0 := g_tn (z := 0) h0 rfl
  have ah1 := g_tn (z := 1) h1 rfl
  have ah2 := g_tn (z := 2) h2 rfl
  refine lv_tableOut (tgt := 52) hx hb dL_act_1 (by omega) (by decide) ?_
  refine lv_aload_n hx hb dL_act_52 rfl (lv_at hl 0 rfl) ?_
  refine lv_iload_n hx hb dL_act_53 rfl (lv_at hl 2 rfl) ?_
  refine lv_iload_n hx hb dL_act_54 rfl (lv_at hl 3 rfl) ?_
  refine lv_iload hx hb dL_act_55 (lv_at hl 4 rfl) ?_
  obtain ⟨e1, r1, m1, hq, hf0, hf1⟩ := gcx_o hf
  refine gb_Ti (gr_VX (As := [.int u2, .int u3, .int u4]) (ci := 8) (rm := { frames := 6, cells := 1, slots := 6, locals := 124 }) E hml hl.1 (c_X8_banquet l X hl0 c0 u2 u3 u4 m0 hk0 hq) wt_X8_banquet wl_RL_64 rfl hk0 (by decide) rfl rfl hM hS rfl rfl (Nat.le_trans (by decide) hRf) (Nat.le_trans (by decide) hRl) (Nat.le_trans (Nat.le_of_ble_eq_true rfl) hRc) (Nat.le_trans (Nat.le_of_ble_eq_true rfl) hRs) (Nat.le_of_ble_eq_true rfl) dL_act_57 rfl) hS (fun h0 => ?_) (fun h0 H locs hM hS => ?_)
  · obtain ⟨h3, hf⟩ := hf1 h0
    subst h3
    intro H locs ce q9 hM hS hce hcv hcl
    refine gl_catch E [(⟨0, 38, 61, 68⟩ : ExceptionTableEntry), (⟨39, 44, 61, 68⟩ : ExceptionTableEntry), (⟨45, 51, 61, 68⟩ : ExceptionTableEntry)] (⟨52, 60, 61, 68⟩ : ExceptionTableEntry) [] ht (fun a ha => by simp only [List.mem_cons, List.not_mem_nil, or_false] at ha; rcases ha with rfl | rfl | rfl <;> rfl) rfl (by decide) wcl_3 wca_3 hce hcv hcl ?_
    refine lv_astore (lv' := [(6, .ref q9), (0, .ref (X.1 + c0)), (1, .int u1), (2, .int u2), (3, .int u3), (4, .int u4), (5, .int u5)]) hx hb dL_act_61 hl (by decide) rfl (fun ls hl => ?_)
    refine lv_iconst (v := (-1 : Int32)) hx hb dL_act_63 (by decide) ?_
    exact ge_Wi E hr hlocks hf hM hS (Nat.le_of_ble_eq_true rfl) (Nat.le_of_ble_eq_true rfl) dL_act_64
  · have hf := hf0 h0
    exact ge_Wi E hr hlocks hf hM hS (Nat.le_of_ble_eq_true rfl) (Nat.le_of_ble_eq_true rfl) dL_act_60
theorem c_L_act (l : Launch) (X : gX) (hl0 : l.stackTraces = false) (c0 : Nat) (u1 : Int32) (u2 : Int32) (u3 : Int32) (u4 : Int32) (u5 : Int32) (m0 : gMem) {res : Int32 × gMem} (hk0 : gk c0 = 8) (hf : f_L_act c0 u1 u2 u3 u4 u5 m0 = some res) : vx_Met l yL_act (gWsW yL_act cL_act 7 (some .int) [(0, 38, 61, 68), (39, 44, 61, 68), (45, 51, 61, 68), (52, 60, 61, 68)]) { frames := 9, cells := 4, slots := 24, locals := 185 } (va_Pc [.ref (X.1 + c0), .int u1, .int u2, .int u3, .int u4, .int u5] (gB X m0)) (gQi X res) gXN 4 24 (gA X) :=
  gMetW (by decide +kernel) rfl (Nat.le_of_ble_eq_true rfl) (fun p e s m args below meth c ls E hr hlocks hml ht hM hl => bw_act E hr hlocks hml ht hl0 (Nat.le_refl _) (Nat.le_refl _) (Nat.le_refl _) (Nat.le_refl _) hk0 hf hM va_S.rf hl)
def f_L_reads (c0 : Nat) (m0 : gMem) : Option (Int32 × gMem) := gcx 2 (f_X8_read c0 m0)
set_option maxRecDepth 100000 in
set_option maxHeartbeats 4000000 in
theorem bw_reads {p : Program} {l : Launch} {e : Env} {R : Room} {s : State} {m : MethodId} {args : Array Value} {below : List Frame} {meth : Method} {c : Code} {H : Heap} {locs : List Loc} {ls : Array Slot} {X : gX} (E : gEn p s m args c cL_reads RL X) (hr : meth.sig.returnType = some .int) (hlocks : meth.locks = false) (hml : c.maxLocals = 2) (ht : c.exceptionTable.toList = tableOf [(0, 4, 5, 145), (0, 4, 8, 68)]) (hl0 : l.stackTraces = false) (hRf : 8 ≤ R.frames) (hRl : 219 ≤ R.locals) (hRc : 1 ≤ R.cells) (hRs : 6 ≤ R.slots) {c0 : Nat}  {m0 : gMem} {res : Int32 × gMem} (hk0 : gk c0 = 8) (hf : f_L_reads c0 m0 = some res) (hM : gM X m0 H) (hS : va_S (gA X) s.heap H locs) (hl : lv_has ls 2 [(0, .ref (X.1 + c0))]) : W p l e R s m args below meth c H locs 0 0 (vx_MQ below (gQi X res) gXN args s 1 6 (gA X)) (F0 m 0 ls []) := by
  obtain ⟨hx, hb⟩ := (⟨E.1, E.2.1⟩ : _ ∧ _)
  unfold f_L_reads at hf
  refine lv_aload_n hx hb dL_reads_0 rfl (lv_at hl 0 rfl) ?_
  obtain ⟨e1, r1, m1, hq, hf0, hf1⟩ := gcx_o hf
  refine gb_Ti (gr_VX (As := []) (ci := 8) (rm := { frames := 7, cells := 1, slots := 6, locals := 197 }) E hml hl.1 (c_X8_read l X hl0 c0 m0 hk0 hq) wt_X8_read wl_RL_104 rfl hk0 (by decide) rfl rfl hM hS rfl rfl (Nat.le_trans (by decide) hRf) (Nat.le_trans (by decide) hRl) (Nat.le_trans (Nat.le_of_ble_eq_true rfl) hRc) (Nat.le_trans (Nat.le_of_ble_eq_true rfl) hRs) (Nat.le_of_ble_eq_true rfl) dL_reads_1 rfl) hS (fun h0 => ?_) (fun h0 H locs hM hS => ?_)
  · obtain ⟨h3, hf⟩ := hf1 h0
    subst h3
    intro H locs ce q9 hM hS hce hcv hcl
    refine gl_catch E [] (⟨0, 4, 5, 145⟩ : ExceptionTableEntry) [(⟨0, 4, 8, 68⟩ : ExceptionTableEntry)] ht (fun a ha => nomatch ha) rfl (by decide) wcl_2 wca_2 hce hcv hcl ?_
    refine lv_astore_n (lv' := [(1, .ref q9), (0, .ref (X.1 + c0))]) hx hb dL_reads_5 rfl hl (by decide) rfl (fun ls hl => ?_)
    refine lv_iconst (v := (-1 : Int32)) hx hb dL_reads_6 (by decide) ?_
    exact ge_Wi E hr hlocks hf hM hS (Nat.le_of_ble_eq_true rfl) (Nat.le_of_ble_eq_true rfl) dL_reads_7
  · have hf := hf0 h0
    exact ge_Wi E hr hlocks hf hM hS (Nat.le_of_ble_eq_true rfl) (Nat.le_of_ble_eq_true rfl) dL_reads_4
theorem c_L_reads (l : Launch) (X : gX) (hl0 : l.stackTraces = false) (c0 : Nat) (m0 : gMem) {res : Int32 × gMem} (hk0 : gk c0 = 8) (hf : f_L_reads c0 m0 = some res) : vx_Met l yL_reads (gWsW yL_reads cL_reads 2 (some .int) [(0, 4, 5, 145), (0, 4, 8, 68)]) { frames := 8, cells := 1, slots := 6, locals := 219 } (va_Pc [.ref (X.1 + c0)] (gB X m0)) (gQi X res) gXN 1 6 (gA X) :=
  gMetW (by decide +kernel) rfl (Nat.le_of_ble_eq_true rfl) (fun p e s m args below meth c ls E hr hlocks hml ht hM hl => bw_reads E hr hlocks hml ht hl0 (Nat.le_refl _) (Nat.le_refl _) (Nat.le_refl _) (Nat.le_refl _) hk0 hf hM va_S.rf hl)
def L_L_put_2 (c0 : Nat) (u1 : Nat) : Nat → Int32 → gMem → Option (Nat × Unit × gMem)
  | 0, _, _ => none
  | n + 1, y2, m0 => g1 (f_J0_length_8abf5 u1 m0) (fun r3 m1 => if r3 ≤ y2 then (some (0, (), m1)) else (g1 (f_J0_charAt_5068e u1 y2 m1) (fun r7 m5 => g2 () (f_X8_append c0 r7 m5) (fun r10 m8 => gv (y2 + (1 : Int32)) (fun x15 => L_L_put_2 c0 u1 n x15 m8)))))
def f_L_put (c0 : Nat) (u1 : Nat) (m0 : gMem) : Option (Nat × Unit × gMem) := L_L_put_2 c0 u1 9 (0 : Int32) m0
set_option maxRecDepth 100000 in
set_option maxHeartbeats 4000000 in
theorem l_L_put_2 {p : Program} {l : Launch} {e : Env} {R : Room} {s : State} {m : MethodId} {args : Array Value} {below : List Frame} {meth : Method} {c : Code} {X : gX} (E : gEn p s m args c cL_put RL X) (hr : meth.sig.returnType = none) (hlocks : meth.locks = false) (hml : c.maxLocals = 3) (hl0 : l.stackTraces = false) (hout : ∀ x ∈ c.exceptionTable.toList, False) (hRf : 7 ≤ R.frames) (hRl : 121 ≤ R.locals) (hRc : 9 ≤ R.cells) (hRs : 54 ≤ R.slots) (c0 : Nat) (u1 : Nat) (hk0 : gk c0 = 8) {res : Nat × Unit × gMem} (Bc Bs : Nat) (hBc : Bc ≤ 9) (hBs : Bs ≤ 54) :
    ∀ (n : Nat) (y2 : Int32) (m0 : gMem) (H : Heap) (locs : List Loc) (ls : Array Slot) (cells slots : Nat), cells + n * 1 ≤ Bc → slots + n * 6 ≤ Bs → L_L_put_2 c0 u1 n y2 m0 = some res → gM X m0 H → va_S (gA X) s.heap H locs → lv_has ls 3 [(0, .ref (X.1 + c0)), (1, .ref (X.2.2.2.1 u1)), (2, .int y2)] → W p l e R s m args below meth c H locs cells slots (vx_MQ below (gQTv X res) (gXC X res.1 res.2.2) args s 9 54 (gA X)) (F0 m 2 ls []) := by
  obtain ⟨hx, hb⟩ := (⟨E.1, E.2.1⟩ : _ ∧ _)
  intro n
  induction n with
  | zero =>
    intro _ _ _ _ _ _ _ _ _ hf
    cases hf
  | succ n ih =>
    intro y2 m0 H locs ls cells slots hcl hsl hf hM hS hl
    rw [L_L_put_2] at hf
    refine lv_iload_n hx hb dL_put_2 rfl (lv_at hl 2 rfl) ?_
    refine lv_aload_n hx hb dL_put_3 rfl (lv_at hl 1 rfl) ?_
    obtain ⟨r3, m1, hqq2, hf⟩ := g1_o hf
    refine ga_i (gr_VS (As := []) (rm := { frames := 1, cells := 0, slots := 0, locals := 30 }) E hml hl.1 (c_J0_length_8abf5 l X u1 m0 hqq2) wt_J0_length_8abf5 wl_RL_7 rfl (f_J0_length_8abf5_lt hqq2) hM hS rfl rfl (Nat.le_trans (by decide) hRf) (Nat.le_trans (by decide) hRl) (Nat.le_trans (by omega) hRc) (Nat.le_trans (by omega) hRs) (Nat.le_of_ble_eq_true rfl) dL_put_4 rfl) hS (fun H locs hM hS => ?_)
    refine lv_icmp_ge (tgt := 26) hx hb dL_put_7 (by decide) (fun h4 => ?_) (fun h4 => ?_)
    · have hf := g_t h4 hf
      exact ge_Tv E hr hlocks hf hM hS (by omega) (by omega) dL_put_26
    · have hf := g_f h4 hf
      refine lv_aload_n hx hb dL_put_10 rfl (lv_at hl 0 rfl) ?_
      refine lv_aload_n hx hb dL_put_11 rfl (lv_at hl 1 rfl) ?_
      refine lv_iload_n hx hb dL_put_12 rfl (lv_at hl 2 rfl) ?_
      obtain ⟨r7, m5, hqq6, hf⟩ := g1_o hf
      refine ga_i (gr_VS (As := [.int y2]) (rm := { frames := 3, cells := 0, slots := 0, locals := 90 }) E hml hl.1 (c_J0_charAt_5068e l X u1 y2 m1 hqq6) wt_J0_charAt_5068e wl_RL_13 rfl (f_J0_charAt_5068e_lt hqq6) hM hS rfl rfl (Nat.le_trans (by decide) hRf) (Nat.le_trans (by decide) hRl) (Nat.le_trans (by omega) hRc) (Nat.le_trans (by omega) hRs) (Nat.le_of_ble_eq_true rfl) dL_put_13 rfl) hS (fun H locs hM hS => ?_)
      obtain ⟨e11, r10, m8, hqq9, hf12, hx13⟩ := g2_o hf
      refine ga_Ti (gr_VX (As := [.int r7]) (ci := 8) (rm := { frames := 6, cells := 1, slots := 6, locals := 100 }) E hml hl.1 (c_X8_append l X hl0 c0 r7 m5 hk0 hqq9) wt_X8_append wl_RL_17 rfl hk0 (by decide) rfl rfl hM hS rfl rfl (Nat.le_trans (by decide) hRf) (Nat.le_trans (by decide) hRl) (Nat.le_trans (by omega) hRc) (Nat.le_trans (by omega) hRs) (Nat.le_of_ble_eq_true rfl) dL_put_16 rfl) hout hlocks hS (by omega) (by omega) (fun h => by rw [hx13 h]; exact ⟨rfl, rfl⟩) (fun hz14 H locs hM hS => ?_)
      have hf := hf12 hz14
      refine lv_pop hx hb dL_put_19 rfl ?_
      obtain ⟨x15, ex15, hf⟩ := gv_o hf
      refine lv_iinc (v := x15) (lv' := [(2, .int x15), (0, .ref (X.1 + c0)), (1, .ref (X.2.2.2.1 u1))]) hx hb dL_put_20 hl (k := 2) rfl (by rw [ex15]; rfl) (by decide) rfl (fun ls hl => ?_)
      refine lv_goto (tgt := 2) hx hb dL_put_23 (by decide) ?_
      exact ih x15 m8 _ _ _ _ _ (by omega) (by omega) hf hM hS (lv_sub hl [1, 2, 0] rfl)
set_option maxRecDepth 100000 in
set_option maxHeartbeats 4000000 in
theorem b_L_put {p : Program} {l : Launch} {e : Env} {R : Room} {s : State} {m : MethodId} {args : Array Value} {below : List Frame} {meth : Method} {c : Code} {H : Heap} {locs : List Loc} {ls : Array Slot} {X : gX} (E : gEn p s m args c cL_put RL X) (hr : meth.sig.returnType = none) (hlocks : meth.locks = false) (hml : c.maxLocals = 3) (hl0 : l.stackTraces = false) (hout : ∀ x ∈ c.exceptionTable.toList, False) (hRf : 7 ≤ R.frames) (hRl : 121 ≤ R.locals) (hRc : 9 ≤ R.cells) (hRs : 54 ≤ R.slots) {c0 : Nat} {u1 : Nat} {m0 : gMem} {res : Nat × Unit × gMem} (hk0 : gk c0 = 8) (hf : f_L_put c0 u1 m0 = some res) (hM : gM X m0 H) (hS : va_S (gA X) s.heap H locs) (hl : lv_has ls 3 [(0, .ref (X.1 + c0)), (1, .ref (X.2.2.2.1 u1))]) : W p l e R s m args below meth c H locs 0 0 (vx_MQ below (gQTv X res) (gXC X res.1 res.2.2) args s 9 54 (gA X)) (F0 m 0 ls []) := by
  obtain ⟨hx, hb⟩ := (⟨E.1, E.2.1⟩ : _ ∧ _)
  unfold f_L_put at hf
  refine lv_iconst (v := (0 : Int32)) hx hb dL_put_0 (by decide) ?_
  refine lv_istore_n (lv' := [(2, .int (0 : Int32)), (0, .ref (X.1 + c0)), (1, .ref (X.2.2.2.1 u1))]) hx hb dL_put_1 rfl hl (by decide) rfl (fun ls hl => ?_)
  have ba16 : 0 + 9 ≤ 9 := by omega
  have bb17 : 0 + 54 ≤ 54 := by omega
  refine l_L_put_2 E hr hlocks hml hl0 hout hRf hRl hRc hRs c0 u1 hk0 (0 + 9) (0 + 54) ba16 bb17 9 (0 : Int32) m0 _ _ _ 0 0 (Nat.le_refl _) (Nat.le_refl _) hf hM hS (lv_sub hl [1, 2, 0] rfl)
theorem c_L_put (l : Launch) (X : gX) (hl0 : l.stackTraces = false) (c0 : Nat) (u1 : Nat) (m0 : gMem) {res : Nat × Unit × gMem} (hk0 : gk c0 = 8) (hf : f_L_put c0 u1 m0 = some res) : vx_Met l yL_put (gWs yL_put cL_put 3 none) { frames := 7, cells := 9, slots := 54, locals := 121 } (va_Pc [.ref (X.1 + c0), .ref (X.2.2.2.1 u1)] (gB X m0)) (gQTv X res) (gXC X res.1 res.2.2) 9 54 (gA X) :=
  gMetX (own := RL) (by decide +kernel) rfl (Nat.le_of_ble_eq_true rfl) (fun p e s m args below meth c ls E hr hlocks hml hout hM hl => b_L_put E hr hlocks hml hl0 hout (Nat.le_refl _) (Nat.le_refl _) (Nat.le_refl _) (Nat.le_refl _) hk0 hf hM va_S.rf hl)
def L_L_state_4 (c0 : Nat) (k27 : Int32 → Int32 →  gMem → Option (Nat × Int32 × gMem)) : Nat → Int32 → Int32 → gMem → Option (Nat × Int32 × gMem)
  | 0, _, _, _ => none
  | n + 1, y1, y2, m0 => if (15 : Int32) ≤ y2 then (k27 y1 y2 m0) else (g2 (0 : Int32) (f_X8_account c0 y2 m0) (fun r4 m2 => gv ((((31 : Int32) * y1) + r4)) (fun x9 => gv (y2 + (1 : Int32)) (fun x10 => L_L_state_4 c0 k27 n x9 x10 m2))))
def L_L_state_29 (c0 : Nat) (k51 : Int32 → Int32 →  gMem → Option (Nat × Int32 × gMem)) : Nat → Int32 → Int32 → gMem → Option (Nat × Int32 × gMem)
  | 0, _, _, _ => none
  | n + 1, y1, y2, m0 => if (3 : Int32) ≤ y2 then (k51 y1 y2 m0) else (g2 (0 : Int32) (f_X8_stock c0 y2 m0) (fun r17 m15 => gv ((((31 : Int32) * y1) + r17)) (fun x22 => gv (y2 + (1 : Int32)) (fun x23 => L_L_state_29 c0 k51 n x22 x23 m15))))
def L_L_state_64 (c0 : Nat) (u2 : Int32) (k87 : Int32 → Int32 →  gMem → Option (Nat × Int32 × gMem)) : Nat → Int32 → Int32 → gMem → Option (Nat × Int32 × gMem)
  | 0, _, _, _ => none
  | n + 1, y1, y3, m0 => if (3 : Int32) ≤ y3 then (k87 y1 y3 m0) else (g2 (0 : Int32) (f_X8_tongsOf c0 u2 y3 m0) (fun r38 m36 => gv ((((31 : Int32) * y1) + r38)) (fun x43 => gv (y3 + (1 : Int32)) (fun x44 => L_L_state_64 c0 u2 k87 n x43 x44 m36))))
def L_L_state_53 (c0 : Nat) (k93 : Int32 → Int32 →  gMem → Option (Nat × Int32 × gMem)) : Nat → Int32 → Int32 → gMem → Option (Nat × Int32 × gMem)
  | 0, _, _, _ => none
  | n + 1, y1, y2, m0 => g2 (0 : Int32) (f_X8_account c0 (3 : Int32) m0) (fun r29 m27 => if r29 ≤ y2 then (k93 y1 y2 m27) else (L_L_state_64 c0 y2 (fun y45 y46 m47 => gv (y2 + (1 : Int32)) (fun x48 => L_L_state_53 c0 k93 n y45 x48 m47)) 4 y1 (0 : Int32) m27))
def L_L_state_106 (c0 : Nat) (u2 : Int32) (k129 : Int32 → Int32 →  gMem → Option (Nat × Int32 × gMem)) : Nat → Int32 → Int32 → gMem → Option (Nat × Int32 × gMem)
  | 0, _, _, _ => none
  | n + 1, y1, y3, m0 => if (5 : Int32) ≤ y3 then (k129 y1 y3 m0) else (g2 (0 : Int32) (f_X8_towerOf c0 u2 y3 m0) (fun r66 m64 => gv ((((31 : Int32) * y1) + r66)) (fun x71 => gv (y3 + (1 : Int32)) (fun x72 => L_L_state_106 c0 u2 k129 n x71 x72 m64))))
def L_L_state_144 (c0 : Nat) (u2 : Int32) (u3 : Int32) (k170 : Int32 → Int32 →  gMem → Option (Nat × Int32 × gMem)) : Nat → Int32 → Int32 → gMem → Option (Nat × Int32 × gMem)
  | 0, _, _, _ => none
  | n + 1, y1, y4, m0 => if (4 : Int32) ≤ y4 then (k170 y1 y4 m0) else (g2 (0 : Int32) (f_X8_courseOf c0 u2 u3 y4 m0) (fun r87 m85 => gv ((((31 : Int32) * y1) + r87)) (fun x92 => gv (y4 + (1 : Int32)) (fun x93 => L_L_state_144 c0 u2 u3 k170 n x92 x93 m85))))
def L_L_state_131 (c0 : Nat) (u2 : Int32) (k176 : Int32 → Int32 →  gMem → Option (Nat × Int32 × gMem)) : Nat → Int32 → Int32 → gMem → Option (Nat × Int32 × gMem)
  | 0, _, _, _ => none
  | n + 1, y1, y3, m0 => g2 (0 : Int32) (f_X8_towerOf c0 u2 (0 : Int32) m0) (fun r78 m76 => if r78 ≤ y3 then (k176 y1 y3 m76) else (L_L_state_144 c0 u2 y3 (fun y94 y95 m96 => gv (y3 + (1 : Int32)) (fun x97 => L_L_state_131 c0 u2 k176 n y94 x97 m96)) 5 y1 (0 : Int32) m76))
def L_L_state_95 (c0 : Nat) : Nat → Int32 → Int32 → gMem → Option (Nat × Int32 × gMem)
  | 0, _, _, _ => none
  | n + 1, y1, y2, m0 => g2 (0 : Int32) (f_X8_account c0 (2 : Int32) m0) (fun r57 m55 => if r57 ≤ y2 then (some (0, y1, m55)) else (L_L_state_106 c0 y2 (fun y73 y74 m75 => L_L_state_131 c0 y2 (fun y101 y102 m103 => gv (y2 + (1 : Int32)) (fun x104 => L_L_state_95 c0 n y101 x104 m103)) 11 y73 (0 : Int32) m75) 6 y1 (0 : Int32) m55))
def f_L_state (c0 : Nat) (m0 : gMem) : Option (Nat × Int32 × gMem) := L_L_state_4 c0 (fun y11 y12 m13 => L_L_state_29 c0 (fun y24 y25 m26 => L_L_state_53 c0 (fun y52 y53 m54 => L_L_state_95 c0 7 y52 (0 : Int32) m54) 5 y24 (0 : Int32) m26) 4 y11 (0 : Int32) m13) 16 (0 : Int32) (0 : Int32) m0
set_option maxRecDepth 100000 in
set_option maxHeartbeats 4000000 in
theorem l_L_state_4 {p : Program} {l : Launch} {e : Env} {R : Room} {s : State} {m : MethodId} {args : Array Value} {below : List Frame} {meth : Method} {c : Code} {X : gX} (E : gEn p s m args c cL_state RL X) (hr : meth.sig.returnType = (some .int)) (hlocks : meth.locks = false) (hml : c.maxLocals = 5) (hl0 : l.stackTraces = false) (hout : ∀ x ∈ c.exceptionTable.toList, False) (hRf : 9 ≤ R.frames) (hRl : 169 ≤ R.locals) (hRc : 1465 ≤ R.cells) (hRs : 8790 ≤ R.slots) (c0 : Nat) (hk0 : gk c0 = 8) (k27 : Int32 → Int32 →  gMem → Option (Nat × Int32 × gMem)) {res : Nat × Int32 × gMem} (Bc Bs : Nat) (hBc : Bc ≤ 1465) (hBs : Bs ≤ 8790)
    (hk27 : ∀ (y1 : Int32) (y2 : Int32) (m0 : gMem) (H : Heap) (locs : List Loc) (ls : Array Slot) (cells slots : Nat), cells ≤ Bc → slots ≤ Bs → k27 y1 y2 m0 = some res → gM X m0 H → va_S (gA X) s.heap H locs → lv_has ls 5 [(0, .ref (X.1 + c0)), (1, .int y1), (2, .int y2)] → W p l e R s m args below meth c H locs cells slots (vx_MQ below (gQTi X res) (gXC X res.1 res.2.2) args s 1465 8790 (gA X)) (F0 m 27 ls [])) :
    ∀ (n : Nat) (y1 : Int32) (y2 : Int32) (m0 : gMem) (H : Heap) (locs : List Loc) (ls : Array Slot) (cells slots : Nat), cells + n * 1 ≤ Bc → slots + n * 6 ≤ Bs → L_L_state_4 c0 k27 n y1 y2 m0 = some res → gM X m0 H → va_S (gA X) s.heap H locs → lv_has ls 5 [(0, .ref (X.1 + c0)), (1, .int y1), (2, .int y2)] → W p l e R s m args below meth c H locs cells slots (vx_MQ below (gQTi X res) (gXC X res.1 res.2.2) args s 1465 8790 (gA X)) (F0 m 4 ls []) := by
  obtain ⟨hx, hb⟩ := (⟨E.1, E.2.1⟩ : _ ∧ _)
  intro n
  induction n with
  | zero =>
    intro _ _ _ _ _ _ _ _ _ _ hf
    cases hf
  | succ n ih =>
    intro y1 y2 m0 H locs ls cells slots hcl hsl hf hM hS hl
    rw [L_L_state_4] at hf
    refine lv_iload_n hx hb dL_state_4 rfl (lv_at hl 2 rfl) ?_
    refine lv_bipush (v := (15 : Int32)) hx hb dL_state_5 (by decide) ?_
    refine lv_icmp_ge (tgt := 27) hx hb dL_state_7 (by decide) (fun h1 => ?_) (fun h1 => ?_)
    · have hf := g_t h1 hf
      exact hk27 y1 y2 m0 _ _ _ _ _ (by omega) (by omega) hf hM hS (lv_sub hl [0, 1, 2] rfl)
    · have hf := g_f h1 hf
      refine lv_bipush (v := (31 : Int32)) hx hb dL_state_10 (by decide) ?_
      refine lv_iload_n hx hb dL_state_12 rfl (lv_at hl 1 rfl) ?_
      refine lv_imul hx hb dL_state_13 ?_
      refine lv_aload_n hx hb dL_state_14 rfl (lv_at hl 0 rfl) ?_
      refine lv_iload_n hx hb dL_state_15 rfl (lv_at hl 2 rfl) ?_
      obtain ⟨e5, r4, m2, hqq3, hf6, hx7⟩ := g2_o hf
      refine ga_Ti (gr_VX (As := [.int y2]) (ci := 8) (rm := { frames := 6, cells := 1, slots := 6, locals := 105 }) E hml hl.1 (c_X8_account l X hl0 c0 y2 m0 hk0 hqq3) wt_X8_account wl_RL_48 rfl hk0 (by decide) rfl rfl hM hS rfl rfl (Nat.le_trans (by decide) hRf) (Nat.le_trans (by decide) hRl) (Nat.le_trans (by omega) hRc) (Nat.le_trans (by omega) hRs) (Nat.le_of_ble_eq_true rfl) dL_state_16 rfl) hout hlocks hS (by omega) (by omega) (fun h => by rw [hx7 h]; exact ⟨rfl, rfl⟩) (fun hz8 H locs hM hS => ?_)
      have hf := hf6 hz8
      refine lv_iadd hx hb dL_state_19 ?_
      obtain ⟨x9, ex9, hf⟩ := gv_o hf
      rw [← ex9]
      refine lv_istore_n (lv' := [(1, .int x9), (0, .ref (X.1 + c0)), (2, .int y2)]) hx hb dL_state_20 rfl hl (by decide) rfl (fun ls hl => ?_)
      obtain ⟨x10, ex10, hf⟩ := gv_o hf
      refine lv_iinc (v := x10) (lv' := [(2, .int x10), (1, .int x9), (0, .ref (X.1 + c0))]) hx hb dL_state_21 hl (k := 2) rfl (by rw [ex10]; rfl) (by decide) rfl (fun ls hl => ?_)
      refine lv_goto (tgt := 4) hx hb dL_state_24 (by decide) ?_
      exact ih x9 x10 m2 _ _ _ _ _ (by omega) (by omega) hf hM hS (lv_sub hl [2, 1, 0] rfl)
set_option maxRecDepth 100000 in
set_option maxHeartbeats 4000000 in
theorem l_L_state_29 {p : Program} {l : Launch} {e : Env} {R : Room} {s : State} {m : MethodId} {args : Array Value} {below : List Frame} {meth : Method} {c : Code} {X : gX} (E : gEn p s m args c cL_state RL X) (hr : meth.sig.returnType = (some .int)) (hlocks : meth.locks = false) (hml : c.maxLocals = 5) (hl0 : l.stackTraces = false) (hout : ∀ x ∈ c.exceptionTable.toList, False) (hRf : 9 ≤ R.frames) (hRl : 169 ≤ R.locals) (hRc : 1465 ≤ R.cells) (hRs : 8790 ≤ R.slots) (c0 : Nat) (hk0 : gk c0 = 8) (k51 : Int32 → Int32 →  gMem → Option (Nat × Int32 × gMem)) {res : Nat × Int32 × gMem} (Bc Bs : Nat) (hBc : Bc ≤ 1465) (hBs : Bs ≤ 8790)
    (hk51 : ∀ (y1 : Int32) (y2 : Int32) (m0 : gMem) (H : Heap) (locs : List Loc) (ls : Array Slot) (cells slots : Nat), cells ≤ Bc → slots ≤ Bs → k51 y1 y2 m0 = some res → gM X m0 H → va_S (gA X) s.heap H locs → lv_has ls 5 [(0, .ref (X.1 + c0)), (1, .int y1), (2, .int y2)] → W p l e R s m args below meth c H locs cells slots (vx_MQ below (gQTi X res) (gXC X res.1 res.2.2) args s 1465 8790 (gA X)) (F0 m 51 ls [])) :
    ∀ (n : Nat) (y1 : Int32) (y2 : Int32) (m0 : gMem) (H : Heap) (locs : List Loc) (ls : Array Slot) (cells slots : Nat), cells + n * 1 ≤ Bc → slots + n * 6 ≤ Bs → L_L_state_29 c0 k51 n y1 y2 m0 = some res → gM X m0 H → va_S (gA X) s.heap H locs → lv_has ls 5 [(0, .ref (X.1 + c0)), (1, .int y1), (2, .int y2)] → W p l e R s m args below meth c H locs cells slots (vx_MQ below (gQTi X res) (gXC X res.1 res.2.2) args s 1465 8790 (gA X)) (F0 m 29 ls []) := by
  obtain ⟨hx, hb⟩ := (⟨E.1, E.2.1⟩ : _ ∧ _)
  intro n
  induction n with
  | zero =>
    intro _ _ _ _ _ _ _ _ _ _ hf
    cases hf
  | succ n ih =>
    intro y1 y2 m0 H locs ls cells slots hcl hsl hf hM hS hl
    rw [L_L_state_29] at hf
    refine lv_iload_n hx hb dL_state_29 rfl (lv_at hl 2 rfl) ?_
    refine lv_iconst (v := (3 : Int32)) hx hb dL_state_30 (by decide) ?_
    refine lv_icmp_ge (tgt := 51) hx hb dL_state_31 (by decide) (fun h14 => ?_) (fun h14 => ?_)
    · have hf := g_t h14 hf
      exact hk51 y1 y2 m0 _ _ _ _ _ (by omega) (by omega) hf hM hS (lv_sub hl [0, 1, 2] rfl)
    · have hf := g_f h14 hf
      refine lv_bipush (v := (31 : Int32)) hx hb dL_state_34 (by decide) ?_
      refine lv_iload_n hx hb dL_state_36 rfl (lv_at hl 1 rfl) ?_
      refine lv_imul hx hb dL_state_37 ?_
      refine lv_aload_n hx hb dL_state_38 rfl (lv_at hl 0 rfl) ?_
      refine lv_iload_n hx hb dL_state_39 rfl (lv_at hl 2 rfl) ?_
      obtain ⟨e18, r17, m15, hqq16, hf19, hx20⟩ := g2_o hf
      refine ga_Ti (gr_VX (As := [.int y2]) (ci := 8) (rm := { frames := 6, cells := 1, slots := 6, locals := 100 }) E hml hl.1 (c_X8_stock l X hl0 c0 y2 m0 hk0 hqq16) wt_X8_stock wl_RL_70 rfl hk0 (by decide) rfl rfl hM hS rfl rfl (Nat.le_trans (by decide) hRf) (Nat.le_trans (by decide) hRl) (Nat.le_trans (by omega) hRc) (Nat.le_trans (by omega) hRs) (Nat.le_of_ble_eq_true rfl) dL_state_40 rfl) hout hlocks hS (by omega) (by omega) (fun h => by rw [hx20 h]; exact ⟨rfl, rfl⟩) (fun hz21 H locs hM hS => ?_)
      have hf := hf19 hz21
      refine lv_iadd hx hb dL_state_43 ?_
      obtain ⟨x22, ex22, hf⟩ := gv_o hf
      rw [← ex22]
      refine lv_istore_n (lv' := [(1, .int x22), (0, .ref (X.1 + c0)), (2, .int y2)]) hx hb dL_state_44 rfl hl (by decide) rfl (fun ls hl => ?_)
      obtain ⟨x23, ex23, hf⟩ := gv_o hf
      refine lv_iinc (v := x23) (lv' := [(2, .int x23), (1, .int x22), (0, .ref (X.1 + c0))]) hx hb dL_state_45 hl (k := 2) rfl (by rw [ex23]; rfl) (by decide) rfl (fun ls hl => ?_)
      refine lv_goto (tgt := 29) hx hb dL_state_48 (by decide) ?_
      exact ih x22 x23 m15 _ _ _ _ _ (by omega) (by omega) hf hM hS (lv_sub hl [2, 1, 0] rfl)
set_option maxRecDepth 100000 in
set_option maxHeartbeats 4000000 in
theorem l_L_state_64 {p : Program} {l : Launch} {e : Env} {R : Room} {s : State} {m : MethodId} {args : Array Value} {below : List Frame} {meth : Method} {c : Code} {X : gX} (E : gEn p s m args c cL_state RL X) (hr : meth.sig.returnType = (some .int)) (hlocks : meth.locks = false) (hml : c.maxLocals = 5) (hl0 : l.stackTraces = false) (hout : ∀ x ∈ c.exceptionTable.toList, False) (hRf : 9 ≤ R.frames) (hRl : 169 ≤ R.locals) (hRc : 1465 ≤ R.cells) (hRs : 8790 ≤ R.slots) (c0 : Nat) (u2 : Int32) (hk0 : gk c0 = 8) (k87 : Int32 → Int32 →  gMem → Option (Nat × Int32 × gMem)) {res : Nat × Int32 × gMem} (Bc Bs : Nat) (hBc : Bc ≤ 1465) (hBs : Bs ≤ 8790)
    (hk87 : ∀ (y1 : Int32) (y3 : Int32) (m0 : gMem) (H : Heap) (locs : List Loc) (ls : Array Slot) (cells slots : Nat), cells ≤ Bc → slots ≤ Bs → k87 y1 y3 m0 = some res → gM X m0 H → va_S (gA X) s.heap H locs → lv_has ls 5 [(0, .ref (X.1 + c0)), (1, .int y1), (2, .int u2), (3, .int y3)] → W p l e R s m args below meth c H locs cells slots (vx_MQ below (gQTi X res) (gXC X res.1 res.2.2) args s 1465 8790 (gA X)) (F0 m 87 ls [])) :
    ∀ (n : Nat) (y1 : Int32) (y3 : Int32) (m0 : gMem) (H : Heap) (locs : List Loc) (ls : Array Slot) (cells slots : Nat), cells + n * 2 ≤ Bc → slots + n * 12 ≤ Bs → L_L_state_64 c0 u2 k87 n y1 y3 m0 = some res → gM X m0 H → va_S (gA X) s.heap H locs → lv_has ls 5 [(0, .ref (X.1 + c0)), (1, .int y1), (2, .int u2), (3, .int y3)] → W p l e R s m args below meth c H locs cells slots (vx_MQ below (gQTi X res) (gXC X res.1 res.2.2) args s 1465 8790 (gA X)) (F0 m 64 ls []) := by
  obtain ⟨hx, hb⟩ := (⟨E.1, E.2.1⟩ : _ ∧ _)
  intro n
  induction n with
  | zero =>
    intro _ _ _ _ _ _ _ _ _ _ hf
    cases hf
  | succ n ih =>
    intro y1 y3 m0 H locs ls cells slots hcl hsl hf hM hS hl
    rw [L_L_state_64] at hf
    refine lv_iload_n hx hb dL_state_64 rfl (lv_at hl 3 rfl) ?_
    refine lv_iconst (v := (3 : Int32)) hx hb dL_state_65 (by decide) ?_
    refine lv_icmp_ge (tgt := 87) hx hb dL_state_66 (by decide) (fun h35 => ?_) (fun h35 => ?_)
    · have hf := g_t h35 hf
      exact hk87 y1 y3 m0 _ _ _ _ _ (by omega) (by omega) hf hM hS (lv_sub hl [0, 1, 2, 3] rfl)
    · have hf := g_f h35 hf
      refine lv_bipush (v := (31 : Int32)) hx hb dL_state_69 (by decide) ?_
      refine lv_iload_n hx hb dL_state_71 rfl (lv_at hl 1 rfl) ?_
      refine lv_imul hx hb dL_state_72 ?_
      refine lv_aload_n hx hb dL_state_73 rfl (lv_at hl 0 rfl) ?_
      refine lv_iload_n hx hb dL_state_74 rfl (lv_at hl 2 rfl) ?_
      refine lv_iload_n hx hb dL_state_75 rfl (lv_at hl 3 rfl) ?_
      obtain ⟨e39, r38, m36, hqq37, hf40, hx41⟩ := g2_o hf
      refine ga_Ti (gr_VX (As := [.int u2, .int y3]) (ci := 8) (rm := { frames := 7, cells := 2, slots := 12, locals := 122 }) E hml hl.1 (c_X8_tongsOf l X hl0 c0 u2 y3 m0 hk0 hqq37) wt_X8_tongsOf wl_RL_73 rfl hk0 (by decide) rfl rfl hM hS rfl rfl (Nat.le_trans (by decide) hRf) (Nat.le_trans (by decide) hRl) (Nat.le_trans (by omega) hRc) (Nat.le_trans (by omega) hRs) (Nat.le_of_ble_eq_true rfl) dL_state_76 rfl) hout hlocks hS (by omega) (by omega) (fun h => by rw [hx41 h]; exact ⟨rfl, rfl⟩) (fun hz42 H locs hM hS => ?_)
      have hf := hf40 hz42
      refine lv_iadd hx hb dL_state_79 ?_
      obtain ⟨x43, ex43, hf⟩ := gv_o hf
      rw [← ex43]
      refine lv_istore_n (lv' := [(1, .int x43), (0, .ref (X.1 + c0)), (2, .int u2), (3, .int y3)]) hx hb dL_state_80 rfl hl (by decide) rfl (fun ls hl => ?_)
      obtain ⟨x44, ex44, hf⟩ := gv_o hf
      refine lv_iinc (v := x44) (lv' := [(3, .int x44), (1, .int x43), (0, .ref (X.1 + c0)), (2, .int u2)]) hx hb dL_state_81 hl (k := 3) rfl (by rw [ex44]; rfl) (by decide) rfl (fun ls hl => ?_)
      refine lv_goto (tgt := 64) hx hb dL_state_84 (by decide) ?_
      exact ih x43 x44 m36 _ _ _ _ _ (by omega) (by omega) hf hM hS (lv_sub hl [2, 1, 3, 0] rfl)
set_option maxRecDepth 100000 in
set_option maxHeartbeats 4000000 in
theorem l_L_state_53 {p : Program} {l : Launch} {e : Env} {R : Room} {s : State} {m : MethodId} {args : Array Value} {below : List Frame} {meth : Method} {c : Code} {X : gX} (E : gEn p s m args c cL_state RL X) (hr : meth.sig.returnType = (some .int)) (hlocks : meth.locks = false) (hml : c.maxLocals = 5) (hl0 : l.stackTraces = false) (hout : ∀ x ∈ c.exceptionTable.toList, False) (hRf : 9 ≤ R.frames) (hRl : 169 ≤ R.locals) (hRc : 1465 ≤ R.cells) (hRs : 8790 ≤ R.slots) (c0 : Nat) (hk0 : gk c0 = 8) (k93 : Int32 → Int32 →  gMem → Option (Nat × Int32 × gMem)) {res : Nat × Int32 × gMem} (Bc Bs : Nat) (hBc : Bc ≤ 1465) (hBs : Bs ≤ 8790)
    (hk93 : ∀ (y1 : Int32) (y2 : Int32) (m0 : gMem) (H : Heap) (locs : List Loc) (ls : Array Slot) (cells slots : Nat), cells ≤ Bc → slots ≤ Bs → k93 y1 y2 m0 = some res → gM X m0 H → va_S (gA X) s.heap H locs → lv_has ls 5 [(0, .ref (X.1 + c0)), (1, .int y1), (2, .int y2)] → W p l e R s m args below meth c H locs cells slots (vx_MQ below (gQTi X res) (gXC X res.1 res.2.2) args s 1465 8790 (gA X)) (F0 m 93 ls [])) :
    ∀ (n : Nat) (y1 : Int32) (y2 : Int32) (m0 : gMem) (H : Heap) (locs : List Loc) (ls : Array Slot) (cells slots : Nat), cells + n * 9 ≤ Bc → slots + n * 54 ≤ Bs → L_L_state_53 c0 k93 n y1 y2 m0 = some res → gM X m0 H → va_S (gA X) s.heap H locs → lv_has ls 5 [(0, .ref (X.1 + c0)), (1, .int y1), (2, .int y2)] → W p l e R s m args below meth c H locs cells slots (vx_MQ below (gQTi X res) (gXC X res.1 res.2.2) args s 1465 8790 (gA X)) (F0 m 53 ls []) := by
  obtain ⟨hx, hb⟩ := (⟨E.1, E.2.1⟩ : _ ∧ _)
  intro n
  induction n with
  | zero =>
    intro _ _ _ _ _ _ _ _ _ _ hf
    cases hf
  | succ n ih =>
    intro y1 y2 m0 H locs ls cells slots hcl hsl hf hM hS hl
    rw [L_L_state_53] at hf
    refine lv_iload_n hx hb dL_state_53 rfl (lv_at hl 2 rfl) ?_
    refine lv_aload_n hx hb dL_state_54 rfl (lv_at hl 0 rfl) ?_
    refine lv_iconst (v := (3 : Int32)) hx hb dL_state_55 (by decide) ?_
    obtain ⟨e30, r29, m27, hqq28, hf31, hx32⟩ := g2_o hf
    refine ga_Ti (gr_VX (As := [.int (3 : Int32)]) (ci := 8) (rm := { frames := 6, cells := 1, slots := 6, locals := 105 }) E hml hl.1 (c_X8_account l X hl0 c0 (3 : Int32) m0 hk0 hqq28) wt_X8_account wl_RL_48 rfl hk0 (by decide) rfl rfl hM hS rfl rfl (Nat.le_trans (by decide) hRf) (Nat.le_trans (by decide) hRl) (Nat.le_trans (by omega) hRc) (Nat.le_trans (by omega) hRs) (Nat.le_of_ble_eq_true rfl) dL_state_56 rfl) hout hlocks hS (by omega) (by omega) (fun h => by rw [hx32 h]; exact ⟨rfl, rfl⟩) (fun hz33 H locs hM hS => ?_)
    have hf := hf31 hz33
    refine lv_icmp_ge (tgt := 93) hx hb dL_state_59 (by decide) (fun h34 => ?_) (fun h34 => ?_)
    · have hf := g_t h34 hf
      exact hk93 y1 y2 m27 _ _ _ _ _ (by omega) (by omega) hf hM hS (lv_sub hl [0, 1, 2] rfl)
    · have hf := g_f h34 hf
      refine lv_iconst (v := (0 : Int32)) hx hb dL_state_62 (by decide) ?_
      refine lv_istore_n (lv' := [(3, .int (0 : Int32)), (0, .ref (X.1 + c0)), (1, .int y1), (2, .int y2)]) hx hb dL_state_63 rfl hl (by decide) rfl (fun ls hl => ?_)
      have ba49 : (cells + 1) + 8 ≤ 1465 := by omega
      have bb50 : (slots + 6) + 48 ≤ 8790 := by omega
      obtain ⟨kA51, hkA51, hf⟩ := ex_k (P := fun kA => L_L_state_64 c0 y2 kA 4 y1 (0 : Int32) m27 = some res) hf
      refine l_L_state_64 E hr hlocks hml hl0 hout hRf hRl hRc hRs c0 y2 hk0 kA51 ((cells + 1) + 8) ((slots + 6) + 48) ba49 bb50 (fun y45 y46 m47 H locs ls cells slots hcl hsl hf hM hS hl => ?_) 4 y1 (0 : Int32) m27 _ _ _ (cells + 1) (slots + 6) (Nat.le_refl _) (Nat.le_refl _) hf hM hS (lv_sub hl [1, 2, 3, 0] rfl)
      rw [hkA51] at hf
      dsimp only at hf
      obtain ⟨x48, ex48, hf⟩ := gv_o hf
      refine lv_iinc (v := x48) (lv' := [(2, .int x48), (0, .ref (X.1 + c0)), (1, .int y45), (3, .int y46)]) hx hb dL_state_87 hl (k := 2) rfl (by rw [ex48]; rfl) (by decide) rfl (fun ls hl => ?_)
      refine lv_goto (tgt := 53) hx hb dL_state_90 (by decide) ?_
      exact ih y45 x48 m47 _ _ _ _ _ (by omega) (by omega) hf hM hS (lv_sub hl [1, 2, 0] rfl)
set_option maxRecDepth 100000 in
set_option maxHeartbeats 4000000 in
theorem l_L_state_106 {p : Program} {l : Launch} {e : Env} {R : Room} {s : State} {m : MethodId} {args : Array Value} {below : List Frame} {meth : Method} {c : Code} {X : gX} (E : gEn p s m args c cL_state RL X) (hr : meth.sig.returnType = (some .int)) (hlocks : meth.locks = false) (hml : c.maxLocals = 5) (hl0 : l.stackTraces = false) (hout : ∀ x ∈ c.exceptionTable.toList, False) (hRf : 9 ≤ R.frames) (hRl : 169 ≤ R.locals) (hRc : 1465 ≤ R.cells) (hRs : 8790 ≤ R.slots) (c0 : Nat) (u2 : Int32) (hk0 : gk c0 = 8) (k129 : Int32 → Int32 →  gMem → Option (Nat × Int32 × gMem)) {res : Nat × Int32 × gMem} (Bc Bs : Nat) (hBc : Bc ≤ 1465) (hBs : Bs ≤ 8790)
    (hk129 : ∀ (y1 : Int32) (y3 : Int32) (m0 : gMem) (H : Heap) (locs : List Loc) (ls : Array Slot) (cells slots : Nat), cells ≤ Bc → slots ≤ Bs → k129 y1 y3 m0 = some res → gM X m0 H → va_S (gA X) s.heap H locs → lv_has ls 5 [(0, .ref (X.1 + c0)), (1, .int y1), (2, .int u2), (3, .int y3)] → W p l e R s m args below meth c H locs cells slots (vx_MQ below (gQTi X res) (gXC X res.1 res.2.2) args s 1465 8790 (gA X)) (F0 m 129 ls [])) :
    ∀ (n : Nat) (y1 : Int32) (y3 : Int32) (m0 : gMem) (H : Heap) (locs : List Loc) (ls : Array Slot) (cells slots : Nat), cells + n * 2 ≤ Bc → slots + n * 12 ≤ Bs → L_L_state_106 c0 u2 k129 n y1 y3 m0 = some res → gM X m0 H → va_S (gA X) s.heap H locs → lv_has ls 5 [(0, .ref (X.1 + c0)), (1, .int y1), (2, .int u2), (3, .int y3)] → W p l e R s m args below meth c H locs cells slots (vx_MQ below (gQTi X res) (gXC X res.1 res.2.2) args s 1465 8790 (gA X)) (F0 m 106 ls []) := by
  obtain ⟨hx, hb⟩ := (⟨E.1, E.2.1⟩ : _ ∧ _)
  intro n
  induction n with
  | zero =>
    intro _ _ _ _ _ _ _ _ _ _ hf
    cases hf
  | succ n ih =>
    intro y1 y3 m0 H locs ls cells slots hcl hsl hf hM hS hl
    rw [L_L_state_106] at hf
    refine lv_iload_n hx hb dL_state_106 rfl (lv_at hl 3 rfl) ?_
    refine lv_iconst (v := (5 : Int32)) hx hb dL_state_107 (by decide) ?_
    refine lv_icmp_ge (tgt := 129) hx hb dL_state_108 (by decide) (fun h63 => ?_) (fun h63 => ?_)
    · have hf := g_t h63 hf
      exact hk129 y1 y3 m0 _ _ _ _ _ (by omega) (by omega) hf hM hS (lv_sub hl [0, 1, 2, 3] rfl)
    · have hf := g_f h63 hf
      refine lv_bipush (v := (31 : Int32)) hx hb dL_state_111 (by decide) ?_
      refine lv_iload_n hx hb dL_state_113 rfl (lv_at hl 1 rfl) ?_
      refine lv_imul hx hb dL_state_114 ?_
      refine lv_aload_n hx hb dL_state_115 rfl (lv_at hl 0 rfl) ?_
      refine lv_iload_n hx hb dL_state_116 rfl (lv_at hl 2 rfl) ?_
      refine lv_iload_n hx hb dL_state_117 rfl (lv_at hl 3 rfl) ?_
      obtain ⟨e67, r66, m64, hqq65, hf68, hx69⟩ := g2_o hf
      refine ga_Ti (gr_VX (As := [.int u2, .int y3]) (ci := 8) (rm := { frames := 7, cells := 2, slots := 12, locals := 122 }) E hml hl.1 (c_X8_towerOf l X hl0 c0 u2 y3 m0 hk0 hqq65) wt_X8_towerOf wl_RL_76 rfl hk0 (by decide) rfl rfl hM hS rfl rfl (Nat.le_trans (by decide) hRf) (Nat.le_trans (by decide) hRl) (Nat.le_trans (by omega) hRc) (Nat.le_trans (by omega) hRs) (Nat.le_of_ble_eq_true rfl) dL_state_118 rfl) hout hlocks hS (by omega) (by omega) (fun h => by rw [hx69 h]; exact ⟨rfl, rfl⟩) (fun hz70 H locs hM hS => ?_)
      have hf := hf68 hz70
      refine lv_iadd hx hb dL_state_121 ?_
      obtain ⟨x71, ex71, hf⟩ := gv_o hf
      rw [← ex71]
      refine lv_istore_n (lv' := [(1, .int x71), (0, .ref (X.1 + c0)), (2, .int u2), (3, .int y3)]) hx hb dL_state_122 rfl hl (by decide) rfl (fun ls hl => ?_)
      obtain ⟨x72, ex72, hf⟩ := gv_o hf
      refine lv_iinc (v := x72) (lv' := [(3, .int x72), (1, .int x71), (0, .ref (X.1 + c0)), (2, .int u2)]) hx hb dL_state_123 hl (k := 3) rfl (by rw [ex72]; rfl) (by decide) rfl (fun ls hl => ?_)
      refine lv_goto (tgt := 106) hx hb dL_state_126 (by decide) ?_
      exact ih x71 x72 m64 _ _ _ _ _ (by omega) (by omega) hf hM hS (lv_sub hl [2, 1, 3, 0] rfl)
set_option maxRecDepth 100000 in
set_option maxHeartbeats 4000000 in
theorem l_L_state_144 {p : Program} {l : Launch} {e : Env} {R : Room} {s : State} {m : MethodId} {args : Array Value} {below : List Frame} {meth : Method} {c : Code} {X : gX} (E : gEn p s m args c cL_state RL X) (hr : meth.sig.returnType = (some .int)) (hlocks : meth.locks = false) (hml : c.maxLocals = 5) (hl0 : l.stackTraces = false) (hout : ∀ x ∈ c.exceptionTable.toList, False) (hRf : 9 ≤ R.frames) (hRl : 169 ≤ R.locals) (hRc : 1465 ≤ R.cells) (hRs : 8790 ≤ R.slots) (c0 : Nat) (u2 : Int32) (u3 : Int32) (hk0 : gk c0 = 8) (k170 : Int32 → Int32 →  gMem → Option (Nat × Int32 × gMem)) {res : Nat × Int32 × gMem} (Bc Bs : Nat) (hBc : Bc ≤ 1465) (hBs : Bs ≤ 8790)
    (hk170 : ∀ (y1 : Int32) (y4 : Int32) (m0 : gMem) (H : Heap) (locs : List Loc) (ls : Array Slot) (cells slots : Nat), cells ≤ Bc → slots ≤ Bs → k170 y1 y4 m0 = some res → gM X m0 H → va_S (gA X) s.heap H locs → lv_has ls 5 [(0, .ref (X.1 + c0)), (1, .int y1), (2, .int u2), (3, .int u3), (4, .int y4)] → W p l e R s m args below meth c H locs cells slots (vx_MQ below (gQTi X res) (gXC X res.1 res.2.2) args s 1465 8790 (gA X)) (F0 m 170 ls [])) :
    ∀ (n : Nat) (y1 : Int32) (y4 : Int32) (m0 : gMem) (H : Heap) (locs : List Loc) (ls : Array Slot) (cells slots : Nat), cells + n * 3 ≤ Bc → slots + n * 18 ≤ Bs → L_L_state_144 c0 u2 u3 k170 n y1 y4 m0 = some res → gM X m0 H → va_S (gA X) s.heap H locs → lv_has ls 5 [(0, .ref (X.1 + c0)), (1, .int y1), (2, .int u2), (3, .int u3), (4, .int y4)] → W p l e R s m args below meth c H locs cells slots (vx_MQ below (gQTi X res) (gXC X res.1 res.2.2) args s 1465 8790 (gA X)) (F0 m 144 ls []) := by
  obtain ⟨hx, hb⟩ := (⟨E.1, E.2.1⟩ : _ ∧ _)
  intro n
  induction n with
  | zero =>
    intro _ _ _ _ _ _ _ _ _ _ hf
    cases hf
  | succ n ih =>
    intro y1 y4 m0 H locs ls cells slots hcl hsl hf hM hS hl
    rw [L_L_state_144] at hf
    refine lv_iload hx hb dL_state_144 (lv_at hl 4 rfl) ?_
    refine lv_iconst (v := (4 : Int32)) hx hb dL_state_146 (by decide) ?_
    refine lv_icmp_ge (tgt := 170) hx hb dL_state_147 (by decide) (fun h84 => ?_) (fun h84 => ?_)
    · have hf := g_t h84 hf
      exact hk170 y1 y4 m0 _ _ _ _ _ (by omega) (by omega) hf hM hS (lv_sub hl [0, 1, 2, 3, 4] rfl)
    · have hf := g_f h84 hf
      refine lv_bipush (v := (31 : Int32)) hx hb dL_state_150 (by decide) ?_
      refine lv_iload_n hx hb dL_state_152 rfl (lv_at hl 1 rfl) ?_
      refine lv_imul hx hb dL_state_153 ?_
      refine lv_aload_n hx hb dL_state_154 rfl (lv_at hl 0 rfl) ?_
      refine lv_iload_n hx hb dL_state_155 rfl (lv_at hl 2 rfl) ?_
      refine lv_iload_n hx hb dL_state_156 rfl (lv_at hl 3 rfl) ?_
      refine lv_iload hx hb dL_state_157 (lv_at hl 4 rfl) ?_
      obtain ⟨e88, r87, m85, hqq86, hf89, hx90⟩ := g2_o hf
      refine ga_Ti (gr_VX (As := [.int u2, .int u3, .int y4]) (ci := 8) (rm := { frames := 8, cells := 3, slots := 18, locals := 145 }) E hml hl.1 (c_X8_courseOf l X hl0 c0 u2 u3 y4 m0 hk0 hqq86) wt_X8_courseOf wl_RL_79 rfl hk0 (by decide) rfl rfl hM hS rfl rfl (Nat.le_trans (by decide) hRf) (Nat.le_trans (by decide) hRl) (Nat.le_trans (by omega) hRc) (Nat.le_trans (by omega) hRs) (Nat.le_of_ble_eq_true rfl) dL_state_159 rfl) hout hlocks hS (by omega) (by omega) (fun h => by rw [hx90 h]; exact ⟨rfl, rfl⟩) (fun hz91 H locs hM hS => ?_)
      have hf := hf89 hz91
      refine lv_iadd hx hb dL_state_162 ?_
      obtain ⟨x92, ex92, hf⟩ := gv_o hf
      rw [← ex92]
      refine lv_istore_n (lv' := [(1, .int x92), (0, .ref (X.1 + c0)), (2, .int u2), (3, .int u3), (4, .int y4)]) hx hb dL_state_163 rfl hl (by decide) rfl (fun ls hl => ?_)
      obtain ⟨x93, ex93, hf⟩ := gv_o hf
      refine lv_iinc (v := x93) (lv' := [(4, .int x93), (1, .int x92), (0, .ref (X.1 + c0)), (2, .int u2), (3, .int u3)]) hx hb dL_state_164 hl (k := 4) rfl (by rw [ex93]; rfl) (by decide) rfl (fun ls hl => ?_)
      refine lv_goto (tgt := 144) hx hb dL_state_167 (by decide) ?_
      exact ih x92 x93 m85 _ _ _ _ _ (by omega) (by omega) hf hM hS (lv_sub hl [2, 1, 3, 4, 0] rfl)
set_option maxRecDepth 100000 in
set_option maxHeartbeats 4000000 in
theorem l_L_state_131 {p : Program} {l : Launch} {e : Env} {R : Room} {s : State} {m : MethodId} {args : Array Value} {below : List Frame} {meth : Method} {c : Code} {X : gX} (E : gEn p s m args c cL_state RL X) (hr : meth.sig.returnType = (some .int)) (hlocks : meth.locks = false) (hml : c.maxLocals = 5) (hl0 : l.stackTraces = false) (hout : ∀ x ∈ c.exceptionTable.toList, False) (hRf : 9 ≤ R.frames) (hRl : 169 ≤ R.locals) (hRc : 1465 ≤ R.cells) (hRs : 8790 ≤ R.slots) (c0 : Nat) (u2 : Int32) (hk0 : gk c0 = 8) (k176 : Int32 → Int32 →  gMem → Option (Nat × Int32 × gMem)) {res : Nat × Int32 × gMem} (Bc Bs : Nat) (hBc : Bc ≤ 1465) (hBs : Bs ≤ 8790)
    (hk176 : ∀ (y1 : Int32) (y3 : Int32) (m0 : gMem) (H : Heap) (locs : List Loc) (ls : Array Slot) (cells slots : Nat), cells ≤ Bc → slots ≤ Bs → k176 y1 y3 m0 = some res → gM X m0 H → va_S (gA X) s.heap H locs → lv_has ls 5 [(0, .ref (X.1 + c0)), (1, .int y1), (2, .int u2), (3, .int y3)] → W p l e R s m args below meth c H locs cells slots (vx_MQ below (gQTi X res) (gXC X res.1 res.2.2) args s 1465 8790 (gA X)) (F0 m 176 ls [])) :
    ∀ (n : Nat) (y1 : Int32) (y3 : Int32) (m0 : gMem) (H : Heap) (locs : List Loc) (ls : Array Slot) (cells slots : Nat), cells + n * 17 ≤ Bc → slots + n * 102 ≤ Bs → L_L_state_131 c0 u2 k176 n y1 y3 m0 = some res → gM X m0 H → va_S (gA X) s.heap H locs → lv_has ls 5 [(0, .ref (X.1 + c0)), (1, .int y1), (2, .int u2), (3, .int y3)] → W p l e R s m args below meth c H locs cells slots (vx_MQ below (gQTi X res) (gXC X res.1 res.2.2) args s 1465 8790 (gA X)) (F0 m 131 ls []) := by
  obtain ⟨hx, hb⟩ := (⟨E.1, E.2.1⟩ : _ ∧ _)
  intro n
  induction n with
  | zero =>
    intro _ _ _ _ _ _ _ _ _ _ hf
    cases hf
  | succ n ih =>
    intro y1 y3 m0 H locs ls cells slots hcl hsl hf hM hS hl
    rw [L_L_state_131] at hf
    refine lv_iload_n hx hb dL_state_131 rfl (lv_at hl 3 rfl) ?_
    refine lv_aload_n hx hb dL_state_132 rfl (lv_at hl 0 rfl) ?_
    refine lv_iload_n hx hb dL_state_133 rfl (lv_at hl 2 rfl) ?_
    refine lv_iconst (v := (0 : Int32)) hx hb dL_state_134 (by decide) ?_
    obtain ⟨e79, r78, m76, hqq77, hf80, hx81⟩ := g2_o hf
    refine ga_Ti (gr_VX (As := [.int u2, .int (0 : Int32)]) (ci := 8) (rm := { frames := 7, cells := 2, slots := 12, locals := 122 }) E hml hl.1 (c_X8_towerOf l X hl0 c0 u2 (0 : Int32) m0 hk0 hqq77) wt_X8_towerOf wl_RL_76 rfl hk0 (by decide) rfl rfl hM hS rfl rfl (Nat.le_trans (by decide) hRf) (Nat.le_trans (by decide) hRl) (Nat.le_trans (by omega) hRc) (Nat.le_trans (by omega) hRs) (Nat.le_of_ble_eq_true rfl) dL_state_135 rfl) hout hlocks hS (by omega) (by omega) (fun h => by rw [hx81 h]; exact ⟨rfl, rfl⟩) (fun hz82 H locs hM hS => ?_)
    have hf := hf80 hz82
    refine lv_icmp_ge (tgt := 176) hx hb dL_state_138 (by decide) (fun h83 => ?_) (fun h83 => ?_)
    · have hf := g_t h83 hf
      exact hk176 y1 y3 m76 _ _ _ _ _ (by omega) (by omega) hf hM hS (lv_sub hl [0, 1, 2, 3] rfl)
    · have hf := g_f h83 hf
      refine lv_iconst (v := (0 : Int32)) hx hb dL_state_141 (by decide) ?_
      refine lv_istore (lv' := [(4, .int (0 : Int32)), (0, .ref (X.1 + c0)), (1, .int y1), (2, .int u2), (3, .int y3)]) hx hb dL_state_142 hl (by decide) rfl (fun ls hl => ?_)
      have ba98 : (cells + 2) + 15 ≤ 1465 := by omega
      have bb99 : (slots + 12) + 90 ≤ 8790 := by omega
      obtain ⟨kA100, hkA100, hf⟩ := ex_k (P := fun kA => L_L_state_144 c0 u2 y3 kA 5 y1 (0 : Int32) m76 = some res) hf
      refine l_L_state_144 E hr hlocks hml hl0 hout hRf hRl hRc hRs c0 u2 y3 hk0 kA100 ((cells + 2) + 15) ((slots + 12) + 90) ba98 bb99 (fun y94 y95 m96 H locs ls cells slots hcl hsl hf hM hS hl => ?_) 5 y1 (0 : Int32) m76 _ _ _ (cells + 2) (slots + 12) (Nat.le_refl _) (Nat.le_refl _) hf hM hS (lv_sub hl [1, 2, 3, 4, 0] rfl)
      rw [hkA100] at hf
      dsimp only at hf
      obtain ⟨x97, ex97, hf⟩ := gv_o hf
      refine lv_iinc (v := x97) (lv' := [(3, .int x97), (0, .ref (X.1 + c0)), (1, .int y94), (2, .int u2), (4, .int y95)]) hx hb dL_state_170 hl (k := 3) rfl (by rw [ex97]; rfl) (by decide) rfl (fun ls hl => ?_)
      refine lv_goto (tgt := 131) hx hb dL_state_173 (by decide) ?_
      exact ih y94 x97 m96 _ _ _ _ _ (by omega) (by omega) hf hM hS (lv_sub hl [1, 2, 3, 0] rfl)
set_option maxRecDepth 100000 in
set_option maxHeartbeats 4000000 in
theorem l_L_state_95 {p : Program} {l : Launch} {e : Env} {R : Room} {s : State} {m : MethodId} {args : Array Value} {below : List Frame} {meth : Method} {c : Code} {X : gX} (E : gEn p s m args c cL_state RL X) (hr : meth.sig.returnType = (some .int)) (hlocks : meth.locks = false) (hml : c.maxLocals = 5) (hl0 : l.stackTraces = false) (hout : ∀ x ∈ c.exceptionTable.toList, False) (hRf : 9 ≤ R.frames) (hRl : 169 ≤ R.locals) (hRc : 1465 ≤ R.cells) (hRs : 8790 ≤ R.slots) (c0 : Nat) (hk0 : gk c0 = 8) {res : Nat × Int32 × gMem} (Bc Bs : Nat) (hBc : Bc ≤ 1465) (hBs : Bs ≤ 8790) :
    ∀ (n : Nat) (y1 : Int32) (y2 : Int32) (m0 : gMem) (H : Heap) (locs : List Loc) (ls : Array Slot) (cells slots : Nat), cells + n * 200 ≤ Bc → slots + n * 1200 ≤ Bs → L_L_state_95 c0 n y1 y2 m0 = some res → gM X m0 H → va_S (gA X) s.heap H locs → lv_has ls 5 [(0, .ref (X.1 + c0)), (1, .int y1), (2, .int y2)] → W p l e R s m args below meth c H locs cells slots (vx_MQ below (gQTi X res) (gXC X res.1 res.2.2) args s 1465 8790 (gA X)) (F0 m 95 ls []) := by
  obtain ⟨hx, hb⟩ := (⟨E.1, E.2.1⟩ : _ ∧ _)
  intro n
  induction n with
  | zero =>
    intro _ _ _ _ _ _ _ _ _ _ hf
    cases hf
  | succ n ih =>
    intro y1 y2 m0 H locs ls cells slots hcl hsl hf hM hS hl
    rw [L_L_state_95] at hf
    refine lv_iload_n hx hb dL_state_95 rfl (lv_at hl 2 rfl) ?_
    refine lv_aload_n hx hb dL_state_96 rfl (lv_at hl 0 rfl) ?_
    refine lv_iconst (v := (2 : Int32)) hx hb dL_state_97 (by decide) ?_
    obtain ⟨e58, r57, m55, hqq56, hf59, hx60⟩ := g2_o hf
    refine ga_Ti (gr_VX (As := [.int (2 : Int32)]) (ci := 8) (rm := { frames := 6, cells := 1, slots := 6, locals := 105 }) E hml hl.1 (c_X8_account l X hl0 c0 (2 : Int32) m0 hk0 hqq56) wt_X8_account wl_RL_48 rfl hk0 (by decide) rfl rfl hM hS rfl rfl (Nat.le_trans (by decide) hRf) (Nat.le_trans (by decide) hRl) (Nat.le_trans (by omega) hRc) (Nat.le_trans (by omega) hRs) (Nat.le_of_ble_eq_true rfl) dL_state_98 rfl) hout hlocks hS (by omega) (by omega) (fun h => by rw [hx60 h]; exact ⟨rfl, rfl⟩) (fun hz61 H locs hM hS => ?_)
    have hf := hf59 hz61
    refine lv_icmp_ge (tgt := 182) hx hb dL_state_101 (by decide) (fun h62 => ?_) (fun h62 => ?_)
    · have hf := g_t h62 hf
      refine lv_iload_n hx hb dL_state_182 rfl (lv_at hl 1 rfl) ?_
      exact ge_Ti E hr hlocks hf hM hS (by omega) (by omega) dL_state_183
    · have hf := g_f h62 hf
      refine lv_iconst (v := (0 : Int32)) hx hb dL_state_104 (by decide) ?_
      refine lv_istore_n (lv' := [(3, .int (0 : Int32)), (0, .ref (X.1 + c0)), (1, .int y1), (2, .int y2)]) hx hb dL_state_105 rfl hl (by decide) rfl (fun ls hl => ?_)
      have ba108 : (cells + 1) + 12 ≤ 1465 := by omega
      have bb109 : (slots + 6) + 72 ≤ 8790 := by omega
      obtain ⟨kA110, hkA110, hf⟩ := ex_k (P := fun kA => L_L_state_106 c0 y2 kA 6 y1 (0 : Int32) m55 = some res) hf
      refine l_L_state_106 E hr hlocks hml hl0 hout hRf hRl hRc hRs c0 y2 hk0 kA110 ((cells + 1) + 12) ((slots + 6) + 72) ba108 bb109 (fun y73 y74 m75 H locs ls cells slots hcl hsl hf hM hS hl => ?_) 6 y1 (0 : Int32) m55 _ _ _ (cells + 1) (slots + 6) (Nat.le_refl _) (Nat.le_refl _) hf hM hS (lv_sub hl [1, 2, 3, 0] rfl)
      rw [hkA110] at hf
      dsimp only at hf
      refine lv_iconst (v := (0 : Int32)) hx hb dL_state_129 (by decide) ?_
      refine lv_istore_n (lv' := [(3, .int (0 : Int32)), (0, .ref (X.1 + c0)), (1, .int y73), (2, .int y2)]) hx hb dL_state_130 rfl hl (by decide) rfl (fun ls hl => ?_)
      have ba105 : cells + 187 ≤ 1465 := by omega
      have bb106 : slots + 1122 ≤ 8790 := by omega
      obtain ⟨kA107, hkA107, hf⟩ := ex_k (P := fun kA => L_L_state_131 c0 y2 kA 11 y73 (0 : Int32) m75 = some res) hf
      refine l_L_state_131 E hr hlocks hml hl0 hout hRf hRl hRc hRs c0 y2 hk0 kA107 (cells + 187) (slots + 1122) ba105 bb106 (fun y101 y102 m103 H locs ls cells slots hcl hsl hf hM hS hl => ?_) 11 y73 (0 : Int32) m75 _ _ _ cells slots (Nat.le_refl _) (Nat.le_refl _) hf hM hS (lv_sub hl [1, 2, 3, 0] rfl)
      rw [hkA107] at hf
      dsimp only at hf
      obtain ⟨x104, ex104, hf⟩ := gv_o hf
      refine lv_iinc (v := x104) (lv' := [(2, .int x104), (0, .ref (X.1 + c0)), (1, .int y101), (3, .int y102)]) hx hb dL_state_176 hl (k := 2) rfl (by rw [ex104]; rfl) (by decide) rfl (fun ls hl => ?_)
      refine lv_goto (tgt := 95) hx hb dL_state_179 (by decide) ?_
      exact ih y101 x104 m103 _ _ _ _ _ (by omega) (by omega) hf hM hS (lv_sub hl [1, 2, 0] rfl)
set_option maxRecDepth 100000 in
set_option maxHeartbeats 4000000 in
theorem b_L_state {p : Program} {l : Launch} {e : Env} {R : Room} {s : State} {m : MethodId} {args : Array Value} {below : List Frame} {meth : Method} {c : Code} {H : Heap} {locs : List Loc} {ls : Array Slot} {X : gX} (E : gEn p s m args c cL_state RL X) (hr : meth.sig.returnType = (some .int)) (hlocks : meth.locks = false) (hml : c.maxLocals = 5) (hl0 : l.stackTraces = false) (hout : ∀ x ∈ c.exceptionTable.toList, False) (hRf : 9 ≤ R.frames) (hRl : 169 ≤ R.locals) (hRc : 1465 ≤ R.cells) (hRs : 8790 ≤ R.slots) {c0 : Nat} {m0 : gMem} {res : Nat × Int32 × gMem} (hk0 : gk c0 = 8) (hf : f_L_state c0 m0 = some res) (hM : gM X m0 H) (hS : va_S (gA X) s.heap H locs) (hl : lv_has ls 5 [(0, .ref (X.1 + c0))]) : W p l e R s m args below meth c H locs 0 0 (vx_MQ below (gQTi X res) (gXC X res.1 res.2.2) args s 1465 8790 (gA X)) (F0 m 0 ls []) := by
  obtain ⟨hx, hb⟩ := (⟨E.1, E.2.1⟩ : _ ∧ _)
  unfold f_L_state at hf
  refine lv_iconst (v := (0 : Int32)) hx hb dL_state_0 (by decide) ?_
  refine lv_istore_n (lv' := [(1, .int (0 : Int32)), (0, .ref (X.1 + c0))]) hx hb dL_state_1 rfl hl (by decide) rfl (fun ls hl => ?_)
  refine lv_iconst (v := (0 : Int32)) hx hb dL_state_2 (by decide) ?_
  refine lv_istore_n (lv' := [(2, .int (0 : Int32)), (1, .int (0 : Int32)), (0, .ref (X.1 + c0))]) hx hb dL_state_3 rfl hl (by decide) rfl (fun ls hl => ?_)
  have ba119 : 0 + 16 ≤ 1465 := by omega
  have bb120 : 0 + 96 ≤ 8790 := by omega
  obtain ⟨kA121, hkA121, hf⟩ := ex_k (P := fun kA => L_L_state_4 c0 kA 16 (0 : Int32) (0 : Int32) m0 = some res) hf
  refine l_L_state_4 E hr hlocks hml hl0 hout hRf hRl hRc hRs c0 hk0 kA121 (0 + 16) (0 + 96) ba119 bb120 (fun y11 y12 m13 H locs ls cells slots hcl hsl hf hM hS hl => ?_) 16 (0 : Int32) (0 : Int32) m0 _ _ _ 0 0 (Nat.le_refl _) (Nat.le_refl _) hf hM hS (lv_sub hl [2, 1, 0] rfl)
  rw [hkA121] at hf
  dsimp only at hf
  refine lv_iconst (v := (0 : Int32)) hx hb dL_state_27 (by decide) ?_
  refine lv_istore_n (lv' := [(2, .int (0 : Int32)), (0, .ref (X.1 + c0)), (1, .int y11)]) hx hb dL_state_28 rfl hl (by decide) rfl (fun ls hl => ?_)
  have ba116 : cells + 4 ≤ 1465 := by omega
  have bb117 : slots + 24 ≤ 8790 := by omega
  obtain ⟨kA118, hkA118, hf⟩ := ex_k (P := fun kA => L_L_state_29 c0 kA 4 y11 (0 : Int32) m13 = some res) hf
  refine l_L_state_29 E hr hlocks hml hl0 hout hRf hRl hRc hRs c0 hk0 kA118 (cells + 4) (slots + 24) ba116 bb117 (fun y24 y25 m26 H locs ls cells slots hcl hsl hf hM hS hl => ?_) 4 y11 (0 : Int32) m13 _ _ _ cells slots (Nat.le_refl _) (Nat.le_refl _) hf hM hS (lv_sub hl [1, 2, 0] rfl)
  rw [hkA118] at hf
  dsimp only at hf
  refine lv_iconst (v := (0 : Int32)) hx hb dL_state_51 (by decide) ?_
  refine lv_istore_n (lv' := [(2, .int (0 : Int32)), (0, .ref (X.1 + c0)), (1, .int y24)]) hx hb dL_state_52 rfl hl (by decide) rfl (fun ls hl => ?_)
  have ba113 : cells + 45 ≤ 1465 := by omega
  have bb114 : slots + 270 ≤ 8790 := by omega
  obtain ⟨kA115, hkA115, hf⟩ := ex_k (P := fun kA => L_L_state_53 c0 kA 5 y24 (0 : Int32) m26 = some res) hf
  refine l_L_state_53 E hr hlocks hml hl0 hout hRf hRl hRc hRs c0 hk0 kA115 (cells + 45) (slots + 270) ba113 bb114 (fun y52 y53 m54 H locs ls cells slots hcl hsl hf hM hS hl => ?_) 5 y24 (0 : Int32) m26 _ _ _ cells slots (Nat.le_refl _) (Nat.le_refl _) hf hM hS (lv_sub hl [1, 2, 0] rfl)
  rw [hkA115] at hf
  dsimp only at hf
  refine lv_iconst (v := (0 : Int32)) hx hb dL_state_93 (by decide) ?_
  refine lv_istore_n (lv' := [(2, .int (0 : Int32)), (0, .ref (X.1 + c0)), (1, .int y52)]) hx hb dL_state_94 rfl hl (by decide) rfl (fun ls hl => ?_)
  have ba111 : cells + 1400 ≤ 1465 := by omega
  have bb112 : slots + 8400 ≤ 8790 := by omega
  refine l_L_state_95 E hr hlocks hml hl0 hout hRf hRl hRc hRs c0 hk0 (cells + 1400) (slots + 8400) ba111 bb112 7 y52 (0 : Int32) m54 _ _ _ cells slots (Nat.le_refl _) (Nat.le_refl _) hf hM hS (lv_sub hl [1, 2, 0] rfl)
theorem c_L_state (l : Launch) (X : gX) (hl0 : l.stackTraces = false) (c0 : Nat) (m0 : gMem) {res : Nat × Int32 × gMem} (hk0 : gk c0 = 8) (hf : f_L_state c0 m0 = some res) : vx_Met l yL_state (gWs yL_state cL_state 5 (some .int)) { frames := 9, cells := 1465, slots := 8790, locals := 169 } (va_Pc [.ref (X.1 + c0)] (gB X m0)) (gQTi X res) (gXC X res.1 res.2.2) 1465 8790 (gA X) :=
  gMetX (own := RL) (by decide +kernel) rfl (Nat.le_of_ble_eq_true rfl) (fun p e s m args below meth c ls E hr hlocks hml hout hM hl => b_L_state E hr hlocks hml hl0 hout (Nat.le_refl _) (Nat.le_refl _) (Nat.le_refl _) (Nat.le_refl _) hk0 hf hM va_S.rf hl)
