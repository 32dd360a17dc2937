/-! build: its contract -/
def gBn (b L : Nat) (xs : Nat → Int32) (X : gX) (U : State) : Prop := gG X U ∧ gAO U ∧ U.heap.size = X.1 ∧ va_X b L xs U U.heap ∧ b < U.heap.size
theorem gBn_blind (b L : Nat) (xs : Nat → Int32) (X : gX) (av : List Value) : FrameBlind (va_Pc av (gBn b L xs X)) := fun a U g mk h => ⟨h.1, gG_warm (U := U.calling g mk a) (State.WarmedH.refl U) (fun _ _ _ => rfl) h.2.1, fun C hC => va_AO.moved (u := U) (U := U.calling g mk a) (Vm.Alike.refl U.vm) (h.2.2.1 C hC), h.2.2.2.1, va_X.moved (u := U) (U := U.calling g mk a) (Vm.Alike.refl U.vm) h.2.2.2.2.1, h.2.2.2.2.2⟩
set_option maxHeartbeats 4000000 in
set_option maxRecDepth 100000 in
theorem c_L_build (l : Launch) (X : gX) (hl0 : l.stackTraces = false) {b L : Nat} {xs : Nat → Int32} (hL : L ≤ 260) {res : Nat × Nat × gMem} (hf : f_L_build xs L nwm = some res) : vx_Met l yL_build (gWs yL_build cL_build 7 (some (.object "SugarTowers"))) { frames := 10, cells := 933, slots := 6034, locals := 211 } (va_Pc [.ref b] (gBn b L xs X)) (gQTr X res) (gXC X res.1 res.2.2) 933 6034 (gA X) := by
  refine vx_ofW (cc := cL_build) (maxL := 7) (ret := some (.object "SugarTowers")) (by decide +kernel) rfl ?_
  intro p e s m args below meth c s₁ B hml hout hv
  obtain ⟨rfl, hG, hAO, hX1, hXs, hbl⟩ := hv
  have hts := atoms_spec (ws := gWs yL_build cL_build 7 (some (.object "SugarTowers"))) B.pre
  have ho : s.vm.findClass RL = some m.cls := findClass_of_methodNamed B.named
  have E : gEn p s m #[Value.ref b] c cL_build RL X := ⟨B.exec, B.bytes, ho, fun w hw => hts w (List.mem_cons_of_mem _ hw), hG⟩
  have hx := B.exec
  have hb := B.bytes
  obtain ⟨z1, f1, z11, z13, m2⟩ := e_z
  have hl := lv_entry ([.ref b]) (n := 7) (Nat.le_of_ble_eq_true rfl)
  rw [lg_entry_eq]
  generalize (lg_sl ([.ref b]) ++ List.replicate (7 - (lg_sl ([.ref b])).length) Slot.unset).toArray = ls at hl ⊢
  have hl : lv_has ls 7 [(0, .ref b)] := hl
  refine gz_new0 (ci := 8) (N := 9) (z := (0, 0, fun _ _ => false, fun _ _ => 0)) E gin_8 tyX8 tyX8_ok rfl rfl (by decide) wc_RL_18 wi_8 wn_8 (by decide) hX1.symm rfl rfl (Nat.le_of_ble_eq_true rfl) (Nat.le_of_ble_eq_true rfl) dL_build_0 (fun H hM hS => ?_)
  have hM : gWz X zS0 H := hM
  refine lv_dup hx hb dL_build_3 rfl ?_
  refine gz_call (rm := { frames := 4, cells := 432, slots := 3025, locals := 92 }) (c0 := 0) E hAO hml hl.1 (c_X8_init l X 0 zS0 rfl f1) wt_X8_init (Or.inl wm_RL_23) hM hS (by rw [hX1]; rfl) rfl rfl (Nat.le_of_ble_eq_true rfl) (Nat.le_of_ble_eq_true rfl) (Nat.le_of_ble_eq_true rfl) (Nat.le_of_ble_eq_true rfl) (Nat.le_of_ble_eq_true rfl) dL_build_4 (fun H locs hM hS => ?_)
  refine lv_astore_n (lv' := [(1, .ref (X.1 + 0)), (0, .ref b)]) hx hb dL_build_7 rfl hl (by decide) rfl (fun ls hl => ?_)
  have hM2 : gM X nwm H := by
    rw [← z13]
    refine gM_new m2 ?_
    have h := hM.1
    rw [z11] at h
    exact h
  have hA : ∀ a : Nat, a < s.heap.size → ¬ gA X a := fun a h1 h2 => by
    have h3 : X.1 ≤ a := h2.1
    omega
  exact b_L_build E B.returns B.notSynchronized hml hl0 hout (Nat.le_refl _) (Nat.le_refl _) (Nat.le_refl _) (Nat.le_refl _) hA hXs hbl hL hf hM2 hS hl
/-- a call of build out of the law -/
theorem gk_build {p : Program} {l : Launch} {e : Env} {R : Room} {s : State} {m : MethodId} {args : Array Value} {below : List Frame} {meth : Method} {c : Code} {H : Heap} {locs : List Loc} {cells slots : Nat} {Q : State → Prop} {cc : ByteArray} {pc nL : Nat} {ls : Array Slot} {rest : List Value} {X : gX} {A0 : Nat → Prop} {σ1 : gMem} {b L : Nat} {xs : Nat → Int32} (E : gEn p s m args c cc RL X) (hAO : gAO s) (hA : ∀ a : Nat, a < s.heap.size → ¬ A0 a) (hsub : ∀ q, gA X q → A0 q) (hml : c.maxLocals = nL) (hsz : ls.size = nL) (hl0 : l.stackTraces = false) (hL : L ≤ 260) (hf : f_L_build xs L nwm = some (0, 0, σ1)) (hX : X.1 = H.size) (hXs : va_X b L xs s s.heap) (hbl : b < s.heap.size) (hS : va_S A0 s.heap H locs) (hRf : 10 + 1 ≤ R.frames) (hRl : 8 + (7 + 11) + 211 ≤ R.locals) (hRc : cells + 933 ≤ R.cells) (hRs : slots + 6034 ≤ R.slots) (hW : (rest.map fun v => v.category).sum ≤ 8) (hdg : decode cc pc = .ok (.invokestatic 87, 3))
    (kk : ∀ (H1 : Heap) (locs : List Loc), gM X σ1 H1 → (∀ q : Nat, q < H.size → H1[q]? = H[q]?) → va_S A0 s.heap H1 locs → W p l e R s m args below meth c H1 locs (cells + 933) (slots + 6034) Q (F0 m (pc + 3) ls (.ref (X.1 + 0) :: rest))) : W p l e R s m args below meth c H locs cells slots Q (F0 m pc ls (.ref b :: rest)) := by
  have cb : CallB R s args RL 87 yL_build cL_build 7 (some (.object "SugarTowers")) (gWs yL_build cL_build 7 (some (.object "SugarTowers"))) { frames := 10, cells := 933, slots := 6034, locals := 211 } 933 6034 1 := gcB E wt_L_build.2.2.1 wt_L_build.2.1 wt_L_build.2.2.2 wl_RL_87 rfl rfl hRf hRl
  have hr := vx_runS (H := H) (locs := locs) (cells := cells) (slots := slots) (below := below) (meth := meth) (e := e) (rest := rest) (As := [.ref b]) (g := F0 m pc ls (.ref b :: rest)) ⟨E.1, E.2.1, hml, E.2.2.1, E.2.2.2.1⟩ (c_L_build l X hl0 hL hf (b := b)) ⟨cb, gEn_t E wt_L_build.1⟩ ⟨gBn_blind b L xs X _, fun U hU hW => ⟨rfl, gG_warm hW (fun a h1 _ => by rw [hU]; exact hS.2.1 a h1 (hA a h1)) E.2.2.2.2, fun C hC => va_AO.moved hW.alike (hAO C hC), by rw [hU]; exact hX.symm, va_X.moved hW.alike (va_X.kept hXs (by rw [hU]; exact hS.2.1 b hbl (hA b hbl))), by rw [hU]; exact Nat.lt_of_lt_of_le hbl hS.1⟩⟩ rfl rfl hsz rfl (lv_room hW) hdg ⟨hRc, hRs⟩
  intro T hT Y
  rcases hr T hT Y with ⟨v, st₀, t, T', L9, h0, X', hL9, e1, e2, ⟨⟨u, ra, hv, hp, hb⟩, hF⟩, st⟩ | ⟨q9, st₀, t, T', L9, E9, ce, h0, X', hL9, e1, e2, ⟨u, hp, hb, hF⟩, hce, hcv, hcl, st⟩
  · cases hv
    obtain ⟨k1, k2, k3⟩ := vx_keep h0 e1 hS (fun q _ h => hsub q h) hsub hL9 hF
    obtain ⟨hz, rfl⟩ := hp
    obtain ⟨rfl, hb⟩ := hb
    obtain ⟨t2, a1, b1⟩ := kk T'.heap (locs ++ L9) (by rw [e1]; exact hb) (fun q hq => k2 q hq (fun h => by
      have h3 : X.1 ≤ q := h.1
      omega)) k3 T' rfl X'
    exact ⟨t2, st t2 a1, b1⟩
  · exact absurd rfl hp.1
set_option maxHeartbeats 4000000 in
set_option maxRecDepth 100000 in
/-- the law out of what is true of its numbers -/
theorem start_of {p : Program} {e : Env} {s : State} {m : MethodId} {below : List Frame} {meth : Method} {c : Code} (l : Launch) (hflags : l.flags = flags0) {b L : Nat} {xs : Nat → Int32} (hL : L ≤ 260) (C0 : lw_At p s m meth c b L xs) {σ : gMem} (hf : f_L_build xs L nwm = some (0, 0, σ)) (hS10 : S_10 xs L σ σ = some 1) : W p l e room_1 s m #[Value.ref b] below meth c s.heap [] 0 0 (lw_Z below #[Value.ref b] s) (entryFrame m ([Value.ref b] : List Value).toArray 26) := by
  obtain ⟨X0, hX0, hlim, E, hAO⟩ := ent_X C0
  obtain ⟨hx, hb, hr, hml, hown, hts, hXs, hbl, hlocks, hgv⟩ := id C0
  have hl0 : l.stackTraces = false := by
    unfold Launch.stackTraces
    rw [hflags]
    decide +kernel
  have hA : ∀ a : Nat, a < s.heap.size → ¬ gA X0 a := fun a h1 h2 => by
    have h3 : X0.1 ≤ a := h2.1
    omega
  have hl := lv_entry ([.ref b]) (n := 26) (Nat.le_of_ble_eq_true rfl)
  rw [lg_entry_eq]
  generalize (lg_sl ([.ref b]) ++ List.replicate (26 - (lg_sl ([.ref b])).length) Slot.unset).toArray = ls at hl ⊢
  have hl : lv_has ls 26 [(0, .ref b)] := hl
  refine lv_aload_n hx hb dL_law_0 rfl (lv_at hl 0 rfl) ?_
  refine gk_build E hAO hA (fun _ h => h) hml hl.1 hl0 hL hf hX0 hXs hbl va_S.rf (show _ ≤ 13 by decide) (show _ ≤ 496 by decide) (show _ ≤ 657678 by decide) (show _ ≤ 7128590 by decide) (Nat.le_of_ble_eq_true rfl) dL_law_1 (fun H locs hM _ hS => ?_)
  refine lv_astore_n (lv' := [(1, .ref (X0.1 + 0)), (0, .ref b)]) hx hb dL_law_4 rfl hl (by decide) rfl (fun ls hl => ?_)
  refine lv_aload_n hx hb dL_law_5 rfl (lv_at hl 1 rfl) ?_
  have hlt : X0.1 + 432 < H.size := (hM 432 _ (gWl_get (by decide))).lt
  have hb2 : X0.1 ≤ H.size := by omega
  refine gk_build (X := gXb X0 H.size 0) (gEn_sub hlim hb2 E) hAO hA (gXb_sub hlim hb2) hml hl.1 hl0 hL hf rfl hXs hbl hS (show _ ≤ 13 by decide) (show _ ≤ 496 by decide) (show _ ≤ 657678 by decide) (show _ ≤ 7128590 by decide) (Nat.le_of_ble_eq_true rfl) dL_law_6 (fun H2 locs hN hk hS => ?_)
  refine lv_astore_n (lv' := [(2, .ref (H.size + 0)), (1, .ref (X0.1 + 0)), (0, .ref b)]) hx hb dL_law_9 rfl hl (by decide) rfl (fun ls hl => ?_)
  have hM2 : gM X0 σ H2 := va_P.kept hM (fun k q hq => hk q.1 (vx_lt hM hq))
  refine ls_10 (X0 := X0) (X := gXb X0 X0.1 (H.size + 433)) (Y := gXb X0 H.size 0) (mx := σ) (my := σ) ⟨C0, gEn_sub hlim (Nat.le_refl _) E, gEn_sub hlim hb2 E, hX0, hA, gXb_sub hlim (Nat.le_refl _), gXb_sub hlim hb2, fun c hc h => ?_, fun c hc h => ?_, hL, hl0⟩ (Nat.le_of_ble_eq_true rfl) (Nat.le_of_ble_eq_true rfl) hS10 hM2 hN hS (lv_sub hl [2, 1, 0] rfl)
  · have h2 : H.size + c < X0.1 + 433 ∨ H.size + 433 ≤ H.size + c := h.2
    omega
  · have h2 : H.size ≤ X0.1 + c := h.1
    omega
