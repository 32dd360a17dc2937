/-! THE LAW, from its start -/
theorem wc_8 : Cond.classLink RL 8 RX8 ∈ gT := gT_in 86 (by decide +kernel) rfl
theorem wc_9 : Cond.classLink RL 129 RX9 ∈ gT := gT_in 1205 (by decide +kernel) rfl
theorem wn_8 : Cond.initialized RX8 ∈ gT := gT_in 60 (by decide +kernel) rfl
theorem wn_9 : Cond.initialized RX9 ∈ gT := gT_in 69 (by decide +kernel) rfl
theorem wm_8 : Cond.methodLink RL 128 yX8_init ∈ gT := gT_in 88 (by decide +kernel) rfl
theorem wm_9 : Cond.methodLink RL 131 yX9_init ∈ gT := gT_in 1207 (by decide +kernel) rfl
theorem wt_X8_init : gMi yX8_init cX8_init 1 := ⟨gT_in 89 (by decide +kernel) rfl, gT_in 60 (by decide +kernel) rfl, gT_in 90 (by decide +kernel) rfl, rfl, by decide, by decide, by decide +kernel⟩
theorem wt_X9_init : gMi yX9_init cX9_init 2 := ⟨gT_in 1208 (by decide +kernel) rfl, gT_in 69 (by decide +kernel) rfl, gT_in 1209 (by decide +kernel) rfl, rfl, by decide, by decide, by decide +kernel⟩
/-- the first object of all -/
theorem gz_new0 {p : Program} {l : Launch} {e : Env} {R : Room} {s : State} {m : MethodId} {args : Array Value} {below : List Frame} {meth : Method} {c : Code} {Q : State → Prop} {cc : ByteArray} {pc : Nat} {ls : Array Slot} {rest : List Value} {X : gX} {z : gZ} {own : String} {C : String} {T : u_T} {N ci index : Nat} (E : gEn p s m args c cc own X) (hin : ∀ w ∈ u_ws C T N, w ∈ gT) (ty0 : Nat → FieldType) (hty : ∀ k, k < N → parseFieldDescriptor (T k).2.2.1 = some (ty0 k)) (hci : gCl[ci]? = some (C, T, N)) (hgn : gn ci = N) (h10 : ci < 10)
    (w1 : Cond.classLink own index C ∈ gT) (w2 : Cond.instantiable C N ∈ gT) (w3 : Cond.initialized C ∈ gT) (hdef : ∀ j, j < N → defaultValue (ty0 j) = (match gr ci j with | none => Value.int 0 | some _ => Value.null)) (hX : X.1 = s.heap.size) (hz0 : z.1 = 0) (hk : gk z.1 = ci) (hcells : 0 + 1 ≤ R.cells) (hslots : 0 + N ≤ R.slots) (hdg : decode cc pc = .ok (.new index, 3))
    (kk : ∀ (H : Heap), gWz X (zN N z) H → va_S (gA X) s.heap H [] → W p l e R s m args below meth c H [] (0 + 1) (0 + N) Q (F0 m (pc + 3) ls (.ref (X.1 + z.1) :: rest))) : W p l e R s m args below meth c s.heap [] 0 0 Q (F0 m pc ls rest) := by
  have hsz : s.heap.size = X.1 + z.1 := by omega
  have hKn := (gEn_K E).1 ci _ hci
  refine W.newcK E.1 E.2.1 E.2.2.1 (gEn_t E w1) (gEn_t E w2) (gEn_t E w3) rfl hdg hcells hslots hKn.2.1 hsz fun H1 kC hkC e1 z1 o1 => ?_
  have o2 : ∀ q : Nat, q < s.heap.size → H1[q]? = s.heap[q]? := fun q hq => o1 q (by rw [← hsz]; exact hq)
  refine kk H1 ⟨gW_succ (w := z.2.2.1) (μ := z.2.2.2) (fun k q h => absurd (gWl_inv h).1 (by omega)) o2 ?_ (fun k hk => absurd hk (by omega)), gk_in hk (by omega), Nat.succ_pos _⟩ ⟨by rw [hsz, z1]; omega, fun x h1 _ => o2 x h1, fun x hx => absurd hx List.not_mem_nil⟩
  rw [gE_obj hk h10]
  refine ⟨_, hci, (u_born ty0 E.2.2.2.1 hin hKn hkC e1 hty).to (fun j hj => ?_)⟩
  show defaultValue (ty0 j) = vp_V _ j
  rw [hdef j hj]
  unfold vp_V
  rw [show (ci, List.map (gV X.1 (zN N z).2.2.1 (zN N z).2.2.2 z.1) (List.range (gn ci))).2.getD j Value.null = gV X.1 (zN N z).2.2.1 (zN N z).2.2.2 z.1 j by rw [hgn, List.getD_eq_getElem?_getD, gMap _ hj]; rfl]
  unfold gV
  rw [hk]
  cases gr ci j with
  | none => simp [zN, mc]
  | some o => simp [zN]
theorem e_z : ∃ z1 z2 : gZ, f_X8_init 0 zS0 = some z1 ∧ z1.1 = 433 ∧ f_X9_init 433 (zN 18 z1) = some z2 ∧ z2.1 = 440 ∧ nwM z2.2.2.2 = true ∧ nwR z2.2.2.1 = true := by
  have h1 := i_1
  have h2 := i_2
  have h3 := i_3
  have h4 := i_4
  cases e1 : zS1 with
  | none => rw [e1] at h1; cases h1
  | some z1 =>
    rw [e1] at h1
    simp only [Option.map_some, Option.some.injEq, Prod.mk.injEq] at h1
    cases e2 : zS2 with
    | none => rw [e2] at h2; cases h2
    | some z2 =>
      rw [e2] at h2 h3 h4
      simp only [Option.map_some, Option.some.injEq, Prod.mk.injEq] at h2 h3 h4
      have e3 : g3 zS1 (fun z => f_X9_init 433 (zN (gn 9) z)) = some z2 := e2
      rw [e1, show gn 9 = 18 from rfl] at e3
      exact ⟨z1, z2, e1, h1.1, e3, h2.1, h3, h4⟩
set_option maxHeartbeats 4000000 in
set_option maxRecDepth 100000 in
theorem whole_start {p : Program} {e : Env} {s : State} {m : MethodId} {below : List Frame} {meth : Method} {c : Code} (l : Launch) (hflags : l.flags = flags0) {b L : Nat} {xs : Nat → Int32} (hL : L ≤ 2560) (C0 : lw_At p s m meth c b L xs) : W p l e room_1 s m #[Value.ref b] below meth c s.heap [] 0 0 (lw_Z below #[Value.ref b] s) (entryFrame m ([Value.ref b] : List Value).toArray 9) := by
  obtain ⟨X, hX1, E, hAO⟩ := ent_X C0
  obtain ⟨hx, hb, hr, hml, hown, hts, hXs, hbl, hlocks, hgv⟩ := id C0
  obtain ⟨z1, z2, f1, z11, f2, z21, m1, m2⟩ := e_z
  have hl0 : l.stackTraces = false := by
    unfold Launch.stackTraces
    rw [hflags]
    decide +kernel
  have hl := lv_entry ([.ref b]) (n := 9) (Nat.le_of_ble_eq_true rfl)
  rw [lg_entry_eq]
  generalize (lg_sl ([.ref b]) ++ List.replicate (9 - (lg_sl ([.ref b])).length) Slot.unset).toArray = ls at hl ⊢
  have hl : lv_has ls 9 [(0, .ref b)] := hl
  refine gz_new0 (ci := 8) (N := 9) (z := (0, 0, fun _ _ => false, fun _ _ => 0)) E.1 gin_8 tyX8 tyX8_ok rfl rfl (by decide) wc_8 wi_8 wn_8 (by decide) hX1 rfl rfl (Nat.le_of_ble_eq_true rfl) (Nat.le_of_ble_eq_true rfl) dL_law_0 (fun H hM hS => ?_)
  have hM : gWz X zS0 H := hM
  refine lv_dup hx hb dL_law_3 rfl ?_
  refine gz_call (rm := { frames := 4, cells := 432, slots := 3025, locals := 92 }) (c0 := 0) E.1 hAO hml hl.1 (c_X8_init l X 0 zS0 rfl f1) wt_X8_init (Or.inl wm_8) hM hS (by rw [hX1]; rfl) rfl rfl (Nat.le_of_ble_eq_true rfl) (Nat.le_of_ble_eq_true rfl) (Nat.le_of_ble_eq_true rfl) (Nat.le_of_ble_eq_true rfl) (Nat.le_of_ble_eq_true rfl) dL_law_4 (fun H locs hM hS => ?_)
  refine lv_astore_n (lv' := [(1, .ref (X.1 + 0)), (0, .ref b)]) hx hb dL_law_7 rfl hl (by decide) rfl (fun ls hl => ?_)
  refine gz_new (ci := 9) (N := 18) (z := z1) E.1 gin_9 tyX9 tyX9_ok rfl rfl (by decide) wc_9 wi_9 wn_9 (by decide) hM hS (by omega) (by rw [z11]; rfl) (Nat.le_of_ble_eq_true rfl) (Nat.le_of_ble_eq_true rfl) dL_law_8 (fun H hM hS => ?_)
  rw [z11]
  refine lv_dup hx hb dL_law_11 rfl ?_
  refine gz_call (rm := { frames := 1, cells := 6, slots := 2780, locals := 30 }) (z := zN 18 z1) (c0 := 433) E.1 hAO hml hl.1 (c_X9_init l X 433 (zN 18 z1) rfl f2) wt_X9_init (Or.inl wm_9) hM hS (show _ = X.1 + (z1.1 + 1) by omega) rfl rfl (Nat.le_of_ble_eq_true rfl) (Nat.le_of_ble_eq_true rfl) (Nat.le_of_ble_eq_true rfl) (Nat.le_of_ble_eq_true rfl) (Nat.le_of_ble_eq_true rfl) dL_law_12 (fun H locs hM hS => ?_)
  refine lv_astore_n (lv' := [(2, .ref (X.1 + 433)), (1, .ref (X.1 + 0)), (0, .ref b)]) hx hb dL_law_15 rfl hl (by decide) rfl (fun ls hl => ?_)
  have hM2 : gM X z2.2.2.2 H := gM_new m2 (by have h := hM.1; rw [z21] at h; exact h)
  refine lv_iconst (v := 1) hx hb dL_law_16 (by decide) ?_
  refine W_size (fun hsz0 => ?_)
  have hsz : H.size = X.1 + 440 := by
    have h := gWz_lo hM
    rw [z21] at h
    omega
  refine va_newaK (atype := .long) hx hb (hts _ ea_2) rfl dL_law_17 rfl (by decide) (N := 1) (by decide) (by decide) (Nat.le_of_ble_eq_true rfl) (Nat.le_of_ble_eq_true rfl) hsz fun H1 cA e1 s1 o1 _ hNm => ?_
  have h2 := ((gEn_K E.1).2 2 _ rfl).2
  cases Option.some.inj (hNm.symm.trans h2)
  refine lv_astore_n (ls := ls) (pc := 19) (x := X.1 + 440) (rest := []) (lv' := [(3, .ref (X.1 + 440)), (2, .ref (X.1 + 433)), (1, .ref (X.1 + 0)), (0, .ref b)]) hx hb dL_law_19 rfl hl (by decide) rfl (fun ls hl => ?_)
  refine lv_iconst (v := 1) hx hb dL_law_20 (by decide) ?_
  refine va_newaK (atype := .double) hx hb (hts _ ea_3) rfl dL_law_21 rfl (by decide) (N := 1) (by decide) (by decide) (Nat.le_of_ble_eq_true rfl) (Nat.le_of_ble_eq_true rfl) (h := X.1 + 441) s1 fun H2 cB e2 s2 o2 _ hNm => ?_
  have h3 := ((gEn_K E.1).2 3 _ rfl).2
  cases Option.some.inj (hNm.symm.trans h3)
  refine lv_astore (ls := ls) (pc := 23) (x := X.1 + 441) (rest := []) (lv' := [(4, .ref (X.1 + 441)), (3, .ref (X.1 + 440)), (2, .ref (X.1 + 433)), (1, .ref (X.1 + 0)), (0, .ref b)]) hx hb dL_law_23 hl (by decide) rfl (fun ls hl => ?_)
  refine lv_iconst (v := nI (5 * 0)) hx hb dL_law_25 (by decide) ?_
  refine lv_istore (lv' := [(5, .int (nI (5 * 0))), (4, .ref (X.1 + 441)), (3, .ref (X.1 + 440)), (2, .ref (X.1 + 433)), (1, .ref (X.1 + 0)), (0, .ref b)]) hx hb dL_law_26 hl (by decide) rfl (fun ls hl => ?_)
  have hM3 : gM X z2.2.2.2 H2 := va_P.kept hM2 (fun k q hq => by
    have h := vx_lt hM2 hq
    exact (o2 q.1 (by omega)).trans (o1 q.1 (by omega)))
  have hO : gO X (fun _ => 0) (fun _ => 0) H2 := by
    intro k q hq
    match k, hq with
    | 0, hq =>
      cases hq
      show H2[X.1 + 440]? = some (vp_cell _ _)
      rw [vp_cell_l]
      exact (o2 (X.1 + 440) (by omega)).trans e1
    | 1, hq =>
      cases hq
      show H2[X.1 + 441]? = some (vp_cell _ _)
      rw [vp_cell_d]
      exact e2
    | k + 2, hq => cases hq
  have hS2 : va_S (gA2 X) s.heap H2 locs := ⟨by omega, fun q h1 h2 => (o2 q (by omega)).trans ((o1 q (by omega)).trans (hS.2.1 q h1 (fun h => h2 (gA_A2 X q h)))), fun q hq => gA_A2 X _ (hS.2.2 q hq)⟩
  exact law_loop hL C0 E hl0 hX1 (L + 1) 0 (Nat.zero_le _) (by omega) H2 locs ls z2.2.2.2 _ _ _ _ (Nat.le_of_ble_eq_true rfl) (Nat.le_of_ble_eq_true rfl) (RR_new m1) hM3 hO hS2 (lv_sub hl [5, 4, 3, 2, 1, 0] rfl)
