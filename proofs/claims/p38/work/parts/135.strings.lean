/-! texts: the forms of the orders, by their numbers -/
def f_J0_isEmpty_aae02 (i : Nat) (m0 : gMem) : Option (Int32 × gMem) := if i < 12 then some ((if gFl.getD i 0 = 0 then 1 else 0), m0) else none
def f_J0_length_8abf5 (i : Nat) (m0 : gMem) : Option (Int32 × gMem) := if i < 12 then some (Int32.ofNat (gFl.getD i 0), m0) else none
def gFc (i k : Nat) : Int32 := (gFb.getD i []).getD k 0
def f_J0_charAt_5068e (i : Nat) (k : Int32) (m0 : gMem) : Option (Int32 × gMem) := if i < 12 ∧ ¬ (k < 0 ∨ gFl.getD i 0 ≤ k.toNatClampNeg) then some (gFc i k.toNatClampNeg, m0) else none
theorem f_J0_isEmpty_aae02_lt {i : Nat} {m0 : gMem} {res : Int32 × gMem} (h : f_J0_isEmpty_aae02 i m0 = some res) : i < 12 := (g_ck h).1
theorem f_J0_length_8abf5_lt {i : Nat} {m0 : gMem} {res : Int32 × gMem} (h : f_J0_length_8abf5 i m0 = some res) : i < 12 := (g_ck h).1
theorem f_J0_charAt_5068e_lt {i : Nat} {k : Int32} {m0 : gMem} {res : Int32 × gMem} (h : f_J0_charAt_5068e i k m0 = some res) : i < 12 := (g_ck h).1.1
def gQs (X : gX) (q : Nat × gMem) : Array Value → State → Outcome → State → Prop := va_Qr (fun u => u = q.2) (fun u a t => a = X.2.2.2.1 q.1 ∧ gM X u t.heap) (gA X)
theorem gFc_ok : ∀ i, i < 12 → ∀ k, k < gFl.getD i 0 → ((gFc i k &&& 255).toUInt32 % 65536).toInt32 = gFc i k ∧ narrow .char (.int (gFc i k)) = .int (gFc i k) := by decide +kernel
theorem gFl_lt : ∀ i, i < 12 → gFl.getD i 0 < 1000 := by decide +kernel
section GSx
variable {p : Program} {l : Launch} {e : Env} {R : Room} {s : State} {m : MethodId} {args : Array Value} {below : List Frame} {meth : Method} {c : Code} {H : Heap} {locs : List Loc} {cells slots mc ms : Nat} {Q : State → Prop}
variable {cc : ByteArray} {pc : Nat} {ls : Array Slot} {rest : List Value} {X : gX} {σ σ1 : gMem} {own : String}
theorem gEn_S (E : gEn p s m args c cc own X) : vk_S 12 gFl gFb X.2.2.2.1 X.2.2.2.2.1 (gA X) s s.heap := E.2.2.2.2.2.2.2.2.2.1
theorem gg_ldc {q : Nat × String} (i : Nat) (E : gEn p s m args c cc RX5 X) (hq : gFt[i]? = some q) (hdg : decode cc pc = .ok (.ldc q.1, 2)) (kk : W p l e R s m args below meth c H locs cells slots Q (F0 m (pc + 2) ls (.ref (X.2.2.2.1 i) :: rest))) : W p l e R s m args below meth c H locs cells slots Q (F0 m pc ls rest) :=
  va_ldcS E.1 E.2.1 E.2.2.1 (E.2.2.2.2.2.2.2.2.2.2.1.1 i q hq) hdg kk
theorem gg_ldcL {q : Nat × String} (i : Nat) (E : gEn p s m args c cc RL X) (hq : gFt2[i]? = some q) (hdg : decode cc pc = .ok (.ldc q.1, 2)) (kk : W p l e R s m args below meth c H locs cells slots Q (F0 m (pc + 2) ls (.ref (X.2.2.2.1 (6 + i)) :: rest))) : W p l e R s m args below meth c H locs cells slots Q (F0 m pc ls rest) :=
  va_ldcS E.1 E.2.1 E.2.2.1 (E.2.2.2.2.2.2.2.2.2.2.1.2 i q hq) hdg kk
theorem ge_s {k : Nat} {C : String} {q : Nat × gMem} (E : gEn p s m args c cc own X) (hr : meth.sig.returnType = some (.object C)) (hlocks : meth.locks = false) (hf : some (k, σ) = some q) (hM : gM X σ H) (hS : va_S (gA X) s.heap H locs) (hc : cells ≤ mc) (hs : slots ≤ ms) (hdg : decode cc pc = .ok (.areturn, 1)) : W p l e R s m args below meth c H locs cells slots (MQ below (gQs X q) args s mc ms (gA X)) (F0 m pc ls [.ref (X.2.2.2.1 k)]) := by
  cases hf
  exact W.widen hc hs (W.aret E.1 E.2.1 hr (Or.inl ⟨C, rfl⟩) (Or.inr ⟨_, rfl⟩) (fun _ ht _ => ⟨⟨σ, X.2.2.2.1 k, rfl, rfl, rfl, by rw [ht]; exact hM⟩, hS.F ht⟩) hS.2.2 hdg hlocks)
theorem ga_s {r1 : Nat} {σ1 : gMem} {a : Array Value} {st0 : List Value} (hr : va_Run p l e R s m args below meth c H locs cells slots 0 0 (F0 m pc ls st0) rest (gQs X (r1, σ1) a) (gA X)) (hS : va_S (gA X) s.heap H locs) (kk : ∀ (H : Heap) (locs : List Loc), gM X σ1 H → va_S (gA X) s.heap H locs → W p l e R s m args below meth c H locs cells slots Q (F0 m (pc + 3) ls (.ref (X.2.2.2.1 r1) :: rest))) : W p l e R s m args below meth c H locs cells slots Q (F0 m pc ls st0) :=
  va_callr hr hS (fun _ _ h => h) (fun _ h => h) (fun u ra t H1 locs1 ht _ hw hB _ _ hS1 => by
    subst hw
    obtain ⟨rfl, hB⟩ := hB
    exact kk H1 locs1 (by rw [ht] at hB; exact hB) hS1)
theorem gr_VS {y : MethodName} {bytes : ByteArray} {maxL n nL index mc ms i : Nat} {ret : Option FieldType} {rm : Room} {As : List Value} {Qc : Array Value → State → Outcome → State → Prop} (E : gEn p s m args c cc own X) (hml : c.maxLocals = nL) (hsz : ls.size = nL) (hC : Met l y (gWs y bytes maxL ret) rm (va_Pc (.ref (X.2.2.2.1 i) :: As) (gB X σ)) Qc mc ms (gA X)) (hy : gMv y bytes maxL ret n) (hlk : Cond.methodLink own index y ∈ gT) (hn : As.length = n) (hi : i < 12) (hM : gM X σ H) (hS : va_S (gA X) s.heap H locs) (hrc : rm.cells = mc) (hrs : rm.slots = ms) (hRf : rm.frames + 1 ≤ R.frames) (hRl : 8 + (maxL + 11) + rm.locals ≤ R.locals) (hRc : cells + mc ≤ R.cells) (hRs : slots + ms ≤ R.slots) (hW : (rest.map fun v => v.category).sum ≤ 8) (hdg : decode cc pc = .ok (.invokevirtual index, 3)) {st0 : List Value} (hst : st0 = As.reverse ++ .ref (X.2.2.2.1 i) :: rest) (hq : y.cls = "java/lang/String" := by rfl) :
    va_Run p l e R s m args below meth c H locs cells slots mc ms (F0 m pc ls st0) rest (Qc (Value.ref (X.2.2.2.1 i) :: As).toArray) (gA X) := by
  have hrv := vk_recv (gEn_S E) hi hS
  rw [← hq] at hrv
  exact va_runV ⟨E.1, E.2.1, hml, E.2.2.1, E.2.2.2.1⟩ hC (gcV E hy hlk hrc hrs hRf hRl) ⟨gB_blind X σ _, hrv, fun U hU hW => ⟨rfl, gB_at E.2.2.2.2 hM hS hU hW⟩⟩ rfl hn hsz hst (lv_room hW) hdg ⟨hRc, hRs⟩
end GSx
theorem c_J0_coder_7d493 (l : Launch) (X : gX) (i : Nat) (hi : i < 12) (m0 : gMem) : Met l yJ0_coder_7d493 (gWs yJ0_coder_7d493 cJ0_coder_7d493 1 (some .byte)) { frames := 0, cells := 0, slots := 0, locals := 0 } (va_Pc [.ref (X.2.2.2.1 i)] (gB X m0)) (gQi X (0, m0)) 0 0 (gA X) := by
  refine gMet (own := RJ0) (by decide) rfl (Nat.le_of_ble_eq_true rfl) (fun p e s m args below meth c ls E hr hlocks hml hM hl => ?_)
  have hl : lv_has ls 1 [(0, .ref (X.2.2.2.1 i))] := hl
  obtain ⟨hx, hb⟩ := (⟨E.1, E.2.1⟩ : _ ∧ _)
  have hS : va_S (gA X) s.heap s.heap [] := va_S.rf
  refine va_gets (C := RJ0) (ref := RJ0) (n := "COMPACT_STRINGS") (d := "Z") hx hb E.2.2.2.2.2.2.2.2.2.2.2.1 hS E.2.2.1 (gEn_t E wf_RJ0_38) (fun _ h => h) dJ0_coder_7d493_0 ?_
  refine lv_if_eq (tgt := 13) hx hb dJ0_coder_7d493_3 (by decide) (fun h => absurd h (by decide)) (fun _ => ?_)
  refine lv_aload_n hx hb dJ0_coder_7d493_6 rfl (lv_at hl 0 rfl) ?_
  refine vk_getf (ref := RJ0) hx hb ((gEn_S E).1 i hi).2.1 hS E.2.2.1 (gEn_t E wf_RJ0_15) (fun _ h => h) dJ0_coder_7d493_7 ?_
  refine lv_goto (tgt := 14) hx hb dJ0_coder_7d493_10 (by decide) ?_
  exact ge_z E hr rfl hlocks rfl hM hS (Nat.le_refl _) (Nat.le_refl _) dJ0_coder_7d493_14
theorem c_J0_isLatin1_aae02 (l : Launch) (X : gX) (i : Nat) (hi : i < 12) (m0 : gMem) : Met l yJ0_isLatin1_aae02 (gWs yJ0_isLatin1_aae02 cJ0_isLatin1_aae02 1 (some .boolean)) { frames := 0, cells := 0, slots := 0, locals := 0 } (va_Pc [.ref (X.2.2.2.1 i)] (gB X m0)) (gQi X (1, m0)) 0 0 (gA X) := by
  refine gMet (own := RJ0) (by decide) rfl (Nat.le_of_ble_eq_true rfl) (fun p e s m args below meth c ls E hr hlocks hml hM hl => ?_)
  have hl : lv_has ls 1 [(0, .ref (X.2.2.2.1 i))] := hl
  obtain ⟨hx, hb⟩ := (⟨E.1, E.2.1⟩ : _ ∧ _)
  have hS : va_S (gA X) s.heap s.heap [] := va_S.rf
  refine va_gets (C := RJ0) (ref := RJ0) (n := "COMPACT_STRINGS") (d := "Z") hx hb E.2.2.2.2.2.2.2.2.2.2.2.1 hS E.2.2.1 (gEn_t E wf_RJ0_38) (fun _ h => h) dJ0_isLatin1_aae02_0 ?_
  refine lv_if_eq (tgt := 17) hx hb dJ0_isLatin1_aae02_3 (by decide) (fun h => absurd h (by decide)) (fun _ => ?_)
  refine lv_aload_n hx hb dJ0_isLatin1_aae02_6 rfl (lv_at hl 0 rfl) ?_
  refine vk_getf (ref := RJ0) hx hb ((gEn_S E).1 i hi).2.1 hS E.2.2.1 (gEn_t E wf_RJ0_15) (fun _ h => h) dJ0_isLatin1_aae02_7 ?_
  refine lv_if_ne (tgt := 17) hx hb dJ0_isLatin1_aae02_10 (by decide) (fun h => absurd rfl h) (fun _ => ?_)
  refine lv_iconst (v := (1 : Int32)) hx hb dJ0_isLatin1_aae02_13 (by decide) ?_
  refine lv_goto (tgt := 18) hx hb dJ0_isLatin1_aae02_14 (by decide) ?_
  exact ge_z E hr rfl hlocks rfl hM hS (Nat.le_refl _) (Nat.le_refl _) dJ0_isLatin1_aae02_18
theorem c_J0_isEmpty_aae02 (l : Launch) (X : gX) (i : Nat) (m0 : gMem) {res : Int32 × gMem} (hf : f_J0_isEmpty_aae02 i m0 = some res) : Met l yJ0_isEmpty_aae02 (gWs yJ0_isEmpty_aae02 cJ0_isEmpty_aae02 1 (some .boolean)) { frames := 0, cells := 0, slots := 0, locals := 0 } (va_Pc [.ref (X.2.2.2.1 i)] (gB X m0)) (gQi X res) 0 0 (gA X) := by
  refine gMet (own := RJ0) (by decide) rfl (Nat.le_of_ble_eq_true rfl) (fun p e s m args below meth c ls E hr hlocks hml hM hl => ?_)
  have hl : lv_has ls 1 [(0, .ref (X.2.2.2.1 i))] := hl
  obtain ⟨hx, hb⟩ := (⟨E.1, E.2.1⟩ : _ ∧ _)
  obtain ⟨hi, hf⟩ := g_ck hf
  have hlt := gFl_lt i hi
  have hS : va_S (gA X) s.heap s.heap [] := va_S.rf
  refine lv_aload_n hx hb dJ0_isEmpty_aae02_0 rfl (lv_at hl 0 rfl) ?_
  refine vk_getf (ref := RJ0) hx hb ((gEn_S E).1 i hi).2.2.1 hS E.2.2.1 (gEn_t E wf_RJ0_9) (fun _ h => h) dJ0_isEmpty_aae02_1 ?_
  refine va_tlen hx hb ((gEn_S E).1 i hi).2.2.2 hS rfl dJ0_isEmpty_aae02_4 ?_
  refine lv_if_ne (tgt := 12) hx hb dJ0_isEmpty_aae02_5 (by decide) (fun h => ?_) (fun h => ?_)
  · have h0 : ¬ gFl.getD i 0 = 0 := fun z => h (by rw [z]; rfl)
    rw [if_neg h0] at hf
    refine lv_iconst (v := (0 : Int32)) hx hb dJ0_isEmpty_aae02_12 (by decide) ?_
    exact ge_z E hr rfl hlocks hf hM hS (Nat.le_refl _) (Nat.le_refl _) dJ0_isEmpty_aae02_13
  · have h0 : gFl.getD i 0 = 0 := by
      have h2 : nI (gFl.getD i 0) = nI 0 := h
      exact (nI_eq (by omega) (by omega)).mp h2
    rw [if_pos h0] at hf
    refine lv_iconst (v := (1 : Int32)) hx hb dJ0_isEmpty_aae02_8 (by decide) ?_
    refine lv_goto (tgt := 13) hx hb dJ0_isEmpty_aae02_9 (by decide) ?_
    exact ge_z E hr rfl hlocks hf hM hS (Nat.le_refl _) (Nat.le_refl _) dJ0_isEmpty_aae02_13
theorem c_J0_length_8abf5 (l : Launch) (X : gX) (i : Nat) (m0 : gMem) {res : Int32 × gMem} (hf : f_J0_length_8abf5 i m0 = some res) : Met l yJ0_length_8abf5 (gWs yJ0_length_8abf5 cJ0_length_8abf5 1 (some .int)) { frames := 1, cells := 0, slots := 0, locals := 30 } (va_Pc [.ref (X.2.2.2.1 i)] (gB X m0)) (gQi X res) 0 0 (gA X) := by
  refine gMet (own := RJ0) (by decide) rfl (Nat.le_of_ble_eq_true rfl) (fun p e s m args below meth c ls E hr hlocks hml hM hl => ?_)
  have hl : lv_has ls 1 [(0, .ref (X.2.2.2.1 i))] := hl
  obtain ⟨hx, hb⟩ := (⟨E.1, E.2.1⟩ : _ ∧ _)
  obtain ⟨hi, hf⟩ := g_ck hf
  have hS : va_S (gA X) s.heap s.heap [] := va_S.rf
  refine lv_aload_n hx hb dJ0_length_8abf5_0 rfl (lv_at hl 0 rfl) ?_
  refine vk_getf (ref := RJ0) hx hb ((gEn_S E).1 i hi).2.2.1 hS E.2.2.1 (gEn_t E wf_RJ0_9) (fun _ h => h) dJ0_length_8abf5_1 ?_
  refine va_tlen hx hb ((gEn_S E).1 i hi).2.2.2 hS rfl dJ0_length_8abf5_4 ?_
  refine lv_aload_n hx hb dJ0_length_8abf5_5 rfl (lv_at hl 0 rfl) ?_
  refine ga_i (gr_VS (As := []) (rm := { frames := 0, cells := 0, slots := 0, locals := 0 }) E hml hl.1 (c_J0_coder_7d493 l X i hi m0) wt_J0_coder_7d493 wl_RJ0_335 rfl hi hM hS rfl rfl (Nat.le_of_ble_eq_true rfl) (Nat.le_of_ble_eq_true rfl) (Nat.le_refl _) (Nat.le_refl _) (Nat.le_of_ble_eq_true rfl) dJ0_length_8abf5_6 rfl) hS (fun H locs hM hS => ?_)
  refine lv_ishr hx hb dJ0_length_8abf5_9 ?_
  rw [sb_shr0]
  exact ge_i E hr hlocks hf hM hS (Nat.le_refl _) (Nat.le_refl _) dJ0_length_8abf5_10
theorem c_J3_checkIndex_8e157 (l : Launch) (X : gX) (u0 u1 : Int32) (v : Value) (hv : v = .null ∨ ∃ t, v = .ref t) (h0 : ¬ u0 < 0) (h1 : u0 < u1) (m0 : gMem) : Met l yJ3_checkIndex_8e157 (gWs yJ3_checkIndex_8e157 cJ3_checkIndex_8e157 3 (some .int)) { frames := 0, cells := 0, slots := 0, locals := 0 } (va_Pc [.int u0, .int u1, v] (gB X m0)) (gQi X (u0, m0)) 0 0 (gA X) := by
  refine gMet (own := RJ3) (by decide) rfl (by rcases hv with rfl | ⟨t, rfl⟩ <;> exact Nat.le_of_ble_eq_true rfl) (fun p e s m args below meth c ls E hr hlocks hml hM hl => ?_)
  have hl : lv_has ls 3 [(0, .int u0), (1, .int u1), (2, v)] := by
    rcases hv with rfl | ⟨t, rfl⟩ <;> exact hl
  obtain ⟨hx, hb⟩ := (⟨E.1, E.2.1⟩ : _ ∧ _)
  have hS : va_S (gA X) s.heap s.heap [] := va_S.rf
  refine lv_iload_n hx hb dJ3_checkIndex_8e157_0 rfl (lv_at hl 0 rfl) ?_
  refine lv_if_lt (tgt := 9) hx hb dJ3_checkIndex_8e157_1 (by decide) (fun h => absurd h h0) (fun _ => ?_)
  refine lv_iload_n hx hb dJ3_checkIndex_8e157_4 rfl (lv_at hl 0 rfl) ?_
  refine lv_iload_n hx hb dJ3_checkIndex_8e157_5 rfl (lv_at hl 1 rfl) ?_
  refine lv_icmp_lt (tgt := 16) hx hb dJ3_checkIndex_8e157_6 (by decide) (fun _ => ?_) (fun h => absurd h1 h)
  refine lv_iload_n hx hb dJ3_checkIndex_8e157_16 rfl (lv_at hl 0 rfl) ?_
  exact ge_i E hr hlocks rfl hM hS (Nat.le_refl _) (Nat.le_refl _) dJ3_checkIndex_8e157_17
theorem c_J0_checkIndex_df160 (l : Launch) (X : gX) (u0 u1 : Int32) (h0 : ¬ u0 < 0) (h1 : u0 < u1) (m0 : gMem) : Met l yJ0_checkIndex_df160 (gWs yJ0_checkIndex_df160 cJ0_checkIndex_df160 2 none) { frames := 1, cells := 0, slots := 0, locals := 30 } (va_Pc [.int u0, .int u1] (gB X m0)) (gQv X ((), m0)) 0 0 (gA X) := by
  refine gMet (own := RJ0) (by decide) rfl (Nat.le_of_ble_eq_true rfl) (fun p e s m args below meth c ls E hr hlocks hml hM hl => ?_)
  have hl : lv_has ls 2 [(0, .int u0), (1, .int u1)] := hl
  obtain ⟨hx, hb⟩ := (⟨E.1, E.2.1⟩ : _ ∧ _)
  have hS : va_S (gA X) s.heap s.heap [] := va_S.rf
  have go : ∀ v : Value, (v = .null ∨ ∃ t, v = .ref t) → va_Z RJ3 "SIOOBE_FORMATTER" "Ljava/util/function/BiFunction;" v (gA X) s s.heap → W p l e { frames := 1, cells := 0, slots := 0, locals := 30 } s m args below meth c s.heap [] 0 0 (MQ below (gQv X ((), m0)) args s 0 0 (gA X)) (F0 m 0 ls []) := by
    intro v hv hZ
    refine lv_iload_n hx hb dJ0_checkIndex_df160_0 rfl (lv_at hl 0 rfl) ?_
    refine lv_iload_n hx hb dJ0_checkIndex_df160_1 rfl (lv_at hl 1 rfl) ?_
    refine va_gets (C := RJ3) (ref := RJ3) hx hb hZ hS E.2.2.1 (gEn_t E wf_RJ0_1053) (fun _ h => h) dJ0_checkIndex_df160_2 ?_
    refine ga_i (gr_S (As := [.int u0, .int u1, v]) (rm := { frames := 0, cells := 0, slots := 0, locals := 0 }) E hml hl.1 (c_J3_checkIndex_8e157 l X u0 u1 v hv h0 h1 m0) wt_J3_checkIndex_8e157 wl_RJ0_1059 rfl hM hS rfl rfl (Nat.le_of_ble_eq_true rfl) (Nat.le_of_ble_eq_true rfl) (Nat.le_refl _) (Nat.le_refl _) (Nat.le_of_ble_eq_true rfl) dJ0_checkIndex_df160_5 rfl) hS (fun H locs hM hS => ?_)
    refine lv_pop hx hb dJ0_checkIndex_df160_8 rfl ?_
    exact ge_v E hr hlocks rfl hM hS (Nat.le_refl _) (Nat.le_refl _) dJ0_checkIndex_df160_9
  rcases E.2.2.2.2.2.2.2.2.2.2.2.2 with hZ | ⟨t, hZ⟩
  · exact go _ (Or.inl rfl) hZ
  · exact go _ (Or.inr ⟨t, rfl⟩) hZ
theorem c_J1_charAt_3b067 (l : Launch) (X : gX) (i : Nat) (hi : i < 12) (k : Int32) (hk : ¬ (k < 0 ∨ gFl.getD i 0 ≤ k.toNatClampNeg)) (m0 : gMem) : Met l yJ1_charAt_3b067 (gWs yJ1_charAt_3b067 cJ1_charAt_3b067 2 (some .char)) { frames := 2, cells := 0, slots := 0, locals := 60 } (va_Pc [.ref (X.2.2.2.2.1 i), .int k] (gB X m0)) (gQi X (gFc i k.toNatClampNeg, m0)) 0 0 (gA X) := by
  refine gMet (own := RJ1) (by decide) rfl (Nat.le_of_ble_eq_true rfl) (fun p e s m args below meth c ls E hr hlocks hml hM hl => ?_)
  have hl : lv_has ls 2 [(0, .ref (X.2.2.2.2.1 i)), (1, .int k)] := hl
  obtain ⟨hx, hb⟩ := (⟨E.1, E.2.1⟩ : _ ∧ _)
  have hS : va_S (gA X) s.heap s.heap [] := va_S.rf
  have hlt := gFl_lt i hi
  have hk1 : ¬ k < 0 := fun z => hk (Or.inl z)
  have hk2 : k.toNatClampNeg < gFl.getD i 0 := Nat.not_le.mp fun z => hk (Or.inr z)
  have hk3 : k < Int32.ofNat (gFl.getD i 0) := by
    obtain ⟨j, hj, rfl⟩ := nI_of hk1
    rw [nI_clamp hj] at hk2
    exact nI_lt hk2 (by omega)
  obtain ⟨e1, e2⟩ := gFc_ok i hi _ hk2
  refine lv_iload_n hx hb dJ1_charAt_3b067_0 rfl (lv_at hl 1 rfl) ?_
  refine lv_aload_n hx hb dJ1_charAt_3b067_1 rfl (lv_at hl 0 rfl) ?_
  refine va_tlen hx hb ((gEn_S E).1 i hi).2.2.2 hS rfl dJ1_charAt_3b067_2 ?_
  refine ga_v (gr_S (As := [.int k, .int (Int32.ofNat (gFl.getD i 0))]) (rm := { frames := 1, cells := 0, slots := 0, locals := 30 }) E hml hl.1 (c_J0_checkIndex_df160 l X k _ hk1 hk3 m0) wt_J0_checkIndex_df160 wl_RJ1_9 rfl hM hS rfl rfl (Nat.le_of_ble_eq_true rfl) (Nat.le_of_ble_eq_true rfl) (Nat.le_refl _) (Nat.le_refl _) (Nat.le_of_ble_eq_true rfl) dJ1_charAt_3b067_3 rfl) hS (fun H locs hM hS => ?_)
  refine lv_aload_n hx hb dJ1_charAt_3b067_6 rfl (lv_at hl 0 rfl) ?_
  refine lv_iload_n hx hb dJ1_charAt_3b067_7 rfl (lv_at hl 1 rfl) ?_
  refine va_tb hx hb ((gEn_S E).1 i hi).2.2.2 hS hk (v := .int (gFc i k.toNatClampNeg)) rfl dJ1_charAt_3b067_8 ?_
  refine lv_sipush (v := (255 : Int32)) hx hb dJ1_charAt_3b067_9 (by decide) ?_
  refine lv_iand hx hb dJ1_charAt_3b067_12 ?_
  refine lv_i2c hx hb dJ1_charAt_3b067_13 e1 ?_
  exact ge_z E hr e2 hlocks rfl hM hS (Nat.le_refl _) (Nat.le_refl _) dJ1_charAt_3b067_14
theorem c_J0_charAt_5068e (l : Launch) (X : gX) (i : Nat) (k : Int32) (m0 : gMem) {res : Int32 × gMem} (hf : f_J0_charAt_5068e i k m0 = some res) : Met l yJ0_charAt_5068e (gWs yJ0_charAt_5068e cJ0_charAt_5068e 2 (some .char)) { frames := 3, cells := 0, slots := 0, locals := 90 } (va_Pc [.ref (X.2.2.2.1 i), .int k] (gB X m0)) (gQi X res) 0 0 (gA X) := by
  refine gMet (own := RJ0) (by decide) rfl (Nat.le_of_ble_eq_true rfl) (fun p e s m args below meth c ls E hr hlocks hml hM hl => ?_)
  have hl : lv_has ls 2 [(0, .ref (X.2.2.2.1 i)), (1, .int k)] := hl
  obtain ⟨hx, hb⟩ := (⟨E.1, E.2.1⟩ : _ ∧ _)
  obtain ⟨⟨hi, hk⟩, hf⟩ := g_ck hf
  have hS : va_S (gA X) s.heap s.heap [] := va_S.rf
  have hk2 : k.toNatClampNeg < gFl.getD i 0 := Nat.not_le.mp fun z => hk (Or.inr z)
  obtain ⟨e1, e2⟩ := gFc_ok i hi _ hk2
  refine lv_aload_n hx hb dJ0_charAt_5068e_0 rfl (lv_at hl 0 rfl) ?_
  refine ga_i (gr_VS (As := []) (rm := { frames := 0, cells := 0, slots := 0, locals := 0 }) E hml hl.1 (c_J0_isLatin1_aae02 l X i hi m0) wt_J0_isLatin1_aae02 wl_RJ0_492 rfl hi hM hS rfl rfl (Nat.le_of_ble_eq_true rfl) (Nat.le_of_ble_eq_true rfl) (Nat.le_refl _) (Nat.le_refl _) (Nat.le_of_ble_eq_true rfl) dJ0_charAt_5068e_1 rfl) hS (fun H locs hM hS => ?_)
  refine lv_if_eq (tgt := 16) hx hb dJ0_charAt_5068e_4 (by decide) (fun h => absurd h (by decide)) (fun _ => ?_)
  refine lv_aload_n hx hb dJ0_charAt_5068e_7 rfl (lv_at hl 0 rfl) ?_
  refine vk_getf (ref := RJ0) hx hb ((gEn_S E).1 i hi).2.2.1 hS E.2.2.1 (gEn_t E wf_RJ0_9) (fun _ h => h) dJ0_charAt_5068e_8 ?_
  refine lv_iload_n hx hb dJ0_charAt_5068e_11 rfl (lv_at hl 1 rfl) ?_
  refine ga_i (gr_S (As := [.ref (X.2.2.2.2.1 i), .int k]) (rm := { frames := 2, cells := 0, slots := 0, locals := 60 }) E hml hl.1 (c_J1_charAt_3b067 l X i hi k hk m0) wt_J1_charAt_3b067 wl_RJ0_495 rfl hM hS rfl rfl (Nat.le_of_ble_eq_true rfl) (Nat.le_of_ble_eq_true rfl) (Nat.le_refl _) (Nat.le_refl _) (Nat.le_of_ble_eq_true rfl) dJ0_charAt_5068e_12 rfl) hS (fun H locs hM hS => ?_)
  exact ge_z E hr e2 hlocks hf hM hS (Nat.le_refl _) (Nat.le_refl _) dJ0_charAt_5068e_15
