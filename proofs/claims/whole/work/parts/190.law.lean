/-! THE LAW: its two own rows of answers beside the world; a world that holds both. -/
def gA2 (X : gX) : Nat → Prop := fun q => X.1 ≤ q
theorem gA_A2 (X : gX) : ∀ q, gA X q → gA2 X q := fun _ h => h.1
def gOl (X : gX) (z : Nat → Int64) (w : Nat → UInt64) : va_W := [(X.1 + 440, .inl (X.2.2.1 2, 1, .inr (.inl z))), (X.1 + 441, .inl (X.2.2.1 3, 1, .inr (.inr (.inr (.inl w)))))]
def gO (X : gX) (z : Nat → Int64) (w : Nat → UInt64) (H : Heap) : Prop := va_P X.2.1 gCl (gOl X z w) H
theorem gOl_inv {X : gX} {z : Nat → Int64} {w : Nat → UInt64} {k : Nat} {q : Nat × va_E} (h : (gOl X z w)[k]? = some q) : q.1 = X.1 + 440 + k ∧ k < 2 := by
  match k, h with
  | 0, h => exact ⟨by rw [← Option.some.inj h], by omega⟩
  | 1, h => exact ⟨by rw [← Option.some.inj h], by omega⟩
  | _ + 2, h => cases h
theorem gO_D {X : gX} {z : Nat → Int64} {w : Nat → UInt64} : va_D (gA2 X) (gOl X z w) := by
  refine ⟨fun i j p q hp hq h => ?_, fun k q hq => ?_⟩
  · have h1 := gOl_inv hp
    have h2 := gOl_inv hq
    omega
  · have h1 := gOl_inv hq
    show X.1 ≤ q.1
    omega
theorem gO_kept {X : gX} {z : Nat → Int64} {w : Nat → UInt64} {H H1 : Heap} (h : gO X z w H) (hk : ∀ q : Nat, q < H.size → ¬ gA X q → H1[q]? = H[q]?) : gO X z w H1 :=
  va_P.kept h (fun k q hq => hk q.1 (vx_lt h hq) (fun hA => by
    have h1 := gOl_inv hq
    have h2 : X.1 ≤ q.1 ∧ q.1 ≠ X.1 + 440 ∧ q.1 ≠ X.1 + 441 := hA
    omega))
/-- the rows of exceptions that are none of one another -/
def gNc : List (String × String) := [1, 2, 3, 4, 5, 6].flatMap (fun a => ([1, 2, 3, 4, 5, 6].filter (fun b => a ≠ b)).map (fun b => (gEx a, gEx b)))
/-- what stays true of the machine, seen from the law -/
def gG2 (X : gX) (s : State) : Prop := gG X s ∧ (∀ q ∈ gNc, va_Nc q.1 q.2 s) ∧ vx_Zq Bundle.tN "UNASSIGNED_STACK" Bundle.steD (gA2 X) s s.heap ∧ vx_Zq Bundle.tN "SUPPRESSED_SENTINEL" Bundle.listD (gA2 X) s s.heap ∧ vk_S 6 gFl gFb X.2.2.2.1 X.2.2.2.2 (gA2 X) s s.heap ∧ va_Z RJ0 "COMPACT_STRINGS" "Z" (.int 1) (gA2 X) s s.heap ∧ va_Zq RJ3 "SIOOBE_FORMATTER" "Ljava/util/function/BiFunction;" (gA2 X) s s.heap
theorem gG2_G {X : gX} {s U : State} (hW : s.WarmedH U.vm) (hk : ∀ a : Nat, a < s.heap.size → ¬ gA2 X a → U.heap[a]? = s.heap[a]?) (h : gG2 X s) : gG X U := by
  obtain ⟨⟨h1, h2, -, -, h5, -, h7, -, -⟩, -, h3, h4, h6, h8, h9⟩ := h
  exact ⟨va_K.moved hW.alike h1, fun w hw => gN_warm hw hW (h2 w hw), ((vx_Zq.moved hW.alike h3).kept hk).narrow (gA_A2 X), ((vx_Zq.moved hW.alike h4).kept hk).narrow (gA_A2 X), fun q hq => by
    obtain ⟨sa, h⟩ := h5 q hq
    exact ⟨sa, h.warm hW⟩, ((vk_S.moved hW.alike h6).kept hk).narrow (gA_A2 X), fun i q hq => (h7 i q hq).warm hW, ((va_Z.moved hW.alike h8).kept hk).narrow (gA_A2 X), ((va_Zq.moved hW.alike h9).kept hk).narrow (gA_A2 X)⟩
theorem gG2_warm {X : gX} {s U : State} (hW : s.WarmedH U.vm) (hk : ∀ a : Nat, a < s.heap.size → ¬ gA2 X a → U.heap[a]? = s.heap[a]?) (h : gG2 X s) : gG2 X U := by
  have hG := gG2_G hW hk h
  obtain ⟨-, hc, h3, h4, h6, h8, h9⟩ := h
  exact ⟨hG, fun q hq => va_Nc.moved hW.alike (hc q hq), (vx_Zq.moved hW.alike h3).kept hk, (vx_Zq.moved hW.alike h4).kept hk, (vk_S.moved hW.alike h6).kept hk, (va_Z.moved hW.alike h8).kept hk, (va_Zq.moved hW.alike h9).kept hk⟩
def gB2 (X : gX) (σ : gMem) (z : Nat → Int64) (w : Nat → UInt64) (U : State) : Prop := gG2 X U ∧ gM X σ U.heap ∧ gO X z w U.heap
theorem gB2_blind (X : gX) (σ : gMem) (z : Nat → Int64) (w : Nat → UInt64) (av : List Value) : FrameBlind (va_Pc av (gB2 X σ z w)) := fun a U g mk h => ⟨h.1, gG2_warm (U := U.calling g mk a) (State.WarmedH.refl U) (fun _ _ _ => rfl) h.2.1, h.2.2⟩
theorem gB2_in {X : gX} {σ : gMem} {s U : State} {H : Heap} {locs : List Loc} (hG : gG2 X s) (hM : gM X σ H) (hS : va_S (gA2 X) s.heap H locs) (hU : U.heap = H) (hW : s.WarmedH U.vm) : gB X σ U := ⟨gG2_G hW (fun a h1 h2 => by rw [hU]; exact hS.2.1 a h1 h2) hG, by rw [hU]; exact hM⟩
theorem gB2_at {X : gX} {σ : gMem} {z : Nat → Int64} {w : Nat → UInt64} {s U : State} {H : Heap} {locs : List Loc} (hG : gG2 X s) (hM : gM X σ H) (hO : gO X z w H) (hS : va_S (gA2 X) s.heap H locs) (hU : U.heap = H) (hW : s.WarmedH U.vm) : gB2 X σ z w U := ⟨gG2_warm hW (fun a h1 h2 => by rw [hU]; exact hS.2.1 a h1 h2) hG, by rw [hU]; exact hM, by rw [hU]; exact hO⟩
/-- what a frame of the law stands on -/
def gE2 (p : Program) (s : State) (m : MethodId) (args : Array Value) (c : Code) (cc : ByteArray) (X : gX) : Prop := gEn p s m args c cc RL X ∧ gG2 X s
abbrev gLR : Type := Int32 × (Nat → Int64) × (Nat → UInt64) × gMem
def gQW (X : gX) (q : gLR) : Array Value → State → Outcome → State → Prop := va_Qi (fun r u => r = q.1 ∧ u = q.2) (fun u t => gM X u.2.2 t.heap ∧ gO X u.1 u.2.1 t.heap) (gA2 X)
/-- the law's inner methods throw nothing -/
def gXN : String → State → State → Prop := vx_X (S := Unit) (fun _ => False) (fun _ _ _ => False) (fun _ => False)
abbrev gWsW (y : MethodName) (cc : ByteArray) (maxL : Nat) (ret : Option FieldType) (hh : List (Nat × Nat × Nat × Nat)) : List Cond := .codeWith y cc maxL ret hh :: gT
section GWO
variable {α β : Type}
def gw2 (o : Option (Nat × α × gMem)) (k : α → gMem → Option β) (kx : Nat → gMem → Option β) : Option β := match o with
  | none => none
  | some q => if q.1 = 0 then k q.2.1 q.2.2 else kx q.1 q.2.2
theorem gw2_o {o : Option (Nat × α × gMem)} {k : α → gMem → Option β} {kx : Nat → gMem → Option β} {r : β} (h : gw2 o k kx = some r) : ∃ (e1 : Nat) (x : α) (σ1 : gMem), o = some (e1, x, σ1) ∧ (e1 = 0 → k x σ1 = some r) ∧ (e1 ≠ 0 → kx e1 σ1 = some r) := by
  cases o with
  | none => cases h
  | some q =>
    refine ⟨q.1, q.2.1, q.2.2, rfl, fun h0 => ?_, fun h0 => ?_⟩
    · simp only [gw2, if_pos h0] at h
      exact h
    · simp only [gw2, if_neg h0] at h
      exact h
def gwl (o : Option gLR) (k : Int32 → (Nat → Int64) → (Nat → UInt64) → gMem → Option β) : Option β := match o with
  | none => none
  | some q => k q.1 q.2.1 q.2.2.1 q.2.2.2
theorem gwl_o {o : Option gLR} {k : Int32 → (Nat → Int64) → (Nat → UInt64) → gMem → Option β} {r : β} (h : gwl o k = some r) : ∃ (x : Int32) (z : Nat → Int64) (w : Nat → UInt64) (σ1 : gMem), o = some (x, z, w, σ1) ∧ k x z w σ1 = some r := by
  cases o with
  | none => cases h
  | some q => exact ⟨q.1, q.2.1, q.2.2.1, q.2.2.2, rfl, h⟩
end GWO
section GLAW
variable {p : Program} {l : Launch} {e : Env} {R : Room} {s : State} {m : MethodId} {args : Array Value} {below : List Frame} {meth : Method} {c : Code} {H : Heap} {locs : List Loc} {cells slots mc ms : Nat} {Q : State → Prop}
variable {cc : ByteArray} {pc : Nat} {ls : Array Slot} {rest : List Value} {X : gX} {σ σ1 : gMem} {z : Nat → Int64} {w : Nat → UInt64}
theorem lv_lcmp (hexec : p.tables.exec = Jvm.exec) (hb : c.code = cc) {x y : Int64} (hdg : decode cc pc = .ok (.lcmp, 1))
    (k : W p l e R s m args below meth c H locs cells slots Q (F0 m (pc + 1) ls (.int (if x > y then 1 else if x = y then 0 else -1) :: rest))) : W p l e R s m args below meth c H locs cells slots Q (F0 m pc ls (.long y :: .long x :: rest)) := by
  intro T hT Y
  obtain ⟨t, a, b⟩ := k T hT Y
  refine ⟨t, ?_, b⟩
  by_cases h1 : x > y
  · rw [if_pos h1] at a
    jvm_step Y.here [Y.here.top, hexec, hb, hdg, h1]
    exact a
  · rw [if_neg h1] at a
    by_cases h2 : x = y
    · rw [if_pos h2] at a
      subst h2
      jvm_step Y.here [Y.here.top, hexec, hb, hdg, h1]
      exact a
    · rw [if_neg h2] at a
      jvm_step Y.here [Y.here.top, hexec, hb, hdg, h1, h2]
      exact a
theorem gMetW {y : MethodName} {maxL : Nat} {rm : Room} {av : List Value} {Qc : Array Value → State → Outcome → State → Prop} {XC : String → State → State → Prop} {hh : List (Nat × Nat × Nat × Nat)} (hy : plainName y.cls = true) (hown : y.cls = RL) (hav : (lg_sl av).length ≤ maxL)
    (body : ∀ (p : Program) (e : Env) (s : State) (m : MethodId) (args : Array Value) (below : List Frame) (meth : Method) (c : Code) (ls : Array Slot), gE2 p s m args c cc X → meth.sig.returnType = some .int → meth.locks = false → c.maxLocals = maxL → c.exceptionTable.toList = tableOf hh → gM X σ s.heap → gO X z w s.heap → lv_has ls maxL (lv_args 0 av) → W p l e rm s m args below meth c s.heap [] 0 0 (vx_MQ below Qc XC args s mc ms (gA2 X)) (F0 m 0 ls [])) :
    vx_Met l y (gWsW y cc maxL (some .int) hh) rm (va_Pc av (gB2 X σ z w)) Qc XC mc ms (gA2 X) := by
  refine vx_ofWH (cc := cc) (maxL := maxL) (ret := some .int) (hh := hh) hy rfl ?_
  intro p e s m args below meth c s₁ B hml hv
  obtain ⟨rfl, hG, hM, hO⟩ := hv
  have hts := atoms_spec (ws := gWsW y cc maxL (some .int) hh) B.pre
  have ho : s.vm.findClass RL = some m.cls := hown ▸ findClass_of_methodNamed B.named
  have hl := lv_entry av (n := maxL) hav
  rw [lg_entry_eq]
  exact body p e s m _ below meth c _ ⟨⟨B.exec, B.bytes, ho, fun w hw => hts w (List.mem_cons_of_mem _ hw), hG.1⟩, hG⟩ B.returns B.notSynchronized hml (vx_table (x := y) B (hts _ List.mem_cons_self)) hM hO hl
theorem gq_ret {v : Int32} {q : gLR} {XC : String → State → State → Prop} (E : gE2 p s m args c cc X) (hr : meth.sig.returnType = some .int) (hlocks : meth.locks = false) (hf : some (v, z, w, σ) = some q) (hM : gM X σ H) (hO : gO X z w H) (hS : va_S (gA2 X) s.heap H locs) (hc : cells ≤ mc) (hs : slots ≤ ms) (hdg : decode cc pc = .ok (.ireturn, 1)) : W p l e R s m args below meth c H locs cells slots (vx_MQ below (gQW X q) XC args s mc ms (gA2 X)) (F0 m pc ls [.int v]) := by
  cases hf
  exact W.widen hc hs (vx_ret (W.iret E.1.1 E.1.2.1 hr (fun _ ht _ => ⟨⟨v, (z, w, σ), rfl, ⟨rfl, rfl⟩, by subst ht; exact ⟨hM, hO⟩⟩, hS.F ht⟩) hS.2.2 hdg hlocks))
/-- a call of the class or of the model out of the law -/
theorem gq_V {y : MethodName} {bytes : ByteArray} {maxL n nL index mc ms c0 ci : Nat} {ret : Option FieldType} {rm : Room} {As : List Value} {Qc : Array Value → State → Outcome → State → Prop} {q : vw_C} (E : gE2 p s m args c cc X) (hml : c.maxLocals = nL) (hsz : ls.size = nL) (hC : Met l y (gWs y bytes maxL ret) rm (va_Pc (.ref (X.1 + c0) :: As) (gB X σ)) Qc mc ms (gA X)) (hy : gMv y bytes maxL ret n) (hlk : Cond.methodLink RL index y ∈ gT) (hn : As.length = n) (hk : gk c0 = ci) (h10 : ci < 10) (hci : gCl[ci]? = some q) (hq : q.1 = y.cls) (hM : gM X σ H) (hS : va_S (gA2 X) s.heap H locs) (hrc : rm.cells = mc) (hrs : rm.slots = ms) (hRf : rm.frames + 1 ≤ R.frames) (hRl : 8 + (maxL + 11) + rm.locals ≤ R.locals) (hRc : cells + mc ≤ R.cells) (hRs : slots + ms ≤ R.slots) (hW : (rest.map fun v => v.category).sum ≤ 8) (hdg : decode cc pc = .ok (.invokevirtual index, 3)) {st0 : List Value} (hst : st0 = As.reverse ++ .ref (X.1 + c0) :: rest) :
    va_Run p l e R s m args below meth c H locs cells slots mc ms (F0 m pc ls st0) rest (Qc (Value.ref (X.1 + c0) :: As).toArray) (gA X) := by
  have hrv := gRecv E.1 hM (gk_in hk (by omega)) hk h10 hci
  rw [hq] at hrv
  exact va_runV ⟨E.1.1, E.1.2.1, hml, E.1.2.2.1, E.1.2.2.2.1⟩ hC (gcV E.1 hy hlk hrc hrs hRf hRl) ⟨gB_blind X σ _, hrv, fun U hU hW => ⟨rfl, gB2_in E.2 hM hS hU hW⟩⟩ rfl hn hsz hst (lv_room hW) hdg ⟨hRc, hRs⟩
theorem gq_VX {y : MethodName} {bytes : ByteArray} {maxL n nL index mc ms c0 ci : Nat} {ret : Option FieldType} {rm : Room} {As : List Value} {Qc : Array Value → State → Outcome → State → Prop} {XC : String → State → State → Prop} {q : vw_C} (E : gE2 p s m args c cc X) (hml : c.maxLocals = nL) (hsz : ls.size = nL) (hC : vx_Met l y (gWs y bytes maxL ret) rm (va_Pc (.ref (X.1 + c0) :: As) (gB X σ)) Qc XC mc ms (gA X)) (hy : gMv y bytes maxL ret n) (hlk : Cond.methodLink RL index y ∈ gT) (hn : As.length = n) (hk : gk c0 = ci) (h10 : ci < 10) (hci : gCl[ci]? = some q) (hq : q.1 = y.cls) (hM : gM X σ H) (hS : va_S (gA2 X) s.heap H locs) (hrc : rm.cells = mc) (hrs : rm.slots = ms) (hRf : rm.frames + 1 ≤ R.frames) (hRl : 8 + (maxL + 11) + rm.locals ≤ R.locals) (hRc : cells + mc ≤ R.cells) (hRs : slots + ms ≤ R.slots) (hW : (rest.map fun v => v.category).sum ≤ 8) (hdg : decode cc pc = .ok (.invokevirtual index, 3)) {st0 : List Value} (hst : st0 = As.reverse ++ .ref (X.1 + c0) :: rest) :
    vx_Run p l e R s m args below meth c H locs cells slots mc ms (F0 m pc ls st0) rest (Qc (Value.ref (X.1 + c0) :: As).toArray) XC (gA X) := by
  have hrv := gRecv E.1 hM (gk_in hk (by omega)) hk h10 hci
  rw [hq] at hrv
  exact vx_runV ⟨E.1.1, E.1.2.1, hml, E.1.2.2.1, E.1.2.2.2.1⟩ hC (gcV E.1 hy hlk hrc hrs hRf hRl) ⟨gB_blind X σ _, hrv, fun U hU hW => ⟨rfl, gB2_in E.2 hM hS hU hW⟩⟩ rfl hn hsz hst (lv_room hW) hdg ⟨hRc, hRs⟩
theorem gb_i {r1 : Int32} {a : Array Value} {st0 : List Value} (hr : va_Run p l e R s m args below meth c H locs cells slots mc ms (F0 m pc ls st0) rest (gQi X (r1, σ1) a) (gA X)) (hO : gO X z w H) (hS : va_S (gA2 X) s.heap H locs) (kk : ∀ (H : Heap) (locs : List Loc), gM X σ1 H → gO X z w H → va_S (gA2 X) s.heap H locs → W p l e R s m args below meth c H locs (cells + mc) (slots + ms) Q (F0 m (pc + 3) ls (.int r1 :: rest))) : W p l e R s m args below meth c H locs cells slots Q (F0 m pc ls st0) :=
  va_calli hr hS (fun q _ h => gA_A2 X q h) (gA_A2 X) (fun r u t H1 locs1 ht _ hw hB _ hk hS1 => by
    obtain ⟨rfl, rfl⟩ := hw
    exact kk H1 locs1 (by rw [gBm, ht] at hB; exact hB) (gO_kept hO hk) hS1)
theorem gb_d {r1 : UInt64} {a : Array Value} {st0 : List Value} (hr : va_Run p l e R s m args below meth c H locs cells slots mc ms (F0 m pc ls st0) rest (gQd X (r1, σ1) a) (gA X)) (hO : gO X z w H) (hS : va_S (gA2 X) s.heap H locs) (kk : ∀ (H : Heap) (locs : List Loc), gM X σ1 H → gO X z w H → va_S (gA2 X) s.heap H locs → W p l e R s m args below meth c H locs (cells + mc) (slots + ms) Q (F0 m (pc + 3) ls (.double r1 :: rest))) : W p l e R s m args below meth c H locs cells slots Q (F0 m pc ls st0) :=
  va_calld hr hS (fun q _ h => gA_A2 X q h) (gA_A2 X) (fun r u t H1 locs1 ht _ hw hB _ hk hS1 => by
    obtain ⟨rfl, rfl⟩ := hw
    exact kk H1 locs1 (by rw [gBm, ht] at hB; exact hB) (gO_kept hO hk) hS1)
theorem gb_f {r1 : UInt32} {a : Array Value} {st0 : List Value} (hr : va_Run p l e R s m args below meth c H locs cells slots mc ms (F0 m pc ls st0) rest (gQf X (r1, σ1) a) (gA X)) (hO : gO X z w H) (hS : va_S (gA2 X) s.heap H locs) (kk : ∀ (H : Heap) (locs : List Loc), gM X σ1 H → gO X z w H → va_S (gA2 X) s.heap H locs → W p l e R s m args below meth c H locs (cells + mc) (slots + ms) Q (F0 m (pc + 3) ls (.float r1 :: rest))) : W p l e R s m args below meth c H locs cells slots Q (F0 m pc ls st0) :=
  va_callf hr hS (fun q _ h => gA_A2 X q h) (gA_A2 X) (fun r u t H1 locs1 ht _ hw hB _ hk hS1 => by
    obtain ⟨rfl, rfl⟩ := hw
    exact kk H1 locs1 (by rw [gBm, ht] at hB; exact hB) (gO_kept hO hk) hS1)
def gKx (p : Program) (l : Launch) (e : Env) (R : Room) (s : State) (m : MethodId) (args : Array Value) (below : List Frame) (meth : Method) (c : Code) (cells slots : Nat) (Q : State → Prop) (pc : Nat) (ls : Array Slot) (rest : List Value) (X : gX) (e1 : Nat) (σ1 : gMem) (z : Nat → Int64) (w : Nat → UInt64) : Prop := ∀ (H : Heap) (locs : List Loc) (ce : Cell) (q9 : Addr), gM X σ1 H → gO X z w H → va_S (gA2 X) s.heap H locs → H[q9]? = some ce → ce.vm = .none → s.vm.findClass (gEx e1) = some ce.cls → vx_W p l e R s m args below meth c H locs cells slots Q (F0 m pc ls rest) q9
theorem gb_Ti {e1 : Nat} {r1 : Int32} {a : Array Value} {st0 : List Value} (hr : vx_Run p l e R s m args below meth c H locs cells slots mc ms (F0 m pc ls st0) rest (gQTi X (e1, r1, σ1) a) (gXC X e1 σ1) (gA X)) (hO : gO X z w H) (hS : va_S (gA2 X) s.heap H locs)
    (kx : e1 ≠ 0 → gKx p l e R s m args below meth c (cells + mc) (slots + ms) Q pc ls rest X e1 σ1 z w)
    (kk : e1 = 0 → ∀ (H : Heap) (locs : List Loc), gM X σ1 H → gO X z w H → va_S (gA2 X) s.heap H locs → W p l e R s m args below meth c H locs (cells + mc) (slots + ms) Q (F0 m (pc + 3) ls (.int r1 :: rest))) : W p l e R s m args below meth c H locs cells slots Q (F0 m pc ls st0) :=
  vx_calli hr hS (fun q _ h => gA_A2 X q h) (gA_A2 X) (fun q _ h => gA_A2 X q h)
    (fun E9 ce q9 u t H1 locs1 ht _ hp hB _ hk hS1 hce hcv hcl => by
      obtain ⟨h0, rfl⟩ := hp
      obtain ⟨rfl, hB⟩ := hB
      exact kx h0 H1 locs1 ce q9 (by rw [ht] at hB; exact hB) (gO_kept hO hk) hS1 hce hcv hcl)
    (fun r u t H1 locs1 ht _ hw hB _ hk hS1 => by
      obtain ⟨h0, rfl, rfl⟩ := hw
      exact kk h0 H1 locs1 (by rw [gBm, ht] at hB; exact hB) (gO_kept hO hk) hS1)
theorem gb_Td {e1 : Nat} {r1 : UInt64} {a : Array Value} {st0 : List Value} (hr : vx_Run p l e R s m args below meth c H locs cells slots mc ms (F0 m pc ls st0) rest (gQTd X (e1, r1, σ1) a) (gXC X e1 σ1) (gA X)) (hO : gO X z w H) (hS : va_S (gA2 X) s.heap H locs)
    (kx : e1 ≠ 0 → gKx p l e R s m args below meth c (cells + mc) (slots + ms) Q pc ls rest X e1 σ1 z w)
    (kk : e1 = 0 → ∀ (H : Heap) (locs : List Loc), gM X σ1 H → gO X z w H → va_S (gA2 X) s.heap H locs → W p l e R s m args below meth c H locs (cells + mc) (slots + ms) Q (F0 m (pc + 3) ls (.double r1 :: rest))) : W p l e R s m args below meth c H locs cells slots Q (F0 m pc ls st0) :=
  vx_calld hr hS (fun q _ h => gA_A2 X q h) (gA_A2 X) (fun q _ h => gA_A2 X q h)
    (fun E9 ce q9 u t H1 locs1 ht _ hp hB _ hk hS1 hce hcv hcl => by
      obtain ⟨h0, rfl⟩ := hp
      obtain ⟨rfl, hB⟩ := hB
      exact kx h0 H1 locs1 ce q9 (by rw [ht] at hB; exact hB) (gO_kept hO hk) hS1 hce hcv hcl)
    (fun r u t H1 locs1 ht _ hw hB _ hk hS1 => by
      obtain ⟨h0, rfl, rfl⟩ := hw
      exact kk h0 H1 locs1 (by rw [gBm, ht] at hB; exact hB) (gO_kept hO hk) hS1)
theorem gb_Tf {e1 : Nat} {r1 : UInt32} {a : Array Value} {st0 : List Value} (hr : vx_Run p l e R s m args below meth c H locs cells slots mc ms (F0 m pc ls st0) rest (gQTf X (e1, r1, σ1) a) (gXC X e1 σ1) (gA X)) (hO : gO X z w H) (hS : va_S (gA2 X) s.heap H locs)
    (kx : e1 ≠ 0 → gKx p l e R s m args below meth c (cells + mc) (slots + ms) Q pc ls rest X e1 σ1 z w)
    (kk : e1 = 0 → ∀ (H : Heap) (locs : List Loc), gM X σ1 H → gO X z w H → va_S (gA2 X) s.heap H locs → W p l e R s m args below meth c H locs (cells + mc) (slots + ms) Q (F0 m (pc + 3) ls (.float r1 :: rest))) : W p l e R s m args below meth c H locs cells slots Q (F0 m pc ls st0) :=
  vx_callf hr hS (fun q _ h => gA_A2 X q h) (gA_A2 X) (fun q _ h => gA_A2 X q h)
    (fun E9 ce q9 u t H1 locs1 ht _ hp hB _ hk hS1 hce hcv hcl => by
      obtain ⟨h0, rfl⟩ := hp
      obtain ⟨rfl, hB⟩ := hB
      exact kx h0 H1 locs1 ce q9 (by rw [ht] at hB; exact hB) (gO_kept hO hk) hS1 hce hcv hcl)
    (fun r u t H1 locs1 ht _ hw hB _ hk hS1 => by
      obtain ⟨h0, rfl, rfl⟩ := hw
      exact kk h0 H1 locs1 (by rw [gBm, ht] at hB; exact hB) (gO_kept hO hk) hS1)
/-- the answers' rows -/
theorem gMO_mk (hM : gM X σ H) (hO : gO X z w H) : va_P X.2.1 gCl (gWl X 440 gAll σ ++ gOl X z w) H := by
  intro k q hq
  rcases Nat.lt_or_ge k 440 with h | h
  · rw [List.getElem?_append_left (by rw [gWl_len]; exact h)] at hq
    exact hM k q hq
  · rw [List.getElem?_append_right (by rw [gWl_len]; exact h), gWl_len] at hq
    exact hO (k - 440) q hq
theorem gMO_D : va_D (gA2 X) (gWl X 440 gAll σ ++ gOl X z w) := by
  have key : ∀ (k : Nat) (q : Nat × va_E), (gWl X 440 gAll σ ++ gOl X z w)[k]? = some q → q.1 = X.1 + k := by
    intro k q hq
    rcases Nat.lt_or_ge k 440 with h | h
    · rw [List.getElem?_append_left (by rw [gWl_len]; exact h)] at hq
      rw [(gWl_inv hq).2]
    · rw [List.getElem?_append_right (by rw [gWl_len]; exact h), gWl_len] at hq
      have h1 := gOl_inv hq
      omega
  refine ⟨fun i j p q hp hq h => ?_, fun k q hq => ?_⟩
  · have h1 := key i p hp
    have h2 := key j q hq
    omega
  · have h1 := key k q hq
    show X.1 ≤ q.1
    omega
theorem gMO_un {z1 : Nat → Int64} {w1 : Nat → UInt64} (h : va_P X.2.1 gCl (gWl X 440 gAll σ ++ gOl X z1 w1) H) : gM X σ H ∧ gO X z1 w1 H := by
  refine ⟨fun k q hq => h k q ?_, fun k q hq => h (440 + k) q ?_⟩
  · rw [List.getElem?_append_left (List.getElem?_eq_some_iff.mp hq).1]
    exact hq
  · rw [List.getElem?_append_right (by rw [gWl_len]; omega), gWl_len, show 440 + k - 440 = k by omega]
    exact hq
theorem gMO_at {k : Nat} : (gWl X 440 gAll σ ++ gOl X z w)[440 + k]? = (gOl X z w)[k]? := by
  rw [List.getElem?_append_right (by rw [gWl_len]; omega), gWl_len, show 440 + k - 440 = k by omega]
theorem gMO_set {k : Nat} {q : Nat × va_E} : (gWl X 440 gAll σ ++ gOl X z w).set (440 + k) q = gWl X 440 gAll σ ++ (gOl X z w).set k q := by
  rw [List.set_append_right _ _ (by rw [gWl_len]; omega), gWl_len, show 440 + k - 440 = k by omega]
theorem gl_lst {x : Int64} (E : gE2 p s m args c cc X) (hM : gM X σ H) (hO : gO X z w H) (hS : va_S (gA2 X) s.heap H locs) (hdg : decode cc pc = .ok (.lastore, 1))
    (kk : ∀ (H : Heap) (locs : List Loc), gM X σ H → gO X (vp_updL z 0 x) w H → va_S (gA2 X) s.heap H locs → W p l e R s m args below meth c H locs cells slots Q (F0 m (pc + 1) ls rest)) : W p l e R s m args below meth c H locs cells slots Q (F0 m pc ls (.long x :: .int 0 :: .ref (X.1 + 440) :: rest)) :=
  va_last E.1.1 E.1.2.1 (gEn_K E.1) (gMO_mk hM hO) gMO_D hS (440 + 0) 2 (n := 1) (f := z) (by rw [gMO_at]; rfl) rfl (i := 0) (by unfold vp_in; decide) hdg (fun H1 locs1 h1 _ h3 => by
    rw [gMO_set] at h1
    obtain ⟨a1, a2⟩ := gMO_un (z1 := vp_updL z 0 x) (w1 := w) h1
    exact kk H1 locs1 a1 a2 h3)
theorem gl_dst {x : UInt64} (E : gE2 p s m args c cc X) (hM : gM X σ H) (hO : gO X z w H) (hS : va_S (gA2 X) s.heap H locs) (hdg : decode cc pc = .ok (.dastore, 1))
    (kk : ∀ (H : Heap) (locs : List Loc), gM X σ H → gO X z (vf_upd w 0 x) H → va_S (gA2 X) s.heap H locs → W p l e R s m args below meth c H locs cells slots Q (F0 m (pc + 1) ls rest)) : W p l e R s m args below meth c H locs cells slots Q (F0 m pc ls (.double x :: .int 0 :: .ref (X.1 + 441) :: rest)) :=
  va_dast E.1.1 E.1.2.1 (gEn_K E.1) (gMO_mk hM hO) gMO_D hS (440 + 1) 3 (n := 1) (f := w) (by rw [gMO_at]; rfl) rfl (i := 0) (by unfold vp_in; decide) hdg (fun H1 locs1 h1 _ h3 => by
    rw [gMO_set] at h1
    obtain ⟨a1, a2⟩ := gMO_un (z1 := z) (w1 := vf_upd w 0 x) h1
    exact kk H1 locs1 a1 a2 h3)
theorem gl_lld (E : gE2 p s m args c cc X) (hO : gO X z w H) (hdg : decode cc pc = .ok (.laload, 1)) (kk : W p l e R s m args below meth c H locs cells slots Q (F0 m (pc + 1) ls (.long (z 0) :: rest))) : W p l e R s m args below meth c H locs cells slots Q (F0 m pc ls (.int 0 :: .ref (X.1 + 440) :: rest)) :=
  va_lald E.1.1 E.1.2.1 (gEn_K E.1) hO 0 2 (n := 1) (f := z) rfl rfl (i := 0) (by unfold vp_in; decide) hdg kk
theorem gl_dld (E : gE2 p s m args c cc X) (hO : gO X z w H) (hdg : decode cc pc = .ok (.daload, 1)) (kk : W p l e R s m args below meth c H locs cells slots Q (F0 m (pc + 1) ls (.double (w 0) :: rest))) : W p l e R s m args below meth c H locs cells slots Q (F0 m pc ls (.int 0 :: .ref (X.1 + 441) :: rest)) :=
  va_dald E.1.1 E.1.2.1 (gEn_K E.1) hO 1 3 (n := 1) (f := w) rfl rfl (i := 0) (by unfold vp_in; decide) hdg kk
/-- a catch of the law's inner methods: the rows ahead name other ones -/
theorem gl_catch {e1 : Nat} {ce : Cell} {q9 : Addr} (E : gE2 p s m args c cc X) (pre : List (ExceptionTableEntry × String × Nat)) (x : ExceptionTableEntry) (suf : List ExceptionTableEntry) (hsplit : c.exceptionTable.toList = pre.map (fun a => a.1) ++ x :: suf) (hpass : ∀ a ∈ pre, a.1.catchType ≠ 0 ∧ Cond.classLink RL a.1.catchType a.2.1 ∈ gT ∧ (gEx e1, a.2.1) ∈ gNc) (hx : covers x pc = true) (h0 : x.catchType ≠ 0) (hlink : Cond.classLink RL x.catchType (gEx e1) ∈ gT) (hcast : Cond.castable (gEx e1) (gEx e1) ∈ gN) (hcell : H[q9]? = some ce) (hv : ce.vm = .none) (hcl : s.vm.findClass (gEx e1) = some ce.cls)
    (kk : W p l e R s m args below meth c H locs cells slots Q (F0 m x.handlerPc ls [.ref q9])) : vx_W p l e R s m args below meth c H locs cells slots Q (F0 m pc ls rest) q9 :=
  vx_catch E.1.2.2.1 (pre.map (fun a => a.1)) x suf hsplit (fun z hz => by
    obtain ⟨a, ha, rfl⟩ := List.mem_map.mp hz
    obtain ⟨h1, h2, h3⟩ := hpass a ha
    exact Or.inr ⟨h1, a.2.1, gEn_t E.1 h2, E.2.2.1 _ h3⟩) hx h0 (gEn_t E.1 hlink) (gEn_n E.1 hcast) hcell hv hcl kk
/-- a call of an inner method out of the law -/
theorem gq_W {y : MethodName} {bytes : ByteArray} {maxL n nL index mc1 ms1 : Nat} {rm : Room} {As : List Value} {res : gLR} {hh : List (Nat × Nat × Nat × Nat)} {st0 : List Value} (E : gE2 p s m args c cc X) (hml : c.maxLocals = nL) (hsz : ls.size = nL) (hC : vx_Met l y (gWsW y bytes maxL (some .int) hh) rm (va_Pc As (gB2 X σ z w)) (gQW X res) gXN mc1 ms1 (gA2 X)) (hst : Cond.static y ∈ gT) (hini : Cond.initialized y.cls ∈ gT) (hcw : Cond.codeWith y bytes maxL (some .int) hh ∈ gT) (hd : y.cls ≠ "java/lang/invoke/MethodHandle" ∧ y.cls ≠ "java/lang/invoke/VarHandle" ∧ (parseMethodDescriptor y.desc).map (fun d => d.parameters.length) = some n) (hlk : Cond.methodLink RL index y ∈ gT) (hn : As.length = n) (hM : gM X σ H) (hO : gO X z w H) (hS : va_S (gA2 X) s.heap H locs) (hrc : rm.cells = mc1) (hrs : rm.slots = ms1) (hRf : rm.frames + 1 ≤ R.frames) (hRl : 8 + (maxL + 11) + rm.locals ≤ R.locals) (hRc : cells + mc1 ≤ R.cells) (hRs : slots + ms1 ≤ R.slots) (hW : (rest.map fun v => v.category).sum ≤ 8) (hdg : decode cc pc = .ok (.invokestatic index, 3)) (hst0 : st0 = As.reverse ++ rest)
    (kk : ∀ (H : Heap) (locs : List Loc), gM X res.2.2.2 H → gO X res.2.1 res.2.2.1 H → va_S (gA2 X) s.heap H locs → W p l e R s m args below meth c H locs (cells + mc1) (slots + ms1) Q (F0 m (pc + 3) ls (.int res.1 :: rest))) : W p l e R s m args below meth c H locs cells slots Q (F0 m pc ls st0) := by
  have hG : GoodIn gT (va_wsS RL index y (gWsW y bytes maxL (some .int) hh)) := fun v hv => by
    have hm : v ∈ gT := by
      simp only [va_wsS, List.cons_append, List.nil_append, List.mem_cons] at hv
      rcases hv with rfl | rfl | rfl | rfl | h
      · exact hlk
      · exact hst
      · exact hini
      · exact hcw
      · exact h
    exact ⟨hm, good_of_word (gT_good hm)⟩
  have cw := vx_cwSW (R := R) (hh := hh) (bytes := bytes) (maxL := maxL) (ret := some .int) (mc := mc1) (ms := ms1) (rm := rm) n E.1.2.2.2.1 hG rfl hrc hrs hd ⟨hRf, hRl⟩
  refine vx_calli (px := fun _ : Unit => False) (BX := fun _ _ _ => False) (AX := fun _ => False) (mc := mc1) (ms := ms1) (vx_runSX ⟨E.1.1, E.1.2.1, hml, E.1.2.2.1, E.1.2.2.2.1⟩ hC cw ⟨gB2_blind X σ z w _, fun U hU hW => ⟨rfl, gB2_at E.2 hM hO hS hU hW⟩⟩ rfl hn hsz hst0 (lv_room hW) hdg ⟨hRc, hRs⟩) hS (fun _ _ h => h) (fun _ h => h) (fun _ _ h => absurd h id) (fun _ _ _ _ _ _ _ _ _ hp => absurd hp id) (fun r u t H1 locs1 ht _ hw hB _ _ hS1 => ?_)
  obtain ⟨rfl, rfl⟩ := hw
  obtain ⟨hB1, hB2⟩ := hB
  rw [ht] at hB1 hB2
  exact kk H1 locs1 hB1 hB2 hS1
end GLAW
