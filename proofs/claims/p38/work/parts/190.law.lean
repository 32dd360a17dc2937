/-! THE LAW'S FRAMES: their own places are all new; a callee's object may lie beside another -/
section GWO
variable {α β : Type}
def gx0 (o : Option (Nat × α × gMem)) (k : α → gMem → Option β) : Option β := match o with
  | none => none
  | some q => if q.1 = 0 then k q.2.1 q.2.2 else none
theorem gx0_o {o : Option (Nat × α × gMem)} {k : α → gMem → Option β} {r : β} (h : gx0 o k = some r) : ∃ (x : α) (σ1 : gMem), o = some (0, x, σ1) ∧ k x σ1 = some r := by
  cases o with
  | none => cases h
  | some q =>
    obtain ⟨e, x, σ1⟩ := q
    by_cases h0 : e = 0
    · subst h0
      exact ⟨x, σ1, rfl, h⟩
    · have h2 : (if e = 0 then k x σ1 else none) = some r := h
      rw [if_neg h0] at h2
      cases h2
end GWO
def gQTv (X : gX) (q : Nat × Unit × gMem) : Array Value → State → Outcome → State → Prop := va_Qv (fun u => q.1 = 0 ∧ u = q.2.2) (gBm X) (gA X)
/-- a method that throws nothing, though it has rows that catch -/
def gXN : String → State → State → Prop := vx_X (S := Unit) (fun _ => False) (fun _ _ _ => False) (fun _ => False)
abbrev gWsW (y : MethodName) (cc : ByteArray) (maxL : Nat) (ret : Option FieldType) (hh : List (Nat × Nat × Nat × Nat)) : List Cond := .codeWith y cc maxL ret hh :: gT
/-- the script's number, 0 behind its end -/
def atv (xs : Nat → Int32) (L : Nat) (k : Int32) : Int32 := if Int32.ofNat L ≤ k then 0 else xs k.toNatClampNeg
def gBs (b L : Nat) (xs : Nat → Int32) (U : State) : Prop := va_X b L xs U U.heap ∧ b < U.heap.size
theorem gBs_blind (b L : Nat) (xs : Nat → Int32) (av : List Value) : FrameBlind (va_Pc av (gBs b L xs)) := fun a U g mk h => ⟨h.1, va_X.moved (u := U) (U := U.calling g mk a) (Vm.Alike.refl U.vm) h.2.1, h.2.2⟩
/-- a static method of the law with rows that catch -/
def gMsW (y : MethodName) (bytes : ByteArray) (maxL : Nat) (ret : Option FieldType) (hh : List (Nat × Nat × Nat × Nat)) (n : Nat) : Prop := Cond.static y ∈ gT ∧ Cond.initialized y.cls ∈ gT ∧ Cond.codeWith y bytes maxL ret hh ∈ gT ∧ y.cls ≠ "java/lang/invoke/MethodHandle" ∧ y.cls ≠ "java/lang/invoke/VarHandle" ∧ (parseMethodDescriptor y.desc).map (fun d => d.parameters.length) = some n
section GLAW
variable {p : Program} {l : Launch} {e : Env} {R : Room} {s : State} {m : MethodId} {args : Array Value} {below : List Frame} {meth : Method} {c : Code} {H : Heap} {locs : List Loc} {cells slots mc ms : Nat} {Q : State → Prop}
variable {cc : ByteArray} {pc : Nat} {ls : Array Slot} {rest : List Value} {X X0 Y : gX} {σ σ1 : gMem} {own : String}
theorem ge_Tv {q : Nat × Unit × gMem} {XC : String → State → State → Prop} (E : gEn p s m args c cc own X) (hr : meth.sig.returnType = none) (hlocks : meth.locks = false) (hf : some (0, (), σ) = some q) (hM : gM X σ H) (hS : va_S (gA X) s.heap H locs) (hc : cells ≤ mc) (hs : slots ≤ ms) (hdg : decode cc pc = .ok (.return_, 1)) : W p l e R s m args below meth c H locs cells slots (vx_MQ below (gQTv X q) XC args s mc ms (gA X)) (F0 m pc ls []) := by
  cases hf
  exact W.widen hc hs (vx_ret (W.vret E.1 E.2.1 hr (fun _ ht _ => ⟨⟨σ, rfl, ⟨rfl, rfl⟩, by rw [gBm, ht]; exact hM⟩, hS.F ht⟩) hS.2.2 hdg hlocks))
theorem gr_SX {y : MethodName} {bytes : ByteArray} {maxL n nL index mc ms : Nat} {ret : Option FieldType} {rm : Room} {As : List Value} {Qc : Array Value → State → Outcome → State → Prop} {XC : String → State → State → Prop} (E : gEn p s m args c cc own X) (hml : c.maxLocals = nL) (hsz : ls.size = nL) (hC : vx_Met l y (gWs y bytes maxL ret) rm (va_Pc As (gB X σ)) Qc XC mc ms (gA X)) (hy : gMs y bytes maxL ret n) (hlk : Cond.methodLink own index y ∈ gT) (hn : As.length = n) (hM : gM X σ H) (hS : va_S (gA X) s.heap H locs) (hrc : rm.cells = mc) (hrs : rm.slots = ms) (hRf : rm.frames + 1 ≤ R.frames) (hRl : 8 + (maxL + 11) + rm.locals ≤ R.locals) (hRc : cells + mc ≤ R.cells) (hRs : slots + ms ≤ R.slots) (hW : (rest.map fun v => v.category).sum ≤ 8) (hdg : decode cc pc = .ok (.invokestatic index, 3)) {st0 : List Value} (hst : st0 = As.reverse ++ rest) :
    vx_Run p l e R s m args below meth c H locs cells slots mc ms (F0 m pc ls st0) rest (Qc As.toArray) XC (gA X) :=
  vx_runS ⟨E.1, E.2.1, hml, E.2.2.1, E.2.2.2.1⟩ hC (gcS E hy hlk hrc hrs hRf hRl) ⟨gB_blind X σ _, fun U hU hW => ⟨rfl, gB_at E.2.2.2.2 hM hS hU hW⟩⟩ rfl hn hsz hst (lv_room hW) hdg ⟨hRc, hRs⟩
/-- calls whose frame knows that its own places A0 are all new -/
theorem gb0 {A0 : Nat → Prop} {U : State} (hG : gG X s) (hA : ∀ a : Nat, a < s.heap.size → ¬ A0 a) (hM : gM X σ H) (hS : va_S A0 s.heap H locs) (hU : U.heap = H) (hW : s.WarmedH U.vm) : gB X σ U := ⟨gG_warm hW (fun a h1 _ => by rw [hU]; exact hS.2.1 a h1 (hA a h1)) hG, by rw [hU]; exact hM⟩
variable {A0 : Nat → Prop}
theorem gq_V {y : MethodName} {bytes : ByteArray} {maxL n nL index mc ms c0 ci : Nat} {ret : Option FieldType} {rm : Room} {As : List Value} {Qc : Array Value → State → Outcome → State → Prop} {q : vw_C} (E : gEn p s m args c cc own X) (hA : ∀ a : Nat, a < s.heap.size → ¬ A0 a) (hml : c.maxLocals = nL) (hsz : ls.size = nL) (hC : Met l y (gWs y bytes maxL ret) rm (va_Pc (.ref (X.1 + c0) :: As) (gB X σ)) Qc mc ms (gA X)) (hy : gMv y bytes maxL ret n) (hlk : Cond.methodLink own index y ∈ gT) (hn : As.length = n) (hk : gk c0 = ci) (h10 : ci < 10) (hci : gCl[ci]? = some q) (hq : q.1 = y.cls) (hM : gM X σ H) (hS : va_S A0 s.heap H locs) (hrc : rm.cells = mc) (hrs : rm.slots = ms) (hRf : rm.frames + 1 ≤ R.frames) (hRl : 8 + (maxL + 11) + rm.locals ≤ R.locals) (hRc : cells + mc ≤ R.cells) (hRs : slots + ms ≤ R.slots) (hW : (rest.map fun v => v.category).sum ≤ 8) (hdg : decode cc pc = .ok (.invokevirtual index, 3)) {st0 : List Value} (hst : st0 = As.reverse ++ .ref (X.1 + c0) :: rest) :
    va_Run p l e R s m args below meth c H locs cells slots mc ms (F0 m pc ls st0) rest (Qc (Value.ref (X.1 + c0) :: As).toArray) (gA X) := by
  have hrv := gRecv E hM (gk_in hk (by omega)) hk h10 hci
  rw [hq] at hrv
  exact va_runV ⟨E.1, E.2.1, hml, E.2.2.1, E.2.2.2.1⟩ hC (gcV E hy hlk hrc hrs hRf hRl) ⟨gB_blind X σ _, hrv, fun U hU hW => ⟨rfl, gb0 E.2.2.2.2 hA hM hS hU hW⟩⟩ rfl hn hsz hst (lv_room hW) hdg ⟨hRc, hRs⟩
theorem gq_VX {y : MethodName} {bytes : ByteArray} {maxL n nL index mc ms c0 ci : Nat} {ret : Option FieldType} {rm : Room} {As : List Value} {Qc : Array Value → State → Outcome → State → Prop} {XC : String → State → State → Prop} {q : vw_C} (E : gEn p s m args c cc own X) (hA : ∀ a : Nat, a < s.heap.size → ¬ A0 a) (hml : c.maxLocals = nL) (hsz : ls.size = nL) (hC : vx_Met l y (gWs y bytes maxL ret) rm (va_Pc (.ref (X.1 + c0) :: As) (gB X σ)) Qc XC mc ms (gA X)) (hy : gMv y bytes maxL ret n) (hlk : Cond.methodLink own index y ∈ gT) (hn : As.length = n) (hk : gk c0 = ci) (h10 : ci < 10) (hci : gCl[ci]? = some q) (hq : q.1 = y.cls) (hM : gM X σ H) (hS : va_S A0 s.heap H locs) (hrc : rm.cells = mc) (hrs : rm.slots = ms) (hRf : rm.frames + 1 ≤ R.frames) (hRl : 8 + (maxL + 11) + rm.locals ≤ R.locals) (hRc : cells + mc ≤ R.cells) (hRs : slots + ms ≤ R.slots) (hW : (rest.map fun v => v.category).sum ≤ 8) (hdg : decode cc pc = .ok (.invokevirtual index, 3)) {st0 : List Value} (hst : st0 = As.reverse ++ .ref (X.1 + c0) :: rest) :
    vx_Run p l e R s m args below meth c H locs cells slots mc ms (F0 m pc ls st0) rest (Qc (Value.ref (X.1 + c0) :: As).toArray) XC (gA X) := by
  have hrv := gRecv E hM (gk_in hk (by omega)) hk h10 hci
  rw [hq] at hrv
  exact vx_runV ⟨E.1, E.2.1, hml, E.2.2.1, E.2.2.2.1⟩ hC (gcV E hy hlk hrc hrs hRf hRl) ⟨gB_blind X σ _, hrv, fun U hU hW => ⟨rfl, gb0 E.2.2.2.2 hA hM hS hU hW⟩⟩ rfl hn hsz hst (lv_room hW) hdg ⟨hRc, hRs⟩
theorem gq_SX {y : MethodName} {bytes : ByteArray} {maxL n nL index mc ms : Nat} {ret : Option FieldType} {rm : Room} {As : List Value} {Qc : Array Value → State → Outcome → State → Prop} {XC : String → State → State → Prop} (E : gEn p s m args c cc own X) (hA : ∀ a : Nat, a < s.heap.size → ¬ A0 a) (hml : c.maxLocals = nL) (hsz : ls.size = nL) (hC : vx_Met l y (gWs y bytes maxL ret) rm (va_Pc As (gB X σ)) Qc XC mc ms (gA X)) (hy : gMs y bytes maxL ret n) (hlk : Cond.methodLink own index y ∈ gT) (hn : As.length = n) (hM : gM X σ H) (hS : va_S A0 s.heap H locs) (hrc : rm.cells = mc) (hrs : rm.slots = ms) (hRf : rm.frames + 1 ≤ R.frames) (hRl : 8 + (maxL + 11) + rm.locals ≤ R.locals) (hRc : cells + mc ≤ R.cells) (hRs : slots + ms ≤ R.slots) (hW : (rest.map fun v => v.category).sum ≤ 8) (hdg : decode cc pc = .ok (.invokestatic index, 3)) {st0 : List Value} (hst : st0 = As.reverse ++ rest) :
    vx_Run p l e R s m args below meth c H locs cells slots mc ms (F0 m pc ls st0) rest (Qc As.toArray) XC (gA X) :=
  vx_runS ⟨E.1, E.2.1, hml, E.2.2.1, E.2.2.2.1⟩ hC (gcS E hy hlk hrc hrs hRf hRl) ⟨gB_blind X σ _, fun U hU hW => ⟨rfl, gb0 E.2.2.2.2 hA hM hS hU hW⟩⟩ rfl hn hsz hst (lv_room hW) hdg ⟨hRc, hRs⟩
/-- a call of a method with rows that catch -/
theorem gq_SW {y : MethodName} {bytes : ByteArray} {maxL n nL index mc ms : Nat} {ret : Option FieldType} {rm : Room} {As : List Value} {hh : List (Nat × Nat × Nat × Nat)} {Qc : Array Value → State → Outcome → State → Prop} {XC : String → State → State → Prop} (E : gEn p s m args c cc own X) (hA : ∀ a : Nat, a < s.heap.size → ¬ A0 a) (hml : c.maxLocals = nL) (hsz : ls.size = nL) (hC : vx_Met l y (gWsW y bytes maxL ret hh) rm (va_Pc As (gB X σ)) Qc XC mc ms (gA X)) (hy : gMsW y bytes maxL ret hh n) (hlk : Cond.methodLink own index y ∈ gT) (hn : As.length = n) (hM : gM X σ H) (hS : va_S A0 s.heap H locs) (hrc : rm.cells = mc) (hrs : rm.slots = ms) (hRf : rm.frames + 1 ≤ R.frames) (hRl : 8 + (maxL + 11) + rm.locals ≤ R.locals) (hRc : cells + mc ≤ R.cells) (hRs : slots + ms ≤ R.slots) (hW : (rest.map fun v => v.category).sum ≤ 8) (hdg : decode cc pc = .ok (.invokestatic index, 3)) {st0 : List Value} (hst : st0 = As.reverse ++ rest) :
    vx_Run p l e R s m args below meth c H locs cells slots mc ms (F0 m pc ls st0) rest (Qc As.toArray) XC (gA X) := by
  obtain ⟨hys, hyi, hyc, hd⟩ := hy
  have hG : GoodIn gT (va_wsS own index y (gWsW y bytes maxL ret hh)) := fun v hv => by
    have hm : v ∈ gT := by
      simp only [va_wsS, List.cons_append, List.nil_append, List.mem_cons] at hv
      rcases hv with rfl | rfl | rfl | rfl | h
      · exact hlk
      · exact hys
      · exact hyi
      · exact hyc
      · exact h
    exact ⟨hm, good_of_word (gT_good hm)⟩
  have cw := vx_cwSW (R := R) (hh := hh) (bytes := bytes) (maxL := maxL) (ret := ret) (mc := mc) (ms := ms) (rm := rm) n E.2.2.2.1 hG rfl hrc hrs hd ⟨hRf, hRl⟩
  exact vx_runSX ⟨E.1, E.2.1, hml, E.2.2.1, E.2.2.2.1⟩ hC cw ⟨gB_blind X σ _, fun U hU hW => ⟨rfl, gb0 E.2.2.2.2 hA hM hS hU hW⟩⟩ rfl hn hsz hst (lv_room hW) hdg ⟨hRc, hRs⟩
/-- behind a call that has thrown nothing -/
theorem gk_i {r1 : Int32} {a : Array Value} {st0 : List Value} (hr : va_Run p l e R s m args below meth c H locs cells slots mc ms (F0 m pc ls st0) rest (gQi X (r1, σ1) a) (gA X)) (hsub : ∀ q, gA X q → A0 q) (hS : va_S A0 s.heap H locs) (kk : ∀ (H1 : Heap) (locs : List Loc), gM X σ1 H1 → (∀ q : Nat, q < H.size → ¬ gA X q → H1[q]? = H[q]?) → va_S A0 s.heap H1 locs → W p l e R s m args below meth c H1 locs (cells + mc) (slots + ms) Q (F0 m (pc + 3) ls (.int r1 :: rest))) : W p l e R s m args below meth c H locs cells slots Q (F0 m pc ls st0) :=
  va_calli hr hS (fun q _ h => hsub q h) hsub (fun r u t H1 locs1 ht _ hw hB _ hk hS1 => by
    obtain ⟨rfl, rfl⟩ := hw
    exact kk H1 locs1 (by rw [gBm, ht] at hB; exact hB) hk hS1)
theorem gk_Ti {r1 : Int32} {a : Array Value} {st0 : List Value} (hr : vx_Run p l e R s m args below meth c H locs cells slots mc ms (F0 m pc ls st0) rest (gQTi X (0, r1, σ1) a) (gXC X 0 σ1) (gA X)) (hsub : ∀ q, gA X q → A0 q) (hS : va_S A0 s.heap H locs) (kk : ∀ (H1 : Heap) (locs : List Loc), gM X σ1 H1 → (∀ q : Nat, q < H.size → ¬ gA X q → H1[q]? = H[q]?) → va_S A0 s.heap H1 locs → W p l e R s m args below meth c H1 locs (cells + mc) (slots + ms) Q (F0 m (pc + 3) ls (.int r1 :: rest))) : W p l e R s m args below meth c H locs cells slots Q (F0 m pc ls st0) :=
  vx_calli hr hS (fun q _ h => hsub q h) hsub (fun q _ h => hsub q h) (fun E9 ce q9 u t H1 locs1 ht _ hp _ _ _ _ _ _ _ => absurd rfl hp.1) (fun r u t H1 locs1 ht _ hw hB _ hk hS1 => by
    obtain ⟨-, rfl, rfl⟩ := hw
    exact kk H1 locs1 (by rw [gBm, ht] at hB; exact hB) hk hS1)
theorem gk_Tv {r1 : Unit} {a : Array Value} {st0 : List Value} (hr : vx_Run p l e R s m args below meth c H locs cells slots mc ms (F0 m pc ls st0) rest (gQTv X (0, r1, σ1) a) (gXC X 0 σ1) (gA X)) (hsub : ∀ q, gA X q → A0 q) (hS : va_S A0 s.heap H locs) (kk : ∀ (H1 : Heap) (locs : List Loc), gM X σ1 H1 → (∀ q : Nat, q < H.size → ¬ gA X q → H1[q]? = H[q]?) → va_S A0 s.heap H1 locs → W p l e R s m args below meth c H1 locs (cells + mc) (slots + ms) Q (F0 m (pc + 3) ls rest)) : W p l e R s m args below meth c H locs cells slots Q (F0 m pc ls st0) :=
  vx_callv hr hS (fun q _ h => hsub q h) hsub (fun q _ h => hsub q h) (fun E9 ce q9 u t H1 locs1 ht _ hp _ _ _ _ _ _ _ => absurd rfl hp.1) (fun u t H1 locs1 ht _ hw hB _ hk hS1 => by
    obtain ⟨-, rfl⟩ := hw
    exact kk H1 locs1 (by rw [gBm, ht] at hB; exact hB) hk hS1)
theorem gk_W {r1 : Int32} {a : Array Value} {st0 : List Value} (hr : vx_Run p l e R s m args below meth c H locs cells slots mc ms (F0 m pc ls st0) rest (gQi X (r1, σ1) a) gXN (gA X)) (hsub : ∀ q, gA X q → A0 q) (hS : va_S A0 s.heap H locs) (kk : ∀ (H1 : Heap) (locs : List Loc), gM X σ1 H1 → (∀ q : Nat, q < H.size → ¬ gA X q → H1[q]? = H[q]?) → va_S A0 s.heap H1 locs → W p l e R s m args below meth c H1 locs (cells + mc) (slots + ms) Q (F0 m (pc + 3) ls (.int r1 :: rest))) : W p l e R s m args below meth c H locs cells slots Q (F0 m pc ls st0) :=
  vx_calli (px := fun _ : Unit => False) (BX := fun _ _ _ => False) (AX := fun _ => False) hr hS (fun q _ h => hsub q h) hsub (fun _ _ h => absurd h id) (fun _ _ _ _ _ _ _ _ _ hp => absurd hp id) (fun r u t H1 locs1 ht _ hw hB _ hk hS1 => by
    obtain ⟨rfl, rfl⟩ := hw
    exact kk H1 locs1 (by rw [gBm, ht] at hB; exact hB) hk hS1)
/-- another object stays -/
theorem gM_oth {H1 : Heap} (h : gM Y σ H) (hk : ∀ q : Nat, q < H.size → ¬ gA X q → H1[q]? = H[q]?) (hno : ∀ c, c < 433 → ¬ gA X (Y.1 + c)) : gM Y σ H1 := va_P.kept h (fun k q hq => by
  have hlt := vx_lt h hq
  obtain ⟨h1, rfl⟩ := gWl_inv hq
  exact hk _ hlt (hno k h1))
/-- a call of 'at' -/
theorem gk_at {b L : Nat} {xs : Nat → Int32} {k : Int32} {index nL : Nat} {y : MethodName} {bytes : ByteArray} (hX : p.tables.exec = Jvm.exec) (hb : c.code = cc) (hown : s.vm.findClass own = some m.cls) (hts : ∀ w ∈ gT, w.before args s = true) (hA : ∀ a : Nat, a < s.heap.size → ¬ A0 a) (hml : c.maxLocals = nL) (hsz : ls.size = nL) (hC : Met l y (gWs y bytes 2 (some .int)) { frames := 0, cells := 0, slots := 0, locals := 0 } (va_Pc [.ref b, .int k] (gBs b L xs)) (va_Qi (fun r (_ : Unit) => r = atv xs L k) (fun _ _ => True) (fun _ => False)) 0 0 (fun _ => False)) (hy : gMs y bytes 2 (some .int) 2) (hlk : Cond.methodLink own index y ∈ gT) (hXs : va_X b L xs s s.heap) (hbl : b < s.heap.size) (hS : va_S A0 s.heap H locs) (hRf : 0 + 1 ≤ R.frames) (hRl : 8 + (2 + 11) + 0 ≤ R.locals) (hRc : cells + 0 ≤ R.cells) (hRs : slots + 0 ≤ R.slots) (hW : (rest.map fun v => v.category).sum ≤ 8) (hdg : decode cc pc = .ok (.invokestatic index, 3))
    (kk : ∀ (H1 : Heap) (locs : List Loc), (∀ q : Nat, q < H.size → H1[q]? = H[q]?) → va_S A0 s.heap H1 locs → W p l e R s m args below meth c H1 locs cells slots Q (F0 m (pc + 3) ls (.int (atv xs L k) :: rest))) : W p l e R s m args below meth c H locs cells slots Q (F0 m pc ls (.int k :: .ref b :: rest)) := by
  have E1 : Cond.initialized y.cls ∈ gT := hy.2.1
  have cb : CallB R s args own index y bytes 2 (some .int) (gWs y bytes 2 (some .int)) { frames := 0, cells := 0, slots := 0, locals := 0 } 0 0 2 := callB_of 2 hts (gWs_good gT_gT hy.2.2.1) rfl rfl rfl (hts _ E1) (hts _ hlk) hy.2.2.2 ⟨hRf, hRl⟩
  refine va_calli (va_runS ⟨hX, hb, hml, hown, hts⟩ hC ⟨cb, hts _ hy.1⟩ ⟨gBs_blind b L xs _, fun U hU hW => ⟨rfl, ?_⟩⟩ rfl rfl hsz (rest := rest) rfl (lv_room hW) hdg ⟨hRc, hRs⟩) hS (fun _ _ h => absurd h id) (fun _ h => absurd h id) (fun r u t H1 locs1 ht _ hw _ _ hk hS1 => ?_)
  · have h1 : va_X b L xs s U.heap := va_X.kept hXs (by rw [hU]; exact hS.2.1 b hbl (hA b hbl))
    refine ⟨va_X.moved hW.alike h1, ?_⟩
    rw [hU]
    exact Nat.lt_of_lt_of_le hbl hS.1
  · subst hw
    exact kk H1 locs1 (fun q hq => hk q hq id) hS1
/-- a catch: the rows ahead don't reach so far -/
theorem gl_catch {e1 : Nat} {ce : Cell} {q9 : Addr} (E : gEn p s m args c cc RL X) (pre : List ExceptionTableEntry) (x : ExceptionTableEntry) (suf : List ExceptionTableEntry) (hsplit : c.exceptionTable.toList = pre ++ x :: suf) (hpass : ∀ a ∈ pre, covers a pc = false) (hx : covers x pc = true) (h0 : x.catchType ≠ 0) (hlink : Cond.classLink RL x.catchType (gEx e1) ∈ gT) (hcast : Cond.castable (gEx e1) (gEx e1) ∈ gN) (hcell : H[q9]? = some ce) (hv : ce.vm = .none) (hcl : s.vm.findClass (gEx e1) = some ce.cls)
    (kk : W p l e R s m args below meth c H locs cells slots Q (F0 m x.handlerPc ls [.ref q9])) : vx_W p l e R s m args below meth c H locs cells slots Q (F0 m pc ls rest) q9 :=
  vx_catch E.2.2.1 pre x suf hsplit (fun z hz => Or.inl (hpass z hz)) hx h0 (gEn_t E hlink) (gEn_n E hcast) hcell hv hcl kk
/-- the start of a method with rows that catch -/
theorem gMetW {y : MethodName} {maxL : Nat} {rm : Room} {av : List Value} {Qc : Array Value → State → Outcome → State → Prop} {XC : String → State → State → Prop} {hh : List (Nat × Nat × Nat × Nat)} (hy : plainName y.cls = true) (hown : y.cls = RL) (hav : (lg_sl av).length ≤ maxL)
    (body : ∀ (p : Program) (e : Env) (s : State) (m : MethodId) (args : Array Value) (below : List Frame) (meth : Method) (c : Code) (ls : Array Slot), gEn p s m args c cc RL X → meth.sig.returnType = some .int → meth.locks = false → c.maxLocals = maxL → c.exceptionTable.toList = tableOf hh → gM X σ s.heap → lv_has ls maxL (lv_args 0 av) → W p l e rm s m args below meth c s.heap [] 0 0 (vx_MQ below Qc XC args s mc ms (gA X)) (F0 m 0 ls [])) :
    vx_Met l y (gWsW y cc maxL (some .int) hh) rm (va_Pc av (gB X σ)) Qc XC mc ms (gA X) := by
  refine vx_ofWH (cc := cc) (maxL := maxL) (ret := some .int) (hh := hh) hy rfl ?_
  intro p e s m args below meth c s₁ B hml hv
  obtain ⟨rfl, hG, hM⟩ := hv
  have hts := atoms_spec (ws := gWsW y cc maxL (some .int) hh) B.pre
  have ho : s.vm.findClass RL = some m.cls := hown ▸ findClass_of_methodNamed B.named
  have hl := lv_entry av (n := maxL) hav
  rw [lg_entry_eq]
  exact body p e s m _ below meth c _ ⟨B.exec, B.bytes, ho, fun w hw => hts w (List.mem_cons_of_mem _ hw), hG⟩ B.returns B.notSynchronized hml (vx_table (x := y) B (hts _ List.mem_cons_self)) hM hl
theorem ge_Wi {v : Int32} {q : Int32 × gMem} {XC : String → State → State → Prop} (E : gEn p s m args c cc own X) (hr : meth.sig.returnType = some .int) (hlocks : meth.locks = false) (hf : some (v, σ) = some q) (hM : gM X σ H) (hS : va_S (gA X) s.heap H locs) (hc : cells ≤ mc) (hs : slots ≤ ms) (hdg : decode cc pc = .ok (.ireturn, 1)) : W p l e R s m args below meth c H locs cells slots (vx_MQ below (gQi X q) XC args s mc ms (gA X)) (F0 m pc ls [.int v]) :=
  W.widen hc hs (vx_ret (W.iret E.1 E.2.1 hr (fun _ ht _ => ge_iq hf hM hS ht) hS.2.2 hdg hlocks))
/-- a call that may throw, in a frame that catches -/
theorem gb_Ti {e1 : Nat} {r1 : Int32} {a : Array Value} {st0 : List Value} (hr : vx_Run p l e R s m args below meth c H locs cells slots mc ms (F0 m pc ls st0) rest (gQTi X (e1, r1, σ1) a) (gXC X e1 σ1) (gA X)) (hS : va_S (gA X) s.heap H locs)
    (kx : e1 ≠ 0 → ∀ (H : Heap) (locs : List Loc) (ce : Cell) (q9 : Addr), gM X σ1 H → va_S (gA X) s.heap H locs → H[q9]? = some ce → ce.vm = .none → s.vm.findClass (gEx e1) = some ce.cls → vx_W p l e R s m args below meth c H locs (cells + mc) (slots + ms) Q (F0 m pc ls rest) q9)
    (kk : e1 = 0 → ∀ (H : Heap) (locs : List Loc), gM X σ1 H → va_S (gA X) s.heap H locs → W p l e R s m args below meth c H locs (cells + mc) (slots + ms) Q (F0 m (pc + 3) ls (.int r1 :: rest))) : W p l e R s m args below meth c H locs cells slots Q (F0 m pc ls st0) :=
  vx_calli hr hS (fun q _ h => h) (fun _ h => h) (fun q _ h => h)
    (fun E9 ce q9 u t H1 locs1 ht _ hp hB _ _ hS1 hce hcv hcl => by
      obtain ⟨h0, rfl⟩ := hp
      obtain ⟨rfl, hB⟩ := hB
      exact kx h0 H1 locs1 ce q9 (by rw [ht] at hB; exact hB) hS1 hce hcv hcl)
    (fun r u t H1 locs1 ht _ hw hB _ _ hS1 => by
      obtain ⟨h0, rfl, rfl⟩ := hw
      exact kk h0 H1 locs1 (by rw [gBm, ht] at hB; exact hB) hS1)
end GLAW
