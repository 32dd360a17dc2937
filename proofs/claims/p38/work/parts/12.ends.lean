/-! the words of the shallow functions -/
section GF
variable {α β γ : Type}
def gv (x : α) (k : α → Option β) : Option β := k x
def g1 (o : Option (α × gMem)) (k : α → gMem → Option β) : Option β := match o with
  | none => none
  | some q => k q.1 q.2
def g2 (d : β) (o : Option (Nat × α × gMem)) (k : α → gMem → Option (Nat × β × gMem)) : Option (Nat × β × gMem) := match o with
  | none => none
  | some q => if q.1 = 0 then k q.2.1 q.2.2 else some (q.1, d, q.2.2)
def gnl (o : Option Nat) (a : Option β) (k : Nat → Option β) : Option β := match o with
  | none => a
  | some x => k x
theorem gv_o {x : α} {k : α → Option β} {r : Option β} (h : gv x k = r) : ∃ y, y = x ∧ k y = r := ⟨x, rfl, h⟩
theorem g1_o {o : Option (α × gMem)} {k : α → gMem → Option β} {r : β} (h : g1 o k = some r) : ∃ (x : α) (σ1 : gMem), o = some (x, σ1) ∧ k x σ1 = some r := by
  cases o with
  | none => cases h
  | some q => exact ⟨q.1, q.2, rfl, h⟩
theorem g2_o {d : β} {o : Option (Nat × α × gMem)} {k : α → gMem → Option (Nat × β × gMem)} {r : Nat × β × gMem} (h : g2 d o k = some r) : ∃ (e1 : Nat) (x : α) (σ1 : gMem), o = some (e1, x, σ1) ∧ (e1 = 0 → k x σ1 = some r) ∧ (e1 ≠ 0 → r = (e1, d, σ1)) := by
  cases o with
  | none => cases h
  | some q =>
    refine ⟨q.1, q.2.1, q.2.2, rfl, fun h0 => ?_, fun h0 => ?_⟩
    · simp only [g2, if_pos h0] at h
      exact h
    · simp only [g2, if_neg h0] at h
      exact (Option.some.inj h).symm
theorem gnl_n {a : Option β} {k : Nat → Option β} {r : Option β} (h : gnl none a k = r) : a = r := h
theorem gnl_s {x : Nat} {a : Option β} {k : Nat → Option β} {r : Option β} (h : gnl (some x) a k = r) : k x = r := h
theorem g_t {c : Prop} [Decidable c] {a b r : Option β} (h : c) (hf : (if c then a else b) = r) : a = r := by rw [if_pos h] at hf; exact hf
theorem g_f {c : Prop} [Decidable c] {a b r : Option β} (h : ¬ c) (hf : (if c then a else b) = r) : b = r := by rw [if_neg h] at hf; exact hf
theorem g_ck {c : Prop} [Decidable c] {a : Option β} {r : β} (hf : (if c then a else none) = some r) : c ∧ a = some r := by
  by_cases h : c
  · exact ⟨h, g_t h hf⟩
  · have := g_f h hf
    cases this
end GF
/-- how often a loop may go round at most -/
def gF : Nat := 4000
def gOp (X : gX) (o : Option Nat) : Value := match o with
  | none => .null
  | some k => .ref (X.1 + k)
/-- the exceptions' numbers -/
def gEx (k : Nat) : String := if k = 1 then "java/lang/IndexOutOfBoundsException" else if k = 2 then "java/lang/IllegalArgumentException" else if k = 3 then "java/lang/UnsupportedOperationException" else if k = 4 then "java/util/NoSuchElementException" else if k = 5 then "java/lang/IllegalStateException" else "java/lang/ArithmeticException"
abbrev gBm (X : gX) : gMem → State → Prop := fun u t => gM X u t.heap
def gQi (X : gX) (q : Int32 × gMem) : Array Value → State → Outcome → State → Prop := va_Qi (fun r u => r = q.1 ∧ u = q.2) (gBm X) (gA X)
def gQv (X : gX) (q : Unit × gMem) : Array Value → State → Outcome → State → Prop := va_Qv (fun u => u = q.2) (gBm X) (gA X)
def gQo (X : gX) (q : Option Nat × gMem) : Array Value → State → Outcome → State → Prop := va_Qq (fun r u => r = q.1.map (fun k => X.1 + k) ∧ u = q.2) (gBm X) (gA X)
def gQr (X : gX) (q : Nat × gMem) : Array Value → State → Outcome → State → Prop := va_Qr (fun u => u = q.2) (fun u a t => a = X.1 + q.1 ∧ gM X u t.heap) (gA X)
def gXC (X : gX) (k : Nat) (σ : gMem) : String → State → State → Prop := vx_X (fun u => k ≠ 0 ∧ u = σ) (fun E u t => E = gEx k ∧ gM X u t.heap) (gA X)
def gQTi (X : gX) (q : Nat × Int32 × gMem) : Array Value → State → Outcome → State → Prop := va_Qi (fun r u => q.1 = 0 ∧ r = q.2.1 ∧ u = q.2.2) (gBm X) (gA X)
def gQTr (X : gX) (q : Nat × Nat × gMem) : Array Value → State → Outcome → State → Prop := va_Qr (fun u => q.1 = 0 ∧ u = q.2.2) (fun u a t => a = X.1 + q.2.1 ∧ gM X u t.heap) (gA X)
theorem g_nb {x : Int32} (h : x = 0 ∨ x = 1) : narrow .boolean (.int x) = .int x := by
  rcases h with rfl | rfl <;> rfl
theorem g_fb {x : Int32} (h : x = 0 ∨ x = 1) : fits .boolean (.int x) = true := by
  rcases h with rfl | rfl <;> rfl
def gQd (X : gX) (q : UInt64 × gMem) : Array Value → State → Outcome → State → Prop := va_Qd (fun r u => r = q.1 ∧ u = q.2) (gBm X) (gA X)
def gQTd (X : gX) (q : Nat × UInt64 × gMem) : Array Value → State → Outcome → State → Prop := va_Qd (fun r u => q.1 = 0 ∧ r = q.2.1 ∧ u = q.2.2) (gBm X) (gA X)
def gQf (X : gX) (q : UInt32 × gMem) : Array Value → State → Outcome → State → Prop := va_Qf (fun r u => r = q.1 ∧ u = q.2) (gBm X) (gA X)
def gQTf (X : gX) (q : Nat × UInt32 × gMem) : Array Value → State → Outcome → State → Prop := va_Qf (fun r u => q.1 = 0 ∧ r = q.2.1 ∧ u = q.2.2) (gBm X) (gA X)
section GO
variable {p : Program} {l : Launch} {e : Env} {R : Room} {s : State} {m : MethodId} {args : Array Value} {below : List Frame} {meth : Method} {c : Code} {H : Heap} {locs : List Loc} {cells slots mc ms : Nat} {Q : State → Prop}
variable {cc : ByteArray} {pc : Nat} {ls : Array Slot} {rest : List Value} {X : gX} {σ σ1 : gMem} {own : String}
theorem ge_iq {v : Int32} {q : Int32 × gMem} (hf : some (v, σ) = some q) (hM : gM X σ H) (hS : va_S (gA X) s.heap H locs) {t : State} (ht : t.heap = H) : gQi X q args s (.returned (some (.int v))) t := by
  cases hf
  exact ⟨⟨v, σ, rfl, ⟨rfl, rfl⟩, by rw [gBm, ht]; exact hM⟩, hS.F ht⟩
theorem ge_i {v : Int32} {q : Int32 × gMem} (E : gEn p s m args c cc own X) (hr : meth.sig.returnType = some .int) (hlocks : meth.locks = false) (hf : some (v, σ) = some q) (hM : gM X σ H) (hS : va_S (gA X) s.heap H locs) (hc : cells ≤ mc) (hs : slots ≤ ms) (hdg : decode cc pc = .ok (.ireturn, 1)) : W p l e R s m args below meth c H locs cells slots (MQ below (gQi X q) args s mc ms (gA X)) (F0 m pc ls [.int v]) :=
  W.widen hc hs (W.iret E.1 E.2.1 hr (fun _ ht _ => ge_iq hf hM hS ht) hS.2.2 hdg hlocks)
theorem ge_z {v : Int32} {ty : FieldType} {q : Int32 × gMem} (E : gEn p s m args c cc own X) (hr : meth.sig.returnType = some ty) (hn : narrow ty (.int v) = .int v) (hlocks : meth.locks = false) (hf : some (v, σ) = some q) (hM : gM X σ H) (hS : va_S (gA X) s.heap H locs) (hc : cells ≤ mc) (hs : slots ≤ ms) (hdg : decode cc pc = .ok (.ireturn, 1)) : W p l e R s m args below meth c H locs cells slots (MQ below (gQi X q) args s mc ms (gA X)) (F0 m pc ls [.int v]) :=
  W.widen hc hs (W.zret E.1 E.2.1 hr hn (fun _ ht _ => ge_iq hf hM hS ht) hS.2.2 hdg hlocks)
theorem ge_v {q : Unit × gMem} (E : gEn p s m args c cc own X) (hr : meth.sig.returnType = none) (hlocks : meth.locks = false) (hf : some ((), σ) = some q) (hM : gM X σ H) (hS : va_S (gA X) s.heap H locs) (hc : cells ≤ mc) (hs : slots ≤ ms) (hdg : decode cc pc = .ok (.return_, 1)) : W p l e R s m args below meth c H locs cells slots (MQ below (gQv X q) args s mc ms (gA X)) (F0 m pc ls []) := by
  cases hf
  exact W.widen hc hs (W.vret E.1 E.2.1 hr (fun _ ht _ => ⟨⟨σ, rfl, rfl, by rw [gBm, ht]; exact hM⟩, hS.F ht⟩) hS.2.2 hdg hlocks)
theorem ge_o {o : Option Nat} {C : String} {v : Value} {q : Option Nat × gMem} (E : gEn p s m args c cc own X) (hr : meth.sig.returnType = some (.object C)) (hlocks : meth.locks = false) (hf : some (o, σ) = some q) (hv : gOp X o = v) (hM : gM X σ H) (hS : va_S (gA X) s.heap H locs) (hc : cells ≤ mc) (hs : slots ≤ ms) (hdg : decode cc pc = .ok (.areturn, 1)) : W p l e R s m args below meth c H locs cells slots (MQ below (gQo X q) args s mc ms (gA X)) (F0 m pc ls [v]) := by
  cases hf
  subst hv
  refine W.widen hc hs (W.aret E.1 E.2.1 hr (Or.inl ⟨C, rfl⟩) ?_ (fun _ ht _ => ⟨⟨o.map (fun k => X.1 + k), σ, ?_, ⟨rfl, rfl⟩, by rw [gBm, ht]; exact hM⟩, hS.F ht⟩) hS.2.2 hdg hlocks)
  · cases o with
    | none => exact Or.inl rfl
    | some k => exact Or.inr ⟨_, rfl⟩
  · cases o <;> rfl
theorem ge_r {k : Nat} {C : String} {q : Nat × gMem} (E : gEn p s m args c cc own X) (hr : meth.sig.returnType = some (.object C)) (hlocks : meth.locks = false) (hf : some (k, σ) = some q) (hM : gM X σ H) (hS : va_S (gA X) s.heap H locs) (hc : cells ≤ mc) (hs : slots ≤ ms) (hdg : decode cc pc = .ok (.areturn, 1)) : W p l e R s m args below meth c H locs cells slots (MQ below (gQr X q) args s mc ms (gA X)) (F0 m pc ls [.ref (X.1 + k)]) := by
  cases hf
  exact W.widen hc hs (W.aret E.1 E.2.1 hr (Or.inl ⟨C, rfl⟩) (Or.inr ⟨_, rfl⟩) (fun _ ht _ => ⟨⟨σ, X.1 + k, rfl, rfl, rfl, by rw [ht]; exact hM⟩, hS.F ht⟩) hS.2.2 hdg hlocks)
theorem ge_Tiq {v : Int32} {q : Nat × Int32 × gMem} (hf : some (0, v, σ) = some q) (hM : gM X σ H) (hS : va_S (gA X) s.heap H locs) {t : State} (ht : t.heap = H) : gQTi X q args s (.returned (some (.int v))) t := by
  cases hf
  exact ⟨⟨v, σ, rfl, ⟨rfl, rfl, rfl⟩, by rw [gBm, ht]; exact hM⟩, hS.F ht⟩
theorem ge_Ti {v : Int32} {q : Nat × Int32 × gMem} {XC : String → State → State → Prop} (E : gEn p s m args c cc own X) (hr : meth.sig.returnType = some .int) (hlocks : meth.locks = false) (hf : some (0, v, σ) = some q) (hM : gM X σ H) (hS : va_S (gA X) s.heap H locs) (hc : cells ≤ mc) (hs : slots ≤ ms) (hdg : decode cc pc = .ok (.ireturn, 1)) : W p l e R s m args below meth c H locs cells slots (vx_MQ below (gQTi X q) XC args s mc ms (gA X)) (F0 m pc ls [.int v]) :=
  W.widen hc hs (vx_ret (W.iret E.1 E.2.1 hr (fun _ ht _ => ge_Tiq hf hM hS ht) hS.2.2 hdg hlocks))
theorem ge_Tz {v : Int32} {ty : FieldType} {q : Nat × Int32 × gMem} {XC : String → State → State → Prop} (E : gEn p s m args c cc own X) (hr : meth.sig.returnType = some ty) (hn : narrow ty (.int v) = .int v) (hlocks : meth.locks = false) (hf : some (0, v, σ) = some q) (hM : gM X σ H) (hS : va_S (gA X) s.heap H locs) (hc : cells ≤ mc) (hs : slots ≤ ms) (hdg : decode cc pc = .ok (.ireturn, 1)) : W p l e R s m args below meth c H locs cells slots (vx_MQ below (gQTi X q) XC args s mc ms (gA X)) (F0 m pc ls [.int v]) :=
  W.widen hc hs (vx_ret (W.zret E.1 E.2.1 hr hn (fun _ ht _ => ge_Tiq hf hM hS ht) hS.2.2 hdg hlocks))
theorem ge_Tr {k : Nat} {C : String} {q : Nat × Nat × gMem} {XC : String → State → State → Prop} (E : gEn p s m args c cc own X) (hr : meth.sig.returnType = some (.object C)) (hlocks : meth.locks = false) (hf : some (0, k, σ) = some q) (hM : gM X σ H) (hS : va_S (gA X) s.heap H locs) (hc : cells ≤ mc) (hs : slots ≤ ms) (hdg : decode cc pc = .ok (.areturn, 1)) : W p l e R s m args below meth c H locs cells slots (vx_MQ below (gQTr X q) XC args s mc ms (gA X)) (F0 m pc ls [.ref (X.1 + k)]) := by
  cases hf
  exact W.widen hc hs (vx_ret (W.aret E.1 E.2.1 hr (Or.inl ⟨C, rfl⟩) (Or.inr ⟨_, rfl⟩) (fun _ ht _ => ⟨⟨σ, X.1 + k, rfl, ⟨rfl, rfl⟩, rfl, by rw [ht]; exact hM⟩, hS.F ht⟩) hS.2.2 hdg hlocks))
theorem ge_d {v : UInt64} {q : UInt64 × gMem} (E : gEn p s m args c cc own X) (hr : meth.sig.returnType = some .double) (hlocks : meth.locks = false) (hf : some (v, σ) = some q) (hM : gM X σ H) (hS : va_S (gA X) s.heap H locs) (hc : cells ≤ mc) (hs : slots ≤ ms) (hdg : decode cc pc = .ok (.dreturn, 1)) : W p l e R s m args below meth c H locs cells slots (MQ below (gQd X q) args s mc ms (gA X)) (F0 m pc ls [.double v]) := by
  cases hf
  exact W.widen hc hs (W.dret E.1 E.2.1 hr (fun _ ht _ => ⟨⟨v, σ, rfl, ⟨rfl, rfl⟩, by rw [gBm, ht]; exact hM⟩, hS.F ht⟩) hS.2.2 hdg hlocks)
theorem ge_Td {v : UInt64} {q : Nat × UInt64 × gMem} {XC : String → State → State → Prop} (E : gEn p s m args c cc own X) (hr : meth.sig.returnType = some .double) (hlocks : meth.locks = false) (hf : some (0, v, σ) = some q) (hM : gM X σ H) (hS : va_S (gA X) s.heap H locs) (hc : cells ≤ mc) (hs : slots ≤ ms) (hdg : decode cc pc = .ok (.dreturn, 1)) : W p l e R s m args below meth c H locs cells slots (vx_MQ below (gQTd X q) XC args s mc ms (gA X)) (F0 m pc ls [.double v]) := by
  cases hf
  exact W.widen hc hs (vx_ret (W.dret E.1 E.2.1 hr (fun _ ht _ => ⟨⟨v, σ, rfl, ⟨rfl, rfl, rfl⟩, by rw [gBm, ht]; exact hM⟩, hS.F ht⟩) hS.2.2 hdg hlocks))
theorem ge_f {v : UInt32} {q : UInt32 × gMem} (E : gEn p s m args c cc own X) (hr : meth.sig.returnType = some .float) (hlocks : meth.locks = false) (hf : some (v, σ) = some q) (hM : gM X σ H) (hS : va_S (gA X) s.heap H locs) (hc : cells ≤ mc) (hs : slots ≤ ms) (hdg : decode cc pc = .ok (.freturn, 1)) : W p l e R s m args below meth c H locs cells slots (MQ below (gQf X q) args s mc ms (gA X)) (F0 m pc ls [.float v]) := by
  cases hf
  exact W.widen hc hs (W.fret E.1 E.2.1 hr (fun _ ht _ => ⟨⟨v, σ, rfl, ⟨rfl, rfl⟩, by rw [gBm, ht]; exact hM⟩, hS.F ht⟩) hS.2.2 hdg hlocks)
theorem ge_Tf {v : UInt32} {q : Nat × UInt32 × gMem} {XC : String → State → State → Prop} (E : gEn p s m args c cc own X) (hr : meth.sig.returnType = some .float) (hlocks : meth.locks = false) (hf : some (0, v, σ) = some q) (hM : gM X σ H) (hS : va_S (gA X) s.heap H locs) (hc : cells ≤ mc) (hs : slots ≤ ms) (hdg : decode cc pc = .ok (.freturn, 1)) : W p l e R s m args below meth c H locs cells slots (vx_MQ below (gQTf X q) XC args s mc ms (gA X)) (F0 m pc ls [.float v]) := by
  cases hf
  exact W.widen hc hs (vx_ret (W.fret E.1 E.2.1 hr (fun _ ht _ => ⟨⟨v, σ, rfl, ⟨rfl, rfl, rfl⟩, by rw [gBm, ht]; exact hM⟩, hS.F ht⟩) hS.2.2 hdg hlocks))
/-- the start of a method that doesn't throw -/
theorem gMet {y : MethodName} {maxL : Nat} {ret : Option FieldType} {rm : Room} {av : List Value} {Qc : Array Value → State → Outcome → State → Prop} (hy : plainName y.cls = true) (hown : y.cls = own) (hav : (lg_sl av).length ≤ maxL)
    (body : ∀ (p : Program) (e : Env) (s : State) (m : MethodId) (args : Array Value) (below : List Frame) (meth : Method) (c : Code) (ls : Array Slot), gEn p s m args c cc own X → meth.sig.returnType = ret → meth.locks = false → c.maxLocals = maxL → gM X σ s.heap → lv_has ls maxL (lv_args 0 av) → W p l e rm s m args below meth c s.heap [] 0 0 (MQ below Qc args s mc ms (gA X)) (F0 m 0 ls [])) :
    Met l y (gWs y cc maxL ret) rm (va_Pc av (gB X σ)) Qc mc ms (gA X) := by
  refine Met.ofW (cc := cc) (maxL := maxL) (ret := ret) hy rfl ?_
  intro p e s m args below meth c s₁ B hml hv
  obtain ⟨rfl, hG, hM⟩ := hv
  have hts := atoms_spec (ws := gWs y cc maxL ret) B.pre
  have ho : s.vm.findClass own = some m.cls := hown ▸ findClass_of_methodNamed B.named
  have hl := lv_entry av (n := maxL) hav
  rw [lg_entry_eq]
  exact body p e s m _ below meth c _ ⟨B.exec, B.bytes, ho, fun w hw => hts w (List.mem_cons_of_mem _ hw), hG⟩ B.returns B.notSynchronized hml hM hl
theorem ofWF {y : MethodName} {ws ws' : List Cond} {rm : Room} {Pc : Array Value → State → Prop} {Qc : Array Value → State → Outcome → State → Prop} {free : Addr → Prop} {maxL : Nat} {ret : Option FieldType}
    (hy : plainFor y = true) (hw : ws = Cond.code y cc maxL ret :: ws')
    (body : ∀ p e s m args below meth c s₁, BodyLoose p l y (headSpec ws rm) cc maxL ret e s m args below meth c s₁ → c.maxLocals = maxL → Pc args s →
      W p l e (headSpec ws rm).room s m args below meth c s.heap [] 0 0 (MQ below Qc args s mc ms free) (entryFrame m args maxL)) : Met l y ws rm Pc Qc mc ms free := by
  refine MetFree.of_bodySF (code := cc) (maxLocals := maxL) (ret := ret) hy ?_ ?_
  · intro args s m h hn
    obtain ⟨meth, c, h1, h2, h3, h4, h5, h6, -, -⟩ := Cond.code_spec hn (atoms_spec (ws := ws) h _ (by rw [hw]; exact List.mem_cons_self))
    exact ⟨meth, c, h1, h2, h3, h4, h5, h6⟩
  · intro p e s m args below meth c s₁ B hml hP _
    have hh0 : s₁.heap = s.heap := by rw [B.state]; rfl
    obtain ⟨t, a1, o, b1, b2, b3⟩ := body p e s m args below meth c s₁ B hml hP s₁ hh0 (Stand.of_body B)
    exact ⟨t, o, a1, b1, b2, ⟨b3.1, b3.2⟩⟩
theorem gMetF {y : MethodName} {maxL : Nat} {ret : Option FieldType} {rm : Room} {av : List Value} {Qc : Array Value → State → Outcome → State → Prop} (hy : plainFor y = true) (hown : y.cls = own) (hav : (lg_sl av).length ≤ maxL)
    (body : ∀ (p : Program) (e : Env) (s : State) (m : MethodId) (args : Array Value) (below : List Frame) (meth : Method) (c : Code) (ls : Array Slot), gEn p s m args c cc own X → meth.sig.returnType = ret → meth.locks = false → c.maxLocals = maxL → gM X σ s.heap → lv_has ls maxL (lv_args 0 av) → W p l e rm s m args below meth c s.heap [] 0 0 (MQ below Qc args s mc ms (gA X)) (F0 m 0 ls [])) :
    Met l y (gWs y cc maxL ret) rm (va_Pc av (gB X σ)) Qc mc ms (gA X) := by
  refine ofWF (cc := cc) (maxL := maxL) (ret := ret) hy rfl ?_
  intro p e s m args below meth c s₁ B hml hv
  obtain ⟨rfl, hG, hM⟩ := hv
  have hts := atoms_spec (ws := gWs y cc maxL ret) B.pre
  have ho : s.vm.findClass own = some m.cls := hown ▸ findClass_of_methodNamed B.named
  have hl := lv_entry av (n := maxL) hav
  rw [lg_entry_eq]
  exact body p e s m _ below meth c _ ⟨B.exec, B.bytes, ho, fun w hw => hts w (List.mem_cons_of_mem _ hw), hG⟩ B.returns B.notSynchronized hml hM hl
theorem gMetX {y : MethodName} {maxL : Nat} {ret : Option FieldType} {rm : Room} {av : List Value} {Qc : Array Value → State → Outcome → State → Prop} {XC : String → State → State → Prop} (hy : plainName y.cls = true) (hown : y.cls = own) (hav : (lg_sl av).length ≤ maxL)
    (body : ∀ (p : Program) (e : Env) (s : State) (m : MethodId) (args : Array Value) (below : List Frame) (meth : Method) (c : Code) (ls : Array Slot), gEn p s m args c cc own X → meth.sig.returnType = ret → meth.locks = false → c.maxLocals = maxL → (∀ x ∈ c.exceptionTable.toList, False) → gM X σ s.heap → lv_has ls maxL (lv_args 0 av) → W p l e rm s m args below meth c s.heap [] 0 0 (vx_MQ below Qc XC args s mc ms (gA X)) (F0 m 0 ls [])) :
    vx_Met l y (gWs y cc maxL ret) rm (va_Pc av (gB X σ)) Qc XC mc ms (gA X) := by
  refine vx_ofW (cc := cc) (maxL := maxL) (ret := ret) hy rfl ?_
  intro p e s m args below meth c s₁ B hml hout hv
  obtain ⟨rfl, hG, hM⟩ := hv
  have hts := atoms_spec (ws := gWs y cc maxL ret) B.pre
  have ho : s.vm.findClass own = some m.cls := hown ▸ findClass_of_methodNamed B.named
  have hl := lv_entry av (n := maxL) hav
  rw [lg_entry_eq]
  exact body p e s m _ below meth c _ ⟨B.exec, B.bytes, ho, fun w hw => hts w (List.mem_cons_of_mem _ hw), hG⟩ B.returns B.notSynchronized hml hout hM hl
/-- what a call by name asks of the tables -/
def gMv (y : MethodName) (cc : ByteArray) (maxL : Nat) (ret : Option FieldType) (n : Nat) : Prop := Cond.instanceMethod y ∈ gT ∧ Cond.selects y.cls y y ∈ gT ∧ Cond.initialized y.cls ∈ gT ∧ Cond.code y cc maxL ret ∈ gT ∧ y.cls ≠ "java/lang/invoke/MethodHandle" ∧ y.cls ≠ "java/lang/invoke/VarHandle" ∧ (parseMethodDescriptor y.desc).map (fun d => d.parameters.length) = some n
def gMs (y : MethodName) (cc : ByteArray) (maxL : Nat) (ret : Option FieldType) (n : Nat) : Prop := Cond.static y ∈ gT ∧ Cond.initialized y.cls ∈ gT ∧ Cond.code y cc maxL ret ∈ gT ∧ y.cls ≠ "java/lang/invoke/MethodHandle" ∧ y.cls ≠ "java/lang/invoke/VarHandle" ∧ (parseMethodDescriptor y.desc).map (fun d => d.parameters.length) = some n
theorem gT_gT : ∀ w ∈ gT, w ∈ gT := fun _ h => h
theorem gcB {y : MethodName} {bytes : ByteArray} {maxL n index mc ms : Nat} {ret : Option FieldType} {rm : Room} (E : gEn p s m args c cc own X) (hcode : Cond.code y bytes maxL ret ∈ gT) (hini : Cond.initialized y.cls ∈ gT) (hd : y.cls ≠ "java/lang/invoke/MethodHandle" ∧ y.cls ≠ "java/lang/invoke/VarHandle" ∧ (parseMethodDescriptor y.desc).map (fun d => d.parameters.length) = some n) (hlk : Cond.methodLink own index y ∈ gT) (hrc : rm.cells = mc) (hrs : rm.slots = ms) (hRf : rm.frames + 1 ≤ R.frames) (hRl : 8 + (maxL + 11) + rm.locals ≤ R.locals) : CallB R s args own index y bytes maxL ret (gWs y bytes maxL ret) rm mc ms n :=
  callB_of n E.2.2.2.1 (gWs_good gT_gT hcode) rfl hrc hrs (gEn_t E hini) (gEn_t E hlk) hd ⟨hRf, hRl⟩
theorem gcV {y : MethodName} {bytes : ByteArray} {maxL n index mc ms : Nat} {ret : Option FieldType} {rm : Room} (E : gEn p s m args c cc own X) (hy : gMv y bytes maxL ret n) (hlk : Cond.methodLink own index y ∈ gT) (hrc : rm.cells = mc) (hrs : rm.slots = ms) (hRf : rm.frames + 1 ≤ R.frames) (hRl : 8 + (maxL + 11) + rm.locals ≤ R.locals) : CallW R s args own y.cls index y bytes maxL ret (gWs y bytes maxL ret) rm mc ms n :=
  ⟨gcB E hy.2.2.2.1 hy.2.2.1 hy.2.2.2.2 hlk hrc hrs hRf hRl, gEn_t E hy.1, gEn_t E hy.2.1⟩
theorem gcS {y : MethodName} {bytes : ByteArray} {maxL n index mc ms : Nat} {ret : Option FieldType} {rm : Room} (E : gEn p s m args c cc own X) (hy : gMs y bytes maxL ret n) (hlk : Cond.methodLink own index y ∈ gT) (hrc : rm.cells = mc) (hrs : rm.slots = ms) (hRf : rm.frames + 1 ≤ R.frames) (hRl : 8 + (maxL + 11) + rm.locals ≤ R.locals) : CallB R s args own index y bytes maxL ret (gWs y bytes maxL ret) rm mc ms n ∧ (Cond.static y).before args s = true :=
  ⟨gcB E hy.2.2.1 hy.2.1 hy.2.2.2 hlk hrc hrs hRf hRl, gEn_t E hy.1⟩
theorem gcSN {y : MethodName} {bytes : ByteArray} {maxL n index mc ms : Nat} {ret : Option FieldType} {rm : Room} {host : String} (E : gEn p s m args c cc own X) (hy : gMs y bytes maxL ret n) (hlk : Cond.methodLinkNest own index y host ∈ gN) (hrc : rm.cells = mc) (hrs : rm.slots = ms) (hRf : rm.frames + 1 ≤ R.frames) (hRl : 8 + (maxL + 11) + rm.locals ≤ R.locals) : va_CN R s args own index y host bytes maxL ret (gWs y bytes maxL ret) rm mc ms n ∧ (Cond.static y).before args s = true ∧ True :=
  ⟨va_cnB n E.2.2.2.1 (gWs_good gT_gT hy.2.2.1) rfl hrc hrs (va_Nw.of rfl (gEn_n E hlk)) (gEn_t E hy.2.1) hy.2.2.2 ⟨hRf, hRl⟩, gEn_t E hy.1, trivial⟩
theorem gRecv {n c0 ci : Nat} {ω : gInit} {q : vw_C} (E : gEn p s m args c cc own X) (hM : gW X n ω σ H) (hcn : c0 < n) (hk : gk c0 = ci) (h10 : ci < 10) (hc : gCl[ci]? = some q) : ∃ cell : Cell, H[X.1 + c0]? = some cell ∧ cell.vm.isStatics = false ∧ s.vm.findClass q.1 = some cell.cls := by
  exact va_recv (gEn_K E) hM (ci := ci) (q0 := c0) hc ((gWl_get hcn).trans (by rw [gE_obj hk h10]))
/-- the run of a call, by its kind -/
theorem gr_V {y : MethodName} {bytes : ByteArray} {maxL n nL index mc ms c0 ci : Nat} {ret : Option FieldType} {rm : Room} {As : List Value} {Qc : Array Value → State → Outcome → State → Prop} {q : vw_C} (E : gEn p s m args c cc own X) (hml : c.maxLocals = nL) (hsz : ls.size = nL) (hC : Met l y (gWs y bytes maxL ret) rm (va_Pc (.ref (X.1 + c0) :: As) (gB X σ)) Qc mc ms (gA X)) (hy : gMv y bytes maxL ret n) (hlk : Cond.methodLink own index y ∈ gT) (hn : As.length = n) (hk : gk c0 = ci) (h10 : ci < 10) (hci : gCl[ci]? = some q) (hq : q.1 = y.cls) (hM : gM X σ H) (hS : va_S (gA X) s.heap H locs) (hrc : rm.cells = mc) (hrs : rm.slots = ms) (hRf : rm.frames + 1 ≤ R.frames) (hRl : 8 + (maxL + 11) + rm.locals ≤ R.locals) (hRc : cells + mc ≤ R.cells) (hRs : slots + ms ≤ R.slots) (hW : (rest.map fun v => v.category).sum ≤ 8) (hdg : decode cc pc = .ok (.invokevirtual index, 3)) {st0 : List Value} (hst : st0 = As.reverse ++ .ref (X.1 + c0) :: rest) :
    va_Run p l e R s m args below meth c H locs cells slots mc ms (F0 m pc ls st0) rest (Qc (Value.ref (X.1 + c0) :: As).toArray) (gA X) := by
  have hrv := gRecv E hM (gk_in hk (by omega)) hk h10 hci
  rw [hq] at hrv
  exact va_runV ⟨E.1, E.2.1, hml, E.2.2.1, E.2.2.2.1⟩ hC (gcV E hy hlk hrc hrs hRf hRl) ⟨gB_blind X σ _, hrv, fun U hU hW => ⟨rfl, gB_at E.2.2.2.2 hM hS hU hW⟩⟩ rfl hn hsz hst (lv_room hW) hdg ⟨hRc, hRs⟩
theorem gr_S {y : MethodName} {bytes : ByteArray} {maxL n nL index mc ms : Nat} {ret : Option FieldType} {rm : Room} {As : List Value} {Qc : Array Value → State → Outcome → State → Prop} (E : gEn p s m args c cc own X) (hml : c.maxLocals = nL) (hsz : ls.size = nL) (hC : Met l y (gWs y bytes maxL ret) rm (va_Pc As (gB X σ)) Qc mc ms (gA X)) (hy : gMs y bytes maxL ret n) (hlk : Cond.methodLink own index y ∈ gT) (hn : As.length = n) (hM : gM X σ H) (hS : va_S (gA X) s.heap H locs) (hrc : rm.cells = mc) (hrs : rm.slots = ms) (hRf : rm.frames + 1 ≤ R.frames) (hRl : 8 + (maxL + 11) + rm.locals ≤ R.locals) (hRc : cells + mc ≤ R.cells) (hRs : slots + ms ≤ R.slots) (hW : (rest.map fun v => v.category).sum ≤ 8) (hdg : decode cc pc = .ok (.invokestatic index, 3)) {st0 : List Value} (hst : st0 = As.reverse ++ rest) :
    va_Run p l e R s m args below meth c H locs cells slots mc ms (F0 m pc ls st0) rest (Qc As.toArray) (gA X) :=
  va_runS ⟨E.1, E.2.1, hml, E.2.2.1, E.2.2.2.1⟩ hC (gcS E hy hlk hrc hrs hRf hRl) ⟨gB_blind X σ _, fun U hU hW => ⟨rfl, gB_at E.2.2.2.2 hM hS hU hW⟩⟩ rfl hn hsz hst (lv_room hW) hdg ⟨hRc, hRs⟩
theorem gr_SN {y : MethodName} {bytes : ByteArray} {maxL n nL index mc ms : Nat} {ret : Option FieldType} {rm : Room} {As : List Value} {host : String} {Qc : Array Value → State → Outcome → State → Prop} (E : gEn p s m args c cc own X) (hml : c.maxLocals = nL) (hsz : ls.size = nL) (hC : Met l y (gWs y bytes maxL ret) rm (va_Pc As (gB X σ)) Qc mc ms (gA X)) (hy : gMs y bytes maxL ret n) (hlk : Cond.methodLinkNest own index y host ∈ gN) (hn : As.length = n) (hM : gM X σ H) (hS : va_S (gA X) s.heap H locs) (hrc : rm.cells = mc) (hrs : rm.slots = ms) (hRf : rm.frames + 1 ≤ R.frames) (hRl : 8 + (maxL + 11) + rm.locals ≤ R.locals) (hRc : cells + mc ≤ R.cells) (hRs : slots + ms ≤ R.slots) (hW : (rest.map fun v => v.category).sum ≤ 8) (hdg : decode cc pc = .ok (.invokestatic index, 3)) {st0 : List Value} (hst : st0 = As.reverse ++ rest) :
    va_Run p l e R s m args below meth c H locs cells slots mc ms (F0 m pc ls st0) rest (Qc As.toArray) (gA X) :=
  va_runSN ⟨E.1, E.2.1, hml, E.2.2.1, E.2.2.2.1⟩ hC (gcSN E hy hlk hrc hrs hRf hRl) ⟨gB_blind X σ _, fun U hU hW => ⟨rfl, gB_at E.2.2.2.2 hM hS hU hW⟩⟩ rfl hn hsz hst (lv_room hW) hdg ⟨hRc, hRs⟩
theorem gr_VX {y : MethodName} {bytes : ByteArray} {maxL n nL index mc ms c0 ci : Nat} {ret : Option FieldType} {rm : Room} {As : List Value} {Qc : Array Value → State → Outcome → State → Prop} {XC : String → State → State → Prop} {q : vw_C} (E : gEn p s m args c cc own X) (hml : c.maxLocals = nL) (hsz : ls.size = nL) (hC : vx_Met l y (gWs y bytes maxL ret) rm (va_Pc (.ref (X.1 + c0) :: As) (gB X σ)) Qc XC mc ms (gA X)) (hy : gMv y bytes maxL ret n) (hlk : Cond.methodLink own index y ∈ gT) (hn : As.length = n) (hk : gk c0 = ci) (h10 : ci < 10) (hci : gCl[ci]? = some q) (hq : q.1 = y.cls) (hM : gM X σ H) (hS : va_S (gA X) s.heap H locs) (hrc : rm.cells = mc) (hrs : rm.slots = ms) (hRf : rm.frames + 1 ≤ R.frames) (hRl : 8 + (maxL + 11) + rm.locals ≤ R.locals) (hRc : cells + mc ≤ R.cells) (hRs : slots + ms ≤ R.slots) (hW : (rest.map fun v => v.category).sum ≤ 8) (hdg : decode cc pc = .ok (.invokevirtual index, 3)) {st0 : List Value} (hst : st0 = As.reverse ++ .ref (X.1 + c0) :: rest) :
    vx_Run p l e R s m args below meth c H locs cells slots mc ms (F0 m pc ls st0) rest (Qc (Value.ref (X.1 + c0) :: As).toArray) XC (gA X) := by
  have hrv := gRecv E hM (gk_in hk (by omega)) hk h10 hci
  rw [hq] at hrv
  exact vx_runV ⟨E.1, E.2.1, hml, E.2.2.1, E.2.2.2.1⟩ hC (gcV E hy hlk hrc hrs hRf hRl) ⟨gB_blind X σ _, hrv, fun U hU hW => ⟨rfl, gB_at E.2.2.2.2 hM hS hU hW⟩⟩ rfl hn hsz hst (lv_room hW) hdg ⟨hRc, hRs⟩
/-- behind a call, by its answer -/
theorem ga_i {r1 : Int32} {σ1 : gMem} {a : Array Value} {st0 : List Value} (hr : va_Run p l e R s m args below meth c H locs cells slots 0 0 (F0 m pc ls st0) rest (gQi X (r1, σ1) a) (gA X)) (hS : va_S (gA X) s.heap H locs) (kk : ∀ (H : Heap) (locs : List Loc), gM X σ1 H → va_S (gA X) s.heap H locs → W p l e R s m args below meth c H locs cells slots Q (F0 m (pc + 3) ls (.int r1 :: rest))) : W p l e R s m args below meth c H locs cells slots Q (F0 m pc ls st0) :=
  va_calli hr hS (fun _ _ h => h) (fun _ h => h) (fun r u t H1 locs1 ht _ hw hB _ _ hS1 => by
    obtain ⟨rfl, rfl⟩ := hw
    exact kk H1 locs1 (by rw [gBm, ht] at hB; exact hB) hS1)
theorem ga_v {r1 : Unit} {σ1 : gMem} {a : Array Value} {st0 : List Value} (hr : va_Run p l e R s m args below meth c H locs cells slots 0 0 (F0 m pc ls st0) rest (gQv X (r1, σ1) a) (gA X)) (hS : va_S (gA X) s.heap H locs) (kk : ∀ (H : Heap) (locs : List Loc), gM X σ1 H → va_S (gA X) s.heap H locs → W p l e R s m args below meth c H locs cells slots Q (F0 m (pc + 3) ls rest)) : W p l e R s m args below meth c H locs cells slots Q (F0 m pc ls st0) :=
  va_callv hr hS (fun _ _ h => h) (fun _ h => h) (fun u t H1 locs1 ht _ hw hB _ _ hS1 => by
    subst hw
    exact kk H1 locs1 (by rw [gBm, ht] at hB; exact hB) hS1)
theorem ga_o {r1 : Option Nat} {σ1 : gMem} {a : Array Value} {st0 : List Value} (hr : va_Run p l e R s m args below meth c H locs cells slots 0 0 (F0 m pc ls st0) rest (gQo X (r1, σ1) a) (gA X)) (hS : va_S (gA X) s.heap H locs) (kk : ∀ (H : Heap) (locs : List Loc), gM X σ1 H → va_S (gA X) s.heap H locs → W p l e R s m args below meth c H locs cells slots Q (F0 m (pc + 3) ls (gOp X r1 :: rest))) : W p l e R s m args below meth c H locs cells slots Q (F0 m pc ls st0) :=
  va_callq hr hS (fun _ _ h => h) (fun _ h => h) (fun r u t H1 locs1 ht _ hw hB _ _ hS1 => by
    obtain ⟨rfl, rfl⟩ := hw
    have h2 := kk H1 locs1 (by rw [gBm, ht] at hB; exact hB) hS1
    cases h3 : r1 with
    | none => rw [h3] at h2; exact h2
    | some k => rw [h3] at h2; exact h2)
theorem ga_r {r1 : Nat} {σ1 : gMem} {a : Array Value} {st0 : List Value} (hr : va_Run p l e R s m args below meth c H locs cells slots 0 0 (F0 m pc ls st0) rest (gQr X (r1, σ1) a) (gA X)) (hS : va_S (gA X) s.heap H locs) (kk : ∀ (H : Heap) (locs : List Loc), gM X σ1 H → va_S (gA X) s.heap H locs → W p l e R s m args below meth c H locs cells slots Q (F0 m (pc + 3) ls (.ref (X.1 + r1) :: rest))) : W p l e R s m args below meth c H locs cells slots Q (F0 m pc ls st0) :=
  va_callr hr hS (fun _ _ h => h) (fun _ h => h) (fun u ra t H1 locs1 ht _ hw hB _ _ hS1 => by
    subst hw
    obtain ⟨rfl, hB⟩ := hB
    exact kk H1 locs1 (by rw [ht] at hB; exact hB) hS1)
/-- an exception that comes out of a callee leaves this method too -/
theorem gx_out {E9 : String} {ce : Cell} {q9 : Addr} {Qc : Array Value → State → Outcome → State → Prop} {kx : Nat} {σx : gMem} (hout : ∀ x ∈ c.exceptionTable.toList, False) (hlocks : meth.locks = false) (h0 : kx ≠ 0) (hE : E9 = gEx kx) (hM : gM X σx H) (hS : va_S (gA X) s.heap H locs) (hcell : H[q9]? = some ce) (hv : ce.vm = .none) (hcl : s.vm.findClass E9 = some ce.cls) (hc : cells ≤ mc) (hs : slots ≤ ms) : vx_W p l e R s m args below meth c H locs cells slots (vx_MQ below Qc (gXC X kx σx) args s mc ms (gA X)) (F0 m pc ls rest) q9 :=
  vx_out (fun x hx => absurd (hout x hx) id) hlocks hcell hv hcl (fun t ht _ => ⟨σx, ⟨h0, rfl⟩, ⟨hE, by rw [ht]; exact hM⟩, hS.F ht⟩) hS.2.2 hc hs
theorem ga_Ti {e1 : Nat} {r1 : Int32} {σ1 : gMem} {mc1 ms1 : Nat} {a : Array Value} {st0 : List Value} {Qc : Array Value → State → Outcome → State → Prop} {kx : Nat} {σx : gMem} (hr : vx_Run p l e R s m args below meth c H locs cells slots mc1 ms1 (F0 m pc ls st0) rest (gQTi X (e1, r1, σ1) a) (gXC X e1 σ1) (gA X)) (hout : ∀ x ∈ c.exceptionTable.toList, False) (hlocks : meth.locks = false) (hS : va_S (gA X) s.heap H locs) (hc : cells + mc1 ≤ mc) (hs : slots + ms1 ≤ ms) (hx : e1 ≠ 0 → kx = e1 ∧ σx = σ1)
    (kk : e1 = 0 → ∀ (H : Heap) (locs : List Loc), gM X σ1 H → va_S (gA X) s.heap H locs → W p l e R s m args below meth c H locs (cells + mc1) (slots + ms1) (vx_MQ below Qc (gXC X kx σx) args s mc ms (gA X)) (F0 m (pc + 3) ls (.int r1 :: rest))) : W p l e R s m args below meth c H locs cells slots (vx_MQ below Qc (gXC X kx σx) args s mc ms (gA X)) (F0 m pc ls st0) :=
  vx_calli hr hS (fun _ _ h => h) (fun _ h => h) (fun _ _ h => h)
    (fun E9 ce q9 u t H1 locs1 ht _ hp hB _ _ hS1 hce hcv hcl => by
      obtain ⟨h0, rfl⟩ := hp
      obtain ⟨rfl, h2⟩ := hx h0
      subst h2
      exact gx_out hout hlocks h0 hB.1 (by rw [ht] at hB; exact hB.2) hS1 hce hcv hcl hc hs)
    (fun r u t H1 locs1 ht _ hw hB _ _ hS1 => by
      obtain ⟨h0, rfl, rfl⟩ := hw
      exact kk h0 H1 locs1 (by rw [gBm, ht] at hB; exact hB) hS1)
theorem ga_Tr {e1 : Nat} {r1 : Nat} {σ1 : gMem} {mc1 ms1 : Nat} {a : Array Value} {st0 : List Value} {Qc : Array Value → State → Outcome → State → Prop} {kx : Nat} {σx : gMem} (hr : vx_Run p l e R s m args below meth c H locs cells slots mc1 ms1 (F0 m pc ls st0) rest (gQTr X (e1, r1, σ1) a) (gXC X e1 σ1) (gA X)) (hout : ∀ x ∈ c.exceptionTable.toList, False) (hlocks : meth.locks = false) (hS : va_S (gA X) s.heap H locs) (hc : cells + mc1 ≤ mc) (hs : slots + ms1 ≤ ms) (hx : e1 ≠ 0 → kx = e1 ∧ σx = σ1)
    (kk : e1 = 0 → ∀ (H : Heap) (locs : List Loc), gM X σ1 H → va_S (gA X) s.heap H locs → W p l e R s m args below meth c H locs (cells + mc1) (slots + ms1) (vx_MQ below Qc (gXC X kx σx) args s mc ms (gA X)) (F0 m (pc + 3) ls (.ref (X.1 + r1) :: rest))) : W p l e R s m args below meth c H locs cells slots (vx_MQ below Qc (gXC X kx σx) args s mc ms (gA X)) (F0 m pc ls st0) := by
  intro T hT Y
  rcases hr T hT Y with ⟨v, st₀, t, T', L, h0, X', hL, e1, e2, ⟨⟨u, ra, hv, hp, hb⟩, hF⟩, st⟩ | ⟨q9, st₀, t, T', L, E9, ce, h0, X', hL, e1, e2, ⟨u, hp, hb, hF⟩, hce, hcv, hcl, st⟩
  · cases hv
    obtain ⟨k1, k2, k3⟩ := vx_keep h0 e1 hS (fun _ _ h => h) (fun _ h => h) hL hF
    obtain ⟨hz, rfl⟩ := hp
    obtain ⟨rfl, hb⟩ := hb
    obtain ⟨t2, a1, b1⟩ := kk hz T'.heap (locs ++ L) (by rw [e1]; exact hb) k3 T' rfl X'
    exact ⟨t2, st t2 a1, b1⟩
  · obtain ⟨k1, k2, k3⟩ := vx_keep h0 e1 hS (fun _ _ h => h) (fun _ h => h) hL hF
    obtain ⟨hz, rfl⟩ := hp
    obtain ⟨rfl, h2⟩ := hx hz
    subst h2
    obtain ⟨t2, a1, b1⟩ := gx_out (Qc := Qc) (ls := ls) (rest := rest) (pc := pc) hout hlocks hz hb.1 (by rw [e1]; exact hb.2) k3 (by rw [e1]; exact hce) hcv hcl hc hs T' rfl X'
    exact ⟨t2, st.trans a1, b1⟩
theorem gW_null (k : W p l e R s m args below meth c H locs cells slots Q (F0 m pc ls (.null :: rest))) : W p l e R s m args below meth c H locs cells slots Q (F0 m pc ls (gOp X none :: rest)) := k
theorem gW_some {z : Nat} (k : W p l e R s m args below meth c H locs cells slots Q (F0 m pc ls (.ref (X.1 + z) :: rest))) : W p l e R s m args below meth c H locs cells slots Q (F0 m pc ls (gOp X (some z) :: rest)) := k
theorem g_tn {x k : Int32} {z : Int} (h : ¬ x = k) (hk : k.toInt = z) : ¬ z = x.toInt := fun e9 => h (Int32.toInt_inj.mp (hk.trans e9).symm)
end GO
