/-- the text constants that are thrown: their place in SugarTowers' pool -/
def gSt : List (Nat × String) := [(102, "no such grade"), (410, "no such tongs"), (135, "no such number of tongs"), (400, "no such tower"), (84, "the grade or the number of cubes is out of range"), (405, "no such course"), (200, "no such number of a course"), (208, "no such number of a tower"), (415, "no such banquet waits"), (267, "no such number of a banquet"), (74, "the hours are out of range"), (296, "the text has an error"), (312, "an order cannot be"), (314, "an order is refused"), (319, "nothing was refused"), (364, "no such account"), (386, "no change can be undone"), (395, "there is no snapshot"), (286, "the input is full"), (56, "no such hour of the day"), (63, "the humidity is out of range"), (107, "the reach is out of range"), (115, "no room for tongs"), (150, "no room for a tower"), (92, "the cubes cannot be bought"), (160, "the course cannot be laid"), (175, "the tower has no courses"), (223, "the hour, the courses or the coins are out of range"), (229, "the banquet cannot be added")]
/-- the forms of an order: their place in Text's pool, and the text -/
def gFt : List (Nat × String) := [(67, "d+n"), (69, "d/d:d*n"), (71, "d"), (73, "n@d"), (75, "n"), (77, "")]
/-- the texts of the law, behind them -/
def gFt2 : List (Nat × String) := [(98, "h3;h1;h2"), (113, "h3;t9"), (118, "h0"), (120, "l0/1;2*3"), (122, "b0+123"), (124, "s1")]
def gFl : List Nat := [3, 7, 1, 3, 1, 0, 8, 5, 2, 8, 6, 2]
def gFb : List (List Int32) := [[100, 43, 110], [100, 47, 100, 58, 100, 42, 110], [100], [110, 64, 100], [110], [], [104, 51, 59, 104, 49, 59, 104, 50], [104, 51, 59, 116, 57], [104, 48], [108, 48, 47, 49, 59, 50, 42, 51], [98, 48, 43, 49, 50, 51], [115, 49]]
/-- what stays true of the machine -/
def gG (X : gX) (s : State) : Prop := va_K X.2.1 gCl (gTy X) s ∧ (∀ w ∈ gN, va_Nw w s) ∧ vx_Zq Bundle.tN "UNASSIGNED_STACK" Bundle.steD (gA X) s s.heap ∧ vx_Zq Bundle.tN "SUPPRESSED_SENTINEL" Bundle.listD (gA X) s s.heap ∧ (∀ q ∈ gSt, ∃ sa, vk_R RX8 q.1 q.2 sa s) ∧ vk_S 12 gFl gFb X.2.2.2.1 X.2.2.2.2.1 (gA X) s s.heap ∧ ((∀ (i : Nat) (q : Nat × String), gFt[i]? = some q → vk_R RX5 q.1 q.2 (X.2.2.2.1 i) s) ∧ (∀ (i : Nat) (q : Nat × String), gFt2[i]? = some q → vk_R RL q.1 q.2 (X.2.2.2.1 (6 + i)) s)) ∧ va_Z RJ0 "COMPACT_STRINGS" "Z" (.int 1) (gA X) s s.heap ∧ va_Zq RJ3 "SIOOBE_FORMATTER" "Ljava/util/function/BiFunction;" (gA X) s s.heap
theorem gG_warm {X : gX} {s U : State} (hW : s.WarmedH U.vm) (hk : ∀ a : Nat, a < s.heap.size → ¬ gA X a → U.heap[a]? = s.heap[a]?) (h : gG X s) : gG X U := by
  obtain ⟨h1, h2, h3, h4, h5, h6, h7, h8, h9⟩ := h
  exact ⟨va_K.moved hW.alike h1, fun w hw => gN_warm hw hW (h2 w hw), (vx_Zq.moved hW.alike h3).kept hk, (vx_Zq.moved hW.alike h4).kept hk, fun q hq => by
    obtain ⟨sa, h⟩ := h5 q hq
    exact ⟨sa, h.warm hW⟩, (vk_S.moved hW.alike h6).kept hk, ⟨fun i q hq => (h7.1 i q hq).warm hW, fun i q hq => (h7.2 i q hq).warm hW⟩, (va_Z.moved hW.alike h8).kept hk, (va_Zq.moved hW.alike h9).kept hk⟩
/-- a method's start -/
def gB (X : gX) (σ : gMem) (U : State) : Prop := gG X U ∧ gM X σ U.heap
theorem gB_blind (X : gX) (σ : gMem) (av : List Value) : FrameBlind (va_Pc av (gB X σ)) := fun a U g mk h => ⟨h.1, gG_warm (U := U.calling g mk a) (State.WarmedH.refl U) (fun _ _ _ => rfl) h.2.1, h.2.2⟩
theorem gB_at {X : gX} {σ : gMem} {s U : State} {H : Heap} {locs : List Loc} (hG : gG X s) (hM : gM X σ H) (hS : va_S (gA X) s.heap H locs) (hU : U.heap = H) (hW : s.WarmedH U.vm) : gB X σ U := ⟨gG_warm hW (fun a h1 h2 => by rw [hU]; exact hS.2.1 a h1 h2) hG, by rw [hU]; exact hM⟩
/-- what a body stands on: the machine, its code, its class, the tables, the rest -/
def gEn (p : Program) (s : State) (m : MethodId) (args : Array Value) (c : Code) (cc : ByteArray) (own : String) (X : gX) : Prop := p.tables.exec = Jvm.exec ∧ c.code = cc ∧ s.vm.findClass own = some m.cls ∧ (∀ w ∈ gT, w.before args s = true) ∧ gG X s
theorem gEn_K {p : Program} {s : State} {m : MethodId} {args : Array Value} {c : Code} {cc : ByteArray} {own : String} {X : gX} (E : gEn p s m args c cc own X) : va_K X.2.1 gCl (gTy X) s := E.2.2.2.2.1
theorem gEn_t {p : Program} {s : State} {m : MethodId} {args : Array Value} {c : Code} {cc : ByteArray} {own : String} {X : gX} (E : gEn p s m args c cc own X) {w : Cond} (h : w ∈ gT) : w.before args s = true := E.2.2.2.1 w h
theorem gEn_n {p : Program} {s : State} {m : MethodId} {args : Array Value} {c : Code} {cc : ByteArray} {own : String} {X : gX} (E : gEn p s m args c cc own X) {w : Cond} (h : w ∈ gN) : w.before args s = true := va_Nw.use (gN_tab h) (E.2.2.2.2.2.1 w h)
theorem gMap {N j : Nat} (f : Nat → Value) (h : j < N) : ((List.range N).map f)[j]? = some (f j) := by simp [h]
theorem gMset {N j : Nat} (f g : Nat → Value) {v : Value} (h1 : g j = v) (h2 : ∀ i, i ≠ j → g i = f i) : ((List.range N).map f).set j v = (List.range N).map g := by
  apply List.ext_getElem?
  intro i
  rw [List.getElem?_set]
  by_cases h : j = i
  · subst h
    rw [if_pos rfl]
    by_cases hn : j < N
    · simp [hn, h1]
    · simp [hn]
  · rw [if_neg h]
    by_cases hn : i < N
    · simp [hn, h2 i (Ne.symm h)]
    · simp [hn]
section GR
variable {p : Program} {l : Launch} {e : Env} {R : Room} {s : State} {m : MethodId} {args : Array Value} {below : List Frame} {meth : Method} {c : Code} {H : Heap} {locs : List Loc} {cells slots : Nat} {Q : State → Prop}
variable {cc : ByteArray} {pc : Nat} {ls : Array Slot} {rest : List Value} {X : gX} {σ σ1 : gMem} {ω : gInit} {n c0 c1 : Nat} {own : String}
theorem gW_D (h : n ≤ 433) : va_D (gA X) (gWl X n ω σ) := gWl_D (fun c hc => gA_in X (by omega))
theorem gg_get {C : String} {T : u_T} {N ci index : Nat} (j : Nat) (E : gEn p s m args c cc own X) (hin : ∀ w ∈ u_ws C T N, w ∈ gT) (hci : gCl[ci]? = some (C, T, N)) (hgn : gn ci = N) (h10 : ci < 10) (hj : j < N) (hTC : (T j).1 = C)
    (hl : (Cond.fieldLink own index C (T j).2.1 (T j).2.2.1).before args s = true) (hM : gW X n ω σ H) (hcn : c0 < n) (hk : gk c0 = ci) {v : Value} (hv : gV X.1 ω σ c0 j = v) (hdg : decode cc pc = .ok (.getfield index, 3))
    (kk : W p l e R s m args below meth c H locs cells slots Q (F0 m (pc + 3) ls (v :: rest))) : W p l e R s m args below meth c H locs cells slots Q (F0 m pc ls (.ref (X.1 + c0) :: rest)) :=
  va_get E.1 E.2.1 E.2.2.2.1 hin E.2.2.1 (gEn_K E) hM c0 ((gWl_get hcn).trans (by rw [gE_obj hk h10])) hci j hj hl (fun x h => by rw [hTC] at h; exact h) (by rw [hgn, gMap _ hj, hv]) hdg kk
theorem gg_getN {C host : String} {T : u_T} {N ci index : Nat} (j : Nat) (E : gEn p s m args c cc own X) (hin : ∀ w ∈ u_ws C T N, w ∈ gT) (hci : gCl[ci]? = some (C, T, N)) (hgn : gn ci = N) (h10 : ci < 10) (hj : j < N) (hTC : (T j).1 = C)
    (hl : (Cond.fieldLinkNest own index C (T j).2.1 (T j).2.2.1 host).before args s = true) (hM : gW X n ω σ H) (hcn : c0 < n) (hk : gk c0 = ci) {v : Value} (hv : gV X.1 ω σ c0 j = v) (hdg : decode cc pc = .ok (.getfield index, 3))
    (kk : W p l e R s m args below meth c H locs cells slots Q (F0 m (pc + 3) ls (v :: rest))) : W p l e R s m args below meth c H locs cells slots Q (F0 m pc ls (.ref (X.1 + c0) :: rest)) :=
  va_getN E.1 E.2.1 E.2.2.2.1 hin E.2.2.1 (gEn_K E) hM c0 ((gWl_get hcn).trans (by rw [gE_obj hk h10])) hci j hj hl (fun x h => by rw [hTC] at h; exact h) (by rw [hgn, gMap _ hj, hv]) hdg kk
theorem gV_ms {B : Nat} {c' i j : Nat} {x : Int32} (h : c' ≠ c0 ∨ i ≠ j) : gV B ω (ms σ c0 j x) c' i = gV B ω σ c' i := by
  unfold gV
  cases gr (gk c') i with
  | some o => rfl
  | none =>
    show Value.int _ = Value.int _
    by_cases hc : c' = c0
    · subst hc
      rcases h with h | h
      · exact absurd rfl h
      · rw [ms_sn h]
    · rw [ms_n hc]
theorem gW_put {ci j : Nat} {x : Int32} (hk : gk c0 = ci) (h10 : ci < 10) (hg : gr ci j = none) : (gWl X n ω σ).set c0 (X.1 + c0, .inr (ci, ((List.range (gn ci)).map (gV X.1 ω σ c0)).set j (.int x))) = gWl X n ω (ms σ c0 j x) := by
  refine gWl_set ?_ (fun c' hc => gE_congr rfl (ms_n hc))
  rw [gE_obj hk h10, gMset (f := gV X.1 ω σ c0) (g := gV X.1 ω (ms σ c0 j x) c0)]
  · rw [gV_int hk hg, ms_ss]
  · exact fun i hi => gV_ms (Or.inr hi)
theorem gg_put {C : String} {T : u_T} {N ci index : Nat} (j : Nat) {ty : FieldType} {x : Int32} {A : Nat → Prop} (E : gEn p s m args c cc own X) (hin : ∀ w ∈ u_ws C T N, w ∈ gT) (ty0 : Nat → FieldType) (hty : ∀ k, k < N → parseFieldDescriptor (T k).2.2.1 = some (ty0 k)) (hnm : ∀ a, a < N → ∀ b, b < N → a ≠ b → (T a).2.1 ≠ (T b).2.1) (hci : gCl[ci]? = some (C, T, N)) (hgn : gn ci = N) (h10 : ci < 10) (hj : j < N) (hTC : (T j).1 = C)
    (hl : (Cond.fieldLink own index C (T j).2.1 (T j).2.2.1).before args s = true) (hfin : (T j).2.2.2 = false) (hd : parseFieldDescriptor (T j).2.2.1 = some ty) (hn : narrow ty (.int x) = .int x) (hfit : fits ty (.int x) = true) (hg : gr ci j = none) (hA : ∀ c, c < n → A (X.1 + c))
    (hM : gW X n ω σ H) (hS : va_S A s.heap H locs) (hcn : c0 < n) (hk : gk c0 = ci) (hσ : σ1 = ms σ c0 j x) (hdg : decode cc pc = .ok (.putfield index, 3))
    (kk : ∀ (H1 : Heap) (locs1 : List Loc), gW X n ω σ1 H1 → va_S A s.heap H1 locs1 → W p l e R s m args below meth c H1 locs1 cells slots Q (F0 m (pc + 3) ls rest)) : W p l e R s m args below meth c H locs cells slots Q (F0 m pc ls (.int x :: .ref (X.1 + c0) :: rest)) := by
  subst hσ
  refine va_put E.1 E.2.1 E.2.2.2.1 hin ty0 hty hnm E.2.2.1 (gEn_K E) hM (gWl_D hA) hS c0 ((gWl_get hcn).trans (by rw [gE_obj hk h10])) hci j hj hl (fun x h => by rw [hTC] at h; exact h) hfin hd hn hfit (by rw [hgn]; simpa using hj) hdg (fun H1 locs1 h1 _ h3 => kk H1 locs1 ?_ h3)
  rw [gW_put hk h10 hg] at h1
  exact h1
theorem gg_putN {C host : String} {T : u_T} {N ci index : Nat} (j : Nat) {ty : FieldType} {x : Int32} {A : Nat → Prop} (E : gEn p s m args c cc own X) (hin : ∀ w ∈ u_ws C T N, w ∈ gT) (ty0 : Nat → FieldType) (hty : ∀ k, k < N → parseFieldDescriptor (T k).2.2.1 = some (ty0 k)) (hnm : ∀ a, a < N → ∀ b, b < N → a ≠ b → (T a).2.1 ≠ (T b).2.1) (hci : gCl[ci]? = some (C, T, N)) (hgn : gn ci = N) (h10 : ci < 10) (hj : j < N) (hTC : (T j).1 = C)
    (hl : (Cond.fieldLinkNest own index C (T j).2.1 (T j).2.2.1 host).before args s = true) (hfin : (T j).2.2.2 = false) (hd : parseFieldDescriptor (T j).2.2.1 = some ty) (hn : narrow ty (.int x) = .int x) (hfit : fits ty (.int x) = true) (hg : gr ci j = none) (hA : ∀ c, c < n → A (X.1 + c))
    (hM : gW X n ω σ H) (hS : va_S A s.heap H locs) (hcn : c0 < n) (hk : gk c0 = ci) (hσ : σ1 = ms σ c0 j x) (hdg : decode cc pc = .ok (.putfield index, 3))
    (kk : ∀ (H1 : Heap) (locs1 : List Loc), gW X n ω σ1 H1 → va_S A s.heap H1 locs1 → W p l e R s m args below meth c H1 locs1 cells slots Q (F0 m (pc + 3) ls rest)) : W p l e R s m args below meth c H locs cells slots Q (F0 m pc ls (.int x :: .ref (X.1 + c0) :: rest)) := by
  subst hσ
  refine va_putN E.1 E.2.1 E.2.2.2.1 hin ty0 hty hnm E.2.2.1 (gEn_K E) hM (gWl_D hA) hS c0 ((gWl_get hcn).trans (by rw [gE_obj hk h10])) hci j hj hl (fun x h => by rw [hTC] at h; exact h) hfin hd hn hfit (by rw [hgn]; simpa using hj) hdg (fun H1 locs1 h1 _ h3 => kk H1 locs1 ?_ h3)
  rw [gW_put hk h10 hg] at h1
  exact h1
theorem gg_iald {i : Int32} (E : gEn p s m args c cc own X) (hM : gW X n ω σ H) (hcn : c0 < n) (hk : gk c0 = 20) (hin : vp_in i (gl c0)) (hdg : decode cc pc = .ok (.iaload, 1))
    (kk : W p l e R s m args below meth c H locs cells slots Q (F0 m (pc + 1) ls (.int (σ c0 i.toNatClampNeg) :: rest))) : W p l e R s m args below meth c H locs cells slots Q (F0 m pc ls (.int i :: .ref (X.1 + c0) :: rest)) :=
  va_iald E.1 E.2.1 (gEn_K E) hM c0 0 ((gWl_get hcn).trans (by rw [gE_int hk])) rfl hin hdg kk
theorem gg_cald {i : Int32} (E : gEn p s m args c cc own X) (hM : gW X n ω σ H) (hcn : c0 < n) (hk : gk c0 = 21) (hin : vp_in i (gl c0)) (hdg : decode cc pc = .ok (.caload, 1))
    (kk : W p l e R s m args below meth c H locs cells slots Q (F0 m (pc + 1) ls (.int (σ c0 i.toNatClampNeg) :: rest))) : W p l e R s m args below meth c H locs cells slots Q (F0 m pc ls (.int i :: .ref (X.1 + c0) :: rest)) :=
  va_cald E.1 E.2.1 (gEn_K E) hM c0 1 ((gWl_get hcn).trans (by rw [gE_chr hk])) rfl hin hdg kk
theorem gg_aald {i : Int32} {k o : Nat} {C : String} (E : gEn p s m args c cc own X) (hM : gW X n ω σ H) (hcn : c0 < n) (hk : gk c0 = k) (h22 : 22 ≤ k) (hC : (gTy X)[k - 20]? = some (X.2.2.1 (k - 20), .object C)) (hin : vp_in i (gl c0)) (ho : gr k i.toNatClampNeg = some o) (hω : ω c0 i.toNatClampNeg = true) (hdg : decode cc pc = .ok (.aaload, 1))
    (kk : W p l e R s m args below meth c H locs cells slots Q (F0 m (pc + 1) ls (.ref (X.1 + (c0 + o)) :: rest))) : W p l e R s m args below meth c H locs cells slots Q (F0 m pc ls (.int i :: .ref (X.1 + c0) :: rest)) := by
  refine va_aldq E.1 E.2.1 (gEn_K E) hM c0 (k - 20) ((gWl_get hcn).trans (by rw [gE_ref hk h22])) hC hin hdg ?_
  rw [ho]
  simp only [hω, if_true]
  exact kk
theorem gW_mc {f : Nat → Int32} (hk : gk c0 = 20 ∨ gk c0 = 21) : (gWl X n ω σ).set c0 (X.1 + c0, .inl (X.2.2.1 (gk c0 - 20), gl c0, .inl f)) = gWl X n ω (mc σ c0 f) := by
  refine gWl_set ?_ (fun c' hc => gE_congr rfl (mc_n hc))
  rcases hk with h | h
  · rw [gE_int h, mc_s, h]
  · rw [gE_chr h, mc_s, h]
theorem gg_iast {i x : Int32} {A : Nat → Prop} (E : gEn p s m args c cc own X) (hA : ∀ c, c < n → A (X.1 + c)) (hM : gW X n ω σ H) (hS : va_S A s.heap H locs) (hcn : c0 < n) (hk : gk c0 = 20) (hin : vp_in i (gl c0)) (hσ : σ1 = ms σ c0 i.toNatClampNeg x) (hdg : decode cc pc = .ok (.iastore, 1))
    (kk : ∀ (H1 : Heap) (locs1 : List Loc), gW X n ω σ1 H1 → va_S A s.heap H1 locs1 → W p l e R s m args below meth c H1 locs1 cells slots Q (F0 m (pc + 1) ls rest)) : W p l e R s m args below meth c H locs cells slots Q (F0 m pc ls (.int x :: .int i :: .ref (X.1 + c0) :: rest)) := by
  subst hσ
  refine va_iast E.1 E.2.1 (gEn_K E) hM (gWl_D hA) hS c0 0 ((gWl_get hcn).trans (by rw [gE_int hk])) rfl hin hdg (fun H1 locs1 h1 _ h3 => kk H1 locs1 ?_ h3)
  have e := gW_mc (X := X) (n := n) (ω := ω) (σ := σ) (f := upd (σ c0) i.toNatClampNeg x) (Or.inl hk)
  rw [hk] at e
  rw [e] at h1
  exact h1
theorem gg_cast {i x : Int32} {A : Nat → Prop} (E : gEn p s m args c cc own X) (hA : ∀ c, c < n → A (X.1 + c)) (hM : gW X n ω σ H) (hS : va_S A s.heap H locs) (hcn : c0 < n) (hk : gk c0 = 21) (hin : vp_in i (gl c0)) (hσ : σ1 = ms σ c0 i.toNatClampNeg (vp_nar .char x)) (hdg : decode cc pc = .ok (.castore, 1))
    (kk : ∀ (H1 : Heap) (locs1 : List Loc), gW X n ω σ1 H1 → va_S A s.heap H1 locs1 → W p l e R s m args below meth c H1 locs1 cells slots Q (F0 m (pc + 1) ls rest)) : W p l e R s m args below meth c H locs cells slots Q (F0 m pc ls (.int x :: .int i :: .ref (X.1 + c0) :: rest)) := by
  subst hσ
  refine va_cast E.1 E.2.1 (gEn_K E) hM (gWl_D hA) hS c0 1 ((gWl_get hcn).trans (by rw [gE_chr hk])) rfl hin hdg (fun H1 locs1 h1 _ h3 => kk H1 locs1 ?_ h3)
  have e := gW_mc (X := X) (n := n) (ω := ω) (σ := σ) (f := upd (σ c0) i.toNatClampNeg (vp_nar .char x)) (Or.inr hk)
  rw [hk] at e
  rw [e] at h1
  exact h1
theorem gg_copy {sp dp k : Int32} {index nL : Nat} {A : Nat → Prop} (E : gEn p s m args c cc own X) (hml : c.maxLocals = nL) (hsz : ls.size = nL) (hl : Cond.methodLink own index arraycopyName ∈ gT) (h2 : Cond.native arraycopyName ∈ gT) (h3 : Cond.static arraycopyName ∈ gT) (h4 : Cond.initialized "java/lang/System" ∈ gT) (hA : ∀ c, c < n → A (X.1 + c))
    (hM : gW X n ω σ H) (hS : va_S A s.heap H locs) (hcn0 : c0 < n) (hk0 : gk c0 = 20) (hcn1 : c1 < n) (hk1 : gk c1 = 20) (g1 : ¬ sp < 0) (g2 : ¬ dp < 0) (g3 : ¬ k < 0) (g4 : sp.toNatClampNeg + k.toNatClampNeg ≤ gl c0) (g5 : dp.toNatClampNeg + k.toNatClampNeg ≤ gl c1) (hσ : σ1 = mc σ c1 (va_cpy (σ c0) (σ c1) sp.toNatClampNeg dp.toNatClampNeg k.toNatClampNeg))
    (hframes : 1 ≤ R.frames) (hlocals : (rest.map fun v => v.category).sum + (nativeFrameWords "java/lang/System" "arraycopy" 5 + 11) ≤ R.locals) (hdg : decode cc pc = .ok (.invokestatic index, 3))
    (kk : ∀ (H1 : Heap) (locs1 : List Loc), gW X n ω σ1 H1 → va_S A s.heap H1 locs1 → W p l e R s m args below meth c H1 locs1 cells slots Q (F0 m (pc + 3) ls rest)) : W p l e R s m args below meth c H locs cells slots Q (F0 m pc ls (.int k :: .int dp :: .ref (X.1 + c1) :: .int sp :: .ref (X.1 + c0) :: rest)) := by
  subst hσ
  refine va_copyi E.1 E.2.1 (hml.trans hsz.symm) E.2.2.1 (gEn_t E hl) (gEn_t E h2) (gEn_t E h3) (gEn_t E h4) (gEn_K E) hM (gWl_D hA) hS c0 c1 0 0 ((gWl_get hcn0).trans (by rw [gE_int hk0])) ((gWl_get hcn1).trans (by rw [gE_int hk1])) rfl rfl rfl g1 g2 g3 g4 g5 (fun _ _ => rfl) hframes hlocals hdg (fun H1 locs1 h1 _ h3 => kk H1 locs1 ?_ h3)
  have e := gW_mc (X := X) (n := n) (ω := ω) (σ := σ) (f := va_cpy (σ c0) (σ c1) sp.toNatClampNeg dp.toNatClampNeg k.toNatClampNeg) (Or.inl hk1)
  rw [hk1] at e
  rw [e] at h1
  exact h1
theorem gg_max {x y : Int32} {index nL : Nat} (E : gEn p s m args c cc own X) (hml : c.maxLocals = nL) (hsz : ls.size = nL) (hl : Cond.methodLink own index Lib.Math.max.name ∈ gT) (h2 : Cond.static Lib.Math.max.name ∈ gT) (h3 : Cond.initialized "java/lang/Math" ∈ gT) (h4 : Cond.code Lib.Math.max.name Lib.Math.max.code 2 (some .int) ∈ gT)
    (hframes : 1 ≤ R.frames) (hlocals : (rest.map fun v => v.category).sum + 13 ≤ R.locals) (hc : cells ≤ R.cells) (hs : slots ≤ R.slots) (hdg : decode cc pc = .ok (.invokestatic index, 3))
    (kk : W p l e R s m args below meth c H locs cells slots Q (F0 m (pc + 3) ls (.int (if x < y then y else x) :: rest))) : W p l e R s m args below meth c H locs cells slots Q (F0 m pc ls (.int y :: .int x :: rest)) :=
  va_mmax E.1 E.2.1 (hml.trans hsz.symm) E.2.2.1 (gEn_t E hl) (gEn_t E h2) (gEn_t E h3) (gEn_t E h4) hframes hlocals hc hs hdg kk
theorem gg_min {x y : Int32} {index nL : Nat} (E : gEn p s m args c cc own X) (hml : c.maxLocals = nL) (hsz : ls.size = nL) (hl : Cond.methodLink own index Lib.Math.min.name ∈ gT) (h2 : Cond.static Lib.Math.min.name ∈ gT) (h3 : Cond.initialized "java/lang/Math" ∈ gT) (h4 : Cond.code Lib.Math.min.name Lib.Math.min.code 2 (some .int) ∈ gT)
    (hframes : 1 ≤ R.frames) (hlocals : (rest.map fun v => v.category).sum + 13 ≤ R.locals) (hc : cells ≤ R.cells) (hs : slots ≤ R.slots) (hdg : decode cc pc = .ok (.invokestatic index, 3))
    (kk : W p l e R s m args below meth c H locs cells slots Q (F0 m (pc + 3) ls (.int (if y < x then y else x) :: rest))) : W p l e R s m args below meth c H locs cells slots Q (F0 m pc ls (.int y :: .int x :: rest)) :=
  va_mmin E.1 E.2.1 (hml.trans hsz.symm) E.2.2.1 (gEn_t E hl) (gEn_t E h2) (gEn_t E h3) (gEn_t E h4) hframes hlocals hc hs hdg kk
theorem gg_alen (E : gEn p s m args c cc own X) (hM : gW X n ω σ H) (hcn : c0 < n) (hk : gk c0 = 20) (hdg : decode cc pc = .ok (.arraylength, 1))
    (kk : W p l e R s m args below meth c H locs cells slots Q (F0 m (pc + 1) ls (.int (Int32.ofNat (gl c0)) :: rest))) : W p l e R s m args below meth c H locs cells slots Q (F0 m pc ls (.ref (X.1 + c0) :: rest)) :=
  va_alen E.1 E.2.1 (gEn_K E) hM c0 0 ((gWl_get hcn).trans (by rw [gE_int hk])) rfl rfl hdg kk
end GR
