/-! THE CONSTRUCTORS: a world that grows: how many cells, how many slots they have, which references are set, the ints -/
abbrev gZ : Type := Nat × Nat × gInit × gMem
def zN (N : Nat) (z : gZ) : gZ := (z.1 + 1, z.2.1 + N, (fun c => if c = z.1 then (fun _ => false) else z.2.2.1 c), mc z.2.2.2 z.1 (fun _ => 0))
def zR (z : gZ) (c j : Nat) : gZ := (z.1, z.2.1, (fun c' j' => if c' = c ∧ j' = j then true else z.2.2.1 c' j'), z.2.2.2)
def zI (z : gZ) (c j : Nat) (x : Int32) : gZ := (z.1, z.2.1, z.2.2.1, ms z.2.2.2 c j x)
def gWz (X : gX) (z : gZ) (H : Heap) : Prop := gW X z.1 z.2.2.1 z.2.2.2 H ∧ z.1 ≤ 433 ∧ 0 < z.1
def gAOl : List String := [RX6, RX7, RX0, RX2, RX3]
def gAO (s : State) : Prop := ∀ C ∈ gAOl, va_AO C s
def gBz (X : gX) (z : gZ) (U : State) : Prop := gG X U ∧ gAO U ∧ gWz X z U.heap ∧ U.heap.size = X.1 + z.1
def gQz (X : gX) (z : gZ) : Array Value → State → Outcome → State → Prop := va_Qv (fun u => u = z) (fun u t => gWz X u t.heap) (gA X)
def g3 {β : Type} (o : Option gZ) (k : gZ → Option β) : Option β := match o with
  | none => none
  | some q => k q
theorem g3_o {β : Type} {o : Option gZ} {k : gZ → Option β} {r : β} (h : g3 o k = some r) : ∃ z : gZ, o = some z ∧ k z = some r := by
  cases o with
  | none => cases h
  | some q => exact ⟨q, rfl, h⟩
theorem gBz_blind (X : gX) (z : gZ) (av : List Value) : FrameBlind (va_Pc av (gBz X z)) := fun a U g mk h => ⟨h.1, gG_warm (U := U.calling g mk a) (State.WarmedH.refl U) (fun _ _ _ => rfl) h.2.1, fun C hC => va_AO.moved (u := U) (U := U.calling g mk a) (Vm.Alike.refl U.vm) (h.2.2.1 C hC), h.2.2.2⟩
theorem gcz {t B a b : Nat} (h : t = B + a) (e : b = a) : t = B + b := by rw [e]; exact h
section GC
variable {p : Program} {l : Launch} {e : Env} {R : Room} {s : State} {m : MethodId} {args : Array Value} {below : List Frame} {meth : Method} {c : Code} {H : Heap} {locs : List Loc} {cells slots : Nat} {Q : State → Prop}
variable {cc : ByteArray} {pc : Nat} {ls : Array Slot} {rest : List Value} {X : gX} {z z1 : gZ} {c0 c1 : Nat} {own : String}
theorem gW_succ {H1 : Heap} {w w' : gInit} {μ μ' : gMem} {n : Nat} (hold : gW X n w μ H) (hk : ∀ q : Nat, q < H.size → H1[q]? = H[q]?) (hnew : va_at X.2.1 gCl (X.1 + n, gE X w' μ' n) H1) (hc : ∀ k, k < n → gE X w' μ' k = gE X w μ k) : gW X (n + 1) w' μ' H1 := by
  intro k q h
  obtain ⟨h1, rfl⟩ := gWl_inv h
  by_cases hkn : k = n
  · subst hkn
    exact hnew
  · have h2 : k < n := by omega
    have h3 := hold k _ (gWl_get (X := X) (ω := w) (σ := μ) h2)
    rw [hc k h2]
    exact h3.kept (hk _ h3.lt)
theorem gE_zN {N k : Nat} (h : k < z.1) : gE X (zN N z).2.2.1 (zN N z).2.2.2 k = gE X z.2.2.1 z.2.2.2 k := by
  have h2 : ¬ k = z.1 := by omega
  exact gE_congr (by simp [zN, h2]) (by simp [zN, mc, h2])
theorem W_size (k : H.size ≤ s.heap.size + cells → W p l e R s m args below meth c H locs cells slots Q (F0 m pc ls rest)) : W p l e R s m args below meth c H locs cells slots Q (F0 m pc ls rest) := by
  intro T hT X
  exact k (by rw [← hT]; exact X.heapSize) T hT X
theorem gWz_lo (hM : gWz X z H) : X.1 + z.1 ≤ H.size := by
  obtain ⟨h1, -, h3⟩ := hM
  have := (h1 (z.1 - 1) _ (gWl_get (by omega))).lt
  have h4 : X.1 + (z.1 - 1) < H.size := this
  omega
theorem gWz_A (hM : gWz X z H) : ∀ c, c < z.1 → gA X (X.1 + c) := fun c hc => gA_in X (by have := hM.2.1; omega)
theorem gz_new {C : String} {T : u_T} {N ci index : Nat} (E : gEn p s m args c cc own X) (hin : ∀ w ∈ u_ws C T N, w ∈ gT) (ty0 : Nat → FieldType) (hty : ∀ k, k < N → parseFieldDescriptor (T k).2.2.1 = some (ty0 k)) (hci : gCl[ci]? = some (C, T, N)) (hgn : gn ci = N) (h10 : ci < 10)
    (w1 : Cond.classLink own index C ∈ gT) (w2 : Cond.instantiable C N ∈ gT) (w3 : Cond.initialized C ∈ gT) (hdef : ∀ j, j < N → defaultValue (ty0 j) = (match gr ci j with | none => Value.int 0 | some _ => Value.null)) (hM : gWz X z H) (hS : va_S (gA X) s.heap H locs) (hcz : s.heap.size + cells = X.1 + z.1) (hk : gk z.1 = ci) (hcells : cells + 1 ≤ R.cells) (hslots : slots + N ≤ R.slots) (hdg : decode cc pc = .ok (.new index, 3))
    (kk : ∀ (H : Heap), gWz X (zN N z) H → va_S (gA X) s.heap H locs → W p l e R s m args below meth c H locs (cells + 1) (slots + N) Q (F0 m (pc + 3) ls (.ref (X.1 + z.1) :: rest))) : W p l e R s m args below meth c H locs cells slots Q (F0 m pc ls rest) := by
  refine W_size (fun hsz0 => ?_)
  have hsz : H.size = X.1 + z.1 := by have := gWz_lo hM; omega
  have hKn := (gEn_K E).1 ci _ hci
  refine W.newcK E.1 E.2.1 E.2.2.1 (gEn_t E w1) (gEn_t E w2) (gEn_t E w3) rfl hdg hcells hslots hKn.2.1 hsz fun H1 kC hkC e1 z1 o1 => ?_
  have o2 : ∀ q : Nat, q < H.size → H1[q]? = H[q]? := fun q hq => o1 q (by rw [← hsz]; exact hq)
  refine kk H1 ⟨gW_succ hM.1 o2 ?_ (fun k hk => gE_zN hk), gk_in hk (by omega), Nat.succ_pos _⟩ ⟨Nat.le_trans hS.1 (by rw [hsz, z1]; omega), fun x h1 h2 => (o2 x (Nat.lt_of_lt_of_le h1 hS.1)).trans (hS.2.1 x h1 h2), hS.2.2⟩
  rw [gE_obj hk h10]
  refine ⟨_, hci, (u_born ty0 E.2.2.2.1 hin hKn hkC e1 hty).to (fun j hj => ?_)⟩
  show defaultValue (ty0 j) = vp_V _ j
  rw [hdef j hj]
  unfold vp_V
  rw [show (ci, List.map (gV X.1 (zN N z).2.2.1 (zN N z).2.2.2 z.1) (List.range (gn ci))).2.getD j Value.null = gV X.1 (zN N z).2.2.1 (zN N z).2.2.2 z.1 j by rw [hgn, List.getD_eq_getElem?_getD, gMap _ hj]; rfl]
  unfold gV
  rw [hk]
  cases gr ci j with
  | none => simp [zN, mc]
  | some o => simp [zN]
theorem gz_arr {atype : ArrayType} {k N : Nat} {x : Int32} (E : gEn p s m args c cc own X) (hka : k = 20 ∧ atype = .int ∨ k = 21 ∧ atype = .char) (harr : Cond.arrayClass (newarray.typeOf atype) ∈ gT) (hM : gWz X z H) (hS : va_S (gA X) s.heap H locs) (hcz : s.heap.size + cells = X.1 + z.1) (hk : gk z.1 = k) (hgl : gl z.1 = N) (hx0 : ¬ x < 0) (hN : x.toNatClampNeg = N) (hbytes : N * componentBytes (newarray.typeOf atype) ≤ 536870912) (hcells : cells + 1 ≤ R.cells) (hslots : slots + N ≤ R.slots) (hdg : decode cc pc = .ok (.newarray atype, 2))
    (kk : ∀ (H : Heap), gWz X (zN N z) H → va_S (gA X) s.heap H locs → W p l e R s m args below meth c H locs (cells + 1) (slots + N) Q (F0 m (pc + 2) ls (.ref (X.1 + z.1) :: rest))) : W p l e R s m args below meth c H locs cells slots Q (F0 m pc ls (.int x :: rest)) := by
  refine W_size (fun hsz0 => ?_)
  have hsz : H.size = X.1 + z.1 := by have := gWz_lo hM; omega
  refine va_newaK E.1 E.2.1 (gEn_t E harr) rfl hdg rfl hx0 hN hbytes hcells hslots hsz fun H1 cA e1 z1 o1 _ hNm => ?_
  have o2 : ∀ q : Nat, q < H.size → H1[q]? = H[q]? := fun q hq => o1 q (by rw [← hsz]; exact hq)
  have hm : (zN N z).2.2.2 z.1 = fun _ => 0 := by simp [zN, mc]
  rcases hka with ⟨rfl, rfl⟩ | ⟨rfl, rfl⟩
  · refine kk H1 ⟨gW_succ hM.1 o2 ?_ (fun k hk => gE_zN hk), gk_in hk (by omega), Nat.succ_pos _⟩ ⟨Nat.le_trans hS.1 (by rw [hsz, z1]; omega), fun x h1 h2 => (o2 x (Nat.lt_of_lt_of_le h1 hS.1)).trans (hS.2.1 x h1 h2), hS.2.2⟩
    rw [gE_int hk, hm, hgl]
    have h2 := ((gEn_K E).2 0 _ rfl).2
    cases Option.some.inj (hNm.symm.trans h2)
    show H1[_]? = some (vp_cell _ _)
    rw [vp_cell_i]
    exact e1
  · refine kk H1 ⟨gW_succ hM.1 o2 ?_ (fun k hk => gE_zN hk), gk_in hk (by omega), Nat.succ_pos _⟩ ⟨Nat.le_trans hS.1 (by rw [hsz, z1]; omega), fun x h1 h2 => (o2 x (Nat.lt_of_lt_of_le h1 hS.1)).trans (hS.2.1 x h1 h2), hS.2.2⟩
    rw [gE_chr hk, hm, hgl]
    have h2 := ((gEn_K E).2 1 _ rfl).2
    cases Option.some.inj (hNm.symm.trans h2)
    show H1[_]? = some (vp_cell _ _)
    rw [vp_cell_i]
    exact e1
theorem gz_arrq {C : String} {k N index : Nat} {x : Int32} (E : gEn p s m args c cc own X) (hAO : gAO s) (hC : C ∈ gAOl) (h22 : 22 ≤ k) (hk99 : k < 99) (hTy : (gTy X)[k - 20]? = some (X.2.2.1 (k - 20), .object C)) (w1 : Cond.classLink own index C ∈ gT) (hM : gWz X z H) (hS : va_S (gA X) s.heap H locs) (hcz : s.heap.size + cells = X.1 + z.1) (hk : gk z.1 = k) (hgl : gl z.1 = N) (hx0 : ¬ x < 0) (hN : x.toNatClampNeg = N) (hbytes : N * 4 ≤ 536870912) (hcells : cells + 1 ≤ R.cells) (hslots : slots + N ≤ R.slots) (hdg : decode cc pc = .ok (.anewarray index, 3))
    (kk : ∀ (H : Heap), gWz X (zN N z) H → va_S (gA X) s.heap H locs → W p l e R s m args below meth c H locs (cells + 1) (slots + N) Q (F0 m (pc + 3) ls (.ref (X.1 + z.1) :: rest))) : W p l e R s m args below meth c H locs cells slots Q (F0 m pc ls (.int x :: rest)) := by
  subst hN
  refine W_size (fun hsz0 => ?_)
  have hsz : H.size = X.1 + z.1 := by have := gWz_lo hM; omega
  refine W.anew E.1 E.2.1 E.2.2.1 (gEn_t E w1) (va_AO.use (hAO C hC)) rfl hdg rfl hx0 hbytes hcells hslots fun cA kA comp f1 f2 f3 f4 => ?_
  generalize hH1 : H.push ({ cls := cA, slots := Array.replicate x.toNatClampNeg .null, vm := .none } : Cell) = H1
  have z1 : H1.size = H.size + 1 := by rw [← hH1, Array.size_push]
  have e1 : H1[H.size]? = some (arrV cA x.toNatClampNeg (fun _ => .null)) := by rw [← hH1, Array.getElem?_push_size, ← arrV_new]
  have o2 : ∀ q : Nat, q < H.size → H1[q]? = H[q]? := fun q hq => by rw [← hH1, Array.getElem?_push, if_neg (Nat.ne_of_lt hq)]
  rw [hsz]
  rw [hsz] at e1
  refine kk H1 ⟨gW_succ hM.1 o2 ?_ (fun k hk => gE_zN hk), gk_in hk hk99, Nat.succ_pos _⟩ ⟨Nat.le_trans hS.1 (by omega), fun x h1 h2 => (o2 x (Nat.lt_of_lt_of_le h1 hS.1)).trans (hS.2.1 x h1 h2), hS.2.2⟩
  rw [gE_ref hk h22, hgl]
  obtain ⟨kA2, comp2, -, -, -, g4⟩ := ((gEn_K E).2 (k - 20) _ hTy).2
  have g5 : X.2.2.1 (k - 20) = cA := Option.some.inj (g4.symm.trans f1)
  show H1[_]? = some (vp_cell _ _)
  rw [vp_cell_q, g5, e1]
  congr 2
  funext j
  cases gr k j with
  | none => rfl
  | some o => simp [zN]; rfl
theorem gE_zR_n {k j : Nat} (h : k ≠ c0) : gE X (zR z c0 j).2.2.1 (zR z c0 j).2.2.2 k = gE X z.2.2.1 z.2.2.2 k := gE_congr (by funext i; simp [zR, h]) rfl
theorem gz_putr {C : String} {T : u_T} {N ci index o v : Nat} (j : Nat) (E : gEn p s m args c cc own X) (hin2 : meth.name = "<init>") (hin : ∀ w ∈ u_ws C T N, w ∈ gT) (ty0 : Nat → FieldType) (hty : ∀ k, k < N → parseFieldDescriptor (T k).2.2.1 = some (ty0 k)) (hnm : ∀ a, a < N → ∀ b, b < N → a ≠ b → (T a).2.1 ≠ (T b).2.1) (hci : gCl[ci]? = some (C, T, N)) (hgn : gn ci = N) (h10 : ci < 10) (hj : j < N) (hTC : (T j).1 = C) (hCo : C = own)
    (hl : (Cond.fieldLink own index C (T j).2.1 (T j).2.2.1).before args s = true) (hfin : (T j).2.2.2 = true) (hd : parseFieldDescriptor (T j).2.2.1 = some (ty0 j)) (hn : narrow (ty0 j) (.ref (X.1 + v)) = .ref (X.1 + v)) (hfit : fits (ty0 j) (.ref (X.1 + v)) = true) (hg : gr ci j = some o) (hv : v = c0 + o)
    (hM : gWz X z H) (hS : va_S (gA X) s.heap H locs) (hcn : c0 < z.1) (hk : gk c0 = ci) (hz : z1 = zR z c0 j) (hdg : decode cc pc = .ok (.putfield index, 3))
    (kk : ∀ (H : Heap) (locs : List Loc), gWz X z1 H → va_S (gA X) s.heap H locs → W p l e R s m args below meth c H locs cells slots Q (F0 m (pc + 3) ls rest)) : W p l e R s m args below meth c H locs cells slots Q (F0 m pc ls (.ref (X.1 + v) :: .ref (X.1 + c0) :: rest)) := by
  subst hz
  refine va_putF E.1 E.2.1 E.2.2.2.1 hin ty0 hty hnm E.2.2.1 (gEn_K E) hM.1 (gWl_D (gWz_A hM)) hS c0 ((gWl_get hcn).trans (by rw [gE_obj hk h10])) hci j hj hl (fun x h => by rw [hTC] at h; exact h) hfin hin2 (hTC.trans hCo) hd hn hfit (by rw [hgn]; simpa using hj) hdg (fun H1 locs1 h1 _ h3 => kk H1 locs1 ⟨?_, hM.2⟩ h3)
  rw [gWl_set (X := X) (n := z.1) (ω := z.2.2.1) (σ := z.2.2.2) (ω' := (zR z c0 j).2.2.1) (σ' := (zR z c0 j).2.2.2) (c := c0) ?_ (fun c' hc => gE_zR_n hc)] at h1
  · exact h1
  · rw [gE_obj hk h10, gMset (f := gV X.1 z.2.2.1 z.2.2.2 c0) (g := gV X.1 (zR z c0 j).2.2.1 (zR z c0 j).2.2.2 c0)]
    · rw [gV_ref hk hg (by simp [zR]), hv]
    · intro i hi
      unfold gV
      cases gr (gk c0) i with
      | none => rfl
      | some o => simp [zR, hi]
theorem gz_astq {k ci o v : Nat} {i : Int32} {q : vw_C} (E : gEn p s m args c cc own X) (h22 : 22 ≤ k) (hTy : (gTy X)[k - 20]? = some (X.2.2.1 (k - 20), .object q.1)) (hci : gCl[ci]? = some q) (h10 : ci < 10) (hM : gWz X z H) (hS : va_S (gA X) s.heap H locs) (hcn : c0 < z.1) (hk : gk c0 = k) (hvn : v < z.1) (hkv : gk v = ci) (hin : ¬ (i < 0 ∨ gl c0 ≤ i.toNatClampNeg)) (ho : gr k i.toNatClampNeg = some o) (hv : v = c0 + o) (hz : z1 = zR z c0 i.toNatClampNeg) (hdg : decode cc pc = .ok (.aastore, 1))
    (kk : ∀ (H : Heap) (locs : List Loc), gWz X z1 H → va_S (gA X) s.heap H locs → W p l e R s m args below meth c H locs cells slots Q (F0 m (pc + 1) ls rest)) : W p l e R s m args below meth c H locs cells slots Q (F0 m pc ls (.ref (X.1 + v) :: .int i :: .ref (X.1 + c0) :: rest)) := by
  subst hz
  refine va_astq E.1 E.2.1 (gEn_K E) hM.1 (gWl_D (gWz_A hM)) hS c0 (k - 20) v ci ((gWl_get hcn).trans (by rw [gE_ref hk h22])) hTy ((gWl_get hvn).trans (by rw [gE_obj hkv h10])) hci hin hdg (fun H1 locs1 h1 _ h3 => kk H1 locs1 ⟨?_, hM.2⟩ h3)
  rw [gWl_set (X := X) (n := z.1) (ω := z.2.2.1) (σ := z.2.2.2) (ω' := (zR z c0 i.toNatClampNeg).2.2.1) (σ' := (zR z c0 i.toNatClampNeg).2.2.2) (c := c0) ?_ (fun c' hc => gE_zR_n hc)] at h1
  · exact h1
  · rw [gE_ref hk h22]
    congr 7
    funext j
    unfold va_up
    by_cases hj : j = i.toNatClampNeg
    · subst hj
      simp [ho, zR, hv]
    · simp only [if_neg hj]
      cases gr k j with
      | none => rfl
      | some o2 => simp [zR, hj]
theorem gz_getr {C : String} {T : u_T} {N ci index o : Nat} (j : Nat) (E : gEn p s m args c cc own X) (hin : ∀ w ∈ u_ws C T N, w ∈ gT) (hci : gCl[ci]? = some (C, T, N)) (hgn : gn ci = N) (h10 : ci < 10) (hj : j < N) (hTC : (T j).1 = C)
    (hl : (Cond.fieldLink own index C (T j).2.1 (T j).2.2.1).before args s = true) (hM : gWz X z H) (hcn : c0 < z.1) (hk : gk c0 = ci) (hg : gr ci j = some o) (hω : z.2.2.1 c0 j = true) (hdg : decode cc pc = .ok (.getfield index, 3))
    (kk : W p l e R s m args below meth c H locs cells slots Q (F0 m (pc + 3) ls (.ref (X.1 + (c0 + o)) :: rest))) : W p l e R s m args below meth c H locs cells slots Q (F0 m pc ls (.ref (X.1 + c0) :: rest)) :=
  gg_get j E hin hci hgn h10 hj hTC hl hM.1 hcn hk (gV_ref hk hg hω) hdg kk
theorem gz_puti {C : String} {T : u_T} {N ci index : Nat} (j : Nat) {x : Int32} (E : gEn p s m args c cc own X) (hin : ∀ w ∈ u_ws C T N, w ∈ gT) (ty0 : Nat → FieldType) (hty : ∀ k, k < N → parseFieldDescriptor (T k).2.2.1 = some (ty0 k)) (hnm : ∀ a, a < N → ∀ b, b < N → a ≠ b → (T a).2.1 ≠ (T b).2.1) (hci : gCl[ci]? = some (C, T, N)) (hgn : gn ci = N) (h10 : ci < 10) (hj : j < N) (hTC : (T j).1 = C)
    (hl : (Cond.fieldLink own index C (T j).2.1 (T j).2.2.1).before args s = true) (hfin : (T j).2.2.2 = false) (hd : parseFieldDescriptor (T j).2.2.1 = some .int) (hg : gr ci j = none)
    (hM : gWz X z H) (hS : va_S (gA X) s.heap H locs) (hcn : c0 < z.1) (hk : gk c0 = ci) (hz : z1 = zI z c0 j x) (hdg : decode cc pc = .ok (.putfield index, 3))
    (kk : ∀ (H : Heap) (locs : List Loc), gWz X z1 H → va_S (gA X) s.heap H locs → W p l e R s m args below meth c H locs cells slots Q (F0 m (pc + 3) ls rest)) : W p l e R s m args below meth c H locs cells slots Q (F0 m pc ls (.int x :: .ref (X.1 + c0) :: rest)) := by
  subst hz
  exact gg_put j E hin ty0 hty hnm hci hgn h10 hj hTC hl hfin hd rfl rfl hg (gWz_A hM) hM.1 hS hcn hk rfl hdg (fun H1 locs1 h1 h3 => kk H1 locs1 ⟨h1, hM.2⟩ h3)
theorem gz_iast {i x : Int32} (E : gEn p s m args c cc own X) (hM : gWz X z H) (hS : va_S (gA X) s.heap H locs) (hcn : c0 < z.1) (hk : gk c0 = 20) (hin : ¬ (i < 0 ∨ gl c0 ≤ i.toNatClampNeg)) (hz : z1 = zI z c0 i.toNatClampNeg x) (hdg : decode cc pc = .ok (.iastore, 1))
    (kk : ∀ (H : Heap) (locs : List Loc), gWz X z1 H → va_S (gA X) s.heap H locs → W p l e R s m args below meth c H locs cells slots Q (F0 m (pc + 1) ls rest)) : W p l e R s m args below meth c H locs cells slots Q (F0 m pc ls (.int x :: .int i :: .ref (X.1 + c0) :: rest)) := by
  subst hz
  exact gg_iast E (gWz_A hM) hM.1 hS hcn hk hin rfl hdg (fun H1 locs1 h1 h3 => kk H1 locs1 ⟨h1, hM.2⟩ h3)
theorem gz_obj {index : Nat} (E : gEn p s m args c cc own X) (hsz : ls.size = c.maxLocals) (w1 : Cond.methodLink own index objectInit ∈ gT) (w2 : Cond.instanceMethod objectInit ∈ gT) (w3 : Cond.code objectInit ⟨#[0xb1]⟩ 1 none ∈ gT) (hdg : decode cc pc = .ok (.invokespecial index, 3)) (hRf : 1 ≤ R.frames) (hRl : 30 ≤ R.locals)
    (kk : W p l e R s m args below meth c H locs cells slots Q (F0 m (pc + 3) ls [])) : W p l e R s m args below meth c H locs cells slots Q (F0 m pc ls [.ref (X.1 + c0)]) := by
  refine W.objInit E.1 E.2.1 E.2.2.1 (gEn_t E w1) (gEn_t E w2) (gEn_t E w3) rfl hsz rfl hdg hRf ?_ kk
  show 2 * 0 + 0 + 12 ≤ R.locals
  omega
theorem ge_zv (E : gEn p s m args c cc own X) (hr : meth.sig.returnType = none) (hlocks : meth.locks = false) {res : gZ} {mc ms : Nat} (hf : some z = some res) (hM : gWz X z H) (hS : va_S (gA X) s.heap H locs) (hc : cells ≤ mc) (hs : slots ≤ ms) (hdg : decode cc pc = .ok (.return_, 1)) : W p l e R s m args below meth c H locs cells slots (MQ below (gQz X res) args s mc ms (gA X)) (F0 m pc ls []) := by
  cases hf
  exact W.widen hc hs (W.vret E.1 E.2.1 hr (fun _ ht _ => ⟨⟨z, rfl, rfl, by show gWz X z _; rw [ht]; exact hM⟩, hS.F ht⟩) hS.2.2 hdg hlocks)
theorem gMetC {y : MethodName} {maxL mc ms : Nat} {ret : Option FieldType} {rm : Room} {av : List Value} {Qc : Array Value → State → Outcome → State → Prop} (hy : plainName y.cls = true) (hown : y.cls = own) (hyn : y.name = "<init>") (hav : (lg_sl av).length ≤ maxL)
    (body : ∀ (p : Program) (e : Env) (s : State) (m : MethodId) (args : Array Value) (below : List Frame) (meth : Method) (c : Code) (ls : Array Slot), gEn p s m args c cc own X → meth.sig.returnType = ret → meth.locks = false → c.maxLocals = maxL → meth.name = "<init>" → gAO s → gWz X z s.heap → s.heap.size = X.1 + z.1 → lv_has ls maxL (lv_args 0 av) → W p l e rm s m args below meth c s.heap [] 0 0 (MQ below Qc args s mc ms (gA X)) (F0 m 0 ls [])) :
    Met l y (gWs y cc maxL ret) rm (va_Pc av (gBz X z)) Qc mc ms (gA X) := by
  refine Met.ofW (cc := cc) (maxL := maxL) (ret := ret) hy rfl ?_
  intro p e s m args below meth c s₁ B hml hv
  obtain ⟨rfl, hG, hAO, hM, hz⟩ := hv
  have hts := atoms_spec (ws := gWs y cc maxL ret) B.pre
  have ho : s.vm.findClass own = some m.cls := hown ▸ findClass_of_methodNamed B.named
  have hin : meth.name = "<init>" := (name_of_methodNamed B.named B.method).1.trans hyn
  have hl := lv_entry av (n := maxL) hav
  rw [lg_entry_eq]
  exact body p e s m _ below meth c _ ⟨B.exec, B.bytes, ho, fun w hw => hts w (List.mem_cons_of_mem _ hw), hG⟩ B.returns B.notSynchronized hml hin hAO hM hz hl
def gMi (y : MethodName) (cc : ByteArray) (maxL : Nat) : Prop := Cond.instanceMethod y ∈ gT ∧ Cond.initialized y.cls ∈ gT ∧ Cond.code y cc maxL none ∈ gT ∧ y.name = "<init>" ∧ y.cls ≠ "java/lang/invoke/MethodHandle" ∧ y.cls ≠ "java/lang/invoke/VarHandle" ∧ (parseMethodDescriptor y.desc).map (fun d => d.parameters.length) = some 0
theorem gBz_at {U : State} (hG : gG X s) (hAO : gAO s) (hM : gWz X z H) (hS : va_S (gA X) s.heap H locs) (hU : U.heap = H) (hsz : H.size = X.1 + z.1) (hW : s.WarmedH U.vm) : gBz X z U := ⟨gG_warm hW (fun a h1 h2 => by rw [hU]; exact hS.2.1 a h1 h2) hG, fun C hC => va_AO.moved hW.alike (hAO C hC), by rw [hU]; exact hM, by rw [hU]; exact hsz⟩
/-- a constructor is called -/
theorem gz_call {y : MethodName} {bytes : ByteArray} {maxL nL index mc ms c0 : Nat} {rm : Room} {z1 : gZ} (E : gEn p s m args c cc own X) (hAO : gAO s) (hml : c.maxLocals = nL) (hsz : ls.size = nL) (hC : Met l y (gWs y bytes maxL none) rm (va_Pc [.ref (X.1 + c0)] (gBz X z)) (gQz X z1) mc ms (gA X)) (hy : gMi y bytes maxL) (hlk : Cond.methodLink own index y ∈ gT ∨ Cond.methodLinkNest own index y "SugarTowers" ∈ gN) (hM : gWz X z H) (hS : va_S (gA X) s.heap H locs) (hcz : s.heap.size + cells = X.1 + z.1) (hrc : rm.cells = mc) (hrs : rm.slots = ms) (hRf : rm.frames + 1 ≤ R.frames) (hRl : 8 + (maxL + 11) + rm.locals ≤ R.locals) (hRc : cells + mc ≤ R.cells) (hRs : slots + ms ≤ R.slots) (hW : (rest.map fun v => v.category).sum ≤ 8) (hdg : decode cc pc = .ok (.invokespecial index, 3))
    (kk : ∀ (H : Heap) (locs : List Loc), gWz X z1 H → va_S (gA X) s.heap H locs → W p l e R s m args below meth c H locs (cells + mc) (slots + ms) Q (F0 m (pc + 3) ls rest)) : W p l e R s m args below meth c H locs cells slots Q (F0 m pc ls (.ref (X.1 + c0) :: rest)) := by
  refine W_size (fun hsz0 => ?_)
  have hsz1 : H.size = X.1 + z.1 := by have := gWz_lo hM; omega
  have hp : PreS s H (va_Pc [.ref (X.1 + c0)] (gBz X z)) [.ref (X.1 + c0)] := ⟨gBz_blind X z _, fun U hU hW => ⟨rfl, gBz_at E.2.2.2.2 hAO hM hS hU hsz1 hW⟩⟩
  obtain ⟨h1, h2, h3, h4, h5⟩ := hy
  have hr : va_Run p l e R s m args below meth c H locs cells slots mc ms (F0 m pc ls (.ref (X.1 + c0) :: rest)) rest (gQz X z1 [Value.ref (X.1 + c0)].toArray) (gA X) := by
    rcases hlk with hlk | hlk
    · exact va_runI (As := []) ⟨E.1, E.2.1, hml, E.2.2.1, E.2.2.2.1⟩ hC ⟨gcB E h3 h2 h5 hlk hrc hrs hRf hRl, h4, gEn_t E h1⟩ hp rfl rfl hsz rfl (lv_room hW) hdg ⟨hRc, hRs⟩
    · exact va_runIN (As := []) ⟨E.1, E.2.1, hml, E.2.2.1, E.2.2.2.1⟩ hC ⟨va_cnB 0 E.2.2.2.1 (gWs_good gT_gT h3) rfl hrc hrs (va_Nw.of rfl (gEn_n E hlk)) (gEn_t E h2) h5 ⟨hRf, hRl⟩, h4, gEn_t E h1⟩ hp rfl rfl hsz rfl (lv_room hW) hdg ⟨hRc, hRs⟩
  exact va_callv hr hS (fun _ _ h => h) (fun _ h => h) (fun u t H1 locs1 ht _ hw hB _ _ hS1 => by
    subst hw
    exact kk H1 locs1 (by rw [ht] at hB; exact hB) hS1)
theorem gy_new {C : String} {T : u_T} {N ci index : Nat} (E : gEn p s m args c cc own X) (hin : ∀ w ∈ u_ws C T N, w ∈ gT) (ty0 : Nat → FieldType) (hty : ∀ k, k < N → parseFieldDescriptor (T k).2.2.1 = some (ty0 k)) (hci : gCl[ci]? = some (C, T, N)) (hgn : gn ci = N) (h10 : ci < 10)
    (w1 : Cond.classLink own index C ∈ gT) (w2 : Cond.instantiable C N ∈ gT) (w3 : Cond.initialized C ∈ gT) (hdef : ∀ j, j < N → defaultValue (ty0 j) = (match gr ci j with | none => Value.int 0 | some _ => Value.null)) (hM : gWz X z H) (hS : va_S (gA X) s.heap H locs) (hcz : s.heap.size + cells = X.1 + z.1) {n0 s0 MC MS : Nat} (hn0 : s.heap.size = X.1 + n0) (hsl : slots + s0 = z.2.1) (ck1 : z.1 + 1 ≤ n0 + MC) (ck2 : z.2.1 + N ≤ s0 + MS) (hRc : MC ≤ R.cells) (hRs : MS ≤ R.slots) (hz1 : z1 = zN N z) (hk : gk z.1 = ci) (hdg : decode cc pc = .ok (.new index, 3))
    (kk : ∀ (cells slots : Nat) (H : Heap), gWz X z1 H → va_S (gA X) s.heap H locs → s.heap.size + cells = X.1 + z1.1 → slots + s0 = z1.2.1 → W p l e R s m args below meth c H locs cells slots Q (F0 m (pc + 3) ls (.ref (X.1 + z.1) :: rest))) : W p l e R s m args below meth c H locs cells slots Q (F0 m pc ls rest) := by
  subst hz1
  exact gz_new E hin ty0 hty hci hgn h10 w1 w2 w3 hdef hM hS hcz hk (by omega) (by omega) hdg (fun H hM hS => kk _ _ H hM hS (by show _ = X.1 + (z.1 + 1); omega) (by show _ = z.2.1 + N; omega))
theorem gy_arr {atype : ArrayType} {k N : Nat} {x : Int32} (E : gEn p s m args c cc own X) (hka : k = 20 ∧ atype = .int ∨ k = 21 ∧ atype = .char) (harr : Cond.arrayClass (newarray.typeOf atype) ∈ gT) (hM : gWz X z H) (hS : va_S (gA X) s.heap H locs) (hcz : s.heap.size + cells = X.1 + z.1) {n0 s0 MC MS : Nat} (hn0 : s.heap.size = X.1 + n0) (hsl : slots + s0 = z.2.1) (ck1 : z.1 + 1 ≤ n0 + MC) (ck2 : z.2.1 + N ≤ s0 + MS) (hRc : MC ≤ R.cells) (hRs : MS ≤ R.slots) (hz1 : z1 = zN N z) (hk : gk z.1 = k) (hgl : gl z.1 = N) (hx0 : ¬ x < 0) (hN : x.toNatClampNeg = N) (hbytes : N * componentBytes (newarray.typeOf atype) ≤ 536870912) (hdg : decode cc pc = .ok (.newarray atype, 2))
    (kk : ∀ (cells slots : Nat) (H : Heap), gWz X z1 H → va_S (gA X) s.heap H locs → s.heap.size + cells = X.1 + z1.1 → slots + s0 = z1.2.1 → W p l e R s m args below meth c H locs cells slots Q (F0 m (pc + 2) ls (.ref (X.1 + z.1) :: rest))) : W p l e R s m args below meth c H locs cells slots Q (F0 m pc ls (.int x :: rest)) := by
  subst hz1
  exact gz_arr E hka harr hM hS hcz hk hgl hx0 hN hbytes (by omega) (by omega) hdg (fun H hM hS => kk _ _ H hM hS (by show _ = X.1 + (z.1 + 1); omega) (by show _ = z.2.1 + N; omega))
theorem gy_arrq {C : String} {k N index : Nat} {x : Int32} (E : gEn p s m args c cc own X) (hAO : gAO s) (hC : C ∈ gAOl) (h22 : 22 ≤ k) (hk99 : k < 99) (hTy : (gTy X)[k - 20]? = some (X.2.2.1 (k - 20), .object C)) (w1 : Cond.classLink own index C ∈ gT) (hM : gWz X z H) (hS : va_S (gA X) s.heap H locs) (hcz : s.heap.size + cells = X.1 + z.1) {n0 s0 MC MS : Nat} (hn0 : s.heap.size = X.1 + n0) (hsl : slots + s0 = z.2.1) (ck1 : z.1 + 1 ≤ n0 + MC) (ck2 : z.2.1 + N ≤ s0 + MS) (hRc : MC ≤ R.cells) (hRs : MS ≤ R.slots) (hz1 : z1 = zN N z) (hk : gk z.1 = k) (hgl : gl z.1 = N) (hx0 : ¬ x < 0) (hN : x.toNatClampNeg = N) (hbytes : N * 4 ≤ 536870912) (hdg : decode cc pc = .ok (.anewarray index, 3))
    (kk : ∀ (cells slots : Nat) (H : Heap), gWz X z1 H → va_S (gA X) s.heap H locs → s.heap.size + cells = X.1 + z1.1 → slots + s0 = z1.2.1 → W p l e R s m args below meth c H locs cells slots Q (F0 m (pc + 3) ls (.ref (X.1 + z.1) :: rest))) : W p l e R s m args below meth c H locs cells slots Q (F0 m pc ls (.int x :: rest)) := by
  subst hz1
  exact gz_arrq E hAO hC h22 hk99 hTy w1 hM hS hcz hk hgl hx0 hN hbytes (by omega) (by omega) hdg (fun H hM hS => kk _ _ H hM hS (by show _ = X.1 + (z.1 + 1); omega) (by show _ = z.2.1 + N; omega))
theorem gy_call {y : MethodName} {bytes : ByteArray} {maxL nL index mc ms c0 : Nat} {rm : Room} {z1 : gZ} (E : gEn p s m args c cc own X) (hAO : gAO s) (hml : c.maxLocals = nL) (hsz : ls.size = nL) (hC : Met l y (gWs y bytes maxL none) rm (va_Pc [.ref (X.1 + c0)] (gBz X z)) (gQz X z1) mc ms (gA X)) (hy : gMi y bytes maxL) (hlk : Cond.methodLink own index y ∈ gT ∨ Cond.methodLinkNest own index y "SugarTowers" ∈ gN) (hM : gWz X z H) (hS : va_S (gA X) s.heap H locs) (hcz : s.heap.size + cells = X.1 + z.1) {n0 s0 MC MS : Nat} (hn0 : s.heap.size = X.1 + n0) (hsl : slots + s0 = z.2.1) (ck0 : z1.1 = z.1 + mc ∧ z1.2.1 = z.2.1 + ms) (ck1 : z1.1 ≤ n0 + MC) (ck2 : z1.2.1 ≤ s0 + MS) (hRc0 : MC ≤ R.cells) (hRs0 : MS ≤ R.slots) (hrc : rm.cells = mc) (hrs : rm.slots = ms) (hRf : rm.frames + 1 ≤ R.frames) (hRl : 8 + (maxL + 11) + rm.locals ≤ R.locals) (hW : (rest.map fun v => v.category).sum ≤ 8) (hdg : decode cc pc = .ok (.invokespecial index, 3))
    (kk : ∀ (cells slots : Nat) (H : Heap) (locs : List Loc), gWz X z1 H → va_S (gA X) s.heap H locs → s.heap.size + cells = X.1 + z1.1 → slots + s0 = z1.2.1 → W p l e R s m args below meth c H locs cells slots Q (F0 m (pc + 3) ls rest)) : W p l e R s m args below meth c H locs cells slots Q (F0 m pc ls (.ref (X.1 + c0) :: rest)) :=
  gz_call E hAO hml hsz hC hy hlk hM hS hcz hrc hrs hRf hRl (by omega) (by omega) hW hdg (fun H locs hM hS => kk _ _ H locs hM hS (by omega) (by omega))
theorem gy_v (E : gEn p s m args c cc own X) (hr : meth.sig.returnType = none) (hlocks : meth.locks = false) {res : gZ} {n0 s0 MC MS : Nat} (hf : some z = some res) (hM : gWz X z H) (hS : va_S (gA X) s.heap H locs) (hcz : s.heap.size + cells = X.1 + z.1) (hn0 : s.heap.size = X.1 + n0) (hsl : slots + s0 = z.2.1) (ck : z.1 ≤ n0 + MC ∧ z.2.1 ≤ s0 + MS) (hdg : decode cc pc = .ok (.return_, 1)) : W p l e R s m args below meth c H locs cells slots (MQ below (gQz X res) args s MC MS (gA X)) (F0 m pc ls []) :=
  ge_zv E hr hlocks hf hM hS (by omega) (by omega) hdg
end GC

