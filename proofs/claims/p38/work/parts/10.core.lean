/-! THE WORLD: every object and array that the law makes, at its place behind the first free address; ints by cell and slot. -/
abbrev gMem : Type := Nat → Nat → Int32
def mc (σ : gMem) (c : Nat) (f : Nat → Int32) : gMem := fun c' => if c' = c then f else σ c'
def ms (σ : gMem) (c j : Nat) (x : Int32) : gMem := mc σ c (upd (σ c) j x)
theorem mc_s {σ : gMem} {c : Nat} {f : Nat → Int32} : mc σ c f c = f := by simp [mc]
theorem mc_n {σ : gMem} {c c' : Nat} {f : Nat → Int32} (h : c' ≠ c) : mc σ c f c' = σ c' := by simp [mc, h]
theorem ms_s {σ : gMem} {c j : Nat} {x : Int32} : ms σ c j x c = upd (σ c) j x := mc_s
theorem ms_n {σ : gMem} {c c' j : Nat} {x : Int32} (h : c' ≠ c) : ms σ c j x c' = σ c' := mc_n h
theorem ms_ss {σ : gMem} {c j : Nat} {x : Int32} : ms σ c j x c j = x := by rw [ms_s]; exact pk_us
theorem ms_sn {σ : gMem} {c j j' : Nat} {x : Int32} (h : j' ≠ j) : ms σ c j x c j' = σ c j' := by rw [ms_s]; exact pk_un h
/-- kinds of the cells: 0..9 the classes X0..X9; 20 int[], 21 char[], 24.. rows of references; 99 none -/
def gkH (o : Nat) : Nat := if o = 0 then 2 else if o < 4 then 20 else if o < 7 then 20 + o else if o < 11 then 6 else if o < 29 then (if (o - 11) % 3 = 0 then 7 else 20) else 0
def gk (c : Nat) : Nat := if c = 0 then 8 else if c < 106 then gkH ((c - 1) % 35) else if c = 106 then 1 else if c = 107 then 27 else if c < 388 then gkH ((c - 108) % 35) else if c = 388 then 5 else if c = 389 then 21 else if c = 390 then 28 else if c < 431 then (if c % 2 = 1 then 3 else 20) else if c < 433 then 4 else 99
def glH (o : Nat) : Nat := if o = 1 then 24 else if o < 4 then 3 else if o = 4 then 4 else if o < 7 then 6 else 10
def gl (c : Nat) : Nat := if c < 106 then glH ((c - 1) % 35) else if c = 107 then 8 else if c < 388 then glH ((c - 108) % 35) else if c = 389 then 60 else if c = 390 then 20 else if c < 431 then 4 else 220
/-- where a slot of a kind holds a reference: how far behind its cell the other lies -/
def gr (k j : Nat) : Option Nat :=
  if k = 1 then (if j = 0 then some 1 else none)
  else if k = 2 then (if j = 2 then some 1 else if j = 3 then some 2 else if j = 4 then some 3 else if j = 5 then some 4 else if j = 7 then some 5 else if j = 9 then some 6 else none)
  else if k = 3 then (if j = 1 then some 1 else none)
  else if k = 5 then (if j = 0 then some 1 else if j = 3 then some 2 else none)
  else if k = 7 then (if j = 0 then some 1 else if j = 1 then some 2 else none)
  else if k = 8 then (if j = 0 then some 1 else if j = 1 then some 36 else if j = 2 then some 71 else if j = 4 then some 106 else if j = 5 then some 388 else if j = 7 then some 431 else if j = 8 then some 432 else none)
  else if k = 24 then some (3 + j) else if k = 25 then some (6 + 3 * j) else if k = 26 then some (23 + j) else if k = 27 then some (1 + 35 * j) else if k = 28 then some (1 + 2 * j) else none
def gn (k : Nat) : Nat := if k = 0 then 5 else if k = 1 then 3 else if k = 2 then 17 else if k = 3 then 2 else if k = 4 then 2 else if k = 5 then 5 else if k = 6 then 3 else if k = 7 then 5 else if k = 8 then 9 else 18
abbrev gCl : List vw_C := [(RX0, TX0, 5), (RX1, TX1, 3), (RX2, TX2, 17), (RX3, TX3, 2), (RX4, TX4, 2), (RX5, TX5, 5), (RX6, TX6, 3), (RX7, TX7, 5), (RX8, TX8, 9)]
/-- the first address, the classes, the classes of the arrays, the addresses of text constants and of their bytes, where the other object ends -/
abbrev gX : Type := Nat × va_G × (Nat → ClassId) × (Nat → Nat) × (Nat → Nat) × Nat
abbrev gTy (X : gX) : List (ClassId × FieldType) := [(X.2.2.1 0, .int), (X.2.2.1 1, .char), (X.2.2.1 0, .int), (X.2.2.1 0, .int), (X.2.2.1 4, .object RX6), (X.2.2.1 5, .object RX7), (X.2.2.1 6, .object RX0), (X.2.2.1 7, .object RX2), (X.2.2.1 8, .object RX3)]
abbrev gInit : Type := Nat → Nat → Bool
def gV (B : Nat) (ω : gInit) (σ : gMem) (c j : Nat) : Value := match gr (gk c) j with
  | none => .int (σ c j)
  | some o => if ω c j = true then .ref (B + (c + o)) else .null
def gE (X : gX) (ω : gInit) (σ : gMem) (c : Nat) : va_E :=
  if gk c < 10 then .inr (gk c, (List.range (gn (gk c))).map (gV X.1 ω σ c))
  else if gk c < 22 then .inl (X.2.2.1 (gk c - 20), gl c, .inl (σ c))
  else .inl (X.2.2.1 (gk c - 20), gl c, .inr (.inr (.inr (.inr (fun j => match gr (gk c) j with
    | none => none
    | some o => if ω c j = true then some (X.1 + (c + o)) else none)))))
def gWl (X : gX) (n : Nat) (ω : gInit) (σ : gMem) : va_W := (List.range n).map (fun c => (X.1 + c, gE X ω σ c))
def gW (X : gX) (n : Nat) (ω : gInit) (σ : gMem) (H : Heap) : Prop := va_P X.2.1 gCl (gWl X n ω σ) H
def gAll : gInit := fun _ _ => true
abbrev gM (X : gX) (σ : gMem) (H : Heap) : Prop := gW X 433 gAll σ H
/-- what a call may change: the object's own cells, and what is new behind all objects -/
def gA (X : gX) : Nat → Prop := fun q => X.1 ≤ q ∧ (q < X.1 + 433 ∨ X.2.2.2.2.2 ≤ q)
theorem gA_in (X : gX) {c : Nat} (h : c < 433) : gA X (X.1 + c) := ⟨by omega, Or.inl (by omega)⟩
theorem gWl_get {X : gX} {n : Nat} {ω : gInit} {σ : gMem} {c : Nat} (h : c < n) : (gWl X n ω σ)[c]? = some (X.1 + c, gE X ω σ c) := by
  simp [gWl, h]
theorem gWl_len {X : gX} {n : Nat} {ω : gInit} {σ : gMem} : (gWl X n ω σ).length = n := by simp [gWl]
theorem gWl_inv {X : gX} {n : Nat} {ω : gInit} {σ : gMem} {c : Nat} {q : Nat × va_E} (h : (gWl X n ω σ)[c]? = some q) : c < n ∧ q = (X.1 + c, gE X ω σ c) := by
  have hl := (List.getElem?_eq_some_iff.mp h).1
  rw [gWl_len] at hl
  rw [gWl_get hl] at h
  exact ⟨hl, (Option.some.inj h).symm⟩
theorem gWl_D {X : gX} {n : Nat} {ω : gInit} {σ : gMem} {A : Nat → Prop} (hA : ∀ c, c < n → A (X.1 + c)) : va_D A (gWl X n ω σ) := by
  refine ⟨fun i j p q hp hq h => ?_, fun k q hq => ?_⟩
  · obtain ⟨_, rfl⟩ := gWl_inv hp
    obtain ⟨_, rfl⟩ := gWl_inv hq
    have h1 : X.1 + i = X.1 + j := h
    omega
  · obtain ⟨h1, rfl⟩ := gWl_inv hq
    exact hA k h1
theorem gWl_set {X : gX} {n : Nat} {ω ω' : gInit} {σ σ' : gMem} {c : Nat} {e : va_E} (he : gE X ω' σ' c = e) (ho : ∀ c', c' ≠ c → gE X ω' σ' c' = gE X ω σ c') : (gWl X n ω σ).set c (X.1 + c, e) = gWl X n ω' σ' := by
  apply List.ext_getElem?
  intro i
  rw [List.getElem?_set]
  by_cases h : c = i
  · subst h
    rw [if_pos rfl, gWl_len]
    by_cases hn : c < n
    · rw [if_pos hn, gWl_get hn, he]
    · rw [if_neg hn]
      exact (List.getElem?_eq_none (by rw [gWl_len]; omega)).symm
  · rw [if_neg h]
    by_cases hn : i < n
    · rw [gWl_get hn, gWl_get hn, ho i (Ne.symm h)]
    · rw [List.getElem?_eq_none (by rw [gWl_len]; omega), List.getElem?_eq_none (by rw [gWl_len]; omega)]
theorem gE_congr {X : gX} {ω ω' : gInit} {σ σ' : gMem} {c : Nat} (hω : ω' c = ω c) (hσ : σ' c = σ c) : gE X ω' σ' c = gE X ω σ c := by
  have h : gV X.1 ω' σ' c = gV X.1 ω σ c := by
    funext j
    simp only [gV, hω, hσ]
  simp only [gE, h, hω, hσ]
theorem gE_obj {X : gX} {ω : gInit} {σ : gMem} {c k : Nat} (hk : gk c = k) (h : k < 10) : gE X ω σ c = .inr (k, (List.range (gn k)).map (gV X.1 ω σ c)) := by
  subst hk
  rw [gE, if_pos h]
theorem gE_int {X : gX} {ω : gInit} {σ : gMem} {c : Nat} (hk : gk c = 20) : gE X ω σ c = .inl (X.2.2.1 0, gl c, .inl (σ c)) := by
  rw [gE, hk]; rfl
theorem gE_chr {X : gX} {ω : gInit} {σ : gMem} {c : Nat} (hk : gk c = 21) : gE X ω σ c = .inl (X.2.2.1 1, gl c, .inl (σ c)) := by
  rw [gE, hk]; rfl
theorem gE_ref {X : gX} {ω : gInit} {σ : gMem} {c k : Nat} (hk : gk c = k) (h : 22 ≤ k) : gE X ω σ c = .inl (X.2.2.1 (k - 20), gl c, .inr (.inr (.inr (.inr (fun j => match gr k j with
    | none => none
    | some o => if ω c j = true then some (X.1 + (c + o)) else none))))) := by
  subst hk
  rw [gE, if_neg (by omega), if_neg (by omega)]
theorem gV_int {B : Nat} {ω : gInit} {σ : gMem} {c j k : Nat} (hk : gk c = k) (h : gr k j = none) : gV B ω σ c j = .int (σ c j) := by
  subst hk
  rw [gV, h]
theorem gV_ref {B : Nat} {ω : gInit} {σ : gMem} {c j k o : Nat} (hk : gk c = k) (h : gr k j = some o) (hω : ω c j = true) : gV B ω σ c j = .ref (B + (c + o)) := by
  subst hk
  rw [gV, h]
  simp [hω]
theorem gk_lt {c : Nat} (h : gk c < 99) : c < 433 := by
  rcases Nat.lt_or_ge c 433 with q | q
  · exact q
  · exfalso
    have h2 : gk c = 99 := by
      unfold gk
      repeat rw [if_neg (by omega)]
    omega
theorem gk_in {c k : Nat} (hk : gk c = k) (h : k < 99) : c < 433 := gk_lt (by rw [hk]; exact h)
/-- the tables' words that outlive the warming; those of nest mates and their like beside them -/
def gNk : Cond → Bool
  | .fieldLinkNest .. => true
  | .methodLinkNest .. => true
  | .castable .. => true
  | .declares _ => true
  | _ => false
def gT : List Cond := lw_tbl.filter goodWord
def gN : List Cond := tables_1.filter gNk
theorem gT_in {w : Cond} (i : Nat) (h : lw_tbl[i]? = some w) (g : goodWord w = true) : w ∈ gT := List.mem_filter.mpr ⟨List.mem_of_getElem? h, g⟩
theorem gN_in {w : Cond} (i : Nat) (h : tables_1[i]? = some w) (g : gNk w = true) : w ∈ gN := List.mem_filter.mpr ⟨List.mem_of_getElem? h, g⟩
theorem gT_good {w : Cond} (h : w ∈ gT) : goodWord w = true := (List.mem_filter.mp h).2
theorem gN_tab {w : Cond} (h : w ∈ gN) : w.onTables = true := by
  have h2 := (List.mem_filter.mp h).2
  cases w <;> first | rfl | (simp [gNk] at h2)
theorem gN_warm {w : Cond} (h : w ∈ gN) {s U : State} (hW : s.WarmedH U.vm) (hZ : va_Nw w s) : va_Nw w U := by
  have h2 := (List.mem_filter.mp h).2
  cases w <;> first | exact va_Nw.warmF hW hZ | exact va_Nw.warmM hW hZ | exact va_Nw.warmC hW hZ | exact va_Nw.warmD hW hZ | (simp [gNk] at h2)
/-- a method's words: its code, and the tables' -/
abbrev gWs (y : MethodName) (cc : ByteArray) (maxL : Nat) (ret : Option FieldType) : List Cond := .code y cc maxL ret :: gT
theorem gWs_good {big : List Cond} {y : MethodName} {cc : ByteArray} {maxL : Nat} {ret : Option FieldType} (hb : ∀ w ∈ gT, w ∈ big) (h : Cond.code y cc maxL ret ∈ gT) : GoodIn big (gWs y cc maxL ret) := fun w hw => by
  have hm : w ∈ gT := by
    rcases List.mem_cons.mp hw with rfl | h2
    · exact h
    · exact h2
  exact ⟨hb w hm, good_of_word (gT_good hm)⟩
