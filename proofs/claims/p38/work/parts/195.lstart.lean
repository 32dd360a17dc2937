/-! THE LAW: what its start gives -/
abbrev eC : Cond := Jvm.Cond.and given_1 narrow_1
theorem en_ex : ∀ q ∈ gSt, Cond.exactly (.string RX8 q.1) "java/lang/String" ∈ flatC eC := by decide +kernel
theorem en_t1 : Cond.isRef (.static Bundle.tN "UNASSIGNED_STACK" Bundle.steD) ∈ flatC eC := by decide +kernel
theorem en_t2 : Cond.isRef (.static Bundle.tN "SUPPRESSED_SENTINEL" Bundle.listD) ∈ flatC eC := by decide +kernel
theorem en_t3 : Cond.eq (.static RJ0 "COMPACT_STRINGS" "Z") (.int 1) ∈ flatC eC := by decide +kernel
theorem en_t4 : Cond.isRef (.static RJ3 "SIOOBE_FORMATTER" "Ljava/util/function/BiFunction;") ∈ flatC eC := by decide +kernel
theorem el_1 : Cond.laysStatic Bundle.tN "UNASSIGNED_STACK" Bundle.steD ∈ lw_tbl := List.mem_of_getElem? (i := 80) (by decide +kernel)
theorem el_2 : Cond.laysStatic Bundle.tN "SUPPRESSED_SENTINEL" Bundle.listD ∈ lw_tbl := List.mem_of_getElem? (i := 82) (by decide +kernel)
theorem el_3 : Cond.laysStatic RJ0 "COMPACT_STRINGS" "Z" ∈ lw_tbl := List.mem_of_getElem? (i := 416) (by decide +kernel)
theorem el_4 : Cond.laysStatic RJ3 "SIOOBE_FORMATTER" "Ljava/util/function/BiFunction;" ∈ lw_tbl := List.mem_of_getElem? (i := 432) (by decide +kernel)
theorem ei_1 : Cond.initialized Bundle.tN ∈ lw_tbl := List.mem_of_getElem? (i := 30) (by decide +kernel)
theorem ei_2 : Cond.initialized RJ0 ∈ lw_tbl := List.mem_of_getElem? (i := 39) (by decide +kernel)
theorem ei_3 : Cond.initialized RJ3 ∈ lw_tbl := List.mem_of_getElem? (i := 41) (by decide +kernel)
theorem ea_0 : Cond.arrayClass .int ∈ lw_tbl := List.mem_of_getElem? (i := 655) (by decide +kernel)
theorem ea_1 : Cond.arrayClass .char ∈ lw_tbl := List.mem_of_getElem? (i := 819) (by decide +kernel)
theorem eo_6 : Cond.arrayOver (.object RX6) ∈ lw_tbl := List.mem_of_getElem? (i := 629) (by decide +kernel)
theorem eo_7 : Cond.arrayOver (.object RX7) ∈ lw_tbl := List.mem_of_getElem? (i := 631) (by decide +kernel)
theorem eo_0 : Cond.arrayOver (.object RX0) ∈ lw_tbl := List.mem_of_getElem? (i := 633) (by decide +kernel)
theorem eo_2 : Cond.arrayOver (.object RX2) ∈ lw_tbl := List.mem_of_getElem? (i := 784) (by decide +kernel)
theorem eo_3 : Cond.arrayOver (.object RX3) ∈ lw_tbl := List.mem_of_getElem? (i := 803) (by decide +kernel)
theorem es_8 : ∀ q ∈ gSt, Cond.stringRef RX8 q.1 q.2 ∈ lw_tbl := by decide +kernel
theorem es_5 : ∀ q ∈ gFt, Cond.stringRef RX5 q.1 q.2 ∈ lw_tbl := by decide +kernel
theorem es_L : ∀ q ∈ gFt2, Cond.stringRef RL q.1 q.2 ∈ lw_tbl := by decide +kernel
theorem wi_8 : Cond.instantiable RX8 9 ∈ gT := gT_in 135 (by decide +kernel) rfl
theorem wc_RL_18 : Cond.classLink RL 18 RX8 ∈ gT := gT_in 618 (by decide +kernel) rfl
theorem wn_8 : Cond.initialized RX8 ∈ gT := gT_in 21 (by decide +kernel) rfl
theorem wm_RL_23 : Cond.methodLink RL 23 yX8_init ∈ gT := gT_in 619 (by decide +kernel) rfl
theorem wt_X8_init : gMi yX8_init cX8_init 1 := ⟨gT_in 620 (by decide +kernel) rfl, gT_in 21 (by decide +kernel) rfl, gT_in 621 (by decide +kernel) rfl, rfl, by decide, by decide, by decide +kernel⟩
theorem wt_L_build : gMs yL_build cL_build 7 (some (.object "SugarTowers")) 1 := ⟨gT_in 616 (by decide +kernel) rfl, gT_in 20 (by decide +kernel) rfl, gT_in 617 (by decide +kernel) rfl, by decide, by decide, by decide +kernel⟩
theorem wl_RL_87 : Cond.methodLink RL 87 yL_build ∈ gT := gT_in 615 (by decide +kernel) rfl
/-- rows of whole numbers, rows of references -/
theorem e_arr {s : State} {args : Array Value} {ty : FieldType} (h : (Cond.arrayClass ty).before args s = true) : ∃ cA : ClassId, ArrOfT s cA ty ∧ s.vm.findClass ("[" ++ ty.toString) = some cA := by
  obtain ⟨c, k, comp, h1, h2, h3⟩ := Cond.arrayClass_spec h
  exact ⟨c, fun N z => ⟨(fun k h => by cases h), k, h2, comp, h3⟩, h1⟩
theorem e_arrq {s : State} {args : Array Value} {C : String} (h : (Cond.arrayOver (.object C)).before args s = true) : ∃ cA : ClassId, ArrOfT s cA (.object C) ∧ va_RA s cA (.object C) := by
  obtain ⟨comp, c, k, h1, h2, h3, h4, h5⟩ := Cond.arrayOver_spec h
  exact ⟨c, fun N z => ⟨(fun k h => by cases h), k, h3, comp, h4⟩, k, comp, h3, h4, h1, h5⟩
/-- the forms of an order, one text at a time -/
def eSt (A : Nat → Prop) (s : State) (n : Nat) (bs : List Int32) (a v : Nat) : Prop := va_O "java/lang/String" a A s s.heap ∧ va_OF "java/lang/String" "coder" "B" (.int 0) a A s s.heap ∧ va_OF "java/lang/String" "value" "[B" (.ref v) a A s s.heap ∧ va_T .byte v n (fun j => .int (bs.getD j 0)) A s s.heap
def eW (C : String) (k n : Nat) (bs : List Int32) : List Cond := [.exactly (.string C k) "java/lang/String", .eq (.field (.string C k) "java/lang/String" "coder" "B") (.int 0), .arrayOf (.field (.string C k) "java/lang/String" "value" "[B") .byte, .eq (.length (.field (.string C k) "java/lang/String" "value" "[B")) (.int (Int32.ofNat n))] ++ (List.range n).map (fun j => .eq (.elem (.field (.string C k) "java/lang/String" "value" "[B") (.int (Int32.ofNat j))) (.int (bs.getD j 0)))
theorem e_str {s : State} {args : Array Value} {A : Nat → Prop} {C : String} {k n : Nat} {bs : List Int32} (hn : n < 2 ^ 31) (h : ∀ w ∈ eW C k n bs, w.before args s = true) (hA : ∀ a : Nat, a < s.heap.size → ¬ A a) : ∃ a v : Nat, (Term.string C k).eval args s none [] s = some (.ref a) ∧ eSt A s n bs a v := by
  obtain ⟨adK, adV, h1, h2⟩ := vk_Sof (args := args) (s := s) (N := 1) (tm := fun _ => .string C k) (len := [n]) (byt := [bs]) (A := A)
    (fun i hi => by obtain rfl : i = 0 := by omega
                    exact hn)
    (fun i hi => h _ (by simp [eW]))
    (fun i hi => h _ (by simp [eW]))
    (fun i hi => h _ (by simp [eW]))
    (fun i hi => by obtain rfl : i = 0 := by omega
                    exact h _ (by simp [eW]))
    (fun i hi j hj => by
      obtain rfl : i = 0 := by omega
      have hj2 : j < n := hj
      refine h _ (List.mem_append_right _ ?_)
      exact List.mem_map.mpr ⟨j, List.mem_range.mpr hj2, rfl⟩)
    (fun i j hi hj hne => absurd (show i = j by omega) hne) hA
  exact ⟨adK 0, adV 0, h2 0 (by omega), h1.1 0 (by omega)⟩
/-- two texts of other lengths, or of another first sign, are two -/
theorem e_ne {A : Nat → Prop} {s : State} {n n' : Nat} {bs bs' : List Int32} {a v v' : Nat} (h : eSt A s n bs a v) (h' : eSt A s n' bs' a v') (hn : n < 2 ^ 31) (hn' : n' < 2 ^ 31) : n = n' ∧ (0 < n → bs.getD 0 0 = bs'.getD 0 0) := by
  obtain ⟨-, -, ⟨cf, k, i, f, cell, a1, a2, a3, a4, a5, -⟩, cb, b1, b2, b3, b4, b5, b6, -⟩ := h
  obtain ⟨-, -, ⟨cf', k', i', f', cell', c1, c2, c3, c4, c5, -⟩, cb', d1, d2, d3, d4, d5, d6, -⟩ := h'
  have e1 : f = f' := by
    have := a1.symm.trans c1
    simp only [Option.some.injEq, Prod.mk.injEq] at this
    exact this.2.2.2
  have e2 : cell = cell' := Option.some.inj (a3.symm.trans c3)
  subst e1 e2
  have e3 : v = v' := by
    have := Option.some.inj (a5.symm.trans c5)
    cases this
    rfl
  subst e3
  have e4 : cb = cb' := Option.some.inj (b1.symm.trans d1)
  subst e4
  have e5 : n = n' := (nI_eq hn hn').mp (b5.symm.trans d5)
  subst e5
  refine ⟨rfl, fun h0 => ?_⟩
  have := Option.some.inj ((b6 0 h0).symm.trans (d6 0 h0))
  exact Value.int.inj this
theorem en_f0 : ∀ w ∈ eW RX5 67 3 [100, 43, 110], w ∈ flatC eC := by decide +kernel
theorem en_f1 : ∀ w ∈ eW RX5 69 7 [100, 47, 100, 58, 100, 42, 110], w ∈ flatC eC := by decide +kernel
theorem en_f2 : ∀ w ∈ eW RX5 71 1 [100], w ∈ flatC eC := by decide +kernel
theorem en_f3 : ∀ w ∈ eW RX5 73 3 [110, 64, 100], w ∈ flatC eC := by decide +kernel
theorem en_f4 : ∀ w ∈ eW RX5 75 1 [110], w ∈ flatC eC := by decide +kernel
theorem en_f5 : ∀ w ∈ eW RX5 77 0 [], w ∈ flatC eC := by decide +kernel
theorem en_f6 : ∀ w ∈ eW RL 98 8 [104, 51, 59, 104, 49, 59, 104, 50], w ∈ flatC eC := by decide +kernel
theorem en_f7 : ∀ w ∈ eW RL 113 5 [104, 51, 59, 116, 57], w ∈ flatC eC := by decide +kernel
theorem en_f8 : ∀ w ∈ eW RL 118 2 [104, 48], w ∈ flatC eC := by decide +kernel
theorem en_f9 : ∀ w ∈ eW RL 120 8 [108, 48, 47, 49, 59, 50, 42, 51], w ∈ flatC eC := by decide +kernel
theorem en_f10 : ∀ w ∈ eW RL 122 6 [98, 48, 43, 49, 50, 51], w ∈ flatC eC := by decide +kernel
theorem en_f11 : ∀ w ∈ eW RL 124 2 [115, 49], w ∈ flatC eC := by decide +kernel
theorem e_forms {s : State} {args : Array Value} {A : Nat → Prop} (hs : ∀ w ∈ flatC eC, w.before args s = true) (hA : ∀ a : Nat, a < s.heap.size → ¬ A a) : ∃ adK adV : Nat → Nat, vk_S 12 gFl gFb adK adV A s s.heap ∧ (∀ (i : Nat) (q : Nat × String), gFt[i]? = some q → (Term.string RX5 q.1).eval args s none [] s = some (.ref (adK i))) ∧ ∀ (i : Nat) (q : Nat × String), gFt2[i]? = some q → (Term.string RL q.1).eval args s none [] s = some (.ref (adK (6 + i))) := by
  obtain ⟨a0, v0, t0, h0⟩ := e_str (A := A) (by decide) (fun w hw => hs w (en_f0 w hw)) hA
  obtain ⟨a1, v1, t1, h1⟩ := e_str (A := A) (by decide) (fun w hw => hs w (en_f1 w hw)) hA
  obtain ⟨a2, v2, t2, h2⟩ := e_str (A := A) (by decide) (fun w hw => hs w (en_f2 w hw)) hA
  obtain ⟨a3, v3, t3, h3⟩ := e_str (A := A) (by decide) (fun w hw => hs w (en_f3 w hw)) hA
  obtain ⟨a4, v4, t4, h4⟩ := e_str (A := A) (by decide) (fun w hw => hs w (en_f4 w hw)) hA
  obtain ⟨a5, v5, t5, h5⟩ := e_str (A := A) (by decide) (fun w hw => hs w (en_f5 w hw)) hA
  obtain ⟨a6, v6, t6, h6⟩ := e_str (A := A) (by decide) (fun w hw => hs w (en_f6 w hw)) hA
  obtain ⟨a7, v7, t7, h7⟩ := e_str (A := A) (by decide) (fun w hw => hs w (en_f7 w hw)) hA
  obtain ⟨a8, v8, t8, h8⟩ := e_str (A := A) (by decide) (fun w hw => hs w (en_f8 w hw)) hA
  obtain ⟨a9, v9, t9, h9⟩ := e_str (A := A) (by decide) (fun w hw => hs w (en_f9 w hw)) hA
  obtain ⟨a10, v10, t10, h10⟩ := e_str (A := A) (by decide) (fun w hw => hs w (en_f10 w hw)) hA
  obtain ⟨a11, v11, t11, h11⟩ := e_str (A := A) (by decide) (fun w hw => hs w (en_f11 w hw)) hA
  have key : ∀ i : Nat, i < 12 → eSt A s (gFl.getD i 0) (gFb.getD i []) ([a0, a1, a2, a3, a4, a5, a6, a7, a8, a9, a10, a11].getD i 0) ([v0, v1, v2, v3, v4, v5, v6, v7, v8, v9, v10, v11].getD i 0) := by
    intro i hi
    rcases (by omega : i = 0 ∨ i = 1 ∨ i = 2 ∨ i = 3 ∨ i = 4 ∨ i = 5 ∨ i = 6 ∨ i = 7 ∨ i = 8 ∨ i = 9 ∨ i = 10 ∨ i = 11) with rfl | rfl | rfl | rfl | rfl | rfl | rfl | rfl | rfl | rfl | rfl | rfl
    · exact h0
    · exact h1
    · exact h2
    · exact h3
    · exact h4
    · exact h5
    · exact h6
    · exact h7
    · exact h8
    · exact h9
    · exact h10
    · exact h11
  refine ⟨fun i => [a0, a1, a2, a3, a4, a5, a6, a7, a8, a9, a10, a11].getD i 0, fun i => [v0, v1, v2, v3, v4, v5, v6, v7, v8, v9, v10, v11].getD i 0, ⟨fun i hi => key i hi, fun i j hi hj e => ?_⟩, fun i q hq => ?_, fun i q hq => ?_⟩
  · have hl : ∀ k, k < 12 → gFl.getD k 0 < 2 ^ 31 := by decide
    have hd : ∀ i, i < 12 → ∀ j, j < 12 → gFl.getD i 0 = gFl.getD j 0 → (0 < gFl.getD i 0 → (gFb.getD i []).getD 0 0 = (gFb.getD j []).getD 0 0) → i = j := by decide +kernel
    have hi2 := key i hi
    have e2 : [a0, a1, a2, a3, a4, a5, a6, a7, a8, a9, a10, a11].getD i 0 = [a0, a1, a2, a3, a4, a5, a6, a7, a8, a9, a10, a11].getD j 0 := e
    rw [e2] at hi2
    obtain ⟨p1, p2⟩ := e_ne hi2 (key j hj) (hl i hi) (hl j hj)
    exact hd i hi j hj p1 p2
  · match i, hq with
    | 0, hq => cases hq; exact t0
    | 1, hq => cases hq; exact t1
    | 2, hq => cases hq; exact t2
    | 3, hq => cases hq; exact t3
    | 4, hq => cases hq; exact t4
    | 5, hq => cases hq; exact t5
    | i + 6, hq => simp [gFt] at hq
  · match i, hq with
    | 0, hq => cases hq; exact t6
    | 1, hq => cases hq; exact t7
    | 2, hq => cases hq; exact t8
    | 3, hq => cases hq; exact t9
    | 4, hq => cases hq; exact t10
    | 5, hq => cases hq; exact t11
    | i + 6, hq => simp [gFt2] at hq
theorem e_cls {s : State} {args : Array Value} (hT : ∀ w ∈ gT, w.before args s = true) : ∃ D : va_G, ∀ (c : Nat) (q : vw_C), gCl[c]? = some q → u_Kn s q.1 q.2.1 q.2.2 (D.1 c) (D.2 c) := by
  obtain ⟨d0, f0, k0⟩ := u_known (C := RX0) (T := TX0) (N := 5) (n := 5) hT gin_0 (hT _ wi_0)
  obtain ⟨d1, f1, k1⟩ := u_known (C := RX1) (T := TX1) (N := 3) (n := 3) hT gin_1 (hT _ wi_1)
  obtain ⟨d2, f2, k2⟩ := u_known (C := RX2) (T := TX2) (N := 17) (n := 17) hT gin_2 (hT _ wi_2)
  obtain ⟨d3, f3, k3⟩ := u_known (C := RX3) (T := TX3) (N := 2) (n := 2) hT gin_3 (hT _ wi_3)
  obtain ⟨d4, f4, k4⟩ := u_known (C := RX4) (T := TX4) (N := 2) (n := 2) hT gin_4 (hT _ wi_4)
  obtain ⟨d5, f5, k5⟩ := u_known (C := RX5) (T := TX5) (N := 5) (n := 5) hT gin_5 (hT _ wi_5)
  obtain ⟨d6, f6, k6⟩ := u_known (C := RX6) (T := TX6) (N := 3) (n := 3) hT gin_6 (hT _ wi_6)
  obtain ⟨d7, f7, k7⟩ := u_known (C := RX7) (T := TX7) (N := 5) (n := 5) hT gin_7 (hT _ wi_7)
  obtain ⟨d8, f8, k8⟩ := u_known (C := RX8) (T := TX8) (N := 9) (n := 9) hT gin_8 (hT _ wi_8)
  refine ⟨(fun k => [d0, d1, d2, d3, d4, d5, d6, d7, d8].getD k 0, fun k => [f0, f1, f2, f3, f4, f5, f6, f7, f8].getD k (fun _ => 0)), fun c q hq => ?_⟩
  match c, hq with
  | 0, hq => cases hq; exact k0
  | 1, hq => cases hq; exact k1
  | 2, hq => cases hq; exact k2
  | 3, hq => cases hq; exact k3
  | 4, hq => cases hq; exact k4
  | 5, hq => cases hq; exact k5
  | 6, hq => cases hq; exact k6
  | 7, hq => cases hq; exact k7
  | 8, hq => cases hq; exact k8
  | c + 9, hq => simp [gCl] at hq
theorem e_tys {s : State} {args : Array Value} (hts : ∀ w ∈ lw_tbl, w.before args s = true) : ∃ f : Nat → ClassId, ∀ (X : gX), X.2.2.1 = f → ∀ (k : Nat) (q : ClassId × FieldType), (gTy X)[k]? = some q → ArrOfT s q.1 q.2 ∧ va_RA s q.1 q.2 := by
  obtain ⟨c0, r0, n0⟩ := e_arr (hts _ ea_0)
  obtain ⟨c1, r1, n1⟩ := e_arr (hts _ ea_1)
  obtain ⟨c4, r4, n4⟩ := e_arrq (hts _ eo_6)
  obtain ⟨c5, r5, n5⟩ := e_arrq (hts _ eo_7)
  obtain ⟨c6, r6, n6⟩ := e_arrq (hts _ eo_0)
  obtain ⟨c7, r7, n7⟩ := e_arrq (hts _ eo_2)
  obtain ⟨c8, r8, n8⟩ := e_arrq (hts _ eo_3)
  refine ⟨fun k => [c0, c1, c0, c0, c4, c5, c6, c7, c8].getD k 0, fun X hX k q hq => ?_⟩
  obtain ⟨x1, x2, x3, x4⟩ := X
  have hX : x3 = fun k => [c0, c1, c0, c0, c4, c5, c6, c7, c8].getD k 0 := hX
  subst hX
  match k, hq with
  | 0, hq => cases hq; exact ⟨r0, n0⟩
  | 1, hq => cases hq; exact ⟨r1, n1⟩
  | 2, hq => cases hq; exact ⟨r0, n0⟩
  | 3, hq => cases hq; exact ⟨r0, n0⟩
  | 4, hq => cases hq; exact ⟨r4, n4⟩
  | 5, hq => cases hq; exact ⟨r5, n5⟩
  | 6, hq => cases hq; exact ⟨r6, n6⟩
  | 7, hq => cases hq; exact ⟨r7, n7⟩
  | 8, hq => cases hq; exact ⟨r8, n8⟩
  | k + 9, hq => simp [gTy] at hq
/-- another object's base, another end: what stays true of the machine -/
def gXb (X0 : gX) (b lim : Nat) : gX := (b, X0.2.1, X0.2.2.1, X0.2.2.2.1, X0.2.2.2.2.1, lim)
theorem gXb_sub {X0 : gX} {b lim : Nat} (h0 : X0.2.2.2.2.2 = 0) (hb : X0.1 ≤ b) : ∀ q, gA (gXb X0 b lim) q → gA X0 q := fun q h => by
  have h1 : b ≤ q := h.1
  exact ⟨by omega, Or.inr (by omega)⟩
theorem gG_sub {X0 : gX} {b lim : Nat} {s : State} (h0 : X0.2.2.2.2.2 = 0) (hb : X0.1 ≤ b) (h : gG X0 s) : gG (gXb X0 b lim) s := by
  have hs := gXb_sub (lim := lim) h0 hb
  obtain ⟨h1, h2, h3, h4, h5, h6, h7, h8, h9⟩ := h
  exact ⟨h1, h2, h3.narrow hs, h4.narrow hs, h5, h6.narrow hs, h7, h8.narrow hs, h9.narrow hs⟩
theorem gEn_sub {p : Program} {s : State} {m : MethodId} {args : Array Value} {c : Code} {cc : ByteArray} {own : String} {X0 : gX} {b lim : Nat} (h0 : X0.2.2.2.2.2 = 0) (hb : X0.1 ≤ b) (E : gEn p s m args c cc own X0) : gEn p s m args c cc own (gXb X0 b lim) := ⟨E.1, E.2.1, E.2.2.1, E.2.2.2.1, gG_sub h0 hb E.2.2.2.2⟩
theorem ent_X {p : Program} {s : State} {m : MethodId} {meth : Method} {c : Code} {b L : Nat} {xs : Nat → Int32} (C0 : lw_At p s m meth c b L xs) : ∃ X : gX, X.1 = s.heap.size ∧ X.2.2.2.2.2 = 0 ∧ gEn p s m #[Value.ref b] c cL_law RL X ∧ gAO s := by
  obtain ⟨hx, hb, hr, hml, hown, hts, hXs, hbl, hlocks, hgv⟩ := C0
  have hT : ∀ w ∈ gT, w.before #[Value.ref b] s = true := fun w h => hts w (List.mem_filter.mp h).1
  have hs : ∀ w ∈ flatC eC, w.before #[Value.ref b] s = true := flat_of_before _ hgv
  have hA2 : ∀ a : Nat, a < s.heap.size → ¬ (fun q : Nat => s.heap.size ≤ q) a := fun a h => Nat.not_le.mpr h
  obtain ⟨D, hD⟩ := e_cls hT
  obtain ⟨f, hf⟩ := e_tys hts
  obtain ⟨adK, adV, hS, hE, hE2⟩ := e_forms (A := fun q : Nat => s.heap.size ≤ q) hs hA2
  have z1 := vx_Zqof (A := fun q : Nat => s.heap.size ≤ q) (hts _ el_1) (hts _ ei_1) (hs _ en_t1) hA2
  have z2 := vx_Zqof (A := fun q : Nat => s.heap.size ≤ q) (hts _ el_2) (hts _ ei_1) (hs _ en_t2) hA2
  have z3 := va_Zof (A := fun q : Nat => s.heap.size ≤ q) (hts _ el_3) (hts _ ei_2) (va_eqt (hs _ en_t3)) hA2
  have z4 := va_Zqof (A := fun q : Nat => s.heap.size ≤ q) (hts _ el_4) (hts _ ei_3) (hs _ en_t4) hA2
  have hAA : ∀ q, gA ((s.heap.size, D, f, adK, adV, 0) : gX) q → s.heap.size ≤ q := fun q h => h.1
  have hG : gG ((s.heap.size, D, f, adK, adV, 0) : gX) s := by
    refine ⟨⟨hD, hf _ rfl⟩, fun w hw => ?_, z1.narrow hAA, z2.narrow hAA, fun q hq => ?_, hS.narrow hAA, ⟨fun i q hq => ?_, fun i q hq => ?_⟩, z3.narrow hAA, z4.narrow hAA⟩
    · have h1 : w ∈ tables_1 := (List.mem_filter.mp hw).1
      exact va_Nw.of (gN_tab hw) (hts w (List.mem_append_right _ h1))
    · obtain ⟨a, c, cell, k, q1, -⟩ := Cond.exactly_spec (hs _ (en_ex q hq))
      exact ⟨a, vk_R.of (hts _ (es_8 q hq)) q1⟩
    · exact vk_R.of (hts _ (es_5 q (List.mem_of_getElem? hq))) (hE i q hq)
    · exact vk_R.of (hts _ (es_L q (List.mem_of_getElem? hq))) (hE2 i q hq)
  refine ⟨(s.heap.size, D, f, adK, adV, 0), rfl, rfl, ⟨hx, hb, hown, hT, hG⟩, fun C hC => ?_⟩
  have h5 : Cond.arrayOver (.object C) ∈ lw_tbl := by
    simp only [gAOl, List.mem_cons, List.not_mem_nil, or_false] at hC
    rcases hC with rfl | rfl | rfl | rfl | rfl
    · exact eo_6
    · exact eo_7
    · exact eo_0
    · exact eo_2
    · exact eo_3
  exact va_AO.of (hts _ h5)
/-! the new object -/
def zS0 : gZ := zN (gn 8) (0, 0, fun _ _ => false, fun _ _ => 0)
def zS1 : Option gZ := f_X8_init 0 zS0
def nwS (c : Nat) : Nat := if gk c < 10 then gn (gk c) else gl c
def nwR (w : gInit) : Bool := (List.range 433).all (fun c => (gk c == 20) || (gk c == 21) || (List.range (nwS c)).all (fun j => (gr (gk c) j).isNone || w c j))
theorem i_1 : zS1.map (fun z => (z.1, z.2.1)) = some (433, 9 + 3025) := by decide +kernel
theorem i_4 : zS1.map (fun z => nwR z.2.2.1) = some true := by decide +kernel
/-- the memory of a new object -/
def nwm : gMem := match zS1 with
  | none => fun _ _ => 0
  | some z => z.2.2.2
theorem e_z : ∃ z1 : gZ, f_X8_init 0 zS0 = some z1 ∧ z1.1 = 433 ∧ z1.2.2.2 = nwm ∧ nwR z1.2.2.1 = true := by
  have h1 := i_1
  have h4 := i_4
  cases e1 : zS1 with
  | none => rw [e1] at h1; cases h1
  | some z1 =>
    rw [e1] at h1 h4
    simp only [Option.map_some, Option.some.injEq, Prod.mk.injEq] at h1 h4
    refine ⟨z1, e1, h1.1, ?_, h4⟩
    unfold nwm
    rw [e1]
theorem vp_ref {cA : ClassId} {n : Nat} {f f' : Nat → Option Nat} (h : ∀ j, j < n → f' j = f j) : vp_cell cA (n, .inr (.inr (.inr (.inr f')))) = vp_cell cA (n, .inr (.inr (.inr (.inr f)))) := by
  unfold vp_cell
  refine congrArg (fun g : Fin n → Value => ({ cls := cA, slots := Array.ofFn (n := n) g, vm := .none } : Cell)) (funext (fun j => ?_))
  exact congrArg va_rf (h j.val j.isLt)
/-- all references are set: the world is whole -/
theorem gM_new {X : gX} {w : gInit} {m : gMem} {H : Heap} (hw : nwR w = true) (h : gW X 433 w m H) : gM X m H := by
  unfold nwR at hw
  simp only [Bool.or_eq_true, List.all_eq_true, List.mem_range, beq_iff_eq, Option.isNone_iff_eq_none] at hw
  intro k q hq
  obtain ⟨h1, rfl⟩ := gWl_inv hq
  have h2 := h k _ (gWl_get (X := X) (ω := w) (σ := m) h1)
  by_cases k1 : gk k < 10
  · have e : gE X gAll m k = gE X w m k := by
      rw [gE_obj rfl k1, gE_obj rfl k1]
      refine congrArg Sum.inr (congrArg (Prod.mk (gk k)) (List.map_congr_left (fun j hj => ?_)))
      rw [List.mem_range] at hj
      rcases hw k h1 with q | q
      · omega
      · have q2 := q j (by unfold nwS; rw [if_pos k1]; exact hj)
        unfold gV
        rcases q2 with q2 | q2
        · rw [q2]
        · rw [q2]; rfl
    rw [e]; exact h2
  · by_cases k2 : gk k < 22
    · have e : gE X gAll m k = gE X w m k := by unfold gE; rw [if_neg k1, if_neg k1, if_pos k2, if_pos k2]
      rw [e]; exact h2
    · have q := (hw k h1).resolve_left (by omega)
      unfold gE at h2 ⊢
      rw [if_neg k1, if_neg k2] at h2 ⊢
      refine Eq.trans (show H[X.1 + k]? = _ from h2) ?_
      refine congrArg some ?_
      exact (vp_ref (fun j hj => by
        have q2 := q j (by unfold nwS; rw [if_neg k1]; exact hj)
        rcases q2 with q2 | q2
        · simp only [q2]
        · simp only [q2]; rfl)).symm
/-- the first object of all -/
theorem gz_new0 {p : Program} {l : Launch} {e : Env} {R : Room} {s : State} {m : MethodId} {args : Array Value} {below : List Frame} {meth : Method} {c : Code} {Q : State → Prop} {cc : ByteArray} {pc : Nat} {ls : Array Slot} {rest : List Value} {X : gX} {z : gZ} {own : String} {C : String} {T : u_T} {N ci index : Nat} (E : gEn p s m args c cc own X) (hin : ∀ w ∈ u_ws C T N, w ∈ gT) (ty0 : Nat → FieldType) (hty : ∀ k, k < N → parseFieldDescriptor (T k).2.2.1 = some (ty0 k)) (hci : gCl[ci]? = some (C, T, N)) (hgn : gn ci = N) (h10 : ci < 10)
    (w1 : Cond.classLink own index C ∈ gT) (w2 : Cond.instantiable C N ∈ gT) (w3 : Cond.initialized C ∈ gT) (hdef : ∀ j, j < N → defaultValue (ty0 j) = (match gr ci j with | none => Value.int 0 | some _ => Value.null)) (hX : X.1 = s.heap.size) (hz0 : z.1 = 0) (hk : gk z.1 = ci) (hcells : 0 + 1 ≤ R.cells) (hslots : 0 + N ≤ R.slots) (hdg : decode cc pc = .ok (.new index, 3))
    (kk : ∀ (H : Heap), gWz X (zN N z) H → va_S (gA X) s.heap H [] → W p l e R s m args below meth c H [] (0 + 1) (0 + N) Q (F0 m (pc + 3) ls (.ref (X.1 + z.1) :: rest))) : W p l e R s m args below meth c s.heap [] 0 0 Q (F0 m pc ls rest) := by
  have hsz : s.heap.size = X.1 + z.1 := by omega
  have hKn := (gEn_K E).1 ci _ hci
  refine W.newcK E.1 E.2.1 E.2.2.1 (gEn_t E w1) (gEn_t E w2) (gEn_t E w3) rfl hdg hcells hslots hKn.2.1 hsz fun H1 kC hkC e1 z1 o1 => ?_
  have o2 : ∀ q : Nat, q < s.heap.size → H1[q]? = s.heap[q]? := fun q hq => o1 q (by rw [← hsz]; exact hq)
  refine kk H1 ⟨gW_succ (w := z.2.2.1) (μ := z.2.2.2) (fun k q h => absurd (gWl_inv h).1 (by omega)) o2 ?_ (fun k hk => absurd hk (by omega)), gk_in hk (by omega), Nat.succ_pos _⟩ ⟨by rw [hsz, z1]; omega, fun x h1 _ => o2 x h1, fun x hx => absurd hx List.not_mem_nil⟩
  rw [gE_obj hk h10]
  refine ⟨_, hci, (u_born ty0 E.2.2.2.1 hin hKn hkC e1 hty).to (fun j hj => ?_)⟩
  show defaultValue (ty0 j) = vp_V _ j
  rw [hdef j hj]
  unfold vp_V
  rw [show (ci, List.map (gV X.1 (zN N z).2.2.1 (zN N z).2.2.2 z.1) (List.range (gn ci))).2.getD j Value.null = gV X.1 (zN N z).2.2.1 (zN N z).2.2.2 z.1 j by rw [hgn, List.getD_eq_getElem?_getD, gMap _ hj]; rfl]
  unfold gV
  rw [hk]
  cases gr ci j with
  | none => simp [zN, mc]
  | some o => simp [zN]
