/-! THE LAW: its switch -/
set_option maxRecDepth 100000 in
set_option maxHeartbeats 4000000 in
theorem cs_all {p : Program} {l : Launch} {e : Env} {R : Room} {s : State} {m : MethodId} {args : Array Value} {below : List Frame} {meth : Method} {c : Code} {H : Heap} {locs : List Loc} {ls : Array Slot} {cells slots : Nat} {Q : State → Prop} {X : gX} {z : Nat → Int64} {w : Nat → UInt64} (E : gE2 p s m args c cL_law X) (hml : c.maxLocals = 9) (hl0 : l.stackTraces = false) (hRf : 16 ≤ R.frames) (hRl : 1000 ≤ R.locals) (hRc : cells + 8 ≤ R.cells) (hRs : slots + 48 ≤ R.slots) {b L : Nat} {xs : Nat → Int32} (hXs : va_X b L xs s s.heap) (hbl : b < s.heap.size) (hbA : ¬ gA2 X b) {i : Int32} (hin : ∀ k : Nat, k < 5 → vp_in (i + nI k) L) {N : Nat} {σ : gMem} (hR : RR N σ σ) (hN : N ≤ 900000) (hM : gM X σ H) (hO : gO X z w H) (hS : va_S (gA2 X) s.heap H locs) (hl : lv_has ls 9 [(0, .ref b), (1, .ref (X.1 + 0)), (2, .ref (X.1 + 433)), (3, .ref (X.1 + 440)), (4, .ref (X.1 + 441)), (5, .int i)]) (kk : ∀ (H : Heap) (locs : List Loc) (ls : Array Slot) (σ : gMem) (z : Nat → Int64) (w : Nat → UInt64) (c1 s1 : Nat), c1 ≤ 8 → s1 ≤ 48 → RR (N + 1440) σ σ → gM X σ H → gO X z w H → va_S (gA2 X) s.heap H locs → lv_has ls 9 [(0, .ref b), (1, .ref (X.1 + 0)), (2, .ref (X.1 + 433)), (3, .ref (X.1 + 440)), (4, .ref (X.1 + 441)), (5, .int i)] → W p l e R s m args below meth c H locs (cells + c1) (slots + s1) Q (F0 m 2231 ls [])) (q : Int32) : W p l e R s m args below meth c H locs cells slots Q (F0 m 44 ls [.int q]) := by
  obtain ⟨hx, hb⟩ := (⟨E.1.1, E.1.2.1⟩ : _ ∧ _)
  by_cases h0 : q = nI 0
  · subst h0
    exact lv_tableIn (off := 156) (tgt := 200) hx hb dL_law_44 (by decide) (by decide) rfl (by decide) (cs_0 E hml hl0 hRf hRl hRc hRs hXs hbl hbA hin hR hN hM hO hS hl kk)
  by_cases h1 : q = nI 1
  · subst h1
    exact lv_tableIn (off := 224) (tgt := 268) hx hb dL_law_44 (by decide) (by decide) rfl (by decide) (cs_1 E hml hl0 hRf hRl hRc hRs hXs hbl hbA hin hR hN hM hO hS hl kk)
  by_cases h2 : q = nI 2
  · subst h2
    exact lv_tableIn (off := 280) (tgt := 324) hx hb dL_law_44 (by decide) (by decide) rfl (by decide) (cs_2 E hml hl0 hRf hRl hRc hRs hXs hbl hbA hin hR hN hM hO hS hl kk)
  by_cases h3 : q = nI 3
  · subst h3
    exact lv_tableIn (off := 348) (tgt := 392) hx hb dL_law_44 (by decide) (by decide) rfl (by decide) (cs_3 E hml hl0 hRf hRl hRc hRs hXs hbl hbA hin hR hN hM hO hS hl kk)
  by_cases h4 : q = nI 4
  · subst h4
    exact lv_tableIn (off := 404) (tgt := 448) hx hb dL_law_44 (by decide) (by decide) rfl (by decide) (cs_4 E hml hl0 hRf hRl hRc hRs hXs hbl hbA hin hR hN hM hO hS hl kk)
  by_cases h5 : q = nI 5
  · subst h5
    exact lv_tableIn (off := 460) (tgt := 504) hx hb dL_law_44 (by decide) (by decide) rfl (by decide) (cs_5 E hml hl0 hRf hRl hRc hRs hXs hbl hbA hin hR hN hM hO hS hl kk)
  by_cases h6 : q = nI 6
  · subst h6
    exact lv_tableIn (off := 528) (tgt := 572) hx hb dL_law_44 (by decide) (by decide) rfl (by decide) (cs_6 E hml hl0 hRf hRl hRc hRs hXs hbl hbA hin hR hN hM hO hS hl kk)
  by_cases h7 : q = nI 7
  · subst h7
    exact lv_tableIn (off := 584) (tgt := 628) hx hb dL_law_44 (by decide) (by decide) rfl (by decide) (cs_7 E hml hl0 hRf hRl hRc hRs hXs hbl hbA hin hR hN hM hO hS hl kk)
  by_cases h8 : q = nI 8
  · subst h8
    exact lv_tableIn (off := 628) (tgt := 672) hx hb dL_law_44 (by decide) (by decide) rfl (by decide) (cs_8 E hml hl0 hRf hRl hRc hRs hXs hbl hbA hin hR hN hM hO hS hl kk)
  by_cases h9 : q = nI 9
  · subst h9
    exact lv_tableIn (off := 720) (tgt := 764) hx hb dL_law_44 (by decide) (by decide) rfl (by decide) (cs_9 E hml hl0 hRf hRl hRc hRs hXs hbl hbA hin hR hN hM hO hS hl kk)
  by_cases h10 : q = nI 10
  · subst h10
    exact lv_tableIn (off := 812) (tgt := 856) hx hb dL_law_44 (by decide) (by decide) rfl (by decide) (cs_10 E hml hl0 hRf hRl hRc hRs hXs hbl hbA hin hR hN hM hO hS hl kk)
  by_cases h11 : q = nI 11
  · subst h11
    exact lv_tableIn (off := 868) (tgt := 912) hx hb dL_law_44 (by decide) (by decide) rfl (by decide) (cs_11 E hml hl0 hRf hRl hRc hRs hXs hbl hbA hin hR hN hM hO hS hl kk)
  by_cases h12 : q = nI 12
  · subst h12
    exact lv_tableIn (off := 948) (tgt := 992) hx hb dL_law_44 (by decide) (by decide) rfl (by decide) (cs_12 E hml hl0 hRf hRl hRc hRs hXs hbl hbA hin hR hN hM hO hS hl kk)
  by_cases h13 : q = nI 13
  · subst h13
    exact lv_tableIn (off := 1016) (tgt := 1060) hx hb dL_law_44 (by decide) (by decide) rfl (by decide) (cs_13 E hml hl0 hRf hRl hRc hRs hXs hbl hbA hin hR hN hM hO hS hl kk)
  by_cases h14 : q = nI 14
  · subst h14
    exact lv_tableIn (off := 1084) (tgt := 1128) hx hb dL_law_44 (by decide) (by decide) rfl (by decide) (cs_14 E hml hl0 hRf hRl hRc hRs hXs hbl hbA hin hR hN hM hO hS hl kk)
  by_cases h15 : q = nI 15
  · subst h15
    exact lv_tableIn (off := 1140) (tgt := 1184) hx hb dL_law_44 (by decide) (by decide) rfl (by decide) (cs_15 E hml hl0 hRf hRl hRc hRs hXs hbl hbA hin hR hN hM hO hS hl kk)
  by_cases h16 : q = nI 16
  · subst h16
    exact lv_tableIn (off := 1196) (tgt := 1240) hx hb dL_law_44 (by decide) (by decide) rfl (by decide) (cs_16 E hml hl0 hRf hRl hRc hRs hXs hbl hbA hin hR hN hM hO hS hl kk)
  by_cases h17 : q = nI 17
  · subst h17
    exact lv_tableIn (off := 1271) (tgt := 1315) hx hb dL_law_44 (by decide) (by decide) rfl (by decide) (cs_17 E hml hl0 hRf hRl hRc hRs hXs hbl hbA hin hR hN hM hO hS hl kk)
  by_cases h18 : q = nI 18
  · subst h18
    exact lv_tableIn (off := 1327) (tgt := 1371) hx hb dL_law_44 (by decide) (by decide) rfl (by decide) (cs_18 E hml hl0 hRf hRl hRc hRs hXs hbl hbA hin hR hN hM hO hS hl kk)
  by_cases h19 : q = nI 19
  · subst h19
    exact lv_tableIn (off := 1407) (tgt := 1451) hx hb dL_law_44 (by decide) (by decide) rfl (by decide) (cs_19 E hml hl0 hRf hRl hRc hRs hXs hbl hbA hin hR hN hM hO hS hl kk)
  by_cases h20 : q = nI 20
  · subst h20
    exact lv_tableIn (off := 1475) (tgt := 1519) hx hb dL_law_44 (by decide) (by decide) rfl (by decide) (cs_20 E hml hl0 hRf hRl hRc hRs hXs hbl hbA hin hR hN hM hO hS hl kk)
  by_cases h21 : q = nI 21
  · subst h21
    exact lv_tableIn (off := 1531) (tgt := 1575) hx hb dL_law_44 (by decide) (by decide) rfl (by decide) (cs_21 E hml hl0 hRf hRl hRc hRs hXs hbl hbA hin hR hN hM hO hS hl kk)
  by_cases h22 : q = nI 22
  · subst h22
    exact lv_tableIn (off := 1599) (tgt := 1643) hx hb dL_law_44 (by decide) (by decide) rfl (by decide) (cs_22 E hml hl0 hRf hRl hRc hRs hXs hbl hbA hin hR hN hM hO hS hl kk)
  by_cases h23 : q = nI 23
  · subst h23
    exact lv_tableIn (off := 1643) (tgt := 1687) hx hb dL_law_44 (by decide) (by decide) rfl (by decide) (cs_23 E hml hl0 hRf hRl hRc hRs hXs hbl hbA hin hR hN hM hO hS hl kk)
  by_cases h24 : q = nI 24
  · subst h24
    exact lv_tableIn (off := 1699) (tgt := 1743) hx hb dL_law_44 (by decide) (by decide) rfl (by decide) (cs_24 E hml hl0 hRf hRl hRc hRs hXs hbl hbA hin hR hN hM hO hS hl kk)
  by_cases h25 : q = nI 25
  · subst h25
    exact lv_tableIn (off := 1757) (tgt := 1801) hx hb dL_law_44 (by decide) (by decide) rfl (by decide) (cs_25 E hml hl0 hRf hRl hRc hRs hXs hbl hbA hin hR hN hM hO hS hl kk)
  by_cases h26 : q = nI 26
  · subst h26
    exact lv_tableIn (off := 1801) (tgt := 1845) hx hb dL_law_44 (by decide) (by decide) rfl (by decide) (cs_26 E hml hl0 hRf hRl hRc hRs hXs hbl hbA hin hR hN hM hO hS hl kk)
  by_cases h27 : q = nI 27
  · subst h27
    exact lv_tableIn (off := 1814) (tgt := 1858) hx hb dL_law_44 (by decide) (by decide) rfl (by decide) (cs_27 E hml hl0 hRf hRl hRc hRs hXs hbl hbA hin hR hN hM hO hS hl kk)
  by_cases h28 : q = nI 28
  · subst h28
    exact lv_tableIn (off := 1886) (tgt := 1930) hx hb dL_law_44 (by decide) (by decide) rfl (by decide) (cs_28 E hml hl0 hRf hRl hRc hRs hXs hbl hbA hin hR hN hM hO hS hl kk)
  by_cases h29 : q = nI 29
  · subst h29
    exact lv_tableIn (off := 1942) (tgt := 1986) hx hb dL_law_44 (by decide) (by decide) rfl (by decide) (cs_29 E hml hl0 hRf hRl hRc hRs hXs hbl hbA hin hR hN hM hO hS hl kk)
  by_cases h30 : q = nI 30
  · subst h30
    exact lv_tableIn (off := 1955) (tgt := 1999) hx hb dL_law_44 (by decide) (by decide) rfl (by decide) (cs_30 E hml hl0 hRf hRl hRc hRs hXs hbl hbA hin hR hN hM hO hS hl kk)
  by_cases h31 : q = nI 31
  · subst h31
    exact lv_tableIn (off := 2020) (tgt := 2064) hx hb dL_law_44 (by decide) (by decide) rfl (by decide) (cs_31 E hml hl0 hRf hRl hRc hRs hXs hbl hbA hin hR hN hM hO hS hl kk)
  by_cases h32 : q = nI 32
  · subst h32
    exact lv_tableIn (off := 2086) (tgt := 2130) hx hb dL_law_44 (by decide) (by decide) rfl (by decide) (cs_32 E hml hl0 hRf hRl hRc hRs hXs hbl hbA hin hR hN hM hO hS hl kk)
  by_cases h33 : q = nI 33
  · subst h33
    exact lv_tableIn (off := 2130) (tgt := 2174) hx hb dL_law_44 (by decide) (by decide) rfl (by decide) (cs_33 E hml hl0 hRf hRl hRc hRs hXs hbl hbA hin hR hN hM hO hS hl kk)
  by_cases h34 : q = nI 34
  · subst h34
    exact lv_tableIn (off := 2143) (tgt := 2187) hx hb dL_law_44 (by decide) (by decide) rfl (by decide) (cs_34 E hml hl0 hRf hRl hRc hRs hXs hbl hbA hin hR hN hM hO hS hl kk)
  refine lv_tableOut (tgt := 2231) hx hb dL_law_44 ?_ (by decide) (kk H locs ls σ z w 0 0 (by decide) (by decide) (RR_up hR (by omega)) hM hO hS hl)
  by_cases hlt : q.toInt < 0
  · exact Or.inl hlt
  · by_cases hgt : 34 < q.toInt
    · exact Or.inr hgt
    · exfalso
      obtain ⟨n, hn, hn2, hn3⟩ := p_ex (x := q) (by omega)
      have hle : n ≤ 34 := by omega
      subst hn
      have key : ∀ k, k ≤ 34 → ¬ n = k := by
        intro k hk e
        subst e
        rcases (by omega : n = 0 ∨ n = 1 ∨ n = 2 ∨ n = 3 ∨ n = 4 ∨ n = 5 ∨ n = 6 ∨ n = 7 ∨ n = 8 ∨ n = 9 ∨ n = 10 ∨ n = 11 ∨ n = 12 ∨ n = 13 ∨ n = 14 ∨ n = 15 ∨ n = 16 ∨ n = 17 ∨ n = 18 ∨ n = 19 ∨ n = 20 ∨ n = 21 ∨ n = 22 ∨ n = 23 ∨ n = 24 ∨ n = 25 ∨ n = 26 ∨ n = 27 ∨ n = 28 ∨ n = 29 ∨ n = 30 ∨ n = 31 ∨ n = 32 ∨ n = 33 ∨ n = 34) with rfl | rfl | rfl | rfl | rfl | rfl | rfl | rfl | rfl | rfl | rfl | rfl | rfl | rfl | rfl | rfl | rfl | rfl | rfl | rfl | rfl | rfl | rfl | rfl | rfl | rfl | rfl | rfl | rfl | rfl | rfl | rfl | rfl | rfl | rfl
        · exact h0 rfl
        · exact h1 rfl
        · exact h2 rfl
        · exact h3 rfl
        · exact h4 rfl
        · exact h5 rfl
        · exact h6 rfl
        · exact h7 rfl
        · exact h8 rfl
        · exact h9 rfl
        · exact h10 rfl
        · exact h11 rfl
        · exact h12 rfl
        · exact h13 rfl
        · exact h14 rfl
        · exact h15 rfl
        · exact h16 rfl
        · exact h17 rfl
        · exact h18 rfl
        · exact h19 rfl
        · exact h20 rfl
        · exact h21 rfl
        · exact h22 rfl
        · exact h23 rfl
        · exact h24 rfl
        · exact h25 rfl
        · exact h26 rfl
        · exact h27 rfl
        · exact h28 rfl
        · exact h29 rfl
        · exact h30 rfl
        · exact h31 rfl
        · exact h32 rfl
        · exact h33 rfl
        · exact h34 rfl
      exact key n hle rfl
