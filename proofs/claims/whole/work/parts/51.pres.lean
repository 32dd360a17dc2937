/-! THE PURE SIDE: what a call leaves, on both sides -/
def fC (σ σ1 : gMem) : Prop := ∀ c, 433 ≤ c → σ1 c = σ c
def fM (m m1 : gMem) : Prop := ∀ c, c < 433 ∨ 440 ≤ c → m1 c = m c
def RES (N : Nat) (σ m : gMem) (cl : Option (Nat × Int32 × gMem)) (md : Option (Int32 × gMem)) (L : List (Nat × Nat)) : Prop := ∃ (e : Nat) (a : Int32) (σ1 : gMem) (b : Int32) (m1 : gMem) (c : Nat), cl = some (e, a, σ1) ∧ md = some (b, m1) ∧ fC σ σ1 ∧ fM m m1 ∧ RR (N + 1440) σ1 m1 ∧ m1 433 12 = nI c ∧ (e, c) ∈ L ∧ (e = 0 → a = b)
/-- a model that changed -/
def mCh (m m3 : gMem) (g' : Nat → Int32) (cnt : Nat) : Prop := fM m m3 ∧ m3 434 = g' ∧ m3 433 3 = nI (K8 cnt) ∧ (∃ b : Nat → Int32, (∀ j, j < 220 → b j = m 434 j) ∧ m3 436 = KH (m 436) b cnt) ∧ m3 437 = m 437 ∧ m3 438 = m 438 ∧ (∀ j, j = 5 ∨ j = 7 ∨ j = 8 ∨ j = 9 ∨ j = 10 → m3 433 j = m 433 j) ∧ m3 433 12 = nI 0
/-- a model that stayed -/
def mSt (m m3 : gMem) : Prop := fM m m3 ∧ (∀ j, j < 220 → m3 434 j = m 434 j) ∧ m3 436 = m 436 ∧ m3 437 = m 437 ∧ m3 438 = m 438 ∧ (∀ j, j = 3 ∨ j = 5 ∨ j = 7 ∨ j = 8 → m3 433 j = m 433 j)
theorem RR_st {N : Nat} {σ σ' m m3 : gMem} (H : RR N σ m) (hC : ∀ c, c < 431 → σ' c = σ c) (hM : mSt m m3) (h9 : σ' 431 0 = m3 433 9) (h10 : σ' 431 1 = m3 433 10) : RR N σ' m3 := by
  obtain ⟨a1, ⟨a2, a3⟩, ⟨cnt, a4, a5⟩, a6, a7, a8, a9⟩ := H
  obtain ⟨b1, b2, b3, b4, b5, b6⟩ := hM
  refine ⟨HQ_g (HQ_own a1 (fun c _ h => hC c (by omega))) b2, ⟨by rw [hC 0 (by omega), b6 5 (by decide)]; exact a2, fun h => ?_⟩, ⟨cnt, by rw [b6 3 (by decide)]; exact a4, ?_⟩, TX_own a6 (by rw [hC _ (by omega)]) (hC _ (by omega)) (b6 7 (by decide)) b5, by rw [hC 0 (by omega), b6 8 (by decide)]; exact a7, h9, h10⟩
  · rw [b6 5 (by decide)] at h
    rw [b4]
    exact HQ_own (a3 h) (fun c _ h => hC c (by omega))
  · rw [b3]; exact HI_own a5 (fun c _ h => hC c (by omega))
theorem RR_up {N N' : Nat} {σ m : gMem} (H : RR N σ m) (hN : N ≤ N') : RR N' σ m := by
  obtain ⟨a1, ⟨a2, a3⟩, ⟨cnt, a4, a5⟩, a6⟩ := H
  exact ⟨HQ_up a1 hN, ⟨a2, fun h => HQ_up (a3 h) hN⟩, ⟨cnt, a4, HI_up a5 hN⟩, a6⟩
/-- what the class has kept, before it changes -/
def KK (N : Nat) (σ m σk : gMem) (cnt : Nat) : Prop := (∀ c, c < 106 ∨ 388 ≤ c → σk c = σ c) ∧ ∀ b : Nat → Int32, (∀ j, j < 220 → b j = m 434 j) → HI N σk (KH (m 436) b cnt) (K8 cnt)
theorem ch_pre {N : Nat} {σ m : gMem} (H : RR N σ m) : ∃ (cnt : Nat) (σk : gMem), m 433 3 = nI cnt ∧ cnt ≤ 8 ∧ f_X1_keep 106 1 σ = some ((), σk) ∧ qF σk σk 1 (m 434) ∧ KK N σ m σk cnt := by
  obtain ⟨a1, -, ⟨cnt, a4, a5⟩, -⟩ := H
  obtain ⟨σk, k1, k2, k3⟩ := c_keep a5 a1
  exact ⟨cnt, σk, a4, a5.1, k1, HQ_F (HQ_own a1 (fun c _ h => k2 c (by omega))), k2, k3⟩
theorem ch_post {N cnt : Nat} {σ m σk σ1 m3 : gMem} {g' : Nat → Int32} (H : RR N σ m) (hK : KK N σ m σk cnt) (q : qF σk σ1 1 g') (hg : GA (N + 1440) g') (hm : mCh m m3 g' cnt) : RR (N + 1440) σ1 m3 ∧ fC σ σ1 := by
  obtain ⟨a1, ⟨a2, a3⟩, -, a6, a7, a8, a9⟩ := H
  obtain ⟨k1, k2⟩ := hK
  obtain ⟨b0, b1, b2, ⟨b, b3, b4⟩, b5, b6, b7, b8⟩ := hm
  have hf : ∀ c, c < 1 ∨ 36 ≤ c → σ1 c = σk c := fun c hc => q.2 c (by omega)
  have hf2 : ∀ c, c < 1 ∨ 388 ≤ c → σ1 c = σ c := fun c hc => by rw [hf c (by omega), k1 c (by omega)]
  refine ⟨⟨by rw [b1]; exact ⟨q.1, hg⟩, ⟨by rw [hf2 0 (by omega), b7 5 (by decide)]; exact a2, fun h => ?_⟩, ⟨K8 cnt, b2, ?_⟩, TX_own a6 (by rw [hf2 _ (by omega)]) (hf2 _ (by omega)) (b7 7 (by decide)) b6, by rw [hf2 0 (by omega), b7 8 (by decide)]; exact a7, by rw [hf2 _ (by omega), b7 9 (by decide)]; exact a8, by rw [hf2 _ (by omega), b7 10 (by decide)]; exact a9⟩, fun c hc => hf2 c (by omega)⟩
  · rw [b7 5 (by decide)] at h
    rw [b5]
    exact HQ_up (HQ_own (a3 h) (fun c h1 h2 => by rw [hf c (by omega), k1 c (by omega)])) (by omega)
  · rw [b4]
    exact HI_up (HI_own (k2 b b3) (fun c h1 h2 => hf c (by omega))) (by omega)
theorem xLB_434 {m : gMem} : xLB m 434 = m 434 := mc_n (by decide)
theorem xLB_433 {m : gMem} : xLB m 433 = m 433 := mc_n (by decide)
theorem xLB_c {m : gMem} {c : Nat} (h : c ≠ 435) : xLB m c = m c := mc_n h
theorem xLB_435 {m : gMem} {j : Nat} (hj : j < 220) : xLB m 435 j = m 434 j := by
  unfold xLB
  rw [mc_s, va_cpy_ap, if_pos (by omega)]
  exact congrArg (m 434) (by omega)
theorem x_end {m m2 : gMem} {cnt : Nat} {g' : Nat → Int32} (hc : m 433 3 = nI cnt) (h8 : cnt ≤ 8) (h : eOk (xLB m) m2 g') (v : Int32) : ∃ m3, f_X9_kept 433 v m2 = some (v, m3) ∧ mCh m m3 g' cnt := by
  obtain ⟨⟨h1, h2⟩, h3, h4, h5, h6⟩ := h
  have e : ∀ j, j ≠ 3 → xKP m2 cnt 433 j = m2 433 j := fun j hj => by
    unfold xKP; rw [ms_ap, if_neg (by omega), mc_n (by decide)]
  have ec : ∀ c, c ≠ 433 → c ≠ 436 → xKP m2 cnt c = m2 c := fun c q1 q2 => by
    unfold xKP; rw [ms_cell q1, mc_n q2]
  refine ⟨xKP m2 cnt, x_kept h4 (by rw [h2 3 (by decide), xLB_433]; exact hc) h8, ?_, ?_, ?_, ⟨m2 435, ?_, ?_⟩, ?_, ?_, ?_, ?_⟩
  · intro c q
    rw [ec c (by omega) (by omega), h1 c (by omega) (by omega), xLB_c (by omega)]
  · rw [ec _ (by decide) (by decide)]; exact h3
  · unfold xKP K8; exact ms_ss
  · intro j hj
    rw [h1 435 (by decide) (by decide)]; exact xLB_435 hj
  · unfold xKP xKH KH
    rw [ms_cell (by decide), mc_s, h1 436 (by decide) (by decide), xLB_c (by decide)]
  · rw [ec _ (by decide) (by decide), h1 _ (by decide) (by decide), xLB_c (by decide)]
  · rw [ec _ (by decide) (by decide), h1 _ (by decide) (by decide), xLB_c (by decide)]
  · intro j hj
    rw [e j (by omega)]
    rcases hj with rfl | rfl | rfl | rfl | rfl
    · rw [h2 _ (by decide), xLB_433]
    · rw [h2 _ (by decide), xLB_433]
    · rw [h2 _ (by decide), xLB_433]
    · rw [h5, xLB_433]
    · rw [h6, xLB_433]
  · rw [e _ (by decide)]; exact h4
theorem x_stay {m m2 : gMem} {c : Nat} (h1 : xF (xLB m) m2) (ht : m2 433 12 = nI c) (h0 : 0 < c) (h5 : c < 5) (v : Int32) : ∃ m3, f_X9_kept 433 v m2 = some (nI 0, m3) ∧ mSt m m3 ∧ m3 433 = m2 433 := by
  have ec : ∀ c, c ≠ 434 → xKB m2 c = m2 c := fun c q1 => by unfold xKB; rw [mc_n q1]
  refine ⟨xKB m2, x_kept_b (by rw [ht]; intro q; rw [p_eq (by omega) (by decide)] at q; omega), ⟨?_, ?_, ?_, ?_, ?_, ?_⟩, ?_⟩
  · intro c q
    rw [ec c (by omega), h1.1 c (by omega) (by omega), xLB_c (by omega)]
  · intro j hj
    unfold xKB
    rw [mc_s, va_cpy_ap, if_pos (by omega), h1.1 435 (by decide) (by decide)]
    rw [show 0 + (j - 0) = j by omega]
    exact xLB_435 hj
  · rw [ec _ (by decide), h1.1 _ (by decide) (by decide), xLB_c (by decide)]
  · rw [ec _ (by decide), h1.1 _ (by decide) (by decide), xLB_c (by decide)]
  · rw [ec _ (by decide), h1.1 _ (by decide) (by decide), xLB_c (by decide)]
  · intro j hj
    rw [ec _ (by decide), h1.2 j (by omega), xLB_433]
  · rw [ec _ (by decide)]
/-! the ends of a call -/
section
variable {N : Nat} {σ m : gMem} {cl : Option (Nat × Int32 × gMem)} {md : Option (Int32 × gMem)} {L : List (Nat × Nat)}
theorem mSt_433 {m' : gMem} (h1 : ∀ c, c ≠ 433 → m' c = m c) (h2 : ∀ j, j = 3 ∨ j = 5 ∨ j = 7 ∨ j = 8 → m' 433 j = m 433 j) : mSt m m' := ⟨fun c hc => h1 c (by omega), fun j _ => by rw [h1 434 (by decide)], h1 _ (by decide), h1 _ (by decide), h1 _ (by decide), h2⟩
theorem res_done (H : RR N σ m) {v : Int32} (hc : cl = some (0, v, σ)) (hm : md = some (v, ms m 433 12 (nI 0))) (hL : (0, 0) ∈ L) : RES N σ m cl md L := by
  refine ⟨0, v, σ, v, _, 0, hc, hm, fun c _ => rfl, fun c q => ms_cell (by omega), RR_up (RR_st H (fun _ _ => rfl) (mSt_433 (fun c q => ms_cell q) (fun j q => by rw [ms_ap, if_neg (by omega)])) ?_ ?_) (by omega), ms_ss, hL, fun _ => rfl⟩
  · rw [ms_ap, if_neg (by decide)]; exact H.2.2.2.2.2.1
  · rw [ms_ap, if_neg (by decide)]; exact H.2.2.2.2.2.2
theorem res_fail (H : RR N σ m) {a b : Int32} {e c : Nat} (hc : cl = some (e, a, σ)) (hm : md = some (b, ms (ms m 433 12 (nI c)) 433 11 (nI 0))) (he : e ≠ 0) (hL : (e, c) ∈ L) : RES N σ m cl md L := by
  refine ⟨e, a, σ, b, _, c, hc, hm, fun c _ => rfl, fun c q => by rw [ms_cell (by omega), ms_cell (by omega)], RR_up (RR_st H (fun _ _ => rfl) (mSt_433 (fun c q => by rw [ms_cell q, ms_cell q]) (fun j q => by rw [ms_ap, if_neg (by omega), ms_ap, if_neg (by omega)])) ?_ ?_) (by omega), by rw [ms_ap, if_neg (by decide)]; exact ms_ss, hL, fun q => absurd q he⟩
  · rw [ms_ap, if_neg (by decide), ms_ap, if_neg (by decide)]; exact H.2.2.2.2.2.1
  · rw [ms_ap, if_neg (by decide), ms_ap, if_neg (by decide)]; exact H.2.2.2.2.2.2
/-- a call that changes -/
theorem res_ch (H : RR N σ m) {cnt : Nat} {σk σ1 m3 : gMem} {g' : Nat → Int32} {v : Int32} (hK : KK N σ m σk cnt) (hc : cl = some (0, v, σ1)) (hm : md = some (v, m3)) (q : qF σk σ1 1 g') (hg : GA (N + 1440) g') (hM : mCh m m3 g' cnt) (hL : (0, 0) ∈ L) : RES N σ m cl md L := by
  obtain ⟨h1, h2⟩ := ch_post H hK q hg hM
  exact ⟨0, v, σ1, v, m3, 0, hc, hm, h2, hM.1, h1, hM.2.2.2.2.2.2.2, hL, fun _ => rfl⟩
/-- a call that ends in an error, state kept -/
theorem res_bad (H : RR N σ m) {m2 m3 : gMem} {a b : Int32} {e c : Nat} (hc : cl = some (e, a, σ)) (hm : md = some (b, m3)) (h1 : mSt m m3) (h2 : m3 433 = m2 433) (h12 : m2 433 12 = nI c) (h9 : m2 433 9 = m 433 9) (h10 : m2 433 10 = m 433 10) (he : e ≠ 0) (hL : (e, c) ∈ L) : RES N σ m cl md L :=
  ⟨e, a, σ, b, m3, c, hc, hm, fun c _ => rfl, h1.1, RR_up (RR_st H (fun _ _ => rfl) h1 (by rw [h2, h9]; exact H.2.2.2.2.2.1) (by rw [h2, h10]; exact H.2.2.2.2.2.2)) (by omega), by rw [h2]; exact h12, hL, fun q => absurd q he⟩
/-- a call that is refused, with its reason -/
theorem res_ref (H : RR N σ m) {m2 m3 : gMem} {a b r d : Int32} {e c : Nat} (hc : cl = some (e, a, ms (ms σ 431 0 r) 431 1 d)) (hm : md = some (b, m3)) (h1 : mSt m m3) (h2 : m3 433 = m2 433) (h12 : m2 433 12 = nI c) (h9 : m2 433 9 = r) (h10 : m2 433 10 = d) (he : e ≠ 0) (hL : (e, c) ∈ L) : RES N σ m cl md L :=
  ⟨e, a, _, b, m3, c, hc, hm, fun c q => by rw [ms_cell (by omega), ms_cell (by omega)], h1.1, RR_up (RR_st H (fun c q => by rw [ms_cell (by omega), ms_cell (by omega)]) h1 (by rw [h2, h9, ms_ap, if_neg (by decide)]; exact ms_ss) (by rw [h2, h10]; exact ms_ss)) (by omega), by rw [h2]; exact h12, hL, fun q => absurd q he⟩
end
