/-! THE PURE SIDE: the new objects -/
def zS0 : gZ := zN (gn 8) (0, 0, fun _ _ => false, fun _ _ => 0)
def zS1 : Option gZ := f_X8_init 0 zS0
def zS2 : Option gZ := g3 zS1 (fun z => f_X9_init 433 (zN (gn 9) z))
/-- a new row -/
def nwG (k : Nat) : Int32 := if k = 1 then nI 100 else if 2 ≤ k ∧ k < 26 then nI 45 else nI 0
def nwL (k : Nat) : Bool := k != 95 && k != 99 && !(decide (30 ≤ k) && decide (k < 48)) && !(decide (49 ≤ k) && decide (k < 61)) && !(decide (62 ≤ k) && decide (k < 92)) && decide (k < 100)
def nwM (m : gMem) : Bool := (List.range 220).all (fun k => m 434 k == nwG k) && (List.range 100).all (fun k => !nwL k || m (1 + (lo k).1) (lo k).2 == nwG k) && m 4 0 == nI 0 && m 4 1 == nI 0 && m 4 2 == nI 0 && m 0 3 == nI 0 && m 433 5 == nI 0 && m 433 3 == nI 0 && m 106 2 == nI 0 && m 106 1 == nI 0 && m 388 1 == nI 0 && m 433 7 == nI 0 && m 0 6 == m1 && m 433 8 == m1 && m 431 0 == nI 0 && m 433 9 == nI 0 && m 431 1 == nI 0 && m 433 10 == nI 0
def nwS (c : Nat) : Nat := if gk c < 10 then gn (gk c) else gl c
def nwR (w : gInit) : Bool := (List.range 440).all (fun c => (gk c == 20) || (gk c == 21) || (List.range (nwS c)).all (fun j => (gr (gk c) j).isNone || w c j))
theorem i_1 : zS1.map (fun z => (z.1, z.2.1)) = some (433, 9 + 3025) := by decide +kernel
theorem i_2 : zS2.map (fun z => (z.1, z.2.1)) = some (440, 9 + 3025 + 18 + 2780) := by decide +kernel
theorem i_3 : zS2.map (fun z => nwM z.2.2.2) = some true := by decide +kernel
theorem i_4 : zS2.map (fun z => nwR z.2.2.1) = some true := by decide +kernel
theorem nw_GA : GA 0 nwG := ⟨⟨by unfold GB; decide +kernel, by unfold GZ; decide +kernel⟩, by unfold NW; decide +kernel⟩
theorem nw_bnd {k : Nat} {g : Nat → Int32} (hk : k < 220) (h29 : g 29 = nI 0) (h48 : g 48 = nI 0) (h61 : g 61 = nI 0) (h : Lv g k) : k < 100 ∧ nwL k = true := by
  unfold Lv at h
  rw [h29, h48, h61, i_clamp (by decide)] at h
  obtain ⟨h1, h2, h3, h4, h5, h6⟩ := h
  have h7 : k < 100 := by
    by_cases q : k < 100
    · exact q
    · exact absurd (h6 (by omega)).1 (by omega)
  refine ⟨h7, ?_⟩
  unfold nwL
  have a1 : ¬ (30 ≤ k ∧ k < 48) := fun q => by have := h3 q.1 q.2; omega
  have a2 : ¬ (49 ≤ k ∧ k < 61) := fun q => by have := h4 q.1 q.2; omega
  have a3 : ¬ (62 ≤ k ∧ k < 92) := fun q => by have := h5 q.1 q.2; omega
  simp only [Bool.and_eq_true, bne_iff_ne, ne_eq, Bool.not_eq_true', Bool.and_eq_false_iff, decide_eq_false_iff_not, decide_eq_true_eq]
  omega
theorem RR_new {m : gMem} (h : nwM m = true) : RR 0 m m := by
  unfold nwM at h
  simp only [Bool.and_eq_true, List.all_eq_true, List.mem_range, beq_iff_eq, Bool.or_eq_true, Bool.not_eq_true'] at h
  obtain ⟨⟨⟨⟨⟨⟨⟨⟨⟨⟨⟨⟨⟨⟨⟨⟨⟨a1, a2⟩, a3⟩, a4⟩, a5⟩, a6⟩, a7⟩, a8⟩, a9⟩, a10⟩, a11⟩, a12⟩, a13⟩, a14⟩, a15⟩, a16⟩, a17⟩, a18⟩ := h
  have b29 : m 434 29 = nI 0 := a1 29 (by decide)
  have b48 : m 434 48 = nI 0 := a1 48 (by decide)
  have b61 : m 434 61 = nI 0 := a1 61 (by decide)
  refine ⟨⟨⟨fun k hk hL => ?_, ?_, ?_⟩, GA_g nw_GA a1⟩, ⟨by rw [a6, a7], fun q => absurd a7 q⟩, ⟨0, a8, by decide, 0, by decide, a9, a10, fun k hk => absurd hk (by omega)⟩, ⟨0, by decide, a11, a12, fun j hj => absurd hj (by omega)⟩, by rw [a13, a14], by rw [a15, a16], by rw [a17, a18]⟩
  · obtain ⟨k1, k2⟩ := nw_bnd hk b29 b48 b61 hL
    rcases a2 k k1 with q | q
    · rw [q] at k2; cases k2
    · rw [q, a1 k hk]
  · show m 4 0 + m 4 1 + m 4 2 = m 434 95
    rw [a3, a4, a5, a1 95 (by decide)]; decide
  · show m 4 0 + m 4 1 * 2 + m 4 2 * 3 = m 434 99
    rw [a3, a4, a5, a1 99 (by decide)]; decide
theorem vp_ref {cA : ClassId} {n : Nat} {f f' : Nat → Option Nat} (h : ∀ j, j < n → f' j = f j) : vp_cell cA (n, .inr (.inr (.inr (.inr f')))) = vp_cell cA (n, .inr (.inr (.inr (.inr f)))) := by
  unfold vp_cell
  refine congrArg (fun g : Fin n → Value => ({ cls := cA, slots := Array.ofFn (n := n) g, vm := .none } : Cell)) (funext (fun j => ?_))
  exact congrArg va_rf (h j.val j.isLt)
/-- all references are set: the world is whole -/
theorem gM_new {X : gX} {w : gInit} {m : gMem} {H : Heap} (hw : nwR w = true) (h : gW X 440 w m H) : gM X m H := by
  unfold nwR at hw
  simp only [Bool.or_eq_true, List.all_eq_true, List.mem_range, beq_iff_eq, Option.isNone_iff_eq_none] at hw
  intro k q hq
  obtain ⟨h1, rfl⟩ := gWl_inv hq
  have h2 := h k _ (gWl_get (X := X) (ω := w) (σ := m) h1)
  by_cases k1 : gk k < 10
  · have e : gE X gAll m k = gE X w m k := by
      rw [gE_obj rfl k1, gE_obj rfl k1]
      refine congrArg Sum.inr (congrArg (Prod.mk (gk k)) (List.map_congr_left (fun j hj => ?_)))
      rw [List.mem_range] at hj
      rcases hw k h1 with q | q
      · omega
      · have q2 := q j (by unfold nwS; rw [if_pos k1]; exact hj)
        unfold gV
        rcases q2 with q2 | q2
        · rw [q2]
        · rw [q2]; rfl
    rw [e]; exact h2
  · by_cases k2 : gk k < 22
    · have e : gE X gAll m k = gE X w m k := by unfold gE; rw [if_neg k1, if_neg k1, if_pos k2, if_pos k2]
      rw [e]; exact h2
    · have q := (hw k h1).resolve_left (by omega)
      unfold gE at h2 ⊢
      rw [if_neg k1, if_neg k2] at h2 ⊢
      refine Eq.trans (show H[X.1 + k]? = _ from h2) ?_
      refine congrArg some ?_
      exact (vp_ref (fun j hj => by
        have q2 := q j (by unfold nwS; rw [if_neg k1]; exact hj)
        rcases q2 with q2 | q2
        · simp only [q2]
        · simp only [q2]; rfl)).symm
