/-! THE PURE SIDE: orders are carried out alike -/
theorem g1_id {α : Type} {o : Option (α × gMem)} : g1 o (fun r s => some (r, s)) = o := by cases o <;> rfl
def xF (m m' : gMem) : Prop := (∀ c, c ≠ 433 → c ≠ 434 → m' c = m c) ∧ ∀ j, j < 9 ∨ 15 ≤ j → m' 433 j = m 433 j
def eOk (m m' : gMem) (g' : Nat → Int32) : Prop := xF m m' ∧ m' 434 = g' ∧ m' 433 12 = nI 0 ∧ m' 433 9 = m 433 9 ∧ m' 433 10 = m 433 10
def eBad (m m' : gMem) : Prop := xF m m' ∧ (∃ c : Nat, m' 433 12 = nI c ∧ 0 < c ∧ c < 5) ∧ m' 433 11 = nI 0 ∧ m' 433 9 = m 433 9 ∧ m' 433 10 = m 433 10 ∧ m' 434 = m 434
def eRef (m m' : gMem) (r d : Int32) (c : Nat) : Prop := xF m m' ∧ m' 433 12 = nI c ∧ 0 < c ∧ c < 5 ∧ m' 433 11 = nI 1 ∧ m' 433 9 = r ∧ m' 433 10 = d ∧ m' 434 = m 434
theorem xF_rf {m : gMem} : xF m m := ⟨fun _ _ _ => rfl, fun _ _ => rfl⟩
theorem xF_Lk {m : gMem} {t n i q : Nat} : xF m (xLk m t n i q) ∧ xLk m t n i q 433 9 = m 433 9 ∧ xLk m t n i q 433 10 = m 433 10 := by
  unfold xLk
  refine ⟨⟨fun c h1 h2 => by rw [ms_cell h1, ms_cell h1], fun j hj => by rw [ms_ap, if_neg (by omega), ms_ap, if_neg (by omega)]⟩, ?_, ?_⟩
  · rw [ms_ap, if_neg (by decide), ms_ap, if_neg (by decide)]
  · rw [ms_ap, if_neg (by decide), ms_ap, if_neg (by decide)]
/-- one order's end, on both sides -/
def OUT (σ0 σ m : gMem) (N : Nat) (cl md : Option (Int32 × gMem)) : Prop :=
  (∃ (σ' : gMem) (g' : Nat → Int32) (r : Int32) (m' : gMem), cl = some (nI 0, σ') ∧ md = some (r, m') ∧ qF σ0 σ' 36 g' ∧ GA (N + 72) g' ∧ eOk m m' g')
  ∨ (∃ (r : Int32) (m' : gMem), cl = some (nI 1, σ) ∧ md = some (r, m') ∧ eBad m m')
  ∨ (∃ (r : Nat) (d : Int32) (c : Nat) (r' : Int32) (m' : gMem), cl = some (nI 2, ms (ms σ 431 0 (nI r)) 431 1 d) ∧ md = some (r', m') ∧ eRef m m' (nI r) d c ∧ 0 < r ∧ r < 11)
theorem c_isP (u v : Int32) (s : gMem) : f_X8_isPurchase u v s = some (if (nI 0 ≤ u ∧ u ≤ nI 2) ∧ (nI 1 ≤ v ∧ v ≤ nI 99) then nI 1 else nI 0, s) := by
  unfold f_X8_isPurchase
  refine (g1_e (c_grade u s)).trans ?_
  by_cases h : nI 0 ≤ u ∧ u ≤ nI 2
  · rw [if_pos h, if_neg (show ¬ nI 1 = (0 : Int32) by decide +kernel)]
    refine (g1_e (c_btw _ _ _ _)).trans ?_
    by_cases h2 : nI 1 ≤ v ∧ v ≤ nI 99
    · rw [if_pos (show (1 : Int32) ≤ v ∧ v ≤ (99 : Int32) from h2), if_neg (show ¬ nI 1 = (0 : Int32) by decide +kernel), if_pos ⟨h, h2⟩]; rfl
    · rw [if_neg (show ¬ ((1 : Int32) ≤ v ∧ v ≤ (99 : Int32)) from h2), if_pos (show nI 0 = (0 : Int32) from rfl), if_neg (fun q => h2 q.2)]; rfl
  · rw [if_neg h, if_pos (show nI 0 = (0 : Int32) from rfl), if_neg (fun q => h q.1)]; rfl
theorem c_isC (u v : Int32) (s : gMem) : f_X8_isCourse u v s = some (if (nI 0 ≤ u ∧ u ≤ nI 2) ∧ (nI 1 ≤ v ∧ v ≤ nI 20) then nI 1 else nI 0, s) := by
  unfold f_X8_isCourse
  refine (g1_e (c_grade u s)).trans ?_
  by_cases h : nI 0 ≤ u ∧ u ≤ nI 2
  · rw [if_pos h, if_neg (show ¬ nI 1 = (0 : Int32) by decide +kernel)]
    refine (g1_e (c_btw _ _ _ _)).trans ?_
    by_cases h2 : nI 1 ≤ v ∧ v ≤ nI 20
    · rw [if_pos (show (1 : Int32) ≤ v ∧ v ≤ (20 : Int32) from h2), if_neg (show ¬ nI 1 = (0 : Int32) by decide +kernel), if_pos ⟨h, h2⟩]; rfl
    · rw [if_neg (show ¬ ((1 : Int32) ≤ v ∧ v ≤ (20 : Int32)) from h2), if_pos (show nI 0 = (0 : Int32) from rfl), if_neg (fun q => h2 q.2)]; rfl
  · rw [if_neg h, if_pos (show nI 0 = (0 : Int32) from rfl), if_neg (fun q => h q.1)]; rfl
theorem whyR_n {g : Nat → Int32} {t n i q : Nat} (h : whyR g t n i q ≠ nI 0) : ∃ r : Nat, whyR g t n i q = nI r ∧ 0 < r ∧ r < 11 := by
  unfold whyR at h ⊢
  by_cases p0 : gC g t = 10
  · rw [if_pos p0]; exact ⟨1, rfl, by decide, by decide⟩
  rw [if_neg p0] at h ⊢
  by_cases p1 : nI 0 < g (53 + n)
  · rw [if_pos p1]; exact ⟨4, rfl, by decide, by decide⟩
  rw [if_neg p1] at h ⊢
  by_cases p2 : g (49 + n) ≤ nI (gC g t)
  · rw [if_pos p2]; exact ⟨5, rfl, by decide, by decide⟩
  rw [if_neg p2] at h ⊢
  by_cases p3 : g (26 + i) < nI q
  · rw [if_pos p3]; exact ⟨6, rfl, by decide, by decide⟩
  rw [if_neg p3] at h ⊢
  by_cases p4 : (if gC g t = 0 then nI 20 else cub g t (gC g t - 1)) < nI q
  · rw [if_pos p4]; exact ⟨7, rfl, by decide, by decide⟩
  rw [if_neg p4] at h ⊢
  by_cases p5 : weak g t (g (30 + t)) (nI q) = m1
  · rw [if_pos p5] at h; exact absurd rfl h
  · rw [if_neg p5]; exact ⟨8, rfl, by decide, by decide⟩
section
variable {σ0 σ m : gMem} {N : Nat}
end

