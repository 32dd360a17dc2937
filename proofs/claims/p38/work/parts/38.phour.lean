/-! THE PURE SIDE: an hour goes by, the model -/
theorem wk_in {g : Nat → Int32} {t : Nat} {d more : Int32} : ∀ n c, wk g t d more c n = m1 ∨ ∃ j, c ≤ j ∧ j < c + n ∧ wk g t d more c n = nI j := by
  intro n
  induction n with
  | zero => intro c; exact Or.inl rfl
  | succ n ih =>
    intro c
    rw [wk]
    split
    · exact Or.inr ⟨c, Nat.le_refl _, by omega, rfl⟩
    · rcases ih (c + 1) with h | ⟨j, h1, h2, h3⟩
      · exact Or.inl h
      · exact Or.inr ⟨j, by omega, by omega, h3⟩
theorem weak_in (g : Nat → Int32) (t : Nat) (d more : Int32) : weak g t d more = m1 ∨ ∃ j, j < gC g t ∧ weak g t d more = nI j := by
  rcases wk_in (g := g) (t := t) (d := d) (more := more) (gC g t) 0 with h | ⟨j, h1, h2, h3⟩
  · exact Or.inl h
  · exact Or.inr ⟨j, by omega, h3⟩
def dmpL (p : Nat) : Nat → Nat → (Nat → Int32) → (Nat → Int32)
  | _, 0, g => g
  | t, n + 1, g => dmpL p (t + 1) n (upd g (30 + t) (nI (dN (iN (g (30 + t))) p)))
def brkG (g : Nat → Int32) (t : Nat) (w : Int32) : Nat → Int32 := upd (upd (upd g 96 (g 96 + (cub g t (iN w) + ab g t (iN w)))) (36 + t) w) (42 + t) (g (42 + t) + (nI (gC g t) - w))
def brk1 (g : Nat → Int32) (t : Nat) : Nat → Int32 := if weak g t (g (30 + t)) (nI 0) = m1 then g else brkG g t (weak g t (g (30 + t)) (nI 0))
def brkS : Nat → Nat → (Nat → Int32) → (Nat → Int32)
  | _, 0, g => g
  | t, n + 1, g => brkS (t + 1) n (brk1 g t)
def brkA : Nat → Nat → Int32 → (Nat → Int32) → Int32
  | _, 0, a, _ => a
  | t, n + 1, a, g => brkA (t + 1) n (if weak g t (g (30 + t)) (nI 0) = m1 then a else a + (nI (gC g t) - weak g t (g (30 + t)) (nI 0))) (brk1 g t)
def rstL : Nat → Nat → (Nat → Int32) → (Nat → Int32)
  | _, 0, g => g
  | k, n + 1, g => rstL (k + 1) n (upd g (53 + k) (nI (iN (g (53 + k)) - 1)))
def effG (g : Nat → Int32) (k : Nat) : Nat → Int32 :=
  if g (86 + k) ≠ m1 ∧ mis g k = nI 0 then
    upd (upd (upd (upd (upd (upd g 1 (g 1 + g (80 + k))) 98 (g 98 + g (80 + k))) 97 (g 97 + sm (fun j => cub g (iN (g (86 + k))) j) 0 (gC g (iN (g (86 + k)))))) (36 + iN (g (86 + k))) (nI 0)) (30 + iN (g (86 + k))) (nI 0)) 93 (g 93 + nI 1)
  else upd g 94 (g 94 + nI 1)
def drG (g : Nat → Int32) (k : Nat) : Nat → Int32 := fun j => if j = 61 then nI (iN (g 61) - 1) else if 62 ≤ j ∧ j < 92 ∧ k ≤ (j - 62) % 6 ∧ (j - 62) % 6 < iN (g 61) - 1 then g (j + 1) else g j
def hlG : Nat → Nat → (Nat → Int32) → (Nat → Int32)
  | _, 0, g => g
  | k, n + 1, g => if g (68 + k) = g 0 then hlG k n (drG (effG g k) k) else hlG (k + 1) n g
/-- the hour before banquets -/
def hr1 (g : Nat → Int32) : Nat → Int32 := dmpL (iN (g (2 + iN (g 0) % 24))) 0 (iN (g 29)) g
def hr2 (g : Nat → Int32) : Nat → Int32 := brkS 0 (iN (g 29)) (hr1 g)
def hr3 (g : Nat → Int32) : Nat → Int32 := rstL 0 (iN (g 48)) (hr2 g)
def hr4 (g : Nat → Int32) : Nat → Int32 := upd (hr3 g) 0 (hr3 g 0 + nI 1)
def hrG (g : Nat → Int32) : Nat → Int32 := hlG 0 (iN (g 61)) (hr4 g)
def hrA (g : Nat → Int32) (a : Int32) : Int32 := brkA 0 (iN (g 29)) a (hr1 g)
/-! what stays -/
theorem dmpL_o {p j : Nat} : ∀ n t (g : Nat → Int32), (j < 30 + t ∨ 30 + t + n ≤ j) → dmpL p t n g j = g j := by
  intro n
  induction n with
  | zero => intro t g h; rfl
  | succ n ih => intro t g h; rw [dmpL, ih (t + 1) _ (by omega), upd_ap, if_neg (by omega)]
theorem rstL_o {j : Nat} : ∀ n t (g : Nat → Int32), (j < 53 + t ∨ 53 + t + n ≤ j) → rstL t n g j = g j := by
  intro n
  induction n with
  | zero => intro t g h; rfl
  | succ n ih => intro t g h; rw [rstL, ih (t + 1) _ (by omega), upd_ap, if_neg (by omega)]
theorem brkG_o {g : Nat → Int32} {t j : Nat} {w : Int32} (h1 : j ≠ 96) (h2 : j ≠ 36 + t) (h3 : j ≠ 42 + t) : brkG g t w j = g j := by
  unfold brkG; simp only [upd_ap]; rw [if_neg h3, if_neg h2, if_neg h1]
theorem brk1_o {g : Nat → Int32} {t j : Nat} (h1 : j ≠ 96) (h2 : j ≠ 36 + t) (h3 : j ≠ 42 + t) : brk1 g t j = g j := by
  unfold brk1; split
  · rfl
  · exact brkG_o h1 h2 h3
theorem brkS_o {j : Nat} : ∀ n t (g : Nat → Int32), j ≠ 96 → (j < 36 + t ∨ 36 + t + n ≤ j) → (j < 42 + t ∨ 42 + t + n ≤ j) → brkS t n g j = g j := by
  intro n
  induction n with
  | zero => intro t g h1 h2 h3; rfl
  | succ n ih => intro t g h1 h2 h3; rw [brkS, ih (t + 1) _ h1 (by omega) (by omega), brk1_o h1 (by omega) (by omega)]
theorem effG_o {g : Nat → Int32} {k j : Nat} (h1 : j ≠ 1) (h2 : j ≠ 98) (h3 : j ≠ 97) (h4 : j ≠ 93) (h5 : j ≠ 94) (h6 : j ≠ 36 + iN (g (86 + k))) (h7 : j ≠ 30 + iN (g (86 + k))) : effG g k j = g j := by
  unfold effG; split
  · simp only [upd_ap]; rw [if_neg h4, if_neg h7, if_neg h6, if_neg h3, if_neg h2, if_neg h1]
  · rw [upd_ap, if_neg h5]
theorem drG_o {g : Nat → Int32} {k j : Nat} (h : j < 61 ∨ 92 ≤ j) : drG g k j = g j := by
  unfold drG; rw [if_neg (by omega), if_neg (by omega)]
/-! bounds -/
theorem GB_dmpL {N p : Nat} (hp : p ≤ 99) : ∀ n t (g : Nat → Int32), GB N g → t + n ≤ 6 → GB N (dmpL p t n g) := by
  intro n
  induction n with
  | zero => intro t g h _; exact h
  | succ n ih =>
    intro t g h ht
    obtain ⟨d, h1, h2⟩ := b_dmp h (t := t) (by omega)
    rw [dmpL]
    exact ih (t + 1) _ (v_dmp h (by omega) (by rw [h1, i_clamp (by omega)]; exact dN_le h2)) (by omega)
theorem GB_brk1 {N t : Nat} {g : Nat → Int32} (h : GB N g) (ht : t < 6) : GB N (brk1 g t) := by
  unfold brk1
  split
  · exact h
  · rename_i hw
    obtain ⟨k4, k5⟩ := gC_of h ht
    rcases weak_in g t (g (30 + t)) (nI 0) with q | ⟨j, q1, q2⟩
    · exact absurd q hw
    · rw [q2]; unfold brkG
      exact v_brk (v_crs (v_brn h _) ht (by omega)) ht _
theorem GB_brkS {N : Nat} : ∀ n t (g : Nat → Int32), GB N g → t + n ≤ 6 → GB N (brkS t n g) := by
  intro n
  induction n with
  | zero => intro t g h _; exact h
  | succ n ih =>
    intro t g h ht
    rw [brkS]
    exact ih (t + 1) _ (GB_brk1 h (by omega)) (by omega)
theorem GB_rstL {N : Nat} : ∀ n t (g : Nat → Int32), GB N g → t + n ≤ 4 → GB N (rstL t n g) := by
  intro n
  induction n with
  | zero => intro t g h _; exact h
  | succ n ih =>
    intro t g h ht
    obtain ⟨d, h1, h2⟩ := b_bsy h (i := t) (by omega)
    rw [rstL]
    exact ih (t + 1) _ (v_bsy h (by omega) (by rw [h1, i_clamp (by omega)]; omega)) (by omega)
theorem GB_up {N N' : Nat} {g : Nat → Int32} (h : GB N g) (hN : N ≤ N') : GB N' g := fun k hk => by
  refine ⟨(h k hk).1, Int.le_trans (h k hk).2 ?_⟩
  unfold bh
  by_cases q0 : k = 0
  · rw [if_pos q0, if_pos q0]; omega
  · rw [if_neg q0, if_neg q0]
    by_cases q1 : k = 1
    · rw [if_pos q1, if_pos q1]; omega
    · rw [if_neg q1, if_neg q1]; exact Int.le_refl _
theorem GB_drG {N k : Nat} {g : Nat → Int32} (h : GB N g) (hk : k < iN (g 61)) : GB N (drG g k) := by
  obtain ⟨hB, hB6⟩ := n_B h
  intro j hj
  unfold drG
  by_cases q : j = 61
  · rw [if_pos q, q, p_int (by omega), bl_nB, bh_nB]; omega
  · rw [if_neg q]
    by_cases q2 : 62 ≤ j ∧ j < 92 ∧ k ≤ (j - 62) % 6 ∧ (j - 62) % 6 < iN (g 61) - 1
    · rw [if_pos q2]
      have e1 : bl j = bl (j + 1) := by
        have q3 : (j - 62) % 6 < 5 := by omega
        unfold bl
        by_cases p1 : j < 74
        · rw [if_pos (by omega), if_pos (by omega)]
        · rw [if_neg (by omega), if_neg (c := 42 ≤ j + 1 ∧ _ ∨ _) (by omega)]
          by_cases p2 : 86 ≤ j
          · rw [if_pos (by omega), if_pos (by omega)]
          · rw [if_neg (by omega), if_neg (by omega)]
      have e2 : bh N j = bh N (j + 1) := by
        have q3 : (j - 62) % 6 < 5 := by omega
        unfold bh
        rcases (by omega : j < 73 ∨ (74 ≤ j ∧ j < 79) ∨ (80 ≤ j ∧ j < 85) ∨ (86 ≤ j ∧ j < 91)) with p | p | p | p <;> repeat (first | rw [if_neg (by omega : ¬ j = _)] | rw [if_neg (by omega : ¬ j + 1 = _)] | rw [if_neg (by omega : ¬ j < _)] | rw [if_neg (by omega : ¬ j + 1 < _)] | rw [if_pos (by omega : j < _)] | rw [if_pos (by omega : j + 1 < _)])
      rw [e1, e2]; exact h (j + 1) (by omega)
    · rw [if_neg q2]; exact h j hj
section
variable {m : gMem} {N : Nat}
/-! the model drops a banquet -/
def dr1 (g : Nat → Int32) (k p i : Nat) : Nat → Int32 := fun j => if 62 + 6 * p + k ≤ j ∧ j < 62 + 6 * p + i then g (j + 1) else g j
theorem dr1_s {g : Nat → Int32} {k p i : Nat} (hi : k ≤ i) : upd (dr1 g k p i) (62 + 6 * p + i) (g (62 + 6 * p + i + 1)) = dr1 g k p (i + 1) := by
  funext j
  rw [upd_ap]
  unfold dr1
  by_cases q : j = 62 + 6 * p + i
  · rw [if_pos q, if_pos (by omega), q]
  · rw [if_neg q]
    by_cases q2 : 62 + 6 * p + k ≤ j ∧ j < 62 + 6 * p + i
    · rw [if_pos q2, if_pos (by omega)]
    · rw [if_neg q2, if_neg (by omega)]
def dr2 (g : Nat → Int32) (k B p : Nat) : Nat → Int32 := fun j => if 62 ≤ j ∧ j < 62 + 6 * p ∧ k ≤ (j - 62) % 6 ∧ (j - 62) % 6 < B then g (j + 1) else g j
theorem dr2_s {g : Nat → Int32} {k B p : Nat} (hB : B < 6) : dr1 (dr2 g k B p) k p B = dr2 g k B (p + 1) := by
  funext j
  unfold dr1 dr2
  by_cases q : 62 + 6 * p + k ≤ j ∧ j < 62 + 6 * p + B
  · rw [if_pos q, if_neg (by omega), if_pos (by omega)]
  · rw [if_neg q]
    by_cases q2 : 62 ≤ j ∧ j < 62 + 6 * p ∧ k ≤ (j - 62) % 6 ∧ (j - 62) % 6 < B
    · rw [if_pos q2, if_pos (by omega)]
    · rw [if_neg q2, if_neg (by omega)]
end

