/-! THE PURE SIDE: banquets as a list of rows -/
def row (g : Nat → Int32) (k : Nat) : Nat → Int32 := fun p => if p < 5 then g (62 + 6 * p + k) else nI 0
def rows (g : Nat → Int32) : List (Nat → Int32) := (List.range (iN (g 61))).map (row g)
theorem rows_len {g : Nat → Int32} : (rows g).length = iN (g 61) := by simp [rows]
theorem rows_get {g : Nat → Int32} {k : Nat} (h : k < iN (g 61)) : (rows g)[k]? = some (row g k) := by simp [rows, h]
def nbE (g g' : Nat → Int32) : Prop := ∀ j, j < 220 → (j < 61 ∨ 92 ≤ j) → g j = g' j
theorem nbE_rf {g : Nat → Int32} : nbE g g := fun _ _ _ => rfl
theorem nbE_tr {g g' g'' : Nat → Int32} (h : nbE g g') (h' : nbE g' g'') : nbE g g'' := fun j h1 h2 => (h j h1 h2).trans (h' j h1 h2)
theorem nbE_sy {g g' : Nat → Int32} (h : nbE g g') : nbE g' g := fun j h1 h2 => (h j h1 h2).symm
/-- the effect of a banquet by its row -/
def misR (r : Nat → Int32) (g : Nat → Int32) : Int32 :=
  let v := r 2 - (if r 4 = m1 then nI 0 else g (36 + iN (r 4)))
  if nI 0 ≤ v then v else nI 0
def effR (r : Nat → Int32) (g : Nat → Int32) : Nat → Int32 :=
  if r 4 ≠ m1 ∧ misR r g = nI 0 then
    upd (upd (upd (upd (upd (upd g 1 (g 1 + r 3)) 98 (g 98 + r 3)) 97 (g 97 + sm (fun j => cub g (iN (r 4)) j) 0 (gC g (iN (r 4))))) (36 + iN (r 4)) (nI 0)) (30 + iN (r 4)) (nI 0)) 93 (g 93 + nI 1)
  else upd g 94 (g 94 + nI 1)
theorem effG_R {g : Nat → Int32} {k : Nat} : effG g k = effR (row g k) g := by
  have e2 : row g k 2 = g (74 + k) := by unfold row; rw [if_pos (by decide)]
  have e3 : row g k 3 = g (80 + k) := by unfold row; rw [if_pos (by decide)]
  have e4 : row g k 4 = g (86 + k) := by unfold row; rw [if_pos (by decide)]
  unfold effG effR mis misR
  rw [e2, e3, e4]
theorem row_1 {g : Nat → Int32} {k : Nat} : row g k 1 = g (68 + k) := by unfold row; rw [if_pos (by decide)]
/-- a row as it may be -/
def rOk (r : Nat → Int32) : Prop := r 4 = m1 ∨ ∃ n : Nat, r 4 = nI n ∧ n ≤ 5
theorem sm_congr {f f' : Nat → Int32} : ∀ n a, (∀ j, a ≤ j → j < a + n → f j = f' j) → sm f a n = sm f' a n := by
  intro n
  induction n with
  | zero => intro a h; rfl
  | succ n ih => intro a h; rw [sm, sm, h a (Nat.le_refl _) (by omega), ih (a + 1) (fun j h1 h2 => h j (by omega) (by omega))]
theorem effR_nb {r g g' : Nat → Int32} (hr : rOk r) (hc : ∀ t, t < 6 → gC g t ≤ 10) (h : nbE g g') : nbE (effR r g) (effR r g') := by
  have hn : iN (r 4) ≤ 5 := by
    rcases hr with q | ⟨n, q, q2⟩
    · rw [q]; decide +kernel
    · rw [q, i_clamp (by omega)]; exact q2
  have e1 : g (36 + iN (r 4)) = g' (36 + iN (r 4)) := h _ (by omega) (by omega)
  have e2 : misR r g = misR r g' := by unfold misR; rw [e1]
  have e3 : gC g (iN (r 4)) = gC g' (iN (r 4)) := by unfold gC; rw [e1]
  have e4 : sm (fun j => cub g (iN (r 4)) j) 0 (gC g (iN (r 4))) = sm (fun j => cub g' (iN (r 4)) j) 0 (gC g' (iN (r 4))) := by
    rw [← e3]
    refine sm_congr _ _ (fun j h1 h2 => ?_)
    have := hc (iN (r 4)) (by omega)
    exact h _ (by omega) (by omega)
  intro j hj hj2
  unfold effR
  rw [e2]
  split
  · simp only [upd_ap]
    rw [e4, h 1 (by omega) (by omega), h 98 (by omega) (by omega), h 97 (by omega) (by omega), h 93 (by omega) (by omega), h j hj hj2]
  · simp only [upd_ap]
    rw [h 94 (by omega) (by omega), h j hj hj2]
theorem effR_o {g r : Nat → Int32} {j : Nat} (hr : rOk r) (hj : j = 0 ∨ (61 ≤ j ∧ j < 92)) : effR r g j = g j := by
  have hn : iN (r 4) ≤ 5 := by
    rcases hr with q | ⟨n, q, q2⟩
    · rw [q]; decide +kernel
    · rw [q, i_clamp (by omega)]; exact q2
  unfold effR
  split
  · simp only [upd_ap]
    rw [if_neg (by omega), if_neg (by omega), if_neg (by omega), if_neg (by omega), if_neg (by omega), if_neg (by omega)]
  · rw [upd_ap, if_neg (by omega)]
theorem rOk_row {N k : Nat} {g : Nat → Int32} (h : GB N g) (hk : k < 6) : rOk (row g k) := by
  have e4 : row g k 4 = g (86 + k) := by unfold row; rw [if_pos (by decide)]
  unfold rOk; rw [e4]; exact b_atb h hk
theorem row_eff {N k i : Nat} {g : Nat → Int32} (h : GB N g) (hk : k < 6) (hi : i < 6) : row (effG g k) i = row g i := by
  funext p
  unfold row
  by_cases q : p < 5
  · rw [if_pos q, if_pos q, effG_R]
    exact effR_o (rOk_row h hk) (by omega)
  · rw [if_neg q, if_neg q]
theorem rows_eff {N k : Nat} {g : Nat → Int32} (h : GB N g) (hk : k < 6) : rows (effG g k) = rows g := by
  have e : effG g k 61 = g 61 := by rw [effG_R]; exact effR_o (rOk_row h hk) (by omega)
  have h6 := (n_B h).2
  unfold rows
  rw [e]
  refine List.map_congr_left (fun i hi => ?_)
  rw [List.mem_range] at hi
  exact row_eff h hk (by omega)
theorem row_dr {g : Nat → Int32} {k i : Nat} (hB : iN (g 61) ≤ 6) (hi : i < iN (g 61) - 1) : row (drG g k) i = if k ≤ i then row g (i + 1) else row g i := by
  funext p
  unfold row drG
  by_cases q : p < 5
  · rw [if_pos q, if_neg (by omega)]
    by_cases q2 : k ≤ i
    · rw [if_pos (by omega), if_pos q2]
      rw [if_pos q]; congr 1
    · rw [if_neg (by omega), if_neg q2]
      rw [if_pos q]
  · rw [if_neg q]
    by_cases q2 : k ≤ i
    · rw [if_pos q2]; rw [if_neg q]
    · rw [if_neg q2]; rw [if_neg q]
theorem dr_61 {g : Nat → Int32} {k : Nat} (hB : iN (g 61) ≤ 6) : iN (drG g k 61) = iN (g 61) - 1 := by
  unfold drG; rw [if_pos rfl, i_clamp (by omega)]
theorem rows_dr {g : Nat → Int32} {k : Nat} (hB : iN (g 61) ≤ 6) (hk : k < iN (g 61)) : rows (drG g k) = (rows g).eraseIdx k := by
  apply List.ext_getElem?
  intro i
  rw [List.getElem?_eraseIdx]
  by_cases q : i < iN (g 61) - 1
  · rw [rows_get (by rw [dr_61 hB]; exact q), row_dr hB q]
    by_cases q2 : k ≤ i
    · rw [if_pos q2, if_neg (by omega), rows_get (by omega)]
    · rw [if_neg q2, if_pos (by omega), rows_get (by omega)]
  · rw [List.getElem?_eq_none (by rw [rows_len, dr_61 hB]; omega)]
    split
    · omega
    · exact (List.getElem?_eq_none (by rw [rows_len]; omega)).symm
theorem nbE_dr {g : Nat → Int32} {k : Nat} : nbE (drG g k) g := fun j _ h => drG_o (by omega)
/-- the effects of all that are due, in their order -/
def Fdd (l : List (Nat → Int32)) (g : Nat → Int32) : Nat → Int32 := l.foldl (fun g r => if r 1 = g 0 then effR r g else g) g
def nd (x : Int32) (r : Nat → Int32) : Bool := decide (r 1 ≠ x)
/-- courses of all towers in bounds -/
def cOk (g : Nat → Int32) : Prop := ∀ t, t < 6 → gC g t ≤ 10
theorem cOk_nb {g g' : Nat → Int32} (h : nbE g g') (hc : cOk g) : cOk g' := fun t ht => by
  have := hc t ht
  unfold gC at this ⊢
  rw [← h _ (by omega) (by omega)]; exact this
theorem cOk_eff {r g : Nat → Int32} (hc : cOk g) : cOk (effR r g) := fun t ht => by
  have h := hc t ht
  unfold gC effR at *
  split
  · simp only [upd_ap]
    rw [if_neg (by omega)]
    by_cases q : 36 + t = 30 + iN (r 4)
    · rw [if_pos q, i_clamp (by omega)]; omega
    · rw [if_neg q]
      by_cases q2 : 36 + t = 36 + iN (r 4)
      · rw [if_pos q2, i_clamp (by omega)]; omega
      · rw [if_neg q2, if_neg (by omega), if_neg (by omega), if_neg (by omega)]; exact h
  · rw [upd_ap, if_neg (by omega)]; exact h
theorem Fdd_nb : ∀ (l : List (Nat → Int32)) (g g' : Nat → Int32), (∀ r ∈ l, rOk r) → cOk g → nbE g g' → nbE (Fdd l g) (Fdd l g') := by
  intro l
  induction l with
  | nil => intro g g' _ _ h; exact h
  | cons r l ih =>
    intro g g' hr hc h
    have e0 : g 0 = g' 0 := h 0 (by decide) (by decide)
    have hr1 := hr r List.mem_cons_self
    have hr2 : ∀ r' ∈ l, rOk r' := fun r' h' => hr r' (List.mem_cons_of_mem _ h')
    show nbE (Fdd l (if r 1 = g 0 then effR r g else g)) (Fdd l (if r 1 = g' 0 then effR r g' else g'))
    rw [← e0]
    by_cases q : r 1 = g 0
    · rw [if_pos q, if_pos q]
      exact ih _ _ hr2 (cOk_eff hc) (effR_nb hr1 hc h)
    · rw [if_neg q, if_neg q]
      exact ih _ _ hr2 hc h
theorem rows_ok {N : Nat} {g : Nat → Int32} (h : GB N g) : ∀ r ∈ rows g, rOk r := fun r hr => by
  obtain ⟨k, hk, rfl⟩ := List.mem_map.mp hr
  rw [List.mem_range] at hk
  exact rOk_row h (by have := (n_B h).2; omega)
/-- all that a walk over banquets keeps -/
def wk5 (g : Nat → Int32) : Prop := g 61 = nI (iN (g 61)) ∧ iN (g 61) ≤ 6 ∧ (∀ k, k < 6 → rOk (row g k)) ∧ cOk g
theorem wk5_of {N : Nat} {g : Nat → Int32} (h : GB N g) : wk5 g := ⟨(n_B h).1, (n_B h).2, fun _ hk => rOk_row h hk, fun _ ht => (gC_of h ht).2⟩
theorem row_eff5 {k i : Nat} {g : Nat → Int32} (h : wk5 g) (hk : k < 6) (hi : i < 6) : row (effG g k) i = row g i := by
  funext p
  unfold row
  by_cases q : p < 5
  · rw [if_pos q, if_pos q, effG_R]
    exact effR_o (h.2.2.1 k hk) (by omega)
  · rw [if_neg q, if_neg q]
theorem eff5_61 {k : Nat} {g : Nat → Int32} (h : wk5 g) (hk : k < 6) : effG g k 61 = g 61 := by rw [effG_R]; exact effR_o (h.2.2.1 k hk) (by omega)
theorem eff5_0 {k : Nat} {g : Nat → Int32} (h : wk5 g) (hk : k < 6) : effG g k 0 = g 0 := by rw [effG_R]; exact effR_o (h.2.2.1 k hk) (by omega)
theorem rows_eff5 {k : Nat} {g : Nat → Int32} (h : wk5 g) (hk : k < 6) : rows (effG g k) = rows g := by
  unfold rows
  rw [eff5_61 h hk]
  refine List.map_congr_left (fun i hi => ?_)
  rw [List.mem_range] at hi
  have := h.2.1
  exact row_eff5 h hk (by omega)
theorem wk5_eff {k : Nat} {g : Nat → Int32} (h : wk5 g) (hk : k < 6) : wk5 (effG g k) := by
  refine ⟨by rw [eff5_61 h hk]; exact h.1, by rw [eff5_61 h hk]; exact h.2.1, fun i hi => by rw [row_eff5 h hk hi]; exact h.2.2.1 i hi, ?_⟩
  rw [effG_R]; exact cOk_eff h.2.2.2
theorem wk5_dr {k : Nat} {g : Nat → Int32} (h : wk5 g) : wk5 (drG g k) := by
  refine ⟨?_, by rw [dr_61 h.2.1]; have := h.2.1; omega, fun i hi => ?_, cOk_nb (nbE_sy nbE_dr) h.2.2.2⟩
  · rw [dr_61 h.2.1]; unfold drG; rw [if_pos rfl]
  · have e4 : ∀ (g : Nat → Int32) k, row g k 4 = g (86 + k) := fun g k => by unfold row; rw [if_pos (by decide)]
    have h4 : ∀ k, k < 6 → g (86 + k) = m1 ∨ ∃ n : Nat, g (86 + k) = nI n ∧ n ≤ 5 := fun k hk => by have := h.2.2.1 k hk; unfold rOk at this; rw [e4] at this; exact this
    unfold rOk
    rw [e4]
    unfold drG
    rw [if_neg (by omega)]
    split
    · have := h.2.1
      rw [show 86 + i + 1 = 86 + (i + 1) by omega]; exact h4 (i + 1) (by omega)
    · exact h4 i hi
theorem dr_0 {g : Nat → Int32} {k : Nat} : drG g k 0 = g 0 := drG_o (by omega)
theorem rows_drop {g : Nat → Int32} {k : Nat} (hk : k < iN (g 61)) : (rows g).drop k = row g k :: (rows g).drop (k + 1) := by
  rw [List.drop_eq_getElem_cons (by rw [rows_len]; exact hk)]
  congr 1
  have := rows_get hk
  rw [List.getElem?_eq_getElem (by rw [rows_len]; exact hk)] at this
  exact Option.some.inj this
theorem rows_take {g : Nat → Int32} {k : Nat} (hk : k < iN (g 61)) : (rows g).take (k + 1) = (rows g).take k ++ [row g k] := by
  rw [List.take_succ, rows_get hk]; rfl
theorem hl_rows : ∀ (n k : Nat) (g : Nat → Int32), k + n = iN (g 61) → wk5 g → nbE (hlG k n g) (Fdd ((rows g).drop k) g) ∧ rows (hlG k n g) = (rows g).take k ++ ((rows g).drop k).filter (nd (g 0)) ∧ wk5 (hlG k n g) := by
  intro n
  induction n with
  | zero =>
    intro k g hk h
    rw [hlG, List.drop_eq_nil_of_le (by rw [rows_len]; omega), List.take_of_length_le (by rw [rows_len]; omega)]
    exact ⟨nbE_rf, by simp, h⟩
  | succ n ih =>
    intro k g hk h
    have h6 := h.2.1
    rw [hlG, rows_drop (by omega)]
    by_cases q : g (68 + k) = g 0
    · rw [if_pos q]
      have w1 := wk5_eff h (k := k) (by omega)
      have w2 := wk5_dr w1 (k := k)
      have eB : iN (drG (effG g k) k 61) = iN (g 61) - 1 := by rw [dr_61 w1.2.1, eff5_61 h (by omega)]
      obtain ⟨i1, i2, i3⟩ := ih k (drG (effG g k) k) (by omega) w2
      have er : rows (drG (effG g k) k) = (rows g).eraseIdx k := by
        rw [rows_dr w1.2.1 (by rw [eff5_61 h (by omega)]; omega), rows_eff5 h (by omega)]
      have e0 : drG (effG g k) k 0 = g 0 := by rw [dr_0, eff5_0 h (by omega)]
      have ed : (rows (drG (effG g k) k)).drop k = (rows g).drop (k + 1) := by
        rw [er, List.eraseIdx_eq_take_drop_succ, List.drop_append, List.drop_eq_nil_of_le (by rw [List.length_take, rows_len]; omega), List.length_take, rows_len, show k - min k (iN (g 61)) = 0 by omega]
        rfl
      have et : (rows (drG (effG g k) k)).take k = (rows g).take k := by
        rw [er, List.eraseIdx_eq_take_drop_succ, List.take_append, List.take_of_length_le (by rw [List.length_take]; omega), List.length_take, rows_len, show k - min k (iN (g 61)) = 0 by omega, List.take_zero, List.append_nil]
      rw [ed] at i1 i2
      rw [et, e0] at i2
      have hrs : ∀ r ∈ (rows g).drop (k + 1), rOk r := fun r hr => by
        obtain ⟨i, hi, rfl⟩ := List.mem_map.mp (List.mem_of_mem_drop hr)
        rw [List.mem_range] at hi
        exact h.2.2.1 i (by omega)
      refine ⟨?_, ?_, i3⟩
      · refine nbE_tr i1 ?_
        show nbE _ (Fdd ((rows g).drop (k + 1)) (if row g k 1 = g 0 then effR (row g k) g else g))
        rw [row_1, if_pos q, ← effG_R]
        exact Fdd_nb _ _ _ hrs w2.2.2.2 nbE_dr
      · rw [i2, List.filter_cons_of_neg (by unfold nd; rw [row_1, q]; simp)]
    · rw [if_neg q]
      obtain ⟨i1, i2, i3⟩ := ih (k + 1) g (by omega) h
      refine ⟨?_, ?_, i3⟩
      · show nbE _ (Fdd ((rows g).drop (k + 1)) (if row g k 1 = g 0 then effR (row g k) g else g))
        rw [row_1, if_neg q]
        exact i1
      · rw [i2, List.filter_cons_of_pos (by unfold nd; rw [row_1]; simp [q]), rows_take (by omega), List.append_assoc]
        rfl
/-! the class' way: all effects first, then all drops, from the end -/
def heG : Nat → Nat → (Nat → Int32) → (Nat → Int32)
  | _, 0, g => g
  | k, n + 1, g => heG (k + 1) n (if g (68 + k) = g 0 then effG g k else g)
def ddG : Nat → (Nat → Int32) → (Nat → Int32)
  | 0, g => g
  | i + 1, g => ddG i (if i < iN (g 61) ∧ g (68 + i) = g 0 then drG g i else g)
theorem he_rows : ∀ (n k : Nat) (g : Nat → Int32), k + n = iN (g 61) → wk5 g → heG k n g = Fdd ((rows g).drop k) g ∧ rows (heG k n g) = rows g ∧ heG k n g 0 = g 0 ∧ heG k n g 61 = g 61 ∧ wk5 (heG k n g) := by
  intro n
  induction n with
  | zero =>
    intro k g hk h
    rw [heG, List.drop_eq_nil_of_le (by rw [rows_len]; omega)]
    exact ⟨rfl, rfl, rfl, rfl, h⟩
  | succ n ih =>
    intro k g hk h
    have h6 := h.2.1
    rw [heG, rows_drop (by omega)]
    by_cases q : g (68 + k) = g 0
    · rw [if_pos q]
      have w1 := wk5_eff h (k := k) (by omega)
      obtain ⟨i1, i2, i3, i4, i5⟩ := ih (k + 1) (effG g k) (by rw [eff5_61 h (by omega)]; omega) w1
      rw [rows_eff5 h (by omega)] at i1 i2
      rw [eff5_0 h (by omega)] at i3
      rw [eff5_61 h (by omega)] at i4
      refine ⟨?_, i2, i3, i4, i5⟩
      rw [i1]
      show _ = Fdd ((rows g).drop (k + 1)) (if row g k 1 = g 0 then effR (row g k) g else g)
      rw [row_1, if_pos q, ← effG_R]
    · rw [if_neg q]
      obtain ⟨i1, i2, i3, i4, i5⟩ := ih (k + 1) g (by omega) h
      refine ⟨?_, i2, i3, i4, i5⟩
      rw [i1]
      show _ = Fdd ((rows g).drop (k + 1)) (if row g k 1 = g 0 then effR (row g k) g else g)
      rw [row_1, if_neg q]
theorem dd_rows : ∀ (n : Nat) (g : Nat → Int32), n ≤ 6 → wk5 g → nbE (ddG n g) g ∧ rows (ddG n g) = ((rows g).take n).filter (nd (g 0)) ++ (rows g).drop n ∧ wk5 (ddG n g) := by
  intro n
  induction n with
  | zero => intro g _ h; exact ⟨nbE_rf, by simp [ddG], h⟩
  | succ n ih =>
    intro g hn h
    have h6 := h.2.1
    rw [ddG]
    by_cases q0 : n < iN (g 61)
    · by_cases q : g (68 + n) = g 0
      · rw [if_pos ⟨q0, q⟩]
        obtain ⟨i1, i2, i3⟩ := ih (drG g n) (by omega) (wk5_dr h)
        refine ⟨nbE_tr i1 nbE_dr, ?_, i3⟩
        rw [i2, rows_dr h6 q0, dr_0, rows_take q0, List.filter_append, List.filter_cons_of_neg (by unfold nd; rw [row_1, q]; simp), List.filter_nil, List.append_nil, List.eraseIdx_eq_take_drop_succ]
        congr 1
        · rw [List.take_append, List.take_of_length_le (by rw [List.length_take]; omega), List.length_take, rows_len, show n - min n (iN (g 61)) = 0 by omega, List.take_zero, List.append_nil]
        · rw [List.drop_append, List.drop_eq_nil_of_le (by rw [List.length_take, rows_len]; omega), List.length_take, rows_len, show n - min n (iN (g 61)) = 0 by omega]
          rfl
      · rw [if_neg (fun p => q p.2)]
        obtain ⟨i1, i2, i3⟩ := ih g (by omega) h
        refine ⟨i1, ?_, i3⟩
        rw [i2, rows_take q0, rows_drop q0, List.filter_append, List.filter_cons_of_pos (by unfold nd; rw [row_1]; simp [q]), List.filter_nil, List.append_assoc]
        rfl
    · rw [if_neg (fun p => q0 p.1)]
      obtain ⟨i1, i2, i3⟩ := ih g (by omega) h
      refine ⟨i1, ?_, i3⟩
      rw [i2, List.take_of_length_le (by rw [rows_len]; omega), List.take_of_length_le (by rw [rows_len]; omega), List.drop_eq_nil_of_le (by rw [rows_len]; omega), List.drop_eq_nil_of_le (by rw [rows_len]; omega)]
/-- what stands for the same banquets and the same rest -/
def lvE (g g' : Nat → Int32) : Prop := nbE g g' ∧ rows g = rows g' ∧ g 61 = g' 61
theorem lvE_get {g g' : Nat → Int32} (h : lvE g g') {j : Nat} (hj : j < 220) (hL : 62 ≤ j → j < 92 → (j - 62) % 6 < iN (g 61)) : g j = g' j := by
  by_cases q : j < 61 ∨ 92 ≤ j
  · exact h.1 j hj q
  · by_cases q2 : j = 61
    · subst q2; exact h.2.2
    · have q3 := hL (by omega) (by omega)
      have e := rows_get q3
      rw [h.2.1, rows_get (by rw [← h.2.2]; exact q3)] at e
      have e2 := congrFun (Option.some.inj e) ((j - 62) / 6)
      unfold row at e2
      rw [if_pos (by omega), if_pos (by omega), show 62 + 6 * ((j - 62) / 6) + (j - 62) % 6 = j by omega] at e2
      exact e2.symm
theorem lvE_Lv {g g' : Nat → Int32} (h : lvE g g') {j : Nat} (hj : j < 220) (hL : Lv g' j) : Lv g j := by
  obtain ⟨l1, l2, l3, l4, l5, l6⟩ := hL
  rw [← h.1 29 (by decide) (by decide)] at l3 l6
  rw [← h.1 48 (by decide) (by decide)] at l4
  rw [← h.2.2] at l5
  rw [← h.1 (36 + (j - 100) / 10 % 6) (by omega) (by omega)] at l6
  exact ⟨l1, l2, l3, l4, l5, l6⟩
theorem lvE_qF {σ0 σ : gMem} {h : Nat} {g g' : Nat → Int32} (H : qF σ0 σ h g) (he : lvE g g') : qF σ0 σ h g' := by
  refine ⟨⟨fun k hk hL => ?_, ?_, ?_⟩, H.2⟩
  · have hL2 := lvE_Lv he hk hL
    rw [H.1.1 k hk hL2]
    exact lvE_get he hk (fun q1 q2 => hL2.2.2.2.2.1 q1 q2)
  · rw [H.1.2.1]; exact he.1 95 (by decide) (by decide)
  · rw [H.1.2.2]; exact he.1 99 (by decide) (by decide)
theorem lvE_hold {g : Nat → Int32} (h : wk5 g) : lvE (ddG 6 (heG 0 (iN (g 61)) g)) (hlG 0 (iN (g 61)) g) := by
  obtain ⟨a1, a2, a3⟩ := hl_rows (iN (g 61)) 0 g (by omega) h
  obtain ⟨b1, b2, b3, b4, b5⟩ := he_rows (iN (g 61)) 0 g (by omega) h
  obtain ⟨c1, c2, c3⟩ := dd_rows 6 _ (Nat.le_refl 6) b5
  rw [List.take_zero, List.nil_append, List.drop_zero] at a2
  rw [List.drop_zero] at a1 b1
  have h6 := h.2.1
  rw [b2, b3, List.take_of_length_le (by rw [rows_len]; omega), List.drop_eq_nil_of_le (by rw [rows_len]; omega), List.append_nil, ← a2] at c2
  refine ⟨nbE_tr c1 (by rw [b1]; exact nbE_sy a1), c2, ?_⟩
  have e := congrArg List.length c2
  rw [rows_len, rows_len] at e
  rw [a3.1, c3.1, e]

