/-! THE PURE SIDE: copies, history -/
theorem mc_mc {σ : gMem} {c : Nat} {f f' : Nat → Int32} : mc (mc σ c f) c f' = mc σ c f' := by
  funext c'
  by_cases h : c' = c
  · subst h; rw [mc_s, mc_s]
  · rw [mc_n h, mc_n h, mc_n h]
theorem ms_mc {σ : gMem} {c k : Nat} {f : Nat → Int32} {v : Int32} : ms (mc σ c f) c k v = mc σ c (upd f k v) := by
  unfold ms; rw [mc_s, mc_mc]
theorem mc_self {σ : gMem} {c : Nat} : mc σ c (σ c) = σ := by
  funext c'
  by_cases h : c' = c
  · subst h; rw [mc_s]
  · rw [mc_n h]
theorem mc_ap {σ : gMem} {c c' : Nat} {f : Nat → Int32} : mc σ c f c' = if c' = c then f else σ c' := (rfl)
theorem va_cpy_ap {f g : Nat → Int32} {a b n k : Nat} : va_cpy f g a b n k = if b ≤ k ∧ k < b + n then f (a + (k - b)) else g k := rfl
theorem cpy_0 {f g : Nat → Int32} {a b : Nat} : va_cpy f g a b 0 = g := by
  funext k; rw [va_cpy_ap, if_neg (by omega)]
theorem cpy_s {f g : Nat → Int32} {a b i : Nat} : upd (va_cpy f g a b i) (b + i) (f (a + i)) = va_cpy f g a b (i + 1) := by
  funext k
  rw [upd_ap, va_cpy_ap, va_cpy_ap]
  by_cases h : k = b + i
  · rw [if_pos h, if_pos (by omega), h]; congr 1; omega
  · rw [if_neg h]
    by_cases h2 : b ≤ k ∧ k < b + i
    · rw [if_pos h2, if_pos (by omega)]
    · rw [if_neg h2, if_neg (by omega)]
/-- what was is kept -/
def xLB (m : gMem) : gMem := mc m 435 (va_cpy (m 434) (m 435) 0 0 220)
def xKB (m : gMem) : gMem := mc m 434 (va_cpy (m 435) (m 434) 0 0 220)
def xSh (f : Nat → Int32) (n : Nat) : Nat → Int32 := fun j => if j < n then f (j + 220) else f j
theorem xSh_s {f : Nat → Int32} {i : Nat} : upd (xSh f i) i (f (i + 220)) = xSh f (i + 1) := by
  funext k
  rw [upd_ap]
  unfold xSh
  by_cases h : k = i
  · rw [if_pos h, if_pos (by omega), h]
  · rw [if_neg h]
    by_cases h2 : k < i
    · rw [if_pos h2, if_pos (by omega)]
    · rw [if_neg h2, if_neg (by omega)]
theorem li_1540 : (1540 : Int32) = nI 1540 := (rfl)
/-- the history behind a change: what was comes to its end -/
def xKH (m : gMem) (cnt : Nat) : Nat → Int32 := if cnt = 8 then va_cpy (m 435) (xSh (m 436) 1540) 0 1540 220 else va_cpy (m 435) (m 436) 0 (220 * cnt) 220
def xKP (m : gMem) (cnt : Nat) : gMem := ms (mc m 436 (xKH m cnt)) 433 3 (nI (if cnt = 8 then 8 else cnt + 1))
/-! the class' copies -/
/-- what a copy copies -/
def cpOk (o j : Nat) : Bool := (o == 0 && (j == 0 || j == 1 || j == 6 || j == 8 || (decide (10 ≤ j) && decide (j < 17)))) || (o == 1 && decide (j < 24)) || ((o == 2 || o == 3) && decide (j < 3)) || (decide (7 ≤ o) && decide (o < 11) && decide (j < 3)) || (decide (11 ≤ o) && decide (o < 29) && (if (o - 11) % 3 = 0 then decide (2 ≤ j) && decide (j < 5) else decide (j < 10))) || (decide (29 ≤ o) && decide (o < 35) && decide (j < 5))
/-- some of a hotel has been copied -/
def CP (σ0 σ : gMem) (d s : Nat) (V : Nat → Nat → Prop) : Prop := (∀ o j, o < 35 → V o j → σ (d + o) j = σ0 (s + o) j) ∧ FR σ0 σ d
theorem CP_w {σ0 σ : gMem} {d s : Nat} {V : Nat → Nat → Prop} {o j cd cs : Nat} (H : CP σ0 σ d s V) (hds : d + 35 ≤ s ∨ s + 35 ≤ d) (ho : o < 35) (hd : cd = d + o) (hs : cs = s + o) : CP σ0 (ms σ cd j (σ cs j)) d s (fun o' j' => V o' j' ∨ (o' = o ∧ j' = j)) := by
  subst hd hs
  have e : σ (s + o) = σ0 (s + o) := H.2 _ (by omega)
  refine ⟨fun o' j' ho' h => ?_, fun c hc => ?_⟩
  · rw [ms_ap]
    by_cases q : d + o' = d + o ∧ j' = j
    · rw [if_pos q, e, q.2, (by omega : o' = o)]
    · rw [if_neg q]
      rcases h with h | h
      · exact H.1 o' j' ho' h
      · exact absurd ⟨by omega, h.2⟩ q
  · rw [ms_cell (by omega)]; exact H.2 c hc
theorem CP_c {σ0 σ : gMem} {d s : Nat} {V : Nat → Nat → Prop} {o n cd cs : Nat} (H : CP σ0 σ d s V) (hds : d + 35 ≤ s ∨ s + 35 ≤ d) (ho : o < 35) (hd : cd = d + o) (hs : cs = s + o) : CP σ0 (mc σ cd (va_cpy (σ cs) (σ cd) 0 0 n)) d s (fun o' j' => V o' j' ∨ (o' = o ∧ j' < n)) := by
  subst hd hs
  have e : σ (s + o) = σ0 (s + o) := H.2 _ (by omega)
  refine ⟨fun o' j' ho' h => ?_, fun c hc => ?_⟩
  · rw [mc_ap]
    by_cases q : d + o' = d + o
    · rw [if_pos q, va_cpy_ap]
      obtain rfl : o' = o := by omega
      by_cases q2 : 0 ≤ j' ∧ j' < 0 + n
      · rw [if_pos q2, e]; congr 1; omega
      · rw [if_neg q2]
        rcases h with h | h
        · exact H.1 o' j' ho' h
        · exact absurd ⟨Nat.zero_le _, by omega⟩ q2
    · rw [if_neg q]
      rcases h with h | h
      · exact H.1 o' j' ho' h
      · exact absurd (by omega) q
  · rw [mc_n (by omega)]; exact H.2 c hc
theorem CP_m {σ0 σ : gMem} {d s : Nat} {V V' : Nat → Nat → Prop} (H : CP σ0 σ d s V) (h : ∀ o j, o < 35 → V' o j → V o j) : CP σ0 σ d s V' := ⟨fun o j ho q => H.1 o j ho (h o j ho q), H.2⟩
theorem cl_0 : (0 : Int32).toNatClampNeg = 0 := by decide +kernel
theorem cl_3 : (3 : Int32).toNatClampNeg = 3 := by decide +kernel
theorem cl_10 : (10 : Int32).toNatClampNeg = 10 := by decide +kernel
theorem cl_24 : (24 : Int32).toNatClampNeg = 24 := by decide +kernel
theorem c_cp6 {σ0 σ : gMem} {d s : Nat} {V : Nat → Nat → Prop} {o cd cs : Nat} (H : CP σ0 σ d s V) (hds : d + 35 ≤ s ∨ s + 35 ≤ d) (ho : o < 35) (hd : cd = d + o) (hs : cs = s + o) : ∃ σ', f_X6_copyFrom cd cs σ = some ((), σ') ∧ CP σ0 σ' d s (fun o' j' => V o' j' ∨ (o' = o ∧ j' < 3)) := by
  have h1 := CP_w (j := 0) H hds ho hd hs
  have h2 := CP_w (j := 1) h1 hds ho hd hs
  have h3 := CP_w (j := 2) h2 hds ho hd hs
  exact ⟨_, rfl, CP_m h3 (fun o' j' _ q => by
    rcases q with q | ⟨q1, q2⟩
    · exact Or.inl (Or.inl (Or.inl q))
    · rcases (by omega : j' = 0 ∨ j' = 1 ∨ j' = 2) with q3 | q3 | q3
      · exact Or.inl (Or.inl (Or.inr ⟨q1, q3⟩))
      · exact Or.inl (Or.inr ⟨q1, q3⟩)
      · exact Or.inr ⟨q1, q3⟩)⟩
theorem c_cp0 {σ0 σ : gMem} {d s : Nat} {V : Nat → Nat → Prop} {o cd cs : Nat} (H : CP σ0 σ d s V) (hds : d + 35 ≤ s ∨ s + 35 ≤ d) (ho : o < 35) (hd : cd = d + o) (hs : cs = s + o) : ∃ σ', f_X0_copyFrom cd cs σ = some ((), σ') ∧ CP σ0 σ' d s (fun o' j' => V o' j' ∨ (o' = o ∧ j' < 5)) := by
  have h1 := CP_w (j := 0) H hds ho hd hs
  have h2 := CP_w (j := 1) h1 hds ho hd hs
  have h3 := CP_w (j := 2) h2 hds ho hd hs
  have h4 := CP_w (j := 3) h3 hds ho hd hs
  have h5 := CP_w (j := 4) h4 hds ho hd hs
  exact ⟨_, rfl, CP_m h5 (fun o' j' _ q => by
    rcases q with q | ⟨q1, q2⟩
    · exact Or.inl (Or.inl (Or.inl (Or.inl (Or.inl q))))
    · rcases (by omega : j' = 0 ∨ j' = 1 ∨ j' = 2 ∨ j' = 3 ∨ j' = 4) with q3 | q3 | q3 | q3 | q3
      · exact Or.inl (Or.inl (Or.inl (Or.inl (Or.inr ⟨q1, q3⟩))))
      · exact Or.inl (Or.inl (Or.inl (Or.inr ⟨q1, q3⟩)))
      · exact Or.inl (Or.inl (Or.inr ⟨q1, q3⟩))
      · exact Or.inl (Or.inr ⟨q1, q3⟩)
      · exact Or.inr ⟨q1, q3⟩)⟩
theorem c_cp7 {σ0 σ : gMem} {d s : Nat} {V : Nat → Nat → Prop} {o cd cs : Nat} (H : CP σ0 σ d s V) (hds : d + 35 ≤ s ∨ s + 35 ≤ d) (ho : o + 2 < 35) (hd : cd = d + o) (hs : cs = s + o) (g1' : gl (cd + 1) = 10) (g2' : gl (cd + 2) = 10) (g3' : gl (cs + 1) = 10) (g4' : gl (cs + 2) = 10) : ∃ σ', f_X7_copyFrom cd cs σ = some ((), σ') ∧ CP σ0 σ' d s (fun o' j' => V o' j' ∨ (o' = o ∧ 2 ≤ j' ∧ j' < 5) ∨ (o' = o + 1 ∧ j' < 10) ∨ (o' = o + 2 ∧ j' < 10)) := by
  have h1 := CP_c (o := o + 1) (n := 10) (cd := cd + 1) (cs := cs + 1) H hds (by omega) (by omega) (by omega)
  have h2 := CP_c (o := o + 2) (n := 10) (cd := cd + 2) (cs := cs + 2) h1 hds (by omega) (by omega) (by omega)
  have h3 := CP_w (j := 2) h2 hds (show o < 35 by omega) hd hs
  have h4 := CP_w (j := 3) h3 hds (show o < 35 by omega) hd hs
  have h5 := CP_w (j := 4) h4 hds (show o < 35 by omega) hd hs
  refine ⟨_, ?_, CP_m h5 (fun o' j' _ q => ?_)⟩
  · unfold f_X7_copyFrom
    rw [cl_0, cl_10, g1', g2', g3', g4', if_pos (by decide), if_pos (by decide)]
    unfold gv
    dsimp only
    rw [if_pos (by decide), if_pos (by decide)]
  · rcases q with q | ⟨q1, q2⟩ | q | q
    · exact Or.inl (Or.inl (Or.inl (Or.inl (Or.inl q))))
    · rcases (by omega : j' = 2 ∨ j' = 3 ∨ j' = 4) with q3 | q3 | q3
      · exact Or.inl (Or.inl (Or.inr ⟨q1, q3⟩))
      · exact Or.inl (Or.inr ⟨q1, q3⟩)
      · exact Or.inr ⟨q1, q3⟩
    · exact Or.inl (Or.inl (Or.inl (Or.inl (Or.inr q))))
    · exact Or.inl (Or.inl (Or.inl (Or.inr q)))
section
variable {σ0 : gMem} {d s : Nat}
theorem c_cpT_L (hds : d + 35 ≤ s ∨ s + 35 ≤ d) (hd : HF d) (hs : HF s) (k : Int32 → gMem → Option (Unit × gMem)) (P : Option (Unit × gMem) → Prop) : ∀ (n i fuel : Nat) (σ : gMem) (V : Nat → Nat → Prop), n < fuel → i + n = 4 → CP σ0 σ d s V → (∀ y σ', CP σ0 σ' d s (fun o j => V o j ∨ (7 + i ≤ o ∧ o < 11 ∧ j < 3)) → P (k y σ')) → P (L_X2_copyFrom_69 d s k fuel (nI i) σ) := by
  intro n
  induction n with
  | zero =>
    intro i fuel σ V hf hi H hk
    obtain ⟨f, rfl⟩ : ∃ f, fuel = f + 1 := ⟨fuel - 1, by omega⟩
    have e : L_X2_copyFrom_69 d s k (f + 1) (nI i) σ = k (nI i) σ := by simp (disch := omega) only [neg1, li_0, li_1, li_2, li_3, li_4, li_5, li_6, li_7, li_8, li_9, li_10, li_11, li_12, li_13, li_14, li_15, li_16, li_20, li_23, li_24, li_26, li_29, li_30, li_36, li_39, li_40, li_42, li_43, li_47, li_48, li_49, li_50, li_53, li_57, li_58, li_59, li_60, li_61, li_62, li_64, li_68, li_71, li_72, li_74, li_80, li_86, li_92, li_93, li_94, li_95, li_96, li_97, li_98, li_99, li_100, li_104, li_108, li_110, li_115, li_116, li_160, li_200, li_220, li_300, li_9999, nI_add, nI_mul, p_clamp, p_le, p_lt, p_eq, p_m1lt, p_m1eq, p_m1ge, p_eqm1, i_clamp, p_leT, p_leF, p_ltT, p_ltF, p_eqT, p_eqF, or_self, or_false, false_or, or_true, true_or, not_false_eq_true, not_true_eq_false, ↓reduceIte, and_self, and_true, true_and, and_false, false_and, ↓gv_e, g1, g2, gnl, Nat.reduceAdd, Nat.add_zero, reduceCtorEq, L_X2_copyFrom_69]
    rw [e]
    exact hk _ _ (CP_m H (fun o j _ q => by rcases q with q | q; exact q; omega))
  | succ n ih =>
    intro i fuel σ V hf hi H hk
    obtain ⟨f, rfl⟩ : ∃ f, fuel = f + 1 := ⟨fuel - 1, by omega⟩
    obtain ⟨σ', e1, e2⟩ := c_cp6 (o := 7 + i) (cd := (d + 4) + (3 + i)) (cs := (s + 4) + (3 + i)) H hds (by omega) (by omega) (by omega)
    have e : L_X2_copyFrom_69 d s k (f + 1) (nI i) σ = L_X2_copyFrom_69 d s k f (nI (i + 1)) σ' := by
      simp (disch := omega) only [neg1, li_0, li_1, li_2, li_3, li_4, li_5, li_6, li_7, li_8, li_9, li_10, li_11, li_12, li_13, li_14, li_15, li_16, li_20, li_23, li_24, li_26, li_29, li_30, li_36, li_39, li_40, li_42, li_43, li_47, li_48, li_49, li_50, li_53, li_57, li_58, li_59, li_60, li_61, li_62, li_64, li_68, li_71, li_72, li_74, li_80, li_86, li_92, li_93, li_94, li_95, li_96, li_97, li_98, li_99, li_100, li_104, li_108, li_110, li_115, li_116, li_160, li_200, li_220, li_300, li_9999, nI_add, nI_mul, p_clamp, p_le, p_lt, p_eq, p_m1lt, p_m1eq, p_m1ge, p_eqm1, i_clamp, p_leT, p_leF, p_ltT, p_ltF, p_eqT, p_eqF, or_self, or_false, false_or, or_true, true_or, not_false_eq_true, not_true_eq_false, ↓reduceIte, and_self, and_true, true_and, and_false, false_and, ↓gv_e, g1, g2, gnl, Nat.reduceAdd, Nat.add_zero, reduceCtorEq, L_X2_copyFrom_69, hd.2.2.2.2.1, hs.2.2.2.2.1, e1]
    rw [e]
    refine ih (i + 1) f σ' _ (by omega) (by omega) e2 (fun y σ2 h2 => hk y σ2 (CP_m h2 (fun o j _ q => ?_)))
    rcases q with q | q
    · exact Or.inl (Or.inl q)
    · by_cases q2 : o = 7 + i
      · exact Or.inl (Or.inr ⟨q2, q.2.2⟩)
      · exact Or.inr ⟨by omega, q.2.1, q.2.2⟩
theorem c_cpW_L (hds : d + 35 ≤ s ∨ s + 35 ≤ d) (hd : HF d) (hs : HF s) (k : Int32 → gMem → Option (Unit × gMem)) (P : Option (Unit × gMem) → Prop) : ∀ (n i fuel : Nat) (σ : gMem) (V : Nat → Nat → Prop), n < fuel → i + n = 6 → CP σ0 σ d s V → (∀ y σ', CP σ0 σ' d s (fun o j => V o j ∨ (11 + 3 * i ≤ o ∧ o < 29 ∧ ((o - 11) % 3 = 0 → 2 ≤ j ∧ j < 5) ∧ ((o - 11) % 3 ≠ 0 → j < 10))) → P (k y σ')) → P (L_X2_copyFrom_105 d s k fuel (nI i) σ) := by
  intro n
  induction n with
  | zero =>
    intro i fuel σ V hf hi H hk
    obtain ⟨f, rfl⟩ : ∃ f, fuel = f + 1 := ⟨fuel - 1, by omega⟩
    have e : L_X2_copyFrom_105 d s k (f + 1) (nI i) σ = k (nI i) σ := by simp (disch := omega) only [neg1, li_0, li_1, li_2, li_3, li_4, li_5, li_6, li_7, li_8, li_9, li_10, li_11, li_12, li_13, li_14, li_15, li_16, li_20, li_23, li_24, li_26, li_29, li_30, li_36, li_39, li_40, li_42, li_43, li_47, li_48, li_49, li_50, li_53, li_57, li_58, li_59, li_60, li_61, li_62, li_64, li_68, li_71, li_72, li_74, li_80, li_86, li_92, li_93, li_94, li_95, li_96, li_97, li_98, li_99, li_100, li_104, li_108, li_110, li_115, li_116, li_160, li_200, li_220, li_300, li_9999, nI_add, nI_mul, p_clamp, p_le, p_lt, p_eq, p_m1lt, p_m1eq, p_m1ge, p_eqm1, i_clamp, p_leT, p_leF, p_ltT, p_ltF, p_eqT, p_eqF, or_self, or_false, false_or, or_true, true_or, not_false_eq_true, not_true_eq_false, ↓reduceIte, and_self, and_true, true_and, and_false, false_and, ↓gv_e, g1, g2, gnl, Nat.reduceAdd, Nat.add_zero, reduceCtorEq, L_X2_copyFrom_105]
    rw [e]
    exact hk _ _ (CP_m H (fun o j _ q => by rcases q with q | q; exact q; omega))
  | succ n ih =>
    intro i fuel σ V hf hi H hk
    obtain ⟨f, rfl⟩ : ∃ f, fuel = f + 1 := ⟨fuel - 1, by omega⟩
    obtain ⟨-, d1, d2⟩ := hd.2.2.2.2.2.2.2.2.1 i (by omega)
    obtain ⟨-, s1, s2⟩ := hs.2.2.2.2.2.2.2.2.1 i (by omega)
    obtain ⟨σ', e1, e2⟩ := c_cp7 (o := 11 + 3 * i) (cd := (d + 5) + (6 + 3 * i)) (cs := (s + 5) + (6 + 3 * i)) H hds (by omega) (by omega) (by omega) d1 d2 s1 s2
    have e : L_X2_copyFrom_105 d s k (f + 1) (nI i) σ = L_X2_copyFrom_105 d s k f (nI (i + 1)) σ' := by
      simp (disch := omega) only [neg1, li_0, li_1, li_2, li_3, li_4, li_5, li_6, li_7, li_8, li_9, li_10, li_11, li_12, li_13, li_14, li_15, li_16, li_20, li_23, li_24, li_26, li_29, li_30, li_36, li_39, li_40, li_42, li_43, li_47, li_48, li_49, li_50, li_53, li_57, li_58, li_59, li_60, li_61, li_62, li_64, li_68, li_71, li_72, li_74, li_80, li_86, li_92, li_93, li_94, li_95, li_96, li_97, li_98, li_99, li_100, li_104, li_108, li_110, li_115, li_116, li_160, li_200, li_220, li_300, li_9999, nI_add, nI_mul, p_clamp, p_le, p_lt, p_eq, p_m1lt, p_m1eq, p_m1ge, p_eqm1, i_clamp, p_leT, p_leF, p_ltT, p_ltF, p_eqT, p_eqF, or_self, or_false, false_or, or_true, true_or, not_false_eq_true, not_true_eq_false, ↓reduceIte, and_self, and_true, true_and, and_false, false_and, ↓gv_e, g1, g2, gnl, Nat.reduceAdd, Nat.add_zero, reduceCtorEq, L_X2_copyFrom_105, hd.2.2.2.2.2.1, hs.2.2.2.2.2.1, e1]
    rw [e]
    refine ih (i + 1) f σ' _ (by omega) (by omega) e2 (fun y σ2 h2 => hk y σ2 (CP_m h2 (fun o j _ q => ?_)))
    rcases q with q | ⟨q1, q2, q3, q4⟩
    · exact Or.inl (Or.inl q)
    · by_cases p1 : o = 11 + 3 * i
      · exact Or.inl (Or.inr (Or.inl ⟨p1, q3 (by omega)⟩))
      · by_cases p2 : o = 11 + 3 * i + 1
        · exact Or.inl (Or.inr (Or.inr (Or.inl ⟨p2, q4 (by omega)⟩)))
        · by_cases p3 : o = 11 + 3 * i + 2
          · exact Or.inl (Or.inr (Or.inr (Or.inr ⟨p3, q4 (by omega)⟩)))
          · exact Or.inr ⟨by omega, q2, q3, q4⟩
theorem c_cpB_L (hds : d + 35 ≤ s ∨ s + 35 ≤ d) (hd : HF d) (hs : HF s) (k : Int32 → gMem → Option (Unit × gMem)) (P : Option (Unit × gMem) → Prop) : ∀ (n i fuel : Nat) (σ : gMem) (V : Nat → Nat → Prop), n < fuel → i + n = 6 → CP σ0 σ d s V → (∀ y σ', CP σ0 σ' d s (fun o j => V o j ∨ (29 + i ≤ o ∧ o < 35 ∧ j < 5)) → P (k y σ')) → P (L_X2_copyFrom_142 d s k fuel (nI i) σ) := by
  intro n
  induction n with
  | zero =>
    intro i fuel σ V hf hi H hk
    obtain ⟨f, rfl⟩ : ∃ f, fuel = f + 1 := ⟨fuel - 1, by omega⟩
    have e : L_X2_copyFrom_142 d s k (f + 1) (nI i) σ = k (nI i) σ := by simp (disch := omega) only [neg1, li_0, li_1, li_2, li_3, li_4, li_5, li_6, li_7, li_8, li_9, li_10, li_11, li_12, li_13, li_14, li_15, li_16, li_20, li_23, li_24, li_26, li_29, li_30, li_36, li_39, li_40, li_42, li_43, li_47, li_48, li_49, li_50, li_53, li_57, li_58, li_59, li_60, li_61, li_62, li_64, li_68, li_71, li_72, li_74, li_80, li_86, li_92, li_93, li_94, li_95, li_96, li_97, li_98, li_99, li_100, li_104, li_108, li_110, li_115, li_116, li_160, li_200, li_220, li_300, li_9999, nI_add, nI_mul, p_clamp, p_le, p_lt, p_eq, p_m1lt, p_m1eq, p_m1ge, p_eqm1, i_clamp, p_leT, p_leF, p_ltT, p_ltF, p_eqT, p_eqF, or_self, or_false, false_or, or_true, true_or, not_false_eq_true, not_true_eq_false, ↓reduceIte, and_self, and_true, true_and, and_false, false_and, ↓gv_e, g1, g2, gnl, Nat.reduceAdd, Nat.add_zero, reduceCtorEq, L_X2_copyFrom_142]
    rw [e]
    exact hk _ _ (CP_m H (fun o j _ q => by rcases q with q | q; exact q; omega))
  | succ n ih =>
    intro i fuel σ V hf hi H hk
    obtain ⟨f, rfl⟩ : ∃ f, fuel = f + 1 := ⟨fuel - 1, by omega⟩
    obtain ⟨σ', e1, e2⟩ := c_cp0 (o := 29 + i) (cd := (d + 6) + (23 + i)) (cs := (s + 6) + (23 + i)) H hds (by omega) (by omega) (by omega)
    have e : L_X2_copyFrom_142 d s k (f + 1) (nI i) σ = L_X2_copyFrom_142 d s k f (nI (i + 1)) σ' := by
      simp (disch := omega) only [neg1, li_0, li_1, li_2, li_3, li_4, li_5, li_6, li_7, li_8, li_9, li_10, li_11, li_12, li_13, li_14, li_15, li_16, li_20, li_23, li_24, li_26, li_29, li_30, li_36, li_39, li_40, li_42, li_43, li_47, li_48, li_49, li_50, li_53, li_57, li_58, li_59, li_60, li_61, li_62, li_64, li_68, li_71, li_72, li_74, li_80, li_86, li_92, li_93, li_94, li_95, li_96, li_97, li_98, li_99, li_100, li_104, li_108, li_110, li_115, li_116, li_160, li_200, li_220, li_300, li_9999, nI_add, nI_mul, p_clamp, p_le, p_lt, p_eq, p_m1lt, p_m1eq, p_m1ge, p_eqm1, i_clamp, p_leT, p_leF, p_ltT, p_ltF, p_eqT, p_eqF, or_self, or_false, false_or, or_true, true_or, not_false_eq_true, not_true_eq_false, ↓reduceIte, and_self, and_true, true_and, and_false, false_and, ↓gv_e, g1, g2, gnl, Nat.reduceAdd, Nat.add_zero, reduceCtorEq, L_X2_copyFrom_142, hd.2.2.2.2.2.2.1, hs.2.2.2.2.2.2.1, e1]
    rw [e]
    refine ih (i + 1) f σ' _ (by omega) (by omega) e2 (fun y σ2 h2 => hk y σ2 (CP_m h2 (fun o j _ q => ?_)))
    rcases q with q | q
    · exact Or.inl (Or.inl q)
    · by_cases q2 : o = 29 + i
      · exact Or.inl (Or.inr ⟨q2, q.2.2⟩)
      · exact Or.inr ⟨by omega, q.2.1, q.2.2⟩
set_option maxRecDepth 100000 in
/-- a hotel is copied -/
theorem c_copy (hds : d + 35 ≤ s ∨ s + 35 ≤ d) (hd : HF d) (hs : HF s) : ∃ σ', f_X2_copyFrom d s σ0 = some ((), σ') ∧ FR σ0 σ' d ∧ (∀ o j, o < 35 → cpOk o j = true → σ' (d + o) j = σ0 (s + o) j) := by
  have H0 : CP σ0 σ0 d s (fun _ _ => False) := ⟨fun _ _ _ h => h.elim, fun _ _ => rfl⟩
  have h1 := CP_w (j := 0) (o := 0) (cd := d) (cs := s) H0 hds (by decide) rfl rfl
  have h2 := CP_w (j := 1) (o := 0) (cd := d) (cs := s) h1 hds (by decide) rfl rfl
  have h3 := CP_c (n := 24) (o := 1) (cd := d + 1) (cs := s + 1) h2 hds (by decide) rfl rfl
  have h4 := CP_c (n := 3) (o := 2) (cd := d + 2) (cs := s + 2) h3 hds (by decide) rfl rfl
  have h5 := CP_c (n := 3) (o := 3) (cd := d + 3) (cs := s + 3) h4 hds (by decide) rfl rfl
  have h6 := CP_w (j := 6) (o := 0) (cd := d) (cs := s) h5 hds (by decide) rfl rfl
  unfold f_X2_copyFrom
  rw [cl_0, cl_3, cl_24, hd.2.1, hs.2.1, hd.2.2.1, hs.2.2.1, hd.2.2.2.1, hs.2.2.2.1]
  unfold gv
  dsimp only
  rw [if_pos (by decide), if_pos (by decide), if_pos (by decide), if_pos (by decide), if_pos (by decide), if_pos (by decide)]
  simp only [li_0]
  refine c_cpT_L hds hd hs _ (fun r => ∃ σ', r = some ((), σ') ∧ FR σ0 σ' d ∧ (∀ o j, o < 35 → cpOk o j = true → σ' (d + o) j = σ0 (s + o) j)) 4 0 gF _ _ (by unfold gF; omega) rfl h6 (fun y σ1 k1 => ?_)
  have k2 := CP_w (j := 8) (o := 0) (cd := d) (cs := s) k1 hds (by decide) rfl rfl
  refine c_cpW_L hds hd hs _ (fun r => ∃ σ', r = some ((), σ') ∧ FR σ0 σ' d ∧ (∀ o j, o < 35 → cpOk o j = true → σ' (d + o) j = σ0 (s + o) j)) 6 0 gF _ _ (by unfold gF; omega) rfl k2 (fun y σ2 k3 => ?_)
  have k4 := CP_w (j := 10) (o := 0) (cd := d) (cs := s) k3 hds (by decide) rfl rfl
  refine c_cpB_L hds hd hs _ (fun r => ∃ σ', r = some ((), σ') ∧ FR σ0 σ' d ∧ (∀ o j, o < 35 → cpOk o j = true → σ' (d + o) j = σ0 (s + o) j)) 6 0 gF _ _ (by unfold gF; omega) rfl k4 (fun y σ3 k5 => ?_)
  have k6 := CP_w (j := 11) (o := 0) (cd := d) (cs := s) k5 hds (by decide) rfl rfl
  have k7 := CP_w (j := 12) (o := 0) (cd := d) (cs := s) k6 hds (by decide) rfl rfl
  have k8 := CP_w (j := 13) (o := 0) (cd := d) (cs := s) k7 hds (by decide) rfl rfl
  have k9 := CP_w (j := 14) (o := 0) (cd := d) (cs := s) k8 hds (by decide) rfl rfl
  have k10 := CP_w (j := 15) (o := 0) (cd := d) (cs := s) k9 hds (by decide) rfl rfl
  have k11 := CP_w (j := 16) (o := 0) (cd := d) (cs := s) k10 hds (by decide) rfl rfl
  refine ⟨_, rfl, k11.2, fun o j ho hc => ?_⟩
  refine k11.1 o j ho ?_
  unfold cpOk at hc
  simp only [Bool.or_eq_true, Bool.and_eq_true, beq_iff_eq, decide_eq_true_eq] at hc
  clear k11 k10 k9 k8 k7 k6 k5 k4 k3 k2 k1 h6 h5 h4 h3 h2 h1 H0
  rcases hc with ((((hc | hc) | hc) | hc) | hc) | hc
  · obtain ⟨h0, hc⟩ := hc
    rcases (by omega : j = 0 ∨ j = 1 ∨ j = 6 ∨ j = 8 ∨ j = 10 ∨ j = 11 ∨ j = 12 ∨ j = 13 ∨ j = 14 ∨ j = 15 ∨ j = 16) with q | q | q | q | q | q | q | q | q | q | q
    · exact Or.inl (Or.inl (Or.inl (Or.inl (Or.inl (Or.inl (Or.inl (Or.inl (Or.inl (Or.inl (Or.inl (Or.inl (Or.inl (Or.inl (Or.inl (Or.inl (Or.inr (⟨h0, q⟩)))))))))))))))))
    · exact Or.inl (Or.inl (Or.inl (Or.inl (Or.inl (Or.inl (Or.inl (Or.inl (Or.inl (Or.inl (Or.inl (Or.inl (Or.inl (Or.inl (Or.inl (Or.inr (⟨h0, q⟩))))))))))))))))
    · exact Or.inl (Or.inl (Or.inl (Or.inl (Or.inl (Or.inl (Or.inl (Or.inl (Or.inl (Or.inl (Or.inl (Or.inr (⟨h0, q⟩))))))))))))
    · exact Or.inl (Or.inl (Or.inl (Or.inl (Or.inl (Or.inl (Or.inl (Or.inl (Or.inl (Or.inr (⟨h0, q⟩))))))))))
    · exact Or.inl (Or.inl (Or.inl (Or.inl (Or.inl (Or.inl (Or.inl (Or.inr (⟨h0, q⟩))))))))
    · exact Or.inl (Or.inl (Or.inl (Or.inl (Or.inl (Or.inr (⟨h0, q⟩))))))
    · exact Or.inl (Or.inl (Or.inl (Or.inl (Or.inr (⟨h0, q⟩)))))
    · exact Or.inl (Or.inl (Or.inl (Or.inr (⟨h0, q⟩))))
    · exact Or.inl (Or.inl (Or.inr (⟨h0, q⟩)))
    · exact Or.inl (Or.inr (⟨h0, q⟩))
    · exact Or.inr (⟨h0, q⟩)
  · exact Or.inl (Or.inl (Or.inl (Or.inl (Or.inl (Or.inl (Or.inl (Or.inl (Or.inl (Or.inl (Or.inl (Or.inl (Or.inl (Or.inl (Or.inr (hc)))))))))))))))
  · obtain ⟨h0 | h0, hc⟩ := hc
    · exact Or.inl (Or.inl (Or.inl (Or.inl (Or.inl (Or.inl (Or.inl (Or.inl (Or.inl (Or.inl (Or.inl (Or.inl (Or.inl (Or.inr (⟨h0, hc⟩))))))))))))))
    · exact Or.inl (Or.inl (Or.inl (Or.inl (Or.inl (Or.inl (Or.inl (Or.inl (Or.inl (Or.inl (Or.inl (Or.inl (Or.inr (⟨h0, hc⟩)))))))))))))
  · obtain ⟨⟨q1, q2⟩, q3⟩ := hc
    exact Or.inl (Or.inl (Or.inl (Or.inl (Or.inl (Or.inl (Or.inl (Or.inl (Or.inl (Or.inl (Or.inr (⟨by omega, q2, q3⟩)))))))))))
  · obtain ⟨⟨q1, q2⟩, q3⟩ := hc
    by_cases q : (o - 11) % 3 = 0
    · rw [if_pos q] at q3
      simp only [Bool.and_eq_true, decide_eq_true_eq] at q3
      exact Or.inl (Or.inl (Or.inl (Or.inl (Or.inl (Or.inl (Or.inl (Or.inl (Or.inr (⟨by omega, q2, fun _ => q3, fun p => absurd q p⟩)))))))))
    · rw [if_neg q] at q3
      simp only [decide_eq_true_eq] at q3
      exact Or.inl (Or.inl (Or.inl (Or.inl (Or.inl (Or.inl (Or.inl (Or.inl (Or.inr (⟨by omega, q2, fun p => absurd p q, fun _ => q3⟩)))))))))
  · obtain ⟨⟨q1, q2⟩, q3⟩ := hc
    exact Or.inl (Or.inl (Or.inl (Or.inl (Or.inl (Or.inl (Or.inr (⟨by omega, q2, q3⟩)))))))
theorem lo_cp : ∀ k, k < 220 → k ≠ 95 → k ≠ 99 → cpOk (lo k).1 (lo k).2 = true := by decide +kernel
/-- a copy stands for what its source stood for -/
theorem c_copyR (hds : d + 35 ≤ s ∨ s + 35 ≤ d) (hd : HF d) (hs : HF s) {g : Nat → Int32} (H : qR σ0 s g (Lv g)) : ∃ σ', f_X2_copyFrom d s σ0 = some ((), σ') ∧ qF σ0 σ' d g := by
  obtain ⟨σ', h1, h2, h3⟩ := c_copy (σ0 := σ0) hds hd hs
  refine ⟨σ', h1, ⟨fun k hk hL => ?_, ?_, ?_⟩, h2⟩
  · rw [h3 _ _ (lo_ok k hk).1 (lo_cp k hk hL.1 hL.2.1)]; exact H.1 k hk hL
  · rw [h3 3 0 (by decide) rfl, h3 3 1 (by decide) rfl, h3 3 2 (by decide) rfl]; exact H.2.1
  · rw [h3 3 0 (by decide) rfl, h3 3 1 (by decide) rfl, h3 3 2 (by decide) rfl]; exact H.2.2
end

