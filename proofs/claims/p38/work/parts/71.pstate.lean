/-! THE PURE SIDE OF THE LAW: what 'state' answers -/
def hs (f : Nat → Int32) : Nat → Nat → Int32 → Int32
  | _, 0, v => v
  | k, n + 1, v => hs f (k + 1) n ((31 : Int32) * v + f k)
def hT (g : Nat → Int32) : Nat → Nat → Int32 → Int32
  | _, 0, v => v
  | k, n + 1, v => hT g (k + 1) n (hs (tgv g k) 0 3 v)
def hC (g : Nat → Int32) (w : Nat) : Nat → Nat → Int32 → Int32
  | _, 0, v => v
  | c, n + 1, v => hC g w (c + 1) n (hs (csv g w c) 0 4 v)
def hW (g : Nat → Int32) : Nat → Nat → Int32 → Int32
  | _, 0, v => v
  | w, n + 1, v => hW g (w + 1) n (hC g w 0 (gC g w) (hs (twv g w) 0 5 v))
def stG (g : Nat → Int32) : Int32 := hW g 0 (iN (g 29)) (hT g 0 (iN (g 48)) (hs (fun k => g (26 + k)) 0 3 (hs (acc g) 0 15 (nI 0))))
section
variable {N cnt n : Nat} {σ : gMem} {g f t : Nat → Int32} {gs : Option (Nat → Int32)}
theorem st_4 (H : CR N σ g f cnt gs n t) (K : Int32 → Int32 → gMem → Option (Nat × Int32 × gMem)) : ∀ (d k fuel : Nat) (v : Int32), d < fuel → k + d = 15 → L_L_state_4 0 K fuel v (nI k) σ = K (hs (acc g) k d v) (nI 15) σ := by
  intro d
  induction d with
  | zero =>
    intro k fuel v hf hk
    obtain ⟨f', rfl⟩ : ∃ x, fuel = x + 1 := ⟨fuel - 1, by omega⟩
    obtain rfl : k = 15 := by omega
    rw [L_L_state_4]
    simp (disch := omega) only [neg1, li_0, li_1, li_2, li_3, li_4, li_5, li_6, li_7, li_8, li_9, li_10, li_11, li_12, li_13, li_14, li_15, li_16, li_20, li_23, li_24, li_26, li_29, li_30, li_36, li_39, li_40, li_42, li_43, li_47, li_48, li_49, li_50, li_53, li_57, li_58, li_59, li_60, li_61, li_62, li_64, li_68, li_71, li_72, li_74, li_80, li_86, li_92, li_93, li_94, li_95, li_96, li_97, li_98, li_99, li_100, li_104, li_108, li_110, li_115, li_116, li_160, li_200, li_220, li_300, li_9999, nI_add, nI_mul, p_clamp, p_le, p_lt, p_eq, p_m1lt, p_m1eq, p_m1ge, p_eqm1, i_clamp, p_leT, p_leF, p_ltT, p_ltF, p_eqT, p_eqF, or_self, or_false, false_or, or_true, true_or, not_false_eq_true, not_true_eq_false, ↓reduceIte, and_self, and_true, true_and, and_false, false_and, ↓gv_e, g1, g2, gnl, Nat.reduceAdd, Nat.add_zero, reduceCtorEq]
    rfl
  | succ d ih =>
    intro k fuel v hf hk
    obtain ⟨f', rfl⟩ : ∃ x, fuel = x + 1 := ⟨fuel - 1, by omega⟩
    have e := d_account H (k := k) (by omega)
    rw [L_L_state_4, hs, ← ih (k + 1) f' _ (by omega) (by omega)]
    simp (disch := omega) only [neg1, li_0, li_1, li_2, li_3, li_4, li_5, li_6, li_7, li_8, li_9, li_10, li_11, li_12, li_13, li_14, li_15, li_16, li_20, li_23, li_24, li_26, li_29, li_30, li_36, li_39, li_40, li_42, li_43, li_47, li_48, li_49, li_50, li_53, li_57, li_58, li_59, li_60, li_61, li_62, li_64, li_68, li_71, li_72, li_74, li_80, li_86, li_92, li_93, li_94, li_95, li_96, li_97, li_98, li_99, li_100, li_104, li_108, li_110, li_115, li_116, li_160, li_200, li_220, li_300, li_9999, nI_add, nI_mul, p_clamp, p_le, p_lt, p_eq, p_m1lt, p_m1eq, p_m1ge, p_eqm1, i_clamp, p_leT, p_leF, p_ltT, p_ltF, p_eqT, p_eqF, or_self, or_false, false_or, or_true, true_or, not_false_eq_true, not_true_eq_false, ↓reduceIte, and_self, and_true, true_and, and_false, false_and, ↓gv_e, g1, g2, gnl, Nat.reduceAdd, Nat.add_zero, reduceCtorEq, g2_sx, e]
theorem st_29 (H : CR N σ g f cnt gs n t) (K : Int32 → Int32 → gMem → Option (Nat × Int32 × gMem)) : ∀ (d k fuel : Nat) (v : Int32), d < fuel → k + d = 3 → L_L_state_29 0 K fuel v (nI k) σ = K (hs (fun k => g (26 + k)) k d v) (nI 3) σ := by
  intro d
  induction d with
  | zero =>
    intro k fuel v hf hk
    obtain ⟨f', rfl⟩ : ∃ x, fuel = x + 1 := ⟨fuel - 1, by omega⟩
    obtain rfl : k = 3 := by omega
    rw [L_L_state_29]
    simp (disch := omega) only [neg1, li_0, li_1, li_2, li_3, li_4, li_5, li_6, li_7, li_8, li_9, li_10, li_11, li_12, li_13, li_14, li_15, li_16, li_20, li_23, li_24, li_26, li_29, li_30, li_36, li_39, li_40, li_42, li_43, li_47, li_48, li_49, li_50, li_53, li_57, li_58, li_59, li_60, li_61, li_62, li_64, li_68, li_71, li_72, li_74, li_80, li_86, li_92, li_93, li_94, li_95, li_96, li_97, li_98, li_99, li_100, li_104, li_108, li_110, li_115, li_116, li_160, li_200, li_220, li_300, li_9999, nI_add, nI_mul, p_clamp, p_le, p_lt, p_eq, p_m1lt, p_m1eq, p_m1ge, p_eqm1, i_clamp, p_leT, p_leF, p_ltT, p_ltF, p_eqT, p_eqF, or_self, or_false, false_or, or_true, true_or, not_false_eq_true, not_true_eq_false, ↓reduceIte, and_self, and_true, true_and, and_false, false_and, ↓gv_e, g1, g2, gnl, Nat.reduceAdd, Nat.add_zero, reduceCtorEq]
    rfl
  | succ d ih =>
    intro k fuel v hf hk
    obtain ⟨f', rfl⟩ : ∃ x, fuel = x + 1 := ⟨fuel - 1, by omega⟩
    have e := d_stock H (i := k) (by omega)
    rw [L_L_state_29, hs, ← ih (k + 1) f' _ (by omega) (by omega)]
    simp (disch := omega) only [neg1, li_0, li_1, li_2, li_3, li_4, li_5, li_6, li_7, li_8, li_9, li_10, li_11, li_12, li_13, li_14, li_15, li_16, li_20, li_23, li_24, li_26, li_29, li_30, li_36, li_39, li_40, li_42, li_43, li_47, li_48, li_49, li_50, li_53, li_57, li_58, li_59, li_60, li_61, li_62, li_64, li_68, li_71, li_72, li_74, li_80, li_86, li_92, li_93, li_94, li_95, li_96, li_97, li_98, li_99, li_100, li_104, li_108, li_110, li_115, li_116, li_160, li_200, li_220, li_300, li_9999, nI_add, nI_mul, p_clamp, p_le, p_lt, p_eq, p_m1lt, p_m1eq, p_m1ge, p_eqm1, i_clamp, p_leT, p_leF, p_ltT, p_ltF, p_eqT, p_eqF, or_self, or_false, false_or, or_true, true_or, not_false_eq_true, not_true_eq_false, ↓reduceIte, and_self, and_true, true_and, and_false, false_and, ↓gv_e, g1, g2, gnl, Nat.reduceAdd, Nat.add_zero, reduceCtorEq, g2_sx, e]
theorem st_64 (H : CR N σ g f cnt gs n t) {w : Nat} (hw : w < iN (g 48)) (K : Int32 → Int32 → gMem → Option (Nat × Int32 × gMem)) : ∀ (d k fuel : Nat) (v : Int32), d < fuel → k + d = 3 → L_L_state_64 0 (nI w) K fuel v (nI k) σ = K (hs (tgv g w) k d v) (nI 3) σ := by
  intro d
  induction d with
  | zero =>
    intro k fuel v hf hk
    obtain ⟨f', rfl⟩ : ∃ x, fuel = x + 1 := ⟨fuel - 1, by omega⟩
    obtain rfl : k = 3 := by omega
    rw [L_L_state_64]
    simp (disch := omega) only [neg1, li_0, li_1, li_2, li_3, li_4, li_5, li_6, li_7, li_8, li_9, li_10, li_11, li_12, li_13, li_14, li_15, li_16, li_20, li_23, li_24, li_26, li_29, li_30, li_36, li_39, li_40, li_42, li_43, li_47, li_48, li_49, li_50, li_53, li_57, li_58, li_59, li_60, li_61, li_62, li_64, li_68, li_71, li_72, li_74, li_80, li_86, li_92, li_93, li_94, li_95, li_96, li_97, li_98, li_99, li_100, li_104, li_108, li_110, li_115, li_116, li_160, li_200, li_220, li_300, li_9999, nI_add, nI_mul, p_clamp, p_le, p_lt, p_eq, p_m1lt, p_m1eq, p_m1ge, p_eqm1, i_clamp, p_leT, p_leF, p_ltT, p_ltF, p_eqT, p_eqF, or_self, or_false, false_or, or_true, true_or, not_false_eq_true, not_true_eq_false, ↓reduceIte, and_self, and_true, true_and, and_false, false_and, ↓gv_e, g1, g2, gnl, Nat.reduceAdd, Nat.add_zero, reduceCtorEq]
    rfl
  | succ d ih =>
    intro k fuel v hf hk
    obtain ⟨f', rfl⟩ : ∃ x, fuel = x + 1 := ⟨fuel - 1, by omega⟩
    have e := d_tongsOf H hw (k := k) (by omega)
    rw [L_L_state_64, hs, ← ih (k + 1) f' _ (by omega) (by omega)]
    simp (disch := omega) only [neg1, li_0, li_1, li_2, li_3, li_4, li_5, li_6, li_7, li_8, li_9, li_10, li_11, li_12, li_13, li_14, li_15, li_16, li_20, li_23, li_24, li_26, li_29, li_30, li_36, li_39, li_40, li_42, li_43, li_47, li_48, li_49, li_50, li_53, li_57, li_58, li_59, li_60, li_61, li_62, li_64, li_68, li_71, li_72, li_74, li_80, li_86, li_92, li_93, li_94, li_95, li_96, li_97, li_98, li_99, li_100, li_104, li_108, li_110, li_115, li_116, li_160, li_200, li_220, li_300, li_9999, nI_add, nI_mul, p_clamp, p_le, p_lt, p_eq, p_m1lt, p_m1eq, p_m1ge, p_eqm1, i_clamp, p_leT, p_leF, p_ltT, p_ltF, p_eqT, p_eqF, or_self, or_false, false_or, or_true, true_or, not_false_eq_true, not_true_eq_false, ↓reduceIte, and_self, and_true, true_and, and_false, false_and, ↓gv_e, g1, g2, gnl, Nat.reduceAdd, Nat.add_zero, reduceCtorEq, g2_sx, e]
theorem st_53 (H : CR N σ g f cnt gs n t) (K : Int32 → Int32 → gMem → Option (Nat × Int32 × gMem)) : ∀ (d k fuel : Nat) (v : Int32), d < fuel → k + d = iN (g 48) → L_L_state_53 0 K fuel v (nI k) σ = K (hT g k d v) (nI (iN (g 48))) σ := by
  obtain ⟨hT1, hT4⟩ := n_T (CR_B H)
  have e := d_account H (k := 3) (by decide)
  have e3 : acc g 3 = nI (iN (g 48)) := by rw [← hT1]; rfl
  rw [e3] at e
  intro d
  induction d with
  | zero =>
    intro k fuel v hf hk
    obtain ⟨f', rfl⟩ : ∃ x, fuel = x + 1 := ⟨fuel - 1, by omega⟩
    rw [Nat.add_zero] at hk
    rw [L_L_state_53, ← hk]
    rw [← hk] at e
    simp (disch := omega) only [neg1, li_0, li_1, li_2, li_3, li_4, li_5, li_6, li_7, li_8, li_9, li_10, li_11, li_12, li_13, li_14, li_15, li_16, li_20, li_23, li_24, li_26, li_29, li_30, li_36, li_39, li_40, li_42, li_43, li_47, li_48, li_49, li_50, li_53, li_57, li_58, li_59, li_60, li_61, li_62, li_64, li_68, li_71, li_72, li_74, li_80, li_86, li_92, li_93, li_94, li_95, li_96, li_97, li_98, li_99, li_100, li_104, li_108, li_110, li_115, li_116, li_160, li_200, li_220, li_300, li_9999, nI_add, nI_mul, p_clamp, p_le, p_lt, p_eq, p_m1lt, p_m1eq, p_m1ge, p_eqm1, i_clamp, p_leT, p_leF, p_ltT, p_ltF, p_eqT, p_eqF, or_self, or_false, false_or, or_true, true_or, not_false_eq_true, not_true_eq_false, ↓reduceIte, and_self, and_true, true_and, and_false, false_and, ↓gv_e, g1, g2, gnl, Nat.reduceAdd, Nat.add_zero, reduceCtorEq, g2_sx, e]
    rfl
  | succ d ih =>
    intro k fuel v hf hk
    obtain ⟨f', rfl⟩ : ∃ x, fuel = x + 1 := ⟨fuel - 1, by omega⟩
    have e2 := fun K => st_64 H (w := k) (by omega) K 3 0 4 v (by decide) (by decide)
    rw [L_L_state_53, hT, ← ih (k + 1) f' _ (by omega) (by omega)]
    simp (disch := omega) only [neg1, li_0, li_1, li_2, li_3, li_4, li_5, li_6, li_7, li_8, li_9, li_10, li_11, li_12, li_13, li_14, li_15, li_16, li_20, li_23, li_24, li_26, li_29, li_30, li_36, li_39, li_40, li_42, li_43, li_47, li_48, li_49, li_50, li_53, li_57, li_58, li_59, li_60, li_61, li_62, li_64, li_68, li_71, li_72, li_74, li_80, li_86, li_92, li_93, li_94, li_95, li_96, li_97, li_98, li_99, li_100, li_104, li_108, li_110, li_115, li_116, li_160, li_200, li_220, li_300, li_9999, nI_add, nI_mul, p_clamp, p_le, p_lt, p_eq, p_m1lt, p_m1eq, p_m1ge, p_eqm1, i_clamp, p_leT, p_leF, p_ltT, p_ltF, p_eqT, p_eqF, or_self, or_false, false_or, or_true, true_or, not_false_eq_true, not_true_eq_false, ↓reduceIte, and_self, and_true, true_and, and_false, false_and, ↓gv_e, g1, g2, gnl, Nat.reduceAdd, Nat.add_zero, reduceCtorEq, g2_sx, e, e2]
theorem st_106 (H : CR N σ g f cnt gs n t) {w : Nat} (hw : w < iN (g 29)) (K : Int32 → Int32 → gMem → Option (Nat × Int32 × gMem)) : ∀ (d k fuel : Nat) (v : Int32), d < fuel → k + d = 5 → L_L_state_106 0 (nI w) K fuel v (nI k) σ = K (hs (twv g w) k d v) (nI 5) σ := by
  have hW := (n_W (CR_B H)).2
  intro d
  induction d with
  | zero =>
    intro k fuel v hf hk
    obtain ⟨f', rfl⟩ : ∃ x, fuel = x + 1 := ⟨fuel - 1, by omega⟩
    obtain rfl : k = 5 := by omega
    rw [L_L_state_106]
    simp (disch := omega) only [neg1, li_0, li_1, li_2, li_3, li_4, li_5, li_6, li_7, li_8, li_9, li_10, li_11, li_12, li_13, li_14, li_15, li_16, li_20, li_23, li_24, li_26, li_29, li_30, li_36, li_39, li_40, li_42, li_43, li_47, li_48, li_49, li_50, li_53, li_57, li_58, li_59, li_60, li_61, li_62, li_64, li_68, li_71, li_72, li_74, li_80, li_86, li_92, li_93, li_94, li_95, li_96, li_97, li_98, li_99, li_100, li_104, li_108, li_110, li_115, li_116, li_160, li_200, li_220, li_300, li_9999, nI_add, nI_mul, p_clamp, p_le, p_lt, p_eq, p_m1lt, p_m1eq, p_m1ge, p_eqm1, i_clamp, p_leT, p_leF, p_ltT, p_ltF, p_eqT, p_eqF, or_self, or_false, false_or, or_true, true_or, not_false_eq_true, not_true_eq_false, ↓reduceIte, and_self, and_true, true_and, and_false, false_and, ↓gv_e, g1, g2, gnl, Nat.reduceAdd, Nat.add_zero, reduceCtorEq]
    rfl
  | succ d ih =>
    intro k fuel v hf hk
    obtain ⟨f', rfl⟩ : ∃ x, fuel = x + 1 := ⟨fuel - 1, by omega⟩
    have e := d_towerOf H hw (k := k) (by omega)
    rw [L_L_state_106, hs, ← ih (k + 1) f' _ (by omega) (by omega)]
    simp (disch := omega) only [neg1, li_0, li_1, li_2, li_3, li_4, li_5, li_6, li_7, li_8, li_9, li_10, li_11, li_12, li_13, li_14, li_15, li_16, li_20, li_23, li_24, li_26, li_29, li_30, li_36, li_39, li_40, li_42, li_43, li_47, li_48, li_49, li_50, li_53, li_57, li_58, li_59, li_60, li_61, li_62, li_64, li_68, li_71, li_72, li_74, li_80, li_86, li_92, li_93, li_94, li_95, li_96, li_97, li_98, li_99, li_100, li_104, li_108, li_110, li_115, li_116, li_160, li_200, li_220, li_300, li_9999, nI_add, nI_mul, p_clamp, p_le, p_lt, p_eq, p_m1lt, p_m1eq, p_m1ge, p_eqm1, i_clamp, p_leT, p_leF, p_ltT, p_ltF, p_eqT, p_eqF, or_self, or_false, false_or, or_true, true_or, not_false_eq_true, not_true_eq_false, ↓reduceIte, and_self, and_true, true_and, and_false, false_and, ↓gv_e, g1, g2, gnl, Nat.reduceAdd, Nat.add_zero, reduceCtorEq, g2_sx, e]
theorem st_144 (H : CR N σ g f cnt gs n t) {w c : Nat} (hw : w < iN (g 29)) (hc : c < gC g w) (K : Int32 → Int32 → gMem → Option (Nat × Int32 × gMem)) : ∀ (d k fuel : Nat) (v : Int32), d < fuel → k + d = 4 → L_L_state_144 0 (nI w) (nI c) K fuel v (nI k) σ = K (hs (csv g w c) k d v) (nI 4) σ := by
  intro d
  induction d with
  | zero =>
    intro k fuel v hf hk
    obtain ⟨f', rfl⟩ : ∃ x, fuel = x + 1 := ⟨fuel - 1, by omega⟩
    obtain rfl : k = 4 := by omega
    rw [L_L_state_144]
    simp (disch := omega) only [neg1, li_0, li_1, li_2, li_3, li_4, li_5, li_6, li_7, li_8, li_9, li_10, li_11, li_12, li_13, li_14, li_15, li_16, li_20, li_23, li_24, li_26, li_29, li_30, li_36, li_39, li_40, li_42, li_43, li_47, li_48, li_49, li_50, li_53, li_57, li_58, li_59, li_60, li_61, li_62, li_64, li_68, li_71, li_72, li_74, li_80, li_86, li_92, li_93, li_94, li_95, li_96, li_97, li_98, li_99, li_100, li_104, li_108, li_110, li_115, li_116, li_160, li_200, li_220, li_300, li_9999, nI_add, nI_mul, p_clamp, p_le, p_lt, p_eq, p_m1lt, p_m1eq, p_m1ge, p_eqm1, i_clamp, p_leT, p_leF, p_ltT, p_ltF, p_eqT, p_eqF, or_self, or_false, false_or, or_true, true_or, not_false_eq_true, not_true_eq_false, ↓reduceIte, and_self, and_true, true_and, and_false, false_and, ↓gv_e, g1, g2, gnl, Nat.reduceAdd, Nat.add_zero, reduceCtorEq]
    rfl
  | succ d ih =>
    intro k fuel v hf hk
    obtain ⟨f', rfl⟩ : ∃ x, fuel = x + 1 := ⟨fuel - 1, by omega⟩
    have e := d_courseOf H hw hc (k := k) (by omega)
    rw [L_L_state_144, hs, ← ih (k + 1) f' _ (by omega) (by omega)]
    simp (disch := omega) only [neg1, li_0, li_1, li_2, li_3, li_4, li_5, li_6, li_7, li_8, li_9, li_10, li_11, li_12, li_13, li_14, li_15, li_16, li_20, li_23, li_24, li_26, li_29, li_30, li_36, li_39, li_40, li_42, li_43, li_47, li_48, li_49, li_50, li_53, li_57, li_58, li_59, li_60, li_61, li_62, li_64, li_68, li_71, li_72, li_74, li_80, li_86, li_92, li_93, li_94, li_95, li_96, li_97, li_98, li_99, li_100, li_104, li_108, li_110, li_115, li_116, li_160, li_200, li_220, li_300, li_9999, nI_add, nI_mul, p_clamp, p_le, p_lt, p_eq, p_m1lt, p_m1eq, p_m1ge, p_eqm1, i_clamp, p_leT, p_leF, p_ltT, p_ltF, p_eqT, p_eqF, or_self, or_false, false_or, or_true, true_or, not_false_eq_true, not_true_eq_false, ↓reduceIte, and_self, and_true, true_and, and_false, false_and, ↓gv_e, g1, g2, gnl, Nat.reduceAdd, Nat.add_zero, reduceCtorEq, g2_sx, e]
theorem st_131 (H : CR N σ g f cnt gs n t) {w : Nat} (hw : w < iN (g 29)) (K : Int32 → Int32 → gMem → Option (Nat × Int32 × gMem)) : ∀ (d c fuel : Nat) (v : Int32), d < fuel → c + d = gC g w → L_L_state_131 0 (nI w) K fuel v (nI c) σ = K (hC g w c d v) (nI (gC g w)) σ := by
  have hW := (n_W (CR_B H)).2
  obtain ⟨hC1, hC2⟩ := gC_of (CR_B H) (t := w) (by omega)
  have e := d_towerOf H hw (k := 0) (by decide)
  have e3 : twv g w 0 = nI (gC g w) := by rw [← hC1]; rfl
  rw [e3] at e
  intro d
  induction d with
  | zero =>
    intro c fuel v hf hk
    obtain ⟨f', rfl⟩ : ∃ x, fuel = x + 1 := ⟨fuel - 1, by omega⟩
    rw [Nat.add_zero] at hk
    rw [L_L_state_131, ← hk]
    rw [← hk] at e
    simp (disch := omega) only [neg1, li_0, li_1, li_2, li_3, li_4, li_5, li_6, li_7, li_8, li_9, li_10, li_11, li_12, li_13, li_14, li_15, li_16, li_20, li_23, li_24, li_26, li_29, li_30, li_36, li_39, li_40, li_42, li_43, li_47, li_48, li_49, li_50, li_53, li_57, li_58, li_59, li_60, li_61, li_62, li_64, li_68, li_71, li_72, li_74, li_80, li_86, li_92, li_93, li_94, li_95, li_96, li_97, li_98, li_99, li_100, li_104, li_108, li_110, li_115, li_116, li_160, li_200, li_220, li_300, li_9999, nI_add, nI_mul, p_clamp, p_le, p_lt, p_eq, p_m1lt, p_m1eq, p_m1ge, p_eqm1, i_clamp, p_leT, p_leF, p_ltT, p_ltF, p_eqT, p_eqF, or_self, or_false, false_or, or_true, true_or, not_false_eq_true, not_true_eq_false, ↓reduceIte, and_self, and_true, true_and, and_false, false_and, ↓gv_e, g1, g2, gnl, Nat.reduceAdd, Nat.add_zero, reduceCtorEq, g2_sx, e]
    rfl
  | succ d ih =>
    intro c fuel v hf hk
    obtain ⟨f', rfl⟩ : ∃ x, fuel = x + 1 := ⟨fuel - 1, by omega⟩
    have e2 := fun K => st_144 H hw (c := c) (by omega) K 4 0 5 v (by decide) (by decide)
    rw [L_L_state_131, hC, ← ih (c + 1) f' _ (by omega) (by omega)]
    simp (disch := omega) only [neg1, li_0, li_1, li_2, li_3, li_4, li_5, li_6, li_7, li_8, li_9, li_10, li_11, li_12, li_13, li_14, li_15, li_16, li_20, li_23, li_24, li_26, li_29, li_30, li_36, li_39, li_40, li_42, li_43, li_47, li_48, li_49, li_50, li_53, li_57, li_58, li_59, li_60, li_61, li_62, li_64, li_68, li_71, li_72, li_74, li_80, li_86, li_92, li_93, li_94, li_95, li_96, li_97, li_98, li_99, li_100, li_104, li_108, li_110, li_115, li_116, li_160, li_200, li_220, li_300, li_9999, nI_add, nI_mul, p_clamp, p_le, p_lt, p_eq, p_m1lt, p_m1eq, p_m1ge, p_eqm1, i_clamp, p_leT, p_leF, p_ltT, p_ltF, p_eqT, p_eqF, or_self, or_false, false_or, or_true, true_or, not_false_eq_true, not_true_eq_false, ↓reduceIte, and_self, and_true, true_and, and_false, false_and, ↓gv_e, g1, g2, gnl, Nat.reduceAdd, Nat.add_zero, reduceCtorEq, g2_sx, e, e2]
theorem st_95 (H : CR N σ g f cnt gs n t) : ∀ (d w fuel : Nat) (v : Int32), d < fuel → w + d = iN (g 29) → L_L_state_95 0 fuel v (nI w) σ = some (0, hW g w d v, σ) := by
  obtain ⟨hW1, hW6⟩ := n_W (CR_B H)
  have e := d_account H (k := 2) (by decide)
  have e3 : acc g 2 = nI (iN (g 29)) := by rw [← hW1]; rfl
  rw [e3] at e
  intro d
  induction d with
  | zero =>
    intro w fuel v hf hk
    obtain ⟨f', rfl⟩ : ∃ x, fuel = x + 1 := ⟨fuel - 1, by omega⟩
    rw [Nat.add_zero] at hk
    rw [L_L_state_95]
    rw [← hk] at e
    simp (disch := omega) only [neg1, li_0, li_1, li_2, li_3, li_4, li_5, li_6, li_7, li_8, li_9, li_10, li_11, li_12, li_13, li_14, li_15, li_16, li_20, li_23, li_24, li_26, li_29, li_30, li_36, li_39, li_40, li_42, li_43, li_47, li_48, li_49, li_50, li_53, li_57, li_58, li_59, li_60, li_61, li_62, li_64, li_68, li_71, li_72, li_74, li_80, li_86, li_92, li_93, li_94, li_95, li_96, li_97, li_98, li_99, li_100, li_104, li_108, li_110, li_115, li_116, li_160, li_200, li_220, li_300, li_9999, nI_add, nI_mul, p_clamp, p_le, p_lt, p_eq, p_m1lt, p_m1eq, p_m1ge, p_eqm1, i_clamp, p_leT, p_leF, p_ltT, p_ltF, p_eqT, p_eqF, or_self, or_false, false_or, or_true, true_or, not_false_eq_true, not_true_eq_false, ↓reduceIte, and_self, and_true, true_and, and_false, false_and, ↓gv_e, g1, g2, gnl, Nat.reduceAdd, Nat.add_zero, reduceCtorEq, g2_sx, e]
    rfl
  | succ d ih =>
    intro w fuel v hf hk
    obtain ⟨f', rfl⟩ : ∃ x, fuel = x + 1 := ⟨fuel - 1, by omega⟩
    obtain ⟨hC1, hC2⟩ := gC_of (CR_B H) (t := w) (by omega)
    have e2 := fun K => st_106 H (w := w) (by omega) K 5 0 6 v (by decide) (by decide)
    have e4 := fun K v => st_131 H (w := w) (by omega) K (gC g w) 0 11 v (by omega) (by omega)
    rw [L_L_state_95, hW, ← ih (w + 1) f' _ (by omega) (by omega)]
    simp (disch := omega) only [neg1, li_0, li_1, li_2, li_3, li_4, li_5, li_6, li_7, li_8, li_9, li_10, li_11, li_12, li_13, li_14, li_15, li_16, li_20, li_23, li_24, li_26, li_29, li_30, li_36, li_39, li_40, li_42, li_43, li_47, li_48, li_49, li_50, li_53, li_57, li_58, li_59, li_60, li_61, li_62, li_64, li_68, li_71, li_72, li_74, li_80, li_86, li_92, li_93, li_94, li_95, li_96, li_97, li_98, li_99, li_100, li_104, li_108, li_110, li_115, li_116, li_160, li_200, li_220, li_300, li_9999, nI_add, nI_mul, p_clamp, p_le, p_lt, p_eq, p_m1lt, p_m1eq, p_m1ge, p_eqm1, i_clamp, p_leT, p_leF, p_ltT, p_ltF, p_eqT, p_eqF, or_self, or_false, false_or, or_true, true_or, not_false_eq_true, not_true_eq_false, ↓reduceIte, and_self, and_true, true_and, and_false, false_and, ↓gv_e, g1, g2, gnl, Nat.reduceAdd, Nat.add_zero, reduceCtorEq, g2_sx, e, e2, e4]
/-- state reads, and answers what the numbers are -/
theorem d_state (H : CR N σ g f cnt gs n t) : f_L_state 0 σ = some (0, stG g, σ) := by
  obtain ⟨hW1, hW6⟩ := n_W (CR_B H)
  obtain ⟨hT1, hT4⟩ := n_T (CR_B H)
  have e1 := fun K => st_4 H K 15 0 16 (nI 0) (by decide) (by decide)
  have e2 := fun K v => st_29 H K 3 0 4 v (by decide) (by decide)
  have e3 := fun K v => st_53 H K (iN (g 48)) 0 5 v (by omega) (by omega)
  have e4 := fun v => st_95 H (iN (g 29)) 0 7 v (by omega) (by omega)
  unfold f_L_state
  rw [li_0, e1, e2, e3, e4]
  rfl
end
