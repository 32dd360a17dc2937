/-! THE PURE SIDE: numbers -/
theorem li_0 : (0 : Int32) = nI 0 := (rfl)
theorem li_1 : (1 : Int32) = nI 1 := (rfl)
theorem li_2 : (2 : Int32) = nI 2 := (rfl)
theorem li_3 : (3 : Int32) = nI 3 := (rfl)
theorem li_4 : (4 : Int32) = nI 4 := (rfl)
theorem li_5 : (5 : Int32) = nI 5 := (rfl)
theorem li_6 : (6 : Int32) = nI 6 := (rfl)
theorem li_7 : (7 : Int32) = nI 7 := (rfl)
theorem li_8 : (8 : Int32) = nI 8 := (rfl)
theorem li_9 : (9 : Int32) = nI 9 := (rfl)
theorem li_10 : (10 : Int32) = nI 10 := (rfl)
theorem li_11 : (11 : Int32) = nI 11 := (rfl)
theorem li_12 : (12 : Int32) = nI 12 := (rfl)
theorem li_13 : (13 : Int32) = nI 13 := (rfl)
theorem li_14 : (14 : Int32) = nI 14 := (rfl)
theorem li_15 : (15 : Int32) = nI 15 := (rfl)
theorem li_16 : (16 : Int32) = nI 16 := (rfl)
theorem li_20 : (20 : Int32) = nI 20 := (rfl)
theorem li_23 : (23 : Int32) = nI 23 := (rfl)
theorem li_24 : (24 : Int32) = nI 24 := (rfl)
theorem li_26 : (26 : Int32) = nI 26 := (rfl)
theorem li_29 : (29 : Int32) = nI 29 := (rfl)
theorem li_30 : (30 : Int32) = nI 30 := (rfl)
theorem li_36 : (36 : Int32) = nI 36 := (rfl)
theorem li_39 : (39 : Int32) = nI 39 := (rfl)
theorem li_40 : (40 : Int32) = nI 40 := (rfl)
theorem li_42 : (42 : Int32) = nI 42 := (rfl)
theorem li_43 : (43 : Int32) = nI 43 := (rfl)
theorem li_47 : (47 : Int32) = nI 47 := (rfl)
theorem li_48 : (48 : Int32) = nI 48 := (rfl)
theorem li_49 : (49 : Int32) = nI 49 := (rfl)
theorem li_50 : (50 : Int32) = nI 50 := (rfl)
theorem li_53 : (53 : Int32) = nI 53 := (rfl)
theorem li_57 : (57 : Int32) = nI 57 := (rfl)
theorem li_58 : (58 : Int32) = nI 58 := (rfl)
theorem li_59 : (59 : Int32) = nI 59 := (rfl)
theorem li_60 : (60 : Int32) = nI 60 := (rfl)
theorem li_61 : (61 : Int32) = nI 61 := (rfl)
theorem li_62 : (62 : Int32) = nI 62 := (rfl)
theorem li_64 : (64 : Int32) = nI 64 := (rfl)
theorem li_68 : (68 : Int32) = nI 68 := (rfl)
theorem li_71 : (71 : Int32) = nI 71 := (rfl)
theorem li_72 : (72 : Int32) = nI 72 := (rfl)
theorem li_74 : (74 : Int32) = nI 74 := (rfl)
theorem li_80 : (80 : Int32) = nI 80 := (rfl)
theorem li_86 : (86 : Int32) = nI 86 := (rfl)
theorem li_92 : (92 : Int32) = nI 92 := (rfl)
theorem li_93 : (93 : Int32) = nI 93 := (rfl)
theorem li_94 : (94 : Int32) = nI 94 := (rfl)
theorem li_95 : (95 : Int32) = nI 95 := (rfl)
theorem li_96 : (96 : Int32) = nI 96 := (rfl)
theorem li_97 : (97 : Int32) = nI 97 := (rfl)
theorem li_98 : (98 : Int32) = nI 98 := (rfl)
theorem li_99 : (99 : Int32) = nI 99 := (rfl)
theorem li_100 : (100 : Int32) = nI 100 := (rfl)
theorem li_104 : (104 : Int32) = nI 104 := (rfl)
theorem li_108 : (108 : Int32) = nI 108 := (rfl)
theorem li_110 : (110 : Int32) = nI 110 := (rfl)
theorem li_115 : (115 : Int32) = nI 115 := (rfl)
theorem li_116 : (116 : Int32) = nI 116 := (rfl)
theorem li_160 : (160 : Int32) = nI 160 := (rfl)
theorem li_200 : (200 : Int32) = nI 200 := (rfl)
theorem li_220 : (220 : Int32) = nI 220 := (rfl)
theorem li_300 : (300 : Int32) = nI 300 := (rfl)
theorem li_9999 : (9999 : Int32) = nI 9999 := (rfl)
abbrev iN (x : Int32) : Nat := x.toNatClampNeg
def m1 : Int32 := -1
theorem neg1 : -(nI 1) = m1 := (rfl)
theorem m1_d : (-1 : Int32) = m1 := rfl
theorem p_clamp {n : Nat} (h : n < 2147483648) : (nI n).toNatClampNeg = n := nI_clamp h
theorem p_le {a b : Nat} (ha : a < 2147483648) (hb : b < 2147483648) : (nI a ≤ nI b) = (a ≤ b) := propext (nI_leI ha hb)
theorem p_lt {a b : Nat} (ha : a < 2147483648) (hb : b < 2147483648) : (nI a < nI b) = (a < b) := propext (nI_ltI ha hb)
theorem p_eq {a b : Nat} (ha : a < 2147483648) (hb : b < 2147483648) : (nI a = nI b) = (a = b) := propext (nI_eq ha hb)
theorem nI_mul (a b : Nat) : nI a * nI b = nI (a * b) := (Int32.ofNat_mul a b).symm
theorem p_int {n : Nat} (h : n < 2147483648) : (nI n).toInt = (n : Int) := nI_toInt h
theorem m1_int : m1.toInt = -1 := by decide +kernel
theorem p_m1lt {n : Nat} (h : n < 2147483648) : (m1 < nI n) = True := by
  rw [eq_iff_iff, iff_true, Int32.lt_iff_toInt_lt, p_int h, m1_int]; omega
theorem p_m1ge {n : Nat} (h : n < 2147483648) : (nI n ≤ m1) = False := by
  rw [eq_iff_iff, iff_false, Int32.le_iff_toInt_le, p_int h, m1_int]; omega
theorem p_m1eq {n : Nat} (h : n < 2147483648) : (m1 = nI n) = False := by
  rw [eq_iff_iff, iff_false, ← Int32.toInt_inj, p_int h, m1_int]; omega
theorem p_eqm1 {n : Nat} (h : n < 2147483648) : (nI n = m1) = False := by
  rw [eq_iff_iff, iff_false, ← Int32.toInt_inj, p_int h, m1_int]; omega
theorem p_m1lt0 : (m1 < nI 0) = True := p_m1lt (by decide)
theorem nI_sub {a b : Nat} (h : b ≤ a) : nI a - nI b = nI (a - b) := by
  have e : a = (a - b) + b := by omega
  rw [show nI a = nI (a - b) + nI b by rw [nI_add, ← e]]
  exact Int32.add_sub_cancel _ _
theorem bm32 {x : Int} : x.bmod (2 ^ 32) = if x % 4294967296 < 2147483648 then x % 4294967296 else x % 4294967296 - 4294967296 := by
  rw [Int.bmod_def]; rfl
theorem bm32' {x : Int} : x.bmod 4294967296 = if x % 4294967296 < 2147483648 then x % 4294967296 else x % 4294967296 - 4294967296 := by
  rw [Int.bmod_def]; rfl
theorem p_ex {x : Int32} (h : 0 ≤ x.toInt) : ∃ n : Nat, x = nI n ∧ (n : Int) = x.toInt ∧ n < 2147483648 := by
  obtain ⟨n, h1, h2⟩ := nI_of (x := x) (by rw [Int32.lt_iff_toInt_lt]; exact Int.not_lt.mpr h)
  exact ⟨n, h2, by rw [h2, p_int h1], h1⟩
theorem p_self {x : Int32} (h : 0 ≤ x.toInt) : nI x.toNatClampNeg = x := by
  obtain ⟨n, h1, -, h2⟩ := p_ex h
  rw [h1, p_clamp h2]
theorem p_clampI {x : Int32} (h : 0 ≤ x.toInt) : (x.toNatClampNeg : Int) = x.toInt := by
  obtain ⟨n, h1, h3, h2⟩ := p_ex h
  rw [h1, p_clamp h2, p_int h2]
/-- a number is in a range from 0, or not -/
theorem in_cases (u : Int32) {n : Nat} (hn : n < 2147483648) : (∃ t : Nat, t < n ∧ u = nI t) ∨ u < 0 ∨ (0 ≤ u ∧ nI n ≤ u) := by
  by_cases h : u < 0
  · exact Or.inr (Or.inl h)
  · obtain ⟨t, h1, h2⟩ := nI_of h
    by_cases h3 : t < n
    · exact Or.inl ⟨t, h3, h2⟩
    · refine Or.inr (Or.inr ⟨Int32.not_lt.mp h, ?_⟩)
      rw [h2]; exact nI_le (by omega) h1
theorem p_div {a b : Nat} (ha : a < 2147483648) (hb : b < 2147483648) : nI a / nI b = nI (a / b) := by
  apply Int32.toInt_inj.mp
  have h1 : a / b < 2147483648 := Nat.lt_of_le_of_lt (Nat.div_le_self a b) ha
  rw [Int32.toInt_div, p_int ha, p_int hb, p_int h1, bm32]
  have h2 : (a : Int).tdiv (b : Int) = ((a / b : Nat) : Int) := rfl
  rw [h2]
  generalize a / b = z at h1 ⊢
  split <;> omega
theorem p_rem {a b : Nat} (ha : a < 2147483648) (hb : b < 2147483648) : nI a - nI a / nI b * nI b = nI (a % b) := by
  rw [p_div ha hb, nI_mul, nI_sub (Nat.div_mul_le_self a b)]
  congr 1
  have := Nat.div_add_mod a b
  rw [Nat.mul_comm] at this
  omega
theorem p_xor {a b : Nat} (ha : a < 2147483648) (hb : b < 2147483648) : 0 ≤ (nI a ^^^ nI b) := by
  have e : nI a ^^^ nI b = nI (a ^^^ b) := by
    apply Int32.toBitVec_inj.mp
    rw [Int32.toBitVec_xor]
    apply BitVec.eq_of_toNat_eq
    have hx : a ^^^ b < 2 ^ 31 := Nat.xor_lt_two_pow ha hb
    have h1 : (nI a).toBitVec.toNat = a := by show (BitVec.ofNat 32 a).toNat = a; rw [BitVec.toNat_ofNat]; omega
    have h2 : (nI b).toBitVec.toNat = b := by show (BitVec.ofNat 32 b).toNat = b; rw [BitVec.toNat_ofNat]; omega
    have h3 : (nI (a ^^^ b)).toBitVec.toNat = a ^^^ b := by show (BitVec.ofNat 32 (a ^^^ b)).toNat = a ^^^ b; rw [BitVec.toNat_ofNat]; omega
    rw [BitVec.toNat_xor, h1, h2, h3]
  rw [e]
  exact nI_pos' (Nat.xor_lt_two_pow ha hb)
/-- Math.floorMod of a number from 0 -/
theorem p_fmod {a b : Nat} (ha : a < 2147483648) (h0 : 0 < b) (hb : b < 2147483648) (m : gMem) : f_J9_floorMod_7cf53 (nI a) (nI b) m = some (nI (a % b), m) := by
  unfold f_J9_floorMod_7cf53 gv
  rw [if_pos (nI_ne0 h0 hb), p_rem ha hb]
  dsimp only
  rw [if_pos (p_xor ha hb)]
theorem p_fmod_m1 (m : gMem) : f_J9_floorMod_7cf53 m1 (nI 8) m = some (nI 7, m) := by
  unfold f_J9_floorMod_7cf53 gv
  rw [if_pos (by decide +kernel)]
  dsimp only
  rw [if_neg (by decide +kernel), if_neg (by decide +kernel)]
  rfl
/-! memory -/
theorem ms_ap {σ : gMem} {c j c' j' : Nat} {x : Int32} : ms σ c j x c' j' = if c' = c ∧ j' = j then x else σ c' j' := by
  by_cases h : c' = c
  · subst h
    rw [ms_s]
    by_cases h2 : j' = j
    · subst h2; rw [pk_us, if_pos ⟨rfl, rfl⟩]
    · rw [pk_un h2, if_neg (fun q => h2 q.2)]
  · rw [ms_n h, if_neg (fun q => h q.1)]
theorem ms_cell {σ : gMem} {c j c' : Nat} {x : Int32} (h : c' ≠ c) : ms σ c j x c' = σ c' := ms_n h
theorem upd_ap {f : Nat → Int32} {k j : Nat} {x : Int32} : upd f k x j = if j = k then x else f j := (rfl)
theorem gMem_ext {σ τ : gMem} (h : ∀ c j, σ c j = τ c j) : σ = τ := by funext c j; exact h c j
theorem gv_e {α β : Type} {x : α} {k : α → Option β} : gv x k = k x := (rfl)
theorem g1_sx {α β : Type} {x : α} {s : gMem} {k : α → gMem → Option β} : g1 (some (x, s)) k = k x s := (rfl)
theorem g2_sx {α β : Type} {d : β} {e : Nat} {x : α} {s : gMem} {k : α → gMem → Option (Nat × β × gMem)} : g2 d (some (e, x, s)) k = if e = 0 then k x s else some (e, d, s) := (rfl)
theorem gnl_nx {β : Type} {a : Option β} {k : Nat → Option β} : gnl none a k = a := (rfl)
theorem gnl_sx {β : Type} {x : Nat} {a : Option β} {k : Nat → Option β} : gnl (some x) a k = k x := (rfl)

