/-! THE PURE SIDE: the law's inner methods and the model's methods, one after the other -/
theorem RR_m {N : Nat} {σ m m' : gMem} (H : RR N σ m) (h : ∀ c, 433 ≤ c → m' c = m c) : RR N σ m' := by
  obtain ⟨a1, ⟨a2, a3⟩, ⟨cnt, a4, a5⟩, a6, a7, a8, a9⟩ := H
  have e := h 433 (by decide)
  refine ⟨by rw [h 434 (by decide)]; exact a1, ⟨by rw [e]; exact a2, fun q => by rw [e] at q; rw [h 437 (by decide)]; exact a3 q⟩, ⟨cnt, by rw [e]; exact a4, by rw [h 436 (by decide)]; exact a5⟩, TX_own a6 rfl rfl (by rw [e]) (h 438 (by decide)), by rw [e]; exact a7, by rw [e]; exact a8, by rw [e]; exact a9⟩
theorem RR_s {N : Nat} {σ σ' m : gMem} (H : RR N σ m) (h : ∀ c, c < 433 → σ' c = σ c) : RR N σ' m := by
  obtain ⟨a1, ⟨a2, a3⟩, ⟨cnt, a4, a5⟩, a6, a7, a8, a9⟩ := H
  exact ⟨HQ_own a1 (fun c _ _ => h c (by omega)), ⟨by rw [h 0 (by omega)]; exact a2, fun q => HQ_own (a3 q) (fun c _ _ => h c (by omega))⟩, ⟨cnt, a4, HI_own a5 (fun c _ _ => h c (by omega))⟩, TX_own a6 (by rw [h 388 (by omega)]) (h 389 (by omega)) rfl rfl, by rw [h 0 (by omega)]; exact a7, by rw [h 431 (by omega)]; exact a8, by rw [h 431 (by omega)]; exact a9⟩
theorem RG_two {α : Type} {N : Nat} {σ : gMem} {cl : Option (Nat × α × gMem)} {md : gMem → Option (α × gMem)} {L : List (Nat × Nat)} (H : RR N σ σ) (h : ∀ m, RR N σ m → RESG N σ m cl (md m) L) : ∃ (e : Nat) (a : α) (σ1 : gMem) (b : α) (σ2 : gMem) (c : Nat), cl = some (e, a, σ1) ∧ md σ1 = some (b, σ2) ∧ RR (N + 1440) σ2 σ2 ∧ σ2 433 12 = nI c ∧ (e, c) ∈ L ∧ (e = 0 → a = b) := by
  obtain ⟨e, a, σ1, -, -, -, h1, -, h3, -⟩ := h σ H
  obtain ⟨e', a', σ1', b, σ2, c, k1, k2, k3, k4, k5, k6, k7, k8⟩ := h σ1 (RR_m H h3)
  rw [h1] at k1
  have q := Option.some.inj k1
  have q1 : e = e' := congrArg (fun x => x.1) q
  have q2 : a = a' := congrArg (fun x => x.2.1) q
  have q3 : σ1 = σ1' := congrArg (fun x => x.2.2) q
  subst q1 q2 q3
  exact ⟨e, a, σ1, b, σ2, c, h1, k2, RR_s k5 (fun c hc => k4 c (Or.inl hc)), k6, k7, k8⟩
theorem RES_two {N : Nat} {σ : gMem} {cl : Option (Nat × Int32 × gMem)} {md : gMem → Option (Int32 × gMem)} {L : List (Nat × Nat)} (H : RR N σ σ) (h : ∀ m, RR N σ m → RES N σ m cl (md m) L) : ∃ (e : Nat) (a : Int32) (σ1 : gMem) (b : Int32) (σ2 : gMem) (c : Nat), cl = some (e, a, σ1) ∧ md σ1 = some (b, σ2) ∧ RR (N + 1440) σ2 σ2 ∧ σ2 433 12 = nI c ∧ (e, c) ∈ L ∧ (e = 0 → a = b) := RG_two H (fun m hm => h m hm)
/-- one step of the law with an answer in the row of longs -/
def STP (N : Nat) (wv : Option gLR) (md : gMem → Option (Int32 × gMem)) (w : Nat → UInt64) (V : Int32 → Int64) : Prop := ∃ (c : Nat) (z' : Nat → Int64) (σ1 : gMem) (b : Int32) (σ2 : gMem), wv = some (nI c, z', w, σ1) ∧ md σ1 = some (b, σ2) ∧ σ2 433 12 = nI c ∧ RR (N + 1440) σ2 σ2 ∧ c < 5 ∧ (c = 0 → z' 0 = V b)
theorem STP_mk {N : Nat} {σ : gMem} {cl : Option (Nat × Int32 × gMem)} {md : gMem → Option (Int32 × gMem)} {L : List (Nat × Nat)} {wv : Option gLR} {z : Nat → Int64} {w : Nat → UInt64} {V : Int32 → Int64} (H : RR N σ σ) (h : ∀ m, RR N σ m → RES N σ m cl (md m) L) (hw : ∀ e c a σ1, (e, c) ∈ L → cl = some (e, a, σ1) → c < 5 ∧ ∃ z', wv = some (nI c, z', w, σ1) ∧ (c = 0 → e = 0 ∧ z' 0 = V a)) : STP N wv md w V := by
  obtain ⟨e, a, σ1, b, σ2, c, h1, h2, h3, h4, h5, h6⟩ := RES_two H h
  obtain ⟨k0, z', k1, k2⟩ := hw e c a σ1 h5 h1
  exact ⟨c, z', σ1, b, σ2, k1, h2, h4, h3, k0, fun q => by rw [(k2 q).2, h6 (k2 q).1]⟩
section
variable {N : Nat} {σ : gMem} {z : Nat → Int64} {w : Nat → UInt64}
theorem stp_humidity (H : RR N σ σ) (hN : N ≤ 900000) (u1 u2 : Int32) : STP N (w_humidity u1 u2 z w σ) (fun m => f_X9_humidity 433 u1 u2 m) w (fun b => b.toInt64) := by
  refine STP_mk (cl := f_X8_humidity 0 u1 u2 σ) (z := z) H (fun m hm => s_humidity hm u1 u2) (fun e c a σ1 h5 h1 => ?_)
  unfold w_humidity
  rw [h1]
  simp only [List.mem_cons, Prod.mk.injEq, List.not_mem_nil, or_false] at h5
  rcases h5 with ⟨rfl, rfl⟩ | ⟨rfl, rfl⟩ | ⟨rfl, rfl⟩
  · exact ⟨by decide, vp_updL z 0 a.toInt64, rfl, fun _ => ⟨rfl, rfl⟩⟩
  · exact ⟨by decide, z, rfl, fun q => absurd q (by decide)⟩
  · exact ⟨by decide, z, rfl, fun q => absurd q (by decide)⟩
theorem stp_humidityIn (H : RR N σ σ) (hN : N ≤ 900000) (u1 : Int32) : STP N (w_humidityIn u1 z w σ) (fun m => f_X9_humidityIn 433 u1 m) w (fun b => b.toInt64) := by
  refine STP_mk (cl := f_X8_humidityIn 0 u1 σ) (z := z) H (fun m hm => s_humidityIn hm (by omega) u1) (fun e c a σ1 h5 h1 => ?_)
  unfold w_humidityIn
  rw [h1]
  simp only [List.mem_cons, Prod.mk.injEq, List.not_mem_nil, or_false] at h5
  rcases h5 with ⟨rfl, rfl⟩ | ⟨rfl, rfl⟩
  · exact ⟨by decide, vp_updL z 0 a.toInt64, rfl, fun _ => ⟨rfl, rfl⟩⟩
  · exact ⟨by decide, z, rfl, fun q => absurd q (by decide)⟩
theorem stp_buy (H : RR N σ σ) (hN : N ≤ 900000) (u1 u2 : Int32) : STP N (w_buy u1 u2 z w σ) (fun m => f_X9_buy 433 u1 u2 m) w (fun b => b.toInt64) := by
  refine STP_mk (cl := f_X8_buy 0 u1 u2 σ) (z := z) H (fun m hm => s_buy hm (by omega) u1 u2) (fun e c a σ1 h5 h1 => ?_)
  unfold w_buy
  rw [h1]
  simp only [List.mem_cons, Prod.mk.injEq, List.not_mem_nil, or_false] at h5
  rcases h5 with ⟨rfl, rfl⟩ | ⟨rfl, rfl⟩ | ⟨rfl, rfl⟩
  · exact ⟨by decide, vp_updL z 0 a.toInt64, rfl, fun _ => ⟨rfl, rfl⟩⟩
  · exact ⟨by decide, z, rfl, fun q => absurd q (by decide)⟩
  · exact ⟨by decide, z, rfl, fun q => absurd q (by decide)⟩
theorem stp_stock (H : RR N σ σ) (hN : N ≤ 900000) (u1 : Int32) : STP N (w_stock u1 z w σ) (fun m => f_X9_stock 433 u1 m) w (fun b => b.toInt64) := by
  refine STP_mk (cl := f_X8_stock 0 u1 σ) (z := z) H (fun m hm => s_stock hm u1) (fun e c a σ1 h5 h1 => ?_)
  unfold w_stock
  rw [h1]
  simp only [List.mem_cons, Prod.mk.injEq, List.not_mem_nil, or_false] at h5
  rcases h5 with ⟨rfl, rfl⟩ | ⟨rfl, rfl⟩
  · exact ⟨by decide, vp_updL z 0 a.toInt64, rfl, fun _ => ⟨rfl, rfl⟩⟩
  · exact ⟨by decide, z, rfl, fun q => absurd q (by decide)⟩
theorem stp_tongs (H : RR N σ σ) (hN : N ≤ 900000) (u1 : Int32) : STP N (w_tongs u1 z w σ) (fun m => f_X9_tongs 433 u1 m) w (fun b => b.toInt64) := by
  refine STP_mk (cl := f_X8_tongs 0 u1 σ) (z := z) H (fun m hm => s_tongs hm u1) (fun e c a σ1 h5 h1 => ?_)
  unfold w_tongs
  rw [h1]
  simp only [List.mem_cons, Prod.mk.injEq, List.not_mem_nil, or_false] at h5
  rcases h5 with ⟨rfl, rfl⟩ | ⟨rfl, rfl⟩ | ⟨rfl, rfl⟩
  · exact ⟨by decide, vp_updL z 0 a.toInt64, rfl, fun _ => ⟨rfl, rfl⟩⟩
  · exact ⟨by decide, z, rfl, fun q => absurd q (by decide)⟩
  · exact ⟨by decide, z, rfl, fun q => absurd q (by decide)⟩
theorem stp_tongsOf (H : RR N σ σ) (hN : N ≤ 900000) (u1 u2 : Int32) : STP N (w_tongsOf u1 u2 z w σ) (fun m => f_X9_tongsOf 433 u1 u2 m) w (fun b => b.toInt64) := by
  refine STP_mk (cl := f_X8_tongsOf 0 u1 u2 σ) (z := z) H (fun m hm => s_tongsOf hm u1 u2) (fun e c a σ1 h5 h1 => ?_)
  unfold w_tongsOf
  rw [h1]
  simp only [List.mem_cons, Prod.mk.injEq, List.not_mem_nil, or_false] at h5
  rcases h5 with ⟨rfl, rfl⟩ | ⟨rfl, rfl⟩ | ⟨rfl, rfl⟩
  · exact ⟨by decide, vp_updL z 0 a.toInt64, rfl, fun _ => ⟨rfl, rfl⟩⟩
  · exact ⟨by decide, z, rfl, fun q => absurd q (by decide)⟩
  · exact ⟨by decide, z, rfl, fun q => absurd q (by decide)⟩
theorem stp_tongsFor (H : RR N σ σ) (hN : N ≤ 900000) (u1 : Int32) : STP N (w_tongsFor u1 z w σ) (fun m => f_X9_tongsFor 433 u1 m) w (fun b => b.toInt64) := by
  refine STP_mk (cl := f_X8_tongsFor 0 u1 σ) (z := z) H (fun m hm => s_tongsFor hm u1) (fun e c a σ1 h5 h1 => ?_)
  unfold w_tongsFor
  rw [h1]
  simp only [List.mem_cons, Prod.mk.injEq, List.not_mem_nil, or_false] at h5
  rcases h5 with ⟨rfl, rfl⟩ | ⟨rfl, rfl⟩ | ⟨rfl, rfl⟩
  · exact ⟨by decide, vp_updL z 0 a.toInt64, rfl, fun _ => ⟨rfl, rfl⟩⟩
  · exact ⟨by decide, z, rfl, fun q => absurd q (by decide)⟩
  · exact ⟨by decide, z, rfl, fun q => absurd q (by decide)⟩
theorem stp_tower (H : RR N σ σ) (hN : N ≤ 900000) : STP N (w_tower  z w σ) (fun m => f_X9_tower 433  m) w (fun b => b.toInt64) := by
  refine STP_mk (cl := f_X8_tower 0  σ) (z := z) H (fun m hm => s_tower hm ) (fun e c a σ1 h5 h1 => ?_)
  unfold w_tower
  rw [h1]
  simp only [List.mem_cons, Prod.mk.injEq, List.not_mem_nil, or_false] at h5
  rcases h5 with ⟨rfl, rfl⟩ | ⟨rfl, rfl⟩
  · exact ⟨by decide, vp_updL z 0 a.toInt64, rfl, fun _ => ⟨rfl, rfl⟩⟩
  · exact ⟨by decide, z, rfl, fun q => absurd q (by decide)⟩
theorem stp_lay (H : RR N σ σ) (hN : N ≤ 900000) (u1 u2 u3 u4 : Int32) : STP N (w_lay u1 u2 u3 u4 z w σ) (fun m => f_X9_lay 433 u1 u2 u3 u4 m) w (fun b => b.toInt64) := by
  refine STP_mk (cl := f_X8_lay 0 u1 u2 u3 u4 σ) (z := z) H (fun m hm => s_lay hm u1 u2 u3 u4) (fun e c a σ1 h5 h1 => ?_)
  unfold w_lay
  rw [h1]
  simp only [List.mem_cons, Prod.mk.injEq, List.not_mem_nil, or_false] at h5
  rcases h5 with ⟨rfl, rfl⟩ | ⟨rfl, rfl⟩ | ⟨rfl, rfl⟩ | ⟨rfl, rfl⟩
  · exact ⟨by decide, vp_updL z 0 a.toInt64, rfl, fun _ => ⟨rfl, rfl⟩⟩
  · exact ⟨by decide, z, rfl, fun q => absurd q (by decide)⟩
  · exact ⟨by decide, z, rfl, fun q => absurd q (by decide)⟩
  · exact ⟨by decide, z, rfl, fun q => absurd q (by decide)⟩
theorem stp_why (H : RR N σ σ) (hN : N ≤ 900000) (u1 u2 u3 u4 : Int32) : STP N (w_why u1 u2 u3 u4 z w σ) (fun m => f_X9_why 433 u1 u2 u3 u4 m) w (fun b => b.toInt64) := by
  refine STP_mk (cl := f_X8_why 0 u1 u2 u3 u4 σ) (z := z) H (fun m hm => s_why hm u1 u2 u3 u4) (fun e c a σ1 h5 h1 => ?_)
  unfold w_why
  rw [h1]
  simp only [List.mem_cons, Prod.mk.injEq, List.not_mem_nil, or_false] at h5
  rcases h5 with ⟨rfl, rfl⟩ | ⟨rfl, rfl⟩ | ⟨rfl, rfl⟩
  · exact ⟨by decide, vp_updL z 0 a.toInt64, rfl, fun _ => ⟨rfl, rfl⟩⟩
  · exact ⟨by decide, z, rfl, fun q => absurd q (by decide)⟩
  · exact ⟨by decide, z, rfl, fun q => absurd q (by decide)⟩
theorem stp_take (H : RR N σ σ) (hN : N ≤ 900000) (u1 : Int32) : STP N (w_take u1 z w σ) (fun m => f_X9_take 433 u1 m) w (fun b => b.toInt64) := by
  refine STP_mk (cl := f_X8_take 0 u1 σ) (z := z) H (fun m hm => s_take hm u1) (fun e c a σ1 h5 h1 => ?_)
  unfold w_take
  rw [h1]
  simp only [List.mem_cons, Prod.mk.injEq, List.not_mem_nil, or_false] at h5
  rcases h5 with ⟨rfl, rfl⟩ | ⟨rfl, rfl⟩ | ⟨rfl, rfl⟩
  · exact ⟨by decide, vp_updL z 0 a.toInt64, rfl, fun _ => ⟨rfl, rfl⟩⟩
  · exact ⟨by decide, z, rfl, fun q => absurd q (by decide)⟩
  · exact ⟨by decide, z, rfl, fun q => absurd q (by decide)⟩
theorem stp_courseOf (H : RR N σ σ) (hN : N ≤ 900000) (u1 u2 u3 : Int32) : STP N (w_courseOf u1 u2 u3 z w σ) (fun m => f_X9_courseOf 433 u1 u2 u3 m) w (fun b => b.toInt64) := by
  refine STP_mk (cl := f_X8_courseOf 0 u1 u2 u3 σ) (z := z) H (fun m hm => s_courseOf hm u1 u2 u3) (fun e c a σ1 h5 h1 => ?_)
  unfold w_courseOf
  rw [h1]
  simp only [List.mem_cons, Prod.mk.injEq, List.not_mem_nil, or_false] at h5
  rcases h5 with ⟨rfl, rfl⟩ | ⟨rfl, rfl⟩ | ⟨rfl, rfl⟩
  · exact ⟨by decide, vp_updL z 0 a.toInt64, rfl, fun _ => ⟨rfl, rfl⟩⟩
  · exact ⟨by decide, z, rfl, fun q => absurd q (by decide)⟩
  · exact ⟨by decide, z, rfl, fun q => absurd q (by decide)⟩
theorem stp_bearsAgain (H : RR N σ σ) (hN : N ≤ 900000) (u1 u2 : Int32) : STP N (w_bearsAgain u1 u2 z w σ) (fun m => f_X9_bearsAgain 433 u1 u2 m) w (fun b => b.toInt64) := by
  refine STP_mk (cl := f_X8_bearsAgain 0 u1 u2 σ) (z := z) H (fun m hm => s_bearsAgain hm u1 u2) (fun e c a σ1 h5 h1 => ?_)
  unfold w_bearsAgain
  rw [h1]
  simp only [List.mem_cons, Prod.mk.injEq, List.not_mem_nil, or_false] at h5
  rcases h5 with ⟨rfl, rfl⟩ | ⟨rfl, rfl⟩
  · exact ⟨by decide, vp_updL z 0 a.toInt64, rfl, fun _ => ⟨rfl, rfl⟩⟩
  · exact ⟨by decide, z, rfl, fun q => absurd q (by decide)⟩
theorem stp_towerOf (H : RR N σ σ) (hN : N ≤ 900000) (u1 u2 : Int32) : STP N (w_towerOf u1 u2 z w σ) (fun m => f_X9_towerOf 433 u1 u2 m) w (fun b => b.toInt64) := by
  refine STP_mk (cl := f_X8_towerOf 0 u1 u2 σ) (z := z) H (fun m hm => s_towerOf hm u1 u2) (fun e c a σ1 h5 h1 => ?_)
  unfold w_towerOf
  rw [h1]
  simp only [List.mem_cons, Prod.mk.injEq, List.not_mem_nil, or_false] at h5
  rcases h5 with ⟨rfl, rfl⟩ | ⟨rfl, rfl⟩ | ⟨rfl, rfl⟩
  · exact ⟨by decide, vp_updL z 0 a.toInt64, rfl, fun _ => ⟨rfl, rfl⟩⟩
  · exact ⟨by decide, z, rfl, fun q => absurd q (by decide)⟩
  · exact ⟨by decide, z, rfl, fun q => absurd q (by decide)⟩
theorem stp_spare (H : RR N σ σ) (hN : N ≤ 900000) (u1 : Int32) : STP N (w_spare u1 z w σ) (fun m => f_X9_spare 433 u1 m) w (fun b => b.toInt64) := by
  refine STP_mk (cl := f_X8_spare 0 u1 σ) (z := z) H (fun m hm => s_spare hm u1) (fun e c a σ1 h5 h1 => ?_)
  unfold w_spare
  rw [h1]
  simp only [List.mem_cons, Prod.mk.injEq, List.not_mem_nil, or_false] at h5
  rcases h5 with ⟨rfl, rfl⟩ | ⟨rfl, rfl⟩
  · exact ⟨by decide, vp_updL z 0 a.toInt64, rfl, fun _ => ⟨rfl, rfl⟩⟩
  · exact ⟨by decide, z, rfl, fun q => absurd q (by decide)⟩
theorem stp_sign (H : RR N σ σ) (hN : N ≤ 900000) (u1 : Int32) : STP N (w_sign u1 z w σ) (fun m => f_X9_sign 433 u1 m) w (fun b => b.toInt64) := by
  refine STP_mk (cl := f_X8_sign 0 u1 σ) (z := z) H (fun m hm => s_sign hm u1) (fun e c a σ1 h5 h1 => ?_)
  unfold w_sign
  rw [h1]
  simp only [List.mem_cons, Prod.mk.injEq, List.not_mem_nil, or_false] at h5
  rcases h5 with ⟨rfl, rfl⟩ | ⟨rfl, rfl⟩
  · exact ⟨by decide, vp_updL z 0 a.toInt64, rfl, fun _ => ⟨rfl, rfl⟩⟩
  · exact ⟨by decide, z, rfl, fun q => absurd q (by decide)⟩
theorem stp_stands (H : RR N σ σ) (hN : N ≤ 900000) (u1 u2 : Int32) : STP N (w_stands u1 u2 z w σ) (fun m => f_X9_stands 433 u1 u2 m) w (fun b => if b = nI 0 then 0 else 1) := by
  refine STP_mk (cl := f_X8_stands 0 u1 u2 σ) (z := z) H (fun m hm => s_stands hm u1 u2) (fun e c a σ1 h5 h1 => ?_)
  unfold w_stands
  rw [h1]
  simp only [List.mem_cons, Prod.mk.injEq, List.not_mem_nil, or_false] at h5
  rcases h5 with ⟨rfl, rfl⟩ | ⟨rfl, rfl⟩ | ⟨rfl, rfl⟩
  · by_cases q : a = nI 0
    · refine ⟨by decide, vp_updL z 0 0, ?_, fun _ => ⟨rfl, (if_pos q).symm⟩⟩
      show (if a = (0 : Int32) then _ else _) = _
      rw [if_pos (show a = (0 : Int32) from q)]; rfl
    · refine ⟨by decide, vp_updL z 0 1, ?_, fun _ => ⟨rfl, (if_neg q).symm⟩⟩
      show (if a = (0 : Int32) then _ else _) = _
      rw [if_neg (show ¬ a = (0 : Int32) from q)]; rfl
  · exact ⟨by decide, z, rfl, fun q => absurd q (by decide)⟩
  · exact ⟨by decide, z, rfl, fun q => absurd q (by decide)⟩
theorem stp_breaksIn (H : RR N σ σ) (hN : N ≤ 900000) (u1 : Int32) : STP N (w_breaksIn u1 z w σ) (fun m => f_X9_breaksIn 433 u1 m) w (fun b => b.toInt64) := by
  refine STP_mk (cl := f_X8_breaksIn 0 u1 σ) (z := z) H (fun m hm => s_breaksIn hm (by omega) u1) (fun e c a σ1 h5 h1 => ?_)
  unfold w_breaksIn
  rw [h1]
  simp only [List.mem_cons, Prod.mk.injEq, List.not_mem_nil, or_false] at h5
  rcases h5 with ⟨rfl, rfl⟩ | ⟨rfl, rfl⟩ | ⟨rfl, rfl⟩
  · exact ⟨by decide, vp_updL z 0 a.toInt64, rfl, fun _ => ⟨rfl, rfl⟩⟩
  · exact ⟨by decide, z, rfl, fun q => absurd q (by decide)⟩
  · exact ⟨by decide, z, rfl, fun q => absurd q (by decide)⟩
theorem stp_banquet (H : RR N σ σ) (hN : N ≤ 900000) (u1 u2 u3 : Int32) : STP N (w_banquet u1 u2 u3 z w σ) (fun m => f_X9_banquet 433 u1 u2 u3 m) w (fun b => b.toInt64) := by
  refine STP_mk (cl := f_X8_banquet 0 u1 u2 u3 σ) (z := z) H (fun m hm => s_banquet hm u1 u2 u3) (fun e c a σ1 h5 h1 => ?_)
  unfold w_banquet
  rw [h1]
  simp only [List.mem_cons, Prod.mk.injEq, List.not_mem_nil, or_false] at h5
  rcases h5 with ⟨rfl, rfl⟩ | ⟨rfl, rfl⟩ | ⟨rfl, rfl⟩
  · exact ⟨by decide, vp_updL z 0 a.toInt64, rfl, fun _ => ⟨rfl, rfl⟩⟩
  · exact ⟨by decide, z, rfl, fun q => absurd q (by decide)⟩
  · exact ⟨by decide, z, rfl, fun q => absurd q (by decide)⟩
theorem stp_show (H : RR N σ σ) (hN : N ≤ 900000) (u1 u2 : Int32) : STP N (w_show u1 u2 z w σ) (fun m => f_X9_show 433 u1 u2 m) w (fun b => b.toInt64) := by
  refine STP_mk (cl := f_X8_show 0 u1 u2 σ) (z := z) H (fun m hm => s_show hm u1 u2) (fun e c a σ1 h5 h1 => ?_)
  unfold w_show
  rw [h1]
  simp only [List.mem_cons, Prod.mk.injEq, List.not_mem_nil, or_false] at h5
  rcases h5 with ⟨rfl, rfl⟩ | ⟨rfl, rfl⟩ | ⟨rfl, rfl⟩
  · exact ⟨by decide, vp_updL z 0 a.toInt64, rfl, fun _ => ⟨rfl, rfl⟩⟩
  · exact ⟨by decide, z, rfl, fun q => absurd q (by decide)⟩
  · exact ⟨by decide, z, rfl, fun q => absurd q (by decide)⟩
theorem stp_cancel (H : RR N σ σ) (hN : N ≤ 900000) (u1 : Int32) : STP N (w_cancel u1 z w σ) (fun m => f_X9_cancel 433 u1 m) w (fun b => b.toInt64) := by
  refine STP_mk (cl := f_X8_cancel 0 u1 σ) (z := z) H (fun m hm => s_cancel hm u1) (fun e c a σ1 h5 h1 => ?_)
  unfold w_cancel
  rw [h1]
  simp only [List.mem_cons, Prod.mk.injEq, List.not_mem_nil, or_false] at h5
  rcases h5 with ⟨rfl, rfl⟩ | ⟨rfl, rfl⟩
  · exact ⟨by decide, vp_updL z 0 a.toInt64, rfl, fun _ => ⟨rfl, rfl⟩⟩
  · exact ⟨by decide, z, rfl, fun q => absurd q (by decide)⟩
theorem stp_banquetOf (H : RR N σ σ) (hN : N ≤ 900000) (u1 u2 : Int32) : STP N (w_banquetOf u1 u2 z w σ) (fun m => f_X9_banquetOf 433 u1 u2 m) w (fun b => b.toInt64) := by
  refine STP_mk (cl := f_X8_banquetOf 0 u1 u2 σ) (z := z) H (fun m hm => s_banquetOf hm u1 u2) (fun e c a σ1 h5 h1 => ?_)
  unfold w_banquetOf
  rw [h1]
  simp only [List.mem_cons, Prod.mk.injEq, List.not_mem_nil, or_false] at h5
  rcases h5 with ⟨rfl, rfl⟩ | ⟨rfl, rfl⟩ | ⟨rfl, rfl⟩
  · exact ⟨by decide, vp_updL z 0 a.toInt64, rfl, fun _ => ⟨rfl, rfl⟩⟩
  · exact ⟨by decide, z, rfl, fun q => absurd q (by decide)⟩
  · exact ⟨by decide, z, rfl, fun q => absurd q (by decide)⟩
theorem stp_next (H : RR N σ σ) (hN : N ≤ 900000) : STP N (w_next  z w σ) (fun m => f_X9_next 433  m) w (fun b => b.toInt64) := by
  refine STP_mk (cl := f_X8_next 0  σ) (z := z) H (fun m hm => s_next hm ) (fun e c a σ1 h5 h1 => ?_)
  unfold w_next
  rw [h1]
  simp only [List.mem_cons, Prod.mk.injEq, List.not_mem_nil, or_false] at h5
  rcases h5 with ⟨rfl, rfl⟩ | ⟨rfl, rfl⟩
  · exact ⟨by decide, vp_updL z 0 a.toInt64, rfl, fun _ => ⟨rfl, rfl⟩⟩
  · exact ⟨by decide, z, rfl, fun q => absurd q (by decide)⟩
theorem stp_pass (H : RR N σ σ) (hN : N ≤ 900000) (u1 : Int32) : STP N (w_pass u1 z w σ) (fun m => f_X9_pass 433 u1 m) w (fun b => b.toInt64) := by
  refine STP_mk (cl := f_X8_pass 0 u1 σ) (z := z) H (fun m hm => s_pass hm (by omega) u1) (fun e c a σ1 h5 h1 => ?_)
  unfold w_pass
  rw [h1]
  simp only [List.mem_cons, Prod.mk.injEq, List.not_mem_nil, or_false] at h5
  rcases h5 with ⟨rfl, rfl⟩ | ⟨rfl, rfl⟩
  · exact ⟨by decide, vp_updL z 0 a.toInt64, rfl, fun _ => ⟨rfl, rfl⟩⟩
  · exact ⟨by decide, z, rfl, fun q => absurd q (by decide)⟩
theorem stp_append (H : RR N σ σ) (hN : N ≤ 900000) (u1 : Int32) : STP N (w_append u1 z w σ) (fun m => f_X9_append 433 u1 m) w (fun b => b.toInt64) := by
  refine STP_mk (cl := f_X8_append 0 u1 σ) (z := z) H (fun m hm => s_append hm u1) (fun e c a σ1 h5 h1 => ?_)
  unfold w_append
  rw [h1]
  simp only [List.mem_cons, Prod.mk.injEq, List.not_mem_nil, or_false] at h5
  rcases h5 with ⟨rfl, rfl⟩ | ⟨rfl, rfl⟩
  · exact ⟨by decide, vp_updL z 0 a.toInt64, rfl, fun _ => ⟨rfl, rfl⟩⟩
  · exact ⟨by decide, z, rfl, fun q => absurd q (by decide)⟩
theorem stp_read (H : RR N σ σ) (hN : N ≤ 900000) : STP N (w_read  z w σ) (fun m => f_X9_read 433  m) w (fun b => b.toInt64) := by
  refine STP_mk (cl := f_X8_read 0  σ) (z := z) H (fun m hm => s_read hm (by omega) ) (fun e c a σ1 h5 h1 => ?_)
  unfold w_read
  rw [h1]
  simp only [List.mem_cons, Prod.mk.injEq, List.not_mem_nil, or_false] at h5
  rcases h5 with ⟨rfl, rfl⟩ | ⟨rfl, rfl⟩ | ⟨rfl, rfl⟩
  · exact ⟨by decide, vp_updL z 0 a.toInt64, rfl, fun _ => ⟨rfl, rfl⟩⟩
  · exact ⟨by decide, z, rfl, fun q => absurd q (by decide)⟩
  · exact ⟨by decide, z, rfl, fun q => absurd q (by decide)⟩
theorem stp_refusal (H : RR N σ σ) (hN : N ≤ 900000) (u1 : Int32) : STP N (w_refusal u1 z w σ) (fun m => f_X9_refusal 433 u1 m) w (fun b => b.toInt64) := by
  refine STP_mk (cl := f_X8_refusal 0 u1 σ) (z := z) H (fun m hm => s_refusal hm u1) (fun e c a σ1 h5 h1 => ?_)
  unfold w_refusal
  rw [h1]
  simp only [List.mem_cons, Prod.mk.injEq, List.not_mem_nil, or_false] at h5
  rcases h5 with ⟨rfl, rfl⟩ | ⟨rfl, rfl⟩
  · exact ⟨by decide, vp_updL z 0 a.toInt64, rfl, fun _ => ⟨rfl, rfl⟩⟩
  · exact ⟨by decide, z, rfl, fun q => absurd q (by decide)⟩
theorem stp_account (H : RR N σ σ) (hN : N ≤ 900000) (u1 : Int32) : STP N (w_account u1 z w σ) (fun m => f_X9_account 433 u1 m) w (fun b => b.toInt64) := by
  refine STP_mk (cl := f_X8_account 0 u1 σ) (z := z) H (fun m hm => s_account hm u1) (fun e c a σ1 h5 h1 => ?_)
  unfold w_account
  rw [h1]
  simp only [List.mem_cons, Prod.mk.injEq, List.not_mem_nil, or_false] at h5
  rcases h5 with ⟨rfl, rfl⟩ | ⟨rfl, rfl⟩
  · exact ⟨by decide, vp_updL z 0 a.toInt64, rfl, fun _ => ⟨rfl, rfl⟩⟩
  · exact ⟨by decide, z, rfl, fun q => absurd q (by decide)⟩
theorem stp_undo (H : RR N σ σ) (hN : N ≤ 900000) : STP N (w_undo  z w σ) (fun m => f_X9_undo 433  m) w (fun b => b.toInt64) := by
  refine STP_mk (cl := f_X8_undo 0  σ) (z := z) H (fun m hm => s_undo hm ) (fun e c a σ1 h5 h1 => ?_)
  unfold w_undo
  rw [h1]
  simp only [List.mem_cons, Prod.mk.injEq, List.not_mem_nil, or_false] at h5
  rcases h5 with ⟨rfl, rfl⟩ | ⟨rfl, rfl⟩
  · exact ⟨by decide, vp_updL z 0 a.toInt64, rfl, fun _ => ⟨rfl, rfl⟩⟩
  · exact ⟨by decide, z, rfl, fun q => absurd q (by decide)⟩
theorem stp_restore (H : RR N σ σ) (hN : N ≤ 900000) : STP N (w_restore  z w σ) (fun m => f_X9_restore 433  m) w (fun b => b.toInt64) := by
  refine STP_mk (cl := f_X8_restore 0  σ) (z := z) H (fun m hm => s_restore hm ) (fun e c a σ1 h5 h1 => ?_)
  unfold w_restore
  rw [h1]
  simp only [List.mem_cons, Prod.mk.injEq, List.not_mem_nil, or_false] at h5
  rcases h5 with ⟨rfl, rfl⟩ | ⟨rfl, rfl⟩
  · exact ⟨by decide, vp_updL z 0 a.toInt64, rfl, fun _ => ⟨rfl, rfl⟩⟩
  · exact ⟨by decide, z, rfl, fun q => absurd q (by decide)⟩
theorem stp_plain {cl : Option (Int32 × gMem)} {md : gMem → Option (Int32 × gMem)} (H : RR N σ σ) (h : ∀ m, RR N σ m → RES N σ m (g1 cl (fun a s => some (0, a, s))) (md m) [(0, 0)]) : ∃ (a : Int32) (σ1 σ2 : gMem), cl = some (a, σ1) ∧ md σ1 = some (a, σ2) ∧ RR (N + 1440) σ2 σ2 := by
  obtain ⟨e, a, σ1, b, σ2, c, h1, h2, h3, h4, h5, h6⟩ := RES_two H h
  obtain ⟨x, s, k1, k2⟩ := g1_o h1
  have q := Option.some.inj k2
  have q1 : 0 = e := congrArg (fun x => x.1) q
  have q2 : x = a := congrArg (fun x => x.2.1) q
  have q3 : s = σ1 := congrArg (fun x => x.2.2) q
  subst q2 q3
  exact ⟨x, s, σ2, k1, by rw [h2, h6 q1.symm], h3⟩
theorem stp_errorPosition (H : RR N σ σ) : ∃ (a : Int32) (σ1 σ2 : gMem), f_X8_errorPosition 0 σ = some (a, σ1) ∧ f_X9_errorPosition 433 σ1 = some (a, σ2) ∧ RR (N + 1440) σ2 σ2 := stp_plain (md := fun m => f_X9_errorPosition 433 m) H (fun m hm => s_errorPosition hm)
theorem stp_isWell (H : RR N σ σ) : ∃ (a : Int32) (σ1 σ2 : gMem), f_X8_isWell 0 σ = some (a, σ1) ∧ f_X9_isWell 433 σ1 = some (a, σ2) ∧ RR (N + 1440) σ2 σ2 := stp_plain (md := fun m => f_X9_isWell 433 m) H (fun m hm => s_isWell hm)
theorem stp_save (H : RR N σ σ) : ∃ (a : Int32) (σ1 σ2 : gMem), f_X8_save 0 σ = some (a, σ1) ∧ f_X9_save 433 σ1 = some (a, σ2) ∧ RR (N + 1440) σ2 σ2 := stp_plain (md := fun m => f_X9_save 433 m) H (fun m hm => s_save hm)
theorem nn_mean {a : UInt64} {s : gMem} (h : f_X8_meanDampness 0 σ = some (0, a, s)) : Jvm.Free.Fl.NoNaN64 a := by
  unfold f_X8_meanDampness at h
  split at h
  · have q : (6 : Nat) = 0 := congrArg (fun x => x.1) (Option.some.inj h)
    omega
  · obtain ⟨x, s1, h1, h2⟩ := g1_o h
    split at h2
    · rename_i hg
      have q : _ = a := congrArg (fun x => x.2.1) (Option.some.inj h2)
      rw [← q]; exact hg
    · cases h2
theorem stp_meanDampness (H : RR N σ σ) : ∃ (c : Nat) (w' : Nat → UInt64) (σ1 : gMem) (b : UInt64) (σ2 : gMem), w_meanDampness z w σ = some (nI c, z, w', σ1) ∧ f_X9_meanDampness 433 σ1 = some (b, σ2) ∧ σ2 433 12 = nI c ∧ RR (N + 1440) σ2 σ2 ∧ c < 5 ∧ (c = 0 → w' 0 = b ∧ Jvm.Free.Fl.NoNaN64 b) := by
  obtain ⟨e, a, σ1, b, σ2, c, h1, h2, h3, h4, h5, h6⟩ := RG_two (md := fun m => f_X9_meanDampness 433 m) H (fun m hm => s_meanDampness hm)
  unfold w_meanDampness
  rw [h1]
  simp only [List.mem_cons, Prod.mk.injEq, List.not_mem_nil, or_false] at h5
  rcases h5 with ⟨rfl, rfl⟩ | ⟨rfl, rfl⟩
  · refine ⟨0, vf_upd w 0 a, σ1, b, σ2, rfl, h2, h4, h3, by decide, fun _ => ⟨?_, ?_⟩⟩
    · rw [← h6 rfl]; rfl
    · rw [← h6 rfl]; exact nn_mean h1
  · exact ⟨1, w, σ1, b, σ2, rfl, h2, h4, h3, by decide, fun q => absurd q (by decide)⟩
theorem stp_broken (H : RR N σ σ) : ∃ (c : Nat) (w' : Nat → UInt64) (σ1 : gMem) (b : UInt32) (σ2 : gMem), w_broken z w σ = some (nI c, z, w', σ1) ∧ f_X9_broken 433 σ1 = some (b, σ2) ∧ σ2 433 12 = nI c ∧ RR (N + 1440) σ2 σ2 ∧ c < 5 ∧ (c = 0 → w' 0 = FP.f2d b ∧ Jvm.Free.Fl.NoNaN32 b) := by
  obtain ⟨e, a, σ1, b, σ2, c, h1, h2, h3, h4, h5, h6⟩ := RG_two (md := fun m => f_X9_broken 433 m) H (fun m hm => (s_broken hm).1)
  unfold w_broken
  rw [h1]
  simp only [List.mem_cons, Prod.mk.injEq, List.not_mem_nil, or_false] at h5
  rcases h5 with ⟨rfl, rfl⟩ | ⟨rfl, rfl⟩
  · have hn := (s_broken H).2 a σ1 h1
    have hd : FP.f2d a &&& 0x7fffffffffffffff ≤ 0x7ff0000000000000 := Jvm.Free.Fl.f2d_out hn
    refine ⟨0, vf_upd w 0 (FP.f2d a), σ1, b, σ2, ?_, h2, h4, h3, by decide, fun _ => ⟨?_, ?_⟩⟩
    · show (if FP.f2d a &&& 0x7fffffffffffffff ≤ 0x7ff0000000000000 then _ else none) = _
      rw [if_pos hd]; rfl
    · rw [← h6 rfl]; rfl
    · rw [← h6 rfl]; exact hn
  · exact ⟨1, w, σ1, b, σ2, rfl, h2, h4, h3, by decide, fun q => absurd q (by decide)⟩
end
