/-! THE PURE SIDE: the new objects -/
def zS0 : gZ := zN (gn 8) (0, 0, fun _ _ => false, fun _ _ => 0)
def zS1 : Option gZ := f_X8_init 0 zS0
def zS2 : Option gZ := g3 zS1 (fun z => f_X9_init 433 (zN (gn 9) z))
/-- a new row -/
def nwG (k : Nat) : Int32 := if k = 1 then nI 100 else if 2 ≤ k ∧ k < 26 then nI 45 else nI 0
def nwL (k : Nat) : Bool := k != 95 && k != 99 && !(decide (30 ≤ k) && decide (k < 48)) && !(decide (49 ≤ k) && decide (k < 61)) && !(decide (62 ≤ k) && decide (k < 92)) && decide (k < 100)
def nwM (m : gMem) : Bool := (List.range 220).all (fun k => m 434 k == nwG k) && (List.range 100).all (fun k => !nwL k || m (1 + (lo k).1) (lo k).2 == nwG k) && m 4 0 == nI 0 && m 4 1 == nI 0 && m 4 2 == nI 0 && m 0 3 == nI 0 && m 433 5 == nI 0 && m 433 3 == nI 0 && m 106 2 == nI 0 && m 106 1 == nI 0 && m 388 1 == nI 0 && m 433 7 == nI 0 && m 0 6 == m1 && m 433 8 == m1 && m 431 0 == nI 0 && m 433 9 == nI 0 && m 431 1 == nI 0 && m 433 10 == nI 0
def nwS (c : Nat) : Nat := if gk c < 10 then gn (gk c) else gl c
def nwR (w : gInit) : Bool := (List.range 440).all (fun c => (gk c == 20) || (gk c == 21) || (List.range (nwS c)).all (fun j => (gr (gk c) j).isNone || w c j))
theorem i_1 : zS1.map (fun z => (z.1, z.2.1)) = some (433, 9 + 3025) := by decide +kernel
theorem i_2 : zS2.map (fun z => (z.1, z.2.1)) = some (440, 9 + 3025 + 18 + 2780) := by decide +kernel
theorem i_3 : zS2.map (fun z => nwM z.2.2.2) = some true := by decide +kernel
theorem i_4 : zS2.map (fun z => nwR z.2.2.1) = some true := by decide +kernel
