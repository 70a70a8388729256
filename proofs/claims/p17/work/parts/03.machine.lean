/-! the machine over natural tables. A picture p: tables 0 state (0 queued, 1 active, 2 okay, 3 decerr, 4 never used), 1 channel (manager * 2 + 1 for a write), 2 id, 3 address, 4 length, 5 beats, 6 latency, 7 ready cycle, 8 done order, 9 done cycle, 10 values, 11 queue, 12 its heads, 13 its sizes, 14 write data, 15 its heads, 16 its sizes, 17 words, 18 script, 19 its places, 20 active of a manager, 21 active at a subordinate, 22 next id, 23 ready, 24 priority, 25: limit, cap, cycles, tickets, completions -/
def ic_pen (p : Nat → Nat → Nat) (c i s : Nat) : Bool := decide (p 1 s = c ∧ p 2 s = i ∧ p 0 s ≤ 1)
def ic_old (p : Nat → Nat → Nat) (c i : Nat) : Option Nat := ic_ff (p 25 3) (ic_pen p c i) 32 0
def ic_eli (p : Nat → Nat → Nat) (s : Nat) : Bool := decide (p 0 s = 1 ∧ (p 1 s % 2 = 0 ∨ p 5 s = p 4 s) ∧ p 7 s ≤ p 25 2)
def ic_chl (p : Nat → Nat → Nat) (c : Nat) : Nat → Nat → Option Nat
  | 0, _ => none
  | d + 1, j => match ic_old p c ((p 22 c + j) % 4) with
    | none => ic_chl p c d (j + 1)
    | some s => if ic_eli p s = true then some s else ic_chl p c d (j + 1)
def ic_cho (p : Nat → Nat → Nat) (c : Nat) : Option Nat := if p 23 c = 0 then none else ic_chl p c 4 0
def ic_fin (p : Nat → Nat → Nat) (s : Nat) : Nat → Nat → Nat :=
  ic_pu (ic_pu (ic_pu (ic_pu (ic_pu (ic_pu p 0 s (if p 3 s / 8 = 3 then 3 else 2)) 8 s (p 25 4)) 9 s (p 25 2)) 25 4 (p 25 4 + 1)) 20 (p 1 s / 2) (p 20 (p 1 s / 2) - 1)) 21 (p 3 s / 8) (p 21 (p 3 s / 8) - 1)
def ic_sto (p : Nat → Nat → Nat) (s : Nat) : Nat → Nat → Nat := ic_pf p 17 (ic_stw (p 17) (p 10) (p 3 s) (s * 4) (p 4 s))
/-- a write's answer -/
def ic_wr1 (p : Nat → Nat → Nat) (c s : Nat) : Nat → Nat → Nat :=
  ic_pu (ic_fin (if p 3 s / 8 = 3 then p else ic_sto p s) s) 22 c ((p 2 s + 1) % 4)
def ic_wr (p : Nat → Nat → Nat) (c : Nat) : Nat → Nat → Nat := match ic_cho p c with
  | none => p
  | some s => ic_wr1 p c s
/-- a read's beat -/
def ic_bt (p : Nat → Nat → Nat) (s : Nat) : Nat → Nat → Nat :=
  ic_pu (ic_pu p 10 (s * 4 + p 5 s) (if p 3 s / 8 = 3 then 0 else p 17 (p 3 s + p 5 s))) 5 s (p 5 s + 1)
def ic_rd1 (p : Nat → Nat → Nat) (c s : Nat) : Nat → Nat → Nat :=
  ic_pu (if p 5 s + 1 = p 4 s then ic_fin (ic_bt p s) s else ic_bt p s) 22 c ((p 2 s + 1) % 4)
def ic_rd (p : Nat → Nat → Nat) (c : Nat) : Nat → Nat → Nat := match ic_cho p c with
  | none => p
  | some s => ic_rd1 p c s
/-- a value of a write -/
def ic_unp (p : Nat → Nat → Nat) (m s : Nat) : Bool := decide (p 1 s = m * 2 + 1 ∧ p 5 s < p 4 s)
def ic_unf (p : Nat → Nat → Nat) (m : Nat) : Option Nat := ic_ff (p 25 3) (ic_unp p m) 32 0
def ic_mv0 (p : Nat → Nat → Nat) (m s : Nat) : Nat → Nat → Nat :=
  ic_pu (ic_pu (ic_pu (ic_pu p 10 (s * 4 + p 5 s) (p 14 (m * 8 + p 15 m))) 15 m ((p 15 m + 1) % 8)) 16 m (p 16 m - 1)) 5 s (p 5 s + 1)
def ic_mv1 (p : Nat → Nat → Nat) (m s : Nat) : Nat → Nat → Nat :=
  if p 5 s + 1 = p 4 s then ic_pu (ic_mv0 p m s) 7 s (p 25 2 + p 6 s) else ic_mv0 p m s
def ic_mv (p : Nat → Nat → Nat) (m : Nat) : Nat → Nat → Nat := match ic_unf p m with
  | none => p
  | some s => if p 0 s = 1 ∧ p 16 m ≠ 0 then ic_mv1 p m s else p
/-- arbitration; k: 0 reads, 1 writes -/
def ic_hd (p : Nat → Nat → Nat) (c : Nat) : Nat := p 11 (c * 4 + p 12 c)
def ic_elp (p : Nat → Nat → Nat) (h i : Nat) : Bool := decide (p 0 i = 1 ∧ p 1 i = p 1 h ∧ p 2 i = p 2 h ∧ p 3 i / 8 ≠ p 3 h / 8)
def ic_els (p : Nat → Nat → Nat) (h : Nat) : Option Nat := ic_ff 0 (ic_elp p h) 32 0
def ic_can (p : Nat → Nat → Nat) (m s k : Nat) : Bool :=
  decide (p 13 (m * 2 + k) ≠ 0 ∧ p 3 (ic_hd p (m * 2 + k)) / 8 = s ∧ p 20 m < p 25 0 ∧ p 21 s < p 25 1 ∧ ic_els p (ic_hd p (m * 2 + k)) = none)
def ic_win (p : Nat → Nat → Nat) (s k : Nat) : Nat := if ic_can p (p 24 (s * 2 + k)) s k = true then p 24 (s * 2 + k) else 1 - p 24 (s * 2 + k)
def ic_dh (p : Nat → Nat → Nat) (c : Nat) : Nat → Nat → Nat := ic_pu (ic_pu p 12 c ((p 12 c + 1) % 4)) 13 c (p 13 c - 1)
def ic_lat (p : Nat → Nat → Nat) (s : Nat) : Nat := if s = 3 then 1 else p 18 (s * 4 + p 19 s)
def ic_tl (p : Nat → Nat → Nat) (s : Nat) : Nat → Nat → Nat := if s = 3 then p else ic_pu p 19 s ((p 19 s + 1) % 4)
def ic_acc (p : Nat → Nat → Nat) (h s : Nat) : Nat → Nat → Nat :=
  ic_pu (ic_pu (ic_tl (ic_pu (ic_pu (ic_pu p 0 h 1) 20 (p 1 h / 2) (p 20 (p 1 h / 2) + 1)) 21 s (p 21 s + 1)) s) 6 h (ic_lat p s)) 7 h (p 25 2 + ic_lat p s)
def ic_ar1 (p : Nat → Nat → Nat) (s k w : Nat) : Nat → Nat → Nat := ic_pu (ic_acc (ic_dh p (w * 2 + k)) (ic_hd p (w * 2 + k)) s) 24 (s * 2 + k) (1 - w)
def ic_ar (p : Nat → Nat → Nat) (s k : Nat) : Nat → Nat → Nat := if ic_can p (ic_win p s k) s k = true then ic_ar1 p s k (ic_win p s k) else p
/-- one cycle, n cycles -/
def ic_cy1 (p : Nat → Nat → Nat) : Nat → Nat → Nat := ic_mv (ic_mv (ic_rd (ic_rd (ic_wr (ic_wr p 1) 3) 0) 2) 0) 1
def ic_cy2 (p : Nat → Nat → Nat) : Nat → Nat → Nat := ic_ar (ic_ar (ic_ar (ic_ar (ic_ar (ic_ar (ic_ar (ic_ar p 0 1) 0 0) 1 1) 1 0) 2 1) 2 0) 3 1) 3 0
def ic_cyc (p : Nat → Nat → Nat) : Nat → Nat → Nat := ic_cy2 (ic_cy1 (ic_pu p 25 2 (p 25 2 + 1)))
def ic_run : Nat → (Nat → Nat → Nat) → Nat → Nat → Nat
  | 0, p => p
  | n + 1, p => ic_run n (ic_cyc p)
/-- a request that is taken -/
def ic_iss (p : Nat → Nat → Nat) (c i a l : Nat) : Nat → Nat → Nat :=
  ic_pu (ic_pu (ic_pu (ic_pu (ic_pu (ic_pu (ic_pu (ic_pu (ic_pu p 0 (p 25 3 % 32) 0) 1 (p 25 3 % 32) c) 2 (p 25 3 % 32) i) 3 (p 25 3 % 32) a) 4 (p 25 3 % 32) l) 5 (p 25 3 % 32) 0)
    11 (c * 4 + (p 12 c + p 13 c) % 4) (p 25 3 % 32)) 13 c (p 13 c + 1)) 25 3 (p 25 3 + 1)
def ic_wd (p : Nat → Nat → Nat) (m x : Nat) : Nat → Nat → Nat := ic_pu (ic_pu p 14 (m * 8 + (p 15 m + p 16 m) % 8) x) 16 m (p 16 m + 1)
