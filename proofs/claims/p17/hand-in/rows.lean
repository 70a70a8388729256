section
/-! rows of kit/laws/BITS, as they stand there -/
theorem nx_and (a b : Nat) : nI a &&& nI b = nI (a &&& b) := by
  apply Int32.toBitVec_inj.1
  show BitVec.ofNat 32 a &&& BitVec.ofNat 32 b = BitVec.ofNat 32 (a &&& b)
  apply BitVec.eq_of_getLsbD_eq
  intro i hi
  simp [hi]
theorem wb_tb (n : Nat) : (lN n).toBitVec = BitVec.ofNat 64 n := rfl
theorem wb_inj {a b : Int64} (h : a.toBitVec = b.toBitVec) : a = b := Int64.toBitVec_inj.mp h
theorem wb_tn {n : Nat} (h : n < 2 ^ 64) : (lN n).toBitVec.toNat = n := by rw [wb_tb, BitVec.toNat_ofNat, Nat.mod_eq_of_lt h]
theorem wb_of (x : Int64) : ∃ n, n < 2 ^ 64 ∧ x = lN n := ⟨x.toBitVec.toNat, x.toBitVec.isLt, wb_inj (by rw [wb_tb]; simp)⟩
theorem wb_of32 (x : Int32) : ∃ n, n < 2 ^ 32 ∧ x = nI n := ⟨x.toBitVec.toNat, x.toBitVec.isLt, Int32.toBitVec_inj.mp (by show _ = BitVec.ofNat 32 _; simp)⟩
theorem wb_lt2 {a b : Nat} (h : a < b) : 2 ^ a < 2 ^ b := Nat.pow_lt_pow_right (by decide) h
theorem wb_and {a b : Nat} (ha : a < 2 ^ 64) (hb : b < 2 ^ 64) : lN a &&& lN b = lN (a &&& b) := by
  apply wb_inj
  rw [Int64.toBitVec_and, wb_tb, wb_tb, wb_tb]
  apply BitVec.eq_of_toNat_eq
  rw [BitVec.toNat_and, BitVec.toNat_ofNat, BitVec.toNat_ofNat, BitVec.toNat_ofNat, Nat.mod_eq_of_lt ha, Nat.mod_eq_of_lt hb, Nat.mod_eq_of_lt (Nat.and_lt_two_pow _ hb)]
theorem wb_mask {n k : Nat} (hn : n < 2 ^ 64) (hk : k < 64) : lN n &&& lN (2 ^ k - 1) = lN (n % 2 ^ k) := by
  rw [wb_and hn (by have := wb_lt2 hk; omega), Nat.and_two_pow_sub_one_eq_mod]
end
section
/-! scans, counts, tables (pure: no printed name) -/
/-- the first slot, from place i on and d places far, that p names; place i of a scan is slot (T + i) % 32 -/
def ic_ff (T : Nat) (p : Nat → Bool) : Nat → Nat → Option Nat
  | 0, _ => none
  | d + 1, i => if p ((T + i) % 32) = true then some ((T + i) % 32) else ic_ff T p d (i + 1)
theorem ic_ff_t {T : Nat} {p : Nat → Bool} {d i : Nat} (h : p ((T + i) % 32) = true) : ic_ff T p (d + 1) i = some ((T + i) % 32) := if_pos h
theorem ic_ff_f {T : Nat} {p : Nat → Bool} {d i : Nat} (h : ¬ p ((T + i) % 32) = true) : ic_ff T p (d + 1) i = ic_ff T p d (i + 1) := if_neg h
theorem ic_ff_no {T : Nat} {p : Nat → Bool} : ∀ d i : Nat, (∀ j, i ≤ j → j < i + d → ¬ p ((T + j) % 32) = true) → ic_ff T p d i = none := by
  intro d
  induction d with
  | zero => intro i _; rfl
  | succ d ih =>
    intro i h
    rw [ic_ff_f (h i (Nat.le_refl i) (by omega))]
    exact ih (i + 1) (fun j h1 h2 => h j (by omega) (by omega))
theorem ic_ff_is {T : Nat} {p : Nat → Bool} : ∀ d i j : Nat, i ≤ j → j < i + d → p ((T + j) % 32) = true → (∀ a, i ≤ a → a < j → ¬ p ((T + a) % 32) = true) → ic_ff T p d i = some ((T + j) % 32) := by
  intro d
  induction d with
  | zero => intro i j h1 h2 _ _; omega
  | succ d ih =>
    intro i j h1 h2 hp ha
    by_cases e : i = j
    · subst e; exact ic_ff_t hp
    · rw [ic_ff_f (ha i (Nat.le_refl i) (by omega))]
      exact ih (i + 1) j (by omega) (by omega) hp (fun a h3 h4 => ha a (by omega) h4)
theorem ic_ff_some {T : Nat} {p : Nat → Bool} : ∀ d i s : Nat, ic_ff T p d i = some s → ∃ j, i ≤ j ∧ j < i + d ∧ s = (T + j) % 32 ∧ p s = true ∧ (∀ a, i ≤ a → a < j → ¬ p ((T + a) % 32) = true) := by
  intro d
  induction d with
  | zero => intro i s h; exact absurd h (by intro z; cases z)
  | succ d ih =>
    intro i s h
    by_cases hp : p ((T + i) % 32) = true
    · rw [ic_ff_t hp] at h
      cases h
      exact ⟨i, Nat.le_refl i, by omega, rfl, hp, fun a h1 h2 => by omega⟩
    · rw [ic_ff_f hp] at h
      obtain ⟨j, h1, h2, h3, h4, h5⟩ := ih (i + 1) s h
      refine ⟨j, by omega, by omega, h3, h4, fun a h6 h7 => ?_⟩
      by_cases e : a = i
      · subst e; exact hp
      · exact h5 a (by omega) h7
theorem ic_ff_ps {T : Nat} {p : Nat → Bool} {d i s : Nat} (h : ic_ff T p d i = some s) : s < 32 ∧ p s = true := by
  obtain ⟨j, _, _, e, hp, _⟩ := ic_ff_some d i s h
  exact ⟨by omega, hp⟩
/-- every slot stands in one place of a scan -/
theorem ic_at (T : Nat) {s : Nat} (h : s < 32) : ∃ j, j < 32 ∧ (T + j) % 32 = s := ⟨(s + 32 - T % 32) % 32, by omega, by omega⟩
theorem ic_ff_none {T : Nat} {p : Nat → Bool} : ic_ff T p 32 0 = none ↔ ∀ s, s < 32 → ¬ p s = true := by
  constructor
  · intro h s hs hp
    obtain ⟨j, hj, e⟩ := ic_at T hs
    have key : ∀ n, ∀ j, j < n → p ((T + j) % 32) = true → ∃ i, i ≤ j ∧ p ((T + i) % 32) = true ∧ ∀ a, a < i → ¬ p ((T + a) % 32) = true := by
      intro n
      induction n with
      | zero => intro j hj; omega
      | succ n ih =>
        intro j hj hp
        by_cases q : ∃ a, a < j ∧ p ((T + a) % 32) = true
        · obtain ⟨a, ha, hpa⟩ := q
          obtain ⟨i, hi, h1, h2⟩ := ih a (by omega) hpa
          exact ⟨i, by omega, h1, h2⟩
        · exact ⟨j, Nat.le_refl j, hp, fun a ha hpa => q ⟨a, ha, hpa⟩⟩
    obtain ⟨i, hi, h1, h2⟩ := key (j + 1) j (by omega) (by rw [e]; exact hp)
    rw [ic_ff_is 32 0 i (by omega) (by omega) h1 (fun a _ ha => h2 a ha)] at h
    cases h
  · intro h
    exact ic_ff_no 32 0 (fun j _ _ => h _ (by omega))
theorem ic_ff_eq {T : Nat} {p q : Nat → Bool} (h : ∀ s, s < 32 → q s = p s) : ∀ d i, ic_ff T q d i = ic_ff T p d i := by
  intro d
  induction d with
  | zero => intro i; rfl
  | succ d ih =>
    intro i
    show (if q ((T + i) % 32) = true then some ((T + i) % 32) else ic_ff T q d (i + 1)) = (if p ((T + i) % 32) = true then some ((T + i) % 32) else ic_ff T p d (i + 1))
    rw [h _ (by omega), ih]
/-- how many slots below n p names -/
def ic_cn (p : Nat → Bool) : Nat → Nat
  | 0 => 0
  | n + 1 => ic_cn p n + (if p n = true then 1 else 0)
theorem ic_cn_t {p : Nat → Bool} {n : Nat} (h : p n = true) : ic_cn p (n + 1) = ic_cn p n + 1 := by
  show ic_cn p n + (if p n = true then 1 else 0) = _
  rw [if_pos h]
theorem ic_cn_f {p : Nat → Bool} {n : Nat} (h : ¬ p n = true) : ic_cn p (n + 1) = ic_cn p n := by
  show ic_cn p n + (if p n = true then 1 else 0) = _
  rw [if_neg h]; rfl
theorem ic_cn_le (p : Nat → Bool) : ∀ n, ic_cn p n ≤ n := by
  intro n
  induction n with
  | zero => exact Nat.le_refl 0
  | succ n ih =>
    show ic_cn p n + (if p n = true then 1 else 0) ≤ n + 1
    split <;> omega
theorem ic_cn_eq {p q : Nat → Bool} : ∀ n, (∀ j, j < n → q j = p j) → ic_cn q n = ic_cn p n := by
  intro n
  induction n with
  | zero => intro _; rfl
  | succ n ih =>
    intro h
    show ic_cn q n + (if q n = true then 1 else 0) = ic_cn p n + (if p n = true then 1 else 0)
    rw [ih (fun j hj => h j (by omega)), h n (by omega)]
/-- one slot more -/
theorem ic_cn_up {p q : Nat → Bool} {s : Nat} (hp : p s = false) (hq : q s = true) : ∀ n, s < n → (∀ j, j < n → j ≠ s → q j = p j) → ic_cn q n = ic_cn p n + 1 := by
  intro n
  induction n with
  | zero => intro h _; omega
  | succ n ih =>
    intro h ho
    show ic_cn q n + (if q n = true then 1 else 0) = ic_cn p n + (if p n = true then 1 else 0) + 1
    by_cases e : s = n
    · subst e
      rw [ic_cn_eq s (fun j hj => ho j (by omega) (by omega)), hp, hq]
      rfl
    · rw [ih (by omega) (fun j hj hn => ho j (by omega) hn), ho n (by omega) (fun z => e z.symm)]
      omega
theorem ic_cn_pos {p : Nat → Bool} {s n : Nat} (hs : s < n) (hp : p s = true) : 0 < ic_cn p n := by
  have h := ic_cn_up (p := fun j => if j = s then false else p j) (q := p) (s := s) (if_pos rfl) hp n hs (fun j _ hn => (if_neg hn).symm)
  omega
theorem ic_cn_sh (g : Nat → Bool) : ∀ n, ic_cn (fun i => g (i + 1)) n + (if g 0 = true then 1 else 0) = ic_cn g n + (if g n = true then 1 else 0) := by
  intro n
  induction n with
  | zero => rfl
  | succ n ih =>
    show ic_cn (fun i => g (i + 1)) n + (if g (n + 1) = true then 1 else 0) + (if g 0 = true then 1 else 0) = ic_cn g n + (if g n = true then 1 else 0) + (if g (n + 1) = true then 1 else 0)
    omega
/-- a scan that begins anywhere counts the same -/
theorem ic_cn_rot (p : Nat → Bool) : ∀ T, ic_cn (fun i => p ((T + i) % 32)) 32 = ic_cn p 32 := by
  intro T
  induction T with
  | zero =>
    refine ic_cn_eq 32 (fun j hj => ?_)
    show p ((0 + j) % 32) = p j
    rw [Nat.zero_add, Nat.mod_eq_of_lt hj]
  | succ T ih =>
    rw [← ih]
    have h := ic_cn_sh (fun i => p ((T + i) % 32)) 32
    have e : (T + 32) % 32 = (T + 0) % 32 := by omega
    have h2 : ic_cn (fun i => p ((T + (i + 1)) % 32)) 32 + (if p ((T + 0) % 32) = true then 1 else 0) = ic_cn (fun i => p ((T + i) % 32)) 32 + (if p ((T + 32) % 32) = true then 1 else 0) := h
    rw [e] at h2
    have h3 : ic_cn (fun i => p ((T + 1 + i) % 32)) 32 = ic_cn (fun i => p ((T + (i + 1)) % 32)) 32 :=
      ic_cn_eq 32 (fun j _ => by show p ((T + 1 + j) % 32) = p ((T + (j + 1)) % 32); rw [Nat.add_right_comm, Nat.add_assoc])
    omega
/-- a change at one place of a natural table, of one table of a picture -/
def ic_u (f : Nat → Nat) (s x : Nat) : Nat → Nat := fun j => if j = s then x else f j
theorem ic_us {f : Nat → Nat} {s x : Nat} : ic_u f s x s = x := if_pos rfl
theorem ic_un {f : Nat → Nat} {s x j : Nat} (h : j ≠ s) : ic_u f s x j = f j := if_neg h
def ic_pf (p : Nat → Nat → Nat) (f : Nat) (g : Nat → Nat) : Nat → Nat → Nat := fun h => if h = f then g else p h
def ic_pu (p : Nat → Nat → Nat) (f s x : Nat) : Nat → Nat → Nat := ic_pf p f (ic_u (p f) s x)
/-- one value more in the memory: n values of V from b on, to a and on -/
def ic_stw (W V : Nat → Nat) (a b : Nat) : Nat → Nat → Nat
  | 0 => W
  | n + 1 => ic_u (ic_stw W V a b n) (a + n) (V (b + n))
end
section
/-! the machine over natural tables. A picture p: tables 0 state (0 queued, 1 active, 2 okay, 3 decerr, 4 never used), 1 channel (manager * 2 + 1 for a write), 2 id, 3 address, 4 length, 5 beats, 6 latency, 7 ready cycle, 8 done order, 9 done cycle, 10 values, 11 queue, 12 its heads, 13 its sizes, 14 write data, 15 its heads, 16 its sizes, 17 words, 18 script, 19 its places, 20 active of a manager, 21 active at a subordinate, 22 next id, 23 ready, 24 priority, 25: limit, cap, cycles, tickets, completions -/
def ic_pen (p : Nat → Nat → Nat) (c i s : Nat) : Bool := decide (p 1 s = c ∧ p 2 s = i ∧ p 0 s ≤ 1)
def ic_old (p : Nat → Nat → Nat) (c i : Nat) : Option Nat := ic_ff (p 25 3) (ic_pen p c i) 32 0
def ic_eli (p : Nat → Nat → Nat) (s : Nat) : Bool := decide (p 0 s = 1 ∧ (p 1 s % 2 = 0 ∨ p 5 s = p 4 s) ∧ p 7 s ≤ p 25 2)
def ic_chl (p : Nat → Nat → Nat) (c : Nat) : Nat → Nat → Option Nat
  | 0, _ => none
  | d + 1, j => match ic_old p c ((p 22 c + j) % 4) with
    | none => ic_chl p c d (j + 1)
    | some s => if ic_eli p s = true then some s else ic_chl p c d (j + 1)
def ic_cho (p : Nat → Nat → Nat) (c : Nat) : Option Nat := if p 23 c = 0 then none else ic_chl p c 4 0
def ic_fin (p : Nat → Nat → Nat) (s : Nat) : Nat → Nat → Nat :=
  ic_pu (ic_pu (ic_pu (ic_pu (ic_pu (ic_pu p 0 s (if p 3 s / 8 = 3 then 3 else 2)) 8 s (p 25 4)) 9 s (p 25 2)) 25 4 (p 25 4 + 1)) 20 (p 1 s / 2) (p 20 (p 1 s / 2) - 1)) 21 (p 3 s / 8) (p 21 (p 3 s / 8) - 1)
def ic_sto (p : Nat → Nat → Nat) (s : Nat) : Nat → Nat → Nat := ic_pf p 17 (ic_stw (p 17) (p 10) (p 3 s) (s * 4) (p 4 s))
/-- a write's answer -/
def ic_wr1 (p : Nat → Nat → Nat) (c s : Nat) : Nat → Nat → Nat :=
  ic_pu (ic_fin (if p 3 s / 8 = 3 then p else ic_sto p s) s) 22 c ((p 2 s + 1) % 4)
def ic_wr (p : Nat → Nat → Nat) (c : Nat) : Nat → Nat → Nat := match ic_cho p c with
  | none => p
  | some s => ic_wr1 p c s
/-- a read's beat -/
def ic_bt (p : Nat → Nat → Nat) (s : Nat) : Nat → Nat → Nat :=
  ic_pu (ic_pu p 10 (s * 4 + p 5 s) (if p 3 s / 8 = 3 then 0 else p 17 (p 3 s + p 5 s))) 5 s (p 5 s + 1)
def ic_rd1 (p : Nat → Nat → Nat) (c s : Nat) : Nat → Nat → Nat :=
  ic_pu (if p 5 s + 1 = p 4 s then ic_fin (ic_bt p s) s else ic_bt p s) 22 c ((p 2 s + 1) % 4)
def ic_rd (p : Nat → Nat → Nat) (c : Nat) : Nat → Nat → Nat := match ic_cho p c with
  | none => p
  | some s => ic_rd1 p c s
/-- a value of a write -/
def ic_unp (p : Nat → Nat → Nat) (m s : Nat) : Bool := decide (p 1 s = m * 2 + 1 ∧ p 5 s < p 4 s)
def ic_unf (p : Nat → Nat → Nat) (m : Nat) : Option Nat := ic_ff (p 25 3) (ic_unp p m) 32 0
def ic_mv0 (p : Nat → Nat → Nat) (m s : Nat) : Nat → Nat → Nat :=
  ic_pu (ic_pu (ic_pu (ic_pu p 10 (s * 4 + p 5 s) (p 14 (m * 8 + p 15 m))) 15 m ((p 15 m + 1) % 8)) 16 m (p 16 m - 1)) 5 s (p 5 s + 1)
def ic_mv1 (p : Nat → Nat → Nat) (m s : Nat) : Nat → Nat → Nat :=
  if p 5 s + 1 = p 4 s then ic_pu (ic_mv0 p m s) 7 s (p 25 2 + p 6 s) else ic_mv0 p m s
def ic_mv (p : Nat → Nat → Nat) (m : Nat) : Nat → Nat → Nat := match ic_unf p m with
  | none => p
  | some s => if p 0 s = 1 ∧ p 16 m ≠ 0 then ic_mv1 p m s else p
/-- arbitration; k: 0 reads, 1 writes -/
def ic_hd (p : Nat → Nat → Nat) (c : Nat) : Nat := p 11 (c * 4 + p 12 c)
def ic_elp (p : Nat → Nat → Nat) (h i : Nat) : Bool := decide (p 0 i = 1 ∧ p 1 i = p 1 h ∧ p 2 i = p 2 h ∧ p 3 i / 8 ≠ p 3 h / 8)
def ic_els (p : Nat → Nat → Nat) (h : Nat) : Option Nat := ic_ff 0 (ic_elp p h) 32 0
def ic_can (p : Nat → Nat → Nat) (m s k : Nat) : Bool :=
  decide (p 13 (m * 2 + k) ≠ 0 ∧ p 3 (ic_hd p (m * 2 + k)) / 8 = s ∧ p 20 m < p 25 0 ∧ p 21 s < p 25 1 ∧ ic_els p (ic_hd p (m * 2 + k)) = none)
def ic_win (p : Nat → Nat → Nat) (s k : Nat) : Nat := if ic_can p (p 24 (s * 2 + k)) s k = true then p 24 (s * 2 + k) else 1 - p 24 (s * 2 + k)
def ic_dh (p : Nat → Nat → Nat) (c : Nat) : Nat → Nat → Nat := ic_pu (ic_pu p 12 c ((p 12 c + 1) % 4)) 13 c (p 13 c - 1)
def ic_lat (p : Nat → Nat → Nat) (s : Nat) : Nat := if s = 3 then 1 else p 18 (s * 4 + p 19 s)
def ic_tl (p : Nat → Nat → Nat) (s : Nat) : Nat → Nat → Nat := if s = 3 then p else ic_pu p 19 s ((p 19 s + 1) % 4)
def ic_acc (p : Nat → Nat → Nat) (h s : Nat) : Nat → Nat → Nat :=
  ic_pu (ic_pu (ic_tl (ic_pu (ic_pu (ic_pu p 0 h 1) 20 (p 1 h / 2) (p 20 (p 1 h / 2) + 1)) 21 s (p 21 s + 1)) s) 6 h (ic_lat p s)) 7 h (p 25 2 + ic_lat p s)
def ic_ar1 (p : Nat → Nat → Nat) (s k w : Nat) : Nat → Nat → Nat := ic_pu (ic_acc (ic_dh p (w * 2 + k)) (ic_hd p (w * 2 + k)) s) 24 (s * 2 + k) (1 - w)
def ic_ar (p : Nat → Nat → Nat) (s k : Nat) : Nat → Nat → Nat := if ic_can p (ic_win p s k) s k = true then ic_ar1 p s k (ic_win p s k) else p
/-- one cycle, n cycles -/
def ic_cy1 (p : Nat → Nat → Nat) : Nat → Nat → Nat := ic_mv (ic_mv (ic_rd (ic_rd (ic_wr (ic_wr p 1) 3) 0) 2) 0) 1
def ic_cy2 (p : Nat → Nat → Nat) : Nat → Nat → Nat := ic_ar (ic_ar (ic_ar (ic_ar (ic_ar (ic_ar (ic_ar (ic_ar p 0 1) 0 0) 1 1) 1 0) 2 1) 2 0) 3 1) 3 0
def ic_cyc (p : Nat → Nat → Nat) : Nat → Nat → Nat := ic_cy2 (ic_cy1 (ic_pu p 25 2 (p 25 2 + 1)))
def ic_run : Nat → (Nat → Nat → Nat) → Nat → Nat → Nat
  | 0, p => p
  | n + 1, p => ic_run n (ic_cyc p)
/-- a request that is taken -/
def ic_iss (p : Nat → Nat → Nat) (c i a l : Nat) : Nat → Nat → Nat :=
  ic_pu (ic_pu (ic_pu (ic_pu (ic_pu (ic_pu (ic_pu (ic_pu (ic_pu p 0 (p 25 3 % 32) 0) 1 (p 25 3 % 32) c) 2 (p 25 3 % 32) i) 3 (p 25 3 % 32) a) 4 (p 25 3 % 32) l) 5 (p 25 3 % 32) 0)
    11 (c * 4 + (p 12 c + p 13 c) % 4) (p 25 3 % 32)) 13 c (p 13 c + 1)) 25 3 (p 25 3 + 1)
def ic_wd (p : Nat → Nat → Nat) (m x : Nat) : Nat → Nat → Nat := ic_pu (ic_pu p 14 (m * 8 + (p 15 m + p 16 m) % 8) x) 16 m (p 16 m + 1)
end
section
/-! what every picture of a run keeps -/
def ic_L (T C s : Nat) (S H I A N B G R : Nat) : Prop :=
  (H < 4 ∧ I < 4 ∧ A < 32 ∧ A % 8 + N ≤ 8 ∧ N ≤ 4) ∧ (S ≤ 4 ∧ B ≤ N ∧ (S ≤ 1 → H % 2 = 0 → B < N) ∧ (S = 0 → B < N)) ∧ (T ≤ s → S = 4 ∧ N = 0) ∧ (s < T → S ≤ 3) ∧ (S = 1 → G ≤ 15 ∧ R ≤ C + 15)
def ic_J1 (p : Nat → Nat → Nat) : Prop := ∀ s, s < 32 → ic_L (p 25 3) (p 25 2) s (p 0 s) (p 1 s) (p 2 s) (p 3 s) (p 4 s) (p 5 s) (p 6 s) (p 7 s)
def ic_am (S H : Nat → Nat) (m : Nat) : Nat := ic_cn (fun s => decide (S s = 1 ∧ H s / 2 = m)) 32
def ic_as (S A : Nat → Nat) (q : Nat) : Nat := ic_cn (fun s => decide (S s = 1 ∧ A s / 8 = q)) 32
def ic_qn (S H : Nat → Nat) (c : Nat) : Nat := ic_cn (fun s => decide (S s = 0 ∧ H s = c)) 32
def ic_J2 (p : Nat → Nat → Nat) : Prop := (∀ m, m < 2 → p 20 m = ic_am (p 0) (p 1) m) ∧ (∀ q, q < 4 → p 21 q = ic_as (p 0) (p 3) q)
/-- the ring of one channel: its tickets in order -/
def ic_Q1 (T : Nat) (S H Q : Nat → Nat) (c h n : Nat) (K : Nat → Nat) : Prop :=
  h < 4 ∧ n ≤ 4 ∧ n = ic_qn S H c ∧
    (∀ i, i < n → Q (c * 4 + (h + i) % 4) = K i % 32 ∧ K i < T ∧ T ≤ K i + 32 ∧ S (K i % 32) = 0 ∧ H (K i % 32) = c) ∧
    (∀ i j, i < j → j < n → K i < K j) ∧
    (∀ t, t < T → T ≤ t + 32 → S (t % 32) = 0 → H (t % 32) = c → ∃ i, i < n ∧ K i = t)
def ic_J3 (p : Nat → Nat → Nat) : Prop := ∀ c, c < 4 → ∃ K : Nat → Nat, ic_Q1 (p 25 3) (p 0) (p 1) (p 11) c (p 12 c) (p 13 c) K
def ic_J4 (p : Nat → Nat → Nat) : Prop :=
  (∀ m, m < 2 → p 15 m < 8 ∧ p 16 m ≤ 8) ∧ (∀ j, j < 12 → p 18 j ≤ 15) ∧ (∀ s, s < 4 → p 19 s < 4) ∧ (∀ c, c < 4 → p 22 c < 4 ∧ p 23 c ≤ 1) ∧ (∀ j, j < 8 → p 24 j ≤ 1) ∧ p 25 0 ≤ 8 ∧ p 25 1 ≤ 4
def ic_Inv (p : Nat → Nat → Nat) : Prop := ic_J1 p ∧ ic_J2 p ∧ ic_J3 p ∧ ic_J4 p
/-- counters, one up, one down -/
theorem ic_am_up {S H : Nat → Nat} {s : Nat} (hs : s < 32) (h : S s ≠ 1) (m : Nat) : ic_am (ic_u S s 1) H m = if m = H s / 2 then ic_am S H m + 1 else ic_am S H m := by
  unfold ic_am
  by_cases e : m = H s / 2
  · rw [if_pos e]
    refine ic_cn_up (s := s) (decide_eq_false (fun z => h z.1)) (decide_eq_true ⟨ic_us, e.symm⟩) 32 hs (fun j _ hj => ?_)
    rw [ic_un hj]
  · rw [if_neg e]
    refine ic_cn_eq 32 (fun j _ => ?_)
    by_cases ej : j = s
    · subst ej
      rw [decide_eq_false (fun z => e z.2.symm), decide_eq_false (fun z => e z.2.symm)]
    · rw [ic_un ej]
theorem ic_am_dn {S H : Nat → Nat} {s x : Nat} (hs : s < 32) (h : S s = 1) (hx : x ≠ 1) (m : Nat) : ic_am S H m = if m = H s / 2 then ic_am (ic_u S s x) H m + 1 else ic_am (ic_u S s x) H m := by
  unfold ic_am
  by_cases e : m = H s / 2
  · rw [if_pos e]
    refine ic_cn_up (s := s) (decide_eq_false (fun z => by have := z.1; rw [ic_us] at this; exact hx this)) (decide_eq_true ⟨h, e.symm⟩) 32 hs (fun j _ hj => ?_)
    rw [ic_un hj]
  · rw [if_neg e]
    refine ic_cn_eq 32 (fun j _ => ?_)
    by_cases ej : j = s
    · subst ej
      rw [decide_eq_false (fun z => e z.2.symm), decide_eq_false (fun z => e z.2.symm)]
    · rw [ic_un ej]
theorem ic_as_up {S A : Nat → Nat} {s : Nat} (hs : s < 32) (h : S s ≠ 1) (m : Nat) : ic_as (ic_u S s 1) A m = if m = A s / 8 then ic_as S A m + 1 else ic_as S A m := by
  unfold ic_as
  by_cases e : m = A s / 8
  · rw [if_pos e]
    refine ic_cn_up (s := s) (decide_eq_false (fun z => h z.1)) (decide_eq_true ⟨ic_us, e.symm⟩) 32 hs (fun j _ hj => ?_)
    rw [ic_un hj]
  · rw [if_neg e]
    refine ic_cn_eq 32 (fun j _ => ?_)
    by_cases ej : j = s
    · subst ej
      rw [decide_eq_false (fun z => e z.2.symm), decide_eq_false (fun z => e z.2.symm)]
    · rw [ic_un ej]
theorem ic_as_dn {S A : Nat → Nat} {s x : Nat} (hs : s < 32) (h : S s = 1) (hx : x ≠ 1) (m : Nat) : ic_as S A m = if m = A s / 8 then ic_as (ic_u S s x) A m + 1 else ic_as (ic_u S s x) A m := by
  unfold ic_as
  by_cases e : m = A s / 8
  · rw [if_pos e]
    refine ic_cn_up (s := s) (decide_eq_false (fun z => by have := z.1; rw [ic_us] at this; exact hx this)) (decide_eq_true ⟨h, e.symm⟩) 32 hs (fun j _ hj => ?_)
    rw [ic_un hj]
  · rw [if_neg e]
    refine ic_cn_eq 32 (fun j _ => ?_)
    by_cases ej : j = s
    · subst ej
      rw [decide_eq_false (fun z => e z.2.symm), decide_eq_false (fun z => e z.2.symm)]
    · rw [ic_un ej]
/-- a slot that is not active takes a new request: the counts stay -/
theorem ic_am_is {S H : Nat → Nat} {s c : Nat} (h : S s ≠ 1) (m : Nat) : ic_am (ic_u S s 0) (ic_u H s c) m = ic_am S H m := by
  refine ic_cn_eq 32 (fun j _ => ?_)
  by_cases e : j = s
  · subst e
    rw [decide_eq_false (fun z => by have := z.1; rw [ic_us] at this; omega), decide_eq_false (fun z => h z.1)]
  · rw [ic_un e, ic_un e]
theorem ic_as_is {S A : Nat → Nat} {s a : Nat} (h : S s ≠ 1) (m : Nat) : ic_as (ic_u S s 0) (ic_u A s a) m = ic_as S A m := by
  refine ic_cn_eq 32 (fun j _ => ?_)
  by_cases e : j = s
  · subst e
    rw [decide_eq_false (fun z => by have := z.1; rw [ic_us] at this; omega), decide_eq_false (fun z => h z.1)]
  · rw [ic_un e, ic_un e]
/-- the head of a queue is the oldest queued one -/
theorem ic_Q1_hd {T : Nat} {S H Q : Nat → Nat} {c h n : Nat} {K : Nat → Nat} (q : ic_Q1 T S H Q c h n K) (hn : 0 < n)
    (un : ∀ s, s < 32 → T ≤ s → S s = 4) : ic_ff T (fun s => decide (S s = 0 ∧ H s = c)) 32 0 = some (Q (c * 4 + h)) := by
  obtain ⟨h4, _, _, he, hs, hc⟩ := q
  obtain ⟨h0, h1, h2, h3, h5⟩ := he 0 hn
  rw [Nat.add_zero, Nat.mod_eq_of_lt h4] at h0
  rw [h0]
  have e : (T + (K 0 + 32 - T)) % 32 = K 0 % 32 := by omega
  rw [← e]
  refine ic_ff_is 32 0 (K 0 + 32 - T) (by omega) (by omega) ?_ ?_
  · rw [e]; exact decide_eq_true ⟨h3, h5⟩
  · intro a _ ha hp
    have hp2 := of_decide_eq_true hp
    by_cases h32 : 32 ≤ T + a
    · have e2 : (T + a) % 32 = (T + a - 32) % 32 := by omega
      rw [e2] at hp2
      obtain ⟨i, hi, ei⟩ := hc (T + a - 32) (by omega) (by omega) hp2.1 hp2.2
      by_cases i0 : i = 0
      · subst i0; omega
      · have := hs 0 i (by omega) hi
        omega
    · have e2 : (T + a) % 32 = T + a := by omega
      rw [e2] at hp2
      have := un (T + a) (by omega) (by omega)
      omega
theorem ic_Q1_no {T : Nat} {S H Q : Nat → Nat} {c h : Nat} {K : Nat → Nat} (q : ic_Q1 T S H Q c h 0 K)
    (un : ∀ s, s < 32 → T ≤ s → S s = 4) : ic_ff T (fun s => decide (S s = 0 ∧ H s = c)) 32 0 = none := by
  obtain ⟨_, _, _, _, _, hc⟩ := q
  refine ic_ff_no 32 0 (fun a _ ha hp => ?_)
  have hp2 := of_decide_eq_true hp
  by_cases h32 : 32 ≤ T + a
  · have e2 : (T + a) % 32 = (T + a - 32) % 32 := by omega
    rw [e2] at hp2
    obtain ⟨i, hi, _⟩ := hc (T + a - 32) (by omega) (by omega) hp2.1 hp2.2
    omega
  · have e2 : (T + a) % 32 = T + a := by omega
    rw [e2] at hp2
    have := un (T + a) (by omega) (by omega)
    omega
/-- a queue speaks of S only by 'is queued' -/
theorem ic_Q1_S {T : Nat} {S H Q : Nat → Nat} {c h n s x : Nat} {K : Nat → Nat} (q : ic_Q1 T S H Q c h n K)
    (hS : S s ≠ 0) (hx : x ≠ 0) : ic_Q1 T (ic_u S s x) H Q c h n K := by
  have e : ∀ j, (ic_u S s x j = 0 ↔ S j = 0) := by
    intro j
    by_cases ej : j = s
    · subst ej; rw [ic_us]; exact ⟨fun z => absurd z hx, fun z => absurd z hS⟩
    · rw [ic_un ej]
  obtain ⟨a1, a2, a3, he, hs, hc⟩ := q
  refine ⟨a1, a2, ?_, fun i hi => ?_, hs, fun t h1 h2 h3 h4 => hc t h1 h2 ((e _).mp h3) h4⟩
  · rw [a3]
    refine (ic_cn_eq 32 (fun j hj => ?_)).symm
    rw [decide_eq_decide, e j]
  · obtain ⟨b1, b2, b3, b4, b5⟩ := he i hi
    exact ⟨b1, b2, b3, (e _).mpr b4, b5⟩
/-- the head leaves -/
theorem ic_Q1_dq {T : Nat} {S H Q : Nat → Nat} {c h n : Nat} {K : Nat → Nat} (q : ic_Q1 T S H Q c h n K) (hn : 0 < n) :
    ic_Q1 T (ic_u S (Q (c * 4 + h)) 1) H Q c ((h + 1) % 4) (n - 1) (fun i => K (i + 1)) := by
  obtain ⟨a1, a2, a3, he, hs, hc⟩ := q
  obtain ⟨h0, h1, h2, h3, h4⟩ := he 0 hn
  rw [Nat.add_zero, Nat.mod_eq_of_lt a1] at h0
  rw [h0]
  have hk : n = ic_cn (fun s => decide (ic_u S (K 0 % 32) 1 s = 0 ∧ H s = c)) 32 + 1 := by
    rw [a3]
    refine ic_cn_up (s := K 0 % 32) ?_ (decide_eq_true ⟨h3, h4⟩) 32 (by omega) (fun j _ hj => ?_)
    · refine decide_eq_false (fun z => ?_)
      have := z.1
      rw [ic_us] at this
      omega
    · rw [ic_un hj]
  refine ⟨by omega, by omega, ?_, fun i hi => ?_, fun i j h5 h6 => hs (i + 1) (j + 1) (by omega) (by omega), fun t h5 h6 h7 h8 => ?_⟩
  · show n - 1 = ic_cn _ 32
    omega
  · obtain ⟨b1, b2, b3, b4, b5⟩ := he (i + 1) (by omega)
    have h9 := hs 0 (i + 1) (by omega) (by omega)
    have e : ((h + 1) % 4 + i) % 4 = (h + (i + 1)) % 4 := by omega
    refine ⟨by rw [e]; exact b1, b2, b3, ?_, b5⟩
    show ic_u S (K 0 % 32) 1 (K (i + 1) % 32) = 0
    rw [ic_un (by omega)]
    exact b4
  · have hne : t % 32 ≠ K 0 % 32 := by
      intro z
      rw [z, ic_us] at h7
      omega
    rw [ic_un hne] at h7
    obtain ⟨i, hi, ei⟩ := hc t h5 h6 h7 h8
    have i0 : i ≠ 0 := by
      intro z
      subst z
      rw [ei] at hne
      exact hne rfl
    exact ⟨i - 1, by omega, by show K (i - 1 + 1) = t; rw [Nat.sub_add_cancel (by omega)]; exact ei⟩
/-- another channel, when a head leaves -/
theorem ic_Q1_dq' {T : Nat} {S H Q : Nat → Nat} {c h n s : Nat} {K : Nat → Nat} (q : ic_Q1 T S H Q c h n K) (hs : H s ≠ c) :
    ic_Q1 T (ic_u S s 1) H Q c h n K := by
  obtain ⟨a1, a2, a3, he, hg, hc⟩ := q
  refine ⟨a1, a2, ?_, fun i hi => ?_, hg, fun t h1 h2 h3 h4 => ?_⟩
  · rw [a3]
    refine (ic_cn_eq 32 (fun j _ => ?_)).symm
    by_cases e : j = s
    · subst e
      rw [decide_eq_false (fun z => hs z.2), decide_eq_false (fun z => hs z.2)]
    · rw [ic_un e]
  · obtain ⟨b1, b2, b3, b4, b5⟩ := he i hi
    refine ⟨b1, b2, b3, ?_, b5⟩
    rw [ic_un (fun z => hs (by rw [← z]; exact b5))]
    exact b4
  · have hne : t % 32 ≠ s := fun z => hs (by rw [← z]; exact h4)
    rw [ic_un hne] at h3
    exact hc t h1 h2 h3 h4
/-- a new request at the tail -/
theorem ic_Q1_en {T : Nat} {S H Q : Nat → Nat} {c h n : Nat} {K : Nat → Nat} (q : ic_Q1 T S H Q c h n K) (hn : n < 4) (hS : 2 ≤ S (T % 32)) :
    ic_Q1 (T + 1) (ic_u S (T % 32) 0) (ic_u H (T % 32) c) (ic_u Q (c * 4 + (h + n) % 4) (T % 32)) c h (n + 1) (ic_u K n T) := by
  obtain ⟨a1, a2, a3, he, hs, hc⟩ := q
  have hk : ic_qn (ic_u S (T % 32) 0) (ic_u H (T % 32) c) c = n + 1 := by
    rw [a3]
    refine ic_cn_up (s := T % 32) (decide_eq_false (fun z => by have := z.1; omega)) (decide_eq_true ⟨ic_us, ic_us⟩) 32 (by omega) (fun j _ hj => ?_)
    rw [ic_un hj, ic_un hj]
  refine ⟨a1, by omega, hk.symm, fun i hi => ?_, fun i j h1 h2 => ?_, fun t h1 h2 h3 h4 => ?_⟩
  · by_cases e : i = n
    · subst e
      rw [ic_us, ic_us]
      exact ⟨rfl, by omega, by omega, ic_us, ic_us⟩
    · rw [ic_un e]
      obtain ⟨b1, b2, b3, b4, b5⟩ := he i (by omega)
      have hne : K i % 32 ≠ T % 32 := by intro z; rw [z] at b4; omega
      refine ⟨?_, by omega, by omega, by rw [ic_un hne]; exact b4, by rw [ic_un hne]; exact b5⟩
      rw [ic_un (by omega)]
      exact b1
  · by_cases e : j = n
    · subst e
      rw [ic_us, ic_un (by omega)]
      exact (he i (by omega)).2.1
    · rw [ic_un e, ic_un (by omega)]
      exact hs i j h1 (by omega)
  · by_cases e : t = T
    · exact ⟨n, by omega, by rw [ic_us]; exact e.symm⟩
    · have hne : t % 32 ≠ T % 32 := by omega
      rw [ic_un hne] at h3 h4
      obtain ⟨i, hi, ei⟩ := hc t (by omega) (by omega) h3 h4
      exact ⟨i, by omega, by rw [ic_un (by omega)]; exact ei⟩
/-- another channel, when a request comes -/
theorem ic_Q1_en' {T : Nat} {S H Q : Nat → Nat} {c d h n p z : Nat} {K : Nat → Nat} (q : ic_Q1 T S H Q c h n K) (hd : d ≠ c) (hS : 2 ≤ S (T % 32)) (hp : d * 4 ≤ p) (hp' : p < d * 4 + 4) :
    ic_Q1 (T + 1) (ic_u S (T % 32) 0) (ic_u H (T % 32) d) (ic_u Q p z) c h n K := by
  obtain ⟨a1, a2, a3, he, hs, hc⟩ := q
  refine ⟨a1, a2, ?_, fun i hi => ?_, hs, fun t h1 h2 h3 h4 => ?_⟩
  · rw [a3]
    refine (ic_cn_eq 32 (fun j _ => ?_)).symm
    by_cases e : j = T % 32
    · subst e
      rw [decide_eq_false (fun z => by have := z.2; rw [ic_us] at this; exact hd this), decide_eq_false (fun z => by have := z.1; omega)]
    · rw [ic_un e, ic_un e]
  · obtain ⟨b1, b2, b3, b4, b5⟩ := he i hi
    have hne : K i % 32 ≠ T % 32 := by intro z; rw [z] at b4; omega
    refine ⟨?_, by omega, by omega, by rw [ic_un hne]; exact b4, by rw [ic_un hne]; exact b5⟩
    rw [ic_un (by omega)]
    exact b1
  · by_cases e : t = T
    · subst e
      rw [ic_us] at h4
      exact absurd h4 hd
    · have hne : t % 32 ≠ T % 32 := by omega
      rw [ic_un hne] at h3 h4
      exact hc t (by omega) (by omega) h3 h4
end
section
/-! every step keeps it -/
theorem ic_chl_ps {p : Nat → Nat → Nat} {c : Nat} : ∀ d j s : Nat, ic_chl p c d j = some s → s < 32 ∧ p 1 s = c ∧ p 0 s = 1 ∧ (p 1 s % 2 = 0 ∨ p 5 s = p 4 s) ∧ p 7 s ≤ p 25 2 := by
  intro d
  induction d with
  | zero => intro j s h; cases h
  | succ d ih =>
    intro j s h
    unfold ic_chl at h
    cases ho : ic_old p c ((p 22 c + j) % 4) with
    | none => rw [ho] at h; exact ih (j + 1) s h
    | some t =>
      rw [ho] at h
      dsimp only at h
      by_cases he : ic_eli p t = true
      · rw [if_pos he] at h
        cases h
        have h1 := ic_ff_ps ho
        have h2 := of_decide_eq_true h1.2
        have h3 := of_decide_eq_true he
        exact ⟨h1.1, h2.1, h3.1, h3.2.1, h3.2.2⟩
      · rw [if_neg he] at h
        exact ih (j + 1) s h
theorem ic_cho_ps {p : Nat → Nat → Nat} {c s : Nat} (h : ic_cho p c = some s) : s < 32 ∧ p 1 s = c ∧ p 0 s = 1 ∧ (p 1 s % 2 = 0 ∨ p 5 s = p 4 s) ∧ p 7 s ≤ p 25 2 := by
  unfold ic_cho at h
  by_cases hz : p 23 c = 0
  · rw [if_pos hz] at h; cases h
  · rw [if_neg hz] at h; exact ic_chl_ps 4 0 s h
theorem ic_cho_rdy {p : Nat → Nat → Nat} {c s : Nat} (h : ic_cho p c = some s) : p 23 c ≠ 0 := by
  unfold ic_cho at h
  intro hz
  rw [if_pos hz] at h; cases h
theorem ic_unf_ps {p : Nat → Nat → Nat} {m s : Nat} (h : ic_unf p m = some s) : s < 32 ∧ p 1 s = m * 2 + 1 ∧ p 5 s < p 4 s := by
  have h1 := ic_ff_ps h
  have h2 := of_decide_eq_true h1.2
  exact ⟨h1.1, h2.1, h2.2⟩
theorem ic_fin_J1 {p : Nat → Nat → Nat} {s : Nat} (h : ic_J1 p) (h0 : p 0 s = 1) : ic_J1 (ic_fin p s) := by
  intro t ht
  have h1 := h t ht
  by_cases e : t = s
  · subst e
    show ic_L (p 25 3) (p 25 2) t (ic_u (p 0) t (if p 3 t / 8 = 3 then 3 else 2) t) (p 1 t) (p 2 t) (p 3 t) (p 4 t) (p 5 t) (p 6 t) (p 7 t)
    rw [ic_us]
    unfold ic_L at h1 ⊢
    split <;> omega
  · show ic_L (p 25 3) (p 25 2) t (ic_u (p 0) s (if p 3 s / 8 = 3 then 3 else 2) t) (p 1 t) (p 2 t) (p 3 t) (p 4 t) (p 5 t) (p 6 t) (p 7 t)
    rw [ic_un e]
    exact h1
theorem ic_fin_J2 {p : Nat → Nat → Nat} {s : Nat} (h : ic_J2 p) (hs : s < 32) (h1 : p 0 s = 1) : ic_J2 (ic_fin p s) := by
  have hx : (if p 3 s / 8 = 3 then 3 else 2) ≠ 1 := by split <;> omega
  refine ⟨fun m hm => ?_, fun q hq => ?_⟩
  · show ic_u (p 20) (p 1 s / 2) (p 20 (p 1 s / 2) - 1) m = ic_am (ic_u (p 0) s (if p 3 s / 8 = 3 then 3 else 2)) (p 1) m
    have a := ic_am_dn (H := p 1) hs h1 hx m
    have b := h.1 m hm
    by_cases e : m = p 1 s / 2
    · rw [if_pos e] at a
      subst e
      rw [ic_us]
      omega
    · rw [if_neg e] at a
      rw [ic_un e]
      omega
  · show ic_u (p 21) (p 3 s / 8) (p 21 (p 3 s / 8) - 1) q = ic_as (ic_u (p 0) s (if p 3 s / 8 = 3 then 3 else 2)) (p 3) q
    have a := ic_as_dn (A := p 3) hs h1 hx q
    have b := h.2 q hq
    by_cases e : q = p 3 s / 8
    · rw [if_pos e] at a
      subst e
      rw [ic_us]
      omega
    · rw [if_neg e] at a
      rw [ic_un e]
      omega
theorem ic_fin_J3 {p : Nat → Nat → Nat} {s : Nat} (h : ic_J3 p) (h1 : p 0 s = 1) : ic_J3 (ic_fin p s) := by
  intro c hc
  obtain ⟨K, hK⟩ := h c hc
  refine ⟨K, ?_⟩
  show ic_Q1 (p 25 3) (ic_u (p 0) s (if p 3 s / 8 = 3 then 3 else 2)) (p 1) (p 11) c (p 12 c) (p 13 c) K
  exact ic_Q1_S hK (by omega) (by split <;> omega)
theorem ic_22_J4 {p : Nat → Nat → Nat} {c x : Nat} (h : ic_J4 p) (hx : x < 4) : ic_J4 (ic_pu p 22 c x) := by
  obtain ⟨a1, a2, a3, a4, a5⟩ := h
  refine ⟨a1, a2, a3, fun d hd => ?_, a5⟩
  show ic_u (p 22) c x d < 4 ∧ p 23 d ≤ 1
  by_cases e : d = c
  · subst e; rw [ic_us]; exact ⟨hx, (a4 d hd).2⟩
  · rw [ic_un e]; exact a4 d hd
theorem ic_wr_Inv {p : Nat → Nat → Nat} {c : Nat} (h : ic_Inv p) : ic_Inv (ic_wr p c) := by
  unfold ic_wr
  cases hc : ic_cho p c with
  | none => exact h
  | some s =>
    obtain ⟨hs, _, h1, _, _⟩ := ic_cho_ps hc
    obtain ⟨j1, j2, j3, j4⟩ := h
    dsimp only
    unfold ic_wr1
    by_cases e : p 3 s / 8 = 3
    · rw [if_pos e]
      exact ⟨ic_fin_J1 (p := p) (s := s) j1 h1, ic_fin_J2 j2 hs h1, ic_fin_J3 (p := p) (s := s) j3 h1, ic_22_J4 (p := ic_fin p s) j4 (by omega)⟩
    · rw [if_neg e]
      exact ⟨ic_fin_J1 (p := ic_sto p s) (s := s) j1 h1, ic_fin_J2 (p := ic_sto p s) j2 hs h1, ic_fin_J3 (p := ic_sto p s) (s := s) j3 h1, ic_22_J4 (p := ic_fin (ic_sto p s) s) j4 (by omega)⟩
theorem ic_rd_J1 {p : Nat → Nat → Nat} {c s : Nat} (h : ic_J1 p) (h1 : p 0 s = 1) (h2 : p 1 s % 2 = 0) : ic_J1 (ic_rd1 p c s) := by
  intro t ht
  have h3 := h t ht
  unfold ic_rd1
  by_cases n : p 5 s + 1 = p 4 s
  · rw [if_pos n]
    by_cases e : t = s
    · subst e
      show ic_L (p 25 3) (p 25 2) t (ic_u (p 0) t (if p 3 t / 8 = 3 then 3 else 2) t) (p 1 t) (p 2 t) (p 3 t) (p 4 t) (ic_u (p 5) t (p 5 t + 1) t) (p 6 t) (p 7 t)
      rw [ic_us, ic_us]
      unfold ic_L at h3 ⊢
      split <;> omega
    · show ic_L (p 25 3) (p 25 2) t (ic_u (p 0) s (if p 3 s / 8 = 3 then 3 else 2) t) (p 1 t) (p 2 t) (p 3 t) (p 4 t) (ic_u (p 5) s (p 5 s + 1) t) (p 6 t) (p 7 t)
      rw [ic_un e, ic_un e]
      exact h3
  · rw [if_neg n]
    by_cases e : t = s
    · subst e
      show ic_L (p 25 3) (p 25 2) t (p 0 t) (p 1 t) (p 2 t) (p 3 t) (p 4 t) (ic_u (p 5) t (p 5 t + 1) t) (p 6 t) (p 7 t)
      rw [ic_us]
      unfold ic_L at h3 ⊢
      omega
    · show ic_L (p 25 3) (p 25 2) t (p 0 t) (p 1 t) (p 2 t) (p 3 t) (p 4 t) (ic_u (p 5) s (p 5 s + 1) t) (p 6 t) (p 7 t)
      rw [ic_un e]
      exact h3
theorem ic_rd_Inv {p : Nat → Nat → Nat} {c : Nat} (h : ic_Inv p) (h0 : c % 2 = 0) : ic_Inv (ic_rd p c) := by
  unfold ic_rd
  cases hc : ic_cho p c with
  | none => exact h
  | some s =>
    obtain ⟨hs, he, h1, _, _⟩ := ic_cho_ps hc
    obtain ⟨j1, j2, j3, j4⟩ := h
    refine ⟨ic_rd_J1 j1 h1 (by omega), ?_⟩
    dsimp only
    unfold ic_rd1
    by_cases n : p 5 s + 1 = p 4 s
    · rw [if_pos n]
      exact ⟨ic_fin_J2 (p := ic_bt p s) j2 hs h1, ic_fin_J3 (p := ic_bt p s) (s := s) j3 h1, ic_22_J4 (p := ic_fin (ic_bt p s) s) j4 (by omega)⟩
    · rw [if_neg n]
      exact ⟨j2, j3, ic_22_J4 (p := ic_bt p s) j4 (by omega)⟩
theorem ic_mv_J1 {p : Nat → Nat → Nat} {m s : Nat} (h : ic_J1 p) (h1 : p 0 s = 1) (h2 : p 1 s % 2 = 1) (h5 : p 5 s < p 4 s) : ic_J1 (ic_mv1 p m s) := by
  intro t ht
  have h3 := h t ht
  unfold ic_mv1
  by_cases n : p 5 s + 1 = p 4 s
  · rw [if_pos n]
    by_cases e : t = s
    · subst e
      show ic_L (p 25 3) (p 25 2) t (p 0 t) (p 1 t) (p 2 t) (p 3 t) (p 4 t) (ic_u (p 5) t (p 5 t + 1) t) (p 6 t) (ic_u (p 7) t (p 25 2 + p 6 t) t)
      rw [ic_us, ic_us]
      unfold ic_L at h3 ⊢
      omega
    · show ic_L (p 25 3) (p 25 2) t (p 0 t) (p 1 t) (p 2 t) (p 3 t) (p 4 t) (ic_u (p 5) s (p 5 s + 1) t) (p 6 t) (ic_u (p 7) s (p 25 2 + p 6 s) t)
      rw [ic_un e, ic_un e]
      exact h3
  · rw [if_neg n]
    by_cases e : t = s
    · subst e
      show ic_L (p 25 3) (p 25 2) t (p 0 t) (p 1 t) (p 2 t) (p 3 t) (p 4 t) (ic_u (p 5) t (p 5 t + 1) t) (p 6 t) (p 7 t)
      rw [ic_us]
      unfold ic_L at h3 ⊢
      omega
    · show ic_L (p 25 3) (p 25 2) t (p 0 t) (p 1 t) (p 2 t) (p 3 t) (p 4 t) (ic_u (p 5) s (p 5 s + 1) t) (p 6 t) (p 7 t)
      rw [ic_un e]
      exact h3
theorem ic_mv0_J4 {p : Nat → Nat → Nat} {m s : Nat} (h : ic_J4 p) : ic_J4 (ic_mv0 p m s) := by
  obtain ⟨a1, a2⟩ := h
  refine ⟨fun d hd => ?_, a2⟩
  show ic_u (p 15) m ((p 15 m + 1) % 8) d < 8 ∧ ic_u (p 16) m (p 16 m - 1) d ≤ 8
  have h := a1 d hd
  by_cases e : d = m
  · subst e; rw [ic_us, ic_us]; omega
  · rw [ic_un e, ic_un e]; exact h
theorem ic_mv_Inv {p : Nat → Nat → Nat} {m : Nat} (h : ic_Inv p) : ic_Inv (ic_mv p m) := by
  unfold ic_mv
  cases hc : ic_unf p m with
  | none => exact h
  | some s =>
    obtain ⟨hs, he, h5⟩ := ic_unf_ps hc
    dsimp only
    by_cases g : p 0 s = 1 ∧ p 16 m ≠ 0
    · rw [if_pos g]
      obtain ⟨j1, j2, j3, j4⟩ := h
      refine ⟨ic_mv_J1 j1 g.1 (by omega) h5, ?_⟩
      unfold ic_mv1
      by_cases n : p 5 s + 1 = p 4 s
      · rw [if_pos n]
        exact ⟨j2, j3, ic_mv0_J4 (p := p) (m := m) (s := s) j4⟩
      · rw [if_neg n]
        exact ⟨j2, j3, ic_mv0_J4 (p := p) (m := m) (s := s) j4⟩
    · rw [if_neg g]
      exact h
/-- the head of a ring that isn't empty -/
theorem ic_hd_ps {p : Nat → Nat → Nat} {c : Nat} (h : ic_J3 p) (hc : c < 4) (hn : p 13 c ≠ 0) : ic_hd p c < 32 ∧ p 0 (ic_hd p c) = 0 ∧ p 1 (ic_hd p c) = c ∧ p 12 c < 4 := by
  obtain ⟨K, h4, _, _, he, _, _⟩ := h c hc
  obtain ⟨h0, _, _, h3, h5⟩ := he 0 (by omega)
  rw [Nat.add_zero, Nat.mod_eq_of_lt h4] at h0
  unfold ic_hd
  rw [h0]
  exact ⟨by omega, h3, h5, h4⟩
theorem ic_can_ps {p : Nat → Nat → Nat} {m s k : Nat} (h : ic_can p m s k = true) : p 13 (m * 2 + k) ≠ 0 ∧ p 3 (ic_hd p (m * 2 + k)) / 8 = s ∧ p 20 m < p 25 0 ∧ p 21 s < p 25 1 ∧ ic_els p (ic_hd p (m * 2 + k)) = none := of_decide_eq_true h
theorem ic_win_le {p : Nat → Nat → Nat} {s k : Nat} (h : ic_J4 p) (hs : s < 4) (hk : k < 2) : ic_win p s k < 2 := by
  have := h.2.2.2.2.1 (s * 2 + k) (by omega)
  unfold ic_win
  split <;> omega
theorem ic_lat_le {p : Nat → Nat → Nat} {s : Nat} (h : ic_J4 p) (hs : s < 4) : ic_lat p s ≤ 15 := by
  have h1 := h.2.2.1 s hs
  unfold ic_lat
  split
  · omega
  · exact h.2.1 _ (by omega)
theorem ic_tl_o {p : Nat → Nat → Nat} {s f : Nat} (hf : f ≠ 19) : ic_tl p s f = p f := by
  unfold ic_tl
  split
  · rfl
  · exact if_neg hf
theorem ic_ar1_f {p : Nat → Nat → Nat} {s k w : Nat} :
    ic_ar1 p s k w 0 = ic_u (p 0) (ic_hd p (w * 2 + k)) 1 ∧ ic_ar1 p s k w 1 = p 1 ∧ ic_ar1 p s k w 2 = p 2 ∧ ic_ar1 p s k w 3 = p 3 ∧ ic_ar1 p s k w 4 = p 4 ∧ ic_ar1 p s k w 5 = p 5 ∧
    ic_ar1 p s k w 6 = ic_u (p 6) (ic_hd p (w * 2 + k)) (ic_lat p s) ∧ ic_ar1 p s k w 7 = ic_u (p 7) (ic_hd p (w * 2 + k)) (p 25 2 + ic_lat p s) ∧ ic_ar1 p s k w 25 = p 25 ∧
    ic_ar1 p s k w 11 = p 11 ∧ ic_ar1 p s k w 12 = ic_u (p 12) (w * 2 + k) ((p 12 (w * 2 + k) + 1) % 4) ∧ ic_ar1 p s k w 13 = ic_u (p 13) (w * 2 + k) (p 13 (w * 2 + k) - 1) ∧
    ic_ar1 p s k w 20 = ic_u (p 20) (p 1 (ic_hd p (w * 2 + k)) / 2) (p 20 (p 1 (ic_hd p (w * 2 + k)) / 2) + 1) ∧ ic_ar1 p s k w 21 = ic_u (p 21) s (p 21 s + 1) ∧
    ic_ar1 p s k w 24 = ic_u (p 24) (s * 2 + k) (1 - w) ∧ ic_ar1 p s k w 19 = (if s = 3 then p 19 else ic_u (p 19) s ((p 19 s + 1) % 4)) := by
  unfold ic_ar1 ic_acc ic_tl
  by_cases e : s = 3
  · rw [if_pos e, if_pos e]; exact ⟨rfl, rfl, rfl, rfl, rfl, rfl, rfl, rfl, rfl, rfl, rfl, rfl, rfl, rfl, rfl, rfl⟩
  · rw [if_neg e, if_neg e]; exact ⟨rfl, rfl, rfl, rfl, rfl, rfl, rfl, rfl, rfl, rfl, rfl, rfl, rfl, rfl, rfl, rfl⟩
theorem ic_ar1_g {p : Nat → Nat → Nat} {s k w : Nat} :
    ic_ar1 p s k w 15 = p 15 ∧ ic_ar1 p s k w 16 = p 16 ∧ ic_ar1 p s k w 18 = p 18 ∧ ic_ar1 p s k w 22 = p 22 ∧ ic_ar1 p s k w 23 = p 23 ∧
    ic_ar1 p s k w 8 = p 8 ∧ ic_ar1 p s k w 9 = p 9 ∧ ic_ar1 p s k w 10 = p 10 ∧ ic_ar1 p s k w 14 = p 14 ∧ ic_ar1 p s k w 17 = p 17 := by
  unfold ic_ar1 ic_acc ic_tl
  by_cases e : s = 3
  · rw [if_pos e]; exact ⟨rfl, rfl, rfl, rfl, rfl, rfl, rfl, rfl, rfl, rfl⟩
  · rw [if_neg e]; exact ⟨rfl, rfl, rfl, rfl, rfl, rfl, rfl, rfl, rfl, rfl⟩
theorem ic_ar1_Inv {p : Nat → Nat → Nat} {s k w : Nat} (h : ic_Inv p) (hs : s < 4) (hk : k < 2) (hw : w < 2) (c : ic_can p w s k = true) : ic_Inv (ic_ar1 p s k w) := by
  obtain ⟨j1, j2, j3, j4⟩ := h
  obtain ⟨c1, c2, c3, c4, c5⟩ := ic_can_ps c
  obtain ⟨g1, g2, g3, g4⟩ := ic_hd_ps j3 (c := w * 2 + k) (by omega) c1
  have hl := ic_lat_le j4 hs
  obtain ⟨f0, f1, f2, f3, f4, f5, f6, f7, f25, f11, f12, f13, f20, f21, f24, f19⟩ := @ic_ar1_f p s k w
  obtain ⟨f15, f16, f18, f22, f23, _⟩ := @ic_ar1_g p s k w
  refine ⟨fun t ht => ?_, ⟨fun m hm => ?_, fun q hq => ?_⟩, fun d hd => ?_, ?_⟩
  · have h3 := j1 t ht
    rw [f0, f1, f2, f3, f4, f5, f6, f7, f25]
    by_cases e : t = ic_hd p (w * 2 + k)
    · rw [← e] at g2 ⊢
      rw [ic_us, ic_us, ic_us]
      unfold ic_L at h3 ⊢
      omega
    · rw [ic_un e, ic_un e, ic_un e]
      exact h3
  · rw [f20, f0, f1, ic_am_up g1 (by omega) m]
    by_cases e : m = p 1 (ic_hd p (w * 2 + k)) / 2
    · rw [if_pos e, e, ic_us, ← e, j2.1 m hm]
    · rw [if_neg e, ic_un e, j2.1 m hm]
  · rw [f21, f0, f3, ic_as_up g1 (by omega) q, c2]
    by_cases e : q = s
    · rw [if_pos e, e, ic_us, ← e, j2.2 q hq]
    · rw [if_neg e, ic_un e, j2.2 q hq]
  · obtain ⟨K, hK⟩ := j3 d hd
    rw [f25, f0, f1, f11, f12, f13]
    by_cases e : d = w * 2 + k
    · subst e
      rw [ic_us, ic_us]
      exact ⟨_, ic_Q1_dq hK (by omega)⟩
    · rw [ic_un e, ic_un e]
      exact ⟨K, ic_Q1_dq' hK (by rw [g3]; exact fun z => e z.symm)⟩
  · obtain ⟨a1, a2, a3, a4, a5, a6⟩ := j4
    unfold ic_J4
    rw [f15, f16, f18, f19, f22, f23, f24, f25]
    refine ⟨a1, a2, fun t ht => ?_, a4, fun j hj => ?_, a6⟩
    · by_cases e : s = 3
      · rw [if_pos e]; exact a3 t ht
      · rw [if_neg e]
        by_cases e2 : t = s
        · subst e2; rw [ic_us]; omega
        · rw [ic_un e2]; exact a3 t ht
    · by_cases e : j = s * 2 + k
      · subst e; rw [ic_us]; omega
      · rw [ic_un e]; exact a5 j hj
theorem ic_ar_Inv {p : Nat → Nat → Nat} {s k : Nat} (h : ic_Inv p) (hs : s < 4) (hk : k < 2) : ic_Inv (ic_ar p s k) := by
  unfold ic_ar
  by_cases c : ic_can p (ic_win p s k) s k = true
  · rw [if_pos c]; exact ic_ar1_Inv h hs hk (ic_win_le h.2.2.2 hs hk) c
  · rw [if_neg c]; exact h
theorem ic_c1_Inv {p : Nat → Nat → Nat} (h : ic_Inv p) : ic_Inv (ic_pu p 25 2 (p 25 2 + 1)) := by
  obtain ⟨j1, j2, j3, j4⟩ := h
  refine ⟨fun t ht => ?_, j2, j3, j4⟩
  have h1 := j1 t ht
  show ic_L (p 25 3) (p 25 2 + 1) t (p 0 t) (p 1 t) (p 2 t) (p 3 t) (p 4 t) (p 5 t) (p 6 t) (p 7 t)
  unfold ic_L at h1 ⊢
  omega
theorem ic_cyc_Inv {p : Nat → Nat → Nat} (h : ic_Inv p) : ic_Inv (ic_cyc p) := by
  have h0 := ic_c1_Inv h
  have h1 := ic_wr_Inv (c := 3) (ic_wr_Inv (c := 1) h0)
  have h2 := ic_rd_Inv (c := 2) (ic_rd_Inv (c := 0) h1 (by decide)) (by decide)
  have h3 := ic_mv_Inv (m := 1) (ic_mv_Inv (m := 0) h2)
  have h4 := ic_ar_Inv (s := 0) (k := 0) (ic_ar_Inv (s := 0) (k := 1) h3 (by decide) (by decide)) (by decide) (by decide)
  have h5 := ic_ar_Inv (s := 1) (k := 0) (ic_ar_Inv (s := 1) (k := 1) h4 (by decide) (by decide)) (by decide) (by decide)
  have h6 := ic_ar_Inv (s := 2) (k := 0) (ic_ar_Inv (s := 2) (k := 1) h5 (by decide) (by decide)) (by decide) (by decide)
  exact ic_ar_Inv (s := 3) (k := 0) (ic_ar_Inv (s := 3) (k := 1) h6 (by decide) (by decide)) (by decide) (by decide)
theorem ic_iss_Inv {p : Nat → Nat → Nat} {c i a l : Nat} (h : ic_Inv p) (hc : c < 4) (hi : i < 4) (ha : a < 32) (hl : 1 ≤ l) (hl4 : l ≤ 4) (hal : a % 8 + l ≤ 8) (hq : p 13 c ≠ 4) (hS : 2 ≤ p 0 (p 25 3 % 32)) : ic_Inv (ic_iss p c i a l) := by
  obtain ⟨j1, j2, j3, j4⟩ := h
  refine ⟨fun t ht => ?_, ⟨fun m hm => ?_, fun q hq => ?_⟩, fun d hd => ?_, j4⟩
  · have h1 := j1 t ht
    show ic_L (p 25 3 + 1) (p 25 2) t (ic_u (p 0) (p 25 3 % 32) 0 t) (ic_u (p 1) (p 25 3 % 32) c t) (ic_u (p 2) (p 25 3 % 32) i t) (ic_u (p 3) (p 25 3 % 32) a t) (ic_u (p 4) (p 25 3 % 32) l t) (ic_u (p 5) (p 25 3 % 32) 0 t) (p 6 t) (p 7 t)
    by_cases e : t = p 25 3 % 32
    · rw [e, ic_us, ic_us, ic_us, ic_us, ic_us, ic_us]
      unfold ic_L
      omega
    · rw [ic_un e, ic_un e, ic_un e, ic_un e, ic_un e, ic_un e]
      unfold ic_L at h1 ⊢
      omega
  · show p 20 m = ic_am (ic_u (p 0) (p 25 3 % 32) 0) (ic_u (p 1) (p 25 3 % 32) c) m
    rw [ic_am_is (by omega)]
    exact j2.1 m hm
  · show p 21 q = ic_as (ic_u (p 0) (p 25 3 % 32) 0) (ic_u (p 3) (p 25 3 % 32) a) q
    rw [ic_as_is (by omega)]
    exact j2.2 q hq
  · obtain ⟨K, hK⟩ := j3 d hd
    show ∃ K, ic_Q1 (p 25 3 + 1) (ic_u (p 0) (p 25 3 % 32) 0) (ic_u (p 1) (p 25 3 % 32) c) (ic_u (p 11) (c * 4 + (p 12 c + p 13 c) % 4) (p 25 3 % 32)) d (p 12 d) (ic_u (p 13) c (p 13 c + 1) d) K
    by_cases e : d = c
    · subst e
      rw [ic_us]
      have h4 := hK.2.1
      exact ⟨_, ic_Q1_en hK (by omega) hS⟩
    · rw [ic_un e]
      exact ⟨K, ic_Q1_en' hK (fun z => e z.symm) hS (by omega) (by omega)⟩
theorem ic_wd_Inv {p : Nat → Nat → Nat} {m x : Nat} (h : ic_Inv p) (hm : p 16 m ≠ 8) : ic_Inv (ic_wd p m x) := by
  obtain ⟨j1, j2, j3, a1, a2⟩ := h
  refine ⟨j1, j2, j3, fun d hd => ?_, a2⟩
  have h := a1 d hd
  show p 15 d < 8 ∧ ic_u (p 16) m (p 16 m + 1) d ≤ 8
  by_cases e : d = m
  · subst e; rw [ic_us]; omega
  · rw [ic_un e]; exact h
theorem ic_sl_Inv {p : Nat → Nat → Nat} {j x : Nat} (h : ic_Inv p) (hx : x ≤ 15) : ic_Inv (ic_pu p 18 j x) := by
  obtain ⟨j1, j2, j3, a1, a2, a3⟩ := h
  refine ⟨j1, j2, j3, a1, fun d hd => ?_, a3⟩
  show ic_u (p 18) j x d ≤ 15
  by_cases e : d = j
  · subst e; rw [ic_us]; exact hx
  · rw [ic_un e]; exact a2 d hd
theorem ic_sr_Inv {p : Nat → Nat → Nat} {j x : Nat} (h : ic_Inv p) (hx : x ≤ 1) : ic_Inv (ic_pu p 23 j x) := by
  obtain ⟨j1, j2, j3, a1, a2, a3, a4, a5⟩ := h
  refine ⟨j1, j2, j3, a1, a2, a3, fun d hd => ?_, a5⟩
  show p 22 d < 4 ∧ ic_u (p 23) j x d ≤ 1
  by_cases e : d = j
  · subst e; rw [ic_us]; exact ⟨(a4 d hd).1, hx⟩
  · rw [ic_un e]; exact a4 d hd
/-- the beginning -/
def ic_p0 (l c : Nat) : Nat → Nat → Nat := fun f j =>
  if f = 0 then (if j < 32 then 4 else 0) else if f = 18 then (if j < 12 then 1 else 0) else if f = 23 then (if j < 4 then 1 else 0) else if f = 25 then (if j = 0 then l else if j = 1 then c else 0) else 0
theorem ic_p0_Inv {l c : Nat} (hl : l ≤ 8) (hc : c ≤ 4) : ic_Inv (ic_p0 l c) := by
  have e0 : ∀ s, s < 32 → ic_p0 l c 0 s = 4 := fun s hs => if_pos hs
  have z : ∀ P : Nat → Bool, (∀ s, s < 32 → ¬ P s = true) → ic_cn P 32 = 0 := by
    intro P hP
    have key : ∀ n, n ≤ 32 → ic_cn P n = 0 := by
      intro n
      induction n with
      | zero => intro _; rfl
      | succ n ih => intro hn; rw [ic_cn_f (hP n (by omega))]; exact ih (by omega)
    exact key 32 (Nat.le_refl 32)
  refine ⟨fun s hs => ?_, ⟨fun m _ => ?_, fun q _ => ?_⟩, fun d hd => ⟨fun _ => 0, ?_⟩, ?_⟩
  · show ic_L 0 0 s (ic_p0 l c 0 s) 0 0 0 0 0 0 0
    rw [e0 s hs]
    unfold ic_L
    omega
  · show 0 = ic_am (ic_p0 l c 0) (ic_p0 l c 1) m
    exact (z _ (fun s hs h => by have h2 := (of_decide_eq_true h).1; rw [e0 s hs] at h2; omega)).symm
  · show 0 = ic_as (ic_p0 l c 0) (ic_p0 l c 3) q
    exact (z _ (fun s hs h => by have h2 := (of_decide_eq_true h).1; rw [e0 s hs] at h2; omega)).symm
  · show ic_Q1 0 (ic_p0 l c 0) (ic_p0 l c 1) (ic_p0 l c 11) d 0 0 (fun _ => 0)
    refine ⟨by omega, by omega, ?_, fun i hi => by omega, fun i j _ hj => by omega, fun t ht => by omega⟩
    exact (z _ (fun s hs h => by have h2 := (of_decide_eq_true h).1; rw [e0 s hs] at h2; omega)).symm
  · refine ⟨fun m _ => ?_, fun j hj => ?_, fun s _ => ?_, fun d hd => ?_, fun j _ => ?_, hl, hc⟩
    · show 0 < 8 ∧ 0 ≤ 8
      omega
    · show (if j < 12 then 1 else 0) ≤ 15
      split <;> omega
    · show 0 < 4
      omega
    · show 0 < 4 ∧ (if d < 4 then 1 else 0) ≤ 1
      rw [if_pos hd]
      omega
    · show 0 ≤ 1
      omega
end
section
/-! what p17 asks beside the invariant: bounds of the counters, done ones are full, order of one id -/
def ic_D1 (p : Nat → Nat → Nat) : Prop := ∀ s, s < 32 → 2 ≤ p 0 s → p 0 s ≤ 3 → p 5 s = p 4 s ∧ p 8 s < p 25 4
def ic_D2 (p : Nat → Nat → Nat) : Prop := ∀ a b, a < b → b < p 25 3 → p 25 3 ≤ a + 32 → p 1 (a % 32) = p 1 (b % 32) → p 2 (a % 32) = p 2 (b % 32) → 2 ≤ p 0 (b % 32) → 2 ≤ p 0 (a % 32) ∧ p 8 (a % 32) < p 8 (b % 32)
def ic_D3 (p : Nat → Nat → Nat) : Prop := (∀ m, m < 2 → p 20 m ≤ p 25 0) ∧ (∀ q, q < 4 → p 21 q ≤ p 25 1)
def ic_Ord (p : Nat → Nat → Nat) : Prop := ic_D1 p ∧ ic_D2 p ∧ ic_D3 p
theorem ic_chl_old {p : Nat → Nat → Nat} {c : Nat} : ∀ d j s : Nat, ic_chl p c d j = some s → ic_old p c (p 2 s) = some s := by
  intro d
  induction d with
  | zero => intro j s h; cases h
  | succ d ih =>
    intro j s h
    unfold ic_chl at h
    cases ho : ic_old p c ((p 22 c + j) % 4) with
    | none => rw [ho] at h; exact ih (j + 1) s h
    | some t =>
      rw [ho] at h
      dsimp only at h
      by_cases he : ic_eli p t = true
      · rw [if_pos he] at h
        cases h
        have h2 := of_decide_eq_true (ic_ff_ps ho).2
        rw [h2.2.1]
        exact ho
      · rw [if_neg he] at h
        exact ih (j + 1) s h
theorem ic_cho_old {p : Nat → Nat → Nat} {c s : Nat} (h : ic_cho p c = some s) : ic_old p c (p 2 s) = some s := by
  unfold ic_cho at h
  by_cases hz : p 23 c = 0
  · rw [if_pos hz] at h; cases h
  · rw [if_neg hz] at h; exact ic_chl_old 4 0 s h
/-- the oldest pending one of a channel and id: every valid ticket before it is done -/
theorem ic_old_bf {p : Nat → Nat → Nat} {c i s : Nat} (j1 : ic_J1 p) (h : ic_old p c i = some s) {a b : Nat} (hab : a < b) (hb : b < p 25 3) (ha : p 25 3 ≤ a + 32) (es : b % 32 = s) (h1 : p 1 (a % 32) = c) (h2 : p 2 (a % 32) = i) : 2 ≤ p 0 (a % 32) ∧ p 0 (a % 32) ≤ 3 := by
  obtain ⟨j, _, hj, e, hp, hbf⟩ := ic_ff_some 32 0 s h
  have hL := j1 (a % 32) (by omega)
  unfold ic_L at hL
  have hs3 : p 0 (a % 32) ≤ 3 := by
    have h4 := hL.2.2.2.1
    omega
  refine ⟨?_, hs3⟩
  have e2 : (p 25 3 + (a + 32 - p 25 3)) % 32 = a % 32 := by omega
  have h5 : ¬ ic_pen p c i (a % 32) = true := by
    rw [← e2]
    exact hbf (a + 32 - p 25 3) (by omega) (by omega)
  have h6 : ¬ (p 1 (a % 32) = c ∧ p 2 (a % 32) = i ∧ p 0 (a % 32) ≤ 1) := fun z => h5 (decide_eq_true z)
  omega
theorem ic_fin_D {p : Nat → Nat → Nat} {s : Nat} (d1 : ic_D1 p) (d2 : ic_D2 p) (hB : p 5 s = p 4 s) (h1 : p 0 s = 1)
    (ho : ∀ a b, a < b → b < p 25 3 → p 25 3 ≤ a + 32 → b % 32 = s → p 1 (a % 32) = p 1 s → p 2 (a % 32) = p 2 s → 2 ≤ p 0 (a % 32) ∧ p 0 (a % 32) ≤ 3) : ic_D1 (ic_fin p s) ∧ ic_D2 (ic_fin p s) := by
  refine ⟨fun t ht => ?_, fun a b hab hb ha e1 e2 => ?_⟩
  · show 2 ≤ ic_u (p 0) s (if p 3 s / 8 = 3 then 3 else 2) t → ic_u (p 0) s (if p 3 s / 8 = 3 then 3 else 2) t ≤ 3 → p 5 t = p 4 t ∧ ic_u (p 8) s (p 25 4) t < p 25 4 + 1
    by_cases e : t = s
    · subst e
      intro _ _
      rw [ic_us]
      exact ⟨hB, by omega⟩
    · rw [ic_un e, ic_un e]
      intro h2 h3
      have := d1 t ht h2 h3
      exact ⟨this.1, by omega⟩
  · have hb2 : b < p 25 3 := hb
    have ha2 : p 25 3 ≤ a + 32 := ha
    have e12 : p 1 (a % 32) = p 1 (b % 32) := e1
    have e22 : p 2 (a % 32) = p 2 (b % 32) := e2
    show 2 ≤ ic_u (p 0) s (if p 3 s / 8 = 3 then 3 else 2) (b % 32) → 2 ≤ ic_u (p 0) s (if p 3 s / 8 = 3 then 3 else 2) (a % 32) ∧ ic_u (p 8) s (p 25 4) (a % 32) < ic_u (p 8) s (p 25 4) (b % 32)
    have hne : a % 32 ≠ b % 32 := by omega
    by_cases e : b % 32 = s
    · intro _
      have hn : a % 32 ≠ s := by omega
      obtain ⟨h3, h4⟩ := ho a b hab hb2 ha2 e (by rw [e12, e]) (by rw [e22, e])
      rw [ic_un hn, ic_un hn, e, ic_us]
      exact ⟨h3, (d1 (a % 32) (by omega) h3 h4).2⟩
    · rw [ic_un e, ic_un e]
      intro h3
      have h4 := d2 a b hab hb2 ha2 e12 e22 h3
      by_cases f : a % 32 = s
      · rw [f] at h4; omega
      · rw [ic_un f, ic_un f]; exact h4
theorem ic_fin_D3 {p : Nat → Nat → Nat} {s : Nat} (h : ic_D3 p) : ic_D3 (ic_fin p s) := by
  refine ⟨fun m hm => ?_, fun q hq => ?_⟩
  · show ic_u (p 20) (p 1 s / 2) (p 20 (p 1 s / 2) - 1) m ≤ p 25 0
    have := h.1 m hm
    by_cases e : m = p 1 s / 2
    · subst e; rw [ic_us]; omega
    · rw [ic_un e]; exact this
  · show ic_u (p 21) (p 3 s / 8) (p 21 (p 3 s / 8) - 1) q ≤ p 25 1
    have := h.2 q hq
    by_cases e : q = p 3 s / 8
    · subst e; rw [ic_us]; omega
    · rw [ic_un e]; exact this
theorem ic_wr_Ord {p : Nat → Nat → Nat} {c : Nat} (hI : ic_Inv p) (h : ic_Ord p) (h1 : c % 2 = 1) : ic_Ord (ic_wr p c) := by
  unfold ic_wr
  cases hc : ic_cho p c with
  | none => exact h
  | some s =>
    obtain ⟨hs, he, ha, hb, _⟩ := ic_cho_ps hc
    obtain ⟨d1, d2, d3⟩ := h
    dsimp only
    unfold ic_wr1
    have ho : ∀ a b, a < b → b < p 25 3 → p 25 3 ≤ a + 32 → b % 32 = s → p 1 (a % 32) = p 1 s → p 2 (a % 32) = p 2 s → 2 ≤ p 0 (a % 32) ∧ p 0 (a % 32) ≤ 3 :=
      fun a b hab hb2 ha2 es e1 e2 => ic_old_bf hI.1 (ic_cho_old hc) hab hb2 ha2 es (by omega) e2
    by_cases e : p 3 s / 8 = 3
    · rw [if_pos e]
      have r := ic_fin_D (p := p) (s := s) d1 d2 (by omega) ha ho
      exact ⟨r.1, r.2, ic_fin_D3 (p := p) (s := s) d3⟩
    · rw [if_neg e]
      have r := ic_fin_D (p := ic_sto p s) (s := s) d1 d2 (by show p 5 s = p 4 s; omega) ha ho
      exact ⟨r.1, r.2, ic_fin_D3 (p := ic_sto p s) (s := s) d3⟩
/-- one beat more of an active one keeps what is said of the done ones -/
theorem ic_D1_5 {p p' : Nat → Nat → Nat} {s x : Nat} (h : ic_D1 p) (h1 : p 0 s = 1) (e0 : p' 0 = p 0) (e5 : p' 5 = ic_u (p 5) s x) (e4 : p' 4 = p 4) (e8 : p' 8 = p 8) (e25 : p' 25 4 = p 25 4) : ic_D1 p' := by
  intro t ht
  rw [e0, e5, e4, e8, e25]
  intro h2 h3
  have hn : t ≠ s := by
    intro z
    rw [z] at h2
    omega
  rw [ic_un hn]
  exact h t ht h2 h3
theorem ic_rd_Ord {p : Nat → Nat → Nat} {c : Nat} (hI : ic_Inv p) (h : ic_Ord p) : ic_Ord (ic_rd p c) := by
  unfold ic_rd
  cases hc : ic_cho p c with
  | none => exact h
  | some s =>
    obtain ⟨hs, he, ha, hb, _⟩ := ic_cho_ps hc
    obtain ⟨d1, d2, d3⟩ := h
    dsimp only
    unfold ic_rd1
    have b1 : ic_D1 (ic_bt p s) := ic_D1_5 (p := p) (p' := ic_bt p s) (s := s) (x := p 5 s + 1) d1 ha rfl rfl rfl rfl rfl
    by_cases n : p 5 s + 1 = p 4 s
    · rw [if_pos n]
      have r := ic_fin_D (p := ic_bt p s) (s := s) b1 d2 (by show ic_u (p 5) s (p 5 s + 1) s = p 4 s; rw [ic_us]; exact n) ha
        (fun a b hab hb2 ha2 es e1 e2 => ic_old_bf hI.1 (ic_cho_old hc) hab hb2 ha2 es (by have e3 : p 1 (a % 32) = p 1 s := e1; omega) e2)
      exact ⟨r.1, r.2, ic_fin_D3 (p := ic_bt p s) (s := s) d3⟩
    · rw [if_neg n]
      exact ⟨b1, d2, d3⟩
theorem ic_mv_Ord {p : Nat → Nat → Nat} {m : Nat} (h : ic_Ord p) : ic_Ord (ic_mv p m) := by
  unfold ic_mv
  cases hc : ic_unf p m with
  | none => exact h
  | some s =>
    dsimp only
    by_cases g : p 0 s = 1 ∧ p 16 m ≠ 0
    · rw [if_pos g]
      obtain ⟨d1, d2, d3⟩ := h
      unfold ic_mv1
      by_cases n : p 5 s + 1 = p 4 s
      · rw [if_pos n]
        exact ⟨ic_D1_5 (p := p) (p' := ic_pu (ic_mv0 p m s) 7 s (p 25 2 + p 6 s)) (s := s) (x := p 5 s + 1) d1 g.1 rfl rfl rfl rfl rfl, d2, d3⟩
      · rw [if_neg n]
        exact ⟨ic_D1_5 (p := p) (p' := ic_mv0 p m s) (s := s) (x := p 5 s + 1) d1 g.1 rfl rfl rfl rfl rfl, d2, d3⟩
    · rw [if_neg g]
      exact h
theorem ic_ar_Ord {p : Nat → Nat → Nat} {s k : Nat} (hI : ic_Inv p) (h : ic_Ord p) (hs : s < 4) (hk : k < 2) : ic_Ord (ic_ar p s k) := by
  unfold ic_ar
  have hw := ic_win_le hI.2.2.2 hs hk
  generalize ic_win p s k = w at *
  by_cases c : ic_can p w s k = true
  · rw [if_pos c]
    obtain ⟨d1, d2, d3⟩ := h
    obtain ⟨c1, c2, c3, c4, c5⟩ := ic_can_ps c
    obtain ⟨g1, g2, g3, g4⟩ := ic_hd_ps hI.2.2.1 (c := w * 2 + k) (by omega) c1
    obtain ⟨f0, f1, f2, f3, f4, f5, f6, f7, f25, f11, f12, f13, f20, f21, f24, f19⟩ := @ic_ar1_f p s k w
    obtain ⟨f15, f16, f18, f22, f23, f8, f9, f10, f14, f17⟩ := @ic_ar1_g p s k w
    generalize ic_hd p (w * 2 + k) = b at *
    refine ⟨fun t ht => ?_, fun x y hxy hy hx => ?_, fun m hm => ?_, fun q hq => ?_⟩
    · rw [f0, f5, f4, f8, f25]
      by_cases e : t = b
      · rw [e, ic_us]
        intro z
        omega
      · rw [ic_un e]
        exact d1 t ht
    · rw [f25] at hy hx
      rw [f0, f1, f2, f8]
      intro e1 e2
      by_cases e : y % 32 = b
      · rw [e, ic_us]
        intro z
        omega
      · rw [ic_un e]
        intro z
        have r := d2 x y hxy hy hx e1 e2 z
        have f : x % 32 ≠ b := by
          intro w
          rw [w] at r
          omega
        rw [ic_un f]
        exact r
    · rw [f20, f25, g3]
      have := d3.1 m hm
      by_cases e : m = (w * 2 + k) / 2
      · rw [e, ic_us]
        have e2 : (w * 2 + k) / 2 = w := by omega
        rw [e2]
        omega
      · rw [ic_un e]
        exact this
    · rw [f21, f25]
      have := d3.2 q hq
      by_cases e : q = s
      · rw [e, ic_us]
        omega
      · rw [ic_un e]
        exact this
  · rw [if_neg c]
    exact h
theorem ic_c1_Ord {p : Nat → Nat → Nat} (h : ic_Ord p) : ic_Ord (ic_pu p 25 2 (p 25 2 + 1)) := h
theorem ic_cyc_Ord {p : Nat → Nat → Nat} (hI : ic_Inv p) (h : ic_Ord p) : ic_Ord (ic_cyc p) := by
  have i0 := ic_c1_Inv hI
  have o0 := ic_c1_Ord h
  have i1 := ic_wr_Inv (c := 1) i0
  have o1 := ic_wr_Ord (c := 1) i0 o0 (by decide)
  have i2 := ic_wr_Inv (c := 3) i1
  have o2 := ic_wr_Ord (c := 3) i1 o1 (by decide)
  have i3 := ic_rd_Inv (c := 0) i2 (by decide)
  have o3 := ic_rd_Ord (c := 0) i2 o2
  have i4 := ic_rd_Inv (c := 2) i3 (by decide)
  have o4 := ic_rd_Ord (c := 2) i3 o3
  have i5 := ic_mv_Inv (m := 0) i4
  have o5 := ic_mv_Ord (m := 0) o4
  have i6 := ic_mv_Inv (m := 1) i5
  have o6 := ic_mv_Ord (m := 1) o5
  have i7 := ic_ar_Inv (s := 0) (k := 1) i6 (by decide) (by decide)
  have o7 := ic_ar_Ord (s := 0) (k := 1) i6 o6 (by decide) (by decide)
  have i8 := ic_ar_Inv (s := 0) (k := 0) i7 (by decide) (by decide)
  have o8 := ic_ar_Ord (s := 0) (k := 0) i7 o7 (by decide) (by decide)
  have i9 := ic_ar_Inv (s := 1) (k := 1) i8 (by decide) (by decide)
  have o9 := ic_ar_Ord (s := 1) (k := 1) i8 o8 (by decide) (by decide)
  have ia := ic_ar_Inv (s := 1) (k := 0) i9 (by decide) (by decide)
  have oa := ic_ar_Ord (s := 1) (k := 0) i9 o9 (by decide) (by decide)
  have ib := ic_ar_Inv (s := 2) (k := 1) ia (by decide) (by decide)
  have ob := ic_ar_Ord (s := 2) (k := 1) ia oa (by decide) (by decide)
  have jc := ic_ar_Inv (s := 2) (k := 0) ib (by decide) (by decide)
  have oc := ic_ar_Ord (s := 2) (k := 0) ib ob (by decide) (by decide)
  have id := ic_ar_Inv (s := 3) (k := 1) jc (by decide) (by decide)
  have od := ic_ar_Ord (s := 3) (k := 1) jc oc (by decide) (by decide)
  exact ic_ar_Ord (s := 3) (k := 0) id od (by decide) (by decide)
theorem ic_iss_Ord {p : Nat → Nat → Nat} {c i a l : Nat} (h : ic_Ord p) : ic_Ord (ic_iss p c i a l) := by
  obtain ⟨d1, d2, d3⟩ := h
  refine ⟨fun t ht => ?_, fun x y hxy hy hx => ?_, d3⟩
  · show 2 ≤ ic_u (p 0) (p 25 3 % 32) 0 t → ic_u (p 0) (p 25 3 % 32) 0 t ≤ 3 → ic_u (p 5) (p 25 3 % 32) 0 t = ic_u (p 4) (p 25 3 % 32) l t ∧ p 8 t < p 25 4
    by_cases e : t = p 25 3 % 32
    · subst e
      rw [ic_us]
      intro z
      omega
    · rw [ic_un e, ic_un e, ic_un e]
      exact d1 t ht
  · have hy2 : y < p 25 3 + 1 := hy
    have hx2 : p 25 3 + 1 ≤ x + 32 := hx
    show ic_u (p 1) (p 25 3 % 32) c (x % 32) = ic_u (p 1) (p 25 3 % 32) c (y % 32) → ic_u (p 2) (p 25 3 % 32) i (x % 32) = ic_u (p 2) (p 25 3 % 32) i (y % 32) → 2 ≤ ic_u (p 0) (p 25 3 % 32) 0 (y % 32) → 2 ≤ ic_u (p 0) (p 25 3 % 32) 0 (x % 32) ∧ p 8 (x % 32) < p 8 (y % 32)
    have ex : x % 32 ≠ p 25 3 % 32 := by omega
    by_cases e : y = p 25 3
    · subst e
      intro _ _
      rw [ic_us]
      intro z
      omega
    · have ey : y % 32 ≠ p 25 3 % 32 := by omega
      rw [ic_un ex, ic_un ey, ic_un ex, ic_un ey, ic_un ex, ic_un ey]
      exact d2 x y hxy (by omega) (by omega)
theorem ic_p0_Ord {l c : Nat} : ic_Ord (ic_p0 l c) := by
  have e0 : ∀ s, s < 32 → ic_p0 l c 0 s = 4 := fun s hs => if_pos hs
  refine ⟨fun t ht h2 h3 => ?_, fun x y hxy hy => ?_, fun m _ => ?_, fun q _ => ?_⟩
  · rw [e0 t ht] at h3
    omega
  · have : y < 0 := hy
    omega
  · show 0 ≤ l
    omega
  · show 0 ≤ c
    omega
/-- what every cycle leaves: channel, id, length; limit, cap, tickets; and at most four more are done -/
def ic_Fr (n : Nat) (p p' : Nat → Nat → Nat) : Prop := p' 1 = p 1 ∧ p' 2 = p 2 ∧ p' 4 = p 4 ∧ p' 25 0 = p 25 0 ∧ p' 25 1 = p 25 1 ∧ p' 25 3 = p 25 3 ∧ p' 25 4 ≤ p 25 4 + n
theorem ic_Fr_t {n m : Nat} {p p' p'' : Nat → Nat → Nat} (h : ic_Fr n p p') (g : ic_Fr m p' p'') : ic_Fr (n + m) p p'' := by
  obtain ⟨a1, a2, a3, a4, a5, a6, a7⟩ := h
  obtain ⟨b1, b2, b3, b4, b5, b6, b7⟩ := g
  exact ⟨b1.trans a1, b2.trans a2, b3.trans a3, b4.trans a4, b5.trans a5, b6.trans a6, by omega⟩
theorem ic_wr_Fr {p : Nat → Nat → Nat} {c : Nat} : ic_Fr 1 p (ic_wr p c) := by
  unfold ic_wr
  cases ic_cho p c with
  | none => exact ⟨rfl, rfl, rfl, rfl, rfl, rfl, Nat.le_succ _⟩
  | some s =>
    dsimp only
    unfold ic_wr1
    by_cases n : p 3 s / 8 = 3
    · rw [if_pos n]; exact ⟨rfl, rfl, rfl, rfl, rfl, rfl, Nat.le_refl _⟩
    · rw [if_neg n]; exact ⟨rfl, rfl, rfl, rfl, rfl, rfl, Nat.le_refl _⟩
theorem ic_rd_Fr {p : Nat → Nat → Nat} {c : Nat} : ic_Fr 1 p (ic_rd p c) := by
  unfold ic_rd
  cases ic_cho p c with
  | none => exact ⟨rfl, rfl, rfl, rfl, rfl, rfl, Nat.le_succ _⟩
  | some s =>
    dsimp only
    unfold ic_rd1
    by_cases n : p 5 s + 1 = p 4 s
    · rw [if_pos n]; exact ⟨rfl, rfl, rfl, rfl, rfl, rfl, Nat.le_refl _⟩
    · rw [if_neg n]; exact ⟨rfl, rfl, rfl, rfl, rfl, rfl, Nat.le_succ _⟩
theorem ic_mv_Fr {p : Nat → Nat → Nat} {m : Nat} : ic_Fr 0 p (ic_mv p m) := by
  unfold ic_mv
  cases ic_unf p m with
  | none => exact ⟨rfl, rfl, rfl, rfl, rfl, rfl, Nat.le_refl _⟩
  | some s =>
    dsimp only
    by_cases g : p 0 s = 1 ∧ p 16 m ≠ 0
    · rw [if_pos g]
      unfold ic_mv1
      by_cases n : p 5 s + 1 = p 4 s
      · rw [if_pos n]; exact ⟨rfl, rfl, rfl, rfl, rfl, rfl, Nat.le_refl _⟩
      · rw [if_neg n]; exact ⟨rfl, rfl, rfl, rfl, rfl, rfl, Nat.le_refl _⟩
    · rw [if_neg g]; exact ⟨rfl, rfl, rfl, rfl, rfl, rfl, Nat.le_refl _⟩
theorem ic_ar_Fr {p : Nat → Nat → Nat} {s k : Nat} : ic_Fr 0 p (ic_ar p s k) := by
  unfold ic_ar
  by_cases c : ic_can p (ic_win p s k) s k = true
  · rw [if_pos c]
    obtain ⟨f0, f1, f2, f3, f4, f5, f6, f7, f25, _⟩ := @ic_ar1_f p s k (ic_win p s k)
    exact ⟨f1, f2, f4, by rw [f25], by rw [f25], by rw [f25], by rw [f25]; exact Nat.le_refl _⟩
  · rw [if_neg c]; exact ⟨rfl, rfl, rfl, rfl, rfl, rfl, Nat.le_refl _⟩
theorem ic_cyc_Fr {p : Nat → Nat → Nat} : ic_Fr 4 p (ic_cyc p) := by
  have h0 : ic_Fr 0 p (ic_pu p 25 2 (p 25 2 + 1)) := ⟨rfl, rfl, rfl, rfl, rfl, rfl, Nat.le_refl _⟩
  have h1 := ic_Fr_t (ic_Fr_t (ic_Fr_t (ic_Fr_t h0 (ic_wr_Fr (c := 1))) (ic_wr_Fr (c := 3))) (ic_rd_Fr (c := 0))) (ic_rd_Fr (c := 2))
  have h2 := ic_Fr_t (ic_Fr_t h1 (ic_mv_Fr (m := 0))) (ic_mv_Fr (m := 1))
  have h3 := ic_Fr_t (ic_Fr_t (ic_Fr_t (ic_Fr_t h2 (ic_ar_Fr (s := 0) (k := 1))) (ic_ar_Fr (s := 0) (k := 0))) (ic_ar_Fr (s := 1) (k := 1))) (ic_ar_Fr (s := 1) (k := 0))
  exact ic_Fr_t (ic_Fr_t (ic_Fr_t (ic_Fr_t h3 (ic_ar_Fr (s := 2) (k := 1))) (ic_ar_Fr (s := 2) (k := 0))) (ic_ar_Fr (s := 3) (k := 1))) (ic_ar_Fr (s := 3) (k := 0))
theorem ic_run_Ord : ∀ (n : Nat) (p : Nat → Nat → Nat), ic_Inv p → ic_Ord p → ic_Ord (ic_run n p) ∧ ic_Fr (4 * n) p (ic_run n p) := by
  intro n
  induction n with
  | zero => intro p _ h; exact ⟨h, rfl, rfl, rfl, rfl, rfl, rfl, Nat.le_refl _⟩
  | succ n ih =>
    intro p hI h
    have r := ih (ic_cyc p) (ic_cyc_Inv hI) (ic_cyc_Ord hI h)
    refine ⟨r.1, ?_⟩
    have f := ic_Fr_t (ic_cyc_Fr (p := p)) r.2
    rw [show 4 + 4 * n = 4 * (n + 1) from by omega] at f
    exact f
/-- outstanding ones, counted by manager and by subordinate -/
theorem ic_sum2 {S H : Nat → Nat} (h : ∀ s, s < 32 → H s < 4) : ∀ n, n ≤ 32 → ic_cn (fun s => decide (S s = 1 ∧ H s / 2 = 0)) n + ic_cn (fun s => decide (S s = 1 ∧ H s / 2 = 1)) n = ic_cn (fun s => decide (S s = 1)) n := by
  intro n
  induction n with
  | zero => intro _; rfl
  | succ n ih =>
    intro hn
    have e := ih (by omega)
    have hH := h n (by omega)
    by_cases a : S n = 1
    · rw [ic_cn_t (p := fun s => decide (S s = 1)) (decide_eq_true a)]
      rcases (by omega : H n / 2 = 0 ∨ H n / 2 = 1) with b | b
      · rw [ic_cn_t (p := fun s => decide (S s = 1 ∧ H s / 2 = 0)) (decide_eq_true ⟨a, b⟩), ic_cn_f (p := fun s => decide (S s = 1 ∧ H s / 2 = 1)) (fun z => by have := (of_decide_eq_true z).2; omega)]
        omega
      · rw [ic_cn_f (p := fun s => decide (S s = 1 ∧ H s / 2 = 0)) (fun z => by have := (of_decide_eq_true z).2; omega), ic_cn_t (p := fun s => decide (S s = 1 ∧ H s / 2 = 1)) (decide_eq_true ⟨a, b⟩)]
        omega
    · rw [ic_cn_f (p := fun s => decide (S s = 1)) (fun z => a (of_decide_eq_true z)), ic_cn_f (p := fun s => decide (S s = 1 ∧ H s / 2 = 0)) (fun z => a (of_decide_eq_true z).1), ic_cn_f (p := fun s => decide (S s = 1 ∧ H s / 2 = 1)) (fun z => a (of_decide_eq_true z).1)]
      exact e
theorem ic_cn_q {S A : Nat → Nat} {n q : Nat} (a : S n = 1) : ic_cn (fun s => decide (S s = 1 ∧ A s / 8 = q)) (n + 1) = ic_cn (fun s => decide (S s = 1 ∧ A s / 8 = q)) n + (if A n / 8 = q then 1 else 0) := by
  by_cases b : A n / 8 = q
  · rw [ic_cn_t (p := fun s => decide (S s = 1 ∧ A s / 8 = q)) (decide_eq_true ⟨a, b⟩), if_pos b]
  · rw [ic_cn_f (p := fun s => decide (S s = 1 ∧ A s / 8 = q)) (fun z => b (of_decide_eq_true z).2), if_neg b, Nat.add_zero]
theorem ic_sum4 {S A : Nat → Nat} (h : ∀ s, s < 32 → A s < 32) : ∀ n, n ≤ 32 → ic_cn (fun s => decide (S s = 1 ∧ A s / 8 = 0)) n + ic_cn (fun s => decide (S s = 1 ∧ A s / 8 = 1)) n + ic_cn (fun s => decide (S s = 1 ∧ A s / 8 = 2)) n + ic_cn (fun s => decide (S s = 1 ∧ A s / 8 = 3)) n = ic_cn (fun s => decide (S s = 1)) n := by
  intro n
  induction n with
  | zero => intro _; rfl
  | succ n ih =>
    intro hn
    have e := ih (by omega)
    have hA := h n (by omega)
    by_cases a : S n = 1
    · rw [ic_cn_t (p := fun s => decide (S s = 1)) (decide_eq_true a), ic_cn_q a, ic_cn_q a, ic_cn_q a, ic_cn_q a]
      rcases (by omega : A n / 8 = 0 ∨ A n / 8 = 1 ∨ A n / 8 = 2 ∨ A n / 8 = 3) with b | b | b | b <;> rw [b] <;> simp only [if_true, if_false, reduceCtorEq, Nat.reduceEqDiff] <;> omega
    · have z : ∀ q, ic_cn (fun s => decide (S s = 1 ∧ A s / 8 = q)) (n + 1) = ic_cn (fun s => decide (S s = 1 ∧ A s / 8 = q)) n := fun q => ic_cn_f (p := fun s => decide (S s = 1 ∧ A s / 8 = q)) (fun z => a (of_decide_eq_true z).1)
      rw [ic_cn_f (p := fun s => decide (S s = 1)) (fun z => a (of_decide_eq_true z)), z, z, z, z]
      exact e
theorem ic_sum {p : Nat → Nat → Nat} (h : ic_Inv p) : p 20 0 + p 20 1 = p 21 0 + p 21 1 + p 21 2 + p 21 3 := by
  obtain ⟨j1, j2, _, _⟩ := h
  have a := ic_sum2 (S := p 0) (H := p 1) (fun s hs => (j1 s hs).1.1) 32 (Nat.le_refl 32)
  have b := ic_sum4 (S := p 0) (A := p 3) (fun s hs => (j1 s hs).1.2.2.1) 32 (Nat.le_refl 32)
  rw [j2.1 0 (by decide), j2.1 1 (by decide), j2.2 0 (by decide), j2.2 1 (by decide), j2.2 2 (by decide), j2.2 3 (by decide)]
  exact a.trans b.symm
end
section
/-! numbers, tables of ints -/
def ic_t (f : Nat → Nat) : Nat → Int32 := fun j => nI (f j)
def ic_tL (f : Nat → Nat) : Nat → Int64 := fun j => lN (f j)
def ic_t8 (f : Nat → Nat) : Nat → Int32 := fun j => nI (f j / 8)
def ic_sv (x : Nat) : Int32 := if x = 4 then -1 else nI x
def ic_ts (f : Nat → Nat) : Nat → Int32 := fun j => ic_sv (f j)
theorem ic_sv_n {x : Nat} (h : x ≤ 3) : ic_sv x = nI x := if_neg (by omega)
theorem ic_sv_eq {x j : Nat} (hx : x ≤ 4) (hj : j ≤ 3) : ic_sv x = nI j ↔ x = j := by
  by_cases e : x = 4
  · subst e
    constructor
    · intro h
      exfalso
      have h1 : (-1 : Int32) = nI j := h
      have h2 : (nI j).toInt = j := nI_toInt (by omega)
      rw [← h1] at h2
      have h3 : (-1 : Int32).toInt = -1 := by decide
      omega
    · intro h; omega
  · rw [ic_sv_n (by omega)]
    exact nI_eq (by omega) (by omega)
theorem ic_tu {f : Nat → Nat} {k x : Nat} : upd (ic_t f) k (nI x) = ic_t (ic_u f k x) := by
  funext j
  by_cases e : j = k
  · subst e; show upd (ic_t f) j (nI x) j = nI (ic_u f j x j); rw [pk_us, ic_us]
  · show upd (ic_t f) k (nI x) j = nI (ic_u f k x j); rw [pk_un e, ic_un e]; rfl
theorem ic_tLu {f : Nat → Nat} {k x : Nat} : vp_updL (ic_tL f) k (lN x) = ic_tL (ic_u f k x) := by
  funext j
  by_cases e : j = k
  · subst e; show vp_updL (ic_tL f) j (lN x) j = lN (ic_u f j x j); rw [pk_uLs, ic_us]
  · show vp_updL (ic_tL f) k (lN x) j = lN (ic_u f k x j); rw [pk_uLn e, ic_un e]; rfl
theorem ic_t8u {f : Nat → Nat} {k x : Nat} : upd (ic_t8 f) k (nI (x / 8)) = ic_t8 (ic_u f k x) := by
  funext j
  by_cases e : j = k
  · subst e; show upd (ic_t8 f) j (nI (x / 8)) j = nI (ic_u f j x j / 8); rw [pk_us, ic_us]
  · show upd (ic_t8 f) k (nI (x / 8)) j = nI (ic_u f k x j / 8); rw [pk_un e, ic_un e]; rfl
theorem ic_tsu {f : Nat → Nat} {k x : Nat} (hx : x ≤ 3) : upd (ic_ts f) k (nI x) = ic_ts (ic_u f k x) := by
  funext j
  by_cases e : j = k
  · subst e; show upd (ic_ts f) j (nI x) j = ic_sv (ic_u f j x j); rw [pk_us, ic_us, ic_sv_n hx]
  · show upd (ic_ts f) k (nI x) j = ic_sv (ic_u f k x j); rw [pk_un e, ic_un e]; rfl
/-- a place read, a place stored: e is the int of the place -/
theorem ic_g {f : Nat → Nat} {e : Int32} (k : Nat) (he : e = nI k) (hk : k < 2 ^ 31) : ic_t f e.toNatClampNeg = nI (f k) := by
  rw [he]; show nI (f _) = _; rw [nI_clamp hk]
theorem ic_gL {f : Nat → Nat} {e : Int32} (k : Nat) (he : e = nI k) (hk : k < 2 ^ 31) : ic_tL f e.toNatClampNeg = lN (f k) := by
  rw [he]; show lN (f _) = _; rw [nI_clamp hk]
theorem ic_g8 {f : Nat → Nat} {e : Int32} (k : Nat) (he : e = nI k) (hk : k < 2 ^ 31) : ic_t8 f e.toNatClampNeg = nI (f k / 8) := by
  rw [he]; show nI (f _ / 8) = _; rw [nI_clamp hk]
theorem ic_gs {f : Nat → Nat} {e : Int32} (k : Nat) (he : e = nI k) (hk : k < 2 ^ 31) : ic_ts f e.toNatClampNeg = ic_sv (f k) := by
  rw [he]; show ic_sv (f _) = _; rw [nI_clamp hk]
theorem ic_p {f : Nat → Nat} {e v : Int32} (k x : Nat) (he : e = nI k) (hk : k < 2 ^ 31) (hv : v = nI x) : upd (ic_t f) e.toNatClampNeg v = ic_t (ic_u f k x) := by
  rw [he, hv, nI_clamp hk, ic_tu]
theorem ic_pL {f : Nat → Nat} {e : Int32} {v : Int64} (k x : Nat) (he : e = nI k) (hk : k < 2 ^ 31) (hv : v = lN x) : vp_updL (ic_tL f) e.toNatClampNeg v = ic_tL (ic_u f k x) := by
  rw [he, hv, nI_clamp hk, ic_tLu]
theorem ic_p8 {f : Nat → Nat} {e v : Int32} (k x : Nat) (he : e = nI k) (hk : k < 2 ^ 31) (hv : v = nI (x / 8)) : upd (ic_t8 f) e.toNatClampNeg v = ic_t8 (ic_u f k x) := by
  rw [he, hv, nI_clamp hk, ic_t8u]
theorem ic_ps {f : Nat → Nat} {e v : Int32} (k x : Nat) (he : e = nI k) (hk : k < 2 ^ 31) (hx : x ≤ 3) (hv : v = nI x) : upd (ic_ts f) e.toNatClampNeg v = ic_ts (ic_u f k x) := by
  rw [he, hv, nI_clamp hk, ic_tsu hx]
/-- sums and products of a place -/
theorem ic_ma (a b c : Nat) : nI a * nI b + nI c = nI (a * b + c) := by rw [pk_mul, nI_add]
theorem ic_m2 (a : Nat) : nI a * 2 = nI (a * 2) := pk_mul a 2
theorem ic_m21 (a : Nat) : nI a * 2 + 1 = nI (a * 2 + 1) := ic_ma a 2 1
theorem ic_r {x : Int32} (a d : Nat) (hx : x = nI a) (ha : a < 2 ^ 31) (h0 : 0 < d) (hd : d < 2 ^ 31) : x - x / nI d * nI d = nI (a % d) := by
  rw [hx]; exact pk_rem ha h0 hd
theorem ic_slL {n : Nat} (h : n < 2 ^ 62) : (lN n &&& 31).toInt32 = nI (n % 32) := by
  have e : lN n &&& lN (2 ^ 5 - 1) = lN (n % 2 ^ 5) := wb_mask (by omega) (by decide)
  have e2 : (31 : Int64) = lN (2 ^ 5 - 1) := rfl
  rw [e2, e, lN_i]
theorem ic_sl {n : Nat} (h : n < 2 ^ 31) : nI n &&& 31 = nI (n % 32) := pk_andN (by omega) 5 (by decide)
theorem ic_s3 (n : Nat) : nI n &&& 3 = nI (n % 4) := by
  rw [pk_and (nI n) 2 (by decide)]
  have e : (nI n).toBitVec.toNat = n % 2 ^ 32 := rfl
  rw [e]
  congr 1
  omega
theorem ic_te (T i : Nat) : nI T - 32 + nI i = nI (T + i) - nI 32 := by
  rw [← nI_add, show nI 32 = (32 : Int32) from rfl]
  grind
theorem ic_tt {T i : Nat} (h : 32 ≤ T + i) : nI T - 32 + nI i = nI (T + i - 32) := by rw [ic_te, pk_sub h]
theorem ic_tn {T i : Nat} (h : T + i < 32) : nI T - 32 + nI i < 0 := by rw [ic_te]; exact pk_sneg (by decide) h
/-- T - 32 as an int, against a ticket -/
theorem ic_lo {T j : Nat} (hT : T < 2 ^ 30) (hj : j < 2 ^ 31) : nI T - 32 ≤ nI j ↔ T ≤ j + 32 := by
  rw [Int32.le_iff_toInt_le, show (32 : Int32) = nI 32 from rfl, pk_sub_toInt hT (by decide), nI_toInt hj]
  omega
/-- the same over longs: the ticket comes as an int -/
theorem ic_loL {T j : Nat} (hT : T < 2 ^ 30) (hj : j < 2 ^ 31) : lN T - 32 ≤ (nI j).toInt64 ↔ T ≤ j + 32 := by
  rw [nI_l hj]
  by_cases h : 32 ≤ T
  · rw [show (32 : Int64) = lN 32 from rfl, lN_sub h, pk_lLE (by omega) (by omega)]
    omega
  · have e : (lN T - 32).toInt = (T : Int) - 32 := by
      rw [Int64.toInt_sub, pk_lT (by omega), show (32 : Int64).toInt = 32 from by decide]
      exact Int.bmod_eq_of_le (by omega) (by omega)
    rw [Int64.le_iff_toInt_le, e, pk_lT (by omega)]
    omega
/-- what a ticket that is asked for may be -/
theorem ic_vc (t : Int32) (T : Nat) : (∃ j, j < T ∧ T ≤ j + 32 ∧ j < 2 ^ 31 ∧ t = nI j) ∨ t < 0 ∨ (∃ j, j < 2 ^ 31 ∧ t = nI j ∧ (T ≤ j ∨ j + 32 < T)) := by
  by_cases h : t < 0
  · exact Or.inr (Or.inl h)
  · obtain ⟨j, hj, e⟩ := nI_of h
    by_cases h1 : j < T
    · by_cases h2 : T ≤ j + 32
      · exact Or.inl ⟨j, h1, h2, hj, e⟩
      · exact Or.inr (Or.inr ⟨j, hj, e, Or.inr (by omega)⟩)
    · exact Or.inr (Or.inr ⟨j, hj, e, Or.inl (by omega)⟩)
/-- conditions on a place -/
theorem ic_cs {f : Nat → Nat} {e x : Int32} (s j : Nat) (he : e = nI s) (hx : x = nI j) (hs : s < 2 ^ 31) (hf : f s ≤ 4) (hj : j ≤ 3) : ic_ts f e.toNatClampNeg = x ↔ f s = j := by
  rw [ic_gs s he hs, hx]; exact ic_sv_eq hf hj
theorem ic_ce {f : Nat → Nat} {e x : Int32} (s j : Nat) (he : e = nI s) (hx : x = nI j) (hs : s < 2 ^ 31) (hf : f s < 2 ^ 31) (hj : j < 2 ^ 31) : ic_t f e.toNatClampNeg = x ↔ f s = j := by
  rw [ic_g s he hs, hx]; exact nI_eq hf hj
theorem ic_c8 {f : Nat → Nat} {e x : Int32} (s j : Nat) (he : e = nI s) (hx : x = nI j) (hs : s < 2 ^ 31) (hf : f s / 8 < 2 ^ 31) (hj : j < 2 ^ 31) : ic_t8 f e.toNatClampNeg = x ↔ f s / 8 = j := by
  rw [ic_g8 s he hs, hx]; exact nI_eq hf hj
theorem ic_inc {f : Nat → Nat} {e : Int32} (k : Nat) (he : e = nI k) (hk : k < 2 ^ 31) : ic_t f e.toNatClampNeg + 1 = nI (f k + 1) := by
  rw [ic_g k he hk]; exact nI_1 _
theorem ic_dec {f : Nat → Nat} {e : Int32} (k : Nat) (he : e = nI k) (hk : k < 2 ^ 31) (h0 : 1 ≤ f k) : ic_t f e.toNatClampNeg - 1 = nI (f k - 1) := by
  rw [ic_g k he hk]; exact pk_sub (b := 1) h0
theorem ic_nm1 {s : Nat} (h : s < 2 ^ 31) : ¬ nI s = -1 := by
  intro z
  have h2 : (nI s).toInt = s := nI_toInt h
  rw [z] at h2
  have h3 : (-1 : Int32).toInt = -1 := by decide
  omega
end
section
/-! the class: its readers -/
def ic_X (p : Nat → Nat → Nat) : St2 := (nI (p 25 0), nI (p 25 1), lN (p 25 2), lN (p 25 3), nI (p 25 4), ic_ts (p 0), ic_t (p 1), ic_t (p 2), ic_t (p 3), ic_t8 (p 3), ic_t (p 4), ic_t (p 5), ic_t (p 6), ic_tL (p 7), ic_t (p 8), ic_t (p 9), ic_t (p 10), ic_t (p 11), ic_t (p 12), ic_t (p 13), ic_t (p 14), ic_t (p 15), ic_t (p 16), ic_t (p 17), ic_t (p 18), ic_t (p 19), ic_t (p 20), ic_t (p 21), ic_t (p 22), ic_t (p 23), ic_t (p 24))
theorem ic_X_slotOf {post : Int32 → Prop} {x : Int64} (n : Nat) (hx : x = lN n) (hn : n < 2 ^ 62) (h : post (nI (n % 32))) : wpX_slotOf post () x := by
  unfold wpX_slotOf
  rw [hx, ic_slL hn]
  exact h
theorem ic_X_isPending {p : Nat → Nat → Nat} {s : Nat} {post : Int32 → Prop} (hs : s < 32) (hS : p 0 s ≤ 4) (h1 : p 0 s ≤ 1 → post 1) (h0 : ¬ p 0 s ≤ 1 → post 0) : wpX_isPending post (ic_X p) (nI s) := by
  have hi : vp_in (nI s) 32 := vp_in_nI hs (by decide)
  unfold wpX_isPending ic_X
  dsimp only
  refine And.intro hi (ek_if (ic_cs s 0 rfl rfl (by omega) hS (by decide)) (fun a => h1 (by omega)) (fun a => ?_))
  exact And.intro hi (ek_if (ic_cs s 1 rfl rfl (by omega) hS (by decide)) (fun b => h1 (by omega)) (fun b => h0 (by omega)))
theorem ic_X_kindOf {p : Nat → Nat → Nat} {s : Nat} {post : Int32 → Prop} (hs : s < 32) (hH : p 1 s < 4) (h : post (nI (p 1 s % 2))) : wpX_kindOf post (ic_X p) (nI s) := by
  unfold wpX_kindOf ic_X
  dsimp only
  refine And.intro (vp_in_nI hs (by decide)) (And.intro (by decide) ?_)
  exact ek_v (P := post) (ic_r (p 1 s) 2 (ic_g s rfl (by omega)) (by omega) (by decide) (by decide)) h
theorem ic_X_managerOf {p : Nat → Nat → Nat} {s h : Nat} {post : Int32 → Prop} (hs : s < 32) (hh : p 1 s = h) (hH : h < 4) (hp : post (nI (h / 2))) : wpX_managerOf post (ic_X p) (nI s) := by
  unfold wpX_managerOf ic_X
  dsimp only
  refine And.intro (vp_in_nI hs (by decide)) (And.intro (by decide) ?_)
  rw [ic_g s rfl (by omega), hh, show (2 : Int32) = nI 2 from rfl, pk_div (by omega) (by decide) (by decide)]
  exact hp
theorem ic_X_op {p : Nat → Nat → Nat} {c i : Nat} {post : Int32 → Prop} (hI : ic_J1 p) (hT : p 25 3 < 2 ^ 30) (hc : c < 4) (hi : i < 4) : ∀ d j : Nat, j + d = 32 →
    (ic_ff (p 25 3) (ic_pen p c i) d j = none → post (-1)) → (∀ s, ic_ff (p 25 3) (ic_pen p c i) d j = some s → post (nI s)) →
    wX_oldestPending_2 post (nI c) (nI i) (nI (p 25 0)) (nI (p 25 1)) (lN (p 25 2)) (lN (p 25 3)) (nI (p 25 4)) (ic_ts (p 0)) (ic_t (p 1)) (ic_t (p 2)) (ic_t (p 3)) (ic_t8 (p 3)) (ic_t (p 4)) (ic_t (p 5)) (ic_t (p 6)) (ic_tL (p 7)) (ic_t (p 8)) (ic_t (p 9)) (ic_t (p 10)) (ic_t (p 11)) (ic_t (p 12)) (ic_t (p 13)) (ic_t (p 14)) (ic_t (p 15)) (ic_t (p 16)) (ic_t (p 17)) (ic_t (p 18)) (ic_t (p 19)) (ic_t (p 20)) (ic_t (p 21)) (ic_t (p 22)) (ic_t (p 23)) (ic_t (p 24)) (d + 1) (nI j) := by
  intro d
  induction d with
  | zero =>
    intro j hj hn _
    exact pk_le 32 j (fun _ => hn rfl) (fun h => by omega)
  | succ d ih =>
    intro j hj hn hs
    refine pk_le 32 j (fun h => by omega) (fun h => ?_)
    refine ic_X_slotOf (p 25 3 + j) (by rw [nI_l (by omega), lN_add]) (by omega) ?_
    have h32 : (p 25 3 + j) % 32 < 32 := by omega
    have hL := hI _ h32
    have K : ¬ ic_pen p c i ((p 25 3 + j) % 32) = true → wX_oldestPending_2 post (nI c) (nI i) (nI (p 25 0)) (nI (p 25 1)) (lN (p 25 2)) (lN (p 25 3)) (nI (p 25 4)) (ic_ts (p 0)) (ic_t (p 1)) (ic_t (p 2)) (ic_t (p 3)) (ic_t8 (p 3)) (ic_t (p 4)) (ic_t (p 5)) (ic_t (p 6)) (ic_tL (p 7)) (ic_t (p 8)) (ic_t (p 9)) (ic_t (p 10)) (ic_t (p 11)) (ic_t (p 12)) (ic_t (p 13)) (ic_t (p 14)) (ic_t (p 15)) (ic_t (p 16)) (ic_t (p 17)) (ic_t (p 18)) (ic_t (p 19)) (ic_t (p 20)) (ic_t (p 21)) (ic_t (p 22)) (ic_t (p 23)) (ic_t (p 24)) (d + 1) (nI (j + 1)) := fun h =>
      ih (j + 1) (by omega) (fun z => hn (by rw [ic_ff_f h]; exact z)) (fun s z => hs s (by rw [ic_ff_f h]; exact z))
    have F : ic_pen p c i ((p 25 3 + j) % 32) = true → post (nI ((p 25 3 + j) % 32)) := fun h => hs _ (ic_ff_t h)
    generalize (p 25 3 + j) % 32 = s at *
    unfold ic_L at hL
    have hi32 : vp_in (nI s) 32 := vp_in_nI h32 (by decide)
    refine And.intro hi32 (ek_if (ic_ce s c rfl rfl (by omega) (by omega) (by omega)) (fun a => ?_) (fun a => ?_))
    · refine And.intro hi32 (ek_if (ic_ce s i rfl rfl (by omega) (by omega) (by omega)) (fun b => ?_) (fun b => ?_))
      · refine ic_X_isPending (p := p) h32 (by omega) (fun e => ?_) (fun e => ?_)
        · exact br_f (by decide) (F (decide_eq_true ⟨a, b, e⟩))
        · exact br_t rfl (nm_r (nI_1 j) (K (fun z => e (of_decide_eq_true z).2.2)))
      · exact nm_r (nI_1 j) (K (fun z => b (of_decide_eq_true z).2.1))
    · exact nm_r (nI_1 j) (K (fun z => a (of_decide_eq_true z).1))
theorem ic_X_oldestPending {p : Nat → Nat → Nat} {c i : Nat} {post : Int32 → Prop} (hI : ic_J1 p) (hT : p 25 3 < 2 ^ 30) (hc : c < 4) (hi : i < 4)
    (hn : ic_old p c i = none → post (-1)) (hs : ∀ s, ic_old p c i = some s → post (nI s)) : wpX_oldestPending post (ic_X p) (nI c) (nI i) := by
  unfold wpX_oldestPending ic_X
  dsimp only
  exact ⟨33, ic_X_op hI hT hc hi 32 0 rfl hn hs⟩
theorem ic_X_isEligible {p : Nat → Nat → Nat} {s : Nat} {post : Int32 → Prop} (hI : ic_J1 p) (hC : p 25 2 < 2 ^ 30) (hs : s < 32) (h1 : ic_eli p s = true → post 1) (h0 : ¬ ic_eli p s = true → post 0) : wpX_isEligible post (ic_X p) (nI s) := by
  have hL := hI s hs
  unfold ic_L at hL
  have hi : vp_in (nI s) 32 := vp_in_nI hs (by decide)
  have e28 : ∀ z : Nat, z ≤ 1 → (z = 1 ↔ (p 1 s % 2 = 0 ∨ p 5 s = p 4 s)) → wX_isEligible_28 post (nI s) (nI z) (nI (p 25 0)) (nI (p 25 1)) (lN (p 25 2)) (lN (p 25 3)) (nI (p 25 4)) (ic_ts (p 0)) (ic_t (p 1)) (ic_t (p 2)) (ic_t (p 3)) (ic_t8 (p 3)) (ic_t (p 4)) (ic_t (p 5)) (ic_t (p 6)) (ic_tL (p 7)) (ic_t (p 8)) (ic_t (p 9)) (ic_t (p 10)) (ic_t (p 11)) (ic_t (p 12)) (ic_t (p 13)) (ic_t (p 14)) (ic_t (p 15)) (ic_t (p 16)) (ic_t (p 17)) (ic_t (p 18)) (ic_t (p 19)) (ic_t (p 20)) (ic_t (p 21)) (ic_t (p 22)) (ic_t (p 23)) (ic_t (p 24)) := by
    intro z hz ez
    unfold wX_isEligible_28
    refine And.intro hi (ek_if (ic_cs s 1 rfl rfl (by omega) (by omega) (by decide)) (fun a => ?_) (fun a => h0 (fun e => a (of_decide_eq_true e).1)))
    refine pk_eq z 0 (fun b => h0 (fun e => ?_)) (fun b => ?_)
    · have := ez.mpr (of_decide_eq_true e).2.1
      omega
    · refine And.intro hi ?_
      rw [ic_gL s rfl (by omega)]
      refine ek_if (pk_lLT (by omega) (by omega)) (fun e => h0 (fun g => ?_)) (fun e => h1 (decide_eq_true ⟨a, ez.mp (by omega), by omega⟩))
      have := (of_decide_eq_true g).2.2
      omega
  unfold wpX_isEligible
  refine ic_X_kindOf (p := p) hs (by omega) ?_
  refine pk_eq (p 1 s % 2) 0 (fun a => ?_) (fun a => ?_)
  · exact e28 1 (by omega) ⟨fun _ => Or.inl a, fun _ => rfl⟩
  · refine And.intro hi (And.intro hi ?_)
    refine ek_if (ic_ce s (p 4 s) rfl (ic_g s rfl (by omega)) (by omega) (by omega) (by omega)) (fun b => ?_) (fun b => ?_)
    · exact e28 1 (by omega) ⟨fun _ => Or.inr b, fun _ => rfl⟩
    · exact e28 0 (by omega) ⟨fun z => by omega, fun z => by omega⟩
theorem ic_X_chl {p : Nat → Nat → Nat} {c : Nat} {post : Int32 → Prop} (hI : ic_Inv p) (hT : p 25 3 < 2 ^ 30) (hC : p 25 2 < 2 ^ 30) (hc : c < 4) : ∀ d j : Nat, j + d = 4 →
    (ic_chl p c d j = none → post (-1)) → (∀ s, ic_chl p c d j = some s → post (nI s)) → wX_chosenSlot_13 post (nI c) (nI (p 25 0)) (nI (p 25 1)) (lN (p 25 2)) (lN (p 25 3)) (nI (p 25 4)) (ic_ts (p 0)) (ic_t (p 1)) (ic_t (p 2)) (ic_t (p 3)) (ic_t8 (p 3)) (ic_t (p 4)) (ic_t (p 5)) (ic_t (p 6)) (ic_tL (p 7)) (ic_t (p 8)) (ic_t (p 9)) (ic_t (p 10)) (ic_t (p 11)) (ic_t (p 12)) (ic_t (p 13)) (ic_t (p 14)) (ic_t (p 15)) (ic_t (p 16)) (ic_t (p 17)) (ic_t (p 18)) (ic_t (p 19)) (ic_t (p 20)) (ic_t (p 21)) (ic_t (p 22)) (ic_t (p 23)) (ic_t (p 24)) (d + 1) (nI j) := by
  intro d
  induction d with
  | zero =>
    intro j hj hn _
    exact pk_le 4 j (fun _ => hn rfl) (fun h => by omega)
  | succ d ih =>
    intro j hj hn hs
    have h22 := (hI.2.2.2.2.2.2.1 c hc).1
    refine pk_le 4 j (fun h => by omega) (fun h => And.intro (vp_in_nI hc (by decide)) (And.intro (by decide) ?_))
    refine nm_r (ic_r (p 22 c + j) 4 (by rw [ic_g c rfl (by omega), nI_add]) (by omega) (by decide) (by decide)) ?_
    have nx : (ic_chl p c (d + 1) j = ic_chl p c d (j + 1)) → wX_chosenSlot_13 post (nI c) (nI (p 25 0)) (nI (p 25 1)) (lN (p 25 2)) (lN (p 25 3)) (nI (p 25 4)) (ic_ts (p 0)) (ic_t (p 1)) (ic_t (p 2)) (ic_t (p 3)) (ic_t8 (p 3)) (ic_t (p 4)) (ic_t (p 5)) (ic_t (p 6)) (ic_tL (p 7)) (ic_t (p 8)) (ic_t (p 9)) (ic_t (p 10)) (ic_t (p 11)) (ic_t (p 12)) (ic_t (p 13)) (ic_t (p 14)) (ic_t (p 15)) (ic_t (p 16)) (ic_t (p 17)) (ic_t (p 18)) (ic_t (p 19)) (ic_t (p 20)) (ic_t (p 21)) (ic_t (p 22)) (ic_t (p 23)) (ic_t (p 24)) (d + 1) (nI (j + 1)) := fun e =>
      ih (j + 1) (by omega) (fun z => hn (by rw [e]; exact z)) (fun s z => hs s (by rw [e]; exact z))
    refine ic_X_oldestPending (p := p) hI.1 hT hc (by omega) (fun ho => ?_) (fun s ho => ?_)
    · refine br_t rfl (nm_r (nI_1 j) (nx ?_))
      show (match ic_old p c ((p 22 c + j) % 4) with | none => ic_chl p c d (j + 1) | some s => if ic_eli p s = true then some s else ic_chl p c d (j + 1)) = _
      rw [ho]
    · have h32 := (ic_ff_ps ho).1
      have ec : ic_chl p c (d + 1) j = if ic_eli p s = true then some s else ic_chl p c d (j + 1) := by
        show (match ic_old p c ((p 22 c + j) % 4) with | none => ic_chl p c d (j + 1) | some s => if ic_eli p s = true then some s else ic_chl p c d (j + 1)) = _
        rw [ho]
      refine br_f (ic_nm1 (by omega)) ?_
      refine ic_X_isEligible (p := p) hI.1 hC h32 (fun e => ?_) (fun e => ?_)
      · exact br_f (by decide) (hs s (by rw [ec, if_pos e]))
      · exact br_t rfl (nm_r (nI_1 j) (nx (by rw [ec, if_neg e])))
theorem ic_X_chosenSlot {p : Nat → Nat → Nat} {c : Nat} {post : Int32 → Prop} (hI : ic_Inv p) (hT : p 25 3 < 2 ^ 30) (hC : p 25 2 < 2 ^ 30) (hc : c < 4)
    (hn : ic_cho p c = none → post (-1)) (hs : ∀ s, ic_cho p c = some s → post (nI s)) : wpX_chosenSlot post (ic_X p) (nI c) := by
  have h23 := (hI.2.2.2.2.2.2.1 c hc).2
  unfold wpX_chosenSlot ic_X
  dsimp only
  refine And.intro (vp_in_nI hc (by decide)) (ek_if (ic_ce c 0 rfl rfl (by omega) (by omega) (by decide)) (fun a => hn ?_) (fun a => ?_))
  · unfold ic_cho; rw [if_pos a]
  · have e : ic_cho p c = ic_chl p c 4 0 := by unfold ic_cho; rw [if_neg a]
    exact ⟨5, ic_X_chl hI hT hC hc 4 0 rfl (fun z => hn (by rw [e]; exact z)) (fun s z => hs s (by rw [e]; exact z))⟩
end
section
/-! the class: its answers and beats -/
theorem ic_X_fin22 {p : Nat → Nat → Nat} {s : Nat} {post : St2 → Prop} (hH : p 1 s < 4) (hA : p 3 s < 32) (h2 : ic_J2 p) (hs : s < 32) (h1 : p 0 s = 1) (x : Nat) (hx : x = if p 3 s / 8 = 3 then 3 else 2) (h : post (ic_X (ic_fin p s))) : wX_finish_22 post (nI s) (nI (p 3 s / 8)) (nI x) (nI s) (nI (p 25 0)) (nI (p 25 1)) (lN (p 25 2)) (lN (p 25 3)) (nI (p 25 4)) (ic_ts (p 0)) (ic_t (p 1)) (ic_t (p 2)) (ic_t (p 3)) (ic_t8 (p 3)) (ic_t (p 4)) (ic_t (p 5)) (ic_t (p 6)) (ic_tL (p 7)) (ic_t (p 8)) (ic_t (p 9)) (ic_t (p 10)) (ic_t (p 11)) (ic_t (p 12)) (ic_t (p 13)) (ic_t (p 14)) (ic_t (p 15)) (ic_t (p 16)) (ic_t (p 17)) (ic_t (p 18)) (ic_t (p 19)) (ic_t (p 20)) (ic_t (p 21)) (ic_t (p 22)) (ic_t (p 23)) (ic_t (p 24)) := by
  have hx3 : x ≤ 3 := by rw [hx]; split <;> omega
  have hi : vp_in (nI s) 32 := vp_in_nI hs (by decide)
  have hm : vp_in (nI (p 1 s / 2)) 2 := vp_in_nI (by omega) (by decide)
  have hq : vp_in (nI (p 3 s / 8)) 4 := vp_in_nI (by omega) (by decide)
  have a1 : 1 ≤ p 20 (p 1 s / 2) := by
    rw [h2.1 _ (by omega)]
    exact ic_cn_pos hs (decide_eq_true ⟨h1, rfl⟩)
  have a2 : 1 ≤ p 21 (p 3 s / 8) := by
    rw [h2.2 _ (by omega)]
    exact ic_cn_pos hs (decide_eq_true ⟨h1, rfl⟩)
  subst hx
  unfold wX_finish_22
  refine And.intro hi (nm_r (ic_ps s _ rfl (by omega) hx3 rfl) (And.intro hi (nm_r (ic_p s (p 25 4) rfl (by omega) rfl) (And.intro hi (nm_r (ic_p s (p 25 2) rfl (by omega) (lN_i _)) (nm_r (nI_1 _) ?_))))))
  refine ic_X_managerOf (p := ic_pu (ic_pu (ic_pu (ic_pu p 0 s (if p 3 s / 8 = 3 then 3 else 2)) 8 s (p 25 4)) 9 s (p 25 2)) 25 4 (p 25 4 + 1)) (h := p 1 s) hs rfl (by omega) ?_
  refine And.intro hm (And.intro hm (nm_r (ic_p (p 1 s / 2) (p 20 (p 1 s / 2) - 1) rfl (by omega) (ic_dec _ rfl (by omega) a1)) ?_))
  refine And.intro hq (And.intro hq (nm_r (ic_p (p 3 s / 8) (p 21 (p 3 s / 8) - 1) rfl (by omega) (ic_dec _ rfl (by omega) a2)) ?_))
  exact h
theorem ic_X_finish {p : Nat → Nat → Nat} {s : Nat} {post : St2 → Prop} (hH : p 1 s < 4) (hA : p 3 s < 32) (h2 : ic_J2 p) (hs : s < 32) (h1 : p 0 s = 1) (h : post (ic_X (ic_fin p s))) : wpX_finish post (ic_X p) (nI s) := by
  have hi : vp_in (nI s) 32 := vp_in_nI hs (by decide)
  unfold wpX_finish
  refine And.intro hi (nm_r (ic_g8 s rfl (by omega)) ?_)
  exact pk_eq (p 3 s / 8) 3 (fun e => ic_X_fin22 hH hA h2 hs h1 3 (if_pos e).symm h) (fun e => ic_X_fin22 hH hA h2 hs h1 2 (if_neg e).symm h)
theorem ic_X_sv9 {p : Nat → Nat → Nat} {s : Nat} {post : St2 → Prop} (hI : ic_J1 p) (hs : s < 32) (h3 : p 3 s / 8 ≠ 3) (h : post (ic_X (ic_sto p s))) : ∀ d i : Nat, i + d = p 4 s →
    wX_storeValues_9 post (nI s) (nI (p 4 s)) (nI (p 25 0)) (nI (p 25 1)) (lN (p 25 2)) (lN (p 25 3)) (nI (p 25 4)) (d + 1) (nI i) (ic_ts ((ic_pf p 17 (ic_stw (p 17) (p 10) (p 3 s) (s * 4) i)) 0)) (ic_t ((ic_pf p 17 (ic_stw (p 17) (p 10) (p 3 s) (s * 4) i)) 1)) (ic_t ((ic_pf p 17 (ic_stw (p 17) (p 10) (p 3 s) (s * 4) i)) 2)) (ic_t ((ic_pf p 17 (ic_stw (p 17) (p 10) (p 3 s) (s * 4) i)) 3)) (ic_t8 ((ic_pf p 17 (ic_stw (p 17) (p 10) (p 3 s) (s * 4) i)) 3)) (ic_t ((ic_pf p 17 (ic_stw (p 17) (p 10) (p 3 s) (s * 4) i)) 4)) (ic_t ((ic_pf p 17 (ic_stw (p 17) (p 10) (p 3 s) (s * 4) i)) 5)) (ic_t ((ic_pf p 17 (ic_stw (p 17) (p 10) (p 3 s) (s * 4) i)) 6)) (ic_tL ((ic_pf p 17 (ic_stw (p 17) (p 10) (p 3 s) (s * 4) i)) 7)) (ic_t ((ic_pf p 17 (ic_stw (p 17) (p 10) (p 3 s) (s * 4) i)) 8)) (ic_t ((ic_pf p 17 (ic_stw (p 17) (p 10) (p 3 s) (s * 4) i)) 9)) (ic_t ((ic_pf p 17 (ic_stw (p 17) (p 10) (p 3 s) (s * 4) i)) 10)) (ic_t ((ic_pf p 17 (ic_stw (p 17) (p 10) (p 3 s) (s * 4) i)) 11)) (ic_t ((ic_pf p 17 (ic_stw (p 17) (p 10) (p 3 s) (s * 4) i)) 12)) (ic_t ((ic_pf p 17 (ic_stw (p 17) (p 10) (p 3 s) (s * 4) i)) 13)) (ic_t ((ic_pf p 17 (ic_stw (p 17) (p 10) (p 3 s) (s * 4) i)) 14)) (ic_t ((ic_pf p 17 (ic_stw (p 17) (p 10) (p 3 s) (s * 4) i)) 15)) (ic_t ((ic_pf p 17 (ic_stw (p 17) (p 10) (p 3 s) (s * 4) i)) 16)) (ic_t ((ic_pf p 17 (ic_stw (p 17) (p 10) (p 3 s) (s * 4) i)) 17)) (ic_t ((ic_pf p 17 (ic_stw (p 17) (p 10) (p 3 s) (s * 4) i)) 18)) (ic_t ((ic_pf p 17 (ic_stw (p 17) (p 10) (p 3 s) (s * 4) i)) 19)) (ic_t ((ic_pf p 17 (ic_stw (p 17) (p 10) (p 3 s) (s * 4) i)) 20)) (ic_t ((ic_pf p 17 (ic_stw (p 17) (p 10) (p 3 s) (s * 4) i)) 21)) (ic_t ((ic_pf p 17 (ic_stw (p 17) (p 10) (p 3 s) (s * 4) i)) 22)) (ic_t ((ic_pf p 17 (ic_stw (p 17) (p 10) (p 3 s) (s * 4) i)) 23)) (ic_t ((ic_pf p 17 (ic_stw (p 17) (p 10) (p 3 s) (s * 4) i)) 24)) := by
  have hL := hI s hs
  unfold ic_L at hL
  have hi : vp_in (nI s) 32 := vp_in_nI hs (by decide)
  intro d
  induction d with
  | zero =>
    intro i e
    refine pk_le (p 4 s) i (fun _ => ?_) (fun h => by omega)
    have e2 : i = p 4 s := by omega
    subst e2
    exact h
  | succ d ih =>
    intro i e
    refine pk_le (p 4 s) i (fun h => by omega) (fun h => And.intro hi (And.intro ?_ (And.intro ?_ ?_)))
    · rw [show nI s * 4 + nI i = nI (s * 4 + i) from ic_ma s 4 i]
      exact vp_in_nI (by omega) (by decide)
    · rw [ic_g s rfl (by omega), nI_add]
      exact vp_in_nI (by show p 3 s + i < 24; omega) (by decide)
    · refine nm_r (ic_p (p 3 s + i) (p 10 (s * 4 + i)) (by rw [ic_g s rfl (by omega), nI_add]; rfl) (by omega) (ic_g (s * 4 + i) (ic_ma s 4 i) (by omega))) (nm_r (nI_1 i) ?_)
      exact ih (i + 1) (by omega)
theorem ic_X_storeValues {p : Nat → Nat → Nat} {s : Nat} {post : St2 → Prop} (hI : ic_J1 p) (hs : s < 32) (h3 : p 3 s / 8 ≠ 3) (h : post (ic_X (ic_sto p s))) : wpX_storeValues post (ic_X p) (nI s) := by
  unfold wpX_storeValues
  refine And.intro (vp_in_nI hs (by decide)) (nm_r (ic_g s rfl (by omega)) ?_)
  exact ⟨_, ic_X_sv9 hI hs h3 h (p 4 s) 0 (by omega)⟩
theorem ic_X_wr27 {p : Nat → Nat → Nat} {c s i : Nat} {post : St2 → Prop} (hI : ic_J1 p) (h2 : ic_J2 p) (hs : s < 32) (hc : c < 4) (h1 : p 0 s = 1) (hi : p 2 s = i) (h : post (ic_X (ic_pu (ic_fin p s) 22 c ((i + 1) % 4)))) : wX_giveWriteResponse_27 post (nI c) (nI s) (nI (p 25 0)) (nI (p 25 1)) (lN (p 25 2)) (lN (p 25 3)) (nI (p 25 4)) (ic_ts (p 0)) (ic_t (p 1)) (ic_t (p 2)) (ic_t (p 3)) (ic_t8 (p 3)) (ic_t (p 4)) (ic_t (p 5)) (ic_t (p 6)) (ic_tL (p 7)) (ic_t (p 8)) (ic_t (p 9)) (ic_t (p 10)) (ic_t (p 11)) (ic_t (p 12)) (ic_t (p 13)) (ic_t (p 14)) (ic_t (p 15)) (ic_t (p 16)) (ic_t (p 17)) (ic_t (p 18)) (ic_t (p 19)) (ic_t (p 20)) (ic_t (p 21)) (ic_t (p 22)) (ic_t (p 23)) (ic_t (p 24)) := by
  have hL := hI s hs
  unfold ic_L at hL
  subst hi
  unfold wX_giveWriteResponse_27
  refine ic_X_finish (p := p) (by omega) (by omega) h2 hs h1 ?_
  refine And.intro (vp_in_nI hs (by decide)) (And.intro (by decide) (And.intro (vp_in_nI hc (by decide)) ?_))
  refine nm_r (ic_p c ((p 2 s + 1) % 4) rfl (by omega) (ic_r (p 2 s + 1) 4 (ic_inc s rfl (by omega)) (by omega) (by decide) (by decide))) ?_
  exact h
theorem ic_X_wr {p : Nat → Nat → Nat} {c : Nat} {post : St2 → Prop} (hI : ic_Inv p) (hT : p 25 3 < 2 ^ 30) (hC : p 25 2 < 2 ^ 30) (hc : c < 4) (h : post (ic_X (ic_wr p c))) : wpX_giveWriteResponse post (ic_X p) (nI c) := by
  unfold wpX_giveWriteResponse
  refine ic_X_chosenSlot (p := p) hI hT hC hc (fun e => ?_) (fun s e => ?_)
  · refine br_t rfl ?_
    unfold ic_wr at h
    rw [e] at h
    exact h
  · obtain ⟨hs, hH, h1, _, _⟩ := ic_cho_ps e
    have hL := hI.1 s hs
    unfold ic_L at hL
    unfold ic_wr at h
    rw [e] at h
    dsimp only at h
    unfold ic_wr1 at h
    refine br_f (ic_nm1 (by omega)) (And.intro (vp_in_nI hs (by decide)) ?_)
    refine ek_if (ic_c8 s 3 rfl rfl (by omega) (by omega) (by decide)) (fun g => ?_) (fun g => ?_)
    · rw [if_pos g] at h
      exact ic_X_wr27 hI.1 hI.2.1 hs hc h1 rfl h
    · rw [if_neg g] at h
      refine ic_X_storeValues (p := p) hI.1 hs g ?_
      exact ic_X_wr27 (p := ic_sto p s) hI.1 hI.2.1 hs hc h1 rfl h
theorem ic_X_rd98 {p : Nat → Nat → Nat} {c s i : Nat} {post : St2 → Prop} (hs : s < 32) (hc : c < 4) (hi : p 2 s = i) (hi4 : i < 4) (h : post (ic_X (ic_pu p 22 c ((i + 1) % 4)))) : wX_giveReadBeat_98 post (nI c) (nI s) (nI (p 25 0)) (nI (p 25 1)) (lN (p 25 2)) (lN (p 25 3)) (nI (p 25 4)) (ic_ts (p 0)) (ic_t (p 1)) (ic_t (p 2)) (ic_t (p 3)) (ic_t8 (p 3)) (ic_t (p 4)) (ic_t (p 5)) (ic_t (p 6)) (ic_tL (p 7)) (ic_t (p 8)) (ic_t (p 9)) (ic_t (p 10)) (ic_t (p 11)) (ic_t (p 12)) (ic_t (p 13)) (ic_t (p 14)) (ic_t (p 15)) (ic_t (p 16)) (ic_t (p 17)) (ic_t (p 18)) (ic_t (p 19)) (ic_t (p 20)) (ic_t (p 21)) (ic_t (p 22)) (ic_t (p 23)) (ic_t (p 24)) := by
  subst hi
  unfold wX_giveReadBeat_98
  refine And.intro (vp_in_nI hs (by decide)) (And.intro (by decide) (And.intro (vp_in_nI hc (by decide)) ?_))
  refine nm_r (ic_p c ((p 2 s + 1) % 4) rfl (by omega) (ic_r (p 2 s + 1) 4 (ic_inc s rfl (by omega)) (by omega) (by decide) (by decide))) ?_
  exact h
theorem ic_X_rd67 {p : Nat → Nat → Nat} {c s x : Nat} {post : St2 → Prop} (hI : ic_J1 p) (h2 : ic_J2 p) (hs : s < 32) (hc : c < 4) (h1 : p 0 s = 1) (hH : p 1 s % 2 = 0) (hx : x = if p 3 s / 8 = 3 then 0 else p 17 (p 3 s + p 5 s)) (h : post (ic_X (ic_rd1 p c s))) : wX_giveReadBeat_67 post (nI c) (nI s) (nI x) (nI (s * 4 + p 5 s)) (nI (p 25 0)) (nI (p 25 1)) (lN (p 25 2)) (lN (p 25 3)) (nI (p 25 4)) (ic_ts (p 0)) (ic_t (p 1)) (ic_t (p 2)) (ic_t (p 3)) (ic_t8 (p 3)) (ic_t (p 4)) (ic_t (p 5)) (ic_t (p 6)) (ic_tL (p 7)) (ic_t (p 8)) (ic_t (p 9)) (ic_t (p 10)) (ic_t (p 11)) (ic_t (p 12)) (ic_t (p 13)) (ic_t (p 14)) (ic_t (p 15)) (ic_t (p 16)) (ic_t (p 17)) (ic_t (p 18)) (ic_t (p 19)) (ic_t (p 20)) (ic_t (p 21)) (ic_t (p 22)) (ic_t (p 23)) (ic_t (p 24)) := by
  have hL := hI s hs
  unfold ic_L at hL
  have hi : vp_in (nI s) 32 := vp_in_nI hs (by decide)
  subst hx
  unfold wX_giveReadBeat_67
  refine And.intro (vp_in_nI (by omega) (by decide)) (nm_r (ic_p (s * 4 + p 5 s) _ rfl (by omega) rfl) (And.intro hi (And.intro hi (nm_r (ic_p s (p 5 s + 1) rfl (by omega) (ic_inc s rfl (by omega))) (And.intro hi (And.intro hi ?_))))))
  unfold ic_rd1 at h
  refine ek_if (ic_ce s (p 4 s) rfl (ic_g s rfl (by omega)) (by omega) (by rw [ic_us]; omega) (by omega)) (fun e => ?_) (fun e => ?_)
  · rw [ic_us] at e
    rw [if_pos e] at h
    refine ic_X_finish (p := ic_bt p s) (by show p 1 s < 4; omega) (by show p 3 s < 32; omega) h2 hs h1 ?_
    exact ic_X_rd98 (p := ic_fin (ic_bt p s) s) hs hc rfl (by show p 2 s < 4; omega) h
  · rw [ic_us] at e
    rw [if_neg e] at h
    exact ic_X_rd98 (p := ic_bt p s) hs hc rfl (by show p 2 s < 4; omega) h
theorem ic_X_rd {p : Nat → Nat → Nat} {c : Nat} {post : St2 → Prop} (hI : ic_Inv p) (hT : p 25 3 < 2 ^ 30) (hC : p 25 2 < 2 ^ 30) (hc : c < 4) (h0 : c % 2 = 0) (h : post (ic_X (ic_rd p c))) : wpX_giveReadBeat post (ic_X p) (nI c) := by
  unfold wpX_giveReadBeat
  refine ic_X_chosenSlot (p := p) hI hT hC hc (fun e => ?_) (fun s e => ?_)
  · refine br_t rfl ?_
    unfold ic_rd at h
    rw [e] at h
    exact h
  · obtain ⟨hs, hH, h1, _, _⟩ := ic_cho_ps e
    have hL := hI.1 s hs
    unfold ic_L at hL
    unfold ic_rd at h
    rw [e] at h
    dsimp only at h
    have hi : vp_in (nI s) 32 := vp_in_nI hs (by decide)
    have e4 : nI s * 4 + nI (p 5 s) = nI (s * 4 + p 5 s) := ic_ma s 4 (p 5 s)
    refine br_f (ic_nm1 (by omega)) (And.intro hi (nm_r (ic_g s rfl (by omega)) (And.intro hi ?_)))
    refine ek_if (ic_c8 s 3 rfl rfl (by omega) (by omega) (by decide)) (fun g => ?_) (fun g => ?_)
    · unfold wX_giveReadBeat_34
      refine br_f (by decide) ?_
      rw [e4]
      exact ic_X_rd67 hI.1 hI.2.1 hs hc h1 (by omega) (if_pos g).symm h
    · unfold wX_giveReadBeat_34
      have e3 : ic_t (p 3) (nI s).toNatClampNeg + nI (p 5 s) = nI (p 3 s + p 5 s) := by rw [ic_g s rfl (by omega), nI_add]
      refine br_t rfl (And.intro hi ?_)
      rw [e3, e4, ic_g (p 3 s + p 5 s) rfl (by omega)]
      exact And.intro (vp_in_nI (by omega) (by decide)) (ic_X_rd67 hI.1 hI.2.1 hs hc h1 (by omega) (if_neg g).symm h)
theorem ic_X_ouf {p : Nat → Nat → Nat} {m : Nat} {post : Int32 → Prop} (hI : ic_J1 p) (hT : p 25 3 < 2 ^ 30) (hm : m < 2) : ∀ d j : Nat, j + d = 32 →
    (ic_ff (p 25 3) (ic_unp p m) d j = none → post (-1)) → (∀ s, ic_ff (p 25 3) (ic_unp p m) d j = some s → post (nI s)) →
    wX_oldestUnfilledWrite_8 post (nI (m * 2 + 1)) (nI (p 25 0)) (nI (p 25 1)) (lN (p 25 2)) (lN (p 25 3)) (nI (p 25 4)) (ic_ts (p 0)) (ic_t (p 1)) (ic_t (p 2)) (ic_t (p 3)) (ic_t8 (p 3)) (ic_t (p 4)) (ic_t (p 5)) (ic_t (p 6)) (ic_tL (p 7)) (ic_t (p 8)) (ic_t (p 9)) (ic_t (p 10)) (ic_t (p 11)) (ic_t (p 12)) (ic_t (p 13)) (ic_t (p 14)) (ic_t (p 15)) (ic_t (p 16)) (ic_t (p 17)) (ic_t (p 18)) (ic_t (p 19)) (ic_t (p 20)) (ic_t (p 21)) (ic_t (p 22)) (ic_t (p 23)) (ic_t (p 24)) (d + 1) (nI j) := by
  intro d
  induction d with
  | zero =>
    intro j hj hn _
    exact pk_le 32 j (fun _ => hn rfl) (fun h => by omega)
  | succ d ih =>
    intro j hj hn hs
    refine pk_le 32 j (fun h => by omega) (fun h => ?_)
    refine ic_X_slotOf (p 25 3 + j) (by rw [nI_l (by omega), lN_add]) (by omega) ?_
    have h32 : (p 25 3 + j) % 32 < 32 := by omega
    have hL := hI _ h32
    have K : ¬ ic_unp p m ((p 25 3 + j) % 32) = true → wX_oldestUnfilledWrite_8 post (nI (m * 2 + 1)) (nI (p 25 0)) (nI (p 25 1)) (lN (p 25 2)) (lN (p 25 3)) (nI (p 25 4)) (ic_ts (p 0)) (ic_t (p 1)) (ic_t (p 2)) (ic_t (p 3)) (ic_t8 (p 3)) (ic_t (p 4)) (ic_t (p 5)) (ic_t (p 6)) (ic_tL (p 7)) (ic_t (p 8)) (ic_t (p 9)) (ic_t (p 10)) (ic_t (p 11)) (ic_t (p 12)) (ic_t (p 13)) (ic_t (p 14)) (ic_t (p 15)) (ic_t (p 16)) (ic_t (p 17)) (ic_t (p 18)) (ic_t (p 19)) (ic_t (p 20)) (ic_t (p 21)) (ic_t (p 22)) (ic_t (p 23)) (ic_t (p 24)) (d + 1) (nI (j + 1)) := fun h =>
      ih (j + 1) (by omega) (fun z => hn (by rw [ic_ff_f h]; exact z)) (fun s z => hs s (by rw [ic_ff_f h]; exact z))
    have F : ic_unp p m ((p 25 3 + j) % 32) = true → post (nI ((p 25 3 + j) % 32)) := fun h => hs _ (ic_ff_t h)
    generalize (p 25 3 + j) % 32 = s at *
    unfold ic_L at hL
    have hi32 : vp_in (nI s) 32 := vp_in_nI h32 (by decide)
    refine And.intro hi32 (ek_if (ic_ce s (m * 2 + 1) rfl rfl (by omega) (by omega) (by omega)) (fun a => ?_) (fun a => ?_))
    · refine And.intro hi32 (And.intro hi32 (pk_le (p 4 s) (p 5 s) (fun b => ?_) (fun b => ?_) (ic_g s rfl (by omega)) (ic_g s rfl (by omega))))
      · exact nm_r (nI_1 j) (K (fun z => by have := (of_decide_eq_true z).2; omega))
      · exact F (decide_eq_true ⟨a, b⟩)
    · exact nm_r (nI_1 j) (K (fun z => a (of_decide_eq_true z).1))
theorem ic_X_oldestUnfilledWrite {p : Nat → Nat → Nat} {m : Nat} {post : Int32 → Prop} (hI : ic_J1 p) (hT : p 25 3 < 2 ^ 30) (hm : m < 2)
    (hn : ic_unf p m = none → post (-1)) (hs : ∀ s, ic_unf p m = some s → post (nI s)) : wpX_oldestUnfilledWrite post (ic_X p) (nI m) := by
  unfold wpX_oldestUnfilledWrite ic_X
  dsimp only
  exact nm_r (ic_m21 m) ⟨33, ic_X_ouf hI hT hm 32 0 rfl hn hs⟩
theorem ic_X_mv {p : Nat → Nat → Nat} {m : Nat} {post : St2 → Prop} (hI : ic_Inv p) (hT : p 25 3 < 2 ^ 30) (hC : p 25 2 < 2 ^ 30) (hm : m < 2) (h : post (ic_X (ic_mv p m))) : wpX_moveWriteData post (ic_X p) (nI m) := by
  unfold wpX_moveWriteData
  refine ic_X_oldestUnfilledWrite (p := p) hI.1 hT hm (fun e => ?_) (fun s e => ?_)
  · refine br_t rfl ?_
    unfold ic_mv at h
    rw [e] at h
    exact h
  · obtain ⟨hs, hH, h5⟩ := ic_unf_ps e
    have hL := hI.1 s hs
    unfold ic_L at hL
    have hW := hI.2.2.2.1 m hm
    unfold ic_mv at h
    rw [e] at h
    dsimp only at h
    have hi : vp_in (nI s) 32 := vp_in_nI hs (by decide)
    have hi2 : vp_in (nI m) 2 := vp_in_nI hm (by decide)
    refine br_f (ic_nm1 (by omega)) (And.intro hi ?_)
    refine ek_if (ic_cs s 1 rfl rfl (by omega) (by omega) (by decide)) (fun a => And.intro hi2 ?_) (fun a => ?_)
    · refine ek_if (ic_ce m 0 rfl rfl (by omega) (by omega) (by decide)) (fun b => ?_) (fun b => ?_)
      · rw [if_neg (fun z => z.2 b)] at h
        exact h
      · rw [if_pos ⟨a, b⟩] at h
        have e8 : nI m * 8 + ic_t (p 15) (nI m).toNatClampNeg = nI (m * 8 + p 15 m) := by rw [ic_g m rfl (by omega)]; exact ic_ma m 8 (p 15 m)
        have e4 : nI s * 4 + ic_t (p 5) (nI s).toNatClampNeg = nI (s * 4 + p 5 s) := by rw [ic_g s rfl (by omega)]; exact ic_ma s 4 (p 5 s)
        refine And.intro hi (And.intro hi2 (And.intro (pk_in (m * 8 + p 15 m) 16 (by omega) e8) (And.intro (pk_in (s * 4 + p 5 s) 128 (by omega) e4) ?_)))
        refine nm_r (ic_p (s * 4 + p 5 s) (p 14 (m * 8 + p 15 m)) e4 (by omega) (ic_g _ e8 (by omega))) (And.intro hi2 (And.intro (by decide) (And.intro hi2 ?_)))
        refine nm_r (ic_p m ((p 15 m + 1) % 8) rfl (by omega) (ic_r (p 15 m + 1) 8 (ic_inc m rfl (by omega)) (by omega) (by decide) (by decide))) (And.intro hi2 (And.intro hi2 ?_))
        refine nm_r (ic_p m (p 16 m - 1) rfl (by omega) (ic_dec m rfl (by omega) (by omega))) (And.intro hi (And.intro hi ?_))
        refine nm_r (ic_p s (p 5 s + 1) rfl (by omega) (ic_inc s rfl (by omega))) (And.intro hi (And.intro hi ?_))
        unfold ic_mv1 at h
        refine ek_if (ic_ce s (p 4 s) rfl (ic_g s rfl (by omega)) (by omega) (by rw [ic_us]; omega) (by omega)) (fun c => ?_) (fun c => ?_)
        · rw [ic_us] at c
          rw [if_pos c] at h
          refine And.intro hi (And.intro hi (nm_r (ic_pL s (p 25 2 + p 6 s) rfl (by omega) (by rw [ic_g s rfl (by omega), nI_l (by omega), lN_add])) ?_))
          exact h
        · rw [ic_us] at c
          rw [if_neg c] at h
          exact h
    · rw [if_neg (fun z => a z.1)] at h
      exact h
end
section
/-! the class: arbitration and the cycle -/
theorem ic_X_headOf {p : Nat → Nat → Nat} {c : Nat} {post : Int32 → Prop} (h3 : ic_J3 p) (hc : c < 4) (hn : p 13 c = 0 → post (-1)) (hs : p 13 c ≠ 0 → post (nI (ic_hd p c))) : wpX_headOf post (ic_X p) (nI c) := by
  obtain ⟨K, h4, hn4, _⟩ := h3 c hc
  have hi : vp_in (nI c) 4 := vp_in_nI hc (by decide)
  have e : nI c * 4 + ic_t (p 12) (nI c).toNatClampNeg = nI (c * 4 + p 12 c) := by rw [ic_g c rfl (by omega)]; exact ic_ma c 4 (p 12 c)
  unfold wpX_headOf ic_X
  dsimp only
  refine And.intro hi (ek_if (ic_ce c 0 rfl rfl (by omega) (by omega) (by decide)) (fun a => hn a) (fun a => ?_))
  refine And.intro hi (And.intro (pk_in (c * 4 + p 12 c) 16 (by omega) e) ?_)
  rw [ic_g _ e (by omega)]
  exact hs a
theorem ic_X_iae {p : Nat → Nat → Nat} {h : Nat} {post : Int32 → Prop} (hI : ic_J1 p) (hh : h < 32) : ∀ d j : Nat, j + d = 32 →
    (ic_ff 0 (ic_elp p h) d j = none → post 0) → (∀ s, ic_ff 0 (ic_elp p h) d j = some s → post 1) →
    wX_isActiveElsewhere_2 post (nI h) (nI (p 25 0)) (nI (p 25 1)) (lN (p 25 2)) (lN (p 25 3)) (nI (p 25 4)) (ic_ts (p 0)) (ic_t (p 1)) (ic_t (p 2)) (ic_t (p 3)) (ic_t8 (p 3)) (ic_t (p 4)) (ic_t (p 5)) (ic_t (p 6)) (ic_tL (p 7)) (ic_t (p 8)) (ic_t (p 9)) (ic_t (p 10)) (ic_t (p 11)) (ic_t (p 12)) (ic_t (p 13)) (ic_t (p 14)) (ic_t (p 15)) (ic_t (p 16)) (ic_t (p 17)) (ic_t (p 18)) (ic_t (p 19)) (ic_t (p 20)) (ic_t (p 21)) (ic_t (p 22)) (ic_t (p 23)) (ic_t (p 24)) (d + 1) (nI j) := by
  have hLh := hI h hh
  unfold ic_L at hLh
  intro d
  induction d with
  | zero =>
    intro j hj hn _
    exact pk_le 32 j (fun _ => hn rfl) (fun h => by omega)
  | succ d ih =>
    intro j hj hn hs
    refine pk_le 32 j (fun h => by omega) (fun hlt => ?_)
    have ej : (0 + j) % 32 = j := by omega
    have K : ¬ ic_elp p h j = true → wX_isActiveElsewhere_2 post (nI h) (nI (p 25 0)) (nI (p 25 1)) (lN (p 25 2)) (lN (p 25 3)) (nI (p 25 4)) (ic_ts (p 0)) (ic_t (p 1)) (ic_t (p 2)) (ic_t (p 3)) (ic_t8 (p 3)) (ic_t (p 4)) (ic_t (p 5)) (ic_t (p 6)) (ic_tL (p 7)) (ic_t (p 8)) (ic_t (p 9)) (ic_t (p 10)) (ic_t (p 11)) (ic_t (p 12)) (ic_t (p 13)) (ic_t (p 14)) (ic_t (p 15)) (ic_t (p 16)) (ic_t (p 17)) (ic_t (p 18)) (ic_t (p 19)) (ic_t (p 20)) (ic_t (p 21)) (ic_t (p 22)) (ic_t (p 23)) (ic_t (p 24)) (d + 1) (nI (j + 1)) := fun z0 =>
      ih (j + 1) (by omega) (fun z => hn (by rw [ic_ff_f (by rw [ej]; exact z0)]; exact z)) (fun s z => hs s (by rw [ic_ff_f (by rw [ej]; exact z0)]; exact z))
    have F : ic_elp p h j = true → post 1 := fun z => hs ((0 + j) % 32) (ic_ff_t (by rw [ej]; exact z))
    have hL := hI j hlt
    unfold ic_L at hL
    have hi : vp_in (nI j) 32 := vp_in_nI hlt (by decide)
    have hi2 : vp_in (nI h) 32 := vp_in_nI hh (by decide)
    refine And.intro hi (ek_if (ic_cs j 1 rfl rfl (by omega) (by omega) (by decide)) (fun a => ?_) (fun a => ?_))
    · refine And.intro hi (And.intro hi2 (ek_if (ic_ce j (p 1 h) rfl (ic_g h rfl (by omega)) (by omega) (by omega) (by omega)) (fun b => ?_) (fun b => ?_)))
      · refine And.intro hi (And.intro hi2 (ek_if (ic_ce j (p 2 h) rfl (ic_g h rfl (by omega)) (by omega) (by omega) (by omega)) (fun c => ?_) (fun c => ?_)))
        · refine And.intro hi (And.intro hi2 (ek_if (ic_c8 j (p 3 h / 8) rfl (ic_g8 h rfl (by omega)) (by omega) (by omega) (by omega)) (fun e => ?_) (fun e => ?_)))
          · exact nm_r (nI_1 j) (K (fun z => (of_decide_eq_true z).2.2.2 e))
          · exact F (decide_eq_true ⟨a, b, c, e⟩)
        · exact nm_r (nI_1 j) (K (fun z => c (of_decide_eq_true z).2.2.1))
      · exact nm_r (nI_1 j) (K (fun z => b (of_decide_eq_true z).2.1))
    · exact nm_r (nI_1 j) (K (fun z => a (of_decide_eq_true z).1))
theorem ic_X_isActiveElsewhere {p : Nat → Nat → Nat} {h : Nat} {post : Int32 → Prop} (hI : ic_J1 p) (hh : h < 32) (h0 : ic_els p h = none → post 0) (h1 : ic_els p h ≠ none → post 1) : wpX_isActiveElsewhere post (ic_X p) (nI h) := by
  unfold wpX_isActiveElsewhere ic_X
  dsimp only
  exact ⟨33, ic_X_iae hI hh 32 0 rfl h0 (fun s z => h1 (by unfold ic_els; rw [z]; exact fun w => by cases w))⟩
theorem ic_X_isCandidate {p : Nat → Nat → Nat} {m s k : Nat} {post : Int32 → Prop} (hI : ic_Inv p) (hm : m < 2) (hs : s < 4) (hk : k < 2) (h1 : ic_can p m s k = true → post 1) (h0 : ¬ ic_can p m s k = true → post 0) : wpX_isCandidate post (ic_X p) (nI m) (nI s) (nI k) := by
  obtain ⟨j1, j2, j3, j4⟩ := hI
  have hl := j4.2.2.2.2.2
  unfold wpX_isCandidate
  dsimp only [ic_X]
  rw [show nI m * 2 + nI k = nI (m * 2 + k) from ic_ma m 2 k]
  refine ic_X_headOf (p := p) j3 (by omega) (fun a => ?_) (fun a => ?_)
  · exact br_t rfl (h0 (fun z => (ic_can_ps z).1 a))
  · obtain ⟨g1, _, _, _⟩ := ic_hd_ps j3 (c := m * 2 + k) (by omega) a
    have hL := j1 _ g1
    unfold ic_L at hL
    have b1 : p 20 m ≤ 32 := by rw [j2.1 m hm]; exact ic_cn_le _ 32
    have b2 : p 21 s ≤ 32 := by rw [j2.2 s hs]; exact ic_cn_le _ 32
    refine br_f (ic_nm1 (by omega)) (And.intro (vp_in_nI g1 (by decide)) ?_)
    refine ek_if (ic_c8 _ s rfl rfl (by omega) (by omega) (by omega)) (fun b => ?_) (fun b => h0 (fun z => b (ic_can_ps z).2.1))
    refine And.intro (vp_in_nI hm (by decide)) (pk_le (p 25 0) (p 20 m) (fun c => h0 (fun z => ?_)) (fun c => ?_) rfl (ic_g m rfl (by omega)))
    · have := (ic_can_ps z).2.2.1
      omega
    · refine And.intro (vp_in_nI hs (by decide)) (pk_le (p 25 1) (p 21 s) (fun d => h0 (fun z => ?_)) (fun d => ?_) rfl (ic_g s rfl (by omega)))
      · have := (ic_can_ps z).2.2.2.1
        omega
      · refine ic_X_isActiveElsewhere (p := p) j1 g1 (fun e => ?_) (fun e => ?_)
        · exact br_t rfl (h1 (decide_eq_true ⟨a, b, c, d, e⟩))
        · exact br_f (by decide) (h0 (fun z => e (ic_can_ps z).2.2.2.2))
theorem ic_X_dropHead {p : Nat → Nat → Nat} {c : Nat} {post : St2 → Prop} (hc : c < 4) (h12 : p 12 c < 4) (h13 : p 13 c ≠ 0) (h : post (ic_X (ic_dh p c))) : wpX_dropHead post (ic_X p) (nI c) := by
  have hi : vp_in (nI c) 4 := vp_in_nI hc (by decide)
  unfold wpX_dropHead
  refine And.intro hi (And.intro (by decide) (And.intro hi ?_))
  refine nm_r (ic_p c ((p 12 c + 1) % 4) rfl (by omega) (ic_r (p 12 c + 1) 4 (ic_inc c rfl (by omega)) (by omega) (by decide) (by decide))) (And.intro hi (And.intro hi ?_))
  refine nm_r (ic_p c (p 13 c - 1) rfl (by omega) (ic_dec c rfl (by omega) (by omega))) ?_
  exact h
theorem ic_X_takeLatency {p : Nat → Nat → Nat} {s l : Nat} {post : Int32 → St2 → Prop} (hs : s < 4) (h19 : p 19 s < 4) (hl : ic_lat p s = l) (h : post (nI l) (ic_X (ic_tl p s))) : wpX_takeLatency post (ic_X p) (nI s) := by
  subst hl
  have hi : vp_in (nI s) 4 := vp_in_nI hs (by decide)
  have e : nI s * 4 + ic_t (p 19) (nI s).toNatClampNeg = nI (s * 4 + p 19 s) := by rw [ic_g s rfl (by omega)]; exact ic_ma s 4 (p 19 s)
  unfold ic_lat ic_tl at h
  unfold wpX_takeLatency
  refine pk_lt s 3 (fun a => ?_) (fun a => ?_)
  · rw [if_neg (by omega), if_neg (by omega)] at h
    refine And.intro hi (And.intro (pk_in (s * 4 + p 19 s) 12 (by omega) e) (nm_r (ic_g _ e (by omega)) (And.intro hi (And.intro (by decide) (And.intro hi ?_)))))
    refine nm_r (ic_p s ((p 19 s + 1) % 4) rfl (by omega) (ic_r (p 19 s + 1) 4 (ic_inc s rfl (by omega)) (by omega) (by decide) (by decide))) ?_
    exact h
  · rw [if_pos (by omega), if_pos (by omega)] at h
    exact h
theorem ic_X_accept {p : Nat → Nat → Nat} {b s l : Nat} {post : St2 → Prop} (hb : b < 32) (hs : s < 4) (hH : p 1 b < 4) (h19 : p 19 s < 4) (hl : ic_lat p s = l) (hl15 : l ≤ 15) (h : post (ic_X (ic_acc p b s))) : wpX_accept post (ic_X p) (nI b) (nI s) := by
  have hi : vp_in (nI b) 32 := vp_in_nI hb (by decide)
  have hq : vp_in (nI s) 4 := vp_in_nI hs (by decide)
  have hm : vp_in (nI (p 1 b / 2)) 2 := vp_in_nI (by omega) (by decide)
  unfold wpX_accept
  refine And.intro hi (nm_r (ic_ps b 1 rfl (by omega) (by decide) rfl) ?_)
  refine ic_X_managerOf (p := ic_pu p 0 b 1) (h := p 1 b) hb rfl hH ?_
  refine And.intro hm (And.intro hm (nm_r (ic_p (p 1 b / 2) (p 20 (p 1 b / 2) + 1) rfl (by omega) (ic_inc _ rfl (by omega))) ?_))
  refine And.intro hq (And.intro hq (nm_r (ic_p s (p 21 s + 1) rfl (by omega) (ic_inc _ rfl (by omega))) ?_))
  refine ic_X_takeLatency (p := ic_pu (ic_pu (ic_pu p 0 b 1) 20 (p 1 b / 2) (p 20 (p 1 b / 2) + 1)) 21 s (p 21 s + 1)) (l := l) hs h19 hl ?_
  subst hl
  unfold ic_acc at h
  refine And.intro hi (nm_r (ic_p b (ic_lat p s) rfl (by omega) rfl) (And.intro hi (And.intro hi ?_)))
  unfold ic_tl at h ⊢
  by_cases e : s = 3
  · rw [if_pos e] at h ⊢
    refine nm_r (ic_pL b (p 25 2 + ic_lat p s) rfl (by omega) (by rw [ic_g b rfl (by omega), ic_us, nI_l (by omega)]; exact lN_add _ _)) ?_
    exact h
  · rw [if_neg e] at h ⊢
    refine nm_r (ic_pL b (p 25 2 + ic_lat p s) rfl (by omega) (by rw [ic_g b rfl (by omega), ic_us, nI_l (by omega)]; exact lN_add _ _)) ?_
    exact h
theorem ic_X_ar34 {p : Nat → Nat → Nat} {s k w : Nat} {post : St2 → Prop} (hI : ic_Inv p) (hs : s < 4) (hk : k < 2) (hw : w < 2) (h1 : ic_can p w s k = true → post (ic_X (ic_ar1 p s k w))) (h0 : ¬ ic_can p w s k = true → post (ic_X p)) : wX_arbitrate_34 post (nI s) (nI k) (nI (s * 2 + k)) (nI w) (nI (p 25 0)) (nI (p 25 1)) (lN (p 25 2)) (lN (p 25 3)) (nI (p 25 4)) (ic_ts (p 0)) (ic_t (p 1)) (ic_t (p 2)) (ic_t (p 3)) (ic_t8 (p 3)) (ic_t (p 4)) (ic_t (p 5)) (ic_t (p 6)) (ic_tL (p 7)) (ic_t (p 8)) (ic_t (p 9)) (ic_t (p 10)) (ic_t (p 11)) (ic_t (p 12)) (ic_t (p 13)) (ic_t (p 14)) (ic_t (p 15)) (ic_t (p 16)) (ic_t (p 17)) (ic_t (p 18)) (ic_t (p 19)) (ic_t (p 20)) (ic_t (p 21)) (ic_t (p 22)) (ic_t (p 23)) (ic_t (p 24)) := by
  unfold wX_arbitrate_34
  refine ic_X_isCandidate (p := p) hI hw hs hk (fun c => ?_) (fun c => br_t rfl (h0 c))
  have h := h1 c
  obtain ⟨j1, j2, j3, j4⟩ := hI
  have n0 := (ic_can_ps c).1
  obtain ⟨g1, g2, g3, g4⟩ := ic_hd_ps j3 (c := w * 2 + k) (by omega) n0
  refine br_f (by decide) (nm_r (ic_ma w 2 k) ?_)
  refine ic_X_headOf (p := p) j3 (by omega) (fun a => absurd a n0) (fun a => ?_)
  refine ic_X_dropHead (p := p) (by omega) g4 n0 ?_
  refine ic_X_accept (p := ic_dh p (w * 2 + k)) (l := ic_lat p s) g1 hs (by show p 1 _ < 4; omega) (j4.2.2.1 s hs) rfl (ic_lat_le j4 hs) ?_
  refine And.intro (vp_in_nI (by omega) (by decide)) (nm_r (ic_p (s * 2 + k) (1 - w) rfl (by omega) (pk_sub (a := 1) (by omega))) ?_)
  exact h
theorem ic_X_ar {p : Nat → Nat → Nat} {s k : Nat} {post : St2 → Prop} (hI : ic_Inv p) (hs : s < 4) (hk : k < 2) (h : post (ic_X (ic_ar p s k))) : wpX_arbitrate post (ic_X p) (nI s) (nI k) := by
  have h24 := hI.2.2.2.2.2.2.2.1 (s * 2 + k) (by omega)
  have h1 : ∀ w, w = ic_win p s k → ic_can p w s k = true → post (ic_X (ic_ar1 p s k w)) := by
    intro w ew c
    subst ew
    unfold ic_ar at h
    rw [if_pos c] at h
    exact h
  have h0 : ∀ w, w = ic_win p s k → ¬ ic_can p w s k = true → post (ic_X p) := by
    intro w ew c
    subst ew
    unfold ic_ar at h
    rw [if_neg c] at h
    exact h
  unfold wpX_arbitrate
  refine nm_r (ic_ma s 2 k) (And.intro (vp_in_nI (by omega) (by decide)) (nm_r (ic_g (s * 2 + k) rfl (by omega)) ?_))
  refine ic_X_isCandidate (p := p) hI (by omega) hs hk (fun c => br_f (by decide) ?_) (fun c => br_t rfl ?_)
  · have ew : p 24 (s * 2 + k) = ic_win p s k := by unfold ic_win; rw [if_pos c]
    exact ic_X_ar34 hI hs hk (by omega) (h1 _ ew) (h0 _ ew)
  · have ew : 1 - p 24 (s * 2 + k) = ic_win p s k := by unfold ic_win; rw [if_neg c]
    rw [show (1 : Int32) - nI (p 24 (s * 2 + k)) = nI (1 - p 24 (s * 2 + k)) from pk_sub (a := 1) h24]
    exact ic_X_ar34 hI hs hk (by omega) (h1 _ ew) (h0 _ ew)
theorem ic_ar_25 {p : Nat → Nat → Nat} {s k : Nat} : ic_ar p s k 25 = p 25 := by
  unfold ic_ar
  split
  · exact (@ic_ar1_f p s k _).2.2.2.2.2.2.2.2.1
  · rfl
theorem ic_mv_25 {p : Nat → Nat → Nat} {m : Nat} : ic_mv p m 25 = p 25 := by
  unfold ic_mv
  cases ic_unf p m with
  | none => rfl
  | some s =>
    dsimp only
    by_cases g : p 0 s = 1 ∧ p 16 m ≠ 0
    · rw [if_pos g]
      unfold ic_mv1
      by_cases n : p 5 s + 1 = p 4 s
      · rw [if_pos n]; rfl
      · rw [if_neg n]; rfl
    · rw [if_neg g]
theorem ic_rd_25 {p : Nat → Nat → Nat} {c : Nat} : ic_rd p c 25 2 = p 25 2 ∧ ic_rd p c 25 3 = p 25 3 := by
  unfold ic_rd
  cases ic_cho p c with
  | none => exact ⟨rfl, rfl⟩
  | some s =>
    dsimp only
    unfold ic_rd1
    by_cases n : p 5 s + 1 = p 4 s
    · rw [if_pos n]; exact ⟨rfl, rfl⟩
    · rw [if_neg n]; exact ⟨rfl, rfl⟩
theorem ic_wr_25 {p : Nat → Nat → Nat} {c : Nat} : ic_wr p c 25 2 = p 25 2 ∧ ic_wr p c 25 3 = p 25 3 := by
  unfold ic_wr
  cases ic_cho p c with
  | none => exact ⟨rfl, rfl⟩
  | some s =>
    dsimp only
    unfold ic_wr1
    by_cases n : p 3 s / 8 = 3
    · rw [if_pos n]; exact ⟨rfl, rfl⟩
    · rw [if_neg n]; exact ⟨rfl, rfl⟩
end
section
/-! the class: one cycle, n cycles -/
theorem ic_X_74 {p : Nat → Nat → Nat} {post : St2 → Prop} {n i : Nat} (hI : ic_Inv p) (hi : i < 4) (h : wX_runCycle_74 post n (nI (i + 1)) (nI ((ic_ar (ic_ar p i 1) i 0) 25 0)) (nI ((ic_ar (ic_ar p i 1) i 0) 25 1)) (lN ((ic_ar (ic_ar p i 1) i 0) 25 2)) (lN ((ic_ar (ic_ar p i 1) i 0) 25 3)) (nI ((ic_ar (ic_ar p i 1) i 0) 25 4)) (ic_ts ((ic_ar (ic_ar p i 1) i 0) 0)) (ic_t ((ic_ar (ic_ar p i 1) i 0) 1)) (ic_t ((ic_ar (ic_ar p i 1) i 0) 2)) (ic_t ((ic_ar (ic_ar p i 1) i 0) 3)) (ic_t8 ((ic_ar (ic_ar p i 1) i 0) 3)) (ic_t ((ic_ar (ic_ar p i 1) i 0) 4)) (ic_t ((ic_ar (ic_ar p i 1) i 0) 5)) (ic_t ((ic_ar (ic_ar p i 1) i 0) 6)) (ic_tL ((ic_ar (ic_ar p i 1) i 0) 7)) (ic_t ((ic_ar (ic_ar p i 1) i 0) 8)) (ic_t ((ic_ar (ic_ar p i 1) i 0) 9)) (ic_t ((ic_ar (ic_ar p i 1) i 0) 10)) (ic_t ((ic_ar (ic_ar p i 1) i 0) 11)) (ic_t ((ic_ar (ic_ar p i 1) i 0) 12)) (ic_t ((ic_ar (ic_ar p i 1) i 0) 13)) (ic_t ((ic_ar (ic_ar p i 1) i 0) 14)) (ic_t ((ic_ar (ic_ar p i 1) i 0) 15)) (ic_t ((ic_ar (ic_ar p i 1) i 0) 16)) (ic_t ((ic_ar (ic_ar p i 1) i 0) 17)) (ic_t ((ic_ar (ic_ar p i 1) i 0) 18)) (ic_t ((ic_ar (ic_ar p i 1) i 0) 19)) (ic_t ((ic_ar (ic_ar p i 1) i 0) 20)) (ic_t ((ic_ar (ic_ar p i 1) i 0) 21)) (ic_t ((ic_ar (ic_ar p i 1) i 0) 22)) (ic_t ((ic_ar (ic_ar p i 1) i 0) 23)) (ic_t ((ic_ar (ic_ar p i 1) i 0) 24))) : wX_runCycle_74 post (n + 1) (nI i) (nI (p 25 0)) (nI (p 25 1)) (lN (p 25 2)) (lN (p 25 3)) (nI (p 25 4)) (ic_ts (p 0)) (ic_t (p 1)) (ic_t (p 2)) (ic_t (p 3)) (ic_t8 (p 3)) (ic_t (p 4)) (ic_t (p 5)) (ic_t (p 6)) (ic_tL (p 7)) (ic_t (p 8)) (ic_t (p 9)) (ic_t (p 10)) (ic_t (p 11)) (ic_t (p 12)) (ic_t (p 13)) (ic_t (p 14)) (ic_t (p 15)) (ic_t (p 16)) (ic_t (p 17)) (ic_t (p 18)) (ic_t (p 19)) (ic_t (p 20)) (ic_t (p 21)) (ic_t (p 22)) (ic_t (p 23)) (ic_t (p 24)) := by
  refine pk_le 4 i (fun h => by omega) (fun _ => ?_)
  refine ic_X_ar (p := p) (k := 1) hI hi (by decide) ?_
  refine ic_X_ar (p := ic_ar p i 1) (k := 0) (ic_ar_Inv hI hi (by decide)) hi (by decide) ?_
  exact nm_r (nI_1 i) h
theorem ic_X_56 {p : Nat → Nat → Nat} {post : St2 → Prop} {n m : Nat} (hI : ic_Inv p) (hT : p 25 3 < 2 ^ 30) (hC : p 25 2 < 2 ^ 30) (hm : m < 2) (h : wX_runCycle_56 post n (nI (m + 1)) (nI ((ic_mv p m) 25 0)) (nI ((ic_mv p m) 25 1)) (lN ((ic_mv p m) 25 2)) (lN ((ic_mv p m) 25 3)) (nI ((ic_mv p m) 25 4)) (ic_ts ((ic_mv p m) 0)) (ic_t ((ic_mv p m) 1)) (ic_t ((ic_mv p m) 2)) (ic_t ((ic_mv p m) 3)) (ic_t8 ((ic_mv p m) 3)) (ic_t ((ic_mv p m) 4)) (ic_t ((ic_mv p m) 5)) (ic_t ((ic_mv p m) 6)) (ic_tL ((ic_mv p m) 7)) (ic_t ((ic_mv p m) 8)) (ic_t ((ic_mv p m) 9)) (ic_t ((ic_mv p m) 10)) (ic_t ((ic_mv p m) 11)) (ic_t ((ic_mv p m) 12)) (ic_t ((ic_mv p m) 13)) (ic_t ((ic_mv p m) 14)) (ic_t ((ic_mv p m) 15)) (ic_t ((ic_mv p m) 16)) (ic_t ((ic_mv p m) 17)) (ic_t ((ic_mv p m) 18)) (ic_t ((ic_mv p m) 19)) (ic_t ((ic_mv p m) 20)) (ic_t ((ic_mv p m) 21)) (ic_t ((ic_mv p m) 22)) (ic_t ((ic_mv p m) 23)) (ic_t ((ic_mv p m) 24))) : wX_runCycle_56 post (n + 1) (nI m) (nI (p 25 0)) (nI (p 25 1)) (lN (p 25 2)) (lN (p 25 3)) (nI (p 25 4)) (ic_ts (p 0)) (ic_t (p 1)) (ic_t (p 2)) (ic_t (p 3)) (ic_t8 (p 3)) (ic_t (p 4)) (ic_t (p 5)) (ic_t (p 6)) (ic_tL (p 7)) (ic_t (p 8)) (ic_t (p 9)) (ic_t (p 10)) (ic_t (p 11)) (ic_t (p 12)) (ic_t (p 13)) (ic_t (p 14)) (ic_t (p 15)) (ic_t (p 16)) (ic_t (p 17)) (ic_t (p 18)) (ic_t (p 19)) (ic_t (p 20)) (ic_t (p 21)) (ic_t (p 22)) (ic_t (p 23)) (ic_t (p 24)) := by
  refine pk_le 2 m (fun h => by omega) (fun _ => ?_)
  refine ic_X_mv (p := p) hI hT hC hm ?_
  exact nm_r (nI_1 m) h
theorem ic_X_34 {p : Nat → Nat → Nat} {post : St2 → Prop} {n m : Nat} (hI : ic_Inv p) (hT : p 25 3 < 2 ^ 30) (hC : p 25 2 < 2 ^ 30) (hm : m < 2) (h : wX_runCycle_34 post n (nI (m + 1)) (nI ((ic_rd p (m * 2)) 25 0)) (nI ((ic_rd p (m * 2)) 25 1)) (lN ((ic_rd p (m * 2)) 25 2)) (lN ((ic_rd p (m * 2)) 25 3)) (nI ((ic_rd p (m * 2)) 25 4)) (ic_ts ((ic_rd p (m * 2)) 0)) (ic_t ((ic_rd p (m * 2)) 1)) (ic_t ((ic_rd p (m * 2)) 2)) (ic_t ((ic_rd p (m * 2)) 3)) (ic_t8 ((ic_rd p (m * 2)) 3)) (ic_t ((ic_rd p (m * 2)) 4)) (ic_t ((ic_rd p (m * 2)) 5)) (ic_t ((ic_rd p (m * 2)) 6)) (ic_tL ((ic_rd p (m * 2)) 7)) (ic_t ((ic_rd p (m * 2)) 8)) (ic_t ((ic_rd p (m * 2)) 9)) (ic_t ((ic_rd p (m * 2)) 10)) (ic_t ((ic_rd p (m * 2)) 11)) (ic_t ((ic_rd p (m * 2)) 12)) (ic_t ((ic_rd p (m * 2)) 13)) (ic_t ((ic_rd p (m * 2)) 14)) (ic_t ((ic_rd p (m * 2)) 15)) (ic_t ((ic_rd p (m * 2)) 16)) (ic_t ((ic_rd p (m * 2)) 17)) (ic_t ((ic_rd p (m * 2)) 18)) (ic_t ((ic_rd p (m * 2)) 19)) (ic_t ((ic_rd p (m * 2)) 20)) (ic_t ((ic_rd p (m * 2)) 21)) (ic_t ((ic_rd p (m * 2)) 22)) (ic_t ((ic_rd p (m * 2)) 23)) (ic_t ((ic_rd p (m * 2)) 24))) : wX_runCycle_34 post (n + 1) (nI m) (nI (p 25 0)) (nI (p 25 1)) (lN (p 25 2)) (lN (p 25 3)) (nI (p 25 4)) (ic_ts (p 0)) (ic_t (p 1)) (ic_t (p 2)) (ic_t (p 3)) (ic_t8 (p 3)) (ic_t (p 4)) (ic_t (p 5)) (ic_t (p 6)) (ic_tL (p 7)) (ic_t (p 8)) (ic_t (p 9)) (ic_t (p 10)) (ic_t (p 11)) (ic_t (p 12)) (ic_t (p 13)) (ic_t (p 14)) (ic_t (p 15)) (ic_t (p 16)) (ic_t (p 17)) (ic_t (p 18)) (ic_t (p 19)) (ic_t (p 20)) (ic_t (p 21)) (ic_t (p 22)) (ic_t (p 23)) (ic_t (p 24)) := by
  refine pk_le 2 m (fun h => by omega) (fun _ => ?_)
  rw [show nI m * 2 + 0 = nI (m * 2) from ic_ma m 2 0]
  refine ic_X_rd (p := p) hI hT hC (by omega) (by omega) ?_
  exact nm_r (nI_1 m) h
theorem ic_X_12 {p : Nat → Nat → Nat} {post : St2 → Prop} {n m : Nat} (hI : ic_Inv p) (hT : p 25 3 < 2 ^ 30) (hC : p 25 2 < 2 ^ 30) (hm : m < 2) (h : wX_runCycle_12 post n (nI (m + 1)) (nI ((ic_wr p (m * 2 + 1)) 25 0)) (nI ((ic_wr p (m * 2 + 1)) 25 1)) (lN ((ic_wr p (m * 2 + 1)) 25 2)) (lN ((ic_wr p (m * 2 + 1)) 25 3)) (nI ((ic_wr p (m * 2 + 1)) 25 4)) (ic_ts ((ic_wr p (m * 2 + 1)) 0)) (ic_t ((ic_wr p (m * 2 + 1)) 1)) (ic_t ((ic_wr p (m * 2 + 1)) 2)) (ic_t ((ic_wr p (m * 2 + 1)) 3)) (ic_t8 ((ic_wr p (m * 2 + 1)) 3)) (ic_t ((ic_wr p (m * 2 + 1)) 4)) (ic_t ((ic_wr p (m * 2 + 1)) 5)) (ic_t ((ic_wr p (m * 2 + 1)) 6)) (ic_tL ((ic_wr p (m * 2 + 1)) 7)) (ic_t ((ic_wr p (m * 2 + 1)) 8)) (ic_t ((ic_wr p (m * 2 + 1)) 9)) (ic_t ((ic_wr p (m * 2 + 1)) 10)) (ic_t ((ic_wr p (m * 2 + 1)) 11)) (ic_t ((ic_wr p (m * 2 + 1)) 12)) (ic_t ((ic_wr p (m * 2 + 1)) 13)) (ic_t ((ic_wr p (m * 2 + 1)) 14)) (ic_t ((ic_wr p (m * 2 + 1)) 15)) (ic_t ((ic_wr p (m * 2 + 1)) 16)) (ic_t ((ic_wr p (m * 2 + 1)) 17)) (ic_t ((ic_wr p (m * 2 + 1)) 18)) (ic_t ((ic_wr p (m * 2 + 1)) 19)) (ic_t ((ic_wr p (m * 2 + 1)) 20)) (ic_t ((ic_wr p (m * 2 + 1)) 21)) (ic_t ((ic_wr p (m * 2 + 1)) 22)) (ic_t ((ic_wr p (m * 2 + 1)) 23)) (ic_t ((ic_wr p (m * 2 + 1)) 24))) : wX_runCycle_12 post (n + 1) (nI m) (nI (p 25 0)) (nI (p 25 1)) (lN (p 25 2)) (lN (p 25 3)) (nI (p 25 4)) (ic_ts (p 0)) (ic_t (p 1)) (ic_t (p 2)) (ic_t (p 3)) (ic_t8 (p 3)) (ic_t (p 4)) (ic_t (p 5)) (ic_t (p 6)) (ic_tL (p 7)) (ic_t (p 8)) (ic_t (p 9)) (ic_t (p 10)) (ic_t (p 11)) (ic_t (p 12)) (ic_t (p 13)) (ic_t (p 14)) (ic_t (p 15)) (ic_t (p 16)) (ic_t (p 17)) (ic_t (p 18)) (ic_t (p 19)) (ic_t (p 20)) (ic_t (p 21)) (ic_t (p 22)) (ic_t (p 23)) (ic_t (p 24)) := by
  refine pk_le 2 m (fun h => by omega) (fun _ => ?_)
  rw [show nI m * 2 + 1 = nI (m * 2 + 1) from ic_ma m 2 1]
  refine ic_X_wr (p := p) hI hT hC (by omega) ?_
  exact nm_r (nI_1 m) h
theorem ic_X_cy2 {p : Nat → Nat → Nat} {post : St2 → Prop} (hI : ic_Inv p) (h : post (ic_X (ic_cy2 p))) : wX_runCycle_74 post 5 (nI 0) (nI (p 25 0)) (nI (p 25 1)) (lN (p 25 2)) (lN (p 25 3)) (nI (p 25 4)) (ic_ts (p 0)) (ic_t (p 1)) (ic_t (p 2)) (ic_t (p 3)) (ic_t8 (p 3)) (ic_t (p 4)) (ic_t (p 5)) (ic_t (p 6)) (ic_tL (p 7)) (ic_t (p 8)) (ic_t (p 9)) (ic_t (p 10)) (ic_t (p 11)) (ic_t (p 12)) (ic_t (p 13)) (ic_t (p 14)) (ic_t (p 15)) (ic_t (p 16)) (ic_t (p 17)) (ic_t (p 18)) (ic_t (p 19)) (ic_t (p 20)) (ic_t (p 21)) (ic_t (p 22)) (ic_t (p 23)) (ic_t (p 24)) := by
  refine ic_X_74 hI (by decide) ?_
  have h1 := ic_ar_Inv (s := 0) (k := 0) (ic_ar_Inv (s := 0) (k := 1) hI (by decide) (by decide)) (by decide) (by decide)
  refine ic_X_74 h1 (by decide) ?_
  have h2 := ic_ar_Inv (s := 1) (k := 0) (ic_ar_Inv (s := 1) (k := 1) h1 (by decide) (by decide)) (by decide) (by decide)
  refine ic_X_74 h2 (by decide) ?_
  have h3 := ic_ar_Inv (s := 2) (k := 0) (ic_ar_Inv (s := 2) (k := 1) h2 (by decide) (by decide)) (by decide) (by decide)
  refine ic_X_74 h3 (by decide) ?_
  exact pk_le 4 4 (fun _ => h) (fun z => by omega)
theorem ic_X_cy1 {p : Nat → Nat → Nat} {post : St2 → Prop} (hI : ic_Inv p) (hT : p 25 3 < 2 ^ 30) (hC : p 25 2 < 2 ^ 30) (h : post (ic_X (ic_cy2 (ic_cy1 p)))) : wX_runCycle_12 post 3 (nI 0) (nI (p 25 0)) (nI (p 25 1)) (lN (p 25 2)) (lN (p 25 3)) (nI (p 25 4)) (ic_ts (p 0)) (ic_t (p 1)) (ic_t (p 2)) (ic_t (p 3)) (ic_t8 (p 3)) (ic_t (p 4)) (ic_t (p 5)) (ic_t (p 6)) (ic_tL (p 7)) (ic_t (p 8)) (ic_t (p 9)) (ic_t (p 10)) (ic_t (p 11)) (ic_t (p 12)) (ic_t (p 13)) (ic_t (p 14)) (ic_t (p 15)) (ic_t (p 16)) (ic_t (p 17)) (ic_t (p 18)) (ic_t (p 19)) (ic_t (p 20)) (ic_t (p 21)) (ic_t (p 22)) (ic_t (p 23)) (ic_t (p 24)) := by
  have e1 := @ic_wr_25 p 1
  have e2 := @ic_wr_25 (ic_wr p 1) 3
  have e3 := @ic_rd_25 (ic_wr (ic_wr p 1) 3) 0
  have e4 := @ic_rd_25 (ic_rd (ic_wr (ic_wr p 1) 3) 0) 2
  have e5 := @ic_mv_25 (ic_rd (ic_rd (ic_wr (ic_wr p 1) 3) 0) 2) 0
  have i1 := ic_wr_Inv (c := 1) hI
  have i2 := ic_wr_Inv (c := 3) i1
  have i3 := ic_rd_Inv (c := 0) i2 (by decide)
  have i4 := ic_rd_Inv (c := 2) i3 (by decide)
  have i5 := ic_mv_Inv (m := 0) i4
  have i6 := ic_mv_Inv (m := 1) i5
  have t1 : ic_wr p 1 25 3 < 2 ^ 30 := by omega
  have c1 : ic_wr p 1 25 2 < 2 ^ 30 := by omega
  have t2 : ic_wr (ic_wr p 1) 3 25 3 < 2 ^ 30 := by omega
  have c2 : ic_wr (ic_wr p 1) 3 25 2 < 2 ^ 30 := by omega
  have t3 : ic_rd (ic_wr (ic_wr p 1) 3) 0 25 3 < 2 ^ 30 := by omega
  have c3 : ic_rd (ic_wr (ic_wr p 1) 3) 0 25 2 < 2 ^ 30 := by omega
  have t4 : ic_rd (ic_rd (ic_wr (ic_wr p 1) 3) 0) 2 25 3 < 2 ^ 30 := by omega
  have c4 : ic_rd (ic_rd (ic_wr (ic_wr p 1) 3) 0) 2 25 2 < 2 ^ 30 := by omega
  have t5 : ic_mv (ic_rd (ic_rd (ic_wr (ic_wr p 1) 3) 0) 2) 0 25 3 < 2 ^ 30 := by rw [e5]; exact t4
  have c5 : ic_mv (ic_rd (ic_rd (ic_wr (ic_wr p 1) 3) 0) 2) 0 25 2 < 2 ^ 30 := by rw [e5]; exact c4
  refine ic_X_12 (m := 0) hI hT hC (by decide) ?_
  refine ic_X_12 (m := 1) i1 t1 c1 (by decide) ?_
  refine pk_le 2 2 (fun _ => ⟨3, ?_⟩) (fun z => by omega)
  refine ic_X_34 (m := 0) i2 t2 c2 (by decide) ?_
  refine ic_X_34 (m := 1) i3 t3 c3 (by decide) ?_
  refine pk_le 2 2 (fun _ => ⟨3, ?_⟩) (fun z => by omega)
  refine ic_X_56 (m := 0) i4 t4 c4 (by decide) ?_
  refine ic_X_56 (m := 1) i5 t5 c5 (by decide) ?_
  refine pk_le 2 2 (fun _ => ⟨5, ?_⟩) (fun z => by omega)
  exact ic_X_cy2 i6 h
theorem ic_X_runCycle {p : Nat → Nat → Nat} {post : St2 → Prop} (hI : ic_Inv p) (hT : p 25 3 < 2 ^ 30) (hC : p 25 2 + 1 < 2 ^ 30) (h : post (ic_X (ic_cyc p))) : wpX_runCycle post (ic_X p) := by
  unfold wpX_runCycle
  refine nm_r (lN_1 _) ⟨3, ?_⟩
  exact ic_X_cy1 (p := ic_pu p 25 2 (p 25 2 + 1)) (ic_c1_Inv hI) hT hC h
theorem ic_cy2_25 {p : Nat → Nat → Nat} : ic_cy2 p 25 = p 25 := by
  unfold ic_cy2
  rw [ic_ar_25, ic_ar_25, ic_ar_25, ic_ar_25, ic_ar_25, ic_ar_25, ic_ar_25, ic_ar_25]
theorem ic_cy1_25 {p : Nat → Nat → Nat} : ic_cy1 p 25 2 = p 25 2 ∧ ic_cy1 p 25 3 = p 25 3 := by
  unfold ic_cy1
  rw [ic_mv_25, ic_mv_25]
  have e1 := @ic_wr_25 p 1
  have e2 := @ic_wr_25 (ic_wr p 1) 3
  have e3 := @ic_rd_25 (ic_wr (ic_wr p 1) 3) 0
  have e4 := @ic_rd_25 (ic_rd (ic_wr (ic_wr p 1) 3) 0) 2
  omega
theorem ic_cyc_25 {p : Nat → Nat → Nat} : ic_cyc p 25 2 = p 25 2 + 1 ∧ ic_cyc p 25 3 = p 25 3 := by
  unfold ic_cyc
  rw [ic_cy2_25]
  exact ic_cy1_25 (p := ic_pu p 25 2 (p 25 2 + 1))
theorem ic_run_Inv : ∀ (n : Nat) (p : Nat → Nat → Nat), ic_Inv p → ic_Inv (ic_run n p) ∧ ic_run n p 25 2 = p 25 2 + n ∧ ic_run n p 25 3 = p 25 3 := by
  intro n
  induction n with
  | zero => intro p h; exact ⟨h, rfl, rfl⟩
  | succ n ih =>
    intro p h
    have h1 := ih (ic_cyc p) (ic_cyc_Inv h)
    have e := @ic_cyc_25 p
    refine ⟨h1.1, ?_, ?_⟩
    · show ic_run n (ic_cyc p) 25 2 = _
      omega
    · show ic_run n (ic_cyc p) 25 3 = _
      omega
theorem ic_X_st {n : Nat} {post : Int32 → St2 → Prop} (hn : n ≤ 64) : ∀ (d i : Nat) (p : Nat → Nat → Nat), i + d = n → ic_Inv p → p 25 3 < 2 ^ 30 → p 25 2 + d < 2 ^ 30 → post 1 (ic_X (ic_run d p)) → wX_step_15 post (nI n) (d + 1) (nI i) (nI (p 25 0)) (nI (p 25 1)) (lN (p 25 2)) (lN (p 25 3)) (nI (p 25 4)) (ic_ts (p 0)) (ic_t (p 1)) (ic_t (p 2)) (ic_t (p 3)) (ic_t8 (p 3)) (ic_t (p 4)) (ic_t (p 5)) (ic_t (p 6)) (ic_tL (p 7)) (ic_t (p 8)) (ic_t (p 9)) (ic_t (p 10)) (ic_t (p 11)) (ic_t (p 12)) (ic_t (p 13)) (ic_t (p 14)) (ic_t (p 15)) (ic_t (p 16)) (ic_t (p 17)) (ic_t (p 18)) (ic_t (p 19)) (ic_t (p 20)) (ic_t (p 21)) (ic_t (p 22)) (ic_t (p 23)) (ic_t (p 24)) := by
  intro d
  induction d with
  | zero =>
    intro i p hi _ _ _ h
    exact pk_le n i (fun _ => h) (fun z => by omega)
  | succ d ih =>
    intro i p hi hI hT hC h
    have e := @ic_cyc_25 p
    refine pk_le n i (fun z => by omega) (fun _ => ?_)
    refine ic_X_runCycle (p := p) hI hT (by omega) ?_
    exact nm_r (nI_1 i) (ih (i + 1) (ic_cyc p) (by omega) (ic_cyc_Inv hI) (by omega) (by omega) h)
end
section
/-! the class: its public methods -/
theorem ic_ge {v : Int32} {n : Nat} (hn : n + 1 < 2 ^ 31) (h : nI (n + 1) ≤ v) : ¬ v < 0 ∧ nI n < v ∧ ¬ v ≤ nI n ∧ ¬ v < nI (n + 1) := by
  rw [Int32.le_iff_toInt_le, nI_toInt hn] at h
  rw [Int32.lt_iff_toInt_lt, Int32.lt_iff_toInt_lt, Int32.le_iff_toInt_le, Int32.lt_iff_toInt_lt, nI_toInt hn, nI_toInt (by omega : n < 2 ^ 31)]
  have h0 : (0 : Int32).toInt = 0 := by decide
  omega
def ic_ok (v1 v2 v3 v4 : Int32) : Prop := ∃ m i a l : Nat, m < 2 ∧ i < 4 ∧ a < 32 ∧ 1 ≤ l ∧ l ≤ 4 ∧ a % 8 + l ≤ 8 ∧ v1 = nI m ∧ v2 = nI i ∧ v3 = nI a ∧ v4 = nI l
theorem ic_ix {v : Int32} {n : Nat} (hn : n < 2 ^ 31) (h0 : ¬ v < 0) (h1 : ¬ nI n ≤ v) : ∃ j, j < n ∧ v = nI j := by
  rcases pk_ix v hn with h | h | h
  · exact absurd h h0
  · exact absurd h h1
  · exact h
theorem ic_ix1 {v : Int32} {n : Nat} (hn : n < 2 ^ 31) (h0 : ¬ v < 1) (h1 : ¬ nI n < v) : ∃ j, 1 ≤ j ∧ j ≤ n ∧ v = nI j := by
  have h2 : ¬ v < 0 := fun z => h0 (by
    rw [Int32.lt_iff_toInt_lt] at z ⊢
    have e0 : (0 : Int32).toInt = 0 := by decide
    have e1 : (1 : Int32).toInt = 1 := by decide
    omega)
  obtain ⟨j, hj, e⟩ := nI_of h2
  subst e
  refine ⟨j, ?_, ?_, rfl⟩
  · rcases Nat.lt_or_ge j 1 with z | z
    · exact absurd (show nI j < nI 1 from nI_lt z (by decide)) h0
    · exact z
  · rcases Nat.lt_or_ge n j with z | z
    · exact absurd (nI_lt z hj) h1
    · exact z
theorem ic_X_mgr {m : Nat} {post : Int32 → Prop} (hm : m < 2) (h : post 1) : wpX_isManager post () (nI m) := by
  unfold wpX_isManager
  exact br_f (nI_pos (by omega)) (pk_le 2 m (fun z => by omega) (fun _ => h))
theorem ic_X_mgrF {v : Int32} {post : Int32 → Prop} (hv : ¬ ∃ m, m < 2 ∧ v = nI m) (h : post 0) : wpX_isManager post () v := by
  unfold wpX_isManager
  exact br_c (fun _ => h) (fun a => br_c (fun _ => h) (fun b => absurd (ic_ix (n := 2) (by decide) a b) hv))
theorem ic_X_burst {i a l : Nat} {post : Int32 → Prop} (hi : i < 4) (ha : a < 32) (h1 : 1 ≤ l) (h4 : l ≤ 4) (h8 : a % 8 + l ≤ 8) (h : post 1) : wpX_isBurst post () (nI i) (nI a) (nI l) := by
  unfold wpX_isBurst
  refine br_f (nI_pos (by omega)) (pk_le 4 i (fun z => by omega) (fun _ => br_f (nI_pos (by omega)) (pk_le 32 a (fun z => by omega) (fun _ => pk_lt l 1 (fun z => by omega) (fun _ => pk_lt 4 l (fun z => by omega) (fun _ => And.intro (by decide) ?_))))))
  exact pk_lt 8 (a % 8 + l) (fun z => by omega) (fun _ => h) rfl (by rw [show nI a - nI a / 8 * 8 = nI (a % 8) from ic_r a 8 rfl (by omega) (by decide) (by decide), nI_add])
theorem ic_X_burstF {v2 v3 v4 : Int32} {post : Int32 → Prop} (hv : ¬ ∃ i a l : Nat, i < 4 ∧ a < 32 ∧ 1 ≤ l ∧ l ≤ 4 ∧ a % 8 + l ≤ 8 ∧ v2 = nI i ∧ v3 = nI a ∧ v4 = nI l) (h : post 0) : wpX_isBurst post () v2 v3 v4 := by
  unfold wpX_isBurst
  refine br_c (fun _ => h) (fun b1 => br_c (fun _ => h) (fun b2 => br_c (fun _ => h) (fun b3 => br_c (fun _ => h) (fun b4 => br_c (fun _ => h) (fun b5 => br_c (fun _ => h) (fun b6 => And.intro (by decide) (br_c (fun _ => h) (fun b7 => ?_))))))))
  obtain ⟨i, hi, ei⟩ := ic_ix (n := 4) (by decide) b1 b2
  obtain ⟨a, ha, ea⟩ := ic_ix (n := 32) (by decide) b3 b4
  obtain ⟨l, h1, h4, el⟩ := ic_ix1 (n := 4) (by decide) b5 b6
  subst ei ea el
  have e : nI a - nI a / 8 * 8 + nI l = nI (a % 8 + l) := by rw [show nI a - nI a / 8 * 8 = nI (a % 8) from ic_r a 8 rfl (by omega) (by decide) (by decide), nI_add]
  rw [e] at b7
  refine absurd ⟨i, a, l, hi, ha, h1, h4, ?_, rfl, rfl, rfl⟩ hv
  rcases Nat.lt_or_ge 8 (a % 8 + l) with z | z
  · exact absurd (show nI 8 < nI (a % 8 + l) from nI_lt z (by omega)) b7
  · exact z
theorem ic_X_issueF {p : Nat → Nat → Nat} {k v1 v2 v3 v4 : Int32} {post : Int32 → St2 → Prop} (hv : ¬ ic_ok v1 v2 v3 v4) (h : post (-1) (ic_X p)) : wpX_issue post (ic_X p) k v1 v2 v3 v4 := by
  unfold wpX_issue
  by_cases hm : ∃ m, m < 2 ∧ v1 = nI m
  · obtain ⟨m, hm, e⟩ := hm
    subst e
    refine ic_X_mgr hm (br_f (by decide) ?_)
    refine ic_X_burstF ?_ (br_t rfl h)
    intro ⟨i, a, l, h1, h2, h3, h4, h5, h6, h7, h8⟩
    exact hv ⟨m, i, a, l, hm, h1, h2, h3, h4, h5, rfl, h6, h7, h8⟩
  · exact ic_X_mgrF hm (br_t rfl h)
theorem ic_X_enqueue {p : Nat → Nat → Nat} {c s : Nat} {post : St2 → Prop} (hc : c < 4) (h12 : p 12 c < 4) (h13 : p 13 c ≤ 4) (h : post (ic_X (ic_pu (ic_pu p 11 (c * 4 + (p 12 c + p 13 c) % 4) s) 13 c (p 13 c + 1)))) : wpX_enqueue post (ic_X p) (nI c) (nI s) := by
  have hi : vp_in (nI c) 4 := vp_in_nI hc (by decide)
  have e : nI c * 4 + nI ((p 12 c + p 13 c) % 4) = nI (c * 4 + (p 12 c + p 13 c) % 4) := ic_ma c 4 _
  unfold wpX_enqueue
  refine And.intro hi (And.intro hi (And.intro (by decide) (nm_r (ic_r (p 12 c + p 13 c) 4 (by rw [ic_g c rfl (by omega), ic_g c rfl (by omega), nI_add]) (by omega) (by decide) (by decide)) ?_)))
  refine And.intro (pk_in (c * 4 + (p 12 c + p 13 c) % 4) 16 (by omega) e) (nm_r (ic_p _ s e (by omega) rfl) (And.intro hi (And.intro hi (nm_r (ic_p c (p 13 c + 1) rfl (by omega) (ic_inc c rfl (by omega))) ?_))))
  exact h
theorem ic_X_issue {p : Nat → Nat → Nat} {k m i a l : Nat} {post : Int32 → St2 → Prop} (hI : ic_Inv p) (hT : p 25 3 < 2 ^ 30) (hk : k < 2) (hm : m < 2) (hi : i < 4) (ha : a < 32) (h1 : 1 ≤ l) (h4 : l ≤ 4) (h8 : a % 8 + l ≤ 8)
    (hf : p 13 (m * 2 + k) = 4 → post (-2) (ic_X p)) (hs : p 13 (m * 2 + k) ≠ 4 → p 0 (p 25 3 % 32) ≤ 1 → post (-3) (ic_X p)) (hg : p 13 (m * 2 + k) ≠ 4 → 2 ≤ p 0 (p 25 3 % 32) → post (nI (p 25 3)) (ic_X (ic_iss p (m * 2 + k) i a l))) :
    wpX_issue post (ic_X p) (nI k) (nI m) (nI i) (nI a) (nI l) := by
  obtain ⟨K, q1, q2, _⟩ := hI.2.2.1 (m * 2 + k) (by omega)
  have hL := hI.1 (p 25 3 % 32) (by omega)
  unfold ic_L at hL
  unfold wpX_issue
  refine ic_X_mgr hm (br_f (by decide) (ic_X_burst hi ha h1 h4 h8 (br_f (by decide) (nm_r (ic_ma m 2 k) (And.intro (vp_in_nI (by omega) (by decide)) ?_)))))
  refine ek_if (ic_ce (m * 2 + k) 4 rfl rfl (by omega) (by omega) (by decide)) hf (fun b => ?_)
  refine ic_X_slotOf (p 25 3) rfl (by omega) ?_
  have hi32 : vp_in (nI (p 25 3 % 32)) 32 := vp_in_nI (by omega) (by decide)
  refine ic_X_isPending (p := p) (by omega) (by omega) (fun c => br_f (by decide) (hs b c)) (fun c => br_t rfl ?_)
  have h := hg b (by omega)
  rw [← lN_i] at h
  refine And.intro hi32 (nm_r (ic_ps (p 25 3 % 32) 0 rfl (by omega) (by decide) rfl) ?_)
  refine And.intro hi32 (nm_r (ic_p (p 25 3 % 32) (m * 2 + k) rfl (by omega) rfl) ?_)
  refine And.intro hi32 (nm_r (ic_p (p 25 3 % 32) i rfl (by omega) rfl) ?_)
  refine And.intro hi32 (nm_r (ic_p (p 25 3 % 32) a rfl (by omega) rfl) ?_)
  refine And.intro (by decide) (And.intro hi32 (nm_r (ic_p8 (p 25 3 % 32) a rfl (by omega) (pk_div (d := 8) (by omega) (by decide) (by decide))) ?_))
  refine And.intro hi32 (nm_r (ic_p (p 25 3 % 32) l rfl (by omega) rfl) ?_)
  refine And.intro hi32 (nm_r (ic_p (p 25 3 % 32) 0 rfl (by omega) rfl) ?_)
  refine ic_X_enqueue (p := ic_pu (ic_pu (ic_pu (ic_pu (ic_pu (ic_pu p 0 (p 25 3 % 32) 0) 1 (p 25 3 % 32) (m * 2 + k)) 2 (p 25 3 % 32) i) 3 (p 25 3 % 32) a) 4 (p 25 3 % 32) l) 5 (p 25 3 % 32) 0) (by omega) q1 q2 ?_
  refine nm_r (lN_1 _) ?_
  exact h
theorem ic_X_valid {p : Nat → Nat → Nat} {v : Int32} {post : Int32 → Prop} (hT : p 25 3 < 2 ^ 30) (h1 : ∀ t, t < p 25 3 → p 25 3 ≤ t + 32 → v = nI t → post 1) (h0 : (¬ ∃ t, t < p 25 3 ∧ p 25 3 ≤ t + 32 ∧ v = nI t) → post 0) : wpX_isValid post (ic_X p) v := by
  unfold wpX_isValid
  refine br_c (fun a => h0 ?_) (fun a => ?_)
  · intro ⟨t, h2, h3, e⟩
    subst e
    exact nI_pos (by omega) a
  · obtain ⟨t, ht, e⟩ := nI_of a
    subst e
    have el : (nI t).toInt64 = lN t := nI_l ht
    have inj : ∀ t', t' < p 25 3 → nI t = nI t' → t = t' := fun t' h2 e => (nI_eq ht (by omega)).mp e
    refine ek_if (d := p 25 3 ≤ t) (by rw [el]; exact pk_lLE (by omega) (by omega)) (fun b => h0 ?_) (fun b => ?_)
    · intro ⟨t', h2, h3, e⟩
      have := inj t' h2 e
      omega
    · refine ek_if (d := t + 32 < p 25 3) ?_ (fun c => h0 ?_) (fun c => h1 t (by omega) (by omega) rfl)
      · have := @ic_loL (p 25 3) t hT ht
        rw [← Int64.not_le, show (lN (p 25 3) - 32 ≤ (nI t).toInt64) ↔ _ from this]
        omega
      · intro ⟨t', h2, h3, e⟩
        have := inj t' h2 e
        omega
end
section
/-! the class's public methods at numbers that the law gives them; the beginning -/
theorem ic_nb0 : vp_nar .boolean 0 = nI 0 := by rfl
theorem ic_nb1 : vp_nar .boolean 1 = nI 1 := by rfl
theorem ic_nbx {x : Nat} (hx : x ≤ 1) : vp_nar .boolean (nI x) = nI x := by
  rcases (by omega : x = 0 ∨ x = 1) with e | e
  · subst e; exact ic_nb0
  · subst e; exact ic_nb1
theorem ic_X_writeData {p : Nat → Nat → Nat} {m x : Nat} {post : Int32 → St2 → Prop} (hI : ic_Inv p) (hm : m < 2) (h0 : p 16 m = 8 → post 0 (ic_X p)) (h1 : p 16 m ≠ 8 → post 1 (ic_X (ic_wd p m x))) : wpX_writeData post (ic_X p) (nI m) (nI x) := by
  have h4 := hI.2.2.2.1 m hm
  have hi2 : vp_in (nI m) 2 := vp_in_nI hm (by decide)
  have e : nI m * 8 + nI ((p 15 m + p 16 m) % 8) = nI (m * 8 + (p 15 m + p 16 m) % 8) := ic_ma m 8 _
  unfold wpX_writeData
  refine ic_X_mgr hm (br_f (by decide) (And.intro hi2 (ek_if (ic_ce m 8 rfl rfl (by omega) (by omega) (by decide)) (fun a => h0 a) (fun a => ?_))))
  have h := h1 a
  refine And.intro hi2 (And.intro hi2 (And.intro (by decide) (nm_r (ic_r (p 15 m + p 16 m) 8 (by rw [ic_g m rfl (by omega), ic_g m rfl (by omega), nI_add]) (by omega) (by decide) (by decide)) (And.intro (pk_in _ 16 (by omega) e) (nm_r (ic_p _ x e (by omega) rfl) (And.intro hi2 (And.intro hi2 (nm_r (ic_p m (p 16 m + 1) rfl (by omega) (ic_inc m rfl (by omega))) ?_))))))))
  exact h
theorem ic_X_setLatency {p : Nat → Nat → Nat} {s j x : Nat} {post : Int32 → St2 → Prop} (hs : s < 3) (hj : j < 4) (h1 : 1 ≤ x) (h15 : x ≤ 15) (h : post 1 (ic_X (ic_pu p 18 (s * 4 + j) x))) : wpX_setLatency post (ic_X p) (nI s) (nI j) (nI x) := by
  have e4 : nI s * 4 + nI j = nI (s * 4 + j) := ic_ma s 4 j
  unfold wpX_setLatency
  refine br_f (nI_pos (by omega)) (pk_le 3 s (fun z => by omega) (fun _ => br_f (nI_pos (by omega)) (pk_lt j 4 (fun _ => pk_lt x 1 (fun z => by omega) (fun _ => pk_le x 15 (fun _ => ?_) (fun z => by omega))) (fun z => by omega))))
  refine And.intro (pk_in (s * 4 + j) 12 (by omega) e4) (nm_r (ic_p _ x e4 (by omega) rfl) ?_)
  exact h
theorem ic_X_setReady {p : Nat → Nat → Nat} {m x y : Nat} {post : Int32 → St2 → Prop} (hm : m < 2) (hx : x ≤ 1) (hy : y ≤ 1) (h : post 1 (ic_X (ic_pu (ic_pu p 23 (m * 2 + 1) x) 23 (m * 2) y))) : wpX_setReady post (ic_X p) (nI m) (nI x) (nI y) := by
  have e1 : nI m * 2 + 1 = nI (m * 2 + 1) := ic_ma m 2 1
  have e0 : nI m * 2 + 0 = nI (m * 2) := ic_ma m 2 0
  unfold wpX_setReady
  refine ic_X_mgr hm (br_f (by decide) (And.intro (pk_in (m * 2 + 1) 4 (by omega) e1) (nm_r (ic_p _ x e1 (by omega) (ic_nbx hx)) (And.intro (pk_in (m * 2) 4 (by omega) e0) (nm_r (ic_p _ y e0 (by omega) (ic_nbx hy)) ?_)))))
  exact h
theorem ic_X_step {p : Nat → Nat → Nat} {n : Nat} {post : Int32 → St2 → Prop} (hI : ic_Inv p) (hT : p 25 3 < 2 ^ 30) (hC : p 25 2 + n < 2 ^ 30) (h1 : 1 ≤ n) (h64 : n ≤ 64) (h : post 1 (ic_X (ic_run n p))) : wpX_step post (ic_X p) (nI n) := by
  unfold wpX_step
  exact pk_lt n 1 (fun z => by omega) (fun _ => pk_le n 64 (fun _ => ⟨n + 1, ic_X_st h64 n 0 p (by omega) hI hT hC h⟩) (fun z => by omega))
theorem ic_X_outstanding {p : Nat → Nat → Nat} {m : Nat} {post : Int32 → Prop} (hm : m < 2) (h : post (nI (p 20 m))) : wpX_outstanding post (ic_X p) (nI m) := by
  unfold wpX_outstanding
  refine ic_X_mgr hm (br_f (by decide) (And.intro (vp_in_nI hm (by decide)) ?_))
  exact ek_v (P := post) (ic_g m rfl (by omega)) h
theorem ic_X_subLoad {p : Nat → Nat → Nat} {s : Nat} {post : Int32 → Prop} (hs : s < 4) (h : post (nI (p 21 s))) : wpX_subLoad post (ic_X p) (nI s) := by
  unfold wpX_subLoad
  refine br_f (nI_pos (by omega)) (pk_le 4 s (fun z => by omega) (fun _ => And.intro (vp_in_nI hs (by decide)) ?_))
  exact ek_v (P := post) (ic_g s rfl (by omega)) h
theorem ic_X_status {p : Nat → Nat → Nat} {t : Nat} {post : Int32 → Prop} (hI : ic_Inv p) (hT : p 25 3 < 2 ^ 30) (h1 : t < p 25 3) (h2 : p 25 3 ≤ t + 32) (h : p 0 (t % 32) ≤ 3 → post (nI (p 0 (t % 32)))) : wpX_status post (ic_X p) (nI t) := by
  have hL := hI.1 (t % 32) (by omega)
  unfold ic_L at hL
  unfold wpX_status
  refine ic_X_valid (p := p) hT (fun _ _ _ _ => br_f (by decide) ?_) (fun z => absurd ⟨t, h1, h2, rfl⟩ z)
  refine ic_X_slotOf t (nI_l (by omega)) (by omega) (And.intro (vp_in_nI (by omega) (by decide)) ?_)
  refine ek_v (P := post) ((ic_gs (t % 32) rfl (by omega)).trans (ic_sv_n (by omega))) (h (by omega))
theorem ic_X_beats {p : Nat → Nat → Nat} {t : Nat} {post : Int32 → Prop} (hT : p 25 3 < 2 ^ 30) (h1 : t < p 25 3) (h2 : p 25 3 ≤ t + 32) (h : post (nI (p 5 (t % 32)))) : wpX_beats post (ic_X p) (nI t) := by
  unfold wpX_beats
  refine ic_X_valid (p := p) hT (fun _ _ _ _ => br_f (by decide) ?_) (fun z => absurd ⟨t, h1, h2, rfl⟩ z)
  refine ic_X_slotOf t (nI_l (by omega)) (by omega) (And.intro (vp_in_nI (by omega) (by decide)) ?_)
  exact ek_v (P := post) (ic_g (t % 32) rfl (by omega)) h
theorem ic_X_doneOrder {p : Nat → Nat → Nat} {t : Nat} {post : Int32 → Prop} (hI : ic_Inv p) (hT : p 25 3 < 2 ^ 30) (h1 : t < p 25 3) (h2 : p 25 3 ≤ t + 32) (hS : 2 ≤ p 0 (t % 32)) (h : post (nI (p 8 (t % 32)))) : wpX_doneOrder post (ic_X p) (nI t) := by
  have hL := hI.1 (t % 32) (by omega)
  unfold ic_L at hL
  unfold wpX_doneOrder
  refine ic_X_valid (p := p) hT (fun _ _ _ _ => br_f (by decide) ?_) (fun z => absurd ⟨t, h1, h2, rfl⟩ z)
  refine ic_X_slotOf t (nI_l (by omega)) (by omega) ?_
  refine ic_X_isPending (p := p) (by omega) (by omega) (fun z => by omega) (fun _ => br_t rfl (And.intro (vp_in_nI (by omega) (by decide)) ?_))
  exact ek_v (P := post) (ic_g (t % 32) rfl (by omega)) h
def ic_seg (n x : Nat) : Nat → Nat := fun j => if j < n then x else 0
theorem ic_seg_s (n x : Nat) : ic_u (ic_seg n x) n x = ic_seg (n + 1) x := by
  funext j
  by_cases e : j = n
  · subst e
    rw [ic_us]
    exact (if_pos (by omega)).symm
  · rw [ic_un e]
    show (if j < n then x else 0) = (if j < n + 1 then x else 0)
    by_cases c : j < n
    · rw [if_pos c, if_pos (by omega)]
    · rw [if_neg c, if_neg (by omega)]
theorem ic_seg_t {i : Nat} {v : Int32} (hi : i < 2 ^ 31) (hv : v = nI 1) : upd (ic_t (ic_seg i 1)) (nI i).toNatClampNeg v = ic_t (ic_seg (i + 1) 1) :=
  (ic_p i 1 rfl hi hv).trans (congrArg ic_t (ic_seg_s i 1))
theorem ic_seg_ts {i : Nat} (hi : i < 2 ^ 31) : upd (ic_ts (ic_seg i 4)) (nI i).toNatClampNeg (-1) = ic_ts (ic_seg (i + 1) 4) := by
  rw [nI_clamp hi, ← ic_seg_s i 4]
  funext j
  by_cases e : j = i
  · subst e; show upd (ic_ts (ic_seg j 4)) j (-1) j = ic_sv (ic_u (ic_seg j 4) j 4 j); rw [pk_us, ic_us]; rfl
  · show upd (ic_ts (ic_seg i 4)) i (-1) j = ic_sv (ic_u (ic_seg i 4) i 4 j); rw [pk_un e, ic_un e]; rfl
def ic_pz (a b d l c : Nat) : Nat → Nat → Nat := fun f => if f = 0 then ic_seg a 4 else if f = 18 then ic_seg b 1 else if f = 23 then ic_seg d 1 else if f = 25 then (fun j => if j = 0 then l else if j = 1 then c else 0) else fun _ => 0
theorem ic_X_i282 {l c mc ms kc ks : Nat} {post : St2 → Prop} (h : post (ic_X (ic_p0 l c))) : ∀ d i : Nat, i + d = 4 → wX_init_282 post mc ms kc ks (nI ((ic_pz 32 12 i l c) 25 0)) (nI ((ic_pz 32 12 i l c) 25 1)) (lN ((ic_pz 32 12 i l c) 25 2)) (lN ((ic_pz 32 12 i l c) 25 3)) (nI ((ic_pz 32 12 i l c) 25 4)) (d + 1) (nI i) (ic_ts ((ic_pz 32 12 i l c) 0)) (ic_t ((ic_pz 32 12 i l c) 1)) (ic_t ((ic_pz 32 12 i l c) 2)) (ic_t ((ic_pz 32 12 i l c) 3)) (ic_t8 ((ic_pz 32 12 i l c) 3)) (ic_t ((ic_pz 32 12 i l c) 4)) (ic_t ((ic_pz 32 12 i l c) 5)) (ic_t ((ic_pz 32 12 i l c) 6)) (ic_tL ((ic_pz 32 12 i l c) 7)) (ic_t ((ic_pz 32 12 i l c) 8)) (ic_t ((ic_pz 32 12 i l c) 9)) (ic_t ((ic_pz 32 12 i l c) 10)) (ic_t ((ic_pz 32 12 i l c) 11)) (ic_t ((ic_pz 32 12 i l c) 12)) (ic_t ((ic_pz 32 12 i l c) 13)) (ic_t ((ic_pz 32 12 i l c) 14)) (ic_t ((ic_pz 32 12 i l c) 15)) (ic_t ((ic_pz 32 12 i l c) 16)) (ic_t ((ic_pz 32 12 i l c) 17)) (ic_t ((ic_pz 32 12 i l c) 18)) (ic_t ((ic_pz 32 12 i l c) 19)) (ic_t ((ic_pz 32 12 i l c) 20)) (ic_t ((ic_pz 32 12 i l c) 21)) (ic_t ((ic_pz 32 12 i l c) 22)) (ic_t ((ic_pz 32 12 i l c) 23)) (ic_t ((ic_pz 32 12 i l c) 24)) := by
  intro d
  induction d with
  | zero =>
    intro i e
    have e2 : i = 4 := by omega
    subst e2
    exact pk_le 4 4 (fun _ => h) (fun z => by omega)
  | succ d ih =>
    intro i e
    exact pk_le 4 i (fun z => by omega) (fun _ => And.intro (vp_in_nI (by omega) (by decide)) (nm_r (ic_seg_t (by omega) rfl) (nm_r (nI_1 i) (ih (i + 1) (by omega)))))
theorem ic_X_i261 {l c mc ms kc ks : Nat} {post : St2 → Prop} (h : post (ic_X (ic_p0 l c))) : ∀ d i : Nat, i + d = 12 → wX_init_261 post mc ms kc ks (nI ((ic_pz 32 i 0 l c) 25 0)) (nI ((ic_pz 32 i 0 l c) 25 1)) (lN ((ic_pz 32 i 0 l c) 25 2)) (lN ((ic_pz 32 i 0 l c) 25 3)) (nI ((ic_pz 32 i 0 l c) 25 4)) (d + 1) (nI i) (ic_ts ((ic_pz 32 i 0 l c) 0)) (ic_t ((ic_pz 32 i 0 l c) 1)) (ic_t ((ic_pz 32 i 0 l c) 2)) (ic_t ((ic_pz 32 i 0 l c) 3)) (ic_t8 ((ic_pz 32 i 0 l c) 3)) (ic_t ((ic_pz 32 i 0 l c) 4)) (ic_t ((ic_pz 32 i 0 l c) 5)) (ic_t ((ic_pz 32 i 0 l c) 6)) (ic_tL ((ic_pz 32 i 0 l c) 7)) (ic_t ((ic_pz 32 i 0 l c) 8)) (ic_t ((ic_pz 32 i 0 l c) 9)) (ic_t ((ic_pz 32 i 0 l c) 10)) (ic_t ((ic_pz 32 i 0 l c) 11)) (ic_t ((ic_pz 32 i 0 l c) 12)) (ic_t ((ic_pz 32 i 0 l c) 13)) (ic_t ((ic_pz 32 i 0 l c) 14)) (ic_t ((ic_pz 32 i 0 l c) 15)) (ic_t ((ic_pz 32 i 0 l c) 16)) (ic_t ((ic_pz 32 i 0 l c) 17)) (ic_t ((ic_pz 32 i 0 l c) 18)) (ic_t ((ic_pz 32 i 0 l c) 19)) (ic_t ((ic_pz 32 i 0 l c) 20)) (ic_t ((ic_pz 32 i 0 l c) 21)) (ic_t ((ic_pz 32 i 0 l c) 22)) (ic_t ((ic_pz 32 i 0 l c) 23)) (ic_t ((ic_pz 32 i 0 l c) 24)) := by
  intro d
  induction d with
  | zero =>
    intro i e
    have e2 : i = 12 := by omega
    subst e2
    exact pk_le 12 12 (fun _ => ⟨5, ic_X_i282 h 4 0 rfl⟩) (fun z => by omega)
  | succ d ih =>
    intro i e
    exact pk_le 12 i (fun z => by omega) (fun _ => And.intro (vp_in_nI (by omega) (by decide)) (nm_r (ic_seg_t (by omega) rfl) (nm_r (nI_1 i) (ih (i + 1) (by omega)))))
theorem ic_X_i240 {l c mc ms kc ks : Nat} {post : St2 → Prop} (h : post (ic_X (ic_p0 l c))) : ∀ d i : Nat, i + d = 32 → wX_init_240 post mc ms kc ks (nI ((ic_pz i 0 0 l c) 25 0)) (nI ((ic_pz i 0 0 l c) 25 1)) (lN ((ic_pz i 0 0 l c) 25 2)) (lN ((ic_pz i 0 0 l c) 25 3)) (nI ((ic_pz i 0 0 l c) 25 4)) (d + 1) (nI i) (ic_ts ((ic_pz i 0 0 l c) 0)) (ic_t ((ic_pz i 0 0 l c) 1)) (ic_t ((ic_pz i 0 0 l c) 2)) (ic_t ((ic_pz i 0 0 l c) 3)) (ic_t8 ((ic_pz i 0 0 l c) 3)) (ic_t ((ic_pz i 0 0 l c) 4)) (ic_t ((ic_pz i 0 0 l c) 5)) (ic_t ((ic_pz i 0 0 l c) 6)) (ic_tL ((ic_pz i 0 0 l c) 7)) (ic_t ((ic_pz i 0 0 l c) 8)) (ic_t ((ic_pz i 0 0 l c) 9)) (ic_t ((ic_pz i 0 0 l c) 10)) (ic_t ((ic_pz i 0 0 l c) 11)) (ic_t ((ic_pz i 0 0 l c) 12)) (ic_t ((ic_pz i 0 0 l c) 13)) (ic_t ((ic_pz i 0 0 l c) 14)) (ic_t ((ic_pz i 0 0 l c) 15)) (ic_t ((ic_pz i 0 0 l c) 16)) (ic_t ((ic_pz i 0 0 l c) 17)) (ic_t ((ic_pz i 0 0 l c) 18)) (ic_t ((ic_pz i 0 0 l c) 19)) (ic_t ((ic_pz i 0 0 l c) 20)) (ic_t ((ic_pz i 0 0 l c) 21)) (ic_t ((ic_pz i 0 0 l c) 22)) (ic_t ((ic_pz i 0 0 l c) 23)) (ic_t ((ic_pz i 0 0 l c) 24)) := by
  intro d
  induction d with
  | zero =>
    intro i e
    have e2 : i = 32 := by omega
    subst e2
    exact pk_le 32 32 (fun _ => ⟨13, ic_X_i261 h 12 0 rfl⟩) (fun z => by omega)
  | succ d ih =>
    intro i e
    exact pk_le 32 i (fun z => by omega) (fun _ => And.intro (vp_in_nI (by omega) (by decide)) (nm_r (ic_seg_ts (by omega)) (nm_r (nI_1 i) (ih (i + 1) (by omega)))))
theorem ic_X_init {l c : Nat} {post : St2 → Prop} {u : St1} (h1 : 1 ≤ l) (h8 : l ≤ 8) (hc1 : 1 ≤ c) (hc4 : c ≤ 4) (h : post (ic_X (ic_p0 l c))) : wpX_init post 26 586 u (nI l) (nI c) := by
  have L : ∀ P : Int32 → Prop, P (nI l) → wpX_clamp P () (nI l) 8 := fun P z => by
    unfold wpX_clamp
    exact pk_le 1 l (fun _ => pk_le l 8 (fun _ => z) (fun w => by omega)) (fun w => by omega)
  have C : ∀ P : Int32 → Prop, P (nI c) → wpX_clamp P () (nI c) 4 := fun P z => by
    unfold wpX_clamp
    exact pk_le 1 c (fun _ => pk_le c 4 (fun _ => z) (fun w => by omega)) (fun w => by omega)
  have r := ic_X_i240 (mc := 26) (ms := 586) (kc := 26) (ks := 586) h 32 0 rfl
  have z1 : ∀ x, ic_seg 0 x = fun _ => 0 := fun x => by funext j; exact if_neg (by omega)
  have e0 : ic_ts (ic_pz 0 0 0 l c 0) = fun _ => 0 := by
    show ic_ts (ic_seg 0 4) = _
    rw [z1]
    rfl
  have e8 : ic_t8 (ic_pz 0 0 0 l c 3) = fun _ => 0 := by
    funext j
    show nI (0 / 8) = 0
    rfl
  have eL : ic_tL (ic_pz 0 0 0 l c 7) = fun _ => 0 := by
    funext j
    show lN 0 = 0
    rfl
  have e18 : ic_t (ic_pz 0 0 0 l c 18) = fun _ => 0 := by
    show ic_t (ic_seg 0 1) = _
    rw [z1]
    rfl
  have e23 : ic_t (ic_pz 0 0 0 l c 23) = fun _ => 0 := by
    show ic_t (ic_seg 0 1) = _
    rw [z1]
    rfl
  rw [e0, e8, eL, e18, e23] at r
  unfold wpX_init
  refine ⟨by decide, by decide, by decide, by decide, by decide, by decide, by decide, by decide, by decide, by decide, by decide, by decide, by decide, by decide, by decide, by decide, by decide, by decide, by decide, by decide, by decide, by decide, by decide, by decide, by decide, by decide, by decide, by decide, by decide, by decide, by decide, by decide, by decide, by decide, by decide, by decide, by decide, by decide, by decide, by decide, by decide, by decide, by decide, by decide, by decide, by decide, by decide, by decide, by decide, by decide, by decide, by decide, ?_⟩
  exact L _ (C _ ⟨33, r⟩)
end
section
/-! the law's own numbers -/
theorem ic_par_ex (sd : Int64) (t : Int32) : ∃ n, n < 2 ^ 31 ∧ ∀ post : Int32 → Prop, post (nI n) → wpL_par post () sd t := by
  have key : ∃ x : Int64, ∀ post : Int32 → Prop, post ((x &&& 2147483647).toInt32) → wpL_par post () sd t :=
    ⟨_, fun post h => (nm_e (nm_e (nm_e (nm_e (nm_e (nm_e h))))) : wpL_par post () sd t)⟩
  obtain ⟨x, hx⟩ := key
  obtain ⟨n, hn, e⟩ := wb_of x
  refine ⟨n % 2 ^ 31, Nat.mod_lt _ (by decide), fun post h => hx post ?_⟩
  have m : lN n &&& lN (2 ^ 31 - 1) = lN (n % 2 ^ 31) := wb_mask hn (by decide)
  have m2 : (2147483647 : Int64) = lN (2 ^ 31 - 1) := rfl
  rw [e, m2, m, lN_i]
  exact h
noncomputable def ic_w (sd : Int64) (t : Nat) : Nat := Classical.choose (ic_par_ex sd (nI t))
theorem ic_w_lt (sd : Int64) (t : Nat) : ic_w sd t < 2 ^ 31 := (Classical.choose_spec (ic_par_ex sd (nI t))).1
theorem ic_par {sd : Int64} {t : Nat} {post : Int32 → Prop} (h : post (nI (ic_w sd t))) : wpL_par post () sd (nI t) := (Classical.choose_spec (ic_par_ex sd (nI t))).2 post h
theorem ic_pm {w : Nat} {post : Int32 → Prop} (hw : w < 2 ^ 31) (h : post (nI (w % 2))) : wpL_pm post () (nI w) := by
  unfold wpL_pm
  exact ek_v (P := post) (pk_andN (n := w) (by omega) 1 (by decide)) h
def ic_pw (w : Nat) : Nat := if nI w &&& 2 = 0 then 0 else 1
theorem ic_pw_le (w : Nat) : ic_pw w ≤ 1 := by
  unfold ic_pw
  split <;> omega
theorem ic_pwL {w : Nat} {post : Int32 → Prop} (h : post (nI (ic_pw w))) : wpL_pw post () (nI w) := by
  unfold ic_pw at h
  unfold wpL_pw
  refine br_c (fun a => ?_) (fun a => ?_)
  · rw [if_pos a] at h; exact h
  · rw [if_neg a] at h; exact h
def ic_id (w mk : Nat) : Nat := (w / 2 ^ 2) &&& mk
theorem ic_id_lt {w mk : Nat} (h : mk < 4) : ic_id w mk < 4 := Nat.lt_of_le_of_lt Nat.and_le_right h
theorem ic_pid {w mk : Nat} {post : Int32 → Prop} (hw : w < 2 ^ 31) (h : post (nI (ic_id w mk))) : wpL_pid post () (nI w) (nI mk) := by
  unfold wpL_pid
  refine ek_v (P := post) ?_ h
  rw [pk_shrN hw _ 2 (by decide), nx_and]
  rfl
def ic_len (w : Nat) : Nat := 1 + w / 2 ^ 4 % 2 ^ 2
theorem ic_len_in (w : Nat) : 1 ≤ ic_len w ∧ ic_len w ≤ 4 := by
  unfold ic_len
  omega
theorem ic_plen {w : Nat} {post : Int32 → Prop} (hw : w < 2 ^ 31) (h : post (nI (ic_len w))) : wpL_plen post () (nI w) := by
  unfold wpL_plen
  refine ek_v (P := post) ?_ h
  rw [pk_shrN hw _ 4 (by decide), pk_andN (by omega) 2 (by decide)]
  exact nI_add 1 _
def ic_adr (w : Nat) : Nat := if w / 2 ^ 6 % 2 ^ 5 % 8 + ic_len w ≤ 8 then w / 2 ^ 6 % 2 ^ 5 else w / 2 ^ 6 % 2 ^ 5 - (w / 2 ^ 6 % 2 ^ 5 % 8 + ic_len w - 8)
theorem ic_adr_in (w : Nat) : ic_adr w < 32 ∧ ic_adr w % 8 + ic_len w ≤ 8 := by
  have h := ic_len_in w
  unfold ic_adr
  have ha : w / 2 ^ 6 % 2 ^ 5 < 32 := Nat.mod_lt _ (by decide)
  generalize ic_len w = l at *
  generalize w / 2 ^ 6 % 2 ^ 5 = a at *
  by_cases c : a % 8 + l ≤ 8
  · rw [if_pos c]
    exact ⟨ha, c⟩
  · rw [if_neg c]
    omega
theorem ic_paddr {w : Nat} {post : Int32 → Prop} (hw : w < 2 ^ 31) (h : post (nI (ic_adr w))) : wpL_paddr post () (nI w) := by
  have hl := ic_len_in w
  have ha : w / 2 ^ 6 % 2 ^ 5 < 32 := Nat.mod_lt _ (by decide)
  unfold ic_adr at h
  unfold wpL_paddr
  refine nm_r (e' := nI (w / 2 ^ 6 % 2 ^ 5)) ?_ (ic_plen hw ?_)
  · rw [pk_shrN hw _ 6 (by decide), pk_andN (by omega) 5 (by decide)]
  · generalize w / 2 ^ 6 % 2 ^ 5 = a at *
    refine nm_r (e' := nI (a % 8 + ic_len w)) ?_ ?_
    · rw [pk_andN (by omega) 3 (by decide), nI_add]
    · generalize ic_len w = l at *
      refine pk_le (a % 8 + l) 8 (fun z => ?_) (fun z => ?_)
      · rw [if_pos z] at h
        exact h
      · rw [if_neg (by omega)] at h
        refine nm_r (e' := nI (a - (a % 8 + l - 8))) ?_ h
        rw [show nI (a % 8 + l) - 8 = nI (a % 8 + l - 8) from pk_sub (b := 8) (by omega)]
        exact pk_sub (by omega)
def ic_chn (w : Nat) : Nat := w % 2 * 2 + ic_pw w
theorem ic_cell {L : Nat} {xs : Nat → Int32} {post : Int32 → Prop} {j : Nat} (hL : L ≤ 260) (hj : j < 2 ^ 31) (h : ∀ v, post v) : wpL_cell post L xs () (nI j) := by
  unfold wpL_cell
  refine pk_le L j (fun _ => h 0) (fun z => And.intro (vp_in_nI z (by omega)) (h _))
theorem ic_pos {v : Int32} {post : Int32 → Prop} (h : ∀ n, n < 2 ^ 31 → post (nI n)) : wpL_pos post () v := by
  unfold wpL_pos
  refine ek_v (P := post) (pk_and v 31 (by decide)) (h _ (Nat.mod_lt _ (by decide)))
/-- what the law's loop keeps -/
def ic_JJ (sd : Int64) (mk lim cap : Nat) (p : Nat → Nat → Nat) : Prop :=
  ic_Inv p ∧ ic_Ord p ∧ p 25 0 = lim ∧ p 25 1 = cap ∧ p 25 4 ≤ 4 * p 25 2 ∧
    (∀ t, t < p 25 3 → p 25 3 ≤ t + 32 → p 1 (t % 32) = ic_chn (ic_w sd t) ∧ p 2 (t % 32) = ic_id (ic_w sd t) mk ∧ p 4 (t % 32) = ic_len (ic_w sd t))
theorem ic_JJ_run {sd : Int64} {mk lim cap n : Nat} {p : Nat → Nat → Nat} (h : ic_JJ sd mk lim cap p) : ic_JJ sd mk lim cap (ic_run n p) ∧ ic_run n p 25 2 = p 25 2 + n ∧ ic_run n p 25 3 = p 25 3 := by
  obtain ⟨hI, hO, h0, h1, hE, hP⟩ := h
  have a := ic_run_Inv n p hI
  obtain ⟨o, f1, f2, f4, f50, f51, f53, f54⟩ := ic_run_Ord n p hI hO
  refine ⟨⟨a.1, o, by rw [f50, h0], by rw [f51, h1], by omega, ?_⟩, a.2.1, a.2.2⟩
  rw [f1, f2, f4, f53]
  exact hP
theorem ic_JJ_is {sd : Int64} {mk lim cap : Nat} {p : Nat → Nat → Nat} (h : ic_JJ sd mk lim cap p) (hmk : mk < 4) (hq : p 13 (ic_chn (ic_w sd (p 25 3))) ≠ 4) (hS : 2 ≤ p 0 (p 25 3 % 32)) :
    ic_JJ sd mk lim cap (ic_iss p (ic_chn (ic_w sd (p 25 3))) (ic_id (ic_w sd (p 25 3)) mk) (ic_adr (ic_w sd (p 25 3))) (ic_len (ic_w sd (p 25 3)))) := by
  obtain ⟨hI, hO, h0, h1, hE, hP⟩ := h
  have hc : ic_chn (ic_w sd (p 25 3)) < 4 := by
    have := ic_pw_le (ic_w sd (p 25 3))
    unfold ic_chn
    omega
  refine ⟨ic_iss_Inv hI hc (ic_id_lt hmk) (ic_adr_in _).1 (ic_len_in _).1 (ic_len_in _).2 (ic_adr_in _).2 hq hS, ic_iss_Ord hO, h0, h1, hE, fun t ht1 ht2 => ?_⟩
  have g1 : t < p 25 3 + 1 := ht1
  have g2 : p 25 3 + 1 ≤ t + 32 := ht2
  show ic_u (p 1) (p 25 3 % 32) (ic_chn (ic_w sd (p 25 3))) (t % 32) = ic_chn (ic_w sd t) ∧ ic_u (p 2) (p 25 3 % 32) (ic_id (ic_w sd (p 25 3)) mk) (t % 32) = ic_id (ic_w sd t) mk ∧ ic_u (p 4) (p 25 3 % 32) (ic_len (ic_w sd (p 25 3))) (t % 32) = ic_len (ic_w sd t)
  by_cases e : t = p 25 3
  · rw [e, ic_us, ic_us, ic_us]
    exact ⟨rfl, rfl, rfl⟩
  · have hn : t % 32 ≠ p 25 3 % 32 := by omega
    rw [ic_un hn, ic_un hn, ic_un hn]
    exact hP t (by omega) (by omega)
theorem ic_JJ_wd {sd : Int64} {mk lim cap m x : Nat} {p : Nat → Nat → Nat} (h : ic_JJ sd mk lim cap p) (hm : p 16 m ≠ 8) : ic_JJ sd mk lim cap (ic_wd p m x) :=
  ⟨ic_wd_Inv h.1 hm, h.2⟩
theorem ic_JJ_sl {sd : Int64} {mk lim cap j x : Nat} {p : Nat → Nat → Nat} (h : ic_JJ sd mk lim cap p) (hx : x ≤ 15) : ic_JJ sd mk lim cap (ic_pu p 18 j x) :=
  ⟨ic_sl_Inv h.1 hx, h.2⟩
theorem ic_JJ_sr {sd : Int64} {mk lim cap i j x y : Nat} {p : Nat → Nat → Nat} (h : ic_JJ sd mk lim cap p) (hx : x ≤ 1) (hy : y ≤ 1) : ic_JJ sd mk lim cap (ic_pu (ic_pu p 23 i x) 23 j y) :=
  ⟨ic_sr_Inv (ic_sr_Inv h.1 hx) hy, h.2⟩
theorem ic_JJ_0 {sd : Int64} {mk l c : Nat} (hl : l ≤ 8) (hc : c ≤ 4) : ic_JJ sd mk l c (ic_p0 l c) := by
  refine ⟨ic_p0_Inv hl hc, ic_p0_Ord, rfl, rfl, ?_, fun t ht => ?_⟩
  · show 0 ≤ 4 * 0
    omega
  · have : t < 0 := ht
    omega
end
section
/-! the law's inner loops -/
abbrev ic_JT : Type := Int32 → Int32 → Int32 → Int32 → Int64 → Int64 → Int32 → (Nat → Int32) → (Nat → Int32) → (Nat → Int32) → (Nat → Int32) → (Nat → Int32) → (Nat → Int32) → (Nat → Int32) → (Nat → Int32) → (Nat → Int64) → (Nat → Int32) → (Nat → Int32) → (Nat → Int32) → (Nat → Int32) → (Nat → Int32) → (Nat → Int32) → (Nat → Int32) → (Nat → Int32) → (Nat → Int32) → (Nat → Int32) → (Nat → Int32) → (Nat → Int32) → (Nat → Int32) → (Nat → Int32) → (Nat → Int32) → (Nat → Int32) → (Nat → Int32) → Prop
theorem ic_doneT {s : Nat} {post : Int32 → Prop} (h2 : 2 ≤ s) (h3 : s ≤ 3) (h : post 1) : wpL_done post () (nI s) := by
  unfold wpL_done
  exact pk_eq s 2 (fun _ => h) (fun a => pk_eq s 3 (fun _ => h) (fun b => by omega))
theorem ic_doneF {s : Nat} {post : Int32 → Prop} (h2 : ¬ 2 ≤ s) (h : post 0) : wpL_done post () (nI s) := by
  unfold wpL_done
  exact pk_eq s 2 (fun a => by omega) (fun a => pk_eq s 3 (fun b => by omega) (fun b => h))
theorem ic_652 {post : Int32 → Prop} {L : Nat} {xs : Nat → Int32} {J : ic_JT} {K : Int32 → Prop} {x1 x2 : Int32} {sd : Int64} {x7 x8 x9 x18 : Int32} {mk lim cap kc ks lo t2 : Nat} {p : Nat → Nat → Nat} (hJ : ic_JJ sd mk lim cap p) (hmk : mk < 4) (hT : p 25 3 < 2 ^ 20) (hC : p 25 2 < 2 ^ 20)
    (h2 : t2 < p 25 3) (hlo : p 25 3 ≤ lo + 32) (hd : 2 ≤ p 0 (t2 % 32)) (hK : K (nI (t2 + 1))) : ∀ d i : Nat, i + d = t2 → lo ≤ i →
    wL_law_652 post L xs J K x1 x2 (nI mk) sd x7 x8 x9 x18 (nI t2) (nI (ic_w sd t2)) kc ks (nI (p 25 0)) (nI (p 25 1)) (lN (p 25 2)) (lN (p 25 3)) (nI (p 25 4)) (ic_ts (p 0)) (ic_t (p 1)) (ic_t (p 2)) (ic_t (p 3)) (ic_t8 (p 3)) (ic_t (p 4)) (ic_t (p 5)) (ic_t (p 6)) (ic_tL (p 7)) (ic_t (p 8)) (ic_t (p 9)) (ic_t (p 10)) (ic_t (p 11)) (ic_t (p 12)) (ic_t (p 13)) (ic_t (p 14)) (ic_t (p 15)) (ic_t (p 16)) (ic_t (p 17)) (ic_t (p 18)) (ic_t (p 19)) (ic_t (p 20)) (ic_t (p 21)) (ic_t (p 22)) (ic_t (p 23)) (ic_t (p 24)) (d + 1) (nI i) := by
  obtain ⟨hI, ⟨d1, d2, d3⟩, h0, h1, hE, hP⟩ := hJ
  intro d
  induction d with
  | zero =>
    intro i hi _
    exact pk_le t2 i (fun _ => nm_r (nI_1 t2) hK) (fun z => by omega)
  | succ d ih =>
    intro i hi hl
    have N := ih (i + 1) (by omega) (by omega)
    have w1 := ic_w_lt sd i
    have w2 := ic_w_lt sd t2
    have b1 := ic_pw_le (ic_w sd i)
    have b2 := ic_pw_le (ic_w sd t2)
    have c1 := @ic_id_lt (ic_w sd i) mk hmk
    have c2 := @ic_id_lt (ic_w sd t2) mk hmk
    have P1 := hP i (by omega) (by omega)
    have P2 := hP t2 h2 (by omega)
    refine pk_le t2 i (fun z => by omega) (fun _ => ic_par (ic_pm w1 (ic_pm w2 ?_)))
    refine pk_eq (ic_w sd i % 2) (ic_w sd t2 % 2) (fun a => ?_) (fun a => nm_r (nI_1 i) N)
    refine ic_pwL (ic_pwL (pk_eq (ic_pw (ic_w sd i)) (ic_pw (ic_w sd t2)) (fun b => ?_) (fun b => nm_r (nI_1 i) N)))
    refine ic_pid w1 (ic_pid w2 (pk_eq (ic_id (ic_w sd i) mk) (ic_id (ic_w sd t2) mk) (fun c => ?_) (fun c => nm_r (nI_1 i) N)))
    have r := d2 i t2 (by omega) h2 (by omega) (by rw [P1.1, P2.1]; unfold ic_chn; rw [a, b]) (by rw [P1.2.1, P2.2.1, c]) hd
    have hL1 := hI.1 (i % 32) (by omega)
    have hL2 := hI.1 (t2 % 32) (by omega)
    unfold ic_L at hL1 hL2
    have o1 := (d1 (i % 32) (by omega) r.1 (by omega)).2
    have o2 := (d1 (t2 % 32) (by omega) hd (by omega)).2
    refine ic_X_status (p := p) hI (by omega) (by omega) (by omega) (fun s3 => ic_doneT r.1 s3 (br_f (by decide) ?_))
    refine ic_X_doneOrder (p := p) hI (by omega) (by omega) (by omega) r.1 (ic_X_doneOrder (p := p) hI (by omega) h2 (by omega) hd ?_)
    exact pk_lt (p 8 (i % 32)) (p 8 (t2 % 32)) (fun _ => nm_r (nI_1 i) N) (fun z => by omega)
theorem ic_599 {post : Int32 → Prop} {L : Nat} {xs : Nat → Int32} {J : ic_JT} {x1 x2 : Int32} {sd : Int64} {x8 : Int32} {mk lim cap kc ks lo k : Nat} {p : Nat → Nat → Nat} (hJ : ic_JJ sd mk lim cap p) (hmk : mk < 4) (hT : p 25 3 < 2 ^ 20) (hC : p 25 2 < 2 ^ 20)
    (hlo : p 25 3 ≤ lo + 32) (hK : J (nI (p 25 3)) (nI (k + 1)) (nI (p 25 0)) (nI (p 25 1)) (lN (p 25 2)) (lN (p 25 3)) (nI (p 25 4)) (ic_ts (p 0)) (ic_t (p 1)) (ic_t (p 2)) (ic_t (p 3)) (ic_t8 (p 3)) (ic_t (p 4)) (ic_t (p 5)) (ic_t (p 6)) (ic_tL (p 7)) (ic_t (p 8)) (ic_t (p 9)) (ic_t (p 10)) (ic_t (p 11)) (ic_t (p 12)) (ic_t (p 13)) (ic_t (p 14)) (ic_t (p 15)) (ic_t (p 16)) (ic_t (p 17)) (ic_t (p 18)) (ic_t (p 19)) (ic_t (p 20)) (ic_t (p 21)) (ic_t (p 22)) (ic_t (p 23)) (ic_t (p 24))) : ∀ d t : Nat, t + d = p 25 3 → lo ≤ t →
    wL_law_599 post L xs J x1 x2 (nI mk) sd (nI (p 25 3)) x8 (nI k) (nI lo) kc ks (nI (p 25 0)) (nI (p 25 1)) (lN (p 25 2)) (lN (p 25 3)) (nI (p 25 4)) (ic_ts (p 0)) (ic_t (p 1)) (ic_t (p 2)) (ic_t (p 3)) (ic_t8 (p 3)) (ic_t (p 4)) (ic_t (p 5)) (ic_t (p 6)) (ic_tL (p 7)) (ic_t (p 8)) (ic_t (p 9)) (ic_t (p 10)) (ic_t (p 11)) (ic_t (p 12)) (ic_t (p 13)) (ic_t (p 14)) (ic_t (p 15)) (ic_t (p 16)) (ic_t (p 17)) (ic_t (p 18)) (ic_t (p 19)) (ic_t (p 20)) (ic_t (p 21)) (ic_t (p 22)) (ic_t (p 23)) (ic_t (p 24)) (d + 1) (nI t) := by
  intro d
  induction d with
  | zero =>
    intro t ht _
    exact pk_le (p 25 3) t (fun _ => nm_r (nI_1 k) hK) (fun z => by omega)
  | succ d ih =>
    intro t ht hl
    have N := ih (t + 1) (by omega) (by omega)
    refine pk_le (p 25 3) t (fun z => by omega) (fun _ => ic_par ?_)
    refine ic_X_status (p := p) hJ.1 (by omega) (by omega) (by omega) (fun s3 => ?_)
    by_cases hd : 2 ≤ p 0 (t % 32)
    · have P := hJ.2.2.2.2.2 t (by omega) (by omega)
      have B := (hJ.2.1.1 (t % 32) (by omega) hd s3).1
      have hl4 := ic_len_in (ic_w sd t)
      refine ic_doneT hd s3 (br_f (by decide) (ic_X_beats (p := p) (by omega) (by omega) (by omega) (ic_plen (ic_w_lt sd t) (pk_eq (p 5 (t % 32)) (ic_len (ic_w sd t)) (fun _ => ?_) (fun z => by omega)))))
      exact ⟨_, ic_652 hJ hmk hT hC (by omega) hlo hd N (t - lo) lo (by omega) (Nat.le_refl lo)⟩
    · exact ic_doneF hd (br_t rfl (nm_r (nI_1 t) N))
theorem ic_468 {post : Int32 → Prop} {L : Nat} {xs : Nat → Int32} {J : ic_JT} {sd : Int64} {x8 : Int32} {mk lim cap kc ks k : Nat} {p : Nat → Nat → Nat} (hJ : ic_JJ sd mk lim cap p) (hmk : mk < 4) (hlim : lim ≤ 8) (hcap : cap ≤ 4) (hT : p 25 3 < 2 ^ 20) (hC : p 25 2 < 2 ^ 20)
    (hK : J (nI (p 25 3)) (nI (k + 1)) (nI (p 25 0)) (nI (p 25 1)) (lN (p 25 2)) (lN (p 25 3)) (nI (p 25 4)) (ic_ts (p 0)) (ic_t (p 1)) (ic_t (p 2)) (ic_t (p 3)) (ic_t8 (p 3)) (ic_t (p 4)) (ic_t (p 5)) (ic_t (p 6)) (ic_tL (p 7)) (ic_t (p 8)) (ic_t (p 9)) (ic_t (p 10)) (ic_t (p 11)) (ic_t (p 12)) (ic_t (p 13)) (ic_t (p 14)) (ic_t (p 15)) (ic_t (p 16)) (ic_t (p 17)) (ic_t (p 18)) (ic_t (p 19)) (ic_t (p 20)) (ic_t (p 21)) (ic_t (p 22)) (ic_t (p 23)) (ic_t (p 24))) : wL_law_468 post L xs J (nI lim) (nI cap) (nI mk) sd (nI (p 25 3)) x8 (nI k) kc ks (nI (p 25 0)) (nI (p 25 1)) (lN (p 25 2)) (lN (p 25 3)) (nI (p 25 4)) (ic_ts (p 0)) (ic_t (p 1)) (ic_t (p 2)) (ic_t (p 3)) (ic_t8 (p 3)) (ic_t (p 4)) (ic_t (p 5)) (ic_t (p 6)) (ic_tL (p 7)) (ic_t (p 8)) (ic_t (p 9)) (ic_t (p 10)) (ic_t (p 11)) (ic_t (p 12)) (ic_t (p 13)) (ic_t (p 14)) (ic_t (p 15)) (ic_t (p 16)) (ic_t (p 17)) (ic_t (p 18)) (ic_t (p 19)) (ic_t (p 20)) (ic_t (p 21)) (ic_t (p 22)) (ic_t (p 23)) (ic_t (p 24)) := by
  have hs := ic_sum hJ.1
  obtain ⟨m1, m2⟩ := hJ.2.1.2.2
  have a0 := m1 0 (by decide)
  have a1 := m1 1 (by decide)
  have b0 := m2 0 (by decide)
  have b1 := m2 1 (by decide)
  have b2 := m2 2 (by decide)
  have b3 := m2 3 (by decide)
  rw [hJ.2.2.1] at a0 a1
  rw [hJ.2.2.2.1] at b0 b1 b2 b3
  unfold wL_law_468
  refine ic_X_outstanding (p := p) (m := 0) (by decide) (ic_X_outstanding (p := p) (m := 1) (by decide) (ic_X_subLoad (p := p) (s := 0) (by decide) (ic_X_subLoad (p := p) (s := 1) (by decide) (ic_X_subLoad (p := p) (s := 2) (by decide) (ic_X_subLoad (p := p) (s := 3) (by decide) ?_)))))
  refine br_t (by rw [nI_add, nI_add, nI_add, nI_add, hs]) ?_
  refine pk_lt lim (p 20 0) (fun z => by omega) (fun _ => pk_le (p 20 1) lim (fun _ => pk_lt cap (p 21 0) (fun z => by omega) (fun _ => pk_lt cap (p 21 1) (fun z => by omega) (fun _ => pk_lt cap (p 21 2) (fun z => by omega) (fun _ => pk_le (p 21 3) cap (fun _ => ?_) (fun z => by omega))))) (fun z => by omega))
  refine pk_le (p 25 3) 32 (fun z => ⟨_, ic_599 (lo := 0) hJ hmk hT hC (by omega) hK (p 25 3) 0 (by omega) (Nat.le_refl 0)⟩) (fun z => ?_)
  exact nm_r (e' := nI (p 25 3 - 32)) (pk_sub (b := 32) (by omega)) ⟨_, ic_599 (lo := p 25 3 - 32) hJ hmk hT hC (by omega) hK 32 (p 25 3 - 32) (by omega) (Nat.le_refl _)⟩
end
section
/-! the law's calls -/
theorem ic_264F {post : Int32 → Prop} {L : Nat} {xs : Nat → Int32} {J : ic_JT} {x1 x2 x3 : Int32} {sd : Int64} {x7 x8 x9 z : Int32} {kc ks : Nat} {p : Nat → Nat → Nat} (hz : z = -2 ∨ z = -3)
    (h : wL_law_468 post L xs J x1 x2 x3 sd x7 x8 x9 kc ks (nI (p 25 0)) (nI (p 25 1)) (lN (p 25 2)) (lN (p 25 3)) (nI (p 25 4)) (ic_ts (p 0)) (ic_t (p 1)) (ic_t (p 2)) (ic_t (p 3)) (ic_t8 (p 3)) (ic_t (p 4)) (ic_t (p 5)) (ic_t (p 6)) (ic_tL (p 7)) (ic_t (p 8)) (ic_t (p 9)) (ic_t (p 10)) (ic_t (p 11)) (ic_t (p 12)) (ic_t (p 13)) (ic_t (p 14)) (ic_t (p 15)) (ic_t (p 16)) (ic_t (p 17)) (ic_t (p 18)) (ic_t (p 19)) (ic_t (p 20)) (ic_t (p 21)) (ic_t (p 22)) (ic_t (p 23)) (ic_t (p 24))) : wL_law_264 post L xs J x1 x2 x3 sd x7 x8 x9 z kc ks (nI (p 25 0)) (nI (p 25 1)) (lN (p 25 2)) (lN (p 25 3)) (nI (p 25 4)) (ic_ts (p 0)) (ic_t (p 1)) (ic_t (p 2)) (ic_t (p 3)) (ic_t8 (p 3)) (ic_t (p 4)) (ic_t (p 5)) (ic_t (p 6)) (ic_tL (p 7)) (ic_t (p 8)) (ic_t (p 9)) (ic_t (p 10)) (ic_t (p 11)) (ic_t (p 12)) (ic_t (p 13)) (ic_t (p 14)) (ic_t (p 15)) (ic_t (p 16)) (ic_t (p 17)) (ic_t (p 18)) (ic_t (p 19)) (ic_t (p 20)) (ic_t (p 21)) (ic_t (p 22)) (ic_t (p 23)) (ic_t (p 24)) := by
  unfold wL_law_264
  rcases hz with e | e
  · subst e
    exact br_t (by decide) (br_t rfl h)
  · subst e
    exact br_t (by decide) (br_f (by decide) (br_t rfl h))
theorem ic_264T {post : Int32 → Prop} {L : Nat} {xs : Nat → Int32} {J : ic_JT} {x1 x2 x3 : Int32} {sd : Int64} {x8 x9 : Int32} {kc ks t : Nat} {p : Nat → Nat → Nat} (ht : t < 2 ^ 30)
    (h : wL_law_468 post L xs J x1 x2 x3 sd (nI (t + 1)) x8 x9 kc ks (nI (p 25 0)) (nI (p 25 1)) (lN (p 25 2)) (lN (p 25 3)) (nI (p 25 4)) (ic_ts (p 0)) (ic_t (p 1)) (ic_t (p 2)) (ic_t (p 3)) (ic_t8 (p 3)) (ic_t (p 4)) (ic_t (p 5)) (ic_t (p 6)) (ic_tL (p 7)) (ic_t (p 8)) (ic_t (p 9)) (ic_t (p 10)) (ic_t (p 11)) (ic_t (p 12)) (ic_t (p 13)) (ic_t (p 14)) (ic_t (p 15)) (ic_t (p 16)) (ic_t (p 17)) (ic_t (p 18)) (ic_t (p 19)) (ic_t (p 20)) (ic_t (p 21)) (ic_t (p 22)) (ic_t (p 23)) (ic_t (p 24))) : wL_law_264 post L xs J x1 x2 x3 sd (nI t) x8 x9 (nI t) kc ks (nI (p 25 0)) (nI (p 25 1)) (lN (p 25 2)) (lN (p 25 3)) (nI (p 25 4)) (ic_ts (p 0)) (ic_t (p 1)) (ic_t (p 2)) (ic_t (p 3)) (ic_t8 (p 3)) (ic_t (p 4)) (ic_t (p 5)) (ic_t (p 6)) (ic_tL (p 7)) (ic_t (p 8)) (ic_t (p 9)) (ic_t (p 10)) (ic_t (p 11)) (ic_t (p 12)) (ic_t (p 13)) (ic_t (p 14)) (ic_t (p 15)) (ic_t (p 16)) (ic_t (p 17)) (ic_t (p 18)) (ic_t (p 19)) (ic_t (p 20)) (ic_t (p 21)) (ic_t (p 22)) (ic_t (p 23)) (ic_t (p 24)) := by
  unfold wL_law_264
  exact br_f (nI_pos (by omega)) (br_t rfl (nm_r (nI_1 t) h))
theorem ic_192 {post : Int32 → Prop} {L : Nat} {xs : Nat → Int32} {J : ic_JT} {sd : Int64} {x8 : Int32} {mk lim cap kc ks k : Nat} {p : Nat → Nat → Nat} (hJ : ic_JJ sd mk lim cap p) (hmk : mk < 4) (hT : p 25 3 < 2 ^ 19)
    (S : ∀ p', ic_JJ sd mk lim cap p' → p' 25 3 ≤ p 25 3 + 1 → p' 25 2 ≤ p 25 2 + 64 → wL_law_468 post L xs J (nI lim) (nI cap) (nI mk) sd (nI (p' 25 3)) x8 (nI k) kc ks (nI (p' 25 0)) (nI (p' 25 1)) (lN (p' 25 2)) (lN (p' 25 3)) (nI (p' 25 4)) (ic_ts (p' 0)) (ic_t (p' 1)) (ic_t (p' 2)) (ic_t (p' 3)) (ic_t8 (p' 3)) (ic_t (p' 4)) (ic_t (p' 5)) (ic_t (p' 6)) (ic_tL (p' 7)) (ic_t (p' 8)) (ic_t (p' 9)) (ic_t (p' 10)) (ic_t (p' 11)) (ic_t (p' 12)) (ic_t (p' 13)) (ic_t (p' 14)) (ic_t (p' 15)) (ic_t (p' 16)) (ic_t (p' 17)) (ic_t (p' 18)) (ic_t (p' 19)) (ic_t (p' 20)) (ic_t (p' 21)) (ic_t (p' 22)) (ic_t (p' 23)) (ic_t (p' 24))) :
    wL_law_192 post L xs J (nI lim) (nI cap) (nI mk) sd (nI (p 25 3)) x8 (nI k) kc ks (nI (p 25 0)) (nI (p 25 1)) (lN (p 25 2)) (lN (p 25 3)) (nI (p 25 4)) (ic_ts (p 0)) (ic_t (p 1)) (ic_t (p 2)) (ic_t (p 3)) (ic_t8 (p 3)) (ic_t (p 4)) (ic_t (p 5)) (ic_t (p 6)) (ic_tL (p 7)) (ic_t (p 8)) (ic_t (p 9)) (ic_t (p 10)) (ic_t (p 11)) (ic_t (p 12)) (ic_t (p 13)) (ic_t (p 14)) (ic_t (p 15)) (ic_t (p 16)) (ic_t (p 17)) (ic_t (p 18)) (ic_t (p 19)) (ic_t (p 20)) (ic_t (p 21)) (ic_t (p 22)) (ic_t (p 23)) (ic_t (p 24)) := by
  have hw := ic_w_lt sd (p 25 3)
  have hpw := ic_pw_le (ic_w sd (p 25 3))
  have A := ic_adr_in (ic_w sd (p 25 3))
  have B := ic_len_in (ic_w sd (p 25 3))
  have C := @ic_id_lt (ic_w sd (p 25 3)) mk hmk
  have S0 := S p hJ (by omega) (by omega)
  have Q : p 13 (ic_chn (ic_w sd (p 25 3))) ≠ 4 → 2 ≤ p 0 (p 25 3 % 32) → wL_law_468 post L xs J (nI lim) (nI cap) (nI mk) sd (nI (p 25 3 + 1)) x8 (nI k) kc ks (nI ((ic_iss p (ic_chn (ic_w sd (p 25 3))) (ic_id (ic_w sd (p 25 3)) mk) (ic_adr (ic_w sd (p 25 3))) (ic_len (ic_w sd (p 25 3)))) 25 0)) (nI ((ic_iss p (ic_chn (ic_w sd (p 25 3))) (ic_id (ic_w sd (p 25 3)) mk) (ic_adr (ic_w sd (p 25 3))) (ic_len (ic_w sd (p 25 3)))) 25 1)) (lN ((ic_iss p (ic_chn (ic_w sd (p 25 3))) (ic_id (ic_w sd (p 25 3)) mk) (ic_adr (ic_w sd (p 25 3))) (ic_len (ic_w sd (p 25 3)))) 25 2)) (lN ((ic_iss p (ic_chn (ic_w sd (p 25 3))) (ic_id (ic_w sd (p 25 3)) mk) (ic_adr (ic_w sd (p 25 3))) (ic_len (ic_w sd (p 25 3)))) 25 3)) (nI ((ic_iss p (ic_chn (ic_w sd (p 25 3))) (ic_id (ic_w sd (p 25 3)) mk) (ic_adr (ic_w sd (p 25 3))) (ic_len (ic_w sd (p 25 3)))) 25 4)) (ic_ts ((ic_iss p (ic_chn (ic_w sd (p 25 3))) (ic_id (ic_w sd (p 25 3)) mk) (ic_adr (ic_w sd (p 25 3))) (ic_len (ic_w sd (p 25 3)))) 0)) (ic_t ((ic_iss p (ic_chn (ic_w sd (p 25 3))) (ic_id (ic_w sd (p 25 3)) mk) (ic_adr (ic_w sd (p 25 3))) (ic_len (ic_w sd (p 25 3)))) 1)) (ic_t ((ic_iss p (ic_chn (ic_w sd (p 25 3))) (ic_id (ic_w sd (p 25 3)) mk) (ic_adr (ic_w sd (p 25 3))) (ic_len (ic_w sd (p 25 3)))) 2)) (ic_t ((ic_iss p (ic_chn (ic_w sd (p 25 3))) (ic_id (ic_w sd (p 25 3)) mk) (ic_adr (ic_w sd (p 25 3))) (ic_len (ic_w sd (p 25 3)))) 3)) (ic_t8 ((ic_iss p (ic_chn (ic_w sd (p 25 3))) (ic_id (ic_w sd (p 25 3)) mk) (ic_adr (ic_w sd (p 25 3))) (ic_len (ic_w sd (p 25 3)))) 3)) (ic_t ((ic_iss p (ic_chn (ic_w sd (p 25 3))) (ic_id (ic_w sd (p 25 3)) mk) (ic_adr (ic_w sd (p 25 3))) (ic_len (ic_w sd (p 25 3)))) 4)) (ic_t ((ic_iss p (ic_chn (ic_w sd (p 25 3))) (ic_id (ic_w sd (p 25 3)) mk) (ic_adr (ic_w sd (p 25 3))) (ic_len (ic_w sd (p 25 3)))) 5)) (ic_t ((ic_iss p (ic_chn (ic_w sd (p 25 3))) (ic_id (ic_w sd (p 25 3)) mk) (ic_adr (ic_w sd (p 25 3))) (ic_len (ic_w sd (p 25 3)))) 6)) (ic_tL ((ic_iss p (ic_chn (ic_w sd (p 25 3))) (ic_id (ic_w sd (p 25 3)) mk) (ic_adr (ic_w sd (p 25 3))) (ic_len (ic_w sd (p 25 3)))) 7)) (ic_t ((ic_iss p (ic_chn (ic_w sd (p 25 3))) (ic_id (ic_w sd (p 25 3)) mk) (ic_adr (ic_w sd (p 25 3))) (ic_len (ic_w sd (p 25 3)))) 8)) (ic_t ((ic_iss p (ic_chn (ic_w sd (p 25 3))) (ic_id (ic_w sd (p 25 3)) mk) (ic_adr (ic_w sd (p 25 3))) (ic_len (ic_w sd (p 25 3)))) 9)) (ic_t ((ic_iss p (ic_chn (ic_w sd (p 25 3))) (ic_id (ic_w sd (p 25 3)) mk) (ic_adr (ic_w sd (p 25 3))) (ic_len (ic_w sd (p 25 3)))) 10)) (ic_t ((ic_iss p (ic_chn (ic_w sd (p 25 3))) (ic_id (ic_w sd (p 25 3)) mk) (ic_adr (ic_w sd (p 25 3))) (ic_len (ic_w sd (p 25 3)))) 11)) (ic_t ((ic_iss p (ic_chn (ic_w sd (p 25 3))) (ic_id (ic_w sd (p 25 3)) mk) (ic_adr (ic_w sd (p 25 3))) (ic_len (ic_w sd (p 25 3)))) 12)) (ic_t ((ic_iss p (ic_chn (ic_w sd (p 25 3))) (ic_id (ic_w sd (p 25 3)) mk) (ic_adr (ic_w sd (p 25 3))) (ic_len (ic_w sd (p 25 3)))) 13)) (ic_t ((ic_iss p (ic_chn (ic_w sd (p 25 3))) (ic_id (ic_w sd (p 25 3)) mk) (ic_adr (ic_w sd (p 25 3))) (ic_len (ic_w sd (p 25 3)))) 14)) (ic_t ((ic_iss p (ic_chn (ic_w sd (p 25 3))) (ic_id (ic_w sd (p 25 3)) mk) (ic_adr (ic_w sd (p 25 3))) (ic_len (ic_w sd (p 25 3)))) 15)) (ic_t ((ic_iss p (ic_chn (ic_w sd (p 25 3))) (ic_id (ic_w sd (p 25 3)) mk) (ic_adr (ic_w sd (p 25 3))) (ic_len (ic_w sd (p 25 3)))) 16)) (ic_t ((ic_iss p (ic_chn (ic_w sd (p 25 3))) (ic_id (ic_w sd (p 25 3)) mk) (ic_adr (ic_w sd (p 25 3))) (ic_len (ic_w sd (p 25 3)))) 17)) (ic_t ((ic_iss p (ic_chn (ic_w sd (p 25 3))) (ic_id (ic_w sd (p 25 3)) mk) (ic_adr (ic_w sd (p 25 3))) (ic_len (ic_w sd (p 25 3)))) 18)) (ic_t ((ic_iss p (ic_chn (ic_w sd (p 25 3))) (ic_id (ic_w sd (p 25 3)) mk) (ic_adr (ic_w sd (p 25 3))) (ic_len (ic_w sd (p 25 3)))) 19)) (ic_t ((ic_iss p (ic_chn (ic_w sd (p 25 3))) (ic_id (ic_w sd (p 25 3)) mk) (ic_adr (ic_w sd (p 25 3))) (ic_len (ic_w sd (p 25 3)))) 20)) (ic_t ((ic_iss p (ic_chn (ic_w sd (p 25 3))) (ic_id (ic_w sd (p 25 3)) mk) (ic_adr (ic_w sd (p 25 3))) (ic_len (ic_w sd (p 25 3)))) 21)) (ic_t ((ic_iss p (ic_chn (ic_w sd (p 25 3))) (ic_id (ic_w sd (p 25 3)) mk) (ic_adr (ic_w sd (p 25 3))) (ic_len (ic_w sd (p 25 3)))) 22)) (ic_t ((ic_iss p (ic_chn (ic_w sd (p 25 3))) (ic_id (ic_w sd (p 25 3)) mk) (ic_adr (ic_w sd (p 25 3))) (ic_len (ic_w sd (p 25 3)))) 23)) (ic_t ((ic_iss p (ic_chn (ic_w sd (p 25 3))) (ic_id (ic_w sd (p 25 3)) mk) (ic_adr (ic_w sd (p 25 3))) (ic_len (ic_w sd (p 25 3)))) 24)) := fun h1 h2 =>
    S (ic_iss p (ic_chn (ic_w sd (p 25 3))) (ic_id (ic_w sd (p 25 3)) mk) (ic_adr (ic_w sd (p 25 3))) (ic_len (ic_w sd (p 25 3)))) (ic_JJ_is hJ hmk h1 h2) (Nat.le_refl _) (by show p 25 2 ≤ p 25 2 + 64; omega)
  unfold ic_chn at Q
  unfold wL_law_192
  refine ic_par (ic_pwL (pk_eq (ic_pw (ic_w sd (p 25 3))) 0 (fun e => ?_) (fun e => ?_)))
  · rw [e] at Q
    refine ic_pm hw (ic_pid hw (ic_paddr hw (ic_plen hw ?_)))
    unfold wpX_issueRead
    refine ic_X_issue (p := p) (k := 0) hJ.1 (by omega) (by decide) (by omega) C A.1 B.1 B.2 A.2 (fun hf => ?_) (fun hn hs => ?_) (fun hn hg => ?_)
    · exact ic_264F (p := p) (Or.inl rfl) S0
    · exact ic_264F (p := p) (Or.inr rfl) S0
    · exact ic_264T (p := ic_iss p (ic_w sd (p 25 3) % 2 * 2 + 0) (ic_id (ic_w sd (p 25 3)) mk) (ic_adr (ic_w sd (p 25 3))) (ic_len (ic_w sd (p 25 3)))) (by omega) (Q hn hg)
  · have e1 : ic_pw (ic_w sd (p 25 3)) = 1 := by omega
    rw [e1] at Q
    refine ic_pm hw (ic_pid hw (ic_paddr hw (ic_plen hw ?_)))
    unfold wpX_issueWrite
    refine ic_X_issue (p := p) (k := 1) hJ.1 (by omega) (by decide) (by omega) C A.1 B.1 B.2 A.2 (fun hf => ?_) (fun hn hs => ?_) (fun hn hg => ?_)
    · exact ic_264F (p := p) (Or.inl rfl) S0
    · exact ic_264F (p := p) (Or.inr rfl) S0
    · exact ic_264T (p := ic_iss p (ic_w sd (p 25 3) % 2 * 2 + 1) (ic_id (ic_w sd (p 25 3)) mk) (ic_adr (ic_w sd (p 25 3))) (ic_len (ic_w sd (p 25 3)))) (by omega) (Q hn hg)
theorem ic_X_step' {p : Nat → Nat → Nat} {n : Nat} {v : Int32} {post : Int32 → St2 → Prop} (hv : v = nI n) (hI : ic_Inv p) (hT : p 25 3 < 2 ^ 30) (hC : p 25 2 + n < 2 ^ 30) (h1 : 1 ≤ n) (h64 : n ≤ 64) (h : post 1 (ic_X (ic_run n p))) : wpX_step post (ic_X p) v := by
  rw [hv]; exact ic_X_step hI hT hC h1 h64 h
theorem ic_X_writeData' {p : Nat → Nat → Nat} {m x : Nat} {v1 v2 : Int32} {post : Int32 → St2 → Prop} (e1 : v1 = nI m) (e2 : v2 = nI x) (hI : ic_Inv p) (hm : m < 2) (h0 : p 16 m = 8 → post 0 (ic_X p)) (h1 : p 16 m ≠ 8 → post 1 (ic_X (ic_wd p m x))) : wpX_writeData post (ic_X p) v1 v2 := by
  rw [e1, e2]; exact ic_X_writeData hI hm h0 h1
theorem ic_X_setLatency' {p : Nat → Nat → Nat} {s j x : Nat} {v1 v2 v3 : Int32} {post : Int32 → St2 → Prop} (e1 : v1 = nI s) (e2 : v2 = nI j) (e3 : v3 = nI x) (hs : s < 3) (hj : j < 4) (h1 : 1 ≤ x) (h15 : x ≤ 15) (h : post 1 (ic_X (ic_pu p 18 (s * 4 + j) x))) : wpX_setLatency post (ic_X p) v1 v2 v3 := by
  rw [e1, e2, e3]; exact ic_X_setLatency hs hj h1 h15 h
theorem ic_X_setReady' {p : Nat → Nat → Nat} {m x y : Nat} {v1 : Int32} {post : Int32 → St2 → Prop} (e1 : v1 = nI m) (hm : m < 2) (hx : x ≤ 1) (hy : y ≤ 1) (h : post 1 (ic_X (ic_pu (ic_pu p 23 (m * 2 + 1) x) 23 (m * 2) y))) : wpX_setReady post (ic_X p) v1 (nI x) (nI y) := by
  rw [e1]; exact ic_X_setReady hm hx hy h
theorem ic_174 {post : Int32 → Prop} {L : Nat} {xs : Nat → Int32} {J : ic_JT} {sd : Int64} {x8 : Int32} {mk lim cap kc ks k : Nat} {p : Nat → Nat → Nat} (hJ : ic_JJ sd mk lim cap p) (hmk : mk < 4) (hT : p 25 3 < 2 ^ 19) (hC : p 25 2 < 2 ^ 19)
    (S : ∀ p', ic_JJ sd mk lim cap p' → p' 25 3 ≤ p 25 3 + 1 → p' 25 2 ≤ p 25 2 + 64 → wL_law_468 post L xs J (nI lim) (nI cap) (nI mk) sd (nI (p' 25 3)) x8 (nI k) kc ks (nI (p' 25 0)) (nI (p' 25 1)) (lN (p' 25 2)) (lN (p' 25 3)) (nI (p' 25 4)) (ic_ts (p' 0)) (ic_t (p' 1)) (ic_t (p' 2)) (ic_t (p' 3)) (ic_t8 (p' 3)) (ic_t (p' 4)) (ic_t (p' 5)) (ic_t (p' 6)) (ic_tL (p' 7)) (ic_t (p' 8)) (ic_t (p' 9)) (ic_t (p' 10)) (ic_t (p' 11)) (ic_t (p' 12)) (ic_t (p' 13)) (ic_t (p' 14)) (ic_t (p' 15)) (ic_t (p' 16)) (ic_t (p' 17)) (ic_t (p' 18)) (ic_t (p' 19)) (ic_t (p' 20)) (ic_t (p' 21)) (ic_t (p' 22)) (ic_t (p' 23)) (ic_t (p' 24))) (op ar : Nat) (hop : op ≤ 8) (har : ar < 2 ^ 31) :
    wL_law_174 post L xs J (nI lim) (nI cap) (nI mk) sd (nI (p 25 3)) x8 (nI k) (nI op) (nI ar) kc ks (nI (p 25 0)) (nI (p 25 1)) (lN (p 25 2)) (lN (p 25 3)) (nI (p 25 4)) (ic_ts (p 0)) (ic_t (p 1)) (ic_t (p 2)) (ic_t (p 3)) (ic_t8 (p 3)) (ic_t (p 4)) (ic_t (p 5)) (ic_t (p 6)) (ic_tL (p 7)) (ic_t (p 8)) (ic_t (p 9)) (ic_t (p 10)) (ic_t (p 11)) (ic_t (p 12)) (ic_t (p 13)) (ic_t (p 14)) (ic_t (p 15)) (ic_t (p 16)) (ic_t (p 17)) (ic_t (p 18)) (ic_t (p 19)) (ic_t (p 20)) (ic_t (p 21)) (ic_t (p 22)) (ic_t (p 23)) (ic_t (p 24)) := by
  have st : ∀ n, n ≤ 64 → wL_law_468 post L xs J (nI lim) (nI cap) (nI mk) sd (nI (p 25 3)) x8 (nI k) kc ks (nI ((ic_run n p) 25 0)) (nI ((ic_run n p) 25 1)) (lN ((ic_run n p) 25 2)) (lN ((ic_run n p) 25 3)) (nI ((ic_run n p) 25 4)) (ic_ts ((ic_run n p) 0)) (ic_t ((ic_run n p) 1)) (ic_t ((ic_run n p) 2)) (ic_t ((ic_run n p) 3)) (ic_t8 ((ic_run n p) 3)) (ic_t ((ic_run n p) 4)) (ic_t ((ic_run n p) 5)) (ic_t ((ic_run n p) 6)) (ic_tL ((ic_run n p) 7)) (ic_t ((ic_run n p) 8)) (ic_t ((ic_run n p) 9)) (ic_t ((ic_run n p) 10)) (ic_t ((ic_run n p) 11)) (ic_t ((ic_run n p) 12)) (ic_t ((ic_run n p) 13)) (ic_t ((ic_run n p) 14)) (ic_t ((ic_run n p) 15)) (ic_t ((ic_run n p) 16)) (ic_t ((ic_run n p) 17)) (ic_t ((ic_run n p) 18)) (ic_t ((ic_run n p) 19)) (ic_t ((ic_run n p) 20)) (ic_t ((ic_run n p) 21)) (ic_t ((ic_run n p) 22)) (ic_t ((ic_run n p) 23)) (ic_t ((ic_run n p) 24)) := by
    intro n hn
    have r := ic_JJ_run (n := n) hJ
    have s := S (ic_run n p) r.1 (by omega) (by omega)
    rw [r.2.2] at s
    rw [r.2.2]
    exact s
  have a1 : nI ar &&& 1 = nI (ar % 2) := pk_andN (n := ar) (by omega) 1 (by decide)
  unfold wL_law_174
  refine pk_eq op 0 (fun _ => ic_192 hJ hmk hT S) (fun o0 => pk_eq op 1 (fun _ => ic_192 hJ hmk hT S) (fun o1 => pk_eq op 7 (fun _ => ic_192 hJ hmk hT S) (fun o7 => pk_eq op 2 (fun _ => ?_) (fun o2 => pk_eq op 3 (fun _ => ?_) (fun o3 => pk_eq op 4 (fun _ => ?_) (fun o4 => pk_eq op 5 (fun _ => ?_) (fun o5 => pk_eq op 6 (fun _ => ?_) (fun o6 => ?_))))))))
  · refine ic_X_writeData' (p := p) (m := ar % 2) (x := ar / 2 ^ 1 % 2 ^ 8) a1 ?_ hJ.1 (by omega) (fun _ => ?_) (fun hm => ?_)
    · rw [pk_shrN har _ 1 (by decide), pk_andN (by omega) 8 (by decide)]
    · exact S p hJ (by omega) (by omega)
    · exact S (ic_wd p (ar % 2) (ar / 2 ^ 1 % 2 ^ 8)) (ic_JJ_wd hJ hm) (by show p 25 3 ≤ p 25 3 + 1; omega) (by show p 25 2 ≤ p 25 2 + 64; omega)
  · refine ic_X_step' (p := p) (n := 1 + ar % 2 ^ 3) ?_ hJ.1 (by omega) (by omega) (by omega) (by omega) ?_
    · rw [pk_andN (by omega) 3 (by decide)]
      exact nI_add 1 _
    · exact st _ (by omega)
  · refine And.intro (by decide) (And.intro (by decide) ?_)
    refine ic_X_setLatency' (p := p) (s := ar % 3) (j := ar / 2 ^ 2 % 2 ^ 2) (x := 1 + ar / 2 ^ 4 % 15) (ic_r ar 3 rfl har (by decide) (by decide)) ?_ ?_ (by omega) (by omega) (by omega) (by omega) ?_
    · rw [pk_shrN har _ 2 (by decide), pk_andN (by omega) 2 (by decide)]
    · rw [show nI ar >>> ((4 : Int32) &&& 31) - nI ar >>> ((4 : Int32) &&& 31) / 15 * 15 = nI (ar / 2 ^ 4 % 15) from ic_r (ar / 2 ^ 4) 15 (pk_shrN har _ 4 (by decide)) (by omega) (by decide) (by decide)]
      exact nI_add 1 _
    · exact S (ic_pu p 18 (ar % 3 * 4 + ar / 2 ^ 2 % 2 ^ 2) (1 + ar / 2 ^ 4 % 15)) (ic_JJ_sl hJ (by omega)) (by show p 25 3 ≤ p 25 3 + 1; omega) (by show p 25 2 ≤ p 25 2 + 64; omega)
  · have R : ∀ x y : Nat, x ≤ 1 → y ≤ 1 → wL_law_430 post L xs J (nI lim) (nI cap) (nI mk) sd (nI (p 25 3)) x8 (nI k) (nI y) (nI x) (nI ar &&& 1) kc ks (nI (p 25 0)) (nI (p 25 1)) (lN (p 25 2)) (lN (p 25 3)) (nI (p 25 4)) (ic_ts (p 0)) (ic_t (p 1)) (ic_t (p 2)) (ic_t (p 3)) (ic_t8 (p 3)) (ic_t (p 4)) (ic_t (p 5)) (ic_t (p 6)) (ic_tL (p 7)) (ic_t (p 8)) (ic_t (p 9)) (ic_t (p 10)) (ic_t (p 11)) (ic_t (p 12)) (ic_t (p 13)) (ic_t (p 14)) (ic_t (p 15)) (ic_t (p 16)) (ic_t (p 17)) (ic_t (p 18)) (ic_t (p 19)) (ic_t (p 20)) (ic_t (p 21)) (ic_t (p 22)) (ic_t (p 23)) (ic_t (p 24)) := by
      intro x y hx hy
      unfold wL_law_430
      refine ic_X_setReady' (p := p) (m := ar % 2) a1 (by omega) hx hy ?_
      exact S (ic_pu (ic_pu p 23 (ar % 2 * 2 + 1) x) 23 (ar % 2 * 2) y) (ic_JJ_sr hJ hx hy) (by show p 25 3 ≤ p 25 3 + 1; omega) (by show p 25 2 ≤ p 25 2 + 64; omega)
    have R2 : ∀ x : Nat, x ≤ 1 → wL_law_415 post L xs J (nI lim) (nI cap) (nI mk) sd (nI (p 25 3)) x8 (nI k) (nI ar) (nI x) (nI ar &&& 1) kc ks (nI (p 25 0)) (nI (p 25 1)) (lN (p 25 2)) (lN (p 25 3)) (nI (p 25 4)) (ic_ts (p 0)) (ic_t (p 1)) (ic_t (p 2)) (ic_t (p 3)) (ic_t8 (p 3)) (ic_t (p 4)) (ic_t (p 5)) (ic_t (p 6)) (ic_tL (p 7)) (ic_t (p 8)) (ic_t (p 9)) (ic_t (p 10)) (ic_t (p 11)) (ic_t (p 12)) (ic_t (p 13)) (ic_t (p 14)) (ic_t (p 15)) (ic_t (p 16)) (ic_t (p 17)) (ic_t (p 18)) (ic_t (p 19)) (ic_t (p 20)) (ic_t (p 21)) (ic_t (p 22)) (ic_t (p 23)) (ic_t (p 24)) := by
      intro x hx
      unfold wL_law_415
      exact br_c (fun _ => R x 0 hx (by omega)) (fun _ => R x 1 hx (by omega))
    exact br_c (fun _ => R2 0 (by omega)) (fun _ => R2 1 (by omega))
  · refine ic_X_step' (p := p) (n := 1 + ar % 2 ^ 5) ?_ hJ.1 (by omega) (by omega) (by omega) (by omega) ?_
    · rw [pk_andN (by omega) 5 (by decide)]
      exact nI_add 1 _
    · exact st _ (by omega)
  · refine ic_X_step' (p := p) (n := 64) rfl hJ.1 (by omega) (by omega) (by omega) (by omega) ?_
    exact st _ (by omega)
theorem ic_81 {L : Nat} {xs : Nat → Int32} {sd : Int64} {mk lim cap kc ks nO : Nat} (hL : L ≤ 260) (hmk : mk < 4) (hlim : lim ≤ 8) (hcap : cap ≤ 4) (hnO : nO ≤ 128) : ∀ (d k : Nat) (p : Nat → Nat → Nat), k + d = nO + 3 → ic_JJ sd mk lim cap p → p 25 3 ≤ k → p 25 2 ≤ 64 * k →
    wL_law_81 (fun r => r = 1) L xs (nI lim) (nI cap) (nI mk) sd (nI nO) kc ks (d + 1) (nI (p 25 3)) (nI k) (nI (p 25 0)) (nI (p 25 1)) (lN (p 25 2)) (lN (p 25 3)) (nI (p 25 4)) (ic_ts (p 0)) (ic_t (p 1)) (ic_t (p 2)) (ic_t (p 3)) (ic_t8 (p 3)) (ic_t (p 4)) (ic_t (p 5)) (ic_t (p 6)) (ic_tL (p 7)) (ic_t (p 8)) (ic_t (p 9)) (ic_t (p 10)) (ic_t (p 11)) (ic_t (p 12)) (ic_t (p 13)) (ic_t (p 14)) (ic_t (p 15)) (ic_t (p 16)) (ic_t (p 17)) (ic_t (p 18)) (ic_t (p 19)) (ic_t (p 20)) (ic_t (p 21)) (ic_t (p 22)) (ic_t (p 23)) (ic_t (p 24)) := by
  intro d
  induction d with
  | zero =>
    intro k p hk _ _ _
    exact pk_le (nO + 3) k (fun _ => rfl) (fun z => by omega) (nI_add nO 3) rfl
  | succ d ih =>
    intro k p hk hJ hT hC
    have S : ∀ p', ic_JJ sd mk lim cap p' → p' 25 3 ≤ p 25 3 + 1 → p' 25 2 ≤ p 25 2 + 64 → wL_law_468 (fun r => r = 1) L xs (wL_law_81 (fun r => r = 1) L xs (nI lim) (nI cap) (nI mk) sd (nI nO) kc ks (d + 1)) (nI lim) (nI cap) (nI mk) sd (nI (p' 25 3)) (nI nO) (nI k) kc ks (nI (p' 25 0)) (nI (p' 25 1)) (lN (p' 25 2)) (lN (p' 25 3)) (nI (p' 25 4)) (ic_ts (p' 0)) (ic_t (p' 1)) (ic_t (p' 2)) (ic_t (p' 3)) (ic_t8 (p' 3)) (ic_t (p' 4)) (ic_t (p' 5)) (ic_t (p' 6)) (ic_tL (p' 7)) (ic_t (p' 8)) (ic_t (p' 9)) (ic_t (p' 10)) (ic_t (p' 11)) (ic_t (p' 12)) (ic_t (p' 13)) (ic_t (p' 14)) (ic_t (p' 15)) (ic_t (p' 16)) (ic_t (p' 17)) (ic_t (p' 18)) (ic_t (p' 19)) (ic_t (p' 20)) (ic_t (p' 21)) (ic_t (p' 22)) (ic_t (p' 23)) (ic_t (p' 24)) :=
      fun p' h1 h2 h3 => ic_468 h1 hmk hlim hcap (by omega) (by omega) (ih (k + 1) p' (by omega) h1 (by omega) (by omega))
    refine pk_le (nO + 3) k (fun z => by omega) (fun _ => pk_le nO k (fun z => ?_) (fun z => ?_)) (nI_add nO 3) rfl
    · refine pk_eq k nO (fun _ => ic_174 hJ hmk (by omega) (by omega) S 5 0 (by omega) (by omega)) (fun _ => pk_eq k (nO + 1) (fun _ => ic_174 hJ hmk (by omega) (by omega) S 5 1 (by omega) (by omega)) (fun _ => ic_174 hJ hmk (by omega) (by omega) S 8 0 (by omega) (by omega)) rfl (nI_1 nO))
    · have e1 : (4 : Int32) + 2 * nI k = nI (4 + 2 * k) := by rw [show (2 : Int32) * nI k = nI (2 * k) from pk_mul 2 k]; exact nI_add 4 _
      have e2 : (5 : Int32) + 2 * nI k = nI (5 + 2 * k) := by rw [show (2 : Int32) * nI k = nI (2 * k) from pk_mul 2 k]; exact nI_add 5 _
      rw [e1, e2]
      refine ic_cell hL (by omega) (fun v => ic_pos (fun n hn => And.intro (by decide) (nm_r (ic_r n 8 rfl hn (by decide) (by decide)) (ic_cell hL (by omega) (fun v2 => ic_pos (fun a ha => ?_))))))
      exact ic_174 hJ hmk (by omega) (by omega) S (n % 8) a (by omega) ha
theorem i_vc (xs : Nat → Int32) (L : Nat) (hL : L ≤ 260) : wpL_law (fun r => r = 1) L xs := by
  unfold wpL_law
  refine ic_cell (j := 0) hL (by decide) (fun v0 => ic_pos (fun n0 h0 => And.intro (by decide) (nm_r (e' := nI (1 + n0 % 8)) ?_ (ic_cell (j := 1) hL (by decide) (fun v1 => ic_pos (fun n1 h1 => And.intro (by decide) (nm_r (e' := nI (1 + n1 % 4)) ?_ (ic_cell (j := 2) hL (by decide) (fun v2 => ic_pos (fun n2 h2 => nm_r (e' := nI (n2 % 2 ^ 2)) ?_ (ic_cell (j := 3) hL (by decide) (fun v3 => ⟨26, 586, by decide, by decide, ic_X_init (by omega) (by omega) (by omega) (by omega) ?_⟩))))))))))))
  · rw [show nI n0 - nI n0 / 8 * 8 = nI (n0 % 8) from ic_r n0 8 rfl h0 (by decide) (by decide)]
    exact nI_add 1 _
  · rw [show nI n1 - nI n1 / 4 * 4 = nI (n1 % 4) from ic_r n1 4 rfl h1 (by decide) (by decide)]
    exact nI_add 1 _
  · exact pk_andN (by omega) 2 (by decide)
  · have J0 : ic_JJ v3.toInt64 (n2 % 2 ^ 2) (1 + n0 % 8) (1 + n1 % 4) (ic_p0 (1 + n0 % 8) (1 + n1 % 4)) := ic_JJ_0 (by omega) (by omega)
    refine pk_le L 4 (fun z => ⟨_, ic_81 (nO := 0) hL (by omega) (by omega) (by omega) (by omega) 3 0 _ rfl J0 (Nat.le_refl 0) (Nat.le_refl 0)⟩) (fun z => And.intro (by decide) ?_)
    refine nm_r (e' := nI ((L - 4) / 2)) ?_ ⟨_, ic_81 (nO := (L - 4) / 2) hL (by omega) (by omega) (by omega) (by omega) ((L - 4) / 2 + 3) 0 _ (by omega) J0 (Nat.le_refl 0) (Nat.le_refl 0)⟩
    rw [show (Int32.ofNat L) - 4 = nI (L - 4) from pk_sub (b := 4) (by omega)]
    exact pk_div (d := 2) (by omega) (by decide) (by decide)
end
