section
/-! rows of kit/rows, as they stand there -/
theorem pk_us {f : Nat → Int32} {k : Nat} {x : Int32} : upd f k x k = x := if_pos rfl
theorem pk_un {f : Nat → Int32} {k j : Nat} {x : Int32} (h : j ≠ k) : upd f k x j = f j := if_neg h
theorem pk_uLs {f : Nat → Int64} {k : Nat} {x : Int64} : vp_updL f k x k = x := if_pos rfl
theorem pk_uLn {f : Nat → Int64} {k j : Nat} {x : Int64} (h : j ≠ k) : vp_updL f k x j = f j := if_neg h
theorem pk_sub {a b : Nat} (h : b ≤ a) : nI a - nI b = nI (a - b) := by
  obtain ⟨c, rfl⟩ : ∃ c, a = c + b := ⟨a - b, by omega⟩
  rw [← nI_add, Int32.add_sub_cancel, Nat.add_sub_cancel]
theorem pk_m1 (n : Nat) : nI (n + 1) + (-1) = nI n := by
  rw [← nI_1, Int32.add_assoc, show (1 : Int32) + (-1) = 0 from rfl, Int32.add_zero]
theorem pk_mul (a b : Nat) : nI a * nI b = nI (a * b) := (Int32.ofNat_mul a b).symm
theorem pk_div {a d : Nat} (ha : a < 2 ^ 31) (h0 : 0 < d) (hd : d < 2 ^ 31) : nI a / nI d = nI (a / d) := by
  apply Int32.toInt_inj.mp
  rw [lg_idiv_nonneg (by rw [nI_toInt ha]; omega) (by rw [nI_toInt hd]; omega), nI_toInt ha, nI_toInt hd, nI_toInt (Nat.lt_of_le_of_lt (Nat.div_le_self a d) ha)]
  first | rfl | exact (Int.natCast_ediv _ _).symm
theorem pk_rem {a d : Nat} (ha : a < 2 ^ 31) (h0 : 0 < d) (hd : d < 2 ^ 31) : nI a - nI a / nI d * nI d = nI (a % d) := by
  rw [pk_div ha h0 hd, pk_mul, pk_sub (Nat.div_mul_le_self a d)]
  exact congrArg nI (by have := Nat.div_add_mod' a d; omega)
theorem pk_sub_toInt {a b : Nat} (ha : a < 2 ^ 30) (hb : b < 2 ^ 30) : (nI a - nI b).toInt = (a : Int) - b := by
  rw [Int32.toInt_sub, nI_toInt (by omega), nI_toInt (by omega)]
  exact Int.bmod_eq_of_le (by omega) (by omega)
theorem pk_sneg {a b : Nat} (hb : b < 2 ^ 30) (h : a < b) : nI a - nI b < 0 := by
  rw [Int32.lt_iff_toInt_lt, pk_sub_toInt (by omega) hb, show (0 : Int32).toInt = 0 from by decide]
  omega
theorem pk_ix (x : Int32) {n : Nat} (hn : n < 2 ^ 31) : x < 0 ∨ nI n ≤ x ∨ ∃ j : Nat, j < n ∧ x = nI j := by
  by_cases h : x < 0
  · exact Or.inl h
  · obtain ⟨j, hj, rfl⟩ := nI_of h
    by_cases h2 : j < n
    · exact Or.inr (Or.inr ⟨j, h2, rfl⟩)
    · exact Or.inr (Or.inl (nI_le (by omega) hj))
theorem pk_le {x y : Int32} {A B : Prop} (a b : Nat) (f : a ≤ b → A) (g : b < a → B) (hx : x = nI a := by rfl) (hy : y = nI b := by rfl) (ha : a < 2 ^ 31 := by omega) (hb : b < 2 ^ 31 := by omega) : (x ≤ y → A) ∧ (¬ x ≤ y → B) := by
  subst hx hy
  rw [nI_leI ha hb]
  exact ⟨f, fun z => g (by omega)⟩
theorem pk_lt {x y : Int32} {A B : Prop} (a b : Nat) (f : a < b → A) (g : b ≤ a → B) (hx : x = nI a := by rfl) (hy : y = nI b := by rfl) (ha : a < 2 ^ 31 := by omega) (hb : b < 2 ^ 31 := by omega) : (x < y → A) ∧ (¬ x < y → B) := by
  subst hx hy
  rw [nI_ltI ha hb]
  exact ⟨f, fun z => g (by omega)⟩
theorem pk_eq {x y : Int32} {A B : Prop} (a b : Nat) (f : a = b → A) (g : a ≠ b → B) (hx : x = nI a := by rfl) (hy : y = nI b := by rfl) (ha : a < 2 ^ 31 := by omega) (hb : b < 2 ^ 31 := by omega) : (x = y → A) ∧ (¬ x = y → B) := by
  subst hx hy
  rw [nI_eq ha hb]
  exact ⟨f, g⟩
theorem pk_in {x : Int32} (n N : Nat) (h : n < N) (hx : x = nI n := by rfl) (hN : N < 2 ^ 31 := by omega) : vp_in x N := by
  subst hx
  exact vp_in_nI h hN
theorem pk_cl {x : Int32} (n : Nat) (hx : x = nI n := by rfl) (h : n < 2 ^ 31 := by omega) : x.toNatClampNeg = n := by
  subst hx
  exact nI_clamp h
theorem pk_tn {n : Nat} (h : n < 2 ^ 32) : (nI n).toBitVec.toNat = n := Nat.mod_eq_of_lt h
theorem pk_and (x : Int32) {m : Int32} (k : Nat) (hm : m.toBitVec.toNat = 2 ^ k - 1) : x &&& m = nI (x.toBitVec.toNat % 2 ^ k) := by
  apply Int32.toBitVec_inj.mp
  apply BitVec.eq_of_toNat_eq
  rw [Int32.toBitVec_and, BitVec.toNat_and, hm, Nat.and_two_pow_sub_one_eq_mod]
  show _ = (BitVec.ofNat 32 _).toNat
  rw [BitVec.toNat_ofNat]
  exact (Nat.mod_eq_of_lt (Nat.lt_of_le_of_lt (Nat.mod_le _ _) x.toBitVec.isLt)).symm
theorem pk_andN {n : Nat} (h : n < 2 ^ 32) {m : Int32} (k : Nat) (hm : m.toBitVec.toNat = 2 ^ k - 1) : nI n &&& m = nI (n % 2 ^ k) := by
  rw [pk_and _ k hm, pk_tn h]
theorem pk_andE (x : Int32) {m : Int32} (k : Nat) (hm : m.toBitVec.toNat = 2 ^ k - 1) : ∃ j : Nat, j < 2 ^ k ∧ x &&& m = nI j := ⟨_, Nat.mod_lt _ (Nat.two_pow_pos k), pk_and x k hm⟩
theorem pk_lT {n : Nat} (h : n < 2 ^ 63) : (lN n).toInt = (n : Int) := lg_ofNat_toInt h
theorem pk_lLT {a b : Nat} (ha : a < 2 ^ 63) (hb : b < 2 ^ 63) : lN a < lN b ↔ a < b := by
  rw [Int64.lt_iff_toInt_lt, pk_lT ha, pk_lT hb]; omega
theorem pk_lLE {a b : Nat} (ha : a < 2 ^ 63) (hb : b < 2 ^ 63) : lN a ≤ lN b ↔ a ≤ b := by
  rw [Int64.le_iff_toInt_le, pk_lT ha, pk_lT hb]; omega
theorem pk_lEQ {a b : Nat} (ha : a < 2 ^ 63) (hb : b < 2 ^ 63) : lN a = lN b ↔ a = b := by
  rw [← Int64.toInt_inj, pk_lT ha, pk_lT hb]; omega
theorem pk_loop {σ : Type} (W : Nat → Nat → σ → Prop) (I : Nat → σ → Prop) (e i0 : Nat) (s : σ) (hi : i0 ≤ e) (h0 : I i0 s) (hx : ∀ n s, I e s → W (n + 1) e s)
    (hs : ∀ n i s, i < e → I i s → (∀ s', I (i + 1) s' → W n (i + 1) s') → W (n + 1) i s) : ∃ n, W n i0 s :=
  ⟨e + 1, loop_i W I e hx hs (e + 1) i0 s hi (by omega) h0⟩
theorem ek_if {c d A B : Prop} (e : c ↔ d) (f : d → A) (g : ¬ d → B) : (c → A) ∧ (¬ c → B) :=
  ⟨fun z => f (e.mp z), fun z => g (fun y => z (e.mpr y))⟩
theorem ek_v {α : Sort _} {P : α → Prop} {a b : α} (e : a = b) (h : P b) : P a := e ▸ h
theorem sb_cl0 : (0 : Int32).toNatClampNeg = 0 := by decide
theorem sb_m1 {p : Nat} (h : 0 < p) : nI p + (-1) = nI (p - 1) := by
  obtain ⟨q, rfl⟩ : ∃ q, p = q + 1 := ⟨p - 1, by omega⟩
  exact pk_m1 q
theorem wb_tb (n : Nat) : (lN n).toBitVec = BitVec.ofNat 64 n := rfl
theorem wb_inj {a b : Int64} (h : a.toBitVec = b.toBitVec) : a = b := Int64.toBitVec_inj.mp h
theorem wb_tn {n : Nat} (h : n < 2 ^ 64) : (lN n).toBitVec.toNat = n := by rw [wb_tb, BitVec.toNat_ofNat, Nat.mod_eq_of_lt h]
theorem wb_of32 (x : Int32) : ∃ n, n < 2 ^ 32 ∧ x = nI n := ⟨x.toBitVec.toNat, x.toBitVec.isLt, Int32.toBitVec_inj.mp (by show _ = BitVec.ofNat 32 _; simp)⟩
theorem wb_lt2 {a b : Nat} (h : a < b) : 2 ^ a < 2 ^ b := Nat.pow_lt_pow_right (by decide) h
theorem wb_and {a b : Nat} (ha : a < 2 ^ 64) (hb : b < 2 ^ 64) : lN a &&& lN b = lN (a &&& b) := by
  apply wb_inj
  rw [Int64.toBitVec_and, wb_tb, wb_tb, wb_tb]
  apply BitVec.eq_of_toNat_eq
  rw [BitVec.toNat_and, BitVec.toNat_ofNat, BitVec.toNat_ofNat, BitVec.toNat_ofNat, Nat.mod_eq_of_lt ha, Nat.mod_eq_of_lt hb, Nat.mod_eq_of_lt (Nat.and_lt_two_pow _ hb)]
theorem wb_mask {n k : Nat} (hn : n < 2 ^ 64) (hk : k < 64) : lN n &&& lN (2 ^ k - 1) = lN (n % 2 ^ k) := by
  rw [wb_and hn (by have := wb_lt2 hk; omega), Nat.and_two_pow_sub_one_eq_mod]
end
section
/-! scans, counts, tables (pure: no printed name) -/
/-- the first slot, from place i on and d places far, that p names; place i of a scan is slot (T + i) % 32 -/
def ic_ff (T : Nat) (p : Nat → Bool) : Nat → Nat → Option Nat
  | 0, _ => none
  | d + 1, i => if p ((T + i) % 32) = true then some ((T + i) % 32) else ic_ff T p d (i + 1)
theorem ic_ff_t {T : Nat} {p : Nat → Bool} {d i : Nat} (h : p ((T + i) % 32) = true) : ic_ff T p (d + 1) i = some ((T + i) % 32) := if_pos h
theorem ic_ff_f {T : Nat} {p : Nat → Bool} {d i : Nat} (h : ¬ p ((T + i) % 32) = true) : ic_ff T p (d + 1) i = ic_ff T p d (i + 1) := if_neg h
theorem ic_ff_no {T : Nat} {p : Nat → Bool} : ∀ d i : Nat, (∀ j, i ≤ j → j < i + d → ¬ p ((T + j) % 32) = true) → ic_ff T p d i = none := by
  intro d
  induction d with
  | zero => intro i _; rfl
  | succ d ih =>
    intro i h
    rw [ic_ff_f (h i (Nat.le_refl i) (by omega))]
    exact ih (i + 1) (fun j h1 h2 => h j (by omega) (by omega))
theorem ic_ff_is {T : Nat} {p : Nat → Bool} : ∀ d i j : Nat, i ≤ j → j < i + d → p ((T + j) % 32) = true → (∀ a, i ≤ a → a < j → ¬ p ((T + a) % 32) = true) → ic_ff T p d i = some ((T + j) % 32) := by
  intro d
  induction d with
  | zero => intro i j h1 h2 _ _; omega
  | succ d ih =>
    intro i j h1 h2 hp ha
    by_cases e : i = j
    · subst e; exact ic_ff_t hp
    · rw [ic_ff_f (ha i (Nat.le_refl i) (by omega))]
      exact ih (i + 1) j (by omega) (by omega) hp (fun a h3 h4 => ha a (by omega) h4)
theorem ic_ff_some {T : Nat} {p : Nat → Bool} : ∀ d i s : Nat, ic_ff T p d i = some s → ∃ j, i ≤ j ∧ j < i + d ∧ s = (T + j) % 32 ∧ p s = true ∧ (∀ a, i ≤ a → a < j → ¬ p ((T + a) % 32) = true) := by
  intro d
  induction d with
  | zero => intro i s h; exact absurd h (by intro z; cases z)
  | succ d ih =>
    intro i s h
    by_cases hp : p ((T + i) % 32) = true
    · rw [ic_ff_t hp] at h
      cases h
      exact ⟨i, Nat.le_refl i, by omega, rfl, hp, fun a h1 h2 => by omega⟩
    · rw [ic_ff_f hp] at h
      obtain ⟨j, h1, h2, h3, h4, h5⟩ := ih (i + 1) s h
      refine ⟨j, by omega, by omega, h3, h4, fun a h6 h7 => ?_⟩
      by_cases e : a = i
      · subst e; exact hp
      · exact h5 a (by omega) h7
theorem ic_ff_ps {T : Nat} {p : Nat → Bool} {d i s : Nat} (h : ic_ff T p d i = some s) : s < 32 ∧ p s = true := by
  obtain ⟨j, _, _, e, hp, _⟩ := ic_ff_some d i s h
  exact ⟨by omega, hp⟩
/-- every slot stands in one place of a scan -/
theorem ic_at (T : Nat) {s : Nat} (h : s < 32) : ∃ j, j < 32 ∧ (T + j) % 32 = s := ⟨(s + 32 - T % 32) % 32, by omega, by omega⟩
theorem ic_ff_none {T : Nat} {p : Nat → Bool} : ic_ff T p 32 0 = none ↔ ∀ s, s < 32 → ¬ p s = true := by
  constructor
  · intro h s hs hp
    obtain ⟨j, hj, e⟩ := ic_at T hs
    have key : ∀ n, ∀ j, j < n → p ((T + j) % 32) = true → ∃ i, i ≤ j ∧ p ((T + i) % 32) = true ∧ ∀ a, a < i → ¬ p ((T + a) % 32) = true := by
      intro n
      induction n with
      | zero => intro j hj; omega
      | succ n ih =>
        intro j hj hp
        by_cases q : ∃ a, a < j ∧ p ((T + a) % 32) = true
        · obtain ⟨a, ha, hpa⟩ := q
          obtain ⟨i, hi, h1, h2⟩ := ih a (by omega) hpa
          exact ⟨i, by omega, h1, h2⟩
        · exact ⟨j, Nat.le_refl j, hp, fun a ha hpa => q ⟨a, ha, hpa⟩⟩
    obtain ⟨i, hi, h1, h2⟩ := key (j + 1) j (by omega) (by rw [e]; exact hp)
    rw [ic_ff_is 32 0 i (by omega) (by omega) h1 (fun a _ ha => h2 a ha)] at h
    cases h
  · intro h
    exact ic_ff_no 32 0 (fun j _ _ => h _ (by omega))
theorem ic_ff_eq {T : Nat} {p q : Nat → Bool} (h : ∀ s, s < 32 → q s = p s) : ∀ d i, ic_ff T q d i = ic_ff T p d i := by
  intro d
  induction d with
  | zero => intro i; rfl
  | succ d ih =>
    intro i
    show (if q ((T + i) % 32) = true then some ((T + i) % 32) else ic_ff T q d (i + 1)) = (if p ((T + i) % 32) = true then some ((T + i) % 32) else ic_ff T p d (i + 1))
    rw [h _ (by omega), ih]
/-- how many slots below n p names -/
def ic_cn (p : Nat → Bool) : Nat → Nat
  | 0 => 0
  | n + 1 => ic_cn p n + (if p n = true then 1 else 0)
theorem ic_cn_t {p : Nat → Bool} {n : Nat} (h : p n = true) : ic_cn p (n + 1) = ic_cn p n + 1 := by
  show ic_cn p n + (if p n = true then 1 else 0) = _
  rw [if_pos h]
theorem ic_cn_f {p : Nat → Bool} {n : Nat} (h : ¬ p n = true) : ic_cn p (n + 1) = ic_cn p n := by
  show ic_cn p n + (if p n = true then 1 else 0) = _
  rw [if_neg h]; rfl
theorem ic_cn_le (p : Nat → Bool) : ∀ n, ic_cn p n ≤ n := by
  intro n
  induction n with
  | zero => exact Nat.le_refl 0
  | succ n ih =>
    show ic_cn p n + (if p n = true then 1 else 0) ≤ n + 1
    split <;> omega
theorem ic_cn_eq {p q : Nat → Bool} : ∀ n, (∀ j, j < n → q j = p j) → ic_cn q n = ic_cn p n := by
  intro n
  induction n with
  | zero => intro _; rfl
  | succ n ih =>
    intro h
    show ic_cn q n + (if q n = true then 1 else 0) = ic_cn p n + (if p n = true then 1 else 0)
    rw [ih (fun j hj => h j (by omega)), h n (by omega)]
/-- one slot more -/
theorem ic_cn_up {p q : Nat → Bool} {s : Nat} (hp : p s = false) (hq : q s = true) : ∀ n, s < n → (∀ j, j < n → j ≠ s → q j = p j) → ic_cn q n = ic_cn p n + 1 := by
  intro n
  induction n with
  | zero => intro h _; omega
  | succ n ih =>
    intro h ho
    show ic_cn q n + (if q n = true then 1 else 0) = ic_cn p n + (if p n = true then 1 else 0) + 1
    by_cases e : s = n
    · subst e
      rw [ic_cn_eq s (fun j hj => ho j (by omega) (by omega)), hp, hq]
      rfl
    · rw [ih (by omega) (fun j hj hn => ho j (by omega) hn), ho n (by omega) (fun z => e z.symm)]
      omega
theorem ic_cn_pos {p : Nat → Bool} {s n : Nat} (hs : s < n) (hp : p s = true) : 0 < ic_cn p n := by
  have h := ic_cn_up (p := fun j => if j = s then false else p j) (q := p) (s := s) (if_pos rfl) hp n hs (fun j _ hn => (if_neg hn).symm)
  omega
theorem ic_cn_sh (g : Nat → Bool) : ∀ n, ic_cn (fun i => g (i + 1)) n + (if g 0 = true then 1 else 0) = ic_cn g n + (if g n = true then 1 else 0) := by
  intro n
  induction n with
  | zero => rfl
  | succ n ih =>
    show ic_cn (fun i => g (i + 1)) n + (if g (n + 1) = true then 1 else 0) + (if g 0 = true then 1 else 0) = ic_cn g n + (if g n = true then 1 else 0) + (if g (n + 1) = true then 1 else 0)
    omega
/-- a scan that begins anywhere counts the same -/
theorem ic_cn_rot (p : Nat → Bool) : ∀ T, ic_cn (fun i => p ((T + i) % 32)) 32 = ic_cn p 32 := by
  intro T
  induction T with
  | zero =>
    refine ic_cn_eq 32 (fun j hj => ?_)
    show p ((0 + j) % 32) = p j
    rw [Nat.zero_add, Nat.mod_eq_of_lt hj]
  | succ T ih =>
    rw [← ih]
    have h := ic_cn_sh (fun i => p ((T + i) % 32)) 32
    have e : (T + 32) % 32 = (T + 0) % 32 := by omega
    have h2 : ic_cn (fun i => p ((T + (i + 1)) % 32)) 32 + (if p ((T + 0) % 32) = true then 1 else 0) = ic_cn (fun i => p ((T + i) % 32)) 32 + (if p ((T + 32) % 32) = true then 1 else 0) := h
    rw [e] at h2
    have h3 : ic_cn (fun i => p ((T + 1 + i) % 32)) 32 = ic_cn (fun i => p ((T + (i + 1)) % 32)) 32 :=
      ic_cn_eq 32 (fun j _ => by show p ((T + 1 + j) % 32) = p ((T + (j + 1)) % 32); rw [Nat.add_right_comm, Nat.add_assoc])
    omega
/-- a change at one place of a natural table, of one table of a picture -/
def ic_u (f : Nat → Nat) (s x : Nat) : Nat → Nat := fun j => if j = s then x else f j
theorem ic_us {f : Nat → Nat} {s x : Nat} : ic_u f s x s = x := if_pos rfl
theorem ic_un {f : Nat → Nat} {s x j : Nat} (h : j ≠ s) : ic_u f s x j = f j := if_neg h
def ic_pf (p : Nat → Nat → Nat) (f : Nat) (g : Nat → Nat) : Nat → Nat → Nat := fun h => if h = f then g else p h
def ic_pu (p : Nat → Nat → Nat) (f s x : Nat) : Nat → Nat → Nat := ic_pf p f (ic_u (p f) s x)
/-- one value more in the memory: n values of V from b on, to a and on -/
def ic_stw (W V : Nat → Nat) (a b : Nat) : Nat → Nat → Nat
  | 0 => W
  | n + 1 => ic_u (ic_stw W V a b n) (a + n) (V (b + n))
end
section
/-! the machine over natural tables. A picture p: tables 0 state (0 queued, 1 active, 2 okay, 3 decerr, 4 never used), 1 channel (manager * 2 + 1 for a write), 2 id, 3 address, 4 length, 5 beats, 6 latency, 7 ready cycle, 8 done order, 9 done cycle, 10 values, 11 queue, 12 its heads, 13 its sizes, 14 write data, 15 its heads, 16 its sizes, 17 words, 18 script, 19 its places, 20 active of a manager, 21 active at a subordinate, 22 next id, 23 ready, 24 priority, 25: limit, cap, cycles, tickets, completions -/
def ic_pen (p : Nat → Nat → Nat) (c i s : Nat) : Bool := decide (p 1 s = c ∧ p 2 s = i ∧ p 0 s ≤ 1)
def ic_old (p : Nat → Nat → Nat) (c i : Nat) : Option Nat := ic_ff (p 25 3) (ic_pen p c i) 32 0
def ic_eli (p : Nat → Nat → Nat) (s : Nat) : Bool := decide (p 0 s = 1 ∧ (p 1 s % 2 = 0 ∨ p 5 s = p 4 s) ∧ p 7 s ≤ p 25 2)
def ic_chl (p : Nat → Nat → Nat) (c : Nat) : Nat → Nat → Option Nat
  | 0, _ => none
  | d + 1, j => match ic_old p c ((p 22 c + j) % 4) with
    | none => ic_chl p c d (j + 1)
    | some s => if ic_eli p s = true then some s else ic_chl p c d (j + 1)
def ic_cho (p : Nat → Nat → Nat) (c : Nat) : Option Nat := if p 23 c = 0 then none else ic_chl p c 4 0
def ic_fin (p : Nat → Nat → Nat) (s : Nat) : Nat → Nat → Nat :=
  ic_pu (ic_pu (ic_pu (ic_pu (ic_pu (ic_pu p 0 s (if p 3 s / 8 = 3 then 3 else 2)) 8 s (p 25 4)) 9 s (p 25 2)) 25 4 (p 25 4 + 1)) 20 (p 1 s / 2) (p 20 (p 1 s / 2) - 1)) 21 (p 3 s / 8) (p 21 (p 3 s / 8) - 1)
def ic_sto (p : Nat → Nat → Nat) (s : Nat) : Nat → Nat → Nat := ic_pf p 17 (ic_stw (p 17) (p 10) (p 3 s) (s * 4) (p 4 s))
/-- a write's answer -/
def ic_wr1 (p : Nat → Nat → Nat) (c s : Nat) : Nat → Nat → Nat :=
  ic_pu (ic_fin (if p 3 s / 8 = 3 then p else ic_sto p s) s) 22 c ((p 2 s + 1) % 4)
def ic_wr (p : Nat → Nat → Nat) (c : Nat) : Nat → Nat → Nat := match ic_cho p c with
  | none => p
  | some s => ic_wr1 p c s
/-- a read's beat -/
def ic_bt (p : Nat → Nat → Nat) (s : Nat) : Nat → Nat → Nat :=
  ic_pu (ic_pu p 10 (s * 4 + p 5 s) (if p 3 s / 8 = 3 then 0 else p 17 (p 3 s + p 5 s))) 5 s (p 5 s + 1)
def ic_rd1 (p : Nat → Nat → Nat) (c s : Nat) : Nat → Nat → Nat :=
  ic_pu (if p 5 s + 1 = p 4 s then ic_fin (ic_bt p s) s else ic_bt p s) 22 c ((p 2 s + 1) % 4)
def ic_rd (p : Nat → Nat → Nat) (c : Nat) : Nat → Nat → Nat := match ic_cho p c with
  | none => p
  | some s => ic_rd1 p c s
/-- a value of a write -/
def ic_unp (p : Nat → Nat → Nat) (m s : Nat) : Bool := decide (p 1 s = m * 2 + 1 ∧ p 5 s < p 4 s)
def ic_unf (p : Nat → Nat → Nat) (m : Nat) : Option Nat := ic_ff (p 25 3) (ic_unp p m) 32 0
def ic_mv0 (p : Nat → Nat → Nat) (m s : Nat) : Nat → Nat → Nat :=
  ic_pu (ic_pu (ic_pu (ic_pu p 10 (s * 4 + p 5 s) (p 14 (m * 8 + p 15 m))) 15 m ((p 15 m + 1) % 8)) 16 m (p 16 m - 1)) 5 s (p 5 s + 1)
def ic_mv1 (p : Nat → Nat → Nat) (m s : Nat) : Nat → Nat → Nat :=
  if p 5 s + 1 = p 4 s then ic_pu (ic_mv0 p m s) 7 s (p 25 2 + p 6 s) else ic_mv0 p m s
def ic_mv (p : Nat → Nat → Nat) (m : Nat) : Nat → Nat → Nat := match ic_unf p m with
  | none => p
  | some s => if p 0 s = 1 ∧ p 16 m ≠ 0 then ic_mv1 p m s else p
/-- arbitration; k: 0 reads, 1 writes -/
def ic_hd (p : Nat → Nat → Nat) (c : Nat) : Nat := p 11 (c * 4 + p 12 c)
def ic_elp (p : Nat → Nat → Nat) (h i : Nat) : Bool := decide (p 0 i = 1 ∧ p 1 i = p 1 h ∧ p 2 i = p 2 h ∧ p 3 i / 8 ≠ p 3 h / 8)
def ic_els (p : Nat → Nat → Nat) (h : Nat) : Option Nat := ic_ff 0 (ic_elp p h) 32 0
def ic_can (p : Nat → Nat → Nat) (m s k : Nat) : Bool :=
  decide (p 13 (m * 2 + k) ≠ 0 ∧ p 3 (ic_hd p (m * 2 + k)) / 8 = s ∧ p 20 m < p 25 0 ∧ p 21 s < p 25 1 ∧ ic_els p (ic_hd p (m * 2 + k)) = none)
def ic_win (p : Nat → Nat → Nat) (s k : Nat) : Nat := if ic_can p (p 24 (s * 2 + k)) s k = true then p 24 (s * 2 + k) else 1 - p 24 (s * 2 + k)
def ic_dh (p : Nat → Nat → Nat) (c : Nat) : Nat → Nat → Nat := ic_pu (ic_pu p 12 c ((p 12 c + 1) % 4)) 13 c (p 13 c - 1)
def ic_lat (p : Nat → Nat → Nat) (s : Nat) : Nat := if s = 3 then 1 else p 18 (s * 4 + p 19 s)
def ic_tl (p : Nat → Nat → Nat) (s : Nat) : Nat → Nat → Nat := if s = 3 then p else ic_pu p 19 s ((p 19 s + 1) % 4)
def ic_acc (p : Nat → Nat → Nat) (h s : Nat) : Nat → Nat → Nat :=
  ic_pu (ic_pu (ic_tl (ic_pu (ic_pu (ic_pu p 0 h 1) 20 (p 1 h / 2) (p 20 (p 1 h / 2) + 1)) 21 s (p 21 s + 1)) s) 6 h (ic_lat p s)) 7 h (p 25 2 + ic_lat p s)
def ic_ar1 (p : Nat → Nat → Nat) (s k w : Nat) : Nat → Nat → Nat := ic_pu (ic_acc (ic_dh p (w * 2 + k)) (ic_hd p (w * 2 + k)) s) 24 (s * 2 + k) (1 - w)
def ic_ar (p : Nat → Nat → Nat) (s k : Nat) : Nat → Nat → Nat := if ic_can p (ic_win p s k) s k = true then ic_ar1 p s k (ic_win p s k) else p
/-- one cycle, n cycles -/
def ic_cy1 (p : Nat → Nat → Nat) : Nat → Nat → Nat := ic_mv (ic_mv (ic_rd (ic_rd (ic_wr (ic_wr p 1) 3) 0) 2) 0) 1
def ic_cy2 (p : Nat → Nat → Nat) : Nat → Nat → Nat := ic_ar (ic_ar (ic_ar (ic_ar (ic_ar (ic_ar (ic_ar (ic_ar p 0 1) 0 0) 1 1) 1 0) 2 1) 2 0) 3 1) 3 0
def ic_cyc (p : Nat → Nat → Nat) : Nat → Nat → Nat := ic_cy2 (ic_cy1 (ic_pu p 25 2 (p 25 2 + 1)))
def ic_run : Nat → (Nat → Nat → Nat) → Nat → Nat → Nat
  | 0, p => p
  | n + 1, p => ic_run n (ic_cyc p)
/-- a request that is taken -/
def ic_iss (p : Nat → Nat → Nat) (c i a l : Nat) : Nat → Nat → Nat :=
  ic_pu (ic_pu (ic_pu (ic_pu (ic_pu (ic_pu (ic_pu (ic_pu (ic_pu p 0 (p 25 3 % 32) 0) 1 (p 25 3 % 32) c) 2 (p 25 3 % 32) i) 3 (p 25 3 % 32) a) 4 (p 25 3 % 32) l) 5 (p 25 3 % 32) 0)
    11 (c * 4 + (p 12 c + p 13 c) % 4) (p 25 3 % 32)) 13 c (p 13 c + 1)) 25 3 (p 25 3 + 1)
def ic_wd (p : Nat → Nat → Nat) (m x : Nat) : Nat → Nat → Nat := ic_pu (ic_pu p 14 (m * 8 + (p 15 m + p 16 m) % 8) x) 16 m (p 16 m + 1)
end
section
/-! what every picture of a run keeps -/
def ic_L (T C s : Nat) (S H I A N B G R : Nat) : Prop :=
  (H < 4 ∧ I < 4 ∧ A < 32 ∧ A % 8 + N ≤ 8 ∧ N ≤ 4) ∧ (S ≤ 4 ∧ B ≤ N ∧ (S ≤ 1 → H % 2 = 0 → B < N) ∧ (S = 0 → B < N)) ∧ (T ≤ s → S = 4 ∧ N = 0) ∧ (s < T → S ≤ 3) ∧ (S = 1 → G ≤ 15 ∧ R ≤ C + 15)
def ic_J1 (p : Nat → Nat → Nat) : Prop := ∀ s, s < 32 → ic_L (p 25 3) (p 25 2) s (p 0 s) (p 1 s) (p 2 s) (p 3 s) (p 4 s) (p 5 s) (p 6 s) (p 7 s)
def ic_am (S H : Nat → Nat) (m : Nat) : Nat := ic_cn (fun s => decide (S s = 1 ∧ H s / 2 = m)) 32
def ic_as (S A : Nat → Nat) (q : Nat) : Nat := ic_cn (fun s => decide (S s = 1 ∧ A s / 8 = q)) 32
def ic_qn (S H : Nat → Nat) (c : Nat) : Nat := ic_cn (fun s => decide (S s = 0 ∧ H s = c)) 32
def ic_J2 (p : Nat → Nat → Nat) : Prop := (∀ m, m < 2 → p 20 m = ic_am (p 0) (p 1) m) ∧ (∀ q, q < 4 → p 21 q = ic_as (p 0) (p 3) q)
/-- the ring of one channel: its tickets in order -/
def ic_Q1 (T : Nat) (S H Q : Nat → Nat) (c h n : Nat) (K : Nat → Nat) : Prop :=
  h < 4 ∧ n ≤ 4 ∧ n = ic_qn S H c ∧
    (∀ i, i < n → Q (c * 4 + (h + i) % 4) = K i % 32 ∧ K i < T ∧ T ≤ K i + 32 ∧ S (K i % 32) = 0 ∧ H (K i % 32) = c) ∧
    (∀ i j, i < j → j < n → K i < K j) ∧
    (∀ t, t < T → T ≤ t + 32 → S (t % 32) = 0 → H (t % 32) = c → ∃ i, i < n ∧ K i = t)
def ic_J3 (p : Nat → Nat → Nat) : Prop := ∀ c, c < 4 → ∃ K : Nat → Nat, ic_Q1 (p 25 3) (p 0) (p 1) (p 11) c (p 12 c) (p 13 c) K
def ic_J4 (p : Nat → Nat → Nat) : Prop :=
  (∀ m, m < 2 → p 15 m < 8 ∧ p 16 m ≤ 8) ∧ (∀ j, j < 12 → p 18 j ≤ 15) ∧ (∀ s, s < 4 → p 19 s < 4) ∧ (∀ c, c < 4 → p 22 c < 4 ∧ p 23 c ≤ 1) ∧ (∀ j, j < 8 → p 24 j ≤ 1) ∧ p 25 0 ≤ 8 ∧ p 25 1 ≤ 4
def ic_Inv (p : Nat → Nat → Nat) : Prop := ic_J1 p ∧ ic_J2 p ∧ ic_J3 p ∧ ic_J4 p
/-- counters, one up, one down -/
theorem ic_am_up {S H : Nat → Nat} {s : Nat} (hs : s < 32) (h : S s ≠ 1) (m : Nat) : ic_am (ic_u S s 1) H m = if m = H s / 2 then ic_am S H m + 1 else ic_am S H m := by
  unfold ic_am
  by_cases e : m = H s / 2
  · rw [if_pos e]
    refine ic_cn_up (s := s) (decide_eq_false (fun z => h z.1)) (decide_eq_true ⟨ic_us, e.symm⟩) 32 hs (fun j _ hj => ?_)
    rw [ic_un hj]
  · rw [if_neg e]
    refine ic_cn_eq 32 (fun j _ => ?_)
    by_cases ej : j = s
    · subst ej
      rw [decide_eq_false (fun z => e z.2.symm), decide_eq_false (fun z => e z.2.symm)]
    · rw [ic_un ej]
theorem ic_am_dn {S H : Nat → Nat} {s x : Nat} (hs : s < 32) (h : S s = 1) (hx : x ≠ 1) (m : Nat) : ic_am S H m = if m = H s / 2 then ic_am (ic_u S s x) H m + 1 else ic_am (ic_u S s x) H m := by
  unfold ic_am
  by_cases e : m = H s / 2
  · rw [if_pos e]
    refine ic_cn_up (s := s) (decide_eq_false (fun z => by have := z.1; rw [ic_us] at this; exact hx this)) (decide_eq_true ⟨h, e.symm⟩) 32 hs (fun j _ hj => ?_)
    rw [ic_un hj]
  · rw [if_neg e]
    refine ic_cn_eq 32 (fun j _ => ?_)
    by_cases ej : j = s
    · subst ej
      rw [decide_eq_false (fun z => e z.2.symm), decide_eq_false (fun z => e z.2.symm)]
    · rw [ic_un ej]
theorem ic_as_up {S A : Nat → Nat} {s : Nat} (hs : s < 32) (h : S s ≠ 1) (m : Nat) : ic_as (ic_u S s 1) A m = if m = A s / 8 then ic_as S A m + 1 else ic_as S A m := by
  unfold ic_as
  by_cases e : m = A s / 8
  · rw [if_pos e]
    refine ic_cn_up (s := s) (decide_eq_false (fun z => h z.1)) (decide_eq_true ⟨ic_us, e.symm⟩) 32 hs (fun j _ hj => ?_)
    rw [ic_un hj]
  · rw [if_neg e]
    refine ic_cn_eq 32 (fun j _ => ?_)
    by_cases ej : j = s
    · subst ej
      rw [decide_eq_false (fun z => e z.2.symm), decide_eq_false (fun z => e z.2.symm)]
    · rw [ic_un ej]
theorem ic_as_dn {S A : Nat → Nat} {s x : Nat} (hs : s < 32) (h : S s = 1) (hx : x ≠ 1) (m : Nat) : ic_as S A m = if m = A s / 8 then ic_as (ic_u S s x) A m + 1 else ic_as (ic_u S s x) A m := by
  unfold ic_as
  by_cases e : m = A s / 8
  · rw [if_pos e]
    refine ic_cn_up (s := s) (decide_eq_false (fun z => by have := z.1; rw [ic_us] at this; exact hx this)) (decide_eq_true ⟨h, e.symm⟩) 32 hs (fun j _ hj => ?_)
    rw [ic_un hj]
  · rw [if_neg e]
    refine ic_cn_eq 32 (fun j _ => ?_)
    by_cases ej : j = s
    · subst ej
      rw [decide_eq_false (fun z => e z.2.symm), decide_eq_false (fun z => e z.2.symm)]
    · rw [ic_un ej]
/-- a slot that is not active takes a new request: the counts stay -/
theorem ic_am_is {S H : Nat → Nat} {s c : Nat} (h : S s ≠ 1) (m : Nat) : ic_am (ic_u S s 0) (ic_u H s c) m = ic_am S H m := by
  refine ic_cn_eq 32 (fun j _ => ?_)
  by_cases e : j = s
  · subst e
    rw [decide_eq_false (fun z => by have := z.1; rw [ic_us] at this; omega), decide_eq_false (fun z => h z.1)]
  · rw [ic_un e, ic_un e]
theorem ic_as_is {S A : Nat → Nat} {s a : Nat} (h : S s ≠ 1) (m : Nat) : ic_as (ic_u S s 0) (ic_u A s a) m = ic_as S A m := by
  refine ic_cn_eq 32 (fun j _ => ?_)
  by_cases e : j = s
  · subst e
    rw [decide_eq_false (fun z => by have := z.1; rw [ic_us] at this; omega), decide_eq_false (fun z => h z.1)]
  · rw [ic_un e, ic_un e]
/-- the head of a queue is the oldest queued one -/
theorem ic_Q1_hd {T : Nat} {S H Q : Nat → Nat} {c h n : Nat} {K : Nat → Nat} (q : ic_Q1 T S H Q c h n K) (hn : 0 < n)
    (un : ∀ s, s < 32 → T ≤ s → S s = 4) : ic_ff T (fun s => decide (S s = 0 ∧ H s = c)) 32 0 = some (Q (c * 4 + h)) := by
  obtain ⟨h4, _, _, he, hs, hc⟩ := q
  obtain ⟨h0, h1, h2, h3, h5⟩ := he 0 hn
  rw [Nat.add_zero, Nat.mod_eq_of_lt h4] at h0
  rw [h0]
  have e : (T + (K 0 + 32 - T)) % 32 = K 0 % 32 := by omega
  rw [← e]
  refine ic_ff_is 32 0 (K 0 + 32 - T) (by omega) (by omega) ?_ ?_
  · rw [e]; exact decide_eq_true ⟨h3, h5⟩
  · intro a _ ha hp
    have hp2 := of_decide_eq_true hp
    by_cases h32 : 32 ≤ T + a
    · have e2 : (T + a) % 32 = (T + a - 32) % 32 := by omega
      rw [e2] at hp2
      obtain ⟨i, hi, ei⟩ := hc (T + a - 32) (by omega) (by omega) hp2.1 hp2.2
      by_cases i0 : i = 0
      · subst i0; omega
      · have := hs 0 i (by omega) hi
        omega
    · have e2 : (T + a) % 32 = T + a := by omega
      rw [e2] at hp2
      have := un (T + a) (by omega) (by omega)
      omega
theorem ic_Q1_no {T : Nat} {S H Q : Nat → Nat} {c h : Nat} {K : Nat → Nat} (q : ic_Q1 T S H Q c h 0 K)
    (un : ∀ s, s < 32 → T ≤ s → S s = 4) : ic_ff T (fun s => decide (S s = 0 ∧ H s = c)) 32 0 = none := by
  obtain ⟨_, _, _, _, _, hc⟩ := q
  refine ic_ff_no 32 0 (fun a _ ha hp => ?_)
  have hp2 := of_decide_eq_true hp
  by_cases h32 : 32 ≤ T + a
  · have e2 : (T + a) % 32 = (T + a - 32) % 32 := by omega
    rw [e2] at hp2
    obtain ⟨i, hi, _⟩ := hc (T + a - 32) (by omega) (by omega) hp2.1 hp2.2
    omega
  · have e2 : (T + a) % 32 = T + a := by omega
    rw [e2] at hp2
    have := un (T + a) (by omega) (by omega)
    omega
/-- a queue speaks of S only by 'is queued' -/
theorem ic_Q1_S {T : Nat} {S H Q : Nat → Nat} {c h n s x : Nat} {K : Nat → Nat} (q : ic_Q1 T S H Q c h n K)
    (hS : S s ≠ 0) (hx : x ≠ 0) : ic_Q1 T (ic_u S s x) H Q c h n K := by
  have e : ∀ j, (ic_u S s x j = 0 ↔ S j = 0) := by
    intro j
    by_cases ej : j = s
    · subst ej; rw [ic_us]; exact ⟨fun z => absurd z hx, fun z => absurd z hS⟩
    · rw [ic_un ej]
  obtain ⟨a1, a2, a3, he, hs, hc⟩ := q
  refine ⟨a1, a2, ?_, fun i hi => ?_, hs, fun t h1 h2 h3 h4 => hc t h1 h2 ((e _).mp h3) h4⟩
  · rw [a3]
    refine (ic_cn_eq 32 (fun j hj => ?_)).symm
    rw [decide_eq_decide, e j]
  · obtain ⟨b1, b2, b3, b4, b5⟩ := he i hi
    exact ⟨b1, b2, b3, (e _).mpr b4, b5⟩
/-- the head leaves -/
theorem ic_Q1_dq {T : Nat} {S H Q : Nat → Nat} {c h n : Nat} {K : Nat → Nat} (q : ic_Q1 T S H Q c h n K) (hn : 0 < n) :
    ic_Q1 T (ic_u S (Q (c * 4 + h)) 1) H Q c ((h + 1) % 4) (n - 1) (fun i => K (i + 1)) := by
  obtain ⟨a1, a2, a3, he, hs, hc⟩ := q
  obtain ⟨h0, h1, h2, h3, h4⟩ := he 0 hn
  rw [Nat.add_zero, Nat.mod_eq_of_lt a1] at h0
  rw [h0]
  have hk : n = ic_cn (fun s => decide (ic_u S (K 0 % 32) 1 s = 0 ∧ H s = c)) 32 + 1 := by
    rw [a3]
    refine ic_cn_up (s := K 0 % 32) ?_ (decide_eq_true ⟨h3, h4⟩) 32 (by omega) (fun j _ hj => ?_)
    · refine decide_eq_false (fun z => ?_)
      have := z.1
      rw [ic_us] at this
      omega
    · rw [ic_un hj]
  refine ⟨by omega, by omega, ?_, fun i hi => ?_, fun i j h5 h6 => hs (i + 1) (j + 1) (by omega) (by omega), fun t h5 h6 h7 h8 => ?_⟩
  · show n - 1 = ic_cn _ 32
    omega
  · obtain ⟨b1, b2, b3, b4, b5⟩ := he (i + 1) (by omega)
    have h9 := hs 0 (i + 1) (by omega) (by omega)
    have e : ((h + 1) % 4 + i) % 4 = (h + (i + 1)) % 4 := by omega
    refine ⟨by rw [e]; exact b1, b2, b3, ?_, b5⟩
    show ic_u S (K 0 % 32) 1 (K (i + 1) % 32) = 0
    rw [ic_un (by omega)]
    exact b4
  · have hne : t % 32 ≠ K 0 % 32 := by
      intro z
      rw [z, ic_us] at h7
      omega
    rw [ic_un hne] at h7
    obtain ⟨i, hi, ei⟩ := hc t h5 h6 h7 h8
    have i0 : i ≠ 0 := by
      intro z
      subst z
      rw [ei] at hne
      exact hne rfl
    exact ⟨i - 1, by omega, by show K (i - 1 + 1) = t; rw [Nat.sub_add_cancel (by omega)]; exact ei⟩
/-- another channel, when a head leaves -/
theorem ic_Q1_dq' {T : Nat} {S H Q : Nat → Nat} {c h n s : Nat} {K : Nat → Nat} (q : ic_Q1 T S H Q c h n K) (hs : H s ≠ c) :
    ic_Q1 T (ic_u S s 1) H Q c h n K := by
  obtain ⟨a1, a2, a3, he, hg, hc⟩ := q
  refine ⟨a1, a2, ?_, fun i hi => ?_, hg, fun t h1 h2 h3 h4 => ?_⟩
  · rw [a3]
    refine (ic_cn_eq 32 (fun j _ => ?_)).symm
    by_cases e : j = s
    · subst e
      rw [decide_eq_false (fun z => hs z.2), decide_eq_false (fun z => hs z.2)]
    · rw [ic_un e]
  · obtain ⟨b1, b2, b3, b4, b5⟩ := he i hi
    refine ⟨b1, b2, b3, ?_, b5⟩
    rw [ic_un (fun z => hs (by rw [← z]; exact b5))]
    exact b4
  · have hne : t % 32 ≠ s := fun z => hs (by rw [← z]; exact h4)
    rw [ic_un hne] at h3
    exact hc t h1 h2 h3 h4
/-- a new request at the tail -/
theorem ic_Q1_en {T : Nat} {S H Q : Nat → Nat} {c h n : Nat} {K : Nat → Nat} (q : ic_Q1 T S H Q c h n K) (hn : n < 4) (hS : 2 ≤ S (T % 32)) :
    ic_Q1 (T + 1) (ic_u S (T % 32) 0) (ic_u H (T % 32) c) (ic_u Q (c * 4 + (h + n) % 4) (T % 32)) c h (n + 1) (ic_u K n T) := by
  obtain ⟨a1, a2, a3, he, hs, hc⟩ := q
  have hk : ic_qn (ic_u S (T % 32) 0) (ic_u H (T % 32) c) c = n + 1 := by
    rw [a3]
    refine ic_cn_up (s := T % 32) (decide_eq_false (fun z => by have := z.1; omega)) (decide_eq_true ⟨ic_us, ic_us⟩) 32 (by omega) (fun j _ hj => ?_)
    rw [ic_un hj, ic_un hj]
  refine ⟨a1, by omega, hk.symm, fun i hi => ?_, fun i j h1 h2 => ?_, fun t h1 h2 h3 h4 => ?_⟩
  · by_cases e : i = n
    · subst e
      rw [ic_us, ic_us]
      exact ⟨rfl, by omega, by omega, ic_us, ic_us⟩
    · rw [ic_un e]
      obtain ⟨b1, b2, b3, b4, b5⟩ := he i (by omega)
      have hne : K i % 32 ≠ T % 32 := by intro z; rw [z] at b4; omega
      refine ⟨?_, by omega, by omega, by rw [ic_un hne]; exact b4, by rw [ic_un hne]; exact b5⟩
      rw [ic_un (by omega)]
      exact b1
  · by_cases e : j = n
    · subst e
      rw [ic_us, ic_un (by omega)]
      exact (he i (by omega)).2.1
    · rw [ic_un e, ic_un (by omega)]
      exact hs i j h1 (by omega)
  · by_cases e : t = T
    · exact ⟨n, by omega, by rw [ic_us]; exact e.symm⟩
    · have hne : t % 32 ≠ T % 32 := by omega
      rw [ic_un hne] at h3 h4
      obtain ⟨i, hi, ei⟩ := hc t (by omega) (by omega) h3 h4
      exact ⟨i, by omega, by rw [ic_un (by omega)]; exact ei⟩
/-- another channel, when a request comes -/
theorem ic_Q1_en' {T : Nat} {S H Q : Nat → Nat} {c d h n p z : Nat} {K : Nat → Nat} (q : ic_Q1 T S H Q c h n K) (hd : d ≠ c) (hS : 2 ≤ S (T % 32)) (hp : d * 4 ≤ p) (hp' : p < d * 4 + 4) :
    ic_Q1 (T + 1) (ic_u S (T % 32) 0) (ic_u H (T % 32) d) (ic_u Q p z) c h n K := by
  obtain ⟨a1, a2, a3, he, hs, hc⟩ := q
  refine ⟨a1, a2, ?_, fun i hi => ?_, hs, fun t h1 h2 h3 h4 => ?_⟩
  · rw [a3]
    refine (ic_cn_eq 32 (fun j _ => ?_)).symm
    by_cases e : j = T % 32
    · subst e
      rw [decide_eq_false (fun z => by have := z.2; rw [ic_us] at this; exact hd this), decide_eq_false (fun z => by have := z.1; omega)]
    · rw [ic_un e, ic_un e]
  · obtain ⟨b1, b2, b3, b4, b5⟩ := he i hi
    have hne : K i % 32 ≠ T % 32 := by intro z; rw [z] at b4; omega
    refine ⟨?_, by omega, by omega, by rw [ic_un hne]; exact b4, by rw [ic_un hne]; exact b5⟩
    rw [ic_un (by omega)]
    exact b1
  · by_cases e : t = T
    · subst e
      rw [ic_us] at h4
      exact absurd h4 hd
    · have hne : t % 32 ≠ T % 32 := by omega
      rw [ic_un hne] at h3 h4
      exact hc t (by omega) (by omega) h3 h4
end
section
/-! every step keeps it -/
theorem ic_chl_ps {p : Nat → Nat → Nat} {c : Nat} : ∀ d j s : Nat, ic_chl p c d j = some s → s < 32 ∧ p 1 s = c ∧ p 0 s = 1 ∧ (p 1 s % 2 = 0 ∨ p 5 s = p 4 s) ∧ p 7 s ≤ p 25 2 := by
  intro d
  induction d with
  | zero => intro j s h; cases h
  | succ d ih =>
    intro j s h
    unfold ic_chl at h
    cases ho : ic_old p c ((p 22 c + j) % 4) with
    | none => rw [ho] at h; exact ih (j + 1) s h
    | some t =>
      rw [ho] at h
      dsimp only at h
      by_cases he : ic_eli p t = true
      · rw [if_pos he] at h
        cases h
        have h1 := ic_ff_ps ho
        have h2 := of_decide_eq_true h1.2
        have h3 := of_decide_eq_true he
        exact ⟨h1.1, h2.1, h3.1, h3.2.1, h3.2.2⟩
      · rw [if_neg he] at h
        exact ih (j + 1) s h
theorem ic_cho_ps {p : Nat → Nat → Nat} {c s : Nat} (h : ic_cho p c = some s) : s < 32 ∧ p 1 s = c ∧ p 0 s = 1 ∧ (p 1 s % 2 = 0 ∨ p 5 s = p 4 s) ∧ p 7 s ≤ p 25 2 := by
  unfold ic_cho at h
  by_cases hz : p 23 c = 0
  · rw [if_pos hz] at h; cases h
  · rw [if_neg hz] at h; exact ic_chl_ps 4 0 s h
theorem ic_cho_rdy {p : Nat → Nat → Nat} {c s : Nat} (h : ic_cho p c = some s) : p 23 c ≠ 0 := by
  unfold ic_cho at h
  intro hz
  rw [if_pos hz] at h; cases h
theorem ic_unf_ps {p : Nat → Nat → Nat} {m s : Nat} (h : ic_unf p m = some s) : s < 32 ∧ p 1 s = m * 2 + 1 ∧ p 5 s < p 4 s := by
  have h1 := ic_ff_ps h
  have h2 := of_decide_eq_true h1.2
  exact ⟨h1.1, h2.1, h2.2⟩
theorem ic_fin_J1 {p : Nat → Nat → Nat} {s : Nat} (h : ic_J1 p) (h0 : p 0 s = 1) : ic_J1 (ic_fin p s) := by
  intro t ht
  have h1 := h t ht
  by_cases e : t = s
  · subst e
    show ic_L (p 25 3) (p 25 2) t (ic_u (p 0) t (if p 3 t / 8 = 3 then 3 else 2) t) (p 1 t) (p 2 t) (p 3 t) (p 4 t) (p 5 t) (p 6 t) (p 7 t)
    rw [ic_us]
    unfold ic_L at h1 ⊢
    split <;> omega
  · show ic_L (p 25 3) (p 25 2) t (ic_u (p 0) s (if p 3 s / 8 = 3 then 3 else 2) t) (p 1 t) (p 2 t) (p 3 t) (p 4 t) (p 5 t) (p 6 t) (p 7 t)
    rw [ic_un e]
    exact h1
theorem ic_fin_J2 {p : Nat → Nat → Nat} {s : Nat} (h : ic_J2 p) (hs : s < 32) (h1 : p 0 s = 1) : ic_J2 (ic_fin p s) := by
  have hx : (if p 3 s / 8 = 3 then 3 else 2) ≠ 1 := by split <;> omega
  refine ⟨fun m hm => ?_, fun q hq => ?_⟩
  · show ic_u (p 20) (p 1 s / 2) (p 20 (p 1 s / 2) - 1) m = ic_am (ic_u (p 0) s (if p 3 s / 8 = 3 then 3 else 2)) (p 1) m
    have a := ic_am_dn (H := p 1) hs h1 hx m
    have b := h.1 m hm
    by_cases e : m = p 1 s / 2
    · rw [if_pos e] at a
      subst e
      rw [ic_us]
      omega
    · rw [if_neg e] at a
      rw [ic_un e]
      omega
  · show ic_u (p 21) (p 3 s / 8) (p 21 (p 3 s / 8) - 1) q = ic_as (ic_u (p 0) s (if p 3 s / 8 = 3 then 3 else 2)) (p 3) q
    have a := ic_as_dn (A := p 3) hs h1 hx q
    have b := h.2 q hq
    by_cases e : q = p 3 s / 8
    · rw [if_pos e] at a
      subst e
      rw [ic_us]
      omega
    · rw [if_neg e] at a
      rw [ic_un e]
      omega
theorem ic_fin_J3 {p : Nat → Nat → Nat} {s : Nat} (h : ic_J3 p) (h1 : p 0 s = 1) : ic_J3 (ic_fin p s) := by
  intro c hc
  obtain ⟨K, hK⟩ := h c hc
  refine ⟨K, ?_⟩
  show ic_Q1 (p 25 3) (ic_u (p 0) s (if p 3 s / 8 = 3 then 3 else 2)) (p 1) (p 11) c (p 12 c) (p 13 c) K
  exact ic_Q1_S hK (by omega) (by split <;> omega)
theorem ic_22_J4 {p : Nat → Nat → Nat} {c x : Nat} (h : ic_J4 p) (hx : x < 4) : ic_J4 (ic_pu p 22 c x) := by
  obtain ⟨a1, a2, a3, a4, a5⟩ := h
  refine ⟨a1, a2, a3, fun d hd => ?_, a5⟩
  show ic_u (p 22) c x d < 4 ∧ p 23 d ≤ 1
  by_cases e : d = c
  · subst e; rw [ic_us]; exact ⟨hx, (a4 d hd).2⟩
  · rw [ic_un e]; exact a4 d hd
theorem ic_wr_Inv {p : Nat → Nat → Nat} {c : Nat} (h : ic_Inv p) : ic_Inv (ic_wr p c) := by
  unfold ic_wr
  cases hc : ic_cho p c with
  | none => exact h
  | some s =>
    obtain ⟨hs, _, h1, _, _⟩ := ic_cho_ps hc
    obtain ⟨j1, j2, j3, j4⟩ := h
    dsimp only
    unfold ic_wr1
    by_cases e : p 3 s / 8 = 3
    · rw [if_pos e]
      exact ⟨ic_fin_J1 (p := p) (s := s) j1 h1, ic_fin_J2 j2 hs h1, ic_fin_J3 (p := p) (s := s) j3 h1, ic_22_J4 (p := ic_fin p s) j4 (by omega)⟩
    · rw [if_neg e]
      exact ⟨ic_fin_J1 (p := ic_sto p s) (s := s) j1 h1, ic_fin_J2 (p := ic_sto p s) j2 hs h1, ic_fin_J3 (p := ic_sto p s) (s := s) j3 h1, ic_22_J4 (p := ic_fin (ic_sto p s) s) j4 (by omega)⟩
theorem ic_rd_J1 {p : Nat → Nat → Nat} {c s : Nat} (h : ic_J1 p) (h1 : p 0 s = 1) (h2 : p 1 s % 2 = 0) : ic_J1 (ic_rd1 p c s) := by
  intro t ht
  have h3 := h t ht
  unfold ic_rd1
  by_cases n : p 5 s + 1 = p 4 s
  · rw [if_pos n]
    by_cases e : t = s
    · subst e
      show ic_L (p 25 3) (p 25 2) t (ic_u (p 0) t (if p 3 t / 8 = 3 then 3 else 2) t) (p 1 t) (p 2 t) (p 3 t) (p 4 t) (ic_u (p 5) t (p 5 t + 1) t) (p 6 t) (p 7 t)
      rw [ic_us, ic_us]
      unfold ic_L at h3 ⊢
      split <;> omega
    · show ic_L (p 25 3) (p 25 2) t (ic_u (p 0) s (if p 3 s / 8 = 3 then 3 else 2) t) (p 1 t) (p 2 t) (p 3 t) (p 4 t) (ic_u (p 5) s (p 5 s + 1) t) (p 6 t) (p 7 t)
      rw [ic_un e, ic_un e]
      exact h3
  · rw [if_neg n]
    by_cases e : t = s
    · subst e
      show ic_L (p 25 3) (p 25 2) t (p 0 t) (p 1 t) (p 2 t) (p 3 t) (p 4 t) (ic_u (p 5) t (p 5 t + 1) t) (p 6 t) (p 7 t)
      rw [ic_us]
      unfold ic_L at h3 ⊢
      omega
    · show ic_L (p 25 3) (p 25 2) t (p 0 t) (p 1 t) (p 2 t) (p 3 t) (p 4 t) (ic_u (p 5) s (p 5 s + 1) t) (p 6 t) (p 7 t)
      rw [ic_un e]
      exact h3
theorem ic_rd_Inv {p : Nat → Nat → Nat} {c : Nat} (h : ic_Inv p) (h0 : c % 2 = 0) : ic_Inv (ic_rd p c) := by
  unfold ic_rd
  cases hc : ic_cho p c with
  | none => exact h
  | some s =>
    obtain ⟨hs, he, h1, _, _⟩ := ic_cho_ps hc
    obtain ⟨j1, j2, j3, j4⟩ := h
    refine ⟨ic_rd_J1 j1 h1 (by omega), ?_⟩
    dsimp only
    unfold ic_rd1
    by_cases n : p 5 s + 1 = p 4 s
    · rw [if_pos n]
      exact ⟨ic_fin_J2 (p := ic_bt p s) j2 hs h1, ic_fin_J3 (p := ic_bt p s) (s := s) j3 h1, ic_22_J4 (p := ic_fin (ic_bt p s) s) j4 (by omega)⟩
    · rw [if_neg n]
      exact ⟨j2, j3, ic_22_J4 (p := ic_bt p s) j4 (by omega)⟩
theorem ic_mv_J1 {p : Nat → Nat → Nat} {m s : Nat} (h : ic_J1 p) (h1 : p 0 s = 1) (h2 : p 1 s % 2 = 1) (h5 : p 5 s < p 4 s) : ic_J1 (ic_mv1 p m s) := by
  intro t ht
  have h3 := h t ht
  unfold ic_mv1
  by_cases n : p 5 s + 1 = p 4 s
  · rw [if_pos n]
    by_cases e : t = s
    · subst e
      show ic_L (p 25 3) (p 25 2) t (p 0 t) (p 1 t) (p 2 t) (p 3 t) (p 4 t) (ic_u (p 5) t (p 5 t + 1) t) (p 6 t) (ic_u (p 7) t (p 25 2 + p 6 t) t)
      rw [ic_us, ic_us]
      unfold ic_L at h3 ⊢
      omega
    · show ic_L (p 25 3) (p 25 2) t (p 0 t) (p 1 t) (p 2 t) (p 3 t) (p 4 t) (ic_u (p 5) s (p 5 s + 1) t) (p 6 t) (ic_u (p 7) s (p 25 2 + p 6 s) t)
      rw [ic_un e, ic_un e]
      exact h3
  · rw [if_neg n]
    by_cases e : t = s
    · subst e
      show ic_L (p 25 3) (p 25 2) t (p 0 t) (p 1 t) (p 2 t) (p 3 t) (p 4 t) (ic_u (p 5) t (p 5 t + 1) t) (p 6 t) (p 7 t)
      rw [ic_us]
      unfold ic_L at h3 ⊢
      omega
    · show ic_L (p 25 3) (p 25 2) t (p 0 t) (p 1 t) (p 2 t) (p 3 t) (p 4 t) (ic_u (p 5) s (p 5 s + 1) t) (p 6 t) (p 7 t)
      rw [ic_un e]
      exact h3
theorem ic_mv0_J4 {p : Nat → Nat → Nat} {m s : Nat} (h : ic_J4 p) : ic_J4 (ic_mv0 p m s) := by
  obtain ⟨a1, a2⟩ := h
  refine ⟨fun d hd => ?_, a2⟩
  show ic_u (p 15) m ((p 15 m + 1) % 8) d < 8 ∧ ic_u (p 16) m (p 16 m - 1) d ≤ 8
  have h := a1 d hd
  by_cases e : d = m
  · subst e; rw [ic_us, ic_us]; omega
  · rw [ic_un e, ic_un e]; exact h
theorem ic_mv_Inv {p : Nat → Nat → Nat} {m : Nat} (h : ic_Inv p) : ic_Inv (ic_mv p m) := by
  unfold ic_mv
  cases hc : ic_unf p m with
  | none => exact h
  | some s =>
    obtain ⟨hs, he, h5⟩ := ic_unf_ps hc
    dsimp only
    by_cases g : p 0 s = 1 ∧ p 16 m ≠ 0
    · rw [if_pos g]
      obtain ⟨j1, j2, j3, j4⟩ := h
      refine ⟨ic_mv_J1 j1 g.1 (by omega) h5, ?_⟩
      unfold ic_mv1
      by_cases n : p 5 s + 1 = p 4 s
      · rw [if_pos n]
        exact ⟨j2, j3, ic_mv0_J4 (p := p) (m := m) (s := s) j4⟩
      · rw [if_neg n]
        exact ⟨j2, j3, ic_mv0_J4 (p := p) (m := m) (s := s) j4⟩
    · rw [if_neg g]
      exact h
/-- the head of a ring that isn't empty -/
theorem ic_hd_ps {p : Nat → Nat → Nat} {c : Nat} (h : ic_J3 p) (hc : c < 4) (hn : p 13 c ≠ 0) : ic_hd p c < 32 ∧ p 0 (ic_hd p c) = 0 ∧ p 1 (ic_hd p c) = c ∧ p 12 c < 4 := by
  obtain ⟨K, h4, _, _, he, _, _⟩ := h c hc
  obtain ⟨h0, _, _, h3, h5⟩ := he 0 (by omega)
  rw [Nat.add_zero, Nat.mod_eq_of_lt h4] at h0
  unfold ic_hd
  rw [h0]
  exact ⟨by omega, h3, h5, h4⟩
theorem ic_can_ps {p : Nat → Nat → Nat} {m s k : Nat} (h : ic_can p m s k = true) : p 13 (m * 2 + k) ≠ 0 ∧ p 3 (ic_hd p (m * 2 + k)) / 8 = s ∧ p 20 m < p 25 0 ∧ p 21 s < p 25 1 ∧ ic_els p (ic_hd p (m * 2 + k)) = none := of_decide_eq_true h
theorem ic_win_le {p : Nat → Nat → Nat} {s k : Nat} (h : ic_J4 p) (hs : s < 4) (hk : k < 2) : ic_win p s k < 2 := by
  have := h.2.2.2.2.1 (s * 2 + k) (by omega)
  unfold ic_win
  split <;> omega
theorem ic_lat_le {p : Nat → Nat → Nat} {s : Nat} (h : ic_J4 p) (hs : s < 4) : ic_lat p s ≤ 15 := by
  have h1 := h.2.2.1 s hs
  unfold ic_lat
  split
  · omega
  · exact h.2.1 _ (by omega)
theorem ic_tl_o {p : Nat → Nat → Nat} {s f : Nat} (hf : f ≠ 19) : ic_tl p s f = p f := by
  unfold ic_tl
  split
  · rfl
  · exact if_neg hf
theorem ic_ar1_f {p : Nat → Nat → Nat} {s k w : Nat} :
    ic_ar1 p s k w 0 = ic_u (p 0) (ic_hd p (w * 2 + k)) 1 ∧ ic_ar1 p s k w 1 = p 1 ∧ ic_ar1 p s k w 2 = p 2 ∧ ic_ar1 p s k w 3 = p 3 ∧ ic_ar1 p s k w 4 = p 4 ∧ ic_ar1 p s k w 5 = p 5 ∧
    ic_ar1 p s k w 6 = ic_u (p 6) (ic_hd p (w * 2 + k)) (ic_lat p s) ∧ ic_ar1 p s k w 7 = ic_u (p 7) (ic_hd p (w * 2 + k)) (p 25 2 + ic_lat p s) ∧ ic_ar1 p s k w 25 = p 25 ∧
    ic_ar1 p s k w 11 = p 11 ∧ ic_ar1 p s k w 12 = ic_u (p 12) (w * 2 + k) ((p 12 (w * 2 + k) + 1) % 4) ∧ ic_ar1 p s k w 13 = ic_u (p 13) (w * 2 + k) (p 13 (w * 2 + k) - 1) ∧
    ic_ar1 p s k w 20 = ic_u (p 20) (p 1 (ic_hd p (w * 2 + k)) / 2) (p 20 (p 1 (ic_hd p (w * 2 + k)) / 2) + 1) ∧ ic_ar1 p s k w 21 = ic_u (p 21) s (p 21 s + 1) ∧
    ic_ar1 p s k w 24 = ic_u (p 24) (s * 2 + k) (1 - w) ∧ ic_ar1 p s k w 19 = (if s = 3 then p 19 else ic_u (p 19) s ((p 19 s + 1) % 4)) := by
  unfold ic_ar1 ic_acc ic_tl
  by_cases e : s = 3
  · rw [if_pos e, if_pos e]; exact ⟨rfl, rfl, rfl, rfl, rfl, rfl, rfl, rfl, rfl, rfl, rfl, rfl, rfl, rfl, rfl, rfl⟩
  · rw [if_neg e, if_neg e]; exact ⟨rfl, rfl, rfl, rfl, rfl, rfl, rfl, rfl, rfl, rfl, rfl, rfl, rfl, rfl, rfl, rfl⟩
theorem ic_ar1_g {p : Nat → Nat → Nat} {s k w : Nat} :
    ic_ar1 p s k w 15 = p 15 ∧ ic_ar1 p s k w 16 = p 16 ∧ ic_ar1 p s k w 18 = p 18 ∧ ic_ar1 p s k w 22 = p 22 ∧ ic_ar1 p s k w 23 = p 23 ∧
    ic_ar1 p s k w 8 = p 8 ∧ ic_ar1 p s k w 9 = p 9 ∧ ic_ar1 p s k w 10 = p 10 ∧ ic_ar1 p s k w 14 = p 14 ∧ ic_ar1 p s k w 17 = p 17 := by
  unfold ic_ar1 ic_acc ic_tl
  by_cases e : s = 3
  · rw [if_pos e]; exact ⟨rfl, rfl, rfl, rfl, rfl, rfl, rfl, rfl, rfl, rfl⟩
  · rw [if_neg e]; exact ⟨rfl, rfl, rfl, rfl, rfl, rfl, rfl, rfl, rfl, rfl⟩
theorem ic_ar1_Inv {p : Nat → Nat → Nat} {s k w : Nat} (h : ic_Inv p) (hs : s < 4) (hk : k < 2) (hw : w < 2) (c : ic_can p w s k = true) : ic_Inv (ic_ar1 p s k w) := by
  obtain ⟨j1, j2, j3, j4⟩ := h
  obtain ⟨c1, c2, c3, c4, c5⟩ := ic_can_ps c
  obtain ⟨g1, g2, g3, g4⟩ := ic_hd_ps j3 (c := w * 2 + k) (by omega) c1
  have hl := ic_lat_le j4 hs
  obtain ⟨f0, f1, f2, f3, f4, f5, f6, f7, f25, f11, f12, f13, f20, f21, f24, f19⟩ := @ic_ar1_f p s k w
  obtain ⟨f15, f16, f18, f22, f23, _⟩ := @ic_ar1_g p s k w
  refine ⟨fun t ht => ?_, ⟨fun m hm => ?_, fun q hq => ?_⟩, fun d hd => ?_, ?_⟩
  · have h3 := j1 t ht
    rw [f0, f1, f2, f3, f4, f5, f6, f7, f25]
    by_cases e : t = ic_hd p (w * 2 + k)
    · rw [← e] at g2 ⊢
      rw [ic_us, ic_us, ic_us]
      unfold ic_L at h3 ⊢
      omega
    · rw [ic_un e, ic_un e, ic_un e]
      exact h3
  · rw [f20, f0, f1, ic_am_up g1 (by omega) m]
    by_cases e : m = p 1 (ic_hd p (w * 2 + k)) / 2
    · rw [if_pos e, e, ic_us, ← e, j2.1 m hm]
    · rw [if_neg e, ic_un e, j2.1 m hm]
  · rw [f21, f0, f3, ic_as_up g1 (by omega) q, c2]
    by_cases e : q = s
    · rw [if_pos e, e, ic_us, ← e, j2.2 q hq]
    · rw [if_neg e, ic_un e, j2.2 q hq]
  · obtain ⟨K, hK⟩ := j3 d hd
    rw [f25, f0, f1, f11, f12, f13]
    by_cases e : d = w * 2 + k
    · subst e
      rw [ic_us, ic_us]
      exact ⟨_, ic_Q1_dq hK (by omega)⟩
    · rw [ic_un e, ic_un e]
      exact ⟨K, ic_Q1_dq' hK (by rw [g3]; exact fun z => e z.symm)⟩
  · obtain ⟨a1, a2, a3, a4, a5, a6⟩ := j4
    unfold ic_J4
    rw [f15, f16, f18, f19, f22, f23, f24, f25]
    refine ⟨a1, a2, fun t ht => ?_, a4, fun j hj => ?_, a6⟩
    · by_cases e : s = 3
      · rw [if_pos e]; exact a3 t ht
      · rw [if_neg e]
        by_cases e2 : t = s
        · subst e2; rw [ic_us]; omega
        · rw [ic_un e2]; exact a3 t ht
    · by_cases e : j = s * 2 + k
      · subst e; rw [ic_us]; omega
      · rw [ic_un e]; exact a5 j hj
theorem ic_ar_Inv {p : Nat → Nat → Nat} {s k : Nat} (h : ic_Inv p) (hs : s < 4) (hk : k < 2) : ic_Inv (ic_ar p s k) := by
  unfold ic_ar
  by_cases c : ic_can p (ic_win p s k) s k = true
  · rw [if_pos c]; exact ic_ar1_Inv h hs hk (ic_win_le h.2.2.2 hs hk) c
  · rw [if_neg c]; exact h
theorem ic_c1_Inv {p : Nat → Nat → Nat} (h : ic_Inv p) : ic_Inv (ic_pu p 25 2 (p 25 2 + 1)) := by
  obtain ⟨j1, j2, j3, j4⟩ := h
  refine ⟨fun t ht => ?_, j2, j3, j4⟩
  have h1 := j1 t ht
  show ic_L (p 25 3) (p 25 2 + 1) t (p 0 t) (p 1 t) (p 2 t) (p 3 t) (p 4 t) (p 5 t) (p 6 t) (p 7 t)
  unfold ic_L at h1 ⊢
  omega
theorem ic_cyc_Inv {p : Nat → Nat → Nat} (h : ic_Inv p) : ic_Inv (ic_cyc p) := by
  have h0 := ic_c1_Inv h
  have h1 := ic_wr_Inv (c := 3) (ic_wr_Inv (c := 1) h0)
  have h2 := ic_rd_Inv (c := 2) (ic_rd_Inv (c := 0) h1 (by decide)) (by decide)
  have h3 := ic_mv_Inv (m := 1) (ic_mv_Inv (m := 0) h2)
  have h4 := ic_ar_Inv (s := 0) (k := 0) (ic_ar_Inv (s := 0) (k := 1) h3 (by decide) (by decide)) (by decide) (by decide)
  have h5 := ic_ar_Inv (s := 1) (k := 0) (ic_ar_Inv (s := 1) (k := 1) h4 (by decide) (by decide)) (by decide) (by decide)
  have h6 := ic_ar_Inv (s := 2) (k := 0) (ic_ar_Inv (s := 2) (k := 1) h5 (by decide) (by decide)) (by decide) (by decide)
  exact ic_ar_Inv (s := 3) (k := 0) (ic_ar_Inv (s := 3) (k := 1) h6 (by decide) (by decide)) (by decide) (by decide)
theorem ic_iss_Inv {p : Nat → Nat → Nat} {c i a l : Nat} (h : ic_Inv p) (hc : c < 4) (hi : i < 4) (ha : a < 32) (hl : 1 ≤ l) (hl4 : l ≤ 4) (hal : a % 8 + l ≤ 8) (hq : p 13 c ≠ 4) (hS : 2 ≤ p 0 (p 25 3 % 32)) : ic_Inv (ic_iss p c i a l) := by
  obtain ⟨j1, j2, j3, j4⟩ := h
  refine ⟨fun t ht => ?_, ⟨fun m hm => ?_, fun q hq => ?_⟩, fun d hd => ?_, j4⟩
  · have h1 := j1 t ht
    show ic_L (p 25 3 + 1) (p 25 2) t (ic_u (p 0) (p 25 3 % 32) 0 t) (ic_u (p 1) (p 25 3 % 32) c t) (ic_u (p 2) (p 25 3 % 32) i t) (ic_u (p 3) (p 25 3 % 32) a t) (ic_u (p 4) (p 25 3 % 32) l t) (ic_u (p 5) (p 25 3 % 32) 0 t) (p 6 t) (p 7 t)
    by_cases e : t = p 25 3 % 32
    · rw [e, ic_us, ic_us, ic_us, ic_us, ic_us, ic_us]
      unfold ic_L
      omega
    · rw [ic_un e, ic_un e, ic_un e, ic_un e, ic_un e, ic_un e]
      unfold ic_L at h1 ⊢
      omega
  · show p 20 m = ic_am (ic_u (p 0) (p 25 3 % 32) 0) (ic_u (p 1) (p 25 3 % 32) c) m
    rw [ic_am_is (by omega)]
    exact j2.1 m hm
  · show p 21 q = ic_as (ic_u (p 0) (p 25 3 % 32) 0) (ic_u (p 3) (p 25 3 % 32) a) q
    rw [ic_as_is (by omega)]
    exact j2.2 q hq
  · obtain ⟨K, hK⟩ := j3 d hd
    show ∃ K, ic_Q1 (p 25 3 + 1) (ic_u (p 0) (p 25 3 % 32) 0) (ic_u (p 1) (p 25 3 % 32) c) (ic_u (p 11) (c * 4 + (p 12 c + p 13 c) % 4) (p 25 3 % 32)) d (p 12 d) (ic_u (p 13) c (p 13 c + 1) d) K
    by_cases e : d = c
    · subst e
      rw [ic_us]
      have h4 := hK.2.1
      exact ⟨_, ic_Q1_en hK (by omega) hS⟩
    · rw [ic_un e]
      exact ⟨K, ic_Q1_en' hK (fun z => e z.symm) hS (by omega) (by omega)⟩
theorem ic_wd_Inv {p : Nat → Nat → Nat} {m x : Nat} (h : ic_Inv p) (hm : p 16 m ≠ 8) : ic_Inv (ic_wd p m x) := by
  obtain ⟨j1, j2, j3, a1, a2⟩ := h
  refine ⟨j1, j2, j3, fun d hd => ?_, a2⟩
  have h := a1 d hd
  show p 15 d < 8 ∧ ic_u (p 16) m (p 16 m + 1) d ≤ 8
  by_cases e : d = m
  · subst e; rw [ic_us]; omega
  · rw [ic_un e]; exact h
theorem ic_sl_Inv {p : Nat → Nat → Nat} {j x : Nat} (h : ic_Inv p) (hx : x ≤ 15) : ic_Inv (ic_pu p 18 j x) := by
  obtain ⟨j1, j2, j3, a1, a2, a3⟩ := h
  refine ⟨j1, j2, j3, a1, fun d hd => ?_, a3⟩
  show ic_u (p 18) j x d ≤ 15
  by_cases e : d = j
  · subst e; rw [ic_us]; exact hx
  · rw [ic_un e]; exact a2 d hd
theorem ic_sr_Inv {p : Nat → Nat → Nat} {j x : Nat} (h : ic_Inv p) (hx : x ≤ 1) : ic_Inv (ic_pu p 23 j x) := by
  obtain ⟨j1, j2, j3, a1, a2, a3, a4, a5⟩ := h
  refine ⟨j1, j2, j3, a1, a2, a3, fun d hd => ?_, a5⟩
  show p 22 d < 4 ∧ ic_u (p 23) j x d ≤ 1
  by_cases e : d = j
  · subst e; rw [ic_us]; exact ⟨(a4 d hd).1, hx⟩
  · rw [ic_un e]; exact a4 d hd
/-- the beginning -/
def ic_p0 (l c : Nat) : Nat → Nat → Nat := fun f j =>
  if f = 0 then (if j < 32 then 4 else 0) else if f = 18 then (if j < 12 then 1 else 0) else if f = 23 then (if j < 4 then 1 else 0) else if f = 25 then (if j = 0 then l else if j = 1 then c else 0) else 0
theorem ic_p0_Inv {l c : Nat} (hl : l ≤ 8) (hc : c ≤ 4) : ic_Inv (ic_p0 l c) := by
  have e0 : ∀ s, s < 32 → ic_p0 l c 0 s = 4 := fun s hs => if_pos hs
  have z : ∀ P : Nat → Bool, (∀ s, s < 32 → ¬ P s = true) → ic_cn P 32 = 0 := by
    intro P hP
    have key : ∀ n, n ≤ 32 → ic_cn P n = 0 := by
      intro n
      induction n with
      | zero => intro _; rfl
      | succ n ih => intro hn; rw [ic_cn_f (hP n (by omega))]; exact ih (by omega)
    exact key 32 (Nat.le_refl 32)
  refine ⟨fun s hs => ?_, ⟨fun m _ => ?_, fun q _ => ?_⟩, fun d hd => ⟨fun _ => 0, ?_⟩, ?_⟩
  · show ic_L 0 0 s (ic_p0 l c 0 s) 0 0 0 0 0 0 0
    rw [e0 s hs]
    unfold ic_L
    omega
  · show 0 = ic_am (ic_p0 l c 0) (ic_p0 l c 1) m
    exact (z _ (fun s hs h => by have h2 := (of_decide_eq_true h).1; rw [e0 s hs] at h2; omega)).symm
  · show 0 = ic_as (ic_p0 l c 0) (ic_p0 l c 3) q
    exact (z _ (fun s hs h => by have h2 := (of_decide_eq_true h).1; rw [e0 s hs] at h2; omega)).symm
  · show ic_Q1 0 (ic_p0 l c 0) (ic_p0 l c 1) (ic_p0 l c 11) d 0 0 (fun _ => 0)
    refine ⟨by omega, by omega, ?_, fun i hi => by omega, fun i j _ hj => by omega, fun t ht => by omega⟩
    exact (z _ (fun s hs h => by have h2 := (of_decide_eq_true h).1; rw [e0 s hs] at h2; omega)).symm
  · refine ⟨fun m _ => ?_, fun j hj => ?_, fun s _ => ?_, fun d hd => ?_, fun j _ => ?_, hl, hc⟩
    · show 0 < 8 ∧ 0 ≤ 8
      omega
    · show (if j < 12 then 1 else 0) ≤ 15
      split <;> omega
    · show 0 < 4
      omega
    · show 0 < 4 ∧ (if d < 4 then 1 else 0) ≤ 1
      rw [if_pos hd]
      omega
    · show 0 ≤ 1
      omega
end
section
/-! the reference's tables against the picture. q: 0 kind, 1 mgr, 2 idv, 3 adr, 4 ln, 5 st, 6 lat, 7 rdy, 8 cnt, 9 dOrd, 10 dCyc, 11 dat, 12 mem, 13 wq, 14 wn, 15 script, 16 kAcc, 17 bPtr, 18 rPtr, 19 prio, 20 bRdy, 21 rRdy, 22: limit, cap, cyc, total, doneCount -/
def ic_M (S H I A N B G R D K kd mg id ad ln st la rd cn od cy : Nat) : Prop :=
  (kd = 1 - H % 2 ∧ mg = H / 2 ∧ id = I ∧ ad = A ∧ ln = N) ∧ (st = S ∧ cn = B) ∧ (S = 1 → la = G ∧ (H % 2 = 0 ∨ B = N → rd = R)) ∧ (2 ≤ S → od = D ∧ cy = K)
def ic_K1 (p q : Nat → Nat → Nat) : Prop := ∀ s, s < 32 → s < p 25 3 →
  ic_M (p 0 s) (p 1 s) (p 2 s) (p 3 s) (p 4 s) (p 5 s) (p 6 s) (p 7 s) (p 8 s) (p 9 s) (q 0 s) (q 1 s) (q 2 s) (q 3 s) (q 4 s) (q 5 s) (q 6 s) (q 7 s) (q 8 s) (q 9 s) (q 10 s)
def ic_K2 (p q : Nat → Nat → Nat) : Prop := ∀ s, s < 32 → s < p 25 3 → ∀ i, i < p 5 s → q 11 (s * 4 + i) = p 10 (s * 4 + i)
def ic_K3 (p q : Nat → Nat → Nat) : Prop := ∀ m, m < 2 → q 14 m = p 16 m ∧ ∀ i, i < p 16 m → q 13 (m * 8 + i) = p 14 (m * 8 + (p 15 m + i) % 8)
def ic_K4 (p q : Nat → Nat → Nat) : Prop := q 12 = p 17 ∧ q 15 = p 18 ∧ (∀ s, s < 3 → q 16 s % 4 = p 19 s)
def ic_K5 (p q : Nat → Nat → Nat) : Prop := ∀ m, m < 2 → q 17 m = p 22 (m * 2 + 1) ∧ q 18 m = p 22 (m * 2) ∧ q 20 m = p 23 (m * 2 + 1) ∧ q 21 m = p 23 (m * 2)
def ic_K6 (p q : Nat → Nat → Nat) : Prop := ∀ s, s < 4 → q 19 (s * 2) = p 24 (s * 2 + 1) ∧ q 19 (s * 2 + 1) = p 24 (s * 2)
def ic_K7 (p q : Nat → Nat → Nat) : Prop := ∀ j, j < 5 → q 22 j = p 25 j
def ic_Lnk (p q : Nat → Nat → Nat) : Prop := ic_K1 p q ∧ ic_K2 p q ∧ ic_K3 p q ∧ ic_K4 p q ∧ ic_K5 p q ∧ ic_K6 p q ∧ ic_K7 p q
/-- a finished one -/
def ic_qf (q : Nat → Nat → Nat) (s : Nat) : Nat → Nat → Nat :=
  ic_pu (ic_pu (ic_pu (ic_pu q 5 s (if q 3 s / 8 = 3 then 3 else 2)) 9 s (q 22 4)) 22 4 (q 22 4 + 1)) 10 s (q 22 2)
theorem ic_qf_7 {p q : Nat → Nat → Nat} {s : Nat} (h : ic_K7 p q) : ic_K7 (ic_fin p s) (ic_qf q s) := by
  intro j hj
  show ic_u (q 22) 4 (q 22 4 + 1) j = ic_u (p 25) 4 (p 25 4 + 1) j
  by_cases e : j = 4
  · subst e; rw [ic_us, ic_us, h 4 hj]
  · rw [ic_un e, ic_un e]; exact h j hj
theorem ic_stw_eq {W V V' : Nat → Nat} {a b : Nat} : ∀ n, (∀ i, i < n → V' (b + i) = V (b + i)) → ic_stw W V' a b n = ic_stw W V a b n := by
  intro n
  induction n with
  | zero => intro _; rfl
  | succ n ih =>
    intro h
    show ic_u (ic_stw W V' a b n) (a + n) (V' (b + n)) = ic_u (ic_stw W V a b n) (a + n) (V (b + n))
    rw [ih (fun i hi => h i (by omega)), h n (by omega)]
/-- one pointer moves -/
theorem ic_K5_w {p q : Nat → Nat → Nat} {m x : Nat} (h : ic_K5 p q) : ic_K5 (ic_pu p 22 (m * 2 + 1) x) (ic_pu q 17 m x) := by
  intro t ht
  have h1 := h t ht
  show ic_u (q 17) m x t = ic_u (p 22) (m * 2 + 1) x (t * 2 + 1) ∧ q 18 t = ic_u (p 22) (m * 2 + 1) x (t * 2) ∧ q 20 t = p 23 (t * 2 + 1) ∧ q 21 t = p 23 (t * 2)
  rw [ic_un (j := t * 2) (by omega)]
  by_cases e : t = m
  · subst e; rw [ic_us, ic_us]; exact ⟨rfl, h1.2⟩
  · rw [ic_un e, ic_un (by omega)]; exact h1
theorem ic_K5_r {p q : Nat → Nat → Nat} {m x : Nat} (h : ic_K5 p q) : ic_K5 (ic_pu p 22 (m * 2) x) (ic_pu q 18 m x) := by
  intro t ht
  have h1 := h t ht
  show q 17 t = ic_u (p 22) (m * 2) x (t * 2 + 1) ∧ ic_u (q 18) m x t = ic_u (p 22) (m * 2) x (t * 2) ∧ q 20 t = p 23 (t * 2 + 1) ∧ q 21 t = p 23 (t * 2)
  rw [ic_un (j := t * 2 + 1) (by omega)]
  by_cases e : t = m
  · subst e; rw [ic_us, ic_us]; exact ⟨h1.1, rfl, h1.2.2⟩
  · rw [ic_un e, ic_un (by omega)]; exact h1
/-- a write's answer -/
def ic_qw (q : Nat → Nat → Nat) (m s i : Nat) : Nat → Nat → Nat :=
  ic_pu (if q 3 s / 8 = 3 then ic_qf q s else ic_pf (ic_qf q s) 12 (ic_stw (q 12) (q 11) (q 3 s) (s * 4) (q 4 s))) 17 m ((i + 1) % 4)
theorem ic_K1_fin {p q : Nat → Nat → Nat} {s : Nat} (h : ic_K1 p q) (k7 : ic_K7 p q) (hs : s < 32) (hT : s < p 25 3) : ic_K1 (ic_fin p s) (ic_qf q s) := by
  intro t ht hT2
  have h1 := h t ht hT2
  have e3 : q 3 s = p 3 s := (h s hs hT).1.2.2.2.1
  by_cases e : t = s
  · subst e
    show ic_M (ic_u (p 0) t (if p 3 t / 8 = 3 then 3 else 2) t) (p 1 t) (p 2 t) (p 3 t) (p 4 t) (p 5 t) (p 6 t) (p 7 t) (ic_u (p 8) t (p 25 4) t) (ic_u (p 9) t (p 25 2) t) (q 0 t) (q 1 t) (q 2 t) (q 3 t) (q 4 t) (ic_u (q 5) t (if q 3 t / 8 = 3 then 3 else 2) t) (q 6 t) (q 7 t) (q 8 t) (ic_u (q 9) t (q 22 4) t) (ic_u (q 10) t (q 22 2) t)
    rw [ic_us, ic_us, ic_us, ic_us, ic_us, ic_us, k7 4 (by decide), k7 2 (by decide), e3]
    obtain ⟨a1, a2, _, _⟩ := h1
    refine ⟨⟨a1.1, a1.2.1, a1.2.2.1, rfl, a1.2.2.2.2⟩, ⟨rfl, a2.2⟩, fun z => ?_, fun _ => ⟨rfl, rfl⟩⟩
    exfalso
    revert z
    split <;> omega
  · show ic_M (ic_u (p 0) s (if p 3 s / 8 = 3 then 3 else 2) t) (p 1 t) (p 2 t) (p 3 t) (p 4 t) (p 5 t) (p 6 t) (p 7 t) (ic_u (p 8) s (p 25 4) t) (ic_u (p 9) s (p 25 2) t) (q 0 t) (q 1 t) (q 2 t) (q 3 t) (q 4 t) (ic_u (q 5) s (if q 3 s / 8 = 3 then 3 else 2) t) (q 6 t) (q 7 t) (q 8 t) (ic_u (q 9) s (q 22 4) t) (ic_u (q 10) s (q 22 2) t)
    rw [ic_un e, ic_un e, ic_un e, ic_un e, ic_un e, ic_un e]
    exact h1
theorem ic_Lnk_wr {p q : Nat → Nat → Nat} {m s : Nat} (h : ic_Lnk p q) (hs : s < 32) (hT : s < p 25 3) (hB : p 5 s = p 4 s) : ic_Lnk (ic_wr1 p (m * 2 + 1) s) (ic_qw q m s (p 2 s)) := by
  obtain ⟨k1, k2, k3, ⟨a1, a2, a3⟩, k5, k6, k7⟩ := h
  have h1 := k1 s hs hT
  have e3 : q 3 s = p 3 s := h1.1.2.2.2.1
  have e4 : q 4 s = p 4 s := h1.1.2.2.2.2
  unfold ic_wr1 ic_qw
  by_cases e : p 3 s / 8 = 3
  · rw [if_pos e, if_pos (by rw [e3]; exact e)]
    exact ⟨ic_K1_fin k1 k7 hs hT, k2, k3, ⟨a1, a2, a3⟩, ic_K5_w (p := ic_fin p s) (q := ic_qf q s) k5, k6, ic_qf_7 (p := p) (q := q) (s := s) k7⟩
  · rw [if_neg e, if_neg (by rw [e3]; exact e)]
    refine ⟨ic_K1_fin (p := ic_sto p s) (q := q) k1 k7 hs hT, k2, k3, ⟨?_, a2, a3⟩, ic_K5_w (p := ic_fin (ic_sto p s) s) (q := ic_pf (ic_qf q s) 12 (ic_stw (q 12) (q 11) (q 3 s) (s * 4) (q 4 s))) k5, k6, ic_qf_7 (p := ic_sto p s) (q := q) (s := s) k7⟩
    show ic_stw (q 12) (q 11) (q 3 s) (s * 4) (q 4 s) = ic_stw (p 17) (p 10) (p 3 s) (s * 4) (p 4 s)
    rw [a1, e3, e4]
    exact ic_stw_eq _ (fun i hi => k2 s hs hT i (by omega))
/-- a read's beat -/
def ic_qb (q : Nat → Nat → Nat) (s x : Nat) : Nat → Nat → Nat := ic_pu (ic_pu q 11 (s * 4 + q 8 s) x) 8 s (q 8 s + 1)
def ic_qr (q : Nat → Nat → Nat) (m s i x : Nat) : Nat → Nat → Nat := ic_pu (if q 8 s + 1 = q 4 s then ic_qf (ic_qb q s x) s else ic_qb q s x) 18 m ((i + 1) % 4)
theorem ic_K1_bt {p q : Nat → Nat → Nat} {s x : Nat} (h : ic_K1 p q) (h2 : p 1 s % 2 = 0) : ic_K1 (ic_bt p s) (ic_qb q s x) := by
  intro t ht hT2
  have h1 := h t ht hT2
  by_cases e : t = s
  · subst e
    show ic_M (p 0 t) (p 1 t) (p 2 t) (p 3 t) (p 4 t) (ic_u (p 5) t (p 5 t + 1) t) (p 6 t) (p 7 t) (p 8 t) (p 9 t) (q 0 t) (q 1 t) (q 2 t) (q 3 t) (q 4 t) (q 5 t) (q 6 t) (q 7 t) (ic_u (q 8) t (q 8 t + 1) t) (q 9 t) (q 10 t)
    rw [ic_us, ic_us]
    obtain ⟨b1, b2, b3, b4⟩ := h1
    exact ⟨b1, ⟨b2.1, by rw [b2.2]⟩, fun z => ⟨(b3 z).1, fun _ => (b3 z).2 (Or.inl h2)⟩, b4⟩
  · show ic_M (p 0 t) (p 1 t) (p 2 t) (p 3 t) (p 4 t) (ic_u (p 5) s (p 5 s + 1) t) (p 6 t) (p 7 t) (p 8 t) (p 9 t) (q 0 t) (q 1 t) (q 2 t) (q 3 t) (q 4 t) (q 5 t) (q 6 t) (q 7 t) (ic_u (q 8) s (q 8 s + 1) t) (q 9 t) (q 10 t)
    rw [ic_un e, ic_un e]
    exact h1
/-- a value more in one slot -/
theorem ic_K2_bt {p q p' q' : Nat → Nat → Nat} {s x : Nat} (h : ic_K2 p q) (j1 : ic_J1 p) (hs : s < 32) (hB : p 5 s < 4) (e5 : p' 5 = ic_u (p 5) s (p 5 s + 1)) (e10 : p' 10 = ic_u (p 10) (s * 4 + p 5 s) x) (e11 : q' 11 = ic_u (q 11) (s * 4 + p 5 s) x) (e25 : p' 25 3 = p 25 3) : ic_K2 p' q' := by
  intro t ht hT i hi
  rw [e25] at hT
  rw [e5] at hi
  rw [e10, e11]
  by_cases e : t = s
  · subst e
    rw [ic_us] at hi
    by_cases ei : i = p 5 t
    · subst ei; rw [ic_us, ic_us]
    · rw [ic_un (by omega), ic_un (by omega)]
      exact h t ht hT i (by omega)
  · rw [ic_un e] at hi
    have h1 := j1 t ht
    unfold ic_L at h1
    rw [ic_un (by omega), ic_un (by omega)]
    exact h t ht hT i hi
theorem ic_Lnk_rd {p q : Nat → Nat → Nat} {m s : Nat} (h : ic_Lnk p q) (j1 : ic_J1 p) (hs : s < 32) (hT : s < p 25 3) (h1 : p 0 s = 1) (h2 : p 1 s % 2 = 0) : ic_Lnk (ic_rd1 p (m * 2) s) (ic_qr q m s (p 2 s) (if p 3 s / 8 = 3 then 0 else p 17 (p 3 s + p 5 s))) := by
  obtain ⟨k1, k2, k3, k4, k5, k6, k7⟩ := h
  have h3 := k1 s hs hT
  have e4 : q 4 s = p 4 s := h3.1.2.2.2.2
  have e8 : q 8 s = p 5 s := h3.2.1.2
  have hL := j1 s hs
  unfold ic_L at hL
  have n2 : ic_K2 (ic_bt p s) (ic_qb q s (if p 3 s / 8 = 3 then 0 else p 17 (p 3 s + p 5 s))) := by
    refine ic_K2_bt (s := s) (x := if p 3 s / 8 = 3 then 0 else p 17 (p 3 s + p 5 s)) k2 j1 hs (by omega) rfl rfl ?_ rfl
    show ic_u (q 11) (s * 4 + q 8 s) _ = _
    rw [e8]
  unfold ic_rd1 ic_qr
  by_cases n : p 5 s + 1 = p 4 s
  · rw [if_pos n, if_pos (by rw [e4, e8]; exact n)]
    exact ⟨ic_K1_fin (p := ic_bt p s) (q := ic_qb q s _) (ic_K1_bt k1 h2) k7 hs hT, n2, k3, k4, ic_K5_r (p := ic_fin (ic_bt p s) s) (q := ic_qf (ic_qb q s _) s) k5, k6, ic_qf_7 (p := ic_bt p s) (q := ic_qb q s _) (s := s) k7⟩
  · rw [if_neg n, if_neg (by rw [e4, e8]; exact n)]
    exact ⟨ic_K1_bt (p := p) (q := q) (s := s) (x := if p 3 s / 8 = 3 then 0 else p 17 (p 3 s + p 5 s)) k1 h2, n2, k3, k4, ic_K5_r (p := ic_bt p s) (q := ic_qb q s _) k5, k6, k7⟩
/-- a value of a write -/
def ic_shf (f : Nat → Nat) (b n : Nat) : Nat → Nat := fun x => if b ≤ x ∧ x < b + n then f (x + 1) else f x
theorem ic_shf_0 (f : Nat → Nat) (b : Nat) : ic_shf f b 0 = f := by
  funext x
  exact if_neg (by omega)
theorem ic_shf_s (f : Nat → Nat) (b n : Nat) : ic_u (ic_shf f b n) (b + n) (ic_shf f b n (b + n + 1)) = ic_shf f b (n + 1) := by
  funext x
  have e1 : ic_shf f b n (b + n + 1) = f (b + n + 1) := if_neg (by omega)
  rw [e1]
  by_cases e : x = b + n
  · subst e
    rw [ic_us]
    exact (if_pos (by omega)).symm
  · rw [ic_un e]
    show (if b ≤ x ∧ x < b + n then f (x + 1) else f x) = (if b ≤ x ∧ x < b + (n + 1) then f (x + 1) else f x)
    by_cases c : b ≤ x ∧ x < b + n
    · rw [if_pos c, if_pos (by omega)]
    · rw [if_neg c, if_neg (by omega)]
def ic_qm0 (q : Nat → Nat → Nat) (m s : Nat) : Nat → Nat → Nat :=
  ic_pu (ic_pu (ic_pf (ic_pu q 11 (s * 4 + q 8 s) (q 13 (m * 8))) 13 (ic_shf (q 13) (m * 8) 7)) 14 m (q 14 m - 1)) 8 s (q 8 s + 1)
def ic_qm (q : Nat → Nat → Nat) (m s : Nat) : Nat → Nat → Nat :=
  if q 8 s + 1 = q 4 s then ic_pu (ic_qm0 q m s) 7 s (q 22 2 + q 6 s) else ic_qm0 q m s
theorem ic_Lnk_mv {p q : Nat → Nat → Nat} {m s : Nat} (h : ic_Lnk p q) (j1 : ic_J1 p) (j4 : ic_J4 p) (hm : m < 2) (hs : s < 32) (hT : s < p 25 3) (h1 : p 0 s = 1) (h2 : p 1 s % 2 = 1) (h5 : p 5 s < p 4 s) (hw : p 16 m ≠ 0) : ic_Lnk (ic_mv1 p m s) (ic_qm q m s) := by
  obtain ⟨k1, k2, k3, k4, k5, k6, k7⟩ := h
  have h3 := k1 s hs hT
  have e4 : q 4 s = p 4 s := h3.1.2.2.2.2
  have e8 : q 8 s = p 5 s := h3.2.1.2
  have e6 : q 6 s = p 6 s := (h3.2.2.1 h1).1
  have e22 : q 22 2 = p 25 2 := k7 2 (by decide)
  have hL := j1 s hs
  unfold ic_L at hL
  have hW := k3 m hm
  have e13 : q 13 (m * 8) = p 14 (m * 8 + p 15 m) := by
    have := hW.2 0 (by omega)
    rw [Nat.add_zero, Nat.add_zero, Nat.mod_eq_of_lt (j4.1 m hm).1] at this
    exact this
  have n2 : ic_K2 (ic_mv0 p m s) (ic_qm0 q m s) := by
    refine ic_K2_bt (s := s) (x := p 14 (m * 8 + p 15 m)) k2 j1 hs (by omega) rfl rfl ?_ rfl
    show ic_u (q 11) (s * 4 + q 8 s) (q 13 (m * 8)) = _
    rw [e8, e13]
  have n3 : ic_K3 (ic_mv0 p m s) (ic_qm0 q m s) := by
    intro t ht
    have h4 := k3 t ht
    show ic_u (q 14) m (q 14 m - 1) t = ic_u (p 16) m (p 16 m - 1) t ∧ ∀ i, i < ic_u (p 16) m (p 16 m - 1) t → ic_shf (q 13) (m * 8) 7 (t * 8 + i) = p 14 (t * 8 + (ic_u (p 15) m ((p 15 m + 1) % 8) t + i) % 8)
    have h8 := (j4.1 t ht)
    by_cases e : t = m
    · subst e
      rw [ic_us, ic_us, ic_us]
      refine ⟨by rw [h4.1], fun i hi => ?_⟩
      have e1 : ic_shf (q 13) (t * 8) 7 (t * 8 + i) = q 13 (t * 8 + i + 1) := if_pos (by omega)
      rw [e1, Nat.add_assoc, h4.2 (i + 1) (by omega)]
      have e2 : ((p 15 t + 1) % 8 + i) % 8 = (p 15 t + (i + 1)) % 8 := by omega
      rw [e2]
    · rw [ic_un e, ic_un e, ic_un e]
      refine ⟨h4.1, fun i hi => ?_⟩
      have e1 : ic_shf (q 13) (m * 8) 7 (t * 8 + i) = q 13 (t * 8 + i) := if_neg (by omega)
      rw [e1]
      exact h4.2 i hi
  unfold ic_mv1 ic_qm
  by_cases n : p 5 s + 1 = p 4 s
  · rw [if_pos n, if_pos (by rw [e4, e8]; exact n)]
    refine ⟨fun t ht hT2 => ?_, n2, n3, k4, k5, k6, k7⟩
    have h6 := k1 t ht hT2
    by_cases e : t = s
    · subst e
      show ic_M (p 0 t) (p 1 t) (p 2 t) (p 3 t) (p 4 t) (ic_u (p 5) t (p 5 t + 1) t) (p 6 t) (ic_u (p 7) t (p 25 2 + p 6 t) t) (p 8 t) (p 9 t) (q 0 t) (q 1 t) (q 2 t) (q 3 t) (q 4 t) (q 5 t) (q 6 t) (ic_u (q 7) t (q 22 2 + q 6 t) t) (ic_u (q 8) t (q 8 t + 1) t) (q 9 t) (q 10 t)
      rw [ic_us, ic_us, ic_us, ic_us]
      obtain ⟨b1, b2, b3, b4⟩ := h6
      exact ⟨b1, ⟨b2.1, by rw [b2.2]⟩, fun z => ⟨(b3 z).1, fun _ => by rw [e22, e6]⟩, b4⟩
    · show ic_M (p 0 t) (p 1 t) (p 2 t) (p 3 t) (p 4 t) (ic_u (p 5) s (p 5 s + 1) t) (p 6 t) (ic_u (p 7) s (p 25 2 + p 6 s) t) (p 8 t) (p 9 t) (q 0 t) (q 1 t) (q 2 t) (q 3 t) (q 4 t) (q 5 t) (q 6 t) (ic_u (q 7) s (q 22 2 + q 6 s) t) (ic_u (q 8) s (q 8 s + 1) t) (q 9 t) (q 10 t)
      rw [ic_un e, ic_un e, ic_un e, ic_un e]
      exact h6
  · rw [if_neg n, if_neg (by rw [e4, e8]; exact n)]
    refine ⟨fun t ht hT2 => ?_, n2, n3, k4, k5, k6, k7⟩
    have h6 := k1 t ht hT2
    by_cases e : t = s
    · subst e
      show ic_M (p 0 t) (p 1 t) (p 2 t) (p 3 t) (p 4 t) (ic_u (p 5) t (p 5 t + 1) t) (p 6 t) (p 7 t) (p 8 t) (p 9 t) (q 0 t) (q 1 t) (q 2 t) (q 3 t) (q 4 t) (q 5 t) (q 6 t) (q 7 t) (ic_u (q 8) t (q 8 t + 1) t) (q 9 t) (q 10 t)
      rw [ic_us, ic_us]
      obtain ⟨b1, b2, b3, b4⟩ := h6
      refine ⟨b1, ⟨b2.1, by rw [b2.2]⟩, fun z => ⟨(b3 z).1, fun w => ?_⟩, b4⟩
      exfalso
      omega
    · show ic_M (p 0 t) (p 1 t) (p 2 t) (p 3 t) (p 4 t) (ic_u (p 5) s (p 5 s + 1) t) (p 6 t) (p 7 t) (p 8 t) (p 9 t) (q 0 t) (q 1 t) (q 2 t) (q 3 t) (q 4 t) (q 5 t) (q 6 t) (q 7 t) (ic_u (q 8) s (q 8 s + 1) t) (q 9 t) (q 10 t)
      rw [ic_un e, ic_un e]
      exact h6
/-- one that is accepted; k: 0 reads, 1 writes -/
def ic_qa0 (q : Nat → Nat → Nat) (s h l : Nat) : Nat → Nat → Nat := ic_pu (ic_pu (ic_pu q 16 s (q 16 s + 1)) 5 h 1) 6 h l
def ic_qa (q : Nat → Nat → Nat) (s k h l w : Nat) : Nat → Nat → Nat :=
  ic_pu (if k = 0 then ic_pu (ic_qa0 q s h l) 7 h (q 22 2 + l) else ic_qa0 q s h l) 19 (s * 2 + (1 - k)) (1 - w)
theorem ic_Lnk_ar {p q : Nat → Nat → Nat} {s k w : Nat} (h : ic_Lnk p q) (hI : ic_Inv p) (hs : s < 4) (hk : k < 2) (hw : w < 2) (c : ic_can p w s k = true) (hT : ic_hd p (w * 2 + k) < p 25 3) : ic_Lnk (ic_ar1 p s k w) (ic_qa q s k (ic_hd p (w * 2 + k)) (ic_lat p s) w) := by
  obtain ⟨k1, k2, k3, ⟨a1, a2, a3⟩, k5, k6, k7⟩ := h
  obtain ⟨j1, j2, j3, j4⟩ := hI
  obtain ⟨c1, c2, c3, c4, c5⟩ := ic_can_ps c
  obtain ⟨g1, g2, g3, g4⟩ := ic_hd_ps j3 (c := w * 2 + k) (by omega) c1
  have e22 : q 22 2 = p 25 2 := k7 2 (by decide)
  obtain ⟨f0, f1, f2, f3, f4, f5, f6, f7, f25, f11, f12, f13, f20, f21, f24, f19⟩ := @ic_ar1_f p s k w
  obtain ⟨f15, f16, f18, f22, f23, f8, f9, f10, f14, f17⟩ := @ic_ar1_g p s k w
  have hL := j1 _ g1
  unfold ic_L at hL
  generalize hh : ic_hd p (w * 2 + k) = b at *
  generalize hl : ic_lat p s = l at *
  have r : ic_qa q s k b l w 0 = q 0 ∧ ic_qa q s k b l w 1 = q 1 ∧ ic_qa q s k b l w 2 = q 2 ∧ ic_qa q s k b l w 3 = q 3 ∧ ic_qa q s k b l w 4 = q 4 ∧ ic_qa q s k b l w 5 = ic_u (q 5) b 1 ∧ ic_qa q s k b l w 6 = ic_u (q 6) b l ∧
      ic_qa q s k b l w 7 = (if k = 0 then ic_u (q 7) b (q 22 2 + l) else q 7) ∧ ic_qa q s k b l w 8 = q 8 ∧ ic_qa q s k b l w 9 = q 9 ∧ ic_qa q s k b l w 10 = q 10 ∧ ic_qa q s k b l w 11 = q 11 ∧ ic_qa q s k b l w 12 = q 12 ∧ ic_qa q s k b l w 13 = q 13 ∧ ic_qa q s k b l w 14 = q 14 ∧ ic_qa q s k b l w 15 = q 15 ∧
      ic_qa q s k b l w 16 = ic_u (q 16) s (q 16 s + 1) ∧ ic_qa q s k b l w 17 = q 17 ∧ ic_qa q s k b l w 18 = q 18 ∧ ic_qa q s k b l w 19 = ic_u (q 19) (s * 2 + (1 - k)) (1 - w) ∧ ic_qa q s k b l w 20 = q 20 ∧ ic_qa q s k b l w 21 = q 21 ∧ ic_qa q s k b l w 22 = q 22 := by
    unfold ic_qa
    by_cases e : k = 0
    · rw [if_pos e, if_pos e]
      exact ⟨rfl, rfl, rfl, rfl, rfl, rfl, rfl, rfl, rfl, rfl, rfl, rfl, rfl, rfl, rfl, rfl, rfl, rfl, rfl, rfl, rfl, rfl, rfl⟩
    · rw [if_neg e, if_neg e]
      exact ⟨rfl, rfl, rfl, rfl, rfl, rfl, rfl, rfl, rfl, rfl, rfl, rfl, rfl, rfl, rfl, rfl, rfl, rfl, rfl, rfl, rfl, rfl, rfl⟩
  obtain ⟨r0, r1, r2, r3, r4, r5, r6, r7, r8, r9, r10, r11, r12, r13, r14, r15, r16, r17, r18, r19, r20, r21, r22⟩ := r
  refine ⟨fun t ht hT2 => ?_, fun t ht hT2 => ?_, fun t ht => ?_, ⟨?_, ?_, fun t ht => ?_⟩, fun t ht => ?_, fun t ht => ?_, fun t ht => ?_⟩
  · rw [f25] at hT2
    have h6 := k1 t ht hT2
    rw [f0, f1, f2, f3, f4, f5, f6, f7, f8, f9, r0, r1, r2, r3, r4, r5, r6, r7, r8, r9, r10]
    by_cases e : t = b
    · subst e
      rw [ic_us, ic_us, ic_us, ic_us, ic_us]
      obtain ⟨b1, b2, b3, b4⟩ := h6
      refine ⟨b1, ⟨rfl, b2.2⟩, fun z => ⟨rfl, fun w => ?_⟩, fun z => by omega⟩
      have k0 : k = 0 := by omega
      rw [if_pos k0, ic_us, e22]
    · rw [ic_un e, ic_un e, ic_un e, ic_un e, ic_un e]
      have e7 : (if k = 0 then ic_u (q 7) b (q 22 2 + l) else q 7) t = q 7 t := by
        split
        · exact ic_un e
        · rfl
      rw [e7]
      exact h6
  · rw [f25] at hT2
    rw [f5, f10, r11]
    exact k2 t ht hT2
  · rw [f14, f15, f16, r13, r14]
    exact k3 t ht
  · rw [f17, r12]; exact a1
  · rw [f18, r15]; exact a2
  · rw [f19, r16]
    have h3 := a3 t ht
    by_cases e : s = 3
    · rw [if_pos e, ic_un (by omega)]; exact h3
    · rw [if_neg e]
      by_cases e2 : t = s
      · subst e2; rw [ic_us, ic_us]; omega
      · rw [ic_un e2, ic_un e2]; exact h3
  · rw [f22, f23, r17, r18, r20, r21]
    exact k5 t ht
  · rw [f24, r19]
    have h6 := k6 t ht
    by_cases e : t = s
    · subst e
      by_cases k0 : k = 0
      · subst k0
        rw [show t * 2 + (1 - 0) = t * 2 + 1 from rfl, show t * 2 + 0 = t * 2 from rfl, ic_un (by omega), ic_un (by omega), ic_us, ic_us]
        exact ⟨h6.1, rfl⟩
      · have k1 : k = 1 := by omega
        subst k1
        rw [show t * 2 + (1 - 1) = t * 2 from rfl, ic_us, ic_us, ic_un (by omega), ic_un (by omega)]
        exact ⟨rfl, h6.2⟩
    · rw [ic_un (by omega), ic_un (by omega), ic_un (by omega), ic_un (by omega)]
      exact h6
  · rw [f25, r22]
    exact k7 t ht
/-- a request that is taken; k: the reference's kind -/
def ic_z4 (f : Nat → Nat) (s : Nat) : Nat → Nat := ic_u (ic_u (ic_u (ic_u f (s * 4) 0) (s * 4 + 1) 0) (s * 4 + 2) 0) (s * 4 + 3) 0
theorem ic_z4_n {f : Nat → Nat} {s j : Nat} (h : j < s * 4 ∨ s * 4 + 3 < j) : ic_z4 f s j = f j := by
  unfold ic_z4
  rw [ic_un (by omega), ic_un (by omega), ic_un (by omega), ic_un (by omega)]
def ic_qi0 (q : Nat → Nat → Nat) (k m i a l : Nat) : Nat → Nat → Nat :=
  ic_pu (ic_pu (ic_pu (ic_pu (ic_pu q 0 (q 22 3 % 32) k) 1 (q 22 3 % 32) m) 2 (q 22 3 % 32) i) 3 (q 22 3 % 32) a) 4 (q 22 3 % 32) l
def ic_qi1 (q : Nat → Nat → Nat) (k m i a l : Nat) : Nat → Nat → Nat :=
  ic_pu (ic_pu (ic_pu (ic_pu (ic_pu (ic_pu (ic_qi0 q k m i a l) 5 (q 22 3 % 32) 0) 6 (q 22 3 % 32) 0) 7 (q 22 3 % 32) 0) 8 (q 22 3 % 32) 0) 9 (q 22 3 % 32) 4294967295) 10 (q 22 3 % 32) 4294967295
def ic_qi (q : Nat → Nat → Nat) (k m i a l : Nat) : Nat → Nat → Nat :=
  ic_pu (ic_pf (ic_qi1 q k m i a l) 11 (ic_z4 (q 11) (q 22 3 % 32))) 22 3 (q 22 3 + 1)
theorem ic_Lnk_is {p q : Nat → Nat → Nat} {k m i a l : Nat} (h : ic_Lnk p q) (j1 : ic_J1 p) (hk : k < 2) : ic_Lnk (ic_iss p (m * 2 + k) i a l) (ic_qi q (1 - k) m i a l) := by
  obtain ⟨k1, k2, k3, k4, k5, k6, k7⟩ := h
  have e3 : q 22 3 = p 25 3 := k7 3 (by decide)
  refine ⟨fun t ht hT => ?_, fun t ht hT j hj => ?_, k3, k4, k5, k6, fun j hj => ?_⟩
  · have hT2 : t < p 25 3 + 1 := hT
    show ic_M (ic_u (p 0) (p 25 3 % 32) 0 t) (ic_u (p 1) (p 25 3 % 32) (m * 2 + k) t) (ic_u (p 2) (p 25 3 % 32) i t) (ic_u (p 3) (p 25 3 % 32) a t) (ic_u (p 4) (p 25 3 % 32) l t) (ic_u (p 5) (p 25 3 % 32) 0 t) (p 6 t) (p 7 t) (p 8 t) (p 9 t)
      (ic_u (q 0) (q 22 3 % 32) (1 - k) t) (ic_u (q 1) (q 22 3 % 32) m t) (ic_u (q 2) (q 22 3 % 32) i t) (ic_u (q 3) (q 22 3 % 32) a t) (ic_u (q 4) (q 22 3 % 32) l t) (ic_u (q 5) (q 22 3 % 32) 0 t) (ic_u (q 6) (q 22 3 % 32) 0 t) (ic_u (q 7) (q 22 3 % 32) 0 t) (ic_u (q 8) (q 22 3 % 32) 0 t) (ic_u (q 9) (q 22 3 % 32) 4294967295 t) (ic_u (q 10) (q 22 3 % 32) 4294967295 t)
    rw [e3]
    by_cases e : t = p 25 3 % 32
    · subst e
      rw [ic_us, ic_us, ic_us, ic_us, ic_us, ic_us, ic_us, ic_us, ic_us, ic_us, ic_us, ic_us, ic_us, ic_us, ic_us, ic_us, ic_us]
      exact ⟨⟨by omega, by omega, rfl, rfl, rfl⟩, ⟨rfl, rfl⟩, fun z => by omega, fun z => by omega⟩
    · rw [ic_un e, ic_un e, ic_un e, ic_un e, ic_un e, ic_un e, ic_un e, ic_un e, ic_un e, ic_un e, ic_un e, ic_un e, ic_un e, ic_un e, ic_un e, ic_un e, ic_un e]
      exact k1 t ht (by omega)
  · have hT2 : t < p 25 3 + 1 := hT
    have hj2 : j < ic_u (p 5) (p 25 3 % 32) 0 t := hj
    show ic_z4 (q 11) (q 22 3 % 32) (t * 4 + j) = p 10 (t * 4 + j)
    rw [e3]
    by_cases e : t = p 25 3 % 32
    · rw [← e, ic_us] at hj2
      omega
    · rw [ic_un e] at hj2
      have h1 := j1 t ht
      unfold ic_L at h1
      rw [ic_z4_n (by omega)]
      exact k2 t ht (by omega) j hj2
  · show ic_u (q 22) 3 (q 22 3 + 1) j = ic_u (p 25) 3 (p 25 3 + 1) j
    by_cases e : j = 3
    · subst e; rw [ic_us, ic_us, e3]
    · rw [ic_un e, ic_un e]; exact k7 j hj
/-- the rest -/
theorem ic_Lnk_wd {p q : Nat → Nat → Nat} {m x : Nat} (h : ic_Lnk p q) (j4 : ic_J4 p) (hm : m < 2) (h8 : p 16 m < 8) : ic_Lnk (ic_wd p m x) (ic_pu (ic_pu q 13 (m * 8 + q 14 m) x) 14 m (q 14 m + 1)) := by
  obtain ⟨k1, k2, k3, k4⟩ := h
  refine ⟨k1, k2, fun t ht => ?_, k4⟩
  have h3 := k3 t ht
  have hm3 := (k3 m hm).1
  show ic_u (q 14) m (q 14 m + 1) t = ic_u (p 16) m (p 16 m + 1) t ∧ ∀ i, i < ic_u (p 16) m (p 16 m + 1) t → ic_u (q 13) (m * 8 + q 14 m) x (t * 8 + i) = ic_u (p 14) (m * 8 + (p 15 m + p 16 m) % 8) x (t * 8 + (p 15 t + i) % 8)
  rw [hm3]
  by_cases e : t = m
  · subst e
    rw [ic_us, ic_us]
    refine ⟨rfl, fun i hi => ?_⟩
    by_cases ei : i = p 16 t
    · subst ei; rw [ic_us, ic_us]
    · rw [ic_un (by omega), ic_un (by omega)]
      exact h3.2 i (by omega)
  · rw [ic_un e, ic_un e]
    refine ⟨h3.1, fun i hi => ?_⟩
    have h9 := (j4.1 t ht).2
    rw [ic_un (by omega), ic_un (by omega)]
    exact h3.2 i hi
theorem ic_Lnk_sl {p q : Nat → Nat → Nat} {j x : Nat} (h : ic_Lnk p q) : ic_Lnk (ic_pu p 18 j x) (ic_pu q 15 j x) := by
  obtain ⟨k1, k2, k3, ⟨a1, a2, a3⟩, k5⟩ := h
  refine ⟨k1, k2, k3, ⟨a1, ?_, a3⟩, k5⟩
  show ic_u (q 15) j x = ic_u (p 18) j x
  rw [a2]
theorem ic_Lnk_sr {p q : Nat → Nat → Nat} {m x y : Nat} (h : ic_Lnk p q) : ic_Lnk (ic_pu (ic_pu p 23 (m * 2 + 1) x) 23 (m * 2) y) (ic_pu (ic_pu q 20 m x) 21 m y) := by
  obtain ⟨k1, k2, k3, k4, k5, k6⟩ := h
  refine ⟨k1, k2, k3, k4, fun t ht => ?_, k6⟩
  have h5 := k5 t ht
  show q 17 t = p 22 (t * 2 + 1) ∧ q 18 t = p 22 (t * 2) ∧ ic_u (q 20) m x t = ic_u (ic_u (p 23) (m * 2 + 1) x) (m * 2) y (t * 2 + 1) ∧ ic_u (q 21) m y t = ic_u (ic_u (p 23) (m * 2 + 1) x) (m * 2) y (t * 2)
  rw [ic_un (j := t * 2 + 1) (by omega)]
  by_cases e : t = m
  · subst e; rw [ic_us, ic_us, ic_us, ic_us]; exact ⟨h5.1, h5.2.1, rfl, rfl⟩
  · rw [ic_un e, ic_un (by omega), ic_un e, ic_un (by omega), ic_un (by omega)]; exact h5
theorem ic_Lnk_c1 {p q : Nat → Nat → Nat} (h : ic_Lnk p q) : ic_Lnk (ic_pu p 25 2 (p 25 2 + 1)) (ic_pu q 22 2 (q 22 2 + 1)) := by
  obtain ⟨k1, k2, k3, k4, k5, k6, k7⟩ := h
  refine ⟨k1, k2, k3, k4, k5, k6, fun j hj => ?_⟩
  show ic_u (q 22) 2 (q 22 2 + 1) j = ic_u (p 25) 2 (p 25 2 + 1) j
  by_cases e : j = 2
  · subst e; rw [ic_us, ic_us, k7 2 hj]
  · rw [ic_un e, ic_un e]; exact k7 j hj
def ic_q0 (l c : Nat) : Nat → Nat → Nat := fun f j =>
  if f = 15 then (if j < 12 then 1 else 0) else if f = 20 then (if j < 2 then 1 else 0) else if f = 21 then (if j < 2 then 1 else 0) else if f = 22 then (if j = 0 then l else if j = 1 then c else 0) else 0
theorem ic_Lnk_0 (l c : Nat) : ic_Lnk (ic_p0 l c) (ic_q0 l c) := by
  refine ⟨fun s _ h => ?_, fun s _ h => ?_, fun m _ => ⟨rfl, fun i hi => ?_⟩, ⟨rfl, rfl, fun s _ => rfl⟩, fun m hm => ⟨rfl, rfl, ?_, ?_⟩, fun s _ => ⟨rfl, rfl⟩, fun j _ => rfl⟩
  · have : s < 0 := h
    omega
  · have : s < 0 := h
    omega
  · have : i < 0 := hi
    omega
  · show (if m < 2 then 1 else 0) = (if m * 2 + 1 < 4 then 1 else 0)
    rw [if_pos hm, if_pos (by omega)]
  · show (if m < 2 then 1 else 0) = (if m * 2 < 4 then 1 else 0)
    rw [if_pos hm, if_pos (by omega)]
end
section
/-! numbers, tables of ints -/
def ic_t (f : Nat → Nat) : Nat → Int32 := fun j => nI (f j)
def ic_tL (f : Nat → Nat) : Nat → Int64 := fun j => lN (f j)
def ic_t8 (f : Nat → Nat) : Nat → Int32 := fun j => nI (f j / 8)
def ic_sv (x : Nat) : Int32 := if x = 4 then -1 else nI x
def ic_ts (f : Nat → Nat) : Nat → Int32 := fun j => ic_sv (f j)
theorem ic_sv_n {x : Nat} (h : x ≤ 3) : ic_sv x = nI x := if_neg (by omega)
theorem ic_sv_eq {x j : Nat} (hx : x ≤ 4) (hj : j ≤ 3) : ic_sv x = nI j ↔ x = j := by
  by_cases e : x = 4
  · subst e
    constructor
    · intro h
      exfalso
      have h1 : (-1 : Int32) = nI j := h
      have h2 : (nI j).toInt = j := nI_toInt (by omega)
      rw [← h1] at h2
      have h3 : (-1 : Int32).toInt = -1 := by decide
      omega
    · intro h; omega
  · rw [ic_sv_n (by omega)]
    exact nI_eq (by omega) (by omega)
theorem ic_tu {f : Nat → Nat} {k x : Nat} : upd (ic_t f) k (nI x) = ic_t (ic_u f k x) := by
  funext j
  by_cases e : j = k
  · subst e; show upd (ic_t f) j (nI x) j = nI (ic_u f j x j); rw [pk_us, ic_us]
  · show upd (ic_t f) k (nI x) j = nI (ic_u f k x j); rw [pk_un e, ic_un e]; rfl
theorem ic_tLu {f : Nat → Nat} {k x : Nat} : vp_updL (ic_tL f) k (lN x) = ic_tL (ic_u f k x) := by
  funext j
  by_cases e : j = k
  · subst e; show vp_updL (ic_tL f) j (lN x) j = lN (ic_u f j x j); rw [pk_uLs, ic_us]
  · show vp_updL (ic_tL f) k (lN x) j = lN (ic_u f k x j); rw [pk_uLn e, ic_un e]; rfl
theorem ic_t8u {f : Nat → Nat} {k x : Nat} : upd (ic_t8 f) k (nI (x / 8)) = ic_t8 (ic_u f k x) := by
  funext j
  by_cases e : j = k
  · subst e; show upd (ic_t8 f) j (nI (x / 8)) j = nI (ic_u f j x j / 8); rw [pk_us, ic_us]
  · show upd (ic_t8 f) k (nI (x / 8)) j = nI (ic_u f k x j / 8); rw [pk_un e, ic_un e]; rfl
theorem ic_tsu {f : Nat → Nat} {k x : Nat} (hx : x ≤ 3) : upd (ic_ts f) k (nI x) = ic_ts (ic_u f k x) := by
  funext j
  by_cases e : j = k
  · subst e; show upd (ic_ts f) j (nI x) j = ic_sv (ic_u f j x j); rw [pk_us, ic_us, ic_sv_n hx]
  · show upd (ic_ts f) k (nI x) j = ic_sv (ic_u f k x j); rw [pk_un e, ic_un e]; rfl
/-- a place read, a place stored: e is the int of the place -/
theorem ic_g {f : Nat → Nat} {e : Int32} (k : Nat) (he : e = nI k) (hk : k < 2 ^ 31) : ic_t f e.toNatClampNeg = nI (f k) := by
  rw [he]; show nI (f _) = _; rw [nI_clamp hk]
theorem ic_gL {f : Nat → Nat} {e : Int32} (k : Nat) (he : e = nI k) (hk : k < 2 ^ 31) : ic_tL f e.toNatClampNeg = lN (f k) := by
  rw [he]; show lN (f _) = _; rw [nI_clamp hk]
theorem ic_g8 {f : Nat → Nat} {e : Int32} (k : Nat) (he : e = nI k) (hk : k < 2 ^ 31) : ic_t8 f e.toNatClampNeg = nI (f k / 8) := by
  rw [he]; show nI (f _ / 8) = _; rw [nI_clamp hk]
theorem ic_gs {f : Nat → Nat} {e : Int32} (k : Nat) (he : e = nI k) (hk : k < 2 ^ 31) : ic_ts f e.toNatClampNeg = ic_sv (f k) := by
  rw [he]; show ic_sv (f _) = _; rw [nI_clamp hk]
theorem ic_p {f : Nat → Nat} {e v : Int32} (k x : Nat) (he : e = nI k) (hk : k < 2 ^ 31) (hv : v = nI x) : upd (ic_t f) e.toNatClampNeg v = ic_t (ic_u f k x) := by
  rw [he, hv, nI_clamp hk, ic_tu]
theorem ic_pL {f : Nat → Nat} {e : Int32} {v : Int64} (k x : Nat) (he : e = nI k) (hk : k < 2 ^ 31) (hv : v = lN x) : vp_updL (ic_tL f) e.toNatClampNeg v = ic_tL (ic_u f k x) := by
  rw [he, hv, nI_clamp hk, ic_tLu]
theorem ic_p8 {f : Nat → Nat} {e v : Int32} (k x : Nat) (he : e = nI k) (hk : k < 2 ^ 31) (hv : v = nI (x / 8)) : upd (ic_t8 f) e.toNatClampNeg v = ic_t8 (ic_u f k x) := by
  rw [he, hv, nI_clamp hk, ic_t8u]
theorem ic_ps {f : Nat → Nat} {e v : Int32} (k x : Nat) (he : e = nI k) (hk : k < 2 ^ 31) (hx : x ≤ 3) (hv : v = nI x) : upd (ic_ts f) e.toNatClampNeg v = ic_ts (ic_u f k x) := by
  rw [he, hv, nI_clamp hk, ic_tsu hx]
/-- sums and products of a place -/
theorem ic_ma (a b c : Nat) : nI a * nI b + nI c = nI (a * b + c) := by rw [pk_mul, nI_add]
theorem ic_m2 (a : Nat) : nI a * 2 = nI (a * 2) := pk_mul a 2
theorem ic_m21 (a : Nat) : nI a * 2 + 1 = nI (a * 2 + 1) := ic_ma a 2 1
theorem ic_r {x : Int32} (a d : Nat) (hx : x = nI a) (ha : a < 2 ^ 31) (h0 : 0 < d) (hd : d < 2 ^ 31) : x - x / nI d * nI d = nI (a % d) := by
  rw [hx]; exact pk_rem ha h0 hd
theorem ic_slL {n : Nat} (h : n < 2 ^ 62) : (lN n &&& 31).toInt32 = nI (n % 32) := by
  have e : lN n &&& lN (2 ^ 5 - 1) = lN (n % 2 ^ 5) := wb_mask (by omega) (by decide)
  have e2 : (31 : Int64) = lN (2 ^ 5 - 1) := rfl
  rw [e2, e, lN_i]
theorem ic_sl {n : Nat} (h : n < 2 ^ 31) : nI n &&& 31 = nI (n % 32) := pk_andN (by omega) 5 (by decide)
theorem ic_s3 (n : Nat) : nI n &&& 3 = nI (n % 4) := by
  rw [pk_and (nI n) 2 (by decide)]
  have e : (nI n).toBitVec.toNat = n % 2 ^ 32 := rfl
  rw [e]
  congr 1
  omega
theorem ic_te (T i : Nat) : nI T - 32 + nI i = nI (T + i) - nI 32 := by
  rw [← nI_add, show nI 32 = (32 : Int32) from rfl]
  grind
theorem ic_tt {T i : Nat} (h : 32 ≤ T + i) : nI T - 32 + nI i = nI (T + i - 32) := by rw [ic_te, pk_sub h]
theorem ic_tn {T i : Nat} (h : T + i < 32) : nI T - 32 + nI i < 0 := by rw [ic_te]; exact pk_sneg (by decide) h
/-- T - 32 as an int, against a ticket -/
theorem ic_lo {T j : Nat} (hT : T < 2 ^ 30) (hj : j < 2 ^ 31) : nI T - 32 ≤ nI j ↔ T ≤ j + 32 := by
  rw [Int32.le_iff_toInt_le, show (32 : Int32) = nI 32 from rfl, pk_sub_toInt hT (by decide), nI_toInt hj]
  omega
/-- the same over longs: the ticket comes as an int -/
theorem ic_loL {T j : Nat} (hT : T < 2 ^ 30) (hj : j < 2 ^ 31) : lN T - 32 ≤ (nI j).toInt64 ↔ T ≤ j + 32 := by
  rw [nI_l hj]
  by_cases h : 32 ≤ T
  · rw [show (32 : Int64) = lN 32 from rfl, lN_sub h, pk_lLE (by omega) (by omega)]
    omega
  · have e : (lN T - 32).toInt = (T : Int) - 32 := by
      rw [Int64.toInt_sub, pk_lT (by omega), show (32 : Int64).toInt = 32 from by decide]
      exact Int.bmod_eq_of_le (by omega) (by omega)
    rw [Int64.le_iff_toInt_le, e, pk_lT (by omega)]
    omega
/-- what a ticket that is asked for may be -/
theorem ic_vc (t : Int32) (T : Nat) : (∃ j, j < T ∧ T ≤ j + 32 ∧ j < 2 ^ 31 ∧ t = nI j) ∨ t < 0 ∨ (∃ j, j < 2 ^ 31 ∧ t = nI j ∧ (T ≤ j ∨ j + 32 < T)) := by
  by_cases h : t < 0
  · exact Or.inr (Or.inl h)
  · obtain ⟨j, hj, e⟩ := nI_of h
    by_cases h1 : j < T
    · by_cases h2 : T ≤ j + 32
      · exact Or.inl ⟨j, h1, h2, hj, e⟩
      · exact Or.inr (Or.inr ⟨j, hj, e, Or.inr (by omega)⟩)
    · exact Or.inr (Or.inr ⟨j, hj, e, Or.inl (by omega)⟩)
/-- conditions on a place -/
theorem ic_cs {f : Nat → Nat} {e x : Int32} (s j : Nat) (he : e = nI s) (hx : x = nI j) (hs : s < 2 ^ 31) (hf : f s ≤ 4) (hj : j ≤ 3) : ic_ts f e.toNatClampNeg = x ↔ f s = j := by
  rw [ic_gs s he hs, hx]; exact ic_sv_eq hf hj
theorem ic_ce {f : Nat → Nat} {e x : Int32} (s j : Nat) (he : e = nI s) (hx : x = nI j) (hs : s < 2 ^ 31) (hf : f s < 2 ^ 31) (hj : j < 2 ^ 31) : ic_t f e.toNatClampNeg = x ↔ f s = j := by
  rw [ic_g s he hs, hx]; exact nI_eq hf hj
theorem ic_c8 {f : Nat → Nat} {e x : Int32} (s j : Nat) (he : e = nI s) (hx : x = nI j) (hs : s < 2 ^ 31) (hf : f s / 8 < 2 ^ 31) (hj : j < 2 ^ 31) : ic_t8 f e.toNatClampNeg = x ↔ f s / 8 = j := by
  rw [ic_g8 s he hs, hx]; exact nI_eq hf hj
theorem ic_inc {f : Nat → Nat} {e : Int32} (k : Nat) (he : e = nI k) (hk : k < 2 ^ 31) : ic_t f e.toNatClampNeg + 1 = nI (f k + 1) := by
  rw [ic_g k he hk]; exact nI_1 _
theorem ic_dec {f : Nat → Nat} {e : Int32} (k : Nat) (he : e = nI k) (hk : k < 2 ^ 31) (h0 : 1 ≤ f k) : ic_t f e.toNatClampNeg - 1 = nI (f k - 1) := by
  rw [ic_g k he hk]; exact pk_sub (b := 1) h0
theorem ic_nm1 {s : Nat} (h : s < 2 ^ 31) : ¬ nI s = -1 := by
  intro z
  have h2 : (nI s).toInt = s := nI_toInt h
  rw [z] at h2
  have h3 : (-1 : Int32).toInt = -1 := by decide
  omega
end
section
/-! the class: its readers -/
def ic_X (p : Nat → Nat → Nat) : SX := (nI (p 25 0), nI (p 25 1), lN (p 25 2), lN (p 25 3), nI (p 25 4), ic_ts (p 0), ic_t (p 1), ic_t (p 2), ic_t (p 3), ic_t8 (p 3), ic_t (p 4), ic_t (p 5), ic_t (p 6), ic_tL (p 7), ic_t (p 8), ic_t (p 9), ic_t (p 10), ic_t (p 11), ic_t (p 12), ic_t (p 13), ic_t (p 14), ic_t (p 15), ic_t (p 16), ic_t (p 17), ic_t (p 18), ic_t (p 19), ic_t (p 20), ic_t (p 21), ic_t (p 22), ic_t (p 23), ic_t (p 24))
theorem ic_X_slotOf {post : Int32 → Prop} {x : Int64} (n : Nat) (hx : x = lN n) (hn : n < 2 ^ 62) (h : post (nI (n % 32))) : wpX_slotOf post x := by
  unfold wpX_slotOf
  rw [hx, ic_slL hn]
  exact h
theorem ic_X_isPending {p : Nat → Nat → Nat} {s : Nat} {post : Int32 → Prop} (hs : s < 32) (hS : p 0 s ≤ 4) (h1 : p 0 s ≤ 1 → post 1) (h0 : ¬ p 0 s ≤ 1 → post 0) : wpX_isPending post (ic_X p) (nI s) := by
  have hi : vp_in (nI s) 32 := vp_in_nI hs (by decide)
  unfold wpX_isPending ic_X
  dsimp only
  refine And.intro hi (ek_if (ic_cs s 0 rfl rfl (by omega) hS (by decide)) (fun a => h1 (by omega)) (fun a => ?_))
  exact And.intro hi (ek_if (ic_cs s 1 rfl rfl (by omega) hS (by decide)) (fun b => h1 (by omega)) (fun b => h0 (by omega)))
theorem ic_X_kindOf {p : Nat → Nat → Nat} {s : Nat} {post : Int32 → Prop} (hs : s < 32) (hH : p 1 s < 4) (h : post (nI (p 1 s % 2))) : wpX_kindOf post (ic_X p) (nI s) := by
  unfold wpX_kindOf ic_X
  dsimp only
  refine And.intro (vp_in_nI hs (by decide)) (And.intro (by decide) ?_)
  exact ek_v (P := post) (ic_r (p 1 s) 2 (ic_g s rfl (by omega)) (by omega) (by decide) (by decide)) h
theorem ic_X_managerOf {p : Nat → Nat → Nat} {s h : Nat} {post : Int32 → Prop} (hs : s < 32) (hh : p 1 s = h) (hH : h < 4) (hp : post (nI (h / 2))) : wpX_managerOf post (ic_X p) (nI s) := by
  unfold wpX_managerOf ic_X
  dsimp only
  refine And.intro (vp_in_nI hs (by decide)) (And.intro (by decide) ?_)
  rw [ic_g s rfl (by omega), hh, show (2 : Int32) = nI 2 from rfl, pk_div (by omega) (by decide) (by decide)]
  exact hp
theorem ic_X_op {p : Nat → Nat → Nat} {c i : Nat} {post : Int32 → Prop} (hI : ic_J1 p) (hT : p 25 3 < 2 ^ 30) (hc : c < 4) (hi : i < 4) : ∀ d j : Nat, j + d = 32 →
    (ic_ff (p 25 3) (ic_pen p c i) d j = none → post (-1)) → (∀ s, ic_ff (p 25 3) (ic_pen p c i) d j = some s → post (nI s)) →
    wX_oldestPending_2 post (nI c) (nI i) (nI (p 25 0)) (nI (p 25 1)) (lN (p 25 2)) (lN (p 25 3)) (nI (p 25 4)) (ic_ts (p 0)) (ic_t (p 1)) (ic_t (p 2)) (ic_t (p 3)) (ic_t8 (p 3)) (ic_t (p 4)) (ic_t (p 5)) (ic_t (p 6)) (ic_tL (p 7)) (ic_t (p 8)) (ic_t (p 9)) (ic_t (p 10)) (ic_t (p 11)) (ic_t (p 12)) (ic_t (p 13)) (ic_t (p 14)) (ic_t (p 15)) (ic_t (p 16)) (ic_t (p 17)) (ic_t (p 18)) (ic_t (p 19)) (ic_t (p 20)) (ic_t (p 21)) (ic_t (p 22)) (ic_t (p 23)) (ic_t (p 24)) (d + 1) (nI j) := by
  intro d
  induction d with
  | zero =>
    intro j hj hn _
    exact pk_le 32 j (fun _ => hn rfl) (fun h => by omega)
  | succ d ih =>
    intro j hj hn hs
    refine pk_le 32 j (fun h => by omega) (fun h => ?_)
    refine ic_X_slotOf (p 25 3 + j) (by rw [nI_l (by omega), lN_add]) (by omega) ?_
    have h32 : (p 25 3 + j) % 32 < 32 := by omega
    have hL := hI _ h32
    have K : ¬ ic_pen p c i ((p 25 3 + j) % 32) = true → wX_oldestPending_2 post (nI c) (nI i) (nI (p 25 0)) (nI (p 25 1)) (lN (p 25 2)) (lN (p 25 3)) (nI (p 25 4)) (ic_ts (p 0)) (ic_t (p 1)) (ic_t (p 2)) (ic_t (p 3)) (ic_t8 (p 3)) (ic_t (p 4)) (ic_t (p 5)) (ic_t (p 6)) (ic_tL (p 7)) (ic_t (p 8)) (ic_t (p 9)) (ic_t (p 10)) (ic_t (p 11)) (ic_t (p 12)) (ic_t (p 13)) (ic_t (p 14)) (ic_t (p 15)) (ic_t (p 16)) (ic_t (p 17)) (ic_t (p 18)) (ic_t (p 19)) (ic_t (p 20)) (ic_t (p 21)) (ic_t (p 22)) (ic_t (p 23)) (ic_t (p 24)) (d + 1) (nI (j + 1)) := fun h =>
      ih (j + 1) (by omega) (fun z => hn (by rw [ic_ff_f h]; exact z)) (fun s z => hs s (by rw [ic_ff_f h]; exact z))
    have F : ic_pen p c i ((p 25 3 + j) % 32) = true → post (nI ((p 25 3 + j) % 32)) := fun h => hs _ (ic_ff_t h)
    generalize (p 25 3 + j) % 32 = s at *
    unfold ic_L at hL
    have hi32 : vp_in (nI s) 32 := vp_in_nI h32 (by decide)
    refine And.intro hi32 (ek_if (ic_ce s c rfl rfl (by omega) (by omega) (by omega)) (fun a => ?_) (fun a => ?_))
    · refine And.intro hi32 (ek_if (ic_ce s i rfl rfl (by omega) (by omega) (by omega)) (fun b => ?_) (fun b => ?_))
      · refine ic_X_isPending (p := p) h32 (by omega) (fun e => ?_) (fun e => ?_)
        · exact br_f (by decide) (F (decide_eq_true ⟨a, b, e⟩))
        · exact br_t rfl (nm_r (nI_1 j) (K (fun z => e (of_decide_eq_true z).2.2)))
      · exact nm_r (nI_1 j) (K (fun z => b (of_decide_eq_true z).2.1))
    · exact nm_r (nI_1 j) (K (fun z => a (of_decide_eq_true z).1))
theorem ic_X_oldestPending {p : Nat → Nat → Nat} {c i : Nat} {post : Int32 → Prop} (hI : ic_J1 p) (hT : p 25 3 < 2 ^ 30) (hc : c < 4) (hi : i < 4)
    (hn : ic_old p c i = none → post (-1)) (hs : ∀ s, ic_old p c i = some s → post (nI s)) : wpX_oldestPending post (ic_X p) (nI c) (nI i) := by
  unfold wpX_oldestPending ic_X
  dsimp only
  exact ⟨33, ic_X_op hI hT hc hi 32 0 rfl hn hs⟩
theorem ic_X_isEligible {p : Nat → Nat → Nat} {s : Nat} {post : Int32 → Prop} (hI : ic_J1 p) (hC : p 25 2 < 2 ^ 30) (hs : s < 32) (h1 : ic_eli p s = true → post 1) (h0 : ¬ ic_eli p s = true → post 0) : wpX_isEligible post (ic_X p) (nI s) := by
  have hL := hI s hs
  unfold ic_L at hL
  have hi : vp_in (nI s) 32 := vp_in_nI hs (by decide)
  have e28 : ∀ z : Nat, z ≤ 1 → (z = 1 ↔ (p 1 s % 2 = 0 ∨ p 5 s = p 4 s)) → wX_isEligible_28 post (nI s) (nI z) (nI (p 25 0)) (nI (p 25 1)) (lN (p 25 2)) (lN (p 25 3)) (nI (p 25 4)) (ic_ts (p 0)) (ic_t (p 1)) (ic_t (p 2)) (ic_t (p 3)) (ic_t8 (p 3)) (ic_t (p 4)) (ic_t (p 5)) (ic_t (p 6)) (ic_tL (p 7)) (ic_t (p 8)) (ic_t (p 9)) (ic_t (p 10)) (ic_t (p 11)) (ic_t (p 12)) (ic_t (p 13)) (ic_t (p 14)) (ic_t (p 15)) (ic_t (p 16)) (ic_t (p 17)) (ic_t (p 18)) (ic_t (p 19)) (ic_t (p 20)) (ic_t (p 21)) (ic_t (p 22)) (ic_t (p 23)) (ic_t (p 24)) := by
    intro z hz ez
    unfold wX_isEligible_28
    refine And.intro hi (ek_if (ic_cs s 1 rfl rfl (by omega) (by omega) (by decide)) (fun a => ?_) (fun a => h0 (fun e => a (of_decide_eq_true e).1)))
    refine pk_eq z 0 (fun b => h0 (fun e => ?_)) (fun b => ?_)
    · have := ez.mpr (of_decide_eq_true e).2.1
      omega
    · refine And.intro hi ?_
      rw [ic_gL s rfl (by omega)]
      refine ek_if (pk_lLT (by omega) (by omega)) (fun e => h0 (fun g => ?_)) (fun e => h1 (decide_eq_true ⟨a, ez.mp (by omega), by omega⟩))
      have := (of_decide_eq_true g).2.2
      omega
  unfold wpX_isEligible
  refine ic_X_kindOf (p := p) hs (by omega) ?_
  refine pk_eq (p 1 s % 2) 0 (fun a => ?_) (fun a => ?_)
  · exact e28 1 (by omega) ⟨fun _ => Or.inl a, fun _ => rfl⟩
  · refine And.intro hi (And.intro hi ?_)
    refine ek_if (ic_ce s (p 4 s) rfl (ic_g s rfl (by omega)) (by omega) (by omega) (by omega)) (fun b => ?_) (fun b => ?_)
    · exact e28 1 (by omega) ⟨fun _ => Or.inr b, fun _ => rfl⟩
    · exact e28 0 (by omega) ⟨fun z => by omega, fun z => by omega⟩
theorem ic_X_chl {p : Nat → Nat → Nat} {c : Nat} {post : Int32 → Prop} (hI : ic_Inv p) (hT : p 25 3 < 2 ^ 30) (hC : p 25 2 < 2 ^ 30) (hc : c < 4) : ∀ d j : Nat, j + d = 4 →
    (ic_chl p c d j = none → post (-1)) → (∀ s, ic_chl p c d j = some s → post (nI s)) → wX_chosenSlot_13 post (nI c) (nI (p 25 0)) (nI (p 25 1)) (lN (p 25 2)) (lN (p 25 3)) (nI (p 25 4)) (ic_ts (p 0)) (ic_t (p 1)) (ic_t (p 2)) (ic_t (p 3)) (ic_t8 (p 3)) (ic_t (p 4)) (ic_t (p 5)) (ic_t (p 6)) (ic_tL (p 7)) (ic_t (p 8)) (ic_t (p 9)) (ic_t (p 10)) (ic_t (p 11)) (ic_t (p 12)) (ic_t (p 13)) (ic_t (p 14)) (ic_t (p 15)) (ic_t (p 16)) (ic_t (p 17)) (ic_t (p 18)) (ic_t (p 19)) (ic_t (p 20)) (ic_t (p 21)) (ic_t (p 22)) (ic_t (p 23)) (ic_t (p 24)) (d + 1) (nI j) := by
  intro d
  induction d with
  | zero =>
    intro j hj hn _
    exact pk_le 4 j (fun _ => hn rfl) (fun h => by omega)
  | succ d ih =>
    intro j hj hn hs
    have h22 := (hI.2.2.2.2.2.2.1 c hc).1
    refine pk_le 4 j (fun h => by omega) (fun h => And.intro (vp_in_nI hc (by decide)) (And.intro (by decide) ?_))
    refine nm_r (ic_r (p 22 c + j) 4 (by rw [ic_g c rfl (by omega), nI_add]) (by omega) (by decide) (by decide)) ?_
    have nx : (ic_chl p c (d + 1) j = ic_chl p c d (j + 1)) → wX_chosenSlot_13 post (nI c) (nI (p 25 0)) (nI (p 25 1)) (lN (p 25 2)) (lN (p 25 3)) (nI (p 25 4)) (ic_ts (p 0)) (ic_t (p 1)) (ic_t (p 2)) (ic_t (p 3)) (ic_t8 (p 3)) (ic_t (p 4)) (ic_t (p 5)) (ic_t (p 6)) (ic_tL (p 7)) (ic_t (p 8)) (ic_t (p 9)) (ic_t (p 10)) (ic_t (p 11)) (ic_t (p 12)) (ic_t (p 13)) (ic_t (p 14)) (ic_t (p 15)) (ic_t (p 16)) (ic_t (p 17)) (ic_t (p 18)) (ic_t (p 19)) (ic_t (p 20)) (ic_t (p 21)) (ic_t (p 22)) (ic_t (p 23)) (ic_t (p 24)) (d + 1) (nI (j + 1)) := fun e =>
      ih (j + 1) (by omega) (fun z => hn (by rw [e]; exact z)) (fun s z => hs s (by rw [e]; exact z))
    refine ic_X_oldestPending (p := p) hI.1 hT hc (by omega) (fun ho => ?_) (fun s ho => ?_)
    · refine br_t rfl (nm_r (nI_1 j) (nx ?_))
      show (match ic_old p c ((p 22 c + j) % 4) with | none => ic_chl p c d (j + 1) | some s => if ic_eli p s = true then some s else ic_chl p c d (j + 1)) = _
      rw [ho]
    · have h32 := (ic_ff_ps ho).1
      have ec : ic_chl p c (d + 1) j = if ic_eli p s = true then some s else ic_chl p c d (j + 1) := by
        show (match ic_old p c ((p 22 c + j) % 4) with | none => ic_chl p c d (j + 1) | some s => if ic_eli p s = true then some s else ic_chl p c d (j + 1)) = _
        rw [ho]
      refine br_f (ic_nm1 (by omega)) ?_
      refine ic_X_isEligible (p := p) hI.1 hC h32 (fun e => ?_) (fun e => ?_)
      · exact br_f (by decide) (hs s (by rw [ec, if_pos e]))
      · exact br_t rfl (nm_r (nI_1 j) (nx (by rw [ec, if_neg e])))
theorem ic_X_chosenSlot {p : Nat → Nat → Nat} {c : Nat} {post : Int32 → Prop} (hI : ic_Inv p) (hT : p 25 3 < 2 ^ 30) (hC : p 25 2 < 2 ^ 30) (hc : c < 4)
    (hn : ic_cho p c = none → post (-1)) (hs : ∀ s, ic_cho p c = some s → post (nI s)) : wpX_chosenSlot post (ic_X p) (nI c) := by
  have h23 := (hI.2.2.2.2.2.2.1 c hc).2
  unfold wpX_chosenSlot ic_X
  dsimp only
  refine And.intro (vp_in_nI hc (by decide)) (ek_if (ic_ce c 0 rfl rfl (by omega) (by omega) (by decide)) (fun a => hn ?_) (fun a => ?_))
  · unfold ic_cho; rw [if_pos a]
  · have e : ic_cho p c = ic_chl p c 4 0 := by unfold ic_cho; rw [if_neg a]
    exact ⟨5, ic_X_chl hI hT hC hc 4 0 rfl (fun z => hn (by rw [e]; exact z)) (fun s z => hs s (by rw [e]; exact z))⟩
end
section
/-! the class: its answers and beats -/
theorem ic_X_fin22 {p : Nat → Nat → Nat} {s : Nat} {post : SX → Prop} (hH : p 1 s < 4) (hA : p 3 s < 32) (h2 : ic_J2 p) (hs : s < 32) (h1 : p 0 s = 1) (x : Nat) (hx : x = if p 3 s / 8 = 3 then 3 else 2) (h : post (ic_X (ic_fin p s))) : wX_finish_22 post (nI s) (nI (p 3 s / 8)) (nI x) (nI s) (nI (p 25 0)) (nI (p 25 1)) (lN (p 25 2)) (lN (p 25 3)) (nI (p 25 4)) (ic_ts (p 0)) (ic_t (p 1)) (ic_t (p 2)) (ic_t (p 3)) (ic_t8 (p 3)) (ic_t (p 4)) (ic_t (p 5)) (ic_t (p 6)) (ic_tL (p 7)) (ic_t (p 8)) (ic_t (p 9)) (ic_t (p 10)) (ic_t (p 11)) (ic_t (p 12)) (ic_t (p 13)) (ic_t (p 14)) (ic_t (p 15)) (ic_t (p 16)) (ic_t (p 17)) (ic_t (p 18)) (ic_t (p 19)) (ic_t (p 20)) (ic_t (p 21)) (ic_t (p 22)) (ic_t (p 23)) (ic_t (p 24)) := by
  have hx3 : x ≤ 3 := by rw [hx]; split <;> omega
  have hi : vp_in (nI s) 32 := vp_in_nI hs (by decide)
  have hm : vp_in (nI (p 1 s / 2)) 2 := vp_in_nI (by omega) (by decide)
  have hq : vp_in (nI (p 3 s / 8)) 4 := vp_in_nI (by omega) (by decide)
  have a1 : 1 ≤ p 20 (p 1 s / 2) := by
    rw [h2.1 _ (by omega)]
    exact ic_cn_pos hs (decide_eq_true ⟨h1, rfl⟩)
  have a2 : 1 ≤ p 21 (p 3 s / 8) := by
    rw [h2.2 _ (by omega)]
    exact ic_cn_pos hs (decide_eq_true ⟨h1, rfl⟩)
  subst hx
  unfold wX_finish_22
  refine And.intro hi (nm_r (ic_ps s _ rfl (by omega) hx3 rfl) (And.intro hi (nm_r (ic_p s (p 25 4) rfl (by omega) rfl) (And.intro hi (nm_r (ic_p s (p 25 2) rfl (by omega) (lN_i _)) (nm_r (nI_1 _) ?_))))))
  refine ic_X_managerOf (p := ic_pu (ic_pu (ic_pu (ic_pu p 0 s (if p 3 s / 8 = 3 then 3 else 2)) 8 s (p 25 4)) 9 s (p 25 2)) 25 4 (p 25 4 + 1)) (h := p 1 s) hs rfl (by omega) ?_
  refine And.intro hm (And.intro hm (nm_r (ic_p (p 1 s / 2) (p 20 (p 1 s / 2) - 1) rfl (by omega) (ic_dec _ rfl (by omega) a1)) ?_))
  refine And.intro hq (And.intro hq (nm_r (ic_p (p 3 s / 8) (p 21 (p 3 s / 8) - 1) rfl (by omega) (ic_dec _ rfl (by omega) a2)) ?_))
  exact h
theorem ic_X_finish {p : Nat → Nat → Nat} {s : Nat} {post : SX → Prop} (hH : p 1 s < 4) (hA : p 3 s < 32) (h2 : ic_J2 p) (hs : s < 32) (h1 : p 0 s = 1) (h : post (ic_X (ic_fin p s))) : wpX_finish post (ic_X p) (nI s) := by
  have hi : vp_in (nI s) 32 := vp_in_nI hs (by decide)
  unfold wpX_finish
  refine And.intro hi (nm_r (ic_g8 s rfl (by omega)) ?_)
  exact pk_eq (p 3 s / 8) 3 (fun e => ic_X_fin22 hH hA h2 hs h1 3 (if_pos e).symm h) (fun e => ic_X_fin22 hH hA h2 hs h1 2 (if_neg e).symm h)
theorem ic_X_sv9 {p : Nat → Nat → Nat} {s : Nat} {post : SX → Prop} (hI : ic_J1 p) (hs : s < 32) (h3 : p 3 s / 8 ≠ 3) (h : post (ic_X (ic_sto p s))) : ∀ d i : Nat, i + d = p 4 s →
    wX_storeValues_9 post (nI s) (nI (p 4 s)) (nI (p 25 0)) (nI (p 25 1)) (lN (p 25 2)) (lN (p 25 3)) (nI (p 25 4)) (d + 1) (nI i) (ic_ts ((ic_pf p 17 (ic_stw (p 17) (p 10) (p 3 s) (s * 4) i)) 0)) (ic_t ((ic_pf p 17 (ic_stw (p 17) (p 10) (p 3 s) (s * 4) i)) 1)) (ic_t ((ic_pf p 17 (ic_stw (p 17) (p 10) (p 3 s) (s * 4) i)) 2)) (ic_t ((ic_pf p 17 (ic_stw (p 17) (p 10) (p 3 s) (s * 4) i)) 3)) (ic_t8 ((ic_pf p 17 (ic_stw (p 17) (p 10) (p 3 s) (s * 4) i)) 3)) (ic_t ((ic_pf p 17 (ic_stw (p 17) (p 10) (p 3 s) (s * 4) i)) 4)) (ic_t ((ic_pf p 17 (ic_stw (p 17) (p 10) (p 3 s) (s * 4) i)) 5)) (ic_t ((ic_pf p 17 (ic_stw (p 17) (p 10) (p 3 s) (s * 4) i)) 6)) (ic_tL ((ic_pf p 17 (ic_stw (p 17) (p 10) (p 3 s) (s * 4) i)) 7)) (ic_t ((ic_pf p 17 (ic_stw (p 17) (p 10) (p 3 s) (s * 4) i)) 8)) (ic_t ((ic_pf p 17 (ic_stw (p 17) (p 10) (p 3 s) (s * 4) i)) 9)) (ic_t ((ic_pf p 17 (ic_stw (p 17) (p 10) (p 3 s) (s * 4) i)) 10)) (ic_t ((ic_pf p 17 (ic_stw (p 17) (p 10) (p 3 s) (s * 4) i)) 11)) (ic_t ((ic_pf p 17 (ic_stw (p 17) (p 10) (p 3 s) (s * 4) i)) 12)) (ic_t ((ic_pf p 17 (ic_stw (p 17) (p 10) (p 3 s) (s * 4) i)) 13)) (ic_t ((ic_pf p 17 (ic_stw (p 17) (p 10) (p 3 s) (s * 4) i)) 14)) (ic_t ((ic_pf p 17 (ic_stw (p 17) (p 10) (p 3 s) (s * 4) i)) 15)) (ic_t ((ic_pf p 17 (ic_stw (p 17) (p 10) (p 3 s) (s * 4) i)) 16)) (ic_t ((ic_pf p 17 (ic_stw (p 17) (p 10) (p 3 s) (s * 4) i)) 17)) (ic_t ((ic_pf p 17 (ic_stw (p 17) (p 10) (p 3 s) (s * 4) i)) 18)) (ic_t ((ic_pf p 17 (ic_stw (p 17) (p 10) (p 3 s) (s * 4) i)) 19)) (ic_t ((ic_pf p 17 (ic_stw (p 17) (p 10) (p 3 s) (s * 4) i)) 20)) (ic_t ((ic_pf p 17 (ic_stw (p 17) (p 10) (p 3 s) (s * 4) i)) 21)) (ic_t ((ic_pf p 17 (ic_stw (p 17) (p 10) (p 3 s) (s * 4) i)) 22)) (ic_t ((ic_pf p 17 (ic_stw (p 17) (p 10) (p 3 s) (s * 4) i)) 23)) (ic_t ((ic_pf p 17 (ic_stw (p 17) (p 10) (p 3 s) (s * 4) i)) 24)) := by
  have hL := hI s hs
  unfold ic_L at hL
  have hi : vp_in (nI s) 32 := vp_in_nI hs (by decide)
  intro d
  induction d with
  | zero =>
    intro i e
    refine pk_le (p 4 s) i (fun _ => ?_) (fun h => by omega)
    have e2 : i = p 4 s := by omega
    subst e2
    exact h
  | succ d ih =>
    intro i e
    refine pk_le (p 4 s) i (fun h => by omega) (fun h => And.intro hi (And.intro ?_ (And.intro ?_ ?_)))
    · rw [show nI s * 4 + nI i = nI (s * 4 + i) from ic_ma s 4 i]
      exact vp_in_nI (by omega) (by decide)
    · rw [ic_g s rfl (by omega), nI_add]
      exact vp_in_nI (by show p 3 s + i < 24; omega) (by decide)
    · refine nm_r (ic_p (p 3 s + i) (p 10 (s * 4 + i)) (by rw [ic_g s rfl (by omega), nI_add]; rfl) (by omega) (ic_g (s * 4 + i) (ic_ma s 4 i) (by omega))) (nm_r (nI_1 i) ?_)
      exact ih (i + 1) (by omega)
theorem ic_X_storeValues {p : Nat → Nat → Nat} {s : Nat} {post : SX → Prop} (hI : ic_J1 p) (hs : s < 32) (h3 : p 3 s / 8 ≠ 3) (h : post (ic_X (ic_sto p s))) : wpX_storeValues post (ic_X p) (nI s) := by
  unfold wpX_storeValues
  refine And.intro (vp_in_nI hs (by decide)) (nm_r (ic_g s rfl (by omega)) ?_)
  exact ⟨_, ic_X_sv9 hI hs h3 h (p 4 s) 0 (by omega)⟩
theorem ic_X_wr27 {p : Nat → Nat → Nat} {c s i : Nat} {post : SX → Prop} (hI : ic_J1 p) (h2 : ic_J2 p) (hs : s < 32) (hc : c < 4) (h1 : p 0 s = 1) (hi : p 2 s = i) (h : post (ic_X (ic_pu (ic_fin p s) 22 c ((i + 1) % 4)))) : wX_giveWriteResponse_27 post (nI c) (nI s) (nI (p 25 0)) (nI (p 25 1)) (lN (p 25 2)) (lN (p 25 3)) (nI (p 25 4)) (ic_ts (p 0)) (ic_t (p 1)) (ic_t (p 2)) (ic_t (p 3)) (ic_t8 (p 3)) (ic_t (p 4)) (ic_t (p 5)) (ic_t (p 6)) (ic_tL (p 7)) (ic_t (p 8)) (ic_t (p 9)) (ic_t (p 10)) (ic_t (p 11)) (ic_t (p 12)) (ic_t (p 13)) (ic_t (p 14)) (ic_t (p 15)) (ic_t (p 16)) (ic_t (p 17)) (ic_t (p 18)) (ic_t (p 19)) (ic_t (p 20)) (ic_t (p 21)) (ic_t (p 22)) (ic_t (p 23)) (ic_t (p 24)) := by
  have hL := hI s hs
  unfold ic_L at hL
  subst hi
  unfold wX_giveWriteResponse_27
  refine ic_X_finish (p := p) (by omega) (by omega) h2 hs h1 ?_
  refine And.intro (vp_in_nI hs (by decide)) (And.intro (by decide) (And.intro (vp_in_nI hc (by decide)) ?_))
  refine nm_r (ic_p c ((p 2 s + 1) % 4) rfl (by omega) (ic_r (p 2 s + 1) 4 (ic_inc s rfl (by omega)) (by omega) (by decide) (by decide))) ?_
  exact h
theorem ic_X_wr {p : Nat → Nat → Nat} {c : Nat} {post : SX → Prop} (hI : ic_Inv p) (hT : p 25 3 < 2 ^ 30) (hC : p 25 2 < 2 ^ 30) (hc : c < 4) (h : post (ic_X (ic_wr p c))) : wpX_giveWriteResponse post (ic_X p) (nI c) := by
  unfold wpX_giveWriteResponse
  refine ic_X_chosenSlot (p := p) hI hT hC hc (fun e => ?_) (fun s e => ?_)
  · refine br_t rfl ?_
    unfold ic_wr at h
    rw [e] at h
    exact h
  · obtain ⟨hs, hH, h1, _, _⟩ := ic_cho_ps e
    have hL := hI.1 s hs
    unfold ic_L at hL
    unfold ic_wr at h
    rw [e] at h
    dsimp only at h
    unfold ic_wr1 at h
    refine br_f (ic_nm1 (by omega)) (And.intro (vp_in_nI hs (by decide)) ?_)
    refine ek_if (ic_c8 s 3 rfl rfl (by omega) (by omega) (by decide)) (fun g => ?_) (fun g => ?_)
    · rw [if_pos g] at h
      exact ic_X_wr27 hI.1 hI.2.1 hs hc h1 rfl h
    · rw [if_neg g] at h
      refine ic_X_storeValues (p := p) hI.1 hs g ?_
      exact ic_X_wr27 (p := ic_sto p s) hI.1 hI.2.1 hs hc h1 rfl h
theorem ic_X_rd98 {p : Nat → Nat → Nat} {c s i : Nat} {post : SX → Prop} (hs : s < 32) (hc : c < 4) (hi : p 2 s = i) (hi4 : i < 4) (h : post (ic_X (ic_pu p 22 c ((i + 1) % 4)))) : wX_giveReadBeat_98 post (nI c) (nI s) (nI (p 25 0)) (nI (p 25 1)) (lN (p 25 2)) (lN (p 25 3)) (nI (p 25 4)) (ic_ts (p 0)) (ic_t (p 1)) (ic_t (p 2)) (ic_t (p 3)) (ic_t8 (p 3)) (ic_t (p 4)) (ic_t (p 5)) (ic_t (p 6)) (ic_tL (p 7)) (ic_t (p 8)) (ic_t (p 9)) (ic_t (p 10)) (ic_t (p 11)) (ic_t (p 12)) (ic_t (p 13)) (ic_t (p 14)) (ic_t (p 15)) (ic_t (p 16)) (ic_t (p 17)) (ic_t (p 18)) (ic_t (p 19)) (ic_t (p 20)) (ic_t (p 21)) (ic_t (p 22)) (ic_t (p 23)) (ic_t (p 24)) := by
  subst hi
  unfold wX_giveReadBeat_98
  refine And.intro (vp_in_nI hs (by decide)) (And.intro (by decide) (And.intro (vp_in_nI hc (by decide)) ?_))
  refine nm_r (ic_p c ((p 2 s + 1) % 4) rfl (by omega) (ic_r (p 2 s + 1) 4 (ic_inc s rfl (by omega)) (by omega) (by decide) (by decide))) ?_
  exact h
theorem ic_X_rd67 {p : Nat → Nat → Nat} {c s x : Nat} {post : SX → Prop} (hI : ic_J1 p) (h2 : ic_J2 p) (hs : s < 32) (hc : c < 4) (h1 : p 0 s = 1) (hH : p 1 s % 2 = 0) (hx : x = if p 3 s / 8 = 3 then 0 else p 17 (p 3 s + p 5 s)) (h : post (ic_X (ic_rd1 p c s))) : wX_giveReadBeat_67 post (nI c) (nI s) (nI x) (nI (s * 4 + p 5 s)) (nI (p 25 0)) (nI (p 25 1)) (lN (p 25 2)) (lN (p 25 3)) (nI (p 25 4)) (ic_ts (p 0)) (ic_t (p 1)) (ic_t (p 2)) (ic_t (p 3)) (ic_t8 (p 3)) (ic_t (p 4)) (ic_t (p 5)) (ic_t (p 6)) (ic_tL (p 7)) (ic_t (p 8)) (ic_t (p 9)) (ic_t (p 10)) (ic_t (p 11)) (ic_t (p 12)) (ic_t (p 13)) (ic_t (p 14)) (ic_t (p 15)) (ic_t (p 16)) (ic_t (p 17)) (ic_t (p 18)) (ic_t (p 19)) (ic_t (p 20)) (ic_t (p 21)) (ic_t (p 22)) (ic_t (p 23)) (ic_t (p 24)) := by
  have hL := hI s hs
  unfold ic_L at hL
  have hi : vp_in (nI s) 32 := vp_in_nI hs (by decide)
  subst hx
  unfold wX_giveReadBeat_67
  refine And.intro (vp_in_nI (by omega) (by decide)) (nm_r (ic_p (s * 4 + p 5 s) _ rfl (by omega) rfl) (And.intro hi (And.intro hi (nm_r (ic_p s (p 5 s + 1) rfl (by omega) (ic_inc s rfl (by omega))) (And.intro hi (And.intro hi ?_))))))
  unfold ic_rd1 at h
  refine ek_if (ic_ce s (p 4 s) rfl (ic_g s rfl (by omega)) (by omega) (by rw [ic_us]; omega) (by omega)) (fun e => ?_) (fun e => ?_)
  · rw [ic_us] at e
    rw [if_pos e] at h
    refine ic_X_finish (p := ic_bt p s) (by show p 1 s < 4; omega) (by show p 3 s < 32; omega) h2 hs h1 ?_
    exact ic_X_rd98 (p := ic_fin (ic_bt p s) s) hs hc rfl (by show p 2 s < 4; omega) h
  · rw [ic_us] at e
    rw [if_neg e] at h
    exact ic_X_rd98 (p := ic_bt p s) hs hc rfl (by show p 2 s < 4; omega) h
theorem ic_X_rd {p : Nat → Nat → Nat} {c : Nat} {post : SX → Prop} (hI : ic_Inv p) (hT : p 25 3 < 2 ^ 30) (hC : p 25 2 < 2 ^ 30) (hc : c < 4) (h0 : c % 2 = 0) (h : post (ic_X (ic_rd p c))) : wpX_giveReadBeat post (ic_X p) (nI c) := by
  unfold wpX_giveReadBeat
  refine ic_X_chosenSlot (p := p) hI hT hC hc (fun e => ?_) (fun s e => ?_)
  · refine br_t rfl ?_
    unfold ic_rd at h
    rw [e] at h
    exact h
  · obtain ⟨hs, hH, h1, _, _⟩ := ic_cho_ps e
    have hL := hI.1 s hs
    unfold ic_L at hL
    unfold ic_rd at h
    rw [e] at h
    dsimp only at h
    have hi : vp_in (nI s) 32 := vp_in_nI hs (by decide)
    have e4 : nI s * 4 + nI (p 5 s) = nI (s * 4 + p 5 s) := ic_ma s 4 (p 5 s)
    refine br_f (ic_nm1 (by omega)) (And.intro hi (nm_r (ic_g s rfl (by omega)) (And.intro hi ?_)))
    refine ek_if (ic_c8 s 3 rfl rfl (by omega) (by omega) (by decide)) (fun g => ?_) (fun g => ?_)
    · unfold wX_giveReadBeat_34
      refine br_f (by decide) ?_
      rw [e4]
      exact ic_X_rd67 hI.1 hI.2.1 hs hc h1 (by omega) (if_pos g).symm h
    · unfold wX_giveReadBeat_34
      have e3 : ic_t (p 3) (nI s).toNatClampNeg + nI (p 5 s) = nI (p 3 s + p 5 s) := by rw [ic_g s rfl (by omega), nI_add]
      refine br_t rfl (And.intro hi ?_)
      rw [e3, e4, ic_g (p 3 s + p 5 s) rfl (by omega)]
      exact And.intro (vp_in_nI (by omega) (by decide)) (ic_X_rd67 hI.1 hI.2.1 hs hc h1 (by omega) (if_neg g).symm h)
theorem ic_X_ouf {p : Nat → Nat → Nat} {m : Nat} {post : Int32 → Prop} (hI : ic_J1 p) (hT : p 25 3 < 2 ^ 30) (hm : m < 2) : ∀ d j : Nat, j + d = 32 →
    (ic_ff (p 25 3) (ic_unp p m) d j = none → post (-1)) → (∀ s, ic_ff (p 25 3) (ic_unp p m) d j = some s → post (nI s)) →
    wX_oldestUnfilledWrite_8 post (nI (m * 2 + 1)) (nI (p 25 0)) (nI (p 25 1)) (lN (p 25 2)) (lN (p 25 3)) (nI (p 25 4)) (ic_ts (p 0)) (ic_t (p 1)) (ic_t (p 2)) (ic_t (p 3)) (ic_t8 (p 3)) (ic_t (p 4)) (ic_t (p 5)) (ic_t (p 6)) (ic_tL (p 7)) (ic_t (p 8)) (ic_t (p 9)) (ic_t (p 10)) (ic_t (p 11)) (ic_t (p 12)) (ic_t (p 13)) (ic_t (p 14)) (ic_t (p 15)) (ic_t (p 16)) (ic_t (p 17)) (ic_t (p 18)) (ic_t (p 19)) (ic_t (p 20)) (ic_t (p 21)) (ic_t (p 22)) (ic_t (p 23)) (ic_t (p 24)) (d + 1) (nI j) := by
  intro d
  induction d with
  | zero =>
    intro j hj hn _
    exact pk_le 32 j (fun _ => hn rfl) (fun h => by omega)
  | succ d ih =>
    intro j hj hn hs
    refine pk_le 32 j (fun h => by omega) (fun h => ?_)
    refine ic_X_slotOf (p 25 3 + j) (by rw [nI_l (by omega), lN_add]) (by omega) ?_
    have h32 : (p 25 3 + j) % 32 < 32 := by omega
    have hL := hI _ h32
    have K : ¬ ic_unp p m ((p 25 3 + j) % 32) = true → wX_oldestUnfilledWrite_8 post (nI (m * 2 + 1)) (nI (p 25 0)) (nI (p 25 1)) (lN (p 25 2)) (lN (p 25 3)) (nI (p 25 4)) (ic_ts (p 0)) (ic_t (p 1)) (ic_t (p 2)) (ic_t (p 3)) (ic_t8 (p 3)) (ic_t (p 4)) (ic_t (p 5)) (ic_t (p 6)) (ic_tL (p 7)) (ic_t (p 8)) (ic_t (p 9)) (ic_t (p 10)) (ic_t (p 11)) (ic_t (p 12)) (ic_t (p 13)) (ic_t (p 14)) (ic_t (p 15)) (ic_t (p 16)) (ic_t (p 17)) (ic_t (p 18)) (ic_t (p 19)) (ic_t (p 20)) (ic_t (p 21)) (ic_t (p 22)) (ic_t (p 23)) (ic_t (p 24)) (d + 1) (nI (j + 1)) := fun h =>
      ih (j + 1) (by omega) (fun z => hn (by rw [ic_ff_f h]; exact z)) (fun s z => hs s (by rw [ic_ff_f h]; exact z))
    have F : ic_unp p m ((p 25 3 + j) % 32) = true → post (nI ((p 25 3 + j) % 32)) := fun h => hs _ (ic_ff_t h)
    generalize (p 25 3 + j) % 32 = s at *
    unfold ic_L at hL
    have hi32 : vp_in (nI s) 32 := vp_in_nI h32 (by decide)
    refine And.intro hi32 (ek_if (ic_ce s (m * 2 + 1) rfl rfl (by omega) (by omega) (by omega)) (fun a => ?_) (fun a => ?_))
    · refine And.intro hi32 (And.intro hi32 (pk_le (p 4 s) (p 5 s) (fun b => ?_) (fun b => ?_) (ic_g s rfl (by omega)) (ic_g s rfl (by omega))))
      · exact nm_r (nI_1 j) (K (fun z => by have := (of_decide_eq_true z).2; omega))
      · exact F (decide_eq_true ⟨a, b⟩)
    · exact nm_r (nI_1 j) (K (fun z => a (of_decide_eq_true z).1))
theorem ic_X_oldestUnfilledWrite {p : Nat → Nat → Nat} {m : Nat} {post : Int32 → Prop} (hI : ic_J1 p) (hT : p 25 3 < 2 ^ 30) (hm : m < 2)
    (hn : ic_unf p m = none → post (-1)) (hs : ∀ s, ic_unf p m = some s → post (nI s)) : wpX_oldestUnfilledWrite post (ic_X p) (nI m) := by
  unfold wpX_oldestUnfilledWrite ic_X
  dsimp only
  exact nm_r (ic_m21 m) ⟨33, ic_X_ouf hI hT hm 32 0 rfl hn hs⟩
theorem ic_X_mv {p : Nat → Nat → Nat} {m : Nat} {post : SX → Prop} (hI : ic_Inv p) (hT : p 25 3 < 2 ^ 30) (hC : p 25 2 < 2 ^ 30) (hm : m < 2) (h : post (ic_X (ic_mv p m))) : wpX_moveWriteData post (ic_X p) (nI m) := by
  unfold wpX_moveWriteData
  refine ic_X_oldestUnfilledWrite (p := p) hI.1 hT hm (fun e => ?_) (fun s e => ?_)
  · refine br_t rfl ?_
    unfold ic_mv at h
    rw [e] at h
    exact h
  · obtain ⟨hs, hH, h5⟩ := ic_unf_ps e
    have hL := hI.1 s hs
    unfold ic_L at hL
    have hW := hI.2.2.2.1 m hm
    unfold ic_mv at h
    rw [e] at h
    dsimp only at h
    have hi : vp_in (nI s) 32 := vp_in_nI hs (by decide)
    have hi2 : vp_in (nI m) 2 := vp_in_nI hm (by decide)
    refine br_f (ic_nm1 (by omega)) (And.intro hi ?_)
    refine ek_if (ic_cs s 1 rfl rfl (by omega) (by omega) (by decide)) (fun a => And.intro hi2 ?_) (fun a => ?_)
    · refine ek_if (ic_ce m 0 rfl rfl (by omega) (by omega) (by decide)) (fun b => ?_) (fun b => ?_)
      · rw [if_neg (fun z => z.2 b)] at h
        exact h
      · rw [if_pos ⟨a, b⟩] at h
        have e8 : nI m * 8 + ic_t (p 15) (nI m).toNatClampNeg = nI (m * 8 + p 15 m) := by rw [ic_g m rfl (by omega)]; exact ic_ma m 8 (p 15 m)
        have e4 : nI s * 4 + ic_t (p 5) (nI s).toNatClampNeg = nI (s * 4 + p 5 s) := by rw [ic_g s rfl (by omega)]; exact ic_ma s 4 (p 5 s)
        refine And.intro hi (And.intro hi2 (And.intro (pk_in (m * 8 + p 15 m) 16 (by omega) e8) (And.intro (pk_in (s * 4 + p 5 s) 128 (by omega) e4) ?_)))
        refine nm_r (ic_p (s * 4 + p 5 s) (p 14 (m * 8 + p 15 m)) e4 (by omega) (ic_g _ e8 (by omega))) (And.intro hi2 (And.intro (by decide) (And.intro hi2 ?_)))
        refine nm_r (ic_p m ((p 15 m + 1) % 8) rfl (by omega) (ic_r (p 15 m + 1) 8 (ic_inc m rfl (by omega)) (by omega) (by decide) (by decide))) (And.intro hi2 (And.intro hi2 ?_))
        refine nm_r (ic_p m (p 16 m - 1) rfl (by omega) (ic_dec m rfl (by omega) (by omega))) (And.intro hi (And.intro hi ?_))
        refine nm_r (ic_p s (p 5 s + 1) rfl (by omega) (ic_inc s rfl (by omega))) (And.intro hi (And.intro hi ?_))
        unfold ic_mv1 at h
        refine ek_if (ic_ce s (p 4 s) rfl (ic_g s rfl (by omega)) (by omega) (by rw [ic_us]; omega) (by omega)) (fun c => ?_) (fun c => ?_)
        · rw [ic_us] at c
          rw [if_pos c] at h
          refine And.intro hi (And.intro hi (nm_r (ic_pL s (p 25 2 + p 6 s) rfl (by omega) (by rw [ic_g s rfl (by omega), nI_l (by omega), lN_add])) ?_))
          exact h
        · rw [ic_us] at c
          rw [if_neg c] at h
          exact h
    · rw [if_neg (fun z => a z.1)] at h
      exact h
end
section
/-! the class: arbitration and the cycle -/
theorem ic_X_headOf {p : Nat → Nat → Nat} {c : Nat} {post : Int32 → Prop} (h3 : ic_J3 p) (hc : c < 4) (hn : p 13 c = 0 → post (-1)) (hs : p 13 c ≠ 0 → post (nI (ic_hd p c))) : wpX_headOf post (ic_X p) (nI c) := by
  obtain ⟨K, h4, hn4, _⟩ := h3 c hc
  have hi : vp_in (nI c) 4 := vp_in_nI hc (by decide)
  have e : nI c * 4 + ic_t (p 12) (nI c).toNatClampNeg = nI (c * 4 + p 12 c) := by rw [ic_g c rfl (by omega)]; exact ic_ma c 4 (p 12 c)
  unfold wpX_headOf ic_X
  dsimp only
  refine And.intro hi (ek_if (ic_ce c 0 rfl rfl (by omega) (by omega) (by decide)) (fun a => hn a) (fun a => ?_))
  refine And.intro hi (And.intro (pk_in (c * 4 + p 12 c) 16 (by omega) e) ?_)
  rw [ic_g _ e (by omega)]
  exact hs a
theorem ic_X_iae {p : Nat → Nat → Nat} {h : Nat} {post : Int32 → Prop} (hI : ic_J1 p) (hh : h < 32) : ∀ d j : Nat, j + d = 32 →
    (ic_ff 0 (ic_elp p h) d j = none → post 0) → (∀ s, ic_ff 0 (ic_elp p h) d j = some s → post 1) →
    wX_isActiveElsewhere_2 post (nI h) (nI (p 25 0)) (nI (p 25 1)) (lN (p 25 2)) (lN (p 25 3)) (nI (p 25 4)) (ic_ts (p 0)) (ic_t (p 1)) (ic_t (p 2)) (ic_t (p 3)) (ic_t8 (p 3)) (ic_t (p 4)) (ic_t (p 5)) (ic_t (p 6)) (ic_tL (p 7)) (ic_t (p 8)) (ic_t (p 9)) (ic_t (p 10)) (ic_t (p 11)) (ic_t (p 12)) (ic_t (p 13)) (ic_t (p 14)) (ic_t (p 15)) (ic_t (p 16)) (ic_t (p 17)) (ic_t (p 18)) (ic_t (p 19)) (ic_t (p 20)) (ic_t (p 21)) (ic_t (p 22)) (ic_t (p 23)) (ic_t (p 24)) (d + 1) (nI j) := by
  have hLh := hI h hh
  unfold ic_L at hLh
  intro d
  induction d with
  | zero =>
    intro j hj hn _
    exact pk_le 32 j (fun _ => hn rfl) (fun h => by omega)
  | succ d ih =>
    intro j hj hn hs
    refine pk_le 32 j (fun h => by omega) (fun hlt => ?_)
    have ej : (0 + j) % 32 = j := by omega
    have K : ¬ ic_elp p h j = true → wX_isActiveElsewhere_2 post (nI h) (nI (p 25 0)) (nI (p 25 1)) (lN (p 25 2)) (lN (p 25 3)) (nI (p 25 4)) (ic_ts (p 0)) (ic_t (p 1)) (ic_t (p 2)) (ic_t (p 3)) (ic_t8 (p 3)) (ic_t (p 4)) (ic_t (p 5)) (ic_t (p 6)) (ic_tL (p 7)) (ic_t (p 8)) (ic_t (p 9)) (ic_t (p 10)) (ic_t (p 11)) (ic_t (p 12)) (ic_t (p 13)) (ic_t (p 14)) (ic_t (p 15)) (ic_t (p 16)) (ic_t (p 17)) (ic_t (p 18)) (ic_t (p 19)) (ic_t (p 20)) (ic_t (p 21)) (ic_t (p 22)) (ic_t (p 23)) (ic_t (p 24)) (d + 1) (nI (j + 1)) := fun z0 =>
      ih (j + 1) (by omega) (fun z => hn (by rw [ic_ff_f (by rw [ej]; exact z0)]; exact z)) (fun s z => hs s (by rw [ic_ff_f (by rw [ej]; exact z0)]; exact z))
    have F : ic_elp p h j = true → post 1 := fun z => hs ((0 + j) % 32) (ic_ff_t (by rw [ej]; exact z))
    have hL := hI j hlt
    unfold ic_L at hL
    have hi : vp_in (nI j) 32 := vp_in_nI hlt (by decide)
    have hi2 : vp_in (nI h) 32 := vp_in_nI hh (by decide)
    refine And.intro hi (ek_if (ic_cs j 1 rfl rfl (by omega) (by omega) (by decide)) (fun a => ?_) (fun a => ?_))
    · refine And.intro hi (And.intro hi2 (ek_if (ic_ce j (p 1 h) rfl (ic_g h rfl (by omega)) (by omega) (by omega) (by omega)) (fun b => ?_) (fun b => ?_)))
      · refine And.intro hi (And.intro hi2 (ek_if (ic_ce j (p 2 h) rfl (ic_g h rfl (by omega)) (by omega) (by omega) (by omega)) (fun c => ?_) (fun c => ?_)))
        · refine And.intro hi (And.intro hi2 (ek_if (ic_c8 j (p 3 h / 8) rfl (ic_g8 h rfl (by omega)) (by omega) (by omega) (by omega)) (fun e => ?_) (fun e => ?_)))
          · exact nm_r (nI_1 j) (K (fun z => (of_decide_eq_true z).2.2.2 e))
          · exact F (decide_eq_true ⟨a, b, c, e⟩)
        · exact nm_r (nI_1 j) (K (fun z => c (of_decide_eq_true z).2.2.1))
      · exact nm_r (nI_1 j) (K (fun z => b (of_decide_eq_true z).2.1))
    · exact nm_r (nI_1 j) (K (fun z => a (of_decide_eq_true z).1))
theorem ic_X_isActiveElsewhere {p : Nat → Nat → Nat} {h : Nat} {post : Int32 → Prop} (hI : ic_J1 p) (hh : h < 32) (h0 : ic_els p h = none → post 0) (h1 : ic_els p h ≠ none → post 1) : wpX_isActiveElsewhere post (ic_X p) (nI h) := by
  unfold wpX_isActiveElsewhere ic_X
  dsimp only
  exact ⟨33, ic_X_iae hI hh 32 0 rfl h0 (fun s z => h1 (by unfold ic_els; rw [z]; exact fun w => by cases w))⟩
theorem ic_X_isCandidate {p : Nat → Nat → Nat} {m s k : Nat} {post : Int32 → Prop} (hI : ic_Inv p) (hm : m < 2) (hs : s < 4) (hk : k < 2) (h1 : ic_can p m s k = true → post 1) (h0 : ¬ ic_can p m s k = true → post 0) : wpX_isCandidate post (ic_X p) (nI m) (nI s) (nI k) := by
  obtain ⟨j1, j2, j3, j4⟩ := hI
  have hl := j4.2.2.2.2.2
  unfold wpX_isCandidate
  dsimp only [ic_X]
  rw [show nI m * 2 + nI k = nI (m * 2 + k) from ic_ma m 2 k]
  refine ic_X_headOf (p := p) j3 (by omega) (fun a => ?_) (fun a => ?_)
  · exact br_t rfl (h0 (fun z => (ic_can_ps z).1 a))
  · obtain ⟨g1, _, _, _⟩ := ic_hd_ps j3 (c := m * 2 + k) (by omega) a
    have hL := j1 _ g1
    unfold ic_L at hL
    have b1 : p 20 m ≤ 32 := by rw [j2.1 m hm]; exact ic_cn_le _ 32
    have b2 : p 21 s ≤ 32 := by rw [j2.2 s hs]; exact ic_cn_le _ 32
    refine br_f (ic_nm1 (by omega)) (And.intro (vp_in_nI g1 (by decide)) ?_)
    refine ek_if (ic_c8 _ s rfl rfl (by omega) (by omega) (by omega)) (fun b => ?_) (fun b => h0 (fun z => b (ic_can_ps z).2.1))
    refine And.intro (vp_in_nI hm (by decide)) (pk_le (p 25 0) (p 20 m) (fun c => h0 (fun z => ?_)) (fun c => ?_) rfl (ic_g m rfl (by omega)))
    · have := (ic_can_ps z).2.2.1
      omega
    · refine And.intro (vp_in_nI hs (by decide)) (pk_le (p 25 1) (p 21 s) (fun d => h0 (fun z => ?_)) (fun d => ?_) rfl (ic_g s rfl (by omega)))
      · have := (ic_can_ps z).2.2.2.1
        omega
      · refine ic_X_isActiveElsewhere (p := p) j1 g1 (fun e => ?_) (fun e => ?_)
        · exact br_t rfl (h1 (decide_eq_true ⟨a, b, c, d, e⟩))
        · exact br_f (by decide) (h0 (fun z => e (ic_can_ps z).2.2.2.2))
theorem ic_X_dropHead {p : Nat → Nat → Nat} {c : Nat} {post : SX → Prop} (hc : c < 4) (h12 : p 12 c < 4) (h13 : p 13 c ≠ 0) (h : post (ic_X (ic_dh p c))) : wpX_dropHead post (ic_X p) (nI c) := by
  have hi : vp_in (nI c) 4 := vp_in_nI hc (by decide)
  unfold wpX_dropHead
  refine And.intro hi (And.intro (by decide) (And.intro hi ?_))
  refine nm_r (ic_p c ((p 12 c + 1) % 4) rfl (by omega) (ic_r (p 12 c + 1) 4 (ic_inc c rfl (by omega)) (by omega) (by decide) (by decide))) (And.intro hi (And.intro hi ?_))
  refine nm_r (ic_p c (p 13 c - 1) rfl (by omega) (ic_dec c rfl (by omega) (by omega))) ?_
  exact h
theorem ic_X_takeLatency {p : Nat → Nat → Nat} {s l : Nat} {post : Int32 → SX → Prop} (hs : s < 4) (h19 : p 19 s < 4) (hl : ic_lat p s = l) (h : post (nI l) (ic_X (ic_tl p s))) : wpX_takeLatency post (ic_X p) (nI s) := by
  subst hl
  have hi : vp_in (nI s) 4 := vp_in_nI hs (by decide)
  have e : nI s * 4 + ic_t (p 19) (nI s).toNatClampNeg = nI (s * 4 + p 19 s) := by rw [ic_g s rfl (by omega)]; exact ic_ma s 4 (p 19 s)
  unfold ic_lat ic_tl at h
  unfold wpX_takeLatency
  refine pk_lt s 3 (fun a => ?_) (fun a => ?_)
  · rw [if_neg (by omega), if_neg (by omega)] at h
    refine And.intro hi (And.intro (pk_in (s * 4 + p 19 s) 12 (by omega) e) (nm_r (ic_g _ e (by omega)) (And.intro hi (And.intro (by decide) (And.intro hi ?_)))))
    refine nm_r (ic_p s ((p 19 s + 1) % 4) rfl (by omega) (ic_r (p 19 s + 1) 4 (ic_inc s rfl (by omega)) (by omega) (by decide) (by decide))) ?_
    exact h
  · rw [if_pos (by omega), if_pos (by omega)] at h
    exact h
theorem ic_X_accept {p : Nat → Nat → Nat} {b s l : Nat} {post : SX → Prop} (hb : b < 32) (hs : s < 4) (hH : p 1 b < 4) (h19 : p 19 s < 4) (hl : ic_lat p s = l) (hl15 : l ≤ 15) (h : post (ic_X (ic_acc p b s))) : wpX_accept post (ic_X p) (nI b) (nI s) := by
  have hi : vp_in (nI b) 32 := vp_in_nI hb (by decide)
  have hq : vp_in (nI s) 4 := vp_in_nI hs (by decide)
  have hm : vp_in (nI (p 1 b / 2)) 2 := vp_in_nI (by omega) (by decide)
  unfold wpX_accept
  refine And.intro hi (nm_r (ic_ps b 1 rfl (by omega) (by decide) rfl) ?_)
  refine ic_X_managerOf (p := ic_pu p 0 b 1) (h := p 1 b) hb rfl hH ?_
  refine And.intro hm (And.intro hm (nm_r (ic_p (p 1 b / 2) (p 20 (p 1 b / 2) + 1) rfl (by omega) (ic_inc _ rfl (by omega))) ?_))
  refine And.intro hq (And.intro hq (nm_r (ic_p s (p 21 s + 1) rfl (by omega) (ic_inc _ rfl (by omega))) ?_))
  refine ic_X_takeLatency (p := ic_pu (ic_pu (ic_pu p 0 b 1) 20 (p 1 b / 2) (p 20 (p 1 b / 2) + 1)) 21 s (p 21 s + 1)) (l := l) hs h19 hl ?_
  subst hl
  unfold ic_acc at h
  refine And.intro hi (nm_r (ic_p b (ic_lat p s) rfl (by omega) rfl) (And.intro hi (And.intro hi ?_)))
  unfold ic_tl at h ⊢
  by_cases e : s = 3
  · rw [if_pos e] at h ⊢
    refine nm_r (ic_pL b (p 25 2 + ic_lat p s) rfl (by omega) (by rw [ic_g b rfl (by omega), ic_us, nI_l (by omega)]; exact lN_add _ _)) ?_
    exact h
  · rw [if_neg e] at h ⊢
    refine nm_r (ic_pL b (p 25 2 + ic_lat p s) rfl (by omega) (by rw [ic_g b rfl (by omega), ic_us, nI_l (by omega)]; exact lN_add _ _)) ?_
    exact h
theorem ic_X_ar34 {p : Nat → Nat → Nat} {s k w : Nat} {post : SX → Prop} (hI : ic_Inv p) (hs : s < 4) (hk : k < 2) (hw : w < 2) (h1 : ic_can p w s k = true → post (ic_X (ic_ar1 p s k w))) (h0 : ¬ ic_can p w s k = true → post (ic_X p)) : wX_arbitrate_34 post (nI s) (nI k) (nI (s * 2 + k)) (nI w) (nI (p 25 0)) (nI (p 25 1)) (lN (p 25 2)) (lN (p 25 3)) (nI (p 25 4)) (ic_ts (p 0)) (ic_t (p 1)) (ic_t (p 2)) (ic_t (p 3)) (ic_t8 (p 3)) (ic_t (p 4)) (ic_t (p 5)) (ic_t (p 6)) (ic_tL (p 7)) (ic_t (p 8)) (ic_t (p 9)) (ic_t (p 10)) (ic_t (p 11)) (ic_t (p 12)) (ic_t (p 13)) (ic_t (p 14)) (ic_t (p 15)) (ic_t (p 16)) (ic_t (p 17)) (ic_t (p 18)) (ic_t (p 19)) (ic_t (p 20)) (ic_t (p 21)) (ic_t (p 22)) (ic_t (p 23)) (ic_t (p 24)) := by
  unfold wX_arbitrate_34
  refine ic_X_isCandidate (p := p) hI hw hs hk (fun c => ?_) (fun c => br_t rfl (h0 c))
  have h := h1 c
  obtain ⟨j1, j2, j3, j4⟩ := hI
  have n0 := (ic_can_ps c).1
  obtain ⟨g1, g2, g3, g4⟩ := ic_hd_ps j3 (c := w * 2 + k) (by omega) n0
  refine br_f (by decide) (nm_r (ic_ma w 2 k) ?_)
  refine ic_X_headOf (p := p) j3 (by omega) (fun a => absurd a n0) (fun a => ?_)
  refine ic_X_dropHead (p := p) (by omega) g4 n0 ?_
  refine ic_X_accept (p := ic_dh p (w * 2 + k)) (l := ic_lat p s) g1 hs (by show p 1 _ < 4; omega) (j4.2.2.1 s hs) rfl (ic_lat_le j4 hs) ?_
  refine And.intro (vp_in_nI (by omega) (by decide)) (nm_r (ic_p (s * 2 + k) (1 - w) rfl (by omega) (pk_sub (a := 1) (by omega))) ?_)
  exact h
theorem ic_X_ar {p : Nat → Nat → Nat} {s k : Nat} {post : SX → Prop} (hI : ic_Inv p) (hs : s < 4) (hk : k < 2) (h : post (ic_X (ic_ar p s k))) : wpX_arbitrate post (ic_X p) (nI s) (nI k) := by
  have h24 := hI.2.2.2.2.2.2.2.1 (s * 2 + k) (by omega)
  have h1 : ∀ w, w = ic_win p s k → ic_can p w s k = true → post (ic_X (ic_ar1 p s k w)) := by
    intro w ew c
    subst ew
    unfold ic_ar at h
    rw [if_pos c] at h
    exact h
  have h0 : ∀ w, w = ic_win p s k → ¬ ic_can p w s k = true → post (ic_X p) := by
    intro w ew c
    subst ew
    unfold ic_ar at h
    rw [if_neg c] at h
    exact h
  unfold wpX_arbitrate
  refine nm_r (ic_ma s 2 k) (And.intro (vp_in_nI (by omega) (by decide)) (nm_r (ic_g (s * 2 + k) rfl (by omega)) ?_))
  refine ic_X_isCandidate (p := p) hI (by omega) hs hk (fun c => br_f (by decide) ?_) (fun c => br_t rfl ?_)
  · have ew : p 24 (s * 2 + k) = ic_win p s k := by unfold ic_win; rw [if_pos c]
    exact ic_X_ar34 hI hs hk (by omega) (h1 _ ew) (h0 _ ew)
  · have ew : 1 - p 24 (s * 2 + k) = ic_win p s k := by unfold ic_win; rw [if_neg c]
    rw [show (1 : Int32) - nI (p 24 (s * 2 + k)) = nI (1 - p 24 (s * 2 + k)) from pk_sub (a := 1) h24]
    exact ic_X_ar34 hI hs hk (by omega) (h1 _ ew) (h0 _ ew)
theorem ic_ar_25 {p : Nat → Nat → Nat} {s k : Nat} : ic_ar p s k 25 = p 25 := by
  unfold ic_ar
  split
  · exact (@ic_ar1_f p s k _).2.2.2.2.2.2.2.2.1
  · rfl
theorem ic_mv_25 {p : Nat → Nat → Nat} {m : Nat} : ic_mv p m 25 = p 25 := by
  unfold ic_mv
  cases ic_unf p m with
  | none => rfl
  | some s =>
    dsimp only
    by_cases g : p 0 s = 1 ∧ p 16 m ≠ 0
    · rw [if_pos g]
      unfold ic_mv1
      by_cases n : p 5 s + 1 = p 4 s
      · rw [if_pos n]; rfl
      · rw [if_neg n]; rfl
    · rw [if_neg g]
theorem ic_rd_25 {p : Nat → Nat → Nat} {c : Nat} : ic_rd p c 25 2 = p 25 2 ∧ ic_rd p c 25 3 = p 25 3 := by
  unfold ic_rd
  cases ic_cho p c with
  | none => exact ⟨rfl, rfl⟩
  | some s =>
    dsimp only
    unfold ic_rd1
    by_cases n : p 5 s + 1 = p 4 s
    · rw [if_pos n]; exact ⟨rfl, rfl⟩
    · rw [if_neg n]; exact ⟨rfl, rfl⟩
theorem ic_wr_25 {p : Nat → Nat → Nat} {c : Nat} : ic_wr p c 25 2 = p 25 2 ∧ ic_wr p c 25 3 = p 25 3 := by
  unfold ic_wr
  cases ic_cho p c with
  | none => exact ⟨rfl, rfl⟩
  | some s =>
    dsimp only
    unfold ic_wr1
    by_cases n : p 3 s / 8 = 3
    · rw [if_pos n]; exact ⟨rfl, rfl⟩
    · rw [if_neg n]; exact ⟨rfl, rfl⟩
end
section
/-! the class: one cycle, n cycles -/
theorem ic_X_74 {p : Nat → Nat → Nat} {post : SX → Prop} {n i : Nat} (hI : ic_Inv p) (hi : i < 4) (h : wX_runCycle_74 post n (nI (i + 1)) (nI ((ic_ar (ic_ar p i 1) i 0) 25 0)) (nI ((ic_ar (ic_ar p i 1) i 0) 25 1)) (lN ((ic_ar (ic_ar p i 1) i 0) 25 2)) (lN ((ic_ar (ic_ar p i 1) i 0) 25 3)) (nI ((ic_ar (ic_ar p i 1) i 0) 25 4)) (ic_ts ((ic_ar (ic_ar p i 1) i 0) 0)) (ic_t ((ic_ar (ic_ar p i 1) i 0) 1)) (ic_t ((ic_ar (ic_ar p i 1) i 0) 2)) (ic_t ((ic_ar (ic_ar p i 1) i 0) 3)) (ic_t8 ((ic_ar (ic_ar p i 1) i 0) 3)) (ic_t ((ic_ar (ic_ar p i 1) i 0) 4)) (ic_t ((ic_ar (ic_ar p i 1) i 0) 5)) (ic_t ((ic_ar (ic_ar p i 1) i 0) 6)) (ic_tL ((ic_ar (ic_ar p i 1) i 0) 7)) (ic_t ((ic_ar (ic_ar p i 1) i 0) 8)) (ic_t ((ic_ar (ic_ar p i 1) i 0) 9)) (ic_t ((ic_ar (ic_ar p i 1) i 0) 10)) (ic_t ((ic_ar (ic_ar p i 1) i 0) 11)) (ic_t ((ic_ar (ic_ar p i 1) i 0) 12)) (ic_t ((ic_ar (ic_ar p i 1) i 0) 13)) (ic_t ((ic_ar (ic_ar p i 1) i 0) 14)) (ic_t ((ic_ar (ic_ar p i 1) i 0) 15)) (ic_t ((ic_ar (ic_ar p i 1) i 0) 16)) (ic_t ((ic_ar (ic_ar p i 1) i 0) 17)) (ic_t ((ic_ar (ic_ar p i 1) i 0) 18)) (ic_t ((ic_ar (ic_ar p i 1) i 0) 19)) (ic_t ((ic_ar (ic_ar p i 1) i 0) 20)) (ic_t ((ic_ar (ic_ar p i 1) i 0) 21)) (ic_t ((ic_ar (ic_ar p i 1) i 0) 22)) (ic_t ((ic_ar (ic_ar p i 1) i 0) 23)) (ic_t ((ic_ar (ic_ar p i 1) i 0) 24))) : wX_runCycle_74 post (n + 1) (nI i) (nI (p 25 0)) (nI (p 25 1)) (lN (p 25 2)) (lN (p 25 3)) (nI (p 25 4)) (ic_ts (p 0)) (ic_t (p 1)) (ic_t (p 2)) (ic_t (p 3)) (ic_t8 (p 3)) (ic_t (p 4)) (ic_t (p 5)) (ic_t (p 6)) (ic_tL (p 7)) (ic_t (p 8)) (ic_t (p 9)) (ic_t (p 10)) (ic_t (p 11)) (ic_t (p 12)) (ic_t (p 13)) (ic_t (p 14)) (ic_t (p 15)) (ic_t (p 16)) (ic_t (p 17)) (ic_t (p 18)) (ic_t (p 19)) (ic_t (p 20)) (ic_t (p 21)) (ic_t (p 22)) (ic_t (p 23)) (ic_t (p 24)) := by
  refine pk_le 4 i (fun h => by omega) (fun _ => ?_)
  refine ic_X_ar (p := p) (k := 1) hI hi (by decide) ?_
  refine ic_X_ar (p := ic_ar p i 1) (k := 0) (ic_ar_Inv hI hi (by decide)) hi (by decide) ?_
  exact nm_r (nI_1 i) h
theorem ic_X_56 {p : Nat → Nat → Nat} {post : SX → Prop} {n m : Nat} (hI : ic_Inv p) (hT : p 25 3 < 2 ^ 30) (hC : p 25 2 < 2 ^ 30) (hm : m < 2) (h : wX_runCycle_56 post n (nI (m + 1)) (nI ((ic_mv p m) 25 0)) (nI ((ic_mv p m) 25 1)) (lN ((ic_mv p m) 25 2)) (lN ((ic_mv p m) 25 3)) (nI ((ic_mv p m) 25 4)) (ic_ts ((ic_mv p m) 0)) (ic_t ((ic_mv p m) 1)) (ic_t ((ic_mv p m) 2)) (ic_t ((ic_mv p m) 3)) (ic_t8 ((ic_mv p m) 3)) (ic_t ((ic_mv p m) 4)) (ic_t ((ic_mv p m) 5)) (ic_t ((ic_mv p m) 6)) (ic_tL ((ic_mv p m) 7)) (ic_t ((ic_mv p m) 8)) (ic_t ((ic_mv p m) 9)) (ic_t ((ic_mv p m) 10)) (ic_t ((ic_mv p m) 11)) (ic_t ((ic_mv p m) 12)) (ic_t ((ic_mv p m) 13)) (ic_t ((ic_mv p m) 14)) (ic_t ((ic_mv p m) 15)) (ic_t ((ic_mv p m) 16)) (ic_t ((ic_mv p m) 17)) (ic_t ((ic_mv p m) 18)) (ic_t ((ic_mv p m) 19)) (ic_t ((ic_mv p m) 20)) (ic_t ((ic_mv p m) 21)) (ic_t ((ic_mv p m) 22)) (ic_t ((ic_mv p m) 23)) (ic_t ((ic_mv p m) 24))) : wX_runCycle_56 post (n + 1) (nI m) (nI (p 25 0)) (nI (p 25 1)) (lN (p 25 2)) (lN (p 25 3)) (nI (p 25 4)) (ic_ts (p 0)) (ic_t (p 1)) (ic_t (p 2)) (ic_t (p 3)) (ic_t8 (p 3)) (ic_t (p 4)) (ic_t (p 5)) (ic_t (p 6)) (ic_tL (p 7)) (ic_t (p 8)) (ic_t (p 9)) (ic_t (p 10)) (ic_t (p 11)) (ic_t (p 12)) (ic_t (p 13)) (ic_t (p 14)) (ic_t (p 15)) (ic_t (p 16)) (ic_t (p 17)) (ic_t (p 18)) (ic_t (p 19)) (ic_t (p 20)) (ic_t (p 21)) (ic_t (p 22)) (ic_t (p 23)) (ic_t (p 24)) := by
  refine pk_le 2 m (fun h => by omega) (fun _ => ?_)
  refine ic_X_mv (p := p) hI hT hC hm ?_
  exact nm_r (nI_1 m) h
theorem ic_X_34 {p : Nat → Nat → Nat} {post : SX → Prop} {n m : Nat} (hI : ic_Inv p) (hT : p 25 3 < 2 ^ 30) (hC : p 25 2 < 2 ^ 30) (hm : m < 2) (h : wX_runCycle_34 post n (nI (m + 1)) (nI ((ic_rd p (m * 2)) 25 0)) (nI ((ic_rd p (m * 2)) 25 1)) (lN ((ic_rd p (m * 2)) 25 2)) (lN ((ic_rd p (m * 2)) 25 3)) (nI ((ic_rd p (m * 2)) 25 4)) (ic_ts ((ic_rd p (m * 2)) 0)) (ic_t ((ic_rd p (m * 2)) 1)) (ic_t ((ic_rd p (m * 2)) 2)) (ic_t ((ic_rd p (m * 2)) 3)) (ic_t8 ((ic_rd p (m * 2)) 3)) (ic_t ((ic_rd p (m * 2)) 4)) (ic_t ((ic_rd p (m * 2)) 5)) (ic_t ((ic_rd p (m * 2)) 6)) (ic_tL ((ic_rd p (m * 2)) 7)) (ic_t ((ic_rd p (m * 2)) 8)) (ic_t ((ic_rd p (m * 2)) 9)) (ic_t ((ic_rd p (m * 2)) 10)) (ic_t ((ic_rd p (m * 2)) 11)) (ic_t ((ic_rd p (m * 2)) 12)) (ic_t ((ic_rd p (m * 2)) 13)) (ic_t ((ic_rd p (m * 2)) 14)) (ic_t ((ic_rd p (m * 2)) 15)) (ic_t ((ic_rd p (m * 2)) 16)) (ic_t ((ic_rd p (m * 2)) 17)) (ic_t ((ic_rd p (m * 2)) 18)) (ic_t ((ic_rd p (m * 2)) 19)) (ic_t ((ic_rd p (m * 2)) 20)) (ic_t ((ic_rd p (m * 2)) 21)) (ic_t ((ic_rd p (m * 2)) 22)) (ic_t ((ic_rd p (m * 2)) 23)) (ic_t ((ic_rd p (m * 2)) 24))) : wX_runCycle_34 post (n + 1) (nI m) (nI (p 25 0)) (nI (p 25 1)) (lN (p 25 2)) (lN (p 25 3)) (nI (p 25 4)) (ic_ts (p 0)) (ic_t (p 1)) (ic_t (p 2)) (ic_t (p 3)) (ic_t8 (p 3)) (ic_t (p 4)) (ic_t (p 5)) (ic_t (p 6)) (ic_tL (p 7)) (ic_t (p 8)) (ic_t (p 9)) (ic_t (p 10)) (ic_t (p 11)) (ic_t (p 12)) (ic_t (p 13)) (ic_t (p 14)) (ic_t (p 15)) (ic_t (p 16)) (ic_t (p 17)) (ic_t (p 18)) (ic_t (p 19)) (ic_t (p 20)) (ic_t (p 21)) (ic_t (p 22)) (ic_t (p 23)) (ic_t (p 24)) := by
  refine pk_le 2 m (fun h => by omega) (fun _ => ?_)
  rw [show nI m * 2 + 0 = nI (m * 2) from ic_ma m 2 0]
  refine ic_X_rd (p := p) hI hT hC (by omega) (by omega) ?_
  exact nm_r (nI_1 m) h
theorem ic_X_12 {p : Nat → Nat → Nat} {post : SX → Prop} {n m : Nat} (hI : ic_Inv p) (hT : p 25 3 < 2 ^ 30) (hC : p 25 2 < 2 ^ 30) (hm : m < 2) (h : wX_runCycle_12 post n (nI (m + 1)) (nI ((ic_wr p (m * 2 + 1)) 25 0)) (nI ((ic_wr p (m * 2 + 1)) 25 1)) (lN ((ic_wr p (m * 2 + 1)) 25 2)) (lN ((ic_wr p (m * 2 + 1)) 25 3)) (nI ((ic_wr p (m * 2 + 1)) 25 4)) (ic_ts ((ic_wr p (m * 2 + 1)) 0)) (ic_t ((ic_wr p (m * 2 + 1)) 1)) (ic_t ((ic_wr p (m * 2 + 1)) 2)) (ic_t ((ic_wr p (m * 2 + 1)) 3)) (ic_t8 ((ic_wr p (m * 2 + 1)) 3)) (ic_t ((ic_wr p (m * 2 + 1)) 4)) (ic_t ((ic_wr p (m * 2 + 1)) 5)) (ic_t ((ic_wr p (m * 2 + 1)) 6)) (ic_tL ((ic_wr p (m * 2 + 1)) 7)) (ic_t ((ic_wr p (m * 2 + 1)) 8)) (ic_t ((ic_wr p (m * 2 + 1)) 9)) (ic_t ((ic_wr p (m * 2 + 1)) 10)) (ic_t ((ic_wr p (m * 2 + 1)) 11)) (ic_t ((ic_wr p (m * 2 + 1)) 12)) (ic_t ((ic_wr p (m * 2 + 1)) 13)) (ic_t ((ic_wr p (m * 2 + 1)) 14)) (ic_t ((ic_wr p (m * 2 + 1)) 15)) (ic_t ((ic_wr p (m * 2 + 1)) 16)) (ic_t ((ic_wr p (m * 2 + 1)) 17)) (ic_t ((ic_wr p (m * 2 + 1)) 18)) (ic_t ((ic_wr p (m * 2 + 1)) 19)) (ic_t ((ic_wr p (m * 2 + 1)) 20)) (ic_t ((ic_wr p (m * 2 + 1)) 21)) (ic_t ((ic_wr p (m * 2 + 1)) 22)) (ic_t ((ic_wr p (m * 2 + 1)) 23)) (ic_t ((ic_wr p (m * 2 + 1)) 24))) : wX_runCycle_12 post (n + 1) (nI m) (nI (p 25 0)) (nI (p 25 1)) (lN (p 25 2)) (lN (p 25 3)) (nI (p 25 4)) (ic_ts (p 0)) (ic_t (p 1)) (ic_t (p 2)) (ic_t (p 3)) (ic_t8 (p 3)) (ic_t (p 4)) (ic_t (p 5)) (ic_t (p 6)) (ic_tL (p 7)) (ic_t (p 8)) (ic_t (p 9)) (ic_t (p 10)) (ic_t (p 11)) (ic_t (p 12)) (ic_t (p 13)) (ic_t (p 14)) (ic_t (p 15)) (ic_t (p 16)) (ic_t (p 17)) (ic_t (p 18)) (ic_t (p 19)) (ic_t (p 20)) (ic_t (p 21)) (ic_t (p 22)) (ic_t (p 23)) (ic_t (p 24)) := by
  refine pk_le 2 m (fun h => by omega) (fun _ => ?_)
  rw [show nI m * 2 + 1 = nI (m * 2 + 1) from ic_ma m 2 1]
  refine ic_X_wr (p := p) hI hT hC (by omega) ?_
  exact nm_r (nI_1 m) h
theorem ic_X_cy2 {p : Nat → Nat → Nat} {post : SX → Prop} (hI : ic_Inv p) (h : post (ic_X (ic_cy2 p))) : wX_runCycle_74 post 5 (nI 0) (nI (p 25 0)) (nI (p 25 1)) (lN (p 25 2)) (lN (p 25 3)) (nI (p 25 4)) (ic_ts (p 0)) (ic_t (p 1)) (ic_t (p 2)) (ic_t (p 3)) (ic_t8 (p 3)) (ic_t (p 4)) (ic_t (p 5)) (ic_t (p 6)) (ic_tL (p 7)) (ic_t (p 8)) (ic_t (p 9)) (ic_t (p 10)) (ic_t (p 11)) (ic_t (p 12)) (ic_t (p 13)) (ic_t (p 14)) (ic_t (p 15)) (ic_t (p 16)) (ic_t (p 17)) (ic_t (p 18)) (ic_t (p 19)) (ic_t (p 20)) (ic_t (p 21)) (ic_t (p 22)) (ic_t (p 23)) (ic_t (p 24)) := by
  refine ic_X_74 hI (by decide) ?_
  have h1 := ic_ar_Inv (s := 0) (k := 0) (ic_ar_Inv (s := 0) (k := 1) hI (by decide) (by decide)) (by decide) (by decide)
  refine ic_X_74 h1 (by decide) ?_
  have h2 := ic_ar_Inv (s := 1) (k := 0) (ic_ar_Inv (s := 1) (k := 1) h1 (by decide) (by decide)) (by decide) (by decide)
  refine ic_X_74 h2 (by decide) ?_
  have h3 := ic_ar_Inv (s := 2) (k := 0) (ic_ar_Inv (s := 2) (k := 1) h2 (by decide) (by decide)) (by decide) (by decide)
  refine ic_X_74 h3 (by decide) ?_
  exact pk_le 4 4 (fun _ => h) (fun z => by omega)
theorem ic_X_cy1 {p : Nat → Nat → Nat} {post : SX → Prop} (hI : ic_Inv p) (hT : p 25 3 < 2 ^ 30) (hC : p 25 2 < 2 ^ 30) (h : post (ic_X (ic_cy2 (ic_cy1 p)))) : wX_runCycle_12 post 3 (nI 0) (nI (p 25 0)) (nI (p 25 1)) (lN (p 25 2)) (lN (p 25 3)) (nI (p 25 4)) (ic_ts (p 0)) (ic_t (p 1)) (ic_t (p 2)) (ic_t (p 3)) (ic_t8 (p 3)) (ic_t (p 4)) (ic_t (p 5)) (ic_t (p 6)) (ic_tL (p 7)) (ic_t (p 8)) (ic_t (p 9)) (ic_t (p 10)) (ic_t (p 11)) (ic_t (p 12)) (ic_t (p 13)) (ic_t (p 14)) (ic_t (p 15)) (ic_t (p 16)) (ic_t (p 17)) (ic_t (p 18)) (ic_t (p 19)) (ic_t (p 20)) (ic_t (p 21)) (ic_t (p 22)) (ic_t (p 23)) (ic_t (p 24)) := by
  have e1 := @ic_wr_25 p 1
  have e2 := @ic_wr_25 (ic_wr p 1) 3
  have e3 := @ic_rd_25 (ic_wr (ic_wr p 1) 3) 0
  have e4 := @ic_rd_25 (ic_rd (ic_wr (ic_wr p 1) 3) 0) 2
  have e5 := @ic_mv_25 (ic_rd (ic_rd (ic_wr (ic_wr p 1) 3) 0) 2) 0
  have i1 := ic_wr_Inv (c := 1) hI
  have i2 := ic_wr_Inv (c := 3) i1
  have i3 := ic_rd_Inv (c := 0) i2 (by decide)
  have i4 := ic_rd_Inv (c := 2) i3 (by decide)
  have i5 := ic_mv_Inv (m := 0) i4
  have i6 := ic_mv_Inv (m := 1) i5
  have t1 : ic_wr p 1 25 3 < 2 ^ 30 := by omega
  have c1 : ic_wr p 1 25 2 < 2 ^ 30 := by omega
  have t2 : ic_wr (ic_wr p 1) 3 25 3 < 2 ^ 30 := by omega
  have c2 : ic_wr (ic_wr p 1) 3 25 2 < 2 ^ 30 := by omega
  have t3 : ic_rd (ic_wr (ic_wr p 1) 3) 0 25 3 < 2 ^ 30 := by omega
  have c3 : ic_rd (ic_wr (ic_wr p 1) 3) 0 25 2 < 2 ^ 30 := by omega
  have t4 : ic_rd (ic_rd (ic_wr (ic_wr p 1) 3) 0) 2 25 3 < 2 ^ 30 := by omega
  have c4 : ic_rd (ic_rd (ic_wr (ic_wr p 1) 3) 0) 2 25 2 < 2 ^ 30 := by omega
  have t5 : ic_mv (ic_rd (ic_rd (ic_wr (ic_wr p 1) 3) 0) 2) 0 25 3 < 2 ^ 30 := by rw [e5]; exact t4
  have c5 : ic_mv (ic_rd (ic_rd (ic_wr (ic_wr p 1) 3) 0) 2) 0 25 2 < 2 ^ 30 := by rw [e5]; exact c4
  refine ic_X_12 (m := 0) hI hT hC (by decide) ?_
  refine ic_X_12 (m := 1) i1 t1 c1 (by decide) ?_
  refine pk_le 2 2 (fun _ => ⟨3, ?_⟩) (fun z => by omega)
  refine ic_X_34 (m := 0) i2 t2 c2 (by decide) ?_
  refine ic_X_34 (m := 1) i3 t3 c3 (by decide) ?_
  refine pk_le 2 2 (fun _ => ⟨3, ?_⟩) (fun z => by omega)
  refine ic_X_56 (m := 0) i4 t4 c4 (by decide) ?_
  refine ic_X_56 (m := 1) i5 t5 c5 (by decide) ?_
  refine pk_le 2 2 (fun _ => ⟨5, ?_⟩) (fun z => by omega)
  exact ic_X_cy2 i6 h
theorem ic_X_runCycle {p : Nat → Nat → Nat} {post : SX → Prop} (hI : ic_Inv p) (hT : p 25 3 < 2 ^ 30) (hC : p 25 2 + 1 < 2 ^ 30) (h : post (ic_X (ic_cyc p))) : wpX_runCycle post (ic_X p) := by
  unfold wpX_runCycle
  refine nm_r (lN_1 _) ⟨3, ?_⟩
  exact ic_X_cy1 (p := ic_pu p 25 2 (p 25 2 + 1)) (ic_c1_Inv hI) hT hC h
theorem ic_cy2_25 {p : Nat → Nat → Nat} : ic_cy2 p 25 = p 25 := by
  unfold ic_cy2
  rw [ic_ar_25, ic_ar_25, ic_ar_25, ic_ar_25, ic_ar_25, ic_ar_25, ic_ar_25, ic_ar_25]
theorem ic_cy1_25 {p : Nat → Nat → Nat} : ic_cy1 p 25 2 = p 25 2 ∧ ic_cy1 p 25 3 = p 25 3 := by
  unfold ic_cy1
  rw [ic_mv_25, ic_mv_25]
  have e1 := @ic_wr_25 p 1
  have e2 := @ic_wr_25 (ic_wr p 1) 3
  have e3 := @ic_rd_25 (ic_wr (ic_wr p 1) 3) 0
  have e4 := @ic_rd_25 (ic_rd (ic_wr (ic_wr p 1) 3) 0) 2
  omega
theorem ic_cyc_25 {p : Nat → Nat → Nat} : ic_cyc p 25 2 = p 25 2 + 1 ∧ ic_cyc p 25 3 = p 25 3 := by
  unfold ic_cyc
  rw [ic_cy2_25]
  exact ic_cy1_25 (p := ic_pu p 25 2 (p 25 2 + 1))
theorem ic_run_Inv : ∀ (n : Nat) (p : Nat → Nat → Nat), ic_Inv p → ic_Inv (ic_run n p) ∧ ic_run n p 25 2 = p 25 2 + n ∧ ic_run n p 25 3 = p 25 3 := by
  intro n
  induction n with
  | zero => intro p h; exact ⟨h, rfl, rfl⟩
  | succ n ih =>
    intro p h
    have h1 := ih (ic_cyc p) (ic_cyc_Inv h)
    have e := @ic_cyc_25 p
    refine ⟨h1.1, ?_, ?_⟩
    · show ic_run n (ic_cyc p) 25 2 = _
      omega
    · show ic_run n (ic_cyc p) 25 3 = _
      omega
theorem ic_X_st {n : Nat} {post : Int32 → SX → Prop} (hn : n ≤ 64) : ∀ (d i : Nat) (p : Nat → Nat → Nat), i + d = n → ic_Inv p → p 25 3 < 2 ^ 30 → p 25 2 + d < 2 ^ 30 → post 1 (ic_X (ic_run d p)) → wX_step_15 post (nI n) (d + 1) (nI i) (nI (p 25 0)) (nI (p 25 1)) (lN (p 25 2)) (lN (p 25 3)) (nI (p 25 4)) (ic_ts (p 0)) (ic_t (p 1)) (ic_t (p 2)) (ic_t (p 3)) (ic_t8 (p 3)) (ic_t (p 4)) (ic_t (p 5)) (ic_t (p 6)) (ic_tL (p 7)) (ic_t (p 8)) (ic_t (p 9)) (ic_t (p 10)) (ic_t (p 11)) (ic_t (p 12)) (ic_t (p 13)) (ic_t (p 14)) (ic_t (p 15)) (ic_t (p 16)) (ic_t (p 17)) (ic_t (p 18)) (ic_t (p 19)) (ic_t (p 20)) (ic_t (p 21)) (ic_t (p 22)) (ic_t (p 23)) (ic_t (p 24)) := by
  intro d
  induction d with
  | zero =>
    intro i p hi _ _ _ h
    exact pk_le n i (fun _ => h) (fun z => by omega)
  | succ d ih =>
    intro i p hi hI hT hC h
    have e := @ic_cyc_25 p
    refine pk_le n i (fun z => by omega) (fun _ => ?_)
    refine ic_X_runCycle (p := p) hI hT (by omega) ?_
    exact nm_r (nI_1 i) (ih (i + 1) (ic_cyc p) (by omega) (ic_cyc_Inv hI) (by omega) (by omega) h)
end
section
/-! the class: its public methods -/
theorem ic_ge {v : Int32} {n : Nat} (hn : n + 1 < 2 ^ 31) (h : nI (n + 1) ≤ v) : ¬ v < 0 ∧ nI n < v ∧ ¬ v ≤ nI n ∧ ¬ v < nI (n + 1) := by
  rw [Int32.le_iff_toInt_le, nI_toInt hn] at h
  rw [Int32.lt_iff_toInt_lt, Int32.lt_iff_toInt_lt, Int32.le_iff_toInt_le, Int32.lt_iff_toInt_lt, nI_toInt hn, nI_toInt (by omega : n < 2 ^ 31)]
  have h0 : (0 : Int32).toInt = 0 := by decide
  omega
def ic_ok (v1 v2 v3 v4 : Int32) : Prop := ∃ m i a l : Nat, m < 2 ∧ i < 4 ∧ a < 32 ∧ 1 ≤ l ∧ l ≤ 4 ∧ a % 8 + l ≤ 8 ∧ v1 = nI m ∧ v2 = nI i ∧ v3 = nI a ∧ v4 = nI l
theorem ic_ix {v : Int32} {n : Nat} (hn : n < 2 ^ 31) (h0 : ¬ v < 0) (h1 : ¬ nI n ≤ v) : ∃ j, j < n ∧ v = nI j := by
  rcases pk_ix v hn with h | h | h
  · exact absurd h h0
  · exact absurd h h1
  · exact h
theorem ic_ix1 {v : Int32} {n : Nat} (hn : n < 2 ^ 31) (h0 : ¬ v < 1) (h1 : ¬ nI n < v) : ∃ j, 1 ≤ j ∧ j ≤ n ∧ v = nI j := by
  have h2 : ¬ v < 0 := fun z => h0 (by
    rw [Int32.lt_iff_toInt_lt] at z ⊢
    have e0 : (0 : Int32).toInt = 0 := by decide
    have e1 : (1 : Int32).toInt = 1 := by decide
    omega)
  obtain ⟨j, hj, e⟩ := nI_of h2
  subst e
  refine ⟨j, ?_, ?_, rfl⟩
  · rcases Nat.lt_or_ge j 1 with z | z
    · exact absurd (show nI j < nI 1 from nI_lt z (by decide)) h0
    · exact z
  · rcases Nat.lt_or_ge n j with z | z
    · exact absurd (nI_lt z hj) h1
    · exact z
theorem ic_X_mgr {m : Nat} {post : Int32 → Prop} (hm : m < 2) (h : post 1) : wpX_isManager post (nI m) := by
  unfold wpX_isManager
  exact br_f (nI_pos (by omega)) (pk_le 2 m (fun z => by omega) (fun _ => h))
theorem ic_X_mgrF {v : Int32} {post : Int32 → Prop} (hv : ¬ ∃ m, m < 2 ∧ v = nI m) (h : post 0) : wpX_isManager post v := by
  unfold wpX_isManager
  exact br_c (fun _ => h) (fun a => br_c (fun _ => h) (fun b => absurd (ic_ix (n := 2) (by decide) a b) hv))
theorem ic_X_burst {i a l : Nat} {post : Int32 → Prop} (hi : i < 4) (ha : a < 32) (h1 : 1 ≤ l) (h4 : l ≤ 4) (h8 : a % 8 + l ≤ 8) (h : post 1) : wpX_isBurst post (nI i) (nI a) (nI l) := by
  unfold wpX_isBurst
  refine br_f (nI_pos (by omega)) (pk_le 4 i (fun z => by omega) (fun _ => br_f (nI_pos (by omega)) (pk_le 32 a (fun z => by omega) (fun _ => pk_lt l 1 (fun z => by omega) (fun _ => pk_lt 4 l (fun z => by omega) (fun _ => And.intro (by decide) ?_))))))
  exact pk_lt 8 (a % 8 + l) (fun z => by omega) (fun _ => h) rfl (by rw [show nI a - nI a / 8 * 8 = nI (a % 8) from ic_r a 8 rfl (by omega) (by decide) (by decide), nI_add])
theorem ic_X_burstF {v2 v3 v4 : Int32} {post : Int32 → Prop} (hv : ¬ ∃ i a l : Nat, i < 4 ∧ a < 32 ∧ 1 ≤ l ∧ l ≤ 4 ∧ a % 8 + l ≤ 8 ∧ v2 = nI i ∧ v3 = nI a ∧ v4 = nI l) (h : post 0) : wpX_isBurst post v2 v3 v4 := by
  unfold wpX_isBurst
  refine br_c (fun _ => h) (fun b1 => br_c (fun _ => h) (fun b2 => br_c (fun _ => h) (fun b3 => br_c (fun _ => h) (fun b4 => br_c (fun _ => h) (fun b5 => br_c (fun _ => h) (fun b6 => And.intro (by decide) (br_c (fun _ => h) (fun b7 => ?_))))))))
  obtain ⟨i, hi, ei⟩ := ic_ix (n := 4) (by decide) b1 b2
  obtain ⟨a, ha, ea⟩ := ic_ix (n := 32) (by decide) b3 b4
  obtain ⟨l, h1, h4, el⟩ := ic_ix1 (n := 4) (by decide) b5 b6
  subst ei ea el
  have e : nI a - nI a / 8 * 8 + nI l = nI (a % 8 + l) := by rw [show nI a - nI a / 8 * 8 = nI (a % 8) from ic_r a 8 rfl (by omega) (by decide) (by decide), nI_add]
  rw [e] at b7
  refine absurd ⟨i, a, l, hi, ha, h1, h4, ?_, rfl, rfl, rfl⟩ hv
  rcases Nat.lt_or_ge 8 (a % 8 + l) with z | z
  · exact absurd (show nI 8 < nI (a % 8 + l) from nI_lt z (by omega)) b7
  · exact z
theorem ic_X_issueF {p : Nat → Nat → Nat} {k v1 v2 v3 v4 : Int32} {post : Int32 → SX → Prop} (hv : ¬ ic_ok v1 v2 v3 v4) (h : post (-1) (ic_X p)) : wpX_issue post (ic_X p) k v1 v2 v3 v4 := by
  unfold wpX_issue
  by_cases hm : ∃ m, m < 2 ∧ v1 = nI m
  · obtain ⟨m, hm, e⟩ := hm
    subst e
    refine ic_X_mgr hm (br_f (by decide) ?_)
    refine ic_X_burstF ?_ (br_t rfl h)
    intro ⟨i, a, l, h1, h2, h3, h4, h5, h6, h7, h8⟩
    exact hv ⟨m, i, a, l, hm, h1, h2, h3, h4, h5, rfl, h6, h7, h8⟩
  · exact ic_X_mgrF hm (br_t rfl h)
theorem ic_X_enqueue {p : Nat → Nat → Nat} {c s : Nat} {post : SX → Prop} (hc : c < 4) (h12 : p 12 c < 4) (h13 : p 13 c ≤ 4) (h : post (ic_X (ic_pu (ic_pu p 11 (c * 4 + (p 12 c + p 13 c) % 4) s) 13 c (p 13 c + 1)))) : wpX_enqueue post (ic_X p) (nI c) (nI s) := by
  have hi : vp_in (nI c) 4 := vp_in_nI hc (by decide)
  have e : nI c * 4 + nI ((p 12 c + p 13 c) % 4) = nI (c * 4 + (p 12 c + p 13 c) % 4) := ic_ma c 4 _
  unfold wpX_enqueue
  refine And.intro hi (And.intro hi (And.intro (by decide) (nm_r (ic_r (p 12 c + p 13 c) 4 (by rw [ic_g c rfl (by omega), ic_g c rfl (by omega), nI_add]) (by omega) (by decide) (by decide)) ?_)))
  refine And.intro (pk_in (c * 4 + (p 12 c + p 13 c) % 4) 16 (by omega) e) (nm_r (ic_p _ s e (by omega) rfl) (And.intro hi (And.intro hi (nm_r (ic_p c (p 13 c + 1) rfl (by omega) (ic_inc c rfl (by omega))) ?_))))
  exact h
theorem ic_X_issue {p : Nat → Nat → Nat} {k m i a l : Nat} {post : Int32 → SX → Prop} (hI : ic_Inv p) (hT : p 25 3 < 2 ^ 30) (hk : k < 2) (hm : m < 2) (hi : i < 4) (ha : a < 32) (h1 : 1 ≤ l) (h4 : l ≤ 4) (h8 : a % 8 + l ≤ 8)
    (hf : p 13 (m * 2 + k) = 4 → post (-2) (ic_X p)) (hs : p 13 (m * 2 + k) ≠ 4 → p 0 (p 25 3 % 32) ≤ 1 → post (-3) (ic_X p)) (hg : p 13 (m * 2 + k) ≠ 4 → 2 ≤ p 0 (p 25 3 % 32) → post (nI (p 25 3)) (ic_X (ic_iss p (m * 2 + k) i a l))) :
    wpX_issue post (ic_X p) (nI k) (nI m) (nI i) (nI a) (nI l) := by
  obtain ⟨K, q1, q2, _⟩ := hI.2.2.1 (m * 2 + k) (by omega)
  have hL := hI.1 (p 25 3 % 32) (by omega)
  unfold ic_L at hL
  unfold wpX_issue
  refine ic_X_mgr hm (br_f (by decide) (ic_X_burst hi ha h1 h4 h8 (br_f (by decide) (nm_r (ic_ma m 2 k) (And.intro (vp_in_nI (by omega) (by decide)) ?_)))))
  refine ek_if (ic_ce (m * 2 + k) 4 rfl rfl (by omega) (by omega) (by decide)) hf (fun b => ?_)
  refine ic_X_slotOf (p 25 3) rfl (by omega) ?_
  have hi32 : vp_in (nI (p 25 3 % 32)) 32 := vp_in_nI (by omega) (by decide)
  refine ic_X_isPending (p := p) (by omega) (by omega) (fun c => br_f (by decide) (hs b c)) (fun c => br_t rfl ?_)
  have h := hg b (by omega)
  rw [← lN_i] at h
  refine And.intro hi32 (nm_r (ic_ps (p 25 3 % 32) 0 rfl (by omega) (by decide) rfl) ?_)
  refine And.intro hi32 (nm_r (ic_p (p 25 3 % 32) (m * 2 + k) rfl (by omega) rfl) ?_)
  refine And.intro hi32 (nm_r (ic_p (p 25 3 % 32) i rfl (by omega) rfl) ?_)
  refine And.intro hi32 (nm_r (ic_p (p 25 3 % 32) a rfl (by omega) rfl) ?_)
  refine And.intro (by decide) (And.intro hi32 (nm_r (ic_p8 (p 25 3 % 32) a rfl (by omega) (pk_div (d := 8) (by omega) (by decide) (by decide))) ?_))
  refine And.intro hi32 (nm_r (ic_p (p 25 3 % 32) l rfl (by omega) rfl) ?_)
  refine And.intro hi32 (nm_r (ic_p (p 25 3 % 32) 0 rfl (by omega) rfl) ?_)
  refine ic_X_enqueue (p := ic_pu (ic_pu (ic_pu (ic_pu (ic_pu (ic_pu p 0 (p 25 3 % 32) 0) 1 (p 25 3 % 32) (m * 2 + k)) 2 (p 25 3 % 32) i) 3 (p 25 3 % 32) a) 4 (p 25 3 % 32) l) 5 (p 25 3 % 32) 0) (by omega) q1 q2 ?_
  refine nm_r (lN_1 _) ?_
  exact h
theorem ic_X_valid {p : Nat → Nat → Nat} {v : Int32} {post : Int32 → Prop} (hT : p 25 3 < 2 ^ 30) (h1 : ∀ t, t < p 25 3 → p 25 3 ≤ t + 32 → v = nI t → post 1) (h0 : (¬ ∃ t, t < p 25 3 ∧ p 25 3 ≤ t + 32 ∧ v = nI t) → post 0) : wpX_isValid post (ic_X p) v := by
  unfold wpX_isValid
  refine br_c (fun a => h0 ?_) (fun a => ?_)
  · intro ⟨t, h2, h3, e⟩
    subst e
    exact nI_pos (by omega) a
  · obtain ⟨t, ht, e⟩ := nI_of a
    subst e
    have el : (nI t).toInt64 = lN t := nI_l ht
    have inj : ∀ t', t' < p 25 3 → nI t = nI t' → t = t' := fun t' h2 e => (nI_eq ht (by omega)).mp e
    refine ek_if (d := p 25 3 ≤ t) (by rw [el]; exact pk_lLE (by omega) (by omega)) (fun b => h0 ?_) (fun b => ?_)
    · intro ⟨t', h2, h3, e⟩
      have := inj t' h2 e
      omega
    · refine ek_if (d := t + 32 < p 25 3) ?_ (fun c => h0 ?_) (fun c => h1 t (by omega) (by omega) rfl)
      · have := @ic_loL (p 25 3) t hT ht
        rw [← Int64.not_le, show (lN (p 25 3) - 32 ≤ (nI t).toInt64) ↔ _ from this]
        omega
      · intro ⟨t', h2, h3, e⟩
        have := inj t' h2 e
        omega
end
section
/-! the reference: its readers -/
def ic_Y (q : Nat → Nat → Nat) : SY := (nI (q 22 0), nI (q 22 1), nI (q 22 2), nI (q 22 3), nI (q 22 4), ic_t (q 0), ic_t (q 1), ic_t (q 2), ic_t (q 3), ic_t (q 4), ic_t (q 5), ic_t (q 6), ic_t (q 7), ic_t (q 8), ic_t (q 9), ic_t (q 10), ic_t (q 11), ic_t (q 12), ic_t (q 13), ic_t (q 14), ic_t (q 15), ic_t (q 16), ic_t (q 17), ic_t (q 18), ic_t (q 19), ic_t (q 20), ic_t (q 21))
theorem ic_Y_validT {q : Nat → Nat → Nat} {T t : Nat} {post : Int32 → Prop} (e : q 22 3 = T) (hT : T < 2 ^ 30) (h1 : t < T) (h2 : T ≤ t + 32) (h : post 1) : wpY_valid post (ic_Y q) (nI t) := by
  subst e
  unfold wpY_valid
  refine br_f (nI_pos (by omega)) (pk_le (q 22 3) t (fun z => by omega) (fun _ => br_f ?_ h))
  rw [Int32.not_lt]
  exact (ic_lo hT (by omega)).mpr h2
theorem ic_Y_validN {q : Nat → Nat → Nat} {v : Int32} {post : Int32 → Prop} (h : v < 0) (h0 : post 0) : wpY_valid post (ic_Y q) v := by
  unfold wpY_valid
  exact br_t h h0
theorem ic_Y_isDone {q : Nat → Nat → Nat} {s : Nat} {post : Int32 → Prop} (hs : s < 32) (h5 : q 5 s ≤ 3) (h1 : 2 ≤ q 5 s → post 1) (h0 : ¬ 2 ≤ q 5 s → post 0) : wpY_isDone post (ic_Y q) (nI s) := by
  have hi : vp_in (nI s) 32 := vp_in_nI hs (by decide)
  unfold wpY_isDone
  refine And.intro hi (ek_if (ic_ce s 2 rfl rfl (by omega) (by omega) (by decide)) (fun a => h1 (by omega)) (fun a => ?_))
  exact And.intro hi (ek_if (ic_ce s 3 rfl rfl (by omega) (by omega) (by decide)) (fun b => h1 (by omega)) (fun b => h0 (by omega)))
/-- what stands at place j of a scan -/
theorem ic_plc {p : Nat → Nat → Nat} {j : Nat} (hj : j < 32) (h : 32 ≤ p 25 3 + j) : (p 25 3 + j) % 32 < p 25 3 ∧ (p 25 3 + j - 32) % 32 = (p 25 3 + j) % 32 ∧ p 25 3 + j - 32 < p 25 3 ∧ p 25 3 ≤ p 25 3 + j - 32 + 32 := by omega
theorem ic_pln {p : Nat → Nat → Nat} {j : Nat} (hI : ic_J1 p) (h : ¬ 32 ≤ p 25 3 + j) : p 0 ((p 25 3 + j) % 32) = 4 ∧ p 4 ((p 25 3 + j) % 32) = 0 := by
  have e : (p 25 3 + j) % 32 = p 25 3 + j := by omega
  rw [e]
  have := hI (p 25 3 + j) (by omega)
  unfold ic_L at this
  omega
theorem ic_tt' {q : Nat → Nat → Nat} {T j : Nat} (e : q 22 3 = T) (h : 32 ≤ T + j) : nI (q 22 3) - 32 + nI j = nI (T + j - 32) := by rw [e]; exact ic_tt h
theorem ic_tn' {q : Nat → Nat → Nat} {T j : Nat} (e : q 22 3 = T) (h : ¬ 32 ≤ T + j) : nI (q 22 3) - 32 + nI j < 0 := by rw [e]; exact ic_tn (by omega)
theorem ic_t31 {T j : Nat} (hT : T < 2 ^ 30) (hj : j < 32) (h : 32 ≤ T + j) : nI (T + j - 32) &&& 31 = nI ((T + j) % 32) := by
  rw [ic_sl (by omega)]
  congr 1
  omega
theorem ic_Y_oo {p q : Nat → Nat → Nat} {m k i : Nat} {post : Int32 → Prop} (hl : ic_Lnk p q) (hI : ic_J1 p) (hT : p 25 3 < 2 ^ 30) (hm : m < 2) (hk : k < 2) (hi : i < 4) : ∀ d j : Nat, j + d = 32 →
    (ic_ff (p 25 3) (ic_pen p (m * 2 + (1 - k)) i) d j = none → post (-1)) → (∀ s t, ic_ff (p 25 3) (ic_pen p (m * 2 + (1 - k)) i) d j = some s → s < p 25 3 → t < 2 ^ 30 → t % 32 = s → post (nI t)) →
    wY_oldestOpen_3 post (nI m) (nI k) (nI i) (nI (q 22 0)) (nI (q 22 1)) (nI (q 22 2)) (nI (q 22 3)) (nI (q 22 4)) (ic_t (q 0)) (ic_t (q 1)) (ic_t (q 2)) (ic_t (q 3)) (ic_t (q 4)) (ic_t (q 5)) (ic_t (q 6)) (ic_t (q 7)) (ic_t (q 8)) (ic_t (q 9)) (ic_t (q 10)) (ic_t (q 11)) (ic_t (q 12)) (ic_t (q 13)) (ic_t (q 14)) (ic_t (q 15)) (ic_t (q 16)) (ic_t (q 17)) (ic_t (q 18)) (ic_t (q 19)) (ic_t (q 20)) (ic_t (q 21)) (d + 1) (nI j) := by
  have eT : q 22 3 = p 25 3 := hl.2.2.2.2.2.2 3 (by decide)
  intro d
  induction d with
  | zero =>
    intro j hj hn _
    exact pk_le 32 j (fun _ => hn rfl) (fun h => by omega)
  | succ d ih =>
    intro j hj hn hs
    refine pk_le 32 j (fun h => by omega) (fun hj32 => ?_)
    have K : ¬ ic_pen p (m * 2 + (1 - k)) i ((p 25 3 + j) % 32) = true → wY_oldestOpen_3 post (nI m) (nI k) (nI i) (nI (q 22 0)) (nI (q 22 1)) (nI (q 22 2)) (nI (q 22 3)) (nI (q 22 4)) (ic_t (q 0)) (ic_t (q 1)) (ic_t (q 2)) (ic_t (q 3)) (ic_t (q 4)) (ic_t (q 5)) (ic_t (q 6)) (ic_t (q 7)) (ic_t (q 8)) (ic_t (q 9)) (ic_t (q 10)) (ic_t (q 11)) (ic_t (q 12)) (ic_t (q 13)) (ic_t (q 14)) (ic_t (q 15)) (ic_t (q 16)) (ic_t (q 17)) (ic_t (q 18)) (ic_t (q 19)) (ic_t (q 20)) (ic_t (q 21)) (d + 1) (nI (j + 1)) := fun h =>
      ih (j + 1) (by omega) (fun z => hn (by rw [ic_ff_f h]; exact z)) (fun s t z => hs s t (by rw [ic_ff_f h]; exact z))
    by_cases h32 : 32 ≤ p 25 3 + j
    · obtain ⟨g1, g2, g3, g4⟩ := ic_plc hj32 h32
      have F : ic_pen p (m * 2 + (1 - k)) i ((p 25 3 + j) % 32) = true → post (nI (p 25 3 + j - 32)) := fun h => hs _ _ (ic_ff_t h) g1 (by omega) g2
      refine nm_r (ic_tt' eT h32) (ic_Y_validT (q := q) eT hT g3 g4 (br_f (by decide) (nm_r (ic_t31 hT hj32 h32) ?_)))
      have hs32 : (p 25 3 + j) % 32 < 32 := by omega
      have hL := hI _ hs32
      have hM := hl.1 _ hs32 g1
      generalize (p 25 3 + j) % 32 = s at *
      unfold ic_L at hL
      unfold ic_M at hM
      have hi32 : vp_in (nI s) 32 := vp_in_nI hs32 (by decide)
      refine And.intro hi32 (ek_if (ic_ce s m rfl rfl (by omega) (by omega) (by omega)) (fun a => ?_) (fun a => nm_r (nI_1 j) (K (fun z => ?_))))
      · refine And.intro hi32 (ek_if (ic_ce s k rfl rfl (by omega) (by omega) (by omega)) (fun b => ?_) (fun b => nm_r (nI_1 j) (K (fun z => ?_))))
        · refine And.intro hi32 (ek_if (ic_ce s i rfl rfl (by omega) (by omega) (by omega)) (fun c => ?_) (fun c => nm_r (nI_1 j) (K (fun z => ?_))))
          · refine ic_Y_isDone (q := q) hs32 (by omega) (fun e => br_f (by decide) (nm_r (nI_1 j) (K (fun z => ?_)))) (fun e => br_t rfl (F (decide_eq_true (by omega))))
            have := of_decide_eq_true z
            omega
          · have := of_decide_eq_true z
            omega
        · have := of_decide_eq_true z
          omega
      · have := of_decide_eq_true z
        omega
    · have hu := (ic_pln hI h32).1
      refine nm_e (ic_Y_validN (q := q) (ic_tn' eT h32) (br_t rfl (nm_r (nI_1 j) (K (fun z => ?_)))))
      have := (of_decide_eq_true z).2.2
      omega
theorem ic_Y_oldestOpen {p q : Nat → Nat → Nat} {m k i : Nat} {post : Int32 → Prop} (hl : ic_Lnk p q) (hI : ic_J1 p) (hT : p 25 3 < 2 ^ 30) (hm : m < 2) (hk : k < 2) (hi : i < 4)
    (hn : ic_old p (m * 2 + (1 - k)) i = none → post (-1)) (hs : ∀ s t, ic_old p (m * 2 + (1 - k)) i = some s → s < p 25 3 → t < 2 ^ 30 → t % 32 = s → post (nI t)) : wpY_oldestOpen post (ic_Y q) (nI m) (nI k) (nI i) := by
  unfold wpY_oldestOpen
  exact ⟨33, ic_Y_oo hl hI hT hm hk hi 32 0 rfl hn hs⟩
def ic_qp (p : Nat → Nat → Nat) (c s : Nat) : Bool := decide (p 0 s = 0 ∧ p 1 s = c)
theorem ic_Y_qh {p q : Nat → Nat → Nat} {m k : Nat} {post : Int32 → Prop} (hl : ic_Lnk p q) (hI : ic_J1 p) (hT : p 25 3 < 2 ^ 30) (hm : m < 2) (hk : k < 2) : ∀ d j : Nat, j + d = 32 →
    (ic_ff (p 25 3) (ic_qp p (m * 2 + (1 - k))) d j = none → post (-1)) → (∀ s t, ic_ff (p 25 3) (ic_qp p (m * 2 + (1 - k))) d j = some s → s < p 25 3 → t < 2 ^ 30 → t % 32 = s → post (nI t)) →
    wY_queueHead_2 post (nI m) (nI k) (nI (q 22 0)) (nI (q 22 1)) (nI (q 22 2)) (nI (q 22 3)) (nI (q 22 4)) (ic_t (q 0)) (ic_t (q 1)) (ic_t (q 2)) (ic_t (q 3)) (ic_t (q 4)) (ic_t (q 5)) (ic_t (q 6)) (ic_t (q 7)) (ic_t (q 8)) (ic_t (q 9)) (ic_t (q 10)) (ic_t (q 11)) (ic_t (q 12)) (ic_t (q 13)) (ic_t (q 14)) (ic_t (q 15)) (ic_t (q 16)) (ic_t (q 17)) (ic_t (q 18)) (ic_t (q 19)) (ic_t (q 20)) (ic_t (q 21)) (d + 1) (nI j) := by
  have eT : q 22 3 = p 25 3 := hl.2.2.2.2.2.2 3 (by decide)
  intro d
  induction d with
  | zero =>
    intro j hj hn _
    exact pk_le 32 j (fun _ => hn rfl) (fun h => by omega)
  | succ d ih =>
    intro j hj hn hs
    refine pk_le 32 j (fun h => by omega) (fun hj32 => ?_)
    have K : ¬ ic_qp p (m * 2 + (1 - k)) ((p 25 3 + j) % 32) = true → wY_queueHead_2 post (nI m) (nI k) (nI (q 22 0)) (nI (q 22 1)) (nI (q 22 2)) (nI (q 22 3)) (nI (q 22 4)) (ic_t (q 0)) (ic_t (q 1)) (ic_t (q 2)) (ic_t (q 3)) (ic_t (q 4)) (ic_t (q 5)) (ic_t (q 6)) (ic_t (q 7)) (ic_t (q 8)) (ic_t (q 9)) (ic_t (q 10)) (ic_t (q 11)) (ic_t (q 12)) (ic_t (q 13)) (ic_t (q 14)) (ic_t (q 15)) (ic_t (q 16)) (ic_t (q 17)) (ic_t (q 18)) (ic_t (q 19)) (ic_t (q 20)) (ic_t (q 21)) (d + 1) (nI (j + 1)) := fun h =>
      ih (j + 1) (by omega) (fun z => hn (by rw [ic_ff_f h]; exact z)) (fun s t z => hs s t (by rw [ic_ff_f h]; exact z))
    by_cases h32 : 32 ≤ p 25 3 + j
    · obtain ⟨g1, g2, g3, g4⟩ := ic_plc hj32 h32
      have F : ic_qp p (m * 2 + (1 - k)) ((p 25 3 + j) % 32) = true → post (nI (p 25 3 + j - 32)) := fun h => hs _ _ (ic_ff_t h) g1 (by omega) g2
      refine nm_r (ic_tt' eT h32) (ic_Y_validT (q := q) eT hT g3 g4 (br_f (by decide) (nm_r (ic_t31 hT hj32 h32) ?_)))
      have hs32 : (p 25 3 + j) % 32 < 32 := by omega
      have hL := hI _ hs32
      have hM := hl.1 _ hs32 g1
      generalize (p 25 3 + j) % 32 = s at *
      unfold ic_L at hL
      unfold ic_M at hM
      have hi32 : vp_in (nI s) 32 := vp_in_nI hs32 (by decide)
      refine And.intro hi32 (ek_if (ic_ce s m rfl rfl (by omega) (by omega) (by omega)) (fun a => ?_) (fun a => nm_r (nI_1 j) (K (fun z => ?_))))
      · refine And.intro hi32 (ek_if (ic_ce s k rfl rfl (by omega) (by omega) (by omega)) (fun b => ?_) (fun b => nm_r (nI_1 j) (K (fun z => ?_))))
        · refine And.intro hi32 (ek_if (ic_ce s 0 rfl rfl (by omega) (by omega) (by omega)) (fun c => F (decide_eq_true (by omega))) (fun c => nm_r (nI_1 j) (K (fun z => ?_))))
          have := of_decide_eq_true z
          omega
        · have := of_decide_eq_true z
          omega
      · have := of_decide_eq_true z
        omega
    · have hu := (ic_pln hI h32).1
      refine nm_e (ic_Y_validN (q := q) (ic_tn' eT h32) (br_t rfl (nm_r (nI_1 j) (K (fun z => ?_)))))
      have := (of_decide_eq_true z).1
      omega
/-- the head, as the class's ring has it -/
theorem ic_Y_queueHead {p q : Nat → Nat → Nat} {m k : Nat} {post : Int32 → Prop} (hl : ic_Lnk p q) (hI : ic_Inv p) (hT : p 25 3 < 2 ^ 30) (hm : m < 2) (hk : k < 2)
    (hn : p 13 (m * 2 + (1 - k)) = 0 → post (-1)) (hs : ∀ t, p 13 (m * 2 + (1 - k)) ≠ 0 → ic_hd p (m * 2 + (1 - k)) < p 25 3 → t < 2 ^ 30 → t % 32 = ic_hd p (m * 2 + (1 - k)) → post (nI t)) : wpY_queueHead post (ic_Y q) (nI m) (nI k) := by
  obtain ⟨K, hK⟩ := hI.2.2.1 (m * 2 + (1 - k)) (by omega)
  have un : ∀ s, s < 32 → p 25 3 ≤ s → p 0 s = 4 := fun s h1 h2 => ((hI.1 s h1).2.2.1 h2).1
  unfold wpY_queueHead
  refine ⟨33, ic_Y_qh hl hI.1 hT hm hk 32 0 rfl (fun z => ?_) (fun s t z => ?_)⟩
  · by_cases h0 : p 13 (m * 2 + (1 - k)) = 0
    · exact hn h0
    · have := ic_Q1_hd hK (by omega) un
      rw [show ic_ff (p 25 3) (ic_qp p (m * 2 + (1 - k))) 32 0 = _ from this] at z
      cases z
  · by_cases h0 : p 13 (m * 2 + (1 - k)) = 0
    · rw [h0] at hK
      have := ic_Q1_no hK un
      rw [show ic_ff (p 25 3) (ic_qp p (m * 2 + (1 - k))) 32 0 = _ from this] at z
      cases z
    · have := ic_Q1_hd hK (by omega) un
      rw [show ic_ff (p 25 3) (ic_qp p (m * 2 + (1 - k))) 32 0 = _ from this] at z
      cases z
      exact fun h1 h2 h3 => hs t h0 h1 h2 h3
end
section
/-! the reference: its counts -/
theorem ic_Y_cw {p q : Nat → Nat → Nat} {v2 v3 v4 : Int32} {a : Nat} {pr : Nat → Bool} {post : Int32 → Prop} (hl : ic_Lnk p q) (hI : ic_J1 p) (hT : p 25 3 < 2 ^ 30) (ha : a ≤ 3)
    (hpr : ∀ s, s < 32 → s < p 25 3 → (pr s = true ↔ q 5 s = a ∧ (v2 < 0 ∨ nI (q 1 s) = v2) ∧ (v3 < 0 ∨ nI (q 0 s) = v3) ∧ (v4 < 0 ∨ nI (q 3 s / 8) = v4)))
    (hun : ∀ s, s < 32 → p 0 s = 4 → ¬ pr s = true) (h : post (nI (ic_cn (fun i => pr ((p 25 3 + i) % 32)) 32))) : ∀ d j : Nat, j + d = 32 →
    wY_countWith_6 post (nI a) v2 v3 v4 (nI (q 22 0)) (nI (q 22 1)) (nI (q 22 2)) (nI (q 22 3)) (nI (q 22 4)) (ic_t (q 0)) (ic_t (q 1)) (ic_t (q 2)) (ic_t (q 3)) (ic_t (q 4)) (ic_t (q 5)) (ic_t (q 6)) (ic_t (q 7)) (ic_t (q 8)) (ic_t (q 9)) (ic_t (q 10)) (ic_t (q 11)) (ic_t (q 12)) (ic_t (q 13)) (ic_t (q 14)) (ic_t (q 15)) (ic_t (q 16)) (ic_t (q 17)) (ic_t (q 18)) (ic_t (q 19)) (ic_t (q 20)) (ic_t (q 21)) (d + 1) (nI (ic_cn (fun i => pr ((p 25 3 + i) % 32)) j)) (nI j) := by
  have eT : q 22 3 = p 25 3 := hl.2.2.2.2.2.2 3 (by decide)
  intro d
  induction d with
  | zero =>
    intro j hj
    have e : j = 32 := by omega
    subst e
    exact pk_le 32 32 (fun _ => h) (fun h => by omega)
  | succ d ih =>
    intro j hj
    refine pk_le 32 j (fun h => by omega) (fun hj32 => ?_)
    have K0 : ¬ pr ((p 25 3 + j) % 32) = true → wY_countWith_6 post (nI a) v2 v3 v4 (nI (q 22 0)) (nI (q 22 1)) (nI (q 22 2)) (nI (q 22 3)) (nI (q 22 4)) (ic_t (q 0)) (ic_t (q 1)) (ic_t (q 2)) (ic_t (q 3)) (ic_t (q 4)) (ic_t (q 5)) (ic_t (q 6)) (ic_t (q 7)) (ic_t (q 8)) (ic_t (q 9)) (ic_t (q 10)) (ic_t (q 11)) (ic_t (q 12)) (ic_t (q 13)) (ic_t (q 14)) (ic_t (q 15)) (ic_t (q 16)) (ic_t (q 17)) (ic_t (q 18)) (ic_t (q 19)) (ic_t (q 20)) (ic_t (q 21)) (d + 1) (nI (ic_cn (fun i => pr ((p 25 3 + i) % 32)) j)) (nI (j + 1)) := fun z => by
      have e := ih (j + 1) (by omega)
      rw [ic_cn_f (p := fun i => pr ((p 25 3 + i) % 32)) z] at e
      exact e
    have K1 : pr ((p 25 3 + j) % 32) = true → wY_countWith_6 post (nI a) v2 v3 v4 (nI (q 22 0)) (nI (q 22 1)) (nI (q 22 2)) (nI (q 22 3)) (nI (q 22 4)) (ic_t (q 0)) (ic_t (q 1)) (ic_t (q 2)) (ic_t (q 3)) (ic_t (q 4)) (ic_t (q 5)) (ic_t (q 6)) (ic_t (q 7)) (ic_t (q 8)) (ic_t (q 9)) (ic_t (q 10)) (ic_t (q 11)) (ic_t (q 12)) (ic_t (q 13)) (ic_t (q 14)) (ic_t (q 15)) (ic_t (q 16)) (ic_t (q 17)) (ic_t (q 18)) (ic_t (q 19)) (ic_t (q 20)) (ic_t (q 21)) (d + 1) (nI (ic_cn (fun i => pr ((p 25 3 + i) % 32)) j + 1)) (nI (j + 1)) := fun z => by
      have e := ih (j + 1) (by omega)
      rw [ic_cn_t (p := fun i => pr ((p 25 3 + i) % 32)) z] at e
      exact e
    generalize ic_cn (fun i => pr ((p 25 3 + i) % 32)) j = n at *
    by_cases h32 : 32 ≤ p 25 3 + j
    · obtain ⟨g1, g2, g3, g4⟩ := ic_plc hj32 h32
      refine nm_r (ic_tt' eT h32) (ic_Y_validT (q := q) eT hT g3 g4 (br_f (by decide) (nm_r (ic_t31 hT hj32 h32) ?_)))
      have hs32 : (p 25 3 + j) % 32 < 32 := by omega
      have hL := hI _ hs32
      have hM := hl.1 _ hs32 g1
      have hP := hpr _ hs32 g1
      generalize (p 25 3 + j) % 32 = s at *
      unfold ic_L at hL
      unfold ic_M at hM
      have hi32 : vp_in (nI s) 32 := vp_in_nI hs32 (by decide)
      have e1 : ic_t (q 1) (nI s).toNatClampNeg = nI (q 1 s) := ic_g s rfl (by omega)
      have e0 : ic_t (q 0) (nI s).toNatClampNeg = nI (q 0 s) := ic_g s rfl (by omega)
      have e3 : ic_t (q 3) (nI s).toNatClampNeg / 8 = nI (q 3 s / 8) := by
        rw [ic_g s rfl (by omega)]
        exact pk_div (d := 8) (by omega) (by decide) (by decide)
      have s85 : (q 5 s = a ∧ (v2 < 0 ∨ nI (q 1 s) = v2) ∧ (v3 < 0 ∨ nI (q 0 s) = v3)) → wY_countWith_85 post (wY_countWith_6 post (nI a) v2 v3 v4 (nI (q 22 0)) (nI (q 22 1)) (nI (q 22 2)) (nI (q 22 3)) (nI (q 22 4)) (ic_t (q 0)) (ic_t (q 1)) (ic_t (q 2)) (ic_t (q 3)) (ic_t (q 4)) (ic_t (q 5)) (ic_t (q 6)) (ic_t (q 7)) (ic_t (q 8)) (ic_t (q 9)) (ic_t (q 10)) (ic_t (q 11)) (ic_t (q 12)) (ic_t (q 13)) (ic_t (q 14)) (ic_t (q 15)) (ic_t (q 16)) (ic_t (q 17)) (ic_t (q 18)) (ic_t (q 19)) (ic_t (q 20)) (ic_t (q 21)) (d + 1)) (nI a) v2 v3 v4 (nI n) (nI j) (nI s) (nI (q 22 0)) (nI (q 22 1)) (nI (q 22 2)) (nI (q 22 3)) (nI (q 22 4)) (ic_t (q 0)) (ic_t (q 1)) (ic_t (q 2)) (ic_t (q 3)) (ic_t (q 4)) (ic_t (q 5)) (ic_t (q 6)) (ic_t (q 7)) (ic_t (q 8)) (ic_t (q 9)) (ic_t (q 10)) (ic_t (q 11)) (ic_t (q 12)) (ic_t (q 13)) (ic_t (q 14)) (ic_t (q 15)) (ic_t (q 16)) (ic_t (q 17)) (ic_t (q 18)) (ic_t (q 19)) (ic_t (q 20)) (ic_t (q 21)) := by
        intro ⟨f1, f2, f3⟩
        unfold wY_countWith_85
        refine br_c (fun b => nm_r (nI_1 n) (nm_r (nI_1 j) (K1 (hP.mpr ⟨f1, f2, f3, Or.inl b⟩)))) (fun b => And.intro hi32 (And.intro (by decide) ?_))
        rw [e3]
        refine br_c (fun c => nm_r (nI_1 n) (nm_r (nI_1 j) (K1 (hP.mpr ⟨f1, f2, f3, Or.inr c⟩)))) (fun c => nm_r (nI_1 j) (K0 (fun z => ?_)))
        rcases (hP.mp z).2.2.2 with w | w
        · exact b w
        · exact c w
      have s70 : (q 5 s = a ∧ (v2 < 0 ∨ nI (q 1 s) = v2)) → wY_countWith_70 post (wY_countWith_6 post (nI a) v2 v3 v4 (nI (q 22 0)) (nI (q 22 1)) (nI (q 22 2)) (nI (q 22 3)) (nI (q 22 4)) (ic_t (q 0)) (ic_t (q 1)) (ic_t (q 2)) (ic_t (q 3)) (ic_t (q 4)) (ic_t (q 5)) (ic_t (q 6)) (ic_t (q 7)) (ic_t (q 8)) (ic_t (q 9)) (ic_t (q 10)) (ic_t (q 11)) (ic_t (q 12)) (ic_t (q 13)) (ic_t (q 14)) (ic_t (q 15)) (ic_t (q 16)) (ic_t (q 17)) (ic_t (q 18)) (ic_t (q 19)) (ic_t (q 20)) (ic_t (q 21)) (d + 1)) (nI a) v2 v3 v4 (nI n) (nI j) (nI s) (nI (q 22 0)) (nI (q 22 1)) (nI (q 22 2)) (nI (q 22 3)) (nI (q 22 4)) (ic_t (q 0)) (ic_t (q 1)) (ic_t (q 2)) (ic_t (q 3)) (ic_t (q 4)) (ic_t (q 5)) (ic_t (q 6)) (ic_t (q 7)) (ic_t (q 8)) (ic_t (q 9)) (ic_t (q 10)) (ic_t (q 11)) (ic_t (q 12)) (ic_t (q 13)) (ic_t (q 14)) (ic_t (q 15)) (ic_t (q 16)) (ic_t (q 17)) (ic_t (q 18)) (ic_t (q 19)) (ic_t (q 20)) (ic_t (q 21)) := by
        intro ⟨f1, f2⟩
        unfold wY_countWith_70
        refine br_c (fun b => s85 ⟨f1, f2, Or.inl b⟩) (fun b => And.intro hi32 ?_)
        rw [e0]
        refine br_c (fun c => s85 ⟨f1, f2, Or.inr c⟩) (fun c => nm_r (nI_1 j) (K0 (fun z => ?_)))
        rcases (hP.mp z).2.2.1 with w | w
        · exact b w
        · exact c w
      refine And.intro hi32 (ek_if (ic_ce s a rfl rfl (by omega) (by omega) (by omega)) (fun f1 => ?_) (fun f1 => nm_r (nI_1 j) (K0 (fun z => f1 (hP.mp z).1))))
      refine br_c (fun b => s70 ⟨f1, Or.inl b⟩) (fun b => And.intro hi32 ?_)
      rw [e1]
      refine br_c (fun c => s70 ⟨f1, Or.inr c⟩) (fun c => nm_r (nI_1 j) (K0 (fun z => ?_)))
      rcases (hP.mp z).2.1 with w | w
      · exact b w
      · exact c w
    · have hu := (ic_pln hI h32).1
      exact nm_e (ic_Y_validN (q := q) (ic_tn' eT h32) (br_t rfl (nm_r (nI_1 j) (K0 (hun _ (by omega) hu)))))
theorem ic_Y_countWith {p q : Nat → Nat → Nat} {v2 v3 v4 : Int32} {a : Nat} (pr : Nat → Bool) {post : Int32 → Prop} (hl : ic_Lnk p q) (hI : ic_J1 p) (hT : p 25 3 < 2 ^ 30) (ha : a ≤ 3)
    (hpr : ∀ s, s < 32 → s < p 25 3 → (pr s = true ↔ q 5 s = a ∧ (v2 < 0 ∨ nI (q 1 s) = v2) ∧ (v3 < 0 ∨ nI (q 0 s) = v3) ∧ (v4 < 0 ∨ nI (q 3 s / 8) = v4)))
    (hun : ∀ s, s < 32 → p 0 s = 4 → ¬ pr s = true) (h : post (nI (ic_cn pr 32))) : wpY_countWith post (ic_Y q) (nI a) v2 v3 v4 := by
  unfold wpY_countWith
  refine ⟨33, ic_Y_cw (pr := pr) hl hI hT ha hpr hun ?_ 32 0 rfl⟩
  rw [ic_cn_rot]
  exact h
theorem ic_m1n : (-1 : Int32) < 0 := by decide
theorem ic_nn {n : Nat} (h : n < 2 ^ 31) : ¬ nI n < 0 := nI_pos h
theorem ic_Y_cntM {p q : Nat → Nat → Nat} {m : Nat} {post : Int32 → Prop} (hl : ic_Lnk p q) (hI : ic_Inv p) (hT : p 25 3 < 2 ^ 30) (hm : m < 2) (h : post (nI (p 20 m))) : wpY_countWith post (ic_Y q) 1 (nI m) (-1) (-1) := by
  refine ic_Y_countWith (a := 1) (fun s => decide (p 0 s = 1 ∧ p 1 s / 2 = m)) hl hI.1 hT (by decide) (fun s h1 h2 => ?_) (fun s h1 h2 z => ?_) ?_
  · have hM := hl.1 s h1 h2
    have hL := hI.1 s h1
    unfold ic_M at hM
    unfold ic_L at hL
    rw [decide_eq_true_iff]
    have e : nI (q 1 s) = nI m ↔ q 1 s = m := nI_eq (by omega) (by omega)
    constructor
    · intro z
      exact ⟨by omega, Or.inr (e.mpr (by omega)), Or.inl ic_m1n, Or.inl ic_m1n⟩
    · intro ⟨z1, z2, _⟩
      rcases z2 with z2 | z2
      · exact absurd z2 (ic_nn (by omega))
      · have := e.mp z2
        omega
  · have := (of_decide_eq_true z).1
    omega
  · rw [hI.2.1.1 m hm] at h
    exact h
theorem ic_Y_cntS {p q : Nat → Nat → Nat} {s : Nat} {post : Int32 → Prop} (hl : ic_Lnk p q) (hI : ic_Inv p) (hT : p 25 3 < 2 ^ 30) (hs : s < 4) (h : post (nI (p 21 s))) : wpY_countWith post (ic_Y q) 1 (-1) (-1) (nI s) := by
  refine ic_Y_countWith (a := 1) (fun t => decide (p 0 t = 1 ∧ p 3 t / 8 = s)) hl hI.1 hT (by decide) (fun t h1 h2 => ?_) (fun t h1 h2 z => ?_) ?_
  · have hM := hl.1 t h1 h2
    have hL := hI.1 t h1
    unfold ic_M at hM
    unfold ic_L at hL
    rw [decide_eq_true_iff]
    have e : nI (q 3 t / 8) = nI s ↔ q 3 t / 8 = s := nI_eq (by omega) (by omega)
    have e2 : q 3 t = p 3 t := hM.1.2.2.2.1
    constructor
    · intro z
      exact ⟨by omega, Or.inl ic_m1n, Or.inl ic_m1n, Or.inr (e.mpr (by omega))⟩
    · intro ⟨z1, _, _, z2⟩
      rcases z2 with z2 | z2
      · exact absurd z2 (ic_nn (by omega))
      · have := e.mp z2
        omega
  · have := (of_decide_eq_true z).1
    omega
  · rw [hI.2.1.2 s hs] at h
    exact h
theorem ic_Y_cntQ {p q : Nat → Nat → Nat} {m k : Nat} {post : Int32 → Prop} (hl : ic_Lnk p q) (hI : ic_Inv p) (hT : p 25 3 < 2 ^ 30) (hm : m < 2) (hk : k < 2) (h : post (nI (p 13 (m * 2 + (1 - k))))) : wpY_countWith post (ic_Y q) 0 (nI m) (nI k) (-1) := by
  refine ic_Y_countWith (a := 0) (fun s => decide (p 0 s = 0 ∧ p 1 s = m * 2 + (1 - k))) hl hI.1 hT (by decide) (fun s h1 h2 => ?_) (fun s h1 h2 z => ?_) ?_
  · have hM := hl.1 s h1 h2
    have hL := hI.1 s h1
    unfold ic_M at hM
    unfold ic_L at hL
    rw [decide_eq_true_iff]
    have e : nI (q 1 s) = nI m ↔ q 1 s = m := nI_eq (by omega) (by omega)
    have e2 : nI (q 0 s) = nI k ↔ q 0 s = k := nI_eq (by omega) (by omega)
    constructor
    · intro z
      exact ⟨by omega, Or.inr (e.mpr (by omega)), Or.inr (e2.mpr (by omega)), Or.inl ic_m1n⟩
    · intro ⟨z1, z2, z3, _⟩
      rcases z2 with z2 | z2
      · exact absurd z2 (ic_nn (by omega))
      · rcases z3 with z3 | z3
        · exact absurd z3 (ic_nn (by omega))
        · have := e.mp z2
          have := e2.mp z3
          omega
  · have := (of_decide_eq_true z).1
    omega
  · obtain ⟨K, _, _, e, _⟩ := hI.2.2.1 (m * 2 + (1 - k)) (by omega)
    rw [e] at h
    exact h
theorem ic_Y_cf {p q : Nat → Nat → Nat} {m k i b : Nat} {post : Int32 → Prop} {pr : Nat → Bool} (hl : ic_Lnk p q) (hI : ic_J1 p) (hT : p 25 3 < 2 ^ 30) (hm : m < 2) (hk : k < 2) (hi : i < 4) (hb : b < 4)
    (hpr : ∀ s, s < 32 → s < p 25 3 → (pr s = true ↔ p 0 s = 1 ∧ p 1 s = m * 2 + (1 - k) ∧ p 2 s = i ∧ p 3 s / 8 ≠ b)) (hun : ∀ s, s < 32 → p 0 s = 4 → ¬ pr s = true) : ∀ d j : Nat, j + d = 32 →
    (ic_ff (p 25 3) pr d j = none → post 0) → (∀ s, ic_ff (p 25 3) pr d j = some s → post 1) →
    wY_conflict_3 post (nI m) (nI k) (nI i) (nI b) (nI (q 22 0)) (nI (q 22 1)) (nI (q 22 2)) (nI (q 22 3)) (nI (q 22 4)) (ic_t (q 0)) (ic_t (q 1)) (ic_t (q 2)) (ic_t (q 3)) (ic_t (q 4)) (ic_t (q 5)) (ic_t (q 6)) (ic_t (q 7)) (ic_t (q 8)) (ic_t (q 9)) (ic_t (q 10)) (ic_t (q 11)) (ic_t (q 12)) (ic_t (q 13)) (ic_t (q 14)) (ic_t (q 15)) (ic_t (q 16)) (ic_t (q 17)) (ic_t (q 18)) (ic_t (q 19)) (ic_t (q 20)) (ic_t (q 21)) (d + 1) (nI j) := by
  have eT : q 22 3 = p 25 3 := hl.2.2.2.2.2.2 3 (by decide)
  intro d
  induction d with
  | zero =>
    intro j hj hn _
    exact pk_le 32 j (fun _ => hn rfl) (fun h => by omega)
  | succ d ih =>
    intro j hj hn hs
    refine pk_le 32 j (fun h => by omega) (fun hj32 => ?_)
    have K : ¬ pr ((p 25 3 + j) % 32) = true → wY_conflict_3 post (nI m) (nI k) (nI i) (nI b) (nI (q 22 0)) (nI (q 22 1)) (nI (q 22 2)) (nI (q 22 3)) (nI (q 22 4)) (ic_t (q 0)) (ic_t (q 1)) (ic_t (q 2)) (ic_t (q 3)) (ic_t (q 4)) (ic_t (q 5)) (ic_t (q 6)) (ic_t (q 7)) (ic_t (q 8)) (ic_t (q 9)) (ic_t (q 10)) (ic_t (q 11)) (ic_t (q 12)) (ic_t (q 13)) (ic_t (q 14)) (ic_t (q 15)) (ic_t (q 16)) (ic_t (q 17)) (ic_t (q 18)) (ic_t (q 19)) (ic_t (q 20)) (ic_t (q 21)) (d + 1) (nI (j + 1)) := fun h =>
      ih (j + 1) (by omega) (fun z => hn (by rw [ic_ff_f h]; exact z)) (fun s z => hs s (by rw [ic_ff_f h]; exact z))
    by_cases h32 : 32 ≤ p 25 3 + j
    · obtain ⟨g1, g2, g3, g4⟩ := ic_plc hj32 h32
      have F : pr ((p 25 3 + j) % 32) = true → post 1 := fun h => hs _ (ic_ff_t h)
      refine nm_r (ic_tt' eT h32) (ic_Y_validT (q := q) eT hT g3 g4 (br_f (by decide) (nm_r (ic_t31 hT hj32 h32) ?_)))
      have hs32 : (p 25 3 + j) % 32 < 32 := by omega
      have hL := hI _ hs32
      have hM := hl.1 _ hs32 g1
      have hP := hpr _ hs32 g1
      generalize (p 25 3 + j) % 32 = s at *
      unfold ic_L at hL
      unfold ic_M at hM
      have e3 : q 3 s = p 3 s := hM.1.2.2.2.1
      have hi32 : vp_in (nI s) 32 := vp_in_nI hs32 (by decide)
      have N : ¬ (p 0 s = 1 ∧ p 1 s = m * 2 + (1 - k) ∧ p 2 s = i ∧ p 3 s / 8 ≠ b) → wY_conflict_3 post (nI m) (nI k) (nI i) (nI b) (nI (q 22 0)) (nI (q 22 1)) (nI (q 22 2)) (nI (q 22 3)) (nI (q 22 4)) (ic_t (q 0)) (ic_t (q 1)) (ic_t (q 2)) (ic_t (q 3)) (ic_t (q 4)) (ic_t (q 5)) (ic_t (q 6)) (ic_t (q 7)) (ic_t (q 8)) (ic_t (q 9)) (ic_t (q 10)) (ic_t (q 11)) (ic_t (q 12)) (ic_t (q 13)) (ic_t (q 14)) (ic_t (q 15)) (ic_t (q 16)) (ic_t (q 17)) (ic_t (q 18)) (ic_t (q 19)) (ic_t (q 20)) (ic_t (q 21)) (d + 1) (nI (j + 1)) := fun z => K (fun w => z (hP.mp w))
      refine And.intro hi32 (ek_if (ic_ce s 1 rfl rfl (by omega) (by omega) (by omega)) (fun a0 => ?_) (fun a => nm_r (nI_1 j) (N (by omega))))
      refine And.intro hi32 (ek_if (ic_ce s m rfl rfl (by omega) (by omega) (by omega)) (fun a => ?_) (fun a => nm_r (nI_1 j) (N (by omega))))
      refine And.intro hi32 (ek_if (ic_ce s k rfl rfl (by omega) (by omega) (by omega)) (fun a2 => ?_) (fun a => nm_r (nI_1 j) (N (by omega))))
      refine And.intro hi32 (ek_if (ic_ce s i rfl rfl (by omega) (by omega) (by omega)) (fun a3 => ?_) (fun a => nm_r (nI_1 j) (N (by omega))))
      refine And.intro hi32 (And.intro (by decide) ?_)
      refine pk_eq (q 3 s / 8) b (fun c => nm_r (nI_1 j) (N (by omega))) (fun c => F (hP.mpr (by omega))) ?_ rfl
      rw [ic_g s rfl (by omega)]
      exact pk_div (d := 8) (by omega) (by decide) (by decide)
    · have hu := (ic_pln hI h32).1
      exact nm_e (ic_Y_validN (q := q) (ic_tn' eT h32) (br_t rfl (nm_r (nI_1 j) (K (hun _ (by omega) hu)))))
theorem ic_Y_conflict {p q : Nat → Nat → Nat} {m k b : Nat} {post : Int32 → Prop} (hl : ic_Lnk p q) (hI : ic_J1 p) (hT : p 25 3 < 2 ^ 30) (hm : m < 2) (hk : k < 2) (hb : b < 32) (hH : p 1 b = m * 2 + (1 - k))
    (h0 : ic_els p b = none → post 0) (h1 : ic_els p b ≠ none → post 1) : wpY_conflict post (ic_Y q) (nI m) (nI k) (nI (p 2 b)) (nI (p 3 b / 8)) := by
  have hL := hI b hb
  unfold ic_L at hL
  unfold wpY_conflict
  refine ⟨33, ic_Y_cf (pr := ic_elp p b) hl hI hT hm hk (by omega) (by omega) (fun s h2 h3 => ?_) (fun s h2 h3 z => ?_) 32 0 rfl (fun z => ?_) (fun s z => ?_)⟩
  · unfold ic_elp
    rw [decide_eq_true_iff, hH]
  · have := (of_decide_eq_true z).1
    omega
  · exact h0 (ic_ff_none.mpr (ic_ff_none.mp z))
  · refine h1 (fun w => ?_)
    rw [ic_ff_none.mpr (ic_ff_none.mp w)] at z
    cases z
theorem ic_Y_candidate {p q : Nat → Nat → Nat} {m k s : Nat} {post : Int32 → Prop} (hl : ic_Lnk p q) (hI : ic_Inv p) (hT : p 25 3 < 2 ^ 30) (hm : m < 2) (hk : k < 2) (hs : s < 4)
    (h1 : ic_can p m s (1 - k) = true → post 1) (h0 : ¬ ic_can p m s (1 - k) = true → post 0) : wpY_candidate post (ic_Y q) (nI m) (nI k) (nI s) := by
  have hl0 : q 22 0 = p 25 0 := hl.2.2.2.2.2.2 0 (by decide)
  have hl1 : q 22 1 = p 25 1 := hl.2.2.2.2.2.2 1 (by decide)
  have hlim := hI.2.2.2.2.2.2.2.2
  unfold wpY_candidate
  refine ic_Y_queueHead hl hI hT hm hk (fun a => br_f (by decide) (h0 (fun z => (ic_can_ps z).1 a))) (fun t a g ht et => ?_)
  obtain ⟨g1, g2, g3, _⟩ := ic_hd_ps hI.2.2.1 (c := m * 2 + (1 - k)) (by omega) a
  have hL := hI.1 _ g1
  have hM := hl.1 _ g1 g
  unfold ic_L at hL
  unfold ic_M at hM
  have e3 : q 3 (ic_hd p (m * 2 + (1 - k))) = p 3 (ic_hd p (m * 2 + (1 - k))) := hM.1.2.2.2.1
  have e2 : q 2 (ic_hd p (m * 2 + (1 - k))) = p 2 (ic_hd p (m * 2 + (1 - k))) := hM.1.2.2.1
  have b1 : p 20 m ≤ 32 := by rw [hI.2.1.1 m hm]; exact ic_cn_le _ 32
  have b2 : p 21 s ≤ 32 := by rw [hI.2.1.2 s hs]; exact ic_cn_le _ 32
  have hi32 : vp_in (nI (ic_hd p (m * 2 + (1 - k)))) 32 := vp_in_nI g1 (by decide)
  refine br_t (nI_pos' (by omega)) (nm_r (by rw [ic_sl (by omega), et]) (And.intro hi32 (And.intro (by decide) ?_)))
  refine pk_eq (p 3 (ic_hd p (m * 2 + (1 - k))) / 8) s (fun b => ?_) (fun b => h0 (fun z => b (ic_can_ps z).2.1)) ?_ rfl
  · refine ic_Y_cntM hl hI hT hm ?_
    refine pk_lt (p 20 m) (p 25 0) (fun c => ?_) (fun c => h0 (fun z => ?_)) rfl (by rw [hl0])
    · refine ic_Y_cntS hl hI hT hs ?_
      refine pk_lt (p 21 s) (p 25 1) (fun d => And.intro hi32 ?_) (fun d => h0 (fun z => ?_)) rfl (by rw [hl1])
      · rw [ic_g _ rfl (by omega), e2, ← b]
        refine ic_Y_conflict hl hI.1 hT hm hk g1 g3 (fun e => br_t rfl (h1 (decide_eq_true ⟨a, b, c, d, e⟩))) (fun e => br_f (by decide) (h0 (fun z => e (ic_can_ps z).2.2.2.2)))
      · have := (ic_can_ps z).2.2.2.1
        omega
    · have := (ic_can_ps z).2.2.1
      omega
  · rw [ic_g _ rfl (by omega), e3]
    exact pk_div (d := 8) (by omega) (by decide) (by decide)
end
section
/-! the reference: its answers and beats -/
theorem ic_Y_finish {q : Nat → Nat → Nat} {s : Nat} {post : SY → Prop} (hs : s < 32) (hA : q 3 s < 32) (h : post (ic_Y (ic_qf q s))) : wpY_finish post (ic_Y q) (nI s) := by
  have hi : vp_in (nI s) 32 := vp_in_nI hs (by decide)
  have e3 : ic_t (q 3) (nI s).toNatClampNeg / 8 = nI (q 3 s / 8) := by
    rw [ic_g s rfl (by omega)]
    exact pk_div (d := 8) (by omega) (by decide) (by decide)
  have f23 : ∀ x, x = (if q 3 s / 8 = 3 then 3 else 2) → wY_finish_23 post (nI s) (nI x) (nI s) (nI (q 22 0)) (nI (q 22 1)) (nI (q 22 2)) (nI (q 22 3)) (nI (q 22 4)) (ic_t (q 0)) (ic_t (q 1)) (ic_t (q 2)) (ic_t (q 3)) (ic_t (q 4)) (ic_t (q 5)) (ic_t (q 6)) (ic_t (q 7)) (ic_t (q 8)) (ic_t (q 9)) (ic_t (q 10)) (ic_t (q 11)) (ic_t (q 12)) (ic_t (q 13)) (ic_t (q 14)) (ic_t (q 15)) (ic_t (q 16)) (ic_t (q 17)) (ic_t (q 18)) (ic_t (q 19)) (ic_t (q 20)) (ic_t (q 21)) := by
    intro x hx
    subst hx
    unfold wY_finish_23
    refine And.intro hi (nm_r (ic_p s _ rfl (by omega) rfl) (And.intro hi (nm_r (ic_p s (q 22 4) rfl (by omega) rfl) (nm_r (nI_1 _) (And.intro hi (nm_r (ic_p s (q 22 2) rfl (by omega) rfl) ?_))))))
    exact h
  unfold wpY_finish
  exact And.intro hi (And.intro (by decide) (pk_eq (q 3 s / 8) 3 (fun e => f23 3 (if_pos e).symm) (fun e => f23 2 (if_neg e).symm) e3 rfl))
theorem ic_Y_r199 {q : Nat → Nat → Nat} {m i : Nat} {post : SY → Prop} (hm : m < 2) (hi : i < 4) (h : post (ic_Y (ic_pu q 17 m ((i + 1) % 4)))) : wY_respond_199 post (nI m) (nI i) (nI (q 22 0)) (nI (q 22 1)) (nI (q 22 2)) (nI (q 22 3)) (nI (q 22 4)) (ic_t (q 0)) (ic_t (q 1)) (ic_t (q 2)) (ic_t (q 3)) (ic_t (q 4)) (ic_t (q 5)) (ic_t (q 6)) (ic_t (q 7)) (ic_t (q 8)) (ic_t (q 9)) (ic_t (q 10)) (ic_t (q 11)) (ic_t (q 12)) (ic_t (q 13)) (ic_t (q 14)) (ic_t (q 15)) (ic_t (q 16)) (ic_t (q 17)) (ic_t (q 18)) (ic_t (q 19)) (ic_t (q 20)) (ic_t (q 21)) := by
  unfold wY_respond_199
  refine And.intro (by decide) (And.intro (vp_in_nI hm (by decide)) (nm_r (ic_p m ((i + 1) % 4) rfl (by omega) (ic_r (i + 1) 4 (nI_1 i) (by omega) (by decide) (by decide))) ?_))
  exact h
theorem ic_Y_r333 {q : Nat → Nat → Nat} {m i : Nat} {post : SY → Prop} (hm : m < 2) (hi : i < 4) (h : post (ic_Y (ic_pu q 18 m ((i + 1) % 4)))) : wY_respond_333 post (nI m) (nI i) (nI (q 22 0)) (nI (q 22 1)) (nI (q 22 2)) (nI (q 22 3)) (nI (q 22 4)) (ic_t (q 0)) (ic_t (q 1)) (ic_t (q 2)) (ic_t (q 3)) (ic_t (q 4)) (ic_t (q 5)) (ic_t (q 6)) (ic_t (q 7)) (ic_t (q 8)) (ic_t (q 9)) (ic_t (q 10)) (ic_t (q 11)) (ic_t (q 12)) (ic_t (q 13)) (ic_t (q 14)) (ic_t (q 15)) (ic_t (q 16)) (ic_t (q 17)) (ic_t (q 18)) (ic_t (q 19)) (ic_t (q 20)) (ic_t (q 21)) := by
  unfold wY_respond_333
  refine And.intro (by decide) (And.intro (vp_in_nI hm (by decide)) (nm_r (ic_p m ((i + 1) % 4) rfl (by omega) (ic_r (i + 1) 4 (nI_1 i) (by omega) (by decide) (by decide))) ?_))
  exact h
theorem ic_Y_r138 {q : Nat → Nat → Nat} {m i s : Nat} {post : SY → Prop} (hm : m < 2) (hi : i < 4) (hs : s < 32) (hA : q 3 s + q 4 s ≤ 24) (h4 : q 4 s ≤ 4)
    (h : post (ic_Y (ic_pu (ic_pf q 12 (ic_stw (q 12) (q 11) (q 3 s) (s * 4) (q 4 s))) 17 m ((i + 1) % 4)))) : ∀ d j : Nat, j + d = q 4 s →
    wY_respond_138 post (nI m) (nI i) (nI s) (nI (q 22 0)) (nI (q 22 1)) (nI (q 22 2)) (nI (q 22 3)) (nI (q 22 4)) (d + 1) (nI j) (ic_t ((ic_pf q 12 (ic_stw (q 12) (q 11) (q 3 s) (s * 4) j)) 0)) (ic_t ((ic_pf q 12 (ic_stw (q 12) (q 11) (q 3 s) (s * 4) j)) 1)) (ic_t ((ic_pf q 12 (ic_stw (q 12) (q 11) (q 3 s) (s * 4) j)) 2)) (ic_t ((ic_pf q 12 (ic_stw (q 12) (q 11) (q 3 s) (s * 4) j)) 3)) (ic_t ((ic_pf q 12 (ic_stw (q 12) (q 11) (q 3 s) (s * 4) j)) 4)) (ic_t ((ic_pf q 12 (ic_stw (q 12) (q 11) (q 3 s) (s * 4) j)) 5)) (ic_t ((ic_pf q 12 (ic_stw (q 12) (q 11) (q 3 s) (s * 4) j)) 6)) (ic_t ((ic_pf q 12 (ic_stw (q 12) (q 11) (q 3 s) (s * 4) j)) 7)) (ic_t ((ic_pf q 12 (ic_stw (q 12) (q 11) (q 3 s) (s * 4) j)) 8)) (ic_t ((ic_pf q 12 (ic_stw (q 12) (q 11) (q 3 s) (s * 4) j)) 9)) (ic_t ((ic_pf q 12 (ic_stw (q 12) (q 11) (q 3 s) (s * 4) j)) 10)) (ic_t ((ic_pf q 12 (ic_stw (q 12) (q 11) (q 3 s) (s * 4) j)) 11)) (ic_t ((ic_pf q 12 (ic_stw (q 12) (q 11) (q 3 s) (s * 4) j)) 12)) (ic_t ((ic_pf q 12 (ic_stw (q 12) (q 11) (q 3 s) (s * 4) j)) 13)) (ic_t ((ic_pf q 12 (ic_stw (q 12) (q 11) (q 3 s) (s * 4) j)) 14)) (ic_t ((ic_pf q 12 (ic_stw (q 12) (q 11) (q 3 s) (s * 4) j)) 15)) (ic_t ((ic_pf q 12 (ic_stw (q 12) (q 11) (q 3 s) (s * 4) j)) 16)) (ic_t ((ic_pf q 12 (ic_stw (q 12) (q 11) (q 3 s) (s * 4) j)) 17)) (ic_t ((ic_pf q 12 (ic_stw (q 12) (q 11) (q 3 s) (s * 4) j)) 18)) (ic_t ((ic_pf q 12 (ic_stw (q 12) (q 11) (q 3 s) (s * 4) j)) 19)) (ic_t ((ic_pf q 12 (ic_stw (q 12) (q 11) (q 3 s) (s * 4) j)) 20)) (ic_t ((ic_pf q 12 (ic_stw (q 12) (q 11) (q 3 s) (s * 4) j)) 21)) := by
  have hi32 : vp_in (nI s) 32 := vp_in_nI hs (by decide)
  intro d
  induction d with
  | zero =>
    intro j e
    refine And.intro hi32 (pk_le (q 4 s) j (fun _ => ?_) (fun z => by omega) (ic_g s rfl (by omega)) rfl)
    have e2 : j = q 4 s := by omega
    subst e2
    exact ic_Y_r199 (q := ic_pf q 12 (ic_stw (q 12) (q 11) (q 3 s) (s * 4) (q 4 s))) hm hi h
  | succ d ih =>
    intro j e
    refine And.intro hi32 (pk_le (q 4 s) j (fun z => by omega) (fun _ => And.intro hi32 ?_) (ic_g s rfl (by omega)) rfl)
    have e4 : nI s * 4 + nI j = nI (s * 4 + j) := ic_ma s 4 j
    refine nm_r (e' := nI (q 3 s + j)) ?_ (br_f (nI_pos (by omega)) (pk_le 24 (q 3 s + j) (fun z => by omega) (fun _ => And.intro (pk_in (s * 4 + j) 128 (by omega) e4) (And.intro (vp_in_nI (by omega) (by decide)) ?_))))
    · rw [ic_g s rfl (by omega), nI_add]; rfl
    · refine nm_r (ic_p (q 3 s + j) (q 11 (s * 4 + j)) rfl (by omega) (ic_g _ e4 (by omega))) (nm_r (nI_1 j) ?_)
      exact ih (j + 1) (by omega)
theorem ic_Y_rw {q : Nat → Nat → Nat} {m i s : Nat} {post : SY → Prop} (hm : m < 2) (hi : i < 4) (hs : s < 32) (h3 : q 3 s < 32) (hA : q 3 s % 8 + q 4 s ≤ 8) (h4 : q 4 s ≤ 4) (h : post (ic_Y (ic_qw q m s i))) : wY_respond_114 post (nI m) 0 (nI i) (nI s) (nI (q 22 0)) (nI (q 22 1)) (nI (q 22 2)) (nI (q 22 3)) (nI (q 22 4)) (ic_t (q 0)) (ic_t (q 1)) (ic_t (q 2)) (ic_t (q 3)) (ic_t (q 4)) (ic_t (q 5)) (ic_t (q 6)) (ic_t (q 7)) (ic_t (q 8)) (ic_t (q 9)) (ic_t (q 10)) (ic_t (q 11)) (ic_t (q 12)) (ic_t (q 13)) (ic_t (q 14)) (ic_t (q 15)) (ic_t (q 16)) (ic_t (q 17)) (ic_t (q 18)) (ic_t (q 19)) (ic_t (q 20)) (ic_t (q 21)) := by
  have hi32 : vp_in (nI s) 32 := vp_in_nI hs (by decide)
  have v : ic_qf q s 5 s = if q 3 s / 8 = 3 then 3 else 2 := ic_us
  have v3 : ic_qf q s 5 s ≤ 3 := by rw [v]; split <;> omega
  unfold wY_respond_114
  refine br_t rfl (ic_Y_finish (q := q) hs h3 ?_)
  unfold ic_qw at h
  refine And.intro hi32 (ek_if (ic_ce (f := ic_qf q s 5) s 2 rfl rfl (by omega) (by omega) (by decide)) (fun e => ?_) (fun e => ?_))
  · have e2 : ¬ q 3 s / 8 = 3 := by
      intro z
      rw [v, if_pos z] at e
      omega
    rw [if_neg e2] at h
    exact ⟨_, ic_Y_r138 (q := ic_qf q s) hm hi hs (by show q 3 s + q 4 s ≤ 24; omega) h4 h (q 4 s) 0 (by show 0 + q 4 s = q 4 s; omega)⟩
  · have e2 : q 3 s / 8 = 3 := by
      by_cases z : q 3 s / 8 = 3
      · exact z
      · rw [v, if_neg z] at e
        omega
    rw [if_pos e2] at h
    exact ic_Y_r199 (q := ic_qf q s) hm hi h
theorem ic_Y_r272 {q : Nat → Nat → Nat} {m i s x : Nat} {post : SY → Prop} (hm : m < 2) (hi : i < 4) (hs : s < 32) (h3 : q 3 s < 32) (hB : q 8 s < q 4 s) (h4 : q 4 s ≤ 4) (h : post (ic_Y (ic_qr q m s i x))) : wY_respond_272 post (nI m) (nI i) (nI s) (nI (q 8 s)) (nI x) (nI (q 22 0)) (nI (q 22 1)) (nI (q 22 2)) (nI (q 22 3)) (nI (q 22 4)) (ic_t (q 0)) (ic_t (q 1)) (ic_t (q 2)) (ic_t (q 3)) (ic_t (q 4)) (ic_t (q 5)) (ic_t (q 6)) (ic_t (q 7)) (ic_t (q 8)) (ic_t (q 9)) (ic_t (q 10)) (ic_t (q 11)) (ic_t (q 12)) (ic_t (q 13)) (ic_t (q 14)) (ic_t (q 15)) (ic_t (q 16)) (ic_t (q 17)) (ic_t (q 18)) (ic_t (q 19)) (ic_t (q 20)) (ic_t (q 21)) := by
  have hi32 : vp_in (nI s) 32 := vp_in_nI hs (by decide)
  have e4 : nI s * 4 + nI (q 8 s) = nI (s * 4 + q 8 s) := ic_ma s 4 (q 8 s)
  unfold wY_respond_272
  refine br_f (nI_pos (by omega)) (pk_le 4 (q 8 s) (fun z => by omega) (fun _ => And.intro (pk_in (s * 4 + q 8 s) 128 (by omega) e4) (nm_r (ic_p _ x e4 (by omega) rfl) ?_)))
  unfold wY_respond_299
  refine And.intro hi32 (nm_r (ic_p s (q 8 s + 1) rfl (by omega) (nI_1 _)) (And.intro hi32 (And.intro hi32 ?_)))
  have g1 : ic_t (ic_u (q 8) s (q 8 s + 1)) (nI s).toNatClampNeg = nI (q 8 s + 1) := by rw [ic_g s rfl (by omega), ic_us]
  unfold ic_qr at h
  refine pk_lt (q 8 s + 1) (q 4 s) (fun z => ?_) (fun z => ?_) g1 (ic_g s rfl (by omega))
  · rw [if_neg (by omega)] at h
    exact ic_Y_r333 (q := ic_qb q s x) hm hi h
  · rw [if_pos (by omega)] at h
    refine ic_Y_finish (q := ic_qb q s x) hs h3 ?_
    exact ic_Y_r333 (q := ic_qf (ic_qb q s x) s) hm hi h
theorem ic_Y_rr {q : Nat → Nat → Nat} {m i s x : Nat} {post : SY → Prop} (hm : m < 2) (hi : i < 4) (hs : s < 32) (h3 : q 3 s < 32) (hA : q 3 s % 8 + q 4 s ≤ 8) (hB : q 8 s < q 4 s) (h4 : q 4 s ≤ 4) (hx : x = if q 3 s / 8 = 3 then 0 else q 12 (q 3 s + q 8 s)) (h : post (ic_Y (ic_qr q m s i x))) : wY_respond_114 post (nI m) 1 (nI i) (nI s) (nI (q 22 0)) (nI (q 22 1)) (nI (q 22 2)) (nI (q 22 3)) (nI (q 22 4)) (ic_t (q 0)) (ic_t (q 1)) (ic_t (q 2)) (ic_t (q 3)) (ic_t (q 4)) (ic_t (q 5)) (ic_t (q 6)) (ic_t (q 7)) (ic_t (q 8)) (ic_t (q 9)) (ic_t (q 10)) (ic_t (q 11)) (ic_t (q 12)) (ic_t (q 13)) (ic_t (q 14)) (ic_t (q 15)) (ic_t (q 16)) (ic_t (q 17)) (ic_t (q 18)) (ic_t (q 19)) (ic_t (q 20)) (ic_t (q 21)) := by
  have hi32 : vp_in (nI s) 32 := vp_in_nI hs (by decide)
  have e3 : ic_t (q 3) (nI s).toNatClampNeg / 8 = nI (q 3 s / 8) := by
    rw [ic_g s rfl (by omega)]
    exact pk_div (d := 8) (by omega) (by decide) (by decide)
  unfold wY_respond_114
  refine br_f (by decide) (And.intro hi32 (nm_r (ic_g s rfl (by omega)) (And.intro hi32 (nm_r (e' := nI (q 3 s + q 8 s)) (by rw [ic_g s rfl (by omega), nI_add]) (And.intro hi32 (And.intro (by decide) ?_))))))
  refine pk_eq (q 3 s / 8) 3 (fun e => ?_) (fun e => ?_) e3 rfl
  · rw [if_pos e] at hx
    subst hx
    unfold wY_respond_261
    exact ic_Y_r272 (x := 0) hm hi hs h3 hB h4 h
  · rw [if_neg e] at hx
    subst hx
    refine br_f (nI_pos (by omega)) (pk_le (q 3 s + q 8 s) 23 (fun z => And.intro (vp_in_nI (by omega) (by decide)) ?_) (fun z => by omega))
    rw [ic_g (q 3 s + q 8 s) rfl (by omega)]
    exact ic_Y_r272 hm hi hs h3 hB h4 h
theorem ic_Y_r23 {p q : Nat → Nat → Nat} {m k : Nat} {post : SY → Prop} (hl : ic_Lnk p q) (hI : ic_Inv p) (hT : p 25 3 < 2 ^ 30) (hC : p 25 2 < 2 ^ 30) (hm : m < 2) (hk : k < 2) : ∀ d j : Nat, j + d = 4 →
    (ic_chl p (m * 2 + (1 - k)) d j = none → post (ic_Y q)) → (∀ s, ic_chl p (m * 2 + (1 - k)) d j = some s → s < p 25 3 → wY_respond_114 post (nI m) (nI k) (nI (p 2 s)) (nI s) (nI (q 22 0)) (nI (q 22 1)) (nI (q 22 2)) (nI (q 22 3)) (nI (q 22 4)) (ic_t (q 0)) (ic_t (q 1)) (ic_t (q 2)) (ic_t (q 3)) (ic_t (q 4)) (ic_t (q 5)) (ic_t (q 6)) (ic_t (q 7)) (ic_t (q 8)) (ic_t (q 9)) (ic_t (q 10)) (ic_t (q 11)) (ic_t (q 12)) (ic_t (q 13)) (ic_t (q 14)) (ic_t (q 15)) (ic_t (q 16)) (ic_t (q 17)) (ic_t (q 18)) (ic_t (q 19)) (ic_t (q 20)) (ic_t (q 21))) →
    wY_respond_23 post (nI m) (nI k) (nI (p 22 (m * 2 + (1 - k)))) (nI (q 22 0)) (nI (q 22 1)) (nI (q 22 2)) (nI (q 22 3)) (nI (q 22 4)) (ic_t (q 0)) (ic_t (q 1)) (ic_t (q 2)) (ic_t (q 3)) (ic_t (q 4)) (ic_t (q 5)) (ic_t (q 6)) (ic_t (q 7)) (ic_t (q 8)) (ic_t (q 9)) (ic_t (q 10)) (ic_t (q 11)) (ic_t (q 12)) (ic_t (q 13)) (ic_t (q 14)) (ic_t (q 15)) (ic_t (q 16)) (ic_t (q 17)) (ic_t (q 18)) (ic_t (q 19)) (ic_t (q 20)) (ic_t (q 21)) (d + 1) (nI j) := by
  have e2 : q 22 2 = p 25 2 := hl.2.2.2.2.2.2 2 (by decide)
  intro d
  induction d with
  | zero =>
    intro j hj hn _
    exact pk_le 4 j (fun _ => hn rfl) (fun h => by omega)
  | succ d ih =>
    intro j hj hn hs
    have h22 := (hI.2.2.2.2.2.2.1 (m * 2 + (1 - k)) (by omega)).1
    refine pk_le 4 j (fun h => by omega) (fun h => And.intro (by decide) ?_)
    refine nm_r (ic_r (p 22 (m * 2 + (1 - k)) + j) 4 (nI_add _ _) (by omega) (by decide) (by decide)) ?_
    have nx : (ic_chl p (m * 2 + (1 - k)) (d + 1) j = ic_chl p (m * 2 + (1 - k)) d (j + 1)) → wY_respond_23 post (nI m) (nI k) (nI (p 22 (m * 2 + (1 - k)))) (nI (q 22 0)) (nI (q 22 1)) (nI (q 22 2)) (nI (q 22 3)) (nI (q 22 4)) (ic_t (q 0)) (ic_t (q 1)) (ic_t (q 2)) (ic_t (q 3)) (ic_t (q 4)) (ic_t (q 5)) (ic_t (q 6)) (ic_t (q 7)) (ic_t (q 8)) (ic_t (q 9)) (ic_t (q 10)) (ic_t (q 11)) (ic_t (q 12)) (ic_t (q 13)) (ic_t (q 14)) (ic_t (q 15)) (ic_t (q 16)) (ic_t (q 17)) (ic_t (q 18)) (ic_t (q 19)) (ic_t (q 20)) (ic_t (q 21)) (d + 1) (nI (j + 1)) := fun e =>
      ih (j + 1) (by omega) (fun z => hn (by rw [e]; exact z)) (fun s z => hs s (by rw [e]; exact z))
    refine ic_Y_oldestOpen hl hI.1 hT hm hk (by omega) (fun ho => ?_) (fun s t ho g ht et => ?_)
    · refine br_f (by decide) (nm_r (nI_1 j) (nx ?_))
      show (match ic_old p (m * 2 + (1 - k)) ((p 22 (m * 2 + (1 - k)) + j) % 4) with | none => ic_chl p (m * 2 + (1 - k)) d (j + 1) | some s => if ic_eli p s = true then some s else ic_chl p (m * 2 + (1 - k)) d (j + 1)) = _
      rw [ho]
    · have h32 := (ic_ff_ps ho).1
      have hp := of_decide_eq_true (ic_ff_ps ho).2
      have ec : ic_chl p (m * 2 + (1 - k)) (d + 1) j = if ic_eli p s = true then some s else ic_chl p (m * 2 + (1 - k)) d (j + 1) := by
        show (match ic_old p (m * 2 + (1 - k)) ((p 22 (m * 2 + (1 - k)) + j) % 4) with | none => ic_chl p (m * 2 + (1 - k)) d (j + 1) | some s => if ic_eli p s = true then some s else ic_chl p (m * 2 + (1 - k)) d (j + 1)) = _
        rw [ho]
      have N : ¬ (p 0 s = 1 ∧ (p 1 s % 2 = 0 ∨ p 5 s = p 4 s) ∧ p 7 s ≤ p 25 2) → wY_respond_23 post (nI m) (nI k) (nI (p 22 (m * 2 + (1 - k)))) (nI (q 22 0)) (nI (q 22 1)) (nI (q 22 2)) (nI (q 22 3)) (nI (q 22 4)) (ic_t (q 0)) (ic_t (q 1)) (ic_t (q 2)) (ic_t (q 3)) (ic_t (q 4)) (ic_t (q 5)) (ic_t (q 6)) (ic_t (q 7)) (ic_t (q 8)) (ic_t (q 9)) (ic_t (q 10)) (ic_t (q 11)) (ic_t (q 12)) (ic_t (q 13)) (ic_t (q 14)) (ic_t (q 15)) (ic_t (q 16)) (ic_t (q 17)) (ic_t (q 18)) (ic_t (q 19)) (ic_t (q 20)) (ic_t (q 21)) (d + 1) (nI (j + 1)) := fun z =>
        nx (by rw [ec, if_neg (show ¬ ic_eli p s = true from fun w => z (of_decide_eq_true w))])
      have G : (p 0 s = 1 ∧ (p 1 s % 2 = 0 ∨ p 5 s = p 4 s) ∧ p 7 s ≤ p 25 2) → wY_respond_114 post (nI m) (nI k) (nI ((p 22 (m * 2 + (1 - k)) + j) % 4)) (nI s) (nI (q 22 0)) (nI (q 22 1)) (nI (q 22 2)) (nI (q 22 3)) (nI (q 22 4)) (ic_t (q 0)) (ic_t (q 1)) (ic_t (q 2)) (ic_t (q 3)) (ic_t (q 4)) (ic_t (q 5)) (ic_t (q 6)) (ic_t (q 7)) (ic_t (q 8)) (ic_t (q 9)) (ic_t (q 10)) (ic_t (q 11)) (ic_t (q 12)) (ic_t (q 13)) (ic_t (q 14)) (ic_t (q 15)) (ic_t (q 16)) (ic_t (q 17)) (ic_t (q 18)) (ic_t (q 19)) (ic_t (q 20)) (ic_t (q 21)) := fun z => by
        have r := hs s (by rw [ec, if_pos (show ic_eli p s = true from decide_eq_true z)]) g
        rw [hp.2.1] at r
        exact r
      have hL := hI.1 s h32
      have hM := hl.1 s h32 g
      unfold ic_L at hL
      unfold ic_M at hM
      have hi32 : vp_in (nI s) 32 := vp_in_nI h32 (by decide)
      refine br_t (nI_pos' (by omega)) (nm_r (e' := nI s) (by rw [ic_sl (by omega), et]) (And.intro hi32 ?_))
      refine ek_if (ic_ce s 1 rfl rfl (by omega) (by omega) (by decide)) (fun a => And.intro hi32 ?_) (fun a => nm_r (nI_1 j) (N (by omega)))
      by_cases r : p 1 s % 2 = 0 ∨ p 5 s = p 4 s
      · have e7 : q 7 s = p 7 s := (hM.2.2.1 (by omega)).2 r
        refine pk_le (p 7 s) (p 25 2) (fun b => ?_) (fun b => nm_r (nI_1 j) (N (by omega))) (by rw [ic_g s rfl (by omega), e7]) (by rw [e2])
        refine pk_eq k 0 (fun c => ?_) (fun c => G (by omega))
        refine And.intro hi32 (And.intro hi32 (pk_le (q 4 s) (q 8 s) (fun z => G (by omega)) (fun z => by omega) (ic_g s rfl (by omega)) (ic_g s rfl (by omega))))
      · refine br_c (fun b => ?_) (fun b => nm_r (nI_1 j) (N (by omega)))
        refine pk_eq k 0 (fun c => ?_) (fun c => by omega)
        refine And.intro hi32 (And.intro hi32 (pk_le (q 4 s) (q 8 s) (fun z => by omega) (fun z => nm_r (nI_1 j) (N (by omega))) (ic_g s rfl (by omega)) (ic_g s rfl (by omega))))
theorem ic_cho_r {p : Nat → Nat → Nat} {c : Nat} (h : p 23 c ≠ 0) : ic_cho p c = ic_chl p c 4 0 := by unfold ic_cho; rw [if_neg h]
theorem ic_Y_wr {p q : Nat → Nat → Nat} {m : Nat} {post : SY → Prop} (hl : ic_Lnk p q) (hI : ic_Inv p) (hT : p 25 3 < 2 ^ 30) (hC : p 25 2 < 2 ^ 30) (hm : m < 2) (hr : p 23 (m * 2 + 1) ≠ 0) (h : ∀ q', ic_Lnk (ic_wr p (m * 2 + 1)) q' → post (ic_Y q')) : wpY_respond post (ic_Y q) (nI m) 0 := by
  have e17 : q 17 m = p 22 (m * 2 + 1) := (hl.2.2.2.2.1 m hm).1
  unfold wpY_respond
  refine br_t rfl (And.intro (vp_in_nI hm (by decide)) (nm_r (e' := nI (p 22 (m * 2 + 1))) (by rw [ic_g m rfl (by omega), e17]) ⟨5, ?_⟩))
  unfold ic_wr at h
  rw [ic_cho_r hr] at h
  refine ic_Y_r23 (k := 0) hl hI hT hC hm (by decide) 4 0 rfl (fun e => ?_) (fun s e g => ?_)
  · have e' : ic_chl p (m * 2 + 1) 4 0 = none := e
    rw [e'] at h
    exact h q hl
  · have e' : ic_chl p (m * 2 + 1) 4 0 = some s := e
    rw [e'] at h
    dsimp only at h
    obtain ⟨hs, hH, h1, hB, _⟩ := ic_chl_ps 4 0 s e'
    have hL := hI.1 s hs
    have hM := hl.1 s hs g
    unfold ic_L at hL
    unfold ic_M at hM
    exact ic_Y_rw hm (by omega) hs (by omega) (by rw [hM.1.2.2.2.1, hM.1.2.2.2.2]; omega) (by omega) (h _ (ic_Lnk_wr hl hs g (by omega)))
theorem ic_Y_rd {p q : Nat → Nat → Nat} {m : Nat} {post : SY → Prop} (hl : ic_Lnk p q) (hI : ic_Inv p) (hT : p 25 3 < 2 ^ 30) (hC : p 25 2 < 2 ^ 30) (hm : m < 2) (hr : p 23 (m * 2) ≠ 0) (h : ∀ q', ic_Lnk (ic_rd p (m * 2)) q' → post (ic_Y q')) : wpY_respond post (ic_Y q) (nI m) 1 := by
  have e18 : q 18 m = p 22 (m * 2) := (hl.2.2.2.2.1 m hm).2.1
  unfold wpY_respond
  refine br_f (by decide) (And.intro (vp_in_nI hm (by decide)) (nm_r (e' := nI (p 22 (m * 2))) (by rw [ic_g m rfl (by omega), e18]) ⟨5, ?_⟩))
  unfold ic_rd at h
  rw [ic_cho_r hr] at h
  refine ic_Y_r23 (k := 1) hl hI hT hC hm (by decide) 4 0 rfl (fun e => ?_) (fun s e g => ?_)
  · have e' : ic_chl p (m * 2) 4 0 = none := e
    rw [e'] at h
    exact h q hl
  · have e' : ic_chl p (m * 2) 4 0 = some s := e
    rw [e'] at h
    dsimp only at h
    obtain ⟨hs, hH, h1, hB, _⟩ := ic_chl_ps 4 0 s e'
    have hL := hI.1 s hs
    have hM := hl.1 s hs g
    unfold ic_L at hL
    unfold ic_M at hM
    refine ic_Y_rr (x := if p 3 s / 8 = 3 then 0 else p 17 (p 3 s + p 5 s)) hm (by omega) hs (by omega) (by rw [hM.1.2.2.2.1, hM.1.2.2.2.2]; omega) (by omega) (by omega) ?_ (h _ (ic_Lnk_rd hl hI.1 hs g h1 (by omega)))
    rw [hM.1.2.2.2.1, hM.2.1.2, hl.2.2.2.1.1]
end
section
/-! the reference: write data, arbitration -/
theorem ic_Y_153 {q : Nat → Nat → Nat} {m s b : Nat} {post : SY → Prop} (hm : m < 2) (hs : s < 32) (hb : q 8 s = b) (hb4 : b < 4) (h14 : 1 ≤ q 14 m) (h4 : q 4 s ≤ 4)
    (h : post (ic_Y (if b + 1 = q 4 s then ic_pu (ic_pu (ic_pu (ic_pf q 13 (ic_shf (q 13) (m * 8) 7)) 14 m (q 14 m - 1)) 8 s (b + 1)) 7 s (q 22 2 + q 6 s) else ic_pu (ic_pu (ic_pf q 13 (ic_shf (q 13) (m * 8) 7)) 14 m (q 14 m - 1)) 8 s (b + 1)))) : ∀ d j : Nat, j + d = 7 →
    wY_moveData_153 post (nI m) (nI s) (nI b) (nI (q 22 0)) (nI (q 22 1)) (nI (q 22 2)) (nI (q 22 3)) (nI (q 22 4)) (d + 1) (nI j) (ic_t ((ic_pf q 13 (ic_shf (q 13) (m * 8) j)) 0)) (ic_t ((ic_pf q 13 (ic_shf (q 13) (m * 8) j)) 1)) (ic_t ((ic_pf q 13 (ic_shf (q 13) (m * 8) j)) 2)) (ic_t ((ic_pf q 13 (ic_shf (q 13) (m * 8) j)) 3)) (ic_t ((ic_pf q 13 (ic_shf (q 13) (m * 8) j)) 4)) (ic_t ((ic_pf q 13 (ic_shf (q 13) (m * 8) j)) 5)) (ic_t ((ic_pf q 13 (ic_shf (q 13) (m * 8) j)) 6)) (ic_t ((ic_pf q 13 (ic_shf (q 13) (m * 8) j)) 7)) (ic_t ((ic_pf q 13 (ic_shf (q 13) (m * 8) j)) 8)) (ic_t ((ic_pf q 13 (ic_shf (q 13) (m * 8) j)) 9)) (ic_t ((ic_pf q 13 (ic_shf (q 13) (m * 8) j)) 10)) (ic_t ((ic_pf q 13 (ic_shf (q 13) (m * 8) j)) 11)) (ic_t ((ic_pf q 13 (ic_shf (q 13) (m * 8) j)) 12)) (ic_t ((ic_pf q 13 (ic_shf (q 13) (m * 8) j)) 13)) (ic_t ((ic_pf q 13 (ic_shf (q 13) (m * 8) j)) 14)) (ic_t ((ic_pf q 13 (ic_shf (q 13) (m * 8) j)) 15)) (ic_t ((ic_pf q 13 (ic_shf (q 13) (m * 8) j)) 16)) (ic_t ((ic_pf q 13 (ic_shf (q 13) (m * 8) j)) 17)) (ic_t ((ic_pf q 13 (ic_shf (q 13) (m * 8) j)) 18)) (ic_t ((ic_pf q 13 (ic_shf (q 13) (m * 8) j)) 19)) (ic_t ((ic_pf q 13 (ic_shf (q 13) (m * 8) j)) 20)) (ic_t ((ic_pf q 13 (ic_shf (q 13) (m * 8) j)) 21)) := by
  have hi32 : vp_in (nI s) 32 := vp_in_nI hs (by decide)
  have hi2 : vp_in (nI m) 2 := vp_in_nI hm (by decide)
  intro d
  induction d with
  | zero =>
    intro j e
    have e2 : j = 7 := by omega
    subst e2
    refine pk_le 7 7 (fun _ => ?_) (fun z => by omega)
    refine And.intro hi2 (And.intro hi2 (nm_r (ic_p m (q 14 m - 1) rfl (by omega) (ic_dec m rfl (by omega) h14)) (And.intro hi32 (nm_r (ic_p s (b + 1) rfl (by omega) (nI_1 b)) (And.intro hi32 (And.intro hi32 ?_))))))
    refine ek_if (ic_ce s (q 4 s) rfl (ic_g s rfl (by omega)) (by omega) (by rw [ic_us]; omega) (by omega)) (fun z => ?_) (fun z => ?_)
    · rw [ic_us] at z
      rw [if_pos z] at h
      refine And.intro hi32 (And.intro hi32 (nm_r (ic_p s (q 22 2 + q 6 s) rfl (by omega) (by rw [ic_g s rfl (by omega), nI_add]; rfl)) ?_))
      exact h
    · rw [ic_us] at z
      rw [if_neg z] at h
      exact h
  | succ d ih =>
    intro j e
    have e8 : nI m * 8 + nI j = nI (m * 8 + j) := ic_ma m 8 j
    have e9 : nI m * 8 + nI j + 1 = nI (m * 8 + j + 1) := by rw [e8]; exact nI_1 _
    refine pk_le 7 j (fun z => by omega) (fun _ => And.intro (pk_in (m * 8 + j + 1) 16 (by omega) e9) (And.intro (pk_in (m * 8 + j) 16 (by omega) e8) ?_))
    refine nm_r ((ic_p (m * 8 + j) (ic_shf (q 13) (m * 8) j (m * 8 + j + 1)) e8 (by omega) (ic_g _ e9 (by omega))).trans (congrArg ic_t (ic_shf_s (q 13) (m * 8) j))) (nm_r (nI_1 j) ?_)
    exact ih (j + 1) (by omega)
theorem ic_Y_md {p q : Nat → Nat → Nat} {m : Nat} {post : SY → Prop} (hl : ic_Lnk p q) (hI : ic_J1 p) (hT : p 25 3 < 2 ^ 30) (hm : m < 2) : ∀ d j : Nat, j + d = 32 →
    (ic_ff (p 25 3) (ic_unp p m) d j = none → wY_moveData_91 post (nI m) (-1) (nI (q 22 0)) (nI (q 22 1)) (nI (q 22 2)) (nI (q 22 3)) (nI (q 22 4)) (ic_t (q 0)) (ic_t (q 1)) (ic_t (q 2)) (ic_t (q 3)) (ic_t (q 4)) (ic_t (q 5)) (ic_t (q 6)) (ic_t (q 7)) (ic_t (q 8)) (ic_t (q 9)) (ic_t (q 10)) (ic_t (q 11)) (ic_t (q 12)) (ic_t (q 13)) (ic_t (q 14)) (ic_t (q 15)) (ic_t (q 16)) (ic_t (q 17)) (ic_t (q 18)) (ic_t (q 19)) (ic_t (q 20)) (ic_t (q 21))) → (∀ s, ic_ff (p 25 3) (ic_unp p m) d j = some s → s < p 25 3 → wY_moveData_91 post (nI m) (nI s) (nI (q 22 0)) (nI (q 22 1)) (nI (q 22 2)) (nI (q 22 3)) (nI (q 22 4)) (ic_t (q 0)) (ic_t (q 1)) (ic_t (q 2)) (ic_t (q 3)) (ic_t (q 4)) (ic_t (q 5)) (ic_t (q 6)) (ic_t (q 7)) (ic_t (q 8)) (ic_t (q 9)) (ic_t (q 10)) (ic_t (q 11)) (ic_t (q 12)) (ic_t (q 13)) (ic_t (q 14)) (ic_t (q 15)) (ic_t (q 16)) (ic_t (q 17)) (ic_t (q 18)) (ic_t (q 19)) (ic_t (q 20)) (ic_t (q 21))) →
    wY_moveData_4 post (nI m) (nI (q 22 0)) (nI (q 22 1)) (nI (q 22 2)) (nI (q 22 3)) (nI (q 22 4)) (ic_t (q 0)) (ic_t (q 1)) (ic_t (q 2)) (ic_t (q 3)) (ic_t (q 4)) (ic_t (q 5)) (ic_t (q 6)) (ic_t (q 7)) (ic_t (q 8)) (ic_t (q 9)) (ic_t (q 10)) (ic_t (q 11)) (ic_t (q 12)) (ic_t (q 13)) (ic_t (q 14)) (ic_t (q 15)) (ic_t (q 16)) (ic_t (q 17)) (ic_t (q 18)) (ic_t (q 19)) (ic_t (q 20)) (ic_t (q 21)) (d + 1) (-1) (nI j) := by
  have eT : q 22 3 = p 25 3 := hl.2.2.2.2.2.2 3 (by decide)
  intro d
  induction d with
  | zero =>
    intro j hj hn _
    exact pk_le 32 j (fun _ => hn rfl) (fun h => by omega)
  | succ d ih =>
    intro j hj hn hs
    refine pk_le 32 j (fun h => by omega) (fun hj32 => br_f (by decide) ?_)
    have K : ¬ ic_unp p m ((p 25 3 + j) % 32) = true → wY_moveData_4 post (nI m) (nI (q 22 0)) (nI (q 22 1)) (nI (q 22 2)) (nI (q 22 3)) (nI (q 22 4)) (ic_t (q 0)) (ic_t (q 1)) (ic_t (q 2)) (ic_t (q 3)) (ic_t (q 4)) (ic_t (q 5)) (ic_t (q 6)) (ic_t (q 7)) (ic_t (q 8)) (ic_t (q 9)) (ic_t (q 10)) (ic_t (q 11)) (ic_t (q 12)) (ic_t (q 13)) (ic_t (q 14)) (ic_t (q 15)) (ic_t (q 16)) (ic_t (q 17)) (ic_t (q 18)) (ic_t (q 19)) (ic_t (q 20)) (ic_t (q 21)) (d + 1) (-1) (nI (j + 1)) := fun h =>
      ih (j + 1) (by omega) (fun z => hn (by rw [ic_ff_f h]; exact z)) (fun s z => hs s (by rw [ic_ff_f h]; exact z))
    by_cases h32 : 32 ≤ p 25 3 + j
    · obtain ⟨g1, g2, g3, g4⟩ := ic_plc hj32 h32
      have F : ic_unp p m ((p 25 3 + j) % 32) = true → wY_moveData_91 post (nI m) (nI ((p 25 3 + j) % 32)) (nI (q 22 0)) (nI (q 22 1)) (nI (q 22 2)) (nI (q 22 3)) (nI (q 22 4)) (ic_t (q 0)) (ic_t (q 1)) (ic_t (q 2)) (ic_t (q 3)) (ic_t (q 4)) (ic_t (q 5)) (ic_t (q 6)) (ic_t (q 7)) (ic_t (q 8)) (ic_t (q 9)) (ic_t (q 10)) (ic_t (q 11)) (ic_t (q 12)) (ic_t (q 13)) (ic_t (q 14)) (ic_t (q 15)) (ic_t (q 16)) (ic_t (q 17)) (ic_t (q 18)) (ic_t (q 19)) (ic_t (q 20)) (ic_t (q 21)) := fun h => hs _ (ic_ff_t h) g1
      refine nm_r (ic_tt' eT h32) (ic_Y_validT (q := q) eT hT g3 g4 (br_f (by decide) (nm_r (ic_t31 hT hj32 h32) ?_)))
      have hs32 : (p 25 3 + j) % 32 < 32 := by omega
      have hL := hI _ hs32
      have hM := hl.1 _ hs32 g1
      generalize (p 25 3 + j) % 32 = s at *
      unfold ic_L at hL
      unfold ic_M at hM
      have hi32 : vp_in (nI s) 32 := vp_in_nI hs32 (by decide)
      have N : ¬ (p 1 s = m * 2 + 1 ∧ p 5 s < p 4 s) → wY_moveData_4 post (nI m) (nI (q 22 0)) (nI (q 22 1)) (nI (q 22 2)) (nI (q 22 3)) (nI (q 22 4)) (ic_t (q 0)) (ic_t (q 1)) (ic_t (q 2)) (ic_t (q 3)) (ic_t (q 4)) (ic_t (q 5)) (ic_t (q 6)) (ic_t (q 7)) (ic_t (q 8)) (ic_t (q 9)) (ic_t (q 10)) (ic_t (q 11)) (ic_t (q 12)) (ic_t (q 13)) (ic_t (q 14)) (ic_t (q 15)) (ic_t (q 16)) (ic_t (q 17)) (ic_t (q 18)) (ic_t (q 19)) (ic_t (q 20)) (ic_t (q 21)) (d + 1) (-1) (nI (j + 1)) := fun z => K (fun w => z (of_decide_eq_true w))
      refine And.intro hi32 (ek_if (ic_ce s m rfl rfl (by omega) (by omega) (by omega)) (fun a => ?_) (fun a => nm_r (nI_1 j) (N (by omega))))
      refine And.intro hi32 (ek_if (ic_ce s 0 rfl rfl (by omega) (by omega) (by omega)) (fun b => ?_) (fun b => nm_r (nI_1 j) (N (by omega))))
      refine And.intro hi32 (And.intro hi32 (pk_le (q 4 s) (q 8 s) (fun c => nm_r (nI_1 j) (N (by omega))) (fun c => nm_r (nI_1 j) ?_) (ic_g s rfl (by omega)) (ic_g s rfl (by omega))))
      have f := F (decide_eq_true (by omega))
      exact br_c (fun _ => f) (fun _ => br_t (nI_pos' (by omega)) f)
    · have hu := (ic_pln hI h32).2
      refine nm_e (ic_Y_validN (q := q) (ic_tn' eT h32) (br_t rfl (nm_r (nI_1 j) (K (fun z => ?_)))))
      have := (of_decide_eq_true z).2
      omega
theorem ic_Y_mv {p q : Nat → Nat → Nat} {m : Nat} {post : SY → Prop} (hl : ic_Lnk p q) (hI : ic_Inv p) (hT : p 25 3 < 2 ^ 30) (hm : m < 2) (h : ∀ q', ic_Lnk (ic_mv p m) q' → post (ic_Y q')) : wpY_moveData post (ic_Y q) (nI m) := by
  unfold wpY_moveData
  unfold ic_mv at h
  have e14 : q 14 m = p 16 m := (hl.2.2.1 m hm).1
  have h16 := hI.2.2.2.1 m hm
  have hi2 : vp_in (nI m) 2 := vp_in_nI hm (by decide)
  refine ⟨33, ic_Y_md hl hI.1 hT hm 32 0 rfl (fun e => ?_) (fun s e g => ?_)⟩
  · have e' : ic_unf p m = none := e
    rw [e'] at h
    unfold wY_moveData_91
    exact br_t (by decide) (h q hl)
  · have e' : ic_unf p m = some s := e
    rw [e'] at h
    dsimp only at h
    obtain ⟨hs, hH, h5⟩ := ic_unf_ps e'
    have hL := hI.1 s hs
    have hM := hl.1 s hs g
    unfold ic_L at hL
    unfold ic_M at hM
    have hi32 : vp_in (nI s) 32 := vp_in_nI hs (by decide)
    unfold wY_moveData_91
    refine br_f (nI_pos (by omega)) (And.intro hi32 ?_)
    refine ek_if (ic_ce s 1 rfl rfl (by omega) (by omega) (by decide)) (fun a => And.intro hi2 ?_) (fun a => ?_)
    · refine pk_lt 0 (q 14 m) (fun b => And.intro hi32 (nm_r (ic_g s rfl (by omega)) ?_)) (fun b => ?_) rfl (ic_g m rfl (by omega))
      · rw [if_pos ⟨by omega, by omega⟩] at h
        have e4 : nI s * 4 + nI (q 8 s) = nI (s * 4 + q 8 s) := ic_ma s 4 (q 8 s)
        have e8 : nI m * 8 = nI (m * 8) := pk_mul m 8
        refine br_f (nI_pos (by omega)) (pk_le 4 (q 8 s) (fun z => by omega) (fun _ => And.intro (pk_in (m * 8) 16 (by omega) e8) (And.intro (pk_in (s * 4 + q 8 s) 128 (by omega) e4) (nm_r (ic_p _ (q 13 (m * 8)) e4 (by omega) (ic_g _ e8 (by omega))) ⟨8, ?_⟩))))
        have hq := h _ (ic_Lnk_mv hl hI.1 hI.2.2.2 hm hs g (by omega) (by omega) h5 (by omega))
        have r := ic_Y_153 (q := ic_pu q 11 (s * 4 + q 8 s) (q 13 (m * 8))) (post := post) hm hs (b := q 8 s) rfl (by omega) (by show 1 ≤ q 14 m; omega) (by show q 4 s ≤ 4; omega) hq 7 0 rfl
        rw [ic_shf_0] at r
        exact r
      · rw [if_neg (by omega)] at h
        exact h q hl
    · rw [if_neg (by omega)] at h
      exact h q hl
theorem ic_Y_116 {q : Nat → Nat → Nat} {s k b l w : Nat} {post : SY → Prop} (hs : s < 4) (hk : k < 2) (hb : b < 32) (hw : w < 2) (h : post (ic_Y (ic_qa q s (1 - k) b l w))) : wY_arbitrate_116 post (nI s) (nI k) (nI w) (nI b) (nI l) (nI (q 22 0)) (nI (q 22 1)) (nI (q 22 2)) (nI (q 22 3)) (nI (q 22 4)) (ic_t (q 0)) (ic_t (q 1)) (ic_t (q 2)) (ic_t (q 3)) (ic_t (q 4)) (ic_t (q 5)) (ic_t (q 6)) (ic_t (q 7)) (ic_t (q 8)) (ic_t (q 9)) (ic_t (q 10)) (ic_t (q 11)) (ic_t (q 12)) (ic_t (q 13)) (ic_t (q 14)) (ic_t (q 15)) (ic_t (q 16)) (ic_t (q 17)) (ic_t (q 18)) (ic_t (q 19)) (ic_t (q 20)) (ic_t (q 21)) := by
  have hi32 : vp_in (nI b) 32 := vp_in_nI hb (by decide)
  have hi4 : vp_in (nI s) 4 := vp_in_nI hs (by decide)
  have e2 : nI s * 2 + nI k = nI (s * 2 + k) := ic_ma s 2 k
  unfold ic_qa at h
  rw [show s * 2 + (1 - (1 - k)) = s * 2 + k from by omega] at h
  unfold wY_arbitrate_116
  refine And.intro hi4 (And.intro hi4 (nm_r (ic_p s (q 16 s + 1) rfl (by omega) (ic_inc s rfl (by omega))) (And.intro hi32 (nm_r (ic_p b 1 rfl (by omega) rfl) (And.intro hi32 (nm_r (ic_p b l rfl (by omega) rfl) ?_))))))
  refine pk_eq k 1 (fun e => ?_) (fun e => ?_)
  · rw [if_pos (by omega)] at h
    refine And.intro hi32 (nm_r (ic_p b (q 22 2 + l) rfl (by omega) (nI_add _ _)) ?_)
    unfold wY_arbitrate_168
    refine And.intro (pk_in (s * 2 + k) 8 (by omega) e2) (nm_r (ic_p _ (1 - w) e2 (by omega) (pk_sub (a := 1) (by omega))) ?_)
    exact h
  · rw [if_neg (by omega)] at h
    unfold wY_arbitrate_168
    refine And.intro (pk_in (s * 2 + k) 8 (by omega) e2) (nm_r (ic_p _ (1 - w) e2 (by omega) (pk_sub (a := 1) (by omega))) ?_)
    exact h
theorem ic_Y_62 {p q : Nat → Nat → Nat} {s k w : Nat} {post : SY → Prop} (hl : ic_Lnk p q) (hI : ic_Inv p) (hT : p 25 3 < 2 ^ 30) (hs : s < 4) (hk : k < 2) (hw : w < 2) (c : ic_can p w s (1 - k) = true)
    (h : ∀ q', ic_Lnk (ic_ar1 p s (1 - k) w) q' → post (ic_Y q')) : wY_arbitrate_62 post (nI s) (nI k) (nI w) (nI (q 22 0)) (nI (q 22 1)) (nI (q 22 2)) (nI (q 22 3)) (nI (q 22 4)) (ic_t (q 0)) (ic_t (q 1)) (ic_t (q 2)) (ic_t (q 3)) (ic_t (q 4)) (ic_t (q 5)) (ic_t (q 6)) (ic_t (q 7)) (ic_t (q 8)) (ic_t (q 9)) (ic_t (q 10)) (ic_t (q 11)) (ic_t (q 12)) (ic_t (q 13)) (ic_t (q 14)) (ic_t (q 15)) (ic_t (q 16)) (ic_t (q 17)) (ic_t (q 18)) (ic_t (q 19)) (ic_t (q 20)) (ic_t (q 21)) := by
  have n0 := (ic_can_ps c).1
  have hi4 : vp_in (nI s) 4 := vp_in_nI hs (by decide)
  have h19 := hI.2.2.2.2.2.1 s hs
  unfold wY_arbitrate_62
  refine br_t (nI_pos' (by omega)) (ic_Y_queueHead hl hI hT hw hk (fun a => absurd a n0) (fun t a g ht et => ?_))
  obtain ⟨g1, _, _, _⟩ := ic_hd_ps hI.2.2.1 (c := w * 2 + (1 - k)) (by omega) n0
  have hq := h _ (ic_Lnk_ar hl hI hs (by omega) hw c g)
  refine br_t (nI_pos' (by omega)) (nm_r (e' := nI (ic_hd p (w * 2 + (1 - k)))) (by rw [ic_sl (by omega), et]) ?_)
  refine pk_eq s 3 (fun e => ?_) (fun e => And.intro hi4 ?_)
  · have el : ic_lat p s = 1 := if_pos e
    rw [el] at hq
    exact ic_Y_116 hs hk g1 hw hq
  · have el : ic_lat p s = p 18 (s * 4 + p 19 s) := if_neg e
    have e16 : q 16 s % 4 = p 19 s := hl.2.2.2.1.2.2 s (by omega)
    have e4 : nI s * 4 + (ic_t (q 16) (nI s).toNatClampNeg &&& 3) = nI (s * 4 + p 19 s) := by
      rw [ic_g s rfl (by omega), ic_s3, e16]
      exact ic_ma s 4 (p 19 s)
    rw [el, ← hl.2.2.2.1.2.1] at hq
    refine And.intro (pk_in (s * 4 + p 19 s) 12 (by omega) e4) ?_
    rw [ic_g _ e4 (by omega)]
    exact ic_Y_116 hs hk g1 hw hq
theorem ic_Y_ar {p q : Nat → Nat → Nat} {s k : Nat} {post : SY → Prop} (hl : ic_Lnk p q) (hI : ic_Inv p) (hT : p 25 3 < 2 ^ 30) (hs : s < 4) (hk : k < 2) (h : ∀ q', ic_Lnk (ic_ar p s (1 - k)) q' → post (ic_Y q')) : wpY_arbitrate post (ic_Y q) (nI s) (nI k) := by
  have e2 : nI s * 2 + nI k = nI (s * 2 + k) := ic_ma s 2 k
  have h24 := hI.2.2.2.2.2.2.2.1 (s * 2 + (1 - k)) (by omega)
  have e19 : q 19 (s * 2 + k) = p 24 (s * 2 + (1 - k)) := by
    have h6 := hl.2.2.2.2.2.1 s hs
    rcases (by omega : k = 0 ∨ k = 1) with e | e
    · subst e; exact h6.1
    · subst e; exact h6.2
  have W : ∀ w, w < 2 → w = ic_win p s (1 - k) → ic_can p w s (1 - k) = true → wY_arbitrate_62 post (nI s) (nI k) (nI w) (nI (q 22 0)) (nI (q 22 1)) (nI (q 22 2)) (nI (q 22 3)) (nI (q 22 4)) (ic_t (q 0)) (ic_t (q 1)) (ic_t (q 2)) (ic_t (q 3)) (ic_t (q 4)) (ic_t (q 5)) (ic_t (q 6)) (ic_t (q 7)) (ic_t (q 8)) (ic_t (q 9)) (ic_t (q 10)) (ic_t (q 11)) (ic_t (q 12)) (ic_t (q 13)) (ic_t (q 14)) (ic_t (q 15)) (ic_t (q 16)) (ic_t (q 17)) (ic_t (q 18)) (ic_t (q 19)) (ic_t (q 20)) (ic_t (q 21)) := by
    intro w hw ew c
    refine ic_Y_62 hl hI hT hs hk hw c (fun q' hq => h q' ?_)
    unfold ic_ar
    rw [← ew, if_pos c]
    exact hq
  have Z : ¬ ic_can p (ic_win p s (1 - k)) s (1 - k) = true → post (ic_Y q) := by
    intro c
    refine h q ?_
    unfold ic_ar
    rw [if_neg c]
    exact hl
  unfold wpY_arbitrate
  refine ic_Y_candidate (m := 0) hl hI hT (by decide) hk hs (fun c0 => ?_) (fun c0 => ?_)
  · refine ic_Y_candidate (m := 1) hl hI hT (by decide) hk hs (fun c1 => ?_) (fun c1 => ?_)
    · refine br_f (by decide) (br_f (by decide) (And.intro (pk_in (s * 2 + k) 8 (by omega) e2) (nm_r (e' := nI (p 24 (s * 2 + (1 - k)))) (by rw [ic_g _ e2 (by omega), e19]) ?_)))
      have cc : ic_can p (p 24 (s * 2 + (1 - k))) s (1 - k) = true := by
        rcases (by omega : p 24 (s * 2 + (1 - k)) = 0 ∨ p 24 (s * 2 + (1 - k)) = 1) with e | e
        · rw [e]; exact c0
        · rw [e]; exact c1
      exact W _ (by omega) (by unfold ic_win; rw [if_pos cc]) cc
    · refine br_f (by decide) (br_t rfl ?_)
      unfold wY_arbitrate_44
      refine br_f (by decide) (W 0 (by decide) ?_ c0)
      unfold ic_win
      rcases (by omega : p 24 (s * 2 + (1 - k)) = 0 ∨ p 24 (s * 2 + (1 - k)) = 1) with e | e
      · rw [e, if_pos c0]
      · rw [e, if_neg c1]
  · refine ic_Y_candidate (m := 1) hl hI hT (by decide) hk hs (fun c1 => ?_) (fun c1 => ?_)
    · refine br_t rfl ?_
      unfold wY_arbitrate_44
      refine br_t rfl (br_f (by decide) (W 1 (by decide) ?_ c1))
      unfold ic_win
      rcases (by omega : p 24 (s * 2 + (1 - k)) = 0 ∨ p 24 (s * 2 + (1 - k)) = 1) with e | e
      · rw [e, if_neg c0]
      · rw [e, if_pos c1]
    · refine br_t rfl ?_
      unfold wY_arbitrate_44
      refine br_t rfl (br_t rfl ?_)
      unfold wY_arbitrate_62
      refine br_f (by decide) (Z ?_)
      unfold ic_win
      rcases (by omega : p 24 (s * 2 + (1 - k)) = 0 ∨ p 24 (s * 2 + (1 - k)) = 1) with e | e
      · rw [e, if_neg c0]; exact c1
      · rw [e, if_neg c1]; exact c0
end
section
/-! the reference: one cycle, n cycles, requests -/
theorem ic_cho_n {p : Nat → Nat → Nat} {c : Nat} (h : p 23 c = 0) : ic_wr p c = p ∧ ic_rd p c = p := by
  have e : ic_cho p c = none := by unfold ic_cho; rw [if_pos h]
  unfold ic_wr ic_rd
  rw [e]
  exact ⟨rfl, rfl⟩
theorem ic_Y_12 {p q : Nat → Nat → Nat} {post : SY → Prop} {n m : Nat} (hl : ic_Lnk p q) (hI : ic_Inv p) (hT : p 25 3 < 2 ^ 30) (hC : p 25 2 < 2 ^ 30) (hm : m < 2) (h : ∀ q', ic_Lnk (ic_wr p (m * 2 + 1)) q' → wY_oneCycle_12 post n (nI (m + 1)) (nI (q' 22 0)) (nI (q' 22 1)) (nI (q' 22 2)) (nI (q' 22 3)) (nI (q' 22 4)) (ic_t (q' 0)) (ic_t (q' 1)) (ic_t (q' 2)) (ic_t (q' 3)) (ic_t (q' 4)) (ic_t (q' 5)) (ic_t (q' 6)) (ic_t (q' 7)) (ic_t (q' 8)) (ic_t (q' 9)) (ic_t (q' 10)) (ic_t (q' 11)) (ic_t (q' 12)) (ic_t (q' 13)) (ic_t (q' 14)) (ic_t (q' 15)) (ic_t (q' 16)) (ic_t (q' 17)) (ic_t (q' 18)) (ic_t (q' 19)) (ic_t (q' 20)) (ic_t (q' 21))) : wY_oneCycle_12 post (n + 1) (nI m) (nI (q 22 0)) (nI (q 22 1)) (nI (q 22 2)) (nI (q 22 3)) (nI (q 22 4)) (ic_t (q 0)) (ic_t (q 1)) (ic_t (q 2)) (ic_t (q 3)) (ic_t (q 4)) (ic_t (q 5)) (ic_t (q 6)) (ic_t (q 7)) (ic_t (q 8)) (ic_t (q 9)) (ic_t (q 10)) (ic_t (q 11)) (ic_t (q 12)) (ic_t (q 13)) (ic_t (q 14)) (ic_t (q 15)) (ic_t (q 16)) (ic_t (q 17)) (ic_t (q 18)) (ic_t (q 19)) (ic_t (q 20)) (ic_t (q 21)) := by
  have e : q 20 m = p 23 (m * 2 + 1) := (hl.2.2.2.2.1 m hm).2.2.1
  have h1 := (hI.2.2.2.2.2.2.1 (m * 2 + 1) (by omega)).2
  refine pk_le 2 m (fun h => by omega) (fun _ => And.intro (vp_in_nI hm (by decide)) (ek_if (ic_ce m 0 rfl rfl (by omega) (by omega) (by decide)) (fun a => nm_r (nI_1 m) (h q ?_)) (fun a => ?_)))
  · rw [(ic_cho_n (by omega)).1]; exact hl
  · exact ic_Y_wr hl hI hT hC hm (by omega) (fun q' hq => nm_r (nI_1 m) (h q' hq))
theorem ic_Y_40 {p q : Nat → Nat → Nat} {post : SY → Prop} {n m : Nat} (hl : ic_Lnk p q) (hI : ic_Inv p) (hT : p 25 3 < 2 ^ 30) (hC : p 25 2 < 2 ^ 30) (hm : m < 2) (h : ∀ q', ic_Lnk (ic_rd p (m * 2)) q' → wY_oneCycle_40 post n (nI (m + 1)) (nI (q' 22 0)) (nI (q' 22 1)) (nI (q' 22 2)) (nI (q' 22 3)) (nI (q' 22 4)) (ic_t (q' 0)) (ic_t (q' 1)) (ic_t (q' 2)) (ic_t (q' 3)) (ic_t (q' 4)) (ic_t (q' 5)) (ic_t (q' 6)) (ic_t (q' 7)) (ic_t (q' 8)) (ic_t (q' 9)) (ic_t (q' 10)) (ic_t (q' 11)) (ic_t (q' 12)) (ic_t (q' 13)) (ic_t (q' 14)) (ic_t (q' 15)) (ic_t (q' 16)) (ic_t (q' 17)) (ic_t (q' 18)) (ic_t (q' 19)) (ic_t (q' 20)) (ic_t (q' 21))) : wY_oneCycle_40 post (n + 1) (nI m) (nI (q 22 0)) (nI (q 22 1)) (nI (q 22 2)) (nI (q 22 3)) (nI (q 22 4)) (ic_t (q 0)) (ic_t (q 1)) (ic_t (q 2)) (ic_t (q 3)) (ic_t (q 4)) (ic_t (q 5)) (ic_t (q 6)) (ic_t (q 7)) (ic_t (q 8)) (ic_t (q 9)) (ic_t (q 10)) (ic_t (q 11)) (ic_t (q 12)) (ic_t (q 13)) (ic_t (q 14)) (ic_t (q 15)) (ic_t (q 16)) (ic_t (q 17)) (ic_t (q 18)) (ic_t (q 19)) (ic_t (q 20)) (ic_t (q 21)) := by
  have e : q 21 m = p 23 (m * 2) := (hl.2.2.2.2.1 m hm).2.2.2
  have h1 := (hI.2.2.2.2.2.2.1 (m * 2) (by omega)).2
  refine pk_le 2 m (fun h => by omega) (fun _ => And.intro (vp_in_nI hm (by decide)) (ek_if (ic_ce m 0 rfl rfl (by omega) (by omega) (by decide)) (fun a => nm_r (nI_1 m) (h q ?_)) (fun a => ?_)))
  · rw [(ic_cho_n (by omega)).2]; exact hl
  · exact ic_Y_rd hl hI hT hC hm (by omega) (fun q' hq => nm_r (nI_1 m) (h q' hq))
theorem ic_Y_68 {p q : Nat → Nat → Nat} {post : SY → Prop} {n m : Nat} (hl : ic_Lnk p q) (hI : ic_Inv p) (hT : p 25 3 < 2 ^ 30) (hm : m < 2) (h : ∀ q', ic_Lnk (ic_mv p m) q' → wY_oneCycle_68 post n (nI (m + 1)) (nI (q' 22 0)) (nI (q' 22 1)) (nI (q' 22 2)) (nI (q' 22 3)) (nI (q' 22 4)) (ic_t (q' 0)) (ic_t (q' 1)) (ic_t (q' 2)) (ic_t (q' 3)) (ic_t (q' 4)) (ic_t (q' 5)) (ic_t (q' 6)) (ic_t (q' 7)) (ic_t (q' 8)) (ic_t (q' 9)) (ic_t (q' 10)) (ic_t (q' 11)) (ic_t (q' 12)) (ic_t (q' 13)) (ic_t (q' 14)) (ic_t (q' 15)) (ic_t (q' 16)) (ic_t (q' 17)) (ic_t (q' 18)) (ic_t (q' 19)) (ic_t (q' 20)) (ic_t (q' 21))) : wY_oneCycle_68 post (n + 1) (nI m) (nI (q 22 0)) (nI (q 22 1)) (nI (q 22 2)) (nI (q 22 3)) (nI (q 22 4)) (ic_t (q 0)) (ic_t (q 1)) (ic_t (q 2)) (ic_t (q 3)) (ic_t (q 4)) (ic_t (q 5)) (ic_t (q 6)) (ic_t (q 7)) (ic_t (q 8)) (ic_t (q 9)) (ic_t (q 10)) (ic_t (q 11)) (ic_t (q 12)) (ic_t (q 13)) (ic_t (q 14)) (ic_t (q 15)) (ic_t (q 16)) (ic_t (q 17)) (ic_t (q 18)) (ic_t (q 19)) (ic_t (q 20)) (ic_t (q 21)) := by
  refine pk_le 2 m (fun h => by omega) (fun _ => ?_)
  exact ic_Y_mv hl hI hT hm (fun q' hq => nm_r (nI_1 m) (h q' hq))
theorem ic_Y_86 {p q : Nat → Nat → Nat} {post : SY → Prop} {n s : Nat} (hl : ic_Lnk p q) (hI : ic_Inv p) (hT : p 25 3 < 2 ^ 30) (hs : s < 4) (h : ∀ q', ic_Lnk (ic_ar (ic_ar p s 1) s 0) q' → wY_oneCycle_86 post n (nI (s + 1)) (nI (q' 22 0)) (nI (q' 22 1)) (nI (q' 22 2)) (nI (q' 22 3)) (nI (q' 22 4)) (ic_t (q' 0)) (ic_t (q' 1)) (ic_t (q' 2)) (ic_t (q' 3)) (ic_t (q' 4)) (ic_t (q' 5)) (ic_t (q' 6)) (ic_t (q' 7)) (ic_t (q' 8)) (ic_t (q' 9)) (ic_t (q' 10)) (ic_t (q' 11)) (ic_t (q' 12)) (ic_t (q' 13)) (ic_t (q' 14)) (ic_t (q' 15)) (ic_t (q' 16)) (ic_t (q' 17)) (ic_t (q' 18)) (ic_t (q' 19)) (ic_t (q' 20)) (ic_t (q' 21))) : wY_oneCycle_86 post (n + 1) (nI s) (nI (q 22 0)) (nI (q 22 1)) (nI (q 22 2)) (nI (q 22 3)) (nI (q 22 4)) (ic_t (q 0)) (ic_t (q 1)) (ic_t (q 2)) (ic_t (q 3)) (ic_t (q 4)) (ic_t (q 5)) (ic_t (q 6)) (ic_t (q 7)) (ic_t (q 8)) (ic_t (q 9)) (ic_t (q 10)) (ic_t (q 11)) (ic_t (q 12)) (ic_t (q 13)) (ic_t (q 14)) (ic_t (q 15)) (ic_t (q 16)) (ic_t (q 17)) (ic_t (q 18)) (ic_t (q 19)) (ic_t (q 20)) (ic_t (q 21)) := by
  refine pk_le 4 s (fun h => by omega) (fun _ => ?_)
  refine ic_Y_ar (k := 0) hl hI hT hs (by decide) (fun q1 h1 => ?_)
  refine ic_Y_ar (p := ic_ar p s 1) (k := 1) h1 (ic_ar_Inv hI hs (by decide)) (by rw [ic_ar_25]; exact hT) hs (by decide) (fun q2 h2 => ?_)
  exact nm_r (nI_1 s) (h q2 h2)
theorem ic_Y_cy2 {p q : Nat → Nat → Nat} {post : SY → Prop} (hl : ic_Lnk p q) (hI : ic_Inv p) (hT : p 25 3 < 2 ^ 30) (h : ∀ q', ic_Lnk (ic_cy2 p) q' → post (ic_Y q')) : wY_oneCycle_86 post 5 (nI 0) (nI (q 22 0)) (nI (q 22 1)) (nI (q 22 2)) (nI (q 22 3)) (nI (q 22 4)) (ic_t (q 0)) (ic_t (q 1)) (ic_t (q 2)) (ic_t (q 3)) (ic_t (q 4)) (ic_t (q 5)) (ic_t (q 6)) (ic_t (q 7)) (ic_t (q 8)) (ic_t (q 9)) (ic_t (q 10)) (ic_t (q 11)) (ic_t (q 12)) (ic_t (q 13)) (ic_t (q 14)) (ic_t (q 15)) (ic_t (q 16)) (ic_t (q 17)) (ic_t (q 18)) (ic_t (q 19)) (ic_t (q 20)) (ic_t (q 21)) := by
  have h1 := ic_ar_Inv (s := 0) (k := 0) (ic_ar_Inv (s := 0) (k := 1) hI (by decide) (by decide)) (by decide) (by decide)
  have h2 := ic_ar_Inv (s := 1) (k := 0) (ic_ar_Inv (s := 1) (k := 1) h1 (by decide) (by decide)) (by decide) (by decide)
  have h3 := ic_ar_Inv (s := 2) (k := 0) (ic_ar_Inv (s := 2) (k := 1) h2 (by decide) (by decide)) (by decide) (by decide)
  refine ic_Y_86 (s := 0) hl hI hT (by decide) (fun q1 k1 => ?_)
  refine ic_Y_86 (s := 1) k1 h1 (by rw [ic_ar_25, ic_ar_25]; exact hT) (by decide) (fun q2 k2 => ?_)
  refine ic_Y_86 (s := 2) k2 h2 (by rw [ic_ar_25, ic_ar_25, ic_ar_25, ic_ar_25]; exact hT) (by decide) (fun q3 k3 => ?_)
  refine ic_Y_86 (s := 3) k3 h3 (by rw [ic_ar_25, ic_ar_25, ic_ar_25, ic_ar_25, ic_ar_25, ic_ar_25]; exact hT) (by decide) (fun q4 k4 => ?_)
  exact pk_le 4 4 (fun _ => h q4 k4) (fun z => by omega)
theorem ic_Y_cy1 {p q : Nat → Nat → Nat} {post : SY → Prop} (hl : ic_Lnk p q) (hI : ic_Inv p) (hT : p 25 3 < 2 ^ 30) (hC : p 25 2 < 2 ^ 30) (h : ∀ q', ic_Lnk (ic_cy2 (ic_cy1 p)) q' → post (ic_Y q')) : wY_oneCycle_12 post 3 (nI 0) (nI (q 22 0)) (nI (q 22 1)) (nI (q 22 2)) (nI (q 22 3)) (nI (q 22 4)) (ic_t (q 0)) (ic_t (q 1)) (ic_t (q 2)) (ic_t (q 3)) (ic_t (q 4)) (ic_t (q 5)) (ic_t (q 6)) (ic_t (q 7)) (ic_t (q 8)) (ic_t (q 9)) (ic_t (q 10)) (ic_t (q 11)) (ic_t (q 12)) (ic_t (q 13)) (ic_t (q 14)) (ic_t (q 15)) (ic_t (q 16)) (ic_t (q 17)) (ic_t (q 18)) (ic_t (q 19)) (ic_t (q 20)) (ic_t (q 21)) := by
  have e1 := @ic_wr_25 p 1
  have e2 := @ic_wr_25 (ic_wr p 1) 3
  have e3 := @ic_rd_25 (ic_wr (ic_wr p 1) 3) 0
  have e4 := @ic_rd_25 (ic_rd (ic_wr (ic_wr p 1) 3) 0) 2
  have e5 := @ic_mv_25 (ic_rd (ic_rd (ic_wr (ic_wr p 1) 3) 0) 2) 0
  have e6 := @ic_mv_25 (ic_mv (ic_rd (ic_rd (ic_wr (ic_wr p 1) 3) 0) 2) 0) 1
  have i1 := ic_wr_Inv (c := 1) hI
  have i2 := ic_wr_Inv (c := 3) i1
  have i3 := ic_rd_Inv (c := 0) i2 (by decide)
  have i4 := ic_rd_Inv (c := 2) i3 (by decide)
  have i5 := ic_mv_Inv (m := 0) i4
  have i6 := ic_mv_Inv (m := 1) i5
  have t1 : ic_wr p 1 25 3 < 2 ^ 30 := by omega
  have c1 : ic_wr p 1 25 2 < 2 ^ 30 := by omega
  have t2 : ic_wr (ic_wr p 1) 3 25 3 < 2 ^ 30 := by omega
  have c2 : ic_wr (ic_wr p 1) 3 25 2 < 2 ^ 30 := by omega
  have t3 : ic_rd (ic_wr (ic_wr p 1) 3) 0 25 3 < 2 ^ 30 := by omega
  have c3 : ic_rd (ic_wr (ic_wr p 1) 3) 0 25 2 < 2 ^ 30 := by omega
  have t4 : ic_rd (ic_rd (ic_wr (ic_wr p 1) 3) 0) 2 25 3 < 2 ^ 30 := by omega
  have t5 : ic_mv (ic_rd (ic_rd (ic_wr (ic_wr p 1) 3) 0) 2) 0 25 3 < 2 ^ 30 := by rw [e5]; exact t4
  have t6 : ic_mv (ic_mv (ic_rd (ic_rd (ic_wr (ic_wr p 1) 3) 0) 2) 0) 1 25 3 < 2 ^ 30 := by rw [e6]; exact t5
  refine ic_Y_12 (m := 0) hl hI hT hC (by decide) (fun q1 k1 => ?_)
  refine ic_Y_12 (p := ic_wr p 1) (m := 1) k1 i1 t1 c1 (by decide) (fun q2 k2 => ?_)
  refine pk_le 2 2 (fun _ => ⟨3, ?_⟩) (fun z => by omega)
  refine ic_Y_40 (p := ic_wr (ic_wr p 1) 3) (m := 0) k2 i2 t2 c2 (by decide) (fun q3 k3 => ?_)
  refine ic_Y_40 (p := ic_rd (ic_wr (ic_wr p 1) 3) 0) (m := 1) k3 i3 t3 c3 (by decide) (fun q4 k4 => ?_)
  refine pk_le 2 2 (fun _ => ⟨3, ?_⟩) (fun z => by omega)
  refine ic_Y_68 (p := ic_rd (ic_rd (ic_wr (ic_wr p 1) 3) 0) 2) (m := 0) k4 i4 t4 (by decide) (fun q5 k5 => ?_)
  refine ic_Y_68 (p := ic_mv (ic_rd (ic_rd (ic_wr (ic_wr p 1) 3) 0) 2) 0) (m := 1) k5 i5 t5 (by decide) (fun q6 k6 => ?_)
  refine pk_le 2 2 (fun _ => ⟨5, ?_⟩) (fun z => by omega)
  exact ic_Y_cy2 (p := ic_cy1 p) k6 i6 t6 h
theorem ic_Y_oneCycle {p q : Nat → Nat → Nat} {post : SY → Prop} (hl : ic_Lnk p q) (hI : ic_Inv p) (hT : p 25 3 < 2 ^ 30) (hC : p 25 2 + 1 < 2 ^ 30) (h : ∀ q', ic_Lnk (ic_cyc p) q' → post (ic_Y q')) : wpY_oneCycle post (ic_Y q) := by
  unfold wpY_oneCycle
  refine nm_r (nI_1 _) ⟨3, ?_⟩
  exact ic_Y_cy1 (p := ic_pu p 25 2 (p 25 2 + 1)) (q := ic_pu q 22 2 (q 22 2 + 1)) (ic_Lnk_c1 hl) (ic_c1_Inv hI) hT hC h
theorem ic_Y_st {n : Nat} {post : Int32 → SY → Prop} (hn : n ≤ 64) : ∀ (d i : Nat) (p q : Nat → Nat → Nat), i + d = n → ic_Lnk p q → ic_Inv p → p 25 3 < 2 ^ 30 → p 25 2 + d < 2 ^ 30 → (∀ q', ic_Lnk (ic_run d p) q' → post 1 (ic_Y q')) → wY_step_15 post (nI n) (d + 1) (nI i) (nI (q 22 0)) (nI (q 22 1)) (nI (q 22 2)) (nI (q 22 3)) (nI (q 22 4)) (ic_t (q 0)) (ic_t (q 1)) (ic_t (q 2)) (ic_t (q 3)) (ic_t (q 4)) (ic_t (q 5)) (ic_t (q 6)) (ic_t (q 7)) (ic_t (q 8)) (ic_t (q 9)) (ic_t (q 10)) (ic_t (q 11)) (ic_t (q 12)) (ic_t (q 13)) (ic_t (q 14)) (ic_t (q 15)) (ic_t (q 16)) (ic_t (q 17)) (ic_t (q 18)) (ic_t (q 19)) (ic_t (q 20)) (ic_t (q 21)) := by
  intro d
  induction d with
  | zero =>
    intro i p q hi hl _ _ _ h
    exact pk_le n i (fun _ => h q hl) (fun z => by omega)
  | succ d ih =>
    intro i p q hi hl hI hT hC h
    have e := @ic_cyc_25 p
    refine pk_le n i (fun z => by omega) (fun _ => ?_)
    refine ic_Y_oneCycle hl hI hT (by omega) (fun q' hq => ?_)
    exact nm_r (nI_1 i) (ih (i + 1) (ic_cyc p) q' (by omega) hq (ic_cyc_Inv hI) (by omega) (by omega) h)
theorem ic_Y_203 {q : Nat → Nat → Nat} {s : Nat} {post : Int32 → SY → Prop} (hs : s < 32) (h : post (nI (q 22 3)) (ic_Y (ic_pu (ic_pf q 11 (ic_z4 (q 11) s)) 22 3 (q 22 3 + 1)))) : wY_issue_203 post (nI s) (nI (q 22 0)) (nI (q 22 1)) (nI (q 22 2)) (nI (q 22 3)) (nI (q 22 4)) 5 (nI 0) (ic_t (q 0)) (ic_t (q 1)) (ic_t (q 2)) (ic_t (q 3)) (ic_t (q 4)) (ic_t (q 5)) (ic_t (q 6)) (ic_t (q 7)) (ic_t (q 8)) (ic_t (q 9)) (ic_t (q 10)) (ic_t (q 11)) (ic_t (q 12)) (ic_t (q 13)) (ic_t (q 14)) (ic_t (q 15)) (ic_t (q 16)) (ic_t (q 17)) (ic_t (q 18)) (ic_t (q 19)) (ic_t (q 20)) (ic_t (q 21)) := by
  have e : ∀ j, nI s * 4 + nI j = nI (s * 4 + j) := fun j => ic_ma s 4 j
  refine pk_le 4 0 (fun z => by omega) (fun _ => And.intro (pk_in (s * 4 + 0) 128 (by omega) (e 0)) (nm_r (ic_p (s * 4 + 0) 0 (e 0) (by omega) rfl) (nm_r (nI_1 0) ?_)))
  refine pk_le 4 1 (fun z => by omega) (fun _ => And.intro (pk_in (s * 4 + 1) 128 (by omega) (e 1)) (nm_r (ic_p (s * 4 + 1) 0 (e 1) (by omega) rfl) (nm_r (nI_1 1) ?_)))
  refine pk_le 4 2 (fun z => by omega) (fun _ => And.intro (pk_in (s * 4 + 2) 128 (by omega) (e 2)) (nm_r (ic_p (s * 4 + 2) 0 (e 2) (by omega) rfl) (nm_r (nI_1 2) ?_)))
  refine pk_le 4 3 (fun z => by omega) (fun _ => And.intro (pk_in (s * 4 + 3) 128 (by omega) (e 3)) (nm_r (ic_p (s * 4 + 3) 0 (e 3) (by omega) rfl) (nm_r (nI_1 3) ?_)))
  refine pk_le 4 4 (fun _ => nm_r (nI_1 _) ?_) (fun z => by omega)
  exact h
theorem ic_Y_101 {q : Nat → Nat → Nat} {k m i a l : Nat} {post : Int32 → SY → Prop} (hT : q 22 3 < 2 ^ 30) (h : post (nI (q 22 3)) (ic_Y (ic_qi q k m i a l))) : wY_issue_101 post (nI k) (nI m) (nI i) (nI a) (nI l) (nI (q 22 0)) (nI (q 22 1)) (nI (q 22 2)) (nI (q 22 3)) (nI (q 22 4)) (ic_t (q 0)) (ic_t (q 1)) (ic_t (q 2)) (ic_t (q 3)) (ic_t (q 4)) (ic_t (q 5)) (ic_t (q 6)) (ic_t (q 7)) (ic_t (q 8)) (ic_t (q 9)) (ic_t (q 10)) (ic_t (q 11)) (ic_t (q 12)) (ic_t (q 13)) (ic_t (q 14)) (ic_t (q 15)) (ic_t (q 16)) (ic_t (q 17)) (ic_t (q 18)) (ic_t (q 19)) (ic_t (q 20)) (ic_t (q 21)) := by
  have hi : vp_in (nI (q 22 3 % 32)) 32 := vp_in_nI (by omega) (by decide)
  unfold wY_issue_101
  refine nm_r (ic_sl (by omega)) ?_
  refine And.intro hi (nm_r (ic_p (q 22 3 % 32) k rfl (by omega) rfl) (And.intro hi (nm_r (ic_p (q 22 3 % 32) m rfl (by omega) rfl) (And.intro hi (nm_r (ic_p (q 22 3 % 32) i rfl (by omega) rfl) (And.intro hi (nm_r (ic_p (q 22 3 % 32) a rfl (by omega) rfl) ?_)))))))
  refine And.intro hi (nm_r (ic_p (q 22 3 % 32) l rfl (by omega) rfl) (And.intro hi (nm_r (ic_p (q 22 3 % 32) 0 rfl (by omega) rfl) (And.intro hi (nm_r (ic_p (q 22 3 % 32) 0 rfl (by omega) rfl) (And.intro hi (nm_r (ic_p (q 22 3 % 32) 0 rfl (by omega) rfl) ?_)))))))
  refine And.intro hi (nm_r (ic_p (q 22 3 % 32) 0 rfl (by omega) rfl) (And.intro hi (nm_r (ic_p (q 22 3 % 32) 4294967295 rfl (by omega) (by decide)) (And.intro hi (nm_r (ic_p (q 22 3 % 32) 4294967295 rfl (by omega) (by decide)) ?_)))))
  exact ⟨5, ic_Y_203 (q := ic_qi1 q k m i a l) (by omega) h⟩
theorem ic_Y_issueF {q : Nat → Nat → Nat} {k v1 v2 v3 v4 : Int32} {post : Int32 → SY → Prop} (hv : ¬ ic_ok v1 v2 v3 v4) (h : post (-1) (ic_Y q)) : wpY_issue post (ic_Y q) k v1 v2 v3 v4 := by
  unfold wpY_issue
  refine br_c (fun _ => h) (fun a1 => br_c (fun _ => h) (fun a2 => br_c (fun _ => h) (fun b1 => br_c (fun _ => h) (fun b2 => br_c (fun _ => h) (fun b3 => br_c (fun _ => h) (fun b4 => br_c (fun _ => h) (fun b5 => br_c (fun _ => h) (fun b6 => And.intro (by decide) (br_c (fun b7 => ?_) (fun _ => h))))))))))
  have gt : ∀ (v : Int32) (n : Nat), n + 1 < 2 ^ 31 → ¬ nI n < v → ¬ nI (n + 1) ≤ v := fun v n hn z w => z (ic_ge hn w).2.1
  obtain ⟨m, hm, em⟩ := ic_ix (n := 2) (by decide) a1 (gt v1 1 (by decide) a2)
  obtain ⟨i, hi, ei⟩ := ic_ix (n := 4) (by decide) b1 (gt v2 3 (by decide) b2)
  obtain ⟨a, ha, ea⟩ := ic_ix (n := 32) (by decide) b3 (gt v3 31 (by decide) b4)
  obtain ⟨l, h1, h4, el⟩ := ic_ix1 (n := 4) (by decide) b5 b6
  subst em ei ea el
  have e : nI a - nI a / 8 * 8 + nI l = nI (a % 8 + l) := by rw [show nI a - nI a / 8 * 8 = nI (a % 8) from ic_r a 8 rfl (by omega) (by decide) (by decide), nI_add]
  rw [e] at b7
  refine absurd ⟨m, i, a, l, hm, hi, ha, h1, h4, ?_, rfl, rfl, rfl, rfl⟩ hv
  exact (nI_leI (a := a % 8 + l) (b := 8) (by omega) (by decide)).mp b7
theorem ic_Y_issue {p q : Nat → Nat → Nat} {k m i a l : Nat} {post : Int32 → SY → Prop} (hl : ic_Lnk p q) (hI : ic_Inv p) (hT : p 25 3 < 2 ^ 30) (hk : k < 2) (hm : m < 2) (hi : i < 4) (ha : a < 32) (h1 : 1 ≤ l) (h4 : l ≤ 4) (h8 : a % 8 + l ≤ 8)
    (hf : p 13 (m * 2 + (1 - k)) = 4 → post (-2) (ic_Y q)) (hs : p 13 (m * 2 + (1 - k)) ≠ 4 → p 0 (p 25 3 % 32) ≤ 1 → post (-3) (ic_Y q)) (hg : p 13 (m * 2 + (1 - k)) ≠ 4 → 2 ≤ p 0 (p 25 3 % 32) → post (nI (q 22 3)) (ic_Y (ic_qi q k m i a l))) :
    wpY_issue post (ic_Y q) (nI k) (nI m) (nI i) (nI a) (nI l) := by
  obtain ⟨K, q1, q2, _⟩ := hI.2.2.1 (m * 2 + (1 - k)) (by omega)
  have hL := hI.1 (p 25 3 % 32) (by omega)
  unfold ic_L at hL
  have eT : q 22 3 = p 25 3 := hl.2.2.2.2.2.2 3 (by decide)
  have e : nI a - nI a / 8 * 8 + nI l = nI (a % 8 + l) := by rw [show nI a - nI a / 8 * 8 = nI (a % 8) from ic_r a 8 rfl (by omega) (by decide) (by decide), nI_add]
  unfold wpY_issue
  refine br_f (nI_pos (by omega)) (pk_lt 1 m (fun z => by omega) (fun _ => br_f (nI_pos (by omega)) (pk_lt 3 i (fun z => by omega) (fun _ => br_f (nI_pos (by omega)) (pk_lt 31 a (fun z => by omega) (fun _ => pk_lt l 1 (fun z => by omega) (fun _ => pk_lt 4 l (fun z => by omega) (fun _ => And.intro (by decide) (pk_le (a % 8 + l) 8 (fun _ => ?_) (fun z => by omega) e rfl)))))))))
  refine ic_Y_cntQ hl hI hT hm hk ?_
  refine pk_lt (p 13 (m * 2 + (1 - k))) 4 (fun z => ?_) (fun z => hf (by omega))
  refine pk_lt (q 22 3) 32 (fun w => ?_) (fun w => ?_)
  · refine ic_Y_101 (by omega) (hg (by omega) ?_)
    omega
  · have hM := hl.1 (p 25 3 % 32) (by omega) (by omega)
    unfold ic_M at hM
    rw [show (nI (q 22 3) - 32) &&& 31 = nI (p 25 3 % 32) from by
      rw [show (32 : Int32) = nI 32 from rfl, pk_sub w, ic_sl (by omega)]
      congr 1
      omega]
    refine ic_Y_isDone (q := q) (by omega) (by omega) (fun y => br_f (by decide) (ic_Y_101 (by omega) (hg (by omega) (by omega)))) (fun y => br_t rfl (hs (by omega) (by omega)))
theorem ic_Y_valid {p q : Nat → Nat → Nat} {v : Int32} {post : Int32 → Prop} (hl : ic_Lnk p q) (hT : p 25 3 < 2 ^ 30) (h1 : ∀ t, t < p 25 3 → p 25 3 ≤ t + 32 → v = nI t → post 1) (h0 : (¬ ∃ t, t < p 25 3 ∧ p 25 3 ≤ t + 32 ∧ v = nI t) → post 0) : wpY_valid post (ic_Y q) v := by
  have eT : q 22 3 = p 25 3 := hl.2.2.2.2.2.2 3 (by decide)
  unfold wpY_valid
  refine br_c (fun a => h0 ?_) (fun a => ?_)
  · intro ⟨t, h2, h3, e⟩
    subst e
    exact nI_pos (by omega) a
  · obtain ⟨t, ht, e⟩ := nI_of a
    subst e
    have inj : ∀ t', t' < p 25 3 → nI t = nI t' → t = t' := fun t' h2 e => (nI_eq ht (by omega)).mp e
    refine pk_le (q 22 3) t (fun b => h0 ?_) (fun b => ?_)
    · intro ⟨t', h2, h3, e⟩
      have := inj t' h2 e
      omega
    · refine ek_if (d := t + 32 < p 25 3) ?_ (fun c => h0 ?_) (fun c => h1 t (by omega) (by omega) rfl)
      · have := @ic_lo (q 22 3) t (by omega) ht
        rw [← Int32.not_le, show (nI (q 22 3) - 32 ≤ nI t) ↔ _ from this]
        omega
      · intro ⟨t', h2, h3, e⟩
        have := inj t' h2 e
        omega
end
section
/-! the beginnings -/
def ic_seg (n x : Nat) : Nat → Nat := fun j => if j < n then x else 0
theorem ic_seg_s (n x : Nat) : ic_u (ic_seg n x) n x = ic_seg (n + 1) x := by
  funext j
  by_cases e : j = n
  · subst e
    rw [ic_us]
    exact (if_pos (by omega)).symm
  · rw [ic_un e]
    show (if j < n then x else 0) = (if j < n + 1 then x else 0)
    by_cases c : j < n
    · rw [if_pos c, if_pos (by omega)]
    · rw [if_neg c, if_neg (by omega)]
theorem ic_seg_t {i : Nat} {v : Int32} (hi : i < 2 ^ 31) (hv : v = nI 1) : upd (ic_t (ic_seg i 1)) (nI i).toNatClampNeg v = ic_t (ic_seg (i + 1) 1) :=
  (ic_p i 1 rfl hi hv).trans (congrArg ic_t (ic_seg_s i 1))
theorem ic_seg_ts {i : Nat} (hi : i < 2 ^ 31) : upd (ic_ts (ic_seg i 4)) (nI i).toNatClampNeg (-1) = ic_ts (ic_seg (i + 1) 4) := by
  rw [nI_clamp hi, ← ic_seg_s i 4]
  funext j
  by_cases e : j = i
  · subst e; show upd (ic_ts (ic_seg j 4)) j (-1) j = ic_sv (ic_u (ic_seg j 4) j 4 j); rw [pk_us, ic_us]; rfl
  · show upd (ic_ts (ic_seg i 4)) i (-1) j = ic_sv (ic_u (ic_seg i 4) i 4 j); rw [pk_un e, ic_un e]; rfl
theorem ic_nb (v : Int32) : vp_nar .boolean (lw_bz v) = lw_bz v := by
  unfold vp_nar
  rw [lw_bz_n]
theorem ic_nb1 : vp_nar .boolean 1 = nI 1 := ic_nb 1
def ic_pz (a b d l c : Nat) : Nat → Nat → Nat := fun f => if f = 0 then ic_seg a 4 else if f = 18 then ic_seg b 1 else if f = 23 then ic_seg d 1 else if f = 25 then (fun j => if j = 0 then l else if j = 1 then c else 0) else fun _ => 0
theorem ic_X_i282 {l c : Nat} {post : SX → Prop} (h : post (ic_X (ic_p0 l c))) : ∀ d i : Nat, i + d = 4 → wX_init_282 post (nI ((ic_pz 32 12 i l c) 25 0)) (nI ((ic_pz 32 12 i l c) 25 1)) (lN ((ic_pz 32 12 i l c) 25 2)) (lN ((ic_pz 32 12 i l c) 25 3)) (nI ((ic_pz 32 12 i l c) 25 4)) (d + 1) (nI i) (ic_ts ((ic_pz 32 12 i l c) 0)) (ic_t ((ic_pz 32 12 i l c) 1)) (ic_t ((ic_pz 32 12 i l c) 2)) (ic_t ((ic_pz 32 12 i l c) 3)) (ic_t8 ((ic_pz 32 12 i l c) 3)) (ic_t ((ic_pz 32 12 i l c) 4)) (ic_t ((ic_pz 32 12 i l c) 5)) (ic_t ((ic_pz 32 12 i l c) 6)) (ic_tL ((ic_pz 32 12 i l c) 7)) (ic_t ((ic_pz 32 12 i l c) 8)) (ic_t ((ic_pz 32 12 i l c) 9)) (ic_t ((ic_pz 32 12 i l c) 10)) (ic_t ((ic_pz 32 12 i l c) 11)) (ic_t ((ic_pz 32 12 i l c) 12)) (ic_t ((ic_pz 32 12 i l c) 13)) (ic_t ((ic_pz 32 12 i l c) 14)) (ic_t ((ic_pz 32 12 i l c) 15)) (ic_t ((ic_pz 32 12 i l c) 16)) (ic_t ((ic_pz 32 12 i l c) 17)) (ic_t ((ic_pz 32 12 i l c) 18)) (ic_t ((ic_pz 32 12 i l c) 19)) (ic_t ((ic_pz 32 12 i l c) 20)) (ic_t ((ic_pz 32 12 i l c) 21)) (ic_t ((ic_pz 32 12 i l c) 22)) (ic_t ((ic_pz 32 12 i l c) 23)) (ic_t ((ic_pz 32 12 i l c) 24)) := by
  intro d
  induction d with
  | zero =>
    intro i e
    have e2 : i = 4 := by omega
    subst e2
    exact pk_le 4 4 (fun _ => h) (fun z => by omega)
  | succ d ih =>
    intro i e
    exact pk_le 4 i (fun z => by omega) (fun _ => And.intro (vp_in_nI (by omega) (by decide)) (nm_r (ic_seg_t (by omega) ic_nb1) (nm_r (nI_1 i) (ih (i + 1) (by omega)))))
theorem ic_X_i261 {l c : Nat} {post : SX → Prop} (h : post (ic_X (ic_p0 l c))) : ∀ d i : Nat, i + d = 12 → wX_init_261 post (nI ((ic_pz 32 i 0 l c) 25 0)) (nI ((ic_pz 32 i 0 l c) 25 1)) (lN ((ic_pz 32 i 0 l c) 25 2)) (lN ((ic_pz 32 i 0 l c) 25 3)) (nI ((ic_pz 32 i 0 l c) 25 4)) (d + 1) (nI i) (ic_ts ((ic_pz 32 i 0 l c) 0)) (ic_t ((ic_pz 32 i 0 l c) 1)) (ic_t ((ic_pz 32 i 0 l c) 2)) (ic_t ((ic_pz 32 i 0 l c) 3)) (ic_t8 ((ic_pz 32 i 0 l c) 3)) (ic_t ((ic_pz 32 i 0 l c) 4)) (ic_t ((ic_pz 32 i 0 l c) 5)) (ic_t ((ic_pz 32 i 0 l c) 6)) (ic_tL ((ic_pz 32 i 0 l c) 7)) (ic_t ((ic_pz 32 i 0 l c) 8)) (ic_t ((ic_pz 32 i 0 l c) 9)) (ic_t ((ic_pz 32 i 0 l c) 10)) (ic_t ((ic_pz 32 i 0 l c) 11)) (ic_t ((ic_pz 32 i 0 l c) 12)) (ic_t ((ic_pz 32 i 0 l c) 13)) (ic_t ((ic_pz 32 i 0 l c) 14)) (ic_t ((ic_pz 32 i 0 l c) 15)) (ic_t ((ic_pz 32 i 0 l c) 16)) (ic_t ((ic_pz 32 i 0 l c) 17)) (ic_t ((ic_pz 32 i 0 l c) 18)) (ic_t ((ic_pz 32 i 0 l c) 19)) (ic_t ((ic_pz 32 i 0 l c) 20)) (ic_t ((ic_pz 32 i 0 l c) 21)) (ic_t ((ic_pz 32 i 0 l c) 22)) (ic_t ((ic_pz 32 i 0 l c) 23)) (ic_t ((ic_pz 32 i 0 l c) 24)) := by
  intro d
  induction d with
  | zero =>
    intro i e
    have e2 : i = 12 := by omega
    subst e2
    exact pk_le 12 12 (fun _ => ⟨5, ic_X_i282 h 4 0 rfl⟩) (fun z => by omega)
  | succ d ih =>
    intro i e
    exact pk_le 12 i (fun z => by omega) (fun _ => And.intro (vp_in_nI (by omega) (by decide)) (nm_r (ic_seg_t (by omega) rfl) (nm_r (nI_1 i) (ih (i + 1) (by omega)))))
theorem ic_X_i240 {l c : Nat} {post : SX → Prop} (h : post (ic_X (ic_p0 l c))) : ∀ d i : Nat, i + d = 32 → wX_init_240 post (nI ((ic_pz i 0 0 l c) 25 0)) (nI ((ic_pz i 0 0 l c) 25 1)) (lN ((ic_pz i 0 0 l c) 25 2)) (lN ((ic_pz i 0 0 l c) 25 3)) (nI ((ic_pz i 0 0 l c) 25 4)) (d + 1) (nI i) (ic_ts ((ic_pz i 0 0 l c) 0)) (ic_t ((ic_pz i 0 0 l c) 1)) (ic_t ((ic_pz i 0 0 l c) 2)) (ic_t ((ic_pz i 0 0 l c) 3)) (ic_t8 ((ic_pz i 0 0 l c) 3)) (ic_t ((ic_pz i 0 0 l c) 4)) (ic_t ((ic_pz i 0 0 l c) 5)) (ic_t ((ic_pz i 0 0 l c) 6)) (ic_tL ((ic_pz i 0 0 l c) 7)) (ic_t ((ic_pz i 0 0 l c) 8)) (ic_t ((ic_pz i 0 0 l c) 9)) (ic_t ((ic_pz i 0 0 l c) 10)) (ic_t ((ic_pz i 0 0 l c) 11)) (ic_t ((ic_pz i 0 0 l c) 12)) (ic_t ((ic_pz i 0 0 l c) 13)) (ic_t ((ic_pz i 0 0 l c) 14)) (ic_t ((ic_pz i 0 0 l c) 15)) (ic_t ((ic_pz i 0 0 l c) 16)) (ic_t ((ic_pz i 0 0 l c) 17)) (ic_t ((ic_pz i 0 0 l c) 18)) (ic_t ((ic_pz i 0 0 l c) 19)) (ic_t ((ic_pz i 0 0 l c) 20)) (ic_t ((ic_pz i 0 0 l c) 21)) (ic_t ((ic_pz i 0 0 l c) 22)) (ic_t ((ic_pz i 0 0 l c) 23)) (ic_t ((ic_pz i 0 0 l c) 24)) := by
  intro d
  induction d with
  | zero =>
    intro i e
    have e2 : i = 32 := by omega
    subst e2
    exact pk_le 32 32 (fun _ => ⟨13, ic_X_i261 h 12 0 rfl⟩) (fun z => by omega)
  | succ d ih =>
    intro i e
    exact pk_le 32 i (fun z => by omega) (fun _ => And.intro (vp_in_nI (by omega) (by decide)) (nm_r (ic_seg_ts (by omega)) (nm_r (nI_1 i) (ih (i + 1) (by omega)))))
/-- a clamped number: one natural for both sides -/
theorem ic_clamp (v : Int32) {M : Nat} (hM : M < 2 ^ 31) (h1 : 1 ≤ M) : ∃ l, 1 ≤ l ∧ l ≤ M ∧ ∀ A : Int32 → Prop, A (nI l) → ((1 ≤ v → ((v ≤ nI M → A v) ∧ (¬ v ≤ nI M → A (nI M)))) ∧ (¬ 1 ≤ v → A 1)) := by
  by_cases a : 1 ≤ v
  · by_cases b : v ≤ nI M
    · obtain ⟨l, g1, g2, e⟩ := ic_ix1 (v := v) hM (Int32.not_lt.mpr a) (Int32.not_lt.mpr b)
      subst e
      exact ⟨l, g1, g2, fun A h => br_t a (br_t b h)⟩
    · exact ⟨M, h1, Nat.le_refl M, fun A h => br_t a (br_f b h)⟩
  · exact ⟨1, Nat.le_refl 1, h1, fun A h => br_f a h⟩
def ic_qz (b d e l c : Nat) : Nat → Nat → Nat := fun f => if f = 15 then ic_seg b 1 else if f = 20 then ic_seg d 1 else if f = 21 then ic_seg e 1 else if f = 22 then (fun j => if j = 0 then l else if j = 1 then c else 0) else fun _ => 0
theorem ic_seg_n {i : Nat} {v : Int32} (hv : v = nI 1) : upd (ic_t (ic_seg i 1)) i v = ic_t (ic_seg (i + 1) 1) := by
  rw [hv, ic_tu, ic_seg_s]
theorem ic_Y_i225 {l c : Nat} {post : SY → Prop} (h : post (ic_Y (ic_q0 l c))) : ∀ d i : Nat, i + d = 12 → wY_init_225 post (nI ((ic_qz i 0 0 l c) 22 0)) (nI ((ic_qz i 0 0 l c) 22 1)) (nI ((ic_qz i 0 0 l c) 22 2)) (nI ((ic_qz i 0 0 l c) 22 3)) (nI ((ic_qz i 0 0 l c) 22 4)) (d + 1) (nI i) (ic_t ((ic_qz i 0 0 l c) 0)) (ic_t ((ic_qz i 0 0 l c) 1)) (ic_t ((ic_qz i 0 0 l c) 2)) (ic_t ((ic_qz i 0 0 l c) 3)) (ic_t ((ic_qz i 0 0 l c) 4)) (ic_t ((ic_qz i 0 0 l c) 5)) (ic_t ((ic_qz i 0 0 l c) 6)) (ic_t ((ic_qz i 0 0 l c) 7)) (ic_t ((ic_qz i 0 0 l c) 8)) (ic_t ((ic_qz i 0 0 l c) 9)) (ic_t ((ic_qz i 0 0 l c) 10)) (ic_t ((ic_qz i 0 0 l c) 11)) (ic_t ((ic_qz i 0 0 l c) 12)) (ic_t ((ic_qz i 0 0 l c) 13)) (ic_t ((ic_qz i 0 0 l c) 14)) (ic_t ((ic_qz i 0 0 l c) 15)) (ic_t ((ic_qz i 0 0 l c) 16)) (ic_t ((ic_qz i 0 0 l c) 17)) (ic_t ((ic_qz i 0 0 l c) 18)) (ic_t ((ic_qz i 0 0 l c) 19)) (ic_t ((ic_qz i 0 0 l c) 20)) (ic_t ((ic_qz i 0 0 l c) 21)) := by
  intro d
  induction d with
  | zero =>
    intro i e
    have e2 : i = 12 := by omega
    subst e2
    refine pk_le 12 12 (fun _ => nm_r (ic_seg_n (i := 0) ic_nb1) (nm_r (ic_seg_n (i := 1) ic_nb1) (nm_r (ic_seg_n (i := 0) ic_nb1) (nm_r (ic_seg_n (i := 1) ic_nb1) ?_)))) (fun z => by omega)
    exact h
  | succ d ih =>
    intro i e
    exact pk_le 12 i (fun z => by omega) (fun _ => And.intro (vp_in_nI (by omega) (by decide)) (nm_r (ic_seg_t (by omega) rfl) (nm_r (nI_1 i) (ih (i + 1) (by omega)))))
theorem ic_init (k0 k1 : Int32) : ∃ l c, l ≤ 8 ∧ c ≤ 4 ∧ (∀ post : SX → Prop, post (ic_X (ic_p0 l c)) → wpX_init post k0 k1) ∧ (∀ post : SY → Prop, post (ic_Y (ic_q0 l c)) → wpY_init post k0 k1) := by
  obtain ⟨l, _, hl, L⟩ := ic_clamp k0 (M := 8) (by decide) (by decide)
  obtain ⟨c, _, hc, C⟩ := ic_clamp k1 (M := 4) (by decide) (by decide)
  refine ⟨l, c, hl, hc, fun post h => ?_, fun post h => ?_⟩
  · have LX : ∀ P : Int32 → Prop, P (nI l) → wpX_clamp P k0 8 := fun P z => L P z
    have CX : ∀ P : Int32 → Prop, P (nI c) → wpX_clamp P k1 4 := fun P z => C P z
    unfold wpX_init
    refine LX _ (CX _ ?_)
    have r := ic_X_i240 h 32 0 rfl
    have z1 : ∀ x, ic_seg 0 x = fun _ => 0 := fun x => by funext j; exact if_neg (by omega)
    have e0 : ic_ts (ic_pz 0 0 0 l c 0) = fun _ => 0 := by
      show ic_ts (ic_seg 0 4) = _
      rw [z1]
      rfl
    have e8 : ic_t8 (ic_pz 0 0 0 l c 3) = fun _ => 0 := by
      funext j
      show nI (0 / 8) = 0
      rfl
    have eL : ic_tL (ic_pz 0 0 0 l c 7) = fun _ => 0 := by
      funext j
      show lN 0 = 0
      rfl
    have e18 : ic_t (ic_pz 0 0 0 l c 18) = fun _ => 0 := by
      show ic_t (ic_seg 0 1) = _
      rw [z1]
      rfl
    have e23 : ic_t (ic_pz 0 0 0 l c 23) = fun _ => 0 := by
      show ic_t (ic_seg 0 1) = _
      rw [z1]
      rfl
    rw [e0, e8, eL, e18, e23] at r
    exact ⟨33, r⟩
  · unfold wpY_init
    refine L (fun r => wY_init_197 post k1 r 0 0 0 0 0 (fun _ => 0) (fun _ => 0) (fun _ => 0) (fun _ => 0) (fun _ => 0) (fun _ => 0) (fun _ => 0) (fun _ => 0) (fun _ => 0) (fun _ => 0) (fun _ => 0) (fun _ => 0) (fun _ => 0) (fun _ => 0) (fun _ => 0) (fun _ => 0) (fun _ => 0) (fun _ => 0) (fun _ => 0) (fun _ => 0) (fun _ => 0) (fun _ => 0)) ?_
    unfold wY_init_197
    refine C (fun r => ∃ n : Nat, wY_init_225 post (nI l) r 0 0 0 n 0 (fun _ => 0) (fun _ => 0) (fun _ => 0) (fun _ => 0) (fun _ => 0) (fun _ => 0) (fun _ => 0) (fun _ => 0) (fun _ => 0) (fun _ => 0) (fun _ => 0) (fun _ => 0) (fun _ => 0) (fun _ => 0) (fun _ => 0) (fun _ => 0) (fun _ => 0) (fun _ => 0) (fun _ => 0) (fun _ => 0) (fun _ => 0) (fun _ => 0)) ?_
    exact ⟨13, ic_Y_i225 h 12 0 rfl⟩
end
section
/-! what is owed -/
def i_Rel (k : Nat) (u : SX) (v : SY) : Prop := ∃ p q : Nat → Nat → Nat, u = ic_X p ∧ v = ic_Y q ∧ ic_Inv p ∧ ic_Lnk p q ∧ p 25 3 ≤ k ∧ p 25 2 ≤ 64 * k
theorem i_up {k : Nat} {u : SX} {v : SY} (h : i_Rel k u v) : i_Rel (k + 5) u v := by
  obtain ⟨p, q, e1, e2, h1, h2, h3, h4⟩ := h
  exact ⟨p, q, e1, e2, h1, h2, by omega, by omega⟩
theorem i_vc0 (k0 : Int32) (k1 : Int32) : wpX_init (fun u => wpY_init (fun v => i_Rel 2 u v) k0 k1) k0 k1 := by
  obtain ⟨l, c, hl, hc, hX, hY⟩ := ic_init k0 k1
  refine hX _ (hY _ ⟨ic_p0 l c, ic_q0 l c, rfl, rfl, ic_p0_Inv hl hc, ic_Lnk_0 l c, ?_, ?_⟩)
  · show 0 ≤ 2
    omega
  · show 0 ≤ 64 * 2
    omega
theorem i_vc_issueRead {k : Nat} {u : SX} {v : SY} (I : i_Rel k u v) (hk : k + 5 ≤ 2562) (v1 : Int32) (v2 : Int32) (v3 : Int32) (v4 : Int32) : wpX_issueRead (fun r u' => wpY_issueRead (fun r' v' => r' = r ∧ i_Rel (k + 5) u' v') v v1 v2 v3 v4) u v1 v2 v3 v4 := by
  have I5 := i_up I
  obtain ⟨p, q, rfl, rfl, hI, hl, hT, hC⟩ := I
  have hT2 : p 25 3 < 2 ^ 30 := by omega
  have eT : q 22 3 = p 25 3 := hl.2.2.2.2.2.2 3 (by decide)
  unfold wpX_issueRead
  by_cases hv : ic_ok v1 v2 v3 v4
  · obtain ⟨m, i, a, l, hm, hi, ha, h1, h4, h8, rfl, rfl, rfl, rfl⟩ := hv
    refine ic_X_issue (p := p) (k := 0) hI hT2 (by decide) hm hi ha h1 h4 h8 (fun hf => ?_) (fun hn hs => ?_) (fun hn hg => ?_)
    · show wpY_issueRead (fun r' v' => r' = -2 ∧ i_Rel (k + 5) (ic_X p) v') (ic_Y q) (nI m) (nI i) (nI a) (nI l)
      unfold wpY_issueRead
      exact ic_Y_issue (p := p) (q := q) (k := 1) hl hI hT2 (by decide) hm hi ha h1 h4 h8 (fun _ => ⟨rfl, I5⟩) (fun z _ => absurd hf z) (fun z _ => absurd hf z)
    · show wpY_issueRead (fun r' v' => r' = -3 ∧ i_Rel (k + 5) (ic_X p) v') (ic_Y q) (nI m) (nI i) (nI a) (nI l)
      unfold wpY_issueRead
      exact ic_Y_issue (p := p) (q := q) (k := 1) hl hI hT2 (by decide) hm hi ha h1 h4 h8 (fun z => absurd z hn) (fun _ _ => ⟨rfl, I5⟩) (fun _ z => absurd hs (by omega))
    · show wpY_issueRead (fun r' v' => r' = nI (p 25 3) ∧ i_Rel (k + 5) (ic_X (ic_iss p (m * 2 + 0) i a l)) v') (ic_Y q) (nI m) (nI i) (nI a) (nI l)
      unfold wpY_issueRead
      refine ic_Y_issue (p := p) (q := q) (k := 1) hl hI hT2 (by decide) hm hi ha h1 h4 h8 (fun z => absurd z hn) (fun _ z => absurd hg (by omega)) (fun _ _ => ⟨by rw [eT], ic_iss p (m * 2 + 0) i a l, ic_qi q 1 m i a l, rfl, rfl, ic_iss_Inv hI (by omega) hi ha h1 h4 h8 hn hg, ic_Lnk_is (k := 0) hl hI.1 (by decide), ?_, ?_⟩)
      · show p 25 3 + 1 ≤ k + 5
        omega
      · show p 25 2 ≤ 64 * (k + 5)
        omega
  · refine ic_X_issueF (p := p) hv ?_
    show wpY_issueRead (fun r' v' => r' = -1 ∧ i_Rel (k + 5) (ic_X p) v') (ic_Y q) v1 v2 v3 v4
    unfold wpY_issueRead
    exact ic_Y_issueF (q := q) hv ⟨rfl, I5⟩
theorem i_vc_issueWrite {k : Nat} {u : SX} {v : SY} (I : i_Rel k u v) (hk : k + 5 ≤ 2562) (v1 : Int32) (v2 : Int32) (v3 : Int32) (v4 : Int32) : wpX_issueWrite (fun r u' => wpY_issueWrite (fun r' v' => r' = r ∧ i_Rel (k + 5) u' v') v v1 v2 v3 v4) u v1 v2 v3 v4 := by
  have I5 := i_up I
  obtain ⟨p, q, rfl, rfl, hI, hl, hT, hC⟩ := I
  have hT2 : p 25 3 < 2 ^ 30 := by omega
  have eT : q 22 3 = p 25 3 := hl.2.2.2.2.2.2 3 (by decide)
  unfold wpX_issueWrite
  by_cases hv : ic_ok v1 v2 v3 v4
  · obtain ⟨m, i, a, l, hm, hi, ha, h1, h4, h8, rfl, rfl, rfl, rfl⟩ := hv
    refine ic_X_issue (p := p) (k := 1) hI hT2 (by decide) hm hi ha h1 h4 h8 (fun hf => ?_) (fun hn hs => ?_) (fun hn hg => ?_)
    · show wpY_issueWrite (fun r' v' => r' = -2 ∧ i_Rel (k + 5) (ic_X p) v') (ic_Y q) (nI m) (nI i) (nI a) (nI l)
      unfold wpY_issueWrite
      exact ic_Y_issue (p := p) (q := q) (k := 0) hl hI hT2 (by decide) hm hi ha h1 h4 h8 (fun _ => ⟨rfl, I5⟩) (fun z _ => absurd hf z) (fun z _ => absurd hf z)
    · show wpY_issueWrite (fun r' v' => r' = -3 ∧ i_Rel (k + 5) (ic_X p) v') (ic_Y q) (nI m) (nI i) (nI a) (nI l)
      unfold wpY_issueWrite
      exact ic_Y_issue (p := p) (q := q) (k := 0) hl hI hT2 (by decide) hm hi ha h1 h4 h8 (fun z => absurd z hn) (fun _ _ => ⟨rfl, I5⟩) (fun _ z => absurd hs (by omega))
    · show wpY_issueWrite (fun r' v' => r' = nI (p 25 3) ∧ i_Rel (k + 5) (ic_X (ic_iss p (m * 2 + 1) i a l)) v') (ic_Y q) (nI m) (nI i) (nI a) (nI l)
      unfold wpY_issueWrite
      refine ic_Y_issue (p := p) (q := q) (k := 0) hl hI hT2 (by decide) hm hi ha h1 h4 h8 (fun z => absurd z hn) (fun _ z => absurd hg (by omega)) (fun _ _ => ⟨by rw [eT], ic_iss p (m * 2 + 1) i a l, ic_qi q 0 m i a l, rfl, rfl, ic_iss_Inv hI (by omega) hi ha h1 h4 h8 hn hg, ic_Lnk_is (k := 1) hl hI.1 (by decide), ?_, ?_⟩)
      · show p 25 3 + 1 ≤ k + 5
        omega
      · show p 25 2 ≤ 64 * (k + 5)
        omega
  · refine ic_X_issueF (p := p) hv ?_
    show wpY_issueWrite (fun r' v' => r' = -1 ∧ i_Rel (k + 5) (ic_X p) v') (ic_Y q) v1 v2 v3 v4
    unfold wpY_issueWrite
    exact ic_Y_issueF (q := q) hv ⟨rfl, I5⟩
/-- out of range: below, or above n -/
theorem ic_out {v : Int32} {n : Nat} (hn : n + 1 < 2 ^ 31) (h : ¬ ∃ m, m < n + 1 ∧ v = nI m) : v < 0 ∨ (¬ v < 0 ∧ nI n < v ∧ ¬ v ≤ nI n ∧ nI (n + 1) ≤ v) := by
  rcases pk_ix v hn with a | a | a
  · exact Or.inl a
  · have b := ic_ge hn a
    exact Or.inr ⟨b.1, b.2.1, b.2.2.1, a⟩
  · exact absurd a h
theorem i_vc_writeData {k : Nat} {u : SX} {v : SY} (I : i_Rel k u v) (hk : k + 5 ≤ 2562) (v1 : Int32) (v2 : Int32) : wpX_writeData (fun r u' => wpY_writeData (fun r' v' => r' = r ∧ i_Rel (k + 5) u' v') v v1 v2) u v1 v2 := by
  have I5 := i_up I
  obtain ⟨p, q, rfl, rfl, hI, hl, hT, hC⟩ := I
  unfold wpX_writeData
  by_cases hv : ∃ m, m < 2 ∧ v1 = nI m
  · obtain ⟨m, hm, rfl⟩ := hv
    obtain ⟨x, _, rfl⟩ := wb_of32 v2
    have h4 := hI.2.2.2.1 m hm
    have e14 : q 14 m = p 16 m := (hl.2.2.1 m hm).1
    have hi2 : vp_in (nI m) 2 := vp_in_nI hm (by decide)
    refine ic_X_mgr hm (br_f (by decide) (And.intro hi2 (ek_if (ic_ce m 8 rfl rfl (by omega) (by omega) (by decide)) (fun a => ?_) (fun a => ?_))))
    · show wpY_writeData (fun r' v' => r' = 0 ∧ i_Rel (k + 5) (ic_X p) v') (ic_Y q) (nI m) (nI x)
      unfold wpY_writeData
      exact br_f (nI_pos (by omega)) (pk_lt 1 m (fun z => by omega) (fun _ => And.intro hi2 (pk_lt (q 14 m) 8 (fun z => by omega) (fun _ => ⟨rfl, I5⟩) (ic_g m rfl (by omega)) rfl)))
    · have e : nI m * 8 + nI ((p 15 m + p 16 m) % 8) = nI (m * 8 + (p 15 m + p 16 m) % 8) := ic_ma m 8 _
      have e2 : nI m * 8 + ic_t (q 14) (nI m).toNatClampNeg = nI (m * 8 + q 14 m) := by rw [ic_g m rfl (by omega)]; exact ic_ma m 8 _
      refine And.intro hi2 (And.intro hi2 (And.intro (by decide) (nm_r (ic_r (p 15 m + p 16 m) 8 (by rw [ic_g m rfl (by omega), ic_g m rfl (by omega), nI_add]) (by omega) (by decide) (by decide)) (And.intro (pk_in _ 16 (by omega) e) (nm_r (ic_p _ x e (by omega) rfl) (And.intro hi2 (And.intro hi2 (nm_r (ic_p m (p 16 m + 1) rfl (by omega) (ic_inc m rfl (by omega))) ?_))))))))
      show wpY_writeData (fun r' v' => r' = 1 ∧ i_Rel (k + 5) (ic_X (ic_wd p m x)) v') (ic_Y q) (nI m) (nI x)
      unfold wpY_writeData
      refine br_f (nI_pos (by omega)) (pk_lt 1 m (fun z => by omega) (fun _ => And.intro hi2 (pk_lt (q 14 m) 8 (fun _ => ?_) (fun z => by omega) (ic_g m rfl (by omega)) rfl)))
      refine And.intro hi2 (And.intro (pk_in _ 16 (by omega) e2) (nm_r (ic_p _ x e2 (by omega) rfl) (And.intro hi2 (And.intro hi2 (nm_r (ic_p m (q 14 m + 1) rfl (by omega) (ic_inc m rfl (by omega))) ?_)))))
      exact ⟨rfl, ic_wd p m x, ic_pu (ic_pu q 13 (m * 8 + q 14 m) x) 14 m (q 14 m + 1), rfl, rfl, ic_wd_Inv hI (by omega), ic_Lnk_wd hl hI.2.2.2 hm (by omega), by show p 25 3 ≤ k + 5; omega, by show p 25 2 ≤ 64 * (k + 5); omega⟩
  · refine ic_X_mgrF hv (br_t rfl ?_)
    show wpY_writeData (fun r' v' => r' = 0 ∧ i_Rel (k + 5) (ic_X p) v') (ic_Y q) v1 v2
    unfold wpY_writeData
    rcases ic_out (n := 1) (by decide) hv with a | a
    · exact br_t a ⟨rfl, I5⟩
    · exact br_f a.1 (br_t a.2.1 ⟨rfl, I5⟩)
theorem i_vc_setLatency {k : Nat} {u : SX} {v : SY} (I : i_Rel k u v) (hk : k + 5 ≤ 2562) (v1 : Int32) (v2 : Int32) (v3 : Int32) : wpX_setLatency (fun r u' => wpY_setLatency (fun r' v' => r' = r ∧ i_Rel (k + 5) u' v') v v1 v2 v3) u v1 v2 v3 := by
  have I5 := i_up I
  obtain ⟨p, q, rfl, rfl, hI, hl, hT, hC⟩ := I
  have gt : ∀ (v : Int32) (n : Nat), n + 1 < 2 ^ 31 → nI (n + 1) ≤ v → nI n < v := fun v n hn w => (ic_ge hn w).2.1
  unfold wpX_setLatency
  refine br_c (fun a => ?_) (fun a => br_c (fun b => ?_) (fun b => br_c (fun c => ?_) (fun c => br_c (fun d => br_c (fun e => ?_) (fun e => br_c (fun f => ?_) (fun f => ?_))) (fun d => ?_))))
  · show wpY_setLatency (fun r' v' => r' = 0 ∧ i_Rel (k + 5) (ic_X p) v') (ic_Y q) v1 v2 v3
    unfold wpY_setLatency
    exact br_t a ⟨rfl, I5⟩
  · show wpY_setLatency (fun r' v' => r' = 0 ∧ i_Rel (k + 5) (ic_X p) v') (ic_Y q) v1 v2 v3
    unfold wpY_setLatency
    exact br_f a (br_t (gt v1 2 (by decide) b) ⟨rfl, I5⟩)
  · show wpY_setLatency (fun r' v' => r' = 0 ∧ i_Rel (k + 5) (ic_X p) v') (ic_Y q) v1 v2 v3
    unfold wpY_setLatency
    exact br_f a (br_c (fun _ => ⟨rfl, I5⟩) (fun _ => br_t c ⟨rfl, I5⟩))
  · show wpY_setLatency (fun r' v' => r' = 0 ∧ i_Rel (k + 5) (ic_X p) v') (ic_Y q) v1 v2 v3
    unfold wpY_setLatency
    exact br_f a (br_c (fun _ => ⟨rfl, I5⟩) (fun _ => br_f c (br_c (fun _ => ⟨rfl, I5⟩) (fun _ => br_t e ⟨rfl, I5⟩))))
  · obtain ⟨s, hs, rfl⟩ := ic_ix (n := 3) (by decide) a b
    obtain ⟨j, hj, rfl⟩ := ic_ix (n := 4) (by decide) c (Int32.not_le.mpr d)
    obtain ⟨x, h1, h15, rfl⟩ := ic_ix1 (n := 15) (by decide) e (Int32.not_lt.mpr f)
    have e4 : nI s * 4 + nI j = nI (s * 4 + j) := ic_ma s 4 j
    refine And.intro (pk_in (s * 4 + j) 12 (by omega) e4) (nm_r (ic_p _ x e4 (by omega) rfl) ?_)
    show wpY_setLatency (fun r' v' => r' = 1 ∧ i_Rel (k + 5) (ic_X (ic_pu p 18 (s * 4 + j) x)) v') (ic_Y q) (nI s) (nI j) (nI x)
    unfold wpY_setLatency
    refine br_f a (pk_lt 2 s (fun z => by omega) (fun _ => br_f c (pk_lt 3 j (fun z => by omega) (fun _ => br_f e (br_t f (And.intro (pk_in (s * 4 + j) 12 (by omega) e4) (nm_r (ic_p _ x e4 (by omega) rfl) ?_)))))))
    exact ⟨rfl, ic_pu p 18 (s * 4 + j) x, ic_pu q 15 (s * 4 + j) x, rfl, rfl, ic_sl_Inv hI h15, ic_Lnk_sl hl, by show p 25 3 ≤ k + 5; omega, by show p 25 2 ≤ 64 * (k + 5); omega⟩
  · show wpY_setLatency (fun r' v' => r' = 0 ∧ i_Rel (k + 5) (ic_X p) v') (ic_Y q) v1 v2 v3
    unfold wpY_setLatency
    exact br_f a (br_c (fun _ => ⟨rfl, I5⟩) (fun _ => br_f c (br_c (fun _ => ⟨rfl, I5⟩) (fun _ => br_f e (br_f f ⟨rfl, I5⟩)))))
  · show wpY_setLatency (fun r' v' => r' = 0 ∧ i_Rel (k + 5) (ic_X p) v') (ic_Y q) v1 v2 v3
    unfold wpY_setLatency
    exact br_f a (br_c (fun _ => ⟨rfl, I5⟩) (fun _ => br_f c (br_t (gt v2 3 (by decide) (Int32.not_lt.mp d)) ⟨rfl, I5⟩)))
theorem ic_bzN (v : Int32) : ∃ x, x ≤ 1 ∧ lw_bz v = nI x := by
  rcases lw_bz_01 v with h | h
  · exact ⟨0, by omega, h⟩
  · exact ⟨1, by omega, h⟩
theorem i_vc_setReady {k : Nat} {u : SX} {v : SY} (I : i_Rel k u v) (hk : k + 5 ≤ 2562) (v1 : Int32) (v2 : Int32) (v3 : Int32) : wpX_setReady (fun r u' => wpY_setReady (fun r' v' => r' = r ∧ i_Rel (k + 5) u' v') v v1 (lw_bz v2) (lw_bz v3)) u v1 (lw_bz v2) (lw_bz v3) := by
  have I5 := i_up I
  obtain ⟨p, q, rfl, rfl, hI, hl, hT, hC⟩ := I
  unfold wpX_setReady
  by_cases hv : ∃ m, m < 2 ∧ v1 = nI m
  · obtain ⟨m, hm, rfl⟩ := hv
    obtain ⟨x, hx, ex⟩ := ic_bzN v2
    obtain ⟨y, hy, ey⟩ := ic_bzN v3
    have nx : vp_nar .boolean (lw_bz v2) = nI x := by rw [ic_nb, ex]
    have ny : vp_nar .boolean (lw_bz v3) = nI y := by rw [ic_nb, ey]
    have hi2 : vp_in (nI m) 2 := vp_in_nI hm (by decide)
    have e1 : nI m * 2 + 1 = nI (m * 2 + 1) := ic_ma m 2 1
    have e0 : nI m * 2 + 0 = nI (m * 2) := ic_ma m 2 0
    refine ic_X_mgr hm (br_f (by decide) (And.intro (pk_in (m * 2 + 1) 4 (by omega) e1) (nm_r (ic_p _ x e1 (by omega) nx) (And.intro (pk_in (m * 2) 4 (by omega) e0) (nm_r (ic_p _ y e0 (by omega) ny) ?_)))))
    show wpY_setReady (fun r' v' => r' = 1 ∧ i_Rel (k + 5) (ic_X (ic_pu (ic_pu p 23 (m * 2 + 1) x) 23 (m * 2) y)) v') (ic_Y q) (nI m) (lw_bz v2) (lw_bz v3)
    unfold wpY_setReady
    refine br_f (nI_pos (by omega)) (pk_le m 1 (fun _ => And.intro hi2 (nm_r (ic_p _ x rfl (by omega) nx) (And.intro hi2 (nm_r (ic_p _ y rfl (by omega) ny) ?_)))) (fun z => by omega))
    exact ⟨rfl, ic_pu (ic_pu p 23 (m * 2 + 1) x) 23 (m * 2) y, ic_pu (ic_pu q 20 m x) 21 m y, rfl, rfl, ic_sr_Inv (ic_sr_Inv hI hx) hy, ic_Lnk_sr hl, by show p 25 3 ≤ k + 5; omega, by show p 25 2 ≤ 64 * (k + 5); omega⟩
  · refine ic_X_mgrF hv (br_t rfl ?_)
    show wpY_setReady (fun r' v' => r' = 0 ∧ i_Rel (k + 5) (ic_X p) v') (ic_Y q) v1 (lw_bz v2) (lw_bz v3)
    unfold wpY_setReady
    rcases ic_out (n := 1) (by decide) hv with a | a
    · exact br_t a ⟨rfl, I5⟩
    · exact br_f a.1 (br_f a.2.2.1 ⟨rfl, I5⟩)
end
section
/-! what is owed: steps and getters -/
theorem i_vc_step {k : Nat} {u : SX} {v : SY} (I : i_Rel k u v) (hk : k + 5 ≤ 2562) (v1 : Int32) : wpX_step (fun r u' => wpY_step (fun r' v' => r' = r ∧ i_Rel (k + 5) u' v') v v1) u v1 := by
  have I5 := i_up I
  obtain ⟨p, q, rfl, rfl, hI, hl, hT, hC⟩ := I
  unfold wpX_step
  refine br_c (fun a => ?_) (fun a => br_c (fun b => ?_) (fun b => ?_))
  · show wpY_step (fun r' v' => r' = 0 ∧ i_Rel (k + 5) (ic_X p) v') (ic_Y q) v1
    unfold wpY_step
    exact br_t a ⟨rfl, I5⟩
  · obtain ⟨n, h1, h64, rfl⟩ := ic_ix1 (n := 64) (by decide) a (Int32.not_lt.mpr b)
    refine ⟨n + 1, ic_X_st h64 n 0 p (by omega) hI (by omega) (by omega) ?_⟩
    show wpY_step (fun r' v' => r' = 1 ∧ i_Rel (k + 5) (ic_X (ic_run n p)) v') (ic_Y q) (nI n)
    unfold wpY_step
    have g := ic_run_Inv n p hI
    refine br_f a (br_t b ⟨n + 1, ic_Y_st h64 n 0 p q (by omega) hl hI (by omega) (by omega) (fun q' hq => ?_)⟩)
    exact ⟨rfl, ic_run n p, q', rfl, rfl, g.1, hq, by omega, by omega⟩
  · show wpY_step (fun r' v' => r' = 0 ∧ i_Rel (k + 5) (ic_X p) v') (ic_Y q) v1
    unfold wpY_step
    exact br_f a (br_f b ⟨rfl, I5⟩)
theorem i_vc_cycle {k : Nat} {u : SX} {v : SY} (I : i_Rel k u v) (hk : k + 5 ≤ 2562) : wpX_cycle (fun r => wpY_cycle (fun r' => r' = r ∧ i_Rel (k + 5) u v) v) u := by
  have I5 := i_up I
  obtain ⟨p, q, rfl, rfl, hI, hl, hT, hC⟩ := I
  have e : q 22 2 = p 25 2 := hl.2.2.2.2.2.2 2 (by decide)
  unfold wpX_cycle
  show wpY_cycle (fun r' => r' = (lN (p 25 2)).toInt32 ∧ i_Rel (k + 5) (ic_X p) (ic_Y q)) (ic_Y q)
  unfold wpY_cycle
  exact ⟨by rw [lN_i, e], I5⟩
theorem i_vc_status {k : Nat} {u : SX} {v : SY} (I : i_Rel k u v) (hk : k + 5 ≤ 2562) (v1 : Int32) : wpX_status (fun r => wpY_status (fun r' => r' = r ∧ i_Rel (k + 5) u v) v v1) u v1 := by
  have I5 := i_up I
  obtain ⟨p, q, rfl, rfl, hI, hl, hT, hC⟩ := I
  have hT2 : p 25 3 < 2 ^ 30 := by omega
  unfold wpX_status
  by_cases hv : ∃ t, t < p 25 3 ∧ p 25 3 ≤ t + 32 ∧ v1 = nI t
  · refine ic_X_valid (p := p) hT2 (fun t h1 h2 e => br_f (by decide) ?_) (fun z => absurd hv z)
    subst e
    refine ic_X_slotOf t (nI_l (by omega)) (by omega) (And.intro (vp_in_nI (by omega) (by decide)) ?_)
    have hM := hl.1 (t % 32) (by omega) (by omega)
    have hL := hI.1 (t % 32) (by omega)
    unfold ic_M at hM
    unfold ic_L at hL
    unfold wpY_status
    refine ic_Y_valid (p := p) (q := q) hl hT2 (fun _ _ _ _ => br_f (by decide) ?_) (fun z => absurd hv z)
    rw [ic_sl (by omega)]
    refine And.intro (vp_in_nI (by omega) (by decide)) ⟨?_, I5⟩
    rw [ic_g (t % 32) rfl (by omega), ic_gs (t % 32) rfl (by omega), ic_sv_n (by omega), hM.2.1.1]
  · refine ic_X_valid (p := p) hT2 (fun t h1 h2 e => absurd ⟨t, h1, h2, e⟩ hv) (fun _ => br_t rfl ?_)
    unfold wpY_status
    exact ic_Y_valid (p := p) (q := q) hl hT2 (fun t h1 h2 e => absurd ⟨t, h1, h2, e⟩ hv) (fun _ => br_t rfl ⟨rfl, I5⟩)
theorem i_vc_beats {k : Nat} {u : SX} {v : SY} (I : i_Rel k u v) (hk : k + 5 ≤ 2562) (v1 : Int32) : wpX_beats (fun r => wpY_beats (fun r' => r' = r ∧ i_Rel (k + 5) u v) v v1) u v1 := by
  have I5 := i_up I
  obtain ⟨p, q, rfl, rfl, hI, hl, hT, hC⟩ := I
  have hT2 : p 25 3 < 2 ^ 30 := by omega
  unfold wpX_beats
  by_cases hv : ∃ t, t < p 25 3 ∧ p 25 3 ≤ t + 32 ∧ v1 = nI t
  · refine ic_X_valid (p := p) hT2 (fun t h1 h2 e => br_f (by decide) ?_) (fun z => absurd hv z)
    subst e
    refine ic_X_slotOf t (nI_l (by omega)) (by omega) (And.intro (vp_in_nI (by omega) (by decide)) ?_)
    have hM := hl.1 (t % 32) (by omega) (by omega)
    unfold ic_M at hM
    unfold wpY_beats
    refine ic_Y_valid (p := p) (q := q) hl hT2 (fun _ _ _ _ => br_f (by decide) ?_) (fun z => absurd hv z)
    rw [ic_sl (by omega)]
    refine And.intro (vp_in_nI (by omega) (by decide)) ⟨?_, I5⟩
    rw [ic_g (t % 32) rfl (by omega), ic_g (t % 32) rfl (by omega), hM.2.1.2]
  · refine ic_X_valid (p := p) hT2 (fun t h1 h2 e => absurd ⟨t, h1, h2, e⟩ hv) (fun _ => br_t rfl ?_)
    unfold wpY_beats
    exact ic_Y_valid (p := p) (q := q) hl hT2 (fun t h1 h2 e => absurd ⟨t, h1, h2, e⟩ hv) (fun _ => br_t rfl ⟨rfl, I5⟩)
theorem i_vc_readData {k : Nat} {u : SX} {v : SY} (I : i_Rel k u v) (hk : k + 5 ≤ 2562) (v1 : Int32) (v2 : Int32) : wpX_readData (fun r => wpY_readData (fun r' => r' = r ∧ i_Rel (k + 5) u v) v v1 v2) u v1 v2 := by
  have I5 := i_up I
  obtain ⟨p, q, rfl, rfl, hI, hl, hT, hC⟩ := I
  have hT2 : p 25 3 < 2 ^ 30 := by omega
  unfold wpX_readData
  by_cases hv : ∃ t, t < p 25 3 ∧ p 25 3 ≤ t + 32 ∧ v1 = nI t
  · refine ic_X_valid (p := p) hT2 (fun t h1 h2 e => br_f (by decide) ?_) (fun z => absurd hv z)
    subst e
    refine ic_X_slotOf t (nI_l (by omega)) (by omega) ?_
    have h32 : t % 32 < 32 := by omega
    have hTs : t % 32 < p 25 3 := by omega
    have hM := hl.1 (t % 32) h32 hTs
    have hL := hI.1 (t % 32) h32
    have hV := hl.2.1 (t % 32) h32 hTs
    unfold ic_M at hM
    unfold ic_L at hL
    have hi32 : vp_in (nI (t % 32)) 32 := vp_in_nI h32 (by decide)
    have Yw : ∀ r : Int32, (∀ s : Nat, s = t % 32 → vp_in (nI s) 32 ∧ ((ic_t (q 0) (nI s).toNatClampNeg = 1 → ((v2 < 0 → (0 : Int32) = r ∧ i_Rel (k + 5) (ic_X p) (ic_Y q)) ∧ (¬ v2 < 0 → (vp_in (nI s) 32 ∧ ((ic_t (q 8) (nI s).toNatClampNeg ≤ v2 → (0 : Int32) = r ∧ i_Rel (k + 5) (ic_X p) (ic_Y q)) ∧ (¬ ic_t (q 8) (nI s).toNatClampNeg ≤ v2 → ((v2 ≤ 3 → (vp_in (nI s * 4 + v2) 128 ∧ (ic_t (q 11) (nI s * 4 + v2).toNatClampNeg = r ∧ i_Rel (k + 5) (ic_X p) (ic_Y q)))) ∧ (¬ v2 ≤ 3 → (0 : Int32) = r ∧ i_Rel (k + 5) (ic_X p) (ic_Y q)))))))) ) ∧ (¬ ic_t (q 0) (nI s).toNatClampNeg = 1 → (0 : Int32) = r ∧ i_Rel (k + 5) (ic_X p) (ic_Y q)))) → wpY_readData (fun r' => r' = r ∧ i_Rel (k + 5) (ic_X p) (ic_Y q)) (ic_Y q) (nI t) v2 := by
      intro r w
      unfold wpY_readData
      refine ic_Y_valid (p := p) (q := q) hl hT2 (fun _ _ _ _ => br_f (by decide) ?_) (fun z => absurd hv z)
      exact nm_r (ic_sl (by omega)) (w _ rfl)
    refine ic_X_kindOf (p := p) h32 (by omega) (pk_eq (p 1 (t % 32) % 2) 0 (fun a => ?_) (fun a => ?_))
    · refine br_c (fun b => Yw 0 (fun s es => ?_)) (fun b => And.intro hi32 ?_)
      · subst es
        exact And.intro hi32 (ek_if (ic_ce (t % 32) 1 rfl rfl (by omega) (by omega) (by decide)) (fun _ => br_t b ⟨rfl, I5⟩) (fun _ => ⟨rfl, I5⟩))
      · obtain ⟨i, hi, e⟩ := nI_of b
        subst e
        have e4 : nI (t % 32) * 4 + nI i = nI (t % 32 * 4 + i) := ic_ma (t % 32) 4 i
        refine pk_lt i (p 5 (t % 32)) (fun c => And.intro (pk_in _ 128 (by omega) e4) ?_) (fun c => ?_) rfl (ic_g (t % 32) rfl (by omega))
        · rw [ic_g _ e4 (by omega)]
          refine Yw _ (fun s es => ?_)
          subst es
          refine And.intro hi32 (ek_if (ic_ce (t % 32) 1 rfl rfl (by omega) (by omega) (by decide)) (fun _ => br_f b (And.intro hi32 (pk_le (q 8 (t % 32)) i (fun z => by omega) (fun _ => pk_le i 3 (fun _ => And.intro (pk_in _ 128 (by omega) e4) ⟨?_, I5⟩) (fun z => by omega)) (ic_g (t % 32) rfl (by omega)) rfl))) (fun z => by omega))
          rw [ic_g _ e4 (by omega), hV i c]
        · refine Yw _ (fun s es => ?_)
          subst es
          exact And.intro hi32 (ek_if (ic_ce (t % 32) 1 rfl rfl (by omega) (by omega) (by decide)) (fun _ => br_f b (And.intro hi32 (pk_le (q 8 (t % 32)) i (fun _ => ⟨rfl, I5⟩) (fun z => by omega) (ic_g (t % 32) rfl (by omega)) rfl))) (fun z => ⟨rfl, I5⟩))
    · refine Yw _ (fun s es => ?_)
      subst es
      exact And.intro hi32 (ek_if (ic_ce (t % 32) 1 rfl rfl (by omega) (by omega) (by decide)) (fun z => by omega) (fun _ => ⟨rfl, I5⟩))
  · refine ic_X_valid (p := p) hT2 (fun t h1 h2 e => absurd ⟨t, h1, h2, e⟩ hv) (fun _ => br_t rfl ?_)
    unfold wpY_readData
    exact ic_Y_valid (p := p) (q := q) hl hT2 (fun t h1 h2 e => absurd ⟨t, h1, h2, e⟩ hv) (fun _ => br_t rfl ⟨rfl, I5⟩)
theorem i_vc_doneOrder {k : Nat} {u : SX} {v : SY} (I : i_Rel k u v) (hk : k + 5 ≤ 2562) (v1 : Int32) : wpX_doneOrder (fun r => wpY_doneOrder (fun r' => r' = r ∧ i_Rel (k + 5) u v) v v1) u v1 := by
  have I5 := i_up I
  obtain ⟨p, q, rfl, rfl, hI, hl, hT, hC⟩ := I
  have hT2 : p 25 3 < 2 ^ 30 := by omega
  unfold wpX_doneOrder
  by_cases hv : ∃ t, t < p 25 3 ∧ p 25 3 ≤ t + 32 ∧ v1 = nI t
  · refine ic_X_valid (p := p) hT2 (fun t h1 h2 e => br_f (by decide) ?_) (fun z => absurd hv z)
    subst e
    refine ic_X_slotOf t (nI_l (by omega)) (by omega) ?_
    have hM := hl.1 (t % 32) (by omega) (by omega)
    have hL := hI.1 (t % 32) (by omega)
    unfold ic_M at hM
    unfold ic_L at hL
    have hi32 : vp_in (nI (t % 32)) 32 := vp_in_nI (by omega) (by decide)
    refine ic_X_isPending (p := p) (by omega) (by omega) (fun a => br_f (by decide) ?_) (fun a => br_t rfl (And.intro hi32 ?_))
    · unfold wpY_doneOrder
      refine ic_Y_valid (p := p) (q := q) hl hT2 (fun _ _ _ _ => br_f (by decide) ?_) (fun z => absurd hv z)
      rw [ic_sl (by omega)]
      exact ic_Y_isDone (q := q) (by omega) (by omega) (fun z => by omega) (fun _ => br_t rfl ⟨rfl, I5⟩)
    · unfold wpY_doneOrder
      refine ic_Y_valid (p := p) (q := q) hl hT2 (fun _ _ _ _ => br_f (by decide) ?_) (fun z => absurd hv z)
      rw [ic_sl (by omega)]
      refine ic_Y_isDone (q := q) (by omega) (by omega) (fun z => br_f (by decide) (And.intro hi32 ⟨?_, I5⟩)) (fun z => by omega)
      rw [ic_g (t % 32) rfl (by omega), ic_g (t % 32) rfl (by omega), (hM.2.2.2 (by omega)).1]
  · refine ic_X_valid (p := p) hT2 (fun t h1 h2 e => absurd ⟨t, h1, h2, e⟩ hv) (fun _ => br_t rfl ?_)
    unfold wpY_doneOrder
    exact ic_Y_valid (p := p) (q := q) hl hT2 (fun t h1 h2 e => absurd ⟨t, h1, h2, e⟩ hv) (fun _ => br_t rfl ⟨rfl, I5⟩)
theorem i_vc_doneCycle {k : Nat} {u : SX} {v : SY} (I : i_Rel k u v) (hk : k + 5 ≤ 2562) (v1 : Int32) : wpX_doneCycle (fun r => wpY_doneCycle (fun r' => r' = r ∧ i_Rel (k + 5) u v) v v1) u v1 := by
  have I5 := i_up I
  obtain ⟨p, q, rfl, rfl, hI, hl, hT, hC⟩ := I
  have hT2 : p 25 3 < 2 ^ 30 := by omega
  unfold wpX_doneCycle
  by_cases hv : ∃ t, t < p 25 3 ∧ p 25 3 ≤ t + 32 ∧ v1 = nI t
  · refine ic_X_valid (p := p) hT2 (fun t h1 h2 e => br_f (by decide) ?_) (fun z => absurd hv z)
    subst e
    refine ic_X_slotOf t (nI_l (by omega)) (by omega) ?_
    have hM := hl.1 (t % 32) (by omega) (by omega)
    have hL := hI.1 (t % 32) (by omega)
    unfold ic_M at hM
    unfold ic_L at hL
    have hi32 : vp_in (nI (t % 32)) 32 := vp_in_nI (by omega) (by decide)
    refine ic_X_isPending (p := p) (by omega) (by omega) (fun a => br_f (by decide) ?_) (fun a => br_t rfl (And.intro hi32 ?_))
    · unfold wpY_doneCycle
      refine ic_Y_valid (p := p) (q := q) hl hT2 (fun _ _ _ _ => br_f (by decide) ?_) (fun z => absurd hv z)
      rw [ic_sl (by omega)]
      exact ic_Y_isDone (q := q) (by omega) (by omega) (fun z => by omega) (fun _ => br_t rfl ⟨rfl, I5⟩)
    · unfold wpY_doneCycle
      refine ic_Y_valid (p := p) (q := q) hl hT2 (fun _ _ _ _ => br_f (by decide) ?_) (fun z => absurd hv z)
      rw [ic_sl (by omega)]
      refine ic_Y_isDone (q := q) (by omega) (by omega) (fun z => br_f (by decide) (And.intro hi32 ⟨?_, I5⟩)) (fun z => by omega)
      rw [ic_g (t % 32) rfl (by omega), ic_g (t % 32) rfl (by omega), (hM.2.2.2 (by omega)).2]
  · refine ic_X_valid (p := p) hT2 (fun t h1 h2 e => absurd ⟨t, h1, h2, e⟩ hv) (fun _ => br_t rfl ?_)
    unfold wpY_doneCycle
    exact ic_Y_valid (p := p) (q := q) hl hT2 (fun t h1 h2 e => absurd ⟨t, h1, h2, e⟩ hv) (fun _ => br_t rfl ⟨rfl, I5⟩)
theorem i_vc_outstanding {k : Nat} {u : SX} {v : SY} (I : i_Rel k u v) (hk : k + 5 ≤ 2562) (v1 : Int32) : wpX_outstanding (fun r => wpY_outstanding (fun r' => r' = r ∧ i_Rel (k + 5) u v) v v1) u v1 := by
  have I5 := i_up I
  obtain ⟨p, q, rfl, rfl, hI, hl, hT, hC⟩ := I
  have hT2 : p 25 3 < 2 ^ 30 := by omega
  unfold wpX_outstanding
  by_cases hv : ∃ m, m < 2 ∧ v1 = nI m
  · obtain ⟨m, hm, rfl⟩ := hv
    refine ic_X_mgr hm (br_f (by decide) (And.intro (vp_in_nI hm (by decide)) ?_))
    rw [ic_g m rfl (by omega)]
    unfold wpY_outstanding
    exact br_f (nI_pos (by omega)) (pk_le m 1 (fun _ => ic_Y_cntM (p := p) (q := q) hl hI hT2 hm ⟨rfl, I5⟩) (fun z => by omega))
  · refine ic_X_mgrF hv (br_t rfl ?_)
    unfold wpY_outstanding
    rcases ic_out (n := 1) (by decide) hv with a | a
    · exact br_t a ⟨rfl, I5⟩
    · exact br_f a.1 (br_f a.2.2.1 ⟨rfl, I5⟩)
theorem i_vc_subLoad {k : Nat} {u : SX} {v : SY} (I : i_Rel k u v) (hk : k + 5 ≤ 2562) (v1 : Int32) : wpX_subLoad (fun r => wpY_subLoad (fun r' => r' = r ∧ i_Rel (k + 5) u v) v v1) u v1 := by
  have I5 := i_up I
  obtain ⟨p, q, rfl, rfl, hI, hl, hT, hC⟩ := I
  have hT2 : p 25 3 < 2 ^ 30 := by omega
  unfold wpX_subLoad
  by_cases hv : ∃ m, m < 4 ∧ v1 = nI m
  · obtain ⟨m, hm, rfl⟩ := hv
    refine br_f (nI_pos (by omega)) (pk_le 4 m (fun z => by omega) (fun _ => And.intro (vp_in_nI hm (by decide)) ?_))
    rw [ic_g m rfl (by omega)]
    unfold wpY_subLoad
    exact br_f (nI_pos (by omega)) (pk_le m 3 (fun _ => ic_Y_cntS (p := p) (q := q) hl hI hT2 hm ⟨rfl, I5⟩) (fun z => by omega))
  · rcases ic_out (n := 3) (by decide) hv with a | a
    · refine br_t a ?_
      unfold wpY_subLoad
      exact br_t a ⟨rfl, I5⟩
    · refine br_f a.1 (br_t a.2.2.2 ?_)
      unfold wpY_subLoad
      exact br_f a.1 (br_f a.2.2.1 ⟨rfl, I5⟩)
theorem i_vc_pendingData {k : Nat} {u : SX} {v : SY} (I : i_Rel k u v) (hk : k + 5 ≤ 2562) (v1 : Int32) : wpX_pendingData (fun r => wpY_pendingData (fun r' => r' = r ∧ i_Rel (k + 5) u v) v v1) u v1 := by
  have I5 := i_up I
  obtain ⟨p, q, rfl, rfl, hI, hl, hT, hC⟩ := I
  unfold wpX_pendingData
  by_cases hv : ∃ m, m < 2 ∧ v1 = nI m
  · obtain ⟨m, hm, rfl⟩ := hv
    refine ic_X_mgr hm (br_f (by decide) (And.intro (vp_in_nI hm (by decide)) ?_))
    unfold wpY_pendingData
    refine br_f (nI_pos (by omega)) (pk_le m 1 (fun _ => And.intro (vp_in_nI hm (by decide)) ⟨?_, I5⟩) (fun z => by omega))
    rw [ic_g m rfl (by omega), ic_g m rfl (by omega), (hl.2.2.1 m hm).1]
  · refine ic_X_mgrF hv (br_t rfl ?_)
    unfold wpY_pendingData
    rcases ic_out (n := 1) (by decide) hv with a | a
    · exact br_t a ⟨rfl, I5⟩
    · exact br_f a.1 (br_f a.2.2.1 ⟨rfl, I5⟩)
theorem i_vc_memory {k : Nat} {u : SX} {v : SY} (I : i_Rel k u v) (hk : k + 5 ≤ 2562) (v1 : Int32) : wpX_memory (fun r => wpY_memory (fun r' => r' = r ∧ i_Rel (k + 5) u v) v v1) u v1 := by
  have I5 := i_up I
  obtain ⟨p, q, rfl, rfl, hI, hl, hT, hC⟩ := I
  unfold wpX_memory
  by_cases hv : ∃ m, m < 24 ∧ v1 = nI m
  · obtain ⟨m, hm, rfl⟩ := hv
    refine br_f (nI_pos (by omega)) (pk_le 24 m (fun z => by omega) (fun _ => And.intro (vp_in_nI hm (by decide)) ?_))
    unfold wpY_memory
    refine br_f (nI_pos (by omega)) (pk_le m 23 (fun _ => And.intro (vp_in_nI hm (by decide)) ⟨?_, I5⟩) (fun z => by omega))
    rw [ic_g m rfl (by omega), ic_g m rfl (by omega), hl.2.2.2.1.1]
  · rcases ic_out (n := 23) (by decide) hv with a | a
    · refine br_t a ?_
      unfold wpY_memory
      exact br_t a ⟨rfl, I5⟩
    · refine br_f a.1 (br_t a.2.2.2 ?_)
      unfold wpY_memory
      exact br_f a.1 (br_f a.2.2.1 ⟨rfl, I5⟩)
end
