/-! scans, counts, tables (pure: no printed name) -/
/-- the first slot, from place i on and d places far, that p names; place i of a scan is slot (T + i) % 32 -/
def ic_ff (T : Nat) (p : Nat → Bool) : Nat → Nat → Option Nat
  | 0, _ => none
  | d + 1, i => if p ((T + i) % 32) = true then some ((T + i) % 32) else ic_ff T p d (i + 1)
theorem ic_ff_t {T : Nat} {p : Nat → Bool} {d i : Nat} (h : p ((T + i) % 32) = true) : ic_ff T p (d + 1) i = some ((T + i) % 32) := if_pos h
theorem ic_ff_f {T : Nat} {p : Nat → Bool} {d i : Nat} (h : ¬ p ((T + i) % 32) = true) : ic_ff T p (d + 1) i = ic_ff T p d (i + 1) := if_neg h
theorem ic_ff_no {T : Nat} {p : Nat → Bool} : ∀ d i : Nat, (∀ j, i ≤ j → j < i + d → ¬ p ((T + j) % 32) = true) → ic_ff T p d i = none := by
  intro d
  induction d with
  | zero => intro i _; rfl
  | succ d ih =>
    intro i h
    rw [ic_ff_f (h i (Nat.le_refl i) (by omega))]
    exact ih (i + 1) (fun j h1 h2 => h j (by omega) (by omega))
theorem ic_ff_is {T : Nat} {p : Nat → Bool} : ∀ d i j : Nat, i ≤ j → j < i + d → p ((T + j) % 32) = true → (∀ a, i ≤ a → a < j → ¬ p ((T + a) % 32) = true) → ic_ff T p d i = some ((T + j) % 32) := by
  intro d
  induction d with
  | zero => intro i j h1 h2 _ _; omega
  | succ d ih =>
    intro i j h1 h2 hp ha
    by_cases e : i = j
    · subst e; exact ic_ff_t hp
    · rw [ic_ff_f (ha i (Nat.le_refl i) (by omega))]
      exact ih (i + 1) j (by omega) (by omega) hp (fun a h3 h4 => ha a (by omega) h4)
theorem ic_ff_some {T : Nat} {p : Nat → Bool} : ∀ d i s : Nat, ic_ff T p d i = some s → ∃ j, i ≤ j ∧ j < i + d ∧ s = (T + j) % 32 ∧ p s = true ∧ (∀ a, i ≤ a → a < j → ¬ p ((T + a) % 32) = true) := by
  intro d
  induction d with
  | zero => intro i s h; exact absurd h (by intro z; cases z)
  | succ d ih =>
    intro i s h
    by_cases hp : p ((T + i) % 32) = true
    · rw [ic_ff_t hp] at h
      cases h
      exact ⟨i, Nat.le_refl i, by omega, rfl, hp, fun a h1 h2 => by omega⟩
    · rw [ic_ff_f hp] at h
      obtain ⟨j, h1, h2, h3, h4, h5⟩ := ih (i + 1) s h
      refine ⟨j, by omega, by omega, h3, h4, fun a h6 h7 => ?_⟩
      by_cases e : a = i
      · subst e; exact hp
      · exact h5 a (by omega) h7
theorem ic_ff_ps {T : Nat} {p : Nat → Bool} {d i s : Nat} (h : ic_ff T p d i = some s) : s < 32 ∧ p s = true := by
  obtain ⟨j, _, _, e, hp, _⟩ := ic_ff_some d i s h
  exact ⟨by omega, hp⟩
/-- every slot stands in one place of a scan -/
theorem ic_at (T : Nat) {s : Nat} (h : s < 32) : ∃ j, j < 32 ∧ (T + j) % 32 = s := ⟨(s + 32 - T % 32) % 32, by omega, by omega⟩
theorem ic_ff_none {T : Nat} {p : Nat → Bool} : ic_ff T p 32 0 = none ↔ ∀ s, s < 32 → ¬ p s = true := by
  constructor
  · intro h s hs hp
    obtain ⟨j, hj, e⟩ := ic_at T hs
    have key : ∀ n, ∀ j, j < n → p ((T + j) % 32) = true → ∃ i, i ≤ j ∧ p ((T + i) % 32) = true ∧ ∀ a, a < i → ¬ p ((T + a) % 32) = true := by
      intro n
      induction n with
      | zero => intro j hj; omega
      | succ n ih =>
        intro j hj hp
        by_cases q : ∃ a, a < j ∧ p ((T + a) % 32) = true
        · obtain ⟨a, ha, hpa⟩ := q
          obtain ⟨i, hi, h1, h2⟩ := ih a (by omega) hpa
          exact ⟨i, by omega, h1, h2⟩
        · exact ⟨j, Nat.le_refl j, hp, fun a ha hpa => q ⟨a, ha, hpa⟩⟩
    obtain ⟨i, hi, h1, h2⟩ := key (j + 1) j (by omega) (by rw [e]; exact hp)
    rw [ic_ff_is 32 0 i (by omega) (by omega) h1 (fun a _ ha => h2 a ha)] at h
    cases h
  · intro h
    exact ic_ff_no 32 0 (fun j _ _ => h _ (by omega))
theorem ic_ff_eq {T : Nat} {p q : Nat → Bool} (h : ∀ s, s < 32 → q s = p s) : ∀ d i, ic_ff T q d i = ic_ff T p d i := by
  intro d
  induction d with
  | zero => intro i; rfl
  | succ d ih =>
    intro i
    show (if q ((T + i) % 32) = true then some ((T + i) % 32) else ic_ff T q d (i + 1)) = (if p ((T + i) % 32) = true then some ((T + i) % 32) else ic_ff T p d (i + 1))
    rw [h _ (by omega), ih]
/-- how many slots below n p names -/
def ic_cn (p : Nat → Bool) : Nat → Nat
  | 0 => 0
  | n + 1 => ic_cn p n + (if p n = true then 1 else 0)
theorem ic_cn_t {p : Nat → Bool} {n : Nat} (h : p n = true) : ic_cn p (n + 1) = ic_cn p n + 1 := by
  show ic_cn p n + (if p n = true then 1 else 0) = _
  rw [if_pos h]
theorem ic_cn_f {p : Nat → Bool} {n : Nat} (h : ¬ p n = true) : ic_cn p (n + 1) = ic_cn p n := by
  show ic_cn p n + (if p n = true then 1 else 0) = _
  rw [if_neg h]; rfl
theorem ic_cn_le (p : Nat → Bool) : ∀ n, ic_cn p n ≤ n := by
  intro n
  induction n with
  | zero => exact Nat.le_refl 0
  | succ n ih =>
    show ic_cn p n + (if p n = true then 1 else 0) ≤ n + 1
    split <;> omega
theorem ic_cn_eq {p q : Nat → Bool} : ∀ n, (∀ j, j < n → q j = p j) → ic_cn q n = ic_cn p n := by
  intro n
  induction n with
  | zero => intro _; rfl
  | succ n ih =>
    intro h
    show ic_cn q n + (if q n = true then 1 else 0) = ic_cn p n + (if p n = true then 1 else 0)
    rw [ih (fun j hj => h j (by omega)), h n (by omega)]
/-- one slot more -/
theorem ic_cn_up {p q : Nat → Bool} {s : Nat} (hp : p s = false) (hq : q s = true) : ∀ n, s < n → (∀ j, j < n → j ≠ s → q j = p j) → ic_cn q n = ic_cn p n + 1 := by
  intro n
  induction n with
  | zero => intro h _; omega
  | succ n ih =>
    intro h ho
    show ic_cn q n + (if q n = true then 1 else 0) = ic_cn p n + (if p n = true then 1 else 0) + 1
    by_cases e : s = n
    · subst e
      rw [ic_cn_eq s (fun j hj => ho j (by omega) (by omega)), hp, hq]
      rfl
    · rw [ih (by omega) (fun j hj hn => ho j (by omega) hn), ho n (by omega) (fun z => e z.symm)]
      omega
theorem ic_cn_pos {p : Nat → Bool} {s n : Nat} (hs : s < n) (hp : p s = true) : 0 < ic_cn p n := by
  have h := ic_cn_up (p := fun j => if j = s then false else p j) (q := p) (s := s) (if_pos rfl) hp n hs (fun j _ hn => (if_neg hn).symm)
  omega
theorem ic_cn_sh (g : Nat → Bool) : ∀ n, ic_cn (fun i => g (i + 1)) n + (if g 0 = true then 1 else 0) = ic_cn g n + (if g n = true then 1 else 0) := by
  intro n
  induction n with
  | zero => rfl
  | succ n ih =>
    show ic_cn (fun i => g (i + 1)) n + (if g (n + 1) = true then 1 else 0) + (if g 0 = true then 1 else 0) = ic_cn g n + (if g n = true then 1 else 0) + (if g (n + 1) = true then 1 else 0)
    omega
/-- a scan that begins anywhere counts the same -/
theorem ic_cn_rot (p : Nat → Bool) : ∀ T, ic_cn (fun i => p ((T + i) % 32)) 32 = ic_cn p 32 := by
  intro T
  induction T with
  | zero =>
    refine ic_cn_eq 32 (fun j hj => ?_)
    show p ((0 + j) % 32) = p j
    rw [Nat.zero_add, Nat.mod_eq_of_lt hj]
  | succ T ih =>
    rw [← ih]
    have h := ic_cn_sh (fun i => p ((T + i) % 32)) 32
    have e : (T + 32) % 32 = (T + 0) % 32 := by omega
    have h2 : ic_cn (fun i => p ((T + (i + 1)) % 32)) 32 + (if p ((T + 0) % 32) = true then 1 else 0) = ic_cn (fun i => p ((T + i) % 32)) 32 + (if p ((T + 32) % 32) = true then 1 else 0) := h
    rw [e] at h2
    have h3 : ic_cn (fun i => p ((T + 1 + i) % 32)) 32 = ic_cn (fun i => p ((T + (i + 1)) % 32)) 32 :=
      ic_cn_eq 32 (fun j _ => by show p ((T + 1 + j) % 32) = p ((T + (j + 1)) % 32); rw [Nat.add_right_comm, Nat.add_assoc])
    omega
/-- a change at one place of a natural table, of one table of a picture -/
def ic_u (f : Nat → Nat) (s x : Nat) : Nat → Nat := fun j => if j = s then x else f j
theorem ic_us {f : Nat → Nat} {s x : Nat} : ic_u f s x s = x := if_pos rfl
theorem ic_un {f : Nat → Nat} {s x j : Nat} (h : j ≠ s) : ic_u f s x j = f j := if_neg h
def ic_pf (p : Nat → Nat → Nat) (f : Nat) (g : Nat → Nat) : Nat → Nat → Nat := fun h => if h = f then g else p h
def ic_pu (p : Nat → Nat → Nat) (f s x : Nat) : Nat → Nat → Nat := ic_pf p f (ic_u (p f) s x)
/-- one value more in the memory: n values of V from b on, to a and on -/
def ic_stw (W V : Nat → Nat) (a b : Nat) : Nat → Nat → Nat
  | 0 => W
  | n + 1 => ic_u (ic_stw W V a b n) (a + n) (V (b + n))
