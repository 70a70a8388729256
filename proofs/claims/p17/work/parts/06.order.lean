/-! what p17 asks beside the invariant: bounds of the counters, done ones are full, order of one id -/
def ic_D1 (p : Nat → Nat → Nat) : Prop := ∀ s, s < 32 → 2 ≤ p 0 s → p 0 s ≤ 3 → p 5 s = p 4 s ∧ p 8 s < p 25 4
def ic_D2 (p : Nat → Nat → Nat) : Prop := ∀ a b, a < b → b < p 25 3 → p 25 3 ≤ a + 32 → p 1 (a % 32) = p 1 (b % 32) → p 2 (a % 32) = p 2 (b % 32) → 2 ≤ p 0 (b % 32) → 2 ≤ p 0 (a % 32) ∧ p 8 (a % 32) < p 8 (b % 32)
def ic_D3 (p : Nat → Nat → Nat) : Prop := (∀ m, m < 2 → p 20 m ≤ p 25 0) ∧ (∀ q, q < 4 → p 21 q ≤ p 25 1)
def ic_Ord (p : Nat → Nat → Nat) : Prop := ic_D1 p ∧ ic_D2 p ∧ ic_D3 p
theorem ic_chl_old {p : Nat → Nat → Nat} {c : Nat} : ∀ d j s : Nat, ic_chl p c d j = some s → ic_old p c (p 2 s) = some s := by
  intro d
  induction d with
  | zero => intro j s h; cases h
  | succ d ih =>
    intro j s h
    unfold ic_chl at h
    cases ho : ic_old p c ((p 22 c + j) % 4) with
    | none => rw [ho] at h; exact ih (j + 1) s h
    | some t =>
      rw [ho] at h
      dsimp only at h
      by_cases he : ic_eli p t = true
      · rw [if_pos he] at h
        cases h
        have h2 := of_decide_eq_true (ic_ff_ps ho).2
        rw [h2.2.1]
        exact ho
      · rw [if_neg he] at h
        exact ih (j + 1) s h
theorem ic_cho_old {p : Nat → Nat → Nat} {c s : Nat} (h : ic_cho p c = some s) : ic_old p c (p 2 s) = some s := by
  unfold ic_cho at h
  by_cases hz : p 23 c = 0
  · rw [if_pos hz] at h; cases h
  · rw [if_neg hz] at h; exact ic_chl_old 4 0 s h
/-- the oldest pending one of a channel and id: every valid ticket before it is done -/
theorem ic_old_bf {p : Nat → Nat → Nat} {c i s : Nat} (j1 : ic_J1 p) (h : ic_old p c i = some s) {a b : Nat} (hab : a < b) (hb : b < p 25 3) (ha : p 25 3 ≤ a + 32) (es : b % 32 = s) (h1 : p 1 (a % 32) = c) (h2 : p 2 (a % 32) = i) : 2 ≤ p 0 (a % 32) ∧ p 0 (a % 32) ≤ 3 := by
  obtain ⟨j, _, hj, e, hp, hbf⟩ := ic_ff_some 32 0 s h
  have hL := j1 (a % 32) (by omega)
  unfold ic_L at hL
  have hs3 : p 0 (a % 32) ≤ 3 := by
    have h4 := hL.2.2.2.1
    omega
  refine ⟨?_, hs3⟩
  have e2 : (p 25 3 + (a + 32 - p 25 3)) % 32 = a % 32 := by omega
  have h5 : ¬ ic_pen p c i (a % 32) = true := by
    rw [← e2]
    exact hbf (a + 32 - p 25 3) (by omega) (by omega)
  have h6 : ¬ (p 1 (a % 32) = c ∧ p 2 (a % 32) = i ∧ p 0 (a % 32) ≤ 1) := fun z => h5 (decide_eq_true z)
  omega
theorem ic_fin_D {p : Nat → Nat → Nat} {s : Nat} (d1 : ic_D1 p) (d2 : ic_D2 p) (hB : p 5 s = p 4 s) (h1 : p 0 s = 1)
    (ho : ∀ a b, a < b → b < p 25 3 → p 25 3 ≤ a + 32 → b % 32 = s → p 1 (a % 32) = p 1 s → p 2 (a % 32) = p 2 s → 2 ≤ p 0 (a % 32) ∧ p 0 (a % 32) ≤ 3) : ic_D1 (ic_fin p s) ∧ ic_D2 (ic_fin p s) := by
  refine ⟨fun t ht => ?_, fun a b hab hb ha e1 e2 => ?_⟩
  · show 2 ≤ ic_u (p 0) s (if p 3 s / 8 = 3 then 3 else 2) t → ic_u (p 0) s (if p 3 s / 8 = 3 then 3 else 2) t ≤ 3 → p 5 t = p 4 t ∧ ic_u (p 8) s (p 25 4) t < p 25 4 + 1
    by_cases e : t = s
    · subst e
      intro _ _
      rw [ic_us]
      exact ⟨hB, by omega⟩
    · rw [ic_un e, ic_un e]
      intro h2 h3
      have := d1 t ht h2 h3
      exact ⟨this.1, by omega⟩
  · have hb2 : b < p 25 3 := hb
    have ha2 : p 25 3 ≤ a + 32 := ha
    have e12 : p 1 (a % 32) = p 1 (b % 32) := e1
    have e22 : p 2 (a % 32) = p 2 (b % 32) := e2
    show 2 ≤ ic_u (p 0) s (if p 3 s / 8 = 3 then 3 else 2) (b % 32) → 2 ≤ ic_u (p 0) s (if p 3 s / 8 = 3 then 3 else 2) (a % 32) ∧ ic_u (p 8) s (p 25 4) (a % 32) < ic_u (p 8) s (p 25 4) (b % 32)
    have hne : a % 32 ≠ b % 32 := by omega
    by_cases e : b % 32 = s
    · intro _
      have hn : a % 32 ≠ s := by omega
      obtain ⟨h3, h4⟩ := ho a b hab hb2 ha2 e (by rw [e12, e]) (by rw [e22, e])
      rw [ic_un hn, ic_un hn, e, ic_us]
      exact ⟨h3, (d1 (a % 32) (by omega) h3 h4).2⟩
    · rw [ic_un e, ic_un e]
      intro h3
      have h4 := d2 a b hab hb2 ha2 e12 e22 h3
      by_cases f : a % 32 = s
      · rw [f] at h4; omega
      · rw [ic_un f, ic_un f]; exact h4
theorem ic_fin_D3 {p : Nat → Nat → Nat} {s : Nat} (h : ic_D3 p) : ic_D3 (ic_fin p s) := by
  refine ⟨fun m hm => ?_, fun q hq => ?_⟩
  · show ic_u (p 20) (p 1 s / 2) (p 20 (p 1 s / 2) - 1) m ≤ p 25 0
    have := h.1 m hm
    by_cases e : m = p 1 s / 2
    · subst e; rw [ic_us]; omega
    · rw [ic_un e]; exact this
  · show ic_u (p 21) (p 3 s / 8) (p 21 (p 3 s / 8) - 1) q ≤ p 25 1
    have := h.2 q hq
    by_cases e : q = p 3 s / 8
    · subst e; rw [ic_us]; omega
    · rw [ic_un e]; exact this
theorem ic_wr_Ord {p : Nat → Nat → Nat} {c : Nat} (hI : ic_Inv p) (h : ic_Ord p) (h1 : c % 2 = 1) : ic_Ord (ic_wr p c) := by
  unfold ic_wr
  cases hc : ic_cho p c with
  | none => exact h
  | some s =>
    obtain ⟨hs, he, ha, hb, _⟩ := ic_cho_ps hc
    obtain ⟨d1, d2, d3⟩ := h
    dsimp only
    unfold ic_wr1
    have ho : ∀ a b, a < b → b < p 25 3 → p 25 3 ≤ a + 32 → b % 32 = s → p 1 (a % 32) = p 1 s → p 2 (a % 32) = p 2 s → 2 ≤ p 0 (a % 32) ∧ p 0 (a % 32) ≤ 3 :=
      fun a b hab hb2 ha2 es e1 e2 => ic_old_bf hI.1 (ic_cho_old hc) hab hb2 ha2 es (by omega) e2
    by_cases e : p 3 s / 8 = 3
    · rw [if_pos e]
      have r := ic_fin_D (p := p) (s := s) d1 d2 (by omega) ha ho
      exact ⟨r.1, r.2, ic_fin_D3 (p := p) (s := s) d3⟩
    · rw [if_neg e]
      have r := ic_fin_D (p := ic_sto p s) (s := s) d1 d2 (by show p 5 s = p 4 s; omega) ha ho
      exact ⟨r.1, r.2, ic_fin_D3 (p := ic_sto p s) (s := s) d3⟩
/-- one beat more of an active one keeps what is said of the done ones -/
theorem ic_D1_5 {p p' : Nat → Nat → Nat} {s x : Nat} (h : ic_D1 p) (h1 : p 0 s = 1) (e0 : p' 0 = p 0) (e5 : p' 5 = ic_u (p 5) s x) (e4 : p' 4 = p 4) (e8 : p' 8 = p 8) (e25 : p' 25 4 = p 25 4) : ic_D1 p' := by
  intro t ht
  rw [e0, e5, e4, e8, e25]
  intro h2 h3
  have hn : t ≠ s := by
    intro z
    rw [z] at h2
    omega
  rw [ic_un hn]
  exact h t ht h2 h3
theorem ic_rd_Ord {p : Nat → Nat → Nat} {c : Nat} (hI : ic_Inv p) (h : ic_Ord p) : ic_Ord (ic_rd p c) := by
  unfold ic_rd
  cases hc : ic_cho p c with
  | none => exact h
  | some s =>
    obtain ⟨hs, he, ha, hb, _⟩ := ic_cho_ps hc
    obtain ⟨d1, d2, d3⟩ := h
    dsimp only
    unfold ic_rd1
    have b1 : ic_D1 (ic_bt p s) := ic_D1_5 (p := p) (p' := ic_bt p s) (s := s) (x := p 5 s + 1) d1 ha rfl rfl rfl rfl rfl
    by_cases n : p 5 s + 1 = p 4 s
    · rw [if_pos n]
      have r := ic_fin_D (p := ic_bt p s) (s := s) b1 d2 (by show ic_u (p 5) s (p 5 s + 1) s = p 4 s; rw [ic_us]; exact n) ha
        (fun a b hab hb2 ha2 es e1 e2 => ic_old_bf hI.1 (ic_cho_old hc) hab hb2 ha2 es (by have e3 : p 1 (a % 32) = p 1 s := e1; omega) e2)
      exact ⟨r.1, r.2, ic_fin_D3 (p := ic_bt p s) (s := s) d3⟩
    · rw [if_neg n]
      exact ⟨b1, d2, d3⟩
theorem ic_mv_Ord {p : Nat → Nat → Nat} {m : Nat} (h : ic_Ord p) : ic_Ord (ic_mv p m) := by
  unfold ic_mv
  cases hc : ic_unf p m with
  | none => exact h
  | some s =>
    dsimp only
    by_cases g : p 0 s = 1 ∧ p 16 m ≠ 0
    · rw [if_pos g]
      obtain ⟨d1, d2, d3⟩ := h
      unfold ic_mv1
      by_cases n : p 5 s + 1 = p 4 s
      · rw [if_pos n]
        exact ⟨ic_D1_5 (p := p) (p' := ic_pu (ic_mv0 p m s) 7 s (p 25 2 + p 6 s)) (s := s) (x := p 5 s + 1) d1 g.1 rfl rfl rfl rfl rfl, d2, d3⟩
      · rw [if_neg n]
        exact ⟨ic_D1_5 (p := p) (p' := ic_mv0 p m s) (s := s) (x := p 5 s + 1) d1 g.1 rfl rfl rfl rfl rfl, d2, d3⟩
    · rw [if_neg g]
      exact h
theorem ic_ar_Ord {p : Nat → Nat → Nat} {s k : Nat} (hI : ic_Inv p) (h : ic_Ord p) (hs : s < 4) (hk : k < 2) : ic_Ord (ic_ar p s k) := by
  unfold ic_ar
  have hw := ic_win_le hI.2.2.2 hs hk
  generalize ic_win p s k = w at *
  by_cases c : ic_can p w s k = true
  · rw [if_pos c]
    obtain ⟨d1, d2, d3⟩ := h
    obtain ⟨c1, c2, c3, c4, c5⟩ := ic_can_ps c
    obtain ⟨g1, g2, g3, g4⟩ := ic_hd_ps hI.2.2.1 (c := w * 2 + k) (by omega) c1
    obtain ⟨f0, f1, f2, f3, f4, f5, f6, f7, f25, f11, f12, f13, f20, f21, f24, f19⟩ := @ic_ar1_f p s k w
    obtain ⟨f15, f16, f18, f22, f23, f8, f9, f10, f14, f17⟩ := @ic_ar1_g p s k w
    generalize ic_hd p (w * 2 + k) = b at *
    refine ⟨fun t ht => ?_, fun x y hxy hy hx => ?_, fun m hm => ?_, fun q hq => ?_⟩
    · rw [f0, f5, f4, f8, f25]
      by_cases e : t = b
      · rw [e, ic_us]
        intro z
        omega
      · rw [ic_un e]
        exact d1 t ht
    · rw [f25] at hy hx
      rw [f0, f1, f2, f8]
      intro e1 e2
      by_cases e : y % 32 = b
      · rw [e, ic_us]
        intro z
        omega
      · rw [ic_un e]
        intro z
        have r := d2 x y hxy hy hx e1 e2 z
        have f : x % 32 ≠ b := by
          intro w
          rw [w] at r
          omega
        rw [ic_un f]
        exact r
    · rw [f20, f25, g3]
      have := d3.1 m hm
      by_cases e : m = (w * 2 + k) / 2
      · rw [e, ic_us]
        have e2 : (w * 2 + k) / 2 = w := by omega
        rw [e2]
        omega
      · rw [ic_un e]
        exact this
    · rw [f21, f25]
      have := d3.2 q hq
      by_cases e : q = s
      · rw [e, ic_us]
        omega
      · rw [ic_un e]
        exact this
  · rw [if_neg c]
    exact h
theorem ic_c1_Ord {p : Nat → Nat → Nat} (h : ic_Ord p) : ic_Ord (ic_pu p 25 2 (p 25 2 + 1)) := h
theorem ic_cyc_Ord {p : Nat → Nat → Nat} (hI : ic_Inv p) (h : ic_Ord p) : ic_Ord (ic_cyc p) := by
  have i0 := ic_c1_Inv hI
  have o0 := ic_c1_Ord h
  have i1 := ic_wr_Inv (c := 1) i0
  have o1 := ic_wr_Ord (c := 1) i0 o0 (by decide)
  have i2 := ic_wr_Inv (c := 3) i1
  have o2 := ic_wr_Ord (c := 3) i1 o1 (by decide)
  have i3 := ic_rd_Inv (c := 0) i2 (by decide)
  have o3 := ic_rd_Ord (c := 0) i2 o2
  have i4 := ic_rd_Inv (c := 2) i3 (by decide)
  have o4 := ic_rd_Ord (c := 2) i3 o3
  have i5 := ic_mv_Inv (m := 0) i4
  have o5 := ic_mv_Ord (m := 0) o4
  have i6 := ic_mv_Inv (m := 1) i5
  have o6 := ic_mv_Ord (m := 1) o5
  have i7 := ic_ar_Inv (s := 0) (k := 1) i6 (by decide) (by decide)
  have o7 := ic_ar_Ord (s := 0) (k := 1) i6 o6 (by decide) (by decide)
  have i8 := ic_ar_Inv (s := 0) (k := 0) i7 (by decide) (by decide)
  have o8 := ic_ar_Ord (s := 0) (k := 0) i7 o7 (by decide) (by decide)
  have i9 := ic_ar_Inv (s := 1) (k := 1) i8 (by decide) (by decide)
  have o9 := ic_ar_Ord (s := 1) (k := 1) i8 o8 (by decide) (by decide)
  have ia := ic_ar_Inv (s := 1) (k := 0) i9 (by decide) (by decide)
  have oa := ic_ar_Ord (s := 1) (k := 0) i9 o9 (by decide) (by decide)
  have ib := ic_ar_Inv (s := 2) (k := 1) ia (by decide) (by decide)
  have ob := ic_ar_Ord (s := 2) (k := 1) ia oa (by decide) (by decide)
  have jc := ic_ar_Inv (s := 2) (k := 0) ib (by decide) (by decide)
  have oc := ic_ar_Ord (s := 2) (k := 0) ib ob (by decide) (by decide)
  have id := ic_ar_Inv (s := 3) (k := 1) jc (by decide) (by decide)
  have od := ic_ar_Ord (s := 3) (k := 1) jc oc (by decide) (by decide)
  exact ic_ar_Ord (s := 3) (k := 0) id od (by decide) (by decide)
theorem ic_iss_Ord {p : Nat → Nat → Nat} {c i a l : Nat} (h : ic_Ord p) : ic_Ord (ic_iss p c i a l) := by
  obtain ⟨d1, d2, d3⟩ := h
  refine ⟨fun t ht => ?_, fun x y hxy hy hx => ?_, d3⟩
  · show 2 ≤ ic_u (p 0) (p 25 3 % 32) 0 t → ic_u (p 0) (p 25 3 % 32) 0 t ≤ 3 → ic_u (p 5) (p 25 3 % 32) 0 t = ic_u (p 4) (p 25 3 % 32) l t ∧ p 8 t < p 25 4
    by_cases e : t = p 25 3 % 32
    · subst e
      rw [ic_us]
      intro z
      omega
    · rw [ic_un e, ic_un e, ic_un e]
      exact d1 t ht
  · have hy2 : y < p 25 3 + 1 := hy
    have hx2 : p 25 3 + 1 ≤ x + 32 := hx
    show ic_u (p 1) (p 25 3 % 32) c (x % 32) = ic_u (p 1) (p 25 3 % 32) c (y % 32) → ic_u (p 2) (p 25 3 % 32) i (x % 32) = ic_u (p 2) (p 25 3 % 32) i (y % 32) → 2 ≤ ic_u (p 0) (p 25 3 % 32) 0 (y % 32) → 2 ≤ ic_u (p 0) (p 25 3 % 32) 0 (x % 32) ∧ p 8 (x % 32) < p 8 (y % 32)
    have ex : x % 32 ≠ p 25 3 % 32 := by omega
    by_cases e : y = p 25 3
    · subst e
      intro _ _
      rw [ic_us]
      intro z
      omega
    · have ey : y % 32 ≠ p 25 3 % 32 := by omega
      rw [ic_un ex, ic_un ey, ic_un ex, ic_un ey, ic_un ex, ic_un ey]
      exact d2 x y hxy (by omega) (by omega)
theorem ic_p0_Ord {l c : Nat} : ic_Ord (ic_p0 l c) := by
  have e0 : ∀ s, s < 32 → ic_p0 l c 0 s = 4 := fun s hs => if_pos hs
  refine ⟨fun t ht h2 h3 => ?_, fun x y hxy hy => ?_, fun m _ => ?_, fun q _ => ?_⟩
  · rw [e0 t ht] at h3
    omega
  · have : y < 0 := hy
    omega
  · show 0 ≤ l
    omega
  · show 0 ≤ c
    omega
/-- what every cycle leaves: channel, id, length; limit, cap, tickets; and at most four more are done -/
def ic_Fr (n : Nat) (p p' : Nat → Nat → Nat) : Prop := p' 1 = p 1 ∧ p' 2 = p 2 ∧ p' 4 = p 4 ∧ p' 25 0 = p 25 0 ∧ p' 25 1 = p 25 1 ∧ p' 25 3 = p 25 3 ∧ p' 25 4 ≤ p 25 4 + n
theorem ic_Fr_t {n m : Nat} {p p' p'' : Nat → Nat → Nat} (h : ic_Fr n p p') (g : ic_Fr m p' p'') : ic_Fr (n + m) p p'' := by
  obtain ⟨a1, a2, a3, a4, a5, a6, a7⟩ := h
  obtain ⟨b1, b2, b3, b4, b5, b6, b7⟩ := g
  exact ⟨b1.trans a1, b2.trans a2, b3.trans a3, b4.trans a4, b5.trans a5, b6.trans a6, by omega⟩
theorem ic_wr_Fr {p : Nat → Nat → Nat} {c : Nat} : ic_Fr 1 p (ic_wr p c) := by
  unfold ic_wr
  cases ic_cho p c with
  | none => exact ⟨rfl, rfl, rfl, rfl, rfl, rfl, Nat.le_succ _⟩
  | some s =>
    dsimp only
    unfold ic_wr1
    by_cases n : p 3 s / 8 = 3
    · rw [if_pos n]; exact ⟨rfl, rfl, rfl, rfl, rfl, rfl, Nat.le_refl _⟩
    · rw [if_neg n]; exact ⟨rfl, rfl, rfl, rfl, rfl, rfl, Nat.le_refl _⟩
theorem ic_rd_Fr {p : Nat → Nat → Nat} {c : Nat} : ic_Fr 1 p (ic_rd p c) := by
  unfold ic_rd
  cases ic_cho p c with
  | none => exact ⟨rfl, rfl, rfl, rfl, rfl, rfl, Nat.le_succ _⟩
  | some s =>
    dsimp only
    unfold ic_rd1
    by_cases n : p 5 s + 1 = p 4 s
    · rw [if_pos n]; exact ⟨rfl, rfl, rfl, rfl, rfl, rfl, Nat.le_refl _⟩
    · rw [if_neg n]; exact ⟨rfl, rfl, rfl, rfl, rfl, rfl, Nat.le_succ _⟩
theorem ic_mv_Fr {p : Nat → Nat → Nat} {m : Nat} : ic_Fr 0 p (ic_mv p m) := by
  unfold ic_mv
  cases ic_unf p m with
  | none => exact ⟨rfl, rfl, rfl, rfl, rfl, rfl, Nat.le_refl _⟩
  | some s =>
    dsimp only
    by_cases g : p 0 s = 1 ∧ p 16 m ≠ 0
    · rw [if_pos g]
      unfold ic_mv1
      by_cases n : p 5 s + 1 = p 4 s
      · rw [if_pos n]; exact ⟨rfl, rfl, rfl, rfl, rfl, rfl, Nat.le_refl _⟩
      · rw [if_neg n]; exact ⟨rfl, rfl, rfl, rfl, rfl, rfl, Nat.le_refl _⟩
    · rw [if_neg g]; exact ⟨rfl, rfl, rfl, rfl, rfl, rfl, Nat.le_refl _⟩
theorem ic_ar_Fr {p : Nat → Nat → Nat} {s k : Nat} : ic_Fr 0 p (ic_ar p s k) := by
  unfold ic_ar
  by_cases c : ic_can p (ic_win p s k) s k = true
  · rw [if_pos c]
    obtain ⟨f0, f1, f2, f3, f4, f5, f6, f7, f25, _⟩ := @ic_ar1_f p s k (ic_win p s k)
    exact ⟨f1, f2, f4, by rw [f25], by rw [f25], by rw [f25], by rw [f25]; exact Nat.le_refl _⟩
  · rw [if_neg c]; exact ⟨rfl, rfl, rfl, rfl, rfl, rfl, Nat.le_refl _⟩
theorem ic_cyc_Fr {p : Nat → Nat → Nat} : ic_Fr 4 p (ic_cyc p) := by
  have h0 : ic_Fr 0 p (ic_pu p 25 2 (p 25 2 + 1)) := ⟨rfl, rfl, rfl, rfl, rfl, rfl, Nat.le_refl _⟩
  have h1 := ic_Fr_t (ic_Fr_t (ic_Fr_t (ic_Fr_t h0 (ic_wr_Fr (c := 1))) (ic_wr_Fr (c := 3))) (ic_rd_Fr (c := 0))) (ic_rd_Fr (c := 2))
  have h2 := ic_Fr_t (ic_Fr_t h1 (ic_mv_Fr (m := 0))) (ic_mv_Fr (m := 1))
  have h3 := ic_Fr_t (ic_Fr_t (ic_Fr_t (ic_Fr_t h2 (ic_ar_Fr (s := 0) (k := 1))) (ic_ar_Fr (s := 0) (k := 0))) (ic_ar_Fr (s := 1) (k := 1))) (ic_ar_Fr (s := 1) (k := 0))
  exact ic_Fr_t (ic_Fr_t (ic_Fr_t (ic_Fr_t h3 (ic_ar_Fr (s := 2) (k := 1))) (ic_ar_Fr (s := 2) (k := 0))) (ic_ar_Fr (s := 3) (k := 1))) (ic_ar_Fr (s := 3) (k := 0))
theorem ic_run_Ord : ∀ (n : Nat) (p : Nat → Nat → Nat), ic_Inv p → ic_Ord p → ic_Ord (ic_run n p) ∧ ic_Fr (4 * n) p (ic_run n p) := by
  intro n
  induction n with
  | zero => intro p _ h; exact ⟨h, rfl, rfl, rfl, rfl, rfl, rfl, Nat.le_refl _⟩
  | succ n ih =>
    intro p hI h
    have r := ih (ic_cyc p) (ic_cyc_Inv hI) (ic_cyc_Ord hI h)
    refine ⟨r.1, ?_⟩
    have f := ic_Fr_t (ic_cyc_Fr (p := p)) r.2
    rw [show 4 + 4 * n = 4 * (n + 1) from by omega] at f
    exact f
/-- outstanding ones, counted by manager and by subordinate -/
theorem ic_sum2 {S H : Nat → Nat} (h : ∀ s, s < 32 → H s < 4) : ∀ n, n ≤ 32 → ic_cn (fun s => decide (S s = 1 ∧ H s / 2 = 0)) n + ic_cn (fun s => decide (S s = 1 ∧ H s / 2 = 1)) n = ic_cn (fun s => decide (S s = 1)) n := by
  intro n
  induction n with
  | zero => intro _; rfl
  | succ n ih =>
    intro hn
    have e := ih (by omega)
    have hH := h n (by omega)
    by_cases a : S n = 1
    · rw [ic_cn_t (p := fun s => decide (S s = 1)) (decide_eq_true a)]
      rcases (by omega : H n / 2 = 0 ∨ H n / 2 = 1) with b | b
      · rw [ic_cn_t (p := fun s => decide (S s = 1 ∧ H s / 2 = 0)) (decide_eq_true ⟨a, b⟩), ic_cn_f (p := fun s => decide (S s = 1 ∧ H s / 2 = 1)) (fun z => by have := (of_decide_eq_true z).2; omega)]
        omega
      · rw [ic_cn_f (p := fun s => decide (S s = 1 ∧ H s / 2 = 0)) (fun z => by have := (of_decide_eq_true z).2; omega), ic_cn_t (p := fun s => decide (S s = 1 ∧ H s / 2 = 1)) (decide_eq_true ⟨a, b⟩)]
        omega
    · rw [ic_cn_f (p := fun s => decide (S s = 1)) (fun z => a (of_decide_eq_true z)), ic_cn_f (p := fun s => decide (S s = 1 ∧ H s / 2 = 0)) (fun z => a (of_decide_eq_true z).1), ic_cn_f (p := fun s => decide (S s = 1 ∧ H s / 2 = 1)) (fun z => a (of_decide_eq_true z).1)]
      exact e
theorem ic_cn_q {S A : Nat → Nat} {n q : Nat} (a : S n = 1) : ic_cn (fun s => decide (S s = 1 ∧ A s / 8 = q)) (n + 1) = ic_cn (fun s => decide (S s = 1 ∧ A s / 8 = q)) n + (if A n / 8 = q then 1 else 0) := by
  by_cases b : A n / 8 = q
  · rw [ic_cn_t (p := fun s => decide (S s = 1 ∧ A s / 8 = q)) (decide_eq_true ⟨a, b⟩), if_pos b]
  · rw [ic_cn_f (p := fun s => decide (S s = 1 ∧ A s / 8 = q)) (fun z => b (of_decide_eq_true z).2), if_neg b, Nat.add_zero]
theorem ic_sum4 {S A : Nat → Nat} (h : ∀ s, s < 32 → A s < 32) : ∀ n, n ≤ 32 → ic_cn (fun s => decide (S s = 1 ∧ A s / 8 = 0)) n + ic_cn (fun s => decide (S s = 1 ∧ A s / 8 = 1)) n + ic_cn (fun s => decide (S s = 1 ∧ A s / 8 = 2)) n + ic_cn (fun s => decide (S s = 1 ∧ A s / 8 = 3)) n = ic_cn (fun s => decide (S s = 1)) n := by
  intro n
  induction n with
  | zero => intro _; rfl
  | succ n ih =>
    intro hn
    have e := ih (by omega)
    have hA := h n (by omega)
    by_cases a : S n = 1
    · rw [ic_cn_t (p := fun s => decide (S s = 1)) (decide_eq_true a), ic_cn_q a, ic_cn_q a, ic_cn_q a, ic_cn_q a]
      rcases (by omega : A n / 8 = 0 ∨ A n / 8 = 1 ∨ A n / 8 = 2 ∨ A n / 8 = 3) with b | b | b | b <;> rw [b] <;> simp only [if_true, if_false, reduceCtorEq, Nat.reduceEqDiff] <;> omega
    · have z : ∀ q, ic_cn (fun s => decide (S s = 1 ∧ A s / 8 = q)) (n + 1) = ic_cn (fun s => decide (S s = 1 ∧ A s / 8 = q)) n := fun q => ic_cn_f (p := fun s => decide (S s = 1 ∧ A s / 8 = q)) (fun z => a (of_decide_eq_true z).1)
      rw [ic_cn_f (p := fun s => decide (S s = 1)) (fun z => a (of_decide_eq_true z)), z, z, z, z]
      exact e
theorem ic_sum {p : Nat → Nat → Nat} (h : ic_Inv p) : p 20 0 + p 20 1 = p 21 0 + p 21 1 + p 21 2 + p 21 3 := by
  obtain ⟨j1, j2, _, _⟩ := h
  have a := ic_sum2 (S := p 0) (H := p 1) (fun s hs => (j1 s hs).1.1) 32 (Nat.le_refl 32)
  have b := ic_sum4 (S := p 0) (A := p 3) (fun s hs => (j1 s hs).1.2.2.1) 32 (Nat.le_refl 32)
  rw [j2.1 0 (by decide), j2.1 1 (by decide), j2.2 0 (by decide), j2.2 1 (by decide), j2.2 2 (by decide), j2.2 3 (by decide)]
  exact a.trans b.symm
