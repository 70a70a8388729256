/-! the reference's tables against the picture. q: 0 kind, 1 mgr, 2 idv, 3 adr, 4 ln, 5 st, 6 lat, 7 rdy, 8 cnt, 9 dOrd, 10 dCyc, 11 dat, 12 mem, 13 wq, 14 wn, 15 script, 16 kAcc, 17 bPtr, 18 rPtr, 19 prio, 20 bRdy, 21 rRdy, 22: limit, cap, cyc, total, doneCount -/
def ic_M (S H I A N B G R D K kd mg id ad ln st la rd cn od cy : Nat) : Prop :=
  (kd = 1 - H % 2 ∧ mg = H / 2 ∧ id = I ∧ ad = A ∧ ln = N) ∧ (st = S ∧ cn = B) ∧ (S = 1 → la = G ∧ (H % 2 = 0 ∨ B = N → rd = R)) ∧ (2 ≤ S → od = D ∧ cy = K)
def ic_K1 (p q : Nat → Nat → Nat) : Prop := ∀ s, s < 32 → s < p 25 3 →
  ic_M (p 0 s) (p 1 s) (p 2 s) (p 3 s) (p 4 s) (p 5 s) (p 6 s) (p 7 s) (p 8 s) (p 9 s) (q 0 s) (q 1 s) (q 2 s) (q 3 s) (q 4 s) (q 5 s) (q 6 s) (q 7 s) (q 8 s) (q 9 s) (q 10 s)
def ic_K2 (p q : Nat → Nat → Nat) : Prop := ∀ s, s < 32 → s < p 25 3 → ∀ i, i < p 5 s → q 11 (s * 4 + i) = p 10 (s * 4 + i)
def ic_K3 (p q : Nat → Nat → Nat) : Prop := ∀ m, m < 2 → q 14 m = p 16 m ∧ ∀ i, i < p 16 m → q 13 (m * 8 + i) = p 14 (m * 8 + (p 15 m + i) % 8)
def ic_K4 (p q : Nat → Nat → Nat) : Prop := q 12 = p 17 ∧ q 15 = p 18 ∧ (∀ s, s < 3 → q 16 s % 4 = p 19 s)
def ic_K5 (p q : Nat → Nat → Nat) : Prop := ∀ m, m < 2 → q 17 m = p 22 (m * 2 + 1) ∧ q 18 m = p 22 (m * 2) ∧ q 20 m = p 23 (m * 2 + 1) ∧ q 21 m = p 23 (m * 2)
def ic_K6 (p q : Nat → Nat → Nat) : Prop := ∀ s, s < 4 → q 19 (s * 2) = p 24 (s * 2 + 1) ∧ q 19 (s * 2 + 1) = p 24 (s * 2)
def ic_K7 (p q : Nat → Nat → Nat) : Prop := ∀ j, j < 5 → q 22 j = p 25 j
def ic_Lnk (p q : Nat → Nat → Nat) : Prop := ic_K1 p q ∧ ic_K2 p q ∧ ic_K3 p q ∧ ic_K4 p q ∧ ic_K5 p q ∧ ic_K6 p q ∧ ic_K7 p q
/-- a finished one -/
def ic_qf (q : Nat → Nat → Nat) (s : Nat) : Nat → Nat → Nat :=
  ic_pu (ic_pu (ic_pu (ic_pu q 5 s (if q 3 s / 8 = 3 then 3 else 2)) 9 s (q 22 4)) 22 4 (q 22 4 + 1)) 10 s (q 22 2)
theorem ic_qf_7 {p q : Nat → Nat → Nat} {s : Nat} (h : ic_K7 p q) : ic_K7 (ic_fin p s) (ic_qf q s) := by
  intro j hj
  show ic_u (q 22) 4 (q 22 4 + 1) j = ic_u (p 25) 4 (p 25 4 + 1) j
  by_cases e : j = 4
  · subst e; rw [ic_us, ic_us, h 4 hj]
  · rw [ic_un e, ic_un e]; exact h j hj
theorem ic_stw_eq {W V V' : Nat → Nat} {a b : Nat} : ∀ n, (∀ i, i < n → V' (b + i) = V (b + i)) → ic_stw W V' a b n = ic_stw W V a b n := by
  intro n
  induction n with
  | zero => intro _; rfl
  | succ n ih =>
    intro h
    show ic_u (ic_stw W V' a b n) (a + n) (V' (b + n)) = ic_u (ic_stw W V a b n) (a + n) (V (b + n))
    rw [ih (fun i hi => h i (by omega)), h n (by omega)]
/-- one pointer moves -/
theorem ic_K5_w {p q : Nat → Nat → Nat} {m x : Nat} (h : ic_K5 p q) : ic_K5 (ic_pu p 22 (m * 2 + 1) x) (ic_pu q 17 m x) := by
  intro t ht
  have h1 := h t ht
  show ic_u (q 17) m x t = ic_u (p 22) (m * 2 + 1) x (t * 2 + 1) ∧ q 18 t = ic_u (p 22) (m * 2 + 1) x (t * 2) ∧ q 20 t = p 23 (t * 2 + 1) ∧ q 21 t = p 23 (t * 2)
  rw [ic_un (j := t * 2) (by omega)]
  by_cases e : t = m
  · subst e; rw [ic_us, ic_us]; exact ⟨rfl, h1.2⟩
  · rw [ic_un e, ic_un (by omega)]; exact h1
theorem ic_K5_r {p q : Nat → Nat → Nat} {m x : Nat} (h : ic_K5 p q) : ic_K5 (ic_pu p 22 (m * 2) x) (ic_pu q 18 m x) := by
  intro t ht
  have h1 := h t ht
  show q 17 t = ic_u (p 22) (m * 2) x (t * 2 + 1) ∧ ic_u (q 18) m x t = ic_u (p 22) (m * 2) x (t * 2) ∧ q 20 t = p 23 (t * 2 + 1) ∧ q 21 t = p 23 (t * 2)
  rw [ic_un (j := t * 2 + 1) (by omega)]
  by_cases e : t = m
  · subst e; rw [ic_us, ic_us]; exact ⟨h1.1, rfl, h1.2.2⟩
  · rw [ic_un e, ic_un (by omega)]; exact h1
/-- a write's answer -/
def ic_qw (q : Nat → Nat → Nat) (m s i : Nat) : Nat → Nat → Nat :=
  ic_pu (if q 3 s / 8 = 3 then ic_qf q s else ic_pf (ic_qf q s) 12 (ic_stw (q 12) (q 11) (q 3 s) (s * 4) (q 4 s))) 17 m ((i + 1) % 4)
theorem ic_K1_fin {p q : Nat → Nat → Nat} {s : Nat} (h : ic_K1 p q) (k7 : ic_K7 p q) (hs : s < 32) (hT : s < p 25 3) : ic_K1 (ic_fin p s) (ic_qf q s) := by
  intro t ht hT2
  have h1 := h t ht hT2
  have e3 : q 3 s = p 3 s := (h s hs hT).1.2.2.2.1
  by_cases e : t = s
  · subst e
    show ic_M (ic_u (p 0) t (if p 3 t / 8 = 3 then 3 else 2) t) (p 1 t) (p 2 t) (p 3 t) (p 4 t) (p 5 t) (p 6 t) (p 7 t) (ic_u (p 8) t (p 25 4) t) (ic_u (p 9) t (p 25 2) t) (q 0 t) (q 1 t) (q 2 t) (q 3 t) (q 4 t) (ic_u (q 5) t (if q 3 t / 8 = 3 then 3 else 2) t) (q 6 t) (q 7 t) (q 8 t) (ic_u (q 9) t (q 22 4) t) (ic_u (q 10) t (q 22 2) t)
    rw [ic_us, ic_us, ic_us, ic_us, ic_us, ic_us, k7 4 (by decide), k7 2 (by decide), e3]
    obtain ⟨a1, a2, _, _⟩ := h1
    refine ⟨⟨a1.1, a1.2.1, a1.2.2.1, rfl, a1.2.2.2.2⟩, ⟨rfl, a2.2⟩, fun z => ?_, fun _ => ⟨rfl, rfl⟩⟩
    exfalso
    revert z
    split <;> omega
  · show ic_M (ic_u (p 0) s (if p 3 s / 8 = 3 then 3 else 2) t) (p 1 t) (p 2 t) (p 3 t) (p 4 t) (p 5 t) (p 6 t) (p 7 t) (ic_u (p 8) s (p 25 4) t) (ic_u (p 9) s (p 25 2) t) (q 0 t) (q 1 t) (q 2 t) (q 3 t) (q 4 t) (ic_u (q 5) s (if q 3 s / 8 = 3 then 3 else 2) t) (q 6 t) (q 7 t) (q 8 t) (ic_u (q 9) s (q 22 4) t) (ic_u (q 10) s (q 22 2) t)
    rw [ic_un e, ic_un e, ic_un e, ic_un e, ic_un e, ic_un e]
    exact h1
theorem ic_Lnk_wr {p q : Nat → Nat → Nat} {m s : Nat} (h : ic_Lnk p q) (hs : s < 32) (hT : s < p 25 3) (hB : p 5 s = p 4 s) : ic_Lnk (ic_wr1 p (m * 2 + 1) s) (ic_qw q m s (p 2 s)) := by
  obtain ⟨k1, k2, k3, ⟨a1, a2, a3⟩, k5, k6, k7⟩ := h
  have h1 := k1 s hs hT
  have e3 : q 3 s = p 3 s := h1.1.2.2.2.1
  have e4 : q 4 s = p 4 s := h1.1.2.2.2.2
  unfold ic_wr1 ic_qw
  by_cases e : p 3 s / 8 = 3
  · rw [if_pos e, if_pos (by rw [e3]; exact e)]
    exact ⟨ic_K1_fin k1 k7 hs hT, k2, k3, ⟨a1, a2, a3⟩, ic_K5_w (p := ic_fin p s) (q := ic_qf q s) k5, k6, ic_qf_7 (p := p) (q := q) (s := s) k7⟩
  · rw [if_neg e, if_neg (by rw [e3]; exact e)]
    refine ⟨ic_K1_fin (p := ic_sto p s) (q := q) k1 k7 hs hT, k2, k3, ⟨?_, a2, a3⟩, ic_K5_w (p := ic_fin (ic_sto p s) s) (q := ic_pf (ic_qf q s) 12 (ic_stw (q 12) (q 11) (q 3 s) (s * 4) (q 4 s))) k5, k6, ic_qf_7 (p := ic_sto p s) (q := q) (s := s) k7⟩
    show ic_stw (q 12) (q 11) (q 3 s) (s * 4) (q 4 s) = ic_stw (p 17) (p 10) (p 3 s) (s * 4) (p 4 s)
    rw [a1, e3, e4]
    exact ic_stw_eq _ (fun i hi => k2 s hs hT i (by omega))
/-- a read's beat -/
def ic_qb (q : Nat → Nat → Nat) (s x : Nat) : Nat → Nat → Nat := ic_pu (ic_pu q 11 (s * 4 + q 8 s) x) 8 s (q 8 s + 1)
def ic_qr (q : Nat → Nat → Nat) (m s i x : Nat) : Nat → Nat → Nat := ic_pu (if q 8 s + 1 = q 4 s then ic_qf (ic_qb q s x) s else ic_qb q s x) 18 m ((i + 1) % 4)
theorem ic_K1_bt {p q : Nat → Nat → Nat} {s x : Nat} (h : ic_K1 p q) (h2 : p 1 s % 2 = 0) : ic_K1 (ic_bt p s) (ic_qb q s x) := by
  intro t ht hT2
  have h1 := h t ht hT2
  by_cases e : t = s
  · subst e
    show ic_M (p 0 t) (p 1 t) (p 2 t) (p 3 t) (p 4 t) (ic_u (p 5) t (p 5 t + 1) t) (p 6 t) (p 7 t) (p 8 t) (p 9 t) (q 0 t) (q 1 t) (q 2 t) (q 3 t) (q 4 t) (q 5 t) (q 6 t) (q 7 t) (ic_u (q 8) t (q 8 t + 1) t) (q 9 t) (q 10 t)
    rw [ic_us, ic_us]
    obtain ⟨b1, b2, b3, b4⟩ := h1
    exact ⟨b1, ⟨b2.1, by rw [b2.2]⟩, fun z => ⟨(b3 z).1, fun _ => (b3 z).2 (Or.inl h2)⟩, b4⟩
  · show ic_M (p 0 t) (p 1 t) (p 2 t) (p 3 t) (p 4 t) (ic_u (p 5) s (p 5 s + 1) t) (p 6 t) (p 7 t) (p 8 t) (p 9 t) (q 0 t) (q 1 t) (q 2 t) (q 3 t) (q 4 t) (q 5 t) (q 6 t) (q 7 t) (ic_u (q 8) s (q 8 s + 1) t) (q 9 t) (q 10 t)
    rw [ic_un e, ic_un e]
    exact h1
/-- a value more in one slot -/
theorem ic_K2_bt {p q p' q' : Nat → Nat → Nat} {s x : Nat} (h : ic_K2 p q) (j1 : ic_J1 p) (hs : s < 32) (hB : p 5 s < 4) (e5 : p' 5 = ic_u (p 5) s (p 5 s + 1)) (e10 : p' 10 = ic_u (p 10) (s * 4 + p 5 s) x) (e11 : q' 11 = ic_u (q 11) (s * 4 + p 5 s) x) (e25 : p' 25 3 = p 25 3) : ic_K2 p' q' := by
  intro t ht hT i hi
  rw [e25] at hT
  rw [e5] at hi
  rw [e10, e11]
  by_cases e : t = s
  · subst e
    rw [ic_us] at hi
    by_cases ei : i = p 5 t
    · subst ei; rw [ic_us, ic_us]
    · rw [ic_un (by omega), ic_un (by omega)]
      exact h t ht hT i (by omega)
  · rw [ic_un e] at hi
    have h1 := j1 t ht
    unfold ic_L at h1
    rw [ic_un (by omega), ic_un (by omega)]
    exact h t ht hT i hi
theorem ic_Lnk_rd {p q : Nat → Nat → Nat} {m s : Nat} (h : ic_Lnk p q) (j1 : ic_J1 p) (hs : s < 32) (hT : s < p 25 3) (h1 : p 0 s = 1) (h2 : p 1 s % 2 = 0) : ic_Lnk (ic_rd1 p (m * 2) s) (ic_qr q m s (p 2 s) (if p 3 s / 8 = 3 then 0 else p 17 (p 3 s + p 5 s))) := by
  obtain ⟨k1, k2, k3, k4, k5, k6, k7⟩ := h
  have h3 := k1 s hs hT
  have e4 : q 4 s = p 4 s := h3.1.2.2.2.2
  have e8 : q 8 s = p 5 s := h3.2.1.2
  have hL := j1 s hs
  unfold ic_L at hL
  have n2 : ic_K2 (ic_bt p s) (ic_qb q s (if p 3 s / 8 = 3 then 0 else p 17 (p 3 s + p 5 s))) := by
    refine ic_K2_bt (s := s) (x := if p 3 s / 8 = 3 then 0 else p 17 (p 3 s + p 5 s)) k2 j1 hs (by omega) rfl rfl ?_ rfl
    show ic_u (q 11) (s * 4 + q 8 s) _ = _
    rw [e8]
  unfold ic_rd1 ic_qr
  by_cases n : p 5 s + 1 = p 4 s
  · rw [if_pos n, if_pos (by rw [e4, e8]; exact n)]
    exact ⟨ic_K1_fin (p := ic_bt p s) (q := ic_qb q s _) (ic_K1_bt k1 h2) k7 hs hT, n2, k3, k4, ic_K5_r (p := ic_fin (ic_bt p s) s) (q := ic_qf (ic_qb q s _) s) k5, k6, ic_qf_7 (p := ic_bt p s) (q := ic_qb q s _) (s := s) k7⟩
  · rw [if_neg n, if_neg (by rw [e4, e8]; exact n)]
    exact ⟨ic_K1_bt (p := p) (q := q) (s := s) (x := if p 3 s / 8 = 3 then 0 else p 17 (p 3 s + p 5 s)) k1 h2, n2, k3, k4, ic_K5_r (p := ic_bt p s) (q := ic_qb q s _) k5, k6, k7⟩
/-- a value of a write -/
def ic_shf (f : Nat → Nat) (b n : Nat) : Nat → Nat := fun x => if b ≤ x ∧ x < b + n then f (x + 1) else f x
theorem ic_shf_0 (f : Nat → Nat) (b : Nat) : ic_shf f b 0 = f := by
  funext x
  exact if_neg (by omega)
theorem ic_shf_s (f : Nat → Nat) (b n : Nat) : ic_u (ic_shf f b n) (b + n) (ic_shf f b n (b + n + 1)) = ic_shf f b (n + 1) := by
  funext x
  have e1 : ic_shf f b n (b + n + 1) = f (b + n + 1) := if_neg (by omega)
  rw [e1]
  by_cases e : x = b + n
  · subst e
    rw [ic_us]
    exact (if_pos (by omega)).symm
  · rw [ic_un e]
    show (if b ≤ x ∧ x < b + n then f (x + 1) else f x) = (if b ≤ x ∧ x < b + (n + 1) then f (x + 1) else f x)
    by_cases c : b ≤ x ∧ x < b + n
    · rw [if_pos c, if_pos (by omega)]
    · rw [if_neg c, if_neg (by omega)]
def ic_qm0 (q : Nat → Nat → Nat) (m s : Nat) : Nat → Nat → Nat :=
  ic_pu (ic_pu (ic_pf (ic_pu q 11 (s * 4 + q 8 s) (q 13 (m * 8))) 13 (ic_shf (q 13) (m * 8) 7)) 14 m (q 14 m - 1)) 8 s (q 8 s + 1)
def ic_qm (q : Nat → Nat → Nat) (m s : Nat) : Nat → Nat → Nat :=
  if q 8 s + 1 = q 4 s then ic_pu (ic_qm0 q m s) 7 s (q 22 2 + q 6 s) else ic_qm0 q m s
theorem ic_Lnk_mv {p q : Nat → Nat → Nat} {m s : Nat} (h : ic_Lnk p q) (j1 : ic_J1 p) (j4 : ic_J4 p) (hm : m < 2) (hs : s < 32) (hT : s < p 25 3) (h1 : p 0 s = 1) (h2 : p 1 s % 2 = 1) (h5 : p 5 s < p 4 s) (hw : p 16 m ≠ 0) : ic_Lnk (ic_mv1 p m s) (ic_qm q m s) := by
  obtain ⟨k1, k2, k3, k4, k5, k6, k7⟩ := h
  have h3 := k1 s hs hT
  have e4 : q 4 s = p 4 s := h3.1.2.2.2.2
  have e8 : q 8 s = p 5 s := h3.2.1.2
  have e6 : q 6 s = p 6 s := (h3.2.2.1 h1).1
  have e22 : q 22 2 = p 25 2 := k7 2 (by decide)
  have hL := j1 s hs
  unfold ic_L at hL
  have hW := k3 m hm
  have e13 : q 13 (m * 8) = p 14 (m * 8 + p 15 m) := by
    have := hW.2 0 (by omega)
    rw [Nat.add_zero, Nat.add_zero, Nat.mod_eq_of_lt (j4.1 m hm).1] at this
    exact this
  have n2 : ic_K2 (ic_mv0 p m s) (ic_qm0 q m s) := by
    refine ic_K2_bt (s := s) (x := p 14 (m * 8 + p 15 m)) k2 j1 hs (by omega) rfl rfl ?_ rfl
    show ic_u (q 11) (s * 4 + q 8 s) (q 13 (m * 8)) = _
    rw [e8, e13]
  have n3 : ic_K3 (ic_mv0 p m s) (ic_qm0 q m s) := by
    intro t ht
    have h4 := k3 t ht
    show ic_u (q 14) m (q 14 m - 1) t = ic_u (p 16) m (p 16 m - 1) t ∧ ∀ i, i < ic_u (p 16) m (p 16 m - 1) t → ic_shf (q 13) (m * 8) 7 (t * 8 + i) = p 14 (t * 8 + (ic_u (p 15) m ((p 15 m + 1) % 8) t + i) % 8)
    have h8 := (j4.1 t ht)
    by_cases e : t = m
    · subst e
      rw [ic_us, ic_us, ic_us]
      refine ⟨by rw [h4.1], fun i hi => ?_⟩
      have e1 : ic_shf (q 13) (t * 8) 7 (t * 8 + i) = q 13 (t * 8 + i + 1) := if_pos (by omega)
      rw [e1, Nat.add_assoc, h4.2 (i + 1) (by omega)]
      have e2 : ((p 15 t + 1) % 8 + i) % 8 = (p 15 t + (i + 1)) % 8 := by omega
      rw [e2]
    · rw [ic_un e, ic_un e, ic_un e]
      refine ⟨h4.1, fun i hi => ?_⟩
      have e1 : ic_shf (q 13) (m * 8) 7 (t * 8 + i) = q 13 (t * 8 + i) := if_neg (by omega)
      rw [e1]
      exact h4.2 i hi
  unfold ic_mv1 ic_qm
  by_cases n : p 5 s + 1 = p 4 s
  · rw [if_pos n, if_pos (by rw [e4, e8]; exact n)]
    refine ⟨fun t ht hT2 => ?_, n2, n3, k4, k5, k6, k7⟩
    have h6 := k1 t ht hT2
    by_cases e : t = s
    · subst e
      show ic_M (p 0 t) (p 1 t) (p 2 t) (p 3 t) (p 4 t) (ic_u (p 5) t (p 5 t + 1) t) (p 6 t) (ic_u (p 7) t (p 25 2 + p 6 t) t) (p 8 t) (p 9 t) (q 0 t) (q 1 t) (q 2 t) (q 3 t) (q 4 t) (q 5 t) (q 6 t) (ic_u (q 7) t (q 22 2 + q 6 t) t) (ic_u (q 8) t (q 8 t + 1) t) (q 9 t) (q 10 t)
      rw [ic_us, ic_us, ic_us, ic_us]
      obtain ⟨b1, b2, b3, b4⟩ := h6
      exact ⟨b1, ⟨b2.1, by rw [b2.2]⟩, fun z => ⟨(b3 z).1, fun _ => by rw [e22, e6]⟩, b4⟩
    · show ic_M (p 0 t) (p 1 t) (p 2 t) (p 3 t) (p 4 t) (ic_u (p 5) s (p 5 s + 1) t) (p 6 t) (ic_u (p 7) s (p 25 2 + p 6 s) t) (p 8 t) (p 9 t) (q 0 t) (q 1 t) (q 2 t) (q 3 t) (q 4 t) (q 5 t) (q 6 t) (ic_u (q 7) s (q 22 2 + q 6 s) t) (ic_u (q 8) s (q 8 s + 1) t) (q 9 t) (q 10 t)
      rw [ic_un e, ic_un e, ic_un e, ic_un e]
      exact h6
  · rw [if_neg n, if_neg (by rw [e4, e8]; exact n)]
    refine ⟨fun t ht hT2 => ?_, n2, n3, k4, k5, k6, k7⟩
    have h6 := k1 t ht hT2
    by_cases e : t = s
    · subst e
      show ic_M (p 0 t) (p 1 t) (p 2 t) (p 3 t) (p 4 t) (ic_u (p 5) t (p 5 t + 1) t) (p 6 t) (p 7 t) (p 8 t) (p 9 t) (q 0 t) (q 1 t) (q 2 t) (q 3 t) (q 4 t) (q 5 t) (q 6 t) (q 7 t) (ic_u (q 8) t (q 8 t + 1) t) (q 9 t) (q 10 t)
      rw [ic_us, ic_us]
      obtain ⟨b1, b2, b3, b4⟩ := h6
      refine ⟨b1, ⟨b2.1, by rw [b2.2]⟩, fun z => ⟨(b3 z).1, fun w => ?_⟩, b4⟩
      exfalso
      omega
    · show ic_M (p 0 t) (p 1 t) (p 2 t) (p 3 t) (p 4 t) (ic_u (p 5) s (p 5 s + 1) t) (p 6 t) (p 7 t) (p 8 t) (p 9 t) (q 0 t) (q 1 t) (q 2 t) (q 3 t) (q 4 t) (q 5 t) (q 6 t) (q 7 t) (ic_u (q 8) s (q 8 s + 1) t) (q 9 t) (q 10 t)
      rw [ic_un e, ic_un e]
      exact h6
/-- one that is accepted; k: 0 reads, 1 writes -/
def ic_qa0 (q : Nat → Nat → Nat) (s h l : Nat) : Nat → Nat → Nat := ic_pu (ic_pu (ic_pu q 16 s (q 16 s + 1)) 5 h 1) 6 h l
def ic_qa (q : Nat → Nat → Nat) (s k h l w : Nat) : Nat → Nat → Nat :=
  ic_pu (if k = 0 then ic_pu (ic_qa0 q s h l) 7 h (q 22 2 + l) else ic_qa0 q s h l) 19 (s * 2 + (1 - k)) (1 - w)
theorem ic_Lnk_ar {p q : Nat → Nat → Nat} {s k w : Nat} (h : ic_Lnk p q) (hI : ic_Inv p) (hs : s < 4) (hk : k < 2) (hw : w < 2) (c : ic_can p w s k = true) (hT : ic_hd p (w * 2 + k) < p 25 3) : ic_Lnk (ic_ar1 p s k w) (ic_qa q s k (ic_hd p (w * 2 + k)) (ic_lat p s) w) := by
  obtain ⟨k1, k2, k3, ⟨a1, a2, a3⟩, k5, k6, k7⟩ := h
  obtain ⟨j1, j2, j3, j4⟩ := hI
  obtain ⟨c1, c2, c3, c4, c5⟩ := ic_can_ps c
  obtain ⟨g1, g2, g3, g4⟩ := ic_hd_ps j3 (c := w * 2 + k) (by omega) c1
  have e22 : q 22 2 = p 25 2 := k7 2 (by decide)
  obtain ⟨f0, f1, f2, f3, f4, f5, f6, f7, f25, f11, f12, f13, f20, f21, f24, f19⟩ := @ic_ar1_f p s k w
  obtain ⟨f15, f16, f18, f22, f23, f8, f9, f10, f14, f17⟩ := @ic_ar1_g p s k w
  have hL := j1 _ g1
  unfold ic_L at hL
  generalize hh : ic_hd p (w * 2 + k) = b at *
  generalize hl : ic_lat p s = l at *
  have r : ic_qa q s k b l w 0 = q 0 ∧ ic_qa q s k b l w 1 = q 1 ∧ ic_qa q s k b l w 2 = q 2 ∧ ic_qa q s k b l w 3 = q 3 ∧ ic_qa q s k b l w 4 = q 4 ∧ ic_qa q s k b l w 5 = ic_u (q 5) b 1 ∧ ic_qa q s k b l w 6 = ic_u (q 6) b l ∧
      ic_qa q s k b l w 7 = (if k = 0 then ic_u (q 7) b (q 22 2 + l) else q 7) ∧ ic_qa q s k b l w 8 = q 8 ∧ ic_qa q s k b l w 9 = q 9 ∧ ic_qa q s k b l w 10 = q 10 ∧ ic_qa q s k b l w 11 = q 11 ∧ ic_qa q s k b l w 12 = q 12 ∧ ic_qa q s k b l w 13 = q 13 ∧ ic_qa q s k b l w 14 = q 14 ∧ ic_qa q s k b l w 15 = q 15 ∧
      ic_qa q s k b l w 16 = ic_u (q 16) s (q 16 s + 1) ∧ ic_qa q s k b l w 17 = q 17 ∧ ic_qa q s k b l w 18 = q 18 ∧ ic_qa q s k b l w 19 = ic_u (q 19) (s * 2 + (1 - k)) (1 - w) ∧ ic_qa q s k b l w 20 = q 20 ∧ ic_qa q s k b l w 21 = q 21 ∧ ic_qa q s k b l w 22 = q 22 := by
    unfold ic_qa
    by_cases e : k = 0
    · rw [if_pos e, if_pos e]
      exact ⟨rfl, rfl, rfl, rfl, rfl, rfl, rfl, rfl, rfl, rfl, rfl, rfl, rfl, rfl, rfl, rfl, rfl, rfl, rfl, rfl, rfl, rfl, rfl⟩
    · rw [if_neg e, if_neg e]
      exact ⟨rfl, rfl, rfl, rfl, rfl, rfl, rfl, rfl, rfl, rfl, rfl, rfl, rfl, rfl, rfl, rfl, rfl, rfl, rfl, rfl, rfl, rfl, rfl⟩
  obtain ⟨r0, r1, r2, r3, r4, r5, r6, r7, r8, r9, r10, r11, r12, r13, r14, r15, r16, r17, r18, r19, r20, r21, r22⟩ := r
  refine ⟨fun t ht hT2 => ?_, fun t ht hT2 => ?_, fun t ht => ?_, ⟨?_, ?_, fun t ht => ?_⟩, fun t ht => ?_, fun t ht => ?_, fun t ht => ?_⟩
  · rw [f25] at hT2
    have h6 := k1 t ht hT2
    rw [f0, f1, f2, f3, f4, f5, f6, f7, f8, f9, r0, r1, r2, r3, r4, r5, r6, r7, r8, r9, r10]
    by_cases e : t = b
    · subst e
      rw [ic_us, ic_us, ic_us, ic_us, ic_us]
      obtain ⟨b1, b2, b3, b4⟩ := h6
      refine ⟨b1, ⟨rfl, b2.2⟩, fun z => ⟨rfl, fun w => ?_⟩, fun z => by omega⟩
      have k0 : k = 0 := by omega
      rw [if_pos k0, ic_us, e22]
    · rw [ic_un e, ic_un e, ic_un e, ic_un e, ic_un e]
      have e7 : (if k = 0 then ic_u (q 7) b (q 22 2 + l) else q 7) t = q 7 t := by
        split
        · exact ic_un e
        · rfl
      rw [e7]
      exact h6
  · rw [f25] at hT2
    rw [f5, f10, r11]
    exact k2 t ht hT2
  · rw [f14, f15, f16, r13, r14]
    exact k3 t ht
  · rw [f17, r12]; exact a1
  · rw [f18, r15]; exact a2
  · rw [f19, r16]
    have h3 := a3 t ht
    by_cases e : s = 3
    · rw [if_pos e, ic_un (by omega)]; exact h3
    · rw [if_neg e]
      by_cases e2 : t = s
      · subst e2; rw [ic_us, ic_us]; omega
      · rw [ic_un e2, ic_un e2]; exact h3
  · rw [f22, f23, r17, r18, r20, r21]
    exact k5 t ht
  · rw [f24, r19]
    have h6 := k6 t ht
    by_cases e : t = s
    · subst e
      by_cases k0 : k = 0
      · subst k0
        rw [show t * 2 + (1 - 0) = t * 2 + 1 from rfl, show t * 2 + 0 = t * 2 from rfl, ic_un (by omega), ic_un (by omega), ic_us, ic_us]
        exact ⟨h6.1, rfl⟩
      · have k1 : k = 1 := by omega
        subst k1
        rw [show t * 2 + (1 - 1) = t * 2 from rfl, ic_us, ic_us, ic_un (by omega), ic_un (by omega)]
        exact ⟨rfl, h6.2⟩
    · rw [ic_un (by omega), ic_un (by omega), ic_un (by omega), ic_un (by omega)]
      exact h6
  · rw [f25, r22]
    exact k7 t ht
/-- a request that is taken; k: the reference's kind -/
def ic_z4 (f : Nat → Nat) (s : Nat) : Nat → Nat := ic_u (ic_u (ic_u (ic_u f (s * 4) 0) (s * 4 + 1) 0) (s * 4 + 2) 0) (s * 4 + 3) 0
theorem ic_z4_n {f : Nat → Nat} {s j : Nat} (h : j < s * 4 ∨ s * 4 + 3 < j) : ic_z4 f s j = f j := by
  unfold ic_z4
  rw [ic_un (by omega), ic_un (by omega), ic_un (by omega), ic_un (by omega)]
def ic_qi0 (q : Nat → Nat → Nat) (k m i a l : Nat) : Nat → Nat → Nat :=
  ic_pu (ic_pu (ic_pu (ic_pu (ic_pu q 0 (q 22 3 % 32) k) 1 (q 22 3 % 32) m) 2 (q 22 3 % 32) i) 3 (q 22 3 % 32) a) 4 (q 22 3 % 32) l
def ic_qi1 (q : Nat → Nat → Nat) (k m i a l : Nat) : Nat → Nat → Nat :=
  ic_pu (ic_pu (ic_pu (ic_pu (ic_pu (ic_pu (ic_qi0 q k m i a l) 5 (q 22 3 % 32) 0) 6 (q 22 3 % 32) 0) 7 (q 22 3 % 32) 0) 8 (q 22 3 % 32) 0) 9 (q 22 3 % 32) 4294967295) 10 (q 22 3 % 32) 4294967295
def ic_qi (q : Nat → Nat → Nat) (k m i a l : Nat) : Nat → Nat → Nat :=
  ic_pu (ic_pf (ic_qi1 q k m i a l) 11 (ic_z4 (q 11) (q 22 3 % 32))) 22 3 (q 22 3 + 1)
theorem ic_Lnk_is {p q : Nat → Nat → Nat} {k m i a l : Nat} (h : ic_Lnk p q) (j1 : ic_J1 p) (hk : k < 2) : ic_Lnk (ic_iss p (m * 2 + k) i a l) (ic_qi q (1 - k) m i a l) := by
  obtain ⟨k1, k2, k3, k4, k5, k6, k7⟩ := h
  have e3 : q 22 3 = p 25 3 := k7 3 (by decide)
  refine ⟨fun t ht hT => ?_, fun t ht hT j hj => ?_, k3, k4, k5, k6, fun j hj => ?_⟩
  · have hT2 : t < p 25 3 + 1 := hT
    show ic_M (ic_u (p 0) (p 25 3 % 32) 0 t) (ic_u (p 1) (p 25 3 % 32) (m * 2 + k) t) (ic_u (p 2) (p 25 3 % 32) i t) (ic_u (p 3) (p 25 3 % 32) a t) (ic_u (p 4) (p 25 3 % 32) l t) (ic_u (p 5) (p 25 3 % 32) 0 t) (p 6 t) (p 7 t) (p 8 t) (p 9 t)
      (ic_u (q 0) (q 22 3 % 32) (1 - k) t) (ic_u (q 1) (q 22 3 % 32) m t) (ic_u (q 2) (q 22 3 % 32) i t) (ic_u (q 3) (q 22 3 % 32) a t) (ic_u (q 4) (q 22 3 % 32) l t) (ic_u (q 5) (q 22 3 % 32) 0 t) (ic_u (q 6) (q 22 3 % 32) 0 t) (ic_u (q 7) (q 22 3 % 32) 0 t) (ic_u (q 8) (q 22 3 % 32) 0 t) (ic_u (q 9) (q 22 3 % 32) 4294967295 t) (ic_u (q 10) (q 22 3 % 32) 4294967295 t)
    rw [e3]
    by_cases e : t = p 25 3 % 32
    · subst e
      rw [ic_us, ic_us, ic_us, ic_us, ic_us, ic_us, ic_us, ic_us, ic_us, ic_us, ic_us, ic_us, ic_us, ic_us, ic_us, ic_us, ic_us]
      exact ⟨⟨by omega, by omega, rfl, rfl, rfl⟩, ⟨rfl, rfl⟩, fun z => by omega, fun z => by omega⟩
    · rw [ic_un e, ic_un e, ic_un e, ic_un e, ic_un e, ic_un e, ic_un e, ic_un e, ic_un e, ic_un e, ic_un e, ic_un e, ic_un e, ic_un e, ic_un e, ic_un e, ic_un e]
      exact k1 t ht (by omega)
  · have hT2 : t < p 25 3 + 1 := hT
    have hj2 : j < ic_u (p 5) (p 25 3 % 32) 0 t := hj
    show ic_z4 (q 11) (q 22 3 % 32) (t * 4 + j) = p 10 (t * 4 + j)
    rw [e3]
    by_cases e : t = p 25 3 % 32
    · rw [← e, ic_us] at hj2
      omega
    · rw [ic_un e] at hj2
      have h1 := j1 t ht
      unfold ic_L at h1
      rw [ic_z4_n (by omega)]
      exact k2 t ht (by omega) j hj2
  · show ic_u (q 22) 3 (q 22 3 + 1) j = ic_u (p 25) 3 (p 25 3 + 1) j
    by_cases e : j = 3
    · subst e; rw [ic_us, ic_us, e3]
    · rw [ic_un e, ic_un e]; exact k7 j hj
/-- the rest -/
theorem ic_Lnk_wd {p q : Nat → Nat → Nat} {m x : Nat} (h : ic_Lnk p q) (j4 : ic_J4 p) (hm : m < 2) (h8 : p 16 m < 8) : ic_Lnk (ic_wd p m x) (ic_pu (ic_pu q 13 (m * 8 + q 14 m) x) 14 m (q 14 m + 1)) := by
  obtain ⟨k1, k2, k3, k4⟩ := h
  refine ⟨k1, k2, fun t ht => ?_, k4⟩
  have h3 := k3 t ht
  have hm3 := (k3 m hm).1
  show ic_u (q 14) m (q 14 m + 1) t = ic_u (p 16) m (p 16 m + 1) t ∧ ∀ i, i < ic_u (p 16) m (p 16 m + 1) t → ic_u (q 13) (m * 8 + q 14 m) x (t * 8 + i) = ic_u (p 14) (m * 8 + (p 15 m + p 16 m) % 8) x (t * 8 + (p 15 t + i) % 8)
  rw [hm3]
  by_cases e : t = m
  · subst e
    rw [ic_us, ic_us]
    refine ⟨rfl, fun i hi => ?_⟩
    by_cases ei : i = p 16 t
    · subst ei; rw [ic_us, ic_us]
    · rw [ic_un (by omega), ic_un (by omega)]
      exact h3.2 i (by omega)
  · rw [ic_un e, ic_un e]
    refine ⟨h3.1, fun i hi => ?_⟩
    have h9 := (j4.1 t ht).2
    rw [ic_un (by omega), ic_un (by omega)]
    exact h3.2 i hi
theorem ic_Lnk_sl {p q : Nat → Nat → Nat} {j x : Nat} (h : ic_Lnk p q) : ic_Lnk (ic_pu p 18 j x) (ic_pu q 15 j x) := by
  obtain ⟨k1, k2, k3, ⟨a1, a2, a3⟩, k5⟩ := h
  refine ⟨k1, k2, k3, ⟨a1, ?_, a3⟩, k5⟩
  show ic_u (q 15) j x = ic_u (p 18) j x
  rw [a2]
theorem ic_Lnk_sr {p q : Nat → Nat → Nat} {m x y : Nat} (h : ic_Lnk p q) : ic_Lnk (ic_pu (ic_pu p 23 (m * 2 + 1) x) 23 (m * 2) y) (ic_pu (ic_pu q 20 m x) 21 m y) := by
  obtain ⟨k1, k2, k3, k4, k5, k6⟩ := h
  refine ⟨k1, k2, k3, k4, fun t ht => ?_, k6⟩
  have h5 := k5 t ht
  show q 17 t = p 22 (t * 2 + 1) ∧ q 18 t = p 22 (t * 2) ∧ ic_u (q 20) m x t = ic_u (ic_u (p 23) (m * 2 + 1) x) (m * 2) y (t * 2 + 1) ∧ ic_u (q 21) m y t = ic_u (ic_u (p 23) (m * 2 + 1) x) (m * 2) y (t * 2)
  rw [ic_un (j := t * 2 + 1) (by omega)]
  by_cases e : t = m
  · subst e; rw [ic_us, ic_us, ic_us, ic_us]; exact ⟨h5.1, h5.2.1, rfl, rfl⟩
  · rw [ic_un e, ic_un (by omega), ic_un e, ic_un (by omega), ic_un (by omega)]; exact h5
theorem ic_Lnk_c1 {p q : Nat → Nat → Nat} (h : ic_Lnk p q) : ic_Lnk (ic_pu p 25 2 (p 25 2 + 1)) (ic_pu q 22 2 (q 22 2 + 1)) := by
  obtain ⟨k1, k2, k3, k4, k5, k6, k7⟩ := h
  refine ⟨k1, k2, k3, k4, k5, k6, fun j hj => ?_⟩
  show ic_u (q 22) 2 (q 22 2 + 1) j = ic_u (p 25) 2 (p 25 2 + 1) j
  by_cases e : j = 2
  · subst e; rw [ic_us, ic_us, k7 2 hj]
  · rw [ic_un e, ic_un e]; exact k7 j hj
def ic_q0 (l c : Nat) : Nat → Nat → Nat := fun f j =>
  if f = 15 then (if j < 12 then 1 else 0) else if f = 20 then (if j < 2 then 1 else 0) else if f = 21 then (if j < 2 then 1 else 0) else if f = 22 then (if j = 0 then l else if j = 1 then c else 0) else 0
theorem ic_Lnk_0 (l c : Nat) : ic_Lnk (ic_p0 l c) (ic_q0 l c) := by
  refine ⟨fun s _ h => ?_, fun s _ h => ?_, fun m _ => ⟨rfl, fun i hi => ?_⟩, ⟨rfl, rfl, fun s _ => rfl⟩, fun m hm => ⟨rfl, rfl, ?_, ?_⟩, fun s _ => ⟨rfl, rfl⟩, fun j _ => rfl⟩
  · have : s < 0 := h
    omega
  · have : s < 0 := h
    omega
  · have : i < 0 := hi
    omega
  · show (if m < 2 then 1 else 0) = (if m * 2 + 1 < 4 then 1 else 0)
    rw [if_pos hm, if_pos (by omega)]
  · show (if m < 2 then 1 else 0) = (if m * 2 < 4 then 1 else 0)
    rw [if_pos hm, if_pos (by omega)]
