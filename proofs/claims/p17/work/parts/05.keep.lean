/-! every step keeps it -/
theorem ic_chl_ps {p : Nat → Nat → Nat} {c : Nat} : ∀ d j s : Nat, ic_chl p c d j = some s → s < 32 ∧ p 1 s = c ∧ p 0 s = 1 ∧ (p 1 s % 2 = 0 ∨ p 5 s = p 4 s) ∧ p 7 s ≤ p 25 2 := by
  intro d
  induction d with
  | zero => intro j s h; cases h
  | succ d ih =>
    intro j s h
    unfold ic_chl at h
    cases ho : ic_old p c ((p 22 c + j) % 4) with
    | none => rw [ho] at h; exact ih (j + 1) s h
    | some t =>
      rw [ho] at h
      dsimp only at h
      by_cases he : ic_eli p t = true
      · rw [if_pos he] at h
        cases h
        have h1 := ic_ff_ps ho
        have h2 := of_decide_eq_true h1.2
        have h3 := of_decide_eq_true he
        exact ⟨h1.1, h2.1, h3.1, h3.2.1, h3.2.2⟩
      · rw [if_neg he] at h
        exact ih (j + 1) s h
theorem ic_cho_ps {p : Nat → Nat → Nat} {c s : Nat} (h : ic_cho p c = some s) : s < 32 ∧ p 1 s = c ∧ p 0 s = 1 ∧ (p 1 s % 2 = 0 ∨ p 5 s = p 4 s) ∧ p 7 s ≤ p 25 2 := by
  unfold ic_cho at h
  by_cases hz : p 23 c = 0
  · rw [if_pos hz] at h; cases h
  · rw [if_neg hz] at h; exact ic_chl_ps 4 0 s h
theorem ic_cho_rdy {p : Nat → Nat → Nat} {c s : Nat} (h : ic_cho p c = some s) : p 23 c ≠ 0 := by
  unfold ic_cho at h
  intro hz
  rw [if_pos hz] at h; cases h
theorem ic_unf_ps {p : Nat → Nat → Nat} {m s : Nat} (h : ic_unf p m = some s) : s < 32 ∧ p 1 s = m * 2 + 1 ∧ p 5 s < p 4 s := by
  have h1 := ic_ff_ps h
  have h2 := of_decide_eq_true h1.2
  exact ⟨h1.1, h2.1, h2.2⟩
theorem ic_fin_J1 {p : Nat → Nat → Nat} {s : Nat} (h : ic_J1 p) (h0 : p 0 s = 1) : ic_J1 (ic_fin p s) := by
  intro t ht
  have h1 := h t ht
  by_cases e : t = s
  · subst e
    show ic_L (p 25 3) (p 25 2) t (ic_u (p 0) t (if p 3 t / 8 = 3 then 3 else 2) t) (p 1 t) (p 2 t) (p 3 t) (p 4 t) (p 5 t) (p 6 t) (p 7 t)
    rw [ic_us]
    unfold ic_L at h1 ⊢
    split <;> omega
  · show ic_L (p 25 3) (p 25 2) t (ic_u (p 0) s (if p 3 s / 8 = 3 then 3 else 2) t) (p 1 t) (p 2 t) (p 3 t) (p 4 t) (p 5 t) (p 6 t) (p 7 t)
    rw [ic_un e]
    exact h1
theorem ic_fin_J2 {p : Nat → Nat → Nat} {s : Nat} (h : ic_J2 p) (hs : s < 32) (h1 : p 0 s = 1) : ic_J2 (ic_fin p s) := by
  have hx : (if p 3 s / 8 = 3 then 3 else 2) ≠ 1 := by split <;> omega
  refine ⟨fun m hm => ?_, fun q hq => ?_⟩
  · show ic_u (p 20) (p 1 s / 2) (p 20 (p 1 s / 2) - 1) m = ic_am (ic_u (p 0) s (if p 3 s / 8 = 3 then 3 else 2)) (p 1) m
    have a := ic_am_dn (H := p 1) hs h1 hx m
    have b := h.1 m hm
    by_cases e : m = p 1 s / 2
    · rw [if_pos e] at a
      subst e
      rw [ic_us]
      omega
    · rw [if_neg e] at a
      rw [ic_un e]
      omega
  · show ic_u (p 21) (p 3 s / 8) (p 21 (p 3 s / 8) - 1) q = ic_as (ic_u (p 0) s (if p 3 s / 8 = 3 then 3 else 2)) (p 3) q
    have a := ic_as_dn (A := p 3) hs h1 hx q
    have b := h.2 q hq
    by_cases e : q = p 3 s / 8
    · rw [if_pos e] at a
      subst e
      rw [ic_us]
      omega
    · rw [if_neg e] at a
      rw [ic_un e]
      omega
theorem ic_fin_J3 {p : Nat → Nat → Nat} {s : Nat} (h : ic_J3 p) (h1 : p 0 s = 1) : ic_J3 (ic_fin p s) := by
  intro c hc
  obtain ⟨K, hK⟩ := h c hc
  refine ⟨K, ?_⟩
  show ic_Q1 (p 25 3) (ic_u (p 0) s (if p 3 s / 8 = 3 then 3 else 2)) (p 1) (p 11) c (p 12 c) (p 13 c) K
  exact ic_Q1_S hK (by omega) (by split <;> omega)
theorem ic_22_J4 {p : Nat → Nat → Nat} {c x : Nat} (h : ic_J4 p) (hx : x < 4) : ic_J4 (ic_pu p 22 c x) := by
  obtain ⟨a1, a2, a3, a4, a5⟩ := h
  refine ⟨a1, a2, a3, fun d hd => ?_, a5⟩
  show ic_u (p 22) c x d < 4 ∧ p 23 d ≤ 1
  by_cases e : d = c
  · subst e; rw [ic_us]; exact ⟨hx, (a4 d hd).2⟩
  · rw [ic_un e]; exact a4 d hd
theorem ic_wr_Inv {p : Nat → Nat → Nat} {c : Nat} (h : ic_Inv p) : ic_Inv (ic_wr p c) := by
  unfold ic_wr
  cases hc : ic_cho p c with
  | none => exact h
  | some s =>
    obtain ⟨hs, _, h1, _, _⟩ := ic_cho_ps hc
    obtain ⟨j1, j2, j3, j4⟩ := h
    dsimp only
    unfold ic_wr1
    by_cases e : p 3 s / 8 = 3
    · rw [if_pos e]
      exact ⟨ic_fin_J1 (p := p) (s := s) j1 h1, ic_fin_J2 j2 hs h1, ic_fin_J3 (p := p) (s := s) j3 h1, ic_22_J4 (p := ic_fin p s) j4 (by omega)⟩
    · rw [if_neg e]
      exact ⟨ic_fin_J1 (p := ic_sto p s) (s := s) j1 h1, ic_fin_J2 (p := ic_sto p s) j2 hs h1, ic_fin_J3 (p := ic_sto p s) (s := s) j3 h1, ic_22_J4 (p := ic_fin (ic_sto p s) s) j4 (by omega)⟩
theorem ic_rd_J1 {p : Nat → Nat → Nat} {c s : Nat} (h : ic_J1 p) (h1 : p 0 s = 1) (h2 : p 1 s % 2 = 0) : ic_J1 (ic_rd1 p c s) := by
  intro t ht
  have h3 := h t ht
  unfold ic_rd1
  by_cases n : p 5 s + 1 = p 4 s
  · rw [if_pos n]
    by_cases e : t = s
    · subst e
      show ic_L (p 25 3) (p 25 2) t (ic_u (p 0) t (if p 3 t / 8 = 3 then 3 else 2) t) (p 1 t) (p 2 t) (p 3 t) (p 4 t) (ic_u (p 5) t (p 5 t + 1) t) (p 6 t) (p 7 t)
      rw [ic_us, ic_us]
      unfold ic_L at h3 ⊢
      split <;> omega
    · show ic_L (p 25 3) (p 25 2) t (ic_u (p 0) s (if p 3 s / 8 = 3 then 3 else 2) t) (p 1 t) (p 2 t) (p 3 t) (p 4 t) (ic_u (p 5) s (p 5 s + 1) t) (p 6 t) (p 7 t)
      rw [ic_un e, ic_un e]
      exact h3
  · rw [if_neg n]
    by_cases e : t = s
    · subst e
      show ic_L (p 25 3) (p 25 2) t (p 0 t) (p 1 t) (p 2 t) (p 3 t) (p 4 t) (ic_u (p 5) t (p 5 t + 1) t) (p 6 t) (p 7 t)
      rw [ic_us]
      unfold ic_L at h3 ⊢
      omega
    · show ic_L (p 25 3) (p 25 2) t (p 0 t) (p 1 t) (p 2 t) (p 3 t) (p 4 t) (ic_u (p 5) s (p 5 s + 1) t) (p 6 t) (p 7 t)
      rw [ic_un e]
      exact h3
theorem ic_rd_Inv {p : Nat → Nat → Nat} {c : Nat} (h : ic_Inv p) (h0 : c % 2 = 0) : ic_Inv (ic_rd p c) := by
  unfold ic_rd
  cases hc : ic_cho p c with
  | none => exact h
  | some s =>
    obtain ⟨hs, he, h1, _, _⟩ := ic_cho_ps hc
    obtain ⟨j1, j2, j3, j4⟩ := h
    refine ⟨ic_rd_J1 j1 h1 (by omega), ?_⟩
    dsimp only
    unfold ic_rd1
    by_cases n : p 5 s + 1 = p 4 s
    · rw [if_pos n]
      exact ⟨ic_fin_J2 (p := ic_bt p s) j2 hs h1, ic_fin_J3 (p := ic_bt p s) (s := s) j3 h1, ic_22_J4 (p := ic_fin (ic_bt p s) s) j4 (by omega)⟩
    · rw [if_neg n]
      exact ⟨j2, j3, ic_22_J4 (p := ic_bt p s) j4 (by omega)⟩
theorem ic_mv_J1 {p : Nat → Nat → Nat} {m s : Nat} (h : ic_J1 p) (h1 : p 0 s = 1) (h2 : p 1 s % 2 = 1) (h5 : p 5 s < p 4 s) : ic_J1 (ic_mv1 p m s) := by
  intro t ht
  have h3 := h t ht
  unfold ic_mv1
  by_cases n : p 5 s + 1 = p 4 s
  · rw [if_pos n]
    by_cases e : t = s
    · subst e
      show ic_L (p 25 3) (p 25 2) t (p 0 t) (p 1 t) (p 2 t) (p 3 t) (p 4 t) (ic_u (p 5) t (p 5 t + 1) t) (p 6 t) (ic_u (p 7) t (p 25 2 + p 6 t) t)
      rw [ic_us, ic_us]
      unfold ic_L at h3 ⊢
      omega
    · show ic_L (p 25 3) (p 25 2) t (p 0 t) (p 1 t) (p 2 t) (p 3 t) (p 4 t) (ic_u (p 5) s (p 5 s + 1) t) (p 6 t) (ic_u (p 7) s (p 25 2 + p 6 s) t)
      rw [ic_un e, ic_un e]
      exact h3
  · rw [if_neg n]
    by_cases e : t = s
    · subst e
      show ic_L (p 25 3) (p 25 2) t (p 0 t) (p 1 t) (p 2 t) (p 3 t) (p 4 t) (ic_u (p 5) t (p 5 t + 1) t) (p 6 t) (p 7 t)
      rw [ic_us]
      unfold ic_L at h3 ⊢
      omega
    · show ic_L (p 25 3) (p 25 2) t (p 0 t) (p 1 t) (p 2 t) (p 3 t) (p 4 t) (ic_u (p 5) s (p 5 s + 1) t) (p 6 t) (p 7 t)
      rw [ic_un e]
      exact h3
theorem ic_mv0_J4 {p : Nat → Nat → Nat} {m s : Nat} (h : ic_J4 p) : ic_J4 (ic_mv0 p m s) := by
  obtain ⟨a1, a2⟩ := h
  refine ⟨fun d hd => ?_, a2⟩
  show ic_u (p 15) m ((p 15 m + 1) % 8) d < 8 ∧ ic_u (p 16) m (p 16 m - 1) d ≤ 8
  have h := a1 d hd
  by_cases e : d = m
  · subst e; rw [ic_us, ic_us]; omega
  · rw [ic_un e, ic_un e]; exact h
theorem ic_mv_Inv {p : Nat → Nat → Nat} {m : Nat} (h : ic_Inv p) : ic_Inv (ic_mv p m) := by
  unfold ic_mv
  cases hc : ic_unf p m with
  | none => exact h
  | some s =>
    obtain ⟨hs, he, h5⟩ := ic_unf_ps hc
    dsimp only
    by_cases g : p 0 s = 1 ∧ p 16 m ≠ 0
    · rw [if_pos g]
      obtain ⟨j1, j2, j3, j4⟩ := h
      refine ⟨ic_mv_J1 j1 g.1 (by omega) h5, ?_⟩
      unfold ic_mv1
      by_cases n : p 5 s + 1 = p 4 s
      · rw [if_pos n]
        exact ⟨j2, j3, ic_mv0_J4 (p := p) (m := m) (s := s) j4⟩
      · rw [if_neg n]
        exact ⟨j2, j3, ic_mv0_J4 (p := p) (m := m) (s := s) j4⟩
    · rw [if_neg g]
      exact h
/-- the head of a ring that isn't empty -/
theorem ic_hd_ps {p : Nat → Nat → Nat} {c : Nat} (h : ic_J3 p) (hc : c < 4) (hn : p 13 c ≠ 0) : ic_hd p c < 32 ∧ p 0 (ic_hd p c) = 0 ∧ p 1 (ic_hd p c) = c ∧ p 12 c < 4 := by
  obtain ⟨K, h4, _, _, he, _, _⟩ := h c hc
  obtain ⟨h0, _, _, h3, h5⟩ := he 0 (by omega)
  rw [Nat.add_zero, Nat.mod_eq_of_lt h4] at h0
  unfold ic_hd
  rw [h0]
  exact ⟨by omega, h3, h5, h4⟩
theorem ic_can_ps {p : Nat → Nat → Nat} {m s k : Nat} (h : ic_can p m s k = true) : p 13 (m * 2 + k) ≠ 0 ∧ p 3 (ic_hd p (m * 2 + k)) / 8 = s ∧ p 20 m < p 25 0 ∧ p 21 s < p 25 1 ∧ ic_els p (ic_hd p (m * 2 + k)) = none := of_decide_eq_true h
theorem ic_win_le {p : Nat → Nat → Nat} {s k : Nat} (h : ic_J4 p) (hs : s < 4) (hk : k < 2) : ic_win p s k < 2 := by
  have := h.2.2.2.2.1 (s * 2 + k) (by omega)
  unfold ic_win
  split <;> omega
theorem ic_lat_le {p : Nat → Nat → Nat} {s : Nat} (h : ic_J4 p) (hs : s < 4) : ic_lat p s ≤ 15 := by
  have h1 := h.2.2.1 s hs
  unfold ic_lat
  split
  · omega
  · exact h.2.1 _ (by omega)
theorem ic_tl_o {p : Nat → Nat → Nat} {s f : Nat} (hf : f ≠ 19) : ic_tl p s f = p f := by
  unfold ic_tl
  split
  · rfl
  · exact if_neg hf
theorem ic_ar1_f {p : Nat → Nat → Nat} {s k w : Nat} :
    ic_ar1 p s k w 0 = ic_u (p 0) (ic_hd p (w * 2 + k)) 1 ∧ ic_ar1 p s k w 1 = p 1 ∧ ic_ar1 p s k w 2 = p 2 ∧ ic_ar1 p s k w 3 = p 3 ∧ ic_ar1 p s k w 4 = p 4 ∧ ic_ar1 p s k w 5 = p 5 ∧
    ic_ar1 p s k w 6 = ic_u (p 6) (ic_hd p (w * 2 + k)) (ic_lat p s) ∧ ic_ar1 p s k w 7 = ic_u (p 7) (ic_hd p (w * 2 + k)) (p 25 2 + ic_lat p s) ∧ ic_ar1 p s k w 25 = p 25 ∧
    ic_ar1 p s k w 11 = p 11 ∧ ic_ar1 p s k w 12 = ic_u (p 12) (w * 2 + k) ((p 12 (w * 2 + k) + 1) % 4) ∧ ic_ar1 p s k w 13 = ic_u (p 13) (w * 2 + k) (p 13 (w * 2 + k) - 1) ∧
    ic_ar1 p s k w 20 = ic_u (p 20) (p 1 (ic_hd p (w * 2 + k)) / 2) (p 20 (p 1 (ic_hd p (w * 2 + k)) / 2) + 1) ∧ ic_ar1 p s k w 21 = ic_u (p 21) s (p 21 s + 1) ∧
    ic_ar1 p s k w 24 = ic_u (p 24) (s * 2 + k) (1 - w) ∧ ic_ar1 p s k w 19 = (if s = 3 then p 19 else ic_u (p 19) s ((p 19 s + 1) % 4)) := by
  unfold ic_ar1 ic_acc ic_tl
  by_cases e : s = 3
  · rw [if_pos e, if_pos e]; exact ⟨rfl, rfl, rfl, rfl, rfl, rfl, rfl, rfl, rfl, rfl, rfl, rfl, rfl, rfl, rfl, rfl⟩
  · rw [if_neg e, if_neg e]; exact ⟨rfl, rfl, rfl, rfl, rfl, rfl, rfl, rfl, rfl, rfl, rfl, rfl, rfl, rfl, rfl, rfl⟩
theorem ic_ar1_g {p : Nat → Nat → Nat} {s k w : Nat} :
    ic_ar1 p s k w 15 = p 15 ∧ ic_ar1 p s k w 16 = p 16 ∧ ic_ar1 p s k w 18 = p 18 ∧ ic_ar1 p s k w 22 = p 22 ∧ ic_ar1 p s k w 23 = p 23 ∧
    ic_ar1 p s k w 8 = p 8 ∧ ic_ar1 p s k w 9 = p 9 ∧ ic_ar1 p s k w 10 = p 10 ∧ ic_ar1 p s k w 14 = p 14 ∧ ic_ar1 p s k w 17 = p 17 := by
  unfold ic_ar1 ic_acc ic_tl
  by_cases e : s = 3
  · rw [if_pos e]; exact ⟨rfl, rfl, rfl, rfl, rfl, rfl, rfl, rfl, rfl, rfl⟩
  · rw [if_neg e]; exact ⟨rfl, rfl, rfl, rfl, rfl, rfl, rfl, rfl, rfl, rfl⟩
theorem ic_ar1_Inv {p : Nat → Nat → Nat} {s k w : Nat} (h : ic_Inv p) (hs : s < 4) (hk : k < 2) (hw : w < 2) (c : ic_can p w s k = true) : ic_Inv (ic_ar1 p s k w) := by
  obtain ⟨j1, j2, j3, j4⟩ := h
  obtain ⟨c1, c2, c3, c4, c5⟩ := ic_can_ps c
  obtain ⟨g1, g2, g3, g4⟩ := ic_hd_ps j3 (c := w * 2 + k) (by omega) c1
  have hl := ic_lat_le j4 hs
  obtain ⟨f0, f1, f2, f3, f4, f5, f6, f7, f25, f11, f12, f13, f20, f21, f24, f19⟩ := @ic_ar1_f p s k w
  obtain ⟨f15, f16, f18, f22, f23, _⟩ := @ic_ar1_g p s k w
  refine ⟨fun t ht => ?_, ⟨fun m hm => ?_, fun q hq => ?_⟩, fun d hd => ?_, ?_⟩
  · have h3 := j1 t ht
    rw [f0, f1, f2, f3, f4, f5, f6, f7, f25]
    by_cases e : t = ic_hd p (w * 2 + k)
    · rw [← e] at g2 ⊢
      rw [ic_us, ic_us, ic_us]
      unfold ic_L at h3 ⊢
      omega
    · rw [ic_un e, ic_un e, ic_un e]
      exact h3
  · rw [f20, f0, f1, ic_am_up g1 (by omega) m]
    by_cases e : m = p 1 (ic_hd p (w * 2 + k)) / 2
    · rw [if_pos e, e, ic_us, ← e, j2.1 m hm]
    · rw [if_neg e, ic_un e, j2.1 m hm]
  · rw [f21, f0, f3, ic_as_up g1 (by omega) q, c2]
    by_cases e : q = s
    · rw [if_pos e, e, ic_us, ← e, j2.2 q hq]
    · rw [if_neg e, ic_un e, j2.2 q hq]
  · obtain ⟨K, hK⟩ := j3 d hd
    rw [f25, f0, f1, f11, f12, f13]
    by_cases e : d = w * 2 + k
    · subst e
      rw [ic_us, ic_us]
      exact ⟨_, ic_Q1_dq hK (by omega)⟩
    · rw [ic_un e, ic_un e]
      exact ⟨K, ic_Q1_dq' hK (by rw [g3]; exact fun z => e z.symm)⟩
  · obtain ⟨a1, a2, a3, a4, a5, a6⟩ := j4
    unfold ic_J4
    rw [f15, f16, f18, f19, f22, f23, f24, f25]
    refine ⟨a1, a2, fun t ht => ?_, a4, fun j hj => ?_, a6⟩
    · by_cases e : s = 3
      · rw [if_pos e]; exact a3 t ht
      · rw [if_neg e]
        by_cases e2 : t = s
        · subst e2; rw [ic_us]; omega
        · rw [ic_un e2]; exact a3 t ht
    · by_cases e : j = s * 2 + k
      · subst e; rw [ic_us]; omega
      · rw [ic_un e]; exact a5 j hj
theorem ic_ar_Inv {p : Nat → Nat → Nat} {s k : Nat} (h : ic_Inv p) (hs : s < 4) (hk : k < 2) : ic_Inv (ic_ar p s k) := by
  unfold ic_ar
  by_cases c : ic_can p (ic_win p s k) s k = true
  · rw [if_pos c]; exact ic_ar1_Inv h hs hk (ic_win_le h.2.2.2 hs hk) c
  · rw [if_neg c]; exact h
theorem ic_c1_Inv {p : Nat → Nat → Nat} (h : ic_Inv p) : ic_Inv (ic_pu p 25 2 (p 25 2 + 1)) := by
  obtain ⟨j1, j2, j3, j4⟩ := h
  refine ⟨fun t ht => ?_, j2, j3, j4⟩
  have h1 := j1 t ht
  show ic_L (p 25 3) (p 25 2 + 1) t (p 0 t) (p 1 t) (p 2 t) (p 3 t) (p 4 t) (p 5 t) (p 6 t) (p 7 t)
  unfold ic_L at h1 ⊢
  omega
theorem ic_cyc_Inv {p : Nat → Nat → Nat} (h : ic_Inv p) : ic_Inv (ic_cyc p) := by
  have h0 := ic_c1_Inv h
  have h1 := ic_wr_Inv (c := 3) (ic_wr_Inv (c := 1) h0)
  have h2 := ic_rd_Inv (c := 2) (ic_rd_Inv (c := 0) h1 (by decide)) (by decide)
  have h3 := ic_mv_Inv (m := 1) (ic_mv_Inv (m := 0) h2)
  have h4 := ic_ar_Inv (s := 0) (k := 0) (ic_ar_Inv (s := 0) (k := 1) h3 (by decide) (by decide)) (by decide) (by decide)
  have h5 := ic_ar_Inv (s := 1) (k := 0) (ic_ar_Inv (s := 1) (k := 1) h4 (by decide) (by decide)) (by decide) (by decide)
  have h6 := ic_ar_Inv (s := 2) (k := 0) (ic_ar_Inv (s := 2) (k := 1) h5 (by decide) (by decide)) (by decide) (by decide)
  exact ic_ar_Inv (s := 3) (k := 0) (ic_ar_Inv (s := 3) (k := 1) h6 (by decide) (by decide)) (by decide) (by decide)
theorem ic_iss_Inv {p : Nat → Nat → Nat} {c i a l : Nat} (h : ic_Inv p) (hc : c < 4) (hi : i < 4) (ha : a < 32) (hl : 1 ≤ l) (hl4 : l ≤ 4) (hal : a % 8 + l ≤ 8) (hq : p 13 c ≠ 4) (hS : 2 ≤ p 0 (p 25 3 % 32)) : ic_Inv (ic_iss p c i a l) := by
  obtain ⟨j1, j2, j3, j4⟩ := h
  refine ⟨fun t ht => ?_, ⟨fun m hm => ?_, fun q hq => ?_⟩, fun d hd => ?_, j4⟩
  · have h1 := j1 t ht
    show ic_L (p 25 3 + 1) (p 25 2) t (ic_u (p 0) (p 25 3 % 32) 0 t) (ic_u (p 1) (p 25 3 % 32) c t) (ic_u (p 2) (p 25 3 % 32) i t) (ic_u (p 3) (p 25 3 % 32) a t) (ic_u (p 4) (p 25 3 % 32) l t) (ic_u (p 5) (p 25 3 % 32) 0 t) (p 6 t) (p 7 t)
    by_cases e : t = p 25 3 % 32
    · rw [e, ic_us, ic_us, ic_us, ic_us, ic_us, ic_us]
      unfold ic_L
      omega
    · rw [ic_un e, ic_un e, ic_un e, ic_un e, ic_un e, ic_un e]
      unfold ic_L at h1 ⊢
      omega
  · show p 20 m = ic_am (ic_u (p 0) (p 25 3 % 32) 0) (ic_u (p 1) (p 25 3 % 32) c) m
    rw [ic_am_is (by omega)]
    exact j2.1 m hm
  · show p 21 q = ic_as (ic_u (p 0) (p 25 3 % 32) 0) (ic_u (p 3) (p 25 3 % 32) a) q
    rw [ic_as_is (by omega)]
    exact j2.2 q hq
  · obtain ⟨K, hK⟩ := j3 d hd
    show ∃ K, ic_Q1 (p 25 3 + 1) (ic_u (p 0) (p 25 3 % 32) 0) (ic_u (p 1) (p 25 3 % 32) c) (ic_u (p 11) (c * 4 + (p 12 c + p 13 c) % 4) (p 25 3 % 32)) d (p 12 d) (ic_u (p 13) c (p 13 c + 1) d) K
    by_cases e : d = c
    · subst e
      rw [ic_us]
      have h4 := hK.2.1
      exact ⟨_, ic_Q1_en hK (by omega) hS⟩
    · rw [ic_un e]
      exact ⟨K, ic_Q1_en' hK (fun z => e z.symm) hS (by omega) (by omega)⟩
theorem ic_wd_Inv {p : Nat → Nat → Nat} {m x : Nat} (h : ic_Inv p) (hm : p 16 m ≠ 8) : ic_Inv (ic_wd p m x) := by
  obtain ⟨j1, j2, j3, a1, a2⟩ := h
  refine ⟨j1, j2, j3, fun d hd => ?_, a2⟩
  have h := a1 d hd
  show p 15 d < 8 ∧ ic_u (p 16) m (p 16 m + 1) d ≤ 8
  by_cases e : d = m
  · subst e; rw [ic_us]; omega
  · rw [ic_un e]; exact h
theorem ic_sl_Inv {p : Nat → Nat → Nat} {j x : Nat} (h : ic_Inv p) (hx : x ≤ 15) : ic_Inv (ic_pu p 18 j x) := by
  obtain ⟨j1, j2, j3, a1, a2, a3⟩ := h
  refine ⟨j1, j2, j3, a1, fun d hd => ?_, a3⟩
  show ic_u (p 18) j x d ≤ 15
  by_cases e : d = j
  · subst e; rw [ic_us]; exact hx
  · rw [ic_un e]; exact a2 d hd
theorem ic_sr_Inv {p : Nat → Nat → Nat} {j x : Nat} (h : ic_Inv p) (hx : x ≤ 1) : ic_Inv (ic_pu p 23 j x) := by
  obtain ⟨j1, j2, j3, a1, a2, a3, a4, a5⟩ := h
  refine ⟨j1, j2, j3, a1, a2, a3, fun d hd => ?_, a5⟩
  show p 22 d < 4 ∧ ic_u (p 23) j x d ≤ 1
  by_cases e : d = j
  · subst e; rw [ic_us]; exact ⟨(a4 d hd).1, hx⟩
  · rw [ic_un e]; exact a4 d hd
/-- the beginning -/
def ic_p0 (l c : Nat) : Nat → Nat → Nat := fun f j =>
  if f = 0 then (if j < 32 then 4 else 0) else if f = 18 then (if j < 12 then 1 else 0) else if f = 23 then (if j < 4 then 1 else 0) else if f = 25 then (if j = 0 then l else if j = 1 then c else 0) else 0
theorem ic_p0_Inv {l c : Nat} (hl : l ≤ 8) (hc : c ≤ 4) : ic_Inv (ic_p0 l c) := by
  have e0 : ∀ s, s < 32 → ic_p0 l c 0 s = 4 := fun s hs => if_pos hs
  have z : ∀ P : Nat → Bool, (∀ s, s < 32 → ¬ P s = true) → ic_cn P 32 = 0 := by
    intro P hP
    have key : ∀ n, n ≤ 32 → ic_cn P n = 0 := by
      intro n
      induction n with
      | zero => intro _; rfl
      | succ n ih => intro hn; rw [ic_cn_f (hP n (by omega))]; exact ih (by omega)
    exact key 32 (Nat.le_refl 32)
  refine ⟨fun s hs => ?_, ⟨fun m _ => ?_, fun q _ => ?_⟩, fun d hd => ⟨fun _ => 0, ?_⟩, ?_⟩
  · show ic_L 0 0 s (ic_p0 l c 0 s) 0 0 0 0 0 0 0
    rw [e0 s hs]
    unfold ic_L
    omega
  · show 0 = ic_am (ic_p0 l c 0) (ic_p0 l c 1) m
    exact (z _ (fun s hs h => by have h2 := (of_decide_eq_true h).1; rw [e0 s hs] at h2; omega)).symm
  · show 0 = ic_as (ic_p0 l c 0) (ic_p0 l c 3) q
    exact (z _ (fun s hs h => by have h2 := (of_decide_eq_true h).1; rw [e0 s hs] at h2; omega)).symm
  · show ic_Q1 0 (ic_p0 l c 0) (ic_p0 l c 1) (ic_p0 l c 11) d 0 0 (fun _ => 0)
    refine ⟨by omega, by omega, ?_, fun i hi => by omega, fun i j _ hj => by omega, fun t ht => by omega⟩
    exact (z _ (fun s hs h => by have h2 := (of_decide_eq_true h).1; rw [e0 s hs] at h2; omega)).symm
  · refine ⟨fun m _ => ?_, fun j hj => ?_, fun s _ => ?_, fun d hd => ?_, fun j _ => ?_, hl, hc⟩
    · show 0 < 8 ∧ 0 ≤ 8
      omega
    · show (if j < 12 then 1 else 0) ≤ 15
      split <;> omega
    · show 0 < 4
      omega
    · show 0 < 4 ∧ (if d < 4 then 1 else 0) ≤ 1
      rw [if_pos hd]
      omega
    · show 0 ≤ 1
      omega
