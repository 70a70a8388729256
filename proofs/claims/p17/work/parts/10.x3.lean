/-! the class: arbitration and the cycle -/
theorem ic_X_headOf {p : Nat → Nat → Nat} {c : Nat} {post : Int32 → Prop} (h3 : ic_J3 p) (hc : c < 4) (hn : p 13 c = 0 → post (-1)) (hs : p 13 c ≠ 0 → post (nI (ic_hd p c))) : wpX_headOf post (ic_X p) (nI c) := by
  obtain ⟨K, h4, hn4, _⟩ := h3 c hc
  have hi : vp_in (nI c) 4 := vp_in_nI hc (by decide)
  have e : nI c * 4 + ic_t (p 12) (nI c).toNatClampNeg = nI (c * 4 + p 12 c) := by rw [ic_g c rfl (by omega)]; exact ic_ma c 4 (p 12 c)
  unfold wpX_headOf ic_X
  dsimp only
  refine And.intro hi (ek_if (ic_ce c 0 rfl rfl (by omega) (by omega) (by decide)) (fun a => hn a) (fun a => ?_))
  refine And.intro hi (And.intro (pk_in (c * 4 + p 12 c) 16 (by omega) e) ?_)
  rw [ic_g _ e (by omega)]
  exact hs a
theorem ic_X_iae {p : Nat → Nat → Nat} {h : Nat} {post : Int32 → Prop} (hI : ic_J1 p) (hh : h < 32) : ∀ d j : Nat, j + d = 32 →
    (ic_ff 0 (ic_elp p h) d j = none → post 0) → (∀ s, ic_ff 0 (ic_elp p h) d j = some s → post 1) →
    wX_isActiveElsewhere_2 post (nI h) (nI (p 25 0)) (nI (p 25 1)) (lN (p 25 2)) (lN (p 25 3)) (nI (p 25 4)) (ic_ts (p 0)) (ic_t (p 1)) (ic_t (p 2)) (ic_t (p 3)) (ic_t8 (p 3)) (ic_t (p 4)) (ic_t (p 5)) (ic_t (p 6)) (ic_tL (p 7)) (ic_t (p 8)) (ic_t (p 9)) (ic_t (p 10)) (ic_t (p 11)) (ic_t (p 12)) (ic_t (p 13)) (ic_t (p 14)) (ic_t (p 15)) (ic_t (p 16)) (ic_t (p 17)) (ic_t (p 18)) (ic_t (p 19)) (ic_t (p 20)) (ic_t (p 21)) (ic_t (p 22)) (ic_t (p 23)) (ic_t (p 24)) (d + 1) (nI j) := by
  have hLh := hI h hh
  unfold ic_L at hLh
  intro d
  induction d with
  | zero =>
    intro j hj hn _
    exact pk_le 32 j (fun _ => hn rfl) (fun h => by omega)
  | succ d ih =>
    intro j hj hn hs
    refine pk_le 32 j (fun h => by omega) (fun hlt => ?_)
    have ej : (0 + j) % 32 = j := by omega
    have K : ¬ ic_elp p h j = true → wX_isActiveElsewhere_2 post (nI h) (nI (p 25 0)) (nI (p 25 1)) (lN (p 25 2)) (lN (p 25 3)) (nI (p 25 4)) (ic_ts (p 0)) (ic_t (p 1)) (ic_t (p 2)) (ic_t (p 3)) (ic_t8 (p 3)) (ic_t (p 4)) (ic_t (p 5)) (ic_t (p 6)) (ic_tL (p 7)) (ic_t (p 8)) (ic_t (p 9)) (ic_t (p 10)) (ic_t (p 11)) (ic_t (p 12)) (ic_t (p 13)) (ic_t (p 14)) (ic_t (p 15)) (ic_t (p 16)) (ic_t (p 17)) (ic_t (p 18)) (ic_t (p 19)) (ic_t (p 20)) (ic_t (p 21)) (ic_t (p 22)) (ic_t (p 23)) (ic_t (p 24)) (d + 1) (nI (j + 1)) := fun z0 =>
      ih (j + 1) (by omega) (fun z => hn (by rw [ic_ff_f (by rw [ej]; exact z0)]; exact z)) (fun s z => hs s (by rw [ic_ff_f (by rw [ej]; exact z0)]; exact z))
    have F : ic_elp p h j = true → post 1 := fun z => hs ((0 + j) % 32) (ic_ff_t (by rw [ej]; exact z))
    have hL := hI j hlt
    unfold ic_L at hL
    have hi : vp_in (nI j) 32 := vp_in_nI hlt (by decide)
    have hi2 : vp_in (nI h) 32 := vp_in_nI hh (by decide)
    refine And.intro hi (ek_if (ic_cs j 1 rfl rfl (by omega) (by omega) (by decide)) (fun a => ?_) (fun a => ?_))
    · refine And.intro hi (And.intro hi2 (ek_if (ic_ce j (p 1 h) rfl (ic_g h rfl (by omega)) (by omega) (by omega) (by omega)) (fun b => ?_) (fun b => ?_)))
      · refine And.intro hi (And.intro hi2 (ek_if (ic_ce j (p 2 h) rfl (ic_g h rfl (by omega)) (by omega) (by omega) (by omega)) (fun c => ?_) (fun c => ?_)))
        · refine And.intro hi (And.intro hi2 (ek_if (ic_c8 j (p 3 h / 8) rfl (ic_g8 h rfl (by omega)) (by omega) (by omega) (by omega)) (fun e => ?_) (fun e => ?_)))
          · exact nm_r (nI_1 j) (K (fun z => (of_decide_eq_true z).2.2.2 e))
          · exact F (decide_eq_true ⟨a, b, c, e⟩)
        · exact nm_r (nI_1 j) (K (fun z => c (of_decide_eq_true z).2.2.1))
      · exact nm_r (nI_1 j) (K (fun z => b (of_decide_eq_true z).2.1))
    · exact nm_r (nI_1 j) (K (fun z => a (of_decide_eq_true z).1))
theorem ic_X_isActiveElsewhere {p : Nat → Nat → Nat} {h : Nat} {post : Int32 → Prop} (hI : ic_J1 p) (hh : h < 32) (h0 : ic_els p h = none → post 0) (h1 : ic_els p h ≠ none → post 1) : wpX_isActiveElsewhere post (ic_X p) (nI h) := by
  unfold wpX_isActiveElsewhere ic_X
  dsimp only
  exact ⟨33, ic_X_iae hI hh 32 0 rfl h0 (fun s z => h1 (by unfold ic_els; rw [z]; exact fun w => by cases w))⟩
theorem ic_X_isCandidate {p : Nat → Nat → Nat} {m s k : Nat} {post : Int32 → Prop} (hI : ic_Inv p) (hm : m < 2) (hs : s < 4) (hk : k < 2) (h1 : ic_can p m s k = true → post 1) (h0 : ¬ ic_can p m s k = true → post 0) : wpX_isCandidate post (ic_X p) (nI m) (nI s) (nI k) := by
  obtain ⟨j1, j2, j3, j4⟩ := hI
  have hl := j4.2.2.2.2.2
  unfold wpX_isCandidate
  dsimp only [ic_X]
  rw [show nI m * 2 + nI k = nI (m * 2 + k) from ic_ma m 2 k]
  refine ic_X_headOf (p := p) j3 (by omega) (fun a => ?_) (fun a => ?_)
  · exact br_t rfl (h0 (fun z => (ic_can_ps z).1 a))
  · obtain ⟨g1, _, _, _⟩ := ic_hd_ps j3 (c := m * 2 + k) (by omega) a
    have hL := j1 _ g1
    unfold ic_L at hL
    have b1 : p 20 m ≤ 32 := by rw [j2.1 m hm]; exact ic_cn_le _ 32
    have b2 : p 21 s ≤ 32 := by rw [j2.2 s hs]; exact ic_cn_le _ 32
    refine br_f (ic_nm1 (by omega)) (And.intro (vp_in_nI g1 (by decide)) ?_)
    refine ek_if (ic_c8 _ s rfl rfl (by omega) (by omega) (by omega)) (fun b => ?_) (fun b => h0 (fun z => b (ic_can_ps z).2.1))
    refine And.intro (vp_in_nI hm (by decide)) (pk_le (p 25 0) (p 20 m) (fun c => h0 (fun z => ?_)) (fun c => ?_) rfl (ic_g m rfl (by omega)))
    · have := (ic_can_ps z).2.2.1
      omega
    · refine And.intro (vp_in_nI hs (by decide)) (pk_le (p 25 1) (p 21 s) (fun d => h0 (fun z => ?_)) (fun d => ?_) rfl (ic_g s rfl (by omega)))
      · have := (ic_can_ps z).2.2.2.1
        omega
      · refine ic_X_isActiveElsewhere (p := p) j1 g1 (fun e => ?_) (fun e => ?_)
        · exact br_t rfl (h1 (decide_eq_true ⟨a, b, c, d, e⟩))
        · exact br_f (by decide) (h0 (fun z => e (ic_can_ps z).2.2.2.2))
theorem ic_X_dropHead {p : Nat → Nat → Nat} {c : Nat} {post : St2 → Prop} (hc : c < 4) (h12 : p 12 c < 4) (h13 : p 13 c ≠ 0) (h : post (ic_X (ic_dh p c))) : wpX_dropHead post (ic_X p) (nI c) := by
  have hi : vp_in (nI c) 4 := vp_in_nI hc (by decide)
  unfold wpX_dropHead
  refine And.intro hi (And.intro (by decide) (And.intro hi ?_))
  refine nm_r (ic_p c ((p 12 c + 1) % 4) rfl (by omega) (ic_r (p 12 c + 1) 4 (ic_inc c rfl (by omega)) (by omega) (by decide) (by decide))) (And.intro hi (And.intro hi ?_))
  refine nm_r (ic_p c (p 13 c - 1) rfl (by omega) (ic_dec c rfl (by omega) (by omega))) ?_
  exact h
theorem ic_X_takeLatency {p : Nat → Nat → Nat} {s l : Nat} {post : Int32 → St2 → Prop} (hs : s < 4) (h19 : p 19 s < 4) (hl : ic_lat p s = l) (h : post (nI l) (ic_X (ic_tl p s))) : wpX_takeLatency post (ic_X p) (nI s) := by
  subst hl
  have hi : vp_in (nI s) 4 := vp_in_nI hs (by decide)
  have e : nI s * 4 + ic_t (p 19) (nI s).toNatClampNeg = nI (s * 4 + p 19 s) := by rw [ic_g s rfl (by omega)]; exact ic_ma s 4 (p 19 s)
  unfold ic_lat ic_tl at h
  unfold wpX_takeLatency
  refine pk_lt s 3 (fun a => ?_) (fun a => ?_)
  · rw [if_neg (by omega), if_neg (by omega)] at h
    refine And.intro hi (And.intro (pk_in (s * 4 + p 19 s) 12 (by omega) e) (nm_r (ic_g _ e (by omega)) (And.intro hi (And.intro (by decide) (And.intro hi ?_)))))
    refine nm_r (ic_p s ((p 19 s + 1) % 4) rfl (by omega) (ic_r (p 19 s + 1) 4 (ic_inc s rfl (by omega)) (by omega) (by decide) (by decide))) ?_
    exact h
  · rw [if_pos (by omega), if_pos (by omega)] at h
    exact h
theorem ic_X_accept {p : Nat → Nat → Nat} {b s l : Nat} {post : St2 → Prop} (hb : b < 32) (hs : s < 4) (hH : p 1 b < 4) (h19 : p 19 s < 4) (hl : ic_lat p s = l) (hl15 : l ≤ 15) (h : post (ic_X (ic_acc p b s))) : wpX_accept post (ic_X p) (nI b) (nI s) := by
  have hi : vp_in (nI b) 32 := vp_in_nI hb (by decide)
  have hq : vp_in (nI s) 4 := vp_in_nI hs (by decide)
  have hm : vp_in (nI (p 1 b / 2)) 2 := vp_in_nI (by omega) (by decide)
  unfold wpX_accept
  refine And.intro hi (nm_r (ic_ps b 1 rfl (by omega) (by decide) rfl) ?_)
  refine ic_X_managerOf (p := ic_pu p 0 b 1) (h := p 1 b) hb rfl hH ?_
  refine And.intro hm (And.intro hm (nm_r (ic_p (p 1 b / 2) (p 20 (p 1 b / 2) + 1) rfl (by omega) (ic_inc _ rfl (by omega))) ?_))
  refine And.intro hq (And.intro hq (nm_r (ic_p s (p 21 s + 1) rfl (by omega) (ic_inc _ rfl (by omega))) ?_))
  refine ic_X_takeLatency (p := ic_pu (ic_pu (ic_pu p 0 b 1) 20 (p 1 b / 2) (p 20 (p 1 b / 2) + 1)) 21 s (p 21 s + 1)) (l := l) hs h19 hl ?_
  subst hl
  unfold ic_acc at h
  refine And.intro hi (nm_r (ic_p b (ic_lat p s) rfl (by omega) rfl) (And.intro hi (And.intro hi ?_)))
  unfold ic_tl at h ⊢
  by_cases e : s = 3
  · rw [if_pos e] at h ⊢
    refine nm_r (ic_pL b (p 25 2 + ic_lat p s) rfl (by omega) (by rw [ic_g b rfl (by omega), ic_us, nI_l (by omega)]; exact lN_add _ _)) ?_
    exact h
  · rw [if_neg e] at h ⊢
    refine nm_r (ic_pL b (p 25 2 + ic_lat p s) rfl (by omega) (by rw [ic_g b rfl (by omega), ic_us, nI_l (by omega)]; exact lN_add _ _)) ?_
    exact h
theorem ic_X_ar34 {p : Nat → Nat → Nat} {s k w : Nat} {post : St2 → Prop} (hI : ic_Inv p) (hs : s < 4) (hk : k < 2) (hw : w < 2) (h1 : ic_can p w s k = true → post (ic_X (ic_ar1 p s k w))) (h0 : ¬ ic_can p w s k = true → post (ic_X p)) : wX_arbitrate_34 post (nI s) (nI k) (nI (s * 2 + k)) (nI w) (nI (p 25 0)) (nI (p 25 1)) (lN (p 25 2)) (lN (p 25 3)) (nI (p 25 4)) (ic_ts (p 0)) (ic_t (p 1)) (ic_t (p 2)) (ic_t (p 3)) (ic_t8 (p 3)) (ic_t (p 4)) (ic_t (p 5)) (ic_t (p 6)) (ic_tL (p 7)) (ic_t (p 8)) (ic_t (p 9)) (ic_t (p 10)) (ic_t (p 11)) (ic_t (p 12)) (ic_t (p 13)) (ic_t (p 14)) (ic_t (p 15)) (ic_t (p 16)) (ic_t (p 17)) (ic_t (p 18)) (ic_t (p 19)) (ic_t (p 20)) (ic_t (p 21)) (ic_t (p 22)) (ic_t (p 23)) (ic_t (p 24)) := by
  unfold wX_arbitrate_34
  refine ic_X_isCandidate (p := p) hI hw hs hk (fun c => ?_) (fun c => br_t rfl (h0 c))
  have h := h1 c
  obtain ⟨j1, j2, j3, j4⟩ := hI
  have n0 := (ic_can_ps c).1
  obtain ⟨g1, g2, g3, g4⟩ := ic_hd_ps j3 (c := w * 2 + k) (by omega) n0
  refine br_f (by decide) (nm_r (ic_ma w 2 k) ?_)
  refine ic_X_headOf (p := p) j3 (by omega) (fun a => absurd a n0) (fun a => ?_)
  refine ic_X_dropHead (p := p) (by omega) g4 n0 ?_
  refine ic_X_accept (p := ic_dh p (w * 2 + k)) (l := ic_lat p s) g1 hs (by show p 1 _ < 4; omega) (j4.2.2.1 s hs) rfl (ic_lat_le j4 hs) ?_
  refine And.intro (vp_in_nI (by omega) (by decide)) (nm_r (ic_p (s * 2 + k) (1 - w) rfl (by omega) (pk_sub (a := 1) (by omega))) ?_)
  exact h
theorem ic_X_ar {p : Nat → Nat → Nat} {s k : Nat} {post : St2 → Prop} (hI : ic_Inv p) (hs : s < 4) (hk : k < 2) (h : post (ic_X (ic_ar p s k))) : wpX_arbitrate post (ic_X p) (nI s) (nI k) := by
  have h24 := hI.2.2.2.2.2.2.2.1 (s * 2 + k) (by omega)
  have h1 : ∀ w, w = ic_win p s k → ic_can p w s k = true → post (ic_X (ic_ar1 p s k w)) := by
    intro w ew c
    subst ew
    unfold ic_ar at h
    rw [if_pos c] at h
    exact h
  have h0 : ∀ w, w = ic_win p s k → ¬ ic_can p w s k = true → post (ic_X p) := by
    intro w ew c
    subst ew
    unfold ic_ar at h
    rw [if_neg c] at h
    exact h
  unfold wpX_arbitrate
  refine nm_r (ic_ma s 2 k) (And.intro (vp_in_nI (by omega) (by decide)) (nm_r (ic_g (s * 2 + k) rfl (by omega)) ?_))
  refine ic_X_isCandidate (p := p) hI (by omega) hs hk (fun c => br_f (by decide) ?_) (fun c => br_t rfl ?_)
  · have ew : p 24 (s * 2 + k) = ic_win p s k := by unfold ic_win; rw [if_pos c]
    exact ic_X_ar34 hI hs hk (by omega) (h1 _ ew) (h0 _ ew)
  · have ew : 1 - p 24 (s * 2 + k) = ic_win p s k := by unfold ic_win; rw [if_neg c]
    rw [show (1 : Int32) - nI (p 24 (s * 2 + k)) = nI (1 - p 24 (s * 2 + k)) from pk_sub (a := 1) h24]
    exact ic_X_ar34 hI hs hk (by omega) (h1 _ ew) (h0 _ ew)
theorem ic_ar_25 {p : Nat → Nat → Nat} {s k : Nat} : ic_ar p s k 25 = p 25 := by
  unfold ic_ar
  split
  · exact (@ic_ar1_f p s k _).2.2.2.2.2.2.2.2.1
  · rfl
theorem ic_mv_25 {p : Nat → Nat → Nat} {m : Nat} : ic_mv p m 25 = p 25 := by
  unfold ic_mv
  cases ic_unf p m with
  | none => rfl
  | some s =>
    dsimp only
    by_cases g : p 0 s = 1 ∧ p 16 m ≠ 0
    · rw [if_pos g]
      unfold ic_mv1
      by_cases n : p 5 s + 1 = p 4 s
      · rw [if_pos n]; rfl
      · rw [if_neg n]; rfl
    · rw [if_neg g]
theorem ic_rd_25 {p : Nat → Nat → Nat} {c : Nat} : ic_rd p c 25 2 = p 25 2 ∧ ic_rd p c 25 3 = p 25 3 := by
  unfold ic_rd
  cases ic_cho p c with
  | none => exact ⟨rfl, rfl⟩
  | some s =>
    dsimp only
    unfold ic_rd1
    by_cases n : p 5 s + 1 = p 4 s
    · rw [if_pos n]; exact ⟨rfl, rfl⟩
    · rw [if_neg n]; exact ⟨rfl, rfl⟩
theorem ic_wr_25 {p : Nat → Nat → Nat} {c : Nat} : ic_wr p c 25 2 = p 25 2 ∧ ic_wr p c 25 3 = p 25 3 := by
  unfold ic_wr
  cases ic_cho p c with
  | none => exact ⟨rfl, rfl⟩
  | some s =>
    dsimp only
    unfold ic_wr1
    by_cases n : p 3 s / 8 = 3
    · rw [if_pos n]; exact ⟨rfl, rfl⟩
    · rw [if_neg n]; exact ⟨rfl, rfl⟩
