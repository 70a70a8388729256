/-! the class: its answers and beats -/
theorem ic_X_fin22 {p : Nat → Nat → Nat} {s : Nat} {post : St2 → Prop} (hH : p 1 s < 4) (hA : p 3 s < 32) (h2 : ic_J2 p) (hs : s < 32) (h1 : p 0 s = 1) (x : Nat) (hx : x = if p 3 s / 8 = 3 then 3 else 2) (h : post (ic_X (ic_fin p s))) : wX_finish_22 post (nI s) (nI (p 3 s / 8)) (nI x) (nI s) (nI (p 25 0)) (nI (p 25 1)) (lN (p 25 2)) (lN (p 25 3)) (nI (p 25 4)) (ic_ts (p 0)) (ic_t (p 1)) (ic_t (p 2)) (ic_t (p 3)) (ic_t8 (p 3)) (ic_t (p 4)) (ic_t (p 5)) (ic_t (p 6)) (ic_tL (p 7)) (ic_t (p 8)) (ic_t (p 9)) (ic_t (p 10)) (ic_t (p 11)) (ic_t (p 12)) (ic_t (p 13)) (ic_t (p 14)) (ic_t (p 15)) (ic_t (p 16)) (ic_t (p 17)) (ic_t (p 18)) (ic_t (p 19)) (ic_t (p 20)) (ic_t (p 21)) (ic_t (p 22)) (ic_t (p 23)) (ic_t (p 24)) := by
  have hx3 : x ≤ 3 := by rw [hx]; split <;> omega
  have hi : vp_in (nI s) 32 := vp_in_nI hs (by decide)
  have hm : vp_in (nI (p 1 s / 2)) 2 := vp_in_nI (by omega) (by decide)
  have hq : vp_in (nI (p 3 s / 8)) 4 := vp_in_nI (by omega) (by decide)
  have a1 : 1 ≤ p 20 (p 1 s / 2) := by
    rw [h2.1 _ (by omega)]
    exact ic_cn_pos hs (decide_eq_true ⟨h1, rfl⟩)
  have a2 : 1 ≤ p 21 (p 3 s / 8) := by
    rw [h2.2 _ (by omega)]
    exact ic_cn_pos hs (decide_eq_true ⟨h1, rfl⟩)
  subst hx
  unfold wX_finish_22
  refine And.intro hi (nm_r (ic_ps s _ rfl (by omega) hx3 rfl) (And.intro hi (nm_r (ic_p s (p 25 4) rfl (by omega) rfl) (And.intro hi (nm_r (ic_p s (p 25 2) rfl (by omega) (lN_i _)) (nm_r (nI_1 _) ?_))))))
  refine ic_X_managerOf (p := ic_pu (ic_pu (ic_pu (ic_pu p 0 s (if p 3 s / 8 = 3 then 3 else 2)) 8 s (p 25 4)) 9 s (p 25 2)) 25 4 (p 25 4 + 1)) (h := p 1 s) hs rfl (by omega) ?_
  refine And.intro hm (And.intro hm (nm_r (ic_p (p 1 s / 2) (p 20 (p 1 s / 2) - 1) rfl (by omega) (ic_dec _ rfl (by omega) a1)) ?_))
  refine And.intro hq (And.intro hq (nm_r (ic_p (p 3 s / 8) (p 21 (p 3 s / 8) - 1) rfl (by omega) (ic_dec _ rfl (by omega) a2)) ?_))
  exact h
theorem ic_X_finish {p : Nat → Nat → Nat} {s : Nat} {post : St2 → Prop} (hH : p 1 s < 4) (hA : p 3 s < 32) (h2 : ic_J2 p) (hs : s < 32) (h1 : p 0 s = 1) (h : post (ic_X (ic_fin p s))) : wpX_finish post (ic_X p) (nI s) := by
  have hi : vp_in (nI s) 32 := vp_in_nI hs (by decide)
  unfold wpX_finish
  refine And.intro hi (nm_r (ic_g8 s rfl (by omega)) ?_)
  exact pk_eq (p 3 s / 8) 3 (fun e => ic_X_fin22 hH hA h2 hs h1 3 (if_pos e).symm h) (fun e => ic_X_fin22 hH hA h2 hs h1 2 (if_neg e).symm h)
theorem ic_X_sv9 {p : Nat → Nat → Nat} {s : Nat} {post : St2 → Prop} (hI : ic_J1 p) (hs : s < 32) (h3 : p 3 s / 8 ≠ 3) (h : post (ic_X (ic_sto p s))) : ∀ d i : Nat, i + d = p 4 s →
    wX_storeValues_9 post (nI s) (nI (p 4 s)) (nI (p 25 0)) (nI (p 25 1)) (lN (p 25 2)) (lN (p 25 3)) (nI (p 25 4)) (d + 1) (nI i) (ic_ts ((ic_pf p 17 (ic_stw (p 17) (p 10) (p 3 s) (s * 4) i)) 0)) (ic_t ((ic_pf p 17 (ic_stw (p 17) (p 10) (p 3 s) (s * 4) i)) 1)) (ic_t ((ic_pf p 17 (ic_stw (p 17) (p 10) (p 3 s) (s * 4) i)) 2)) (ic_t ((ic_pf p 17 (ic_stw (p 17) (p 10) (p 3 s) (s * 4) i)) 3)) (ic_t8 ((ic_pf p 17 (ic_stw (p 17) (p 10) (p 3 s) (s * 4) i)) 3)) (ic_t ((ic_pf p 17 (ic_stw (p 17) (p 10) (p 3 s) (s * 4) i)) 4)) (ic_t ((ic_pf p 17 (ic_stw (p 17) (p 10) (p 3 s) (s * 4) i)) 5)) (ic_t ((ic_pf p 17 (ic_stw (p 17) (p 10) (p 3 s) (s * 4) i)) 6)) (ic_tL ((ic_pf p 17 (ic_stw (p 17) (p 10) (p 3 s) (s * 4) i)) 7)) (ic_t ((ic_pf p 17 (ic_stw (p 17) (p 10) (p 3 s) (s * 4) i)) 8)) (ic_t ((ic_pf p 17 (ic_stw (p 17) (p 10) (p 3 s) (s * 4) i)) 9)) (ic_t ((ic_pf p 17 (ic_stw (p 17) (p 10) (p 3 s) (s * 4) i)) 10)) (ic_t ((ic_pf p 17 (ic_stw (p 17) (p 10) (p 3 s) (s * 4) i)) 11)) (ic_t ((ic_pf p 17 (ic_stw (p 17) (p 10) (p 3 s) (s * 4) i)) 12)) (ic_t ((ic_pf p 17 (ic_stw (p 17) (p 10) (p 3 s) (s * 4) i)) 13)) (ic_t ((ic_pf p 17 (ic_stw (p 17) (p 10) (p 3 s) (s * 4) i)) 14)) (ic_t ((ic_pf p 17 (ic_stw (p 17) (p 10) (p 3 s) (s * 4) i)) 15)) (ic_t ((ic_pf p 17 (ic_stw (p 17) (p 10) (p 3 s) (s * 4) i)) 16)) (ic_t ((ic_pf p 17 (ic_stw (p 17) (p 10) (p 3 s) (s * 4) i)) 17)) (ic_t ((ic_pf p 17 (ic_stw (p 17) (p 10) (p 3 s) (s * 4) i)) 18)) (ic_t ((ic_pf p 17 (ic_stw (p 17) (p 10) (p 3 s) (s * 4) i)) 19)) (ic_t ((ic_pf p 17 (ic_stw (p 17) (p 10) (p 3 s) (s * 4) i)) 20)) (ic_t ((ic_pf p 17 (ic_stw (p 17) (p 10) (p 3 s) (s * 4) i)) 21)) (ic_t ((ic_pf p 17 (ic_stw (p 17) (p 10) (p 3 s) (s * 4) i)) 22)) (ic_t ((ic_pf p 17 (ic_stw (p 17) (p 10) (p 3 s) (s * 4) i)) 23)) (ic_t ((ic_pf p 17 (ic_stw (p 17) (p 10) (p 3 s) (s * 4) i)) 24)) := by
  have hL := hI s hs
  unfold ic_L at hL
  have hi : vp_in (nI s) 32 := vp_in_nI hs (by decide)
  intro d
  induction d with
  | zero =>
    intro i e
    refine pk_le (p 4 s) i (fun _ => ?_) (fun h => by omega)
    have e2 : i = p 4 s := by omega
    subst e2
    exact h
  | succ d ih =>
    intro i e
    refine pk_le (p 4 s) i (fun h => by omega) (fun h => And.intro hi (And.intro ?_ (And.intro ?_ ?_)))
    · rw [show nI s * 4 + nI i = nI (s * 4 + i) from ic_ma s 4 i]
      exact vp_in_nI (by omega) (by decide)
    · rw [ic_g s rfl (by omega), nI_add]
      exact vp_in_nI (by show p 3 s + i < 24; omega) (by decide)
    · refine nm_r (ic_p (p 3 s + i) (p 10 (s * 4 + i)) (by rw [ic_g s rfl (by omega), nI_add]; rfl) (by omega) (ic_g (s * 4 + i) (ic_ma s 4 i) (by omega))) (nm_r (nI_1 i) ?_)
      exact ih (i + 1) (by omega)
theorem ic_X_storeValues {p : Nat → Nat → Nat} {s : Nat} {post : St2 → Prop} (hI : ic_J1 p) (hs : s < 32) (h3 : p 3 s / 8 ≠ 3) (h : post (ic_X (ic_sto p s))) : wpX_storeValues post (ic_X p) (nI s) := by
  unfold wpX_storeValues
  refine And.intro (vp_in_nI hs (by decide)) (nm_r (ic_g s rfl (by omega)) ?_)
  exact ⟨_, ic_X_sv9 hI hs h3 h (p 4 s) 0 (by omega)⟩
theorem ic_X_wr27 {p : Nat → Nat → Nat} {c s i : Nat} {post : St2 → Prop} (hI : ic_J1 p) (h2 : ic_J2 p) (hs : s < 32) (hc : c < 4) (h1 : p 0 s = 1) (hi : p 2 s = i) (h : post (ic_X (ic_pu (ic_fin p s) 22 c ((i + 1) % 4)))) : wX_giveWriteResponse_27 post (nI c) (nI s) (nI (p 25 0)) (nI (p 25 1)) (lN (p 25 2)) (lN (p 25 3)) (nI (p 25 4)) (ic_ts (p 0)) (ic_t (p 1)) (ic_t (p 2)) (ic_t (p 3)) (ic_t8 (p 3)) (ic_t (p 4)) (ic_t (p 5)) (ic_t (p 6)) (ic_tL (p 7)) (ic_t (p 8)) (ic_t (p 9)) (ic_t (p 10)) (ic_t (p 11)) (ic_t (p 12)) (ic_t (p 13)) (ic_t (p 14)) (ic_t (p 15)) (ic_t (p 16)) (ic_t (p 17)) (ic_t (p 18)) (ic_t (p 19)) (ic_t (p 20)) (ic_t (p 21)) (ic_t (p 22)) (ic_t (p 23)) (ic_t (p 24)) := by
  have hL := hI s hs
  unfold ic_L at hL
  subst hi
  unfold wX_giveWriteResponse_27
  refine ic_X_finish (p := p) (by omega) (by omega) h2 hs h1 ?_
  refine And.intro (vp_in_nI hs (by decide)) (And.intro (by decide) (And.intro (vp_in_nI hc (by decide)) ?_))
  refine nm_r (ic_p c ((p 2 s + 1) % 4) rfl (by omega) (ic_r (p 2 s + 1) 4 (ic_inc s rfl (by omega)) (by omega) (by decide) (by decide))) ?_
  exact h
theorem ic_X_wr {p : Nat → Nat → Nat} {c : Nat} {post : St2 → Prop} (hI : ic_Inv p) (hT : p 25 3 < 2 ^ 30) (hC : p 25 2 < 2 ^ 30) (hc : c < 4) (h : post (ic_X (ic_wr p c))) : wpX_giveWriteResponse post (ic_X p) (nI c) := by
  unfold wpX_giveWriteResponse
  refine ic_X_chosenSlot (p := p) hI hT hC hc (fun e => ?_) (fun s e => ?_)
  · refine br_t rfl ?_
    unfold ic_wr at h
    rw [e] at h
    exact h
  · obtain ⟨hs, hH, h1, _, _⟩ := ic_cho_ps e
    have hL := hI.1 s hs
    unfold ic_L at hL
    unfold ic_wr at h
    rw [e] at h
    dsimp only at h
    unfold ic_wr1 at h
    refine br_f (ic_nm1 (by omega)) (And.intro (vp_in_nI hs (by decide)) ?_)
    refine ek_if (ic_c8 s 3 rfl rfl (by omega) (by omega) (by decide)) (fun g => ?_) (fun g => ?_)
    · rw [if_pos g] at h
      exact ic_X_wr27 hI.1 hI.2.1 hs hc h1 rfl h
    · rw [if_neg g] at h
      refine ic_X_storeValues (p := p) hI.1 hs g ?_
      exact ic_X_wr27 (p := ic_sto p s) hI.1 hI.2.1 hs hc h1 rfl h
theorem ic_X_rd98 {p : Nat → Nat → Nat} {c s i : Nat} {post : St2 → Prop} (hs : s < 32) (hc : c < 4) (hi : p 2 s = i) (hi4 : i < 4) (h : post (ic_X (ic_pu p 22 c ((i + 1) % 4)))) : wX_giveReadBeat_98 post (nI c) (nI s) (nI (p 25 0)) (nI (p 25 1)) (lN (p 25 2)) (lN (p 25 3)) (nI (p 25 4)) (ic_ts (p 0)) (ic_t (p 1)) (ic_t (p 2)) (ic_t (p 3)) (ic_t8 (p 3)) (ic_t (p 4)) (ic_t (p 5)) (ic_t (p 6)) (ic_tL (p 7)) (ic_t (p 8)) (ic_t (p 9)) (ic_t (p 10)) (ic_t (p 11)) (ic_t (p 12)) (ic_t (p 13)) (ic_t (p 14)) (ic_t (p 15)) (ic_t (p 16)) (ic_t (p 17)) (ic_t (p 18)) (ic_t (p 19)) (ic_t (p 20)) (ic_t (p 21)) (ic_t (p 22)) (ic_t (p 23)) (ic_t (p 24)) := by
  subst hi
  unfold wX_giveReadBeat_98
  refine And.intro (vp_in_nI hs (by decide)) (And.intro (by decide) (And.intro (vp_in_nI hc (by decide)) ?_))
  refine nm_r (ic_p c ((p 2 s + 1) % 4) rfl (by omega) (ic_r (p 2 s + 1) 4 (ic_inc s rfl (by omega)) (by omega) (by decide) (by decide))) ?_
  exact h
theorem ic_X_rd67 {p : Nat → Nat → Nat} {c s x : Nat} {post : St2 → Prop} (hI : ic_J1 p) (h2 : ic_J2 p) (hs : s < 32) (hc : c < 4) (h1 : p 0 s = 1) (hH : p 1 s % 2 = 0) (hx : x = if p 3 s / 8 = 3 then 0 else p 17 (p 3 s + p 5 s)) (h : post (ic_X (ic_rd1 p c s))) : wX_giveReadBeat_67 post (nI c) (nI s) (nI x) (nI (s * 4 + p 5 s)) (nI (p 25 0)) (nI (p 25 1)) (lN (p 25 2)) (lN (p 25 3)) (nI (p 25 4)) (ic_ts (p 0)) (ic_t (p 1)) (ic_t (p 2)) (ic_t (p 3)) (ic_t8 (p 3)) (ic_t (p 4)) (ic_t (p 5)) (ic_t (p 6)) (ic_tL (p 7)) (ic_t (p 8)) (ic_t (p 9)) (ic_t (p 10)) (ic_t (p 11)) (ic_t (p 12)) (ic_t (p 13)) (ic_t (p 14)) (ic_t (p 15)) (ic_t (p 16)) (ic_t (p 17)) (ic_t (p 18)) (ic_t (p 19)) (ic_t (p 20)) (ic_t (p 21)) (ic_t (p 22)) (ic_t (p 23)) (ic_t (p 24)) := by
  have hL := hI s hs
  unfold ic_L at hL
  have hi : vp_in (nI s) 32 := vp_in_nI hs (by decide)
  subst hx
  unfold wX_giveReadBeat_67
  refine And.intro (vp_in_nI (by omega) (by decide)) (nm_r (ic_p (s * 4 + p 5 s) _ rfl (by omega) rfl) (And.intro hi (And.intro hi (nm_r (ic_p s (p 5 s + 1) rfl (by omega) (ic_inc s rfl (by omega))) (And.intro hi (And.intro hi ?_))))))
  unfold ic_rd1 at h
  refine ek_if (ic_ce s (p 4 s) rfl (ic_g s rfl (by omega)) (by omega) (by rw [ic_us]; omega) (by omega)) (fun e => ?_) (fun e => ?_)
  · rw [ic_us] at e
    rw [if_pos e] at h
    refine ic_X_finish (p := ic_bt p s) (by show p 1 s < 4; omega) (by show p 3 s < 32; omega) h2 hs h1 ?_
    exact ic_X_rd98 (p := ic_fin (ic_bt p s) s) hs hc rfl (by show p 2 s < 4; omega) h
  · rw [ic_us] at e
    rw [if_neg e] at h
    exact ic_X_rd98 (p := ic_bt p s) hs hc rfl (by show p 2 s < 4; omega) h
theorem ic_X_rd {p : Nat → Nat → Nat} {c : Nat} {post : St2 → Prop} (hI : ic_Inv p) (hT : p 25 3 < 2 ^ 30) (hC : p 25 2 < 2 ^ 30) (hc : c < 4) (h0 : c % 2 = 0) (h : post (ic_X (ic_rd p c))) : wpX_giveReadBeat post (ic_X p) (nI c) := by
  unfold wpX_giveReadBeat
  refine ic_X_chosenSlot (p := p) hI hT hC hc (fun e => ?_) (fun s e => ?_)
  · refine br_t rfl ?_
    unfold ic_rd at h
    rw [e] at h
    exact h
  · obtain ⟨hs, hH, h1, _, _⟩ := ic_cho_ps e
    have hL := hI.1 s hs
    unfold ic_L at hL
    unfold ic_rd at h
    rw [e] at h
    dsimp only at h
    have hi : vp_in (nI s) 32 := vp_in_nI hs (by decide)
    have e4 : nI s * 4 + nI (p 5 s) = nI (s * 4 + p 5 s) := ic_ma s 4 (p 5 s)
    refine br_f (ic_nm1 (by omega)) (And.intro hi (nm_r (ic_g s rfl (by omega)) (And.intro hi ?_)))
    refine ek_if (ic_c8 s 3 rfl rfl (by omega) (by omega) (by decide)) (fun g => ?_) (fun g => ?_)
    · unfold wX_giveReadBeat_34
      refine br_f (by decide) ?_
      rw [e4]
      exact ic_X_rd67 hI.1 hI.2.1 hs hc h1 (by omega) (if_pos g).symm h
    · unfold wX_giveReadBeat_34
      have e3 : ic_t (p 3) (nI s).toNatClampNeg + nI (p 5 s) = nI (p 3 s + p 5 s) := by rw [ic_g s rfl (by omega), nI_add]
      refine br_t rfl (And.intro hi ?_)
      rw [e3, e4, ic_g (p 3 s + p 5 s) rfl (by omega)]
      exact And.intro (vp_in_nI (by omega) (by decide)) (ic_X_rd67 hI.1 hI.2.1 hs hc h1 (by omega) (if_neg g).symm h)
theorem ic_X_ouf {p : Nat → Nat → Nat} {m : Nat} {post : Int32 → Prop} (hI : ic_J1 p) (hT : p 25 3 < 2 ^ 30) (hm : m < 2) : ∀ d j : Nat, j + d = 32 →
    (ic_ff (p 25 3) (ic_unp p m) d j = none → post (-1)) → (∀ s, ic_ff (p 25 3) (ic_unp p m) d j = some s → post (nI s)) →
    wX_oldestUnfilledWrite_8 post (nI (m * 2 + 1)) (nI (p 25 0)) (nI (p 25 1)) (lN (p 25 2)) (lN (p 25 3)) (nI (p 25 4)) (ic_ts (p 0)) (ic_t (p 1)) (ic_t (p 2)) (ic_t (p 3)) (ic_t8 (p 3)) (ic_t (p 4)) (ic_t (p 5)) (ic_t (p 6)) (ic_tL (p 7)) (ic_t (p 8)) (ic_t (p 9)) (ic_t (p 10)) (ic_t (p 11)) (ic_t (p 12)) (ic_t (p 13)) (ic_t (p 14)) (ic_t (p 15)) (ic_t (p 16)) (ic_t (p 17)) (ic_t (p 18)) (ic_t (p 19)) (ic_t (p 20)) (ic_t (p 21)) (ic_t (p 22)) (ic_t (p 23)) (ic_t (p 24)) (d + 1) (nI j) := by
  intro d
  induction d with
  | zero =>
    intro j hj hn _
    exact pk_le 32 j (fun _ => hn rfl) (fun h => by omega)
  | succ d ih =>
    intro j hj hn hs
    refine pk_le 32 j (fun h => by omega) (fun h => ?_)
    refine ic_X_slotOf (p 25 3 + j) (by rw [nI_l (by omega), lN_add]) (by omega) ?_
    have h32 : (p 25 3 + j) % 32 < 32 := by omega
    have hL := hI _ h32
    have K : ¬ ic_unp p m ((p 25 3 + j) % 32) = true → wX_oldestUnfilledWrite_8 post (nI (m * 2 + 1)) (nI (p 25 0)) (nI (p 25 1)) (lN (p 25 2)) (lN (p 25 3)) (nI (p 25 4)) (ic_ts (p 0)) (ic_t (p 1)) (ic_t (p 2)) (ic_t (p 3)) (ic_t8 (p 3)) (ic_t (p 4)) (ic_t (p 5)) (ic_t (p 6)) (ic_tL (p 7)) (ic_t (p 8)) (ic_t (p 9)) (ic_t (p 10)) (ic_t (p 11)) (ic_t (p 12)) (ic_t (p 13)) (ic_t (p 14)) (ic_t (p 15)) (ic_t (p 16)) (ic_t (p 17)) (ic_t (p 18)) (ic_t (p 19)) (ic_t (p 20)) (ic_t (p 21)) (ic_t (p 22)) (ic_t (p 23)) (ic_t (p 24)) (d + 1) (nI (j + 1)) := fun h =>
      ih (j + 1) (by omega) (fun z => hn (by rw [ic_ff_f h]; exact z)) (fun s z => hs s (by rw [ic_ff_f h]; exact z))
    have F : ic_unp p m ((p 25 3 + j) % 32) = true → post (nI ((p 25 3 + j) % 32)) := fun h => hs _ (ic_ff_t h)
    generalize (p 25 3 + j) % 32 = s at *
    unfold ic_L at hL
    have hi32 : vp_in (nI s) 32 := vp_in_nI h32 (by decide)
    refine And.intro hi32 (ek_if (ic_ce s (m * 2 + 1) rfl rfl (by omega) (by omega) (by omega)) (fun a => ?_) (fun a => ?_))
    · refine And.intro hi32 (And.intro hi32 (pk_le (p 4 s) (p 5 s) (fun b => ?_) (fun b => ?_) (ic_g s rfl (by omega)) (ic_g s rfl (by omega))))
      · exact nm_r (nI_1 j) (K (fun z => by have := (of_decide_eq_true z).2; omega))
      · exact F (decide_eq_true ⟨a, b⟩)
    · exact nm_r (nI_1 j) (K (fun z => a (of_decide_eq_true z).1))
theorem ic_X_oldestUnfilledWrite {p : Nat → Nat → Nat} {m : Nat} {post : Int32 → Prop} (hI : ic_J1 p) (hT : p 25 3 < 2 ^ 30) (hm : m < 2)
    (hn : ic_unf p m = none → post (-1)) (hs : ∀ s, ic_unf p m = some s → post (nI s)) : wpX_oldestUnfilledWrite post (ic_X p) (nI m) := by
  unfold wpX_oldestUnfilledWrite ic_X
  dsimp only
  exact nm_r (ic_m21 m) ⟨33, ic_X_ouf hI hT hm 32 0 rfl hn hs⟩
theorem ic_X_mv {p : Nat → Nat → Nat} {m : Nat} {post : St2 → Prop} (hI : ic_Inv p) (hT : p 25 3 < 2 ^ 30) (hC : p 25 2 < 2 ^ 30) (hm : m < 2) (h : post (ic_X (ic_mv p m))) : wpX_moveWriteData post (ic_X p) (nI m) := by
  unfold wpX_moveWriteData
  refine ic_X_oldestUnfilledWrite (p := p) hI.1 hT hm (fun e => ?_) (fun s e => ?_)
  · refine br_t rfl ?_
    unfold ic_mv at h
    rw [e] at h
    exact h
  · obtain ⟨hs, hH, h5⟩ := ic_unf_ps e
    have hL := hI.1 s hs
    unfold ic_L at hL
    have hW := hI.2.2.2.1 m hm
    unfold ic_mv at h
    rw [e] at h
    dsimp only at h
    have hi : vp_in (nI s) 32 := vp_in_nI hs (by decide)
    have hi2 : vp_in (nI m) 2 := vp_in_nI hm (by decide)
    refine br_f (ic_nm1 (by omega)) (And.intro hi ?_)
    refine ek_if (ic_cs s 1 rfl rfl (by omega) (by omega) (by decide)) (fun a => And.intro hi2 ?_) (fun a => ?_)
    · refine ek_if (ic_ce m 0 rfl rfl (by omega) (by omega) (by decide)) (fun b => ?_) (fun b => ?_)
      · rw [if_neg (fun z => z.2 b)] at h
        exact h
      · rw [if_pos ⟨a, b⟩] at h
        have e8 : nI m * 8 + ic_t (p 15) (nI m).toNatClampNeg = nI (m * 8 + p 15 m) := by rw [ic_g m rfl (by omega)]; exact ic_ma m 8 (p 15 m)
        have e4 : nI s * 4 + ic_t (p 5) (nI s).toNatClampNeg = nI (s * 4 + p 5 s) := by rw [ic_g s rfl (by omega)]; exact ic_ma s 4 (p 5 s)
        refine And.intro hi (And.intro hi2 (And.intro (pk_in (m * 8 + p 15 m) 16 (by omega) e8) (And.intro (pk_in (s * 4 + p 5 s) 128 (by omega) e4) ?_)))
        refine nm_r (ic_p (s * 4 + p 5 s) (p 14 (m * 8 + p 15 m)) e4 (by omega) (ic_g _ e8 (by omega))) (And.intro hi2 (And.intro (by decide) (And.intro hi2 ?_)))
        refine nm_r (ic_p m ((p 15 m + 1) % 8) rfl (by omega) (ic_r (p 15 m + 1) 8 (ic_inc m rfl (by omega)) (by omega) (by decide) (by decide))) (And.intro hi2 (And.intro hi2 ?_))
        refine nm_r (ic_p m (p 16 m - 1) rfl (by omega) (ic_dec m rfl (by omega) (by omega))) (And.intro hi (And.intro hi ?_))
        refine nm_r (ic_p s (p 5 s + 1) rfl (by omega) (ic_inc s rfl (by omega))) (And.intro hi (And.intro hi ?_))
        unfold ic_mv1 at h
        refine ek_if (ic_ce s (p 4 s) rfl (ic_g s rfl (by omega)) (by omega) (by rw [ic_us]; omega) (by omega)) (fun c => ?_) (fun c => ?_)
        · rw [ic_us] at c
          rw [if_pos c] at h
          refine And.intro hi (And.intro hi (nm_r (ic_pL s (p 25 2 + p 6 s) rfl (by omega) (by rw [ic_g s rfl (by omega), nI_l (by omega), lN_add])) ?_))
          exact h
        · rw [ic_us] at c
          rw [if_neg c] at h
          exact h
    · rw [if_neg (fun z => a z.1)] at h
      exact h
