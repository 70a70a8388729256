/-! the reference: its answers and beats -/
theorem ic_Y_finish {q : Nat → Nat → Nat} {s : Nat} {post : SY → Prop} (hs : s < 32) (hA : q 3 s < 32) (h : post (ic_Y (ic_qf q s))) : wpY_finish post (ic_Y q) (nI s) := by
  have hi : vp_in (nI s) 32 := vp_in_nI hs (by decide)
  have e3 : ic_t (q 3) (nI s).toNatClampNeg / 8 = nI (q 3 s / 8) := by
    rw [ic_g s rfl (by omega)]
    exact pk_div (d := 8) (by omega) (by decide) (by decide)
  have f23 : ∀ x, x = (if q 3 s / 8 = 3 then 3 else 2) → wY_finish_23 post (nI s) (nI x) (nI s) (nI (q 22 0)) (nI (q 22 1)) (nI (q 22 2)) (nI (q 22 3)) (nI (q 22 4)) (ic_t (q 0)) (ic_t (q 1)) (ic_t (q 2)) (ic_t (q 3)) (ic_t (q 4)) (ic_t (q 5)) (ic_t (q 6)) (ic_t (q 7)) (ic_t (q 8)) (ic_t (q 9)) (ic_t (q 10)) (ic_t (q 11)) (ic_t (q 12)) (ic_t (q 13)) (ic_t (q 14)) (ic_t (q 15)) (ic_t (q 16)) (ic_t (q 17)) (ic_t (q 18)) (ic_t (q 19)) (ic_t (q 20)) (ic_t (q 21)) := by
    intro x hx
    subst hx
    unfold wY_finish_23
    refine And.intro hi (nm_r (ic_p s _ rfl (by omega) rfl) (And.intro hi (nm_r (ic_p s (q 22 4) rfl (by omega) rfl) (nm_r (nI_1 _) (And.intro hi (nm_r (ic_p s (q 22 2) rfl (by omega) rfl) ?_))))))
    exact h
  unfold wpY_finish
  exact And.intro hi (And.intro (by decide) (pk_eq (q 3 s / 8) 3 (fun e => f23 3 (if_pos e).symm) (fun e => f23 2 (if_neg e).symm) e3 rfl))
theorem ic_Y_r199 {q : Nat → Nat → Nat} {m i : Nat} {post : SY → Prop} (hm : m < 2) (hi : i < 4) (h : post (ic_Y (ic_pu q 17 m ((i + 1) % 4)))) : wY_respond_199 post (nI m) (nI i) (nI (q 22 0)) (nI (q 22 1)) (nI (q 22 2)) (nI (q 22 3)) (nI (q 22 4)) (ic_t (q 0)) (ic_t (q 1)) (ic_t (q 2)) (ic_t (q 3)) (ic_t (q 4)) (ic_t (q 5)) (ic_t (q 6)) (ic_t (q 7)) (ic_t (q 8)) (ic_t (q 9)) (ic_t (q 10)) (ic_t (q 11)) (ic_t (q 12)) (ic_t (q 13)) (ic_t (q 14)) (ic_t (q 15)) (ic_t (q 16)) (ic_t (q 17)) (ic_t (q 18)) (ic_t (q 19)) (ic_t (q 20)) (ic_t (q 21)) := by
  unfold wY_respond_199
  refine And.intro (by decide) (And.intro (vp_in_nI hm (by decide)) (nm_r (ic_p m ((i + 1) % 4) rfl (by omega) (ic_r (i + 1) 4 (nI_1 i) (by omega) (by decide) (by decide))) ?_))
  exact h
theorem ic_Y_r333 {q : Nat → Nat → Nat} {m i : Nat} {post : SY → Prop} (hm : m < 2) (hi : i < 4) (h : post (ic_Y (ic_pu q 18 m ((i + 1) % 4)))) : wY_respond_333 post (nI m) (nI i) (nI (q 22 0)) (nI (q 22 1)) (nI (q 22 2)) (nI (q 22 3)) (nI (q 22 4)) (ic_t (q 0)) (ic_t (q 1)) (ic_t (q 2)) (ic_t (q 3)) (ic_t (q 4)) (ic_t (q 5)) (ic_t (q 6)) (ic_t (q 7)) (ic_t (q 8)) (ic_t (q 9)) (ic_t (q 10)) (ic_t (q 11)) (ic_t (q 12)) (ic_t (q 13)) (ic_t (q 14)) (ic_t (q 15)) (ic_t (q 16)) (ic_t (q 17)) (ic_t (q 18)) (ic_t (q 19)) (ic_t (q 20)) (ic_t (q 21)) := by
  unfold wY_respond_333
  refine And.intro (by decide) (And.intro (vp_in_nI hm (by decide)) (nm_r (ic_p m ((i + 1) % 4) rfl (by omega) (ic_r (i + 1) 4 (nI_1 i) (by omega) (by decide) (by decide))) ?_))
  exact h
theorem ic_Y_r138 {q : Nat → Nat → Nat} {m i s : Nat} {post : SY → Prop} (hm : m < 2) (hi : i < 4) (hs : s < 32) (hA : q 3 s + q 4 s ≤ 24) (h4 : q 4 s ≤ 4)
    (h : post (ic_Y (ic_pu (ic_pf q 12 (ic_stw (q 12) (q 11) (q 3 s) (s * 4) (q 4 s))) 17 m ((i + 1) % 4)))) : ∀ d j : Nat, j + d = q 4 s →
    wY_respond_138 post (nI m) (nI i) (nI s) (nI (q 22 0)) (nI (q 22 1)) (nI (q 22 2)) (nI (q 22 3)) (nI (q 22 4)) (d + 1) (nI j) (ic_t ((ic_pf q 12 (ic_stw (q 12) (q 11) (q 3 s) (s * 4) j)) 0)) (ic_t ((ic_pf q 12 (ic_stw (q 12) (q 11) (q 3 s) (s * 4) j)) 1)) (ic_t ((ic_pf q 12 (ic_stw (q 12) (q 11) (q 3 s) (s * 4) j)) 2)) (ic_t ((ic_pf q 12 (ic_stw (q 12) (q 11) (q 3 s) (s * 4) j)) 3)) (ic_t ((ic_pf q 12 (ic_stw (q 12) (q 11) (q 3 s) (s * 4) j)) 4)) (ic_t ((ic_pf q 12 (ic_stw (q 12) (q 11) (q 3 s) (s * 4) j)) 5)) (ic_t ((ic_pf q 12 (ic_stw (q 12) (q 11) (q 3 s) (s * 4) j)) 6)) (ic_t ((ic_pf q 12 (ic_stw (q 12) (q 11) (q 3 s) (s * 4) j)) 7)) (ic_t ((ic_pf q 12 (ic_stw (q 12) (q 11) (q 3 s) (s * 4) j)) 8)) (ic_t ((ic_pf q 12 (ic_stw (q 12) (q 11) (q 3 s) (s * 4) j)) 9)) (ic_t ((ic_pf q 12 (ic_stw (q 12) (q 11) (q 3 s) (s * 4) j)) 10)) (ic_t ((ic_pf q 12 (ic_stw (q 12) (q 11) (q 3 s) (s * 4) j)) 11)) (ic_t ((ic_pf q 12 (ic_stw (q 12) (q 11) (q 3 s) (s * 4) j)) 12)) (ic_t ((ic_pf q 12 (ic_stw (q 12) (q 11) (q 3 s) (s * 4) j)) 13)) (ic_t ((ic_pf q 12 (ic_stw (q 12) (q 11) (q 3 s) (s * 4) j)) 14)) (ic_t ((ic_pf q 12 (ic_stw (q 12) (q 11) (q 3 s) (s * 4) j)) 15)) (ic_t ((ic_pf q 12 (ic_stw (q 12) (q 11) (q 3 s) (s * 4) j)) 16)) (ic_t ((ic_pf q 12 (ic_stw (q 12) (q 11) (q 3 s) (s * 4) j)) 17)) (ic_t ((ic_pf q 12 (ic_stw (q 12) (q 11) (q 3 s) (s * 4) j)) 18)) (ic_t ((ic_pf q 12 (ic_stw (q 12) (q 11) (q 3 s) (s * 4) j)) 19)) (ic_t ((ic_pf q 12 (ic_stw (q 12) (q 11) (q 3 s) (s * 4) j)) 20)) (ic_t ((ic_pf q 12 (ic_stw (q 12) (q 11) (q 3 s) (s * 4) j)) 21)) := by
  have hi32 : vp_in (nI s) 32 := vp_in_nI hs (by decide)
  intro d
  induction d with
  | zero =>
    intro j e
    refine And.intro hi32 (pk_le (q 4 s) j (fun _ => ?_) (fun z => by omega) (ic_g s rfl (by omega)) rfl)
    have e2 : j = q 4 s := by omega
    subst e2
    exact ic_Y_r199 (q := ic_pf q 12 (ic_stw (q 12) (q 11) (q 3 s) (s * 4) (q 4 s))) hm hi h
  | succ d ih =>
    intro j e
    refine And.intro hi32 (pk_le (q 4 s) j (fun z => by omega) (fun _ => And.intro hi32 ?_) (ic_g s rfl (by omega)) rfl)
    have e4 : nI s * 4 + nI j = nI (s * 4 + j) := ic_ma s 4 j
    refine nm_r (e' := nI (q 3 s + j)) ?_ (br_f (nI_pos (by omega)) (pk_le 24 (q 3 s + j) (fun z => by omega) (fun _ => And.intro (pk_in (s * 4 + j) 128 (by omega) e4) (And.intro (vp_in_nI (by omega) (by decide)) ?_))))
    · rw [ic_g s rfl (by omega), nI_add]; rfl
    · refine nm_r (ic_p (q 3 s + j) (q 11 (s * 4 + j)) rfl (by omega) (ic_g _ e4 (by omega))) (nm_r (nI_1 j) ?_)
      exact ih (j + 1) (by omega)
theorem ic_Y_rw {q : Nat → Nat → Nat} {m i s : Nat} {post : SY → Prop} (hm : m < 2) (hi : i < 4) (hs : s < 32) (h3 : q 3 s < 32) (hA : q 3 s % 8 + q 4 s ≤ 8) (h4 : q 4 s ≤ 4) (h : post (ic_Y (ic_qw q m s i))) : wY_respond_114 post (nI m) 0 (nI i) (nI s) (nI (q 22 0)) (nI (q 22 1)) (nI (q 22 2)) (nI (q 22 3)) (nI (q 22 4)) (ic_t (q 0)) (ic_t (q 1)) (ic_t (q 2)) (ic_t (q 3)) (ic_t (q 4)) (ic_t (q 5)) (ic_t (q 6)) (ic_t (q 7)) (ic_t (q 8)) (ic_t (q 9)) (ic_t (q 10)) (ic_t (q 11)) (ic_t (q 12)) (ic_t (q 13)) (ic_t (q 14)) (ic_t (q 15)) (ic_t (q 16)) (ic_t (q 17)) (ic_t (q 18)) (ic_t (q 19)) (ic_t (q 20)) (ic_t (q 21)) := by
  have hi32 : vp_in (nI s) 32 := vp_in_nI hs (by decide)
  have v : ic_qf q s 5 s = if q 3 s / 8 = 3 then 3 else 2 := ic_us
  have v3 : ic_qf q s 5 s ≤ 3 := by rw [v]; split <;> omega
  unfold wY_respond_114
  refine br_t rfl (ic_Y_finish (q := q) hs h3 ?_)
  unfold ic_qw at h
  refine And.intro hi32 (ek_if (ic_ce (f := ic_qf q s 5) s 2 rfl rfl (by omega) (by omega) (by decide)) (fun e => ?_) (fun e => ?_))
  · have e2 : ¬ q 3 s / 8 = 3 := by
      intro z
      rw [v, if_pos z] at e
      omega
    rw [if_neg e2] at h
    exact ⟨_, ic_Y_r138 (q := ic_qf q s) hm hi hs (by show q 3 s + q 4 s ≤ 24; omega) h4 h (q 4 s) 0 (by show 0 + q 4 s = q 4 s; omega)⟩
  · have e2 : q 3 s / 8 = 3 := by
      by_cases z : q 3 s / 8 = 3
      · exact z
      · rw [v, if_neg z] at e
        omega
    rw [if_pos e2] at h
    exact ic_Y_r199 (q := ic_qf q s) hm hi h
theorem ic_Y_r272 {q : Nat → Nat → Nat} {m i s x : Nat} {post : SY → Prop} (hm : m < 2) (hi : i < 4) (hs : s < 32) (h3 : q 3 s < 32) (hB : q 8 s < q 4 s) (h4 : q 4 s ≤ 4) (h : post (ic_Y (ic_qr q m s i x))) : wY_respond_272 post (nI m) (nI i) (nI s) (nI (q 8 s)) (nI x) (nI (q 22 0)) (nI (q 22 1)) (nI (q 22 2)) (nI (q 22 3)) (nI (q 22 4)) (ic_t (q 0)) (ic_t (q 1)) (ic_t (q 2)) (ic_t (q 3)) (ic_t (q 4)) (ic_t (q 5)) (ic_t (q 6)) (ic_t (q 7)) (ic_t (q 8)) (ic_t (q 9)) (ic_t (q 10)) (ic_t (q 11)) (ic_t (q 12)) (ic_t (q 13)) (ic_t (q 14)) (ic_t (q 15)) (ic_t (q 16)) (ic_t (q 17)) (ic_t (q 18)) (ic_t (q 19)) (ic_t (q 20)) (ic_t (q 21)) := by
  have hi32 : vp_in (nI s) 32 := vp_in_nI hs (by decide)
  have e4 : nI s * 4 + nI (q 8 s) = nI (s * 4 + q 8 s) := ic_ma s 4 (q 8 s)
  unfold wY_respond_272
  refine br_f (nI_pos (by omega)) (pk_le 4 (q 8 s) (fun z => by omega) (fun _ => And.intro (pk_in (s * 4 + q 8 s) 128 (by omega) e4) (nm_r (ic_p _ x e4 (by omega) rfl) ?_)))
  unfold wY_respond_299
  refine And.intro hi32 (nm_r (ic_p s (q 8 s + 1) rfl (by omega) (nI_1 _)) (And.intro hi32 (And.intro hi32 ?_)))
  have g1 : ic_t (ic_u (q 8) s (q 8 s + 1)) (nI s).toNatClampNeg = nI (q 8 s + 1) := by rw [ic_g s rfl (by omega), ic_us]
  unfold ic_qr at h
  refine pk_lt (q 8 s + 1) (q 4 s) (fun z => ?_) (fun z => ?_) g1 (ic_g s rfl (by omega))
  · rw [if_neg (by omega)] at h
    exact ic_Y_r333 (q := ic_qb q s x) hm hi h
  · rw [if_pos (by omega)] at h
    refine ic_Y_finish (q := ic_qb q s x) hs h3 ?_
    exact ic_Y_r333 (q := ic_qf (ic_qb q s x) s) hm hi h
theorem ic_Y_rr {q : Nat → Nat → Nat} {m i s x : Nat} {post : SY → Prop} (hm : m < 2) (hi : i < 4) (hs : s < 32) (h3 : q 3 s < 32) (hA : q 3 s % 8 + q 4 s ≤ 8) (hB : q 8 s < q 4 s) (h4 : q 4 s ≤ 4) (hx : x = if q 3 s / 8 = 3 then 0 else q 12 (q 3 s + q 8 s)) (h : post (ic_Y (ic_qr q m s i x))) : wY_respond_114 post (nI m) 1 (nI i) (nI s) (nI (q 22 0)) (nI (q 22 1)) (nI (q 22 2)) (nI (q 22 3)) (nI (q 22 4)) (ic_t (q 0)) (ic_t (q 1)) (ic_t (q 2)) (ic_t (q 3)) (ic_t (q 4)) (ic_t (q 5)) (ic_t (q 6)) (ic_t (q 7)) (ic_t (q 8)) (ic_t (q 9)) (ic_t (q 10)) (ic_t (q 11)) (ic_t (q 12)) (ic_t (q 13)) (ic_t (q 14)) (ic_t (q 15)) (ic_t (q 16)) (ic_t (q 17)) (ic_t (q 18)) (ic_t (q 19)) (ic_t (q 20)) (ic_t (q 21)) := by
  have hi32 : vp_in (nI s) 32 := vp_in_nI hs (by decide)
  have e3 : ic_t (q 3) (nI s).toNatClampNeg / 8 = nI (q 3 s / 8) := by
    rw [ic_g s rfl (by omega)]
    exact pk_div (d := 8) (by omega) (by decide) (by decide)
  unfold wY_respond_114
  refine br_f (by decide) (And.intro hi32 (nm_r (ic_g s rfl (by omega)) (And.intro hi32 (nm_r (e' := nI (q 3 s + q 8 s)) (by rw [ic_g s rfl (by omega), nI_add]) (And.intro hi32 (And.intro (by decide) ?_))))))
  refine pk_eq (q 3 s / 8) 3 (fun e => ?_) (fun e => ?_) e3 rfl
  · rw [if_pos e] at hx
    subst hx
    unfold wY_respond_261
    exact ic_Y_r272 (x := 0) hm hi hs h3 hB h4 h
  · rw [if_neg e] at hx
    subst hx
    refine br_f (nI_pos (by omega)) (pk_le (q 3 s + q 8 s) 23 (fun z => And.intro (vp_in_nI (by omega) (by decide)) ?_) (fun z => by omega))
    rw [ic_g (q 3 s + q 8 s) rfl (by omega)]
    exact ic_Y_r272 hm hi hs h3 hB h4 h
theorem ic_Y_r23 {p q : Nat → Nat → Nat} {m k : Nat} {post : SY → Prop} (hl : ic_Lnk p q) (hI : ic_Inv p) (hT : p 25 3 < 2 ^ 30) (hC : p 25 2 < 2 ^ 30) (hm : m < 2) (hk : k < 2) : ∀ d j : Nat, j + d = 4 →
    (ic_chl p (m * 2 + (1 - k)) d j = none → post (ic_Y q)) → (∀ s, ic_chl p (m * 2 + (1 - k)) d j = some s → s < p 25 3 → wY_respond_114 post (nI m) (nI k) (nI (p 2 s)) (nI s) (nI (q 22 0)) (nI (q 22 1)) (nI (q 22 2)) (nI (q 22 3)) (nI (q 22 4)) (ic_t (q 0)) (ic_t (q 1)) (ic_t (q 2)) (ic_t (q 3)) (ic_t (q 4)) (ic_t (q 5)) (ic_t (q 6)) (ic_t (q 7)) (ic_t (q 8)) (ic_t (q 9)) (ic_t (q 10)) (ic_t (q 11)) (ic_t (q 12)) (ic_t (q 13)) (ic_t (q 14)) (ic_t (q 15)) (ic_t (q 16)) (ic_t (q 17)) (ic_t (q 18)) (ic_t (q 19)) (ic_t (q 20)) (ic_t (q 21))) →
    wY_respond_23 post (nI m) (nI k) (nI (p 22 (m * 2 + (1 - k)))) (nI (q 22 0)) (nI (q 22 1)) (nI (q 22 2)) (nI (q 22 3)) (nI (q 22 4)) (ic_t (q 0)) (ic_t (q 1)) (ic_t (q 2)) (ic_t (q 3)) (ic_t (q 4)) (ic_t (q 5)) (ic_t (q 6)) (ic_t (q 7)) (ic_t (q 8)) (ic_t (q 9)) (ic_t (q 10)) (ic_t (q 11)) (ic_t (q 12)) (ic_t (q 13)) (ic_t (q 14)) (ic_t (q 15)) (ic_t (q 16)) (ic_t (q 17)) (ic_t (q 18)) (ic_t (q 19)) (ic_t (q 20)) (ic_t (q 21)) (d + 1) (nI j) := by
  have e2 : q 22 2 = p 25 2 := hl.2.2.2.2.2.2 2 (by decide)
  intro d
  induction d with
  | zero =>
    intro j hj hn _
    exact pk_le 4 j (fun _ => hn rfl) (fun h => by omega)
  | succ d ih =>
    intro j hj hn hs
    have h22 := (hI.2.2.2.2.2.2.1 (m * 2 + (1 - k)) (by omega)).1
    refine pk_le 4 j (fun h => by omega) (fun h => And.intro (by decide) ?_)
    refine nm_r (ic_r (p 22 (m * 2 + (1 - k)) + j) 4 (nI_add _ _) (by omega) (by decide) (by decide)) ?_
    have nx : (ic_chl p (m * 2 + (1 - k)) (d + 1) j = ic_chl p (m * 2 + (1 - k)) d (j + 1)) → wY_respond_23 post (nI m) (nI k) (nI (p 22 (m * 2 + (1 - k)))) (nI (q 22 0)) (nI (q 22 1)) (nI (q 22 2)) (nI (q 22 3)) (nI (q 22 4)) (ic_t (q 0)) (ic_t (q 1)) (ic_t (q 2)) (ic_t (q 3)) (ic_t (q 4)) (ic_t (q 5)) (ic_t (q 6)) (ic_t (q 7)) (ic_t (q 8)) (ic_t (q 9)) (ic_t (q 10)) (ic_t (q 11)) (ic_t (q 12)) (ic_t (q 13)) (ic_t (q 14)) (ic_t (q 15)) (ic_t (q 16)) (ic_t (q 17)) (ic_t (q 18)) (ic_t (q 19)) (ic_t (q 20)) (ic_t (q 21)) (d + 1) (nI (j + 1)) := fun e =>
      ih (j + 1) (by omega) (fun z => hn (by rw [e]; exact z)) (fun s z => hs s (by rw [e]; exact z))
    refine ic_Y_oldestOpen hl hI.1 hT hm hk (by omega) (fun ho => ?_) (fun s t ho g ht et => ?_)
    · refine br_f (by decide) (nm_r (nI_1 j) (nx ?_))
      show (match ic_old p (m * 2 + (1 - k)) ((p 22 (m * 2 + (1 - k)) + j) % 4) with | none => ic_chl p (m * 2 + (1 - k)) d (j + 1) | some s => if ic_eli p s = true then some s else ic_chl p (m * 2 + (1 - k)) d (j + 1)) = _
      rw [ho]
    · have h32 := (ic_ff_ps ho).1
      have hp := of_decide_eq_true (ic_ff_ps ho).2
      have ec : ic_chl p (m * 2 + (1 - k)) (d + 1) j = if ic_eli p s = true then some s else ic_chl p (m * 2 + (1 - k)) d (j + 1) := by
        show (match ic_old p (m * 2 + (1 - k)) ((p 22 (m * 2 + (1 - k)) + j) % 4) with | none => ic_chl p (m * 2 + (1 - k)) d (j + 1) | some s => if ic_eli p s = true then some s else ic_chl p (m * 2 + (1 - k)) d (j + 1)) = _
        rw [ho]
      have N : ¬ (p 0 s = 1 ∧ (p 1 s % 2 = 0 ∨ p 5 s = p 4 s) ∧ p 7 s ≤ p 25 2) → wY_respond_23 post (nI m) (nI k) (nI (p 22 (m * 2 + (1 - k)))) (nI (q 22 0)) (nI (q 22 1)) (nI (q 22 2)) (nI (q 22 3)) (nI (q 22 4)) (ic_t (q 0)) (ic_t (q 1)) (ic_t (q 2)) (ic_t (q 3)) (ic_t (q 4)) (ic_t (q 5)) (ic_t (q 6)) (ic_t (q 7)) (ic_t (q 8)) (ic_t (q 9)) (ic_t (q 10)) (ic_t (q 11)) (ic_t (q 12)) (ic_t (q 13)) (ic_t (q 14)) (ic_t (q 15)) (ic_t (q 16)) (ic_t (q 17)) (ic_t (q 18)) (ic_t (q 19)) (ic_t (q 20)) (ic_t (q 21)) (d + 1) (nI (j + 1)) := fun z =>
        nx (by rw [ec, if_neg (show ¬ ic_eli p s = true from fun w => z (of_decide_eq_true w))])
      have G : (p 0 s = 1 ∧ (p 1 s % 2 = 0 ∨ p 5 s = p 4 s) ∧ p 7 s ≤ p 25 2) → wY_respond_114 post (nI m) (nI k) (nI ((p 22 (m * 2 + (1 - k)) + j) % 4)) (nI s) (nI (q 22 0)) (nI (q 22 1)) (nI (q 22 2)) (nI (q 22 3)) (nI (q 22 4)) (ic_t (q 0)) (ic_t (q 1)) (ic_t (q 2)) (ic_t (q 3)) (ic_t (q 4)) (ic_t (q 5)) (ic_t (q 6)) (ic_t (q 7)) (ic_t (q 8)) (ic_t (q 9)) (ic_t (q 10)) (ic_t (q 11)) (ic_t (q 12)) (ic_t (q 13)) (ic_t (q 14)) (ic_t (q 15)) (ic_t (q 16)) (ic_t (q 17)) (ic_t (q 18)) (ic_t (q 19)) (ic_t (q 20)) (ic_t (q 21)) := fun z => by
        have r := hs s (by rw [ec, if_pos (show ic_eli p s = true from decide_eq_true z)]) g
        rw [hp.2.1] at r
        exact r
      have hL := hI.1 s h32
      have hM := hl.1 s h32 g
      unfold ic_L at hL
      unfold ic_M at hM
      have hi32 : vp_in (nI s) 32 := vp_in_nI h32 (by decide)
      refine br_t (nI_pos' (by omega)) (nm_r (e' := nI s) (by rw [ic_sl (by omega), et]) (And.intro hi32 ?_))
      refine ek_if (ic_ce s 1 rfl rfl (by omega) (by omega) (by decide)) (fun a => And.intro hi32 ?_) (fun a => nm_r (nI_1 j) (N (by omega)))
      by_cases r : p 1 s % 2 = 0 ∨ p 5 s = p 4 s
      · have e7 : q 7 s = p 7 s := (hM.2.2.1 (by omega)).2 r
        refine pk_le (p 7 s) (p 25 2) (fun b => ?_) (fun b => nm_r (nI_1 j) (N (by omega))) (by rw [ic_g s rfl (by omega), e7]) (by rw [e2])
        refine pk_eq k 0 (fun c => ?_) (fun c => G (by omega))
        refine And.intro hi32 (And.intro hi32 (pk_le (q 4 s) (q 8 s) (fun z => G (by omega)) (fun z => by omega) (ic_g s rfl (by omega)) (ic_g s rfl (by omega))))
      · refine br_c (fun b => ?_) (fun b => nm_r (nI_1 j) (N (by omega)))
        refine pk_eq k 0 (fun c => ?_) (fun c => by omega)
        refine And.intro hi32 (And.intro hi32 (pk_le (q 4 s) (q 8 s) (fun z => by omega) (fun z => nm_r (nI_1 j) (N (by omega))) (ic_g s rfl (by omega)) (ic_g s rfl (by omega))))
theorem ic_cho_r {p : Nat → Nat → Nat} {c : Nat} (h : p 23 c ≠ 0) : ic_cho p c = ic_chl p c 4 0 := by unfold ic_cho; rw [if_neg h]
theorem ic_Y_wr {p q : Nat → Nat → Nat} {m : Nat} {post : SY → Prop} (hl : ic_Lnk p q) (hI : ic_Inv p) (hT : p 25 3 < 2 ^ 30) (hC : p 25 2 < 2 ^ 30) (hm : m < 2) (hr : p 23 (m * 2 + 1) ≠ 0) (h : ∀ q', ic_Lnk (ic_wr p (m * 2 + 1)) q' → post (ic_Y q')) : wpY_respond post (ic_Y q) (nI m) 0 := by
  have e17 : q 17 m = p 22 (m * 2 + 1) := (hl.2.2.2.2.1 m hm).1
  unfold wpY_respond
  refine br_t rfl (And.intro (vp_in_nI hm (by decide)) (nm_r (e' := nI (p 22 (m * 2 + 1))) (by rw [ic_g m rfl (by omega), e17]) ⟨5, ?_⟩))
  unfold ic_wr at h
  rw [ic_cho_r hr] at h
  refine ic_Y_r23 (k := 0) hl hI hT hC hm (by decide) 4 0 rfl (fun e => ?_) (fun s e g => ?_)
  · have e' : ic_chl p (m * 2 + 1) 4 0 = none := e
    rw [e'] at h
    exact h q hl
  · have e' : ic_chl p (m * 2 + 1) 4 0 = some s := e
    rw [e'] at h
    dsimp only at h
    obtain ⟨hs, hH, h1, hB, _⟩ := ic_chl_ps 4 0 s e'
    have hL := hI.1 s hs
    have hM := hl.1 s hs g
    unfold ic_L at hL
    unfold ic_M at hM
    exact ic_Y_rw hm (by omega) hs (by omega) (by rw [hM.1.2.2.2.1, hM.1.2.2.2.2]; omega) (by omega) (h _ (ic_Lnk_wr hl hs g (by omega)))
theorem ic_Y_rd {p q : Nat → Nat → Nat} {m : Nat} {post : SY → Prop} (hl : ic_Lnk p q) (hI : ic_Inv p) (hT : p 25 3 < 2 ^ 30) (hC : p 25 2 < 2 ^ 30) (hm : m < 2) (hr : p 23 (m * 2) ≠ 0) (h : ∀ q', ic_Lnk (ic_rd p (m * 2)) q' → post (ic_Y q')) : wpY_respond post (ic_Y q) (nI m) 1 := by
  have e18 : q 18 m = p 22 (m * 2) := (hl.2.2.2.2.1 m hm).2.1
  unfold wpY_respond
  refine br_f (by decide) (And.intro (vp_in_nI hm (by decide)) (nm_r (e' := nI (p 22 (m * 2))) (by rw [ic_g m rfl (by omega), e18]) ⟨5, ?_⟩))
  unfold ic_rd at h
  rw [ic_cho_r hr] at h
  refine ic_Y_r23 (k := 1) hl hI hT hC hm (by decide) 4 0 rfl (fun e => ?_) (fun s e g => ?_)
  · have e' : ic_chl p (m * 2) 4 0 = none := e
    rw [e'] at h
    exact h q hl
  · have e' : ic_chl p (m * 2) 4 0 = some s := e
    rw [e'] at h
    dsimp only at h
    obtain ⟨hs, hH, h1, hB, _⟩ := ic_chl_ps 4 0 s e'
    have hL := hI.1 s hs
    have hM := hl.1 s hs g
    unfold ic_L at hL
    unfold ic_M at hM
    refine ic_Y_rr (x := if p 3 s / 8 = 3 then 0 else p 17 (p 3 s + p 5 s)) hm (by omega) hs (by omega) (by rw [hM.1.2.2.2.1, hM.1.2.2.2.2]; omega) (by omega) (by omega) ?_ (h _ (ic_Lnk_rd hl hI.1 hs g h1 (by omega)))
    rw [hM.1.2.2.2.1, hM.2.1.2, hl.2.2.2.1.1]
