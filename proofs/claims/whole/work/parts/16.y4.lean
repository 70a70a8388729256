/-! the reference: write data, arbitration -/
theorem ic_Y_153 {q : Nat → Nat → Nat} {m s b : Nat} {post : SY → Prop} (hm : m < 2) (hs : s < 32) (hb : q 8 s = b) (hb4 : b < 4) (h14 : 1 ≤ q 14 m) (h4 : q 4 s ≤ 4)
    (h : post (ic_Y (if b + 1 = q 4 s then ic_pu (ic_pu (ic_pu (ic_pf q 13 (ic_shf (q 13) (m * 8) 7)) 14 m (q 14 m - 1)) 8 s (b + 1)) 7 s (q 22 2 + q 6 s) else ic_pu (ic_pu (ic_pf q 13 (ic_shf (q 13) (m * 8) 7)) 14 m (q 14 m - 1)) 8 s (b + 1)))) : ∀ d j : Nat, j + d = 7 →
    wY_moveData_153 post (nI m) (nI s) (nI b) (nI (q 22 0)) (nI (q 22 1)) (nI (q 22 2)) (nI (q 22 3)) (nI (q 22 4)) (d + 1) (nI j) (ic_t ((ic_pf q 13 (ic_shf (q 13) (m * 8) j)) 0)) (ic_t ((ic_pf q 13 (ic_shf (q 13) (m * 8) j)) 1)) (ic_t ((ic_pf q 13 (ic_shf (q 13) (m * 8) j)) 2)) (ic_t ((ic_pf q 13 (ic_shf (q 13) (m * 8) j)) 3)) (ic_t ((ic_pf q 13 (ic_shf (q 13) (m * 8) j)) 4)) (ic_t ((ic_pf q 13 (ic_shf (q 13) (m * 8) j)) 5)) (ic_t ((ic_pf q 13 (ic_shf (q 13) (m * 8) j)) 6)) (ic_t ((ic_pf q 13 (ic_shf (q 13) (m * 8) j)) 7)) (ic_t ((ic_pf q 13 (ic_shf (q 13) (m * 8) j)) 8)) (ic_t ((ic_pf q 13 (ic_shf (q 13) (m * 8) j)) 9)) (ic_t ((ic_pf q 13 (ic_shf (q 13) (m * 8) j)) 10)) (ic_t ((ic_pf q 13 (ic_shf (q 13) (m * 8) j)) 11)) (ic_t ((ic_pf q 13 (ic_shf (q 13) (m * 8) j)) 12)) (ic_t ((ic_pf q 13 (ic_shf (q 13) (m * 8) j)) 13)) (ic_t ((ic_pf q 13 (ic_shf (q 13) (m * 8) j)) 14)) (ic_t ((ic_pf q 13 (ic_shf (q 13) (m * 8) j)) 15)) (ic_t ((ic_pf q 13 (ic_shf (q 13) (m * 8) j)) 16)) (ic_t ((ic_pf q 13 (ic_shf (q 13) (m * 8) j)) 17)) (ic_t ((ic_pf q 13 (ic_shf (q 13) (m * 8) j)) 18)) (ic_t ((ic_pf q 13 (ic_shf (q 13) (m * 8) j)) 19)) (ic_t ((ic_pf q 13 (ic_shf (q 13) (m * 8) j)) 20)) (ic_t ((ic_pf q 13 (ic_shf (q 13) (m * 8) j)) 21)) := by
  have hi32 : vp_in (nI s) 32 := vp_in_nI hs (by decide)
  have hi2 : vp_in (nI m) 2 := vp_in_nI hm (by decide)
  intro d
  induction d with
  | zero =>
    intro j e
    have e2 : j = 7 := by omega
    subst e2
    refine pk_le 7 7 (fun _ => ?_) (fun z => by omega)
    refine And.intro hi2 (And.intro hi2 (nm_r (ic_p m (q 14 m - 1) rfl (by omega) (ic_dec m rfl (by omega) h14)) (And.intro hi32 (nm_r (ic_p s (b + 1) rfl (by omega) (nI_1 b)) (And.intro hi32 (And.intro hi32 ?_))))))
    refine ek_if (ic_ce s (q 4 s) rfl (ic_g s rfl (by omega)) (by omega) (by rw [ic_us]; omega) (by omega)) (fun z => ?_) (fun z => ?_)
    · rw [ic_us] at z
      rw [if_pos z] at h
      refine And.intro hi32 (And.intro hi32 (nm_r (ic_p s (q 22 2 + q 6 s) rfl (by omega) (by rw [ic_g s rfl (by omega), nI_add]; rfl)) ?_))
      exact h
    · rw [ic_us] at z
      rw [if_neg z] at h
      exact h
  | succ d ih =>
    intro j e
    have e8 : nI m * 8 + nI j = nI (m * 8 + j) := ic_ma m 8 j
    have e9 : nI m * 8 + nI j + 1 = nI (m * 8 + j + 1) := by rw [e8]; exact nI_1 _
    refine pk_le 7 j (fun z => by omega) (fun _ => And.intro (pk_in (m * 8 + j + 1) 16 (by omega) e9) (And.intro (pk_in (m * 8 + j) 16 (by omega) e8) ?_))
    refine nm_r ((ic_p (m * 8 + j) (ic_shf (q 13) (m * 8) j (m * 8 + j + 1)) e8 (by omega) (ic_g _ e9 (by omega))).trans (congrArg ic_t (ic_shf_s (q 13) (m * 8) j))) (nm_r (nI_1 j) ?_)
    exact ih (j + 1) (by omega)
theorem ic_Y_md {p q : Nat → Nat → Nat} {m : Nat} {post : SY → Prop} (hl : ic_Lnk p q) (hI : ic_J1 p) (hT : p 25 3 < 2 ^ 30) (hm : m < 2) : ∀ d j : Nat, j + d = 32 →
    (ic_ff (p 25 3) (ic_unp p m) d j = none → wY_moveData_91 post (nI m) (-1) (nI (q 22 0)) (nI (q 22 1)) (nI (q 22 2)) (nI (q 22 3)) (nI (q 22 4)) (ic_t (q 0)) (ic_t (q 1)) (ic_t (q 2)) (ic_t (q 3)) (ic_t (q 4)) (ic_t (q 5)) (ic_t (q 6)) (ic_t (q 7)) (ic_t (q 8)) (ic_t (q 9)) (ic_t (q 10)) (ic_t (q 11)) (ic_t (q 12)) (ic_t (q 13)) (ic_t (q 14)) (ic_t (q 15)) (ic_t (q 16)) (ic_t (q 17)) (ic_t (q 18)) (ic_t (q 19)) (ic_t (q 20)) (ic_t (q 21))) → (∀ s, ic_ff (p 25 3) (ic_unp p m) d j = some s → s < p 25 3 → wY_moveData_91 post (nI m) (nI s) (nI (q 22 0)) (nI (q 22 1)) (nI (q 22 2)) (nI (q 22 3)) (nI (q 22 4)) (ic_t (q 0)) (ic_t (q 1)) (ic_t (q 2)) (ic_t (q 3)) (ic_t (q 4)) (ic_t (q 5)) (ic_t (q 6)) (ic_t (q 7)) (ic_t (q 8)) (ic_t (q 9)) (ic_t (q 10)) (ic_t (q 11)) (ic_t (q 12)) (ic_t (q 13)) (ic_t (q 14)) (ic_t (q 15)) (ic_t (q 16)) (ic_t (q 17)) (ic_t (q 18)) (ic_t (q 19)) (ic_t (q 20)) (ic_t (q 21))) →
    wY_moveData_4 post (nI m) (nI (q 22 0)) (nI (q 22 1)) (nI (q 22 2)) (nI (q 22 3)) (nI (q 22 4)) (ic_t (q 0)) (ic_t (q 1)) (ic_t (q 2)) (ic_t (q 3)) (ic_t (q 4)) (ic_t (q 5)) (ic_t (q 6)) (ic_t (q 7)) (ic_t (q 8)) (ic_t (q 9)) (ic_t (q 10)) (ic_t (q 11)) (ic_t (q 12)) (ic_t (q 13)) (ic_t (q 14)) (ic_t (q 15)) (ic_t (q 16)) (ic_t (q 17)) (ic_t (q 18)) (ic_t (q 19)) (ic_t (q 20)) (ic_t (q 21)) (d + 1) (-1) (nI j) := by
  have eT : q 22 3 = p 25 3 := hl.2.2.2.2.2.2 3 (by decide)
  intro d
  induction d with
  | zero =>
    intro j hj hn _
    exact pk_le 32 j (fun _ => hn rfl) (fun h => by omega)
  | succ d ih =>
    intro j hj hn hs
    refine pk_le 32 j (fun h => by omega) (fun hj32 => br_f (by decide) ?_)
    have K : ¬ ic_unp p m ((p 25 3 + j) % 32) = true → wY_moveData_4 post (nI m) (nI (q 22 0)) (nI (q 22 1)) (nI (q 22 2)) (nI (q 22 3)) (nI (q 22 4)) (ic_t (q 0)) (ic_t (q 1)) (ic_t (q 2)) (ic_t (q 3)) (ic_t (q 4)) (ic_t (q 5)) (ic_t (q 6)) (ic_t (q 7)) (ic_t (q 8)) (ic_t (q 9)) (ic_t (q 10)) (ic_t (q 11)) (ic_t (q 12)) (ic_t (q 13)) (ic_t (q 14)) (ic_t (q 15)) (ic_t (q 16)) (ic_t (q 17)) (ic_t (q 18)) (ic_t (q 19)) (ic_t (q 20)) (ic_t (q 21)) (d + 1) (-1) (nI (j + 1)) := fun h =>
      ih (j + 1) (by omega) (fun z => hn (by rw [ic_ff_f h]; exact z)) (fun s z => hs s (by rw [ic_ff_f h]; exact z))
    by_cases h32 : 32 ≤ p 25 3 + j
    · obtain ⟨g1, g2, g3, g4⟩ := ic_plc hj32 h32
      have F : ic_unp p m ((p 25 3 + j) % 32) = true → wY_moveData_91 post (nI m) (nI ((p 25 3 + j) % 32)) (nI (q 22 0)) (nI (q 22 1)) (nI (q 22 2)) (nI (q 22 3)) (nI (q 22 4)) (ic_t (q 0)) (ic_t (q 1)) (ic_t (q 2)) (ic_t (q 3)) (ic_t (q 4)) (ic_t (q 5)) (ic_t (q 6)) (ic_t (q 7)) (ic_t (q 8)) (ic_t (q 9)) (ic_t (q 10)) (ic_t (q 11)) (ic_t (q 12)) (ic_t (q 13)) (ic_t (q 14)) (ic_t (q 15)) (ic_t (q 16)) (ic_t (q 17)) (ic_t (q 18)) (ic_t (q 19)) (ic_t (q 20)) (ic_t (q 21)) := fun h => hs _ (ic_ff_t h) g1
      refine nm_r (ic_tt' eT h32) (ic_Y_validT (q := q) eT hT g3 g4 (br_f (by decide) (nm_r (ic_t31 hT hj32 h32) ?_)))
      have hs32 : (p 25 3 + j) % 32 < 32 := by omega
      have hL := hI _ hs32
      have hM := hl.1 _ hs32 g1
      generalize (p 25 3 + j) % 32 = s at *
      unfold ic_L at hL
      unfold ic_M at hM
      have hi32 : vp_in (nI s) 32 := vp_in_nI hs32 (by decide)
      have N : ¬ (p 1 s = m * 2 + 1 ∧ p 5 s < p 4 s) → wY_moveData_4 post (nI m) (nI (q 22 0)) (nI (q 22 1)) (nI (q 22 2)) (nI (q 22 3)) (nI (q 22 4)) (ic_t (q 0)) (ic_t (q 1)) (ic_t (q 2)) (ic_t (q 3)) (ic_t (q 4)) (ic_t (q 5)) (ic_t (q 6)) (ic_t (q 7)) (ic_t (q 8)) (ic_t (q 9)) (ic_t (q 10)) (ic_t (q 11)) (ic_t (q 12)) (ic_t (q 13)) (ic_t (q 14)) (ic_t (q 15)) (ic_t (q 16)) (ic_t (q 17)) (ic_t (q 18)) (ic_t (q 19)) (ic_t (q 20)) (ic_t (q 21)) (d + 1) (-1) (nI (j + 1)) := fun z => K (fun w => z (of_decide_eq_true w))
      refine And.intro hi32 (ek_if (ic_ce s m rfl rfl (by omega) (by omega) (by omega)) (fun a => ?_) (fun a => nm_r (nI_1 j) (N (by omega))))
      refine And.intro hi32 (ek_if (ic_ce s 0 rfl rfl (by omega) (by omega) (by omega)) (fun b => ?_) (fun b => nm_r (nI_1 j) (N (by omega))))
      refine And.intro hi32 (And.intro hi32 (pk_le (q 4 s) (q 8 s) (fun c => nm_r (nI_1 j) (N (by omega))) (fun c => nm_r (nI_1 j) ?_) (ic_g s rfl (by omega)) (ic_g s rfl (by omega))))
      have f := F (decide_eq_true (by omega))
      exact br_c (fun _ => f) (fun _ => br_t (nI_pos' (by omega)) f)
    · have hu := (ic_pln hI h32).2
      refine nm_e (ic_Y_validN (q := q) (ic_tn' eT h32) (br_t rfl (nm_r (nI_1 j) (K (fun z => ?_)))))
      have := (of_decide_eq_true z).2
      omega
theorem ic_Y_mv {p q : Nat → Nat → Nat} {m : Nat} {post : SY → Prop} (hl : ic_Lnk p q) (hI : ic_Inv p) (hT : p 25 3 < 2 ^ 30) (hm : m < 2) (h : ∀ q', ic_Lnk (ic_mv p m) q' → post (ic_Y q')) : wpY_moveData post (ic_Y q) (nI m) := by
  unfold wpY_moveData
  unfold ic_mv at h
  have e14 : q 14 m = p 16 m := (hl.2.2.1 m hm).1
  have h16 := hI.2.2.2.1 m hm
  have hi2 : vp_in (nI m) 2 := vp_in_nI hm (by decide)
  refine ⟨33, ic_Y_md hl hI.1 hT hm 32 0 rfl (fun e => ?_) (fun s e g => ?_)⟩
  · have e' : ic_unf p m = none := e
    rw [e'] at h
    unfold wY_moveData_91
    exact br_t (by decide) (h q hl)
  · have e' : ic_unf p m = some s := e
    rw [e'] at h
    dsimp only at h
    obtain ⟨hs, hH, h5⟩ := ic_unf_ps e'
    have hL := hI.1 s hs
    have hM := hl.1 s hs g
    unfold ic_L at hL
    unfold ic_M at hM
    have hi32 : vp_in (nI s) 32 := vp_in_nI hs (by decide)
    unfold wY_moveData_91
    refine br_f (nI_pos (by omega)) (And.intro hi32 ?_)
    refine ek_if (ic_ce s 1 rfl rfl (by omega) (by omega) (by decide)) (fun a => And.intro hi2 ?_) (fun a => ?_)
    · refine pk_lt 0 (q 14 m) (fun b => And.intro hi32 (nm_r (ic_g s rfl (by omega)) ?_)) (fun b => ?_) rfl (ic_g m rfl (by omega))
      · rw [if_pos ⟨by omega, by omega⟩] at h
        have e4 : nI s * 4 + nI (q 8 s) = nI (s * 4 + q 8 s) := ic_ma s 4 (q 8 s)
        have e8 : nI m * 8 = nI (m * 8) := pk_mul m 8
        refine br_f (nI_pos (by omega)) (pk_le 4 (q 8 s) (fun z => by omega) (fun _ => And.intro (pk_in (m * 8) 16 (by omega) e8) (And.intro (pk_in (s * 4 + q 8 s) 128 (by omega) e4) (nm_r (ic_p _ (q 13 (m * 8)) e4 (by omega) (ic_g _ e8 (by omega))) ⟨8, ?_⟩))))
        have hq := h _ (ic_Lnk_mv hl hI.1 hI.2.2.2 hm hs g (by omega) (by omega) h5 (by omega))
        have r := ic_Y_153 (q := ic_pu q 11 (s * 4 + q 8 s) (q 13 (m * 8))) (post := post) hm hs (b := q 8 s) rfl (by omega) (by show 1 ≤ q 14 m; omega) (by show q 4 s ≤ 4; omega) hq 7 0 rfl
        rw [ic_shf_0] at r
        exact r
      · rw [if_neg (by omega)] at h
        exact h q hl
    · rw [if_neg (by omega)] at h
      exact h q hl
theorem ic_Y_116 {q : Nat → Nat → Nat} {s k b l w : Nat} {post : SY → Prop} (hs : s < 4) (hk : k < 2) (hb : b < 32) (hw : w < 2) (h : post (ic_Y (ic_qa q s (1 - k) b l w))) : wY_arbitrate_116 post (nI s) (nI k) (nI w) (nI b) (nI l) (nI (q 22 0)) (nI (q 22 1)) (nI (q 22 2)) (nI (q 22 3)) (nI (q 22 4)) (ic_t (q 0)) (ic_t (q 1)) (ic_t (q 2)) (ic_t (q 3)) (ic_t (q 4)) (ic_t (q 5)) (ic_t (q 6)) (ic_t (q 7)) (ic_t (q 8)) (ic_t (q 9)) (ic_t (q 10)) (ic_t (q 11)) (ic_t (q 12)) (ic_t (q 13)) (ic_t (q 14)) (ic_t (q 15)) (ic_t (q 16)) (ic_t (q 17)) (ic_t (q 18)) (ic_t (q 19)) (ic_t (q 20)) (ic_t (q 21)) := by
  have hi32 : vp_in (nI b) 32 := vp_in_nI hb (by decide)
  have hi4 : vp_in (nI s) 4 := vp_in_nI hs (by decide)
  have e2 : nI s * 2 + nI k = nI (s * 2 + k) := ic_ma s 2 k
  unfold ic_qa at h
  rw [show s * 2 + (1 - (1 - k)) = s * 2 + k from by omega] at h
  unfold wY_arbitrate_116
  refine And.intro hi4 (And.intro hi4 (nm_r (ic_p s (q 16 s + 1) rfl (by omega) (ic_inc s rfl (by omega))) (And.intro hi32 (nm_r (ic_p b 1 rfl (by omega) rfl) (And.intro hi32 (nm_r (ic_p b l rfl (by omega) rfl) ?_))))))
  refine pk_eq k 1 (fun e => ?_) (fun e => ?_)
  · rw [if_pos (by omega)] at h
    refine And.intro hi32 (nm_r (ic_p b (q 22 2 + l) rfl (by omega) (nI_add _ _)) ?_)
    unfold wY_arbitrate_168
    refine And.intro (pk_in (s * 2 + k) 8 (by omega) e2) (nm_r (ic_p _ (1 - w) e2 (by omega) (pk_sub (a := 1) (by omega))) ?_)
    exact h
  · rw [if_neg (by omega)] at h
    unfold wY_arbitrate_168
    refine And.intro (pk_in (s * 2 + k) 8 (by omega) e2) (nm_r (ic_p _ (1 - w) e2 (by omega) (pk_sub (a := 1) (by omega))) ?_)
    exact h
theorem ic_Y_62 {p q : Nat → Nat → Nat} {s k w : Nat} {post : SY → Prop} (hl : ic_Lnk p q) (hI : ic_Inv p) (hT : p 25 3 < 2 ^ 30) (hs : s < 4) (hk : k < 2) (hw : w < 2) (c : ic_can p w s (1 - k) = true)
    (h : ∀ q', ic_Lnk (ic_ar1 p s (1 - k) w) q' → post (ic_Y q')) : wY_arbitrate_62 post (nI s) (nI k) (nI w) (nI (q 22 0)) (nI (q 22 1)) (nI (q 22 2)) (nI (q 22 3)) (nI (q 22 4)) (ic_t (q 0)) (ic_t (q 1)) (ic_t (q 2)) (ic_t (q 3)) (ic_t (q 4)) (ic_t (q 5)) (ic_t (q 6)) (ic_t (q 7)) (ic_t (q 8)) (ic_t (q 9)) (ic_t (q 10)) (ic_t (q 11)) (ic_t (q 12)) (ic_t (q 13)) (ic_t (q 14)) (ic_t (q 15)) (ic_t (q 16)) (ic_t (q 17)) (ic_t (q 18)) (ic_t (q 19)) (ic_t (q 20)) (ic_t (q 21)) := by
  have n0 := (ic_can_ps c).1
  have hi4 : vp_in (nI s) 4 := vp_in_nI hs (by decide)
  have h19 := hI.2.2.2.2.2.1 s hs
  unfold wY_arbitrate_62
  refine br_t (nI_pos' (by omega)) (ic_Y_queueHead hl hI hT hw hk (fun a => absurd a n0) (fun t a g ht et => ?_))
  obtain ⟨g1, _, _, _⟩ := ic_hd_ps hI.2.2.1 (c := w * 2 + (1 - k)) (by omega) n0
  have hq := h _ (ic_Lnk_ar hl hI hs (by omega) hw c g)
  refine br_t (nI_pos' (by omega)) (nm_r (e' := nI (ic_hd p (w * 2 + (1 - k)))) (by rw [ic_sl (by omega), et]) ?_)
  refine pk_eq s 3 (fun e => ?_) (fun e => And.intro hi4 ?_)
  · have el : ic_lat p s = 1 := if_pos e
    rw [el] at hq
    exact ic_Y_116 hs hk g1 hw hq
  · have el : ic_lat p s = p 18 (s * 4 + p 19 s) := if_neg e
    have e16 : q 16 s % 4 = p 19 s := hl.2.2.2.1.2.2 s (by omega)
    have e4 : nI s * 4 + (ic_t (q 16) (nI s).toNatClampNeg &&& 3) = nI (s * 4 + p 19 s) := by
      rw [ic_g s rfl (by omega), ic_s3, e16]
      exact ic_ma s 4 (p 19 s)
    rw [el, ← hl.2.2.2.1.2.1] at hq
    refine And.intro (pk_in (s * 4 + p 19 s) 12 (by omega) e4) ?_
    rw [ic_g _ e4 (by omega)]
    exact ic_Y_116 hs hk g1 hw hq
theorem ic_Y_ar {p q : Nat → Nat → Nat} {s k : Nat} {post : SY → Prop} (hl : ic_Lnk p q) (hI : ic_Inv p) (hT : p 25 3 < 2 ^ 30) (hs : s < 4) (hk : k < 2) (h : ∀ q', ic_Lnk (ic_ar p s (1 - k)) q' → post (ic_Y q')) : wpY_arbitrate post (ic_Y q) (nI s) (nI k) := by
  have e2 : nI s * 2 + nI k = nI (s * 2 + k) := ic_ma s 2 k
  have h24 := hI.2.2.2.2.2.2.2.1 (s * 2 + (1 - k)) (by omega)
  have e19 : q 19 (s * 2 + k) = p 24 (s * 2 + (1 - k)) := by
    have h6 := hl.2.2.2.2.2.1 s hs
    rcases (by omega : k = 0 ∨ k = 1) with e | e
    · subst e; exact h6.1
    · subst e; exact h6.2
  have W : ∀ w, w < 2 → w = ic_win p s (1 - k) → ic_can p w s (1 - k) = true → wY_arbitrate_62 post (nI s) (nI k) (nI w) (nI (q 22 0)) (nI (q 22 1)) (nI (q 22 2)) (nI (q 22 3)) (nI (q 22 4)) (ic_t (q 0)) (ic_t (q 1)) (ic_t (q 2)) (ic_t (q 3)) (ic_t (q 4)) (ic_t (q 5)) (ic_t (q 6)) (ic_t (q 7)) (ic_t (q 8)) (ic_t (q 9)) (ic_t (q 10)) (ic_t (q 11)) (ic_t (q 12)) (ic_t (q 13)) (ic_t (q 14)) (ic_t (q 15)) (ic_t (q 16)) (ic_t (q 17)) (ic_t (q 18)) (ic_t (q 19)) (ic_t (q 20)) (ic_t (q 21)) := by
    intro w hw ew c
    refine ic_Y_62 hl hI hT hs hk hw c (fun q' hq => h q' ?_)
    unfold ic_ar
    rw [← ew, if_pos c]
    exact hq
  have Z : ¬ ic_can p (ic_win p s (1 - k)) s (1 - k) = true → post (ic_Y q) := by
    intro c
    refine h q ?_
    unfold ic_ar
    rw [if_neg c]
    exact hl
  unfold wpY_arbitrate
  refine ic_Y_candidate (m := 0) hl hI hT (by decide) hk hs (fun c0 => ?_) (fun c0 => ?_)
  · refine ic_Y_candidate (m := 1) hl hI hT (by decide) hk hs (fun c1 => ?_) (fun c1 => ?_)
    · refine br_f (by decide) (br_f (by decide) (And.intro (pk_in (s * 2 + k) 8 (by omega) e2) (nm_r (e' := nI (p 24 (s * 2 + (1 - k)))) (by rw [ic_g _ e2 (by omega), e19]) ?_)))
      have cc : ic_can p (p 24 (s * 2 + (1 - k))) s (1 - k) = true := by
        rcases (by omega : p 24 (s * 2 + (1 - k)) = 0 ∨ p 24 (s * 2 + (1 - k)) = 1) with e | e
        · rw [e]; exact c0
        · rw [e]; exact c1
      exact W _ (by omega) (by unfold ic_win; rw [if_pos cc]) cc
    · refine br_f (by decide) (br_t rfl ?_)
      unfold wY_arbitrate_44
      refine br_f (by decide) (W 0 (by decide) ?_ c0)
      unfold ic_win
      rcases (by omega : p 24 (s * 2 + (1 - k)) = 0 ∨ p 24 (s * 2 + (1 - k)) = 1) with e | e
      · rw [e, if_pos c0]
      · rw [e, if_neg c1]
  · refine ic_Y_candidate (m := 1) hl hI hT (by decide) hk hs (fun c1 => ?_) (fun c1 => ?_)
    · refine br_t rfl ?_
      unfold wY_arbitrate_44
      refine br_t rfl (br_f (by decide) (W 1 (by decide) ?_ c1))
      unfold ic_win
      rcases (by omega : p 24 (s * 2 + (1 - k)) = 0 ∨ p 24 (s * 2 + (1 - k)) = 1) with e | e
      · rw [e, if_neg c0]
      · rw [e, if_pos c1]
    · refine br_t rfl ?_
      unfold wY_arbitrate_44
      refine br_t rfl (br_t rfl ?_)
      unfold wY_arbitrate_62
      refine br_f (by decide) (Z ?_)
      unfold ic_win
      rcases (by omega : p 24 (s * 2 + (1 - k)) = 0 ∨ p 24 (s * 2 + (1 - k)) = 1) with e | e
      · rw [e, if_neg c0]; exact c1
      · rw [e, if_neg c1]; exact c0
