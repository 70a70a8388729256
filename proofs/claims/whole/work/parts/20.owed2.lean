/-! what is owed: steps and getters -/
theorem i_vc_step {k : Nat} {u : SX} {v : SY} (I : i_Rel k u v) (hk : k + 5 ≤ 2562) (v1 : Int32) : wpX_step (fun r u' => wpY_step (fun r' v' => r' = r ∧ i_Rel (k + 5) u' v') v v1) u v1 := by
  have I5 := i_up I
  obtain ⟨p, q, rfl, rfl, hI, hl, hT, hC⟩ := I
  unfold wpX_step
  refine br_c (fun a => ?_) (fun a => br_c (fun b => ?_) (fun b => ?_))
  · show wpY_step (fun r' v' => r' = 0 ∧ i_Rel (k + 5) (ic_X p) v') (ic_Y q) v1
    unfold wpY_step
    exact br_t a ⟨rfl, I5⟩
  · obtain ⟨n, h1, h64, rfl⟩ := ic_ix1 (n := 64) (by decide) a (Int32.not_lt.mpr b)
    refine ⟨n + 1, ic_X_st h64 n 0 p (by omega) hI (by omega) (by omega) ?_⟩
    show wpY_step (fun r' v' => r' = 1 ∧ i_Rel (k + 5) (ic_X (ic_run n p)) v') (ic_Y q) (nI n)
    unfold wpY_step
    have g := ic_run_Inv n p hI
    refine br_f a (br_t b ⟨n + 1, ic_Y_st h64 n 0 p q (by omega) hl hI (by omega) (by omega) (fun q' hq => ?_)⟩)
    exact ⟨rfl, ic_run n p, q', rfl, rfl, g.1, hq, by omega, by omega⟩
  · show wpY_step (fun r' v' => r' = 0 ∧ i_Rel (k + 5) (ic_X p) v') (ic_Y q) v1
    unfold wpY_step
    exact br_f a (br_f b ⟨rfl, I5⟩)
theorem i_vc_cycle {k : Nat} {u : SX} {v : SY} (I : i_Rel k u v) (hk : k + 5 ≤ 2562) : wpX_cycle (fun r => wpY_cycle (fun r' => r' = r ∧ i_Rel (k + 5) u v) v) u := by
  have I5 := i_up I
  obtain ⟨p, q, rfl, rfl, hI, hl, hT, hC⟩ := I
  have e : q 22 2 = p 25 2 := hl.2.2.2.2.2.2 2 (by decide)
  unfold wpX_cycle
  show wpY_cycle (fun r' => r' = (lN (p 25 2)).toInt32 ∧ i_Rel (k + 5) (ic_X p) (ic_Y q)) (ic_Y q)
  unfold wpY_cycle
  exact ⟨by rw [lN_i, e], I5⟩
theorem i_vc_status {k : Nat} {u : SX} {v : SY} (I : i_Rel k u v) (hk : k + 5 ≤ 2562) (v1 : Int32) : wpX_status (fun r => wpY_status (fun r' => r' = r ∧ i_Rel (k + 5) u v) v v1) u v1 := by
  have I5 := i_up I
  obtain ⟨p, q, rfl, rfl, hI, hl, hT, hC⟩ := I
  have hT2 : p 25 3 < 2 ^ 30 := by omega
  unfold wpX_status
  by_cases hv : ∃ t, t < p 25 3 ∧ p 25 3 ≤ t + 32 ∧ v1 = nI t
  · refine ic_X_valid (p := p) hT2 (fun t h1 h2 e => br_f (by decide) ?_) (fun z => absurd hv z)
    subst e
    refine ic_X_slotOf t (nI_l (by omega)) (by omega) (And.intro (vp_in_nI (by omega) (by decide)) ?_)
    have hM := hl.1 (t % 32) (by omega) (by omega)
    have hL := hI.1 (t % 32) (by omega)
    unfold ic_M at hM
    unfold ic_L at hL
    unfold wpY_status
    refine ic_Y_valid (p := p) (q := q) hl hT2 (fun _ _ _ _ => br_f (by decide) ?_) (fun z => absurd hv z)
    rw [ic_sl (by omega)]
    refine And.intro (vp_in_nI (by omega) (by decide)) ⟨?_, I5⟩
    rw [ic_g (t % 32) rfl (by omega), ic_gs (t % 32) rfl (by omega), ic_sv_n (by omega), hM.2.1.1]
  · refine ic_X_valid (p := p) hT2 (fun t h1 h2 e => absurd ⟨t, h1, h2, e⟩ hv) (fun _ => br_t rfl ?_)
    unfold wpY_status
    exact ic_Y_valid (p := p) (q := q) hl hT2 (fun t h1 h2 e => absurd ⟨t, h1, h2, e⟩ hv) (fun _ => br_t rfl ⟨rfl, I5⟩)
theorem i_vc_beats {k : Nat} {u : SX} {v : SY} (I : i_Rel k u v) (hk : k + 5 ≤ 2562) (v1 : Int32) : wpX_beats (fun r => wpY_beats (fun r' => r' = r ∧ i_Rel (k + 5) u v) v v1) u v1 := by
  have I5 := i_up I
  obtain ⟨p, q, rfl, rfl, hI, hl, hT, hC⟩ := I
  have hT2 : p 25 3 < 2 ^ 30 := by omega
  unfold wpX_beats
  by_cases hv : ∃ t, t < p 25 3 ∧ p 25 3 ≤ t + 32 ∧ v1 = nI t
  · refine ic_X_valid (p := p) hT2 (fun t h1 h2 e => br_f (by decide) ?_) (fun z => absurd hv z)
    subst e
    refine ic_X_slotOf t (nI_l (by omega)) (by omega) (And.intro (vp_in_nI (by omega) (by decide)) ?_)
    have hM := hl.1 (t % 32) (by omega) (by omega)
    unfold ic_M at hM
    unfold wpY_beats
    refine ic_Y_valid (p := p) (q := q) hl hT2 (fun _ _ _ _ => br_f (by decide) ?_) (fun z => absurd hv z)
    rw [ic_sl (by omega)]
    refine And.intro (vp_in_nI (by omega) (by decide)) ⟨?_, I5⟩
    rw [ic_g (t % 32) rfl (by omega), ic_g (t % 32) rfl (by omega), hM.2.1.2]
  · refine ic_X_valid (p := p) hT2 (fun t h1 h2 e => absurd ⟨t, h1, h2, e⟩ hv) (fun _ => br_t rfl ?_)
    unfold wpY_beats
    exact ic_Y_valid (p := p) (q := q) hl hT2 (fun t h1 h2 e => absurd ⟨t, h1, h2, e⟩ hv) (fun _ => br_t rfl ⟨rfl, I5⟩)
theorem i_vc_readData {k : Nat} {u : SX} {v : SY} (I : i_Rel k u v) (hk : k + 5 ≤ 2562) (v1 : Int32) (v2 : Int32) : wpX_readData (fun r => wpY_readData (fun r' => r' = r ∧ i_Rel (k + 5) u v) v v1 v2) u v1 v2 := by
  have I5 := i_up I
  obtain ⟨p, q, rfl, rfl, hI, hl, hT, hC⟩ := I
  have hT2 : p 25 3 < 2 ^ 30 := by omega
  unfold wpX_readData
  by_cases hv : ∃ t, t < p 25 3 ∧ p 25 3 ≤ t + 32 ∧ v1 = nI t
  · refine ic_X_valid (p := p) hT2 (fun t h1 h2 e => br_f (by decide) ?_) (fun z => absurd hv z)
    subst e
    refine ic_X_slotOf t (nI_l (by omega)) (by omega) ?_
    have h32 : t % 32 < 32 := by omega
    have hTs : t % 32 < p 25 3 := by omega
    have hM := hl.1 (t % 32) h32 hTs
    have hL := hI.1 (t % 32) h32
    have hV := hl.2.1 (t % 32) h32 hTs
    unfold ic_M at hM
    unfold ic_L at hL
    have hi32 : vp_in (nI (t % 32)) 32 := vp_in_nI h32 (by decide)
    have Yw : ∀ r : Int32, (∀ s : Nat, s = t % 32 → vp_in (nI s) 32 ∧ ((ic_t (q 0) (nI s).toNatClampNeg = 1 → ((v2 < 0 → (0 : Int32) = r ∧ i_Rel (k + 5) (ic_X p) (ic_Y q)) ∧ (¬ v2 < 0 → (vp_in (nI s) 32 ∧ ((ic_t (q 8) (nI s).toNatClampNeg ≤ v2 → (0 : Int32) = r ∧ i_Rel (k + 5) (ic_X p) (ic_Y q)) ∧ (¬ ic_t (q 8) (nI s).toNatClampNeg ≤ v2 → ((v2 ≤ 3 → (vp_in (nI s * 4 + v2) 128 ∧ (ic_t (q 11) (nI s * 4 + v2).toNatClampNeg = r ∧ i_Rel (k + 5) (ic_X p) (ic_Y q)))) ∧ (¬ v2 ≤ 3 → (0 : Int32) = r ∧ i_Rel (k + 5) (ic_X p) (ic_Y q)))))))) ) ∧ (¬ ic_t (q 0) (nI s).toNatClampNeg = 1 → (0 : Int32) = r ∧ i_Rel (k + 5) (ic_X p) (ic_Y q)))) → wpY_readData (fun r' => r' = r ∧ i_Rel (k + 5) (ic_X p) (ic_Y q)) (ic_Y q) (nI t) v2 := by
      intro r w
      unfold wpY_readData
      refine ic_Y_valid (p := p) (q := q) hl hT2 (fun _ _ _ _ => br_f (by decide) ?_) (fun z => absurd hv z)
      exact nm_r (ic_sl (by omega)) (w _ rfl)
    refine ic_X_kindOf (p := p) h32 (by omega) (pk_eq (p 1 (t % 32) % 2) 0 (fun a => ?_) (fun a => ?_))
    · refine br_c (fun b => Yw 0 (fun s es => ?_)) (fun b => And.intro hi32 ?_)
      · subst es
        exact And.intro hi32 (ek_if (ic_ce (t % 32) 1 rfl rfl (by omega) (by omega) (by decide)) (fun _ => br_t b ⟨rfl, I5⟩) (fun _ => ⟨rfl, I5⟩))
      · obtain ⟨i, hi, e⟩ := nI_of b
        subst e
        have e4 : nI (t % 32) * 4 + nI i = nI (t % 32 * 4 + i) := ic_ma (t % 32) 4 i
        refine pk_lt i (p 5 (t % 32)) (fun c => And.intro (pk_in _ 128 (by omega) e4) ?_) (fun c => ?_) rfl (ic_g (t % 32) rfl (by omega))
        · rw [ic_g _ e4 (by omega)]
          refine Yw _ (fun s es => ?_)
          subst es
          refine And.intro hi32 (ek_if (ic_ce (t % 32) 1 rfl rfl (by omega) (by omega) (by decide)) (fun _ => br_f b (And.intro hi32 (pk_le (q 8 (t % 32)) i (fun z => by omega) (fun _ => pk_le i 3 (fun _ => And.intro (pk_in _ 128 (by omega) e4) ⟨?_, I5⟩) (fun z => by omega)) (ic_g (t % 32) rfl (by omega)) rfl))) (fun z => by omega))
          rw [ic_g _ e4 (by omega), hV i c]
        · refine Yw _ (fun s es => ?_)
          subst es
          exact And.intro hi32 (ek_if (ic_ce (t % 32) 1 rfl rfl (by omega) (by omega) (by decide)) (fun _ => br_f b (And.intro hi32 (pk_le (q 8 (t % 32)) i (fun _ => ⟨rfl, I5⟩) (fun z => by omega) (ic_g (t % 32) rfl (by omega)) rfl))) (fun z => ⟨rfl, I5⟩))
    · refine Yw _ (fun s es => ?_)
      subst es
      exact And.intro hi32 (ek_if (ic_ce (t % 32) 1 rfl rfl (by omega) (by omega) (by decide)) (fun z => by omega) (fun _ => ⟨rfl, I5⟩))
  · refine ic_X_valid (p := p) hT2 (fun t h1 h2 e => absurd ⟨t, h1, h2, e⟩ hv) (fun _ => br_t rfl ?_)
    unfold wpY_readData
    exact ic_Y_valid (p := p) (q := q) hl hT2 (fun t h1 h2 e => absurd ⟨t, h1, h2, e⟩ hv) (fun _ => br_t rfl ⟨rfl, I5⟩)
theorem i_vc_doneOrder {k : Nat} {u : SX} {v : SY} (I : i_Rel k u v) (hk : k + 5 ≤ 2562) (v1 : Int32) : wpX_doneOrder (fun r => wpY_doneOrder (fun r' => r' = r ∧ i_Rel (k + 5) u v) v v1) u v1 := by
  have I5 := i_up I
  obtain ⟨p, q, rfl, rfl, hI, hl, hT, hC⟩ := I
  have hT2 : p 25 3 < 2 ^ 30 := by omega
  unfold wpX_doneOrder
  by_cases hv : ∃ t, t < p 25 3 ∧ p 25 3 ≤ t + 32 ∧ v1 = nI t
  · refine ic_X_valid (p := p) hT2 (fun t h1 h2 e => br_f (by decide) ?_) (fun z => absurd hv z)
    subst e
    refine ic_X_slotOf t (nI_l (by omega)) (by omega) ?_
    have hM := hl.1 (t % 32) (by omega) (by omega)
    have hL := hI.1 (t % 32) (by omega)
    unfold ic_M at hM
    unfold ic_L at hL
    have hi32 : vp_in (nI (t % 32)) 32 := vp_in_nI (by omega) (by decide)
    refine ic_X_isPending (p := p) (by omega) (by omega) (fun a => br_f (by decide) ?_) (fun a => br_t rfl (And.intro hi32 ?_))
    · unfold wpY_doneOrder
      refine ic_Y_valid (p := p) (q := q) hl hT2 (fun _ _ _ _ => br_f (by decide) ?_) (fun z => absurd hv z)
      rw [ic_sl (by omega)]
      exact ic_Y_isDone (q := q) (by omega) (by omega) (fun z => by omega) (fun _ => br_t rfl ⟨rfl, I5⟩)
    · unfold wpY_doneOrder
      refine ic_Y_valid (p := p) (q := q) hl hT2 (fun _ _ _ _ => br_f (by decide) ?_) (fun z => absurd hv z)
      rw [ic_sl (by omega)]
      refine ic_Y_isDone (q := q) (by omega) (by omega) (fun z => br_f (by decide) (And.intro hi32 ⟨?_, I5⟩)) (fun z => by omega)
      rw [ic_g (t % 32) rfl (by omega), ic_g (t % 32) rfl (by omega), (hM.2.2.2 (by omega)).1]
  · refine ic_X_valid (p := p) hT2 (fun t h1 h2 e => absurd ⟨t, h1, h2, e⟩ hv) (fun _ => br_t rfl ?_)
    unfold wpY_doneOrder
    exact ic_Y_valid (p := p) (q := q) hl hT2 (fun t h1 h2 e => absurd ⟨t, h1, h2, e⟩ hv) (fun _ => br_t rfl ⟨rfl, I5⟩)
theorem i_vc_doneCycle {k : Nat} {u : SX} {v : SY} (I : i_Rel k u v) (hk : k + 5 ≤ 2562) (v1 : Int32) : wpX_doneCycle (fun r => wpY_doneCycle (fun r' => r' = r ∧ i_Rel (k + 5) u v) v v1) u v1 := by
  have I5 := i_up I
  obtain ⟨p, q, rfl, rfl, hI, hl, hT, hC⟩ := I
  have hT2 : p 25 3 < 2 ^ 30 := by omega
  unfold wpX_doneCycle
  by_cases hv : ∃ t, t < p 25 3 ∧ p 25 3 ≤ t + 32 ∧ v1 = nI t
  · refine ic_X_valid (p := p) hT2 (fun t h1 h2 e => br_f (by decide) ?_) (fun z => absurd hv z)
    subst e
    refine ic_X_slotOf t (nI_l (by omega)) (by omega) ?_
    have hM := hl.1 (t % 32) (by omega) (by omega)
    have hL := hI.1 (t % 32) (by omega)
    unfold ic_M at hM
    unfold ic_L at hL
    have hi32 : vp_in (nI (t % 32)) 32 := vp_in_nI (by omega) (by decide)
    refine ic_X_isPending (p := p) (by omega) (by omega) (fun a => br_f (by decide) ?_) (fun a => br_t rfl (And.intro hi32 ?_))
    · unfold wpY_doneCycle
      refine ic_Y_valid (p := p) (q := q) hl hT2 (fun _ _ _ _ => br_f (by decide) ?_) (fun z => absurd hv z)
      rw [ic_sl (by omega)]
      exact ic_Y_isDone (q := q) (by omega) (by omega) (fun z => by omega) (fun _ => br_t rfl ⟨rfl, I5⟩)
    · unfold wpY_doneCycle
      refine ic_Y_valid (p := p) (q := q) hl hT2 (fun _ _ _ _ => br_f (by decide) ?_) (fun z => absurd hv z)
      rw [ic_sl (by omega)]
      refine ic_Y_isDone (q := q) (by omega) (by omega) (fun z => br_f (by decide) (And.intro hi32 ⟨?_, I5⟩)) (fun z => by omega)
      rw [ic_g (t % 32) rfl (by omega), ic_g (t % 32) rfl (by omega), (hM.2.2.2 (by omega)).2]
  · refine ic_X_valid (p := p) hT2 (fun t h1 h2 e => absurd ⟨t, h1, h2, e⟩ hv) (fun _ => br_t rfl ?_)
    unfold wpY_doneCycle
    exact ic_Y_valid (p := p) (q := q) hl hT2 (fun t h1 h2 e => absurd ⟨t, h1, h2, e⟩ hv) (fun _ => br_t rfl ⟨rfl, I5⟩)
theorem i_vc_outstanding {k : Nat} {u : SX} {v : SY} (I : i_Rel k u v) (hk : k + 5 ≤ 2562) (v1 : Int32) : wpX_outstanding (fun r => wpY_outstanding (fun r' => r' = r ∧ i_Rel (k + 5) u v) v v1) u v1 := by
  have I5 := i_up I
  obtain ⟨p, q, rfl, rfl, hI, hl, hT, hC⟩ := I
  have hT2 : p 25 3 < 2 ^ 30 := by omega
  unfold wpX_outstanding
  by_cases hv : ∃ m, m < 2 ∧ v1 = nI m
  · obtain ⟨m, hm, rfl⟩ := hv
    refine ic_X_mgr hm (br_f (by decide) (And.intro (vp_in_nI hm (by decide)) ?_))
    rw [ic_g m rfl (by omega)]
    unfold wpY_outstanding
    exact br_f (nI_pos (by omega)) (pk_le m 1 (fun _ => ic_Y_cntM (p := p) (q := q) hl hI hT2 hm ⟨rfl, I5⟩) (fun z => by omega))
  · refine ic_X_mgrF hv (br_t rfl ?_)
    unfold wpY_outstanding
    rcases ic_out (n := 1) (by decide) hv with a | a
    · exact br_t a ⟨rfl, I5⟩
    · exact br_f a.1 (br_f a.2.2.1 ⟨rfl, I5⟩)
theorem i_vc_subLoad {k : Nat} {u : SX} {v : SY} (I : i_Rel k u v) (hk : k + 5 ≤ 2562) (v1 : Int32) : wpX_subLoad (fun r => wpY_subLoad (fun r' => r' = r ∧ i_Rel (k + 5) u v) v v1) u v1 := by
  have I5 := i_up I
  obtain ⟨p, q, rfl, rfl, hI, hl, hT, hC⟩ := I
  have hT2 : p 25 3 < 2 ^ 30 := by omega
  unfold wpX_subLoad
  by_cases hv : ∃ m, m < 4 ∧ v1 = nI m
  · obtain ⟨m, hm, rfl⟩ := hv
    refine br_f (nI_pos (by omega)) (pk_le 4 m (fun z => by omega) (fun _ => And.intro (vp_in_nI hm (by decide)) ?_))
    rw [ic_g m rfl (by omega)]
    unfold wpY_subLoad
    exact br_f (nI_pos (by omega)) (pk_le m 3 (fun _ => ic_Y_cntS (p := p) (q := q) hl hI hT2 hm ⟨rfl, I5⟩) (fun z => by omega))
  · rcases ic_out (n := 3) (by decide) hv with a | a
    · refine br_t a ?_
      unfold wpY_subLoad
      exact br_t a ⟨rfl, I5⟩
    · refine br_f a.1 (br_t a.2.2.2 ?_)
      unfold wpY_subLoad
      exact br_f a.1 (br_f a.2.2.1 ⟨rfl, I5⟩)
theorem i_vc_pendingData {k : Nat} {u : SX} {v : SY} (I : i_Rel k u v) (hk : k + 5 ≤ 2562) (v1 : Int32) : wpX_pendingData (fun r => wpY_pendingData (fun r' => r' = r ∧ i_Rel (k + 5) u v) v v1) u v1 := by
  have I5 := i_up I
  obtain ⟨p, q, rfl, rfl, hI, hl, hT, hC⟩ := I
  unfold wpX_pendingData
  by_cases hv : ∃ m, m < 2 ∧ v1 = nI m
  · obtain ⟨m, hm, rfl⟩ := hv
    refine ic_X_mgr hm (br_f (by decide) (And.intro (vp_in_nI hm (by decide)) ?_))
    unfold wpY_pendingData
    refine br_f (nI_pos (by omega)) (pk_le m 1 (fun _ => And.intro (vp_in_nI hm (by decide)) ⟨?_, I5⟩) (fun z => by omega))
    rw [ic_g m rfl (by omega), ic_g m rfl (by omega), (hl.2.2.1 m hm).1]
  · refine ic_X_mgrF hv (br_t rfl ?_)
    unfold wpY_pendingData
    rcases ic_out (n := 1) (by decide) hv with a | a
    · exact br_t a ⟨rfl, I5⟩
    · exact br_f a.1 (br_f a.2.2.1 ⟨rfl, I5⟩)
theorem i_vc_memory {k : Nat} {u : SX} {v : SY} (I : i_Rel k u v) (hk : k + 5 ≤ 2562) (v1 : Int32) : wpX_memory (fun r => wpY_memory (fun r' => r' = r ∧ i_Rel (k + 5) u v) v v1) u v1 := by
  have I5 := i_up I
  obtain ⟨p, q, rfl, rfl, hI, hl, hT, hC⟩ := I
  unfold wpX_memory
  by_cases hv : ∃ m, m < 24 ∧ v1 = nI m
  · obtain ⟨m, hm, rfl⟩ := hv
    refine br_f (nI_pos (by omega)) (pk_le 24 m (fun z => by omega) (fun _ => And.intro (vp_in_nI hm (by decide)) ?_))
    unfold wpY_memory
    refine br_f (nI_pos (by omega)) (pk_le m 23 (fun _ => And.intro (vp_in_nI hm (by decide)) ⟨?_, I5⟩) (fun z => by omega))
    rw [ic_g m rfl (by omega), ic_g m rfl (by omega), hl.2.2.2.1.1]
  · rcases ic_out (n := 23) (by decide) hv with a | a
    · refine br_t a ?_
      unfold wpY_memory
      exact br_t a ⟨rfl, I5⟩
    · refine br_f a.1 (br_t a.2.2.2 ?_)
      unfold wpY_memory
      exact br_f a.1 (br_f a.2.2.1 ⟨rfl, I5⟩)
