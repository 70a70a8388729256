/-! what is owed -/
def i_Rel (k : Nat) (u : SX) (v : SY) : Prop := ∃ p q : Nat → Nat → Nat, u = ic_X p ∧ v = ic_Y q ∧ ic_Inv p ∧ ic_Lnk p q ∧ p 25 3 ≤ k ∧ p 25 2 ≤ 64 * k
theorem i_up {k : Nat} {u : SX} {v : SY} (h : i_Rel k u v) : i_Rel (k + 5) u v := by
  obtain ⟨p, q, e1, e2, h1, h2, h3, h4⟩ := h
  exact ⟨p, q, e1, e2, h1, h2, by omega, by omega⟩
theorem i_vc0 (k0 : Int32) (k1 : Int32) : wpX_init (fun u => wpY_init (fun v => i_Rel 2 u v) k0 k1) k0 k1 := by
  obtain ⟨l, c, hl, hc, hX, hY⟩ := ic_init k0 k1
  refine hX _ (hY _ ⟨ic_p0 l c, ic_q0 l c, rfl, rfl, ic_p0_Inv hl hc, ic_Lnk_0 l c, ?_, ?_⟩)
  · show 0 ≤ 2
    omega
  · show 0 ≤ 64 * 2
    omega
theorem i_vc_issueRead {k : Nat} {u : SX} {v : SY} (I : i_Rel k u v) (hk : k + 5 ≤ 2562) (v1 : Int32) (v2 : Int32) (v3 : Int32) (v4 : Int32) : wpX_issueRead (fun r u' => wpY_issueRead (fun r' v' => r' = r ∧ i_Rel (k + 5) u' v') v v1 v2 v3 v4) u v1 v2 v3 v4 := by
  have I5 := i_up I
  obtain ⟨p, q, rfl, rfl, hI, hl, hT, hC⟩ := I
  have hT2 : p 25 3 < 2 ^ 30 := by omega
  have eT : q 22 3 = p 25 3 := hl.2.2.2.2.2.2 3 (by decide)
  unfold wpX_issueRead
  by_cases hv : ic_ok v1 v2 v3 v4
  · obtain ⟨m, i, a, l, hm, hi, ha, h1, h4, h8, rfl, rfl, rfl, rfl⟩ := hv
    refine ic_X_issue (p := p) (k := 0) hI hT2 (by decide) hm hi ha h1 h4 h8 (fun hf => ?_) (fun hn hs => ?_) (fun hn hg => ?_)
    · show wpY_issueRead (fun r' v' => r' = -2 ∧ i_Rel (k + 5) (ic_X p) v') (ic_Y q) (nI m) (nI i) (nI a) (nI l)
      unfold wpY_issueRead
      exact ic_Y_issue (p := p) (q := q) (k := 1) hl hI hT2 (by decide) hm hi ha h1 h4 h8 (fun _ => ⟨rfl, I5⟩) (fun z _ => absurd hf z) (fun z _ => absurd hf z)
    · show wpY_issueRead (fun r' v' => r' = -3 ∧ i_Rel (k + 5) (ic_X p) v') (ic_Y q) (nI m) (nI i) (nI a) (nI l)
      unfold wpY_issueRead
      exact ic_Y_issue (p := p) (q := q) (k := 1) hl hI hT2 (by decide) hm hi ha h1 h4 h8 (fun z => absurd z hn) (fun _ _ => ⟨rfl, I5⟩) (fun _ z => absurd hs (by omega))
    · show wpY_issueRead (fun r' v' => r' = nI (p 25 3) ∧ i_Rel (k + 5) (ic_X (ic_iss p (m * 2 + 0) i a l)) v') (ic_Y q) (nI m) (nI i) (nI a) (nI l)
      unfold wpY_issueRead
      refine ic_Y_issue (p := p) (q := q) (k := 1) hl hI hT2 (by decide) hm hi ha h1 h4 h8 (fun z => absurd z hn) (fun _ z => absurd hg (by omega)) (fun _ _ => ⟨by rw [eT], ic_iss p (m * 2 + 0) i a l, ic_qi q 1 m i a l, rfl, rfl, ic_iss_Inv hI (by omega) hi ha h1 h4 h8 hn hg, ic_Lnk_is (k := 0) hl hI.1 (by decide), ?_, ?_⟩)
      · show p 25 3 + 1 ≤ k + 5
        omega
      · show p 25 2 ≤ 64 * (k + 5)
        omega
  · refine ic_X_issueF (p := p) hv ?_
    show wpY_issueRead (fun r' v' => r' = -1 ∧ i_Rel (k + 5) (ic_X p) v') (ic_Y q) v1 v2 v3 v4
    unfold wpY_issueRead
    exact ic_Y_issueF (q := q) hv ⟨rfl, I5⟩
theorem i_vc_issueWrite {k : Nat} {u : SX} {v : SY} (I : i_Rel k u v) (hk : k + 5 ≤ 2562) (v1 : Int32) (v2 : Int32) (v3 : Int32) (v4 : Int32) : wpX_issueWrite (fun r u' => wpY_issueWrite (fun r' v' => r' = r ∧ i_Rel (k + 5) u' v') v v1 v2 v3 v4) u v1 v2 v3 v4 := by
  have I5 := i_up I
  obtain ⟨p, q, rfl, rfl, hI, hl, hT, hC⟩ := I
  have hT2 : p 25 3 < 2 ^ 30 := by omega
  have eT : q 22 3 = p 25 3 := hl.2.2.2.2.2.2 3 (by decide)
  unfold wpX_issueWrite
  by_cases hv : ic_ok v1 v2 v3 v4
  · obtain ⟨m, i, a, l, hm, hi, ha, h1, h4, h8, rfl, rfl, rfl, rfl⟩ := hv
    refine ic_X_issue (p := p) (k := 1) hI hT2 (by decide) hm hi ha h1 h4 h8 (fun hf => ?_) (fun hn hs => ?_) (fun hn hg => ?_)
    · show wpY_issueWrite (fun r' v' => r' = -2 ∧ i_Rel (k + 5) (ic_X p) v') (ic_Y q) (nI m) (nI i) (nI a) (nI l)
      unfold wpY_issueWrite
      exact ic_Y_issue (p := p) (q := q) (k := 0) hl hI hT2 (by decide) hm hi ha h1 h4 h8 (fun _ => ⟨rfl, I5⟩) (fun z _ => absurd hf z) (fun z _ => absurd hf z)
    · show wpY_issueWrite (fun r' v' => r' = -3 ∧ i_Rel (k + 5) (ic_X p) v') (ic_Y q) (nI m) (nI i) (nI a) (nI l)
      unfold wpY_issueWrite
      exact ic_Y_issue (p := p) (q := q) (k := 0) hl hI hT2 (by decide) hm hi ha h1 h4 h8 (fun z => absurd z hn) (fun _ _ => ⟨rfl, I5⟩) (fun _ z => absurd hs (by omega))
    · show wpY_issueWrite (fun r' v' => r' = nI (p 25 3) ∧ i_Rel (k + 5) (ic_X (ic_iss p (m * 2 + 1) i a l)) v') (ic_Y q) (nI m) (nI i) (nI a) (nI l)
      unfold wpY_issueWrite
      refine ic_Y_issue (p := p) (q := q) (k := 0) hl hI hT2 (by decide) hm hi ha h1 h4 h8 (fun z => absurd z hn) (fun _ z => absurd hg (by omega)) (fun _ _ => ⟨by rw [eT], ic_iss p (m * 2 + 1) i a l, ic_qi q 0 m i a l, rfl, rfl, ic_iss_Inv hI (by omega) hi ha h1 h4 h8 hn hg, ic_Lnk_is (k := 1) hl hI.1 (by decide), ?_, ?_⟩)
      · show p 25 3 + 1 ≤ k + 5
        omega
      · show p 25 2 ≤ 64 * (k + 5)
        omega
  · refine ic_X_issueF (p := p) hv ?_
    show wpY_issueWrite (fun r' v' => r' = -1 ∧ i_Rel (k + 5) (ic_X p) v') (ic_Y q) v1 v2 v3 v4
    unfold wpY_issueWrite
    exact ic_Y_issueF (q := q) hv ⟨rfl, I5⟩
/-- out of range: below, or above n -/
theorem ic_out {v : Int32} {n : Nat} (hn : n + 1 < 2 ^ 31) (h : ¬ ∃ m, m < n + 1 ∧ v = nI m) : v < 0 ∨ (¬ v < 0 ∧ nI n < v ∧ ¬ v ≤ nI n ∧ nI (n + 1) ≤ v) := by
  rcases pk_ix v hn with a | a | a
  · exact Or.inl a
  · have b := ic_ge hn a
    exact Or.inr ⟨b.1, b.2.1, b.2.2.1, a⟩
  · exact absurd a h
theorem i_vc_writeData {k : Nat} {u : SX} {v : SY} (I : i_Rel k u v) (hk : k + 5 ≤ 2562) (v1 : Int32) (v2 : Int32) : wpX_writeData (fun r u' => wpY_writeData (fun r' v' => r' = r ∧ i_Rel (k + 5) u' v') v v1 v2) u v1 v2 := by
  have I5 := i_up I
  obtain ⟨p, q, rfl, rfl, hI, hl, hT, hC⟩ := I
  unfold wpX_writeData
  by_cases hv : ∃ m, m < 2 ∧ v1 = nI m
  · obtain ⟨m, hm, rfl⟩ := hv
    obtain ⟨x, _, rfl⟩ := wb_of32 v2
    have h4 := hI.2.2.2.1 m hm
    have e14 : q 14 m = p 16 m := (hl.2.2.1 m hm).1
    have hi2 : vp_in (nI m) 2 := vp_in_nI hm (by decide)
    refine ic_X_mgr hm (br_f (by decide) (And.intro hi2 (ek_if (ic_ce m 8 rfl rfl (by omega) (by omega) (by decide)) (fun a => ?_) (fun a => ?_))))
    · show wpY_writeData (fun r' v' => r' = 0 ∧ i_Rel (k + 5) (ic_X p) v') (ic_Y q) (nI m) (nI x)
      unfold wpY_writeData
      exact br_f (nI_pos (by omega)) (pk_lt 1 m (fun z => by omega) (fun _ => And.intro hi2 (pk_lt (q 14 m) 8 (fun z => by omega) (fun _ => ⟨rfl, I5⟩) (ic_g m rfl (by omega)) rfl)))
    · have e : nI m * 8 + nI ((p 15 m + p 16 m) % 8) = nI (m * 8 + (p 15 m + p 16 m) % 8) := ic_ma m 8 _
      have e2 : nI m * 8 + ic_t (q 14) (nI m).toNatClampNeg = nI (m * 8 + q 14 m) := by rw [ic_g m rfl (by omega)]; exact ic_ma m 8 _
      refine And.intro hi2 (And.intro hi2 (And.intro (by decide) (nm_r (ic_r (p 15 m + p 16 m) 8 (by rw [ic_g m rfl (by omega), ic_g m rfl (by omega), nI_add]) (by omega) (by decide) (by decide)) (And.intro (pk_in _ 16 (by omega) e) (nm_r (ic_p _ x e (by omega) rfl) (And.intro hi2 (And.intro hi2 (nm_r (ic_p m (p 16 m + 1) rfl (by omega) (ic_inc m rfl (by omega))) ?_))))))))
      show wpY_writeData (fun r' v' => r' = 1 ∧ i_Rel (k + 5) (ic_X (ic_wd p m x)) v') (ic_Y q) (nI m) (nI x)
      unfold wpY_writeData
      refine br_f (nI_pos (by omega)) (pk_lt 1 m (fun z => by omega) (fun _ => And.intro hi2 (pk_lt (q 14 m) 8 (fun _ => ?_) (fun z => by omega) (ic_g m rfl (by omega)) rfl)))
      refine And.intro hi2 (And.intro (pk_in _ 16 (by omega) e2) (nm_r (ic_p _ x e2 (by omega) rfl) (And.intro hi2 (And.intro hi2 (nm_r (ic_p m (q 14 m + 1) rfl (by omega) (ic_inc m rfl (by omega))) ?_)))))
      exact ⟨rfl, ic_wd p m x, ic_pu (ic_pu q 13 (m * 8 + q 14 m) x) 14 m (q 14 m + 1), rfl, rfl, ic_wd_Inv hI (by omega), ic_Lnk_wd hl hI.2.2.2 hm (by omega), by show p 25 3 ≤ k + 5; omega, by show p 25 2 ≤ 64 * (k + 5); omega⟩
  · refine ic_X_mgrF hv (br_t rfl ?_)
    show wpY_writeData (fun r' v' => r' = 0 ∧ i_Rel (k + 5) (ic_X p) v') (ic_Y q) v1 v2
    unfold wpY_writeData
    rcases ic_out (n := 1) (by decide) hv with a | a
    · exact br_t a ⟨rfl, I5⟩
    · exact br_f a.1 (br_t a.2.1 ⟨rfl, I5⟩)
theorem i_vc_setLatency {k : Nat} {u : SX} {v : SY} (I : i_Rel k u v) (hk : k + 5 ≤ 2562) (v1 : Int32) (v2 : Int32) (v3 : Int32) : wpX_setLatency (fun r u' => wpY_setLatency (fun r' v' => r' = r ∧ i_Rel (k + 5) u' v') v v1 v2 v3) u v1 v2 v3 := by
  have I5 := i_up I
  obtain ⟨p, q, rfl, rfl, hI, hl, hT, hC⟩ := I
  have gt : ∀ (v : Int32) (n : Nat), n + 1 < 2 ^ 31 → nI (n + 1) ≤ v → nI n < v := fun v n hn w => (ic_ge hn w).2.1
  unfold wpX_setLatency
  refine br_c (fun a => ?_) (fun a => br_c (fun b => ?_) (fun b => br_c (fun c => ?_) (fun c => br_c (fun d => br_c (fun e => ?_) (fun e => br_c (fun f => ?_) (fun f => ?_))) (fun d => ?_))))
  · show wpY_setLatency (fun r' v' => r' = 0 ∧ i_Rel (k + 5) (ic_X p) v') (ic_Y q) v1 v2 v3
    unfold wpY_setLatency
    exact br_t a ⟨rfl, I5⟩
  · show wpY_setLatency (fun r' v' => r' = 0 ∧ i_Rel (k + 5) (ic_X p) v') (ic_Y q) v1 v2 v3
    unfold wpY_setLatency
    exact br_f a (br_t (gt v1 2 (by decide) b) ⟨rfl, I5⟩)
  · show wpY_setLatency (fun r' v' => r' = 0 ∧ i_Rel (k + 5) (ic_X p) v') (ic_Y q) v1 v2 v3
    unfold wpY_setLatency
    exact br_f a (br_c (fun _ => ⟨rfl, I5⟩) (fun _ => br_t c ⟨rfl, I5⟩))
  · show wpY_setLatency (fun r' v' => r' = 0 ∧ i_Rel (k + 5) (ic_X p) v') (ic_Y q) v1 v2 v3
    unfold wpY_setLatency
    exact br_f a (br_c (fun _ => ⟨rfl, I5⟩) (fun _ => br_f c (br_c (fun _ => ⟨rfl, I5⟩) (fun _ => br_t e ⟨rfl, I5⟩))))
  · obtain ⟨s, hs, rfl⟩ := ic_ix (n := 3) (by decide) a b
    obtain ⟨j, hj, rfl⟩ := ic_ix (n := 4) (by decide) c (Int32.not_le.mpr d)
    obtain ⟨x, h1, h15, rfl⟩ := ic_ix1 (n := 15) (by decide) e (Int32.not_lt.mpr f)
    have e4 : nI s * 4 + nI j = nI (s * 4 + j) := ic_ma s 4 j
    refine And.intro (pk_in (s * 4 + j) 12 (by omega) e4) (nm_r (ic_p _ x e4 (by omega) rfl) ?_)
    show wpY_setLatency (fun r' v' => r' = 1 ∧ i_Rel (k + 5) (ic_X (ic_pu p 18 (s * 4 + j) x)) v') (ic_Y q) (nI s) (nI j) (nI x)
    unfold wpY_setLatency
    refine br_f a (pk_lt 2 s (fun z => by omega) (fun _ => br_f c (pk_lt 3 j (fun z => by omega) (fun _ => br_f e (br_t f (And.intro (pk_in (s * 4 + j) 12 (by omega) e4) (nm_r (ic_p _ x e4 (by omega) rfl) ?_)))))))
    exact ⟨rfl, ic_pu p 18 (s * 4 + j) x, ic_pu q 15 (s * 4 + j) x, rfl, rfl, ic_sl_Inv hI h15, ic_Lnk_sl hl, by show p 25 3 ≤ k + 5; omega, by show p 25 2 ≤ 64 * (k + 5); omega⟩
  · show wpY_setLatency (fun r' v' => r' = 0 ∧ i_Rel (k + 5) (ic_X p) v') (ic_Y q) v1 v2 v3
    unfold wpY_setLatency
    exact br_f a (br_c (fun _ => ⟨rfl, I5⟩) (fun _ => br_f c (br_c (fun _ => ⟨rfl, I5⟩) (fun _ => br_f e (br_f f ⟨rfl, I5⟩)))))
  · show wpY_setLatency (fun r' v' => r' = 0 ∧ i_Rel (k + 5) (ic_X p) v') (ic_Y q) v1 v2 v3
    unfold wpY_setLatency
    exact br_f a (br_c (fun _ => ⟨rfl, I5⟩) (fun _ => br_f c (br_t (gt v2 3 (by decide) (Int32.not_lt.mp d)) ⟨rfl, I5⟩)))
theorem ic_bzN (v : Int32) : ∃ x, x ≤ 1 ∧ lw_bz v = nI x := by
  rcases lw_bz_01 v with h | h
  · exact ⟨0, by omega, h⟩
  · exact ⟨1, by omega, h⟩
theorem i_vc_setReady {k : Nat} {u : SX} {v : SY} (I : i_Rel k u v) (hk : k + 5 ≤ 2562) (v1 : Int32) (v2 : Int32) (v3 : Int32) : wpX_setReady (fun r u' => wpY_setReady (fun r' v' => r' = r ∧ i_Rel (k + 5) u' v') v v1 (lw_bz v2) (lw_bz v3)) u v1 (lw_bz v2) (lw_bz v3) := by
  have I5 := i_up I
  obtain ⟨p, q, rfl, rfl, hI, hl, hT, hC⟩ := I
  unfold wpX_setReady
  by_cases hv : ∃ m, m < 2 ∧ v1 = nI m
  · obtain ⟨m, hm, rfl⟩ := hv
    obtain ⟨x, hx, ex⟩ := ic_bzN v2
    obtain ⟨y, hy, ey⟩ := ic_bzN v3
    have nx : vp_nar .boolean (lw_bz v2) = nI x := by rw [ic_nb, ex]
    have ny : vp_nar .boolean (lw_bz v3) = nI y := by rw [ic_nb, ey]
    have hi2 : vp_in (nI m) 2 := vp_in_nI hm (by decide)
    have e1 : nI m * 2 + 1 = nI (m * 2 + 1) := ic_ma m 2 1
    have e0 : nI m * 2 + 0 = nI (m * 2) := ic_ma m 2 0
    refine ic_X_mgr hm (br_f (by decide) (And.intro (pk_in (m * 2 + 1) 4 (by omega) e1) (nm_r (ic_p _ x e1 (by omega) nx) (And.intro (pk_in (m * 2) 4 (by omega) e0) (nm_r (ic_p _ y e0 (by omega) ny) ?_)))))
    show wpY_setReady (fun r' v' => r' = 1 ∧ i_Rel (k + 5) (ic_X (ic_pu (ic_pu p 23 (m * 2 + 1) x) 23 (m * 2) y)) v') (ic_Y q) (nI m) (lw_bz v2) (lw_bz v3)
    unfold wpY_setReady
    refine br_f (nI_pos (by omega)) (pk_le m 1 (fun _ => And.intro hi2 (nm_r (ic_p _ x rfl (by omega) nx) (And.intro hi2 (nm_r (ic_p _ y rfl (by omega) ny) ?_)))) (fun z => by omega))
    exact ⟨rfl, ic_pu (ic_pu p 23 (m * 2 + 1) x) 23 (m * 2) y, ic_pu (ic_pu q 20 m x) 21 m y, rfl, rfl, ic_sr_Inv (ic_sr_Inv hI hx) hy, ic_Lnk_sr hl, by show p 25 3 ≤ k + 5; omega, by show p 25 2 ≤ 64 * (k + 5); omega⟩
  · refine ic_X_mgrF hv (br_t rfl ?_)
    show wpY_setReady (fun r' v' => r' = 0 ∧ i_Rel (k + 5) (ic_X p) v') (ic_Y q) v1 (lw_bz v2) (lw_bz v3)
    unfold wpY_setReady
    rcases ic_out (n := 1) (by decide) hv with a | a
    · exact br_t a ⟨rfl, I5⟩
    · exact br_f a.1 (br_f a.2.2.1 ⟨rfl, I5⟩)
