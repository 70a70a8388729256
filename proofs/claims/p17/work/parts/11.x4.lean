/-! the class: one cycle, n cycles -/
theorem ic_X_74 {p : Nat → Nat → Nat} {post : St2 → Prop} {n i : Nat} (hI : ic_Inv p) (hi : i < 4) (h : wX_runCycle_74 post n (nI (i + 1)) (nI ((ic_ar (ic_ar p i 1) i 0) 25 0)) (nI ((ic_ar (ic_ar p i 1) i 0) 25 1)) (lN ((ic_ar (ic_ar p i 1) i 0) 25 2)) (lN ((ic_ar (ic_ar p i 1) i 0) 25 3)) (nI ((ic_ar (ic_ar p i 1) i 0) 25 4)) (ic_ts ((ic_ar (ic_ar p i 1) i 0) 0)) (ic_t ((ic_ar (ic_ar p i 1) i 0) 1)) (ic_t ((ic_ar (ic_ar p i 1) i 0) 2)) (ic_t ((ic_ar (ic_ar p i 1) i 0) 3)) (ic_t8 ((ic_ar (ic_ar p i 1) i 0) 3)) (ic_t ((ic_ar (ic_ar p i 1) i 0) 4)) (ic_t ((ic_ar (ic_ar p i 1) i 0) 5)) (ic_t ((ic_ar (ic_ar p i 1) i 0) 6)) (ic_tL ((ic_ar (ic_ar p i 1) i 0) 7)) (ic_t ((ic_ar (ic_ar p i 1) i 0) 8)) (ic_t ((ic_ar (ic_ar p i 1) i 0) 9)) (ic_t ((ic_ar (ic_ar p i 1) i 0) 10)) (ic_t ((ic_ar (ic_ar p i 1) i 0) 11)) (ic_t ((ic_ar (ic_ar p i 1) i 0) 12)) (ic_t ((ic_ar (ic_ar p i 1) i 0) 13)) (ic_t ((ic_ar (ic_ar p i 1) i 0) 14)) (ic_t ((ic_ar (ic_ar p i 1) i 0) 15)) (ic_t ((ic_ar (ic_ar p i 1) i 0) 16)) (ic_t ((ic_ar (ic_ar p i 1) i 0) 17)) (ic_t ((ic_ar (ic_ar p i 1) i 0) 18)) (ic_t ((ic_ar (ic_ar p i 1) i 0) 19)) (ic_t ((ic_ar (ic_ar p i 1) i 0) 20)) (ic_t ((ic_ar (ic_ar p i 1) i 0) 21)) (ic_t ((ic_ar (ic_ar p i 1) i 0) 22)) (ic_t ((ic_ar (ic_ar p i 1) i 0) 23)) (ic_t ((ic_ar (ic_ar p i 1) i 0) 24))) : wX_runCycle_74 post (n + 1) (nI i) (nI (p 25 0)) (nI (p 25 1)) (lN (p 25 2)) (lN (p 25 3)) (nI (p 25 4)) (ic_ts (p 0)) (ic_t (p 1)) (ic_t (p 2)) (ic_t (p 3)) (ic_t8 (p 3)) (ic_t (p 4)) (ic_t (p 5)) (ic_t (p 6)) (ic_tL (p 7)) (ic_t (p 8)) (ic_t (p 9)) (ic_t (p 10)) (ic_t (p 11)) (ic_t (p 12)) (ic_t (p 13)) (ic_t (p 14)) (ic_t (p 15)) (ic_t (p 16)) (ic_t (p 17)) (ic_t (p 18)) (ic_t (p 19)) (ic_t (p 20)) (ic_t (p 21)) (ic_t (p 22)) (ic_t (p 23)) (ic_t (p 24)) := by
  refine pk_le 4 i (fun h => by omega) (fun _ => ?_)
  refine ic_X_ar (p := p) (k := 1) hI hi (by decide) ?_
  refine ic_X_ar (p := ic_ar p i 1) (k := 0) (ic_ar_Inv hI hi (by decide)) hi (by decide) ?_
  exact nm_r (nI_1 i) h
theorem ic_X_56 {p : Nat → Nat → Nat} {post : St2 → Prop} {n m : Nat} (hI : ic_Inv p) (hT : p 25 3 < 2 ^ 30) (hC : p 25 2 < 2 ^ 30) (hm : m < 2) (h : wX_runCycle_56 post n (nI (m + 1)) (nI ((ic_mv p m) 25 0)) (nI ((ic_mv p m) 25 1)) (lN ((ic_mv p m) 25 2)) (lN ((ic_mv p m) 25 3)) (nI ((ic_mv p m) 25 4)) (ic_ts ((ic_mv p m) 0)) (ic_t ((ic_mv p m) 1)) (ic_t ((ic_mv p m) 2)) (ic_t ((ic_mv p m) 3)) (ic_t8 ((ic_mv p m) 3)) (ic_t ((ic_mv p m) 4)) (ic_t ((ic_mv p m) 5)) (ic_t ((ic_mv p m) 6)) (ic_tL ((ic_mv p m) 7)) (ic_t ((ic_mv p m) 8)) (ic_t ((ic_mv p m) 9)) (ic_t ((ic_mv p m) 10)) (ic_t ((ic_mv p m) 11)) (ic_t ((ic_mv p m) 12)) (ic_t ((ic_mv p m) 13)) (ic_t ((ic_mv p m) 14)) (ic_t ((ic_mv p m) 15)) (ic_t ((ic_mv p m) 16)) (ic_t ((ic_mv p m) 17)) (ic_t ((ic_mv p m) 18)) (ic_t ((ic_mv p m) 19)) (ic_t ((ic_mv p m) 20)) (ic_t ((ic_mv p m) 21)) (ic_t ((ic_mv p m) 22)) (ic_t ((ic_mv p m) 23)) (ic_t ((ic_mv p m) 24))) : wX_runCycle_56 post (n + 1) (nI m) (nI (p 25 0)) (nI (p 25 1)) (lN (p 25 2)) (lN (p 25 3)) (nI (p 25 4)) (ic_ts (p 0)) (ic_t (p 1)) (ic_t (p 2)) (ic_t (p 3)) (ic_t8 (p 3)) (ic_t (p 4)) (ic_t (p 5)) (ic_t (p 6)) (ic_tL (p 7)) (ic_t (p 8)) (ic_t (p 9)) (ic_t (p 10)) (ic_t (p 11)) (ic_t (p 12)) (ic_t (p 13)) (ic_t (p 14)) (ic_t (p 15)) (ic_t (p 16)) (ic_t (p 17)) (ic_t (p 18)) (ic_t (p 19)) (ic_t (p 20)) (ic_t (p 21)) (ic_t (p 22)) (ic_t (p 23)) (ic_t (p 24)) := by
  refine pk_le 2 m (fun h => by omega) (fun _ => ?_)
  refine ic_X_mv (p := p) hI hT hC hm ?_
  exact nm_r (nI_1 m) h
theorem ic_X_34 {p : Nat → Nat → Nat} {post : St2 → Prop} {n m : Nat} (hI : ic_Inv p) (hT : p 25 3 < 2 ^ 30) (hC : p 25 2 < 2 ^ 30) (hm : m < 2) (h : wX_runCycle_34 post n (nI (m + 1)) (nI ((ic_rd p (m * 2)) 25 0)) (nI ((ic_rd p (m * 2)) 25 1)) (lN ((ic_rd p (m * 2)) 25 2)) (lN ((ic_rd p (m * 2)) 25 3)) (nI ((ic_rd p (m * 2)) 25 4)) (ic_ts ((ic_rd p (m * 2)) 0)) (ic_t ((ic_rd p (m * 2)) 1)) (ic_t ((ic_rd p (m * 2)) 2)) (ic_t ((ic_rd p (m * 2)) 3)) (ic_t8 ((ic_rd p (m * 2)) 3)) (ic_t ((ic_rd p (m * 2)) 4)) (ic_t ((ic_rd p (m * 2)) 5)) (ic_t ((ic_rd p (m * 2)) 6)) (ic_tL ((ic_rd p (m * 2)) 7)) (ic_t ((ic_rd p (m * 2)) 8)) (ic_t ((ic_rd p (m * 2)) 9)) (ic_t ((ic_rd p (m * 2)) 10)) (ic_t ((ic_rd p (m * 2)) 11)) (ic_t ((ic_rd p (m * 2)) 12)) (ic_t ((ic_rd p (m * 2)) 13)) (ic_t ((ic_rd p (m * 2)) 14)) (ic_t ((ic_rd p (m * 2)) 15)) (ic_t ((ic_rd p (m * 2)) 16)) (ic_t ((ic_rd p (m * 2)) 17)) (ic_t ((ic_rd p (m * 2)) 18)) (ic_t ((ic_rd p (m * 2)) 19)) (ic_t ((ic_rd p (m * 2)) 20)) (ic_t ((ic_rd p (m * 2)) 21)) (ic_t ((ic_rd p (m * 2)) 22)) (ic_t ((ic_rd p (m * 2)) 23)) (ic_t ((ic_rd p (m * 2)) 24))) : wX_runCycle_34 post (n + 1) (nI m) (nI (p 25 0)) (nI (p 25 1)) (lN (p 25 2)) (lN (p 25 3)) (nI (p 25 4)) (ic_ts (p 0)) (ic_t (p 1)) (ic_t (p 2)) (ic_t (p 3)) (ic_t8 (p 3)) (ic_t (p 4)) (ic_t (p 5)) (ic_t (p 6)) (ic_tL (p 7)) (ic_t (p 8)) (ic_t (p 9)) (ic_t (p 10)) (ic_t (p 11)) (ic_t (p 12)) (ic_t (p 13)) (ic_t (p 14)) (ic_t (p 15)) (ic_t (p 16)) (ic_t (p 17)) (ic_t (p 18)) (ic_t (p 19)) (ic_t (p 20)) (ic_t (p 21)) (ic_t (p 22)) (ic_t (p 23)) (ic_t (p 24)) := by
  refine pk_le 2 m (fun h => by omega) (fun _ => ?_)
  rw [show nI m * 2 + 0 = nI (m * 2) from ic_ma m 2 0]
  refine ic_X_rd (p := p) hI hT hC (by omega) (by omega) ?_
  exact nm_r (nI_1 m) h
theorem ic_X_12 {p : Nat → Nat → Nat} {post : St2 → Prop} {n m : Nat} (hI : ic_Inv p) (hT : p 25 3 < 2 ^ 30) (hC : p 25 2 < 2 ^ 30) (hm : m < 2) (h : wX_runCycle_12 post n (nI (m + 1)) (nI ((ic_wr p (m * 2 + 1)) 25 0)) (nI ((ic_wr p (m * 2 + 1)) 25 1)) (lN ((ic_wr p (m * 2 + 1)) 25 2)) (lN ((ic_wr p (m * 2 + 1)) 25 3)) (nI ((ic_wr p (m * 2 + 1)) 25 4)) (ic_ts ((ic_wr p (m * 2 + 1)) 0)) (ic_t ((ic_wr p (m * 2 + 1)) 1)) (ic_t ((ic_wr p (m * 2 + 1)) 2)) (ic_t ((ic_wr p (m * 2 + 1)) 3)) (ic_t8 ((ic_wr p (m * 2 + 1)) 3)) (ic_t ((ic_wr p (m * 2 + 1)) 4)) (ic_t ((ic_wr p (m * 2 + 1)) 5)) (ic_t ((ic_wr p (m * 2 + 1)) 6)) (ic_tL ((ic_wr p (m * 2 + 1)) 7)) (ic_t ((ic_wr p (m * 2 + 1)) 8)) (ic_t ((ic_wr p (m * 2 + 1)) 9)) (ic_t ((ic_wr p (m * 2 + 1)) 10)) (ic_t ((ic_wr p (m * 2 + 1)) 11)) (ic_t ((ic_wr p (m * 2 + 1)) 12)) (ic_t ((ic_wr p (m * 2 + 1)) 13)) (ic_t ((ic_wr p (m * 2 + 1)) 14)) (ic_t ((ic_wr p (m * 2 + 1)) 15)) (ic_t ((ic_wr p (m * 2 + 1)) 16)) (ic_t ((ic_wr p (m * 2 + 1)) 17)) (ic_t ((ic_wr p (m * 2 + 1)) 18)) (ic_t ((ic_wr p (m * 2 + 1)) 19)) (ic_t ((ic_wr p (m * 2 + 1)) 20)) (ic_t ((ic_wr p (m * 2 + 1)) 21)) (ic_t ((ic_wr p (m * 2 + 1)) 22)) (ic_t ((ic_wr p (m * 2 + 1)) 23)) (ic_t ((ic_wr p (m * 2 + 1)) 24))) : wX_runCycle_12 post (n + 1) (nI m) (nI (p 25 0)) (nI (p 25 1)) (lN (p 25 2)) (lN (p 25 3)) (nI (p 25 4)) (ic_ts (p 0)) (ic_t (p 1)) (ic_t (p 2)) (ic_t (p 3)) (ic_t8 (p 3)) (ic_t (p 4)) (ic_t (p 5)) (ic_t (p 6)) (ic_tL (p 7)) (ic_t (p 8)) (ic_t (p 9)) (ic_t (p 10)) (ic_t (p 11)) (ic_t (p 12)) (ic_t (p 13)) (ic_t (p 14)) (ic_t (p 15)) (ic_t (p 16)) (ic_t (p 17)) (ic_t (p 18)) (ic_t (p 19)) (ic_t (p 20)) (ic_t (p 21)) (ic_t (p 22)) (ic_t (p 23)) (ic_t (p 24)) := by
  refine pk_le 2 m (fun h => by omega) (fun _ => ?_)
  rw [show nI m * 2 + 1 = nI (m * 2 + 1) from ic_ma m 2 1]
  refine ic_X_wr (p := p) hI hT hC (by omega) ?_
  exact nm_r (nI_1 m) h
theorem ic_X_cy2 {p : Nat → Nat → Nat} {post : St2 → Prop} (hI : ic_Inv p) (h : post (ic_X (ic_cy2 p))) : wX_runCycle_74 post 5 (nI 0) (nI (p 25 0)) (nI (p 25 1)) (lN (p 25 2)) (lN (p 25 3)) (nI (p 25 4)) (ic_ts (p 0)) (ic_t (p 1)) (ic_t (p 2)) (ic_t (p 3)) (ic_t8 (p 3)) (ic_t (p 4)) (ic_t (p 5)) (ic_t (p 6)) (ic_tL (p 7)) (ic_t (p 8)) (ic_t (p 9)) (ic_t (p 10)) (ic_t (p 11)) (ic_t (p 12)) (ic_t (p 13)) (ic_t (p 14)) (ic_t (p 15)) (ic_t (p 16)) (ic_t (p 17)) (ic_t (p 18)) (ic_t (p 19)) (ic_t (p 20)) (ic_t (p 21)) (ic_t (p 22)) (ic_t (p 23)) (ic_t (p 24)) := by
  refine ic_X_74 hI (by decide) ?_
  have h1 := ic_ar_Inv (s := 0) (k := 0) (ic_ar_Inv (s := 0) (k := 1) hI (by decide) (by decide)) (by decide) (by decide)
  refine ic_X_74 h1 (by decide) ?_
  have h2 := ic_ar_Inv (s := 1) (k := 0) (ic_ar_Inv (s := 1) (k := 1) h1 (by decide) (by decide)) (by decide) (by decide)
  refine ic_X_74 h2 (by decide) ?_
  have h3 := ic_ar_Inv (s := 2) (k := 0) (ic_ar_Inv (s := 2) (k := 1) h2 (by decide) (by decide)) (by decide) (by decide)
  refine ic_X_74 h3 (by decide) ?_
  exact pk_le 4 4 (fun _ => h) (fun z => by omega)
theorem ic_X_cy1 {p : Nat → Nat → Nat} {post : St2 → Prop} (hI : ic_Inv p) (hT : p 25 3 < 2 ^ 30) (hC : p 25 2 < 2 ^ 30) (h : post (ic_X (ic_cy2 (ic_cy1 p)))) : wX_runCycle_12 post 3 (nI 0) (nI (p 25 0)) (nI (p 25 1)) (lN (p 25 2)) (lN (p 25 3)) (nI (p 25 4)) (ic_ts (p 0)) (ic_t (p 1)) (ic_t (p 2)) (ic_t (p 3)) (ic_t8 (p 3)) (ic_t (p 4)) (ic_t (p 5)) (ic_t (p 6)) (ic_tL (p 7)) (ic_t (p 8)) (ic_t (p 9)) (ic_t (p 10)) (ic_t (p 11)) (ic_t (p 12)) (ic_t (p 13)) (ic_t (p 14)) (ic_t (p 15)) (ic_t (p 16)) (ic_t (p 17)) (ic_t (p 18)) (ic_t (p 19)) (ic_t (p 20)) (ic_t (p 21)) (ic_t (p 22)) (ic_t (p 23)) (ic_t (p 24)) := by
  have e1 := @ic_wr_25 p 1
  have e2 := @ic_wr_25 (ic_wr p 1) 3
  have e3 := @ic_rd_25 (ic_wr (ic_wr p 1) 3) 0
  have e4 := @ic_rd_25 (ic_rd (ic_wr (ic_wr p 1) 3) 0) 2
  have e5 := @ic_mv_25 (ic_rd (ic_rd (ic_wr (ic_wr p 1) 3) 0) 2) 0
  have i1 := ic_wr_Inv (c := 1) hI
  have i2 := ic_wr_Inv (c := 3) i1
  have i3 := ic_rd_Inv (c := 0) i2 (by decide)
  have i4 := ic_rd_Inv (c := 2) i3 (by decide)
  have i5 := ic_mv_Inv (m := 0) i4
  have i6 := ic_mv_Inv (m := 1) i5
  have t1 : ic_wr p 1 25 3 < 2 ^ 30 := by omega
  have c1 : ic_wr p 1 25 2 < 2 ^ 30 := by omega
  have t2 : ic_wr (ic_wr p 1) 3 25 3 < 2 ^ 30 := by omega
  have c2 : ic_wr (ic_wr p 1) 3 25 2 < 2 ^ 30 := by omega
  have t3 : ic_rd (ic_wr (ic_wr p 1) 3) 0 25 3 < 2 ^ 30 := by omega
  have c3 : ic_rd (ic_wr (ic_wr p 1) 3) 0 25 2 < 2 ^ 30 := by omega
  have t4 : ic_rd (ic_rd (ic_wr (ic_wr p 1) 3) 0) 2 25 3 < 2 ^ 30 := by omega
  have c4 : ic_rd (ic_rd (ic_wr (ic_wr p 1) 3) 0) 2 25 2 < 2 ^ 30 := by omega
  have t5 : ic_mv (ic_rd (ic_rd (ic_wr (ic_wr p 1) 3) 0) 2) 0 25 3 < 2 ^ 30 := by rw [e5]; exact t4
  have c5 : ic_mv (ic_rd (ic_rd (ic_wr (ic_wr p 1) 3) 0) 2) 0 25 2 < 2 ^ 30 := by rw [e5]; exact c4
  refine ic_X_12 (m := 0) hI hT hC (by decide) ?_
  refine ic_X_12 (m := 1) i1 t1 c1 (by decide) ?_
  refine pk_le 2 2 (fun _ => ⟨3, ?_⟩) (fun z => by omega)
  refine ic_X_34 (m := 0) i2 t2 c2 (by decide) ?_
  refine ic_X_34 (m := 1) i3 t3 c3 (by decide) ?_
  refine pk_le 2 2 (fun _ => ⟨3, ?_⟩) (fun z => by omega)
  refine ic_X_56 (m := 0) i4 t4 c4 (by decide) ?_
  refine ic_X_56 (m := 1) i5 t5 c5 (by decide) ?_
  refine pk_le 2 2 (fun _ => ⟨5, ?_⟩) (fun z => by omega)
  exact ic_X_cy2 i6 h
theorem ic_X_runCycle {p : Nat → Nat → Nat} {post : St2 → Prop} (hI : ic_Inv p) (hT : p 25 3 < 2 ^ 30) (hC : p 25 2 + 1 < 2 ^ 30) (h : post (ic_X (ic_cyc p))) : wpX_runCycle post (ic_X p) := by
  unfold wpX_runCycle
  refine nm_r (lN_1 _) ⟨3, ?_⟩
  exact ic_X_cy1 (p := ic_pu p 25 2 (p 25 2 + 1)) (ic_c1_Inv hI) hT hC h
theorem ic_cy2_25 {p : Nat → Nat → Nat} : ic_cy2 p 25 = p 25 := by
  unfold ic_cy2
  rw [ic_ar_25, ic_ar_25, ic_ar_25, ic_ar_25, ic_ar_25, ic_ar_25, ic_ar_25, ic_ar_25]
theorem ic_cy1_25 {p : Nat → Nat → Nat} : ic_cy1 p 25 2 = p 25 2 ∧ ic_cy1 p 25 3 = p 25 3 := by
  unfold ic_cy1
  rw [ic_mv_25, ic_mv_25]
  have e1 := @ic_wr_25 p 1
  have e2 := @ic_wr_25 (ic_wr p 1) 3
  have e3 := @ic_rd_25 (ic_wr (ic_wr p 1) 3) 0
  have e4 := @ic_rd_25 (ic_rd (ic_wr (ic_wr p 1) 3) 0) 2
  omega
theorem ic_cyc_25 {p : Nat → Nat → Nat} : ic_cyc p 25 2 = p 25 2 + 1 ∧ ic_cyc p 25 3 = p 25 3 := by
  unfold ic_cyc
  rw [ic_cy2_25]
  exact ic_cy1_25 (p := ic_pu p 25 2 (p 25 2 + 1))
theorem ic_run_Inv : ∀ (n : Nat) (p : Nat → Nat → Nat), ic_Inv p → ic_Inv (ic_run n p) ∧ ic_run n p 25 2 = p 25 2 + n ∧ ic_run n p 25 3 = p 25 3 := by
  intro n
  induction n with
  | zero => intro p h; exact ⟨h, rfl, rfl⟩
  | succ n ih =>
    intro p h
    have h1 := ih (ic_cyc p) (ic_cyc_Inv h)
    have e := @ic_cyc_25 p
    refine ⟨h1.1, ?_, ?_⟩
    · show ic_run n (ic_cyc p) 25 2 = _
      omega
    · show ic_run n (ic_cyc p) 25 3 = _
      omega
theorem ic_X_st {n : Nat} {post : Int32 → St2 → Prop} (hn : n ≤ 64) : ∀ (d i : Nat) (p : Nat → Nat → Nat), i + d = n → ic_Inv p → p 25 3 < 2 ^ 30 → p 25 2 + d < 2 ^ 30 → post 1 (ic_X (ic_run d p)) → wX_step_15 post (nI n) (d + 1) (nI i) (nI (p 25 0)) (nI (p 25 1)) (lN (p 25 2)) (lN (p 25 3)) (nI (p 25 4)) (ic_ts (p 0)) (ic_t (p 1)) (ic_t (p 2)) (ic_t (p 3)) (ic_t8 (p 3)) (ic_t (p 4)) (ic_t (p 5)) (ic_t (p 6)) (ic_tL (p 7)) (ic_t (p 8)) (ic_t (p 9)) (ic_t (p 10)) (ic_t (p 11)) (ic_t (p 12)) (ic_t (p 13)) (ic_t (p 14)) (ic_t (p 15)) (ic_t (p 16)) (ic_t (p 17)) (ic_t (p 18)) (ic_t (p 19)) (ic_t (p 20)) (ic_t (p 21)) (ic_t (p 22)) (ic_t (p 23)) (ic_t (p 24)) := by
  intro d
  induction d with
  | zero =>
    intro i p hi _ _ _ h
    exact pk_le n i (fun _ => h) (fun z => by omega)
  | succ d ih =>
    intro i p hi hI hT hC h
    have e := @ic_cyc_25 p
    refine pk_le n i (fun z => by omega) (fun _ => ?_)
    refine ic_X_runCycle (p := p) hI hT (by omega) ?_
    exact nm_r (nI_1 i) (ih (i + 1) (ic_cyc p) (by omega) (ic_cyc_Inv hI) (by omega) (by omega) h)
