/-! the reference: one cycle, n cycles, requests -/
theorem ic_cho_n {p : Nat → Nat → Nat} {c : Nat} (h : p 23 c = 0) : ic_wr p c = p ∧ ic_rd p c = p := by
  have e : ic_cho p c = none := by unfold ic_cho; rw [if_pos h]
  unfold ic_wr ic_rd
  rw [e]
  exact ⟨rfl, rfl⟩
theorem ic_Y_12 {p q : Nat → Nat → Nat} {post : SY → Prop} {n m : Nat} (hl : ic_Lnk p q) (hI : ic_Inv p) (hT : p 25 3 < 2 ^ 30) (hC : p 25 2 < 2 ^ 30) (hm : m < 2) (h : ∀ q', ic_Lnk (ic_wr p (m * 2 + 1)) q' → wY_oneCycle_12 post n (nI (m + 1)) (nI (q' 22 0)) (nI (q' 22 1)) (nI (q' 22 2)) (nI (q' 22 3)) (nI (q' 22 4)) (ic_t (q' 0)) (ic_t (q' 1)) (ic_t (q' 2)) (ic_t (q' 3)) (ic_t (q' 4)) (ic_t (q' 5)) (ic_t (q' 6)) (ic_t (q' 7)) (ic_t (q' 8)) (ic_t (q' 9)) (ic_t (q' 10)) (ic_t (q' 11)) (ic_t (q' 12)) (ic_t (q' 13)) (ic_t (q' 14)) (ic_t (q' 15)) (ic_t (q' 16)) (ic_t (q' 17)) (ic_t (q' 18)) (ic_t (q' 19)) (ic_t (q' 20)) (ic_t (q' 21))) : wY_oneCycle_12 post (n + 1) (nI m) (nI (q 22 0)) (nI (q 22 1)) (nI (q 22 2)) (nI (q 22 3)) (nI (q 22 4)) (ic_t (q 0)) (ic_t (q 1)) (ic_t (q 2)) (ic_t (q 3)) (ic_t (q 4)) (ic_t (q 5)) (ic_t (q 6)) (ic_t (q 7)) (ic_t (q 8)) (ic_t (q 9)) (ic_t (q 10)) (ic_t (q 11)) (ic_t (q 12)) (ic_t (q 13)) (ic_t (q 14)) (ic_t (q 15)) (ic_t (q 16)) (ic_t (q 17)) (ic_t (q 18)) (ic_t (q 19)) (ic_t (q 20)) (ic_t (q 21)) := by
  have e : q 20 m = p 23 (m * 2 + 1) := (hl.2.2.2.2.1 m hm).2.2.1
  have h1 := (hI.2.2.2.2.2.2.1 (m * 2 + 1) (by omega)).2
  refine pk_le 2 m (fun h => by omega) (fun _ => And.intro (vp_in_nI hm (by decide)) (ek_if (ic_ce m 0 rfl rfl (by omega) (by omega) (by decide)) (fun a => nm_r (nI_1 m) (h q ?_)) (fun a => ?_)))
  · rw [(ic_cho_n (by omega)).1]; exact hl
  · exact ic_Y_wr hl hI hT hC hm (by omega) (fun q' hq => nm_r (nI_1 m) (h q' hq))
theorem ic_Y_40 {p q : Nat → Nat → Nat} {post : SY → Prop} {n m : Nat} (hl : ic_Lnk p q) (hI : ic_Inv p) (hT : p 25 3 < 2 ^ 30) (hC : p 25 2 < 2 ^ 30) (hm : m < 2) (h : ∀ q', ic_Lnk (ic_rd p (m * 2)) q' → wY_oneCycle_40 post n (nI (m + 1)) (nI (q' 22 0)) (nI (q' 22 1)) (nI (q' 22 2)) (nI (q' 22 3)) (nI (q' 22 4)) (ic_t (q' 0)) (ic_t (q' 1)) (ic_t (q' 2)) (ic_t (q' 3)) (ic_t (q' 4)) (ic_t (q' 5)) (ic_t (q' 6)) (ic_t (q' 7)) (ic_t (q' 8)) (ic_t (q' 9)) (ic_t (q' 10)) (ic_t (q' 11)) (ic_t (q' 12)) (ic_t (q' 13)) (ic_t (q' 14)) (ic_t (q' 15)) (ic_t (q' 16)) (ic_t (q' 17)) (ic_t (q' 18)) (ic_t (q' 19)) (ic_t (q' 20)) (ic_t (q' 21))) : wY_oneCycle_40 post (n + 1) (nI m) (nI (q 22 0)) (nI (q 22 1)) (nI (q 22 2)) (nI (q 22 3)) (nI (q 22 4)) (ic_t (q 0)) (ic_t (q 1)) (ic_t (q 2)) (ic_t (q 3)) (ic_t (q 4)) (ic_t (q 5)) (ic_t (q 6)) (ic_t (q 7)) (ic_t (q 8)) (ic_t (q 9)) (ic_t (q 10)) (ic_t (q 11)) (ic_t (q 12)) (ic_t (q 13)) (ic_t (q 14)) (ic_t (q 15)) (ic_t (q 16)) (ic_t (q 17)) (ic_t (q 18)) (ic_t (q 19)) (ic_t (q 20)) (ic_t (q 21)) := by
  have e : q 21 m = p 23 (m * 2) := (hl.2.2.2.2.1 m hm).2.2.2
  have h1 := (hI.2.2.2.2.2.2.1 (m * 2) (by omega)).2
  refine pk_le 2 m (fun h => by omega) (fun _ => And.intro (vp_in_nI hm (by decide)) (ek_if (ic_ce m 0 rfl rfl (by omega) (by omega) (by decide)) (fun a => nm_r (nI_1 m) (h q ?_)) (fun a => ?_)))
  · rw [(ic_cho_n (by omega)).2]; exact hl
  · exact ic_Y_rd hl hI hT hC hm (by omega) (fun q' hq => nm_r (nI_1 m) (h q' hq))
theorem ic_Y_68 {p q : Nat → Nat → Nat} {post : SY → Prop} {n m : Nat} (hl : ic_Lnk p q) (hI : ic_Inv p) (hT : p 25 3 < 2 ^ 30) (hm : m < 2) (h : ∀ q', ic_Lnk (ic_mv p m) q' → wY_oneCycle_68 post n (nI (m + 1)) (nI (q' 22 0)) (nI (q' 22 1)) (nI (q' 22 2)) (nI (q' 22 3)) (nI (q' 22 4)) (ic_t (q' 0)) (ic_t (q' 1)) (ic_t (q' 2)) (ic_t (q' 3)) (ic_t (q' 4)) (ic_t (q' 5)) (ic_t (q' 6)) (ic_t (q' 7)) (ic_t (q' 8)) (ic_t (q' 9)) (ic_t (q' 10)) (ic_t (q' 11)) (ic_t (q' 12)) (ic_t (q' 13)) (ic_t (q' 14)) (ic_t (q' 15)) (ic_t (q' 16)) (ic_t (q' 17)) (ic_t (q' 18)) (ic_t (q' 19)) (ic_t (q' 20)) (ic_t (q' 21))) : wY_oneCycle_68 post (n + 1) (nI m) (nI (q 22 0)) (nI (q 22 1)) (nI (q 22 2)) (nI (q 22 3)) (nI (q 22 4)) (ic_t (q 0)) (ic_t (q 1)) (ic_t (q 2)) (ic_t (q 3)) (ic_t (q 4)) (ic_t (q 5)) (ic_t (q 6)) (ic_t (q 7)) (ic_t (q 8)) (ic_t (q 9)) (ic_t (q 10)) (ic_t (q 11)) (ic_t (q 12)) (ic_t (q 13)) (ic_t (q 14)) (ic_t (q 15)) (ic_t (q 16)) (ic_t (q 17)) (ic_t (q 18)) (ic_t (q 19)) (ic_t (q 20)) (ic_t (q 21)) := by
  refine pk_le 2 m (fun h => by omega) (fun _ => ?_)
  exact ic_Y_mv hl hI hT hm (fun q' hq => nm_r (nI_1 m) (h q' hq))
theorem ic_Y_86 {p q : Nat → Nat → Nat} {post : SY → Prop} {n s : Nat} (hl : ic_Lnk p q) (hI : ic_Inv p) (hT : p 25 3 < 2 ^ 30) (hs : s < 4) (h : ∀ q', ic_Lnk (ic_ar (ic_ar p s 1) s 0) q' → wY_oneCycle_86 post n (nI (s + 1)) (nI (q' 22 0)) (nI (q' 22 1)) (nI (q' 22 2)) (nI (q' 22 3)) (nI (q' 22 4)) (ic_t (q' 0)) (ic_t (q' 1)) (ic_t (q' 2)) (ic_t (q' 3)) (ic_t (q' 4)) (ic_t (q' 5)) (ic_t (q' 6)) (ic_t (q' 7)) (ic_t (q' 8)) (ic_t (q' 9)) (ic_t (q' 10)) (ic_t (q' 11)) (ic_t (q' 12)) (ic_t (q' 13)) (ic_t (q' 14)) (ic_t (q' 15)) (ic_t (q' 16)) (ic_t (q' 17)) (ic_t (q' 18)) (ic_t (q' 19)) (ic_t (q' 20)) (ic_t (q' 21))) : wY_oneCycle_86 post (n + 1) (nI s) (nI (q 22 0)) (nI (q 22 1)) (nI (q 22 2)) (nI (q 22 3)) (nI (q 22 4)) (ic_t (q 0)) (ic_t (q 1)) (ic_t (q 2)) (ic_t (q 3)) (ic_t (q 4)) (ic_t (q 5)) (ic_t (q 6)) (ic_t (q 7)) (ic_t (q 8)) (ic_t (q 9)) (ic_t (q 10)) (ic_t (q 11)) (ic_t (q 12)) (ic_t (q 13)) (ic_t (q 14)) (ic_t (q 15)) (ic_t (q 16)) (ic_t (q 17)) (ic_t (q 18)) (ic_t (q 19)) (ic_t (q 20)) (ic_t (q 21)) := by
  refine pk_le 4 s (fun h => by omega) (fun _ => ?_)
  refine ic_Y_ar (k := 0) hl hI hT hs (by decide) (fun q1 h1 => ?_)
  refine ic_Y_ar (p := ic_ar p s 1) (k := 1) h1 (ic_ar_Inv hI hs (by decide)) (by rw [ic_ar_25]; exact hT) hs (by decide) (fun q2 h2 => ?_)
  exact nm_r (nI_1 s) (h q2 h2)
theorem ic_Y_cy2 {p q : Nat → Nat → Nat} {post : SY → Prop} (hl : ic_Lnk p q) (hI : ic_Inv p) (hT : p 25 3 < 2 ^ 30) (h : ∀ q', ic_Lnk (ic_cy2 p) q' → post (ic_Y q')) : wY_oneCycle_86 post 5 (nI 0) (nI (q 22 0)) (nI (q 22 1)) (nI (q 22 2)) (nI (q 22 3)) (nI (q 22 4)) (ic_t (q 0)) (ic_t (q 1)) (ic_t (q 2)) (ic_t (q 3)) (ic_t (q 4)) (ic_t (q 5)) (ic_t (q 6)) (ic_t (q 7)) (ic_t (q 8)) (ic_t (q 9)) (ic_t (q 10)) (ic_t (q 11)) (ic_t (q 12)) (ic_t (q 13)) (ic_t (q 14)) (ic_t (q 15)) (ic_t (q 16)) (ic_t (q 17)) (ic_t (q 18)) (ic_t (q 19)) (ic_t (q 20)) (ic_t (q 21)) := by
  have h1 := ic_ar_Inv (s := 0) (k := 0) (ic_ar_Inv (s := 0) (k := 1) hI (by decide) (by decide)) (by decide) (by decide)
  have h2 := ic_ar_Inv (s := 1) (k := 0) (ic_ar_Inv (s := 1) (k := 1) h1 (by decide) (by decide)) (by decide) (by decide)
  have h3 := ic_ar_Inv (s := 2) (k := 0) (ic_ar_Inv (s := 2) (k := 1) h2 (by decide) (by decide)) (by decide) (by decide)
  refine ic_Y_86 (s := 0) hl hI hT (by decide) (fun q1 k1 => ?_)
  refine ic_Y_86 (s := 1) k1 h1 (by rw [ic_ar_25, ic_ar_25]; exact hT) (by decide) (fun q2 k2 => ?_)
  refine ic_Y_86 (s := 2) k2 h2 (by rw [ic_ar_25, ic_ar_25, ic_ar_25, ic_ar_25]; exact hT) (by decide) (fun q3 k3 => ?_)
  refine ic_Y_86 (s := 3) k3 h3 (by rw [ic_ar_25, ic_ar_25, ic_ar_25, ic_ar_25, ic_ar_25, ic_ar_25]; exact hT) (by decide) (fun q4 k4 => ?_)
  exact pk_le 4 4 (fun _ => h q4 k4) (fun z => by omega)
theorem ic_Y_cy1 {p q : Nat → Nat → Nat} {post : SY → Prop} (hl : ic_Lnk p q) (hI : ic_Inv p) (hT : p 25 3 < 2 ^ 30) (hC : p 25 2 < 2 ^ 30) (h : ∀ q', ic_Lnk (ic_cy2 (ic_cy1 p)) q' → post (ic_Y q')) : wY_oneCycle_12 post 3 (nI 0) (nI (q 22 0)) (nI (q 22 1)) (nI (q 22 2)) (nI (q 22 3)) (nI (q 22 4)) (ic_t (q 0)) (ic_t (q 1)) (ic_t (q 2)) (ic_t (q 3)) (ic_t (q 4)) (ic_t (q 5)) (ic_t (q 6)) (ic_t (q 7)) (ic_t (q 8)) (ic_t (q 9)) (ic_t (q 10)) (ic_t (q 11)) (ic_t (q 12)) (ic_t (q 13)) (ic_t (q 14)) (ic_t (q 15)) (ic_t (q 16)) (ic_t (q 17)) (ic_t (q 18)) (ic_t (q 19)) (ic_t (q 20)) (ic_t (q 21)) := by
  have e1 := @ic_wr_25 p 1
  have e2 := @ic_wr_25 (ic_wr p 1) 3
  have e3 := @ic_rd_25 (ic_wr (ic_wr p 1) 3) 0
  have e4 := @ic_rd_25 (ic_rd (ic_wr (ic_wr p 1) 3) 0) 2
  have e5 := @ic_mv_25 (ic_rd (ic_rd (ic_wr (ic_wr p 1) 3) 0) 2) 0
  have e6 := @ic_mv_25 (ic_mv (ic_rd (ic_rd (ic_wr (ic_wr p 1) 3) 0) 2) 0) 1
  have i1 := ic_wr_Inv (c := 1) hI
  have i2 := ic_wr_Inv (c := 3) i1
  have i3 := ic_rd_Inv (c := 0) i2 (by decide)
  have i4 := ic_rd_Inv (c := 2) i3 (by decide)
  have i5 := ic_mv_Inv (m := 0) i4
  have i6 := ic_mv_Inv (m := 1) i5
  have t1 : ic_wr p 1 25 3 < 2 ^ 30 := by omega
  have c1 : ic_wr p 1 25 2 < 2 ^ 30 := by omega
  have t2 : ic_wr (ic_wr p 1) 3 25 3 < 2 ^ 30 := by omega
  have c2 : ic_wr (ic_wr p 1) 3 25 2 < 2 ^ 30 := by omega
  have t3 : ic_rd (ic_wr (ic_wr p 1) 3) 0 25 3 < 2 ^ 30 := by omega
  have c3 : ic_rd (ic_wr (ic_wr p 1) 3) 0 25 2 < 2 ^ 30 := by omega
  have t4 : ic_rd (ic_rd (ic_wr (ic_wr p 1) 3) 0) 2 25 3 < 2 ^ 30 := by omega
  have t5 : ic_mv (ic_rd (ic_rd (ic_wr (ic_wr p 1) 3) 0) 2) 0 25 3 < 2 ^ 30 := by rw [e5]; exact t4
  have t6 : ic_mv (ic_mv (ic_rd (ic_rd (ic_wr (ic_wr p 1) 3) 0) 2) 0) 1 25 3 < 2 ^ 30 := by rw [e6]; exact t5
  refine ic_Y_12 (m := 0) hl hI hT hC (by decide) (fun q1 k1 => ?_)
  refine ic_Y_12 (p := ic_wr p 1) (m := 1) k1 i1 t1 c1 (by decide) (fun q2 k2 => ?_)
  refine pk_le 2 2 (fun _ => ⟨3, ?_⟩) (fun z => by omega)
  refine ic_Y_40 (p := ic_wr (ic_wr p 1) 3) (m := 0) k2 i2 t2 c2 (by decide) (fun q3 k3 => ?_)
  refine ic_Y_40 (p := ic_rd (ic_wr (ic_wr p 1) 3) 0) (m := 1) k3 i3 t3 c3 (by decide) (fun q4 k4 => ?_)
  refine pk_le 2 2 (fun _ => ⟨3, ?_⟩) (fun z => by omega)
  refine ic_Y_68 (p := ic_rd (ic_rd (ic_wr (ic_wr p 1) 3) 0) 2) (m := 0) k4 i4 t4 (by decide) (fun q5 k5 => ?_)
  refine ic_Y_68 (p := ic_mv (ic_rd (ic_rd (ic_wr (ic_wr p 1) 3) 0) 2) 0) (m := 1) k5 i5 t5 (by decide) (fun q6 k6 => ?_)
  refine pk_le 2 2 (fun _ => ⟨5, ?_⟩) (fun z => by omega)
  exact ic_Y_cy2 (p := ic_cy1 p) k6 i6 t6 h
theorem ic_Y_oneCycle {p q : Nat → Nat → Nat} {post : SY → Prop} (hl : ic_Lnk p q) (hI : ic_Inv p) (hT : p 25 3 < 2 ^ 30) (hC : p 25 2 + 1 < 2 ^ 30) (h : ∀ q', ic_Lnk (ic_cyc p) q' → post (ic_Y q')) : wpY_oneCycle post (ic_Y q) := by
  unfold wpY_oneCycle
  refine nm_r (nI_1 _) ⟨3, ?_⟩
  exact ic_Y_cy1 (p := ic_pu p 25 2 (p 25 2 + 1)) (q := ic_pu q 22 2 (q 22 2 + 1)) (ic_Lnk_c1 hl) (ic_c1_Inv hI) hT hC h
theorem ic_Y_st {n : Nat} {post : Int32 → SY → Prop} (hn : n ≤ 64) : ∀ (d i : Nat) (p q : Nat → Nat → Nat), i + d = n → ic_Lnk p q → ic_Inv p → p 25 3 < 2 ^ 30 → p 25 2 + d < 2 ^ 30 → (∀ q', ic_Lnk (ic_run d p) q' → post 1 (ic_Y q')) → wY_step_15 post (nI n) (d + 1) (nI i) (nI (q 22 0)) (nI (q 22 1)) (nI (q 22 2)) (nI (q 22 3)) (nI (q 22 4)) (ic_t (q 0)) (ic_t (q 1)) (ic_t (q 2)) (ic_t (q 3)) (ic_t (q 4)) (ic_t (q 5)) (ic_t (q 6)) (ic_t (q 7)) (ic_t (q 8)) (ic_t (q 9)) (ic_t (q 10)) (ic_t (q 11)) (ic_t (q 12)) (ic_t (q 13)) (ic_t (q 14)) (ic_t (q 15)) (ic_t (q 16)) (ic_t (q 17)) (ic_t (q 18)) (ic_t (q 19)) (ic_t (q 20)) (ic_t (q 21)) := by
  intro d
  induction d with
  | zero =>
    intro i p q hi hl _ _ _ h
    exact pk_le n i (fun _ => h q hl) (fun z => by omega)
  | succ d ih =>
    intro i p q hi hl hI hT hC h
    have e := @ic_cyc_25 p
    refine pk_le n i (fun z => by omega) (fun _ => ?_)
    refine ic_Y_oneCycle hl hI hT (by omega) (fun q' hq => ?_)
    exact nm_r (nI_1 i) (ih (i + 1) (ic_cyc p) q' (by omega) hq (ic_cyc_Inv hI) (by omega) (by omega) h)
theorem ic_Y_203 {q : Nat → Nat → Nat} {s : Nat} {post : Int32 → SY → Prop} (hs : s < 32) (h : post (nI (q 22 3)) (ic_Y (ic_pu (ic_pf q 11 (ic_z4 (q 11) s)) 22 3 (q 22 3 + 1)))) : wY_issue_203 post (nI s) (nI (q 22 0)) (nI (q 22 1)) (nI (q 22 2)) (nI (q 22 3)) (nI (q 22 4)) 5 (nI 0) (ic_t (q 0)) (ic_t (q 1)) (ic_t (q 2)) (ic_t (q 3)) (ic_t (q 4)) (ic_t (q 5)) (ic_t (q 6)) (ic_t (q 7)) (ic_t (q 8)) (ic_t (q 9)) (ic_t (q 10)) (ic_t (q 11)) (ic_t (q 12)) (ic_t (q 13)) (ic_t (q 14)) (ic_t (q 15)) (ic_t (q 16)) (ic_t (q 17)) (ic_t (q 18)) (ic_t (q 19)) (ic_t (q 20)) (ic_t (q 21)) := by
  have e : ∀ j, nI s * 4 + nI j = nI (s * 4 + j) := fun j => ic_ma s 4 j
  refine pk_le 4 0 (fun z => by omega) (fun _ => And.intro (pk_in (s * 4 + 0) 128 (by omega) (e 0)) (nm_r (ic_p (s * 4 + 0) 0 (e 0) (by omega) rfl) (nm_r (nI_1 0) ?_)))
  refine pk_le 4 1 (fun z => by omega) (fun _ => And.intro (pk_in (s * 4 + 1) 128 (by omega) (e 1)) (nm_r (ic_p (s * 4 + 1) 0 (e 1) (by omega) rfl) (nm_r (nI_1 1) ?_)))
  refine pk_le 4 2 (fun z => by omega) (fun _ => And.intro (pk_in (s * 4 + 2) 128 (by omega) (e 2)) (nm_r (ic_p (s * 4 + 2) 0 (e 2) (by omega) rfl) (nm_r (nI_1 2) ?_)))
  refine pk_le 4 3 (fun z => by omega) (fun _ => And.intro (pk_in (s * 4 + 3) 128 (by omega) (e 3)) (nm_r (ic_p (s * 4 + 3) 0 (e 3) (by omega) rfl) (nm_r (nI_1 3) ?_)))
  refine pk_le 4 4 (fun _ => nm_r (nI_1 _) ?_) (fun z => by omega)
  exact h
theorem ic_Y_101 {q : Nat → Nat → Nat} {k m i a l : Nat} {post : Int32 → SY → Prop} (hT : q 22 3 < 2 ^ 30) (h : post (nI (q 22 3)) (ic_Y (ic_qi q k m i a l))) : wY_issue_101 post (nI k) (nI m) (nI i) (nI a) (nI l) (nI (q 22 0)) (nI (q 22 1)) (nI (q 22 2)) (nI (q 22 3)) (nI (q 22 4)) (ic_t (q 0)) (ic_t (q 1)) (ic_t (q 2)) (ic_t (q 3)) (ic_t (q 4)) (ic_t (q 5)) (ic_t (q 6)) (ic_t (q 7)) (ic_t (q 8)) (ic_t (q 9)) (ic_t (q 10)) (ic_t (q 11)) (ic_t (q 12)) (ic_t (q 13)) (ic_t (q 14)) (ic_t (q 15)) (ic_t (q 16)) (ic_t (q 17)) (ic_t (q 18)) (ic_t (q 19)) (ic_t (q 20)) (ic_t (q 21)) := by
  have hi : vp_in (nI (q 22 3 % 32)) 32 := vp_in_nI (by omega) (by decide)
  unfold wY_issue_101
  refine nm_r (ic_sl (by omega)) ?_
  refine And.intro hi (nm_r (ic_p (q 22 3 % 32) k rfl (by omega) rfl) (And.intro hi (nm_r (ic_p (q 22 3 % 32) m rfl (by omega) rfl) (And.intro hi (nm_r (ic_p (q 22 3 % 32) i rfl (by omega) rfl) (And.intro hi (nm_r (ic_p (q 22 3 % 32) a rfl (by omega) rfl) ?_)))))))
  refine And.intro hi (nm_r (ic_p (q 22 3 % 32) l rfl (by omega) rfl) (And.intro hi (nm_r (ic_p (q 22 3 % 32) 0 rfl (by omega) rfl) (And.intro hi (nm_r (ic_p (q 22 3 % 32) 0 rfl (by omega) rfl) (And.intro hi (nm_r (ic_p (q 22 3 % 32) 0 rfl (by omega) rfl) ?_)))))))
  refine And.intro hi (nm_r (ic_p (q 22 3 % 32) 0 rfl (by omega) rfl) (And.intro hi (nm_r (ic_p (q 22 3 % 32) 4294967295 rfl (by omega) (by decide)) (And.intro hi (nm_r (ic_p (q 22 3 % 32) 4294967295 rfl (by omega) (by decide)) ?_)))))
  exact ⟨5, ic_Y_203 (q := ic_qi1 q k m i a l) (by omega) h⟩
theorem ic_Y_issueF {q : Nat → Nat → Nat} {k v1 v2 v3 v4 : Int32} {post : Int32 → SY → Prop} (hv : ¬ ic_ok v1 v2 v3 v4) (h : post (-1) (ic_Y q)) : wpY_issue post (ic_Y q) k v1 v2 v3 v4 := by
  unfold wpY_issue
  refine br_c (fun _ => h) (fun a1 => br_c (fun _ => h) (fun a2 => br_c (fun _ => h) (fun b1 => br_c (fun _ => h) (fun b2 => br_c (fun _ => h) (fun b3 => br_c (fun _ => h) (fun b4 => br_c (fun _ => h) (fun b5 => br_c (fun _ => h) (fun b6 => And.intro (by decide) (br_c (fun b7 => ?_) (fun _ => h))))))))))
  have gt : ∀ (v : Int32) (n : Nat), n + 1 < 2 ^ 31 → ¬ nI n < v → ¬ nI (n + 1) ≤ v := fun v n hn z w => z (ic_ge hn w).2.1
  obtain ⟨m, hm, em⟩ := ic_ix (n := 2) (by decide) a1 (gt v1 1 (by decide) a2)
  obtain ⟨i, hi, ei⟩ := ic_ix (n := 4) (by decide) b1 (gt v2 3 (by decide) b2)
  obtain ⟨a, ha, ea⟩ := ic_ix (n := 32) (by decide) b3 (gt v3 31 (by decide) b4)
  obtain ⟨l, h1, h4, el⟩ := ic_ix1 (n := 4) (by decide) b5 b6
  subst em ei ea el
  have e : nI a - nI a / 8 * 8 + nI l = nI (a % 8 + l) := by rw [show nI a - nI a / 8 * 8 = nI (a % 8) from ic_r a 8 rfl (by omega) (by decide) (by decide), nI_add]
  rw [e] at b7
  refine absurd ⟨m, i, a, l, hm, hi, ha, h1, h4, ?_, rfl, rfl, rfl, rfl⟩ hv
  exact (nI_leI (a := a % 8 + l) (b := 8) (by omega) (by decide)).mp b7
theorem ic_Y_issue {p q : Nat → Nat → Nat} {k m i a l : Nat} {post : Int32 → SY → Prop} (hl : ic_Lnk p q) (hI : ic_Inv p) (hT : p 25 3 < 2 ^ 30) (hk : k < 2) (hm : m < 2) (hi : i < 4) (ha : a < 32) (h1 : 1 ≤ l) (h4 : l ≤ 4) (h8 : a % 8 + l ≤ 8)
    (hf : p 13 (m * 2 + (1 - k)) = 4 → post (-2) (ic_Y q)) (hs : p 13 (m * 2 + (1 - k)) ≠ 4 → p 0 (p 25 3 % 32) ≤ 1 → post (-3) (ic_Y q)) (hg : p 13 (m * 2 + (1 - k)) ≠ 4 → 2 ≤ p 0 (p 25 3 % 32) → post (nI (q 22 3)) (ic_Y (ic_qi q k m i a l))) :
    wpY_issue post (ic_Y q) (nI k) (nI m) (nI i) (nI a) (nI l) := by
  obtain ⟨K, q1, q2, _⟩ := hI.2.2.1 (m * 2 + (1 - k)) (by omega)
  have hL := hI.1 (p 25 3 % 32) (by omega)
  unfold ic_L at hL
  have eT : q 22 3 = p 25 3 := hl.2.2.2.2.2.2 3 (by decide)
  have e : nI a - nI a / 8 * 8 + nI l = nI (a % 8 + l) := by rw [show nI a - nI a / 8 * 8 = nI (a % 8) from ic_r a 8 rfl (by omega) (by decide) (by decide), nI_add]
  unfold wpY_issue
  refine br_f (nI_pos (by omega)) (pk_lt 1 m (fun z => by omega) (fun _ => br_f (nI_pos (by omega)) (pk_lt 3 i (fun z => by omega) (fun _ => br_f (nI_pos (by omega)) (pk_lt 31 a (fun z => by omega) (fun _ => pk_lt l 1 (fun z => by omega) (fun _ => pk_lt 4 l (fun z => by omega) (fun _ => And.intro (by decide) (pk_le (a % 8 + l) 8 (fun _ => ?_) (fun z => by omega) e rfl)))))))))
  refine ic_Y_cntQ hl hI hT hm hk ?_
  refine pk_lt (p 13 (m * 2 + (1 - k))) 4 (fun z => ?_) (fun z => hf (by omega))
  refine pk_lt (q 22 3) 32 (fun w => ?_) (fun w => ?_)
  · refine ic_Y_101 (by omega) (hg (by omega) ?_)
    omega
  · have hM := hl.1 (p 25 3 % 32) (by omega) (by omega)
    unfold ic_M at hM
    rw [show (nI (q 22 3) - 32) &&& 31 = nI (p 25 3 % 32) from by
      rw [show (32 : Int32) = nI 32 from rfl, pk_sub w, ic_sl (by omega)]
      congr 1
      omega]
    refine ic_Y_isDone (q := q) (by omega) (by omega) (fun y => br_f (by decide) (ic_Y_101 (by omega) (hg (by omega) (by omega)))) (fun y => br_t rfl (hs (by omega) (by omega)))
theorem ic_Y_valid {p q : Nat → Nat → Nat} {v : Int32} {post : Int32 → Prop} (hl : ic_Lnk p q) (hT : p 25 3 < 2 ^ 30) (h1 : ∀ t, t < p 25 3 → p 25 3 ≤ t + 32 → v = nI t → post 1) (h0 : (¬ ∃ t, t < p 25 3 ∧ p 25 3 ≤ t + 32 ∧ v = nI t) → post 0) : wpY_valid post (ic_Y q) v := by
  have eT : q 22 3 = p 25 3 := hl.2.2.2.2.2.2 3 (by decide)
  unfold wpY_valid
  refine br_c (fun a => h0 ?_) (fun a => ?_)
  · intro ⟨t, h2, h3, e⟩
    subst e
    exact nI_pos (by omega) a
  · obtain ⟨t, ht, e⟩ := nI_of a
    subst e
    have inj : ∀ t', t' < p 25 3 → nI t = nI t' → t = t' := fun t' h2 e => (nI_eq ht (by omega)).mp e
    refine pk_le (q 22 3) t (fun b => h0 ?_) (fun b => ?_)
    · intro ⟨t', h2, h3, e⟩
      have := inj t' h2 e
      omega
    · refine ek_if (d := t + 32 < p 25 3) ?_ (fun c => h0 ?_) (fun c => h1 t (by omega) (by omega) rfl)
      · have := @ic_lo (q 22 3) t (by omega) ht
        rw [← Int32.not_le, show (nI (q 22 3) - 32 ≤ nI t) ↔ _ from this]
        omega
      · intro ⟨t', h2, h3, e⟩
        have := inj t' h2 e
        omega
