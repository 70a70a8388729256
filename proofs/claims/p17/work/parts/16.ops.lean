/-! the law's calls -/
theorem ic_264F {post : Int32 → Prop} {L : Nat} {xs : Nat → Int32} {J : ic_JT} {x1 x2 x3 : Int32} {sd : Int64} {x7 x8 x9 z : Int32} {kc ks : Nat} {p : Nat → Nat → Nat} (hz : z = -2 ∨ z = -3)
    (h : wL_law_468 post L xs J x1 x2 x3 sd x7 x8 x9 kc ks (nI (p 25 0)) (nI (p 25 1)) (lN (p 25 2)) (lN (p 25 3)) (nI (p 25 4)) (ic_ts (p 0)) (ic_t (p 1)) (ic_t (p 2)) (ic_t (p 3)) (ic_t8 (p 3)) (ic_t (p 4)) (ic_t (p 5)) (ic_t (p 6)) (ic_tL (p 7)) (ic_t (p 8)) (ic_t (p 9)) (ic_t (p 10)) (ic_t (p 11)) (ic_t (p 12)) (ic_t (p 13)) (ic_t (p 14)) (ic_t (p 15)) (ic_t (p 16)) (ic_t (p 17)) (ic_t (p 18)) (ic_t (p 19)) (ic_t (p 20)) (ic_t (p 21)) (ic_t (p 22)) (ic_t (p 23)) (ic_t (p 24))) : wL_law_264 post L xs J x1 x2 x3 sd x7 x8 x9 z kc ks (nI (p 25 0)) (nI (p 25 1)) (lN (p 25 2)) (lN (p 25 3)) (nI (p 25 4)) (ic_ts (p 0)) (ic_t (p 1)) (ic_t (p 2)) (ic_t (p 3)) (ic_t8 (p 3)) (ic_t (p 4)) (ic_t (p 5)) (ic_t (p 6)) (ic_tL (p 7)) (ic_t (p 8)) (ic_t (p 9)) (ic_t (p 10)) (ic_t (p 11)) (ic_t (p 12)) (ic_t (p 13)) (ic_t (p 14)) (ic_t (p 15)) (ic_t (p 16)) (ic_t (p 17)) (ic_t (p 18)) (ic_t (p 19)) (ic_t (p 20)) (ic_t (p 21)) (ic_t (p 22)) (ic_t (p 23)) (ic_t (p 24)) := by
  unfold wL_law_264
  rcases hz with e | e
  · subst e
    exact br_t (by decide) (br_t rfl h)
  · subst e
    exact br_t (by decide) (br_f (by decide) (br_t rfl h))
theorem ic_264T {post : Int32 → Prop} {L : Nat} {xs : Nat → Int32} {J : ic_JT} {x1 x2 x3 : Int32} {sd : Int64} {x8 x9 : Int32} {kc ks t : Nat} {p : Nat → Nat → Nat} (ht : t < 2 ^ 30)
    (h : wL_law_468 post L xs J x1 x2 x3 sd (nI (t + 1)) x8 x9 kc ks (nI (p 25 0)) (nI (p 25 1)) (lN (p 25 2)) (lN (p 25 3)) (nI (p 25 4)) (ic_ts (p 0)) (ic_t (p 1)) (ic_t (p 2)) (ic_t (p 3)) (ic_t8 (p 3)) (ic_t (p 4)) (ic_t (p 5)) (ic_t (p 6)) (ic_tL (p 7)) (ic_t (p 8)) (ic_t (p 9)) (ic_t (p 10)) (ic_t (p 11)) (ic_t (p 12)) (ic_t (p 13)) (ic_t (p 14)) (ic_t (p 15)) (ic_t (p 16)) (ic_t (p 17)) (ic_t (p 18)) (ic_t (p 19)) (ic_t (p 20)) (ic_t (p 21)) (ic_t (p 22)) (ic_t (p 23)) (ic_t (p 24))) : wL_law_264 post L xs J x1 x2 x3 sd (nI t) x8 x9 (nI t) kc ks (nI (p 25 0)) (nI (p 25 1)) (lN (p 25 2)) (lN (p 25 3)) (nI (p 25 4)) (ic_ts (p 0)) (ic_t (p 1)) (ic_t (p 2)) (ic_t (p 3)) (ic_t8 (p 3)) (ic_t (p 4)) (ic_t (p 5)) (ic_t (p 6)) (ic_tL (p 7)) (ic_t (p 8)) (ic_t (p 9)) (ic_t (p 10)) (ic_t (p 11)) (ic_t (p 12)) (ic_t (p 13)) (ic_t (p 14)) (ic_t (p 15)) (ic_t (p 16)) (ic_t (p 17)) (ic_t (p 18)) (ic_t (p 19)) (ic_t (p 20)) (ic_t (p 21)) (ic_t (p 22)) (ic_t (p 23)) (ic_t (p 24)) := by
  unfold wL_law_264
  exact br_f (nI_pos (by omega)) (br_t rfl (nm_r (nI_1 t) h))
theorem ic_192 {post : Int32 → Prop} {L : Nat} {xs : Nat → Int32} {J : ic_JT} {sd : Int64} {x8 : Int32} {mk lim cap kc ks k : Nat} {p : Nat → Nat → Nat} (hJ : ic_JJ sd mk lim cap p) (hmk : mk < 4) (hT : p 25 3 < 2 ^ 19)
    (S : ∀ p', ic_JJ sd mk lim cap p' → p' 25 3 ≤ p 25 3 + 1 → p' 25 2 ≤ p 25 2 + 64 → wL_law_468 post L xs J (nI lim) (nI cap) (nI mk) sd (nI (p' 25 3)) x8 (nI k) kc ks (nI (p' 25 0)) (nI (p' 25 1)) (lN (p' 25 2)) (lN (p' 25 3)) (nI (p' 25 4)) (ic_ts (p' 0)) (ic_t (p' 1)) (ic_t (p' 2)) (ic_t (p' 3)) (ic_t8 (p' 3)) (ic_t (p' 4)) (ic_t (p' 5)) (ic_t (p' 6)) (ic_tL (p' 7)) (ic_t (p' 8)) (ic_t (p' 9)) (ic_t (p' 10)) (ic_t (p' 11)) (ic_t (p' 12)) (ic_t (p' 13)) (ic_t (p' 14)) (ic_t (p' 15)) (ic_t (p' 16)) (ic_t (p' 17)) (ic_t (p' 18)) (ic_t (p' 19)) (ic_t (p' 20)) (ic_t (p' 21)) (ic_t (p' 22)) (ic_t (p' 23)) (ic_t (p' 24))) :
    wL_law_192 post L xs J (nI lim) (nI cap) (nI mk) sd (nI (p 25 3)) x8 (nI k) kc ks (nI (p 25 0)) (nI (p 25 1)) (lN (p 25 2)) (lN (p 25 3)) (nI (p 25 4)) (ic_ts (p 0)) (ic_t (p 1)) (ic_t (p 2)) (ic_t (p 3)) (ic_t8 (p 3)) (ic_t (p 4)) (ic_t (p 5)) (ic_t (p 6)) (ic_tL (p 7)) (ic_t (p 8)) (ic_t (p 9)) (ic_t (p 10)) (ic_t (p 11)) (ic_t (p 12)) (ic_t (p 13)) (ic_t (p 14)) (ic_t (p 15)) (ic_t (p 16)) (ic_t (p 17)) (ic_t (p 18)) (ic_t (p 19)) (ic_t (p 20)) (ic_t (p 21)) (ic_t (p 22)) (ic_t (p 23)) (ic_t (p 24)) := by
  have hw := ic_w_lt sd (p 25 3)
  have hpw := ic_pw_le (ic_w sd (p 25 3))
  have A := ic_adr_in (ic_w sd (p 25 3))
  have B := ic_len_in (ic_w sd (p 25 3))
  have C := @ic_id_lt (ic_w sd (p 25 3)) mk hmk
  have S0 := S p hJ (by omega) (by omega)
  have Q : p 13 (ic_chn (ic_w sd (p 25 3))) ≠ 4 → 2 ≤ p 0 (p 25 3 % 32) → wL_law_468 post L xs J (nI lim) (nI cap) (nI mk) sd (nI (p 25 3 + 1)) x8 (nI k) kc ks (nI ((ic_iss p (ic_chn (ic_w sd (p 25 3))) (ic_id (ic_w sd (p 25 3)) mk) (ic_adr (ic_w sd (p 25 3))) (ic_len (ic_w sd (p 25 3)))) 25 0)) (nI ((ic_iss p (ic_chn (ic_w sd (p 25 3))) (ic_id (ic_w sd (p 25 3)) mk) (ic_adr (ic_w sd (p 25 3))) (ic_len (ic_w sd (p 25 3)))) 25 1)) (lN ((ic_iss p (ic_chn (ic_w sd (p 25 3))) (ic_id (ic_w sd (p 25 3)) mk) (ic_adr (ic_w sd (p 25 3))) (ic_len (ic_w sd (p 25 3)))) 25 2)) (lN ((ic_iss p (ic_chn (ic_w sd (p 25 3))) (ic_id (ic_w sd (p 25 3)) mk) (ic_adr (ic_w sd (p 25 3))) (ic_len (ic_w sd (p 25 3)))) 25 3)) (nI ((ic_iss p (ic_chn (ic_w sd (p 25 3))) (ic_id (ic_w sd (p 25 3)) mk) (ic_adr (ic_w sd (p 25 3))) (ic_len (ic_w sd (p 25 3)))) 25 4)) (ic_ts ((ic_iss p (ic_chn (ic_w sd (p 25 3))) (ic_id (ic_w sd (p 25 3)) mk) (ic_adr (ic_w sd (p 25 3))) (ic_len (ic_w sd (p 25 3)))) 0)) (ic_t ((ic_iss p (ic_chn (ic_w sd (p 25 3))) (ic_id (ic_w sd (p 25 3)) mk) (ic_adr (ic_w sd (p 25 3))) (ic_len (ic_w sd (p 25 3)))) 1)) (ic_t ((ic_iss p (ic_chn (ic_w sd (p 25 3))) (ic_id (ic_w sd (p 25 3)) mk) (ic_adr (ic_w sd (p 25 3))) (ic_len (ic_w sd (p 25 3)))) 2)) (ic_t ((ic_iss p (ic_chn (ic_w sd (p 25 3))) (ic_id (ic_w sd (p 25 3)) mk) (ic_adr (ic_w sd (p 25 3))) (ic_len (ic_w sd (p 25 3)))) 3)) (ic_t8 ((ic_iss p (ic_chn (ic_w sd (p 25 3))) (ic_id (ic_w sd (p 25 3)) mk) (ic_adr (ic_w sd (p 25 3))) (ic_len (ic_w sd (p 25 3)))) 3)) (ic_t ((ic_iss p (ic_chn (ic_w sd (p 25 3))) (ic_id (ic_w sd (p 25 3)) mk) (ic_adr (ic_w sd (p 25 3))) (ic_len (ic_w sd (p 25 3)))) 4)) (ic_t ((ic_iss p (ic_chn (ic_w sd (p 25 3))) (ic_id (ic_w sd (p 25 3)) mk) (ic_adr (ic_w sd (p 25 3))) (ic_len (ic_w sd (p 25 3)))) 5)) (ic_t ((ic_iss p (ic_chn (ic_w sd (p 25 3))) (ic_id (ic_w sd (p 25 3)) mk) (ic_adr (ic_w sd (p 25 3))) (ic_len (ic_w sd (p 25 3)))) 6)) (ic_tL ((ic_iss p (ic_chn (ic_w sd (p 25 3))) (ic_id (ic_w sd (p 25 3)) mk) (ic_adr (ic_w sd (p 25 3))) (ic_len (ic_w sd (p 25 3)))) 7)) (ic_t ((ic_iss p (ic_chn (ic_w sd (p 25 3))) (ic_id (ic_w sd (p 25 3)) mk) (ic_adr (ic_w sd (p 25 3))) (ic_len (ic_w sd (p 25 3)))) 8)) (ic_t ((ic_iss p (ic_chn (ic_w sd (p 25 3))) (ic_id (ic_w sd (p 25 3)) mk) (ic_adr (ic_w sd (p 25 3))) (ic_len (ic_w sd (p 25 3)))) 9)) (ic_t ((ic_iss p (ic_chn (ic_w sd (p 25 3))) (ic_id (ic_w sd (p 25 3)) mk) (ic_adr (ic_w sd (p 25 3))) (ic_len (ic_w sd (p 25 3)))) 10)) (ic_t ((ic_iss p (ic_chn (ic_w sd (p 25 3))) (ic_id (ic_w sd (p 25 3)) mk) (ic_adr (ic_w sd (p 25 3))) (ic_len (ic_w sd (p 25 3)))) 11)) (ic_t ((ic_iss p (ic_chn (ic_w sd (p 25 3))) (ic_id (ic_w sd (p 25 3)) mk) (ic_adr (ic_w sd (p 25 3))) (ic_len (ic_w sd (p 25 3)))) 12)) (ic_t ((ic_iss p (ic_chn (ic_w sd (p 25 3))) (ic_id (ic_w sd (p 25 3)) mk) (ic_adr (ic_w sd (p 25 3))) (ic_len (ic_w sd (p 25 3)))) 13)) (ic_t ((ic_iss p (ic_chn (ic_w sd (p 25 3))) (ic_id (ic_w sd (p 25 3)) mk) (ic_adr (ic_w sd (p 25 3))) (ic_len (ic_w sd (p 25 3)))) 14)) (ic_t ((ic_iss p (ic_chn (ic_w sd (p 25 3))) (ic_id (ic_w sd (p 25 3)) mk) (ic_adr (ic_w sd (p 25 3))) (ic_len (ic_w sd (p 25 3)))) 15)) (ic_t ((ic_iss p (ic_chn (ic_w sd (p 25 3))) (ic_id (ic_w sd (p 25 3)) mk) (ic_adr (ic_w sd (p 25 3))) (ic_len (ic_w sd (p 25 3)))) 16)) (ic_t ((ic_iss p (ic_chn (ic_w sd (p 25 3))) (ic_id (ic_w sd (p 25 3)) mk) (ic_adr (ic_w sd (p 25 3))) (ic_len (ic_w sd (p 25 3)))) 17)) (ic_t ((ic_iss p (ic_chn (ic_w sd (p 25 3))) (ic_id (ic_w sd (p 25 3)) mk) (ic_adr (ic_w sd (p 25 3))) (ic_len (ic_w sd (p 25 3)))) 18)) (ic_t ((ic_iss p (ic_chn (ic_w sd (p 25 3))) (ic_id (ic_w sd (p 25 3)) mk) (ic_adr (ic_w sd (p 25 3))) (ic_len (ic_w sd (p 25 3)))) 19)) (ic_t ((ic_iss p (ic_chn (ic_w sd (p 25 3))) (ic_id (ic_w sd (p 25 3)) mk) (ic_adr (ic_w sd (p 25 3))) (ic_len (ic_w sd (p 25 3)))) 20)) (ic_t ((ic_iss p (ic_chn (ic_w sd (p 25 3))) (ic_id (ic_w sd (p 25 3)) mk) (ic_adr (ic_w sd (p 25 3))) (ic_len (ic_w sd (p 25 3)))) 21)) (ic_t ((ic_iss p (ic_chn (ic_w sd (p 25 3))) (ic_id (ic_w sd (p 25 3)) mk) (ic_adr (ic_w sd (p 25 3))) (ic_len (ic_w sd (p 25 3)))) 22)) (ic_t ((ic_iss p (ic_chn (ic_w sd (p 25 3))) (ic_id (ic_w sd (p 25 3)) mk) (ic_adr (ic_w sd (p 25 3))) (ic_len (ic_w sd (p 25 3)))) 23)) (ic_t ((ic_iss p (ic_chn (ic_w sd (p 25 3))) (ic_id (ic_w sd (p 25 3)) mk) (ic_adr (ic_w sd (p 25 3))) (ic_len (ic_w sd (p 25 3)))) 24)) := fun h1 h2 =>
    S (ic_iss p (ic_chn (ic_w sd (p 25 3))) (ic_id (ic_w sd (p 25 3)) mk) (ic_adr (ic_w sd (p 25 3))) (ic_len (ic_w sd (p 25 3)))) (ic_JJ_is hJ hmk h1 h2) (Nat.le_refl _) (by show p 25 2 ≤ p 25 2 + 64; omega)
  unfold ic_chn at Q
  unfold wL_law_192
  refine ic_par (ic_pwL (pk_eq (ic_pw (ic_w sd (p 25 3))) 0 (fun e => ?_) (fun e => ?_)))
  · rw [e] at Q
    refine ic_pm hw (ic_pid hw (ic_paddr hw (ic_plen hw ?_)))
    unfold wpX_issueRead
    refine ic_X_issue (p := p) (k := 0) hJ.1 (by omega) (by decide) (by omega) C A.1 B.1 B.2 A.2 (fun hf => ?_) (fun hn hs => ?_) (fun hn hg => ?_)
    · exact ic_264F (p := p) (Or.inl rfl) S0
    · exact ic_264F (p := p) (Or.inr rfl) S0
    · exact ic_264T (p := ic_iss p (ic_w sd (p 25 3) % 2 * 2 + 0) (ic_id (ic_w sd (p 25 3)) mk) (ic_adr (ic_w sd (p 25 3))) (ic_len (ic_w sd (p 25 3)))) (by omega) (Q hn hg)
  · have e1 : ic_pw (ic_w sd (p 25 3)) = 1 := by omega
    rw [e1] at Q
    refine ic_pm hw (ic_pid hw (ic_paddr hw (ic_plen hw ?_)))
    unfold wpX_issueWrite
    refine ic_X_issue (p := p) (k := 1) hJ.1 (by omega) (by decide) (by omega) C A.1 B.1 B.2 A.2 (fun hf => ?_) (fun hn hs => ?_) (fun hn hg => ?_)
    · exact ic_264F (p := p) (Or.inl rfl) S0
    · exact ic_264F (p := p) (Or.inr rfl) S0
    · exact ic_264T (p := ic_iss p (ic_w sd (p 25 3) % 2 * 2 + 1) (ic_id (ic_w sd (p 25 3)) mk) (ic_adr (ic_w sd (p 25 3))) (ic_len (ic_w sd (p 25 3)))) (by omega) (Q hn hg)
theorem ic_X_step' {p : Nat → Nat → Nat} {n : Nat} {v : Int32} {post : Int32 → St2 → Prop} (hv : v = nI n) (hI : ic_Inv p) (hT : p 25 3 < 2 ^ 30) (hC : p 25 2 + n < 2 ^ 30) (h1 : 1 ≤ n) (h64 : n ≤ 64) (h : post 1 (ic_X (ic_run n p))) : wpX_step post (ic_X p) v := by
  rw [hv]; exact ic_X_step hI hT hC h1 h64 h
theorem ic_X_writeData' {p : Nat → Nat → Nat} {m x : Nat} {v1 v2 : Int32} {post : Int32 → St2 → Prop} (e1 : v1 = nI m) (e2 : v2 = nI x) (hI : ic_Inv p) (hm : m < 2) (h0 : p 16 m = 8 → post 0 (ic_X p)) (h1 : p 16 m ≠ 8 → post 1 (ic_X (ic_wd p m x))) : wpX_writeData post (ic_X p) v1 v2 := by
  rw [e1, e2]; exact ic_X_writeData hI hm h0 h1
theorem ic_X_setLatency' {p : Nat → Nat → Nat} {s j x : Nat} {v1 v2 v3 : Int32} {post : Int32 → St2 → Prop} (e1 : v1 = nI s) (e2 : v2 = nI j) (e3 : v3 = nI x) (hs : s < 3) (hj : j < 4) (h1 : 1 ≤ x) (h15 : x ≤ 15) (h : post 1 (ic_X (ic_pu p 18 (s * 4 + j) x))) : wpX_setLatency post (ic_X p) v1 v2 v3 := by
  rw [e1, e2, e3]; exact ic_X_setLatency hs hj h1 h15 h
theorem ic_X_setReady' {p : Nat → Nat → Nat} {m x y : Nat} {v1 : Int32} {post : Int32 → St2 → Prop} (e1 : v1 = nI m) (hm : m < 2) (hx : x ≤ 1) (hy : y ≤ 1) (h : post 1 (ic_X (ic_pu (ic_pu p 23 (m * 2 + 1) x) 23 (m * 2) y))) : wpX_setReady post (ic_X p) v1 (nI x) (nI y) := by
  rw [e1]; exact ic_X_setReady hm hx hy h
theorem ic_174 {post : Int32 → Prop} {L : Nat} {xs : Nat → Int32} {J : ic_JT} {sd : Int64} {x8 : Int32} {mk lim cap kc ks k : Nat} {p : Nat → Nat → Nat} (hJ : ic_JJ sd mk lim cap p) (hmk : mk < 4) (hT : p 25 3 < 2 ^ 19) (hC : p 25 2 < 2 ^ 19)
    (S : ∀ p', ic_JJ sd mk lim cap p' → p' 25 3 ≤ p 25 3 + 1 → p' 25 2 ≤ p 25 2 + 64 → wL_law_468 post L xs J (nI lim) (nI cap) (nI mk) sd (nI (p' 25 3)) x8 (nI k) kc ks (nI (p' 25 0)) (nI (p' 25 1)) (lN (p' 25 2)) (lN (p' 25 3)) (nI (p' 25 4)) (ic_ts (p' 0)) (ic_t (p' 1)) (ic_t (p' 2)) (ic_t (p' 3)) (ic_t8 (p' 3)) (ic_t (p' 4)) (ic_t (p' 5)) (ic_t (p' 6)) (ic_tL (p' 7)) (ic_t (p' 8)) (ic_t (p' 9)) (ic_t (p' 10)) (ic_t (p' 11)) (ic_t (p' 12)) (ic_t (p' 13)) (ic_t (p' 14)) (ic_t (p' 15)) (ic_t (p' 16)) (ic_t (p' 17)) (ic_t (p' 18)) (ic_t (p' 19)) (ic_t (p' 20)) (ic_t (p' 21)) (ic_t (p' 22)) (ic_t (p' 23)) (ic_t (p' 24))) (op ar : Nat) (hop : op ≤ 8) (har : ar < 2 ^ 31) :
    wL_law_174 post L xs J (nI lim) (nI cap) (nI mk) sd (nI (p 25 3)) x8 (nI k) (nI op) (nI ar) kc ks (nI (p 25 0)) (nI (p 25 1)) (lN (p 25 2)) (lN (p 25 3)) (nI (p 25 4)) (ic_ts (p 0)) (ic_t (p 1)) (ic_t (p 2)) (ic_t (p 3)) (ic_t8 (p 3)) (ic_t (p 4)) (ic_t (p 5)) (ic_t (p 6)) (ic_tL (p 7)) (ic_t (p 8)) (ic_t (p 9)) (ic_t (p 10)) (ic_t (p 11)) (ic_t (p 12)) (ic_t (p 13)) (ic_t (p 14)) (ic_t (p 15)) (ic_t (p 16)) (ic_t (p 17)) (ic_t (p 18)) (ic_t (p 19)) (ic_t (p 20)) (ic_t (p 21)) (ic_t (p 22)) (ic_t (p 23)) (ic_t (p 24)) := by
  have st : ∀ n, n ≤ 64 → wL_law_468 post L xs J (nI lim) (nI cap) (nI mk) sd (nI (p 25 3)) x8 (nI k) kc ks (nI ((ic_run n p) 25 0)) (nI ((ic_run n p) 25 1)) (lN ((ic_run n p) 25 2)) (lN ((ic_run n p) 25 3)) (nI ((ic_run n p) 25 4)) (ic_ts ((ic_run n p) 0)) (ic_t ((ic_run n p) 1)) (ic_t ((ic_run n p) 2)) (ic_t ((ic_run n p) 3)) (ic_t8 ((ic_run n p) 3)) (ic_t ((ic_run n p) 4)) (ic_t ((ic_run n p) 5)) (ic_t ((ic_run n p) 6)) (ic_tL ((ic_run n p) 7)) (ic_t ((ic_run n p) 8)) (ic_t ((ic_run n p) 9)) (ic_t ((ic_run n p) 10)) (ic_t ((ic_run n p) 11)) (ic_t ((ic_run n p) 12)) (ic_t ((ic_run n p) 13)) (ic_t ((ic_run n p) 14)) (ic_t ((ic_run n p) 15)) (ic_t ((ic_run n p) 16)) (ic_t ((ic_run n p) 17)) (ic_t ((ic_run n p) 18)) (ic_t ((ic_run n p) 19)) (ic_t ((ic_run n p) 20)) (ic_t ((ic_run n p) 21)) (ic_t ((ic_run n p) 22)) (ic_t ((ic_run n p) 23)) (ic_t ((ic_run n p) 24)) := by
    intro n hn
    have r := ic_JJ_run (n := n) hJ
    have s := S (ic_run n p) r.1 (by omega) (by omega)
    rw [r.2.2] at s
    rw [r.2.2]
    exact s
  have a1 : nI ar &&& 1 = nI (ar % 2) := pk_andN (n := ar) (by omega) 1 (by decide)
  unfold wL_law_174
  refine pk_eq op 0 (fun _ => ic_192 hJ hmk hT S) (fun o0 => pk_eq op 1 (fun _ => ic_192 hJ hmk hT S) (fun o1 => pk_eq op 7 (fun _ => ic_192 hJ hmk hT S) (fun o7 => pk_eq op 2 (fun _ => ?_) (fun o2 => pk_eq op 3 (fun _ => ?_) (fun o3 => pk_eq op 4 (fun _ => ?_) (fun o4 => pk_eq op 5 (fun _ => ?_) (fun o5 => pk_eq op 6 (fun _ => ?_) (fun o6 => ?_))))))))
  · refine ic_X_writeData' (p := p) (m := ar % 2) (x := ar / 2 ^ 1 % 2 ^ 8) a1 ?_ hJ.1 (by omega) (fun _ => ?_) (fun hm => ?_)
    · rw [pk_shrN har _ 1 (by decide), pk_andN (by omega) 8 (by decide)]
    · exact S p hJ (by omega) (by omega)
    · exact S (ic_wd p (ar % 2) (ar / 2 ^ 1 % 2 ^ 8)) (ic_JJ_wd hJ hm) (by show p 25 3 ≤ p 25 3 + 1; omega) (by show p 25 2 ≤ p 25 2 + 64; omega)
  · refine ic_X_step' (p := p) (n := 1 + ar % 2 ^ 3) ?_ hJ.1 (by omega) (by omega) (by omega) (by omega) ?_
    · rw [pk_andN (by omega) 3 (by decide)]
      exact nI_add 1 _
    · exact st _ (by omega)
  · refine And.intro (by decide) (And.intro (by decide) ?_)
    refine ic_X_setLatency' (p := p) (s := ar % 3) (j := ar / 2 ^ 2 % 2 ^ 2) (x := 1 + ar / 2 ^ 4 % 15) (ic_r ar 3 rfl har (by decide) (by decide)) ?_ ?_ (by omega) (by omega) (by omega) (by omega) ?_
    · rw [pk_shrN har _ 2 (by decide), pk_andN (by omega) 2 (by decide)]
    · rw [show nI ar >>> ((4 : Int32) &&& 31) - nI ar >>> ((4 : Int32) &&& 31) / 15 * 15 = nI (ar / 2 ^ 4 % 15) from ic_r (ar / 2 ^ 4) 15 (pk_shrN har _ 4 (by decide)) (by omega) (by decide) (by decide)]
      exact nI_add 1 _
    · exact S (ic_pu p 18 (ar % 3 * 4 + ar / 2 ^ 2 % 2 ^ 2) (1 + ar / 2 ^ 4 % 15)) (ic_JJ_sl hJ (by omega)) (by show p 25 3 ≤ p 25 3 + 1; omega) (by show p 25 2 ≤ p 25 2 + 64; omega)
  · have R : ∀ x y : Nat, x ≤ 1 → y ≤ 1 → wL_law_430 post L xs J (nI lim) (nI cap) (nI mk) sd (nI (p 25 3)) x8 (nI k) (nI y) (nI x) (nI ar &&& 1) kc ks (nI (p 25 0)) (nI (p 25 1)) (lN (p 25 2)) (lN (p 25 3)) (nI (p 25 4)) (ic_ts (p 0)) (ic_t (p 1)) (ic_t (p 2)) (ic_t (p 3)) (ic_t8 (p 3)) (ic_t (p 4)) (ic_t (p 5)) (ic_t (p 6)) (ic_tL (p 7)) (ic_t (p 8)) (ic_t (p 9)) (ic_t (p 10)) (ic_t (p 11)) (ic_t (p 12)) (ic_t (p 13)) (ic_t (p 14)) (ic_t (p 15)) (ic_t (p 16)) (ic_t (p 17)) (ic_t (p 18)) (ic_t (p 19)) (ic_t (p 20)) (ic_t (p 21)) (ic_t (p 22)) (ic_t (p 23)) (ic_t (p 24)) := by
      intro x y hx hy
      unfold wL_law_430
      refine ic_X_setReady' (p := p) (m := ar % 2) a1 (by omega) hx hy ?_
      exact S (ic_pu (ic_pu p 23 (ar % 2 * 2 + 1) x) 23 (ar % 2 * 2) y) (ic_JJ_sr hJ hx hy) (by show p 25 3 ≤ p 25 3 + 1; omega) (by show p 25 2 ≤ p 25 2 + 64; omega)
    have R2 : ∀ x : Nat, x ≤ 1 → wL_law_415 post L xs J (nI lim) (nI cap) (nI mk) sd (nI (p 25 3)) x8 (nI k) (nI ar) (nI x) (nI ar &&& 1) kc ks (nI (p 25 0)) (nI (p 25 1)) (lN (p 25 2)) (lN (p 25 3)) (nI (p 25 4)) (ic_ts (p 0)) (ic_t (p 1)) (ic_t (p 2)) (ic_t (p 3)) (ic_t8 (p 3)) (ic_t (p 4)) (ic_t (p 5)) (ic_t (p 6)) (ic_tL (p 7)) (ic_t (p 8)) (ic_t (p 9)) (ic_t (p 10)) (ic_t (p 11)) (ic_t (p 12)) (ic_t (p 13)) (ic_t (p 14)) (ic_t (p 15)) (ic_t (p 16)) (ic_t (p 17)) (ic_t (p 18)) (ic_t (p 19)) (ic_t (p 20)) (ic_t (p 21)) (ic_t (p 22)) (ic_t (p 23)) (ic_t (p 24)) := by
      intro x hx
      unfold wL_law_415
      exact br_c (fun _ => R x 0 hx (by omega)) (fun _ => R x 1 hx (by omega))
    exact br_c (fun _ => R2 0 (by omega)) (fun _ => R2 1 (by omega))
  · refine ic_X_step' (p := p) (n := 1 + ar % 2 ^ 5) ?_ hJ.1 (by omega) (by omega) (by omega) (by omega) ?_
    · rw [pk_andN (by omega) 5 (by decide)]
      exact nI_add 1 _
    · exact st _ (by omega)
  · refine ic_X_step' (p := p) (n := 64) rfl hJ.1 (by omega) (by omega) (by omega) (by omega) ?_
    exact st _ (by omega)
theorem ic_81 {L : Nat} {xs : Nat → Int32} {sd : Int64} {mk lim cap kc ks nO : Nat} (hL : L ≤ 260) (hmk : mk < 4) (hlim : lim ≤ 8) (hcap : cap ≤ 4) (hnO : nO ≤ 128) : ∀ (d k : Nat) (p : Nat → Nat → Nat), k + d = nO + 3 → ic_JJ sd mk lim cap p → p 25 3 ≤ k → p 25 2 ≤ 64 * k →
    wL_law_81 (fun r => r = 1) L xs (nI lim) (nI cap) (nI mk) sd (nI nO) kc ks (d + 1) (nI (p 25 3)) (nI k) (nI (p 25 0)) (nI (p 25 1)) (lN (p 25 2)) (lN (p 25 3)) (nI (p 25 4)) (ic_ts (p 0)) (ic_t (p 1)) (ic_t (p 2)) (ic_t (p 3)) (ic_t8 (p 3)) (ic_t (p 4)) (ic_t (p 5)) (ic_t (p 6)) (ic_tL (p 7)) (ic_t (p 8)) (ic_t (p 9)) (ic_t (p 10)) (ic_t (p 11)) (ic_t (p 12)) (ic_t (p 13)) (ic_t (p 14)) (ic_t (p 15)) (ic_t (p 16)) (ic_t (p 17)) (ic_t (p 18)) (ic_t (p 19)) (ic_t (p 20)) (ic_t (p 21)) (ic_t (p 22)) (ic_t (p 23)) (ic_t (p 24)) := by
  intro d
  induction d with
  | zero =>
    intro k p hk _ _ _
    exact pk_le (nO + 3) k (fun _ => rfl) (fun z => by omega) (nI_add nO 3) rfl
  | succ d ih =>
    intro k p hk hJ hT hC
    have S : ∀ p', ic_JJ sd mk lim cap p' → p' 25 3 ≤ p 25 3 + 1 → p' 25 2 ≤ p 25 2 + 64 → wL_law_468 (fun r => r = 1) L xs (wL_law_81 (fun r => r = 1) L xs (nI lim) (nI cap) (nI mk) sd (nI nO) kc ks (d + 1)) (nI lim) (nI cap) (nI mk) sd (nI (p' 25 3)) (nI nO) (nI k) kc ks (nI (p' 25 0)) (nI (p' 25 1)) (lN (p' 25 2)) (lN (p' 25 3)) (nI (p' 25 4)) (ic_ts (p' 0)) (ic_t (p' 1)) (ic_t (p' 2)) (ic_t (p' 3)) (ic_t8 (p' 3)) (ic_t (p' 4)) (ic_t (p' 5)) (ic_t (p' 6)) (ic_tL (p' 7)) (ic_t (p' 8)) (ic_t (p' 9)) (ic_t (p' 10)) (ic_t (p' 11)) (ic_t (p' 12)) (ic_t (p' 13)) (ic_t (p' 14)) (ic_t (p' 15)) (ic_t (p' 16)) (ic_t (p' 17)) (ic_t (p' 18)) (ic_t (p' 19)) (ic_t (p' 20)) (ic_t (p' 21)) (ic_t (p' 22)) (ic_t (p' 23)) (ic_t (p' 24)) :=
      fun p' h1 h2 h3 => ic_468 h1 hmk hlim hcap (by omega) (by omega) (ih (k + 1) p' (by omega) h1 (by omega) (by omega))
    refine pk_le (nO + 3) k (fun z => by omega) (fun _ => pk_le nO k (fun z => ?_) (fun z => ?_)) (nI_add nO 3) rfl
    · refine pk_eq k nO (fun _ => ic_174 hJ hmk (by omega) (by omega) S 5 0 (by omega) (by omega)) (fun _ => pk_eq k (nO + 1) (fun _ => ic_174 hJ hmk (by omega) (by omega) S 5 1 (by omega) (by omega)) (fun _ => ic_174 hJ hmk (by omega) (by omega) S 8 0 (by omega) (by omega)) rfl (nI_1 nO))
    · have e1 : (4 : Int32) + 2 * nI k = nI (4 + 2 * k) := by rw [show (2 : Int32) * nI k = nI (2 * k) from pk_mul 2 k]; exact nI_add 4 _
      have e2 : (5 : Int32) + 2 * nI k = nI (5 + 2 * k) := by rw [show (2 : Int32) * nI k = nI (2 * k) from pk_mul 2 k]; exact nI_add 5 _
      rw [e1, e2]
      refine ic_cell hL (by omega) (fun v => ic_pos (fun n hn => And.intro (by decide) (nm_r (ic_r n 8 rfl hn (by decide) (by decide)) (ic_cell hL (by omega) (fun v2 => ic_pos (fun a ha => ?_))))))
      exact ic_174 hJ hmk (by omega) (by omega) S (n % 8) a (by omega) ha
theorem i_vc (xs : Nat → Int32) (L : Nat) (hL : L ≤ 260) : wpL_law (fun r => r = 1) L xs := by
  unfold wpL_law
  refine ic_cell (j := 0) hL (by decide) (fun v0 => ic_pos (fun n0 h0 => And.intro (by decide) (nm_r (e' := nI (1 + n0 % 8)) ?_ (ic_cell (j := 1) hL (by decide) (fun v1 => ic_pos (fun n1 h1 => And.intro (by decide) (nm_r (e' := nI (1 + n1 % 4)) ?_ (ic_cell (j := 2) hL (by decide) (fun v2 => ic_pos (fun n2 h2 => nm_r (e' := nI (n2 % 2 ^ 2)) ?_ (ic_cell (j := 3) hL (by decide) (fun v3 => ⟨26, 586, by decide, by decide, ic_X_init (by omega) (by omega) (by omega) (by omega) ?_⟩))))))))))))
  · rw [show nI n0 - nI n0 / 8 * 8 = nI (n0 % 8) from ic_r n0 8 rfl h0 (by decide) (by decide)]
    exact nI_add 1 _
  · rw [show nI n1 - nI n1 / 4 * 4 = nI (n1 % 4) from ic_r n1 4 rfl h1 (by decide) (by decide)]
    exact nI_add 1 _
  · exact pk_andN (by omega) 2 (by decide)
  · have J0 : ic_JJ v3.toInt64 (n2 % 2 ^ 2) (1 + n0 % 8) (1 + n1 % 4) (ic_p0 (1 + n0 % 8) (1 + n1 % 4)) := ic_JJ_0 (by omega) (by omega)
    refine pk_le L 4 (fun z => ⟨_, ic_81 (nO := 0) hL (by omega) (by omega) (by omega) (by omega) 3 0 _ rfl J0 (Nat.le_refl 0) (Nat.le_refl 0)⟩) (fun z => And.intro (by decide) ?_)
    refine nm_r (e' := nI ((L - 4) / 2)) ?_ ⟨_, ic_81 (nO := (L - 4) / 2) hL (by omega) (by omega) (by omega) (by omega) ((L - 4) / 2 + 3) 0 _ (by omega) J0 (Nat.le_refl 0) (Nat.le_refl 0)⟩
    rw [show (Int32.ofNat L) - 4 = nI (L - 4) from pk_sub (b := 4) (by omega)]
    exact pk_div (d := 2) (by omega) (by decide) (by decide)
