/-! the law's own numbers -/
theorem ic_par_ex (sd : Int64) (t : Int32) : ∃ n, n < 2 ^ 31 ∧ ∀ post : Int32 → Prop, post (nI n) → wpL_par post () sd t := by
  have key : ∃ x : Int64, ∀ post : Int32 → Prop, post ((x &&& 2147483647).toInt32) → wpL_par post () sd t :=
    ⟨_, fun post h => (nm_e (nm_e (nm_e (nm_e (nm_e (nm_e h))))) : wpL_par post () sd t)⟩
  obtain ⟨x, hx⟩ := key
  obtain ⟨n, hn, e⟩ := wb_of x
  refine ⟨n % 2 ^ 31, Nat.mod_lt _ (by decide), fun post h => hx post ?_⟩
  have m : lN n &&& lN (2 ^ 31 - 1) = lN (n % 2 ^ 31) := wb_mask hn (by decide)
  have m2 : (2147483647 : Int64) = lN (2 ^ 31 - 1) := rfl
  rw [e, m2, m, lN_i]
  exact h
noncomputable def ic_w (sd : Int64) (t : Nat) : Nat := Classical.choose (ic_par_ex sd (nI t))
theorem ic_w_lt (sd : Int64) (t : Nat) : ic_w sd t < 2 ^ 31 := (Classical.choose_spec (ic_par_ex sd (nI t))).1
theorem ic_par {sd : Int64} {t : Nat} {post : Int32 → Prop} (h : post (nI (ic_w sd t))) : wpL_par post () sd (nI t) := (Classical.choose_spec (ic_par_ex sd (nI t))).2 post h
theorem ic_pm {w : Nat} {post : Int32 → Prop} (hw : w < 2 ^ 31) (h : post (nI (w % 2))) : wpL_pm post () (nI w) := by
  unfold wpL_pm
  exact ek_v (P := post) (pk_andN (n := w) (by omega) 1 (by decide)) h
def ic_pw (w : Nat) : Nat := if nI w &&& 2 = 0 then 0 else 1
theorem ic_pw_le (w : Nat) : ic_pw w ≤ 1 := by
  unfold ic_pw
  split <;> omega
theorem ic_pwL {w : Nat} {post : Int32 → Prop} (h : post (nI (ic_pw w))) : wpL_pw post () (nI w) := by
  unfold ic_pw at h
  unfold wpL_pw
  refine br_c (fun a => ?_) (fun a => ?_)
  · rw [if_pos a] at h; exact h
  · rw [if_neg a] at h; exact h
def ic_id (w mk : Nat) : Nat := (w / 2 ^ 2) &&& mk
theorem ic_id_lt {w mk : Nat} (h : mk < 4) : ic_id w mk < 4 := Nat.lt_of_le_of_lt Nat.and_le_right h
theorem ic_pid {w mk : Nat} {post : Int32 → Prop} (hw : w < 2 ^ 31) (h : post (nI (ic_id w mk))) : wpL_pid post () (nI w) (nI mk) := by
  unfold wpL_pid
  refine ek_v (P := post) ?_ h
  rw [pk_shrN hw _ 2 (by decide), nx_and]
  rfl
def ic_len (w : Nat) : Nat := 1 + w / 2 ^ 4 % 2 ^ 2
theorem ic_len_in (w : Nat) : 1 ≤ ic_len w ∧ ic_len w ≤ 4 := by
  unfold ic_len
  omega
theorem ic_plen {w : Nat} {post : Int32 → Prop} (hw : w < 2 ^ 31) (h : post (nI (ic_len w))) : wpL_plen post () (nI w) := by
  unfold wpL_plen
  refine ek_v (P := post) ?_ h
  rw [pk_shrN hw _ 4 (by decide), pk_andN (by omega) 2 (by decide)]
  exact nI_add 1 _
def ic_adr (w : Nat) : Nat := if w / 2 ^ 6 % 2 ^ 5 % 8 + ic_len w ≤ 8 then w / 2 ^ 6 % 2 ^ 5 else w / 2 ^ 6 % 2 ^ 5 - (w / 2 ^ 6 % 2 ^ 5 % 8 + ic_len w - 8)
theorem ic_adr_in (w : Nat) : ic_adr w < 32 ∧ ic_adr w % 8 + ic_len w ≤ 8 := by
  have h := ic_len_in w
  unfold ic_adr
  have ha : w / 2 ^ 6 % 2 ^ 5 < 32 := Nat.mod_lt _ (by decide)
  generalize ic_len w = l at *
  generalize w / 2 ^ 6 % 2 ^ 5 = a at *
  by_cases c : a % 8 + l ≤ 8
  · rw [if_pos c]
    exact ⟨ha, c⟩
  · rw [if_neg c]
    omega
theorem ic_paddr {w : Nat} {post : Int32 → Prop} (hw : w < 2 ^ 31) (h : post (nI (ic_adr w))) : wpL_paddr post () (nI w) := by
  have hl := ic_len_in w
  have ha : w / 2 ^ 6 % 2 ^ 5 < 32 := Nat.mod_lt _ (by decide)
  unfold ic_adr at h
  unfold wpL_paddr
  refine nm_r (e' := nI (w / 2 ^ 6 % 2 ^ 5)) ?_ (ic_plen hw ?_)
  · rw [pk_shrN hw _ 6 (by decide), pk_andN (by omega) 5 (by decide)]
  · generalize w / 2 ^ 6 % 2 ^ 5 = a at *
    refine nm_r (e' := nI (a % 8 + ic_len w)) ?_ ?_
    · rw [pk_andN (by omega) 3 (by decide), nI_add]
    · generalize ic_len w = l at *
      refine pk_le (a % 8 + l) 8 (fun z => ?_) (fun z => ?_)
      · rw [if_pos z] at h
        exact h
      · rw [if_neg (by omega)] at h
        refine nm_r (e' := nI (a - (a % 8 + l - 8))) ?_ h
        rw [show nI (a % 8 + l) - 8 = nI (a % 8 + l - 8) from pk_sub (b := 8) (by omega)]
        exact pk_sub (by omega)
def ic_chn (w : Nat) : Nat := w % 2 * 2 + ic_pw w
theorem ic_cell {L : Nat} {xs : Nat → Int32} {post : Int32 → Prop} {j : Nat} (hL : L ≤ 260) (hj : j < 2 ^ 31) (h : ∀ v, post v) : wpL_cell post L xs () (nI j) := by
  unfold wpL_cell
  refine pk_le L j (fun _ => h 0) (fun z => And.intro (vp_in_nI z (by omega)) (h _))
theorem ic_pos {v : Int32} {post : Int32 → Prop} (h : ∀ n, n < 2 ^ 31 → post (nI n)) : wpL_pos post () v := by
  unfold wpL_pos
  refine ek_v (P := post) (pk_and v 31 (by decide)) (h _ (Nat.mod_lt _ (by decide)))
/-- what the law's loop keeps -/
def ic_JJ (sd : Int64) (mk lim cap : Nat) (p : Nat → Nat → Nat) : Prop :=
  ic_Inv p ∧ ic_Ord p ∧ p 25 0 = lim ∧ p 25 1 = cap ∧ p 25 4 ≤ 4 * p 25 2 ∧
    (∀ t, t < p 25 3 → p 25 3 ≤ t + 32 → p 1 (t % 32) = ic_chn (ic_w sd t) ∧ p 2 (t % 32) = ic_id (ic_w sd t) mk ∧ p 4 (t % 32) = ic_len (ic_w sd t))
theorem ic_JJ_run {sd : Int64} {mk lim cap n : Nat} {p : Nat → Nat → Nat} (h : ic_JJ sd mk lim cap p) : ic_JJ sd mk lim cap (ic_run n p) ∧ ic_run n p 25 2 = p 25 2 + n ∧ ic_run n p 25 3 = p 25 3 := by
  obtain ⟨hI, hO, h0, h1, hE, hP⟩ := h
  have a := ic_run_Inv n p hI
  obtain ⟨o, f1, f2, f4, f50, f51, f53, f54⟩ := ic_run_Ord n p hI hO
  refine ⟨⟨a.1, o, by rw [f50, h0], by rw [f51, h1], by omega, ?_⟩, a.2.1, a.2.2⟩
  rw [f1, f2, f4, f53]
  exact hP
theorem ic_JJ_is {sd : Int64} {mk lim cap : Nat} {p : Nat → Nat → Nat} (h : ic_JJ sd mk lim cap p) (hmk : mk < 4) (hq : p 13 (ic_chn (ic_w sd (p 25 3))) ≠ 4) (hS : 2 ≤ p 0 (p 25 3 % 32)) :
    ic_JJ sd mk lim cap (ic_iss p (ic_chn (ic_w sd (p 25 3))) (ic_id (ic_w sd (p 25 3)) mk) (ic_adr (ic_w sd (p 25 3))) (ic_len (ic_w sd (p 25 3)))) := by
  obtain ⟨hI, hO, h0, h1, hE, hP⟩ := h
  have hc : ic_chn (ic_w sd (p 25 3)) < 4 := by
    have := ic_pw_le (ic_w sd (p 25 3))
    unfold ic_chn
    omega
  refine ⟨ic_iss_Inv hI hc (ic_id_lt hmk) (ic_adr_in _).1 (ic_len_in _).1 (ic_len_in _).2 (ic_adr_in _).2 hq hS, ic_iss_Ord hO, h0, h1, hE, fun t ht1 ht2 => ?_⟩
  have g1 : t < p 25 3 + 1 := ht1
  have g2 : p 25 3 + 1 ≤ t + 32 := ht2
  show ic_u (p 1) (p 25 3 % 32) (ic_chn (ic_w sd (p 25 3))) (t % 32) = ic_chn (ic_w sd t) ∧ ic_u (p 2) (p 25 3 % 32) (ic_id (ic_w sd (p 25 3)) mk) (t % 32) = ic_id (ic_w sd t) mk ∧ ic_u (p 4) (p 25 3 % 32) (ic_len (ic_w sd (p 25 3))) (t % 32) = ic_len (ic_w sd t)
  by_cases e : t = p 25 3
  · rw [e, ic_us, ic_us, ic_us]
    exact ⟨rfl, rfl, rfl⟩
  · have hn : t % 32 ≠ p 25 3 % 32 := by omega
    rw [ic_un hn, ic_un hn, ic_un hn]
    exact hP t (by omega) (by omega)
theorem ic_JJ_wd {sd : Int64} {mk lim cap m x : Nat} {p : Nat → Nat → Nat} (h : ic_JJ sd mk lim cap p) (hm : p 16 m ≠ 8) : ic_JJ sd mk lim cap (ic_wd p m x) :=
  ⟨ic_wd_Inv h.1 hm, h.2⟩
theorem ic_JJ_sl {sd : Int64} {mk lim cap j x : Nat} {p : Nat → Nat → Nat} (h : ic_JJ sd mk lim cap p) (hx : x ≤ 15) : ic_JJ sd mk lim cap (ic_pu p 18 j x) :=
  ⟨ic_sl_Inv h.1 hx, h.2⟩
theorem ic_JJ_sr {sd : Int64} {mk lim cap i j x y : Nat} {p : Nat → Nat → Nat} (h : ic_JJ sd mk lim cap p) (hx : x ≤ 1) (hy : y ≤ 1) : ic_JJ sd mk lim cap (ic_pu (ic_pu p 23 i x) 23 j y) :=
  ⟨ic_sr_Inv (ic_sr_Inv h.1 hx) hy, h.2⟩
theorem ic_JJ_0 {sd : Int64} {mk l c : Nat} (hl : l ≤ 8) (hc : c ≤ 4) : ic_JJ sd mk l c (ic_p0 l c) := by
  refine ⟨ic_p0_Inv hl hc, ic_p0_Ord, rfl, rfl, ?_, fun t ht => ?_⟩
  · show 0 ≤ 4 * 0
    omega
  · have : t < 0 := ht
    omega
