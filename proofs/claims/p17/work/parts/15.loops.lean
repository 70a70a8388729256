/-! the law's inner loops -/
abbrev ic_JT : Type := Int32 → Int32 → Int32 → Int32 → Int64 → Int64 → Int32 → (Nat → Int32) → (Nat → Int32) → (Nat → Int32) → (Nat → Int32) → (Nat → Int32) → (Nat → Int32) → (Nat → Int32) → (Nat → Int32) → (Nat → Int64) → (Nat → Int32) → (Nat → Int32) → (Nat → Int32) → (Nat → Int32) → (Nat → Int32) → (Nat → Int32) → (Nat → Int32) → (Nat → Int32) → (Nat → Int32) → (Nat → Int32) → (Nat → Int32) → (Nat → Int32) → (Nat → Int32) → (Nat → Int32) → (Nat → Int32) → (Nat → Int32) → (Nat → Int32) → Prop
theorem ic_doneT {s : Nat} {post : Int32 → Prop} (h2 : 2 ≤ s) (h3 : s ≤ 3) (h : post 1) : wpL_done post () (nI s) := by
  unfold wpL_done
  exact pk_eq s 2 (fun _ => h) (fun a => pk_eq s 3 (fun _ => h) (fun b => by omega))
theorem ic_doneF {s : Nat} {post : Int32 → Prop} (h2 : ¬ 2 ≤ s) (h : post 0) : wpL_done post () (nI s) := by
  unfold wpL_done
  exact pk_eq s 2 (fun a => by omega) (fun a => pk_eq s 3 (fun b => by omega) (fun b => h))
theorem ic_652 {post : Int32 → Prop} {L : Nat} {xs : Nat → Int32} {J : ic_JT} {K : Int32 → Prop} {x1 x2 : Int32} {sd : Int64} {x7 x8 x9 x18 : Int32} {mk lim cap kc ks lo t2 : Nat} {p : Nat → Nat → Nat} (hJ : ic_JJ sd mk lim cap p) (hmk : mk < 4) (hT : p 25 3 < 2 ^ 20) (hC : p 25 2 < 2 ^ 20)
    (h2 : t2 < p 25 3) (hlo : p 25 3 ≤ lo + 32) (hd : 2 ≤ p 0 (t2 % 32)) (hK : K (nI (t2 + 1))) : ∀ d i : Nat, i + d = t2 → lo ≤ i →
    wL_law_652 post L xs J K x1 x2 (nI mk) sd x7 x8 x9 x18 (nI t2) (nI (ic_w sd t2)) kc ks (nI (p 25 0)) (nI (p 25 1)) (lN (p 25 2)) (lN (p 25 3)) (nI (p 25 4)) (ic_ts (p 0)) (ic_t (p 1)) (ic_t (p 2)) (ic_t (p 3)) (ic_t8 (p 3)) (ic_t (p 4)) (ic_t (p 5)) (ic_t (p 6)) (ic_tL (p 7)) (ic_t (p 8)) (ic_t (p 9)) (ic_t (p 10)) (ic_t (p 11)) (ic_t (p 12)) (ic_t (p 13)) (ic_t (p 14)) (ic_t (p 15)) (ic_t (p 16)) (ic_t (p 17)) (ic_t (p 18)) (ic_t (p 19)) (ic_t (p 20)) (ic_t (p 21)) (ic_t (p 22)) (ic_t (p 23)) (ic_t (p 24)) (d + 1) (nI i) := by
  obtain ⟨hI, ⟨d1, d2, d3⟩, h0, h1, hE, hP⟩ := hJ
  intro d
  induction d with
  | zero =>
    intro i hi _
    exact pk_le t2 i (fun _ => nm_r (nI_1 t2) hK) (fun z => by omega)
  | succ d ih =>
    intro i hi hl
    have N := ih (i + 1) (by omega) (by omega)
    have w1 := ic_w_lt sd i
    have w2 := ic_w_lt sd t2
    have b1 := ic_pw_le (ic_w sd i)
    have b2 := ic_pw_le (ic_w sd t2)
    have c1 := @ic_id_lt (ic_w sd i) mk hmk
    have c2 := @ic_id_lt (ic_w sd t2) mk hmk
    have P1 := hP i (by omega) (by omega)
    have P2 := hP t2 h2 (by omega)
    refine pk_le t2 i (fun z => by omega) (fun _ => ic_par (ic_pm w1 (ic_pm w2 ?_)))
    refine pk_eq (ic_w sd i % 2) (ic_w sd t2 % 2) (fun a => ?_) (fun a => nm_r (nI_1 i) N)
    refine ic_pwL (ic_pwL (pk_eq (ic_pw (ic_w sd i)) (ic_pw (ic_w sd t2)) (fun b => ?_) (fun b => nm_r (nI_1 i) N)))
    refine ic_pid w1 (ic_pid w2 (pk_eq (ic_id (ic_w sd i) mk) (ic_id (ic_w sd t2) mk) (fun c => ?_) (fun c => nm_r (nI_1 i) N)))
    have r := d2 i t2 (by omega) h2 (by omega) (by rw [P1.1, P2.1]; unfold ic_chn; rw [a, b]) (by rw [P1.2.1, P2.2.1, c]) hd
    have hL1 := hI.1 (i % 32) (by omega)
    have hL2 := hI.1 (t2 % 32) (by omega)
    unfold ic_L at hL1 hL2
    have o1 := (d1 (i % 32) (by omega) r.1 (by omega)).2
    have o2 := (d1 (t2 % 32) (by omega) hd (by omega)).2
    refine ic_X_status (p := p) hI (by omega) (by omega) (by omega) (fun s3 => ic_doneT r.1 s3 (br_f (by decide) ?_))
    refine ic_X_doneOrder (p := p) hI (by omega) (by omega) (by omega) r.1 (ic_X_doneOrder (p := p) hI (by omega) h2 (by omega) hd ?_)
    exact pk_lt (p 8 (i % 32)) (p 8 (t2 % 32)) (fun _ => nm_r (nI_1 i) N) (fun z => by omega)
theorem ic_599 {post : Int32 → Prop} {L : Nat} {xs : Nat → Int32} {J : ic_JT} {x1 x2 : Int32} {sd : Int64} {x8 : Int32} {mk lim cap kc ks lo k : Nat} {p : Nat → Nat → Nat} (hJ : ic_JJ sd mk lim cap p) (hmk : mk < 4) (hT : p 25 3 < 2 ^ 20) (hC : p 25 2 < 2 ^ 20)
    (hlo : p 25 3 ≤ lo + 32) (hK : J (nI (p 25 3)) (nI (k + 1)) (nI (p 25 0)) (nI (p 25 1)) (lN (p 25 2)) (lN (p 25 3)) (nI (p 25 4)) (ic_ts (p 0)) (ic_t (p 1)) (ic_t (p 2)) (ic_t (p 3)) (ic_t8 (p 3)) (ic_t (p 4)) (ic_t (p 5)) (ic_t (p 6)) (ic_tL (p 7)) (ic_t (p 8)) (ic_t (p 9)) (ic_t (p 10)) (ic_t (p 11)) (ic_t (p 12)) (ic_t (p 13)) (ic_t (p 14)) (ic_t (p 15)) (ic_t (p 16)) (ic_t (p 17)) (ic_t (p 18)) (ic_t (p 19)) (ic_t (p 20)) (ic_t (p 21)) (ic_t (p 22)) (ic_t (p 23)) (ic_t (p 24))) : ∀ d t : Nat, t + d = p 25 3 → lo ≤ t →
    wL_law_599 post L xs J x1 x2 (nI mk) sd (nI (p 25 3)) x8 (nI k) (nI lo) kc ks (nI (p 25 0)) (nI (p 25 1)) (lN (p 25 2)) (lN (p 25 3)) (nI (p 25 4)) (ic_ts (p 0)) (ic_t (p 1)) (ic_t (p 2)) (ic_t (p 3)) (ic_t8 (p 3)) (ic_t (p 4)) (ic_t (p 5)) (ic_t (p 6)) (ic_tL (p 7)) (ic_t (p 8)) (ic_t (p 9)) (ic_t (p 10)) (ic_t (p 11)) (ic_t (p 12)) (ic_t (p 13)) (ic_t (p 14)) (ic_t (p 15)) (ic_t (p 16)) (ic_t (p 17)) (ic_t (p 18)) (ic_t (p 19)) (ic_t (p 20)) (ic_t (p 21)) (ic_t (p 22)) (ic_t (p 23)) (ic_t (p 24)) (d + 1) (nI t) := by
  intro d
  induction d with
  | zero =>
    intro t ht _
    exact pk_le (p 25 3) t (fun _ => nm_r (nI_1 k) hK) (fun z => by omega)
  | succ d ih =>
    intro t ht hl
    have N := ih (t + 1) (by omega) (by omega)
    refine pk_le (p 25 3) t (fun z => by omega) (fun _ => ic_par ?_)
    refine ic_X_status (p := p) hJ.1 (by omega) (by omega) (by omega) (fun s3 => ?_)
    by_cases hd : 2 ≤ p 0 (t % 32)
    · have P := hJ.2.2.2.2.2 t (by omega) (by omega)
      have B := (hJ.2.1.1 (t % 32) (by omega) hd s3).1
      have hl4 := ic_len_in (ic_w sd t)
      refine ic_doneT hd s3 (br_f (by decide) (ic_X_beats (p := p) (by omega) (by omega) (by omega) (ic_plen (ic_w_lt sd t) (pk_eq (p 5 (t % 32)) (ic_len (ic_w sd t)) (fun _ => ?_) (fun z => by omega)))))
      exact ⟨_, ic_652 hJ hmk hT hC (by omega) hlo hd N (t - lo) lo (by omega) (Nat.le_refl lo)⟩
    · exact ic_doneF hd (br_t rfl (nm_r (nI_1 t) N))
theorem ic_468 {post : Int32 → Prop} {L : Nat} {xs : Nat → Int32} {J : ic_JT} {sd : Int64} {x8 : Int32} {mk lim cap kc ks k : Nat} {p : Nat → Nat → Nat} (hJ : ic_JJ sd mk lim cap p) (hmk : mk < 4) (hlim : lim ≤ 8) (hcap : cap ≤ 4) (hT : p 25 3 < 2 ^ 20) (hC : p 25 2 < 2 ^ 20)
    (hK : J (nI (p 25 3)) (nI (k + 1)) (nI (p 25 0)) (nI (p 25 1)) (lN (p 25 2)) (lN (p 25 3)) (nI (p 25 4)) (ic_ts (p 0)) (ic_t (p 1)) (ic_t (p 2)) (ic_t (p 3)) (ic_t8 (p 3)) (ic_t (p 4)) (ic_t (p 5)) (ic_t (p 6)) (ic_tL (p 7)) (ic_t (p 8)) (ic_t (p 9)) (ic_t (p 10)) (ic_t (p 11)) (ic_t (p 12)) (ic_t (p 13)) (ic_t (p 14)) (ic_t (p 15)) (ic_t (p 16)) (ic_t (p 17)) (ic_t (p 18)) (ic_t (p 19)) (ic_t (p 20)) (ic_t (p 21)) (ic_t (p 22)) (ic_t (p 23)) (ic_t (p 24))) : wL_law_468 post L xs J (nI lim) (nI cap) (nI mk) sd (nI (p 25 3)) x8 (nI k) kc ks (nI (p 25 0)) (nI (p 25 1)) (lN (p 25 2)) (lN (p 25 3)) (nI (p 25 4)) (ic_ts (p 0)) (ic_t (p 1)) (ic_t (p 2)) (ic_t (p 3)) (ic_t8 (p 3)) (ic_t (p 4)) (ic_t (p 5)) (ic_t (p 6)) (ic_tL (p 7)) (ic_t (p 8)) (ic_t (p 9)) (ic_t (p 10)) (ic_t (p 11)) (ic_t (p 12)) (ic_t (p 13)) (ic_t (p 14)) (ic_t (p 15)) (ic_t (p 16)) (ic_t (p 17)) (ic_t (p 18)) (ic_t (p 19)) (ic_t (p 20)) (ic_t (p 21)) (ic_t (p 22)) (ic_t (p 23)) (ic_t (p 24)) := by
  have hs := ic_sum hJ.1
  obtain ⟨m1, m2⟩ := hJ.2.1.2.2
  have a0 := m1 0 (by decide)
  have a1 := m1 1 (by decide)
  have b0 := m2 0 (by decide)
  have b1 := m2 1 (by decide)
  have b2 := m2 2 (by decide)
  have b3 := m2 3 (by decide)
  rw [hJ.2.2.1] at a0 a1
  rw [hJ.2.2.2.1] at b0 b1 b2 b3
  unfold wL_law_468
  refine ic_X_outstanding (p := p) (m := 0) (by decide) (ic_X_outstanding (p := p) (m := 1) (by decide) (ic_X_subLoad (p := p) (s := 0) (by decide) (ic_X_subLoad (p := p) (s := 1) (by decide) (ic_X_subLoad (p := p) (s := 2) (by decide) (ic_X_subLoad (p := p) (s := 3) (by decide) ?_)))))
  refine br_t (by rw [nI_add, nI_add, nI_add, nI_add, hs]) ?_
  refine pk_lt lim (p 20 0) (fun z => by omega) (fun _ => pk_le (p 20 1) lim (fun _ => pk_lt cap (p 21 0) (fun z => by omega) (fun _ => pk_lt cap (p 21 1) (fun z => by omega) (fun _ => pk_lt cap (p 21 2) (fun z => by omega) (fun _ => pk_le (p 21 3) cap (fun _ => ?_) (fun z => by omega))))) (fun z => by omega))
  refine pk_le (p 25 3) 32 (fun z => ⟨_, ic_599 (lo := 0) hJ hmk hT hC (by omega) hK (p 25 3) 0 (by omega) (Nat.le_refl 0)⟩) (fun z => ?_)
  exact nm_r (e' := nI (p 25 3 - 32)) (pk_sub (b := 32) (by omega)) ⟨_, ic_599 (lo := p 25 3 - 32) hJ hmk hT hC (by omega) hK 32 (p 25 3 - 32) (by omega) (Nat.le_refl _)⟩
