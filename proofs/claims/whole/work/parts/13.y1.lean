/-! the reference: its readers -/
def ic_Y (q : Nat → Nat → Nat) : SY := (nI (q 22 0), nI (q 22 1), nI (q 22 2), nI (q 22 3), nI (q 22 4), ic_t (q 0), ic_t (q 1), ic_t (q 2), ic_t (q 3), ic_t (q 4), ic_t (q 5), ic_t (q 6), ic_t (q 7), ic_t (q 8), ic_t (q 9), ic_t (q 10), ic_t (q 11), ic_t (q 12), ic_t (q 13), ic_t (q 14), ic_t (q 15), ic_t (q 16), ic_t (q 17), ic_t (q 18), ic_t (q 19), ic_t (q 20), ic_t (q 21))
theorem ic_Y_validT {q : Nat → Nat → Nat} {T t : Nat} {post : Int32 → Prop} (e : q 22 3 = T) (hT : T < 2 ^ 30) (h1 : t < T) (h2 : T ≤ t + 32) (h : post 1) : wpY_valid post (ic_Y q) (nI t) := by
  subst e
  unfold wpY_valid
  refine br_f (nI_pos (by omega)) (pk_le (q 22 3) t (fun z => by omega) (fun _ => br_f ?_ h))
  rw [Int32.not_lt]
  exact (ic_lo hT (by omega)).mpr h2
theorem ic_Y_validN {q : Nat → Nat → Nat} {v : Int32} {post : Int32 → Prop} (h : v < 0) (h0 : post 0) : wpY_valid post (ic_Y q) v := by
  unfold wpY_valid
  exact br_t h h0
theorem ic_Y_isDone {q : Nat → Nat → Nat} {s : Nat} {post : Int32 → Prop} (hs : s < 32) (h5 : q 5 s ≤ 3) (h1 : 2 ≤ q 5 s → post 1) (h0 : ¬ 2 ≤ q 5 s → post 0) : wpY_isDone post (ic_Y q) (nI s) := by
  have hi : vp_in (nI s) 32 := vp_in_nI hs (by decide)
  unfold wpY_isDone
  refine And.intro hi (ek_if (ic_ce s 2 rfl rfl (by omega) (by omega) (by decide)) (fun a => h1 (by omega)) (fun a => ?_))
  exact And.intro hi (ek_if (ic_ce s 3 rfl rfl (by omega) (by omega) (by decide)) (fun b => h1 (by omega)) (fun b => h0 (by omega)))
/-- what stands at place j of a scan -/
theorem ic_plc {p : Nat → Nat → Nat} {j : Nat} (hj : j < 32) (h : 32 ≤ p 25 3 + j) : (p 25 3 + j) % 32 < p 25 3 ∧ (p 25 3 + j - 32) % 32 = (p 25 3 + j) % 32 ∧ p 25 3 + j - 32 < p 25 3 ∧ p 25 3 ≤ p 25 3 + j - 32 + 32 := by omega
theorem ic_pln {p : Nat → Nat → Nat} {j : Nat} (hI : ic_J1 p) (h : ¬ 32 ≤ p 25 3 + j) : p 0 ((p 25 3 + j) % 32) = 4 ∧ p 4 ((p 25 3 + j) % 32) = 0 := by
  have e : (p 25 3 + j) % 32 = p 25 3 + j := by omega
  rw [e]
  have := hI (p 25 3 + j) (by omega)
  unfold ic_L at this
  omega
theorem ic_tt' {q : Nat → Nat → Nat} {T j : Nat} (e : q 22 3 = T) (h : 32 ≤ T + j) : nI (q 22 3) - 32 + nI j = nI (T + j - 32) := by rw [e]; exact ic_tt h
theorem ic_tn' {q : Nat → Nat → Nat} {T j : Nat} (e : q 22 3 = T) (h : ¬ 32 ≤ T + j) : nI (q 22 3) - 32 + nI j < 0 := by rw [e]; exact ic_tn (by omega)
theorem ic_t31 {T j : Nat} (hT : T < 2 ^ 30) (hj : j < 32) (h : 32 ≤ T + j) : nI (T + j - 32) &&& 31 = nI ((T + j) % 32) := by
  rw [ic_sl (by omega)]
  congr 1
  omega
theorem ic_Y_oo {p q : Nat → Nat → Nat} {m k i : Nat} {post : Int32 → Prop} (hl : ic_Lnk p q) (hI : ic_J1 p) (hT : p 25 3 < 2 ^ 30) (hm : m < 2) (hk : k < 2) (hi : i < 4) : ∀ d j : Nat, j + d = 32 →
    (ic_ff (p 25 3) (ic_pen p (m * 2 + (1 - k)) i) d j = none → post (-1)) → (∀ s t, ic_ff (p 25 3) (ic_pen p (m * 2 + (1 - k)) i) d j = some s → s < p 25 3 → t < 2 ^ 30 → t % 32 = s → post (nI t)) →
    wY_oldestOpen_3 post (nI m) (nI k) (nI i) (nI (q 22 0)) (nI (q 22 1)) (nI (q 22 2)) (nI (q 22 3)) (nI (q 22 4)) (ic_t (q 0)) (ic_t (q 1)) (ic_t (q 2)) (ic_t (q 3)) (ic_t (q 4)) (ic_t (q 5)) (ic_t (q 6)) (ic_t (q 7)) (ic_t (q 8)) (ic_t (q 9)) (ic_t (q 10)) (ic_t (q 11)) (ic_t (q 12)) (ic_t (q 13)) (ic_t (q 14)) (ic_t (q 15)) (ic_t (q 16)) (ic_t (q 17)) (ic_t (q 18)) (ic_t (q 19)) (ic_t (q 20)) (ic_t (q 21)) (d + 1) (nI j) := by
  have eT : q 22 3 = p 25 3 := hl.2.2.2.2.2.2 3 (by decide)
  intro d
  induction d with
  | zero =>
    intro j hj hn _
    exact pk_le 32 j (fun _ => hn rfl) (fun h => by omega)
  | succ d ih =>
    intro j hj hn hs
    refine pk_le 32 j (fun h => by omega) (fun hj32 => ?_)
    have K : ¬ ic_pen p (m * 2 + (1 - k)) i ((p 25 3 + j) % 32) = true → wY_oldestOpen_3 post (nI m) (nI k) (nI i) (nI (q 22 0)) (nI (q 22 1)) (nI (q 22 2)) (nI (q 22 3)) (nI (q 22 4)) (ic_t (q 0)) (ic_t (q 1)) (ic_t (q 2)) (ic_t (q 3)) (ic_t (q 4)) (ic_t (q 5)) (ic_t (q 6)) (ic_t (q 7)) (ic_t (q 8)) (ic_t (q 9)) (ic_t (q 10)) (ic_t (q 11)) (ic_t (q 12)) (ic_t (q 13)) (ic_t (q 14)) (ic_t (q 15)) (ic_t (q 16)) (ic_t (q 17)) (ic_t (q 18)) (ic_t (q 19)) (ic_t (q 20)) (ic_t (q 21)) (d + 1) (nI (j + 1)) := fun h =>
      ih (j + 1) (by omega) (fun z => hn (by rw [ic_ff_f h]; exact z)) (fun s t z => hs s t (by rw [ic_ff_f h]; exact z))
    by_cases h32 : 32 ≤ p 25 3 + j
    · obtain ⟨g1, g2, g3, g4⟩ := ic_plc hj32 h32
      have F : ic_pen p (m * 2 + (1 - k)) i ((p 25 3 + j) % 32) = true → post (nI (p 25 3 + j - 32)) := fun h => hs _ _ (ic_ff_t h) g1 (by omega) g2
      refine nm_r (ic_tt' eT h32) (ic_Y_validT (q := q) eT hT g3 g4 (br_f (by decide) (nm_r (ic_t31 hT hj32 h32) ?_)))
      have hs32 : (p 25 3 + j) % 32 < 32 := by omega
      have hL := hI _ hs32
      have hM := hl.1 _ hs32 g1
      generalize (p 25 3 + j) % 32 = s at *
      unfold ic_L at hL
      unfold ic_M at hM
      have hi32 : vp_in (nI s) 32 := vp_in_nI hs32 (by decide)
      refine And.intro hi32 (ek_if (ic_ce s m rfl rfl (by omega) (by omega) (by omega)) (fun a => ?_) (fun a => nm_r (nI_1 j) (K (fun z => ?_))))
      · refine And.intro hi32 (ek_if (ic_ce s k rfl rfl (by omega) (by omega) (by omega)) (fun b => ?_) (fun b => nm_r (nI_1 j) (K (fun z => ?_))))
        · refine And.intro hi32 (ek_if (ic_ce s i rfl rfl (by omega) (by omega) (by omega)) (fun c => ?_) (fun c => nm_r (nI_1 j) (K (fun z => ?_))))
          · refine ic_Y_isDone (q := q) hs32 (by omega) (fun e => br_f (by decide) (nm_r (nI_1 j) (K (fun z => ?_)))) (fun e => br_t rfl (F (decide_eq_true (by omega))))
            have := of_decide_eq_true z
            omega
          · have := of_decide_eq_true z
            omega
        · have := of_decide_eq_true z
          omega
      · have := of_decide_eq_true z
        omega
    · have hu := (ic_pln hI h32).1
      refine nm_e (ic_Y_validN (q := q) (ic_tn' eT h32) (br_t rfl (nm_r (nI_1 j) (K (fun z => ?_)))))
      have := (of_decide_eq_true z).2.2
      omega
theorem ic_Y_oldestOpen {p q : Nat → Nat → Nat} {m k i : Nat} {post : Int32 → Prop} (hl : ic_Lnk p q) (hI : ic_J1 p) (hT : p 25 3 < 2 ^ 30) (hm : m < 2) (hk : k < 2) (hi : i < 4)
    (hn : ic_old p (m * 2 + (1 - k)) i = none → post (-1)) (hs : ∀ s t, ic_old p (m * 2 + (1 - k)) i = some s → s < p 25 3 → t < 2 ^ 30 → t % 32 = s → post (nI t)) : wpY_oldestOpen post (ic_Y q) (nI m) (nI k) (nI i) := by
  unfold wpY_oldestOpen
  exact ⟨33, ic_Y_oo hl hI hT hm hk hi 32 0 rfl hn hs⟩
def ic_qp (p : Nat → Nat → Nat) (c s : Nat) : Bool := decide (p 0 s = 0 ∧ p 1 s = c)
theorem ic_Y_qh {p q : Nat → Nat → Nat} {m k : Nat} {post : Int32 → Prop} (hl : ic_Lnk p q) (hI : ic_J1 p) (hT : p 25 3 < 2 ^ 30) (hm : m < 2) (hk : k < 2) : ∀ d j : Nat, j + d = 32 →
    (ic_ff (p 25 3) (ic_qp p (m * 2 + (1 - k))) d j = none → post (-1)) → (∀ s t, ic_ff (p 25 3) (ic_qp p (m * 2 + (1 - k))) d j = some s → s < p 25 3 → t < 2 ^ 30 → t % 32 = s → post (nI t)) →
    wY_queueHead_2 post (nI m) (nI k) (nI (q 22 0)) (nI (q 22 1)) (nI (q 22 2)) (nI (q 22 3)) (nI (q 22 4)) (ic_t (q 0)) (ic_t (q 1)) (ic_t (q 2)) (ic_t (q 3)) (ic_t (q 4)) (ic_t (q 5)) (ic_t (q 6)) (ic_t (q 7)) (ic_t (q 8)) (ic_t (q 9)) (ic_t (q 10)) (ic_t (q 11)) (ic_t (q 12)) (ic_t (q 13)) (ic_t (q 14)) (ic_t (q 15)) (ic_t (q 16)) (ic_t (q 17)) (ic_t (q 18)) (ic_t (q 19)) (ic_t (q 20)) (ic_t (q 21)) (d + 1) (nI j) := by
  have eT : q 22 3 = p 25 3 := hl.2.2.2.2.2.2 3 (by decide)
  intro d
  induction d with
  | zero =>
    intro j hj hn _
    exact pk_le 32 j (fun _ => hn rfl) (fun h => by omega)
  | succ d ih =>
    intro j hj hn hs
    refine pk_le 32 j (fun h => by omega) (fun hj32 => ?_)
    have K : ¬ ic_qp p (m * 2 + (1 - k)) ((p 25 3 + j) % 32) = true → wY_queueHead_2 post (nI m) (nI k) (nI (q 22 0)) (nI (q 22 1)) (nI (q 22 2)) (nI (q 22 3)) (nI (q 22 4)) (ic_t (q 0)) (ic_t (q 1)) (ic_t (q 2)) (ic_t (q 3)) (ic_t (q 4)) (ic_t (q 5)) (ic_t (q 6)) (ic_t (q 7)) (ic_t (q 8)) (ic_t (q 9)) (ic_t (q 10)) (ic_t (q 11)) (ic_t (q 12)) (ic_t (q 13)) (ic_t (q 14)) (ic_t (q 15)) (ic_t (q 16)) (ic_t (q 17)) (ic_t (q 18)) (ic_t (q 19)) (ic_t (q 20)) (ic_t (q 21)) (d + 1) (nI (j + 1)) := fun h =>
      ih (j + 1) (by omega) (fun z => hn (by rw [ic_ff_f h]; exact z)) (fun s t z => hs s t (by rw [ic_ff_f h]; exact z))
    by_cases h32 : 32 ≤ p 25 3 + j
    · obtain ⟨g1, g2, g3, g4⟩ := ic_plc hj32 h32
      have F : ic_qp p (m * 2 + (1 - k)) ((p 25 3 + j) % 32) = true → post (nI (p 25 3 + j - 32)) := fun h => hs _ _ (ic_ff_t h) g1 (by omega) g2
      refine nm_r (ic_tt' eT h32) (ic_Y_validT (q := q) eT hT g3 g4 (br_f (by decide) (nm_r (ic_t31 hT hj32 h32) ?_)))
      have hs32 : (p 25 3 + j) % 32 < 32 := by omega
      have hL := hI _ hs32
      have hM := hl.1 _ hs32 g1
      generalize (p 25 3 + j) % 32 = s at *
      unfold ic_L at hL
      unfold ic_M at hM
      have hi32 : vp_in (nI s) 32 := vp_in_nI hs32 (by decide)
      refine And.intro hi32 (ek_if (ic_ce s m rfl rfl (by omega) (by omega) (by omega)) (fun a => ?_) (fun a => nm_r (nI_1 j) (K (fun z => ?_))))
      · refine And.intro hi32 (ek_if (ic_ce s k rfl rfl (by omega) (by omega) (by omega)) (fun b => ?_) (fun b => nm_r (nI_1 j) (K (fun z => ?_))))
        · refine And.intro hi32 (ek_if (ic_ce s 0 rfl rfl (by omega) (by omega) (by omega)) (fun c => F (decide_eq_true (by omega))) (fun c => nm_r (nI_1 j) (K (fun z => ?_))))
          have := of_decide_eq_true z
          omega
        · have := of_decide_eq_true z
          omega
      · have := of_decide_eq_true z
        omega
    · have hu := (ic_pln hI h32).1
      refine nm_e (ic_Y_validN (q := q) (ic_tn' eT h32) (br_t rfl (nm_r (nI_1 j) (K (fun z => ?_)))))
      have := (of_decide_eq_true z).1
      omega
/-- the head, as the class's ring has it -/
theorem ic_Y_queueHead {p q : Nat → Nat → Nat} {m k : Nat} {post : Int32 → Prop} (hl : ic_Lnk p q) (hI : ic_Inv p) (hT : p 25 3 < 2 ^ 30) (hm : m < 2) (hk : k < 2)
    (hn : p 13 (m * 2 + (1 - k)) = 0 → post (-1)) (hs : ∀ t, p 13 (m * 2 + (1 - k)) ≠ 0 → ic_hd p (m * 2 + (1 - k)) < p 25 3 → t < 2 ^ 30 → t % 32 = ic_hd p (m * 2 + (1 - k)) → post (nI t)) : wpY_queueHead post (ic_Y q) (nI m) (nI k) := by
  obtain ⟨K, hK⟩ := hI.2.2.1 (m * 2 + (1 - k)) (by omega)
  have un : ∀ s, s < 32 → p 25 3 ≤ s → p 0 s = 4 := fun s h1 h2 => ((hI.1 s h1).2.2.1 h2).1
  unfold wpY_queueHead
  refine ⟨33, ic_Y_qh hl hI.1 hT hm hk 32 0 rfl (fun z => ?_) (fun s t z => ?_)⟩
  · by_cases h0 : p 13 (m * 2 + (1 - k)) = 0
    · exact hn h0
    · have := ic_Q1_hd hK (by omega) un
      rw [show ic_ff (p 25 3) (ic_qp p (m * 2 + (1 - k))) 32 0 = _ from this] at z
      cases z
  · by_cases h0 : p 13 (m * 2 + (1 - k)) = 0
    · rw [h0] at hK
      have := ic_Q1_no hK un
      rw [show ic_ff (p 25 3) (ic_qp p (m * 2 + (1 - k))) 32 0 = _ from this] at z
      cases z
    · have := ic_Q1_hd hK (by omega) un
      rw [show ic_ff (p 25 3) (ic_qp p (m * 2 + (1 - k))) 32 0 = _ from this] at z
      cases z
      exact fun h1 h2 h3 => hs t h0 h1 h2 h3
