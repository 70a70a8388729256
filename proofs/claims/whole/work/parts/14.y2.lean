/-! the reference: its counts -/
theorem ic_Y_cw {p q : Nat → Nat → Nat} {v2 v3 v4 : Int32} {a : Nat} {pr : Nat → Bool} {post : Int32 → Prop} (hl : ic_Lnk p q) (hI : ic_J1 p) (hT : p 25 3 < 2 ^ 30) (ha : a ≤ 3)
    (hpr : ∀ s, s < 32 → s < p 25 3 → (pr s = true ↔ q 5 s = a ∧ (v2 < 0 ∨ nI (q 1 s) = v2) ∧ (v3 < 0 ∨ nI (q 0 s) = v3) ∧ (v4 < 0 ∨ nI (q 3 s / 8) = v4)))
    (hun : ∀ s, s < 32 → p 0 s = 4 → ¬ pr s = true) (h : post (nI (ic_cn (fun i => pr ((p 25 3 + i) % 32)) 32))) : ∀ d j : Nat, j + d = 32 →
    wY_countWith_6 post (nI a) v2 v3 v4 (nI (q 22 0)) (nI (q 22 1)) (nI (q 22 2)) (nI (q 22 3)) (nI (q 22 4)) (ic_t (q 0)) (ic_t (q 1)) (ic_t (q 2)) (ic_t (q 3)) (ic_t (q 4)) (ic_t (q 5)) (ic_t (q 6)) (ic_t (q 7)) (ic_t (q 8)) (ic_t (q 9)) (ic_t (q 10)) (ic_t (q 11)) (ic_t (q 12)) (ic_t (q 13)) (ic_t (q 14)) (ic_t (q 15)) (ic_t (q 16)) (ic_t (q 17)) (ic_t (q 18)) (ic_t (q 19)) (ic_t (q 20)) (ic_t (q 21)) (d + 1) (nI (ic_cn (fun i => pr ((p 25 3 + i) % 32)) j)) (nI j) := by
  have eT : q 22 3 = p 25 3 := hl.2.2.2.2.2.2 3 (by decide)
  intro d
  induction d with
  | zero =>
    intro j hj
    have e : j = 32 := by omega
    subst e
    exact pk_le 32 32 (fun _ => h) (fun h => by omega)
  | succ d ih =>
    intro j hj
    refine pk_le 32 j (fun h => by omega) (fun hj32 => ?_)
    have K0 : ¬ pr ((p 25 3 + j) % 32) = true → wY_countWith_6 post (nI a) v2 v3 v4 (nI (q 22 0)) (nI (q 22 1)) (nI (q 22 2)) (nI (q 22 3)) (nI (q 22 4)) (ic_t (q 0)) (ic_t (q 1)) (ic_t (q 2)) (ic_t (q 3)) (ic_t (q 4)) (ic_t (q 5)) (ic_t (q 6)) (ic_t (q 7)) (ic_t (q 8)) (ic_t (q 9)) (ic_t (q 10)) (ic_t (q 11)) (ic_t (q 12)) (ic_t (q 13)) (ic_t (q 14)) (ic_t (q 15)) (ic_t (q 16)) (ic_t (q 17)) (ic_t (q 18)) (ic_t (q 19)) (ic_t (q 20)) (ic_t (q 21)) (d + 1) (nI (ic_cn (fun i => pr ((p 25 3 + i) % 32)) j)) (nI (j + 1)) := fun z => by
      have e := ih (j + 1) (by omega)
      rw [ic_cn_f (p := fun i => pr ((p 25 3 + i) % 32)) z] at e
      exact e
    have K1 : pr ((p 25 3 + j) % 32) = true → wY_countWith_6 post (nI a) v2 v3 v4 (nI (q 22 0)) (nI (q 22 1)) (nI (q 22 2)) (nI (q 22 3)) (nI (q 22 4)) (ic_t (q 0)) (ic_t (q 1)) (ic_t (q 2)) (ic_t (q 3)) (ic_t (q 4)) (ic_t (q 5)) (ic_t (q 6)) (ic_t (q 7)) (ic_t (q 8)) (ic_t (q 9)) (ic_t (q 10)) (ic_t (q 11)) (ic_t (q 12)) (ic_t (q 13)) (ic_t (q 14)) (ic_t (q 15)) (ic_t (q 16)) (ic_t (q 17)) (ic_t (q 18)) (ic_t (q 19)) (ic_t (q 20)) (ic_t (q 21)) (d + 1) (nI (ic_cn (fun i => pr ((p 25 3 + i) % 32)) j + 1)) (nI (j + 1)) := fun z => by
      have e := ih (j + 1) (by omega)
      rw [ic_cn_t (p := fun i => pr ((p 25 3 + i) % 32)) z] at e
      exact e
    generalize ic_cn (fun i => pr ((p 25 3 + i) % 32)) j = n at *
    by_cases h32 : 32 ≤ p 25 3 + j
    · obtain ⟨g1, g2, g3, g4⟩ := ic_plc hj32 h32
      refine nm_r (ic_tt' eT h32) (ic_Y_validT (q := q) eT hT g3 g4 (br_f (by decide) (nm_r (ic_t31 hT hj32 h32) ?_)))
      have hs32 : (p 25 3 + j) % 32 < 32 := by omega
      have hL := hI _ hs32
      have hM := hl.1 _ hs32 g1
      have hP := hpr _ hs32 g1
      generalize (p 25 3 + j) % 32 = s at *
      unfold ic_L at hL
      unfold ic_M at hM
      have hi32 : vp_in (nI s) 32 := vp_in_nI hs32 (by decide)
      have e1 : ic_t (q 1) (nI s).toNatClampNeg = nI (q 1 s) := ic_g s rfl (by omega)
      have e0 : ic_t (q 0) (nI s).toNatClampNeg = nI (q 0 s) := ic_g s rfl (by omega)
      have e3 : ic_t (q 3) (nI s).toNatClampNeg / 8 = nI (q 3 s / 8) := by
        rw [ic_g s rfl (by omega)]
        exact pk_div (d := 8) (by omega) (by decide) (by decide)
      have s85 : (q 5 s = a ∧ (v2 < 0 ∨ nI (q 1 s) = v2) ∧ (v3 < 0 ∨ nI (q 0 s) = v3)) → wY_countWith_85 post (wY_countWith_6 post (nI a) v2 v3 v4 (nI (q 22 0)) (nI (q 22 1)) (nI (q 22 2)) (nI (q 22 3)) (nI (q 22 4)) (ic_t (q 0)) (ic_t (q 1)) (ic_t (q 2)) (ic_t (q 3)) (ic_t (q 4)) (ic_t (q 5)) (ic_t (q 6)) (ic_t (q 7)) (ic_t (q 8)) (ic_t (q 9)) (ic_t (q 10)) (ic_t (q 11)) (ic_t (q 12)) (ic_t (q 13)) (ic_t (q 14)) (ic_t (q 15)) (ic_t (q 16)) (ic_t (q 17)) (ic_t (q 18)) (ic_t (q 19)) (ic_t (q 20)) (ic_t (q 21)) (d + 1)) (nI a) v2 v3 v4 (nI n) (nI j) (nI s) (nI (q 22 0)) (nI (q 22 1)) (nI (q 22 2)) (nI (q 22 3)) (nI (q 22 4)) (ic_t (q 0)) (ic_t (q 1)) (ic_t (q 2)) (ic_t (q 3)) (ic_t (q 4)) (ic_t (q 5)) (ic_t (q 6)) (ic_t (q 7)) (ic_t (q 8)) (ic_t (q 9)) (ic_t (q 10)) (ic_t (q 11)) (ic_t (q 12)) (ic_t (q 13)) (ic_t (q 14)) (ic_t (q 15)) (ic_t (q 16)) (ic_t (q 17)) (ic_t (q 18)) (ic_t (q 19)) (ic_t (q 20)) (ic_t (q 21)) := by
        intro ⟨f1, f2, f3⟩
        unfold wY_countWith_85
        refine br_c (fun b => nm_r (nI_1 n) (nm_r (nI_1 j) (K1 (hP.mpr ⟨f1, f2, f3, Or.inl b⟩)))) (fun b => And.intro hi32 (And.intro (by decide) ?_))
        rw [e3]
        refine br_c (fun c => nm_r (nI_1 n) (nm_r (nI_1 j) (K1 (hP.mpr ⟨f1, f2, f3, Or.inr c⟩)))) (fun c => nm_r (nI_1 j) (K0 (fun z => ?_)))
        rcases (hP.mp z).2.2.2 with w | w
        · exact b w
        · exact c w
      have s70 : (q 5 s = a ∧ (v2 < 0 ∨ nI (q 1 s) = v2)) → wY_countWith_70 post (wY_countWith_6 post (nI a) v2 v3 v4 (nI (q 22 0)) (nI (q 22 1)) (nI (q 22 2)) (nI (q 22 3)) (nI (q 22 4)) (ic_t (q 0)) (ic_t (q 1)) (ic_t (q 2)) (ic_t (q 3)) (ic_t (q 4)) (ic_t (q 5)) (ic_t (q 6)) (ic_t (q 7)) (ic_t (q 8)) (ic_t (q 9)) (ic_t (q 10)) (ic_t (q 11)) (ic_t (q 12)) (ic_t (q 13)) (ic_t (q 14)) (ic_t (q 15)) (ic_t (q 16)) (ic_t (q 17)) (ic_t (q 18)) (ic_t (q 19)) (ic_t (q 20)) (ic_t (q 21)) (d + 1)) (nI a) v2 v3 v4 (nI n) (nI j) (nI s) (nI (q 22 0)) (nI (q 22 1)) (nI (q 22 2)) (nI (q 22 3)) (nI (q 22 4)) (ic_t (q 0)) (ic_t (q 1)) (ic_t (q 2)) (ic_t (q 3)) (ic_t (q 4)) (ic_t (q 5)) (ic_t (q 6)) (ic_t (q 7)) (ic_t (q 8)) (ic_t (q 9)) (ic_t (q 10)) (ic_t (q 11)) (ic_t (q 12)) (ic_t (q 13)) (ic_t (q 14)) (ic_t (q 15)) (ic_t (q 16)) (ic_t (q 17)) (ic_t (q 18)) (ic_t (q 19)) (ic_t (q 20)) (ic_t (q 21)) := by
        intro ⟨f1, f2⟩
        unfold wY_countWith_70
        refine br_c (fun b => s85 ⟨f1, f2, Or.inl b⟩) (fun b => And.intro hi32 ?_)
        rw [e0]
        refine br_c (fun c => s85 ⟨f1, f2, Or.inr c⟩) (fun c => nm_r (nI_1 j) (K0 (fun z => ?_)))
        rcases (hP.mp z).2.2.1 with w | w
        · exact b w
        · exact c w
      refine And.intro hi32 (ek_if (ic_ce s a rfl rfl (by omega) (by omega) (by omega)) (fun f1 => ?_) (fun f1 => nm_r (nI_1 j) (K0 (fun z => f1 (hP.mp z).1))))
      refine br_c (fun b => s70 ⟨f1, Or.inl b⟩) (fun b => And.intro hi32 ?_)
      rw [e1]
      refine br_c (fun c => s70 ⟨f1, Or.inr c⟩) (fun c => nm_r (nI_1 j) (K0 (fun z => ?_)))
      rcases (hP.mp z).2.1 with w | w
      · exact b w
      · exact c w
    · have hu := (ic_pln hI h32).1
      exact nm_e (ic_Y_validN (q := q) (ic_tn' eT h32) (br_t rfl (nm_r (nI_1 j) (K0 (hun _ (by omega) hu)))))
theorem ic_Y_countWith {p q : Nat → Nat → Nat} {v2 v3 v4 : Int32} {a : Nat} (pr : Nat → Bool) {post : Int32 → Prop} (hl : ic_Lnk p q) (hI : ic_J1 p) (hT : p 25 3 < 2 ^ 30) (ha : a ≤ 3)
    (hpr : ∀ s, s < 32 → s < p 25 3 → (pr s = true ↔ q 5 s = a ∧ (v2 < 0 ∨ nI (q 1 s) = v2) ∧ (v3 < 0 ∨ nI (q 0 s) = v3) ∧ (v4 < 0 ∨ nI (q 3 s / 8) = v4)))
    (hun : ∀ s, s < 32 → p 0 s = 4 → ¬ pr s = true) (h : post (nI (ic_cn pr 32))) : wpY_countWith post (ic_Y q) (nI a) v2 v3 v4 := by
  unfold wpY_countWith
  refine ⟨33, ic_Y_cw (pr := pr) hl hI hT ha hpr hun ?_ 32 0 rfl⟩
  rw [ic_cn_rot]
  exact h
theorem ic_m1n : (-1 : Int32) < 0 := by decide
theorem ic_nn {n : Nat} (h : n < 2 ^ 31) : ¬ nI n < 0 := nI_pos h
theorem ic_Y_cntM {p q : Nat → Nat → Nat} {m : Nat} {post : Int32 → Prop} (hl : ic_Lnk p q) (hI : ic_Inv p) (hT : p 25 3 < 2 ^ 30) (hm : m < 2) (h : post (nI (p 20 m))) : wpY_countWith post (ic_Y q) 1 (nI m) (-1) (-1) := by
  refine ic_Y_countWith (a := 1) (fun s => decide (p 0 s = 1 ∧ p 1 s / 2 = m)) hl hI.1 hT (by decide) (fun s h1 h2 => ?_) (fun s h1 h2 z => ?_) ?_
  · have hM := hl.1 s h1 h2
    have hL := hI.1 s h1
    unfold ic_M at hM
    unfold ic_L at hL
    rw [decide_eq_true_iff]
    have e : nI (q 1 s) = nI m ↔ q 1 s = m := nI_eq (by omega) (by omega)
    constructor
    · intro z
      exact ⟨by omega, Or.inr (e.mpr (by omega)), Or.inl ic_m1n, Or.inl ic_m1n⟩
    · intro ⟨z1, z2, _⟩
      rcases z2 with z2 | z2
      · exact absurd z2 (ic_nn (by omega))
      · have := e.mp z2
        omega
  · have := (of_decide_eq_true z).1
    omega
  · rw [hI.2.1.1 m hm] at h
    exact h
theorem ic_Y_cntS {p q : Nat → Nat → Nat} {s : Nat} {post : Int32 → Prop} (hl : ic_Lnk p q) (hI : ic_Inv p) (hT : p 25 3 < 2 ^ 30) (hs : s < 4) (h : post (nI (p 21 s))) : wpY_countWith post (ic_Y q) 1 (-1) (-1) (nI s) := by
  refine ic_Y_countWith (a := 1) (fun t => decide (p 0 t = 1 ∧ p 3 t / 8 = s)) hl hI.1 hT (by decide) (fun t h1 h2 => ?_) (fun t h1 h2 z => ?_) ?_
  · have hM := hl.1 t h1 h2
    have hL := hI.1 t h1
    unfold ic_M at hM
    unfold ic_L at hL
    rw [decide_eq_true_iff]
    have e : nI (q 3 t / 8) = nI s ↔ q 3 t / 8 = s := nI_eq (by omega) (by omega)
    have e2 : q 3 t = p 3 t := hM.1.2.2.2.1
    constructor
    · intro z
      exact ⟨by omega, Or.inl ic_m1n, Or.inl ic_m1n, Or.inr (e.mpr (by omega))⟩
    · intro ⟨z1, _, _, z2⟩
      rcases z2 with z2 | z2
      · exact absurd z2 (ic_nn (by omega))
      · have := e.mp z2
        omega
  · have := (of_decide_eq_true z).1
    omega
  · rw [hI.2.1.2 s hs] at h
    exact h
theorem ic_Y_cntQ {p q : Nat → Nat → Nat} {m k : Nat} {post : Int32 → Prop} (hl : ic_Lnk p q) (hI : ic_Inv p) (hT : p 25 3 < 2 ^ 30) (hm : m < 2) (hk : k < 2) (h : post (nI (p 13 (m * 2 + (1 - k))))) : wpY_countWith post (ic_Y q) 0 (nI m) (nI k) (-1) := by
  refine ic_Y_countWith (a := 0) (fun s => decide (p 0 s = 0 ∧ p 1 s = m * 2 + (1 - k))) hl hI.1 hT (by decide) (fun s h1 h2 => ?_) (fun s h1 h2 z => ?_) ?_
  · have hM := hl.1 s h1 h2
    have hL := hI.1 s h1
    unfold ic_M at hM
    unfold ic_L at hL
    rw [decide_eq_true_iff]
    have e : nI (q 1 s) = nI m ↔ q 1 s = m := nI_eq (by omega) (by omega)
    have e2 : nI (q 0 s) = nI k ↔ q 0 s = k := nI_eq (by omega) (by omega)
    constructor
    · intro z
      exact ⟨by omega, Or.inr (e.mpr (by omega)), Or.inr (e2.mpr (by omega)), Or.inl ic_m1n⟩
    · intro ⟨z1, z2, z3, _⟩
      rcases z2 with z2 | z2
      · exact absurd z2 (ic_nn (by omega))
      · rcases z3 with z3 | z3
        · exact absurd z3 (ic_nn (by omega))
        · have := e.mp z2
          have := e2.mp z3
          omega
  · have := (of_decide_eq_true z).1
    omega
  · obtain ⟨K, _, _, e, _⟩ := hI.2.2.1 (m * 2 + (1 - k)) (by omega)
    rw [e] at h
    exact h
theorem ic_Y_cf {p q : Nat → Nat → Nat} {m k i b : Nat} {post : Int32 → Prop} {pr : Nat → Bool} (hl : ic_Lnk p q) (hI : ic_J1 p) (hT : p 25 3 < 2 ^ 30) (hm : m < 2) (hk : k < 2) (hi : i < 4) (hb : b < 4)
    (hpr : ∀ s, s < 32 → s < p 25 3 → (pr s = true ↔ p 0 s = 1 ∧ p 1 s = m * 2 + (1 - k) ∧ p 2 s = i ∧ p 3 s / 8 ≠ b)) (hun : ∀ s, s < 32 → p 0 s = 4 → ¬ pr s = true) : ∀ d j : Nat, j + d = 32 →
    (ic_ff (p 25 3) pr d j = none → post 0) → (∀ s, ic_ff (p 25 3) pr d j = some s → post 1) →
    wY_conflict_3 post (nI m) (nI k) (nI i) (nI b) (nI (q 22 0)) (nI (q 22 1)) (nI (q 22 2)) (nI (q 22 3)) (nI (q 22 4)) (ic_t (q 0)) (ic_t (q 1)) (ic_t (q 2)) (ic_t (q 3)) (ic_t (q 4)) (ic_t (q 5)) (ic_t (q 6)) (ic_t (q 7)) (ic_t (q 8)) (ic_t (q 9)) (ic_t (q 10)) (ic_t (q 11)) (ic_t (q 12)) (ic_t (q 13)) (ic_t (q 14)) (ic_t (q 15)) (ic_t (q 16)) (ic_t (q 17)) (ic_t (q 18)) (ic_t (q 19)) (ic_t (q 20)) (ic_t (q 21)) (d + 1) (nI j) := by
  have eT : q 22 3 = p 25 3 := hl.2.2.2.2.2.2 3 (by decide)
  intro d
  induction d with
  | zero =>
    intro j hj hn _
    exact pk_le 32 j (fun _ => hn rfl) (fun h => by omega)
  | succ d ih =>
    intro j hj hn hs
    refine pk_le 32 j (fun h => by omega) (fun hj32 => ?_)
    have K : ¬ pr ((p 25 3 + j) % 32) = true → wY_conflict_3 post (nI m) (nI k) (nI i) (nI b) (nI (q 22 0)) (nI (q 22 1)) (nI (q 22 2)) (nI (q 22 3)) (nI (q 22 4)) (ic_t (q 0)) (ic_t (q 1)) (ic_t (q 2)) (ic_t (q 3)) (ic_t (q 4)) (ic_t (q 5)) (ic_t (q 6)) (ic_t (q 7)) (ic_t (q 8)) (ic_t (q 9)) (ic_t (q 10)) (ic_t (q 11)) (ic_t (q 12)) (ic_t (q 13)) (ic_t (q 14)) (ic_t (q 15)) (ic_t (q 16)) (ic_t (q 17)) (ic_t (q 18)) (ic_t (q 19)) (ic_t (q 20)) (ic_t (q 21)) (d + 1) (nI (j + 1)) := fun h =>
      ih (j + 1) (by omega) (fun z => hn (by rw [ic_ff_f h]; exact z)) (fun s z => hs s (by rw [ic_ff_f h]; exact z))
    by_cases h32 : 32 ≤ p 25 3 + j
    · obtain ⟨g1, g2, g3, g4⟩ := ic_plc hj32 h32
      have F : pr ((p 25 3 + j) % 32) = true → post 1 := fun h => hs _ (ic_ff_t h)
      refine nm_r (ic_tt' eT h32) (ic_Y_validT (q := q) eT hT g3 g4 (br_f (by decide) (nm_r (ic_t31 hT hj32 h32) ?_)))
      have hs32 : (p 25 3 + j) % 32 < 32 := by omega
      have hL := hI _ hs32
      have hM := hl.1 _ hs32 g1
      have hP := hpr _ hs32 g1
      generalize (p 25 3 + j) % 32 = s at *
      unfold ic_L at hL
      unfold ic_M at hM
      have e3 : q 3 s = p 3 s := hM.1.2.2.2.1
      have hi32 : vp_in (nI s) 32 := vp_in_nI hs32 (by decide)
      have N : ¬ (p 0 s = 1 ∧ p 1 s = m * 2 + (1 - k) ∧ p 2 s = i ∧ p 3 s / 8 ≠ b) → wY_conflict_3 post (nI m) (nI k) (nI i) (nI b) (nI (q 22 0)) (nI (q 22 1)) (nI (q 22 2)) (nI (q 22 3)) (nI (q 22 4)) (ic_t (q 0)) (ic_t (q 1)) (ic_t (q 2)) (ic_t (q 3)) (ic_t (q 4)) (ic_t (q 5)) (ic_t (q 6)) (ic_t (q 7)) (ic_t (q 8)) (ic_t (q 9)) (ic_t (q 10)) (ic_t (q 11)) (ic_t (q 12)) (ic_t (q 13)) (ic_t (q 14)) (ic_t (q 15)) (ic_t (q 16)) (ic_t (q 17)) (ic_t (q 18)) (ic_t (q 19)) (ic_t (q 20)) (ic_t (q 21)) (d + 1) (nI (j + 1)) := fun z => K (fun w => z (hP.mp w))
      refine And.intro hi32 (ek_if (ic_ce s 1 rfl rfl (by omega) (by omega) (by omega)) (fun a0 => ?_) (fun a => nm_r (nI_1 j) (N (by omega))))
      refine And.intro hi32 (ek_if (ic_ce s m rfl rfl (by omega) (by omega) (by omega)) (fun a => ?_) (fun a => nm_r (nI_1 j) (N (by omega))))
      refine And.intro hi32 (ek_if (ic_ce s k rfl rfl (by omega) (by omega) (by omega)) (fun a2 => ?_) (fun a => nm_r (nI_1 j) (N (by omega))))
      refine And.intro hi32 (ek_if (ic_ce s i rfl rfl (by omega) (by omega) (by omega)) (fun a3 => ?_) (fun a => nm_r (nI_1 j) (N (by omega))))
      refine And.intro hi32 (And.intro (by decide) ?_)
      refine pk_eq (q 3 s / 8) b (fun c => nm_r (nI_1 j) (N (by omega))) (fun c => F (hP.mpr (by omega))) ?_ rfl
      rw [ic_g s rfl (by omega)]
      exact pk_div (d := 8) (by omega) (by decide) (by decide)
    · have hu := (ic_pln hI h32).1
      exact nm_e (ic_Y_validN (q := q) (ic_tn' eT h32) (br_t rfl (nm_r (nI_1 j) (K (hun _ (by omega) hu)))))
theorem ic_Y_conflict {p q : Nat → Nat → Nat} {m k b : Nat} {post : Int32 → Prop} (hl : ic_Lnk p q) (hI : ic_J1 p) (hT : p 25 3 < 2 ^ 30) (hm : m < 2) (hk : k < 2) (hb : b < 32) (hH : p 1 b = m * 2 + (1 - k))
    (h0 : ic_els p b = none → post 0) (h1 : ic_els p b ≠ none → post 1) : wpY_conflict post (ic_Y q) (nI m) (nI k) (nI (p 2 b)) (nI (p 3 b / 8)) := by
  have hL := hI b hb
  unfold ic_L at hL
  unfold wpY_conflict
  refine ⟨33, ic_Y_cf (pr := ic_elp p b) hl hI hT hm hk (by omega) (by omega) (fun s h2 h3 => ?_) (fun s h2 h3 z => ?_) 32 0 rfl (fun z => ?_) (fun s z => ?_)⟩
  · unfold ic_elp
    rw [decide_eq_true_iff, hH]
  · have := (of_decide_eq_true z).1
    omega
  · exact h0 (ic_ff_none.mpr (ic_ff_none.mp z))
  · refine h1 (fun w => ?_)
    rw [ic_ff_none.mpr (ic_ff_none.mp w)] at z
    cases z
theorem ic_Y_candidate {p q : Nat → Nat → Nat} {m k s : Nat} {post : Int32 → Prop} (hl : ic_Lnk p q) (hI : ic_Inv p) (hT : p 25 3 < 2 ^ 30) (hm : m < 2) (hk : k < 2) (hs : s < 4)
    (h1 : ic_can p m s (1 - k) = true → post 1) (h0 : ¬ ic_can p m s (1 - k) = true → post 0) : wpY_candidate post (ic_Y q) (nI m) (nI k) (nI s) := by
  have hl0 : q 22 0 = p 25 0 := hl.2.2.2.2.2.2 0 (by decide)
  have hl1 : q 22 1 = p 25 1 := hl.2.2.2.2.2.2 1 (by decide)
  have hlim := hI.2.2.2.2.2.2.2.2
  unfold wpY_candidate
  refine ic_Y_queueHead hl hI hT hm hk (fun a => br_f (by decide) (h0 (fun z => (ic_can_ps z).1 a))) (fun t a g ht et => ?_)
  obtain ⟨g1, g2, g3, _⟩ := ic_hd_ps hI.2.2.1 (c := m * 2 + (1 - k)) (by omega) a
  have hL := hI.1 _ g1
  have hM := hl.1 _ g1 g
  unfold ic_L at hL
  unfold ic_M at hM
  have e3 : q 3 (ic_hd p (m * 2 + (1 - k))) = p 3 (ic_hd p (m * 2 + (1 - k))) := hM.1.2.2.2.1
  have e2 : q 2 (ic_hd p (m * 2 + (1 - k))) = p 2 (ic_hd p (m * 2 + (1 - k))) := hM.1.2.2.1
  have b1 : p 20 m ≤ 32 := by rw [hI.2.1.1 m hm]; exact ic_cn_le _ 32
  have b2 : p 21 s ≤ 32 := by rw [hI.2.1.2 s hs]; exact ic_cn_le _ 32
  have hi32 : vp_in (nI (ic_hd p (m * 2 + (1 - k)))) 32 := vp_in_nI g1 (by decide)
  refine br_t (nI_pos' (by omega)) (nm_r (by rw [ic_sl (by omega), et]) (And.intro hi32 (And.intro (by decide) ?_)))
  refine pk_eq (p 3 (ic_hd p (m * 2 + (1 - k))) / 8) s (fun b => ?_) (fun b => h0 (fun z => b (ic_can_ps z).2.1)) ?_ rfl
  · refine ic_Y_cntM hl hI hT hm ?_
    refine pk_lt (p 20 m) (p 25 0) (fun c => ?_) (fun c => h0 (fun z => ?_)) rfl (by rw [hl0])
    · refine ic_Y_cntS hl hI hT hs ?_
      refine pk_lt (p 21 s) (p 25 1) (fun d => And.intro hi32 ?_) (fun d => h0 (fun z => ?_)) rfl (by rw [hl1])
      · rw [ic_g _ rfl (by omega), e2, ← b]
        refine ic_Y_conflict hl hI.1 hT hm hk g1 g3 (fun e => br_t rfl (h1 (decide_eq_true ⟨a, b, c, d, e⟩))) (fun e => br_f (by decide) (h0 (fun z => e (ic_can_ps z).2.2.2.2)))
      · have := (ic_can_ps z).2.2.2.1
        omega
    · have := (ic_can_ps z).2.2.1
      omega
  · rw [ic_g _ rfl (by omega), e3]
    exact pk_div (d := 8) (by omega) (by decide) (by decide)
