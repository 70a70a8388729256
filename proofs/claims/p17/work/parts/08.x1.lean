/-! the class: its readers -/
def ic_X (p : Nat → Nat → Nat) : St2 := (nI (p 25 0), nI (p 25 1), lN (p 25 2), lN (p 25 3), nI (p 25 4), ic_ts (p 0), ic_t (p 1), ic_t (p 2), ic_t (p 3), ic_t8 (p 3), ic_t (p 4), ic_t (p 5), ic_t (p 6), ic_tL (p 7), ic_t (p 8), ic_t (p 9), ic_t (p 10), ic_t (p 11), ic_t (p 12), ic_t (p 13), ic_t (p 14), ic_t (p 15), ic_t (p 16), ic_t (p 17), ic_t (p 18), ic_t (p 19), ic_t (p 20), ic_t (p 21), ic_t (p 22), ic_t (p 23), ic_t (p 24))
theorem ic_X_slotOf {post : Int32 → Prop} {x : Int64} (n : Nat) (hx : x = lN n) (hn : n < 2 ^ 62) (h : post (nI (n % 32))) : wpX_slotOf post () x := by
  unfold wpX_slotOf
  rw [hx, ic_slL hn]
  exact h
theorem ic_X_isPending {p : Nat → Nat → Nat} {s : Nat} {post : Int32 → Prop} (hs : s < 32) (hS : p 0 s ≤ 4) (h1 : p 0 s ≤ 1 → post 1) (h0 : ¬ p 0 s ≤ 1 → post 0) : wpX_isPending post (ic_X p) (nI s) := by
  have hi : vp_in (nI s) 32 := vp_in_nI hs (by decide)
  unfold wpX_isPending ic_X
  dsimp only
  refine And.intro hi (ek_if (ic_cs s 0 rfl rfl (by omega) hS (by decide)) (fun a => h1 (by omega)) (fun a => ?_))
  exact And.intro hi (ek_if (ic_cs s 1 rfl rfl (by omega) hS (by decide)) (fun b => h1 (by omega)) (fun b => h0 (by omega)))
theorem ic_X_kindOf {p : Nat → Nat → Nat} {s : Nat} {post : Int32 → Prop} (hs : s < 32) (hH : p 1 s < 4) (h : post (nI (p 1 s % 2))) : wpX_kindOf post (ic_X p) (nI s) := by
  unfold wpX_kindOf ic_X
  dsimp only
  refine And.intro (vp_in_nI hs (by decide)) (And.intro (by decide) ?_)
  exact ek_v (P := post) (ic_r (p 1 s) 2 (ic_g s rfl (by omega)) (by omega) (by decide) (by decide)) h
theorem ic_X_managerOf {p : Nat → Nat → Nat} {s h : Nat} {post : Int32 → Prop} (hs : s < 32) (hh : p 1 s = h) (hH : h < 4) (hp : post (nI (h / 2))) : wpX_managerOf post (ic_X p) (nI s) := by
  unfold wpX_managerOf ic_X
  dsimp only
  refine And.intro (vp_in_nI hs (by decide)) (And.intro (by decide) ?_)
  rw [ic_g s rfl (by omega), hh, show (2 : Int32) = nI 2 from rfl, pk_div (by omega) (by decide) (by decide)]
  exact hp
theorem ic_X_op {p : Nat → Nat → Nat} {c i : Nat} {post : Int32 → Prop} (hI : ic_J1 p) (hT : p 25 3 < 2 ^ 30) (hc : c < 4) (hi : i < 4) : ∀ d j : Nat, j + d = 32 →
    (ic_ff (p 25 3) (ic_pen p c i) d j = none → post (-1)) → (∀ s, ic_ff (p 25 3) (ic_pen p c i) d j = some s → post (nI s)) →
    wX_oldestPending_2 post (nI c) (nI i) (nI (p 25 0)) (nI (p 25 1)) (lN (p 25 2)) (lN (p 25 3)) (nI (p 25 4)) (ic_ts (p 0)) (ic_t (p 1)) (ic_t (p 2)) (ic_t (p 3)) (ic_t8 (p 3)) (ic_t (p 4)) (ic_t (p 5)) (ic_t (p 6)) (ic_tL (p 7)) (ic_t (p 8)) (ic_t (p 9)) (ic_t (p 10)) (ic_t (p 11)) (ic_t (p 12)) (ic_t (p 13)) (ic_t (p 14)) (ic_t (p 15)) (ic_t (p 16)) (ic_t (p 17)) (ic_t (p 18)) (ic_t (p 19)) (ic_t (p 20)) (ic_t (p 21)) (ic_t (p 22)) (ic_t (p 23)) (ic_t (p 24)) (d + 1) (nI j) := by
  intro d
  induction d with
  | zero =>
    intro j hj hn _
    exact pk_le 32 j (fun _ => hn rfl) (fun h => by omega)
  | succ d ih =>
    intro j hj hn hs
    refine pk_le 32 j (fun h => by omega) (fun h => ?_)
    refine ic_X_slotOf (p 25 3 + j) (by rw [nI_l (by omega), lN_add]) (by omega) ?_
    have h32 : (p 25 3 + j) % 32 < 32 := by omega
    have hL := hI _ h32
    have K : ¬ ic_pen p c i ((p 25 3 + j) % 32) = true → wX_oldestPending_2 post (nI c) (nI i) (nI (p 25 0)) (nI (p 25 1)) (lN (p 25 2)) (lN (p 25 3)) (nI (p 25 4)) (ic_ts (p 0)) (ic_t (p 1)) (ic_t (p 2)) (ic_t (p 3)) (ic_t8 (p 3)) (ic_t (p 4)) (ic_t (p 5)) (ic_t (p 6)) (ic_tL (p 7)) (ic_t (p 8)) (ic_t (p 9)) (ic_t (p 10)) (ic_t (p 11)) (ic_t (p 12)) (ic_t (p 13)) (ic_t (p 14)) (ic_t (p 15)) (ic_t (p 16)) (ic_t (p 17)) (ic_t (p 18)) (ic_t (p 19)) (ic_t (p 20)) (ic_t (p 21)) (ic_t (p 22)) (ic_t (p 23)) (ic_t (p 24)) (d + 1) (nI (j + 1)) := fun h =>
      ih (j + 1) (by omega) (fun z => hn (by rw [ic_ff_f h]; exact z)) (fun s z => hs s (by rw [ic_ff_f h]; exact z))
    have F : ic_pen p c i ((p 25 3 + j) % 32) = true → post (nI ((p 25 3 + j) % 32)) := fun h => hs _ (ic_ff_t h)
    generalize (p 25 3 + j) % 32 = s at *
    unfold ic_L at hL
    have hi32 : vp_in (nI s) 32 := vp_in_nI h32 (by decide)
    refine And.intro hi32 (ek_if (ic_ce s c rfl rfl (by omega) (by omega) (by omega)) (fun a => ?_) (fun a => ?_))
    · refine And.intro hi32 (ek_if (ic_ce s i rfl rfl (by omega) (by omega) (by omega)) (fun b => ?_) (fun b => ?_))
      · refine ic_X_isPending (p := p) h32 (by omega) (fun e => ?_) (fun e => ?_)
        · exact br_f (by decide) (F (decide_eq_true ⟨a, b, e⟩))
        · exact br_t rfl (nm_r (nI_1 j) (K (fun z => e (of_decide_eq_true z).2.2)))
      · exact nm_r (nI_1 j) (K (fun z => b (of_decide_eq_true z).2.1))
    · exact nm_r (nI_1 j) (K (fun z => a (of_decide_eq_true z).1))
theorem ic_X_oldestPending {p : Nat → Nat → Nat} {c i : Nat} {post : Int32 → Prop} (hI : ic_J1 p) (hT : p 25 3 < 2 ^ 30) (hc : c < 4) (hi : i < 4)
    (hn : ic_old p c i = none → post (-1)) (hs : ∀ s, ic_old p c i = some s → post (nI s)) : wpX_oldestPending post (ic_X p) (nI c) (nI i) := by
  unfold wpX_oldestPending ic_X
  dsimp only
  exact ⟨33, ic_X_op hI hT hc hi 32 0 rfl hn hs⟩
theorem ic_X_isEligible {p : Nat → Nat → Nat} {s : Nat} {post : Int32 → Prop} (hI : ic_J1 p) (hC : p 25 2 < 2 ^ 30) (hs : s < 32) (h1 : ic_eli p s = true → post 1) (h0 : ¬ ic_eli p s = true → post 0) : wpX_isEligible post (ic_X p) (nI s) := by
  have hL := hI s hs
  unfold ic_L at hL
  have hi : vp_in (nI s) 32 := vp_in_nI hs (by decide)
  have e28 : ∀ z : Nat, z ≤ 1 → (z = 1 ↔ (p 1 s % 2 = 0 ∨ p 5 s = p 4 s)) → wX_isEligible_28 post (nI s) (nI z) (nI (p 25 0)) (nI (p 25 1)) (lN (p 25 2)) (lN (p 25 3)) (nI (p 25 4)) (ic_ts (p 0)) (ic_t (p 1)) (ic_t (p 2)) (ic_t (p 3)) (ic_t8 (p 3)) (ic_t (p 4)) (ic_t (p 5)) (ic_t (p 6)) (ic_tL (p 7)) (ic_t (p 8)) (ic_t (p 9)) (ic_t (p 10)) (ic_t (p 11)) (ic_t (p 12)) (ic_t (p 13)) (ic_t (p 14)) (ic_t (p 15)) (ic_t (p 16)) (ic_t (p 17)) (ic_t (p 18)) (ic_t (p 19)) (ic_t (p 20)) (ic_t (p 21)) (ic_t (p 22)) (ic_t (p 23)) (ic_t (p 24)) := by
    intro z hz ez
    unfold wX_isEligible_28
    refine And.intro hi (ek_if (ic_cs s 1 rfl rfl (by omega) (by omega) (by decide)) (fun a => ?_) (fun a => h0 (fun e => a (of_decide_eq_true e).1)))
    refine pk_eq z 0 (fun b => h0 (fun e => ?_)) (fun b => ?_)
    · have := ez.mpr (of_decide_eq_true e).2.1
      omega
    · refine And.intro hi ?_
      rw [ic_gL s rfl (by omega)]
      refine ek_if (pk_lLT (by omega) (by omega)) (fun e => h0 (fun g => ?_)) (fun e => h1 (decide_eq_true ⟨a, ez.mp (by omega), by omega⟩))
      have := (of_decide_eq_true g).2.2
      omega
  unfold wpX_isEligible
  refine ic_X_kindOf (p := p) hs (by omega) ?_
  refine pk_eq (p 1 s % 2) 0 (fun a => ?_) (fun a => ?_)
  · exact e28 1 (by omega) ⟨fun _ => Or.inl a, fun _ => rfl⟩
  · refine And.intro hi (And.intro hi ?_)
    refine ek_if (ic_ce s (p 4 s) rfl (ic_g s rfl (by omega)) (by omega) (by omega) (by omega)) (fun b => ?_) (fun b => ?_)
    · exact e28 1 (by omega) ⟨fun _ => Or.inr b, fun _ => rfl⟩
    · exact e28 0 (by omega) ⟨fun z => by omega, fun z => by omega⟩
theorem ic_X_chl {p : Nat → Nat → Nat} {c : Nat} {post : Int32 → Prop} (hI : ic_Inv p) (hT : p 25 3 < 2 ^ 30) (hC : p 25 2 < 2 ^ 30) (hc : c < 4) : ∀ d j : Nat, j + d = 4 →
    (ic_chl p c d j = none → post (-1)) → (∀ s, ic_chl p c d j = some s → post (nI s)) → wX_chosenSlot_13 post (nI c) (nI (p 25 0)) (nI (p 25 1)) (lN (p 25 2)) (lN (p 25 3)) (nI (p 25 4)) (ic_ts (p 0)) (ic_t (p 1)) (ic_t (p 2)) (ic_t (p 3)) (ic_t8 (p 3)) (ic_t (p 4)) (ic_t (p 5)) (ic_t (p 6)) (ic_tL (p 7)) (ic_t (p 8)) (ic_t (p 9)) (ic_t (p 10)) (ic_t (p 11)) (ic_t (p 12)) (ic_t (p 13)) (ic_t (p 14)) (ic_t (p 15)) (ic_t (p 16)) (ic_t (p 17)) (ic_t (p 18)) (ic_t (p 19)) (ic_t (p 20)) (ic_t (p 21)) (ic_t (p 22)) (ic_t (p 23)) (ic_t (p 24)) (d + 1) (nI j) := by
  intro d
  induction d with
  | zero =>
    intro j hj hn _
    exact pk_le 4 j (fun _ => hn rfl) (fun h => by omega)
  | succ d ih =>
    intro j hj hn hs
    have h22 := (hI.2.2.2.2.2.2.1 c hc).1
    refine pk_le 4 j (fun h => by omega) (fun h => And.intro (vp_in_nI hc (by decide)) (And.intro (by decide) ?_))
    refine nm_r (ic_r (p 22 c + j) 4 (by rw [ic_g c rfl (by omega), nI_add]) (by omega) (by decide) (by decide)) ?_
    have nx : (ic_chl p c (d + 1) j = ic_chl p c d (j + 1)) → wX_chosenSlot_13 post (nI c) (nI (p 25 0)) (nI (p 25 1)) (lN (p 25 2)) (lN (p 25 3)) (nI (p 25 4)) (ic_ts (p 0)) (ic_t (p 1)) (ic_t (p 2)) (ic_t (p 3)) (ic_t8 (p 3)) (ic_t (p 4)) (ic_t (p 5)) (ic_t (p 6)) (ic_tL (p 7)) (ic_t (p 8)) (ic_t (p 9)) (ic_t (p 10)) (ic_t (p 11)) (ic_t (p 12)) (ic_t (p 13)) (ic_t (p 14)) (ic_t (p 15)) (ic_t (p 16)) (ic_t (p 17)) (ic_t (p 18)) (ic_t (p 19)) (ic_t (p 20)) (ic_t (p 21)) (ic_t (p 22)) (ic_t (p 23)) (ic_t (p 24)) (d + 1) (nI (j + 1)) := fun e =>
      ih (j + 1) (by omega) (fun z => hn (by rw [e]; exact z)) (fun s z => hs s (by rw [e]; exact z))
    refine ic_X_oldestPending (p := p) hI.1 hT hc (by omega) (fun ho => ?_) (fun s ho => ?_)
    · refine br_t rfl (nm_r (nI_1 j) (nx ?_))
      show (match ic_old p c ((p 22 c + j) % 4) with | none => ic_chl p c d (j + 1) | some s => if ic_eli p s = true then some s else ic_chl p c d (j + 1)) = _
      rw [ho]
    · have h32 := (ic_ff_ps ho).1
      have ec : ic_chl p c (d + 1) j = if ic_eli p s = true then some s else ic_chl p c d (j + 1) := by
        show (match ic_old p c ((p 22 c + j) % 4) with | none => ic_chl p c d (j + 1) | some s => if ic_eli p s = true then some s else ic_chl p c d (j + 1)) = _
        rw [ho]
      refine br_f (ic_nm1 (by omega)) ?_
      refine ic_X_isEligible (p := p) hI.1 hC h32 (fun e => ?_) (fun e => ?_)
      · exact br_f (by decide) (hs s (by rw [ec, if_pos e]))
      · exact br_t rfl (nm_r (nI_1 j) (nx (by rw [ec, if_neg e])))
theorem ic_X_chosenSlot {p : Nat → Nat → Nat} {c : Nat} {post : Int32 → Prop} (hI : ic_Inv p) (hT : p 25 3 < 2 ^ 30) (hC : p 25 2 < 2 ^ 30) (hc : c < 4)
    (hn : ic_cho p c = none → post (-1)) (hs : ∀ s, ic_cho p c = some s → post (nI s)) : wpX_chosenSlot post (ic_X p) (nI c) := by
  have h23 := (hI.2.2.2.2.2.2.1 c hc).2
  unfold wpX_chosenSlot ic_X
  dsimp only
  refine And.intro (vp_in_nI hc (by decide)) (ek_if (ic_ce c 0 rfl rfl (by omega) (by omega) (by decide)) (fun a => hn ?_) (fun a => ?_))
  · unfold ic_cho; rw [if_pos a]
  · have e : ic_cho p c = ic_chl p c 4 0 := by unfold ic_cho; rw [if_neg a]
    exact ⟨5, ic_X_chl hI hT hC hc 4 0 rfl (fun z => hn (by rw [e]; exact z)) (fun s z => hs s (by rw [e]; exact z))⟩
