/-! the class: its public methods -/
theorem ic_ge {v : Int32} {n : Nat} (hn : n + 1 < 2 ^ 31) (h : nI (n + 1) ≤ v) : ¬ v < 0 ∧ nI n < v ∧ ¬ v ≤ nI n ∧ ¬ v < nI (n + 1) := by
  rw [Int32.le_iff_toInt_le, nI_toInt hn] at h
  rw [Int32.lt_iff_toInt_lt, Int32.lt_iff_toInt_lt, Int32.le_iff_toInt_le, Int32.lt_iff_toInt_lt, nI_toInt hn, nI_toInt (by omega : n < 2 ^ 31)]
  have h0 : (0 : Int32).toInt = 0 := by decide
  omega
def ic_ok (v1 v2 v3 v4 : Int32) : Prop := ∃ m i a l : Nat, m < 2 ∧ i < 4 ∧ a < 32 ∧ 1 ≤ l ∧ l ≤ 4 ∧ a % 8 + l ≤ 8 ∧ v1 = nI m ∧ v2 = nI i ∧ v3 = nI a ∧ v4 = nI l
theorem ic_ix {v : Int32} {n : Nat} (hn : n < 2 ^ 31) (h0 : ¬ v < 0) (h1 : ¬ nI n ≤ v) : ∃ j, j < n ∧ v = nI j := by
  rcases pk_ix v hn with h | h | h
  · exact absurd h h0
  · exact absurd h h1
  · exact h
theorem ic_ix1 {v : Int32} {n : Nat} (hn : n < 2 ^ 31) (h0 : ¬ v < 1) (h1 : ¬ nI n < v) : ∃ j, 1 ≤ j ∧ j ≤ n ∧ v = nI j := by
  have h2 : ¬ v < 0 := fun z => h0 (by
    rw [Int32.lt_iff_toInt_lt] at z ⊢
    have e0 : (0 : Int32).toInt = 0 := by decide
    have e1 : (1 : Int32).toInt = 1 := by decide
    omega)
  obtain ⟨j, hj, e⟩ := nI_of h2
  subst e
  refine ⟨j, ?_, ?_, rfl⟩
  · rcases Nat.lt_or_ge j 1 with z | z
    · exact absurd (show nI j < nI 1 from nI_lt z (by decide)) h0
    · exact z
  · rcases Nat.lt_or_ge n j with z | z
    · exact absurd (nI_lt z hj) h1
    · exact z
theorem ic_X_mgr {m : Nat} {post : Int32 → Prop} (hm : m < 2) (h : post 1) : wpX_isManager post () (nI m) := by
  unfold wpX_isManager
  exact br_f (nI_pos (by omega)) (pk_le 2 m (fun z => by omega) (fun _ => h))
theorem ic_X_mgrF {v : Int32} {post : Int32 → Prop} (hv : ¬ ∃ m, m < 2 ∧ v = nI m) (h : post 0) : wpX_isManager post () v := by
  unfold wpX_isManager
  exact br_c (fun _ => h) (fun a => br_c (fun _ => h) (fun b => absurd (ic_ix (n := 2) (by decide) a b) hv))
theorem ic_X_burst {i a l : Nat} {post : Int32 → Prop} (hi : i < 4) (ha : a < 32) (h1 : 1 ≤ l) (h4 : l ≤ 4) (h8 : a % 8 + l ≤ 8) (h : post 1) : wpX_isBurst post () (nI i) (nI a) (nI l) := by
  unfold wpX_isBurst
  refine br_f (nI_pos (by omega)) (pk_le 4 i (fun z => by omega) (fun _ => br_f (nI_pos (by omega)) (pk_le 32 a (fun z => by omega) (fun _ => pk_lt l 1 (fun z => by omega) (fun _ => pk_lt 4 l (fun z => by omega) (fun _ => And.intro (by decide) ?_))))))
  exact pk_lt 8 (a % 8 + l) (fun z => by omega) (fun _ => h) rfl (by rw [show nI a - nI a / 8 * 8 = nI (a % 8) from ic_r a 8 rfl (by omega) (by decide) (by decide), nI_add])
theorem ic_X_burstF {v2 v3 v4 : Int32} {post : Int32 → Prop} (hv : ¬ ∃ i a l : Nat, i < 4 ∧ a < 32 ∧ 1 ≤ l ∧ l ≤ 4 ∧ a % 8 + l ≤ 8 ∧ v2 = nI i ∧ v3 = nI a ∧ v4 = nI l) (h : post 0) : wpX_isBurst post () v2 v3 v4 := by
  unfold wpX_isBurst
  refine br_c (fun _ => h) (fun b1 => br_c (fun _ => h) (fun b2 => br_c (fun _ => h) (fun b3 => br_c (fun _ => h) (fun b4 => br_c (fun _ => h) (fun b5 => br_c (fun _ => h) (fun b6 => And.intro (by decide) (br_c (fun _ => h) (fun b7 => ?_))))))))
  obtain ⟨i, hi, ei⟩ := ic_ix (n := 4) (by decide) b1 b2
  obtain ⟨a, ha, ea⟩ := ic_ix (n := 32) (by decide) b3 b4
  obtain ⟨l, h1, h4, el⟩ := ic_ix1 (n := 4) (by decide) b5 b6
  subst ei ea el
  have e : nI a - nI a / 8 * 8 + nI l = nI (a % 8 + l) := by rw [show nI a - nI a / 8 * 8 = nI (a % 8) from ic_r a 8 rfl (by omega) (by decide) (by decide), nI_add]
  rw [e] at b7
  refine absurd ⟨i, a, l, hi, ha, h1, h4, ?_, rfl, rfl, rfl⟩ hv
  rcases Nat.lt_or_ge 8 (a % 8 + l) with z | z
  · exact absurd (show nI 8 < nI (a % 8 + l) from nI_lt z (by omega)) b7
  · exact z
theorem ic_X_issueF {p : Nat → Nat → Nat} {k v1 v2 v3 v4 : Int32} {post : Int32 → St2 → Prop} (hv : ¬ ic_ok v1 v2 v3 v4) (h : post (-1) (ic_X p)) : wpX_issue post (ic_X p) k v1 v2 v3 v4 := by
  unfold wpX_issue
  by_cases hm : ∃ m, m < 2 ∧ v1 = nI m
  · obtain ⟨m, hm, e⟩ := hm
    subst e
    refine ic_X_mgr hm (br_f (by decide) ?_)
    refine ic_X_burstF ?_ (br_t rfl h)
    intro ⟨i, a, l, h1, h2, h3, h4, h5, h6, h7, h8⟩
    exact hv ⟨m, i, a, l, hm, h1, h2, h3, h4, h5, rfl, h6, h7, h8⟩
  · exact ic_X_mgrF hm (br_t rfl h)
theorem ic_X_enqueue {p : Nat → Nat → Nat} {c s : Nat} {post : St2 → Prop} (hc : c < 4) (h12 : p 12 c < 4) (h13 : p 13 c ≤ 4) (h : post (ic_X (ic_pu (ic_pu p 11 (c * 4 + (p 12 c + p 13 c) % 4) s) 13 c (p 13 c + 1)))) : wpX_enqueue post (ic_X p) (nI c) (nI s) := by
  have hi : vp_in (nI c) 4 := vp_in_nI hc (by decide)
  have e : nI c * 4 + nI ((p 12 c + p 13 c) % 4) = nI (c * 4 + (p 12 c + p 13 c) % 4) := ic_ma c 4 _
  unfold wpX_enqueue
  refine And.intro hi (And.intro hi (And.intro (by decide) (nm_r (ic_r (p 12 c + p 13 c) 4 (by rw [ic_g c rfl (by omega), ic_g c rfl (by omega), nI_add]) (by omega) (by decide) (by decide)) ?_)))
  refine And.intro (pk_in (c * 4 + (p 12 c + p 13 c) % 4) 16 (by omega) e) (nm_r (ic_p _ s e (by omega) rfl) (And.intro hi (And.intro hi (nm_r (ic_p c (p 13 c + 1) rfl (by omega) (ic_inc c rfl (by omega))) ?_))))
  exact h
theorem ic_X_issue {p : Nat → Nat → Nat} {k m i a l : Nat} {post : Int32 → St2 → Prop} (hI : ic_Inv p) (hT : p 25 3 < 2 ^ 30) (hk : k < 2) (hm : m < 2) (hi : i < 4) (ha : a < 32) (h1 : 1 ≤ l) (h4 : l ≤ 4) (h8 : a % 8 + l ≤ 8)
    (hf : p 13 (m * 2 + k) = 4 → post (-2) (ic_X p)) (hs : p 13 (m * 2 + k) ≠ 4 → p 0 (p 25 3 % 32) ≤ 1 → post (-3) (ic_X p)) (hg : p 13 (m * 2 + k) ≠ 4 → 2 ≤ p 0 (p 25 3 % 32) → post (nI (p 25 3)) (ic_X (ic_iss p (m * 2 + k) i a l))) :
    wpX_issue post (ic_X p) (nI k) (nI m) (nI i) (nI a) (nI l) := by
  obtain ⟨K, q1, q2, _⟩ := hI.2.2.1 (m * 2 + k) (by omega)
  have hL := hI.1 (p 25 3 % 32) (by omega)
  unfold ic_L at hL
  unfold wpX_issue
  refine ic_X_mgr hm (br_f (by decide) (ic_X_burst hi ha h1 h4 h8 (br_f (by decide) (nm_r (ic_ma m 2 k) (And.intro (vp_in_nI (by omega) (by decide)) ?_)))))
  refine ek_if (ic_ce (m * 2 + k) 4 rfl rfl (by omega) (by omega) (by decide)) hf (fun b => ?_)
  refine ic_X_slotOf (p 25 3) rfl (by omega) ?_
  have hi32 : vp_in (nI (p 25 3 % 32)) 32 := vp_in_nI (by omega) (by decide)
  refine ic_X_isPending (p := p) (by omega) (by omega) (fun c => br_f (by decide) (hs b c)) (fun c => br_t rfl ?_)
  have h := hg b (by omega)
  rw [← lN_i] at h
  refine And.intro hi32 (nm_r (ic_ps (p 25 3 % 32) 0 rfl (by omega) (by decide) rfl) ?_)
  refine And.intro hi32 (nm_r (ic_p (p 25 3 % 32) (m * 2 + k) rfl (by omega) rfl) ?_)
  refine And.intro hi32 (nm_r (ic_p (p 25 3 % 32) i rfl (by omega) rfl) ?_)
  refine And.intro hi32 (nm_r (ic_p (p 25 3 % 32) a rfl (by omega) rfl) ?_)
  refine And.intro (by decide) (And.intro hi32 (nm_r (ic_p8 (p 25 3 % 32) a rfl (by omega) (pk_div (d := 8) (by omega) (by decide) (by decide))) ?_))
  refine And.intro hi32 (nm_r (ic_p (p 25 3 % 32) l rfl (by omega) rfl) ?_)
  refine And.intro hi32 (nm_r (ic_p (p 25 3 % 32) 0 rfl (by omega) rfl) ?_)
  refine ic_X_enqueue (p := ic_pu (ic_pu (ic_pu (ic_pu (ic_pu (ic_pu p 0 (p 25 3 % 32) 0) 1 (p 25 3 % 32) (m * 2 + k)) 2 (p 25 3 % 32) i) 3 (p 25 3 % 32) a) 4 (p 25 3 % 32) l) 5 (p 25 3 % 32) 0) (by omega) q1 q2 ?_
  refine nm_r (lN_1 _) ?_
  exact h
theorem ic_X_valid {p : Nat → Nat → Nat} {v : Int32} {post : Int32 → Prop} (hT : p 25 3 < 2 ^ 30) (h1 : ∀ t, t < p 25 3 → p 25 3 ≤ t + 32 → v = nI t → post 1) (h0 : (¬ ∃ t, t < p 25 3 ∧ p 25 3 ≤ t + 32 ∧ v = nI t) → post 0) : wpX_isValid post (ic_X p) v := by
  unfold wpX_isValid
  refine br_c (fun a => h0 ?_) (fun a => ?_)
  · intro ⟨t, h2, h3, e⟩
    subst e
    exact nI_pos (by omega) a
  · obtain ⟨t, ht, e⟩ := nI_of a
    subst e
    have el : (nI t).toInt64 = lN t := nI_l ht
    have inj : ∀ t', t' < p 25 3 → nI t = nI t' → t = t' := fun t' h2 e => (nI_eq ht (by omega)).mp e
    refine ek_if (d := p 25 3 ≤ t) (by rw [el]; exact pk_lLE (by omega) (by omega)) (fun b => h0 ?_) (fun b => ?_)
    · intro ⟨t', h2, h3, e⟩
      have := inj t' h2 e
      omega
    · refine ek_if (d := t + 32 < p 25 3) ?_ (fun c => h0 ?_) (fun c => h1 t (by omega) (by omega) rfl)
      · have := @ic_loL (p 25 3) t hT ht
        rw [← Int64.not_le, show (lN (p 25 3) - 32 ≤ (nI t).toInt64) ↔ _ from this]
        omega
      · intro ⟨t', h2, h3, e⟩
        have := inj t' h2 e
        omega
