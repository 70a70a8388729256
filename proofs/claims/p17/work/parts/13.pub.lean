/-! the class's public methods at numbers that the law gives them; the beginning -/
theorem ic_nb0 : vp_nar .boolean 0 = nI 0 := by rfl
theorem ic_nb1 : vp_nar .boolean 1 = nI 1 := by rfl
theorem ic_nbx {x : Nat} (hx : x ≤ 1) : vp_nar .boolean (nI x) = nI x := by
  rcases (by omega : x = 0 ∨ x = 1) with e | e
  · subst e; exact ic_nb0
  · subst e; exact ic_nb1
theorem ic_X_writeData {p : Nat → Nat → Nat} {m x : Nat} {post : Int32 → St2 → Prop} (hI : ic_Inv p) (hm : m < 2) (h0 : p 16 m = 8 → post 0 (ic_X p)) (h1 : p 16 m ≠ 8 → post 1 (ic_X (ic_wd p m x))) : wpX_writeData post (ic_X p) (nI m) (nI x) := by
  have h4 := hI.2.2.2.1 m hm
  have hi2 : vp_in (nI m) 2 := vp_in_nI hm (by decide)
  have e : nI m * 8 + nI ((p 15 m + p 16 m) % 8) = nI (m * 8 + (p 15 m + p 16 m) % 8) := ic_ma m 8 _
  unfold wpX_writeData
  refine ic_X_mgr hm (br_f (by decide) (And.intro hi2 (ek_if (ic_ce m 8 rfl rfl (by omega) (by omega) (by decide)) (fun a => h0 a) (fun a => ?_))))
  have h := h1 a
  refine And.intro hi2 (And.intro hi2 (And.intro (by decide) (nm_r (ic_r (p 15 m + p 16 m) 8 (by rw [ic_g m rfl (by omega), ic_g m rfl (by omega), nI_add]) (by omega) (by decide) (by decide)) (And.intro (pk_in _ 16 (by omega) e) (nm_r (ic_p _ x e (by omega) rfl) (And.intro hi2 (And.intro hi2 (nm_r (ic_p m (p 16 m + 1) rfl (by omega) (ic_inc m rfl (by omega))) ?_))))))))
  exact h
theorem ic_X_setLatency {p : Nat → Nat → Nat} {s j x : Nat} {post : Int32 → St2 → Prop} (hs : s < 3) (hj : j < 4) (h1 : 1 ≤ x) (h15 : x ≤ 15) (h : post 1 (ic_X (ic_pu p 18 (s * 4 + j) x))) : wpX_setLatency post (ic_X p) (nI s) (nI j) (nI x) := by
  have e4 : nI s * 4 + nI j = nI (s * 4 + j) := ic_ma s 4 j
  unfold wpX_setLatency
  refine br_f (nI_pos (by omega)) (pk_le 3 s (fun z => by omega) (fun _ => br_f (nI_pos (by omega)) (pk_lt j 4 (fun _ => pk_lt x 1 (fun z => by omega) (fun _ => pk_le x 15 (fun _ => ?_) (fun z => by omega))) (fun z => by omega))))
  refine And.intro (pk_in (s * 4 + j) 12 (by omega) e4) (nm_r (ic_p _ x e4 (by omega) rfl) ?_)
  exact h
theorem ic_X_setReady {p : Nat → Nat → Nat} {m x y : Nat} {post : Int32 → St2 → Prop} (hm : m < 2) (hx : x ≤ 1) (hy : y ≤ 1) (h : post 1 (ic_X (ic_pu (ic_pu p 23 (m * 2 + 1) x) 23 (m * 2) y))) : wpX_setReady post (ic_X p) (nI m) (nI x) (nI y) := by
  have e1 : nI m * 2 + 1 = nI (m * 2 + 1) := ic_ma m 2 1
  have e0 : nI m * 2 + 0 = nI (m * 2) := ic_ma m 2 0
  unfold wpX_setReady
  refine ic_X_mgr hm (br_f (by decide) (And.intro (pk_in (m * 2 + 1) 4 (by omega) e1) (nm_r (ic_p _ x e1 (by omega) (ic_nbx hx)) (And.intro (pk_in (m * 2) 4 (by omega) e0) (nm_r (ic_p _ y e0 (by omega) (ic_nbx hy)) ?_)))))
  exact h
theorem ic_X_step {p : Nat → Nat → Nat} {n : Nat} {post : Int32 → St2 → Prop} (hI : ic_Inv p) (hT : p 25 3 < 2 ^ 30) (hC : p 25 2 + n < 2 ^ 30) (h1 : 1 ≤ n) (h64 : n ≤ 64) (h : post 1 (ic_X (ic_run n p))) : wpX_step post (ic_X p) (nI n) := by
  unfold wpX_step
  exact pk_lt n 1 (fun z => by omega) (fun _ => pk_le n 64 (fun _ => ⟨n + 1, ic_X_st h64 n 0 p (by omega) hI hT hC h⟩) (fun z => by omega))
theorem ic_X_outstanding {p : Nat → Nat → Nat} {m : Nat} {post : Int32 → Prop} (hm : m < 2) (h : post (nI (p 20 m))) : wpX_outstanding post (ic_X p) (nI m) := by
  unfold wpX_outstanding
  refine ic_X_mgr hm (br_f (by decide) (And.intro (vp_in_nI hm (by decide)) ?_))
  exact ek_v (P := post) (ic_g m rfl (by omega)) h
theorem ic_X_subLoad {p : Nat → Nat → Nat} {s : Nat} {post : Int32 → Prop} (hs : s < 4) (h : post (nI (p 21 s))) : wpX_subLoad post (ic_X p) (nI s) := by
  unfold wpX_subLoad
  refine br_f (nI_pos (by omega)) (pk_le 4 s (fun z => by omega) (fun _ => And.intro (vp_in_nI hs (by decide)) ?_))
  exact ek_v (P := post) (ic_g s rfl (by omega)) h
theorem ic_X_status {p : Nat → Nat → Nat} {t : Nat} {post : Int32 → Prop} (hI : ic_Inv p) (hT : p 25 3 < 2 ^ 30) (h1 : t < p 25 3) (h2 : p 25 3 ≤ t + 32) (h : p 0 (t % 32) ≤ 3 → post (nI (p 0 (t % 32)))) : wpX_status post (ic_X p) (nI t) := by
  have hL := hI.1 (t % 32) (by omega)
  unfold ic_L at hL
  unfold wpX_status
  refine ic_X_valid (p := p) hT (fun _ _ _ _ => br_f (by decide) ?_) (fun z => absurd ⟨t, h1, h2, rfl⟩ z)
  refine ic_X_slotOf t (nI_l (by omega)) (by omega) (And.intro (vp_in_nI (by omega) (by decide)) ?_)
  refine ek_v (P := post) ((ic_gs (t % 32) rfl (by omega)).trans (ic_sv_n (by omega))) (h (by omega))
theorem ic_X_beats {p : Nat → Nat → Nat} {t : Nat} {post : Int32 → Prop} (hT : p 25 3 < 2 ^ 30) (h1 : t < p 25 3) (h2 : p 25 3 ≤ t + 32) (h : post (nI (p 5 (t % 32)))) : wpX_beats post (ic_X p) (nI t) := by
  unfold wpX_beats
  refine ic_X_valid (p := p) hT (fun _ _ _ _ => br_f (by decide) ?_) (fun z => absurd ⟨t, h1, h2, rfl⟩ z)
  refine ic_X_slotOf t (nI_l (by omega)) (by omega) (And.intro (vp_in_nI (by omega) (by decide)) ?_)
  exact ek_v (P := post) (ic_g (t % 32) rfl (by omega)) h
theorem ic_X_doneOrder {p : Nat → Nat → Nat} {t : Nat} {post : Int32 → Prop} (hI : ic_Inv p) (hT : p 25 3 < 2 ^ 30) (h1 : t < p 25 3) (h2 : p 25 3 ≤ t + 32) (hS : 2 ≤ p 0 (t % 32)) (h : post (nI (p 8 (t % 32)))) : wpX_doneOrder post (ic_X p) (nI t) := by
  have hL := hI.1 (t % 32) (by omega)
  unfold ic_L at hL
  unfold wpX_doneOrder
  refine ic_X_valid (p := p) hT (fun _ _ _ _ => br_f (by decide) ?_) (fun z => absurd ⟨t, h1, h2, rfl⟩ z)
  refine ic_X_slotOf t (nI_l (by omega)) (by omega) ?_
  refine ic_X_isPending (p := p) (by omega) (by omega) (fun z => by omega) (fun _ => br_t rfl (And.intro (vp_in_nI (by omega) (by decide)) ?_))
  exact ek_v (P := post) (ic_g (t % 32) rfl (by omega)) h
def ic_seg (n x : Nat) : Nat → Nat := fun j => if j < n then x else 0
theorem ic_seg_s (n x : Nat) : ic_u (ic_seg n x) n x = ic_seg (n + 1) x := by
  funext j
  by_cases e : j = n
  · subst e
    rw [ic_us]
    exact (if_pos (by omega)).symm
  · rw [ic_un e]
    show (if j < n then x else 0) = (if j < n + 1 then x else 0)
    by_cases c : j < n
    · rw [if_pos c, if_pos (by omega)]
    · rw [if_neg c, if_neg (by omega)]
theorem ic_seg_t {i : Nat} {v : Int32} (hi : i < 2 ^ 31) (hv : v = nI 1) : upd (ic_t (ic_seg i 1)) (nI i).toNatClampNeg v = ic_t (ic_seg (i + 1) 1) :=
  (ic_p i 1 rfl hi hv).trans (congrArg ic_t (ic_seg_s i 1))
theorem ic_seg_ts {i : Nat} (hi : i < 2 ^ 31) : upd (ic_ts (ic_seg i 4)) (nI i).toNatClampNeg (-1) = ic_ts (ic_seg (i + 1) 4) := by
  rw [nI_clamp hi, ← ic_seg_s i 4]
  funext j
  by_cases e : j = i
  · subst e; show upd (ic_ts (ic_seg j 4)) j (-1) j = ic_sv (ic_u (ic_seg j 4) j 4 j); rw [pk_us, ic_us]; rfl
  · show upd (ic_ts (ic_seg i 4)) i (-1) j = ic_sv (ic_u (ic_seg i 4) i 4 j); rw [pk_un e, ic_un e]; rfl
def ic_pz (a b d l c : Nat) : Nat → Nat → Nat := fun f => if f = 0 then ic_seg a 4 else if f = 18 then ic_seg b 1 else if f = 23 then ic_seg d 1 else if f = 25 then (fun j => if j = 0 then l else if j = 1 then c else 0) else fun _ => 0
theorem ic_X_i282 {l c mc ms kc ks : Nat} {post : St2 → Prop} (h : post (ic_X (ic_p0 l c))) : ∀ d i : Nat, i + d = 4 → wX_init_282 post mc ms kc ks (nI ((ic_pz 32 12 i l c) 25 0)) (nI ((ic_pz 32 12 i l c) 25 1)) (lN ((ic_pz 32 12 i l c) 25 2)) (lN ((ic_pz 32 12 i l c) 25 3)) (nI ((ic_pz 32 12 i l c) 25 4)) (d + 1) (nI i) (ic_ts ((ic_pz 32 12 i l c) 0)) (ic_t ((ic_pz 32 12 i l c) 1)) (ic_t ((ic_pz 32 12 i l c) 2)) (ic_t ((ic_pz 32 12 i l c) 3)) (ic_t8 ((ic_pz 32 12 i l c) 3)) (ic_t ((ic_pz 32 12 i l c) 4)) (ic_t ((ic_pz 32 12 i l c) 5)) (ic_t ((ic_pz 32 12 i l c) 6)) (ic_tL ((ic_pz 32 12 i l c) 7)) (ic_t ((ic_pz 32 12 i l c) 8)) (ic_t ((ic_pz 32 12 i l c) 9)) (ic_t ((ic_pz 32 12 i l c) 10)) (ic_t ((ic_pz 32 12 i l c) 11)) (ic_t ((ic_pz 32 12 i l c) 12)) (ic_t ((ic_pz 32 12 i l c) 13)) (ic_t ((ic_pz 32 12 i l c) 14)) (ic_t ((ic_pz 32 12 i l c) 15)) (ic_t ((ic_pz 32 12 i l c) 16)) (ic_t ((ic_pz 32 12 i l c) 17)) (ic_t ((ic_pz 32 12 i l c) 18)) (ic_t ((ic_pz 32 12 i l c) 19)) (ic_t ((ic_pz 32 12 i l c) 20)) (ic_t ((ic_pz 32 12 i l c) 21)) (ic_t ((ic_pz 32 12 i l c) 22)) (ic_t ((ic_pz 32 12 i l c) 23)) (ic_t ((ic_pz 32 12 i l c) 24)) := by
  intro d
  induction d with
  | zero =>
    intro i e
    have e2 : i = 4 := by omega
    subst e2
    exact pk_le 4 4 (fun _ => h) (fun z => by omega)
  | succ d ih =>
    intro i e
    exact pk_le 4 i (fun z => by omega) (fun _ => And.intro (vp_in_nI (by omega) (by decide)) (nm_r (ic_seg_t (by omega) rfl) (nm_r (nI_1 i) (ih (i + 1) (by omega)))))
theorem ic_X_i261 {l c mc ms kc ks : Nat} {post : St2 → Prop} (h : post (ic_X (ic_p0 l c))) : ∀ d i : Nat, i + d = 12 → wX_init_261 post mc ms kc ks (nI ((ic_pz 32 i 0 l c) 25 0)) (nI ((ic_pz 32 i 0 l c) 25 1)) (lN ((ic_pz 32 i 0 l c) 25 2)) (lN ((ic_pz 32 i 0 l c) 25 3)) (nI ((ic_pz 32 i 0 l c) 25 4)) (d + 1) (nI i) (ic_ts ((ic_pz 32 i 0 l c) 0)) (ic_t ((ic_pz 32 i 0 l c) 1)) (ic_t ((ic_pz 32 i 0 l c) 2)) (ic_t ((ic_pz 32 i 0 l c) 3)) (ic_t8 ((ic_pz 32 i 0 l c) 3)) (ic_t ((ic_pz 32 i 0 l c) 4)) (ic_t ((ic_pz 32 i 0 l c) 5)) (ic_t ((ic_pz 32 i 0 l c) 6)) (ic_tL ((ic_pz 32 i 0 l c) 7)) (ic_t ((ic_pz 32 i 0 l c) 8)) (ic_t ((ic_pz 32 i 0 l c) 9)) (ic_t ((ic_pz 32 i 0 l c) 10)) (ic_t ((ic_pz 32 i 0 l c) 11)) (ic_t ((ic_pz 32 i 0 l c) 12)) (ic_t ((ic_pz 32 i 0 l c) 13)) (ic_t ((ic_pz 32 i 0 l c) 14)) (ic_t ((ic_pz 32 i 0 l c) 15)) (ic_t ((ic_pz 32 i 0 l c) 16)) (ic_t ((ic_pz 32 i 0 l c) 17)) (ic_t ((ic_pz 32 i 0 l c) 18)) (ic_t ((ic_pz 32 i 0 l c) 19)) (ic_t ((ic_pz 32 i 0 l c) 20)) (ic_t ((ic_pz 32 i 0 l c) 21)) (ic_t ((ic_pz 32 i 0 l c) 22)) (ic_t ((ic_pz 32 i 0 l c) 23)) (ic_t ((ic_pz 32 i 0 l c) 24)) := by
  intro d
  induction d with
  | zero =>
    intro i e
    have e2 : i = 12 := by omega
    subst e2
    exact pk_le 12 12 (fun _ => ⟨5, ic_X_i282 h 4 0 rfl⟩) (fun z => by omega)
  | succ d ih =>
    intro i e
    exact pk_le 12 i (fun z => by omega) (fun _ => And.intro (vp_in_nI (by omega) (by decide)) (nm_r (ic_seg_t (by omega) rfl) (nm_r (nI_1 i) (ih (i + 1) (by omega)))))
theorem ic_X_i240 {l c mc ms kc ks : Nat} {post : St2 → Prop} (h : post (ic_X (ic_p0 l c))) : ∀ d i : Nat, i + d = 32 → wX_init_240 post mc ms kc ks (nI ((ic_pz i 0 0 l c) 25 0)) (nI ((ic_pz i 0 0 l c) 25 1)) (lN ((ic_pz i 0 0 l c) 25 2)) (lN ((ic_pz i 0 0 l c) 25 3)) (nI ((ic_pz i 0 0 l c) 25 4)) (d + 1) (nI i) (ic_ts ((ic_pz i 0 0 l c) 0)) (ic_t ((ic_pz i 0 0 l c) 1)) (ic_t ((ic_pz i 0 0 l c) 2)) (ic_t ((ic_pz i 0 0 l c) 3)) (ic_t8 ((ic_pz i 0 0 l c) 3)) (ic_t ((ic_pz i 0 0 l c) 4)) (ic_t ((ic_pz i 0 0 l c) 5)) (ic_t ((ic_pz i 0 0 l c) 6)) (ic_tL ((ic_pz i 0 0 l c) 7)) (ic_t ((ic_pz i 0 0 l c) 8)) (ic_t ((ic_pz i 0 0 l c) 9)) (ic_t ((ic_pz i 0 0 l c) 10)) (ic_t ((ic_pz i 0 0 l c) 11)) (ic_t ((ic_pz i 0 0 l c) 12)) (ic_t ((ic_pz i 0 0 l c) 13)) (ic_t ((ic_pz i 0 0 l c) 14)) (ic_t ((ic_pz i 0 0 l c) 15)) (ic_t ((ic_pz i 0 0 l c) 16)) (ic_t ((ic_pz i 0 0 l c) 17)) (ic_t ((ic_pz i 0 0 l c) 18)) (ic_t ((ic_pz i 0 0 l c) 19)) (ic_t ((ic_pz i 0 0 l c) 20)) (ic_t ((ic_pz i 0 0 l c) 21)) (ic_t ((ic_pz i 0 0 l c) 22)) (ic_t ((ic_pz i 0 0 l c) 23)) (ic_t ((ic_pz i 0 0 l c) 24)) := by
  intro d
  induction d with
  | zero =>
    intro i e
    have e2 : i = 32 := by omega
    subst e2
    exact pk_le 32 32 (fun _ => ⟨13, ic_X_i261 h 12 0 rfl⟩) (fun z => by omega)
  | succ d ih =>
    intro i e
    exact pk_le 32 i (fun z => by omega) (fun _ => And.intro (vp_in_nI (by omega) (by decide)) (nm_r (ic_seg_ts (by omega)) (nm_r (nI_1 i) (ih (i + 1) (by omega)))))
theorem ic_X_init {l c : Nat} {post : St2 → Prop} {u : St1} (h1 : 1 ≤ l) (h8 : l ≤ 8) (hc1 : 1 ≤ c) (hc4 : c ≤ 4) (h : post (ic_X (ic_p0 l c))) : wpX_init post 26 586 u (nI l) (nI c) := by
  have L : ∀ P : Int32 → Prop, P (nI l) → wpX_clamp P () (nI l) 8 := fun P z => by
    unfold wpX_clamp
    exact pk_le 1 l (fun _ => pk_le l 8 (fun _ => z) (fun w => by omega)) (fun w => by omega)
  have C : ∀ P : Int32 → Prop, P (nI c) → wpX_clamp P () (nI c) 4 := fun P z => by
    unfold wpX_clamp
    exact pk_le 1 c (fun _ => pk_le c 4 (fun _ => z) (fun w => by omega)) (fun w => by omega)
  have r := ic_X_i240 (mc := 26) (ms := 586) (kc := 26) (ks := 586) h 32 0 rfl
  have z1 : ∀ x, ic_seg 0 x = fun _ => 0 := fun x => by funext j; exact if_neg (by omega)
  have e0 : ic_ts (ic_pz 0 0 0 l c 0) = fun _ => 0 := by
    show ic_ts (ic_seg 0 4) = _
    rw [z1]
    rfl
  have e8 : ic_t8 (ic_pz 0 0 0 l c 3) = fun _ => 0 := by
    funext j
    show nI (0 / 8) = 0
    rfl
  have eL : ic_tL (ic_pz 0 0 0 l c 7) = fun _ => 0 := by
    funext j
    show lN 0 = 0
    rfl
  have e18 : ic_t (ic_pz 0 0 0 l c 18) = fun _ => 0 := by
    show ic_t (ic_seg 0 1) = _
    rw [z1]
    rfl
  have e23 : ic_t (ic_pz 0 0 0 l c 23) = fun _ => 0 := by
    show ic_t (ic_seg 0 1) = _
    rw [z1]
    rfl
  rw [e0, e8, eL, e18, e23] at r
  unfold wpX_init
  refine ⟨by decide, by decide, by decide, by decide, by decide, by decide, by decide, by decide, by decide, by decide, by decide, by decide, by decide, by decide, by decide, by decide, by decide, by decide, by decide, by decide, by decide, by decide, by decide, by decide, by decide, by decide, by decide, by decide, by decide, by decide, by decide, by decide, by decide, by decide, by decide, by decide, by decide, by decide, by decide, by decide, by decide, by decide, by decide, by decide, by decide, by decide, by decide, by decide, by decide, by decide, by decide, by decide, ?_⟩
  exact L _ (C _ ⟨33, r⟩)
