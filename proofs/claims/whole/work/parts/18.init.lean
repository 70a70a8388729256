/-! the beginnings -/
def ic_seg (n x : Nat) : Nat → Nat := fun j => if j < n then x else 0
theorem ic_seg_s (n x : Nat) : ic_u (ic_seg n x) n x = ic_seg (n + 1) x := by
  funext j
  by_cases e : j = n
  · subst e
    rw [ic_us]
    exact (if_pos (by omega)).symm
  · rw [ic_un e]
    show (if j < n then x else 0) = (if j < n + 1 then x else 0)
    by_cases c : j < n
    · rw [if_pos c, if_pos (by omega)]
    · rw [if_neg c, if_neg (by omega)]
theorem ic_seg_t {i : Nat} {v : Int32} (hi : i < 2 ^ 31) (hv : v = nI 1) : upd (ic_t (ic_seg i 1)) (nI i).toNatClampNeg v = ic_t (ic_seg (i + 1) 1) :=
  (ic_p i 1 rfl hi hv).trans (congrArg ic_t (ic_seg_s i 1))
theorem ic_seg_ts {i : Nat} (hi : i < 2 ^ 31) : upd (ic_ts (ic_seg i 4)) (nI i).toNatClampNeg (-1) = ic_ts (ic_seg (i + 1) 4) := by
  rw [nI_clamp hi, ← ic_seg_s i 4]
  funext j
  by_cases e : j = i
  · subst e; show upd (ic_ts (ic_seg j 4)) j (-1) j = ic_sv (ic_u (ic_seg j 4) j 4 j); rw [pk_us, ic_us]; rfl
  · show upd (ic_ts (ic_seg i 4)) i (-1) j = ic_sv (ic_u (ic_seg i 4) i 4 j); rw [pk_un e, ic_un e]; rfl
theorem ic_nb (v : Int32) : vp_nar .boolean (lw_bz v) = lw_bz v := by
  unfold vp_nar
  rw [lw_bz_n]
theorem ic_nb1 : vp_nar .boolean 1 = nI 1 := ic_nb 1
def ic_pz (a b d l c : Nat) : Nat → Nat → Nat := fun f => if f = 0 then ic_seg a 4 else if f = 18 then ic_seg b 1 else if f = 23 then ic_seg d 1 else if f = 25 then (fun j => if j = 0 then l else if j = 1 then c else 0) else fun _ => 0
theorem ic_X_i282 {l c : Nat} {post : SX → Prop} (h : post (ic_X (ic_p0 l c))) : ∀ d i : Nat, i + d = 4 → wX_init_282 post (nI ((ic_pz 32 12 i l c) 25 0)) (nI ((ic_pz 32 12 i l c) 25 1)) (lN ((ic_pz 32 12 i l c) 25 2)) (lN ((ic_pz 32 12 i l c) 25 3)) (nI ((ic_pz 32 12 i l c) 25 4)) (d + 1) (nI i) (ic_ts ((ic_pz 32 12 i l c) 0)) (ic_t ((ic_pz 32 12 i l c) 1)) (ic_t ((ic_pz 32 12 i l c) 2)) (ic_t ((ic_pz 32 12 i l c) 3)) (ic_t8 ((ic_pz 32 12 i l c) 3)) (ic_t ((ic_pz 32 12 i l c) 4)) (ic_t ((ic_pz 32 12 i l c) 5)) (ic_t ((ic_pz 32 12 i l c) 6)) (ic_tL ((ic_pz 32 12 i l c) 7)) (ic_t ((ic_pz 32 12 i l c) 8)) (ic_t ((ic_pz 32 12 i l c) 9)) (ic_t ((ic_pz 32 12 i l c) 10)) (ic_t ((ic_pz 32 12 i l c) 11)) (ic_t ((ic_pz 32 12 i l c) 12)) (ic_t ((ic_pz 32 12 i l c) 13)) (ic_t ((ic_pz 32 12 i l c) 14)) (ic_t ((ic_pz 32 12 i l c) 15)) (ic_t ((ic_pz 32 12 i l c) 16)) (ic_t ((ic_pz 32 12 i l c) 17)) (ic_t ((ic_pz 32 12 i l c) 18)) (ic_t ((ic_pz 32 12 i l c) 19)) (ic_t ((ic_pz 32 12 i l c) 20)) (ic_t ((ic_pz 32 12 i l c) 21)) (ic_t ((ic_pz 32 12 i l c) 22)) (ic_t ((ic_pz 32 12 i l c) 23)) (ic_t ((ic_pz 32 12 i l c) 24)) := by
  intro d
  induction d with
  | zero =>
    intro i e
    have e2 : i = 4 := by omega
    subst e2
    exact pk_le 4 4 (fun _ => h) (fun z => by omega)
  | succ d ih =>
    intro i e
    exact pk_le 4 i (fun z => by omega) (fun _ => And.intro (vp_in_nI (by omega) (by decide)) (nm_r (ic_seg_t (by omega) ic_nb1) (nm_r (nI_1 i) (ih (i + 1) (by omega)))))
theorem ic_X_i261 {l c : Nat} {post : SX → Prop} (h : post (ic_X (ic_p0 l c))) : ∀ d i : Nat, i + d = 12 → wX_init_261 post (nI ((ic_pz 32 i 0 l c) 25 0)) (nI ((ic_pz 32 i 0 l c) 25 1)) (lN ((ic_pz 32 i 0 l c) 25 2)) (lN ((ic_pz 32 i 0 l c) 25 3)) (nI ((ic_pz 32 i 0 l c) 25 4)) (d + 1) (nI i) (ic_ts ((ic_pz 32 i 0 l c) 0)) (ic_t ((ic_pz 32 i 0 l c) 1)) (ic_t ((ic_pz 32 i 0 l c) 2)) (ic_t ((ic_pz 32 i 0 l c) 3)) (ic_t8 ((ic_pz 32 i 0 l c) 3)) (ic_t ((ic_pz 32 i 0 l c) 4)) (ic_t ((ic_pz 32 i 0 l c) 5)) (ic_t ((ic_pz 32 i 0 l c) 6)) (ic_tL ((ic_pz 32 i 0 l c) 7)) (ic_t ((ic_pz 32 i 0 l c) 8)) (ic_t ((ic_pz 32 i 0 l c) 9)) (ic_t ((ic_pz 32 i 0 l c) 10)) (ic_t ((ic_pz 32 i 0 l c) 11)) (ic_t ((ic_pz 32 i 0 l c) 12)) (ic_t ((ic_pz 32 i 0 l c) 13)) (ic_t ((ic_pz 32 i 0 l c) 14)) (ic_t ((ic_pz 32 i 0 l c) 15)) (ic_t ((ic_pz 32 i 0 l c) 16)) (ic_t ((ic_pz 32 i 0 l c) 17)) (ic_t ((ic_pz 32 i 0 l c) 18)) (ic_t ((ic_pz 32 i 0 l c) 19)) (ic_t ((ic_pz 32 i 0 l c) 20)) (ic_t ((ic_pz 32 i 0 l c) 21)) (ic_t ((ic_pz 32 i 0 l c) 22)) (ic_t ((ic_pz 32 i 0 l c) 23)) (ic_t ((ic_pz 32 i 0 l c) 24)) := by
  intro d
  induction d with
  | zero =>
    intro i e
    have e2 : i = 12 := by omega
    subst e2
    exact pk_le 12 12 (fun _ => ⟨5, ic_X_i282 h 4 0 rfl⟩) (fun z => by omega)
  | succ d ih =>
    intro i e
    exact pk_le 12 i (fun z => by omega) (fun _ => And.intro (vp_in_nI (by omega) (by decide)) (nm_r (ic_seg_t (by omega) rfl) (nm_r (nI_1 i) (ih (i + 1) (by omega)))))
theorem ic_X_i240 {l c : Nat} {post : SX → Prop} (h : post (ic_X (ic_p0 l c))) : ∀ d i : Nat, i + d = 32 → wX_init_240 post (nI ((ic_pz i 0 0 l c) 25 0)) (nI ((ic_pz i 0 0 l c) 25 1)) (lN ((ic_pz i 0 0 l c) 25 2)) (lN ((ic_pz i 0 0 l c) 25 3)) (nI ((ic_pz i 0 0 l c) 25 4)) (d + 1) (nI i) (ic_ts ((ic_pz i 0 0 l c) 0)) (ic_t ((ic_pz i 0 0 l c) 1)) (ic_t ((ic_pz i 0 0 l c) 2)) (ic_t ((ic_pz i 0 0 l c) 3)) (ic_t8 ((ic_pz i 0 0 l c) 3)) (ic_t ((ic_pz i 0 0 l c) 4)) (ic_t ((ic_pz i 0 0 l c) 5)) (ic_t ((ic_pz i 0 0 l c) 6)) (ic_tL ((ic_pz i 0 0 l c) 7)) (ic_t ((ic_pz i 0 0 l c) 8)) (ic_t ((ic_pz i 0 0 l c) 9)) (ic_t ((ic_pz i 0 0 l c) 10)) (ic_t ((ic_pz i 0 0 l c) 11)) (ic_t ((ic_pz i 0 0 l c) 12)) (ic_t ((ic_pz i 0 0 l c) 13)) (ic_t ((ic_pz i 0 0 l c) 14)) (ic_t ((ic_pz i 0 0 l c) 15)) (ic_t ((ic_pz i 0 0 l c) 16)) (ic_t ((ic_pz i 0 0 l c) 17)) (ic_t ((ic_pz i 0 0 l c) 18)) (ic_t ((ic_pz i 0 0 l c) 19)) (ic_t ((ic_pz i 0 0 l c) 20)) (ic_t ((ic_pz i 0 0 l c) 21)) (ic_t ((ic_pz i 0 0 l c) 22)) (ic_t ((ic_pz i 0 0 l c) 23)) (ic_t ((ic_pz i 0 0 l c) 24)) := by
  intro d
  induction d with
  | zero =>
    intro i e
    have e2 : i = 32 := by omega
    subst e2
    exact pk_le 32 32 (fun _ => ⟨13, ic_X_i261 h 12 0 rfl⟩) (fun z => by omega)
  | succ d ih =>
    intro i e
    exact pk_le 32 i (fun z => by omega) (fun _ => And.intro (vp_in_nI (by omega) (by decide)) (nm_r (ic_seg_ts (by omega)) (nm_r (nI_1 i) (ih (i + 1) (by omega)))))
/-- a clamped number: one natural for both sides -/
theorem ic_clamp (v : Int32) {M : Nat} (hM : M < 2 ^ 31) (h1 : 1 ≤ M) : ∃ l, 1 ≤ l ∧ l ≤ M ∧ ∀ A : Int32 → Prop, A (nI l) → ((1 ≤ v → ((v ≤ nI M → A v) ∧ (¬ v ≤ nI M → A (nI M)))) ∧ (¬ 1 ≤ v → A 1)) := by
  by_cases a : 1 ≤ v
  · by_cases b : v ≤ nI M
    · obtain ⟨l, g1, g2, e⟩ := ic_ix1 (v := v) hM (Int32.not_lt.mpr a) (Int32.not_lt.mpr b)
      subst e
      exact ⟨l, g1, g2, fun A h => br_t a (br_t b h)⟩
    · exact ⟨M, h1, Nat.le_refl M, fun A h => br_t a (br_f b h)⟩
  · exact ⟨1, Nat.le_refl 1, h1, fun A h => br_f a h⟩
def ic_qz (b d e l c : Nat) : Nat → Nat → Nat := fun f => if f = 15 then ic_seg b 1 else if f = 20 then ic_seg d 1 else if f = 21 then ic_seg e 1 else if f = 22 then (fun j => if j = 0 then l else if j = 1 then c else 0) else fun _ => 0
theorem ic_seg_n {i : Nat} {v : Int32} (hv : v = nI 1) : upd (ic_t (ic_seg i 1)) i v = ic_t (ic_seg (i + 1) 1) := by
  rw [hv, ic_tu, ic_seg_s]
theorem ic_Y_i225 {l c : Nat} {post : SY → Prop} (h : post (ic_Y (ic_q0 l c))) : ∀ d i : Nat, i + d = 12 → wY_init_225 post (nI ((ic_qz i 0 0 l c) 22 0)) (nI ((ic_qz i 0 0 l c) 22 1)) (nI ((ic_qz i 0 0 l c) 22 2)) (nI ((ic_qz i 0 0 l c) 22 3)) (nI ((ic_qz i 0 0 l c) 22 4)) (d + 1) (nI i) (ic_t ((ic_qz i 0 0 l c) 0)) (ic_t ((ic_qz i 0 0 l c) 1)) (ic_t ((ic_qz i 0 0 l c) 2)) (ic_t ((ic_qz i 0 0 l c) 3)) (ic_t ((ic_qz i 0 0 l c) 4)) (ic_t ((ic_qz i 0 0 l c) 5)) (ic_t ((ic_qz i 0 0 l c) 6)) (ic_t ((ic_qz i 0 0 l c) 7)) (ic_t ((ic_qz i 0 0 l c) 8)) (ic_t ((ic_qz i 0 0 l c) 9)) (ic_t ((ic_qz i 0 0 l c) 10)) (ic_t ((ic_qz i 0 0 l c) 11)) (ic_t ((ic_qz i 0 0 l c) 12)) (ic_t ((ic_qz i 0 0 l c) 13)) (ic_t ((ic_qz i 0 0 l c) 14)) (ic_t ((ic_qz i 0 0 l c) 15)) (ic_t ((ic_qz i 0 0 l c) 16)) (ic_t ((ic_qz i 0 0 l c) 17)) (ic_t ((ic_qz i 0 0 l c) 18)) (ic_t ((ic_qz i 0 0 l c) 19)) (ic_t ((ic_qz i 0 0 l c) 20)) (ic_t ((ic_qz i 0 0 l c) 21)) := by
  intro d
  induction d with
  | zero =>
    intro i e
    have e2 : i = 12 := by omega
    subst e2
    refine pk_le 12 12 (fun _ => nm_r (ic_seg_n (i := 0) ic_nb1) (nm_r (ic_seg_n (i := 1) ic_nb1) (nm_r (ic_seg_n (i := 0) ic_nb1) (nm_r (ic_seg_n (i := 1) ic_nb1) ?_)))) (fun z => by omega)
    exact h
  | succ d ih =>
    intro i e
    exact pk_le 12 i (fun z => by omega) (fun _ => And.intro (vp_in_nI (by omega) (by decide)) (nm_r (ic_seg_t (by omega) rfl) (nm_r (nI_1 i) (ih (i + 1) (by omega)))))
theorem ic_init (k0 k1 : Int32) : ∃ l c, l ≤ 8 ∧ c ≤ 4 ∧ (∀ post : SX → Prop, post (ic_X (ic_p0 l c)) → wpX_init post k0 k1) ∧ (∀ post : SY → Prop, post (ic_Y (ic_q0 l c)) → wpY_init post k0 k1) := by
  obtain ⟨l, _, hl, L⟩ := ic_clamp k0 (M := 8) (by decide) (by decide)
  obtain ⟨c, _, hc, C⟩ := ic_clamp k1 (M := 4) (by decide) (by decide)
  refine ⟨l, c, hl, hc, fun post h => ?_, fun post h => ?_⟩
  · have LX : ∀ P : Int32 → Prop, P (nI l) → wpX_clamp P k0 8 := fun P z => L P z
    have CX : ∀ P : Int32 → Prop, P (nI c) → wpX_clamp P k1 4 := fun P z => C P z
    unfold wpX_init
    refine LX _ (CX _ ?_)
    have r := ic_X_i240 h 32 0 rfl
    have z1 : ∀ x, ic_seg 0 x = fun _ => 0 := fun x => by funext j; exact if_neg (by omega)
    have e0 : ic_ts (ic_pz 0 0 0 l c 0) = fun _ => 0 := by
      show ic_ts (ic_seg 0 4) = _
      rw [z1]
      rfl
    have e8 : ic_t8 (ic_pz 0 0 0 l c 3) = fun _ => 0 := by
      funext j
      show nI (0 / 8) = 0
      rfl
    have eL : ic_tL (ic_pz 0 0 0 l c 7) = fun _ => 0 := by
      funext j
      show lN 0 = 0
      rfl
    have e18 : ic_t (ic_pz 0 0 0 l c 18) = fun _ => 0 := by
      show ic_t (ic_seg 0 1) = _
      rw [z1]
      rfl
    have e23 : ic_t (ic_pz 0 0 0 l c 23) = fun _ => 0 := by
      show ic_t (ic_seg 0 1) = _
      rw [z1]
      rfl
    rw [e0, e8, eL, e18, e23] at r
    exact ⟨33, r⟩
  · unfold wpY_init
    refine L (fun r => wY_init_197 post k1 r 0 0 0 0 0 (fun _ => 0) (fun _ => 0) (fun _ => 0) (fun _ => 0) (fun _ => 0) (fun _ => 0) (fun _ => 0) (fun _ => 0) (fun _ => 0) (fun _ => 0) (fun _ => 0) (fun _ => 0) (fun _ => 0) (fun _ => 0) (fun _ => 0) (fun _ => 0) (fun _ => 0) (fun _ => 0) (fun _ => 0) (fun _ => 0) (fun _ => 0) (fun _ => 0)) ?_
    unfold wY_init_197
    refine C (fun r => ∃ n : Nat, wY_init_225 post (nI l) r 0 0 0 n 0 (fun _ => 0) (fun _ => 0) (fun _ => 0) (fun _ => 0) (fun _ => 0) (fun _ => 0) (fun _ => 0) (fun _ => 0) (fun _ => 0) (fun _ => 0) (fun _ => 0) (fun _ => 0) (fun _ => 0) (fun _ => 0) (fun _ => 0) (fun _ => 0) (fun _ => 0) (fun _ => 0) (fun _ => 0) (fun _ => 0) (fun _ => 0) (fun _ => 0)) ?_
    exact ⟨13, ic_Y_i225 h 12 0 rfl⟩
