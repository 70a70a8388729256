/-! numbers, tables of ints -/
def ic_t (f : Nat → Nat) : Nat → Int32 := fun j => nI (f j)
def ic_tL (f : Nat → Nat) : Nat → Int64 := fun j => lN (f j)
def ic_t8 (f : Nat → Nat) : Nat → Int32 := fun j => nI (f j / 8)
def ic_sv (x : Nat) : Int32 := if x = 4 then -1 else nI x
def ic_ts (f : Nat → Nat) : Nat → Int32 := fun j => ic_sv (f j)
theorem ic_sv_n {x : Nat} (h : x ≤ 3) : ic_sv x = nI x := if_neg (by omega)
theorem ic_sv_eq {x j : Nat} (hx : x ≤ 4) (hj : j ≤ 3) : ic_sv x = nI j ↔ x = j := by
  by_cases e : x = 4
  · subst e
    constructor
    · intro h
      exfalso
      have h1 : (-1 : Int32) = nI j := h
      have h2 : (nI j).toInt = j := nI_toInt (by omega)
      rw [← h1] at h2
      have h3 : (-1 : Int32).toInt = -1 := by decide
      omega
    · intro h; omega
  · rw [ic_sv_n (by omega)]
    exact nI_eq (by omega) (by omega)
theorem ic_tu {f : Nat → Nat} {k x : Nat} : upd (ic_t f) k (nI x) = ic_t (ic_u f k x) := by
  funext j
  by_cases e : j = k
  · subst e; show upd (ic_t f) j (nI x) j = nI (ic_u f j x j); rw [pk_us, ic_us]
  · show upd (ic_t f) k (nI x) j = nI (ic_u f k x j); rw [pk_un e, ic_un e]; rfl
theorem ic_tLu {f : Nat → Nat} {k x : Nat} : vp_updL (ic_tL f) k (lN x) = ic_tL (ic_u f k x) := by
  funext j
  by_cases e : j = k
  · subst e; show vp_updL (ic_tL f) j (lN x) j = lN (ic_u f j x j); rw [pk_uLs, ic_us]
  · show vp_updL (ic_tL f) k (lN x) j = lN (ic_u f k x j); rw [pk_uLn e, ic_un e]; rfl
theorem ic_t8u {f : Nat → Nat} {k x : Nat} : upd (ic_t8 f) k (nI (x / 8)) = ic_t8 (ic_u f k x) := by
  funext j
  by_cases e : j = k
  · subst e; show upd (ic_t8 f) j (nI (x / 8)) j = nI (ic_u f j x j / 8); rw [pk_us, ic_us]
  · show upd (ic_t8 f) k (nI (x / 8)) j = nI (ic_u f k x j / 8); rw [pk_un e, ic_un e]; rfl
theorem ic_tsu {f : Nat → Nat} {k x : Nat} (hx : x ≤ 3) : upd (ic_ts f) k (nI x) = ic_ts (ic_u f k x) := by
  funext j
  by_cases e : j = k
  · subst e; show upd (ic_ts f) j (nI x) j = ic_sv (ic_u f j x j); rw [pk_us, ic_us, ic_sv_n hx]
  · show upd (ic_ts f) k (nI x) j = ic_sv (ic_u f k x j); rw [pk_un e, ic_un e]; rfl
/-- a place read, a place stored: e is the int of the place -/
theorem ic_g {f : Nat → Nat} {e : Int32} (k : Nat) (he : e = nI k) (hk : k < 2 ^ 31) : ic_t f e.toNatClampNeg = nI (f k) := by
  rw [he]; show nI (f _) = _; rw [nI_clamp hk]
theorem ic_gL {f : Nat → Nat} {e : Int32} (k : Nat) (he : e = nI k) (hk : k < 2 ^ 31) : ic_tL f e.toNatClampNeg = lN (f k) := by
  rw [he]; show lN (f _) = _; rw [nI_clamp hk]
theorem ic_g8 {f : Nat → Nat} {e : Int32} (k : Nat) (he : e = nI k) (hk : k < 2 ^ 31) : ic_t8 f e.toNatClampNeg = nI (f k / 8) := by
  rw [he]; show nI (f _ / 8) = _; rw [nI_clamp hk]
theorem ic_gs {f : Nat → Nat} {e : Int32} (k : Nat) (he : e = nI k) (hk : k < 2 ^ 31) : ic_ts f e.toNatClampNeg = ic_sv (f k) := by
  rw [he]; show ic_sv (f _) = _; rw [nI_clamp hk]
theorem ic_p {f : Nat → Nat} {e v : Int32} (k x : Nat) (he : e = nI k) (hk : k < 2 ^ 31) (hv : v = nI x) : upd (ic_t f) e.toNatClampNeg v = ic_t (ic_u f k x) := by
  rw [he, hv, nI_clamp hk, ic_tu]
theorem ic_pL {f : Nat → Nat} {e : Int32} {v : Int64} (k x : Nat) (he : e = nI k) (hk : k < 2 ^ 31) (hv : v = lN x) : vp_updL (ic_tL f) e.toNatClampNeg v = ic_tL (ic_u f k x) := by
  rw [he, hv, nI_clamp hk, ic_tLu]
theorem ic_p8 {f : Nat → Nat} {e v : Int32} (k x : Nat) (he : e = nI k) (hk : k < 2 ^ 31) (hv : v = nI (x / 8)) : upd (ic_t8 f) e.toNatClampNeg v = ic_t8 (ic_u f k x) := by
  rw [he, hv, nI_clamp hk, ic_t8u]
theorem ic_ps {f : Nat → Nat} {e v : Int32} (k x : Nat) (he : e = nI k) (hk : k < 2 ^ 31) (hx : x ≤ 3) (hv : v = nI x) : upd (ic_ts f) e.toNatClampNeg v = ic_ts (ic_u f k x) := by
  rw [he, hv, nI_clamp hk, ic_tsu hx]
/-- sums and products of a place -/
theorem ic_ma (a b c : Nat) : nI a * nI b + nI c = nI (a * b + c) := by rw [pk_mul, nI_add]
theorem ic_m2 (a : Nat) : nI a * 2 = nI (a * 2) := pk_mul a 2
theorem ic_m21 (a : Nat) : nI a * 2 + 1 = nI (a * 2 + 1) := ic_ma a 2 1
theorem ic_r {x : Int32} (a d : Nat) (hx : x = nI a) (ha : a < 2 ^ 31) (h0 : 0 < d) (hd : d < 2 ^ 31) : x - x / nI d * nI d = nI (a % d) := by
  rw [hx]; exact pk_rem ha h0 hd
theorem ic_slL {n : Nat} (h : n < 2 ^ 62) : (lN n &&& 31).toInt32 = nI (n % 32) := by
  have e : lN n &&& lN (2 ^ 5 - 1) = lN (n % 2 ^ 5) := wb_mask (by omega) (by decide)
  have e2 : (31 : Int64) = lN (2 ^ 5 - 1) := rfl
  rw [e2, e, lN_i]
theorem ic_sl {n : Nat} (h : n < 2 ^ 31) : nI n &&& 31 = nI (n % 32) := pk_andN (by omega) 5 (by decide)
theorem ic_s3 (n : Nat) : nI n &&& 3 = nI (n % 4) := by
  rw [pk_and (nI n) 2 (by decide)]
  have e : (nI n).toBitVec.toNat = n % 2 ^ 32 := rfl
  rw [e]
  congr 1
  omega
theorem ic_te (T i : Nat) : nI T - 32 + nI i = nI (T + i) - nI 32 := by
  rw [← nI_add, show nI 32 = (32 : Int32) from rfl]
  grind
theorem ic_tt {T i : Nat} (h : 32 ≤ T + i) : nI T - 32 + nI i = nI (T + i - 32) := by rw [ic_te, pk_sub h]
theorem ic_tn {T i : Nat} (h : T + i < 32) : nI T - 32 + nI i < 0 := by rw [ic_te]; exact pk_sneg (by decide) h
/-- T - 32 as an int, against a ticket -/
theorem ic_lo {T j : Nat} (hT : T < 2 ^ 30) (hj : j < 2 ^ 31) : nI T - 32 ≤ nI j ↔ T ≤ j + 32 := by
  rw [Int32.le_iff_toInt_le, show (32 : Int32) = nI 32 from rfl, pk_sub_toInt hT (by decide), nI_toInt hj]
  omega
/-- the same over longs: the ticket comes as an int -/
theorem ic_loL {T j : Nat} (hT : T < 2 ^ 30) (hj : j < 2 ^ 31) : lN T - 32 ≤ (nI j).toInt64 ↔ T ≤ j + 32 := by
  rw [nI_l hj]
  by_cases h : 32 ≤ T
  · rw [show (32 : Int64) = lN 32 from rfl, lN_sub h, pk_lLE (by omega) (by omega)]
    omega
  · have e : (lN T - 32).toInt = (T : Int) - 32 := by
      rw [Int64.toInt_sub, pk_lT (by omega), show (32 : Int64).toInt = 32 from by decide]
      exact Int.bmod_eq_of_le (by omega) (by omega)
    rw [Int64.le_iff_toInt_le, e, pk_lT (by omega)]
    omega
/-- what a ticket that is asked for may be -/
theorem ic_vc (t : Int32) (T : Nat) : (∃ j, j < T ∧ T ≤ j + 32 ∧ j < 2 ^ 31 ∧ t = nI j) ∨ t < 0 ∨ (∃ j, j < 2 ^ 31 ∧ t = nI j ∧ (T ≤ j ∨ j + 32 < T)) := by
  by_cases h : t < 0
  · exact Or.inr (Or.inl h)
  · obtain ⟨j, hj, e⟩ := nI_of h
    by_cases h1 : j < T
    · by_cases h2 : T ≤ j + 32
      · exact Or.inl ⟨j, h1, h2, hj, e⟩
      · exact Or.inr (Or.inr ⟨j, hj, e, Or.inr (by omega)⟩)
    · exact Or.inr (Or.inr ⟨j, hj, e, Or.inl (by omega)⟩)
/-- conditions on a place -/
theorem ic_cs {f : Nat → Nat} {e x : Int32} (s j : Nat) (he : e = nI s) (hx : x = nI j) (hs : s < 2 ^ 31) (hf : f s ≤ 4) (hj : j ≤ 3) : ic_ts f e.toNatClampNeg = x ↔ f s = j := by
  rw [ic_gs s he hs, hx]; exact ic_sv_eq hf hj
theorem ic_ce {f : Nat → Nat} {e x : Int32} (s j : Nat) (he : e = nI s) (hx : x = nI j) (hs : s < 2 ^ 31) (hf : f s < 2 ^ 31) (hj : j < 2 ^ 31) : ic_t f e.toNatClampNeg = x ↔ f s = j := by
  rw [ic_g s he hs, hx]; exact nI_eq hf hj
theorem ic_c8 {f : Nat → Nat} {e x : Int32} (s j : Nat) (he : e = nI s) (hx : x = nI j) (hs : s < 2 ^ 31) (hf : f s / 8 < 2 ^ 31) (hj : j < 2 ^ 31) : ic_t8 f e.toNatClampNeg = x ↔ f s / 8 = j := by
  rw [ic_g8 s he hs, hx]; exact nI_eq hf hj
theorem ic_inc {f : Nat → Nat} {e : Int32} (k : Nat) (he : e = nI k) (hk : k < 2 ^ 31) : ic_t f e.toNatClampNeg + 1 = nI (f k + 1) := by
  rw [ic_g k he hk]; exact nI_1 _
theorem ic_dec {f : Nat → Nat} {e : Int32} (k : Nat) (he : e = nI k) (hk : k < 2 ^ 31) (h0 : 1 ≤ f k) : ic_t f e.toNatClampNeg - 1 = nI (f k - 1) := by
  rw [ic_g k he hk]; exact pk_sub (b := 1) h0
theorem ic_nm1 {s : Nat} (h : s < 2 ^ 31) : ¬ nI s = -1 := by
  intro z
  have h2 : (nI s).toInt = s := nI_toInt h
  rw [z] at h2
  have h3 : (-1 : Int32).toInt = -1 := by decide
  omega
