/-! what every picture of a run keeps -/
def ic_L (T C s : Nat) (S H I A N B G R : Nat) : Prop :=
  (H < 4 ∧ I < 4 ∧ A < 32 ∧ A % 8 + N ≤ 8 ∧ N ≤ 4) ∧ (S ≤ 4 ∧ B ≤ N ∧ (S ≤ 1 → H % 2 = 0 → B < N) ∧ (S = 0 → B < N)) ∧ (T ≤ s → S = 4 ∧ N = 0) ∧ (s < T → S ≤ 3) ∧ (S = 1 → G ≤ 15 ∧ R ≤ C + 15)
def ic_J1 (p : Nat → Nat → Nat) : Prop := ∀ s, s < 32 → ic_L (p 25 3) (p 25 2) s (p 0 s) (p 1 s) (p 2 s) (p 3 s) (p 4 s) (p 5 s) (p 6 s) (p 7 s)
def ic_am (S H : Nat → Nat) (m : Nat) : Nat := ic_cn (fun s => decide (S s = 1 ∧ H s / 2 = m)) 32
def ic_as (S A : Nat → Nat) (q : Nat) : Nat := ic_cn (fun s => decide (S s = 1 ∧ A s / 8 = q)) 32
def ic_qn (S H : Nat → Nat) (c : Nat) : Nat := ic_cn (fun s => decide (S s = 0 ∧ H s = c)) 32
def ic_J2 (p : Nat → Nat → Nat) : Prop := (∀ m, m < 2 → p 20 m = ic_am (p 0) (p 1) m) ∧ (∀ q, q < 4 → p 21 q = ic_as (p 0) (p 3) q)
/-- the ring of one channel: its tickets in order -/
def ic_Q1 (T : Nat) (S H Q : Nat → Nat) (c h n : Nat) (K : Nat → Nat) : Prop :=
  h < 4 ∧ n ≤ 4 ∧ n = ic_qn S H c ∧
    (∀ i, i < n → Q (c * 4 + (h + i) % 4) = K i % 32 ∧ K i < T ∧ T ≤ K i + 32 ∧ S (K i % 32) = 0 ∧ H (K i % 32) = c) ∧
    (∀ i j, i < j → j < n → K i < K j) ∧
    (∀ t, t < T → T ≤ t + 32 → S (t % 32) = 0 → H (t % 32) = c → ∃ i, i < n ∧ K i = t)
def ic_J3 (p : Nat → Nat → Nat) : Prop := ∀ c, c < 4 → ∃ K : Nat → Nat, ic_Q1 (p 25 3) (p 0) (p 1) (p 11) c (p 12 c) (p 13 c) K
def ic_J4 (p : Nat → Nat → Nat) : Prop :=
  (∀ m, m < 2 → p 15 m < 8 ∧ p 16 m ≤ 8) ∧ (∀ j, j < 12 → p 18 j ≤ 15) ∧ (∀ s, s < 4 → p 19 s < 4) ∧ (∀ c, c < 4 → p 22 c < 4 ∧ p 23 c ≤ 1) ∧ (∀ j, j < 8 → p 24 j ≤ 1) ∧ p 25 0 ≤ 8 ∧ p 25 1 ≤ 4
def ic_Inv (p : Nat → Nat → Nat) : Prop := ic_J1 p ∧ ic_J2 p ∧ ic_J3 p ∧ ic_J4 p
/-- counters, one up, one down -/
theorem ic_am_up {S H : Nat → Nat} {s : Nat} (hs : s < 32) (h : S s ≠ 1) (m : Nat) : ic_am (ic_u S s 1) H m = if m = H s / 2 then ic_am S H m + 1 else ic_am S H m := by
  unfold ic_am
  by_cases e : m = H s / 2
  · rw [if_pos e]
    refine ic_cn_up (s := s) (decide_eq_false (fun z => h z.1)) (decide_eq_true ⟨ic_us, e.symm⟩) 32 hs (fun j _ hj => ?_)
    rw [ic_un hj]
  · rw [if_neg e]
    refine ic_cn_eq 32 (fun j _ => ?_)
    by_cases ej : j = s
    · subst ej
      rw [decide_eq_false (fun z => e z.2.symm), decide_eq_false (fun z => e z.2.symm)]
    · rw [ic_un ej]
theorem ic_am_dn {S H : Nat → Nat} {s x : Nat} (hs : s < 32) (h : S s = 1) (hx : x ≠ 1) (m : Nat) : ic_am S H m = if m = H s / 2 then ic_am (ic_u S s x) H m + 1 else ic_am (ic_u S s x) H m := by
  unfold ic_am
  by_cases e : m = H s / 2
  · rw [if_pos e]
    refine ic_cn_up (s := s) (decide_eq_false (fun z => by have := z.1; rw [ic_us] at this; exact hx this)) (decide_eq_true ⟨h, e.symm⟩) 32 hs (fun j _ hj => ?_)
    rw [ic_un hj]
  · rw [if_neg e]
    refine ic_cn_eq 32 (fun j _ => ?_)
    by_cases ej : j = s
    · subst ej
      rw [decide_eq_false (fun z => e z.2.symm), decide_eq_false (fun z => e z.2.symm)]
    · rw [ic_un ej]
theorem ic_as_up {S A : Nat → Nat} {s : Nat} (hs : s < 32) (h : S s ≠ 1) (m : Nat) : ic_as (ic_u S s 1) A m = if m = A s / 8 then ic_as S A m + 1 else ic_as S A m := by
  unfold ic_as
  by_cases e : m = A s / 8
  · rw [if_pos e]
    refine ic_cn_up (s := s) (decide_eq_false (fun z => h z.1)) (decide_eq_true ⟨ic_us, e.symm⟩) 32 hs (fun j _ hj => ?_)
    rw [ic_un hj]
  · rw [if_neg e]
    refine ic_cn_eq 32 (fun j _ => ?_)
    by_cases ej : j = s
    · subst ej
      rw [decide_eq_false (fun z => e z.2.symm), decide_eq_false (fun z => e z.2.symm)]
    · rw [ic_un ej]
theorem ic_as_dn {S A : Nat → Nat} {s x : Nat} (hs : s < 32) (h : S s = 1) (hx : x ≠ 1) (m : Nat) : ic_as S A m = if m = A s / 8 then ic_as (ic_u S s x) A m + 1 else ic_as (ic_u S s x) A m := by
  unfold ic_as
  by_cases e : m = A s / 8
  · rw [if_pos e]
    refine ic_cn_up (s := s) (decide_eq_false (fun z => by have := z.1; rw [ic_us] at this; exact hx this)) (decide_eq_true ⟨h, e.symm⟩) 32 hs (fun j _ hj => ?_)
    rw [ic_un hj]
  · rw [if_neg e]
    refine ic_cn_eq 32 (fun j _ => ?_)
    by_cases ej : j = s
    · subst ej
      rw [decide_eq_false (fun z => e z.2.symm), decide_eq_false (fun z => e z.2.symm)]
    · rw [ic_un ej]
/-- a slot that is not active takes a new request: the counts stay -/
theorem ic_am_is {S H : Nat → Nat} {s c : Nat} (h : S s ≠ 1) (m : Nat) : ic_am (ic_u S s 0) (ic_u H s c) m = ic_am S H m := by
  refine ic_cn_eq 32 (fun j _ => ?_)
  by_cases e : j = s
  · subst e
    rw [decide_eq_false (fun z => by have := z.1; rw [ic_us] at this; omega), decide_eq_false (fun z => h z.1)]
  · rw [ic_un e, ic_un e]
theorem ic_as_is {S A : Nat → Nat} {s a : Nat} (h : S s ≠ 1) (m : Nat) : ic_as (ic_u S s 0) (ic_u A s a) m = ic_as S A m := by
  refine ic_cn_eq 32 (fun j _ => ?_)
  by_cases e : j = s
  · subst e
    rw [decide_eq_false (fun z => by have := z.1; rw [ic_us] at this; omega), decide_eq_false (fun z => h z.1)]
  · rw [ic_un e, ic_un e]
/-- the head of a queue is the oldest queued one -/
theorem ic_Q1_hd {T : Nat} {S H Q : Nat → Nat} {c h n : Nat} {K : Nat → Nat} (q : ic_Q1 T S H Q c h n K) (hn : 0 < n)
    (un : ∀ s, s < 32 → T ≤ s → S s = 4) : ic_ff T (fun s => decide (S s = 0 ∧ H s = c)) 32 0 = some (Q (c * 4 + h)) := by
  obtain ⟨h4, _, _, he, hs, hc⟩ := q
  obtain ⟨h0, h1, h2, h3, h5⟩ := he 0 hn
  rw [Nat.add_zero, Nat.mod_eq_of_lt h4] at h0
  rw [h0]
  have e : (T + (K 0 + 32 - T)) % 32 = K 0 % 32 := by omega
  rw [← e]
  refine ic_ff_is 32 0 (K 0 + 32 - T) (by omega) (by omega) ?_ ?_
  · rw [e]; exact decide_eq_true ⟨h3, h5⟩
  · intro a _ ha hp
    have hp2 := of_decide_eq_true hp
    by_cases h32 : 32 ≤ T + a
    · have e2 : (T + a) % 32 = (T + a - 32) % 32 := by omega
      rw [e2] at hp2
      obtain ⟨i, hi, ei⟩ := hc (T + a - 32) (by omega) (by omega) hp2.1 hp2.2
      by_cases i0 : i = 0
      · subst i0; omega
      · have := hs 0 i (by omega) hi
        omega
    · have e2 : (T + a) % 32 = T + a := by omega
      rw [e2] at hp2
      have := un (T + a) (by omega) (by omega)
      omega
theorem ic_Q1_no {T : Nat} {S H Q : Nat → Nat} {c h : Nat} {K : Nat → Nat} (q : ic_Q1 T S H Q c h 0 K)
    (un : ∀ s, s < 32 → T ≤ s → S s = 4) : ic_ff T (fun s => decide (S s = 0 ∧ H s = c)) 32 0 = none := by
  obtain ⟨_, _, _, _, _, hc⟩ := q
  refine ic_ff_no 32 0 (fun a _ ha hp => ?_)
  have hp2 := of_decide_eq_true hp
  by_cases h32 : 32 ≤ T + a
  · have e2 : (T + a) % 32 = (T + a - 32) % 32 := by omega
    rw [e2] at hp2
    obtain ⟨i, hi, _⟩ := hc (T + a - 32) (by omega) (by omega) hp2.1 hp2.2
    omega
  · have e2 : (T + a) % 32 = T + a := by omega
    rw [e2] at hp2
    have := un (T + a) (by omega) (by omega)
    omega
/-- a queue speaks of S only by 'is queued' -/
theorem ic_Q1_S {T : Nat} {S H Q : Nat → Nat} {c h n s x : Nat} {K : Nat → Nat} (q : ic_Q1 T S H Q c h n K)
    (hS : S s ≠ 0) (hx : x ≠ 0) : ic_Q1 T (ic_u S s x) H Q c h n K := by
  have e : ∀ j, (ic_u S s x j = 0 ↔ S j = 0) := by
    intro j
    by_cases ej : j = s
    · subst ej; rw [ic_us]; exact ⟨fun z => absurd z hx, fun z => absurd z hS⟩
    · rw [ic_un ej]
  obtain ⟨a1, a2, a3, he, hs, hc⟩ := q
  refine ⟨a1, a2, ?_, fun i hi => ?_, hs, fun t h1 h2 h3 h4 => hc t h1 h2 ((e _).mp h3) h4⟩
  · rw [a3]
    refine (ic_cn_eq 32 (fun j hj => ?_)).symm
    rw [decide_eq_decide, e j]
  · obtain ⟨b1, b2, b3, b4, b5⟩ := he i hi
    exact ⟨b1, b2, b3, (e _).mpr b4, b5⟩
/-- the head leaves -/
theorem ic_Q1_dq {T : Nat} {S H Q : Nat → Nat} {c h n : Nat} {K : Nat → Nat} (q : ic_Q1 T S H Q c h n K) (hn : 0 < n) :
    ic_Q1 T (ic_u S (Q (c * 4 + h)) 1) H Q c ((h + 1) % 4) (n - 1) (fun i => K (i + 1)) := by
  obtain ⟨a1, a2, a3, he, hs, hc⟩ := q
  obtain ⟨h0, h1, h2, h3, h4⟩ := he 0 hn
  rw [Nat.add_zero, Nat.mod_eq_of_lt a1] at h0
  rw [h0]
  have hk : n = ic_cn (fun s => decide (ic_u S (K 0 % 32) 1 s = 0 ∧ H s = c)) 32 + 1 := by
    rw [a3]
    refine ic_cn_up (s := K 0 % 32) ?_ (decide_eq_true ⟨h3, h4⟩) 32 (by omega) (fun j _ hj => ?_)
    · refine decide_eq_false (fun z => ?_)
      have := z.1
      rw [ic_us] at this
      omega
    · rw [ic_un hj]
  refine ⟨by omega, by omega, ?_, fun i hi => ?_, fun i j h5 h6 => hs (i + 1) (j + 1) (by omega) (by omega), fun t h5 h6 h7 h8 => ?_⟩
  · show n - 1 = ic_cn _ 32
    omega
  · obtain ⟨b1, b2, b3, b4, b5⟩ := he (i + 1) (by omega)
    have h9 := hs 0 (i + 1) (by omega) (by omega)
    have e : ((h + 1) % 4 + i) % 4 = (h + (i + 1)) % 4 := by omega
    refine ⟨by rw [e]; exact b1, b2, b3, ?_, b5⟩
    show ic_u S (K 0 % 32) 1 (K (i + 1) % 32) = 0
    rw [ic_un (by omega)]
    exact b4
  · have hne : t % 32 ≠ K 0 % 32 := by
      intro z
      rw [z, ic_us] at h7
      omega
    rw [ic_un hne] at h7
    obtain ⟨i, hi, ei⟩ := hc t h5 h6 h7 h8
    have i0 : i ≠ 0 := by
      intro z
      subst z
      rw [ei] at hne
      exact hne rfl
    exact ⟨i - 1, by omega, by show K (i - 1 + 1) = t; rw [Nat.sub_add_cancel (by omega)]; exact ei⟩
/-- another channel, when a head leaves -/
theorem ic_Q1_dq' {T : Nat} {S H Q : Nat → Nat} {c h n s : Nat} {K : Nat → Nat} (q : ic_Q1 T S H Q c h n K) (hs : H s ≠ c) :
    ic_Q1 T (ic_u S s 1) H Q c h n K := by
  obtain ⟨a1, a2, a3, he, hg, hc⟩ := q
  refine ⟨a1, a2, ?_, fun i hi => ?_, hg, fun t h1 h2 h3 h4 => ?_⟩
  · rw [a3]
    refine (ic_cn_eq 32 (fun j _ => ?_)).symm
    by_cases e : j = s
    · subst e
      rw [decide_eq_false (fun z => hs z.2), decide_eq_false (fun z => hs z.2)]
    · rw [ic_un e]
  · obtain ⟨b1, b2, b3, b4, b5⟩ := he i hi
    refine ⟨b1, b2, b3, ?_, b5⟩
    rw [ic_un (fun z => hs (by rw [← z]; exact b5))]
    exact b4
  · have hne : t % 32 ≠ s := fun z => hs (by rw [← z]; exact h4)
    rw [ic_un hne] at h3
    exact hc t h1 h2 h3 h4
/-- a new request at the tail -/
theorem ic_Q1_en {T : Nat} {S H Q : Nat → Nat} {c h n : Nat} {K : Nat → Nat} (q : ic_Q1 T S H Q c h n K) (hn : n < 4) (hS : 2 ≤ S (T % 32)) :
    ic_Q1 (T + 1) (ic_u S (T % 32) 0) (ic_u H (T % 32) c) (ic_u Q (c * 4 + (h + n) % 4) (T % 32)) c h (n + 1) (ic_u K n T) := by
  obtain ⟨a1, a2, a3, he, hs, hc⟩ := q
  have hk : ic_qn (ic_u S (T % 32) 0) (ic_u H (T % 32) c) c = n + 1 := by
    rw [a3]
    refine ic_cn_up (s := T % 32) (decide_eq_false (fun z => by have := z.1; omega)) (decide_eq_true ⟨ic_us, ic_us⟩) 32 (by omega) (fun j _ hj => ?_)
    rw [ic_un hj, ic_un hj]
  refine ⟨a1, by omega, hk.symm, fun i hi => ?_, fun i j h1 h2 => ?_, fun t h1 h2 h3 h4 => ?_⟩
  · by_cases e : i = n
    · subst e
      rw [ic_us, ic_us]
      exact ⟨rfl, by omega, by omega, ic_us, ic_us⟩
    · rw [ic_un e]
      obtain ⟨b1, b2, b3, b4, b5⟩ := he i (by omega)
      have hne : K i % 32 ≠ T % 32 := by intro z; rw [z] at b4; omega
      refine ⟨?_, by omega, by omega, by rw [ic_un hne]; exact b4, by rw [ic_un hne]; exact b5⟩
      rw [ic_un (by omega)]
      exact b1
  · by_cases e : j = n
    · subst e
      rw [ic_us, ic_un (by omega)]
      exact (he i (by omega)).2.1
    · rw [ic_un e, ic_un (by omega)]
      exact hs i j h1 (by omega)
  · by_cases e : t = T
    · exact ⟨n, by omega, by rw [ic_us]; exact e.symm⟩
    · have hne : t % 32 ≠ T % 32 := by omega
      rw [ic_un hne] at h3 h4
      obtain ⟨i, hi, ei⟩ := hc t (by omega) (by omega) h3 h4
      exact ⟨i, by omega, by rw [ic_un (by omega)]; exact ei⟩
/-- another channel, when a request comes -/
theorem ic_Q1_en' {T : Nat} {S H Q : Nat → Nat} {c d h n p z : Nat} {K : Nat → Nat} (q : ic_Q1 T S H Q c h n K) (hd : d ≠ c) (hS : 2 ≤ S (T % 32)) (hp : d * 4 ≤ p) (hp' : p < d * 4 + 4) :
    ic_Q1 (T + 1) (ic_u S (T % 32) 0) (ic_u H (T % 32) d) (ic_u Q p z) c h n K := by
  obtain ⟨a1, a2, a3, he, hs, hc⟩ := q
  refine ⟨a1, a2, ?_, fun i hi => ?_, hs, fun t h1 h2 h3 h4 => ?_⟩
  · rw [a3]
    refine (ic_cn_eq 32 (fun j _ => ?_)).symm
    by_cases e : j = T % 32
    · subst e
      rw [decide_eq_false (fun z => by have := z.2; rw [ic_us] at this; exact hd this), decide_eq_false (fun z => by have := z.1; omega)]
    · rw [ic_un e, ic_un e]
  · obtain ⟨b1, b2, b3, b4, b5⟩ := he i hi
    have hne : K i % 32 ≠ T % 32 := by intro z; rw [z] at b4; omega
    refine ⟨?_, by omega, by omega, by rw [ic_un hne]; exact b4, by rw [ic_un hne]; exact b5⟩
    rw [ic_un (by omega)]
    exact b1
  · by_cases e : t = T
    · subst e
      rw [ic_us] at h4
      exact absurd h4 hd
    · have hne : t % 32 ≠ T % 32 := by omega
      rw [ic_un hne] at h3 h4
      exact hc t (by omega) (by omega) h3 h4
