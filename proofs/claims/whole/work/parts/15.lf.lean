/-! longs that are numbers: no product leaves the long, no division leaves a rest -/
theorem l64_min : Int64.minValue.toInt = -9223372036854775808 := by decide +kernel
theorem l64_max : Int64.maxValue.toInt = 9223372036854775807 := by decide +kernel
theorem l64_toInt {x : Int} (h : x.natAbs ≤ 382637520) : (Int64.ofInt x).toInt = x := Int64.toInt_ofInt_of_le (by omega) (by omega)
theorem l64_zero {x : Int} (h : x.natAbs ≤ 382637520) : Int64.ofInt x = 0 ↔ x = 0 := by
  constructor
  · intro h1
    have h2 := congrArg Int64.toInt h1
    rw [l64_toInt h] at h2
    have h0 : (0 : Int64).toInt = 0 := by decide
    omega
  · intro h1
    rw [h1]
    rfl
theorem l64_pos {x : Int} (h : x.natAbs ≤ 382637520) : 0 < Int64.ofInt x ↔ 0 < x := by
  rw [Int64.lt_iff_toInt_lt, l64_toInt h]
  have h0 : (0 : Int64).toInt = 0 := by decide
  omega
theorem l64_step {a b c d p x : Int} (ha : a.natAbs ≤ 382637520) (hb : b.natAbs ≤ 382637520) (hc : c.natAbs ≤ 382637520) (hd : d.natAbs ≤ 382637520) (hp : p ≠ 0) (hp2 : p.natAbs ≤ 382637520) (h : p * x = a * b - c * d) : qt (Int64.ofInt a * Int64.ofInt b - Int64.ofInt c * Int64.ofInt d) (Int64.ofInt p) = Int64.ofInt x := by
  unfold qt
  have h1 := mx_abs_mul ha hb
  have h2 := mx_abs_mul hc hd
  have h3 : (p * x).natAbs ≤ 382637520 * 382637520 + 382637520 * 382637520 := by
    rw [h]
    exact mx_abs_sub h1 h2
  rw [if_neg (fun q => hp ((l64_zero hp2).mp q)), ← Int64.ofInt_mul, ← Int64.ofInt_mul, ← Int64.ofInt_sub, ← h, ← Int64.ofInt_tdiv (by rw [l64_min]; omega) (by rw [l64_max]; omega) (by rw [l64_min]; omega) (by rw [l64_max]; omega)]
  rw [Int.mul_tdiv_cancel_left x hp]
theorem mx_tup_abs {c0 : Nat → Nat → Int} (h : ∀ t s, (c0 t s).natAbs ≤ 9) (σ : Nat → Nat) : ∀ t s, (mx_tup c0 σ t s).natAbs ≤ 9 := fun t s => h t (σ s)
theorem mx_X_abs {c0 : Nat → Nat → Int} {M k : Nat} {σ : Nat → Nat} {i : Nat} {v : Nat → Int} (hM : M ≤ 6) (hk : k ≤ M) (hi : i < M) (h : ∀ t s, (c0 t s).natAbs ≤ 9) (hv : ∀ s, (v s).natAbs ≤ 9) : (mx_X c0 k σ i v).natAbs ≤ 382637520 := mx_vl_abs hM hk hi (fun t _ s => mx_tup_abs h σ t s) (fun s => hv (σ s))
theorem mx_p_abs {c0 : Nat → Nat → Int} {M k : Nat} {σ : Nat → Nat} (hM : M ≤ 6) (hk : k ≤ M) (h : ∀ t s, (c0 t s).natAbs ≤ 9) : (mx_p c0 k σ).natAbs ≤ 382637520 := by
  rw [← mx_B6]
  exact Nat.le_trans (mx_dt_abs (fun t _ s _ => mx_tup_abs h σ t s)) (mx_B_mono (by omega))
/-- the cells from column k on, ahead of the k-th step -/
def lf_I (c0 : Nat → Nat → Int) (M n k : Nat) (σ : Nat → Nat) (K : Nat → Int64) (pv : Int64) : Prop := mx_sg c0 M k = some σ ∧ pv = Int64.ofInt (mx_p c0 k σ) ∧ ∀ r q, r < M → k ≤ q → q < n → K (r * 8 + q) = Int64.ofInt (mx_X c0 k σ r (c0 q))
theorem lf_0 {c0 : Nat → Nat → Int} {M n : Nat} {K : Nat → Int64} (h : ∀ r q, r < M → q < n → K (r * 8 + q) = Int64.ofInt (c0 q r)) : lf_I c0 M n 0 (fun s => s) K 1 := ⟨rfl, rfl, fun r q hr _ hq => by rw [mx_X_0]; exact h r q hr hq⟩
theorem lf_nz {c0 : Nat → Nat → Int} {M n k : Nat} {σ : Nat → Nat} {K : Nat → Int64} {pv : Int64} (hM : M ≤ 6) (hc : ∀ t s, (c0 t s).natAbs ≤ 9) (hI : lf_I c0 M n k σ K pv) {i q : Nat} (hi : i < M) (hk : k ≤ q) (hq : q < n) : K (i * 8 + q) = 0 ↔ mx_X c0 k σ i (c0 q) = 0 := by
  obtain ⟨h1, -, h3⟩ := hI
  rw [h3 i q hi hk hq]
  exact l64_zero (mx_X_abs hM (mx_sg_ok h1).1 hi hc (hc q))
theorem lf_step {c0 : Nat → Nat → Int} {M n k : Nat} {σ : Nat → Nat} {K K' : Nat → Int64} {pv pv' : Int64} (hM : M ≤ 6) (hc : ∀ t s, (c0 t s).natAbs ≤ 9) (hkn : k < n) (hI : lf_I c0 M n k σ K pv) (h : cc_ok M n k pv K K' pv') : ∃ σ', lf_I c0 M n (k + 1) σ' K' pv' := by
  have hnz := fun {i} (hi : i < M) => lf_nz hM hc hI (i := i) (q := k) hi (Nat.le_refl k) hkn
  obtain ⟨h1, h2, h3⟩ := hI
  obtain ⟨i, g1, g2, g3, g4, g5, g6⟩ := h
  obtain ⟨hkM, hp, -⟩ := mx_sg_ok h1
  have hkM' : k < M := by omega
  have hf : mx_first (fun i => mx_X c0 k σ i (c0 k) != 0) k (M - k) = some i := by
    refine mx_first_at g1 (by omega) ?_ (fun j hj1 hj2 => ?_)
    · have : mx_X c0 k σ i (c0 k) ≠ 0 := fun q => g3 ((hnz g2).mpr q)
      simpa using this
    · have : mx_X c0 k σ j (c0 k) = 0 := (hnz (by omega)).mp (g4 j hj1 hj2)
      simpa using this
  refine ⟨fun s => σ (mx_sw k i s), mx_sg_next h1 hf, ?_, fun r q hr hq hqn => ?_⟩
  · rw [g5, h3 i k g2 (Nat.le_refl k) hkn, mx_p_next, mx_X_sw c0 σ g1, mx_sw_l]
  · rw [g6 r q hr (by omega) hqn]
    by_cases hrk : r = k
    · subst hrk
      rw [if_pos rfl, h3 i q g2 (by omega) hqn, mx_X_step_k, mx_X_sw c0 σ g1, mx_sw_l]
    · have hsr : mx_sw k i r < M := mx_sw_lt hkM' g2 hr
      rw [if_neg hrk, h3 i k g2 (Nat.le_refl k) hkn, h3 _ q hsr (by omega) hqn, h3 _ k hsr (Nat.le_refl k) hkn, h3 i q g2 (by omega) hqn, h2]
      refine l64_step (mx_X_abs hM hkM g2 hc (hc k)) (mx_X_abs hM hkM hsr hc (hc q)) (mx_X_abs hM hkM hsr hc (hc k)) (mx_X_abs hM hkM g2 hc (hc q)) hp (mx_p_abs hM hkM hc) ?_
      have hst := mx_X_step c0 (k := k) (i := r) (fun s => σ (mx_sw k i s)) hrk (c0 q)
      rw [mx_p_sw c0 σ g1, mx_X_sw c0 σ g1, mx_X_sw c0 σ g1, mx_X_sw c0 σ g1, mx_X_sw c0 σ g1, mx_sw_l] at hst
      exact hst
theorem lf_fail {c0 : Nat → Nat → Int} {M n k : Nat} {σ : Nat → Nat} {K : Nat → Int64} {pv : Int64} (hM : M ≤ 6) (hc : ∀ t s, (c0 t s).natAbs ≤ 9) (hkn : k < n) (hI : lf_I c0 M n k σ K pv) (h : ∀ j, k ≤ j → j < M → K (j * 8 + k) = 0) : mx_sg c0 M (k + 1) = none := by
  have hnz := fun {i} (hi : i < M) => lf_nz hM hc hI (i := i) (q := k) hi (Nat.le_refl k) hkn
  refine mx_sg_fail hI.1 (mx_first_none (fun j h1 h2 => ?_))
  have hkM := (mx_sg_ok hI.1).1
  have : mx_X c0 k σ j (c0 k) = 0 := (hnz (by omega)).mp (h j h1 (by omega))
  simpa using this
/-- the last column, looked through -/
def ltI (t : Nat) (K : Nat → Int64) (i : Nat) : Prop := ∀ j, j < i → (j < t - 1 → K (j * 8 + (t - 1)) ≠ 0) ∧ (t - 1 ≤ j → K (j * 8 + (t - 1)) = 0)
theorem ltI_s {t : Nat} {K : Nat → Int64} {i : Nat} (h : ltI t K i) (h1 : i < t - 1 → K (i * 8 + (t - 1)) ≠ 0) (h2 : t - 1 ≤ i → K (i * 8 + (t - 1)) = 0) : ltI t K (i + 1) := by
  intro j hj
  by_cases hji : j = i
  · subst hji; exact ⟨h1, h2⟩
  · exact h j (by omega)
theorem lf_ok {c0 : Nat → Nat → Int} {M n : Nat} {σ : Nat → Nat} {K : Nat → Int64} {pv : Int64} (hM : M ≤ 6) (hn : 1 ≤ n) (hc : ∀ t s, (c0 t s).natAbs ≤ 9) (hI : lf_I c0 M n (n - 1) σ K pv) : ltI n K M ↔ mx_ok c0 M (n - 1) σ := by
  have hnz := fun {i} (hi : i < M) => lf_nz hM hc hI (i := i) (q := n - 1) hi (Nat.le_refl _) (by omega)
  have hkM := (mx_sg_ok hI.1).1
  constructor
  · intro h
    exact ⟨hI.1, fun i hi q => (h i (by omega)).1 hi ((hnz (by omega)).mpr q), fun i h1 h2 => (hnz h2).mp ((h i h2).2 h1)⟩
  · intro h j hj
    exact ⟨fun h1 q => h.2.1 j h1 ((hnz hj).mp q), fun h1 => (hnz hj).mpr (h.2.2 j h1 hj)⟩
/-- what the answer of the elimination says -/
def lf_T (c0 : Nat → Nat → Int) (M n : Nat) (K : Nat → Int64) (pv : Int64) : Prop := ∃ σ, mx_ok c0 M (n - 1) σ ∧ pv = Int64.ofInt (mx_p c0 (n - 1) σ) ∧ ∀ i, i < n - 1 → K (i * 8 + (n - 1)) = Int64.ofInt (mx_X c0 (n - 1) σ i (c0 (n - 1)))
def lf_F (c0 : Nat → Nat → Int) (M n : Nat) : Prop := ∀ σ, ¬ mx_ok c0 M (n - 1) σ
theorem lf_F_small {c0 : Nat → Nat → Int} {M n : Nat} (h : M < n - 1) : lf_F c0 M n := fun σ hs => by
  have := (mx_sg_ok hs.1).1
  omega
theorem lf_F_none {c0 : Nat → Nat → Int} {M n k : Nat} (hk : k + 1 ≤ n - 1) (h : mx_sg c0 M (k + 1) = none) : lf_F c0 M n := fun σ hs => by
  have h1 := (mx_sg_none_le h hk).symm.trans hs.1
  cases h1
theorem lf_F_last {c0 : Nat → Nat → Int} {M n : Nat} {σ : Nat → Nat} {K : Nat → Int64} {pv : Int64} (hM : M ≤ 6) (hn : 1 ≤ n) (hc : ∀ t s, (c0 t s).natAbs ≤ 9) (hI : lf_I c0 M n (n - 1) σ K pv) (h : ¬ ltI n K M) : lf_F c0 M n := fun σ' hs => by
  have h1 : σ' = σ := Option.some.inj (hs.1.symm.trans hI.1)
  subst h1
  exact h ((lf_ok hM hn hc hI).mpr hs)
theorem lf_T_of {c0 : Nat → Nat → Int} {M n : Nat} {σ : Nat → Nat} {K : Nat → Int64} {pv : Int64} (hM : M ≤ 6) (hn : 1 ≤ n) (hc : ∀ t s, (c0 t s).natAbs ≤ 9) (hI : lf_I c0 M n (n - 1) σ K pv) (h : ltI n K M) : lf_T c0 M n K pv := by
  have hkM := (mx_sg_ok hI.1).1
  exact ⟨σ, (lf_ok hM hn hc hI).mp h, hI.2.1, fun i hi => hI.2.2 i (n - 1) (by omega) (Nat.le_refl _) (by omega)⟩
