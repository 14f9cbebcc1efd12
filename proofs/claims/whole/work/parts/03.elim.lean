/-! the elimination, row by row: which row is taken for the k-th column -/
def mx_first (p : Nat → Bool) : Nat → Nat → Option Nat
  | _, 0 => none
  | i, n + 1 => if p i = true then some i else mx_first p (i + 1) n
theorem mx_first_some {p : Nat → Bool} : ∀ {n k i : Nat}, mx_first p k n = some i → k ≤ i ∧ i < k + n ∧ p i = true
  | 0, _, _, h => by cases h
  | n + 1, k, i, h => by
    unfold mx_first at h
    by_cases hp : p k = true
    · rw [if_pos hp] at h
      cases h
      exact ⟨Nat.le_refl _, by omega, hp⟩
    · rw [if_neg hp] at h
      obtain ⟨h1, h2, h3⟩ := mx_first_some h
      exact ⟨by omega, by omega, h3⟩
theorem mx_first_none {p : Nat → Bool} : ∀ {n k : Nat}, (∀ j, k ≤ j → j < k + n → p j = false) → mx_first p k n = none
  | 0, _, _ => rfl
  | n + 1, k, h => by
    unfold mx_first
    rw [if_neg (by rw [h k (Nat.le_refl k) (by omega)]; decide)]
    exact mx_first_none (fun j h1 h2 => h j (by omega) (by omega))
theorem mx_first_at {p : Nat → Bool} : ∀ {n k i : Nat}, k ≤ i → i < k + n → p i = true → (∀ j, k ≤ j → j < i → p j = false) → mx_first p k n = some i
  | 0, _, _, h1, h2, _, _ => absurd h1 (by omega)
  | n + 1, k, i, h1, h2, hp, h => by
    unfold mx_first
    by_cases hk : k = i
    · subst hk
      rw [if_pos hp]
    · rw [if_neg (by rw [h k (Nat.le_refl k) (by omega)]; decide)]
      exact mx_first_at (by omega) (by omega) hp (fun j h1 h2 => h j (by omega) h2)
def mx_sw (k i : Nat) : Nat → Nat := fun s => if s = k then i else if s = i then k else s
theorem mx_sw_l (k i : Nat) : mx_sw k i k = i := if_pos rfl
theorem mx_sw_r (k i : Nat) : mx_sw k i i = k := by
  unfold mx_sw
  by_cases h : i = k
  · rw [if_pos h, h]
  · rw [if_neg h, if_pos rfl]
theorem mx_sw_o {k i s : Nat} (h1 : s ≠ k) (h2 : s ≠ i) : mx_sw k i s = s := by unfold mx_sw; rw [if_neg h1, if_neg h2]
theorem mx_sw_sw (k i s : Nat) : mx_sw k i (mx_sw k i s) = s := by
  by_cases h1 : s = k
  · subst h1; rw [mx_sw_l, mx_sw_r]
  · by_cases h2 : s = i
    · subst h2; rw [mx_sw_r, mx_sw_l]
    · rw [mx_sw_o h1 h2, mx_sw_o h1 h2]
theorem mx_sw_lt {k i s M : Nat} (hk : k < M) (hi : i < M) (hs : s < M) : mx_sw k i s < M := by
  unfold mx_sw
  split
  · exact hi
  · split
    · exact hk
    · exact hs
theorem mx_sw_ge {k i s : Nat} (hi : k ≤ i) (hs : k ≤ s) : k ≤ mx_sw k i s := by
  unfold mx_sw
  split
  · exact hi
  · split
    · exact Nat.le_refl k
    · exact hs
theorem mx_sw_lo {k i s : Nat} (hi : k ≤ i) (hs : s < k) : mx_sw k i s = s := mx_sw_o (by omega) (by omega)
def mx_tup (c0 : Nat → Nat → Int) (σ : Nat → Nat) : Nat → Nat → Int := fun t s => c0 t (σ s)
/-- the k-th pivot; the cell of row i of a column v0 ahead of the k-th step -/
def mx_p (c0 : Nat → Nat → Int) (k : Nat) (σ : Nat → Nat) : Int := mx_dt k (mx_tup c0 σ)
def mx_X (c0 : Nat → Nat → Int) (k : Nat) (σ : Nat → Nat) (i : Nat) (v0 : Nat → Int) : Int := mx_vl k (mx_tup c0 σ) i (fun s => v0 (σ s))
def mx_sg (c0 : Nat → Nat → Int) (M : Nat) : Nat → Option (Nat → Nat)
  | 0 => some (fun s => s)
  | k + 1 => match mx_sg c0 M k with
    | none => none
    | some σ => match mx_first (fun i => mx_X c0 k σ i (c0 k) != 0) k (M - k) with
      | none => none
      | some i => some (fun s => σ (mx_sw k i s))
theorem mx_sg_next {c0 : Nat → Nat → Int} {M k : Nat} {σ : Nat → Nat} {i : Nat} (h : mx_sg c0 M k = some σ) (h1 : mx_first (fun i => mx_X c0 k σ i (c0 k) != 0) k (M - k) = some i) : mx_sg c0 M (k + 1) = some (fun s => σ (mx_sw k i s)) := by
  show (match mx_sg c0 M k with | none => none | some σ => match mx_first (fun i => mx_X c0 k σ i (c0 k) != 0) k (M - k) with | none => none | some i => some (fun s => σ (mx_sw k i s))) = _
  rw [h]
  show (match mx_first (fun i => mx_X c0 k σ i (c0 k) != 0) k (M - k) with | none => none | some i => some (fun s => σ (mx_sw k i s))) = _
  rw [h1]
theorem mx_sg_fail {c0 : Nat → Nat → Int} {M k : Nat} {σ : Nat → Nat} (h : mx_sg c0 M k = some σ) (h1 : mx_first (fun i => mx_X c0 k σ i (c0 k) != 0) k (M - k) = none) : mx_sg c0 M (k + 1) = none := by
  show (match mx_sg c0 M k with | none => none | some σ => match mx_first (fun i => mx_X c0 k σ i (c0 k) != 0) k (M - k) with | none => none | some i => some (fun s => σ (mx_sw k i s))) = _
  rw [h]
  show (match mx_first (fun i => mx_X c0 k σ i (c0 k) != 0) k (M - k) with | none => none | some i => some (fun s => σ (mx_sw k i s))) = _
  rw [h1]
theorem mx_sg_none {c0 : Nat → Nat → Int} {M k : Nat} (h : mx_sg c0 M k = none) : mx_sg c0 M (k + 1) = none := by
  show (match mx_sg c0 M k with | none => none | some σ => match mx_first (fun i => mx_X c0 k σ i (c0 k) != 0) k (M - k) with | none => none | some i => some (fun s => σ (mx_sw k i s))) = _
  rw [h]
theorem mx_sg_none_le {c0 : Nat → Nat → Int} {M k : Nat} (h : mx_sg c0 M k = none) : ∀ {n : Nat}, k ≤ n → mx_sg c0 M n = none := by
  intro n hn
  induction n with
  | zero => rw [← Nat.le_zero.mp hn]; exact h
  | succ n ih =>
    rcases Nat.lt_or_ge n k with h1 | h1
    · rw [show n + 1 = k by omega]; exact h
    · exact mx_sg_none (ih h1)
theorem mx_sg_prev {c0 : Nat → Nat → Int} {M k : Nat} {σ' : Nat → Nat} (h : mx_sg c0 M (k + 1) = some σ') : ∃ σ i, mx_sg c0 M k = some σ ∧ mx_first (fun i => mx_X c0 k σ i (c0 k) != 0) k (M - k) = some i ∧ σ' = fun s => σ (mx_sw k i s) := by
  cases h0 : mx_sg c0 M k with
  | none => rw [mx_sg_none h0] at h; cases h
  | some σ =>
    cases h1 : mx_first (fun i => mx_X c0 k σ i (c0 k) != 0) k (M - k) with
    | none => rw [mx_sg_fail h0 h1] at h; cases h
    | some i =>
      rw [mx_sg_next h0 h1] at h
      exact ⟨σ, i, rfl, h1, (Option.some.inj h).symm⟩
/-! rows exchanged -/
theorem mx_p_sw (c0 : Nat → Nat → Int) {k i : Nat} (σ : Nat → Nat) (hi : k ≤ i) : mx_p c0 k (fun s => σ (mx_sw k i s)) = mx_p c0 k σ :=
  mx_dt_congr (fun t _ s hs => by show c0 t (σ (mx_sw k i s)) = c0 t (σ s); rw [mx_sw_lo hi hs])
theorem mx_dtmu_sw (c0 : Nat → Nat → Int) {k i : Nat} (σ : Nat → Nat) (hi : k ≤ i) (t : Nat) (v0 : Nat → Int) : mx_dt k (mx_mu (mx_tup c0 (fun s => σ (mx_sw k i s))) t (fun s => v0 (σ (mx_sw k i s)))) = mx_dt k (mx_mu (mx_tup c0 σ) t (fun s => v0 (σ s))) :=
  mx_dt_congr (fun u _ s hs => by
    by_cases h : u = t
    · subst h
      rw [mx_mu_at, mx_mu_at]
      show v0 (σ (mx_sw k i s)) = v0 (σ s)
      rw [mx_sw_lo hi hs]
    · rw [mx_mu_ne h, mx_mu_ne h]
      show c0 u (σ (mx_sw k i s)) = c0 u (σ s)
      rw [mx_sw_lo hi hs])
theorem mx_X_sw (c0 : Nat → Nat → Int) {k i : Nat} (σ : Nat → Nat) (hi : k ≤ i) (s : Nat) (v0 : Nat → Int) : mx_X c0 k (fun s => σ (mx_sw k i s)) s v0 = mx_X c0 k σ (mx_sw k i s) v0 := by
  unfold mx_X mx_vl
  by_cases hs : s < k
  · rw [mx_sw_lo hi hs, if_pos hs, if_pos hs]
    exact mx_dtmu_sw c0 σ hi s v0
  · have hs2 : ¬ mx_sw k i s < k := Nat.not_lt.mpr (mx_sw_ge hi (Nat.not_lt.mp hs))
    rw [if_neg hs, if_neg hs2]
    unfold mx_bo
    have h1 : mx_dt k (mx_tup c0 (fun s => σ (mx_sw k i s))) = mx_dt k (mx_tup c0 σ) := mx_p_sw c0 σ hi
    rw [h1]
    congr 1
    refine mx_sm_congr (fun t _ => ?_)
    rw [mx_dtmu_sw c0 σ hi t v0]
    rfl
theorem mx_X_0 (c0 : Nat → Nat → Int) (σ : Nat → Nat) (i : Nat) (v0 : Nat → Int) : mx_X c0 0 σ i v0 = v0 (σ i) := by
  unfold mx_X mx_vl
  rw [if_neg (Nat.not_lt_zero i)]
  show v0 (σ i) * 1 - 0 = v0 (σ i)
  omega
theorem mx_p_next (c0 : Nat → Nat → Int) (k : Nat) (σ : Nat → Nat) : mx_p c0 (k + 1) σ = mx_X c0 k σ k (c0 k) := by
  show mx_dt (k + 1) (mx_tup c0 σ) = mx_vl k (mx_tup c0 σ) k (mx_tup c0 σ k)
  unfold mx_vl
  rw [if_neg (Nat.lt_irrefl k)]
  exact mx_bo_piv k _
theorem mx_X_step (c0 : Nat → Nat → Int) {k i : Nat} (σ : Nat → Nat) (hi : i ≠ k) (v0 : Nat → Int) : mx_p c0 k σ * mx_X c0 (k + 1) σ i v0 = mx_X c0 k σ k (c0 k) * mx_X c0 k σ i v0 - mx_X c0 k σ i (c0 k) * mx_X c0 k σ k v0 := by
  rw [← mx_p_next]
  exact mx_step (mx_tup c0 σ) hi (fun s => v0 (σ s))
theorem mx_X_step_k (c0 : Nat → Nat → Int) (k : Nat) (σ : Nat → Nat) (v0 : Nat → Int) : mx_X c0 (k + 1) σ k v0 = mx_X c0 k σ k v0 := mx_step_k k (mx_tup c0 σ) (fun s => v0 (σ s))
/-- what holds along the way: as many rows as columns, the pivot isn't 0, the rows are the same ones -/
theorem mx_sg_ok {c0 : Nat → Nat → Int} {M : Nat} : ∀ {k : Nat} {σ : Nat → Nat}, mx_sg c0 M k = some σ → k ≤ M ∧ mx_p c0 k σ ≠ 0 ∧ (∀ s, s < M → σ s < M) ∧ ∃ τ : Nat → Nat, ∀ s, s < M → τ s < M ∧ σ (τ s) = s
  | 0, σ, h => by
    cases h
    exact ⟨Nat.zero_le M, by show (1 : Int) ≠ 0; decide, fun s hs => hs, fun s => s, fun s hs => ⟨hs, rfl⟩⟩
  | k + 1, σ', h => by
    obtain ⟨σ, i, h0, h1, rfl⟩ := mx_sg_prev h
    obtain ⟨hk, hp, hm, τ, hτ⟩ := mx_sg_ok h0
    obtain ⟨hi1, hi2, hi3⟩ := mx_first_some h1
    have hiM : i < M := by omega
    have hkM : k < M := by omega
    refine ⟨hkM, ?_, fun s hs => hm _ (mx_sw_lt hkM hiM hs), fun s => mx_sw k i (τ s), fun s hs => ⟨mx_sw_lt hkM hiM (hτ s hs).1, ?_⟩⟩
    · rw [mx_p_next, mx_X_sw c0 σ hi1, mx_sw_l]
      simpa using hi3
    · show σ (mx_sw k i (mx_sw k i (τ s))) = s
      rw [mx_sw_sw]
      exact (hτ s hs).2
/-- the set's columns (n = k + 1 of them) have one flow alone, and it uses each -/
def mx_ok (c0 : Nat → Nat → Int) (M k : Nat) (σ : Nat → Nat) : Prop := mx_sg c0 M k = some σ ∧ (∀ i, i < k → mx_X c0 k σ i (c0 k) ≠ 0) ∧ ∀ i, k ≤ i → i < M → mx_X c0 k σ i (c0 k) = 0
def mx_fl (c0 : Nat → Nat → Int) (k : Nat) (σ : Nat → Nat) (t : Nat) : Int := if t < k then - mx_X c0 k σ t (c0 k) else mx_p c0 k σ
theorem mx_fl_ne {c0 : Nat → Nat → Int} {M k : Nat} {σ : Nat → Nat} (h : mx_ok c0 M k σ) (t : Nat) : mx_fl c0 k σ t ≠ 0 := by
  unfold mx_fl
  split
  · rename_i ht
    have := h.2.1 t ht
    omega
  · exact (mx_sg_ok h.1).2.1
theorem mx_fl_ker {c0 : Nat → Nat → Int} {M k : Nat} {σ : Nat → Nat} (h : mx_ok c0 M k σ) {s : Nat} (hs : s < M) : mx_sm (fun t => mx_fl c0 k σ t * c0 t s) (k + 1) = 0 := by
  obtain ⟨hg, h1, h2⟩ := h
  obtain ⟨hk, hp, hm, τ, hτ⟩ := mx_sg_ok hg
  obtain ⟨ht, hts⟩ := hτ s hs
  rw [← hts]
  generalize τ s = r at ht
  show mx_sm (fun t => mx_fl c0 k σ t * c0 t (σ r)) k + mx_fl c0 k σ k * c0 k (σ r) = 0
  have e1 : mx_fl c0 k σ k = mx_p c0 k σ := if_neg (Nat.lt_irrefl k)
  have e2 : mx_sm (fun t => mx_fl c0 k σ t * c0 t (σ r)) k = (-1) * mx_sm (fun t => mx_tup c0 σ t r * mx_dt k (mx_mu (mx_tup c0 σ) t (mx_tup c0 σ k))) k := by
    rw [← mx_sm_mul]
    refine mx_sm_congr (fun t ht => ?_)
    have e3 : mx_fl c0 k σ t = - mx_dt k (mx_mu (mx_tup c0 σ) t (mx_tup c0 σ k)) := by
      unfold mx_fl mx_X mx_vl
      rw [if_pos ht, if_pos ht]
      rfl
    rw [e3]
    show _ * mx_tup c0 σ t r = _
    grind
  rw [e1, e2]
  rcases Nat.lt_or_ge r k with hr | hr
  · rw [mx_cramer _ _ hr]
    show -1 * (c0 k (σ r) * mx_p c0 k σ) + mx_p c0 k σ * c0 k (σ r) = 0
    grind
  · have h3 := h2 r hr ht
    unfold mx_X mx_vl at h3
    rw [if_neg (Nat.not_lt.mpr hr)] at h3
    have h4 : c0 k (σ r) * mx_p c0 k σ - mx_sm (fun t => mx_tup c0 σ t r * mx_dt k (mx_mu (mx_tup c0 σ) t (mx_tup c0 σ k))) k = 0 := h3
    grind
theorem mx_ker_one {c0 : Nat → Nat → Int} {M k : Nat} {σ : Nat → Nat} (hg : mx_sg c0 M k = some σ) (x : Nat → Int) (hx : ∀ s, s < M → mx_sm (fun t => x t * c0 t s) (k + 1) = 0) {i : Nat} (hi : i < k) : mx_p c0 k σ * x i = - mx_X c0 k σ i (c0 k) * x k := by
  obtain ⟨hk, hp, hm, -⟩ := mx_sg_ok hg
  have h1 := mx_linsum (k := k) (mx_tup c0 σ) hi x (mx_tup c0 σ) k
  rw [mx_sm_one (u := i) hi (fun t ht hti => by
    rw [mx_alt' (c := mx_mu (mx_tup c0 σ) i (mx_tup c0 σ t)) hti ht hi (by rw [mx_mu_at, mx_mu_ne hti]), Int.mul_zero]), mx_mu_self] at h1
  have h2 : mx_dt k (mx_mu (mx_tup c0 σ) i (fun s => mx_sm (fun t => x t * mx_tup c0 σ t s) k)) = mx_dt k (mx_mu (mx_tup c0 σ) i (fun s => (- x k) * mx_tup c0 σ k s)) := by
    refine mx_dt_congr (fun u _ s hs => ?_)
    by_cases hu : u = i
    · subst hu
      rw [mx_mu_at, mx_mu_at]
      have h3 : mx_sm (fun t => x t * c0 t (σ s)) k + x k * c0 k (σ s) = 0 := hx (σ s) (hm s (by omega))
      show mx_sm (fun t => x t * c0 t (σ s)) k = - x k * c0 k (σ s)
      grind
    · rw [mx_mu_ne hu, mx_mu_ne hu]
  rw [h2, mx_smul _ hi] at h1
  have h4 : mx_X c0 k σ i (c0 k) = mx_dt k (mx_mu (mx_tup c0 σ) i (mx_tup c0 σ k)) := by
    unfold mx_X mx_vl
    rw [if_pos hi]
    rfl
  rw [h4]
  show mx_dt k (mx_tup c0 σ) * x i = _
  grind
