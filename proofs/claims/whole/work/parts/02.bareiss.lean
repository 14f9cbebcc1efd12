/-- a column in the other ones' place, summed up along a row of the first k: Cramer -/
theorem mx_cramer : ∀ {k : Nat} (c : Nat → Nat → Int) (v : Nat → Int) {s : Nat}, s < k → mx_sm (fun t => c t s * mx_dt k (mx_mu c t v)) k = v s * mx_dt k c
  | 0, _, _, _, h => absurd h (Nat.not_lt_zero _)
  | k + 1, c, v, s, hs => by
    -- the determinants of size k + 1, by the last row
    have hA : ∀ t, t < k → mx_dt (k + 1) (mx_mu c t v) = c k k * mx_dt k (mx_mu c t v) - mx_sm (fun u => mx_mu c t v u k * mx_dt k (mx_mu (mx_mu c t v) u (c k))) k := by
      intro t ht
      rw [mx_dt_succ, mx_mu_ne (fun q => Nat.ne_of_lt ht q.symm)]
    have hB : mx_dt (k + 1) (mx_mu c k v) = v k * mx_dt k c - mx_sm (fun u => c u k * mx_dt k (mx_mu c u v)) k := by
      rw [mx_dt_succ, mx_mu_at, mx_dt_hi (Nat.le_refl k)]
      congr 1
      refine mx_sm_congr (fun a ha => ?_)
      rw [mx_mu_ne (Nat.ne_of_lt ha), mx_dt_hi2 (Nat.le_refl k) (Nat.ne_of_lt ha)]
    show mx_sm (fun t => c t s * mx_dt (k + 1) (mx_mu c t v)) k + c k s * mx_dt (k + 1) (mx_mu c k v) = _
    rw [hB, mx_sm_congr (g := fun t => c t s * (c k k * mx_dt k (mx_mu c t v)) - c t s * mx_sm (fun u => mx_mu c t v u k * mx_dt k (mx_mu (mx_mu c t v) u (c k))) k) (fun t ht => by rw [hA t ht, Int.mul_sub]), mx_sm_sub, mx_dt_succ]
    have e1 : mx_sm (fun t => c t s * (c k k * mx_dt k (mx_mu c t v))) k = c k k * mx_sm (fun t => c t s * mx_dt k (mx_mu c t v)) k := by
      rw [← mx_sm_mul]
      exact mx_sm_congr (fun t _ => by rw [Int.mul_left_comm])
    have e2 : mx_sm (fun t => c t s * mx_sm (fun u => mx_mu c t v u k * mx_dt k (mx_mu (mx_mu c t v) u (c k))) k) k = mx_sm (fun u => mx_sm (fun t => c t s * (mx_mu c t v u k * mx_dt k (mx_mu (mx_mu c t v) u (c k)))) k) k := by
      rw [← mx_sm_swap]
      exact mx_sm_congr (fun t _ => by rw [mx_sm_mul])
    rw [e1, e2]
    by_cases hsk : s = k
    · subst hsk
      have e3 : mx_sm (fun u => mx_sm (fun t => c t s * (mx_mu c t v u s * mx_dt s (mx_mu (mx_mu c t v) u (c s)))) s) s = v s * mx_sm (fun u => c u s * mx_dt s (mx_mu c u (c s))) s := by
        have e4 := mx_sm_anti (n := s) (F := fun u t => if t = u then 0 else c t s * c u s * (if t < s ∧ u < s then mx_dt s (mx_mu (mx_mu c t v) u (c s)) else 0)) (fun u t => by
          by_cases h : t = u
          · rw [if_pos h, if_pos h.symm]; rfl
          · rw [if_neg h, if_neg (show ¬ u = t from fun q => h q.symm)]
            by_cases h2 : t < s ∧ u < s
            · rw [if_pos h2, if_pos ⟨h2.2, h2.1⟩, mx_antis c v (c s) h h2.1 h2.2, mx_mu_comm c h]
              grind
            · rw [if_neg h2, if_neg (show ¬ (u < s ∧ t < s) from fun q => h2 ⟨q.2, q.1⟩)]
              omega)
        rw [← mx_sm_mul]
        have e5 : ∀ u, u < s → mx_sm (fun t => c t s * (mx_mu c t v u s * mx_dt s (mx_mu (mx_mu c t v) u (c s)))) s = mx_sm (fun t => if t = u then 0 else c t s * c u s * (if t < s ∧ u < s then mx_dt s (mx_mu (mx_mu c t v) u (c s)) else 0)) s + v s * (c u s * mx_dt s (mx_mu c u (c s))) := by
          intro u hu
          rw [mx_sm_upd (u := u) (g := fun t => if t = u then 0 else c t s * c u s * (if t < s ∧ u < s then mx_dt s (mx_mu (mx_mu c t v) u (c s)) else 0)) hu (fun t ht htu => by
            show _ = if t = u then 0 else _
            rw [if_neg htu, if_pos ⟨ht, hu⟩, mx_mu_ne (fun q => htu q.symm)]
            grind)]
          show _ + c u s * (mx_mu c u v u s * mx_dt s (mx_mu (mx_mu c u v) u (c s))) - (if u = u then 0 else _) = _
          rw [if_pos rfl, mx_mu_at, mx_mu_mu]
          grind
        rw [mx_sm_congr e5, mx_sm_add, e4]
        omega
      rw [e3]
      grind
    · have hsk' : s < k := by omega
      have hC := mx_cramer c v hsk'
      have hE := mx_cramer c (c k) hsk'
      have e3 : ∀ u, u < k → mx_sm (fun t => c t s * (mx_mu c t v u k * mx_dt k (mx_mu (mx_mu c t v) u (c k)))) k = v k * (c u s * mx_dt k (mx_mu c u (c k))) + (v s * (c u k * mx_dt k (mx_mu c u (c k))) - c k s * (c u k * mx_dt k (mx_mu c u v))) := by
        intro u hu
        have hU := mx_cramer (mx_mu c u (c k)) v hsk'
        rw [mx_sm_upd (u := u) (g := fun t => c u k * (mx_mu c u (c k) t s * mx_dt k (mx_mu (mx_mu c u (c k)) t v))) hu (fun t ht htu => by
          show _ = c u k * (mx_mu c u (c k) t s * mx_dt k (mx_mu (mx_mu c u (c k)) t v))
          rw [mx_mu_ne htu, mx_mu_ne (fun q => htu q.symm), mx_mu_comm c htu]
          grind), mx_sm_mul, hU]
        show _ + c u s * (mx_mu c u v u k * mx_dt k (mx_mu (mx_mu c u v) u (c k))) - c u k * (mx_mu c u (c k) u s * mx_dt k (mx_mu (mx_mu c u (c k)) u v)) = _
        rw [mx_mu_at, mx_mu_at, mx_mu_mu, mx_mu_mu]
        grind
      rw [mx_sm_congr e3, mx_sm_add, mx_sm_sub, mx_sm_mul, mx_sm_mul, mx_sm_mul, hC, hE]
      grind
/-- two columns put in, three terms -/
theorem mx_plucker {k : Nat} (c : Nat → Nat → Int) {a b : Nat} (hab : a ≠ b) (ha : a < k) (hb : b < k) (u w : Nat → Int) : mx_dt k c * mx_dt k (mx_mu (mx_mu c a u) b w) = mx_dt k (mx_mu c a u) * mx_dt k (mx_mu c b w) - mx_dt k (mx_mu c a w) * mx_dt k (mx_mu c b u) := by
  have h1 : mx_dt k c * mx_dt k (mx_mu (mx_mu c a u) b w) = mx_dt k (mx_mu (mx_mu c b w) a (fun s => mx_dt k c * u s)) := by
    rw [mx_smul _ ha, mx_mu_comm c hab]
  have h2 : mx_dt k (mx_mu (mx_mu c b w) a (fun s => mx_dt k c * u s)) = mx_dt k (mx_mu (mx_mu c b w) a (fun s => mx_sm (fun t => mx_dt k (mx_mu c t u) * c t s) k)) := by
    refine mx_dt_congr (fun t _ s hs => ?_)
    by_cases hta : t = a
    · subst hta
      rw [mx_mu_at, mx_mu_at]
      show mx_dt k c * u s = mx_sm (fun t => mx_dt k (mx_mu c t u) * c t s) k
      rw [Int.mul_comm, ← mx_cramer c u hs]
      exact mx_sm_congr (fun t _ => Int.mul_comm _ _)
    · rw [mx_mu_ne hta, mx_mu_ne hta]
  rw [h1, h2, mx_linsum _ ha, mx_sm_two (a := a) (b := b) ha hb hab (fun t ht hta htb => by
    rw [mx_alt' (c := mx_mu (mx_mu c b w) a (c t)) hta ht ha (by rw [mx_mu_at, mx_mu_ne hta, mx_mu_ne htb]), Int.mul_zero])]
  rw [mx_mu_comm c (fun q => hab q.symm) w (c a), mx_mu_self, mx_antis c w (c b) (fun q => hab q.symm) hb ha, mx_mu_self]
  grind
/-- row i ahead of the elimination's k-th step, of a column v: bordered -/
def mx_bo (k : Nat) (c : Nat → Nat → Int) (i : Nat) (v : Nat → Int) : Int := v i * mx_dt k c - mx_sm (fun t => c t i * mx_dt k (mx_mu c t v)) k
theorem mx_bo_dt (k : Nat) (c : Nat → Nat → Int) (v : Nat → Int) : mx_dt (k + 1) (mx_mu c k v) = mx_bo k c k v := by
  rw [mx_dt_succ, mx_mu_at, mx_dt_hi (Nat.le_refl k)]
  unfold mx_bo
  congr 1
  refine mx_sm_congr (fun a ha => ?_)
  rw [mx_mu_ne (Nat.ne_of_lt ha), mx_dt_hi2 (Nat.le_refl k) (Nat.ne_of_lt ha)]
theorem mx_bo_piv (k : Nat) (c : Nat → Nat → Int) : mx_dt (k + 1) c = mx_bo k c k (c k) := rfl
def mx_vl (k : Nat) (c : Nat → Nat → Int) (i : Nat) (v : Nat → Int) : Int := if i < k then mx_dt k (mx_mu c i v) else mx_bo k c i v
theorem mx_stepA {k : Nat} (c : Nat → Nat → Int) {i : Nat} (hi : i < k) (v : Nat → Int) : mx_dt k c * mx_dt (k + 1) (mx_mu c i v) = mx_dt (k + 1) c * mx_dt k (mx_mu c i v) - mx_dt k (mx_mu c i (c k)) * mx_bo k c k v := by
  rw [mx_dt_succ k (mx_mu c i v), mx_mu_ne (fun q => Nat.ne_of_lt hi q.symm), mx_dt_succ k c]
  unfold mx_bo
  have e1 : mx_sm (fun u => mx_dt k c * (mx_mu c i v u k * mx_dt k (mx_mu (mx_mu c i v) u (c k)))) k = mx_sm (fun u => mx_dt k (mx_mu c i v) * (c u k * mx_dt k (mx_mu c u (c k))) - mx_dt k (mx_mu c i (c k)) * (c u k * mx_dt k (mx_mu c u v))) k + mx_dt k c * (v k * mx_dt k (mx_mu c i (c k))) := by
    rw [mx_sm_upd (u := i) (g := fun u => mx_dt k (mx_mu c i v) * (c u k * mx_dt k (mx_mu c u (c k))) - mx_dt k (mx_mu c i (c k)) * (c u k * mx_dt k (mx_mu c u v))) hi (fun u hu hui => by
      show mx_dt k c * (mx_mu c i v u k * mx_dt k (mx_mu (mx_mu c i v) u (c k))) = mx_dt k (mx_mu c i v) * (c u k * mx_dt k (mx_mu c u (c k))) - mx_dt k (mx_mu c i (c k)) * (c u k * mx_dt k (mx_mu c u v))
      have hpl := mx_plucker c (fun q => hui q.symm) hi hu v (c k)
      rw [mx_mu_ne hui]
      grind)]
    show _ + mx_dt k c * (mx_mu c i v i k * mx_dt k (mx_mu (mx_mu c i v) i (c k))) - _ = _
    rw [mx_mu_at, mx_mu_mu]
    grind
  rw [mx_sm_mul, mx_sm_sub, mx_sm_mul, mx_sm_mul] at e1
  grind
theorem mx_stepC {k : Nat} (c : Nat → Nat → Int) (i : Nat) (v : Nat → Int) : mx_dt k c * mx_bo (k + 1) c i v = mx_dt (k + 1) c * mx_bo k c i v - mx_bo k c i (c k) * mx_bo k c k v := by
  have h1 : mx_bo (k + 1) c i v = v i * mx_dt (k + 1) c - (mx_sm (fun t => c t i * mx_dt (k + 1) (mx_mu c t v)) k + c k i * mx_bo k c k v) := by
    rw [← mx_bo_dt k c v]; rfl
  have h2 : mx_dt k c * mx_sm (fun t => c t i * mx_dt (k + 1) (mx_mu c t v)) k = mx_dt (k + 1) c * mx_sm (fun t => c t i * mx_dt k (mx_mu c t v)) k - mx_bo k c k v * mx_sm (fun t => c t i * mx_dt k (mx_mu c t (c k))) k := by
    rw [← mx_sm_mul, ← mx_sm_mul, ← mx_sm_mul, ← mx_sm_sub]
    refine mx_sm_congr (fun t ht => ?_)
    have hA := mx_stepA c ht v
    show mx_dt k c * (c t i * mx_dt (k + 1) (mx_mu c t v)) = mx_dt (k + 1) c * (c t i * mx_dt k (mx_mu c t v)) - mx_bo k c k v * (c t i * mx_dt k (mx_mu c t (c k)))
    grind
  rw [h1]
  unfold mx_bo at h2 ⊢
  grind
/-- one step of the elimination: every row but the pivot's -/
theorem mx_step {k : Nat} (c : Nat → Nat → Int) {i : Nat} (hi : i ≠ k) (v : Nat → Int) : mx_dt k c * mx_vl (k + 1) c i v = mx_dt (k + 1) c * mx_vl k c i v - mx_vl k c i (c k) * mx_vl k c k v := by
  unfold mx_vl
  rw [if_neg (Nat.lt_irrefl k)]
  by_cases h : i < k
  · rw [if_pos (Nat.lt_succ_of_lt h), if_pos h, if_pos h]
    exact mx_stepA c h v
  · rw [if_neg (by omega), if_neg h, if_neg h]
    exact mx_stepC c i v
theorem mx_step_k (k : Nat) (c : Nat → Nat → Int) (v : Nat → Int) : mx_vl (k + 1) c k v = mx_vl k c k v := by
  unfold mx_vl
  rw [if_pos (Nat.lt_succ_self k), if_neg (Nat.lt_irrefl k), mx_bo_dt]
/-! how large -/
def mx_B : Nat → Nat
  | 0 => 1
  | k + 1 => 9 * (k + 1) * mx_B k
theorem mx_sm_abs {f : Nat → Int} {b : Nat} : ∀ {n : Nat}, (∀ t, t < n → (f t).natAbs ≤ b) → (mx_sm f n).natAbs ≤ n * b
  | 0, _ => by rw [Nat.zero_mul]; exact Nat.le_refl 0
  | n + 1, h => by
    show (mx_sm f n + f n).natAbs ≤ (n + 1) * b
    have h1 := mx_sm_abs (n := n) (fun t ht => h t (Nat.lt_succ_of_lt ht))
    have h2 := h n (Nat.lt_succ_self n)
    have h3 := Int.natAbs_add_le (mx_sm f n) (f n)
    rw [Nat.succ_mul]
    omega
theorem mx_abs_mul {x y : Int} {a b : Nat} (hx : x.natAbs ≤ a) (hy : y.natAbs ≤ b) : (x * y).natAbs ≤ a * b := by
  rw [Int.natAbs_mul]
  exact Nat.mul_le_mul hx hy
theorem mx_abs_sub {x y : Int} {a b : Nat} (hx : x.natAbs ≤ a) (hy : y.natAbs ≤ b) : (x - y).natAbs ≤ a + b := by omega
theorem mx_dt_abs : ∀ {k : Nat} {c : Nat → Nat → Int}, (∀ t, t < k → ∀ s, s < k → (c t s).natAbs ≤ 9) → (mx_dt k c).natAbs ≤ mx_B k
  | 0, _, _ => Nat.le_refl 1
  | k + 1, c, h => by
    rw [mx_dt_succ]
    have h1 := mx_dt_abs (k := k) (c := c) (fun t ht s hs => h t (Nat.lt_succ_of_lt ht) s (Nat.lt_succ_of_lt hs))
    have h2 : ∀ t, t < k → (c t k * mx_dt k (mx_mu c t (c k))).natAbs ≤ 9 * mx_B k := by
      intro t ht
      refine mx_abs_mul (h t (Nat.lt_succ_of_lt ht) k (Nat.lt_succ_self k)) (mx_dt_abs (fun u hu s hs => ?_))
      by_cases hut : u = t
      · subst hut; rw [mx_mu_at]; exact h k (Nat.lt_succ_self k) s (Nat.lt_succ_of_lt hs)
      · rw [mx_mu_ne hut]; exact h u (Nat.lt_succ_of_lt hu) s (Nat.lt_succ_of_lt hs)
    have h3 := mx_abs_sub (mx_abs_mul (h k (Nat.lt_succ_self k) k (Nat.lt_succ_self k)) h1) (mx_sm_abs h2)
    refine Nat.le_trans h3 (Nat.le_of_eq ?_)
    show 9 * mx_B k + k * (9 * mx_B k) = 9 * (k + 1) * mx_B k
    grind
theorem mx_bo_abs {k : Nat} {c : Nat → Nat → Int} {i : Nat} {v : Nat → Int} (h : ∀ t, t < k → ∀ s, (c t s).natAbs ≤ 9) (hv : ∀ s, (v s).natAbs ≤ 9) : (mx_bo k c i v).natAbs ≤ mx_B (k + 1) := by
  unfold mx_bo
  have h1 := mx_dt_abs (k := k) (c := c) (fun t ht s _ => h t ht s)
  have h2 : ∀ t, t < k → (c t i * mx_dt k (mx_mu c t v)).natAbs ≤ 9 * mx_B k := by
    intro t ht
    refine mx_abs_mul (h t ht i) (mx_dt_abs (fun u hu s _ => ?_))
    by_cases hut : u = t
    · subst hut; rw [mx_mu_at]; exact hv s
    · rw [mx_mu_ne hut]; exact h u hu s
  have h3 := mx_abs_sub (mx_abs_mul (hv i) h1) (mx_sm_abs h2)
  refine Nat.le_trans h3 (Nat.le_of_eq ?_)
  show 9 * mx_B k + k * (9 * mx_B k) = 9 * (k + 1) * mx_B k
  grind
theorem mx_B_mono {a b : Nat} (h : a ≤ b) : mx_B a ≤ mx_B b := by
  induction b with
  | zero => rw [Nat.le_zero.mp h]; exact Nat.le_refl _
  | succ b ih =>
    rcases Nat.lt_or_ge a (b + 1) with h1 | h1
    · refine Nat.le_trans (ih (by omega)) ?_
      show mx_B b ≤ 9 * (b + 1) * mx_B b
      exact Nat.le_mul_of_pos_left _ (by omega)
    · rw [show a = b + 1 by omega]; exact Nat.le_refl _
theorem mx_B6 : mx_B 6 = 382637520 := by decide +kernel
/-- all that the elimination of at most six rows holds -/
theorem mx_vl_abs {k n : Nat} {c : Nat → Nat → Int} {i : Nat} {v : Nat → Int} (hn : n ≤ 6) (hk : k ≤ n) (hi : i < n) (h : ∀ t, t < k → ∀ s, (c t s).natAbs ≤ 9) (hv : ∀ s, (v s).natAbs ≤ 9) : (mx_vl k c i v).natAbs ≤ 382637520 := by
  rw [← mx_B6]
  unfold mx_vl
  by_cases h1 : i < k
  · rw [if_pos h1]
    refine Nat.le_trans (mx_dt_abs (fun u hu s _ => ?_)) (mx_B_mono (by omega))
    by_cases hut : u = i
    · subst hut; rw [mx_mu_at]; exact hv s
    · rw [mx_mu_ne hut]; exact h u hu s
  · rw [if_neg h1]
    exact Nat.le_trans (mx_bo_abs h hv) (mx_B_mono (by omega))
