/-! sums -/
def mx_sm (f : Nat → Int) : Nat → Int
  | 0 => 0
  | n + 1 => mx_sm f n + f n
theorem mx_sm_congr {f g : Nat → Int} : ∀ {n : Nat}, (∀ t, t < n → f t = g t) → mx_sm f n = mx_sm g n
  | 0, _ => rfl
  | n + 1, h => by
    show mx_sm f n + f n = mx_sm g n + g n
    rw [mx_sm_congr (n := n) (fun t ht => h t (Nat.lt_succ_of_lt ht)), h n (Nat.lt_succ_self n)]
theorem mx_sm_add (f g : Nat → Int) : ∀ n, mx_sm (fun t => f t + g t) n = mx_sm f n + mx_sm g n
  | 0 => rfl
  | n + 1 => by
    show mx_sm _ n + (f n + g n) = (mx_sm f n + f n) + (mx_sm g n + g n)
    rw [mx_sm_add f g n]; omega
theorem mx_sm_sub (f g : Nat → Int) : ∀ n, mx_sm (fun t => f t - g t) n = mx_sm f n - mx_sm g n
  | 0 => rfl
  | n + 1 => by
    show mx_sm _ n + (f n - g n) = (mx_sm f n + f n) - (mx_sm g n + g n)
    rw [mx_sm_sub f g n]; omega
theorem mx_sm_mul (a : Int) (f : Nat → Int) : ∀ n, mx_sm (fun t => a * f t) n = a * mx_sm f n
  | 0 => (Int.mul_zero a).symm
  | n + 1 => by
    show mx_sm _ n + a * f n = a * (mx_sm f n + f n)
    rw [mx_sm_mul a f n, Int.mul_add]
theorem mx_sm_zero {f : Nat → Int} : ∀ {n : Nat}, (∀ t, t < n → f t = 0) → mx_sm f n = 0
  | 0, _ => rfl
  | n + 1, h => by
    show mx_sm f n + f n = 0
    rw [mx_sm_zero (n := n) (fun t ht => h t (Nat.lt_succ_of_lt ht)), h n (Nat.lt_succ_self n)]; rfl
theorem mx_sm_upd {f g : Nat → Int} {u : Nat} : ∀ {n : Nat}, u < n → (∀ t, t < n → t ≠ u → f t = g t) → mx_sm f n = mx_sm g n + f u - g u
  | 0, h, _ => absurd h (Nat.not_lt_zero u)
  | n + 1, h, hg => by
    show mx_sm f n + f n = (mx_sm g n + g n) + f u - g u
    by_cases hu : u = n
    · subst hu
      rw [mx_sm_congr (f := f) (g := g) (n := u) (fun t ht => hg t (Nat.lt_succ_of_lt ht) (Nat.ne_of_lt ht))]
      omega
    · rw [mx_sm_upd (n := n) (by omega) (fun t ht => hg t (Nat.lt_succ_of_lt ht)), hg n (Nat.lt_succ_self n) (fun q => hu q.symm)]
      omega
theorem mx_sm_one {f : Nat → Int} {u n : Nat} (hu : u < n) (h : ∀ t, t < n → t ≠ u → f t = 0) : mx_sm f n = f u := by
  rw [mx_sm_upd (g := fun _ => 0) hu h, mx_sm_zero (fun _ _ => rfl)]; omega
theorem mx_sm_two {f : Nat → Int} {a b n : Nat} (ha : a < n) (hb : b < n) (hab : a ≠ b) (h : ∀ t, t < n → t ≠ a → t ≠ b → f t = 0) : mx_sm f n = f a + f b := by
  rw [mx_sm_upd (g := fun t => if t = b then f b else 0) ha (fun t ht hta => by
    show f t = if t = b then f b else 0
    by_cases htb : t = b
    · rw [if_pos htb, htb]
    · rw [if_neg htb]; exact h t ht hta htb)]
  rw [mx_sm_one (f := fun t => if t = b then f b else 0) hb (fun t _ htb => if_neg htb)]
  show (if b = b then f b else 0) + f a - (if a = b then f b else 0) = _
  rw [if_pos rfl, if_neg hab]; omega
theorem mx_sm_swap (F : Nat → Nat → Int) (n : Nat) : ∀ m, mx_sm (fun t => mx_sm (F t) n) m = mx_sm (fun u => mx_sm (fun t => F t u) m) n
  | 0 => (mx_sm_zero (fun _ _ => rfl)).symm
  | m + 1 => by
    show mx_sm (fun t => mx_sm (F t) n) m + mx_sm (F m) n = mx_sm (fun u => mx_sm (fun t => F t u) m + F m u) n
    rw [mx_sm_swap F n m, mx_sm_add]
theorem mx_sm_anti {F : Nat → Nat → Int} {n : Nat} (h : ∀ t u, F t u = - F u t) : mx_sm (fun t => mx_sm (F t) n) n = 0 := by
  have h1 := mx_sm_swap F n n
  have h2 : mx_sm (fun u => mx_sm (fun t => F t u) n) n = - mx_sm (fun t => mx_sm (F t) n) n := by
    have h3 : (fun u => mx_sm (fun t => F t u) n) = fun u => (-1) * mx_sm (F u) n := by
      funext u
      rw [← mx_sm_mul]
      refine mx_sm_congr (fun t _ => ?_)
      rw [h t u]; omega
    rw [h3, mx_sm_mul]; omega
  omega
/-! tuples of columns: c t s is the entry of column t in row s -/
def mx_mu (c : Nat → Nat → Int) (t : Nat) (v : Nat → Int) : Nat → Nat → Int := fun u => if u = t then v else c u
theorem mx_mu_at (c : Nat → Nat → Int) (t : Nat) (v : Nat → Int) : mx_mu c t v t = v := if_pos rfl
theorem mx_mu_ne {c : Nat → Nat → Int} {t u : Nat} {v : Nat → Int} (h : u ≠ t) : mx_mu c t v u = c u := if_neg h
theorem mx_mu_self (c : Nat → Nat → Int) (t : Nat) : mx_mu c t (c t) = c := by
  funext u
  by_cases h : u = t
  · subst h; exact mx_mu_at _ _ _
  · exact mx_mu_ne h
theorem mx_mu_mu (c : Nat → Nat → Int) (t : Nat) (v w : Nat → Int) : mx_mu (mx_mu c t v) t w = mx_mu c t w := by
  funext u
  by_cases h : u = t
  · subst h; rw [mx_mu_at, mx_mu_at]
  · rw [mx_mu_ne h, mx_mu_ne h, mx_mu_ne h]
theorem mx_mu_comm (c : Nat → Nat → Int) {t u : Nat} (h : t ≠ u) (v w : Nat → Int) : mx_mu (mx_mu c t v) u w = mx_mu (mx_mu c u w) t v := by
  funext x
  by_cases hu : x = u
  · subst hu; rw [mx_mu_at, mx_mu_ne (fun q => h q.symm), mx_mu_at]
  · by_cases ht : x = t
    · subst ht; rw [mx_mu_ne hu, mx_mu_at, mx_mu_at]
    · rw [mx_mu_ne hu, mx_mu_ne ht, mx_mu_ne ht, mx_mu_ne hu]
/-- the determinant of the first k columns in the first k rows -/
def mx_dt : Nat → (Nat → Nat → Int) → Int
  | 0, _ => 1
  | k + 1, c => c k k * mx_dt k c - mx_sm (fun t => c t k * mx_dt k (mx_mu c t (c k))) k
theorem mx_dt_succ (k : Nat) (c : Nat → Nat → Int) : mx_dt (k + 1) c = c k k * mx_dt k c - mx_sm (fun t => c t k * mx_dt k (mx_mu c t (c k))) k := rfl
theorem mx_dt_congr : ∀ {k : Nat} {c d : Nat → Nat → Int}, (∀ t, t < k → ∀ s, s < k → c t s = d t s) → mx_dt k c = mx_dt k d
  | 0, _, _, _ => rfl
  | k + 1, c, d, h => by
    rw [mx_dt_succ, mx_dt_succ, h k (Nat.lt_succ_self k) k (Nat.lt_succ_self k), mx_dt_congr (k := k) (fun t ht s hs => h t (Nat.lt_succ_of_lt ht) s (Nat.lt_succ_of_lt hs))]
    congr 1
    refine mx_sm_congr (fun t ht => ?_)
    rw [h t (Nat.lt_succ_of_lt ht) k (Nat.lt_succ_self k)]
    congr 1
    refine mx_dt_congr (fun u hu s hs => ?_)
    by_cases hut : u = t
    · subst hut; rw [mx_mu_at, mx_mu_at]; exact h k (Nat.lt_succ_self k) s (Nat.lt_succ_of_lt hs)
    · rw [mx_mu_ne hut, mx_mu_ne hut]; exact h u (Nat.lt_succ_of_lt hu) s (Nat.lt_succ_of_lt hs)
theorem mx_dt_hi {k t : Nat} (h : k ≤ t) (c : Nat → Nat → Int) (v : Nat → Int) : mx_dt k (mx_mu c t v) = mx_dt k c :=
  mx_dt_congr (fun u hu s _ => by rw [mx_mu_ne (by omega)])
theorem mx_dt_hi2 {k t u : Nat} (h : k ≤ t) (hu : u ≠ t) (c : Nat → Nat → Int) (v w : Nat → Int) : mx_dt k (mx_mu (mx_mu c t v) u w) = mx_dt k (mx_mu c u w) := by
  rw [mx_mu_comm c (fun q => hu q.symm), mx_dt_hi h]
theorem mx_lin : ∀ {k : Nat} (c : Nat → Nat → Int) {t : Nat}, t < k → ∀ (x y : Int) (u v : Nat → Int), mx_dt k (mx_mu c t (fun s => x * u s + y * v s)) = x * mx_dt k (mx_mu c t u) + y * mx_dt k (mx_mu c t v)
  | 0, _, _, h, _, _, _, _ => absurd h (Nat.not_lt_zero _)
  | k + 1, c, t, h, x, y, u, v => by
    by_cases ht : t = k
    · subst ht
      have hz : ∀ w : Nat → Int, mx_dt (t + 1) (mx_mu c t w) = w t * mx_dt t c - mx_sm (fun a => c a t * mx_dt t (mx_mu c a w)) t := by
        intro w
        rw [mx_dt_succ, mx_mu_at, mx_dt_hi (Nat.le_refl t)]
        congr 1
        refine mx_sm_congr (fun a ha => ?_)
        rw [mx_mu_ne (Nat.ne_of_lt ha), mx_dt_hi2 (Nat.le_refl t) (Nat.ne_of_lt ha)]
      rw [hz, hz, hz]
      have hs : mx_sm (fun a => c a t * mx_dt t (mx_mu c a (fun s => x * u s + y * v s))) t = x * mx_sm (fun a => c a t * mx_dt t (mx_mu c a u)) t + y * mx_sm (fun a => c a t * mx_dt t (mx_mu c a v)) t := by
        rw [← mx_sm_mul, ← mx_sm_mul, ← mx_sm_add]
        refine mx_sm_congr (fun a ha => ?_)
        rw [mx_lin c ha x y u v]
        grind
      rw [hs]
      grind
    · have htk : t < k := by omega
      have hkt : k ≠ t := fun q => ht q.symm
      have hz : ∀ w : Nat → Int, mx_dt (k + 1) (mx_mu c t w) = c k k * mx_dt k (mx_mu c t w) - mx_sm (fun a => mx_mu c t w a k * mx_dt k (mx_mu (mx_mu c t w) a (c k))) k := by
        intro w
        rw [mx_dt_succ, mx_mu_ne hkt]
      rw [hz, hz, hz, mx_lin c htk x y u v]
      have hs : mx_sm (fun a => mx_mu c t (fun s => x * u s + y * v s) a k * mx_dt k (mx_mu (mx_mu c t (fun s => x * u s + y * v s)) a (c k))) k = x * mx_sm (fun a => mx_mu c t u a k * mx_dt k (mx_mu (mx_mu c t u) a (c k))) k + y * mx_sm (fun a => mx_mu c t v a k * mx_dt k (mx_mu (mx_mu c t v) a (c k))) k := by
        rw [← mx_sm_mul, ← mx_sm_mul, ← mx_sm_add]
        refine mx_sm_congr (fun a ha => ?_)
        by_cases hat : a = t
        · subst hat
          rw [mx_mu_at, mx_mu_at, mx_mu_at, mx_mu_mu, mx_mu_mu, mx_mu_mu]
          grind
        · rw [mx_mu_ne hat, mx_mu_ne hat, mx_mu_ne hat, mx_mu_comm c (fun q => hat q.symm), mx_mu_comm c (fun q => hat q.symm), mx_mu_comm c (fun q => hat q.symm), mx_lin (mx_mu c a (c k)) htk x y u v]
          grind
      rw [hs]
      grind
theorem mx_smul {k : Nat} (c : Nat → Nat → Int) {t : Nat} (h : t < k) (x : Int) (u : Nat → Int) : mx_dt k (mx_mu c t (fun s => x * u s)) = x * mx_dt k (mx_mu c t u) := by
  have h1 := mx_lin c h x 0 u u
  have h2 : (fun s => x * u s + 0 * u s) = fun s => x * u s := by funext s; rw [Int.zero_mul, Int.add_zero]
  rw [h2, Int.zero_mul, Int.add_zero] at h1
  exact h1
theorem mx_addc {k : Nat} (c : Nat → Nat → Int) {t : Nat} (h : t < k) (u v : Nat → Int) : mx_dt k (mx_mu c t (fun s => u s + v s)) = mx_dt k (mx_mu c t u) + mx_dt k (mx_mu c t v) := by
  have h1 := mx_lin c h 1 1 u v
  have h2 : (fun s => 1 * u s + 1 * v s) = fun s => u s + v s := by funext s; rw [Int.one_mul, Int.one_mul]
  rw [h2, Int.one_mul, Int.one_mul] at h1
  exact h1
theorem mx_linsum {k : Nat} (c : Nat → Nat → Int) {a : Nat} (h : a < k) (x : Nat → Int) (q : Nat → Nat → Int) : ∀ n, mx_dt k (mx_mu c a (fun s => mx_sm (fun t => x t * q t s) n)) = mx_sm (fun t => x t * mx_dt k (mx_mu c a (q t))) n
  | 0 => by
    have h1 := mx_smul c h 0 (fun _ => 0)
    have h2 : (fun s => (0 : Int) * (fun _ => (0 : Int) : Nat → Int) s) = (fun s => mx_sm (fun t => x t * q t s) 0) := by
      funext s
      exact Int.zero_mul _
    rw [h2] at h1
    exact h1.trans (Int.zero_mul _)
  | n + 1 => by
    have h1 : (fun s => mx_sm (fun t => x t * q t s) (n + 1)) = fun s => 1 * (mx_sm (fun t => x t * q t s) n) + x n * q n s := by
      funext s; rw [Int.one_mul]; rfl
    rw [h1, mx_lin c h 1 (x n) (fun s => mx_sm (fun t => x t * q t s) n) (q n), mx_linsum c h x q n, Int.one_mul]
    rfl
/-- two columns alike: 0 -/
theorem mx_alt : ∀ {k : Nat} {c : Nat → Nat → Int} {a b : Nat}, a < b → b < k → c a = c b → mx_dt k c = 0
  | 0, _, _, _, _, h, _ => absurd h (Nat.not_lt_zero _)
  | k + 1, c, a, b, hab, hb, he => by
    have alt : ∀ (d : Nat → Nat → Int) (x y : Nat), x ≠ y → x < k → y < k → d x = d y → mx_dt k d = 0 := by
      intro d x y hxy hx hy hd
      rcases Nat.lt_or_gt_of_ne hxy with h | h
      · exact mx_alt h hy hd
      · exact mx_alt h hx hd.symm
    have anti : ∀ (d : Nat → Nat → Int) (x y : Nat) (u v : Nat → Int), x ≠ y → x < k → y < k → mx_dt k (mx_mu (mx_mu d x u) y v) = - mx_dt k (mx_mu (mx_mu d x v) y u) := by
      intro d x y u v hxy hx hy
      have z : ∀ w : Nat → Int, mx_dt k (mx_mu (mx_mu d x w) y w) = 0 := fun w => alt _ x y hxy hx hy (by rw [mx_mu_at, mx_mu_ne hxy, mx_mu_at])
      have e1 := z (fun s => u s + v s)
      rw [mx_addc _ hy, mx_mu_comm d hxy, mx_mu_comm d hxy, mx_addc _ hx, mx_addc _ hx, mx_mu_comm d (fun q => hxy q.symm), mx_mu_comm d (fun q => hxy q.symm), mx_mu_comm d (fun q => hxy q.symm), mx_mu_comm d (fun q => hxy q.symm), z u, z v] at e1
      omega
    rw [mx_dt_succ]
    by_cases hbk : b = k
    · subst hbk
      rw [mx_sm_one (u := a) hab (fun t ht hta => by
        rw [alt (mx_mu c t (c b)) t a hta ht hab (by rw [mx_mu_at, mx_mu_ne (fun q => hta q.symm), he]), Int.mul_zero])]
      rw [← he, mx_mu_self, he]
      omega
    · have hbk' : b < k := by omega
      have hak' : a < k := by omega
      have hne : a ≠ b := Nat.ne_of_lt hab
      rw [alt c a b hne hak' hbk' he, Int.mul_zero, mx_sm_two (a := a) (b := b) hak' hbk' hne (fun t ht hta htb => by
        rw [alt (mx_mu c t (c k)) a b hne hak' hbk' (by rw [mx_mu_ne (fun q => hta q.symm), mx_mu_ne (fun q => htb q.symm), he]), Int.mul_zero])]
      have h1 := anti c a b (c k) (c b) hne hak' hbk'
      rw [show mx_mu (mx_mu c a (c k)) b (c b) = mx_mu c a (c k) by
          rw [mx_mu_comm c hne, mx_mu_self],
        show mx_mu (mx_mu c a (c b)) b (c k) = mx_mu c b (c k) by
          rw [← he, mx_mu_self]] at h1
      rw [h1, he]
      grind
theorem mx_alt' {k : Nat} {c : Nat → Nat → Int} {a b : Nat} (hab : a ≠ b) (ha : a < k) (hb : b < k) (he : c a = c b) : mx_dt k c = 0 := by
  rcases Nat.lt_or_gt_of_ne hab with h | h
  · exact mx_alt h hb he
  · exact mx_alt h ha he.symm
theorem mx_antis {k : Nat} (d : Nat → Nat → Int) {x y : Nat} (u v : Nat → Int) (hxy : x ≠ y) (hx : x < k) (hy : y < k) : mx_dt k (mx_mu (mx_mu d x u) y v) = - mx_dt k (mx_mu (mx_mu d x v) y u) := by
  have z : ∀ w : Nat → Int, mx_dt k (mx_mu (mx_mu d x w) y w) = 0 := fun w => mx_alt' hxy hx hy (by rw [mx_mu_at, mx_mu_ne hxy, mx_mu_at])
  have e1 := z (fun s => u s + v s)
  rw [mx_addc _ hy, mx_mu_comm d hxy, mx_mu_comm d hxy, mx_addc _ hx, mx_addc _ hx, mx_mu_comm d (fun q => hxy q.symm), mx_mu_comm d (fun q => hxy q.symm), mx_mu_comm d (fun q => hxy q.symm), mx_mu_comm d (fun q => hxy q.symm), z u, z v] at e1
  omega
