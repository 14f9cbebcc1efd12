section
/-! sums -/
def mx_sm (f : Nat → Int) : Nat → Int
  | 0 => 0
  | n + 1 => mx_sm f n + f n
theorem mx_sm_congr {f g : Nat → Int} : ∀ {n : Nat}, (∀ t, t < n → f t = g t) → mx_sm f n = mx_sm g n
  | 0, _ => rfl
  | n + 1, h => by
    show mx_sm f n + f n = mx_sm g n + g n
    rw [mx_sm_congr (n := n) (fun t ht => h t (Nat.lt_succ_of_lt ht)), h n (Nat.lt_succ_self n)]
theorem mx_sm_add (f g : Nat → Int) : ∀ n, mx_sm (fun t => f t + g t) n = mx_sm f n + mx_sm g n
  | 0 => rfl
  | n + 1 => by
    show mx_sm _ n + (f n + g n) = (mx_sm f n + f n) + (mx_sm g n + g n)
    rw [mx_sm_add f g n]; omega
theorem mx_sm_sub (f g : Nat → Int) : ∀ n, mx_sm (fun t => f t - g t) n = mx_sm f n - mx_sm g n
  | 0 => rfl
  | n + 1 => by
    show mx_sm _ n + (f n - g n) = (mx_sm f n + f n) - (mx_sm g n + g n)
    rw [mx_sm_sub f g n]; omega
theorem mx_sm_mul (a : Int) (f : Nat → Int) : ∀ n, mx_sm (fun t => a * f t) n = a * mx_sm f n
  | 0 => (Int.mul_zero a).symm
  | n + 1 => by
    show mx_sm _ n + a * f n = a * (mx_sm f n + f n)
    rw [mx_sm_mul a f n, Int.mul_add]
theorem mx_sm_zero {f : Nat → Int} : ∀ {n : Nat}, (∀ t, t < n → f t = 0) → mx_sm f n = 0
  | 0, _ => rfl
  | n + 1, h => by
    show mx_sm f n + f n = 0
    rw [mx_sm_zero (n := n) (fun t ht => h t (Nat.lt_succ_of_lt ht)), h n (Nat.lt_succ_self n)]; rfl
theorem mx_sm_upd {f g : Nat → Int} {u : Nat} : ∀ {n : Nat}, u < n → (∀ t, t < n → t ≠ u → f t = g t) → mx_sm f n = mx_sm g n + f u - g u
  | 0, h, _ => absurd h (Nat.not_lt_zero u)
  | n + 1, h, hg => by
    show mx_sm f n + f n = (mx_sm g n + g n) + f u - g u
    by_cases hu : u = n
    · subst hu
      rw [mx_sm_congr (f := f) (g := g) (n := u) (fun t ht => hg t (Nat.lt_succ_of_lt ht) (Nat.ne_of_lt ht))]
      omega
    · rw [mx_sm_upd (n := n) (by omega) (fun t ht => hg t (Nat.lt_succ_of_lt ht)), hg n (Nat.lt_succ_self n) (fun q => hu q.symm)]
      omega
theorem mx_sm_one {f : Nat → Int} {u n : Nat} (hu : u < n) (h : ∀ t, t < n → t ≠ u → f t = 0) : mx_sm f n = f u := by
  rw [mx_sm_upd (g := fun _ => 0) hu h, mx_sm_zero (fun _ _ => rfl)]; omega
theorem mx_sm_two {f : Nat → Int} {a b n : Nat} (ha : a < n) (hb : b < n) (hab : a ≠ b) (h : ∀ t, t < n → t ≠ a → t ≠ b → f t = 0) : mx_sm f n = f a + f b := by
  rw [mx_sm_upd (g := fun t => if t = b then f b else 0) ha (fun t ht hta => by
    show f t = if t = b then f b else 0
    by_cases htb : t = b
    · rw [if_pos htb, htb]
    · rw [if_neg htb]; exact h t ht hta htb)]
  rw [mx_sm_one (f := fun t => if t = b then f b else 0) hb (fun t _ htb => if_neg htb)]
  show (if b = b then f b else 0) + f a - (if a = b then f b else 0) = _
  rw [if_pos rfl, if_neg hab]; omega
theorem mx_sm_swap (F : Nat → Nat → Int) (n : Nat) : ∀ m, mx_sm (fun t => mx_sm (F t) n) m = mx_sm (fun u => mx_sm (fun t => F t u) m) n
  | 0 => (mx_sm_zero (fun _ _ => rfl)).symm
  | m + 1 => by
    show mx_sm (fun t => mx_sm (F t) n) m + mx_sm (F m) n = mx_sm (fun u => mx_sm (fun t => F t u) m + F m u) n
    rw [mx_sm_swap F n m, mx_sm_add]
theorem mx_sm_anti {F : Nat → Nat → Int} {n : Nat} (h : ∀ t u, F t u = - F u t) : mx_sm (fun t => mx_sm (F t) n) n = 0 := by
  have h1 := mx_sm_swap F n n
  have h2 : mx_sm (fun u => mx_sm (fun t => F t u) n) n = - mx_sm (fun t => mx_sm (F t) n) n := by
    have h3 : (fun u => mx_sm (fun t => F t u) n) = fun u => (-1) * mx_sm (F u) n := by
      funext u
      rw [← mx_sm_mul]
      refine mx_sm_congr (fun t _ => ?_)
      rw [h t u]; omega
    rw [h3, mx_sm_mul]; omega
  omega
/-! tuples of columns: c t s is the entry of column t in row s -/
def mx_mu (c : Nat → Nat → Int) (t : Nat) (v : Nat → Int) : Nat → Nat → Int := fun u => if u = t then v else c u
theorem mx_mu_at (c : Nat → Nat → Int) (t : Nat) (v : Nat → Int) : mx_mu c t v t = v := if_pos rfl
theorem mx_mu_ne {c : Nat → Nat → Int} {t u : Nat} {v : Nat → Int} (h : u ≠ t) : mx_mu c t v u = c u := if_neg h
theorem mx_mu_self (c : Nat → Nat → Int) (t : Nat) : mx_mu c t (c t) = c := by
  funext u
  by_cases h : u = t
  · subst h; exact mx_mu_at _ _ _
  · exact mx_mu_ne h
theorem mx_mu_mu (c : Nat → Nat → Int) (t : Nat) (v w : Nat → Int) : mx_mu (mx_mu c t v) t w = mx_mu c t w := by
  funext u
  by_cases h : u = t
  · subst h; rw [mx_mu_at, mx_mu_at]
  · rw [mx_mu_ne h, mx_mu_ne h, mx_mu_ne h]
theorem mx_mu_comm (c : Nat → Nat → Int) {t u : Nat} (h : t ≠ u) (v w : Nat → Int) : mx_mu (mx_mu c t v) u w = mx_mu (mx_mu c u w) t v := by
  funext x
  by_cases hu : x = u
  · subst hu; rw [mx_mu_at, mx_mu_ne (fun q => h q.symm), mx_mu_at]
  · by_cases ht : x = t
    · subst ht; rw [mx_mu_ne hu, mx_mu_at, mx_mu_at]
    · rw [mx_mu_ne hu, mx_mu_ne ht, mx_mu_ne ht, mx_mu_ne hu]
/-- the determinant of the first k columns in the first k rows -/
def mx_dt : Nat → (Nat → Nat → Int) → Int
  | 0, _ => 1
  | k + 1, c => c k k * mx_dt k c - mx_sm (fun t => c t k * mx_dt k (mx_mu c t (c k))) k
theorem mx_dt_succ (k : Nat) (c : Nat → Nat → Int) : mx_dt (k + 1) c = c k k * mx_dt k c - mx_sm (fun t => c t k * mx_dt k (mx_mu c t (c k))) k := rfl
theorem mx_dt_congr : ∀ {k : Nat} {c d : Nat → Nat → Int}, (∀ t, t < k → ∀ s, s < k → c t s = d t s) → mx_dt k c = mx_dt k d
  | 0, _, _, _ => rfl
  | k + 1, c, d, h => by
    rw [mx_dt_succ, mx_dt_succ, h k (Nat.lt_succ_self k) k (Nat.lt_succ_self k), mx_dt_congr (k := k) (fun t ht s hs => h t (Nat.lt_succ_of_lt ht) s (Nat.lt_succ_of_lt hs))]
    congr 1
    refine mx_sm_congr (fun t ht => ?_)
    rw [h t (Nat.lt_succ_of_lt ht) k (Nat.lt_succ_self k)]
    congr 1
    refine mx_dt_congr (fun u hu s hs => ?_)
    by_cases hut : u = t
    · subst hut; rw [mx_mu_at, mx_mu_at]; exact h k (Nat.lt_succ_self k) s (Nat.lt_succ_of_lt hs)
    · rw [mx_mu_ne hut, mx_mu_ne hut]; exact h u (Nat.lt_succ_of_lt hu) s (Nat.lt_succ_of_lt hs)
theorem mx_dt_hi {k t : Nat} (h : k ≤ t) (c : Nat → Nat → Int) (v : Nat → Int) : mx_dt k (mx_mu c t v) = mx_dt k c :=
  mx_dt_congr (fun u hu s _ => by rw [mx_mu_ne (by omega)])
theorem mx_dt_hi2 {k t u : Nat} (h : k ≤ t) (hu : u ≠ t) (c : Nat → Nat → Int) (v w : Nat → Int) : mx_dt k (mx_mu (mx_mu c t v) u w) = mx_dt k (mx_mu c u w) := by
  rw [mx_mu_comm c (fun q => hu q.symm), mx_dt_hi h]
theorem mx_lin : ∀ {k : Nat} (c : Nat → Nat → Int) {t : Nat}, t < k → ∀ (x y : Int) (u v : Nat → Int), mx_dt k (mx_mu c t (fun s => x * u s + y * v s)) = x * mx_dt k (mx_mu c t u) + y * mx_dt k (mx_mu c t v)
  | 0, _, _, h, _, _, _, _ => absurd h (Nat.not_lt_zero _)
  | k + 1, c, t, h, x, y, u, v => by
    by_cases ht : t = k
    · subst ht
      have hz : ∀ w : Nat → Int, mx_dt (t + 1) (mx_mu c t w) = w t * mx_dt t c - mx_sm (fun a => c a t * mx_dt t (mx_mu c a w)) t := by
        intro w
        rw [mx_dt_succ, mx_mu_at, mx_dt_hi (Nat.le_refl t)]
        congr 1
        refine mx_sm_congr (fun a ha => ?_)
        rw [mx_mu_ne (Nat.ne_of_lt ha), mx_dt_hi2 (Nat.le_refl t) (Nat.ne_of_lt ha)]
      rw [hz, hz, hz]
      have hs : mx_sm (fun a => c a t * mx_dt t (mx_mu c a (fun s => x * u s + y * v s))) t = x * mx_sm (fun a => c a t * mx_dt t (mx_mu c a u)) t + y * mx_sm (fun a => c a t * mx_dt t (mx_mu c a v)) t := by
        rw [← mx_sm_mul, ← mx_sm_mul, ← mx_sm_add]
        refine mx_sm_congr (fun a ha => ?_)
        rw [mx_lin c ha x y u v]
        grind
      rw [hs]
      grind
    · have htk : t < k := by omega
      have hkt : k ≠ t := fun q => ht q.symm
      have hz : ∀ w : Nat → Int, mx_dt (k + 1) (mx_mu c t w) = c k k * mx_dt k (mx_mu c t w) - mx_sm (fun a => mx_mu c t w a k * mx_dt k (mx_mu (mx_mu c t w) a (c k))) k := by
        intro w
        rw [mx_dt_succ, mx_mu_ne hkt]
      rw [hz, hz, hz, mx_lin c htk x y u v]
      have hs : mx_sm (fun a => mx_mu c t (fun s => x * u s + y * v s) a k * mx_dt k (mx_mu (mx_mu c t (fun s => x * u s + y * v s)) a (c k))) k = x * mx_sm (fun a => mx_mu c t u a k * mx_dt k (mx_mu (mx_mu c t u) a (c k))) k + y * mx_sm (fun a => mx_mu c t v a k * mx_dt k (mx_mu (mx_mu c t v) a (c k))) k := by
        rw [← mx_sm_mul, ← mx_sm_mul, ← mx_sm_add]
        refine mx_sm_congr (fun a ha => ?_)
        by_cases hat : a = t
        · subst hat
          rw [mx_mu_at, mx_mu_at, mx_mu_at, mx_mu_mu, mx_mu_mu, mx_mu_mu]
          grind
        · rw [mx_mu_ne hat, mx_mu_ne hat, mx_mu_ne hat, mx_mu_comm c (fun q => hat q.symm), mx_mu_comm c (fun q => hat q.symm), mx_mu_comm c (fun q => hat q.symm), mx_lin (mx_mu c a (c k)) htk x y u v]
          grind
      rw [hs]
      grind
theorem mx_smul {k : Nat} (c : Nat → Nat → Int) {t : Nat} (h : t < k) (x : Int) (u : Nat → Int) : mx_dt k (mx_mu c t (fun s => x * u s)) = x * mx_dt k (mx_mu c t u) := by
  have h1 := mx_lin c h x 0 u u
  have h2 : (fun s => x * u s + 0 * u s) = fun s => x * u s := by funext s; rw [Int.zero_mul, Int.add_zero]
  rw [h2, Int.zero_mul, Int.add_zero] at h1
  exact h1
theorem mx_addc {k : Nat} (c : Nat → Nat → Int) {t : Nat} (h : t < k) (u v : Nat → Int) : mx_dt k (mx_mu c t (fun s => u s + v s)) = mx_dt k (mx_mu c t u) + mx_dt k (mx_mu c t v) := by
  have h1 := mx_lin c h 1 1 u v
  have h2 : (fun s => 1 * u s + 1 * v s) = fun s => u s + v s := by funext s; rw [Int.one_mul, Int.one_mul]
  rw [h2, Int.one_mul, Int.one_mul] at h1
  exact h1
theorem mx_linsum {k : Nat} (c : Nat → Nat → Int) {a : Nat} (h : a < k) (x : Nat → Int) (q : Nat → Nat → Int) : ∀ n, mx_dt k (mx_mu c a (fun s => mx_sm (fun t => x t * q t s) n)) = mx_sm (fun t => x t * mx_dt k (mx_mu c a (q t))) n
  | 0 => by
    have h1 := mx_smul c h 0 (fun _ => 0)
    have h2 : (fun s => (0 : Int) * (fun _ => (0 : Int) : Nat → Int) s) = (fun s => mx_sm (fun t => x t * q t s) 0) := by
      funext s
      exact Int.zero_mul _
    rw [h2] at h1
    exact h1.trans (Int.zero_mul _)
  | n + 1 => by
    have h1 : (fun s => mx_sm (fun t => x t * q t s) (n + 1)) = fun s => 1 * (mx_sm (fun t => x t * q t s) n) + x n * q n s := by
      funext s; rw [Int.one_mul]; rfl
    rw [h1, mx_lin c h 1 (x n) (fun s => mx_sm (fun t => x t * q t s) n) (q n), mx_linsum c h x q n, Int.one_mul]
    rfl
/-- two columns alike: 0 -/
theorem mx_alt : ∀ {k : Nat} {c : Nat → Nat → Int} {a b : Nat}, a < b → b < k → c a = c b → mx_dt k c = 0
  | 0, _, _, _, _, h, _ => absurd h (Nat.not_lt_zero _)
  | k + 1, c, a, b, hab, hb, he => by
    have alt : ∀ (d : Nat → Nat → Int) (x y : Nat), x ≠ y → x < k → y < k → d x = d y → mx_dt k d = 0 := by
      intro d x y hxy hx hy hd
      rcases Nat.lt_or_gt_of_ne hxy with h | h
      · exact mx_alt h hy hd
      · exact mx_alt h hx hd.symm
    have anti : ∀ (d : Nat → Nat → Int) (x y : Nat) (u v : Nat → Int), x ≠ y → x < k → y < k → mx_dt k (mx_mu (mx_mu d x u) y v) = - mx_dt k (mx_mu (mx_mu d x v) y u) := by
      intro d x y u v hxy hx hy
      have z : ∀ w : Nat → Int, mx_dt k (mx_mu (mx_mu d x w) y w) = 0 := fun w => alt _ x y hxy hx hy (by rw [mx_mu_at, mx_mu_ne hxy, mx_mu_at])
      have e1 := z (fun s => u s + v s)
      rw [mx_addc _ hy, mx_mu_comm d hxy, mx_mu_comm d hxy, mx_addc _ hx, mx_addc _ hx, mx_mu_comm d (fun q => hxy q.symm), mx_mu_comm d (fun q => hxy q.symm), mx_mu_comm d (fun q => hxy q.symm), mx_mu_comm d (fun q => hxy q.symm), z u, z v] at e1
      omega
    rw [mx_dt_succ]
    by_cases hbk : b = k
    · subst hbk
      rw [mx_sm_one (u := a) hab (fun t ht hta => by
        rw [alt (mx_mu c t (c b)) t a hta ht hab (by rw [mx_mu_at, mx_mu_ne (fun q => hta q.symm), he]), Int.mul_zero])]
      rw [← he, mx_mu_self, he]
      omega
    · have hbk' : b < k := by omega
      have hak' : a < k := by omega
      have hne : a ≠ b := Nat.ne_of_lt hab
      rw [alt c a b hne hak' hbk' he, Int.mul_zero, mx_sm_two (a := a) (b := b) hak' hbk' hne (fun t ht hta htb => by
        rw [alt (mx_mu c t (c k)) a b hne hak' hbk' (by rw [mx_mu_ne (fun q => hta q.symm), mx_mu_ne (fun q => htb q.symm), he]), Int.mul_zero])]
      have h1 := anti c a b (c k) (c b) hne hak' hbk'
      rw [show mx_mu (mx_mu c a (c k)) b (c b) = mx_mu c a (c k) by
          rw [mx_mu_comm c hne, mx_mu_self],
        show mx_mu (mx_mu c a (c b)) b (c k) = mx_mu c b (c k) by
          rw [← he, mx_mu_self]] at h1
      rw [h1, he]
      grind
theorem mx_alt' {k : Nat} {c : Nat → Nat → Int} {a b : Nat} (hab : a ≠ b) (ha : a < k) (hb : b < k) (he : c a = c b) : mx_dt k c = 0 := by
  rcases Nat.lt_or_gt_of_ne hab with h | h
  · exact mx_alt h hb he
  · exact mx_alt h ha he.symm
theorem mx_antis {k : Nat} (d : Nat → Nat → Int) {x y : Nat} (u v : Nat → Int) (hxy : x ≠ y) (hx : x < k) (hy : y < k) : mx_dt k (mx_mu (mx_mu d x u) y v) = - mx_dt k (mx_mu (mx_mu d x v) y u) := by
  have z : ∀ w : Nat → Int, mx_dt k (mx_mu (mx_mu d x w) y w) = 0 := fun w => mx_alt' hxy hx hy (by rw [mx_mu_at, mx_mu_ne hxy, mx_mu_at])
  have e1 := z (fun s => u s + v s)
  rw [mx_addc _ hy, mx_mu_comm d hxy, mx_mu_comm d hxy, mx_addc _ hx, mx_addc _ hx, mx_mu_comm d (fun q => hxy q.symm), mx_mu_comm d (fun q => hxy q.symm), mx_mu_comm d (fun q => hxy q.symm), mx_mu_comm d (fun q => hxy q.symm), z u, z v] at e1
  omega
end
section
/-- a column in the other ones' place, summed up along a row of the first k: Cramer -/
theorem mx_cramer : ∀ {k : Nat} (c : Nat → Nat → Int) (v : Nat → Int) {s : Nat}, s < k → mx_sm (fun t => c t s * mx_dt k (mx_mu c t v)) k = v s * mx_dt k c
  | 0, _, _, _, h => absurd h (Nat.not_lt_zero _)
  | k + 1, c, v, s, hs => by
    -- the determinants of size k + 1, by the last row
    have hA : ∀ t, t < k → mx_dt (k + 1) (mx_mu c t v) = c k k * mx_dt k (mx_mu c t v) - mx_sm (fun u => mx_mu c t v u k * mx_dt k (mx_mu (mx_mu c t v) u (c k))) k := by
      intro t ht
      rw [mx_dt_succ, mx_mu_ne (fun q => Nat.ne_of_lt ht q.symm)]
    have hB : mx_dt (k + 1) (mx_mu c k v) = v k * mx_dt k c - mx_sm (fun u => c u k * mx_dt k (mx_mu c u v)) k := by
      rw [mx_dt_succ, mx_mu_at, mx_dt_hi (Nat.le_refl k)]
      congr 1
      refine mx_sm_congr (fun a ha => ?_)
      rw [mx_mu_ne (Nat.ne_of_lt ha), mx_dt_hi2 (Nat.le_refl k) (Nat.ne_of_lt ha)]
    show mx_sm (fun t => c t s * mx_dt (k + 1) (mx_mu c t v)) k + c k s * mx_dt (k + 1) (mx_mu c k v) = _
    rw [hB, mx_sm_congr (g := fun t => c t s * (c k k * mx_dt k (mx_mu c t v)) - c t s * mx_sm (fun u => mx_mu c t v u k * mx_dt k (mx_mu (mx_mu c t v) u (c k))) k) (fun t ht => by rw [hA t ht, Int.mul_sub]), mx_sm_sub, mx_dt_succ]
    have e1 : mx_sm (fun t => c t s * (c k k * mx_dt k (mx_mu c t v))) k = c k k * mx_sm (fun t => c t s * mx_dt k (mx_mu c t v)) k := by
      rw [← mx_sm_mul]
      exact mx_sm_congr (fun t _ => by rw [Int.mul_left_comm])
    have e2 : mx_sm (fun t => c t s * mx_sm (fun u => mx_mu c t v u k * mx_dt k (mx_mu (mx_mu c t v) u (c k))) k) k = mx_sm (fun u => mx_sm (fun t => c t s * (mx_mu c t v u k * mx_dt k (mx_mu (mx_mu c t v) u (c k)))) k) k := by
      rw [← mx_sm_swap]
      exact mx_sm_congr (fun t _ => by rw [mx_sm_mul])
    rw [e1, e2]
    by_cases hsk : s = k
    · subst hsk
      have e3 : mx_sm (fun u => mx_sm (fun t => c t s * (mx_mu c t v u s * mx_dt s (mx_mu (mx_mu c t v) u (c s)))) s) s = v s * mx_sm (fun u => c u s * mx_dt s (mx_mu c u (c s))) s := by
        have e4 := mx_sm_anti (n := s) (F := fun u t => if t = u then 0 else c t s * c u s * (if t < s ∧ u < s then mx_dt s (mx_mu (mx_mu c t v) u (c s)) else 0)) (fun u t => by
          by_cases h : t = u
          · rw [if_pos h, if_pos h.symm]; rfl
          · rw [if_neg h, if_neg (show ¬ u = t from fun q => h q.symm)]
            by_cases h2 : t < s ∧ u < s
            · rw [if_pos h2, if_pos ⟨h2.2, h2.1⟩, mx_antis c v (c s) h h2.1 h2.2, mx_mu_comm c h]
              grind
            · rw [if_neg h2, if_neg (show ¬ (u < s ∧ t < s) from fun q => h2 ⟨q.2, q.1⟩)]
              omega)
        rw [← mx_sm_mul]
        have e5 : ∀ u, u < s → mx_sm (fun t => c t s * (mx_mu c t v u s * mx_dt s (mx_mu (mx_mu c t v) u (c s)))) s = mx_sm (fun t => if t = u then 0 else c t s * c u s * (if t < s ∧ u < s then mx_dt s (mx_mu (mx_mu c t v) u (c s)) else 0)) s + v s * (c u s * mx_dt s (mx_mu c u (c s))) := by
          intro u hu
          rw [mx_sm_upd (u := u) (g := fun t => if t = u then 0 else c t s * c u s * (if t < s ∧ u < s then mx_dt s (mx_mu (mx_mu c t v) u (c s)) else 0)) hu (fun t ht htu => by
            show _ = if t = u then 0 else _
            rw [if_neg htu, if_pos ⟨ht, hu⟩, mx_mu_ne (fun q => htu q.symm)]
            grind)]
          show _ + c u s * (mx_mu c u v u s * mx_dt s (mx_mu (mx_mu c u v) u (c s))) - (if u = u then 0 else _) = _
          rw [if_pos rfl, mx_mu_at, mx_mu_mu]
          grind
        rw [mx_sm_congr e5, mx_sm_add, e4]
        omega
      rw [e3]
      grind
    · have hsk' : s < k := by omega
      have hC := mx_cramer c v hsk'
      have hE := mx_cramer c (c k) hsk'
      have e3 : ∀ u, u < k → mx_sm (fun t => c t s * (mx_mu c t v u k * mx_dt k (mx_mu (mx_mu c t v) u (c k)))) k = v k * (c u s * mx_dt k (mx_mu c u (c k))) + (v s * (c u k * mx_dt k (mx_mu c u (c k))) - c k s * (c u k * mx_dt k (mx_mu c u v))) := by
        intro u hu
        have hU := mx_cramer (mx_mu c u (c k)) v hsk'
        rw [mx_sm_upd (u := u) (g := fun t => c u k * (mx_mu c u (c k) t s * mx_dt k (mx_mu (mx_mu c u (c k)) t v))) hu (fun t ht htu => by
          show _ = c u k * (mx_mu c u (c k) t s * mx_dt k (mx_mu (mx_mu c u (c k)) t v))
          rw [mx_mu_ne htu, mx_mu_ne (fun q => htu q.symm), mx_mu_comm c htu]
          grind), mx_sm_mul, hU]
        show _ + c u s * (mx_mu c u v u k * mx_dt k (mx_mu (mx_mu c u v) u (c k))) - c u k * (mx_mu c u (c k) u s * mx_dt k (mx_mu (mx_mu c u (c k)) u v)) = _
        rw [mx_mu_at, mx_mu_at, mx_mu_mu, mx_mu_mu]
        grind
      rw [mx_sm_congr e3, mx_sm_add, mx_sm_sub, mx_sm_mul, mx_sm_mul, mx_sm_mul, hC, hE]
      grind
/-- two columns put in, three terms -/
theorem mx_plucker {k : Nat} (c : Nat → Nat → Int) {a b : Nat} (hab : a ≠ b) (ha : a < k) (hb : b < k) (u w : Nat → Int) : mx_dt k c * mx_dt k (mx_mu (mx_mu c a u) b w) = mx_dt k (mx_mu c a u) * mx_dt k (mx_mu c b w) - mx_dt k (mx_mu c a w) * mx_dt k (mx_mu c b u) := by
  have h1 : mx_dt k c * mx_dt k (mx_mu (mx_mu c a u) b w) = mx_dt k (mx_mu (mx_mu c b w) a (fun s => mx_dt k c * u s)) := by
    rw [mx_smul _ ha, mx_mu_comm c hab]
  have h2 : mx_dt k (mx_mu (mx_mu c b w) a (fun s => mx_dt k c * u s)) = mx_dt k (mx_mu (mx_mu c b w) a (fun s => mx_sm (fun t => mx_dt k (mx_mu c t u) * c t s) k)) := by
    refine mx_dt_congr (fun t _ s hs => ?_)
    by_cases hta : t = a
    · subst hta
      rw [mx_mu_at, mx_mu_at]
      show mx_dt k c * u s = mx_sm (fun t => mx_dt k (mx_mu c t u) * c t s) k
      rw [Int.mul_comm, ← mx_cramer c u hs]
      exact mx_sm_congr (fun t _ => Int.mul_comm _ _)
    · rw [mx_mu_ne hta, mx_mu_ne hta]
  rw [h1, h2, mx_linsum _ ha, mx_sm_two (a := a) (b := b) ha hb hab (fun t ht hta htb => by
    rw [mx_alt' (c := mx_mu (mx_mu c b w) a (c t)) hta ht ha (by rw [mx_mu_at, mx_mu_ne hta, mx_mu_ne htb]), Int.mul_zero])]
  rw [mx_mu_comm c (fun q => hab q.symm) w (c a), mx_mu_self, mx_antis c w (c b) (fun q => hab q.symm) hb ha, mx_mu_self]
  grind
/-- row i ahead of the elimination's k-th step, of a column v: bordered -/
def mx_bo (k : Nat) (c : Nat → Nat → Int) (i : Nat) (v : Nat → Int) : Int := v i * mx_dt k c - mx_sm (fun t => c t i * mx_dt k (mx_mu c t v)) k
theorem mx_bo_dt (k : Nat) (c : Nat → Nat → Int) (v : Nat → Int) : mx_dt (k + 1) (mx_mu c k v) = mx_bo k c k v := by
  rw [mx_dt_succ, mx_mu_at, mx_dt_hi (Nat.le_refl k)]
  unfold mx_bo
  congr 1
  refine mx_sm_congr (fun a ha => ?_)
  rw [mx_mu_ne (Nat.ne_of_lt ha), mx_dt_hi2 (Nat.le_refl k) (Nat.ne_of_lt ha)]
theorem mx_bo_piv (k : Nat) (c : Nat → Nat → Int) : mx_dt (k + 1) c = mx_bo k c k (c k) := rfl
def mx_vl (k : Nat) (c : Nat → Nat → Int) (i : Nat) (v : Nat → Int) : Int := if i < k then mx_dt k (mx_mu c i v) else mx_bo k c i v
theorem mx_stepA {k : Nat} (c : Nat → Nat → Int) {i : Nat} (hi : i < k) (v : Nat → Int) : mx_dt k c * mx_dt (k + 1) (mx_mu c i v) = mx_dt (k + 1) c * mx_dt k (mx_mu c i v) - mx_dt k (mx_mu c i (c k)) * mx_bo k c k v := by
  rw [mx_dt_succ k (mx_mu c i v), mx_mu_ne (fun q => Nat.ne_of_lt hi q.symm), mx_dt_succ k c]
  unfold mx_bo
  have e1 : mx_sm (fun u => mx_dt k c * (mx_mu c i v u k * mx_dt k (mx_mu (mx_mu c i v) u (c k)))) k = mx_sm (fun u => mx_dt k (mx_mu c i v) * (c u k * mx_dt k (mx_mu c u (c k))) - mx_dt k (mx_mu c i (c k)) * (c u k * mx_dt k (mx_mu c u v))) k + mx_dt k c * (v k * mx_dt k (mx_mu c i (c k))) := by
    rw [mx_sm_upd (u := i) (g := fun u => mx_dt k (mx_mu c i v) * (c u k * mx_dt k (mx_mu c u (c k))) - mx_dt k (mx_mu c i (c k)) * (c u k * mx_dt k (mx_mu c u v))) hi (fun u hu hui => by
      show mx_dt k c * (mx_mu c i v u k * mx_dt k (mx_mu (mx_mu c i v) u (c k))) = mx_dt k (mx_mu c i v) * (c u k * mx_dt k (mx_mu c u (c k))) - mx_dt k (mx_mu c i (c k)) * (c u k * mx_dt k (mx_mu c u v))
      have hpl := mx_plucker c (fun q => hui q.symm) hi hu v (c k)
      rw [mx_mu_ne hui]
      grind)]
    show _ + mx_dt k c * (mx_mu c i v i k * mx_dt k (mx_mu (mx_mu c i v) i (c k))) - _ = _
    rw [mx_mu_at, mx_mu_mu]
    grind
  rw [mx_sm_mul, mx_sm_sub, mx_sm_mul, mx_sm_mul] at e1
  grind
theorem mx_stepC {k : Nat} (c : Nat → Nat → Int) (i : Nat) (v : Nat → Int) : mx_dt k c * mx_bo (k + 1) c i v = mx_dt (k + 1) c * mx_bo k c i v - mx_bo k c i (c k) * mx_bo k c k v := by
  have h1 : mx_bo (k + 1) c i v = v i * mx_dt (k + 1) c - (mx_sm (fun t => c t i * mx_dt (k + 1) (mx_mu c t v)) k + c k i * mx_bo k c k v) := by
    rw [← mx_bo_dt k c v]; rfl
  have h2 : mx_dt k c * mx_sm (fun t => c t i * mx_dt (k + 1) (mx_mu c t v)) k = mx_dt (k + 1) c * mx_sm (fun t => c t i * mx_dt k (mx_mu c t v)) k - mx_bo k c k v * mx_sm (fun t => c t i * mx_dt k (mx_mu c t (c k))) k := by
    rw [← mx_sm_mul, ← mx_sm_mul, ← mx_sm_mul, ← mx_sm_sub]
    refine mx_sm_congr (fun t ht => ?_)
    have hA := mx_stepA c ht v
    show mx_dt k c * (c t i * mx_dt (k + 1) (mx_mu c t v)) = mx_dt (k + 1) c * (c t i * mx_dt k (mx_mu c t v)) - mx_bo k c k v * (c t i * mx_dt k (mx_mu c t (c k)))
    grind
  rw [h1]
  unfold mx_bo at h2 ⊢
  grind
/-- one step of the elimination: every row but the pivot's -/
theorem mx_step {k : Nat} (c : Nat → Nat → Int) {i : Nat} (hi : i ≠ k) (v : Nat → Int) : mx_dt k c * mx_vl (k + 1) c i v = mx_dt (k + 1) c * mx_vl k c i v - mx_vl k c i (c k) * mx_vl k c k v := by
  unfold mx_vl
  rw [if_neg (Nat.lt_irrefl k)]
  by_cases h : i < k
  · rw [if_pos (Nat.lt_succ_of_lt h), if_pos h, if_pos h]
    exact mx_stepA c h v
  · rw [if_neg (by omega), if_neg h, if_neg h]
    exact mx_stepC c i v
theorem mx_step_k (k : Nat) (c : Nat → Nat → Int) (v : Nat → Int) : mx_vl (k + 1) c k v = mx_vl k c k v := by
  unfold mx_vl
  rw [if_pos (Nat.lt_succ_self k), if_neg (Nat.lt_irrefl k), mx_bo_dt]
/-! how large -/
def mx_B : Nat → Nat
  | 0 => 1
  | k + 1 => 9 * (k + 1) * mx_B k
theorem mx_sm_abs {f : Nat → Int} {b : Nat} : ∀ {n : Nat}, (∀ t, t < n → (f t).natAbs ≤ b) → (mx_sm f n).natAbs ≤ n * b
  | 0, _ => by rw [Nat.zero_mul]; exact Nat.le_refl 0
  | n + 1, h => by
    show (mx_sm f n + f n).natAbs ≤ (n + 1) * b
    have h1 := mx_sm_abs (n := n) (fun t ht => h t (Nat.lt_succ_of_lt ht))
    have h2 := h n (Nat.lt_succ_self n)
    have h3 := Int.natAbs_add_le (mx_sm f n) (f n)
    rw [Nat.succ_mul]
    omega
theorem mx_abs_mul {x y : Int} {a b : Nat} (hx : x.natAbs ≤ a) (hy : y.natAbs ≤ b) : (x * y).natAbs ≤ a * b := by
  rw [Int.natAbs_mul]
  exact Nat.mul_le_mul hx hy
theorem mx_abs_sub {x y : Int} {a b : Nat} (hx : x.natAbs ≤ a) (hy : y.natAbs ≤ b) : (x - y).natAbs ≤ a + b := by omega
theorem mx_dt_abs : ∀ {k : Nat} {c : Nat → Nat → Int}, (∀ t, t < k → ∀ s, s < k → (c t s).natAbs ≤ 9) → (mx_dt k c).natAbs ≤ mx_B k
  | 0, _, _ => Nat.le_refl 1
  | k + 1, c, h => by
    rw [mx_dt_succ]
    have h1 := mx_dt_abs (k := k) (c := c) (fun t ht s hs => h t (Nat.lt_succ_of_lt ht) s (Nat.lt_succ_of_lt hs))
    have h2 : ∀ t, t < k → (c t k * mx_dt k (mx_mu c t (c k))).natAbs ≤ 9 * mx_B k := by
      intro t ht
      refine mx_abs_mul (h t (Nat.lt_succ_of_lt ht) k (Nat.lt_succ_self k)) (mx_dt_abs (fun u hu s hs => ?_))
      by_cases hut : u = t
      · subst hut; rw [mx_mu_at]; exact h k (Nat.lt_succ_self k) s (Nat.lt_succ_of_lt hs)
      · rw [mx_mu_ne hut]; exact h u (Nat.lt_succ_of_lt hu) s (Nat.lt_succ_of_lt hs)
    have h3 := mx_abs_sub (mx_abs_mul (h k (Nat.lt_succ_self k) k (Nat.lt_succ_self k)) h1) (mx_sm_abs h2)
    refine Nat.le_trans h3 (Nat.le_of_eq ?_)
    show 9 * mx_B k + k * (9 * mx_B k) = 9 * (k + 1) * mx_B k
    grind
theorem mx_bo_abs {k : Nat} {c : Nat → Nat → Int} {i : Nat} {v : Nat → Int} (h : ∀ t, t < k → ∀ s, (c t s).natAbs ≤ 9) (hv : ∀ s, (v s).natAbs ≤ 9) : (mx_bo k c i v).natAbs ≤ mx_B (k + 1) := by
  unfold mx_bo
  have h1 := mx_dt_abs (k := k) (c := c) (fun t ht s _ => h t ht s)
  have h2 : ∀ t, t < k → (c t i * mx_dt k (mx_mu c t v)).natAbs ≤ 9 * mx_B k := by
    intro t ht
    refine mx_abs_mul (h t ht i) (mx_dt_abs (fun u hu s _ => ?_))
    by_cases hut : u = t
    · subst hut; rw [mx_mu_at]; exact hv s
    · rw [mx_mu_ne hut]; exact h u hu s
  have h3 := mx_abs_sub (mx_abs_mul (hv i) h1) (mx_sm_abs h2)
  refine Nat.le_trans h3 (Nat.le_of_eq ?_)
  show 9 * mx_B k + k * (9 * mx_B k) = 9 * (k + 1) * mx_B k
  grind
theorem mx_B_mono {a b : Nat} (h : a ≤ b) : mx_B a ≤ mx_B b := by
  induction b with
  | zero => rw [Nat.le_zero.mp h]; exact Nat.le_refl _
  | succ b ih =>
    rcases Nat.lt_or_ge a (b + 1) with h1 | h1
    · refine Nat.le_trans (ih (by omega)) ?_
      show mx_B b ≤ 9 * (b + 1) * mx_B b
      exact Nat.le_mul_of_pos_left _ (by omega)
    · rw [show a = b + 1 by omega]; exact Nat.le_refl _
theorem mx_B6 : mx_B 6 = 382637520 := by decide +kernel
/-- all that the elimination of at most six rows holds -/
theorem mx_vl_abs {k n : Nat} {c : Nat → Nat → Int} {i : Nat} {v : Nat → Int} (hn : n ≤ 6) (hk : k ≤ n) (hi : i < n) (h : ∀ t, t < k → ∀ s, (c t s).natAbs ≤ 9) (hv : ∀ s, (v s).natAbs ≤ 9) : (mx_vl k c i v).natAbs ≤ 382637520 := by
  rw [← mx_B6]
  unfold mx_vl
  by_cases h1 : i < k
  · rw [if_pos h1]
    refine Nat.le_trans (mx_dt_abs (fun u hu s _ => ?_)) (mx_B_mono (by omega))
    by_cases hut : u = i
    · subst hut; rw [mx_mu_at]; exact hv s
    · rw [mx_mu_ne hut]; exact h u hu s
  · rw [if_neg h1]
    exact Nat.le_trans (mx_bo_abs h hv) (mx_B_mono (by omega))
end
section
/-! the elimination, row by row: which row is taken for the k-th column -/
def mx_first (p : Nat → Bool) : Nat → Nat → Option Nat
  | _, 0 => none
  | i, n + 1 => if p i = true then some i else mx_first p (i + 1) n
theorem mx_first_some {p : Nat → Bool} : ∀ {n k i : Nat}, mx_first p k n = some i → k ≤ i ∧ i < k + n ∧ p i = true
  | 0, _, _, h => by cases h
  | n + 1, k, i, h => by
    unfold mx_first at h
    by_cases hp : p k = true
    · rw [if_pos hp] at h
      cases h
      exact ⟨Nat.le_refl _, by omega, hp⟩
    · rw [if_neg hp] at h
      obtain ⟨h1, h2, h3⟩ := mx_first_some h
      exact ⟨by omega, by omega, h3⟩
theorem mx_first_none {p : Nat → Bool} : ∀ {n k : Nat}, (∀ j, k ≤ j → j < k + n → p j = false) → mx_first p k n = none
  | 0, _, _ => rfl
  | n + 1, k, h => by
    unfold mx_first
    rw [if_neg (by rw [h k (Nat.le_refl k) (by omega)]; decide)]
    exact mx_first_none (fun j h1 h2 => h j (by omega) (by omega))
theorem mx_first_at {p : Nat → Bool} : ∀ {n k i : Nat}, k ≤ i → i < k + n → p i = true → (∀ j, k ≤ j → j < i → p j = false) → mx_first p k n = some i
  | 0, _, _, h1, h2, _, _ => absurd h1 (by omega)
  | n + 1, k, i, h1, h2, hp, h => by
    unfold mx_first
    by_cases hk : k = i
    · subst hk
      rw [if_pos hp]
    · rw [if_neg (by rw [h k (Nat.le_refl k) (by omega)]; decide)]
      exact mx_first_at (by omega) (by omega) hp (fun j h1 h2 => h j (by omega) h2)
def mx_sw (k i : Nat) : Nat → Nat := fun s => if s = k then i else if s = i then k else s
theorem mx_sw_l (k i : Nat) : mx_sw k i k = i := if_pos rfl
theorem mx_sw_r (k i : Nat) : mx_sw k i i = k := by
  unfold mx_sw
  by_cases h : i = k
  · rw [if_pos h, h]
  · rw [if_neg h, if_pos rfl]
theorem mx_sw_o {k i s : Nat} (h1 : s ≠ k) (h2 : s ≠ i) : mx_sw k i s = s := by unfold mx_sw; rw [if_neg h1, if_neg h2]
theorem mx_sw_sw (k i s : Nat) : mx_sw k i (mx_sw k i s) = s := by
  by_cases h1 : s = k
  · subst h1; rw [mx_sw_l, mx_sw_r]
  · by_cases h2 : s = i
    · subst h2; rw [mx_sw_r, mx_sw_l]
    · rw [mx_sw_o h1 h2, mx_sw_o h1 h2]
theorem mx_sw_lt {k i s M : Nat} (hk : k < M) (hi : i < M) (hs : s < M) : mx_sw k i s < M := by
  unfold mx_sw
  split
  · exact hi
  · split
    · exact hk
    · exact hs
theorem mx_sw_ge {k i s : Nat} (hi : k ≤ i) (hs : k ≤ s) : k ≤ mx_sw k i s := by
  unfold mx_sw
  split
  · exact hi
  · split
    · exact Nat.le_refl k
    · exact hs
theorem mx_sw_lo {k i s : Nat} (hi : k ≤ i) (hs : s < k) : mx_sw k i s = s := mx_sw_o (by omega) (by omega)
def mx_tup (c0 : Nat → Nat → Int) (σ : Nat → Nat) : Nat → Nat → Int := fun t s => c0 t (σ s)
/-- the k-th pivot; the cell of row i of a column v0 ahead of the k-th step -/
def mx_p (c0 : Nat → Nat → Int) (k : Nat) (σ : Nat → Nat) : Int := mx_dt k (mx_tup c0 σ)
def mx_X (c0 : Nat → Nat → Int) (k : Nat) (σ : Nat → Nat) (i : Nat) (v0 : Nat → Int) : Int := mx_vl k (mx_tup c0 σ) i (fun s => v0 (σ s))
def mx_sg (c0 : Nat → Nat → Int) (M : Nat) : Nat → Option (Nat → Nat)
  | 0 => some (fun s => s)
  | k + 1 => match mx_sg c0 M k with
    | none => none
    | some σ => match mx_first (fun i => mx_X c0 k σ i (c0 k) != 0) k (M - k) with
      | none => none
      | some i => some (fun s => σ (mx_sw k i s))
theorem mx_sg_next {c0 : Nat → Nat → Int} {M k : Nat} {σ : Nat → Nat} {i : Nat} (h : mx_sg c0 M k = some σ) (h1 : mx_first (fun i => mx_X c0 k σ i (c0 k) != 0) k (M - k) = some i) : mx_sg c0 M (k + 1) = some (fun s => σ (mx_sw k i s)) := by
  show (match mx_sg c0 M k with | none => none | some σ => match mx_first (fun i => mx_X c0 k σ i (c0 k) != 0) k (M - k) with | none => none | some i => some (fun s => σ (mx_sw k i s))) = _
  rw [h]
  show (match mx_first (fun i => mx_X c0 k σ i (c0 k) != 0) k (M - k) with | none => none | some i => some (fun s => σ (mx_sw k i s))) = _
  rw [h1]
theorem mx_sg_fail {c0 : Nat → Nat → Int} {M k : Nat} {σ : Nat → Nat} (h : mx_sg c0 M k = some σ) (h1 : mx_first (fun i => mx_X c0 k σ i (c0 k) != 0) k (M - k) = none) : mx_sg c0 M (k + 1) = none := by
  show (match mx_sg c0 M k with | none => none | some σ => match mx_first (fun i => mx_X c0 k σ i (c0 k) != 0) k (M - k) with | none => none | some i => some (fun s => σ (mx_sw k i s))) = _
  rw [h]
  show (match mx_first (fun i => mx_X c0 k σ i (c0 k) != 0) k (M - k) with | none => none | some i => some (fun s => σ (mx_sw k i s))) = _
  rw [h1]
theorem mx_sg_none {c0 : Nat → Nat → Int} {M k : Nat} (h : mx_sg c0 M k = none) : mx_sg c0 M (k + 1) = none := by
  show (match mx_sg c0 M k with | none => none | some σ => match mx_first (fun i => mx_X c0 k σ i (c0 k) != 0) k (M - k) with | none => none | some i => some (fun s => σ (mx_sw k i s))) = _
  rw [h]
theorem mx_sg_none_le {c0 : Nat → Nat → Int} {M k : Nat} (h : mx_sg c0 M k = none) : ∀ {n : Nat}, k ≤ n → mx_sg c0 M n = none := by
  intro n hn
  induction n with
  | zero => rw [← Nat.le_zero.mp hn]; exact h
  | succ n ih =>
    rcases Nat.lt_or_ge n k with h1 | h1
    · rw [show n + 1 = k by omega]; exact h
    · exact mx_sg_none (ih h1)
theorem mx_sg_prev {c0 : Nat → Nat → Int} {M k : Nat} {σ' : Nat → Nat} (h : mx_sg c0 M (k + 1) = some σ') : ∃ σ i, mx_sg c0 M k = some σ ∧ mx_first (fun i => mx_X c0 k σ i (c0 k) != 0) k (M - k) = some i ∧ σ' = fun s => σ (mx_sw k i s) := by
  cases h0 : mx_sg c0 M k with
  | none => rw [mx_sg_none h0] at h; cases h
  | some σ =>
    cases h1 : mx_first (fun i => mx_X c0 k σ i (c0 k) != 0) k (M - k) with
    | none => rw [mx_sg_fail h0 h1] at h; cases h
    | some i =>
      rw [mx_sg_next h0 h1] at h
      exact ⟨σ, i, rfl, h1, (Option.some.inj h).symm⟩
/-! rows exchanged -/
theorem mx_p_sw (c0 : Nat → Nat → Int) {k i : Nat} (σ : Nat → Nat) (hi : k ≤ i) : mx_p c0 k (fun s => σ (mx_sw k i s)) = mx_p c0 k σ :=
  mx_dt_congr (fun t _ s hs => by show c0 t (σ (mx_sw k i s)) = c0 t (σ s); rw [mx_sw_lo hi hs])
theorem mx_dtmu_sw (c0 : Nat → Nat → Int) {k i : Nat} (σ : Nat → Nat) (hi : k ≤ i) (t : Nat) (v0 : Nat → Int) : mx_dt k (mx_mu (mx_tup c0 (fun s => σ (mx_sw k i s))) t (fun s => v0 (σ (mx_sw k i s)))) = mx_dt k (mx_mu (mx_tup c0 σ) t (fun s => v0 (σ s))) :=
  mx_dt_congr (fun u _ s hs => by
    by_cases h : u = t
    · subst h
      rw [mx_mu_at, mx_mu_at]
      show v0 (σ (mx_sw k i s)) = v0 (σ s)
      rw [mx_sw_lo hi hs]
    · rw [mx_mu_ne h, mx_mu_ne h]
      show c0 u (σ (mx_sw k i s)) = c0 u (σ s)
      rw [mx_sw_lo hi hs])
theorem mx_X_sw (c0 : Nat → Nat → Int) {k i : Nat} (σ : Nat → Nat) (hi : k ≤ i) (s : Nat) (v0 : Nat → Int) : mx_X c0 k (fun s => σ (mx_sw k i s)) s v0 = mx_X c0 k σ (mx_sw k i s) v0 := by
  unfold mx_X mx_vl
  by_cases hs : s < k
  · rw [mx_sw_lo hi hs, if_pos hs, if_pos hs]
    exact mx_dtmu_sw c0 σ hi s v0
  · have hs2 : ¬ mx_sw k i s < k := Nat.not_lt.mpr (mx_sw_ge hi (Nat.not_lt.mp hs))
    rw [if_neg hs, if_neg hs2]
    unfold mx_bo
    have h1 : mx_dt k (mx_tup c0 (fun s => σ (mx_sw k i s))) = mx_dt k (mx_tup c0 σ) := mx_p_sw c0 σ hi
    rw [h1]
    congr 1
    refine mx_sm_congr (fun t _ => ?_)
    rw [mx_dtmu_sw c0 σ hi t v0]
    rfl
theorem mx_X_0 (c0 : Nat → Nat → Int) (σ : Nat → Nat) (i : Nat) (v0 : Nat → Int) : mx_X c0 0 σ i v0 = v0 (σ i) := by
  unfold mx_X mx_vl
  rw [if_neg (Nat.not_lt_zero i)]
  show v0 (σ i) * 1 - 0 = v0 (σ i)
  omega
theorem mx_p_next (c0 : Nat → Nat → Int) (k : Nat) (σ : Nat → Nat) : mx_p c0 (k + 1) σ = mx_X c0 k σ k (c0 k) := by
  show mx_dt (k + 1) (mx_tup c0 σ) = mx_vl k (mx_tup c0 σ) k (mx_tup c0 σ k)
  unfold mx_vl
  rw [if_neg (Nat.lt_irrefl k)]
  exact mx_bo_piv k _
theorem mx_X_step (c0 : Nat → Nat → Int) {k i : Nat} (σ : Nat → Nat) (hi : i ≠ k) (v0 : Nat → Int) : mx_p c0 k σ * mx_X c0 (k + 1) σ i v0 = mx_X c0 k σ k (c0 k) * mx_X c0 k σ i v0 - mx_X c0 k σ i (c0 k) * mx_X c0 k σ k v0 := by
  rw [← mx_p_next]
  exact mx_step (mx_tup c0 σ) hi (fun s => v0 (σ s))
theorem mx_X_step_k (c0 : Nat → Nat → Int) (k : Nat) (σ : Nat → Nat) (v0 : Nat → Int) : mx_X c0 (k + 1) σ k v0 = mx_X c0 k σ k v0 := mx_step_k k (mx_tup c0 σ) (fun s => v0 (σ s))
/-- what holds along the way: as many rows as columns, the pivot isn't 0, the rows are the same ones -/
theorem mx_sg_ok {c0 : Nat → Nat → Int} {M : Nat} : ∀ {k : Nat} {σ : Nat → Nat}, mx_sg c0 M k = some σ → k ≤ M ∧ mx_p c0 k σ ≠ 0 ∧ (∀ s, s < M → σ s < M) ∧ ∃ τ : Nat → Nat, ∀ s, s < M → τ s < M ∧ σ (τ s) = s
  | 0, σ, h => by
    cases h
    exact ⟨Nat.zero_le M, by show (1 : Int) ≠ 0; decide, fun s hs => hs, fun s => s, fun s hs => ⟨hs, rfl⟩⟩
  | k + 1, σ', h => by
    obtain ⟨σ, i, h0, h1, rfl⟩ := mx_sg_prev h
    obtain ⟨hk, hp, hm, τ, hτ⟩ := mx_sg_ok h0
    obtain ⟨hi1, hi2, hi3⟩ := mx_first_some h1
    have hiM : i < M := by omega
    have hkM : k < M := by omega
    refine ⟨hkM, ?_, fun s hs => hm _ (mx_sw_lt hkM hiM hs), fun s => mx_sw k i (τ s), fun s hs => ⟨mx_sw_lt hkM hiM (hτ s hs).1, ?_⟩⟩
    · rw [mx_p_next, mx_X_sw c0 σ hi1, mx_sw_l]
      simpa using hi3
    · show σ (mx_sw k i (mx_sw k i (τ s))) = s
      rw [mx_sw_sw]
      exact (hτ s hs).2
/-- the set's columns (n = k + 1 of them) have one flow alone, and it uses each -/
def mx_ok (c0 : Nat → Nat → Int) (M k : Nat) (σ : Nat → Nat) : Prop := mx_sg c0 M k = some σ ∧ (∀ i, i < k → mx_X c0 k σ i (c0 k) ≠ 0) ∧ ∀ i, k ≤ i → i < M → mx_X c0 k σ i (c0 k) = 0
def mx_fl (c0 : Nat → Nat → Int) (k : Nat) (σ : Nat → Nat) (t : Nat) : Int := if t < k then - mx_X c0 k σ t (c0 k) else mx_p c0 k σ
theorem mx_fl_ne {c0 : Nat → Nat → Int} {M k : Nat} {σ : Nat → Nat} (h : mx_ok c0 M k σ) (t : Nat) : mx_fl c0 k σ t ≠ 0 := by
  unfold mx_fl
  split
  · rename_i ht
    have := h.2.1 t ht
    omega
  · exact (mx_sg_ok h.1).2.1
theorem mx_fl_ker {c0 : Nat → Nat → Int} {M k : Nat} {σ : Nat → Nat} (h : mx_ok c0 M k σ) {s : Nat} (hs : s < M) : mx_sm (fun t => mx_fl c0 k σ t * c0 t s) (k + 1) = 0 := by
  obtain ⟨hg, h1, h2⟩ := h
  obtain ⟨hk, hp, hm, τ, hτ⟩ := mx_sg_ok hg
  obtain ⟨ht, hts⟩ := hτ s hs
  rw [← hts]
  generalize τ s = r at ht
  show mx_sm (fun t => mx_fl c0 k σ t * c0 t (σ r)) k + mx_fl c0 k σ k * c0 k (σ r) = 0
  have e1 : mx_fl c0 k σ k = mx_p c0 k σ := if_neg (Nat.lt_irrefl k)
  have e2 : mx_sm (fun t => mx_fl c0 k σ t * c0 t (σ r)) k = (-1) * mx_sm (fun t => mx_tup c0 σ t r * mx_dt k (mx_mu (mx_tup c0 σ) t (mx_tup c0 σ k))) k := by
    rw [← mx_sm_mul]
    refine mx_sm_congr (fun t ht => ?_)
    have e3 : mx_fl c0 k σ t = - mx_dt k (mx_mu (mx_tup c0 σ) t (mx_tup c0 σ k)) := by
      unfold mx_fl mx_X mx_vl
      rw [if_pos ht, if_pos ht]
      rfl
    rw [e3]
    show _ * mx_tup c0 σ t r = _
    grind
  rw [e1, e2]
  rcases Nat.lt_or_ge r k with hr | hr
  · rw [mx_cramer _ _ hr]
    show -1 * (c0 k (σ r) * mx_p c0 k σ) + mx_p c0 k σ * c0 k (σ r) = 0
    grind
  · have h3 := h2 r hr ht
    unfold mx_X mx_vl at h3
    rw [if_neg (Nat.not_lt.mpr hr)] at h3
    have h4 : c0 k (σ r) * mx_p c0 k σ - mx_sm (fun t => mx_tup c0 σ t r * mx_dt k (mx_mu (mx_tup c0 σ) t (mx_tup c0 σ k))) k = 0 := h3
    grind
theorem mx_ker_one {c0 : Nat → Nat → Int} {M k : Nat} {σ : Nat → Nat} (hg : mx_sg c0 M k = some σ) (x : Nat → Int) (hx : ∀ s, s < M → mx_sm (fun t => x t * c0 t s) (k + 1) = 0) {i : Nat} (hi : i < k) : mx_p c0 k σ * x i = - mx_X c0 k σ i (c0 k) * x k := by
  obtain ⟨hk, hp, hm, -⟩ := mx_sg_ok hg
  have h1 := mx_linsum (k := k) (mx_tup c0 σ) hi x (mx_tup c0 σ) k
  rw [mx_sm_one (u := i) hi (fun t ht hti => by
    rw [mx_alt' (c := mx_mu (mx_tup c0 σ) i (mx_tup c0 σ t)) hti ht hi (by rw [mx_mu_at, mx_mu_ne hti]), Int.mul_zero]), mx_mu_self] at h1
  have h2 : mx_dt k (mx_mu (mx_tup c0 σ) i (fun s => mx_sm (fun t => x t * mx_tup c0 σ t s) k)) = mx_dt k (mx_mu (mx_tup c0 σ) i (fun s => (- x k) * mx_tup c0 σ k s)) := by
    refine mx_dt_congr (fun u _ s hs => ?_)
    by_cases hu : u = i
    · subst hu
      rw [mx_mu_at, mx_mu_at]
      have h3 : mx_sm (fun t => x t * c0 t (σ s)) k + x k * c0 k (σ s) = 0 := hx (σ s) (hm s (by omega))
      show mx_sm (fun t => x t * c0 t (σ s)) k = - x k * c0 k (σ s)
      grind
    · rw [mx_mu_ne hu, mx_mu_ne hu]
  rw [h2, mx_smul _ hi] at h1
  have h4 : mx_X c0 k σ i (c0 k) = mx_dt k (mx_mu (mx_tup c0 σ) i (mx_tup c0 σ k)) := by
    unfold mx_X mx_vl
    rw [if_pos hi]
    rfl
  rw [h4]
  show mx_dt k (mx_tup c0 σ) * x i = _
  grind
end
section
/-! sets of at most eight reactions, as numbers below 256 -/
def mx_cnt (S : Nat) : Nat → Nat
  | 0 => 0
  | j + 1 => if S.testBit j = true then mx_cnt S j + 1 else mx_cnt S j
def mx_nthF (S t : Nat) : Nat → Nat → Nat
  | _, 0 => 0
  | j, n + 1 => if S.testBit j = true ∧ mx_cnt S j = t then j else mx_nthF S t (j + 1) n
/-- the t-th reaction of the set -/
def mx_nth (S t : Nat) : Nat := mx_nthF S t 0 8
theorem mx_cnt_in {S j : Nat} (h : S.testBit j = true) : mx_cnt S (j + 1) = mx_cnt S j + 1 := if_pos h
theorem mx_cnt_out {S j : Nat} (h : S.testBit j = false) : mx_cnt S (j + 1) = mx_cnt S j := if_neg (by rw [h]; decide)
theorem mx_cnt_mono (S : Nat) : ∀ {a b : Nat}, a ≤ b → mx_cnt S a ≤ mx_cnt S b := by
  intro a b h
  induction b with
  | zero => rw [Nat.le_zero.mp h]; exact Nat.le_refl _
  | succ b ih =>
    rcases Nat.lt_or_ge a (b + 1) with h1 | h1
    · refine Nat.le_trans (ih (by omega)) ?_
      cases hb : S.testBit b with
      | true => rw [mx_cnt_in hb]; omega
      | false => rw [mx_cnt_out hb]; exact Nat.le_refl _
    · rw [show a = b + 1 by omega]; exact Nat.le_refl _
theorem mx_cnt_lt {S a b : Nat} (h : a < b) (ha : S.testBit a = true) : mx_cnt S a < mx_cnt S b := by
  have h1 := mx_cnt_mono S (show a + 1 ≤ b from h)
  rw [mx_cnt_in ha] at h1
  exact h1
theorem mx_cnt_le (S : Nat) : ∀ j, mx_cnt S j ≤ j
  | 0 => Nat.le_refl 0
  | j + 1 => by
    have := mx_cnt_le S j
    unfold mx_cnt
    split <;> omega
theorem mx_cnt_inj {S a b : Nat} (ha : S.testBit a = true) (hb : S.testBit b = true) (h : mx_cnt S a = mx_cnt S b) : a = b := by
  rcases Nat.lt_trichotomy a b with h1 | h1 | h1
  · have := mx_cnt_lt h1 ha; omega
  · exact h1
  · have := mx_cnt_lt h1 hb; omega
theorem mx_nthF_at {S j : Nat} (hj : S.testBit j = true) : ∀ {n i : Nat}, i ≤ j → j < i + n → mx_nthF S (mx_cnt S j) i n = j
  | 0, i, h1, h2 => absurd h2 (by omega)
  | n + 1, i, h1, h2 => by
    unfold mx_nthF
    by_cases hi : S.testBit i = true ∧ mx_cnt S i = mx_cnt S j
    · rw [if_pos hi]; exact mx_cnt_inj hi.1 hj hi.2
    · rw [if_neg hi]
      have : i ≠ j := fun q => hi (by rw [q]; exact ⟨hj, rfl⟩)
      exact mx_nthF_at hj (by omega) (by omega)
theorem mx_nth_cnt {S j : Nat} (hj : S.testBit j = true) (h8 : j < 8) : mx_nth S (mx_cnt S j) = j := mx_nthF_at hj (Nat.zero_le j) (by omega)
theorem mx_nthF_in {S t : Nat} : ∀ {n i : Nat}, mx_cnt S i ≤ t → t < mx_cnt S (i + n) → i ≤ mx_nthF S t i n ∧ mx_nthF S t i n < i + n ∧ S.testBit (mx_nthF S t i n) = true ∧ mx_cnt S (mx_nthF S t i n) = t
  | 0, i, h1, h2 => absurd h2 (by rw [Nat.add_zero]; omega)
  | n + 1, i, h1, h2 => by
    unfold mx_nthF
    by_cases hi : S.testBit i = true ∧ mx_cnt S i = t
    · rw [if_pos hi]; exact ⟨Nat.le_refl _, by omega, hi.1, hi.2⟩
    · rw [if_neg hi]
      have h3 : mx_cnt S (i + 1) ≤ t := by
        cases hb : S.testBit i with
        | true =>
          have : mx_cnt S i ≠ t := fun q => hi ⟨hb, q⟩
          rw [mx_cnt_in hb]; omega
        | false => rw [mx_cnt_out hb]; exact h1
      obtain ⟨q1, q2, q3, q4⟩ := mx_nthF_in (n := n) (i := i + 1) h3 (by rw [show i + 1 + n = i + (n + 1) by omega]; exact h2)
      exact ⟨by omega, by omega, q3, q4⟩
theorem mx_nth_in {S t : Nat} (h : t < mx_cnt S 8) : mx_nth S t < 8 ∧ S.testBit (mx_nth S t) = true ∧ mx_cnt S (mx_nth S t) = t := by
  obtain ⟨-, q2, q3, q4⟩ := mx_nthF_in (S := S) (t := t) (n := 8) (i := 0) (Nat.zero_le t) h
  exact ⟨by unfold mx_nth; omega, q3, q4⟩
/-- a sum over the set, by reactions and by places -/
theorem mx_sm_set {S : Nat} (g : Nat → Nat → Int) : ∀ {J : Nat}, J ≤ 8 → mx_sm (fun j => if S.testBit j = true then g (mx_cnt S j) j else 0) J = mx_sm (fun t => g t (mx_nth S t)) (mx_cnt S J)
  | 0, _ => rfl
  | J + 1, h => by
    show mx_sm _ J + (if S.testBit J = true then g (mx_cnt S J) J else 0) = _
    rw [mx_sm_set g (J := J) (by omega)]
    cases hb : S.testBit J with
    | true =>
      rw [mx_cnt_in hb, if_pos rfl]
      show _ = mx_sm _ (mx_cnt S J) + g (mx_cnt S J) (mx_nth S (mx_cnt S J))
      rw [mx_nth_cnt hb (by omega)]
    | false =>
      rw [mx_cnt_out hb, if_neg (by decide)]
      omega
/-! no listed set lies inside another one -/
theorem mx_antichain {A : Nat → Nat → Int} {M S T : Nat} {σ τ : Nat → Nat} {kS kT : Nat} (hS : mx_cnt S 8 = kS + 1) (hT : mx_cnt T 8 = kT + 1) (oS : mx_ok (fun t => A (mx_nth S t)) M kS σ) (oT : mx_ok (fun t => A (mx_nth T t)) M kT τ) (hsub : ∀ j, j < 8 → S.testBit j = true → T.testBit j = true) : ∀ j, j < 8 → T.testBit j = true → S.testBit j = true := by
  intro j hj hTj
  cases hSj : S.testBit j with
  | true => rfl
  | false =>
    exfalso
    -- the flow of S as rates of all reactions
    obtain ⟨f, hf⟩ : ∃ f : Nat → Int, f = fun i => if S.testBit i = true then mx_fl (fun t => A (mx_nth S t)) kS σ (mx_cnt S i) else 0 := ⟨_, rfl⟩
    have hker : ∀ s, s < M → mx_sm (fun t => f (mx_nth T t) * A (mx_nth T t) s) (kT + 1) = 0 := by
      intro s hs
      have h1 := mx_fl_ker oS hs
      rw [← hS, ← mx_sm_set (S := S) (fun t i => mx_fl (fun t => A (mx_nth S t)) kS σ t * A i s) (Nat.le_refl 8)] at h1
      have h2 := mx_sm_set (S := T) (fun _ i => f i * A i s) (Nat.le_refl 8)
      rw [hT] at h2
      refine h2.symm.trans (Eq.trans (mx_sm_congr (fun i hi => ?_)) h1)
      rw [hf]
      dsimp only
      cases hSi : S.testBit i with
      | true => rw [if_pos (hsub i hi hSi), if_pos rfl, if_pos rfl]
      | false => simp
    have hlast := mx_nth_in (S := T) (t := kT) (by omega)
    have hone : ∀ i, i < kT → mx_p (fun t => A (mx_nth T t)) kT τ * f (mx_nth T i) = - mx_X (fun t => A (mx_nth T t)) kT τ i (A (mx_nth T kT)) * f (mx_nth T kT) := fun i hi => mx_ker_one oT.1 (fun t => f (mx_nth T t)) hker hi
    have hplace : ∀ i, i < 8 → T.testBit i = true → i ≠ mx_nth T kT → mx_cnt T i < kT := by
      intro i hi hTi hne
      have h1 : mx_cnt T i < mx_cnt T 8 := mx_cnt_lt hi hTi
      have h2 : mx_cnt T i ≠ kT := fun q => hne (by rw [← q, mx_nth_cnt hTi hi])
      omega
    cases hL : S.testBit (mx_nth T kT) with
    | true =>
      have hne : j ≠ mx_nth T kT := fun q => by rw [← q, hSj] at hL; cases hL
      have hi := hplace j hj hTj hne
      have h1 := hone _ hi
      rw [mx_nth_cnt hTj hj] at h1
      have f1 : f j = 0 := by rw [hf]; exact if_neg (by rw [hSj]; decide)
      have f2 : f (mx_nth T kT) ≠ 0 := by
        rw [hf]
        dsimp only
        rw [if_pos hL]
        exact mx_fl_ne oS _
      have h2 := oT.2.1 _ hi
      rw [f1, Int.mul_zero] at h1
      rcases Int.mul_eq_zero.mp h1.symm with h3 | h3
      · exact h2 (by dsimp only; omega)
      · exact f2 h3
    | false =>
      have h0 : 0 < mx_cnt S 8 := by omega
      obtain ⟨g1, g2, g3⟩ := mx_nth_in (S := S) (t := 0) h0
      have hTi := hsub _ g1 g2
      have hne : mx_nth S 0 ≠ mx_nth T kT := fun q => by rw [← q, g2] at hL; cases hL
      have hi := hplace _ g1 hTi hne
      have h1 := hone _ hi
      rw [mx_nth_cnt hTi g1] at h1
      have f1 : f (mx_nth S 0) ≠ 0 := by
        rw [hf]
        dsimp only
        rw [if_pos g2]
        exact mx_fl_ne oS _
      have f2 : f (mx_nth T kT) = 0 := by rw [hf]; exact if_neg (by rw [hL]; decide)
      rw [f2, Int.mul_zero] at h1
      rcases Int.mul_eq_zero.mp h1 with h3 | h3
      · exact (mx_sg_ok oT.1).2.1 h3
      · exact f1 h3
/-! at most seventy sets, none inside another: seventy chains -/
def mx_chn (a : Nat) : Nat := (497008576694217909142786290506938064733481783537163052020855532834726596292965013181160860998499427102866352178431674422071844072475131367617191024377109090417196259252069396843480610668534718531742058204907438560226855487521260384375017051108940291486626591390449819691387235572291709384687457222646712582799692663517400672165871876356147810563515346000535070678617808523968356828923898184475483874735159341798346982402602570731565720487742891041323881681142736679647398405089416666693930412221078578838567803168688392932113663920076163276537775571405268579772637079832710215404635913932464610709206643693912064 >>> (8 * a)) % 256
theorem mx_chn_lt : ∀ a, a < 256 → mx_chn a < 70 := by
  have h : (List.range 256).all (fun a => decide (mx_chn a < 70)) = true := by decide +kernel
  intro a ha
  exact of_decide_eq_true (List.all_eq_true.mp h a (List.mem_range.mpr ha))
theorem mx_chn_in : ∀ a, a < 256 → ∀ b, b < 256 → mx_chn a = mx_chn b → a &&& b = a ∨ a &&& b = b := by
  have h : (List.range 256).all (fun a => (List.range 256).all (fun b => !(mx_chn a == mx_chn b) || ((a &&& b) == a || (a &&& b) == b))) = true := by decide +kernel
  intro a ha b hb he
  have h1 := List.all_eq_true.mp (List.all_eq_true.mp h a (List.mem_range.mpr ha)) b (List.mem_range.mpr hb)
  rw [he] at h1
  simpa using h1
def mx_ns (f : Nat → Nat) : Nat → Nat
  | 0 => 0
  | n + 1 => mx_ns f n + f n
theorem mx_ns_le {f g : Nat → Nat} : ∀ {n : Nat}, (∀ t, t < n → f t ≤ g t) → mx_ns f n ≤ mx_ns g n
  | 0, _ => Nat.le_refl 0
  | n + 1, h => by
    show mx_ns f n + f n ≤ mx_ns g n + g n
    have h1 := mx_ns_le (n := n) (fun t ht => h t (Nat.lt_succ_of_lt ht))
    have h2 := h n (Nat.lt_succ_self n)
    omega
theorem mx_ns_add (f g : Nat → Nat) : ∀ n, mx_ns (fun t => f t + g t) n = mx_ns f n + mx_ns g n
  | 0 => rfl
  | n + 1 => by
    show mx_ns _ n + (f n + g n) = (mx_ns f n + f n) + (mx_ns g n + g n)
    rw [mx_ns_add f g n]; omega
theorem mx_ns_zero : ∀ n, mx_ns (fun _ => 0) n = 0
  | 0 => rfl
  | n + 1 => by show mx_ns _ n + 0 = 0; rw [mx_ns_zero n]
theorem mx_ns_swap (F : Nat → Nat → Nat) (n : Nat) : ∀ m, mx_ns (fun t => mx_ns (F t) n) m = mx_ns (fun u => mx_ns (fun t => F t u) m) n
  | 0 => (mx_ns_zero n).symm
  | m + 1 => by
    show mx_ns (fun t => mx_ns (F t) n) m + mx_ns (F m) n = mx_ns (fun u => mx_ns (fun t => F t u) m + F m u) n
    rw [mx_ns_swap F n m, mx_ns_add]
theorem mx_ns_hit {c : Nat} : ∀ {n : Nat}, c < n → mx_ns (fun u => if u = c then 1 else 0) n = 1
  | 0, h => absurd h (Nat.not_lt_zero c)
  | n + 1, h => by
    show mx_ns _ n + (if n = c then 1 else 0) = 1
    by_cases hn : n = c
    · subst hn
      rw [if_pos rfl]
      have : mx_ns (fun u => if u = n then 1 else 0) n = 0 := by
        have h1 : mx_ns (fun u => if u = n then 1 else 0) n ≤ mx_ns (fun _ => 0) n := mx_ns_le (fun t ht => by rw [if_neg (Nat.ne_of_lt ht)]; exact Nat.le_refl 0)
        rw [mx_ns_zero] at h1; omega
      omega
    · rw [if_neg hn, mx_ns_hit (n := n) (by omega)]
/-- one at most where any two are the same -/
theorem mx_ns_one {q : Nat → Bool} : ∀ {n : Nat}, (∀ a b, a < n → b < n → q a = true → q b = true → a = b) → mx_ns (fun a => if q a = true then 1 else 0) n ≤ 1
  | 0, _ => Nat.zero_le 1
  | n + 1, h => by
    show mx_ns _ n + (if q n = true then 1 else 0) ≤ 1
    by_cases hq : q n = true
    · rw [if_pos hq]
      have : mx_ns (fun a => if q a = true then 1 else 0) n = 0 := by
        have h1 : mx_ns (fun a => if q a = true then 1 else 0) n ≤ mx_ns (fun _ => 0) n := mx_ns_le (fun t ht => by
          rw [if_neg (fun hx => by have := h t n (by omega) (by omega) hx hq; omega)]; exact Nat.le_refl 0)
        rw [mx_ns_zero] at h1; omega
      omega
    · rw [if_neg hq]
      exact mx_ns_one (n := n) (fun a b ha hb => h a b (by omega) (by omega))
def mx_count (q : Nat → Bool) (n : Nat) : Nat := mx_ns (fun a => if q a = true then 1 else 0) n
theorem mx_sperner {q : Nat → Bool} {n : Nat} (hn : n ≤ 256) (h : ∀ a b, a < n → b < n → q a = true → q b = true → a &&& b = a → a = b) : mx_count q n ≤ 70 := by
  have h1 : ∀ a, a < n → (if q a = true then 1 else 0) ≤ mx_ns (fun c => if (q a && (mx_chn a == c)) = true then 1 else 0) 70 := by
    intro a ha
    by_cases hq : q a = true
    · rw [if_pos hq]
      refine Nat.le_trans (Nat.le_of_eq (mx_ns_hit (c := mx_chn a) (mx_chn_lt a (by omega))).symm) (mx_ns_le (fun c _ => ?_))
      by_cases hc : c = mx_chn a
      · rw [if_pos hc, if_pos (by rw [hq, hc]; simp)]; exact Nat.le_refl 1
      · rw [if_neg hc]; exact Nat.zero_le _
    · rw [if_neg hq]; exact Nat.zero_le _
  refine Nat.le_trans (mx_ns_le h1) ?_
  rw [mx_ns_swap]
  have h2 : ∀ c, c < 70 → mx_ns (fun a => if (q a && (mx_chn a == c)) = true then 1 else 0) n ≤ 1 := by
    intro c _
    refine mx_ns_one (q := fun a => q a && (mx_chn a == c)) (fun a b ha hb qa qb => ?_)
    rw [Bool.and_eq_true] at qa qb
    have ea : mx_chn a = c := by simpa using qa.2
    have eb : mx_chn b = c := by simpa using qb.2
    rcases mx_chn_in a (by omega) b (by omega) (by rw [ea, eb]) with h3 | h3
    · exact h a b ha hb qa.1 qb.1 h3
    · exact (h b a hb ha qb.1 qa.1 (by rw [Nat.and_comm]; exact h3)).symm
  refine Nat.le_trans (mx_ns_le (g := fun _ => 1) h2) ?_
  decide +kernel
end
