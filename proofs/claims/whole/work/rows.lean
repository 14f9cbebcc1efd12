section
/-! sums -/
def mx_sm (f : Nat → Int) : Nat → Int
  | 0 => 0
  | n + 1 => mx_sm f n + f n
theorem mx_sm_congr {f g : Nat → Int} : ∀ {n : Nat}, (∀ t, t < n → f t = g t) → mx_sm f n = mx_sm g n
  | 0, _ => rfl
  | n + 1, h => by
    show mx_sm f n + f n = mx_sm g n + g n
    rw [mx_sm_congr (n := n) (fun t ht => h t (Nat.lt_succ_of_lt ht)), h n (Nat.lt_succ_self n)]
theorem mx_sm_add (f g : Nat → Int) : ∀ n, mx_sm (fun t => f t + g t) n = mx_sm f n + mx_sm g n
  | 0 => rfl
  | n + 1 => by
    show mx_sm _ n + (f n + g n) = (mx_sm f n + f n) + (mx_sm g n + g n)
    rw [mx_sm_add f g n]; omega
theorem mx_sm_sub (f g : Nat → Int) : ∀ n, mx_sm (fun t => f t - g t) n = mx_sm f n - mx_sm g n
  | 0 => rfl
  | n + 1 => by
    show mx_sm _ n + (f n - g n) = (mx_sm f n + f n) - (mx_sm g n + g n)
    rw [mx_sm_sub f g n]; omega
theorem mx_sm_mul (a : Int) (f : Nat → Int) : ∀ n, mx_sm (fun t => a * f t) n = a * mx_sm f n
  | 0 => (Int.mul_zero a).symm
  | n + 1 => by
    show mx_sm _ n + a * f n = a * (mx_sm f n + f n)
    rw [mx_sm_mul a f n, Int.mul_add]
theorem mx_sm_zero {f : Nat → Int} : ∀ {n : Nat}, (∀ t, t < n → f t = 0) → mx_sm f n = 0
  | 0, _ => rfl
  | n + 1, h => by
    show mx_sm f n + f n = 0
    rw [mx_sm_zero (n := n) (fun t ht => h t (Nat.lt_succ_of_lt ht)), h n (Nat.lt_succ_self n)]; rfl
theorem mx_sm_upd {f g : Nat → Int} {u : Nat} : ∀ {n : Nat}, u < n → (∀ t, t < n → t ≠ u → f t = g t) → mx_sm f n = mx_sm g n + f u - g u
  | 0, h, _ => absurd h (Nat.not_lt_zero u)
  | n + 1, h, hg => by
    show mx_sm f n + f n = (mx_sm g n + g n) + f u - g u
    by_cases hu : u = n
    · subst hu
      rw [mx_sm_congr (f := f) (g := g) (n := u) (fun t ht => hg t (Nat.lt_succ_of_lt ht) (Nat.ne_of_lt ht))]
      omega
    · rw [mx_sm_upd (n := n) (by omega) (fun t ht => hg t (Nat.lt_succ_of_lt ht)), hg n (Nat.lt_succ_self n) (fun q => hu q.symm)]
      omega
theorem mx_sm_one {f : Nat → Int} {u n : Nat} (hu : u < n) (h : ∀ t, t < n → t ≠ u → f t = 0) : mx_sm f n = f u := by
  rw [mx_sm_upd (g := fun _ => 0) hu h, mx_sm_zero (fun _ _ => rfl)]; omega
theorem mx_sm_two {f : Nat → Int} {a b n : Nat} (ha : a < n) (hb : b < n) (hab : a ≠ b) (h : ∀ t, t < n → t ≠ a → t ≠ b → f t = 0) : mx_sm f n = f a + f b := by
  rw [mx_sm_upd (g := fun t => if t = b then f b else 0) ha (fun t ht hta => by
    show f t = if t = b then f b else 0
    by_cases htb : t = b
    · rw [if_pos htb, htb]
    · rw [if_neg htb]; exact h t ht hta htb)]
  rw [mx_sm_one (f := fun t => if t = b then f b else 0) hb (fun t _ htb => if_neg htb)]
  show (if b = b then f b else 0) + f a - (if a = b then f b else 0) = _
  rw [if_pos rfl, if_neg hab]; omega
theorem mx_sm_swap (F : Nat → Nat → Int) (n : Nat) : ∀ m, mx_sm (fun t => mx_sm (F t) n) m = mx_sm (fun u => mx_sm (fun t => F t u) m) n
  | 0 => (mx_sm_zero (fun _ _ => rfl)).symm
  | m + 1 => by
    show mx_sm (fun t => mx_sm (F t) n) m + mx_sm (F m) n = mx_sm (fun u => mx_sm (fun t => F t u) m + F m u) n
    rw [mx_sm_swap F n m, mx_sm_add]
theorem mx_sm_anti {F : Nat → Nat → Int} {n : Nat} (h : ∀ t u, F t u = - F u t) : mx_sm (fun t => mx_sm (F t) n) n = 0 := by
  have h1 := mx_sm_swap F n n
  have h2 : mx_sm (fun u => mx_sm (fun t => F t u) n) n = - mx_sm (fun t => mx_sm (F t) n) n := by
    have h3 : (fun u => mx_sm (fun t => F t u) n) = fun u => (-1) * mx_sm (F u) n := by
      funext u
      rw [← mx_sm_mul]
      refine mx_sm_congr (fun t _ => ?_)
      rw [h t u]; omega
    rw [h3, mx_sm_mul]; omega
  omega
/-! tuples of columns: c t s is the entry of column t in row s -/
def mx_mu (c : Nat → Nat → Int) (t : Nat) (v : Nat → Int) : Nat → Nat → Int := fun u => if u = t then v else c u
theorem mx_mu_at (c : Nat → Nat → Int) (t : Nat) (v : Nat → Int) : mx_mu c t v t = v := if_pos rfl
theorem mx_mu_ne {c : Nat → Nat → Int} {t u : Nat} {v : Nat → Int} (h : u ≠ t) : mx_mu c t v u = c u := if_neg h
theorem mx_mu_self (c : Nat → Nat → Int) (t : Nat) : mx_mu c t (c t) = c := by
  funext u
  by_cases h : u = t
  · subst h; exact mx_mu_at _ _ _
  · exact mx_mu_ne h
theorem mx_mu_mu (c : Nat → Nat → Int) (t : Nat) (v w : Nat → Int) : mx_mu (mx_mu c t v) t w = mx_mu c t w := by
  funext u
  by_cases h : u = t
  · subst h; rw [mx_mu_at, mx_mu_at]
  · rw [mx_mu_ne h, mx_mu_ne h, mx_mu_ne h]
theorem mx_mu_comm (c : Nat → Nat → Int) {t u : Nat} (h : t ≠ u) (v w : Nat → Int) : mx_mu (mx_mu c t v) u w = mx_mu (mx_mu c u w) t v := by
  funext x
  by_cases hu : x = u
  · subst hu; rw [mx_mu_at, mx_mu_ne (fun q => h q.symm), mx_mu_at]
  · by_cases ht : x = t
    · subst ht; rw [mx_mu_ne hu, mx_mu_at, mx_mu_at]
    · rw [mx_mu_ne hu, mx_mu_ne ht, mx_mu_ne ht, mx_mu_ne hu]
/-- the determinant of the first k columns in the first k rows -/
def mx_dt : Nat → (Nat → Nat → Int) → Int
  | 0, _ => 1
  | k + 1, c => c k k * mx_dt k c - mx_sm (fun t => c t k * mx_dt k (mx_mu c t (c k))) k
theorem mx_dt_succ (k : Nat) (c : Nat → Nat → Int) : mx_dt (k + 1) c = c k k * mx_dt k c - mx_sm (fun t => c t k * mx_dt k (mx_mu c t (c k))) k := rfl
theorem mx_dt_congr : ∀ {k : Nat} {c d : Nat → Nat → Int}, (∀ t, t < k → ∀ s, s < k → c t s = d t s) → mx_dt k c = mx_dt k d
  | 0, _, _, _ => rfl
  | k + 1, c, d, h => by
    rw [mx_dt_succ, mx_dt_succ, h k (Nat.lt_succ_self k) k (Nat.lt_succ_self k), mx_dt_congr (k := k) (fun t ht s hs => h t (Nat.lt_succ_of_lt ht) s (Nat.lt_succ_of_lt hs))]
    congr 1
    refine mx_sm_congr (fun t ht => ?_)
    rw [h t (Nat.lt_succ_of_lt ht) k (Nat.lt_succ_self k)]
    congr 1
    refine mx_dt_congr (fun u hu s hs => ?_)
    by_cases hut : u = t
    · subst hut; rw [mx_mu_at, mx_mu_at]; exact h k (Nat.lt_succ_self k) s (Nat.lt_succ_of_lt hs)
    · rw [mx_mu_ne hut, mx_mu_ne hut]; exact h u (Nat.lt_succ_of_lt hu) s (Nat.lt_succ_of_lt hs)
theorem mx_dt_hi {k t : Nat} (h : k ≤ t) (c : Nat → Nat → Int) (v : Nat → Int) : mx_dt k (mx_mu c t v) = mx_dt k c :=
  mx_dt_congr (fun u hu s _ => by rw [mx_mu_ne (by omega)])
theorem mx_dt_hi2 {k t u : Nat} (h : k ≤ t) (hu : u ≠ t) (c : Nat → Nat → Int) (v w : Nat → Int) : mx_dt k (mx_mu (mx_mu c t v) u w) = mx_dt k (mx_mu c u w) := by
  rw [mx_mu_comm c (fun q => hu q.symm), mx_dt_hi h]
theorem mx_lin : ∀ {k : Nat} (c : Nat → Nat → Int) {t : Nat}, t < k → ∀ (x y : Int) (u v : Nat → Int), mx_dt k (mx_mu c t (fun s => x * u s + y * v s)) = x * mx_dt k (mx_mu c t u) + y * mx_dt k (mx_mu c t v)
  | 0, _, _, h, _, _, _, _ => absurd h (Nat.not_lt_zero _)
  | k + 1, c, t, h, x, y, u, v => by
    by_cases ht : t = k
    · subst ht
      have hz : ∀ w : Nat → Int, mx_dt (t + 1) (mx_mu c t w) = w t * mx_dt t c - mx_sm (fun a => c a t * mx_dt t (mx_mu c a w)) t := by
        intro w
        rw [mx_dt_succ, mx_mu_at, mx_dt_hi (Nat.le_refl t)]
        congr 1
        refine mx_sm_congr (fun a ha => ?_)
        rw [mx_mu_ne (Nat.ne_of_lt ha), mx_dt_hi2 (Nat.le_refl t) (Nat.ne_of_lt ha)]
      rw [hz, hz, hz]
      have hs : mx_sm (fun a => c a t * mx_dt t (mx_mu c a (fun s => x * u s + y * v s))) t = x * mx_sm (fun a => c a t * mx_dt t (mx_mu c a u)) t + y * mx_sm (fun a => c a t * mx_dt t (mx_mu c a v)) t := by
        rw [← mx_sm_mul, ← mx_sm_mul, ← mx_sm_add]
        refine mx_sm_congr (fun a ha => ?_)
        rw [mx_lin c ha x y u v]
        grind
      rw [hs]
      grind
    · have htk : t < k := by omega
      have hkt : k ≠ t := fun q => ht q.symm
      have hz : ∀ w : Nat → Int, mx_dt (k + 1) (mx_mu c t w) = c k k * mx_dt k (mx_mu c t w) - mx_sm (fun a => mx_mu c t w a k * mx_dt k (mx_mu (mx_mu c t w) a (c k))) k := by
        intro w
        rw [mx_dt_succ, mx_mu_ne hkt]
      rw [hz, hz, hz, mx_lin c htk x y u v]
      have hs : mx_sm (fun a => mx_mu c t (fun s => x * u s + y * v s) a k * mx_dt k (mx_mu (mx_mu c t (fun s => x * u s + y * v s)) a (c k))) k = x * mx_sm (fun a => mx_mu c t u a k * mx_dt k (mx_mu (mx_mu c t u) a (c k))) k + y * mx_sm (fun a => mx_mu c t v a k * mx_dt k (mx_mu (mx_mu c t v) a (c k))) k := by
        rw [← mx_sm_mul, ← mx_sm_mul, ← mx_sm_add]
        refine mx_sm_congr (fun a ha => ?_)
        by_cases hat : a = t
        · subst hat
          rw [mx_mu_at, mx_mu_at, mx_mu_at, mx_mu_mu, mx_mu_mu, mx_mu_mu]
          grind
        · rw [mx_mu_ne hat, mx_mu_ne hat, mx_mu_ne hat, mx_mu_comm c (fun q => hat q.symm), mx_mu_comm c (fun q => hat q.symm), mx_mu_comm c (fun q => hat q.symm), mx_lin (mx_mu c a (c k)) htk x y u v]
          grind
      rw [hs]
      grind
theorem mx_smul {k : Nat} (c : Nat → Nat → Int) {t : Nat} (h : t < k) (x : Int) (u : Nat → Int) : mx_dt k (mx_mu c t (fun s => x * u s)) = x * mx_dt k (mx_mu c t u) := by
  have h1 := mx_lin c h x 0 u u
  have h2 : (fun s => x * u s + 0 * u s) = fun s => x * u s := by funext s; rw [Int.zero_mul, Int.add_zero]
  rw [h2, Int.zero_mul, Int.add_zero] at h1
  exact h1
theorem mx_addc {k : Nat} (c : Nat → Nat → Int) {t : Nat} (h : t < k) (u v : Nat → Int) : mx_dt k (mx_mu c t (fun s => u s + v s)) = mx_dt k (mx_mu c t u) + mx_dt k (mx_mu c t v) := by
  have h1 := mx_lin c h 1 1 u v
  have h2 : (fun s => 1 * u s + 1 * v s) = fun s => u s + v s := by funext s; rw [Int.one_mul, Int.one_mul]
  rw [h2, Int.one_mul, Int.one_mul] at h1
  exact h1
theorem mx_linsum {k : Nat} (c : Nat → Nat → Int) {a : Nat} (h : a < k) (x : Nat → Int) (q : Nat → Nat → Int) : ∀ n, mx_dt k (mx_mu c a (fun s => mx_sm (fun t => x t * q t s) n)) = mx_sm (fun t => x t * mx_dt k (mx_mu c a (q t))) n
  | 0 => by
    have h1 := mx_smul c h 0 (fun _ => 0)
    have h2 : (fun s => (0 : Int) * (fun _ => (0 : Int) : Nat → Int) s) = (fun s => mx_sm (fun t => x t * q t s) 0) := by
      funext s
      exact Int.zero_mul _
    rw [h2] at h1
    exact h1.trans (Int.zero_mul _)
  | n + 1 => by
    have h1 : (fun s => mx_sm (fun t => x t * q t s) (n + 1)) = fun s => 1 * (mx_sm (fun t => x t * q t s) n) + x n * q n s := by
      funext s; rw [Int.one_mul]; rfl
    rw [h1, mx_lin c h 1 (x n) (fun s => mx_sm (fun t => x t * q t s) n) (q n), mx_linsum c h x q n, Int.one_mul]
    rfl
/-- two columns alike: 0 -/
theorem mx_alt : ∀ {k : Nat} {c : Nat → Nat → Int} {a b : Nat}, a < b → b < k → c a = c b → mx_dt k c = 0
  | 0, _, _, _, _, h, _ => absurd h (Nat.not_lt_zero _)
  | k + 1, c, a, b, hab, hb, he => by
    have alt : ∀ (d : Nat → Nat → Int) (x y : Nat), x ≠ y → x < k → y < k → d x = d y → mx_dt k d = 0 := by
      intro d x y hxy hx hy hd
      rcases Nat.lt_or_gt_of_ne hxy with h | h
      · exact mx_alt h hy hd
      · exact mx_alt h hx hd.symm
    have anti : ∀ (d : Nat → Nat → Int) (x y : Nat) (u v : Nat → Int), x ≠ y → x < k → y < k → mx_dt k (mx_mu (mx_mu d x u) y v) = - mx_dt k (mx_mu (mx_mu d x v) y u) := by
      intro d x y u v hxy hx hy
      have z : ∀ w : Nat → Int, mx_dt k (mx_mu (mx_mu d x w) y w) = 0 := fun w => alt _ x y hxy hx hy (by rw [mx_mu_at, mx_mu_ne hxy, mx_mu_at])
      have e1 := z (fun s => u s + v s)
      rw [mx_addc _ hy, mx_mu_comm d hxy, mx_mu_comm d hxy, mx_addc _ hx, mx_addc _ hx, mx_mu_comm d (fun q => hxy q.symm), mx_mu_comm d (fun q => hxy q.symm), mx_mu_comm d (fun q => hxy q.symm), mx_mu_comm d (fun q => hxy q.symm), z u, z v] at e1
      omega
    rw [mx_dt_succ]
    by_cases hbk : b = k
    · subst hbk
      rw [mx_sm_one (u := a) hab (fun t ht hta => by
        rw [alt (mx_mu c t (c b)) t a hta ht hab (by rw [mx_mu_at, mx_mu_ne (fun q => hta q.symm), he]), Int.mul_zero])]
      rw [← he, mx_mu_self, he]
      omega
    · have hbk' : b < k := by omega
      have hak' : a < k := by omega
      have hne : a ≠ b := Nat.ne_of_lt hab
      rw [alt c a b hne hak' hbk' he, Int.mul_zero, mx_sm_two (a := a) (b := b) hak' hbk' hne (fun t ht hta htb => by
        rw [alt (mx_mu c t (c k)) a b hne hak' hbk' (by rw [mx_mu_ne (fun q => hta q.symm), mx_mu_ne (fun q => htb q.symm), he]), Int.mul_zero])]
      have h1 := anti c a b (c k) (c b) hne hak' hbk'
      rw [show mx_mu (mx_mu c a (c k)) b (c b) = mx_mu c a (c k) by
          rw [mx_mu_comm c hne, mx_mu_self],
        show mx_mu (mx_mu c a (c b)) b (c k) = mx_mu c b (c k) by
          rw [← he, mx_mu_self]] at h1
      rw [h1, he]
      grind
theorem mx_alt' {k : Nat} {c : Nat → Nat → Int} {a b : Nat} (hab : a ≠ b) (ha : a < k) (hb : b < k) (he : c a = c b) : mx_dt k c = 0 := by
  rcases Nat.lt_or_gt_of_ne hab with h | h
  · exact mx_alt h hb he
  · exact mx_alt h ha he.symm
theorem mx_antis {k : Nat} (d : Nat → Nat → Int) {x y : Nat} (u v : Nat → Int) (hxy : x ≠ y) (hx : x < k) (hy : y < k) : mx_dt k (mx_mu (mx_mu d x u) y v) = - mx_dt k (mx_mu (mx_mu d x v) y u) := by
  have z : ∀ w : Nat → Int, mx_dt k (mx_mu (mx_mu d x w) y w) = 0 := fun w => mx_alt' hxy hx hy (by rw [mx_mu_at, mx_mu_ne hxy, mx_mu_at])
  have e1 := z (fun s => u s + v s)
  rw [mx_addc _ hy, mx_mu_comm d hxy, mx_mu_comm d hxy, mx_addc _ hx, mx_addc _ hx, mx_mu_comm d (fun q => hxy q.symm), mx_mu_comm d (fun q => hxy q.symm), mx_mu_comm d (fun q => hxy q.symm), mx_mu_comm d (fun q => hxy q.symm), z u, z v] at e1
  omega
end
section
/-- a column in the other ones' place, summed up along a row of the first k: Cramer -/
theorem mx_cramer : ∀ {k : Nat} (c : Nat → Nat → Int) (v : Nat → Int) {s : Nat}, s < k → mx_sm (fun t => c t s * mx_dt k (mx_mu c t v)) k = v s * mx_dt k c
  | 0, _, _, _, h => absurd h (Nat.not_lt_zero _)
  | k + 1, c, v, s, hs => by
    -- the determinants of size k + 1, by the last row
    have hA : ∀ t, t < k → mx_dt (k + 1) (mx_mu c t v) = c k k * mx_dt k (mx_mu c t v) - mx_sm (fun u => mx_mu c t v u k * mx_dt k (mx_mu (mx_mu c t v) u (c k))) k := by
      intro t ht
      rw [mx_dt_succ, mx_mu_ne (fun q => Nat.ne_of_lt ht q.symm)]
    have hB : mx_dt (k + 1) (mx_mu c k v) = v k * mx_dt k c - mx_sm (fun u => c u k * mx_dt k (mx_mu c u v)) k := by
      rw [mx_dt_succ, mx_mu_at, mx_dt_hi (Nat.le_refl k)]
      congr 1
      refine mx_sm_congr (fun a ha => ?_)
      rw [mx_mu_ne (Nat.ne_of_lt ha), mx_dt_hi2 (Nat.le_refl k) (Nat.ne_of_lt ha)]
    show mx_sm (fun t => c t s * mx_dt (k + 1) (mx_mu c t v)) k + c k s * mx_dt (k + 1) (mx_mu c k v) = _
    rw [hB, mx_sm_congr (g := fun t => c t s * (c k k * mx_dt k (mx_mu c t v)) - c t s * mx_sm (fun u => mx_mu c t v u k * mx_dt k (mx_mu (mx_mu c t v) u (c k))) k) (fun t ht => by rw [hA t ht, Int.mul_sub]), mx_sm_sub, mx_dt_succ]
    have e1 : mx_sm (fun t => c t s * (c k k * mx_dt k (mx_mu c t v))) k = c k k * mx_sm (fun t => c t s * mx_dt k (mx_mu c t v)) k := by
      rw [← mx_sm_mul]
      exact mx_sm_congr (fun t _ => by rw [Int.mul_left_comm])
    have e2 : mx_sm (fun t => c t s * mx_sm (fun u => mx_mu c t v u k * mx_dt k (mx_mu (mx_mu c t v) u (c k))) k) k = mx_sm (fun u => mx_sm (fun t => c t s * (mx_mu c t v u k * mx_dt k (mx_mu (mx_mu c t v) u (c k)))) k) k := by
      rw [← mx_sm_swap]
      exact mx_sm_congr (fun t _ => by rw [mx_sm_mul])
    rw [e1, e2]
    by_cases hsk : s = k
    · subst hsk
      have e3 : mx_sm (fun u => mx_sm (fun t => c t s * (mx_mu c t v u s * mx_dt s (mx_mu (mx_mu c t v) u (c s)))) s) s = v s * mx_sm (fun u => c u s * mx_dt s (mx_mu c u (c s))) s := by
        have e4 := mx_sm_anti (n := s) (F := fun u t => if t = u then 0 else c t s * c u s * (if t < s ∧ u < s then mx_dt s (mx_mu (mx_mu c t v) u (c s)) else 0)) (fun u t => by
          by_cases h : t = u
          · rw [if_pos h, if_pos h.symm]; rfl
          · rw [if_neg h, if_neg (show ¬ u = t from fun q => h q.symm)]
            by_cases h2 : t < s ∧ u < s
            · rw [if_pos h2, if_pos ⟨h2.2, h2.1⟩, mx_antis c v (c s) h h2.1 h2.2, mx_mu_comm c h]
              grind
            · rw [if_neg h2, if_neg (show ¬ (u < s ∧ t < s) from fun q => h2 ⟨q.2, q.1⟩)]
              omega)
        rw [← mx_sm_mul]
        have e5 : ∀ u, u < s → mx_sm (fun t => c t s * (mx_mu c t v u s * mx_dt s (mx_mu (mx_mu c t v) u (c s)))) s = mx_sm (fun t => if t = u then 0 else c t s * c u s * (if t < s ∧ u < s then mx_dt s (mx_mu (mx_mu c t v) u (c s)) else 0)) s + v s * (c u s * mx_dt s (mx_mu c u (c s))) := by
          intro u hu
          rw [mx_sm_upd (u := u) (g := fun t => if t = u then 0 else c t s * c u s * (if t < s ∧ u < s then mx_dt s (mx_mu (mx_mu c t v) u (c s)) else 0)) hu (fun t ht htu => by
            show _ = if t = u then 0 else _
            rw [if_neg htu, if_pos ⟨ht, hu⟩, mx_mu_ne (fun q => htu q.symm)]
            grind)]
          show _ + c u s * (mx_mu c u v u s * mx_dt s (mx_mu (mx_mu c u v) u (c s))) - (if u = u then 0 else _) = _
          rw [if_pos rfl, mx_mu_at, mx_mu_mu]
          grind
        rw [mx_sm_congr e5, mx_sm_add, e4]
        omega
      rw [e3]
      grind
    · have hsk' : s < k := by omega
      have hC := mx_cramer c v hsk'
      have hE := mx_cramer c (c k) hsk'
      have e3 : ∀ u, u < k → mx_sm (fun t => c t s * (mx_mu c t v u k * mx_dt k (mx_mu (mx_mu c t v) u (c k)))) k = v k * (c u s * mx_dt k (mx_mu c u (c k))) + (v s * (c u k * mx_dt k (mx_mu c u (c k))) - c k s * (c u k * mx_dt k (mx_mu c u v))) := by
        intro u hu
        have hU := mx_cramer (mx_mu c u (c k)) v hsk'
        rw [mx_sm_upd (u := u) (g := fun t => c u k * (mx_mu c u (c k) t s * mx_dt k (mx_mu (mx_mu c u (c k)) t v))) hu (fun t ht htu => by
          show _ = c u k * (mx_mu c u (c k) t s * mx_dt k (mx_mu (mx_mu c u (c k)) t v))
          rw [mx_mu_ne htu, mx_mu_ne (fun q => htu q.symm), mx_mu_comm c htu]
          grind), mx_sm_mul, hU]
        show _ + c u s * (mx_mu c u v u k * mx_dt k (mx_mu (mx_mu c u v) u (c k))) - c u k * (mx_mu c u (c k) u s * mx_dt k (mx_mu (mx_mu c u (c k)) u v)) = _
        rw [mx_mu_at, mx_mu_at, mx_mu_mu, mx_mu_mu]
        grind
      rw [mx_sm_congr e3, mx_sm_add, mx_sm_sub, mx_sm_mul, mx_sm_mul, mx_sm_mul, hC, hE]
      grind
/-- two columns put in, three terms -/
theorem mx_plucker {k : Nat} (c : Nat → Nat → Int) {a b : Nat} (hab : a ≠ b) (ha : a < k) (hb : b < k) (u w : Nat → Int) : mx_dt k c * mx_dt k (mx_mu (mx_mu c a u) b w) = mx_dt k (mx_mu c a u) * mx_dt k (mx_mu c b w) - mx_dt k (mx_mu c a w) * mx_dt k (mx_mu c b u) := by
  have h1 : mx_dt k c * mx_dt k (mx_mu (mx_mu c a u) b w) = mx_dt k (mx_mu (mx_mu c b w) a (fun s => mx_dt k c * u s)) := by
    rw [mx_smul _ ha, mx_mu_comm c hab]
  have h2 : mx_dt k (mx_mu (mx_mu c b w) a (fun s => mx_dt k c * u s)) = mx_dt k (mx_mu (mx_mu c b w) a (fun s => mx_sm (fun t => mx_dt k (mx_mu c t u) * c t s) k)) := by
    refine mx_dt_congr (fun t _ s hs => ?_)
    by_cases hta : t = a
    · subst hta
      rw [mx_mu_at, mx_mu_at]
      show mx_dt k c * u s = mx_sm (fun t => mx_dt k (mx_mu c t u) * c t s) k
      rw [Int.mul_comm, ← mx_cramer c u hs]
      exact mx_sm_congr (fun t _ => Int.mul_comm _ _)
    · rw [mx_mu_ne hta, mx_mu_ne hta]
  rw [h1, h2, mx_linsum _ ha, mx_sm_two (a := a) (b := b) ha hb hab (fun t ht hta htb => by
    rw [mx_alt' (c := mx_mu (mx_mu c b w) a (c t)) hta ht ha (by rw [mx_mu_at, mx_mu_ne hta, mx_mu_ne htb]), Int.mul_zero])]
  rw [mx_mu_comm c (fun q => hab q.symm) w (c a), mx_mu_self, mx_antis c w (c b) (fun q => hab q.symm) hb ha, mx_mu_self]
  grind
/-- row i ahead of the elimination's k-th step, of a column v: bordered -/
def mx_bo (k : Nat) (c : Nat → Nat → Int) (i : Nat) (v : Nat → Int) : Int := v i * mx_dt k c - mx_sm (fun t => c t i * mx_dt k (mx_mu c t v)) k
theorem mx_bo_dt (k : Nat) (c : Nat → Nat → Int) (v : Nat → Int) : mx_dt (k + 1) (mx_mu c k v) = mx_bo k c k v := by
  rw [mx_dt_succ, mx_mu_at, mx_dt_hi (Nat.le_refl k)]
  unfold mx_bo
  congr 1
  refine mx_sm_congr (fun a ha => ?_)
  rw [mx_mu_ne (Nat.ne_of_lt ha), mx_dt_hi2 (Nat.le_refl k) (Nat.ne_of_lt ha)]
theorem mx_bo_piv (k : Nat) (c : Nat → Nat → Int) : mx_dt (k + 1) c = mx_bo k c k (c k) := rfl
def mx_vl (k : Nat) (c : Nat → Nat → Int) (i : Nat) (v : Nat → Int) : Int := if i < k then mx_dt k (mx_mu c i v) else mx_bo k c i v
theorem mx_stepA {k : Nat} (c : Nat → Nat → Int) {i : Nat} (hi : i < k) (v : Nat → Int) : mx_dt k c * mx_dt (k + 1) (mx_mu c i v) = mx_dt (k + 1) c * mx_dt k (mx_mu c i v) - mx_dt k (mx_mu c i (c k)) * mx_bo k c k v := by
  rw [mx_dt_succ k (mx_mu c i v), mx_mu_ne (fun q => Nat.ne_of_lt hi q.symm), mx_dt_succ k c]
  unfold mx_bo
  have e1 : mx_sm (fun u => mx_dt k c * (mx_mu c i v u k * mx_dt k (mx_mu (mx_mu c i v) u (c k)))) k = mx_sm (fun u => mx_dt k (mx_mu c i v) * (c u k * mx_dt k (mx_mu c u (c k))) - mx_dt k (mx_mu c i (c k)) * (c u k * mx_dt k (mx_mu c u v))) k + mx_dt k c * (v k * mx_dt k (mx_mu c i (c k))) := by
    rw [mx_sm_upd (u := i) (g := fun u => mx_dt k (mx_mu c i v) * (c u k * mx_dt k (mx_mu c u (c k))) - mx_dt k (mx_mu c i (c k)) * (c u k * mx_dt k (mx_mu c u v))) hi (fun u hu hui => by
      show mx_dt k c * (mx_mu c i v u k * mx_dt k (mx_mu (mx_mu c i v) u (c k))) = mx_dt k (mx_mu c i v) * (c u k * mx_dt k (mx_mu c u (c k))) - mx_dt k (mx_mu c i (c k)) * (c u k * mx_dt k (mx_mu c u v))
      have hpl := mx_plucker c (fun q => hui q.symm) hi hu v (c k)
      rw [mx_mu_ne hui]
      grind)]
    show _ + mx_dt k c * (mx_mu c i v i k * mx_dt k (mx_mu (mx_mu c i v) i (c k))) - _ = _
    rw [mx_mu_at, mx_mu_mu]
    grind
  rw [mx_sm_mul, mx_sm_sub, mx_sm_mul, mx_sm_mul] at e1
  grind
theorem mx_stepC {k : Nat} (c : Nat → Nat → Int) (i : Nat) (v : Nat → Int) : mx_dt k c * mx_bo (k + 1) c i v = mx_dt (k + 1) c * mx_bo k c i v - mx_bo k c i (c k) * mx_bo k c k v := by
  have h1 : mx_bo (k + 1) c i v = v i * mx_dt (k + 1) c - (mx_sm (fun t => c t i * mx_dt (k + 1) (mx_mu c t v)) k + c k i * mx_bo k c k v) := by
    rw [← mx_bo_dt k c v]; rfl
  have h2 : mx_dt k c * mx_sm (fun t => c t i * mx_dt (k + 1) (mx_mu c t v)) k = mx_dt (k + 1) c * mx_sm (fun t => c t i * mx_dt k (mx_mu c t v)) k - mx_bo k c k v * mx_sm (fun t => c t i * mx_dt k (mx_mu c t (c k))) k := by
    rw [← mx_sm_mul, ← mx_sm_mul, ← mx_sm_mul, ← mx_sm_sub]
    refine mx_sm_congr (fun t ht => ?_)
    have hA := mx_stepA c ht v
    show mx_dt k c * (c t i * mx_dt (k + 1) (mx_mu c t v)) = mx_dt (k + 1) c * (c t i * mx_dt k (mx_mu c t v)) - mx_bo k c k v * (c t i * mx_dt k (mx_mu c t (c k)))
    grind
  rw [h1]
  unfold mx_bo at h2 ⊢
  grind
/-- one step of the elimination: every row but the pivot's -/
theorem mx_step {k : Nat} (c : Nat → Nat → Int) {i : Nat} (hi : i ≠ k) (v : Nat → Int) : mx_dt k c * mx_vl (k + 1) c i v = mx_dt (k + 1) c * mx_vl k c i v - mx_vl k c i (c k) * mx_vl k c k v := by
  unfold mx_vl
  rw [if_neg (Nat.lt_irrefl k)]
  by_cases h : i < k
  · rw [if_pos (Nat.lt_succ_of_lt h), if_pos h, if_pos h]
    exact mx_stepA c h v
  · rw [if_neg (by omega), if_neg h, if_neg h]
    exact mx_stepC c i v
theorem mx_step_k (k : Nat) (c : Nat → Nat → Int) (v : Nat → Int) : mx_vl (k + 1) c k v = mx_vl k c k v := by
  unfold mx_vl
  rw [if_pos (Nat.lt_succ_self k), if_neg (Nat.lt_irrefl k), mx_bo_dt]
/-! how large -/
def mx_B : Nat → Nat
  | 0 => 1
  | k + 1 => 9 * (k + 1) * mx_B k
theorem mx_sm_abs {f : Nat → Int} {b : Nat} : ∀ {n : Nat}, (∀ t, t < n → (f t).natAbs ≤ b) → (mx_sm f n).natAbs ≤ n * b
  | 0, _ => by rw [Nat.zero_mul]; exact Nat.le_refl 0
  | n + 1, h => by
    show (mx_sm f n + f n).natAbs ≤ (n + 1) * b
    have h1 := mx_sm_abs (n := n) (fun t ht => h t (Nat.lt_succ_of_lt ht))
    have h2 := h n (Nat.lt_succ_self n)
    have h3 := Int.natAbs_add_le (mx_sm f n) (f n)
    rw [Nat.succ_mul]
    omega
theorem mx_abs_mul {x y : Int} {a b : Nat} (hx : x.natAbs ≤ a) (hy : y.natAbs ≤ b) : (x * y).natAbs ≤ a * b := by
  rw [Int.natAbs_mul]
  exact Nat.mul_le_mul hx hy
theorem mx_abs_sub {x y : Int} {a b : Nat} (hx : x.natAbs ≤ a) (hy : y.natAbs ≤ b) : (x - y).natAbs ≤ a + b := by omega
theorem mx_dt_abs : ∀ {k : Nat} {c : Nat → Nat → Int}, (∀ t, t < k → ∀ s, s < k → (c t s).natAbs ≤ 9) → (mx_dt k c).natAbs ≤ mx_B k
  | 0, _, _ => Nat.le_refl 1
  | k + 1, c, h => by
    rw [mx_dt_succ]
    have h1 := mx_dt_abs (k := k) (c := c) (fun t ht s hs => h t (Nat.lt_succ_of_lt ht) s (Nat.lt_succ_of_lt hs))
    have h2 : ∀ t, t < k → (c t k * mx_dt k (mx_mu c t (c k))).natAbs ≤ 9 * mx_B k := by
      intro t ht
      refine mx_abs_mul (h t (Nat.lt_succ_of_lt ht) k (Nat.lt_succ_self k)) (mx_dt_abs (fun u hu s hs => ?_))
      by_cases hut : u = t
      · subst hut; rw [mx_mu_at]; exact h k (Nat.lt_succ_self k) s (Nat.lt_succ_of_lt hs)
      · rw [mx_mu_ne hut]; exact h u (Nat.lt_succ_of_lt hu) s (Nat.lt_succ_of_lt hs)
    have h3 := mx_abs_sub (mx_abs_mul (h k (Nat.lt_succ_self k) k (Nat.lt_succ_self k)) h1) (mx_sm_abs h2)
    refine Nat.le_trans h3 (Nat.le_of_eq ?_)
    show 9 * mx_B k + k * (9 * mx_B k) = 9 * (k + 1) * mx_B k
    grind
theorem mx_bo_abs {k : Nat} {c : Nat → Nat → Int} {i : Nat} {v : Nat → Int} (h : ∀ t, t < k → ∀ s, (c t s).natAbs ≤ 9) (hv : ∀ s, (v s).natAbs ≤ 9) : (mx_bo k c i v).natAbs ≤ mx_B (k + 1) := by
  unfold mx_bo
  have h1 := mx_dt_abs (k := k) (c := c) (fun t ht s _ => h t ht s)
  have h2 : ∀ t, t < k → (c t i * mx_dt k (mx_mu c t v)).natAbs ≤ 9 * mx_B k := by
    intro t ht
    refine mx_abs_mul (h t ht i) (mx_dt_abs (fun u hu s _ => ?_))
    by_cases hut : u = t
    · subst hut; rw [mx_mu_at]; exact hv s
    · rw [mx_mu_ne hut]; exact h u hu s
  have h3 := mx_abs_sub (mx_abs_mul (hv i) h1) (mx_sm_abs h2)
  refine Nat.le_trans h3 (Nat.le_of_eq ?_)
  show 9 * mx_B k + k * (9 * mx_B k) = 9 * (k + 1) * mx_B k
  grind
theorem mx_B_mono {a b : Nat} (h : a ≤ b) : mx_B a ≤ mx_B b := by
  induction b with
  | zero => rw [Nat.le_zero.mp h]; exact Nat.le_refl _
  | succ b ih =>
    rcases Nat.lt_or_ge a (b + 1) with h1 | h1
    · refine Nat.le_trans (ih (by omega)) ?_
      show mx_B b ≤ 9 * (b + 1) * mx_B b
      exact Nat.le_mul_of_pos_left _ (by omega)
    · rw [show a = b + 1 by omega]; exact Nat.le_refl _
theorem mx_B6 : mx_B 6 = 382637520 := by decide +kernel
/-- all that the elimination of at most six rows holds -/
theorem mx_vl_abs {k n : Nat} {c : Nat → Nat → Int} {i : Nat} {v : Nat → Int} (hn : n ≤ 6) (hk : k ≤ n) (hi : i < n) (h : ∀ t, t < k → ∀ s, (c t s).natAbs ≤ 9) (hv : ∀ s, (v s).natAbs ≤ 9) : (mx_vl k c i v).natAbs ≤ 382637520 := by
  rw [← mx_B6]
  unfold mx_vl
  by_cases h1 : i < k
  · rw [if_pos h1]
    refine Nat.le_trans (mx_dt_abs (fun u hu s _ => ?_)) (mx_B_mono (by omega))
    by_cases hut : u = i
    · subst hut; rw [mx_mu_at]; exact hv s
    · rw [mx_mu_ne hut]; exact h u hu s
  · rw [if_neg h1]
    exact Nat.le_trans (mx_bo_abs h hv) (mx_B_mono (by omega))
end
section
/-! the elimination, row by row: which row is taken for the k-th column -/
def mx_first (p : Nat → Bool) : Nat → Nat → Option Nat
  | _, 0 => none
  | i, n + 1 => if p i = true then some i else mx_first p (i + 1) n
theorem mx_first_some {p : Nat → Bool} : ∀ {n k i : Nat}, mx_first p k n = some i → k ≤ i ∧ i < k + n ∧ p i = true
  | 0, _, _, h => by cases h
  | n + 1, k, i, h => by
    unfold mx_first at h
    by_cases hp : p k = true
    · rw [if_pos hp] at h
      cases h
      exact ⟨Nat.le_refl _, by omega, hp⟩
    · rw [if_neg hp] at h
      obtain ⟨h1, h2, h3⟩ := mx_first_some h
      exact ⟨by omega, by omega, h3⟩
theorem mx_first_none {p : Nat → Bool} : ∀ {n k : Nat}, (∀ j, k ≤ j → j < k + n → p j = false) → mx_first p k n = none
  | 0, _, _ => rfl
  | n + 1, k, h => by
    unfold mx_first
    rw [if_neg (by rw [h k (Nat.le_refl k) (by omega)]; decide)]
    exact mx_first_none (fun j h1 h2 => h j (by omega) (by omega))
theorem mx_first_at {p : Nat → Bool} : ∀ {n k i : Nat}, k ≤ i → i < k + n → p i = true → (∀ j, k ≤ j → j < i → p j = false) → mx_first p k n = some i
  | 0, _, _, h1, h2, _, _ => absurd h1 (by omega)
  | n + 1, k, i, h1, h2, hp, h => by
    unfold mx_first
    by_cases hk : k = i
    · subst hk
      rw [if_pos hp]
    · rw [if_neg (by rw [h k (Nat.le_refl k) (by omega)]; decide)]
      exact mx_first_at (by omega) (by omega) hp (fun j h1 h2 => h j (by omega) h2)
def mx_sw (k i : Nat) : Nat → Nat := fun s => if s = k then i else if s = i then k else s
theorem mx_sw_l (k i : Nat) : mx_sw k i k = i := if_pos rfl
theorem mx_sw_r (k i : Nat) : mx_sw k i i = k := by
  unfold mx_sw
  by_cases h : i = k
  · rw [if_pos h, h]
  · rw [if_neg h, if_pos rfl]
theorem mx_sw_o {k i s : Nat} (h1 : s ≠ k) (h2 : s ≠ i) : mx_sw k i s = s := by unfold mx_sw; rw [if_neg h1, if_neg h2]
theorem mx_sw_sw (k i s : Nat) : mx_sw k i (mx_sw k i s) = s := by
  by_cases h1 : s = k
  · subst h1; rw [mx_sw_l, mx_sw_r]
  · by_cases h2 : s = i
    · subst h2; rw [mx_sw_r, mx_sw_l]
    · rw [mx_sw_o h1 h2, mx_sw_o h1 h2]
theorem mx_sw_lt {k i s M : Nat} (hk : k < M) (hi : i < M) (hs : s < M) : mx_sw k i s < M := by
  unfold mx_sw
  split
  · exact hi
  · split
    · exact hk
    · exact hs
theorem mx_sw_ge {k i s : Nat} (hi : k ≤ i) (hs : k ≤ s) : k ≤ mx_sw k i s := by
  unfold mx_sw
  split
  · exact hi
  · split
    · exact Nat.le_refl k
    · exact hs
theorem mx_sw_lo {k i s : Nat} (hi : k ≤ i) (hs : s < k) : mx_sw k i s = s := mx_sw_o (by omega) (by omega)
def mx_tup (c0 : Nat → Nat → Int) (σ : Nat → Nat) : Nat → Nat → Int := fun t s => c0 t (σ s)
/-- the k-th pivot; the cell of row i of a column v0 ahead of the k-th step -/
def mx_p (c0 : Nat → Nat → Int) (k : Nat) (σ : Nat → Nat) : Int := mx_dt k (mx_tup c0 σ)
def mx_X (c0 : Nat → Nat → Int) (k : Nat) (σ : Nat → Nat) (i : Nat) (v0 : Nat → Int) : Int := mx_vl k (mx_tup c0 σ) i (fun s => v0 (σ s))
def mx_sg (c0 : Nat → Nat → Int) (M : Nat) : Nat → Option (Nat → Nat)
  | 0 => some (fun s => s)
  | k + 1 => match mx_sg c0 M k with
    | none => none
    | some σ => match mx_first (fun i => mx_X c0 k σ i (c0 k) != 0) k (M - k) with
      | none => none
      | some i => some (fun s => σ (mx_sw k i s))
theorem mx_sg_next {c0 : Nat → Nat → Int} {M k : Nat} {σ : Nat → Nat} {i : Nat} (h : mx_sg c0 M k = some σ) (h1 : mx_first (fun i => mx_X c0 k σ i (c0 k) != 0) k (M - k) = some i) : mx_sg c0 M (k + 1) = some (fun s => σ (mx_sw k i s)) := by
  show (match mx_sg c0 M k with | none => none | some σ => match mx_first (fun i => mx_X c0 k σ i (c0 k) != 0) k (M - k) with | none => none | some i => some (fun s => σ (mx_sw k i s))) = _
  rw [h]
  show (match mx_first (fun i => mx_X c0 k σ i (c0 k) != 0) k (M - k) with | none => none | some i => some (fun s => σ (mx_sw k i s))) = _
  rw [h1]
theorem mx_sg_fail {c0 : Nat → Nat → Int} {M k : Nat} {σ : Nat → Nat} (h : mx_sg c0 M k = some σ) (h1 : mx_first (fun i => mx_X c0 k σ i (c0 k) != 0) k (M - k) = none) : mx_sg c0 M (k + 1) = none := by
  show (match mx_sg c0 M k with | none => none | some σ => match mx_first (fun i => mx_X c0 k σ i (c0 k) != 0) k (M - k) with | none => none | some i => some (fun s => σ (mx_sw k i s))) = _
  rw [h]
  show (match mx_first (fun i => mx_X c0 k σ i (c0 k) != 0) k (M - k) with | none => none | some i => some (fun s => σ (mx_sw k i s))) = _
  rw [h1]
theorem mx_sg_none {c0 : Nat → Nat → Int} {M k : Nat} (h : mx_sg c0 M k = none) : mx_sg c0 M (k + 1) = none := by
  show (match mx_sg c0 M k with | none => none | some σ => match mx_first (fun i => mx_X c0 k σ i (c0 k) != 0) k (M - k) with | none => none | some i => some (fun s => σ (mx_sw k i s))) = _
  rw [h]
theorem mx_sg_none_le {c0 : Nat → Nat → Int} {M k : Nat} (h : mx_sg c0 M k = none) : ∀ {n : Nat}, k ≤ n → mx_sg c0 M n = none := by
  intro n hn
  induction n with
  | zero => rw [← Nat.le_zero.mp hn]; exact h
  | succ n ih =>
    rcases Nat.lt_or_ge n k with h1 | h1
    · rw [show n + 1 = k by omega]; exact h
    · exact mx_sg_none (ih h1)
theorem mx_sg_prev {c0 : Nat → Nat → Int} {M k : Nat} {σ' : Nat → Nat} (h : mx_sg c0 M (k + 1) = some σ') : ∃ σ i, mx_sg c0 M k = some σ ∧ mx_first (fun i => mx_X c0 k σ i (c0 k) != 0) k (M - k) = some i ∧ σ' = fun s => σ (mx_sw k i s) := by
  cases h0 : mx_sg c0 M k with
  | none => rw [mx_sg_none h0] at h; cases h
  | some σ =>
    cases h1 : mx_first (fun i => mx_X c0 k σ i (c0 k) != 0) k (M - k) with
    | none => rw [mx_sg_fail h0 h1] at h; cases h
    | some i =>
      rw [mx_sg_next h0 h1] at h
      exact ⟨σ, i, rfl, h1, (Option.some.inj h).symm⟩
/-! rows exchanged -/
theorem mx_p_sw (c0 : Nat → Nat → Int) {k i : Nat} (σ : Nat → Nat) (hi : k ≤ i) : mx_p c0 k (fun s => σ (mx_sw k i s)) = mx_p c0 k σ :=
  mx_dt_congr (fun t _ s hs => by show c0 t (σ (mx_sw k i s)) = c0 t (σ s); rw [mx_sw_lo hi hs])
theorem mx_dtmu_sw (c0 : Nat → Nat → Int) {k i : Nat} (σ : Nat → Nat) (hi : k ≤ i) (t : Nat) (v0 : Nat → Int) : mx_dt k (mx_mu (mx_tup c0 (fun s => σ (mx_sw k i s))) t (fun s => v0 (σ (mx_sw k i s)))) = mx_dt k (mx_mu (mx_tup c0 σ) t (fun s => v0 (σ s))) :=
  mx_dt_congr (fun u _ s hs => by
    by_cases h : u = t
    · subst h
      rw [mx_mu_at, mx_mu_at]
      show v0 (σ (mx_sw k i s)) = v0 (σ s)
      rw [mx_sw_lo hi hs]
    · rw [mx_mu_ne h, mx_mu_ne h]
      show c0 u (σ (mx_sw k i s)) = c0 u (σ s)
      rw [mx_sw_lo hi hs])
theorem mx_X_sw (c0 : Nat → Nat → Int) {k i : Nat} (σ : Nat → Nat) (hi : k ≤ i) (s : Nat) (v0 : Nat → Int) : mx_X c0 k (fun s => σ (mx_sw k i s)) s v0 = mx_X c0 k σ (mx_sw k i s) v0 := by
  unfold mx_X mx_vl
  by_cases hs : s < k
  · rw [mx_sw_lo hi hs, if_pos hs, if_pos hs]
    exact mx_dtmu_sw c0 σ hi s v0
  · have hs2 : ¬ mx_sw k i s < k := Nat.not_lt.mpr (mx_sw_ge hi (Nat.not_lt.mp hs))
    rw [if_neg hs, if_neg hs2]
    unfold mx_bo
    have h1 : mx_dt k (mx_tup c0 (fun s => σ (mx_sw k i s))) = mx_dt k (mx_tup c0 σ) := mx_p_sw c0 σ hi
    rw [h1]
    congr 1
    refine mx_sm_congr (fun t _ => ?_)
    rw [mx_dtmu_sw c0 σ hi t v0]
    rfl
theorem mx_X_0 (c0 : Nat → Nat → Int) (σ : Nat → Nat) (i : Nat) (v0 : Nat → Int) : mx_X c0 0 σ i v0 = v0 (σ i) := by
  unfold mx_X mx_vl
  rw [if_neg (Nat.not_lt_zero i)]
  show v0 (σ i) * 1 - 0 = v0 (σ i)
  omega
theorem mx_p_next (c0 : Nat → Nat → Int) (k : Nat) (σ : Nat → Nat) : mx_p c0 (k + 1) σ = mx_X c0 k σ k (c0 k) := by
  show mx_dt (k + 1) (mx_tup c0 σ) = mx_vl k (mx_tup c0 σ) k (mx_tup c0 σ k)
  unfold mx_vl
  rw [if_neg (Nat.lt_irrefl k)]
  exact mx_bo_piv k _
theorem mx_X_step (c0 : Nat → Nat → Int) {k i : Nat} (σ : Nat → Nat) (hi : i ≠ k) (v0 : Nat → Int) : mx_p c0 k σ * mx_X c0 (k + 1) σ i v0 = mx_X c0 k σ k (c0 k) * mx_X c0 k σ i v0 - mx_X c0 k σ i (c0 k) * mx_X c0 k σ k v0 := by
  rw [← mx_p_next]
  exact mx_step (mx_tup c0 σ) hi (fun s => v0 (σ s))
theorem mx_X_step_k (c0 : Nat → Nat → Int) (k : Nat) (σ : Nat → Nat) (v0 : Nat → Int) : mx_X c0 (k + 1) σ k v0 = mx_X c0 k σ k v0 := mx_step_k k (mx_tup c0 σ) (fun s => v0 (σ s))
/-- what holds along the way: as many rows as columns, the pivot isn't 0, the rows are the same ones -/
theorem mx_sg_ok {c0 : Nat → Nat → Int} {M : Nat} : ∀ {k : Nat} {σ : Nat → Nat}, mx_sg c0 M k = some σ → k ≤ M ∧ mx_p c0 k σ ≠ 0 ∧ (∀ s, s < M → σ s < M) ∧ ∃ τ : Nat → Nat, ∀ s, s < M → τ s < M ∧ σ (τ s) = s
  | 0, σ, h => by
    cases h
    exact ⟨Nat.zero_le M, by show (1 : Int) ≠ 0; decide, fun s hs => hs, fun s => s, fun s hs => ⟨hs, rfl⟩⟩
  | k + 1, σ', h => by
    obtain ⟨σ, i, h0, h1, rfl⟩ := mx_sg_prev h
    obtain ⟨hk, hp, hm, τ, hτ⟩ := mx_sg_ok h0
    obtain ⟨hi1, hi2, hi3⟩ := mx_first_some h1
    have hiM : i < M := by omega
    have hkM : k < M := by omega
    refine ⟨hkM, ?_, fun s hs => hm _ (mx_sw_lt hkM hiM hs), fun s => mx_sw k i (τ s), fun s hs => ⟨mx_sw_lt hkM hiM (hτ s hs).1, ?_⟩⟩
    · rw [mx_p_next, mx_X_sw c0 σ hi1, mx_sw_l]
      simpa using hi3
    · show σ (mx_sw k i (mx_sw k i (τ s))) = s
      rw [mx_sw_sw]
      exact (hτ s hs).2
/-- the set's columns (n = k + 1 of them) have one flow alone, and it uses each -/
def mx_ok (c0 : Nat → Nat → Int) (M k : Nat) (σ : Nat → Nat) : Prop := mx_sg c0 M k = some σ ∧ (∀ i, i < k → mx_X c0 k σ i (c0 k) ≠ 0) ∧ ∀ i, k ≤ i → i < M → mx_X c0 k σ i (c0 k) = 0
def mx_fl (c0 : Nat → Nat → Int) (k : Nat) (σ : Nat → Nat) (t : Nat) : Int := if t < k then - mx_X c0 k σ t (c0 k) else mx_p c0 k σ
theorem mx_fl_ne {c0 : Nat → Nat → Int} {M k : Nat} {σ : Nat → Nat} (h : mx_ok c0 M k σ) (t : Nat) : mx_fl c0 k σ t ≠ 0 := by
  unfold mx_fl
  split
  · rename_i ht
    have := h.2.1 t ht
    omega
  · exact (mx_sg_ok h.1).2.1
theorem mx_fl_ker {c0 : Nat → Nat → Int} {M k : Nat} {σ : Nat → Nat} (h : mx_ok c0 M k σ) {s : Nat} (hs : s < M) : mx_sm (fun t => mx_fl c0 k σ t * c0 t s) (k + 1) = 0 := by
  obtain ⟨hg, h1, h2⟩ := h
  obtain ⟨hk, hp, hm, τ, hτ⟩ := mx_sg_ok hg
  obtain ⟨ht, hts⟩ := hτ s hs
  rw [← hts]
  generalize τ s = r at ht
  show mx_sm (fun t => mx_fl c0 k σ t * c0 t (σ r)) k + mx_fl c0 k σ k * c0 k (σ r) = 0
  have e1 : mx_fl c0 k σ k = mx_p c0 k σ := if_neg (Nat.lt_irrefl k)
  have e2 : mx_sm (fun t => mx_fl c0 k σ t * c0 t (σ r)) k = (-1) * mx_sm (fun t => mx_tup c0 σ t r * mx_dt k (mx_mu (mx_tup c0 σ) t (mx_tup c0 σ k))) k := by
    rw [← mx_sm_mul]
    refine mx_sm_congr (fun t ht => ?_)
    have e3 : mx_fl c0 k σ t = - mx_dt k (mx_mu (mx_tup c0 σ) t (mx_tup c0 σ k)) := by
      unfold mx_fl mx_X mx_vl
      rw [if_pos ht, if_pos ht]
      rfl
    rw [e3]
    show _ * mx_tup c0 σ t r = _
    grind
  rw [e1, e2]
  rcases Nat.lt_or_ge r k with hr | hr
  · rw [mx_cramer _ _ hr]
    show -1 * (c0 k (σ r) * mx_p c0 k σ) + mx_p c0 k σ * c0 k (σ r) = 0
    grind
  · have h3 := h2 r hr ht
    unfold mx_X mx_vl at h3
    rw [if_neg (Nat.not_lt.mpr hr)] at h3
    have h4 : c0 k (σ r) * mx_p c0 k σ - mx_sm (fun t => mx_tup c0 σ t r * mx_dt k (mx_mu (mx_tup c0 σ) t (mx_tup c0 σ k))) k = 0 := h3
    grind
theorem mx_ker_one {c0 : Nat → Nat → Int} {M k : Nat} {σ : Nat → Nat} (hg : mx_sg c0 M k = some σ) (x : Nat → Int) (hx : ∀ s, s < M → mx_sm (fun t => x t * c0 t s) (k + 1) = 0) {i : Nat} (hi : i < k) : mx_p c0 k σ * x i = - mx_X c0 k σ i (c0 k) * x k := by
  obtain ⟨hk, hp, hm, -⟩ := mx_sg_ok hg
  have h1 := mx_linsum (k := k) (mx_tup c0 σ) hi x (mx_tup c0 σ) k
  rw [mx_sm_one (u := i) hi (fun t ht hti => by
    rw [mx_alt' (c := mx_mu (mx_tup c0 σ) i (mx_tup c0 σ t)) hti ht hi (by rw [mx_mu_at, mx_mu_ne hti]), Int.mul_zero]), mx_mu_self] at h1
  have h2 : mx_dt k (mx_mu (mx_tup c0 σ) i (fun s => mx_sm (fun t => x t * mx_tup c0 σ t s) k)) = mx_dt k (mx_mu (mx_tup c0 σ) i (fun s => (- x k) * mx_tup c0 σ k s)) := by
    refine mx_dt_congr (fun u _ s hs => ?_)
    by_cases hu : u = i
    · subst hu
      rw [mx_mu_at, mx_mu_at]
      have h3 : mx_sm (fun t => x t * c0 t (σ s)) k + x k * c0 k (σ s) = 0 := hx (σ s) (hm s (by omega))
      show mx_sm (fun t => x t * c0 t (σ s)) k = - x k * c0 k (σ s)
      grind
    · rw [mx_mu_ne hu, mx_mu_ne hu]
  rw [h2, mx_smul _ hi] at h1
  have h4 : mx_X c0 k σ i (c0 k) = mx_dt k (mx_mu (mx_tup c0 σ) i (mx_tup c0 σ k)) := by
    unfold mx_X mx_vl
    rw [if_pos hi]
    rfl
  rw [h4]
  show mx_dt k (mx_tup c0 σ) * x i = _
  grind
end
section
/-! sets of at most eight reactions, as numbers below 256 -/
def mx_cnt (S : Nat) : Nat → Nat
  | 0 => 0
  | j + 1 => if S.testBit j = true then mx_cnt S j + 1 else mx_cnt S j
def mx_nthF (S t : Nat) : Nat → Nat → Nat
  | _, 0 => 0
  | j, n + 1 => if S.testBit j = true ∧ mx_cnt S j = t then j else mx_nthF S t (j + 1) n
/-- the t-th reaction of the set -/
def mx_nth (S t : Nat) : Nat := mx_nthF S t 0 8
theorem mx_cnt_in {S j : Nat} (h : S.testBit j = true) : mx_cnt S (j + 1) = mx_cnt S j + 1 := if_pos h
theorem mx_cnt_out {S j : Nat} (h : S.testBit j = false) : mx_cnt S (j + 1) = mx_cnt S j := if_neg (by rw [h]; decide)
theorem mx_cnt_mono (S : Nat) : ∀ {a b : Nat}, a ≤ b → mx_cnt S a ≤ mx_cnt S b := by
  intro a b h
  induction b with
  | zero => rw [Nat.le_zero.mp h]; exact Nat.le_refl _
  | succ b ih =>
    rcases Nat.lt_or_ge a (b + 1) with h1 | h1
    · refine Nat.le_trans (ih (by omega)) ?_
      cases hb : S.testBit b with
      | true => rw [mx_cnt_in hb]; omega
      | false => rw [mx_cnt_out hb]; exact Nat.le_refl _
    · rw [show a = b + 1 by omega]; exact Nat.le_refl _
theorem mx_cnt_lt {S a b : Nat} (h : a < b) (ha : S.testBit a = true) : mx_cnt S a < mx_cnt S b := by
  have h1 := mx_cnt_mono S (show a + 1 ≤ b from h)
  rw [mx_cnt_in ha] at h1
  exact h1
theorem mx_cnt_le (S : Nat) : ∀ j, mx_cnt S j ≤ j
  | 0 => Nat.le_refl 0
  | j + 1 => by
    have := mx_cnt_le S j
    unfold mx_cnt
    split <;> omega
theorem mx_cnt_inj {S a b : Nat} (ha : S.testBit a = true) (hb : S.testBit b = true) (h : mx_cnt S a = mx_cnt S b) : a = b := by
  rcases Nat.lt_trichotomy a b with h1 | h1 | h1
  · have := mx_cnt_lt h1 ha; omega
  · exact h1
  · have := mx_cnt_lt h1 hb; omega
theorem mx_nthF_at {S j : Nat} (hj : S.testBit j = true) : ∀ {n i : Nat}, i ≤ j → j < i + n → mx_nthF S (mx_cnt S j) i n = j
  | 0, i, h1, h2 => absurd h2 (by omega)
  | n + 1, i, h1, h2 => by
    unfold mx_nthF
    by_cases hi : S.testBit i = true ∧ mx_cnt S i = mx_cnt S j
    · rw [if_pos hi]; exact mx_cnt_inj hi.1 hj hi.2
    · rw [if_neg hi]
      have : i ≠ j := fun q => hi (by rw [q]; exact ⟨hj, rfl⟩)
      exact mx_nthF_at hj (by omega) (by omega)
theorem mx_nth_cnt {S j : Nat} (hj : S.testBit j = true) (h8 : j < 8) : mx_nth S (mx_cnt S j) = j := mx_nthF_at hj (Nat.zero_le j) (by omega)
theorem mx_nthF_in {S t : Nat} : ∀ {n i : Nat}, mx_cnt S i ≤ t → t < mx_cnt S (i + n) → i ≤ mx_nthF S t i n ∧ mx_nthF S t i n < i + n ∧ S.testBit (mx_nthF S t i n) = true ∧ mx_cnt S (mx_nthF S t i n) = t
  | 0, i, h1, h2 => absurd h2 (by rw [Nat.add_zero]; omega)
  | n + 1, i, h1, h2 => by
    unfold mx_nthF
    by_cases hi : S.testBit i = true ∧ mx_cnt S i = t
    · rw [if_pos hi]; exact ⟨Nat.le_refl _, by omega, hi.1, hi.2⟩
    · rw [if_neg hi]
      have h3 : mx_cnt S (i + 1) ≤ t := by
        cases hb : S.testBit i with
        | true =>
          have : mx_cnt S i ≠ t := fun q => hi ⟨hb, q⟩
          rw [mx_cnt_in hb]; omega
        | false => rw [mx_cnt_out hb]; exact h1
      obtain ⟨q1, q2, q3, q4⟩ := mx_nthF_in (n := n) (i := i + 1) h3 (by rw [show i + 1 + n = i + (n + 1) by omega]; exact h2)
      exact ⟨by omega, by omega, q3, q4⟩
theorem mx_nth_in {S t : Nat} (h : t < mx_cnt S 8) : mx_nth S t < 8 ∧ S.testBit (mx_nth S t) = true ∧ mx_cnt S (mx_nth S t) = t := by
  obtain ⟨-, q2, q3, q4⟩ := mx_nthF_in (S := S) (t := t) (n := 8) (i := 0) (Nat.zero_le t) h
  exact ⟨by unfold mx_nth; omega, q3, q4⟩
/-- a sum over the set, by reactions and by places -/
theorem mx_sm_set {S : Nat} (g : Nat → Nat → Int) : ∀ {J : Nat}, J ≤ 8 → mx_sm (fun j => if S.testBit j = true then g (mx_cnt S j) j else 0) J = mx_sm (fun t => g t (mx_nth S t)) (mx_cnt S J)
  | 0, _ => rfl
  | J + 1, h => by
    show mx_sm _ J + (if S.testBit J = true then g (mx_cnt S J) J else 0) = _
    rw [mx_sm_set g (J := J) (by omega)]
    cases hb : S.testBit J with
    | true =>
      rw [mx_cnt_in hb, if_pos rfl]
      show _ = mx_sm _ (mx_cnt S J) + g (mx_cnt S J) (mx_nth S (mx_cnt S J))
      rw [mx_nth_cnt hb (by omega)]
    | false =>
      rw [mx_cnt_out hb, if_neg (by decide)]
      omega
/-! no listed set lies inside another one -/
theorem mx_antichain {A : Nat → Nat → Int} {M S T : Nat} {σ τ : Nat → Nat} {kS kT : Nat} (hS : mx_cnt S 8 = kS + 1) (hT : mx_cnt T 8 = kT + 1) (oS : mx_ok (fun t => A (mx_nth S t)) M kS σ) (oT : mx_ok (fun t => A (mx_nth T t)) M kT τ) (hsub : ∀ j, j < 8 → S.testBit j = true → T.testBit j = true) : ∀ j, j < 8 → T.testBit j = true → S.testBit j = true := by
  intro j hj hTj
  cases hSj : S.testBit j with
  | true => rfl
  | false =>
    exfalso
    -- the flow of S as rates of all reactions
    obtain ⟨f, hf⟩ : ∃ f : Nat → Int, f = fun i => if S.testBit i = true then mx_fl (fun t => A (mx_nth S t)) kS σ (mx_cnt S i) else 0 := ⟨_, rfl⟩
    have hker : ∀ s, s < M → mx_sm (fun t => f (mx_nth T t) * A (mx_nth T t) s) (kT + 1) = 0 := by
      intro s hs
      have h1 := mx_fl_ker oS hs
      rw [← hS, ← mx_sm_set (S := S) (fun t i => mx_fl (fun t => A (mx_nth S t)) kS σ t * A i s) (Nat.le_refl 8)] at h1
      have h2 := mx_sm_set (S := T) (fun _ i => f i * A i s) (Nat.le_refl 8)
      rw [hT] at h2
      refine h2.symm.trans (Eq.trans (mx_sm_congr (fun i hi => ?_)) h1)
      rw [hf]
      dsimp only
      cases hSi : S.testBit i with
      | true => rw [if_pos (hsub i hi hSi), if_pos rfl, if_pos rfl]
      | false => simp
    have hlast := mx_nth_in (S := T) (t := kT) (by omega)
    have hone : ∀ i, i < kT → mx_p (fun t => A (mx_nth T t)) kT τ * f (mx_nth T i) = - mx_X (fun t => A (mx_nth T t)) kT τ i (A (mx_nth T kT)) * f (mx_nth T kT) := fun i hi => mx_ker_one oT.1 (fun t => f (mx_nth T t)) hker hi
    have hplace : ∀ i, i < 8 → T.testBit i = true → i ≠ mx_nth T kT → mx_cnt T i < kT := by
      intro i hi hTi hne
      have h1 : mx_cnt T i < mx_cnt T 8 := mx_cnt_lt hi hTi
      have h2 : mx_cnt T i ≠ kT := fun q => hne (by rw [← q, mx_nth_cnt hTi hi])
      omega
    cases hL : S.testBit (mx_nth T kT) with
    | true =>
      have hne : j ≠ mx_nth T kT := fun q => by rw [← q, hSj] at hL; cases hL
      have hi := hplace j hj hTj hne
      have h1 := hone _ hi
      rw [mx_nth_cnt hTj hj] at h1
      have f1 : f j = 0 := by rw [hf]; exact if_neg (by rw [hSj]; decide)
      have f2 : f (mx_nth T kT) ≠ 0 := by
        rw [hf]
        dsimp only
        rw [if_pos hL]
        exact mx_fl_ne oS _
      have h2 := oT.2.1 _ hi
      rw [f1, Int.mul_zero] at h1
      rcases Int.mul_eq_zero.mp h1.symm with h3 | h3
      · exact h2 (by dsimp only; omega)
      · exact f2 h3
    | false =>
      have h0 : 0 < mx_cnt S 8 := by omega
      obtain ⟨g1, g2, g3⟩ := mx_nth_in (S := S) (t := 0) h0
      have hTi := hsub _ g1 g2
      have hne : mx_nth S 0 ≠ mx_nth T kT := fun q => by rw [← q, g2] at hL; cases hL
      have hi := hplace _ g1 hTi hne
      have h1 := hone _ hi
      rw [mx_nth_cnt hTi g1] at h1
      have f1 : f (mx_nth S 0) ≠ 0 := by
        rw [hf]
        dsimp only
        rw [if_pos g2]
        exact mx_fl_ne oS _
      have f2 : f (mx_nth T kT) = 0 := by rw [hf]; exact if_neg (by rw [hL]; decide)
      rw [f2, Int.mul_zero] at h1
      rcases Int.mul_eq_zero.mp h1 with h3 | h3
      · exact (mx_sg_ok oT.1).2.1 h3
      · exact f1 h3
/-! at most seventy sets, none inside another: seventy chains -/
def mx_chn (a : Nat) : Nat := (497008576694217909142786290506938064733481783537163052020855532834726596292965013181160860998499427102866352178431674422071844072475131367617191024377109090417196259252069396843480610668534718531742058204907438560226855487521260384375017051108940291486626591390449819691387235572291709384687457222646712582799692663517400672165871876356147810563515346000535070678617808523968356828923898184475483874735159341798346982402602570731565720487742891041323881681142736679647398405089416666693930412221078578838567803168688392932113663920076163276537775571405268579772637079832710215404635913932464610709206643693912064 >>> (8 * a)) % 256
theorem mx_chn_lt : ∀ a, a < 256 → mx_chn a < 70 := by
  have h : (List.range 256).all (fun a => decide (mx_chn a < 70)) = true := by decide +kernel
  intro a ha
  exact of_decide_eq_true (List.all_eq_true.mp h a (List.mem_range.mpr ha))
theorem mx_chn_in : ∀ a, a < 256 → ∀ b, b < 256 → mx_chn a = mx_chn b → a &&& b = a ∨ a &&& b = b := by
  have h : (List.range 256).all (fun a => (List.range 256).all (fun b => !(mx_chn a == mx_chn b) || ((a &&& b) == a || (a &&& b) == b))) = true := by decide +kernel
  intro a ha b hb he
  have h1 := List.all_eq_true.mp (List.all_eq_true.mp h a (List.mem_range.mpr ha)) b (List.mem_range.mpr hb)
  rw [he] at h1
  simpa using h1
def mx_ns (f : Nat → Nat) : Nat → Nat
  | 0 => 0
  | n + 1 => mx_ns f n + f n
theorem mx_ns_le {f g : Nat → Nat} : ∀ {n : Nat}, (∀ t, t < n → f t ≤ g t) → mx_ns f n ≤ mx_ns g n
  | 0, _ => Nat.le_refl 0
  | n + 1, h => by
    show mx_ns f n + f n ≤ mx_ns g n + g n
    have h1 := mx_ns_le (n := n) (fun t ht => h t (Nat.lt_succ_of_lt ht))
    have h2 := h n (Nat.lt_succ_self n)
    omega
theorem mx_ns_add (f g : Nat → Nat) : ∀ n, mx_ns (fun t => f t + g t) n = mx_ns f n + mx_ns g n
  | 0 => rfl
  | n + 1 => by
    show mx_ns _ n + (f n + g n) = (mx_ns f n + f n) + (mx_ns g n + g n)
    rw [mx_ns_add f g n]; omega
theorem mx_ns_zero : ∀ n, mx_ns (fun _ => 0) n = 0
  | 0 => rfl
  | n + 1 => by show mx_ns _ n + 0 = 0; rw [mx_ns_zero n]
theorem mx_ns_swap (F : Nat → Nat → Nat) (n : Nat) : ∀ m, mx_ns (fun t => mx_ns (F t) n) m = mx_ns (fun u => mx_ns (fun t => F t u) m) n
  | 0 => (mx_ns_zero n).symm
  | m + 1 => by
    show mx_ns (fun t => mx_ns (F t) n) m + mx_ns (F m) n = mx_ns (fun u => mx_ns (fun t => F t u) m + F m u) n
    rw [mx_ns_swap F n m, mx_ns_add]
theorem mx_ns_hit {c : Nat} : ∀ {n : Nat}, c < n → mx_ns (fun u => if u = c then 1 else 0) n = 1
  | 0, h => absurd h (Nat.not_lt_zero c)
  | n + 1, h => by
    show mx_ns _ n + (if n = c then 1 else 0) = 1
    by_cases hn : n = c
    · subst hn
      rw [if_pos rfl]
      have : mx_ns (fun u => if u = n then 1 else 0) n = 0 := by
        have h1 : mx_ns (fun u => if u = n then 1 else 0) n ≤ mx_ns (fun _ => 0) n := mx_ns_le (fun t ht => by rw [if_neg (Nat.ne_of_lt ht)]; exact Nat.le_refl 0)
        rw [mx_ns_zero] at h1; omega
      omega
    · rw [if_neg hn, mx_ns_hit (n := n) (by omega)]
/-- one at most where any two are the same -/
theorem mx_ns_one {q : Nat → Bool} : ∀ {n : Nat}, (∀ a b, a < n → b < n → q a = true → q b = true → a = b) → mx_ns (fun a => if q a = true then 1 else 0) n ≤ 1
  | 0, _ => Nat.zero_le 1
  | n + 1, h => by
    show mx_ns _ n + (if q n = true then 1 else 0) ≤ 1
    by_cases hq : q n = true
    · rw [if_pos hq]
      have : mx_ns (fun a => if q a = true then 1 else 0) n = 0 := by
        have h1 : mx_ns (fun a => if q a = true then 1 else 0) n ≤ mx_ns (fun _ => 0) n := mx_ns_le (fun t ht => by
          rw [if_neg (fun hx => by have := h t n (by omega) (by omega) hx hq; omega)]; exact Nat.le_refl 0)
        rw [mx_ns_zero] at h1; omega
      omega
    · rw [if_neg hq]
      exact mx_ns_one (n := n) (fun a b ha hb => h a b (by omega) (by omega))
def mx_count (q : Nat → Bool) (n : Nat) : Nat := mx_ns (fun a => if q a = true then 1 else 0) n
theorem mx_sperner {q : Nat → Bool} {n : Nat} (hn : n ≤ 256) (h : ∀ a b, a < n → b < n → q a = true → q b = true → a &&& b = a → a = b) : mx_count q n ≤ 70 := by
  have h1 : ∀ a, a < n → (if q a = true then 1 else 0) ≤ mx_ns (fun c => if (q a && (mx_chn a == c)) = true then 1 else 0) 70 := by
    intro a ha
    by_cases hq : q a = true
    · rw [if_pos hq]
      refine Nat.le_trans (Nat.le_of_eq (mx_ns_hit (c := mx_chn a) (mx_chn_lt a (by omega))).symm) (mx_ns_le (fun c _ => ?_))
      by_cases hc : c = mx_chn a
      · rw [if_pos hc, if_pos (by rw [hq, hc]; simp)]; exact Nat.le_refl 1
      · rw [if_neg hc]; exact Nat.zero_le _
    · rw [if_neg hq]; exact Nat.zero_le _
  refine Nat.le_trans (mx_ns_le h1) ?_
  rw [mx_ns_swap]
  have h2 : ∀ c, c < 70 → mx_ns (fun a => if (q a && (mx_chn a == c)) = true then 1 else 0) n ≤ 1 := by
    intro c _
    refine mx_ns_one (q := fun a => q a && (mx_chn a == c)) (fun a b ha hb qa qb => ?_)
    rw [Bool.and_eq_true] at qa qb
    have ea : mx_chn a = c := by simpa using qa.2
    have eb : mx_chn b = c := by simpa using qb.2
    rcases mx_chn_in a (by omega) b (by omega) (by rw [ea, eb]) with h3 | h3
    · exact h a b ha hb qa.1 qb.1 h3
    · exact (h b a hb ha qb.1 qa.1 (by rw [Nat.and_comm]; exact h3)).symm
  refine Nat.le_trans (mx_ns_le (g := fun _ => 1) h2) ?_
  decide +kernel
end
section
-- ===== PART A: goes FIRST, ahead of the names: the tables' words, and 'selects' of the private methods out of them =====
/-- a private method of a class that the tables say can be made, by its rows of tables_1 -/
def lw_okq (q : MethodName × Nat) : Prop := (q.1.cls ≠ "java/lang/invoke/MethodHandle" ∧ q.1.cls ≠ "java/lang/invoke/VarHandle") ∧ Cond.instantiable q.1.cls q.2 ∈ tables_1 ∧ Cond.privateMethod q.1 ∈ tables_1 ∧ Cond.instanceMethod q.1 ∈ tables_1
theorem lw_p0 : lw_okq (⟨"FluxModes", "hasEntry", "(II)Z"⟩, 9) := ⟨⟨by decide +kernel, by decide +kernel⟩, List.mem_of_getElem? (i := 8) (by decide +kernel), List.mem_of_getElem? (i := 76) (by decide +kernel), List.mem_of_getElem? (i := 77) (by decide +kernel)⟩
theorem lw_p1 : lw_okq (⟨"FluxModes", "hasReaction", "(I)Z"⟩, 9) := ⟨⟨by decide +kernel, by decide +kernel⟩, List.mem_of_getElem? (i := 8) (by decide +kernel), List.mem_of_getElem? (i := 80) (by decide +kernel), List.mem_of_getElem? (i := 81) (by decide +kernel)⟩
theorem lw_p2 : lw_okq (⟨"FluxModes", "listIfSupport", "(I)V"⟩, 9) := ⟨⟨by decide +kernel, by decide +kernel⟩, List.mem_of_getElem? (i := 8) (by decide +kernel), List.mem_of_getElem? (i := 100) (by decide +kernel), List.mem_of_getElem? (i := 101) (by decide +kernel)⟩
theorem lw_p3 : lw_okq (⟨"FluxModes", "loadColumns", "(I)V"⟩, 9) := ⟨⟨by decide +kernel, by decide +kernel⟩, List.mem_of_getElem? (i := 8) (by decide +kernel), List.mem_of_getElem? (i := 104) (by decide +kernel), List.mem_of_getElem? (i := 105) (by decide +kernel)⟩
theorem lw_p4 : lw_okq (⟨"FluxModes$Reduction", "clearColumn", "(I)Z"⟩, 4) := ⟨⟨by decide +kernel, by decide +kernel⟩, List.mem_of_getElem? (i := 16) (by decide +kernel), List.mem_of_getElem? (i := 129) (by decide +kernel), List.mem_of_getElem? (i := 130) (by decide +kernel)⟩
theorem lw_p5 : lw_okq (⟨"FluxModes$Reduction", "pivotRow", "(I)I"⟩, 4) := ⟨⟨by decide +kernel, by decide +kernel⟩, List.mem_of_getElem? (i := 16) (by decide +kernel), List.mem_of_getElem? (i := 133) (by decide +kernel), List.mem_of_getElem? (i := 134) (by decide +kernel)⟩
theorem lw_p6 : lw_okq (⟨"FluxModes$Reduction", "swapRows", "(II)V"⟩, 4) := ⟨⟨by decide +kernel, by decide +kernel⟩, List.mem_of_getElem? (i := 16) (by decide +kernel), List.mem_of_getElem? (i := 137) (by decide +kernel), List.mem_of_getElem? (i := 138) (by decide +kernel)⟩
theorem lw_p7 : lw_okq (⟨"FluxModes$Reduction", "clearRow", "(IIJ)V"⟩, 4) := ⟨⟨by decide +kernel, by decide +kernel⟩, List.mem_of_getElem? (i := 16) (by decide +kernel), List.mem_of_getElem? (i := 141) (by decide +kernel), List.mem_of_getElem? (i := 142) (by decide +kernel)⟩
theorem lw_p8 : lw_okq (⟨"FluxModes", "readFlow", "(I)V"⟩, 9) := ⟨⟨by decide +kernel, by decide +kernel⟩, List.mem_of_getElem? (i := 8) (by decide +kernel), List.mem_of_getElem? (i := 148) (by decide +kernel), List.mem_of_getElem? (i := 149) (by decide +kernel)⟩
theorem lw_p9 : lw_okq (⟨"FluxModes", "allowedDirection", "(I)I"⟩, 9) := ⟨⟨by decide +kernel, by decide +kernel⟩, List.mem_of_getElem? (i := 8) (by decide +kernel), List.mem_of_getElem? (i := 156) (by decide +kernel), List.mem_of_getElem? (i := 157) (by decide +kernel)⟩
theorem lw_p10 : lw_okq (⟨"FluxModes", "list", "(II)V"⟩, 9) := ⟨⟨by decide +kernel, by decide +kernel⟩, List.mem_of_getElem? (i := 8) (by decide +kernel), List.mem_of_getElem? (i := 160) (by decide +kernel), List.mem_of_getElem? (i := 161) (by decide +kernel)⟩
theorem lw_p11 : lw_okq (⟨"FluxModes", "isListed", "(I)Z"⟩, 9) := ⟨⟨by decide +kernel, by decide +kernel⟩, List.mem_of_getElem? (i := 8) (by decide +kernel), List.mem_of_getElem? (i := 179) (by decide +kernel), List.mem_of_getElem? (i := 180) (by decide +kernel)⟩
theorem lw_p12 : lw_okq (⟨"FluxModesModel", "there", "(II)Z"⟩, 10) := ⟨⟨by decide +kernel, by decide +kernel⟩, List.mem_of_getElem? (i := 212) (by decide +kernel), List.mem_of_getElem? (i := 258) (by decide +kernel), List.mem_of_getElem? (i := 259) (by decide +kernel)⟩
theorem lw_p13 : lw_okq (⟨"FluxModesModel", "straight", "(I)Z"⟩, 10) := ⟨⟨by decide +kernel, by decide +kernel⟩, List.mem_of_getElem? (i := 212) (by decide +kernel), List.mem_of_getElem? (i := 278) (by decide +kernel), List.mem_of_getElem? (i := 279) (by decide +kernel)⟩
theorem lw_p14 : lw_okq (⟨"FluxModesModel", "exchange", "(II)V"⟩, 10) := ⟨⟨by decide +kernel, by decide +kernel⟩, List.mem_of_getElem? (i := 212) (by decide +kernel), List.mem_of_getElem? (i := 282) (by decide +kernel), List.mem_of_getElem? (i := 283) (by decide +kernel)⟩
theorem lw_p15 : lw_okq (⟨"FluxModesModel", "clear", "(IIJ)V"⟩, 10) := ⟨⟨by decide +kernel, by decide +kernel⟩, List.mem_of_getElem? (i := 212) (by decide +kernel), List.mem_of_getElem? (i := 286) (by decide +kernel), List.mem_of_getElem? (i := 287) (by decide +kernel)⟩
def lw_privs_1 : List (MethodName × Nat) := [(⟨"FluxModes", "hasEntry", "(II)Z"⟩, 9), (⟨"FluxModes", "hasReaction", "(I)Z"⟩, 9), (⟨"FluxModes", "listIfSupport", "(I)V"⟩, 9), (⟨"FluxModes", "loadColumns", "(I)V"⟩, 9), (⟨"FluxModes$Reduction", "clearColumn", "(I)Z"⟩, 4), (⟨"FluxModes$Reduction", "pivotRow", "(I)I"⟩, 4), (⟨"FluxModes$Reduction", "swapRows", "(II)V"⟩, 4), (⟨"FluxModes$Reduction", "clearRow", "(IIJ)V"⟩, 4), (⟨"FluxModes", "readFlow", "(I)V"⟩, 9), (⟨"FluxModes", "allowedDirection", "(I)I"⟩, 9), (⟨"FluxModes", "list", "(II)V"⟩, 9), (⟨"FluxModes", "isListed", "(I)Z"⟩, 9), (⟨"FluxModesModel", "there", "(II)Z"⟩, 10), (⟨"FluxModesModel", "straight", "(I)Z"⟩, 10), (⟨"FluxModesModel", "exchange", "(II)V"⟩, 10), (⟨"FluxModesModel", "clear", "(IIJ)V"⟩, 10)]
theorem lw_r1 : ∀ q ∈ lw_privs_1, lw_okq q := List.forall_mem_cons.mpr ⟨lw_p0, List.forall_mem_cons.mpr ⟨lw_p1, List.forall_mem_cons.mpr ⟨lw_p2, List.forall_mem_cons.mpr ⟨lw_p3, List.forall_mem_cons.mpr ⟨lw_p4, List.forall_mem_cons.mpr ⟨lw_p5, List.forall_mem_cons.mpr ⟨lw_p6, List.forall_mem_cons.mpr ⟨lw_p7, List.forall_mem_cons.mpr ⟨lw_p8, List.forall_mem_cons.mpr ⟨lw_p9, List.forall_mem_cons.mpr ⟨lw_p10, List.forall_mem_cons.mpr ⟨lw_p11, List.forall_mem_cons.mpr ⟨lw_p12, List.forall_mem_cons.mpr ⟨lw_p13, List.forall_mem_cons.mpr ⟨lw_p14, List.forall_mem_cons.mpr ⟨lw_p15, fun _ h => absurd h List.not_mem_nil⟩⟩⟩⟩⟩⟩⟩⟩⟩⟩⟩⟩⟩⟩⟩⟩
theorem lw_p16 : lw_okq (⟨"FluxModesModel", "signed", "(I)Z"⟩, 10) := ⟨⟨by decide +kernel, by decide +kernel⟩, List.mem_of_getElem? (i := 212) (by decide +kernel), List.mem_of_getElem? (i := 290) (by decide +kernel), List.mem_of_getElem? (i := 291) (by decide +kernel)⟩
theorem lw_p17 : lw_okq (⟨"FluxModesModel", "list", "(I)V"⟩, 10) := ⟨⟨by decide +kernel, by decide +kernel⟩, List.mem_of_getElem? (i := 212) (by decide +kernel), List.mem_of_getElem? (i := 294) (by decide +kernel), List.mem_of_getElem? (i := 295) (by decide +kernel)⟩
def lw_privs_2 : List (MethodName × Nat) := [(⟨"FluxModesModel", "signed", "(I)Z"⟩, 10), (⟨"FluxModesModel", "list", "(I)V"⟩, 10)]
theorem lw_r2 : ∀ q ∈ lw_privs_2, lw_okq q := List.forall_mem_cons.mpr ⟨lw_p16, List.forall_mem_cons.mpr ⟨lw_p17, fun _ h => absurd h List.not_mem_nil⟩⟩
def lw_privs : List (MethodName × Nat) := lw_privs_1 ++ (lw_privs_2)
def lw_tbl : List Cond := k2_sels lw_privs ++ tables_1
theorem lw_privs_ok : ∀ q ∈ lw_privs, lw_okq q := by
  show ∀ q ∈ lw_privs_1 ++ (lw_privs_2), lw_okq q
  exact List.forall_mem_append.mpr ⟨lw_r1, lw_r2⟩
/-! ===== BEGIN words of one list among another's, by their places ===== -/
theorem goodIn_r {big : List Cond} (ws : List Cond) (ps : List Nat) (hp : ws = ps.filterMap (fun i => big[i]?)) (h : ws.all goodWord = true) : GoodIn big ws := by
  intro w hw
  have h1 := List.all_eq_true.mp h w hw
  rw [hp] at hw
  obtain ⟨i, -, hi⟩ := List.mem_filterMap.mp hw
  have hm : w ∈ big := by first | exact List.mem_of_getElem? hi | exact List.getElem?_mem hi
  exact ⟨hm, good_of_word h1⟩
theorem goodIn_app {big a b : List Cond} (ha : GoodIn big a) (hb : GoodIn big b) : GoodIn big (a ++ b) := fun w h => (List.mem_append.mp h).elim (ha w) (hb w)
theorem goodIn_ca {big a b : List Cond} {c : Cond} (ha : GoodIn big (c :: a)) (hb : GoodIn big b) : GoodIn big (c :: (a ++ b)) := fun w h => (List.mem_cons.mp h).elim (fun e => ha w (List.mem_cons.mpr (Or.inl e))) (fun h => (List.mem_append.mp h).elim (fun h => ha w (List.mem_cons.mpr (Or.inr h))) (hb w))
theorem goodIn_sub {big ws : List Cond} (hm : ∀ w ∈ ws, w ∈ big) (h : ws.all goodWord = true) : GoodIn big ws := fun w hw => ⟨hm w hw, good_of_word (List.all_eq_true.mp h w hw)⟩
/-! ===== END ===== -/

/-! ===== BEGIN printed: names, fields, word lists, decode rows ===== -/
def RX0 : String := "FluxModes$Reduction"
def TX0 : u_T := fun k => match k with
  | 0 => ("FluxModes$Reduction", "cells", "[J", true)
  | 1 => ("FluxModes$Reduction", "rows", "I", false)
  | 2 => ("FluxModes$Reduction", "columns", "I", false)
  | _ => ("FluxModes$Reduction", "pivot", "J", false)
def tyX0 : Nat → FieldType := fun k => match k with
  | 0 => .array .long
  | 1 => .int
  | 2 => .int
  | _ => .long
abbrev wsX00 : List Cond := u_ws RX0 TX0 4
theorem nmX0 : ∀ a, a < 4 → ∀ b, b < 4 → a ≠ b → (TX0 a).2.1 ≠ (TX0 b).2.1 := by decide +kernel
theorem tyX0_ok : ∀ k, k < 4 → parseFieldDescriptor (TX0 k).2.2.1 = some (tyX0 k) := by decide +kernel
abbrev cX0_init : ByteArray := prog_2_method_1_code
def yX0_init : MethodName := ⟨RX0, "<init>", "()V"⟩
abbrev cX0_begin : ByteArray := prog_2_method_2_code
def yX0_begin : MethodName := ⟨RX0, "begin", "(I)V"⟩
abbrev cX0_addColumn : ByteArray := prog_2_method_3_code
def yX0_addColumn : MethodName := ⟨RX0, "addColumn", "([II)V"⟩
abbrev cX0_leavesOneFullFlow : ByteArray := prog_2_method_4_code
def yX0_leavesOneFullFlow : MethodName := ⟨RX0, "leavesOneFullFlow", "()Z"⟩
abbrev cX0_flowAt : ByteArray := prog_2_method_5_code
def yX0_flowAt : MethodName := ⟨RX0, "flowAt", "(I)J"⟩
abbrev cX0_clearColumn : ByteArray := prog_2_method_6_code
def yX0_clearColumn : MethodName := ⟨RX0, "clearColumn", "(I)Z"⟩
abbrev cX0_pivotRow : ByteArray := prog_2_method_7_code
def yX0_pivotRow : MethodName := ⟨RX0, "pivotRow", "(I)I"⟩
abbrev cX0_swapRows : ByteArray := prog_2_method_8_code
def yX0_swapRows : MethodName := ⟨RX0, "swapRows", "(II)V"⟩
abbrev cX0_clearRow : ByteArray := prog_2_method_9_code
def yX0_clearRow : MethodName := ⟨RX0, "clearRow", "(IIJ)V"⟩
def RX1 : String := "FluxModes"
def TX1 : u_T := fun k => match k with
  | 0 => ("FluxModes", "entries", "[I", true)
  | 1 => ("FluxModes", "metabolites", "I", false)
  | 2 => ("FluxModes", "reactions", "I", false)
  | 3 => ("FluxModes", "reversibleSet", "I", false)
  | 4 => ("FluxModes", "listedSupports", "[I", true)
  | 5 => ("FluxModes", "listedRates", "[I", true)
  | 6 => ("FluxModes", "listed", "I", false)
  | 7 => ("FluxModes", "reduction", "LFluxModes$Reduction;", true)
  | _ => ("FluxModes", "flow", "[J", true)
def tyX1 : Nat → FieldType := fun k => match k with
  | 0 => .array .int
  | 1 => .int
  | 2 => .int
  | 3 => .int
  | 4 => .array .int
  | 5 => .array .int
  | 6 => .int
  | 7 => .object "FluxModes$Reduction"
  | _ => .array .long
abbrev wsX10 : List Cond := u_ws RX1 TX1 9
theorem nmX1 : ∀ a, a < 9 → ∀ b, b < 9 → a ≠ b → (TX1 a).2.1 ≠ (TX1 b).2.1 := by decide +kernel
theorem tyX1_ok : ∀ k, k < 9 → parseFieldDescriptor (TX1 k).2.2.1 = some (tyX1 k) := by decide +kernel
abbrev cX1_init : ByteArray := prog_1_method_1_code
def yX1_init : MethodName := ⟨RX1, "<init>", "()V"⟩
abbrev cX1_size : ByteArray := prog_1_method_2_code
def yX1_size : MethodName := ⟨RX1, "size", "(II)Z"⟩
abbrev cX1_enter : ByteArray := prog_1_method_3_code
def yX1_enter : MethodName := ⟨RX1, "enter", "(III)Z"⟩
abbrev cX1_entry : ByteArray := prog_1_method_4_code
def yX1_entry : MethodName := ⟨RX1, "entry", "(II)I"⟩
abbrev cX1_reversible : ByteArray := prog_1_method_5_code
def yX1_reversible : MethodName := ⟨RX1, "reversible", "(IZ)Z"⟩
abbrev cX1_reversibles : ByteArray := prog_1_method_6_code
def yX1_reversibles : MethodName := ⟨RX1, "reversibles", "()I"⟩
abbrev cX1_solve : ByteArray := prog_1_method_7_code
def yX1_solve : MethodName := ⟨RX1, "solve", "()I"⟩
abbrev cX1_modes : ByteArray := prog_1_method_8_code
def yX1_modes : MethodName := ⟨RX1, "modes", "()I"⟩
abbrev cX1_support : ByteArray := prog_1_method_9_code
def yX1_support : MethodName := ⟨RX1, "support", "(I)I"⟩
abbrev cX1_rate : ByteArray := prog_1_method_10_code
def yX1_rate : MethodName := ⟨RX1, "rate", "(II)I"⟩
abbrev cX1_within : ByteArray := prog_1_method_11_code
def yX1_within : MethodName := ⟨RX1, "within", "(I)I"⟩
abbrev cX1_running : ByteArray := prog_1_method_12_code
def yX1_running : MethodName := ⟨RX1, "running", "(II)I"⟩
abbrev cX1_shortest : ByteArray := prog_1_method_13_code
def yX1_shortest : MethodName := ⟨RX1, "shortest", "(I)I"⟩
abbrev cX1_hasEntry : ByteArray := prog_1_method_14_code
def yX1_hasEntry : MethodName := ⟨RX1, "hasEntry", "(II)Z"⟩
abbrev cX1_hasReaction : ByteArray := prog_1_method_15_code
def yX1_hasReaction : MethodName := ⟨RX1, "hasReaction", "(I)Z"⟩
abbrev cX1_isListed : ByteArray := prog_1_method_16_code
def yX1_isListed : MethodName := ⟨RX1, "isListed", "(I)Z"⟩
abbrev cX1_isColumn : ByteArray := prog_1_method_17_code
def yX1_isColumn : MethodName := ⟨RX1, "isColumn", "(I)Z"⟩
abbrev cX1_has : ByteArray := prog_1_method_18_code
def yX1_has : MethodName := ⟨RX1, "has", "(II)Z"⟩
abbrev cX1_runs : ByteArray := prog_1_method_19_code
def yX1_runs : MethodName := ⟨RX1, "runs", "(II)Z"⟩
abbrev cX1_listIfSupport : ByteArray := prog_1_method_20_code
def yX1_listIfSupport : MethodName := ⟨RX1, "listIfSupport", "(I)V"⟩
abbrev cX1_loadColumns : ByteArray := prog_1_method_21_code
def yX1_loadColumns : MethodName := ⟨RX1, "loadColumns", "(I)V"⟩
abbrev cX1_readFlow : ByteArray := prog_1_method_22_code
def yX1_readFlow : MethodName := ⟨RX1, "readFlow", "(I)V"⟩
abbrev cX1_allowedDirection : ByteArray := prog_1_method_23_code
def yX1_allowedDirection : MethodName := ⟨RX1, "allowedDirection", "(I)I"⟩
abbrev cX1_list : ByteArray := prog_1_method_24_code
def yX1_list : MethodName := ⟨RX1, "list", "(II)V"⟩
abbrev cX1_commonDivisor : ByteArray := prog_1_method_25_code
def yX1_commonDivisor : MethodName := ⟨RX1, "commonDivisor", "(JJ)J"⟩
abbrev cX1_quotient : ByteArray := prog_1_method_26_code
def yX1_quotient : MethodName := ⟨RX1, "quotient", "(JJ)J"⟩
def RX2 : String := "FluxModesModel"
def TX2 : u_T := fun k => match k with
  | 0 => ("FluxModesModel", "net", "[I", true)
  | 1 => ("FluxModesModel", "both", "[Z", true)
  | 2 => ("FluxModesModel", "m", "I", false)
  | 3 => ("FluxModesModel", "\x72", "I", false)
  | 4 => ("FluxModesModel", "listed", "I", false)
  | 5 => ("FluxModesModel", "supports", "[I", true)
  | 6 => ("FluxModesModel", "rates", "[I", true)
  | 7 => ("FluxModesModel", "a", "[J", true)
  | 8 => ("FluxModesModel", "leads", "[I", true)
  | _ => ("FluxModesModel", "line", "[J", true)
def tyX2 : Nat → FieldType := fun k => match k with
  | 0 => .array .int
  | 1 => .array .boolean
  | 2 => .int
  | 3 => .int
  | 4 => .int
  | 5 => .array .int
  | 6 => .array .int
  | 7 => .array .long
  | 8 => .array .int
  | _ => .array .long
abbrev wsX20 : List Cond := u_ws RX2 TX2 10
theorem nmX2 : ∀ a, a < 10 → ∀ b, b < 10 → a ≠ b → (TX2 a).2.1 ≠ (TX2 b).2.1 := by decide +kernel
theorem tyX2_ok : ∀ k, k < 10 → parseFieldDescriptor (TX2 k).2.2.1 = some (tyX2 k) := by decide +kernel
abbrev cX2_init : ByteArray := prog_4_method_1_code
def yX2_init : MethodName := ⟨RX2, "<init>", "()V"⟩
abbrev cX2_size : ByteArray := prog_4_method_2_code
def yX2_size : MethodName := ⟨RX2, "size", "(II)Z"⟩
abbrev cX2_there : ByteArray := prog_4_method_3_code
def yX2_there : MethodName := ⟨RX2, "there", "(II)Z"⟩
abbrev cX2_enter : ByteArray := prog_4_method_4_code
def yX2_enter : MethodName := ⟨RX2, "enter", "(III)Z"⟩
abbrev cX2_entry : ByteArray := prog_4_method_5_code
def yX2_entry : MethodName := ⟨RX2, "entry", "(II)I"⟩
abbrev cX2_reversible : ByteArray := prog_4_method_6_code
def yX2_reversible : MethodName := ⟨RX2, "reversible", "(IZ)Z"⟩
abbrev cX2_reversibles : ByteArray := prog_4_method_7_code
def yX2_reversibles : MethodName := ⟨RX2, "reversibles", "()I"⟩
abbrev cX2_solve : ByteArray := prog_4_method_8_code
def yX2_solve : MethodName := ⟨RX2, "solve", "()I"⟩
abbrev cX2_straight : ByteArray := prog_4_method_9_code
def yX2_straight : MethodName := ⟨RX2, "straight", "(I)Z"⟩
abbrev cX2_exchange : ByteArray := prog_4_method_10_code
def yX2_exchange : MethodName := ⟨RX2, "exchange", "(II)V"⟩
abbrev cX2_clear : ByteArray := prog_4_method_11_code
def yX2_clear : MethodName := ⟨RX2, "clear", "(IIJ)V"⟩
abbrev cX2_signed : ByteArray := prog_4_method_12_code
def yX2_signed : MethodName := ⟨RX2, "signed", "(I)Z"⟩
abbrev cX2_list : ByteArray := prog_4_method_13_code
def yX2_list : MethodName := ⟨RX2, "list", "(I)V"⟩
abbrev cX2_modes : ByteArray := prog_4_method_14_code
def yX2_modes : MethodName := ⟨RX2, "modes", "()I"⟩
abbrev cX2_support : ByteArray := prog_4_method_15_code
def yX2_support : MethodName := ⟨RX2, "support", "(I)I"⟩
abbrev cX2_rate : ByteArray := prog_4_method_16_code
def yX2_rate : MethodName := ⟨RX2, "rate", "(II)I"⟩
abbrev cX2_within : ByteArray := prog_4_method_17_code
def yX2_within : MethodName := ⟨RX2, "within", "(I)I"⟩
abbrev cX2_running : ByteArray := prog_4_method_18_code
def yX2_running : MethodName := ⟨RX2, "running", "(II)I"⟩
abbrev cX2_shortest : ByteArray := prog_4_method_19_code
def yX2_shortest : MethodName := ⟨RX2, "shortest", "(I)I"⟩
def RJ6 : String := "java/lang/Integer"
def TJ6 : u_T := fun k => match k with
  | _ => ("", "", "", false)
def tyJ6 : Nat → FieldType := fun k => match k with
  | _ => .int
abbrev wsJ60 : List Cond := u_ws RJ6 TJ6 0
theorem nmJ6 : ∀ a, a < 0 → ∀ b, b < 0 → a ≠ b → (TJ6 a).2.1 ≠ (TJ6 b).2.1 := by decide +kernel
theorem tyJ6_ok : ∀ k, k < 0 → parseFieldDescriptor (TJ6 k).2.2.1 = some (tyJ6 k) := by decide +kernel
abbrev cJ6_bitCount_0f7a4 : ByteArray := prog_5_method_49_code
def yJ6_bitCount_0f7a4 : MethodName := ⟨RJ6, "bitCount", "(I)I"⟩
def RJ9 : String := "java/lang/Math"
def TJ9 : u_T := fun k => match k with
  | _ => ("", "", "", false)
def tyJ9 : Nat → FieldType := fun k => match k with
  | _ => .int
abbrev wsJ90 : List Cond := u_ws RJ9 TJ9 0
theorem nmJ9 : ∀ a, a < 0 → ∀ b, b < 0 → a ≠ b → (TJ9 a).2.1 ≠ (TJ9 b).2.1 := by decide +kernel
theorem tyJ9_ok : ∀ k, k < 0 → parseFieldDescriptor (TJ9 k).2.2.1 = some (tyJ9 k) := by decide +kernel
abbrev cJ9_abs_067f4 : ByteArray := prog_6_method_61_code
def yJ9_abs_067f4 : MethodName := ⟨RJ9, "abs", "(J)J"⟩
abbrev cJ9_max_7cf53 : ByteArray := prog_6_method_65_code
def yJ9_max_7cf53 : MethodName := ⟨RJ9, "max", "(II)I"⟩
abbrev cJ9_min_7cf53 : ByteArray := prog_6_method_69_code
def yJ9_min_7cf53 : MethodName := ⟨RJ9, "min", "(II)I"⟩
def RJ7 : String := "java/util/Arrays"
def TJ7 : u_T := fun k => match k with
  | _ => ("", "", "", false)
def tyJ7 : Nat → FieldType := fun k => match k with
  | _ => .int
abbrev wsJ70 : List Cond := u_ws RJ7 TJ7 0
theorem nmJ7 : ∀ a, a < 0 → ∀ b, b < 0 → a ≠ b → (TJ7 a).2.1 ≠ (TJ7 b).2.1 := by decide +kernel
theorem tyJ7_ok : ∀ k, k < 0 → parseFieldDescriptor (TJ7 k).2.2.1 = some (tyJ7 k) := by decide +kernel
abbrev cJ7_fill_53178 : ByteArray := prog_7_method_103_code
def yJ7_fill_53178 : MethodName := ⟨RJ7, "fill", "([II)V"⟩
def RL : String := "FluxModesLaw"
abbrev cL_law : ByteArray := code
def yL_law : MethodName := ⟨RL, "law", "([I)Z"⟩
def wsX0_init : List Cond := .code yX0_init cX0_init 1 none :: ([.methodLink RX0 3 objectInit, .instanceMethod objectInit, .code objectInit ⟨#[0xb1]⟩ 1 none, .arrayClass .long, .fieldLink RX0 9 "FluxModes$Reduction" "cells" "[J", .fieldLink RX0 15 "FluxModes$Reduction" "rows" "I", .fieldLink RX0 19 "FluxModes$Reduction" "columns" "I", .fieldLink RX0 22 "FluxModes$Reduction" "pivot" "J"] ++ wsX00)
def wsX0_begin : List Cond := .code yX0_begin cX0_begin 2 none :: ([.methodLink RX0 26 Lib.Math.min.name, .static Lib.Math.min.name, .initialized "java/lang/Math", .code Lib.Math.min.name Lib.Math.min.code 2 (some .int), .methodLink RX0 32 Lib.Math.max.name, .static Lib.Math.max.name, .code Lib.Math.max.name Lib.Math.max.code 2 (some .int), .fieldLink RX0 15 "FluxModes$Reduction" "rows" "I", .fieldLink RX0 19 "FluxModes$Reduction" "columns" "I", .fieldLink RX0 22 "FluxModes$Reduction" "pivot" "J"] ++ wsX00)
def wsX0_addColumn : List Cond := .code yX0_addColumn cX0_addColumn 4 none :: ([.fieldLink RX0 19 "FluxModes$Reduction" "columns" "I", .fieldLink RX0 15 "FluxModes$Reduction" "rows" "I", .fieldLink RX0 9 "FluxModes$Reduction" "cells" "[J"] ++ wsX00)
def wsX0_pivotRow : List Cond := .code yX0_pivotRow cX0_pivotRow 3 (some .int) :: ([.fieldLink RX0 15 "FluxModes$Reduction" "rows" "I", .fieldLink RX0 9 "FluxModes$Reduction" "cells" "[J"] ++ wsX00)
def wsX0_swapRows : List Cond := .code yX0_swapRows cX0_swapRows 6 none :: ([.fieldLink RX0 19 "FluxModes$Reduction" "columns" "I", .fieldLink RX0 9 "FluxModes$Reduction" "cells" "[J"] ++ wsX00)
def wsX1_quotient : List Cond := .code yX1_quotient cX1_quotient 4 (some .long) :: ([])
def wsX0_clearRow : List Cond := .code yX0_clearRow cX0_clearRow 12 none :: ([.fieldLink RX0 9 "FluxModes$Reduction" "cells" "[J", .fieldLink RX0 19 "FluxModes$Reduction" "columns" "I", .fieldLink RX0 22 "FluxModes$Reduction" "pivot" "J", .static yX1_quotient, .initialized RX1, .code yX1_quotient cX1_quotient 4 (some .long)] ++ wsX00)
def wsX0_clearColumn : List Cond := .code yX0_clearColumn cX0_clearColumn 6 (some .boolean) :: ([.fieldLink RX0 9 "FluxModes$Reduction" "cells" "[J", .fieldLink RX0 15 "FluxModes$Reduction" "rows" "I", .fieldLink RX0 22 "FluxModes$Reduction" "pivot" "J", .methodLink RX0 39 yX0_pivotRow, .instanceMethod yX0_pivotRow, .selects RX0 yX0_pivotRow yX0_pivotRow, .initialized RX0, .code yX0_pivotRow cX0_pivotRow 3 (some .int), .methodLink RX0 43 yX0_swapRows, .instanceMethod yX0_swapRows, .selects RX0 yX0_swapRows yX0_swapRows, .code yX0_swapRows cX0_swapRows 6 none, .fieldLink RX0 19 "FluxModes$Reduction" "columns" "I", .methodLink RX0 47 yX0_clearRow, .instanceMethod yX0_clearRow, .selects RX0 yX0_clearRow yX0_clearRow, .code yX0_clearRow cX0_clearRow 12 none, .static yX1_quotient, .initialized RX1, .code yX1_quotient cX1_quotient 4 (some .long)] ++ wsX00)
def wsX0_leavesOneFullFlow : List Cond := .code yX0_leavesOneFullFlow cX0_leavesOneFullFlow 5 (some .boolean) :: ([.fieldLink RX0 19 "FluxModes$Reduction" "columns" "I", .fieldLink RX0 15 "FluxModes$Reduction" "rows" "I", .fieldLink RX0 9 "FluxModes$Reduction" "cells" "[J", .methodLink RX0 35 yX0_clearColumn, .instanceMethod yX0_clearColumn, .selects RX0 yX0_clearColumn yX0_clearColumn, .initialized RX0, .code yX0_clearColumn cX0_clearColumn 6 (some .boolean), .fieldLink RX0 22 "FluxModes$Reduction" "pivot" "J", .methodLink RX0 39 yX0_pivotRow, .instanceMethod yX0_pivotRow, .selects RX0 yX0_pivotRow yX0_pivotRow, .code yX0_pivotRow cX0_pivotRow 3 (some .int), .methodLink RX0 43 yX0_swapRows, .instanceMethod yX0_swapRows, .selects RX0 yX0_swapRows yX0_swapRows, .code yX0_swapRows cX0_swapRows 6 none, .methodLink RX0 47 yX0_clearRow, .instanceMethod yX0_clearRow, .selects RX0 yX0_clearRow yX0_clearRow, .code yX0_clearRow cX0_clearRow 12 none, .static yX1_quotient, .initialized RX1, .code yX1_quotient cX1_quotient 4 (some .long)] ++ wsX00)
def wsX0_flowAt : List Cond := .code yX0_flowAt cX0_flowAt 3 (some .long) :: ([.fieldLink RX0 19 "FluxModes$Reduction" "columns" "I", .fieldLink RX0 15 "FluxModes$Reduction" "rows" "I", .fieldLink RX0 22 "FluxModes$Reduction" "pivot" "J", .fieldLink RX0 9 "FluxModes$Reduction" "cells" "[J"] ++ wsX00)
def wsX1_init_r1 : List Cond := [Cond.methodLink RX1 1 objectInit, Cond.instanceMethod objectInit, Cond.code objectInit ⟨#[0xb1]⟩ 1 none, Cond.arrayClass .int, Cond.fieldLink RX1 9 "FluxModes" "entries" "[I", Cond.fieldLink RX1 13 "FluxModes" "listedSupports" "[I", Cond.fieldLink RX1 16 "FluxModes" "listedRates" "[I", Cond.classLink RX1 19 RX0, Cond.instantiable RX0 4, Cond.initialized RX0, Cond.fieldLink RX1 22 "FluxModes" "reduction" "LFluxModes$Reduction;", Cond.arrayClass .long, Cond.fieldLink RX1 26 "FluxModes" "flow" "[J", Cond.fieldLink RX1 30 "FluxModes" "metabolites" "I", Cond.fieldLink RX1 34 "FluxModes" "reactions" "I", Cond.fieldLink RX1 37 "FluxModes" "reversibleSet" "I", Cond.fieldLink RX1 40 "FluxModes" "listed" "I", Cond.methodLink RX1 21 yX0_init, Cond.instanceMethod yX0_init, Cond.code yX0_init cX0_init 1 none, Cond.methodLink RX0 3 objectInit, Cond.fieldLink RX0 9 "FluxModes$Reduction" "cells" "[J", Cond.fieldLink RX0 15 "FluxModes$Reduction" "rows" "I", Cond.fieldLink RX0 19 "FluxModes$Reduction" "columns" "I"]
def wsX1_init_r2 : List Cond := [Cond.fieldLink RX0 22 "FluxModes$Reduction" "pivot" "J"]
def wsX1_init : List Cond := .code yX1_init cX1_init 1 none :: ((wsX1_init_r1 ++ wsX1_init_r2) ++ wsX10 ++ wsX00)
def wsJ7_fill_53178 : List Cond := .code yJ7_fill_53178 cJ7_fill_53178 4 none :: ([])
def wsX1_size : List Cond := .code yX1_size cX1_size 3 (some .boolean) :: ([.fieldLink RX1 30 "FluxModes" "metabolites" "I", .fieldLink RX1 34 "FluxModes" "reactions" "I", .fieldLink RX1 9 "FluxModes" "entries" "[I", .fieldLink RX1 37 "FluxModes" "reversibleSet" "I", .fieldLink RX1 40 "FluxModes" "listed" "I", .methodLink RX1 43 yJ7_fill_53178, .static yJ7_fill_53178, .initialized RJ7, .code yJ7_fill_53178 cJ7_fill_53178 4 none] ++ wsX10)
def wsX1_hasReaction : List Cond := .code yX1_hasReaction cX1_hasReaction 2 (some .boolean) :: ([.fieldLink RX1 34 "FluxModes" "reactions" "I"] ++ wsX10)
def wsX1_hasEntry : List Cond := .code yX1_hasEntry cX1_hasEntry 3 (some .boolean) :: ([.fieldLink RX1 30 "FluxModes" "metabolites" "I", .methodLink RX1 53 yX1_hasReaction, .instanceMethod yX1_hasReaction, .selects RX1 yX1_hasReaction yX1_hasReaction, .initialized RX1, .code yX1_hasReaction cX1_hasReaction 2 (some .boolean), .fieldLink RX1 34 "FluxModes" "reactions" "I"] ++ wsX10)
def wsX1_enter : List Cond := .code yX1_enter cX1_enter 4 (some .boolean) :: ([.fieldLink RX1 9 "FluxModes" "entries" "[I", .methodLink RX1 49 yX1_hasEntry, .instanceMethod yX1_hasEntry, .selects RX1 yX1_hasEntry yX1_hasEntry, .initialized RX1, .code yX1_hasEntry cX1_hasEntry 3 (some .boolean), .fieldLink RX1 30 "FluxModes" "metabolites" "I", .methodLink RX1 53 yX1_hasReaction, .instanceMethod yX1_hasReaction, .selects RX1 yX1_hasReaction yX1_hasReaction, .code yX1_hasReaction cX1_hasReaction 2 (some .boolean), .fieldLink RX1 34 "FluxModes" "reactions" "I"] ++ wsX10)
def wsX1_entry : List Cond := .code yX1_entry cX1_entry 3 (some .int) :: ([.fieldLink RX1 9 "FluxModes" "entries" "[I", .methodLink RX1 49 yX1_hasEntry, .instanceMethod yX1_hasEntry, .selects RX1 yX1_hasEntry yX1_hasEntry, .initialized RX1, .code yX1_hasEntry cX1_hasEntry 3 (some .boolean), .fieldLink RX1 30 "FluxModes" "metabolites" "I", .methodLink RX1 53 yX1_hasReaction, .instanceMethod yX1_hasReaction, .selects RX1 yX1_hasReaction yX1_hasReaction, .code yX1_hasReaction cX1_hasReaction 2 (some .boolean), .fieldLink RX1 34 "FluxModes" "reactions" "I"] ++ wsX10)
def wsX1_reversible : List Cond := .code yX1_reversible cX1_reversible 4 (some .boolean) :: ([.fieldLink RX1 37 "FluxModes" "reversibleSet" "I", .methodLink RX1 53 yX1_hasReaction, .instanceMethod yX1_hasReaction, .selects RX1 yX1_hasReaction yX1_hasReaction, .initialized RX1, .code yX1_hasReaction cX1_hasReaction 2 (some .boolean), .fieldLink RX1 34 "FluxModes" "reactions" "I"] ++ wsX10)
def wsX1_reversibles : List Cond := .code yX1_reversibles cX1_reversibles 1 (some .int) :: ([.fieldLink RX1 37 "FluxModes" "reversibleSet" "I"] ++ wsX10)
def wsX1_has : List Cond := .code yX1_has cX1_has 2 (some .boolean) :: ([])
def wsX1_loadColumns_r1 : List Cond := [Cond.fieldLink RX1 22 "FluxModes" "reduction" "LFluxModes$Reduction;", Cond.fieldLink RX1 30 "FluxModes" "metabolites" "I", Cond.fieldLink RX1 34 "FluxModes" "reactions" "I", Cond.fieldLink RX1 9 "FluxModes" "entries" "[I", Cond.methodLink RX1 102 yX0_begin, Cond.instanceMethod yX0_begin, Cond.selects RX0 yX0_begin yX0_begin, Cond.initialized RX0, Cond.code yX0_begin cX0_begin 2 none, Cond.methodLink RX0 26 Lib.Math.min.name, Cond.static Lib.Math.min.name, Cond.initialized "java/lang/Math", Cond.code Lib.Math.min.name Lib.Math.min.code 2 (some .int), Cond.methodLink RX0 32 Lib.Math.max.name, Cond.static Lib.Math.max.name, Cond.code Lib.Math.max.name Lib.Math.max.code 2 (some .int), Cond.fieldLink RX0 15 "FluxModes$Reduction" "rows" "I", Cond.fieldLink RX0 19 "FluxModes$Reduction" "columns" "I", Cond.fieldLink RX0 22 "FluxModes$Reduction" "pivot" "J", Cond.methodLink RX1 70 yX1_has, Cond.static yX1_has, Cond.initialized RX1, Cond.code yX1_has cX1_has 2 (some .boolean), Cond.methodLink RX1 105 yX0_addColumn]
def wsX1_loadColumns_r2 : List Cond := [Cond.instanceMethod yX0_addColumn, Cond.selects RX0 yX0_addColumn yX0_addColumn, Cond.code yX0_addColumn cX0_addColumn 4 none, Cond.fieldLink RX0 9 "FluxModes$Reduction" "cells" "[J"]
def wsX1_loadColumns : List Cond := .code yX1_loadColumns cX1_loadColumns 3 none :: ((wsX1_loadColumns_r1 ++ wsX1_loadColumns_r2) ++ wsX10 ++ wsX00)
def wsX1_readFlow : List Cond := .code yX1_readFlow cX1_readFlow 4 none :: ([.fieldLink RX1 26 "FluxModes" "flow" "[J", .fieldLink RX1 22 "FluxModes" "reduction" "LFluxModes$Reduction;", .methodLink RX1 70 yX1_has, .static yX1_has, .initialized RX1, .code yX1_has cX1_has 2 (some .boolean), .methodLink RX1 108 yX0_flowAt, .instanceMethod yX0_flowAt, .selects RX0 yX0_flowAt yX0_flowAt, .initialized RX0, .code yX0_flowAt cX0_flowAt 3 (some .long), .fieldLink RX0 19 "FluxModes$Reduction" "columns" "I", .fieldLink RX0 15 "FluxModes$Reduction" "rows" "I", .fieldLink RX0 22 "FluxModes$Reduction" "pivot" "J", .fieldLink RX0 9 "FluxModes$Reduction" "cells" "[J"] ++ wsX10 ++ wsX00)
def wsX1_allowedDirection : List Cond := .code yX1_allowedDirection cX1_allowedDirection 6 (some .int) :: ([.fieldLink RX1 26 "FluxModes" "flow" "[J", .fieldLink RX1 37 "FluxModes" "reversibleSet" "I"] ++ wsX10)
def wsX1_commonDivisor : List Cond := .code yX1_commonDivisor cX1_commonDivisor 11 (some .long) :: ([.methodLink RX1 119 Lib.MathLoose.abs_long.x, .static Lib.MathLoose.abs_long.x, .initialized "java/lang/Math", .code Lib.MathLoose.abs_long.x Lib.MathLoose.abs_long.code 2 (some .long)])
def wsX1_list : List Cond := .code yX1_list cX1_list 8 none :: ([.fieldLink RX1 26 "FluxModes" "flow" "[J", .fieldLink RX1 16 "FluxModes" "listedRates" "[I", .fieldLink RX1 40 "FluxModes" "listed" "I", .fieldLink RX1 13 "FluxModes" "listedSupports" "[I", .methodLink RX1 112 yX1_commonDivisor, .static yX1_commonDivisor, .initialized RX1, .code yX1_commonDivisor cX1_commonDivisor 11 (some .long), .methodLink RX1 119 Lib.MathLoose.abs_long.x, .static Lib.MathLoose.abs_long.x, .initialized "java/lang/Math", .code Lib.MathLoose.abs_long.x Lib.MathLoose.abs_long.code 2 (some .long), .methodLink RX1 116 yX1_quotient, .static yX1_quotient, .code yX1_quotient cX1_quotient 4 (some .long)] ++ wsX10)
def wsX1_listIfSupport_r1 : List Cond := [Cond.fieldLink RX1 40 "FluxModes" "listed" "I", Cond.fieldLink RX1 22 "FluxModes" "reduction" "LFluxModes$Reduction;", Cond.methodLink RX1 85 yX1_loadColumns, Cond.instanceMethod yX1_loadColumns, Cond.selects RX1 yX1_loadColumns yX1_loadColumns, Cond.initialized RX1, Cond.code yX1_loadColumns cX1_loadColumns 3 none, Cond.fieldLink RX1 30 "FluxModes" "metabolites" "I", Cond.fieldLink RX1 34 "FluxModes" "reactions" "I", Cond.fieldLink RX1 9 "FluxModes" "entries" "[I", Cond.methodLink RX1 102 yX0_begin, Cond.instanceMethod yX0_begin, Cond.selects RX0 yX0_begin yX0_begin, Cond.initialized RX0, Cond.code yX0_begin cX0_begin 2 none, Cond.methodLink RX0 26 Lib.Math.min.name, Cond.static Lib.Math.min.name, Cond.initialized "java/lang/Math", Cond.code Lib.Math.min.name Lib.Math.min.code 2 (some .int), Cond.methodLink RX0 32 Lib.Math.max.name, Cond.static Lib.Math.max.name, Cond.code Lib.Math.max.name Lib.Math.max.code 2 (some .int), Cond.fieldLink RX0 15 "FluxModes$Reduction" "rows" "I", Cond.fieldLink RX0 19 "FluxModes$Reduction" "columns" "I"]
def wsX1_listIfSupport_r2 : List Cond := [Cond.fieldLink RX0 22 "FluxModes$Reduction" "pivot" "J", Cond.methodLink RX1 70 yX1_has, Cond.static yX1_has, Cond.code yX1_has cX1_has 2 (some .boolean), Cond.methodLink RX1 105 yX0_addColumn, Cond.instanceMethod yX0_addColumn, Cond.selects RX0 yX0_addColumn yX0_addColumn, Cond.code yX0_addColumn cX0_addColumn 4 none, Cond.fieldLink RX0 9 "FluxModes$Reduction" "cells" "[J", Cond.methodLink RX1 88 yX0_leavesOneFullFlow, Cond.instanceMethod yX0_leavesOneFullFlow, Cond.selects RX0 yX0_leavesOneFullFlow yX0_leavesOneFullFlow, Cond.code yX0_leavesOneFullFlow cX0_leavesOneFullFlow 5 (some .boolean), Cond.methodLink RX0 35 yX0_clearColumn, Cond.instanceMethod yX0_clearColumn, Cond.selects RX0 yX0_clearColumn yX0_clearColumn, Cond.code yX0_clearColumn cX0_clearColumn 6 (some .boolean), Cond.methodLink RX0 39 yX0_pivotRow, Cond.instanceMethod yX0_pivotRow, Cond.selects RX0 yX0_pivotRow yX0_pivotRow, Cond.code yX0_pivotRow cX0_pivotRow 3 (some .int), Cond.methodLink RX0 43 yX0_swapRows, Cond.instanceMethod yX0_swapRows, Cond.selects RX0 yX0_swapRows yX0_swapRows]
def wsX1_listIfSupport_r3 : List Cond := [Cond.code yX0_swapRows cX0_swapRows 6 none, Cond.methodLink RX0 47 yX0_clearRow, Cond.instanceMethod yX0_clearRow, Cond.selects RX0 yX0_clearRow yX0_clearRow, Cond.code yX0_clearRow cX0_clearRow 12 none, Cond.static yX1_quotient, Cond.code yX1_quotient cX1_quotient 4 (some .long), Cond.methodLink RX1 92 yX1_readFlow, Cond.instanceMethod yX1_readFlow, Cond.selects RX1 yX1_readFlow yX1_readFlow, Cond.code yX1_readFlow cX1_readFlow 4 none, Cond.fieldLink RX1 26 "FluxModes" "flow" "[J", Cond.methodLink RX1 108 yX0_flowAt, Cond.instanceMethod yX0_flowAt, Cond.selects RX0 yX0_flowAt yX0_flowAt, Cond.code yX0_flowAt cX0_flowAt 3 (some .long), Cond.methodLink RX1 95 yX1_allowedDirection, Cond.instanceMethod yX1_allowedDirection, Cond.selects RX1 yX1_allowedDirection yX1_allowedDirection, Cond.code yX1_allowedDirection cX1_allowedDirection 6 (some .int), Cond.fieldLink RX1 37 "FluxModes" "reversibleSet" "I", Cond.methodLink RX1 98 yX1_list, Cond.instanceMethod yX1_list, Cond.selects RX1 yX1_list yX1_list]
def wsX1_listIfSupport_r4 : List Cond := [Cond.code yX1_list cX1_list 8 none, Cond.fieldLink RX1 16 "FluxModes" "listedRates" "[I", Cond.fieldLink RX1 13 "FluxModes" "listedSupports" "[I", Cond.methodLink RX1 112 yX1_commonDivisor, Cond.static yX1_commonDivisor, Cond.code yX1_commonDivisor cX1_commonDivisor 11 (some .long), Cond.methodLink RX1 119 Lib.MathLoose.abs_long.x, Cond.static Lib.MathLoose.abs_long.x, Cond.code Lib.MathLoose.abs_long.x Lib.MathLoose.abs_long.code 2 (some .long), Cond.methodLink RX1 116 yX1_quotient]
def wsX1_listIfSupport : List Cond := .code yX1_listIfSupport cX1_listIfSupport 3 none :: ((wsX1_listIfSupport_r1 ++ (wsX1_listIfSupport_r2 ++ (wsX1_listIfSupport_r3 ++ wsX1_listIfSupport_r4))) ++ wsX10 ++ wsX00)
def wsX1_solve_r1 : List Cond := [Cond.fieldLink RX1 40 "FluxModes" "listed" "I", Cond.fieldLink RX1 34 "FluxModes" "reactions" "I", Cond.methodLink RX1 57 yX1_listIfSupport, Cond.instanceMethod yX1_listIfSupport, Cond.selects RX1 yX1_listIfSupport yX1_listIfSupport, Cond.initialized RX1, Cond.code yX1_listIfSupport cX1_listIfSupport 3 none, Cond.fieldLink RX1 22 "FluxModes" "reduction" "LFluxModes$Reduction;", Cond.methodLink RX1 85 yX1_loadColumns, Cond.instanceMethod yX1_loadColumns, Cond.selects RX1 yX1_loadColumns yX1_loadColumns, Cond.code yX1_loadColumns cX1_loadColumns 3 none, Cond.fieldLink RX1 30 "FluxModes" "metabolites" "I", Cond.fieldLink RX1 9 "FluxModes" "entries" "[I", Cond.methodLink RX1 102 yX0_begin, Cond.instanceMethod yX0_begin, Cond.selects RX0 yX0_begin yX0_begin, Cond.initialized RX0, Cond.code yX0_begin cX0_begin 2 none, Cond.methodLink RX0 26 Lib.Math.min.name, Cond.static Lib.Math.min.name, Cond.initialized "java/lang/Math", Cond.code Lib.Math.min.name Lib.Math.min.code 2 (some .int), Cond.methodLink RX0 32 Lib.Math.max.name]
def wsX1_solve_r2 : List Cond := [Cond.static Lib.Math.max.name, Cond.code Lib.Math.max.name Lib.Math.max.code 2 (some .int), Cond.fieldLink RX0 15 "FluxModes$Reduction" "rows" "I", Cond.fieldLink RX0 19 "FluxModes$Reduction" "columns" "I", Cond.fieldLink RX0 22 "FluxModes$Reduction" "pivot" "J", Cond.methodLink RX1 70 yX1_has, Cond.static yX1_has, Cond.code yX1_has cX1_has 2 (some .boolean), Cond.methodLink RX1 105 yX0_addColumn, Cond.instanceMethod yX0_addColumn, Cond.selects RX0 yX0_addColumn yX0_addColumn, Cond.code yX0_addColumn cX0_addColumn 4 none, Cond.fieldLink RX0 9 "FluxModes$Reduction" "cells" "[J", Cond.methodLink RX1 88 yX0_leavesOneFullFlow, Cond.instanceMethod yX0_leavesOneFullFlow, Cond.selects RX0 yX0_leavesOneFullFlow yX0_leavesOneFullFlow, Cond.code yX0_leavesOneFullFlow cX0_leavesOneFullFlow 5 (some .boolean), Cond.methodLink RX0 35 yX0_clearColumn, Cond.instanceMethod yX0_clearColumn, Cond.selects RX0 yX0_clearColumn yX0_clearColumn, Cond.code yX0_clearColumn cX0_clearColumn 6 (some .boolean), Cond.methodLink RX0 39 yX0_pivotRow, Cond.instanceMethod yX0_pivotRow, Cond.selects RX0 yX0_pivotRow yX0_pivotRow]
def wsX1_solve_r3 : List Cond := [Cond.code yX0_pivotRow cX0_pivotRow 3 (some .int), Cond.methodLink RX0 43 yX0_swapRows, Cond.instanceMethod yX0_swapRows, Cond.selects RX0 yX0_swapRows yX0_swapRows, Cond.code yX0_swapRows cX0_swapRows 6 none, Cond.methodLink RX0 47 yX0_clearRow, Cond.instanceMethod yX0_clearRow, Cond.selects RX0 yX0_clearRow yX0_clearRow, Cond.code yX0_clearRow cX0_clearRow 12 none, Cond.static yX1_quotient, Cond.code yX1_quotient cX1_quotient 4 (some .long), Cond.methodLink RX1 92 yX1_readFlow, Cond.instanceMethod yX1_readFlow, Cond.selects RX1 yX1_readFlow yX1_readFlow, Cond.code yX1_readFlow cX1_readFlow 4 none, Cond.fieldLink RX1 26 "FluxModes" "flow" "[J", Cond.methodLink RX1 108 yX0_flowAt, Cond.instanceMethod yX0_flowAt, Cond.selects RX0 yX0_flowAt yX0_flowAt, Cond.code yX0_flowAt cX0_flowAt 3 (some .long), Cond.methodLink RX1 95 yX1_allowedDirection, Cond.instanceMethod yX1_allowedDirection, Cond.selects RX1 yX1_allowedDirection yX1_allowedDirection, Cond.code yX1_allowedDirection cX1_allowedDirection 6 (some .int)]
def wsX1_solve_r4 : List Cond := [Cond.fieldLink RX1 37 "FluxModes" "reversibleSet" "I", Cond.methodLink RX1 98 yX1_list, Cond.instanceMethod yX1_list, Cond.selects RX1 yX1_list yX1_list, Cond.code yX1_list cX1_list 8 none, Cond.fieldLink RX1 16 "FluxModes" "listedRates" "[I", Cond.fieldLink RX1 13 "FluxModes" "listedSupports" "[I", Cond.methodLink RX1 112 yX1_commonDivisor, Cond.static yX1_commonDivisor, Cond.code yX1_commonDivisor cX1_commonDivisor 11 (some .long), Cond.methodLink RX1 119 Lib.MathLoose.abs_long.x, Cond.static Lib.MathLoose.abs_long.x, Cond.code Lib.MathLoose.abs_long.x Lib.MathLoose.abs_long.code 2 (some .long), Cond.methodLink RX1 116 yX1_quotient]
def wsX1_solve : List Cond := .code yX1_solve cX1_solve 3 (some .int) :: ((wsX1_solve_r1 ++ (wsX1_solve_r2 ++ (wsX1_solve_r3 ++ wsX1_solve_r4))) ++ wsX10 ++ wsX00)
def wsX1_modes : List Cond := .code yX1_modes cX1_modes 1 (some .int) :: ([.fieldLink RX1 40 "FluxModes" "listed" "I"] ++ wsX10)
def wsX1_isListed : List Cond := .code yX1_isListed cX1_isListed 2 (some .boolean) :: ([.fieldLink RX1 40 "FluxModes" "listed" "I"] ++ wsX10)
def wsX1_support : List Cond := .code yX1_support cX1_support 2 (some .int) :: ([.fieldLink RX1 13 "FluxModes" "listedSupports" "[I", .methodLink RX1 61 yX1_isListed, .instanceMethod yX1_isListed, .selects RX1 yX1_isListed yX1_isListed, .initialized RX1, .code yX1_isListed cX1_isListed 2 (some .boolean), .fieldLink RX1 40 "FluxModes" "listed" "I"] ++ wsX10)
def wsX1_isColumn : List Cond := .code yX1_isColumn cX1_isColumn 1 (some .boolean) :: ([])
def wsX1_rate : List Cond := .code yX1_rate cX1_rate 3 (some .int) :: ([.fieldLink RX1 16 "FluxModes" "listedRates" "[I", .methodLink RX1 61 yX1_isListed, .instanceMethod yX1_isListed, .selects RX1 yX1_isListed yX1_isListed, .initialized RX1, .code yX1_isListed cX1_isListed 2 (some .boolean), .fieldLink RX1 40 "FluxModes" "listed" "I", .methodLink RX1 64 yX1_isColumn, .static yX1_isColumn, .code yX1_isColumn cX1_isColumn 1 (some .boolean)] ++ wsX10)
def wsX1_within : List Cond := .code yX1_within cX1_within 4 (some .int) :: ([.fieldLink RX1 40 "FluxModes" "listed" "I", .fieldLink RX1 13 "FluxModes" "listedSupports" "[I"] ++ wsX10)
def wsX1_runs : List Cond := .code yX1_runs cX1_runs 2 (some .boolean) :: ([])
def wsX1_running : List Cond := .code yX1_running cX1_running 5 (some .int) :: ([.fieldLink RX1 40 "FluxModes" "listed" "I", .fieldLink RX1 16 "FluxModes" "listedRates" "[I", .methodLink RX1 64 yX1_isColumn, .static yX1_isColumn, .initialized RX1, .code yX1_isColumn cX1_isColumn 1 (some .boolean), .methodLink RX1 67 yX1_runs, .static yX1_runs, .code yX1_runs cX1_runs 2 (some .boolean)] ++ wsX10)
def wsJ6_bitCount_0f7a4 : List Cond := .code yJ6_bitCount_0f7a4 cJ6_bitCount_0f7a4 1 (some .int) :: ([.constant RJ6 265 (1431655765), .constant RJ6 266 (858993459), .constant RJ6 267 (252645135)])
def wsX1_shortest : List Cond := .code yX1_shortest cX1_shortest 5 (some .int) :: ([.fieldLink RX1 40 "FluxModes" "listed" "I", .fieldLink RX1 13 "FluxModes" "listedSupports" "[I", .methodLink RX1 79 Lib.Math.min.name, .static Lib.Math.min.name, .initialized "java/lang/Math", .code Lib.Math.min.name Lib.Math.min.code 2 (some .int), .methodLink RX1 64 yX1_isColumn, .static yX1_isColumn, .initialized RX1, .code yX1_isColumn cX1_isColumn 1 (some .boolean), .methodLink RX1 70 yX1_has, .static yX1_has, .code yX1_has cX1_has 2 (some .boolean), .methodLink RX1 73 yJ6_bitCount_0f7a4, .static yJ6_bitCount_0f7a4, .initialized RJ6, .code yJ6_bitCount_0f7a4 cJ6_bitCount_0f7a4 1 (some .int), .constant RJ6 265 (1431655765), .constant RJ6 266 (858993459), .constant RJ6 267 (252645135)] ++ wsX10)
def wsX2_init : List Cond := .code yX2_init cX2_init 1 none :: ([.methodLink RX2 1 objectInit, .instanceMethod objectInit, .code objectInit ⟨#[0xb1]⟩ 1 none, .arrayClass .int, .fieldLink RX2 7 "FluxModesModel" "net" "[I", .arrayClass .boolean, .fieldLink RX2 13 "FluxModesModel" "both" "[Z", .fieldLink RX2 17 "FluxModesModel" "supports" "[I", .fieldLink RX2 20 "FluxModesModel" "rates" "[I", .arrayClass .long, .fieldLink RX2 23 "FluxModesModel" "a" "[J", .fieldLink RX2 27 "FluxModesModel" "leads" "[I", .fieldLink RX2 30 "FluxModesModel" "line" "[J", .fieldLink RX2 33 "FluxModesModel" "\x72" "I"] ++ wsX20)
def wsX2_size : List Cond := .code yX2_size cX2_size 4 (some .boolean) :: ([.fieldLink RX2 37 "FluxModesModel" "m" "I", .fieldLink RX2 33 "FluxModesModel" "\x72" "I", .fieldLink RX2 7 "FluxModesModel" "net" "[I", .fieldLink RX2 13 "FluxModesModel" "both" "[Z", .fieldLink RX2 40 "FluxModesModel" "listed" "I"] ++ wsX20)
def wsX2_there : List Cond := .code yX2_there cX2_there 3 (some .boolean) :: ([.fieldLink RX2 37 "FluxModesModel" "m" "I", .fieldLink RX2 33 "FluxModesModel" "\x72" "I"] ++ wsX20)
def wsX2_enter : List Cond := .code yX2_enter cX2_enter 4 (some .boolean) :: ([.fieldLink RX2 7 "FluxModesModel" "net" "[I", .methodLink RX2 43 yX2_there, .instanceMethod yX2_there, .selects RX2 yX2_there yX2_there, .initialized RX2, .code yX2_there cX2_there 3 (some .boolean), .fieldLink RX2 37 "FluxModesModel" "m" "I", .fieldLink RX2 33 "FluxModesModel" "\x72" "I"] ++ wsX20)
def wsX2_entry : List Cond := .code yX2_entry cX2_entry 3 (some .int) :: ([.fieldLink RX2 7 "FluxModesModel" "net" "[I", .methodLink RX2 43 yX2_there, .instanceMethod yX2_there, .selects RX2 yX2_there yX2_there, .initialized RX2, .code yX2_there cX2_there 3 (some .boolean), .fieldLink RX2 37 "FluxModesModel" "m" "I", .fieldLink RX2 33 "FluxModesModel" "\x72" "I"] ++ wsX20)
def wsX2_reversible : List Cond := .code yX2_reversible cX2_reversible 3 (some .boolean) :: ([.fieldLink RX2 33 "FluxModesModel" "\x72" "I", .fieldLink RX2 13 "FluxModesModel" "both" "[Z"] ++ wsX20)
def wsX2_reversibles : List Cond := .code yX2_reversibles cX2_reversibles 3 (some .int) :: ([.fieldLink RX2 13 "FluxModesModel" "both" "[Z"] ++ wsX20)
def wsX2_exchange : List Cond := .code yX2_exchange cX2_exchange 6 none :: ([.fieldLink RX2 23 "FluxModesModel" "a" "[J"] ++ wsX20)
def wsX2_clear : List Cond := .code yX2_clear cX2_clear 11 none :: ([.fieldLink RX2 23 "FluxModesModel" "a" "[J", .fieldLink RX2 37 "FluxModesModel" "m" "I"] ++ wsX20)
def wsX2_straight : List Cond := .code yX2_straight cX2_straight 8 (some .boolean) :: ([.fieldLink RX2 23 "FluxModesModel" "a" "[J", .fieldLink RX2 7 "FluxModesModel" "net" "[I", .fieldLink RX2 27 "FluxModesModel" "leads" "[I", .fieldLink RX2 30 "FluxModesModel" "line" "[J", .fieldLink RX2 33 "FluxModesModel" "\x72" "I", .fieldLink RX2 37 "FluxModesModel" "m" "I", .methodLink RX2 58 yX2_exchange, .instanceMethod yX2_exchange, .selects RX2 yX2_exchange yX2_exchange, .initialized RX2, .code yX2_exchange cX2_exchange 6 none, .methodLink RX2 62 yX2_clear, .instanceMethod yX2_clear, .selects RX2 yX2_clear yX2_clear, .code yX2_clear cX2_clear 11 none] ++ wsX20)
def wsX2_signed : List Cond := .code yX2_signed cX2_signed 6 (some .boolean) :: ([.fieldLink RX2 33 "FluxModesModel" "\x72" "I", .fieldLink RX2 30 "FluxModesModel" "line" "[J", .fieldLink RX2 13 "FluxModesModel" "both" "[Z"] ++ wsX20)
def wsX2_list : List Cond := .code yX2_list cX2_list 9 none :: ([.fieldLink RX2 30 "FluxModesModel" "line" "[J", .fieldLink RX2 17 "FluxModesModel" "supports" "[I", .fieldLink RX2 40 "FluxModesModel" "listed" "I", .fieldLink RX2 20 "FluxModesModel" "rates" "[I"] ++ wsX20)
def wsX2_solve_r1 : List Cond := [Cond.fieldLink RX2 40 "FluxModesModel" "listed" "I", Cond.fieldLink RX2 33 "FluxModesModel" "\x72" "I", Cond.methodLink RX2 47 yX2_straight, Cond.instanceMethod yX2_straight, Cond.selects RX2 yX2_straight yX2_straight, Cond.initialized RX2, Cond.code yX2_straight cX2_straight 8 (some .boolean), Cond.fieldLink RX2 23 "FluxModesModel" "a" "[J", Cond.fieldLink RX2 7 "FluxModesModel" "net" "[I", Cond.fieldLink RX2 27 "FluxModesModel" "leads" "[I", Cond.fieldLink RX2 30 "FluxModesModel" "line" "[J", Cond.fieldLink RX2 37 "FluxModesModel" "m" "I", Cond.methodLink RX2 58 yX2_exchange, Cond.instanceMethod yX2_exchange, Cond.selects RX2 yX2_exchange yX2_exchange, Cond.code yX2_exchange cX2_exchange 6 none, Cond.methodLink RX2 62 yX2_clear, Cond.instanceMethod yX2_clear, Cond.selects RX2 yX2_clear yX2_clear, Cond.code yX2_clear cX2_clear 11 none, Cond.methodLink RX2 51 yX2_signed, Cond.instanceMethod yX2_signed, Cond.selects RX2 yX2_signed yX2_signed, Cond.code yX2_signed cX2_signed 6 (some .boolean)]
def wsX2_solve_r2 : List Cond := [Cond.fieldLink RX2 13 "FluxModesModel" "both" "[Z", Cond.methodLink RX2 54 yX2_list, Cond.instanceMethod yX2_list, Cond.selects RX2 yX2_list yX2_list, Cond.code yX2_list cX2_list 9 none, Cond.fieldLink RX2 17 "FluxModesModel" "supports" "[I", Cond.fieldLink RX2 20 "FluxModesModel" "rates" "[I"]
def wsX2_solve : List Cond := .code yX2_solve cX2_solve 2 (some .int) :: ((wsX2_solve_r1 ++ wsX2_solve_r2) ++ wsX20)
def wsX2_modes : List Cond := .code yX2_modes cX2_modes 1 (some .int) :: ([.fieldLink RX2 40 "FluxModesModel" "listed" "I"] ++ wsX20)
def wsX2_support : List Cond := .code yX2_support cX2_support 2 (some .int) :: ([.fieldLink RX2 40 "FluxModesModel" "listed" "I", .fieldLink RX2 17 "FluxModesModel" "supports" "[I"] ++ wsX20)
def wsX2_rate : List Cond := .code yX2_rate cX2_rate 3 (some .int) :: ([.fieldLink RX2 40 "FluxModesModel" "listed" "I", .fieldLink RX2 20 "FluxModesModel" "rates" "[I"] ++ wsX20)
def wsX2_within : List Cond := .code yX2_within cX2_within 4 (some .int) :: ([.fieldLink RX2 40 "FluxModesModel" "listed" "I", .fieldLink RX2 17 "FluxModesModel" "supports" "[I"] ++ wsX20)
def wsX2_running : List Cond := .code yX2_running cX2_running 6 (some .int) :: ([.fieldLink RX2 40 "FluxModesModel" "listed" "I", .methodLink RX2 66 yX2_rate, .instanceMethod yX2_rate, .selects RX2 yX2_rate yX2_rate, .initialized RX2, .code yX2_rate cX2_rate 3 (some .int), .fieldLink RX2 20 "FluxModesModel" "rates" "[I"] ++ wsX20)
def wsX2_shortest : List Cond := .code yX2_shortest cX2_shortest 6 (some .int) :: ([.fieldLink RX2 40 "FluxModesModel" "listed" "I", .fieldLink RX2 17 "FluxModesModel" "supports" "[I"] ++ wsX20)
def wsJ9_abs_067f4 : List Cond := .code yJ9_abs_067f4 cJ9_abs_067f4 2 (some .long) :: ([])
def wsJ9_max_7cf53 : List Cond := .code yJ9_max_7cf53 cJ9_max_7cf53 2 (some .int) :: ([])
def wsJ9_min_7cf53 : List Cond := .code yJ9_min_7cf53 cJ9_min_7cf53 2 (some .int) :: ([])
def wsL_law_r1 : List Cond := [Cond.classLink RL 7 RX1, Cond.instantiable RX1 9, Cond.initialized RX1, Cond.classLink RL 10 RX2, Cond.instantiable RX2 10, Cond.initialized RX2, Cond.methodLink RL 9 yX1_init, Cond.instanceMethod yX1_init, Cond.code yX1_init cX1_init 1 none, Cond.methodLink RX1 1 objectInit, Cond.instanceMethod objectInit, Cond.code objectInit ⟨#[0xb1]⟩ 1 none, Cond.arrayClass .int, Cond.fieldLink RX1 9 "FluxModes" "entries" "[I", Cond.fieldLink RX1 13 "FluxModes" "listedSupports" "[I", Cond.fieldLink RX1 16 "FluxModes" "listedRates" "[I", Cond.classLink RX1 19 RX0, Cond.instantiable RX0 4, Cond.initialized RX0, Cond.fieldLink RX1 22 "FluxModes" "reduction" "LFluxModes$Reduction;", Cond.arrayClass .long, Cond.fieldLink RX1 26 "FluxModes" "flow" "[J", Cond.fieldLink RX1 30 "FluxModes" "metabolites" "I", Cond.fieldLink RX1 34 "FluxModes" "reactions" "I"]
def wsL_law_r2 : List Cond := [Cond.fieldLink RX1 37 "FluxModes" "reversibleSet" "I", Cond.fieldLink RX1 40 "FluxModes" "listed" "I", Cond.methodLink RX1 21 yX0_init, Cond.instanceMethod yX0_init, Cond.code yX0_init cX0_init 1 none, Cond.methodLink RX0 3 objectInit, Cond.fieldLink RX0 9 "FluxModes$Reduction" "cells" "[J", Cond.fieldLink RX0 15 "FluxModes$Reduction" "rows" "I", Cond.fieldLink RX0 19 "FluxModes$Reduction" "columns" "I", Cond.fieldLink RX0 22 "FluxModes$Reduction" "pivot" "J", Cond.methodLink RL 12 yX2_init, Cond.instanceMethod yX2_init, Cond.code yX2_init cX2_init 1 none, Cond.methodLink RX2 1 objectInit, Cond.fieldLink RX2 7 "FluxModesModel" "net" "[I", Cond.arrayClass .boolean, Cond.fieldLink RX2 13 "FluxModesModel" "both" "[Z", Cond.fieldLink RX2 17 "FluxModesModel" "supports" "[I", Cond.fieldLink RX2 20 "FluxModesModel" "rates" "[I", Cond.fieldLink RX2 23 "FluxModesModel" "a" "[J", Cond.fieldLink RX2 27 "FluxModesModel" "leads" "[I", Cond.fieldLink RX2 30 "FluxModesModel" "line" "[J", Cond.fieldLink RX2 33 "FluxModesModel" "\x72" "I", Cond.methodLink RL 13 yX1_size]
def wsL_law_r3 : List Cond := [Cond.instanceMethod yX1_size, Cond.selects RX1 yX1_size yX1_size, Cond.code yX1_size cX1_size 3 (some .boolean), Cond.methodLink RX1 43 yJ7_fill_53178, Cond.static yJ7_fill_53178, Cond.initialized RJ7, Cond.code yJ7_fill_53178 cJ7_fill_53178 4 none, Cond.methodLink RL 17 yX2_size, Cond.instanceMethod yX2_size, Cond.selects RX2 yX2_size yX2_size, Cond.code yX2_size cX2_size 4 (some .boolean), Cond.fieldLink RX2 37 "FluxModesModel" "m" "I", Cond.fieldLink RX2 40 "FluxModesModel" "listed" "I", Cond.methodLink RL 18 yX1_enter, Cond.instanceMethod yX1_enter, Cond.selects RX1 yX1_enter yX1_enter, Cond.code yX1_enter cX1_enter 4 (some .boolean), Cond.methodLink RX1 49 yX1_hasEntry, Cond.instanceMethod yX1_hasEntry, Cond.selects RX1 yX1_hasEntry yX1_hasEntry, Cond.code yX1_hasEntry cX1_hasEntry 3 (some .boolean), Cond.methodLink RX1 53 yX1_hasReaction, Cond.instanceMethod yX1_hasReaction, Cond.selects RX1 yX1_hasReaction yX1_hasReaction]
def wsL_law_r4 : List Cond := [Cond.code yX1_hasReaction cX1_hasReaction 2 (some .boolean), Cond.methodLink RL 22 yX2_enter, Cond.instanceMethod yX2_enter, Cond.selects RX2 yX2_enter yX2_enter, Cond.code yX2_enter cX2_enter 4 (some .boolean), Cond.methodLink RX2 43 yX2_there, Cond.instanceMethod yX2_there, Cond.selects RX2 yX2_there yX2_there, Cond.code yX2_there cX2_there 3 (some .boolean), Cond.methodLink RL 23 yX1_entry, Cond.instanceMethod yX1_entry, Cond.selects RX1 yX1_entry yX1_entry, Cond.code yX1_entry cX1_entry 3 (some .int), Cond.methodLink RL 27 yX2_entry, Cond.instanceMethod yX2_entry, Cond.selects RX2 yX2_entry yX2_entry, Cond.code yX2_entry cX2_entry 3 (some .int), Cond.methodLink RL 28 yX1_reversible, Cond.instanceMethod yX1_reversible, Cond.selects RX1 yX1_reversible yX1_reversible, Cond.code yX1_reversible cX1_reversible 4 (some .boolean), Cond.methodLink RL 32 yX2_reversible, Cond.instanceMethod yX2_reversible, Cond.selects RX2 yX2_reversible yX2_reversible]
def wsL_law_r5 : List Cond := [Cond.code yX2_reversible cX2_reversible 3 (some .boolean), Cond.methodLink RL 33 yX1_reversibles, Cond.instanceMethod yX1_reversibles, Cond.selects RX1 yX1_reversibles yX1_reversibles, Cond.code yX1_reversibles cX1_reversibles 1 (some .int), Cond.methodLink RL 37 yX2_reversibles, Cond.instanceMethod yX2_reversibles, Cond.selects RX2 yX2_reversibles yX2_reversibles, Cond.code yX2_reversibles cX2_reversibles 3 (some .int), Cond.methodLink RL 38 yX1_solve, Cond.instanceMethod yX1_solve, Cond.selects RX1 yX1_solve yX1_solve, Cond.code yX1_solve cX1_solve 3 (some .int), Cond.methodLink RX1 57 yX1_listIfSupport, Cond.instanceMethod yX1_listIfSupport, Cond.selects RX1 yX1_listIfSupport yX1_listIfSupport, Cond.code yX1_listIfSupport cX1_listIfSupport 3 none, Cond.methodLink RX1 85 yX1_loadColumns, Cond.instanceMethod yX1_loadColumns, Cond.selects RX1 yX1_loadColumns yX1_loadColumns, Cond.code yX1_loadColumns cX1_loadColumns 3 none, Cond.methodLink RX1 102 yX0_begin, Cond.instanceMethod yX0_begin, Cond.selects RX0 yX0_begin yX0_begin]
def wsL_law_r6 : List Cond := [Cond.code yX0_begin cX0_begin 2 none, Cond.methodLink RX0 26 Lib.Math.min.name, Cond.static Lib.Math.min.name, Cond.initialized "java/lang/Math", Cond.code Lib.Math.min.name Lib.Math.min.code 2 (some .int), Cond.methodLink RX0 32 Lib.Math.max.name, Cond.static Lib.Math.max.name, Cond.code Lib.Math.max.name Lib.Math.max.code 2 (some .int), Cond.methodLink RX1 70 yX1_has, Cond.static yX1_has, Cond.code yX1_has cX1_has 2 (some .boolean), Cond.methodLink RX1 105 yX0_addColumn, Cond.instanceMethod yX0_addColumn, Cond.selects RX0 yX0_addColumn yX0_addColumn, Cond.code yX0_addColumn cX0_addColumn 4 none, Cond.methodLink RX1 88 yX0_leavesOneFullFlow, Cond.instanceMethod yX0_leavesOneFullFlow, Cond.selects RX0 yX0_leavesOneFullFlow yX0_leavesOneFullFlow, Cond.code yX0_leavesOneFullFlow cX0_leavesOneFullFlow 5 (some .boolean), Cond.methodLink RX0 35 yX0_clearColumn, Cond.instanceMethod yX0_clearColumn, Cond.selects RX0 yX0_clearColumn yX0_clearColumn, Cond.code yX0_clearColumn cX0_clearColumn 6 (some .boolean), Cond.methodLink RX0 39 yX0_pivotRow]
def wsL_law_r7 : List Cond := [Cond.instanceMethod yX0_pivotRow, Cond.selects RX0 yX0_pivotRow yX0_pivotRow, Cond.code yX0_pivotRow cX0_pivotRow 3 (some .int), Cond.methodLink RX0 43 yX0_swapRows, Cond.instanceMethod yX0_swapRows, Cond.selects RX0 yX0_swapRows yX0_swapRows, Cond.code yX0_swapRows cX0_swapRows 6 none, Cond.methodLink RX0 47 yX0_clearRow, Cond.instanceMethod yX0_clearRow, Cond.selects RX0 yX0_clearRow yX0_clearRow, Cond.code yX0_clearRow cX0_clearRow 12 none, Cond.static yX1_quotient, Cond.code yX1_quotient cX1_quotient 4 (some .long), Cond.methodLink RX1 92 yX1_readFlow, Cond.instanceMethod yX1_readFlow, Cond.selects RX1 yX1_readFlow yX1_readFlow, Cond.code yX1_readFlow cX1_readFlow 4 none, Cond.methodLink RX1 108 yX0_flowAt, Cond.instanceMethod yX0_flowAt, Cond.selects RX0 yX0_flowAt yX0_flowAt, Cond.code yX0_flowAt cX0_flowAt 3 (some .long), Cond.methodLink RX1 95 yX1_allowedDirection, Cond.instanceMethod yX1_allowedDirection, Cond.selects RX1 yX1_allowedDirection yX1_allowedDirection]
def wsL_law_r8 : List Cond := [Cond.code yX1_allowedDirection cX1_allowedDirection 6 (some .int), Cond.methodLink RX1 98 yX1_list, Cond.instanceMethod yX1_list, Cond.selects RX1 yX1_list yX1_list, Cond.code yX1_list cX1_list 8 none, Cond.methodLink RX1 112 yX1_commonDivisor, Cond.static yX1_commonDivisor, Cond.code yX1_commonDivisor cX1_commonDivisor 11 (some .long), Cond.methodLink RX1 119 Lib.MathLoose.abs_long.x, Cond.static Lib.MathLoose.abs_long.x, Cond.code Lib.MathLoose.abs_long.x Lib.MathLoose.abs_long.code 2 (some .long), Cond.methodLink RX1 116 yX1_quotient, Cond.methodLink RL 41 yX2_solve, Cond.instanceMethod yX2_solve, Cond.selects RX2 yX2_solve yX2_solve, Cond.code yX2_solve cX2_solve 2 (some .int), Cond.methodLink RX2 47 yX2_straight, Cond.instanceMethod yX2_straight, Cond.selects RX2 yX2_straight yX2_straight, Cond.code yX2_straight cX2_straight 8 (some .boolean), Cond.methodLink RX2 58 yX2_exchange, Cond.instanceMethod yX2_exchange, Cond.selects RX2 yX2_exchange yX2_exchange, Cond.code yX2_exchange cX2_exchange 6 none]
def wsL_law_r9 : List Cond := [Cond.methodLink RX2 62 yX2_clear, Cond.instanceMethod yX2_clear, Cond.selects RX2 yX2_clear yX2_clear, Cond.code yX2_clear cX2_clear 11 none, Cond.methodLink RX2 51 yX2_signed, Cond.instanceMethod yX2_signed, Cond.selects RX2 yX2_signed yX2_signed, Cond.code yX2_signed cX2_signed 6 (some .boolean), Cond.methodLink RX2 54 yX2_list, Cond.instanceMethod yX2_list, Cond.selects RX2 yX2_list yX2_list, Cond.code yX2_list cX2_list 9 none, Cond.methodLink RL 42 yX1_modes, Cond.instanceMethod yX1_modes, Cond.selects RX1 yX1_modes yX1_modes, Cond.code yX1_modes cX1_modes 1 (some .int), Cond.methodLink RL 45 yX2_modes, Cond.instanceMethod yX2_modes, Cond.selects RX2 yX2_modes yX2_modes, Cond.code yX2_modes cX2_modes 1 (some .int), Cond.methodLink RL 46 yX1_support, Cond.instanceMethod yX1_support, Cond.selects RX1 yX1_support yX1_support, Cond.code yX1_support cX1_support 2 (some .int)]
def wsL_law_r10 : List Cond := [Cond.methodLink RX1 61 yX1_isListed, Cond.instanceMethod yX1_isListed, Cond.selects RX1 yX1_isListed yX1_isListed, Cond.code yX1_isListed cX1_isListed 2 (some .boolean), Cond.methodLink RL 50 yX2_support, Cond.instanceMethod yX2_support, Cond.selects RX2 yX2_support yX2_support, Cond.code yX2_support cX2_support 2 (some .int), Cond.methodLink RL 51 yX1_rate, Cond.instanceMethod yX1_rate, Cond.selects RX1 yX1_rate yX1_rate, Cond.code yX1_rate cX1_rate 3 (some .int), Cond.methodLink RX1 64 yX1_isColumn, Cond.static yX1_isColumn, Cond.code yX1_isColumn cX1_isColumn 1 (some .boolean), Cond.methodLink RL 54 yX2_rate, Cond.instanceMethod yX2_rate, Cond.selects RX2 yX2_rate yX2_rate, Cond.code yX2_rate cX2_rate 3 (some .int), Cond.methodLink RL 55 yX1_within, Cond.instanceMethod yX1_within, Cond.selects RX1 yX1_within yX1_within, Cond.code yX1_within cX1_within 4 (some .int), Cond.methodLink RL 58 yX2_within]
def wsL_law_r11 : List Cond := [Cond.instanceMethod yX2_within, Cond.selects RX2 yX2_within yX2_within, Cond.code yX2_within cX2_within 4 (some .int), Cond.methodLink RL 59 yX1_running, Cond.instanceMethod yX1_running, Cond.selects RX1 yX1_running yX1_running, Cond.code yX1_running cX1_running 5 (some .int), Cond.methodLink RX1 67 yX1_runs, Cond.static yX1_runs, Cond.code yX1_runs cX1_runs 2 (some .boolean), Cond.methodLink RL 62 yX2_running, Cond.instanceMethod yX2_running, Cond.selects RX2 yX2_running yX2_running, Cond.code yX2_running cX2_running 6 (some .int), Cond.methodLink RX2 66 yX2_rate, Cond.methodLink RL 63 yX1_shortest, Cond.instanceMethod yX1_shortest, Cond.selects RX1 yX1_shortest yX1_shortest, Cond.code yX1_shortest cX1_shortest 5 (some .int), Cond.methodLink RX1 79 Lib.Math.min.name, Cond.methodLink RX1 73 yJ6_bitCount_0f7a4, Cond.static yJ6_bitCount_0f7a4, Cond.initialized RJ6, Cond.code yJ6_bitCount_0f7a4 cJ6_bitCount_0f7a4 1 (some .int)]
def wsL_law_r12 : List Cond := [Cond.constant RJ6 265 (1431655765), Cond.constant RJ6 266 (858993459), Cond.constant RJ6 267 (252645135), Cond.methodLink RL 66 yX2_shortest, Cond.instanceMethod yX2_shortest, Cond.selects RX2 yX2_shortest yX2_shortest, Cond.code yX2_shortest cX2_shortest 6 (some .int)]
def wsL_law : List Cond := (wsL_law_r1 ++ (wsL_law_r2 ++ (wsL_law_r3 ++ (wsL_law_r4 ++ (wsL_law_r5 ++ (wsL_law_r6 ++ (wsL_law_r7 ++ (wsL_law_r8 ++ (wsL_law_r9 ++ (wsL_law_r10 ++ (wsL_law_r11 ++ wsL_law_r12))))))))))) ++ wsX10 ++ wsX20 ++ wsX00 ++ ([] : List Cond)
set_option maxRecDepth 20000 in
theorem wsL_law_in : ∀ w ∈ wsL_law, w ∈ lw_tbl := fun w h => (goodIn_p wsL_law [29, 32, 37, 233, 85, 88, 270, 92, 96, 100, 274, 278, 104, 282, 108, 286, 112, 290, 116, 120, 124, 128, 131, 134, 137, 141, 145, 149, 153, 157, 161, 164, 168, 172, 176, 180, 183, 186, 294, 298, 302, 306, 310, 314, 191, 318, 195, 199, 322, 203, 206, 326, 210, 330, 214, 217, 334, 221, 224, 339] (by decide +kernel) (by decide +kernel) w h).1
theorem inlX0 : ∀ w ∈ wsX00, w ∈ wsL_law := fun _ h => List.mem_append_left _ (List.mem_append_right _ h)
theorem inX0 : ∀ w ∈ wsX00, w ∈ lw_tbl := fun w h => wsL_law_in w (inlX0 w h)
theorem inlX1 : ∀ w ∈ wsX10, w ∈ wsL_law := fun _ h => List.mem_append_left _ (List.mem_append_left _ (List.mem_append_left _ (List.mem_append_right _ h)))
theorem inX1 : ∀ w ∈ wsX10, w ∈ lw_tbl := fun w h => wsL_law_in w (inlX1 w h)
theorem inlX2 : ∀ w ∈ wsX20, w ∈ wsL_law := fun _ h => List.mem_append_left _ (List.mem_append_left _ (List.mem_append_right _ h))
theorem inX2 : ∀ w ∈ wsX20, w ∈ lw_tbl := fun w h => wsL_law_in w (inlX2 w h)
theorem inJ6 : ∀ w ∈ wsJ60, w ∈ lw_tbl := by decide +kernel
theorem inJ9 : ∀ w ∈ wsJ90, w ∈ lw_tbl := by decide +kernel
theorem inJ7 : ∀ w ∈ wsJ70, w ∈ lw_tbl := by decide +kernel
theorem dX0_init_0 : decode cX0_init 0 = .ok (.aload_n 0, 1) := by decide +kernel
theorem dX0_init_1 : decode cX0_init 1 = .ok (.invokespecial 3, 3) := by decide +kernel
theorem dX0_init_4 : decode cX0_init 4 = .ok (.aload_n 0, 1) := by decide +kernel
theorem dX0_init_5 : decode cX0_init 5 = .ok (.bipush 48, 2) := by decide +kernel
theorem dX0_init_7 : decode cX0_init 7 = .ok (.newarray .long, 2) := by decide +kernel
theorem dX0_init_9 : decode cX0_init 9 = .ok (.putfield 9, 3) := by decide +kernel
theorem dX0_init_12 : decode cX0_init 12 = .ok (.aload_n 0, 1) := by decide +kernel
theorem dX0_init_13 : decode cX0_init 13 = .ok (.iconst 0, 1) := by decide +kernel
theorem dX0_init_14 : decode cX0_init 14 = .ok (.putfield 15, 3) := by decide +kernel
theorem dX0_init_17 : decode cX0_init 17 = .ok (.aload_n 0, 1) := by decide +kernel
theorem dX0_init_18 : decode cX0_init 18 = .ok (.iconst 0, 1) := by decide +kernel
theorem dX0_init_19 : decode cX0_init 19 = .ok (.putfield 19, 3) := by decide +kernel
theorem dX0_init_22 : decode cX0_init 22 = .ok (.aload_n 0, 1) := by decide +kernel
theorem dX0_init_23 : decode cX0_init 23 = .ok (.lconst 1, 1) := by decide +kernel
theorem dX0_init_24 : decode cX0_init 24 = .ok (.putfield 22, 3) := by decide +kernel
theorem dX0_init_27 : decode cX0_init 27 = .ok (.return_, 1) := by decide +kernel
theorem dX0_begin_0 : decode cX0_begin 0 = .ok (.aload_n 0, 1) := by decide +kernel
theorem dX0_begin_1 : decode cX0_begin 1 = .ok (.iconst 0, 1) := by decide +kernel
theorem dX0_begin_2 : decode cX0_begin 2 = .ok (.iload_n 1, 1) := by decide +kernel
theorem dX0_begin_3 : decode cX0_begin 3 = .ok (.bipush 6, 2) := by decide +kernel
theorem dX0_begin_5 : decode cX0_begin 5 = .ok (.invokestatic 26, 3) := by decide +kernel
theorem dX0_begin_8 : decode cX0_begin 8 = .ok (.invokestatic 32, 3) := by decide +kernel
theorem dX0_begin_11 : decode cX0_begin 11 = .ok (.putfield 15, 3) := by decide +kernel
theorem dX0_begin_14 : decode cX0_begin 14 = .ok (.aload_n 0, 1) := by decide +kernel
theorem dX0_begin_15 : decode cX0_begin 15 = .ok (.iconst 0, 1) := by decide +kernel
theorem dX0_begin_16 : decode cX0_begin 16 = .ok (.putfield 19, 3) := by decide +kernel
theorem dX0_begin_19 : decode cX0_begin 19 = .ok (.aload_n 0, 1) := by decide +kernel
theorem dX0_begin_20 : decode cX0_begin 20 = .ok (.lconst 1, 1) := by decide +kernel
theorem dX0_begin_21 : decode cX0_begin 21 = .ok (.putfield 22, 3) := by decide +kernel
theorem dX0_begin_24 : decode cX0_begin 24 = .ok (.return_, 1) := by decide +kernel
theorem dX0_addColumn_0 : decode cX0_addColumn 0 = .ok (.aload_n 0, 1) := by decide +kernel
theorem dX0_addColumn_1 : decode cX0_addColumn 1 = .ok (.getfield 19, 3) := by decide +kernel
theorem dX0_addColumn_4 : decode cX0_addColumn 4 = .ok (.bipush 8, 2) := by decide +kernel
theorem dX0_addColumn_6 : decode cX0_addColumn 6 = .ok (.if_icmp .lt 4, 3) := by decide +kernel
theorem dX0_addColumn_9 : decode cX0_addColumn 9 = .ok (.return_, 1) := by decide +kernel
theorem dX0_addColumn_10 : decode cX0_addColumn 10 = .ok (.iconst 0, 1) := by decide +kernel
theorem dX0_addColumn_11 : decode cX0_addColumn 11 = .ok (.istore_n 3, 1) := by decide +kernel
theorem dX0_addColumn_12 : decode cX0_addColumn 12 = .ok (.iload_n 3, 1) := by decide +kernel
theorem dX0_addColumn_13 : decode cX0_addColumn 13 = .ok (.aload_n 0, 1) := by decide +kernel
theorem dX0_addColumn_14 : decode cX0_addColumn 14 = .ok (.getfield 15, 3) := by decide +kernel
theorem dX0_addColumn_17 : decode cX0_addColumn 17 = .ok (.if_icmp .ge 32, 3) := by decide +kernel
theorem dX0_addColumn_20 : decode cX0_addColumn 20 = .ok (.aload_n 0, 1) := by decide +kernel
theorem dX0_addColumn_21 : decode cX0_addColumn 21 = .ok (.getfield 9, 3) := by decide +kernel
theorem dX0_addColumn_24 : decode cX0_addColumn 24 = .ok (.iload_n 3, 1) := by decide +kernel
theorem dX0_addColumn_25 : decode cX0_addColumn 25 = .ok (.bipush 8, 2) := by decide +kernel
theorem dX0_addColumn_27 : decode cX0_addColumn 27 = .ok (.imul, 1) := by decide +kernel
theorem dX0_addColumn_28 : decode cX0_addColumn 28 = .ok (.aload_n 0, 1) := by decide +kernel
theorem dX0_addColumn_29 : decode cX0_addColumn 29 = .ok (.getfield 19, 3) := by decide +kernel
theorem dX0_addColumn_32 : decode cX0_addColumn 32 = .ok (.iadd, 1) := by decide +kernel
theorem dX0_addColumn_33 : decode cX0_addColumn 33 = .ok (.aload_n 1, 1) := by decide +kernel
theorem dX0_addColumn_34 : decode cX0_addColumn 34 = .ok (.iload_n 3, 1) := by decide +kernel
theorem dX0_addColumn_35 : decode cX0_addColumn 35 = .ok (.bipush 8, 2) := by decide +kernel
theorem dX0_addColumn_37 : decode cX0_addColumn 37 = .ok (.imul, 1) := by decide +kernel
theorem dX0_addColumn_38 : decode cX0_addColumn 38 = .ok (.iload_n 2, 1) := by decide +kernel
theorem dX0_addColumn_39 : decode cX0_addColumn 39 = .ok (.iadd, 1) := by decide +kernel
theorem dX0_addColumn_40 : decode cX0_addColumn 40 = .ok (.iaload, 1) := by decide +kernel
theorem dX0_addColumn_41 : decode cX0_addColumn 41 = .ok (.i2l, 1) := by decide +kernel
theorem dX0_addColumn_42 : decode cX0_addColumn 42 = .ok (.lastore, 1) := by decide +kernel
theorem dX0_addColumn_43 : decode cX0_addColumn 43 = .ok (.iinc 3 1, 3) := by decide +kernel
theorem dX0_addColumn_46 : decode cX0_addColumn 46 = .ok (.goto (-34), 3) := by decide +kernel
theorem dX0_addColumn_49 : decode cX0_addColumn 49 = .ok (.aload_n 0, 1) := by decide +kernel
theorem dX0_addColumn_50 : decode cX0_addColumn 50 = .ok (.dup, 1) := by decide +kernel
theorem dX0_addColumn_51 : decode cX0_addColumn 51 = .ok (.getfield 19, 3) := by decide +kernel
theorem dX0_addColumn_54 : decode cX0_addColumn 54 = .ok (.iconst 1, 1) := by decide +kernel
theorem dX0_addColumn_55 : decode cX0_addColumn 55 = .ok (.iadd, 1) := by decide +kernel
theorem dX0_addColumn_56 : decode cX0_addColumn 56 = .ok (.putfield 19, 3) := by decide +kernel
theorem dX0_addColumn_59 : decode cX0_addColumn 59 = .ok (.return_, 1) := by decide +kernel
set_option maxRecDepth 20000 in
theorem ggX0_leavesOneFullFlow_X0_clearColumn : GoodIn wsX0_leavesOneFullFlow wsX0_clearColumn := goodIn_r _ [8, 3, 2, 9, 10, 11, 12, 7, 13, 14, 15, 16, 17, 1, 18, 19, 20, 21, 22, 23, 24, 25, 26, 27, 28] (by decide +kernel) (by decide +kernel)
set_option maxRecDepth 20000 in
theorem gX0_leavesOneFullFlow_X0_clearColumn : GoodIn wsX0_leavesOneFullFlow (wsV RX0 35 RX0 yX0_clearColumn wsX0_clearColumn) := goodIn_app (goodIn_of _ (by decide +kernel)) ggX0_leavesOneFullFlow_X0_clearColumn
theorem dX0_leavesOneFullFlow_0 : decode cX0_leavesOneFullFlow 0 = .ok (.aload_n 0, 1) := by decide +kernel
theorem dX0_leavesOneFullFlow_1 : decode cX0_leavesOneFullFlow 1 = .ok (.getfield 19, 3) := by decide +kernel
theorem dX0_leavesOneFullFlow_4 : decode cX0_leavesOneFullFlow 4 = .ok (.iconst 1, 1) := by decide +kernel
theorem dX0_leavesOneFullFlow_5 : decode cX0_leavesOneFullFlow 5 = .ok (.isub, 1) := by decide +kernel
theorem dX0_leavesOneFullFlow_6 : decode cX0_leavesOneFullFlow 6 = .ok (.istore_n 1, 1) := by decide +kernel
theorem dX0_leavesOneFullFlow_7 : decode cX0_leavesOneFullFlow 7 = .ok (.iload_n 1, 1) := by decide +kernel
theorem dX0_leavesOneFullFlow_8 : decode cX0_leavesOneFullFlow 8 = .ok (.ifCond .lt 11, 3) := by decide +kernel
theorem dX0_leavesOneFullFlow_11 : decode cX0_leavesOneFullFlow 11 = .ok (.iload_n 1, 1) := by decide +kernel
theorem dX0_leavesOneFullFlow_12 : decode cX0_leavesOneFullFlow 12 = .ok (.aload_n 0, 1) := by decide +kernel
theorem dX0_leavesOneFullFlow_13 : decode cX0_leavesOneFullFlow 13 = .ok (.getfield 15, 3) := by decide +kernel
theorem dX0_leavesOneFullFlow_16 : decode cX0_leavesOneFullFlow 16 = .ok (.if_icmp .le 5, 3) := by decide +kernel
theorem dX0_leavesOneFullFlow_19 : decode cX0_leavesOneFullFlow 19 = .ok (.iconst 0, 1) := by decide +kernel
theorem dX0_leavesOneFullFlow_20 : decode cX0_leavesOneFullFlow 20 = .ok (.ireturn, 1) := by decide +kernel
theorem dX0_leavesOneFullFlow_21 : decode cX0_leavesOneFullFlow 21 = .ok (.iconst 0, 1) := by decide +kernel
theorem dX0_leavesOneFullFlow_22 : decode cX0_leavesOneFullFlow 22 = .ok (.istore_n 2, 1) := by decide +kernel
theorem dX0_leavesOneFullFlow_23 : decode cX0_leavesOneFullFlow 23 = .ok (.iload_n 2, 1) := by decide +kernel
theorem dX0_leavesOneFullFlow_24 : decode cX0_leavesOneFullFlow 24 = .ok (.iload_n 1, 1) := by decide +kernel
theorem dX0_leavesOneFullFlow_25 : decode cX0_leavesOneFullFlow 25 = .ok (.if_icmp .ge 19, 3) := by decide +kernel
theorem dX0_leavesOneFullFlow_28 : decode cX0_leavesOneFullFlow 28 = .ok (.aload_n 0, 1) := by decide +kernel
theorem dX0_leavesOneFullFlow_29 : decode cX0_leavesOneFullFlow 29 = .ok (.iload_n 2, 1) := by decide +kernel
theorem dX0_leavesOneFullFlow_30 : decode cX0_leavesOneFullFlow 30 = .ok (.invokevirtual 35, 3) := by decide +kernel
theorem dX0_leavesOneFullFlow_33 : decode cX0_leavesOneFullFlow 33 = .ok (.ifCond .ne 5, 3) := by decide +kernel
theorem dX0_leavesOneFullFlow_36 : decode cX0_leavesOneFullFlow 36 = .ok (.iconst 0, 1) := by decide +kernel
theorem dX0_leavesOneFullFlow_37 : decode cX0_leavesOneFullFlow 37 = .ok (.ireturn, 1) := by decide +kernel
theorem dX0_leavesOneFullFlow_38 : decode cX0_leavesOneFullFlow 38 = .ok (.iinc 2 1, 3) := by decide +kernel
theorem dX0_leavesOneFullFlow_41 : decode cX0_leavesOneFullFlow 41 = .ok (.goto (-18), 3) := by decide +kernel
theorem dX0_leavesOneFullFlow_44 : decode cX0_leavesOneFullFlow 44 = .ok (.iconst 0, 1) := by decide +kernel
theorem dX0_leavesOneFullFlow_45 : decode cX0_leavesOneFullFlow 45 = .ok (.istore_n 2, 1) := by decide +kernel
theorem dX0_leavesOneFullFlow_46 : decode cX0_leavesOneFullFlow 46 = .ok (.iload_n 2, 1) := by decide +kernel
theorem dX0_leavesOneFullFlow_47 : decode cX0_leavesOneFullFlow 47 = .ok (.aload_n 0, 1) := by decide +kernel
theorem dX0_leavesOneFullFlow_48 : decode cX0_leavesOneFullFlow 48 = .ok (.getfield 15, 3) := by decide +kernel
theorem dX0_leavesOneFullFlow_51 : decode cX0_leavesOneFullFlow 51 = .ok (.if_icmp .ge 51, 3) := by decide +kernel
theorem dX0_leavesOneFullFlow_54 : decode cX0_leavesOneFullFlow 54 = .ok (.aload_n 0, 1) := by decide +kernel
theorem dX0_leavesOneFullFlow_55 : decode cX0_leavesOneFullFlow 55 = .ok (.getfield 9, 3) := by decide +kernel
theorem dX0_leavesOneFullFlow_58 : decode cX0_leavesOneFullFlow 58 = .ok (.iload_n 2, 1) := by decide +kernel
theorem dX0_leavesOneFullFlow_59 : decode cX0_leavesOneFullFlow 59 = .ok (.bipush 8, 2) := by decide +kernel
theorem dX0_leavesOneFullFlow_61 : decode cX0_leavesOneFullFlow 61 = .ok (.imul, 1) := by decide +kernel
theorem dX0_leavesOneFullFlow_62 : decode cX0_leavesOneFullFlow 62 = .ok (.iload_n 1, 1) := by decide +kernel
theorem dX0_leavesOneFullFlow_63 : decode cX0_leavesOneFullFlow 63 = .ok (.iadd, 1) := by decide +kernel
theorem dX0_leavesOneFullFlow_64 : decode cX0_leavesOneFullFlow 64 = .ok (.laload, 1) := by decide +kernel
theorem dX0_leavesOneFullFlow_65 : decode cX0_leavesOneFullFlow 65 = .ok (.lconst 0, 1) := by decide +kernel
theorem dX0_leavesOneFullFlow_66 : decode cX0_leavesOneFullFlow 66 = .ok (.lcmp, 1) := by decide +kernel
theorem dX0_leavesOneFullFlow_67 : decode cX0_leavesOneFullFlow 67 = .ok (.ifCond .ne 7, 3) := by decide +kernel
theorem dX0_leavesOneFullFlow_70 : decode cX0_leavesOneFullFlow 70 = .ok (.iconst 1, 1) := by decide +kernel
theorem dX0_leavesOneFullFlow_71 : decode cX0_leavesOneFullFlow 71 = .ok (.goto 4, 3) := by decide +kernel
theorem dX0_leavesOneFullFlow_74 : decode cX0_leavesOneFullFlow 74 = .ok (.iconst 0, 1) := by decide +kernel
theorem dX0_leavesOneFullFlow_75 : decode cX0_leavesOneFullFlow 75 = .ok (.istore_n 3, 1) := by decide +kernel
theorem dX0_leavesOneFullFlow_76 : decode cX0_leavesOneFullFlow 76 = .ok (.iload_n 2, 1) := by decide +kernel
theorem dX0_leavesOneFullFlow_77 : decode cX0_leavesOneFullFlow 77 = .ok (.iload_n 1, 1) := by decide +kernel
theorem dX0_leavesOneFullFlow_78 : decode cX0_leavesOneFullFlow 78 = .ok (.if_icmp .ge 7, 3) := by decide +kernel
theorem dX0_leavesOneFullFlow_81 : decode cX0_leavesOneFullFlow 81 = .ok (.iconst 1, 1) := by decide +kernel
theorem dX0_leavesOneFullFlow_82 : decode cX0_leavesOneFullFlow 82 = .ok (.goto 4, 3) := by decide +kernel
theorem dX0_leavesOneFullFlow_85 : decode cX0_leavesOneFullFlow 85 = .ok (.iconst 0, 1) := by decide +kernel
theorem dX0_leavesOneFullFlow_86 : decode cX0_leavesOneFullFlow 86 = .ok (.istore 4, 2) := by decide +kernel
theorem dX0_leavesOneFullFlow_88 : decode cX0_leavesOneFullFlow 88 = .ok (.iload_n 3, 1) := by decide +kernel
theorem dX0_leavesOneFullFlow_89 : decode cX0_leavesOneFullFlow 89 = .ok (.iload 4, 2) := by decide +kernel
theorem dX0_leavesOneFullFlow_91 : decode cX0_leavesOneFullFlow 91 = .ok (.if_icmp .ne 5, 3) := by decide +kernel
theorem dX0_leavesOneFullFlow_94 : decode cX0_leavesOneFullFlow 94 = .ok (.iconst 0, 1) := by decide +kernel
theorem dX0_leavesOneFullFlow_95 : decode cX0_leavesOneFullFlow 95 = .ok (.ireturn, 1) := by decide +kernel
theorem dX0_leavesOneFullFlow_96 : decode cX0_leavesOneFullFlow 96 = .ok (.iinc 2 1, 3) := by decide +kernel
theorem dX0_leavesOneFullFlow_99 : decode cX0_leavesOneFullFlow 99 = .ok (.goto (-53), 3) := by decide +kernel
theorem dX0_leavesOneFullFlow_102 : decode cX0_leavesOneFullFlow 102 = .ok (.iconst 1, 1) := by decide +kernel
theorem dX0_leavesOneFullFlow_103 : decode cX0_leavesOneFullFlow 103 = .ok (.ireturn, 1) := by decide +kernel
theorem dX0_flowAt_0 : decode cX0_flowAt 0 = .ok (.aload_n 0, 1) := by decide +kernel
theorem dX0_flowAt_1 : decode cX0_flowAt 1 = .ok (.getfield 19, 3) := by decide +kernel
theorem dX0_flowAt_4 : decode cX0_flowAt 4 = .ok (.iconst 1, 1) := by decide +kernel
theorem dX0_flowAt_5 : decode cX0_flowAt 5 = .ok (.isub, 1) := by decide +kernel
theorem dX0_flowAt_6 : decode cX0_flowAt 6 = .ok (.istore_n 2, 1) := by decide +kernel
theorem dX0_flowAt_7 : decode cX0_flowAt 7 = .ok (.iload_n 1, 1) := by decide +kernel
theorem dX0_flowAt_8 : decode cX0_flowAt 8 = .ok (.ifCond .lt 16, 3) := by decide +kernel
theorem dX0_flowAt_11 : decode cX0_flowAt 11 = .ok (.iload_n 1, 1) := by decide +kernel
theorem dX0_flowAt_12 : decode cX0_flowAt 12 = .ok (.iload_n 2, 1) := by decide +kernel
theorem dX0_flowAt_13 : decode cX0_flowAt 13 = .ok (.if_icmp .ge 11, 3) := by decide +kernel
theorem dX0_flowAt_16 : decode cX0_flowAt 16 = .ok (.iload_n 1, 1) := by decide +kernel
theorem dX0_flowAt_17 : decode cX0_flowAt 17 = .ok (.aload_n 0, 1) := by decide +kernel
theorem dX0_flowAt_18 : decode cX0_flowAt 18 = .ok (.getfield 15, 3) := by decide +kernel
theorem dX0_flowAt_21 : decode cX0_flowAt 21 = .ok (.if_icmp .lt 8, 3) := by decide +kernel
theorem dX0_flowAt_24 : decode cX0_flowAt 24 = .ok (.aload_n 0, 1) := by decide +kernel
theorem dX0_flowAt_25 : decode cX0_flowAt 25 = .ok (.getfield 22, 3) := by decide +kernel
theorem dX0_flowAt_28 : decode cX0_flowAt 28 = .ok (.lreturn, 1) := by decide +kernel
theorem dX0_flowAt_29 : decode cX0_flowAt 29 = .ok (.aload_n 0, 1) := by decide +kernel
theorem dX0_flowAt_30 : decode cX0_flowAt 30 = .ok (.getfield 9, 3) := by decide +kernel
theorem dX0_flowAt_33 : decode cX0_flowAt 33 = .ok (.iload_n 1, 1) := by decide +kernel
theorem dX0_flowAt_34 : decode cX0_flowAt 34 = .ok (.bipush 8, 2) := by decide +kernel
theorem dX0_flowAt_36 : decode cX0_flowAt 36 = .ok (.imul, 1) := by decide +kernel
theorem dX0_flowAt_37 : decode cX0_flowAt 37 = .ok (.iload_n 2, 1) := by decide +kernel
theorem dX0_flowAt_38 : decode cX0_flowAt 38 = .ok (.iadd, 1) := by decide +kernel
theorem dX0_flowAt_39 : decode cX0_flowAt 39 = .ok (.laload, 1) := by decide +kernel
theorem dX0_flowAt_40 : decode cX0_flowAt 40 = .ok (.lneg, 1) := by decide +kernel
theorem dX0_flowAt_41 : decode cX0_flowAt 41 = .ok (.lreturn, 1) := by decide +kernel
set_option maxRecDepth 20000 in
theorem ggX0_clearColumn_X0_pivotRow : GoodIn wsX0_clearColumn wsX0_pivotRow := goodIn_r _ [8, 2, 1, 21, 22, 23, 24] (by decide +kernel) (by decide +kernel)
set_option maxRecDepth 20000 in
theorem gX0_clearColumn_X0_pivotRow : GoodIn wsX0_clearColumn (wsV RX0 39 RX0 yX0_pivotRow wsX0_pivotRow) := goodIn_app (goodIn_of _ (by decide +kernel)) ggX0_clearColumn_X0_pivotRow
set_option maxRecDepth 20000 in
theorem ggX0_clearColumn_X0_swapRows : GoodIn wsX0_clearColumn wsX0_swapRows := goodIn_r _ [12, 13, 1, 21, 22, 23, 24] (by decide +kernel) (by decide +kernel)
set_option maxRecDepth 20000 in
theorem gX0_clearColumn_X0_swapRows : GoodIn wsX0_clearColumn (wsV RX0 43 RX0 yX0_swapRows wsX0_swapRows) := goodIn_app (goodIn_of _ (by decide +kernel)) ggX0_clearColumn_X0_swapRows
set_option maxRecDepth 20000 in
theorem ggX0_clearColumn_X0_clearRow : GoodIn wsX0_clearColumn wsX0_clearRow := goodIn_r _ [17, 1, 13, 3, 18, 19, 20, 21, 22, 23, 24] (by decide +kernel) (by decide +kernel)
set_option maxRecDepth 20000 in
theorem gX0_clearColumn_X0_clearRow : GoodIn wsX0_clearColumn (wsV RX0 47 RX0 yX0_clearRow wsX0_clearRow) := goodIn_app (goodIn_of _ (by decide +kernel)) ggX0_clearColumn_X0_clearRow
theorem dX0_clearColumn_0 : decode cX0_clearColumn 0 = .ok (.aload_n 0, 1) := by decide +kernel
theorem dX0_clearColumn_1 : decode cX0_clearColumn 1 = .ok (.iload_n 1, 1) := by decide +kernel
theorem dX0_clearColumn_2 : decode cX0_clearColumn 2 = .ok (.invokevirtual 39, 3) := by decide +kernel
theorem dX0_clearColumn_5 : decode cX0_clearColumn 5 = .ok (.istore_n 2, 1) := by decide +kernel
theorem dX0_clearColumn_6 : decode cX0_clearColumn 6 = .ok (.iload_n 2, 1) := by decide +kernel
theorem dX0_clearColumn_7 : decode cX0_clearColumn 7 = .ok (.ifCond .ge 5, 3) := by decide +kernel
theorem dX0_clearColumn_10 : decode cX0_clearColumn 10 = .ok (.iconst 0, 1) := by decide +kernel
theorem dX0_clearColumn_11 : decode cX0_clearColumn 11 = .ok (.ireturn, 1) := by decide +kernel
theorem dX0_clearColumn_12 : decode cX0_clearColumn 12 = .ok (.aload_n 0, 1) := by decide +kernel
theorem dX0_clearColumn_13 : decode cX0_clearColumn 13 = .ok (.iload_n 1, 1) := by decide +kernel
theorem dX0_clearColumn_14 : decode cX0_clearColumn 14 = .ok (.iload_n 2, 1) := by decide +kernel
theorem dX0_clearColumn_15 : decode cX0_clearColumn 15 = .ok (.invokevirtual 43, 3) := by decide +kernel
theorem dX0_clearColumn_18 : decode cX0_clearColumn 18 = .ok (.aload_n 0, 1) := by decide +kernel
theorem dX0_clearColumn_19 : decode cX0_clearColumn 19 = .ok (.getfield 9, 3) := by decide +kernel
theorem dX0_clearColumn_22 : decode cX0_clearColumn 22 = .ok (.iload_n 1, 1) := by decide +kernel
theorem dX0_clearColumn_23 : decode cX0_clearColumn 23 = .ok (.bipush 8, 2) := by decide +kernel
theorem dX0_clearColumn_25 : decode cX0_clearColumn 25 = .ok (.imul, 1) := by decide +kernel
theorem dX0_clearColumn_26 : decode cX0_clearColumn 26 = .ok (.iload_n 1, 1) := by decide +kernel
theorem dX0_clearColumn_27 : decode cX0_clearColumn 27 = .ok (.iadd, 1) := by decide +kernel
theorem dX0_clearColumn_28 : decode cX0_clearColumn 28 = .ok (.laload, 1) := by decide +kernel
theorem dX0_clearColumn_29 : decode cX0_clearColumn 29 = .ok (.lstore_n 3, 1) := by decide +kernel
theorem dX0_clearColumn_30 : decode cX0_clearColumn 30 = .ok (.iconst 0, 1) := by decide +kernel
theorem dX0_clearColumn_31 : decode cX0_clearColumn 31 = .ok (.istore 5, 2) := by decide +kernel
theorem dX0_clearColumn_33 : decode cX0_clearColumn 33 = .ok (.iload 5, 2) := by decide +kernel
theorem dX0_clearColumn_35 : decode cX0_clearColumn 35 = .ok (.aload_n 0, 1) := by decide +kernel
theorem dX0_clearColumn_36 : decode cX0_clearColumn 36 = .ok (.getfield 15, 3) := by decide +kernel
theorem dX0_clearColumn_39 : decode cX0_clearColumn 39 = .ok (.if_icmp .ge 23, 3) := by decide +kernel
theorem dX0_clearColumn_42 : decode cX0_clearColumn 42 = .ok (.iload 5, 2) := by decide +kernel
theorem dX0_clearColumn_44 : decode cX0_clearColumn 44 = .ok (.iload_n 1, 1) := by decide +kernel
theorem dX0_clearColumn_45 : decode cX0_clearColumn 45 = .ok (.if_icmp .eq 11, 3) := by decide +kernel
theorem dX0_clearColumn_48 : decode cX0_clearColumn 48 = .ok (.aload_n 0, 1) := by decide +kernel
theorem dX0_clearColumn_49 : decode cX0_clearColumn 49 = .ok (.iload 5, 2) := by decide +kernel
theorem dX0_clearColumn_51 : decode cX0_clearColumn 51 = .ok (.iload_n 1, 1) := by decide +kernel
theorem dX0_clearColumn_52 : decode cX0_clearColumn 52 = .ok (.lload_n 3, 1) := by decide +kernel
theorem dX0_clearColumn_53 : decode cX0_clearColumn 53 = .ok (.invokevirtual 47, 3) := by decide +kernel
theorem dX0_clearColumn_56 : decode cX0_clearColumn 56 = .ok (.iinc 5 1, 3) := by decide +kernel
theorem dX0_clearColumn_59 : decode cX0_clearColumn 59 = .ok (.goto (-26), 3) := by decide +kernel
theorem dX0_clearColumn_62 : decode cX0_clearColumn 62 = .ok (.aload_n 0, 1) := by decide +kernel
theorem dX0_clearColumn_63 : decode cX0_clearColumn 63 = .ok (.lload_n 3, 1) := by decide +kernel
theorem dX0_clearColumn_64 : decode cX0_clearColumn 64 = .ok (.putfield 22, 3) := by decide +kernel
theorem dX0_clearColumn_67 : decode cX0_clearColumn 67 = .ok (.iconst 1, 1) := by decide +kernel
theorem dX0_clearColumn_68 : decode cX0_clearColumn 68 = .ok (.ireturn, 1) := by decide +kernel
theorem dX0_pivotRow_0 : decode cX0_pivotRow 0 = .ok (.iload_n 1, 1) := by decide +kernel
theorem dX0_pivotRow_1 : decode cX0_pivotRow 1 = .ok (.istore_n 2, 1) := by decide +kernel
theorem dX0_pivotRow_2 : decode cX0_pivotRow 2 = .ok (.iload_n 2, 1) := by decide +kernel
theorem dX0_pivotRow_3 : decode cX0_pivotRow 3 = .ok (.aload_n 0, 1) := by decide +kernel
theorem dX0_pivotRow_4 : decode cX0_pivotRow 4 = .ok (.getfield 15, 3) := by decide +kernel
theorem dX0_pivotRow_7 : decode cX0_pivotRow 7 = .ok (.if_icmp .ge 27, 3) := by decide +kernel
theorem dX0_pivotRow_10 : decode cX0_pivotRow 10 = .ok (.aload_n 0, 1) := by decide +kernel
theorem dX0_pivotRow_11 : decode cX0_pivotRow 11 = .ok (.getfield 9, 3) := by decide +kernel
theorem dX0_pivotRow_14 : decode cX0_pivotRow 14 = .ok (.iload_n 2, 1) := by decide +kernel
theorem dX0_pivotRow_15 : decode cX0_pivotRow 15 = .ok (.bipush 8, 2) := by decide +kernel
theorem dX0_pivotRow_17 : decode cX0_pivotRow 17 = .ok (.imul, 1) := by decide +kernel
theorem dX0_pivotRow_18 : decode cX0_pivotRow 18 = .ok (.iload_n 1, 1) := by decide +kernel
theorem dX0_pivotRow_19 : decode cX0_pivotRow 19 = .ok (.iadd, 1) := by decide +kernel
theorem dX0_pivotRow_20 : decode cX0_pivotRow 20 = .ok (.laload, 1) := by decide +kernel
theorem dX0_pivotRow_21 : decode cX0_pivotRow 21 = .ok (.lconst 0, 1) := by decide +kernel
theorem dX0_pivotRow_22 : decode cX0_pivotRow 22 = .ok (.lcmp, 1) := by decide +kernel
theorem dX0_pivotRow_23 : decode cX0_pivotRow 23 = .ok (.ifCond .eq 5, 3) := by decide +kernel
theorem dX0_pivotRow_26 : decode cX0_pivotRow 26 = .ok (.iload_n 2, 1) := by decide +kernel
theorem dX0_pivotRow_27 : decode cX0_pivotRow 27 = .ok (.ireturn, 1) := by decide +kernel
theorem dX0_pivotRow_28 : decode cX0_pivotRow 28 = .ok (.iinc 2 1, 3) := by decide +kernel
theorem dX0_pivotRow_31 : decode cX0_pivotRow 31 = .ok (.goto (-29), 3) := by decide +kernel
theorem dX0_pivotRow_34 : decode cX0_pivotRow 34 = .ok (.iconst (-1), 1) := by decide +kernel
theorem dX0_pivotRow_35 : decode cX0_pivotRow 35 = .ok (.ireturn, 1) := by decide +kernel
theorem dX0_swapRows_0 : decode cX0_swapRows 0 = .ok (.iconst 0, 1) := by decide +kernel
theorem dX0_swapRows_1 : decode cX0_swapRows 1 = .ok (.istore_n 3, 1) := by decide +kernel
theorem dX0_swapRows_2 : decode cX0_swapRows 2 = .ok (.iload_n 3, 1) := by decide +kernel
theorem dX0_swapRows_3 : decode cX0_swapRows 3 = .ok (.aload_n 0, 1) := by decide +kernel
theorem dX0_swapRows_4 : decode cX0_swapRows 4 = .ok (.getfield 19, 3) := by decide +kernel
theorem dX0_swapRows_7 : decode cX0_swapRows 7 = .ok (.if_icmp .ge 57, 3) := by decide +kernel
theorem dX0_swapRows_10 : decode cX0_swapRows 10 = .ok (.aload_n 0, 1) := by decide +kernel
theorem dX0_swapRows_11 : decode cX0_swapRows 11 = .ok (.getfield 9, 3) := by decide +kernel
theorem dX0_swapRows_14 : decode cX0_swapRows 14 = .ok (.iload_n 1, 1) := by decide +kernel
theorem dX0_swapRows_15 : decode cX0_swapRows 15 = .ok (.bipush 8, 2) := by decide +kernel
theorem dX0_swapRows_17 : decode cX0_swapRows 17 = .ok (.imul, 1) := by decide +kernel
theorem dX0_swapRows_18 : decode cX0_swapRows 18 = .ok (.iload_n 3, 1) := by decide +kernel
theorem dX0_swapRows_19 : decode cX0_swapRows 19 = .ok (.iadd, 1) := by decide +kernel
theorem dX0_swapRows_20 : decode cX0_swapRows 20 = .ok (.laload, 1) := by decide +kernel
theorem dX0_swapRows_21 : decode cX0_swapRows 21 = .ok (.lstore 4, 2) := by decide +kernel
theorem dX0_swapRows_23 : decode cX0_swapRows 23 = .ok (.aload_n 0, 1) := by decide +kernel
theorem dX0_swapRows_24 : decode cX0_swapRows 24 = .ok (.getfield 9, 3) := by decide +kernel
theorem dX0_swapRows_27 : decode cX0_swapRows 27 = .ok (.iload_n 1, 1) := by decide +kernel
theorem dX0_swapRows_28 : decode cX0_swapRows 28 = .ok (.bipush 8, 2) := by decide +kernel
theorem dX0_swapRows_30 : decode cX0_swapRows 30 = .ok (.imul, 1) := by decide +kernel
theorem dX0_swapRows_31 : decode cX0_swapRows 31 = .ok (.iload_n 3, 1) := by decide +kernel
theorem dX0_swapRows_32 : decode cX0_swapRows 32 = .ok (.iadd, 1) := by decide +kernel
theorem dX0_swapRows_33 : decode cX0_swapRows 33 = .ok (.aload_n 0, 1) := by decide +kernel
theorem dX0_swapRows_34 : decode cX0_swapRows 34 = .ok (.getfield 9, 3) := by decide +kernel
theorem dX0_swapRows_37 : decode cX0_swapRows 37 = .ok (.iload_n 2, 1) := by decide +kernel
theorem dX0_swapRows_38 : decode cX0_swapRows 38 = .ok (.bipush 8, 2) := by decide +kernel
theorem dX0_swapRows_40 : decode cX0_swapRows 40 = .ok (.imul, 1) := by decide +kernel
theorem dX0_swapRows_41 : decode cX0_swapRows 41 = .ok (.iload_n 3, 1) := by decide +kernel
theorem dX0_swapRows_42 : decode cX0_swapRows 42 = .ok (.iadd, 1) := by decide +kernel
theorem dX0_swapRows_43 : decode cX0_swapRows 43 = .ok (.laload, 1) := by decide +kernel
theorem dX0_swapRows_44 : decode cX0_swapRows 44 = .ok (.lastore, 1) := by decide +kernel
theorem dX0_swapRows_45 : decode cX0_swapRows 45 = .ok (.aload_n 0, 1) := by decide +kernel
theorem dX0_swapRows_46 : decode cX0_swapRows 46 = .ok (.getfield 9, 3) := by decide +kernel
theorem dX0_swapRows_49 : decode cX0_swapRows 49 = .ok (.iload_n 2, 1) := by decide +kernel
theorem dX0_swapRows_50 : decode cX0_swapRows 50 = .ok (.bipush 8, 2) := by decide +kernel
theorem dX0_swapRows_52 : decode cX0_swapRows 52 = .ok (.imul, 1) := by decide +kernel
theorem dX0_swapRows_53 : decode cX0_swapRows 53 = .ok (.iload_n 3, 1) := by decide +kernel
theorem dX0_swapRows_54 : decode cX0_swapRows 54 = .ok (.iadd, 1) := by decide +kernel
theorem dX0_swapRows_55 : decode cX0_swapRows 55 = .ok (.lload 4, 2) := by decide +kernel
theorem dX0_swapRows_57 : decode cX0_swapRows 57 = .ok (.lastore, 1) := by decide +kernel
theorem dX0_swapRows_58 : decode cX0_swapRows 58 = .ok (.iinc 3 1, 3) := by decide +kernel
theorem dX0_swapRows_61 : decode cX0_swapRows 61 = .ok (.goto (-59), 3) := by decide +kernel
theorem dX0_swapRows_64 : decode cX0_swapRows 64 = .ok (.return_, 1) := by decide +kernel
set_option maxRecDepth 20000 in
theorem ggX0_clearRow_X1_quotient : GoodIn wsX0_clearRow wsX1_quotient := goodIn_r _ [6] (by decide +kernel) (by decide +kernel)
set_option maxRecDepth 20000 in
theorem gX0_clearRow_X1_quotient_n51 : GoodIn wsX0_clearRow (wsX1_quotient) := ggX0_clearRow_X1_quotient
theorem dX0_clearRow_0 : decode cX0_clearRow 0 = .ok (.iload_n 1, 1) := by decide +kernel
theorem dX0_clearRow_1 : decode cX0_clearRow 1 = .ok (.bipush 8, 2) := by decide +kernel
theorem dX0_clearRow_3 : decode cX0_clearRow 3 = .ok (.imul, 1) := by decide +kernel
theorem dX0_clearRow_4 : decode cX0_clearRow 4 = .ok (.istore 5, 2) := by decide +kernel
theorem dX0_clearRow_6 : decode cX0_clearRow 6 = .ok (.iload_n 2, 1) := by decide +kernel
theorem dX0_clearRow_7 : decode cX0_clearRow 7 = .ok (.bipush 8, 2) := by decide +kernel
theorem dX0_clearRow_9 : decode cX0_clearRow 9 = .ok (.imul, 1) := by decide +kernel
theorem dX0_clearRow_10 : decode cX0_clearRow 10 = .ok (.istore 6, 2) := by decide +kernel
theorem dX0_clearRow_12 : decode cX0_clearRow 12 = .ok (.aload_n 0, 1) := by decide +kernel
theorem dX0_clearRow_13 : decode cX0_clearRow 13 = .ok (.getfield 9, 3) := by decide +kernel
theorem dX0_clearRow_16 : decode cX0_clearRow 16 = .ok (.iload 5, 2) := by decide +kernel
theorem dX0_clearRow_18 : decode cX0_clearRow 18 = .ok (.iload_n 2, 1) := by decide +kernel
theorem dX0_clearRow_19 : decode cX0_clearRow 19 = .ok (.iadd, 1) := by decide +kernel
theorem dX0_clearRow_20 : decode cX0_clearRow 20 = .ok (.laload, 1) := by decide +kernel
theorem dX0_clearRow_21 : decode cX0_clearRow 21 = .ok (.lstore 7, 2) := by decide +kernel
theorem dX0_clearRow_23 : decode cX0_clearRow 23 = .ok (.iload_n 2, 1) := by decide +kernel
theorem dX0_clearRow_24 : decode cX0_clearRow 24 = .ok (.iconst 1, 1) := by decide +kernel
theorem dX0_clearRow_25 : decode cX0_clearRow 25 = .ok (.iadd, 1) := by decide +kernel
theorem dX0_clearRow_26 : decode cX0_clearRow 26 = .ok (.istore 9, 2) := by decide +kernel
theorem dX0_clearRow_28 : decode cX0_clearRow 28 = .ok (.iload 9, 2) := by decide +kernel
theorem dX0_clearRow_30 : decode cX0_clearRow 30 = .ok (.aload_n 0, 1) := by decide +kernel
theorem dX0_clearRow_31 : decode cX0_clearRow 31 = .ok (.getfield 19, 3) := by decide +kernel
theorem dX0_clearRow_34 : decode cX0_clearRow 34 = .ok (.if_icmp .ge 56, 3) := by decide +kernel
theorem dX0_clearRow_37 : decode cX0_clearRow 37 = .ok (.lload_n 3, 1) := by decide +kernel
theorem dX0_clearRow_38 : decode cX0_clearRow 38 = .ok (.aload_n 0, 1) := by decide +kernel
theorem dX0_clearRow_39 : decode cX0_clearRow 39 = .ok (.getfield 9, 3) := by decide +kernel
theorem dX0_clearRow_42 : decode cX0_clearRow 42 = .ok (.iload 5, 2) := by decide +kernel
theorem dX0_clearRow_44 : decode cX0_clearRow 44 = .ok (.iload 9, 2) := by decide +kernel
theorem dX0_clearRow_46 : decode cX0_clearRow 46 = .ok (.iadd, 1) := by decide +kernel
theorem dX0_clearRow_47 : decode cX0_clearRow 47 = .ok (.laload, 1) := by decide +kernel
theorem dX0_clearRow_48 : decode cX0_clearRow 48 = .ok (.lmul, 1) := by decide +kernel
theorem dX0_clearRow_49 : decode cX0_clearRow 49 = .ok (.lload 7, 2) := by decide +kernel
theorem dX0_clearRow_51 : decode cX0_clearRow 51 = .ok (.aload_n 0, 1) := by decide +kernel
theorem dX0_clearRow_52 : decode cX0_clearRow 52 = .ok (.getfield 9, 3) := by decide +kernel
theorem dX0_clearRow_55 : decode cX0_clearRow 55 = .ok (.iload 6, 2) := by decide +kernel
theorem dX0_clearRow_57 : decode cX0_clearRow 57 = .ok (.iload 9, 2) := by decide +kernel
theorem dX0_clearRow_59 : decode cX0_clearRow 59 = .ok (.iadd, 1) := by decide +kernel
theorem dX0_clearRow_60 : decode cX0_clearRow 60 = .ok (.laload, 1) := by decide +kernel
theorem dX0_clearRow_61 : decode cX0_clearRow 61 = .ok (.lmul, 1) := by decide +kernel
theorem dX0_clearRow_62 : decode cX0_clearRow 62 = .ok (.lsub, 1) := by decide +kernel
theorem dX0_clearRow_63 : decode cX0_clearRow 63 = .ok (.lstore 10, 2) := by decide +kernel
theorem dX0_clearRow_65 : decode cX0_clearRow 65 = .ok (.aload_n 0, 1) := by decide +kernel
theorem dX0_clearRow_66 : decode cX0_clearRow 66 = .ok (.getfield 9, 3) := by decide +kernel
theorem dX0_clearRow_69 : decode cX0_clearRow 69 = .ok (.iload 5, 2) := by decide +kernel
theorem dX0_clearRow_71 : decode cX0_clearRow 71 = .ok (.iload 9, 2) := by decide +kernel
theorem dX0_clearRow_73 : decode cX0_clearRow 73 = .ok (.iadd, 1) := by decide +kernel
theorem dX0_clearRow_74 : decode cX0_clearRow 74 = .ok (.lload 10, 2) := by decide +kernel
theorem dX0_clearRow_76 : decode cX0_clearRow 76 = .ok (.aload_n 0, 1) := by decide +kernel
theorem dX0_clearRow_77 : decode cX0_clearRow 77 = .ok (.getfield 22, 3) := by decide +kernel
theorem dX0_clearRow_80 : decode cX0_clearRow 80 = .ok (.invokestatic 51, 3) := by decide +kernel
theorem dX0_clearRow_83 : decode cX0_clearRow 83 = .ok (.lastore, 1) := by decide +kernel
theorem dX0_clearRow_84 : decode cX0_clearRow 84 = .ok (.iinc 9 1, 3) := by decide +kernel
theorem dX0_clearRow_87 : decode cX0_clearRow 87 = .ok (.goto (-59), 3) := by decide +kernel
theorem dX0_clearRow_90 : decode cX0_clearRow 90 = .ok (.return_, 1) := by decide +kernel
set_option maxRecDepth 20000 in
theorem ggX1_init_X0_init : GoodIn wsX1_init wsX0_init := goodIn_r _ [20, 21, 2, 3, 12, 22, 23, 24, 25, 35, 36, 37, 38] (by decide +kernel) (by decide +kernel)
set_option maxRecDepth 20000 in
theorem gX1_init_X0_init : GoodIn wsX1_init (wsX0_init) := ggX1_init_X0_init
theorem dX1_init_0 : decode cX1_init 0 = .ok (.aload_n 0, 1) := by decide +kernel
theorem dX1_init_1 : decode cX1_init 1 = .ok (.invokespecial 1, 3) := by decide +kernel
theorem dX1_init_4 : decode cX1_init 4 = .ok (.aload_n 0, 1) := by decide +kernel
theorem dX1_init_5 : decode cX1_init 5 = .ok (.bipush 48, 2) := by decide +kernel
theorem dX1_init_7 : decode cX1_init 7 = .ok (.newarray .int, 2) := by decide +kernel
theorem dX1_init_9 : decode cX1_init 9 = .ok (.putfield 9, 3) := by decide +kernel
theorem dX1_init_12 : decode cX1_init 12 = .ok (.aload_n 0, 1) := by decide +kernel
theorem dX1_init_13 : decode cX1_init 13 = .ok (.bipush 70, 2) := by decide +kernel
theorem dX1_init_15 : decode cX1_init 15 = .ok (.newarray .int, 2) := by decide +kernel
theorem dX1_init_17 : decode cX1_init 17 = .ok (.putfield 13, 3) := by decide +kernel
theorem dX1_init_20 : decode cX1_init 20 = .ok (.aload_n 0, 1) := by decide +kernel
theorem dX1_init_21 : decode cX1_init 21 = .ok (.sipush 560, 3) := by decide +kernel
theorem dX1_init_24 : decode cX1_init 24 = .ok (.newarray .int, 2) := by decide +kernel
theorem dX1_init_26 : decode cX1_init 26 = .ok (.putfield 16, 3) := by decide +kernel
theorem dX1_init_29 : decode cX1_init 29 = .ok (.aload_n 0, 1) := by decide +kernel
theorem dX1_init_30 : decode cX1_init 30 = .ok (.new 19, 3) := by decide +kernel
theorem dX1_init_33 : decode cX1_init 33 = .ok (.dup, 1) := by decide +kernel
theorem dX1_init_34 : decode cX1_init 34 = .ok (.invokespecial 21, 3) := by decide +kernel
theorem dX1_init_37 : decode cX1_init 37 = .ok (.putfield 22, 3) := by decide +kernel
theorem dX1_init_40 : decode cX1_init 40 = .ok (.aload_n 0, 1) := by decide +kernel
theorem dX1_init_41 : decode cX1_init 41 = .ok (.bipush 8, 2) := by decide +kernel
theorem dX1_init_43 : decode cX1_init 43 = .ok (.newarray .long, 2) := by decide +kernel
theorem dX1_init_45 : decode cX1_init 45 = .ok (.putfield 26, 3) := by decide +kernel
theorem dX1_init_48 : decode cX1_init 48 = .ok (.aload_n 0, 1) := by decide +kernel
theorem dX1_init_49 : decode cX1_init 49 = .ok (.iconst 0, 1) := by decide +kernel
theorem dX1_init_50 : decode cX1_init 50 = .ok (.putfield 30, 3) := by decide +kernel
theorem dX1_init_53 : decode cX1_init 53 = .ok (.aload_n 0, 1) := by decide +kernel
theorem dX1_init_54 : decode cX1_init 54 = .ok (.iconst 1, 1) := by decide +kernel
theorem dX1_init_55 : decode cX1_init 55 = .ok (.putfield 34, 3) := by decide +kernel
theorem dX1_init_58 : decode cX1_init 58 = .ok (.aload_n 0, 1) := by decide +kernel
theorem dX1_init_59 : decode cX1_init 59 = .ok (.iconst 0, 1) := by decide +kernel
theorem dX1_init_60 : decode cX1_init 60 = .ok (.putfield 37, 3) := by decide +kernel
theorem dX1_init_63 : decode cX1_init 63 = .ok (.aload_n 0, 1) := by decide +kernel
theorem dX1_init_64 : decode cX1_init 64 = .ok (.iconst 0, 1) := by decide +kernel
theorem dX1_init_65 : decode cX1_init 65 = .ok (.putfield 40, 3) := by decide +kernel
theorem dX1_init_68 : decode cX1_init 68 = .ok (.return_, 1) := by decide +kernel
set_option maxRecDepth 20000 in
theorem ggX1_size_J7_fill_53178 : GoodIn wsX1_size wsJ7_fill_53178 := goodIn_r _ [9] (by decide +kernel) (by decide +kernel)
set_option maxRecDepth 20000 in
theorem gX1_size_J7_fill_53178 : GoodIn wsX1_size (va_wsS RX1 43 yJ7_fill_53178 wsJ7_fill_53178) := goodIn_app (goodIn_of _ (by decide +kernel)) ggX1_size_J7_fill_53178
theorem dX1_size_0 : decode cX1_size 0 = .ok (.iload_n 1, 1) := by decide +kernel
theorem dX1_size_1 : decode cX1_size 1 = .ok (.ifCond .lt 20, 3) := by decide +kernel
theorem dX1_size_4 : decode cX1_size 4 = .ok (.iload_n 1, 1) := by decide +kernel
theorem dX1_size_5 : decode cX1_size 5 = .ok (.bipush 6, 2) := by decide +kernel
theorem dX1_size_7 : decode cX1_size 7 = .ok (.if_icmp .gt 14, 3) := by decide +kernel
theorem dX1_size_10 : decode cX1_size 10 = .ok (.iload_n 2, 1) := by decide +kernel
theorem dX1_size_11 : decode cX1_size 11 = .ok (.iconst 1, 1) := by decide +kernel
theorem dX1_size_12 : decode cX1_size 12 = .ok (.if_icmp .lt 9, 3) := by decide +kernel
theorem dX1_size_15 : decode cX1_size 15 = .ok (.iload_n 2, 1) := by decide +kernel
theorem dX1_size_16 : decode cX1_size 16 = .ok (.bipush 8, 2) := by decide +kernel
theorem dX1_size_18 : decode cX1_size 18 = .ok (.if_icmp .le 5, 3) := by decide +kernel
theorem dX1_size_21 : decode cX1_size 21 = .ok (.iconst 0, 1) := by decide +kernel
theorem dX1_size_22 : decode cX1_size 22 = .ok (.ireturn, 1) := by decide +kernel
theorem dX1_size_23 : decode cX1_size 23 = .ok (.aload_n 0, 1) := by decide +kernel
theorem dX1_size_24 : decode cX1_size 24 = .ok (.iload_n 1, 1) := by decide +kernel
theorem dX1_size_25 : decode cX1_size 25 = .ok (.putfield 30, 3) := by decide +kernel
theorem dX1_size_28 : decode cX1_size 28 = .ok (.aload_n 0, 1) := by decide +kernel
theorem dX1_size_29 : decode cX1_size 29 = .ok (.iload_n 2, 1) := by decide +kernel
theorem dX1_size_30 : decode cX1_size 30 = .ok (.putfield 34, 3) := by decide +kernel
theorem dX1_size_33 : decode cX1_size 33 = .ok (.aload_n 0, 1) := by decide +kernel
theorem dX1_size_34 : decode cX1_size 34 = .ok (.getfield 9, 3) := by decide +kernel
theorem dX1_size_37 : decode cX1_size 37 = .ok (.iconst 0, 1) := by decide +kernel
theorem dX1_size_38 : decode cX1_size 38 = .ok (.invokestatic 43, 3) := by decide +kernel
theorem dX1_size_41 : decode cX1_size 41 = .ok (.aload_n 0, 1) := by decide +kernel
theorem dX1_size_42 : decode cX1_size 42 = .ok (.iconst 0, 1) := by decide +kernel
theorem dX1_size_43 : decode cX1_size 43 = .ok (.putfield 37, 3) := by decide +kernel
theorem dX1_size_46 : decode cX1_size 46 = .ok (.aload_n 0, 1) := by decide +kernel
theorem dX1_size_47 : decode cX1_size 47 = .ok (.iconst 0, 1) := by decide +kernel
theorem dX1_size_48 : decode cX1_size 48 = .ok (.putfield 40, 3) := by decide +kernel
theorem dX1_size_51 : decode cX1_size 51 = .ok (.iconst 1, 1) := by decide +kernel
theorem dX1_size_52 : decode cX1_size 52 = .ok (.ireturn, 1) := by decide +kernel
set_option maxRecDepth 20000 in
theorem ggX1_enter_X1_hasEntry : GoodIn wsX1_enter wsX1_hasEntry := goodIn_r _ [6, 7, 8, 9, 10, 5, 11, 12, 13, 14, 15, 16, 17, 18, 19, 20, 21] (by decide +kernel) (by decide +kernel)
set_option maxRecDepth 20000 in
theorem gX1_enter_X1_hasEntry : GoodIn wsX1_enter (wsV RX1 49 RX1 yX1_hasEntry wsX1_hasEntry) := goodIn_app (goodIn_of _ (by decide +kernel)) ggX1_enter_X1_hasEntry
theorem dX1_enter_0 : decode cX1_enter 0 = .ok (.aload_n 0, 1) := by decide +kernel
theorem dX1_enter_1 : decode cX1_enter 1 = .ok (.iload_n 1, 1) := by decide +kernel
theorem dX1_enter_2 : decode cX1_enter 2 = .ok (.iload_n 2, 1) := by decide +kernel
theorem dX1_enter_3 : decode cX1_enter 3 = .ok (.invokevirtual 49, 3) := by decide +kernel
theorem dX1_enter_6 : decode cX1_enter 6 = .ok (.ifCond .eq 15, 3) := by decide +kernel
theorem dX1_enter_9 : decode cX1_enter 9 = .ok (.iload_n 3, 1) := by decide +kernel
theorem dX1_enter_10 : decode cX1_enter 10 = .ok (.bipush (-9), 2) := by decide +kernel
theorem dX1_enter_12 : decode cX1_enter 12 = .ok (.if_icmp .lt 9, 3) := by decide +kernel
theorem dX1_enter_15 : decode cX1_enter 15 = .ok (.iload_n 3, 1) := by decide +kernel
theorem dX1_enter_16 : decode cX1_enter 16 = .ok (.bipush 9, 2) := by decide +kernel
theorem dX1_enter_18 : decode cX1_enter 18 = .ok (.if_icmp .le 5, 3) := by decide +kernel
theorem dX1_enter_21 : decode cX1_enter 21 = .ok (.iconst 0, 1) := by decide +kernel
theorem dX1_enter_22 : decode cX1_enter 22 = .ok (.ireturn, 1) := by decide +kernel
theorem dX1_enter_23 : decode cX1_enter 23 = .ok (.aload_n 0, 1) := by decide +kernel
theorem dX1_enter_24 : decode cX1_enter 24 = .ok (.getfield 9, 3) := by decide +kernel
theorem dX1_enter_27 : decode cX1_enter 27 = .ok (.iload_n 1, 1) := by decide +kernel
theorem dX1_enter_28 : decode cX1_enter 28 = .ok (.bipush 8, 2) := by decide +kernel
theorem dX1_enter_30 : decode cX1_enter 30 = .ok (.imul, 1) := by decide +kernel
theorem dX1_enter_31 : decode cX1_enter 31 = .ok (.iload_n 2, 1) := by decide +kernel
theorem dX1_enter_32 : decode cX1_enter 32 = .ok (.iadd, 1) := by decide +kernel
theorem dX1_enter_33 : decode cX1_enter 33 = .ok (.iload_n 3, 1) := by decide +kernel
theorem dX1_enter_34 : decode cX1_enter 34 = .ok (.iastore, 1) := by decide +kernel
theorem dX1_enter_35 : decode cX1_enter 35 = .ok (.iconst 1, 1) := by decide +kernel
theorem dX1_enter_36 : decode cX1_enter 36 = .ok (.ireturn, 1) := by decide +kernel
set_option maxRecDepth 20000 in
theorem ggX1_entry_X1_hasEntry : GoodIn wsX1_entry wsX1_hasEntry := goodIn_r _ [6, 7, 8, 9, 10, 5, 11, 12, 13, 14, 15, 16, 17, 18, 19, 20, 21] (by decide +kernel) (by decide +kernel)
set_option maxRecDepth 20000 in
theorem gX1_entry_X1_hasEntry : GoodIn wsX1_entry (wsV RX1 49 RX1 yX1_hasEntry wsX1_hasEntry) := goodIn_app (goodIn_of _ (by decide +kernel)) ggX1_entry_X1_hasEntry
theorem dX1_entry_0 : decode cX1_entry 0 = .ok (.aload_n 0, 1) := by decide +kernel
theorem dX1_entry_1 : decode cX1_entry 1 = .ok (.iload_n 1, 1) := by decide +kernel
theorem dX1_entry_2 : decode cX1_entry 2 = .ok (.iload_n 2, 1) := by decide +kernel
theorem dX1_entry_3 : decode cX1_entry 3 = .ok (.invokevirtual 49, 3) := by decide +kernel
theorem dX1_entry_6 : decode cX1_entry 6 = .ok (.ifCond .eq 17, 3) := by decide +kernel
theorem dX1_entry_9 : decode cX1_entry 9 = .ok (.aload_n 0, 1) := by decide +kernel
theorem dX1_entry_10 : decode cX1_entry 10 = .ok (.getfield 9, 3) := by decide +kernel
theorem dX1_entry_13 : decode cX1_entry 13 = .ok (.iload_n 1, 1) := by decide +kernel
theorem dX1_entry_14 : decode cX1_entry 14 = .ok (.bipush 8, 2) := by decide +kernel
theorem dX1_entry_16 : decode cX1_entry 16 = .ok (.imul, 1) := by decide +kernel
theorem dX1_entry_17 : decode cX1_entry 17 = .ok (.iload_n 2, 1) := by decide +kernel
theorem dX1_entry_18 : decode cX1_entry 18 = .ok (.iadd, 1) := by decide +kernel
theorem dX1_entry_19 : decode cX1_entry 19 = .ok (.iaload, 1) := by decide +kernel
theorem dX1_entry_20 : decode cX1_entry 20 = .ok (.goto 4, 3) := by decide +kernel
theorem dX1_entry_23 : decode cX1_entry 23 = .ok (.iconst 0, 1) := by decide +kernel
theorem dX1_entry_24 : decode cX1_entry 24 = .ok (.ireturn, 1) := by decide +kernel
set_option maxRecDepth 20000 in
theorem ggX1_reversible_X1_hasReaction : GoodIn wsX1_reversible wsX1_hasReaction := goodIn_r _ [6, 7, 8, 9, 10, 11, 12, 13, 14, 15, 16] (by decide +kernel) (by decide +kernel)
set_option maxRecDepth 20000 in
theorem gX1_reversible_X1_hasReaction : GoodIn wsX1_reversible (wsV RX1 53 RX1 yX1_hasReaction wsX1_hasReaction) := goodIn_app (goodIn_of _ (by decide +kernel)) ggX1_reversible_X1_hasReaction
theorem dX1_reversible_0 : decode cX1_reversible 0 = .ok (.aload_n 0, 1) := by decide +kernel
theorem dX1_reversible_1 : decode cX1_reversible 1 = .ok (.iload_n 1, 1) := by decide +kernel
theorem dX1_reversible_2 : decode cX1_reversible 2 = .ok (.invokevirtual 53, 3) := by decide +kernel
theorem dX1_reversible_5 : decode cX1_reversible 5 = .ok (.ifCond .ne 5, 3) := by decide +kernel
theorem dX1_reversible_8 : decode cX1_reversible 8 = .ok (.iconst 0, 1) := by decide +kernel
theorem dX1_reversible_9 : decode cX1_reversible 9 = .ok (.ireturn, 1) := by decide +kernel
theorem dX1_reversible_10 : decode cX1_reversible 10 = .ok (.iconst 1, 1) := by decide +kernel
theorem dX1_reversible_11 : decode cX1_reversible 11 = .ok (.iload_n 1, 1) := by decide +kernel
theorem dX1_reversible_12 : decode cX1_reversible 12 = .ok (.ishl, 1) := by decide +kernel
theorem dX1_reversible_13 : decode cX1_reversible 13 = .ok (.istore_n 3, 1) := by decide +kernel
theorem dX1_reversible_14 : decode cX1_reversible 14 = .ok (.aload_n 0, 1) := by decide +kernel
theorem dX1_reversible_15 : decode cX1_reversible 15 = .ok (.iload_n 2, 1) := by decide +kernel
theorem dX1_reversible_16 : decode cX1_reversible 16 = .ok (.ifCond .eq 12, 3) := by decide +kernel
theorem dX1_reversible_19 : decode cX1_reversible 19 = .ok (.aload_n 0, 1) := by decide +kernel
theorem dX1_reversible_20 : decode cX1_reversible 20 = .ok (.getfield 37, 3) := by decide +kernel
theorem dX1_reversible_23 : decode cX1_reversible 23 = .ok (.iload_n 3, 1) := by decide +kernel
theorem dX1_reversible_24 : decode cX1_reversible 24 = .ok (.ior, 1) := by decide +kernel
theorem dX1_reversible_25 : decode cX1_reversible 25 = .ok (.goto 11, 3) := by decide +kernel
theorem dX1_reversible_28 : decode cX1_reversible 28 = .ok (.aload_n 0, 1) := by decide +kernel
theorem dX1_reversible_29 : decode cX1_reversible 29 = .ok (.getfield 37, 3) := by decide +kernel
theorem dX1_reversible_32 : decode cX1_reversible 32 = .ok (.iload_n 3, 1) := by decide +kernel
theorem dX1_reversible_33 : decode cX1_reversible 33 = .ok (.iconst (-1), 1) := by decide +kernel
theorem dX1_reversible_34 : decode cX1_reversible 34 = .ok (.ixor, 1) := by decide +kernel
theorem dX1_reversible_35 : decode cX1_reversible 35 = .ok (.iand, 1) := by decide +kernel
theorem dX1_reversible_36 : decode cX1_reversible 36 = .ok (.putfield 37, 3) := by decide +kernel
theorem dX1_reversible_39 : decode cX1_reversible 39 = .ok (.iconst 1, 1) := by decide +kernel
theorem dX1_reversible_40 : decode cX1_reversible 40 = .ok (.ireturn, 1) := by decide +kernel
theorem dX1_reversibles_0 : decode cX1_reversibles 0 = .ok (.aload_n 0, 1) := by decide +kernel
theorem dX1_reversibles_1 : decode cX1_reversibles 1 = .ok (.getfield 37, 3) := by decide +kernel
theorem dX1_reversibles_4 : decode cX1_reversibles 4 = .ok (.ireturn, 1) := by decide +kernel
set_option maxRecDepth 20000 in
theorem ggX1_solve_X1_listIfSupport : GoodIn wsX1_solve wsX1_listIfSupport := goodIn_r _ [7, 1, 8, 9, 10, 11, 6, 12, 13, 2, 14, 15, 16, 17, 18, 19, 20, 21, 22, 23, 24, 25, 26, 27, 28, 29, 30, 31, 32, 33, 34, 35, 36, 37, 38, 39, 40, 41, 42, 43, 44, 45, 46, 47, 48, 49, 50, 51, 52, 53, 54, 55, 56, 57, 58, 59, 60, 61, 62, 63, 64, 65, 66, 67, 68, 69, 70, 71, 72, 73, 74, 75, 76, 77, 78, 79, 80, 81, 82, 83, 84, 85, 86, 87, 88, 89, 90, 91, 92, 93, 94, 95, 96, 97, 98, 99] (by decide +kernel) (by decide +kernel)
set_option maxRecDepth 20000 in
theorem gX1_solve_X1_listIfSupport : GoodIn wsX1_solve (wsV RX1 57 RX1 yX1_listIfSupport wsX1_listIfSupport) := goodIn_app (goodIn_of _ (by decide +kernel)) ggX1_solve_X1_listIfSupport
theorem dX1_solve_0 : decode cX1_solve 0 = .ok (.aload_n 0, 1) := by decide +kernel
theorem dX1_solve_1 : decode cX1_solve 1 = .ok (.iconst 0, 1) := by decide +kernel
theorem dX1_solve_2 : decode cX1_solve 2 = .ok (.putfield 40, 3) := by decide +kernel
theorem dX1_solve_5 : decode cX1_solve 5 = .ok (.iconst 1, 1) := by decide +kernel
theorem dX1_solve_6 : decode cX1_solve 6 = .ok (.aload_n 0, 1) := by decide +kernel
theorem dX1_solve_7 : decode cX1_solve 7 = .ok (.getfield 34, 3) := by decide +kernel
theorem dX1_solve_10 : decode cX1_solve 10 = .ok (.ishl, 1) := by decide +kernel
theorem dX1_solve_11 : decode cX1_solve 11 = .ok (.istore_n 1, 1) := by decide +kernel
theorem dX1_solve_12 : decode cX1_solve 12 = .ok (.iconst 1, 1) := by decide +kernel
theorem dX1_solve_13 : decode cX1_solve 13 = .ok (.istore_n 2, 1) := by decide +kernel
theorem dX1_solve_14 : decode cX1_solve 14 = .ok (.iload_n 2, 1) := by decide +kernel
theorem dX1_solve_15 : decode cX1_solve 15 = .ok (.iload_n 1, 1) := by decide +kernel
theorem dX1_solve_16 : decode cX1_solve 16 = .ok (.if_icmp .ge 14, 3) := by decide +kernel
theorem dX1_solve_19 : decode cX1_solve 19 = .ok (.aload_n 0, 1) := by decide +kernel
theorem dX1_solve_20 : decode cX1_solve 20 = .ok (.iload_n 2, 1) := by decide +kernel
theorem dX1_solve_21 : decode cX1_solve 21 = .ok (.invokevirtual 57, 3) := by decide +kernel
theorem dX1_solve_24 : decode cX1_solve 24 = .ok (.iinc 2 1, 3) := by decide +kernel
theorem dX1_solve_27 : decode cX1_solve 27 = .ok (.goto (-13), 3) := by decide +kernel
theorem dX1_solve_30 : decode cX1_solve 30 = .ok (.aload_n 0, 1) := by decide +kernel
theorem dX1_solve_31 : decode cX1_solve 31 = .ok (.getfield 40, 3) := by decide +kernel
theorem dX1_solve_34 : decode cX1_solve 34 = .ok (.ireturn, 1) := by decide +kernel
theorem dX1_modes_0 : decode cX1_modes 0 = .ok (.aload_n 0, 1) := by decide +kernel
theorem dX1_modes_1 : decode cX1_modes 1 = .ok (.getfield 40, 3) := by decide +kernel
theorem dX1_modes_4 : decode cX1_modes 4 = .ok (.ireturn, 1) := by decide +kernel
set_option maxRecDepth 20000 in
theorem ggX1_support_X1_isListed : GoodIn wsX1_support wsX1_isListed := goodIn_r _ [6, 7, 8, 9, 10, 11, 12, 13, 14, 15, 16] (by decide +kernel) (by decide +kernel)
set_option maxRecDepth 20000 in
theorem gX1_support_X1_isListed : GoodIn wsX1_support (wsV RX1 61 RX1 yX1_isListed wsX1_isListed) := goodIn_app (goodIn_of _ (by decide +kernel)) ggX1_support_X1_isListed
theorem dX1_support_0 : decode cX1_support 0 = .ok (.aload_n 0, 1) := by decide +kernel
theorem dX1_support_1 : decode cX1_support 1 = .ok (.iload_n 1, 1) := by decide +kernel
theorem dX1_support_2 : decode cX1_support 2 = .ok (.invokevirtual 61, 3) := by decide +kernel
theorem dX1_support_5 : decode cX1_support 5 = .ok (.ifCond .eq 12, 3) := by decide +kernel
theorem dX1_support_8 : decode cX1_support 8 = .ok (.aload_n 0, 1) := by decide +kernel
theorem dX1_support_9 : decode cX1_support 9 = .ok (.getfield 13, 3) := by decide +kernel
theorem dX1_support_12 : decode cX1_support 12 = .ok (.iload_n 1, 1) := by decide +kernel
theorem dX1_support_13 : decode cX1_support 13 = .ok (.iaload, 1) := by decide +kernel
theorem dX1_support_14 : decode cX1_support 14 = .ok (.goto 4, 3) := by decide +kernel
theorem dX1_support_17 : decode cX1_support 17 = .ok (.iconst 0, 1) := by decide +kernel
theorem dX1_support_18 : decode cX1_support 18 = .ok (.ireturn, 1) := by decide +kernel
set_option maxRecDepth 20000 in
theorem ggX1_rate_X1_isListed : GoodIn wsX1_rate wsX1_isListed := goodIn_r _ [6, 7, 11, 12, 13, 14, 15, 16, 17, 18, 19] (by decide +kernel) (by decide +kernel)
set_option maxRecDepth 20000 in
theorem gX1_rate_X1_isListed : GoodIn wsX1_rate (wsV RX1 61 RX1 yX1_isListed wsX1_isListed) := goodIn_app (goodIn_of _ (by decide +kernel)) ggX1_rate_X1_isListed
set_option maxRecDepth 20000 in
theorem ggX1_rate_X1_isColumn : GoodIn wsX1_rate wsX1_isColumn := goodIn_r _ [10] (by decide +kernel) (by decide +kernel)
set_option maxRecDepth 20000 in
theorem gX1_rate_X1_isColumn : GoodIn wsX1_rate (va_wsS RX1 64 yX1_isColumn wsX1_isColumn) := goodIn_app (goodIn_of _ (by decide +kernel)) ggX1_rate_X1_isColumn
theorem dX1_rate_0 : decode cX1_rate 0 = .ok (.aload_n 0, 1) := by decide +kernel
theorem dX1_rate_1 : decode cX1_rate 1 = .ok (.iload_n 1, 1) := by decide +kernel
theorem dX1_rate_2 : decode cX1_rate 2 = .ok (.invokevirtual 61, 3) := by decide +kernel
theorem dX1_rate_5 : decode cX1_rate 5 = .ok (.ifCond .eq 24, 3) := by decide +kernel
theorem dX1_rate_8 : decode cX1_rate 8 = .ok (.iload_n 2, 1) := by decide +kernel
theorem dX1_rate_9 : decode cX1_rate 9 = .ok (.invokestatic 64, 3) := by decide +kernel
theorem dX1_rate_12 : decode cX1_rate 12 = .ok (.ifCond .eq 17, 3) := by decide +kernel
theorem dX1_rate_15 : decode cX1_rate 15 = .ok (.aload_n 0, 1) := by decide +kernel
theorem dX1_rate_16 : decode cX1_rate 16 = .ok (.getfield 16, 3) := by decide +kernel
theorem dX1_rate_19 : decode cX1_rate 19 = .ok (.iload_n 1, 1) := by decide +kernel
theorem dX1_rate_20 : decode cX1_rate 20 = .ok (.bipush 8, 2) := by decide +kernel
theorem dX1_rate_22 : decode cX1_rate 22 = .ok (.imul, 1) := by decide +kernel
theorem dX1_rate_23 : decode cX1_rate 23 = .ok (.iload_n 2, 1) := by decide +kernel
theorem dX1_rate_24 : decode cX1_rate 24 = .ok (.iadd, 1) := by decide +kernel
theorem dX1_rate_25 : decode cX1_rate 25 = .ok (.iaload, 1) := by decide +kernel
theorem dX1_rate_26 : decode cX1_rate 26 = .ok (.goto 4, 3) := by decide +kernel
theorem dX1_rate_29 : decode cX1_rate 29 = .ok (.iconst 0, 1) := by decide +kernel
theorem dX1_rate_30 : decode cX1_rate 30 = .ok (.ireturn, 1) := by decide +kernel
theorem dX1_within_0 : decode cX1_within 0 = .ok (.iconst 0, 1) := by decide +kernel
theorem dX1_within_1 : decode cX1_within 1 = .ok (.istore_n 2, 1) := by decide +kernel
theorem dX1_within_2 : decode cX1_within 2 = .ok (.iconst 0, 1) := by decide +kernel
theorem dX1_within_3 : decode cX1_within 3 = .ok (.istore_n 3, 1) := by decide +kernel
theorem dX1_within_4 : decode cX1_within 4 = .ok (.iload_n 3, 1) := by decide +kernel
theorem dX1_within_5 : decode cX1_within 5 = .ok (.aload_n 0, 1) := by decide +kernel
theorem dX1_within_6 : decode cX1_within 6 = .ok (.getfield 40, 3) := by decide +kernel
theorem dX1_within_9 : decode cX1_within 9 = .ok (.if_icmp .ge 25, 3) := by decide +kernel
theorem dX1_within_12 : decode cX1_within 12 = .ok (.aload_n 0, 1) := by decide +kernel
theorem dX1_within_13 : decode cX1_within 13 = .ok (.getfield 13, 3) := by decide +kernel
theorem dX1_within_16 : decode cX1_within 16 = .ok (.iload_n 3, 1) := by decide +kernel
theorem dX1_within_17 : decode cX1_within 17 = .ok (.iaload, 1) := by decide +kernel
theorem dX1_within_18 : decode cX1_within 18 = .ok (.iload_n 1, 1) := by decide +kernel
theorem dX1_within_19 : decode cX1_within 19 = .ok (.iconst (-1), 1) := by decide +kernel
theorem dX1_within_20 : decode cX1_within 20 = .ok (.ixor, 1) := by decide +kernel
theorem dX1_within_21 : decode cX1_within 21 = .ok (.iand, 1) := by decide +kernel
theorem dX1_within_22 : decode cX1_within 22 = .ok (.ifCond .ne 6, 3) := by decide +kernel
theorem dX1_within_25 : decode cX1_within 25 = .ok (.iinc 2 1, 3) := by decide +kernel
theorem dX1_within_28 : decode cX1_within 28 = .ok (.iinc 3 1, 3) := by decide +kernel
theorem dX1_within_31 : decode cX1_within 31 = .ok (.goto (-27), 3) := by decide +kernel
theorem dX1_within_34 : decode cX1_within 34 = .ok (.iload_n 2, 1) := by decide +kernel
theorem dX1_within_35 : decode cX1_within 35 = .ok (.ireturn, 1) := by decide +kernel
set_option maxRecDepth 20000 in
theorem ggX1_running_X1_isColumn : GoodIn wsX1_running wsX1_isColumn := goodIn_r _ [6] (by decide +kernel) (by decide +kernel)
set_option maxRecDepth 20000 in
theorem gX1_running_X1_isColumn : GoodIn wsX1_running (va_wsS RX1 64 yX1_isColumn wsX1_isColumn) := goodIn_app (goodIn_of _ (by decide +kernel)) ggX1_running_X1_isColumn
set_option maxRecDepth 20000 in
theorem ggX1_running_X1_runs : GoodIn wsX1_running wsX1_runs := goodIn_r _ [9] (by decide +kernel) (by decide +kernel)
set_option maxRecDepth 20000 in
theorem gX1_running_X1_runs : GoodIn wsX1_running (va_wsS RX1 67 yX1_runs wsX1_runs) := goodIn_app (goodIn_of _ (by decide +kernel)) ggX1_running_X1_runs
theorem dX1_running_0 : decode cX1_running 0 = .ok (.iload_n 1, 1) := by decide +kernel
theorem dX1_running_1 : decode cX1_running 1 = .ok (.invokestatic 64, 3) := by decide +kernel
theorem dX1_running_4 : decode cX1_running 4 = .ok (.ifCond .ne 5, 3) := by decide +kernel
theorem dX1_running_7 : decode cX1_running 7 = .ok (.iconst 0, 1) := by decide +kernel
theorem dX1_running_8 : decode cX1_running 8 = .ok (.ireturn, 1) := by decide +kernel
theorem dX1_running_9 : decode cX1_running 9 = .ok (.iconst 0, 1) := by decide +kernel
theorem dX1_running_10 : decode cX1_running 10 = .ok (.istore_n 3, 1) := by decide +kernel
theorem dX1_running_11 : decode cX1_running 11 = .ok (.iconst 0, 1) := by decide +kernel
theorem dX1_running_12 : decode cX1_running 12 = .ok (.istore 4, 2) := by decide +kernel
theorem dX1_running_14 : decode cX1_running 14 = .ok (.iload 4, 2) := by decide +kernel
theorem dX1_running_16 : decode cX1_running 16 = .ok (.aload_n 0, 1) := by decide +kernel
theorem dX1_running_17 : decode cX1_running 17 = .ok (.getfield 40, 3) := by decide +kernel
theorem dX1_running_20 : decode cX1_running 20 = .ok (.if_icmp .ge 31, 3) := by decide +kernel
theorem dX1_running_23 : decode cX1_running 23 = .ok (.aload_n 0, 1) := by decide +kernel
theorem dX1_running_24 : decode cX1_running 24 = .ok (.getfield 16, 3) := by decide +kernel
theorem dX1_running_27 : decode cX1_running 27 = .ok (.iload 4, 2) := by decide +kernel
theorem dX1_running_29 : decode cX1_running 29 = .ok (.bipush 8, 2) := by decide +kernel
theorem dX1_running_31 : decode cX1_running 31 = .ok (.imul, 1) := by decide +kernel
theorem dX1_running_32 : decode cX1_running 32 = .ok (.iload_n 1, 1) := by decide +kernel
theorem dX1_running_33 : decode cX1_running 33 = .ok (.iadd, 1) := by decide +kernel
theorem dX1_running_34 : decode cX1_running 34 = .ok (.iaload, 1) := by decide +kernel
theorem dX1_running_35 : decode cX1_running 35 = .ok (.iload_n 2, 1) := by decide +kernel
theorem dX1_running_36 : decode cX1_running 36 = .ok (.invokestatic 67, 3) := by decide +kernel
theorem dX1_running_39 : decode cX1_running 39 = .ok (.ifCond .eq 6, 3) := by decide +kernel
theorem dX1_running_42 : decode cX1_running 42 = .ok (.iinc 3 1, 3) := by decide +kernel
theorem dX1_running_45 : decode cX1_running 45 = .ok (.iinc 4 1, 3) := by decide +kernel
theorem dX1_running_48 : decode cX1_running 48 = .ok (.goto (-34), 3) := by decide +kernel
theorem dX1_running_51 : decode cX1_running 51 = .ok (.iload_n 3, 1) := by decide +kernel
theorem dX1_running_52 : decode cX1_running 52 = .ok (.ireturn, 1) := by decide +kernel
set_option maxRecDepth 20000 in
theorem ggX1_shortest_X1_isColumn : GoodIn wsX1_shortest wsX1_isColumn := goodIn_r _ [10] (by decide +kernel) (by decide +kernel)
set_option maxRecDepth 20000 in
theorem gX1_shortest_X1_isColumn : GoodIn wsX1_shortest (va_wsS RX1 64 yX1_isColumn wsX1_isColumn) := goodIn_app (goodIn_of _ (by decide +kernel)) ggX1_shortest_X1_isColumn
set_option maxRecDepth 20000 in
theorem ggX1_shortest_X1_has : GoodIn wsX1_shortest wsX1_has := goodIn_r _ [13] (by decide +kernel) (by decide +kernel)
set_option maxRecDepth 20000 in
theorem gX1_shortest_X1_has : GoodIn wsX1_shortest (va_wsS RX1 70 yX1_has wsX1_has) := goodIn_app (goodIn_of _ (by decide +kernel)) ggX1_shortest_X1_has
set_option maxRecDepth 20000 in
theorem ggX1_shortest_J6_bitCount_0f7a4 : GoodIn wsX1_shortest wsJ6_bitCount_0f7a4 := goodIn_r _ [17, 18, 19, 20] (by decide +kernel) (by decide +kernel)
set_option maxRecDepth 20000 in
theorem gX1_shortest_J6_bitCount_0f7a4 : GoodIn wsX1_shortest (va_wsS RX1 73 yJ6_bitCount_0f7a4 wsJ6_bitCount_0f7a4) := goodIn_app (goodIn_of _ (by decide +kernel)) ggX1_shortest_J6_bitCount_0f7a4
theorem dX1_shortest_0 : decode cX1_shortest 0 = .ok (.iload_n 1, 1) := by decide +kernel
theorem dX1_shortest_1 : decode cX1_shortest 1 = .ok (.invokestatic 64, 3) := by decide +kernel
theorem dX1_shortest_4 : decode cX1_shortest 4 = .ok (.ifCond .ne 5, 3) := by decide +kernel
theorem dX1_shortest_7 : decode cX1_shortest 7 = .ok (.iconst 0, 1) := by decide +kernel
theorem dX1_shortest_8 : decode cX1_shortest 8 = .ok (.ireturn, 1) := by decide +kernel
theorem dX1_shortest_9 : decode cX1_shortest 9 = .ok (.iconst 0, 1) := by decide +kernel
theorem dX1_shortest_10 : decode cX1_shortest 10 = .ok (.istore_n 2, 1) := by decide +kernel
theorem dX1_shortest_11 : decode cX1_shortest 11 = .ok (.iconst 0, 1) := by decide +kernel
theorem dX1_shortest_12 : decode cX1_shortest 12 = .ok (.istore_n 3, 1) := by decide +kernel
theorem dX1_shortest_13 : decode cX1_shortest 13 = .ok (.iload_n 3, 1) := by decide +kernel
theorem dX1_shortest_14 : decode cX1_shortest 14 = .ok (.aload_n 0, 1) := by decide +kernel
theorem dX1_shortest_15 : decode cX1_shortest 15 = .ok (.getfield 40, 3) := by decide +kernel
theorem dX1_shortest_18 : decode cX1_shortest 18 = .ok (.if_icmp .ge 49, 3) := by decide +kernel
theorem dX1_shortest_21 : decode cX1_shortest 21 = .ok (.aload_n 0, 1) := by decide +kernel
theorem dX1_shortest_22 : decode cX1_shortest 22 = .ok (.getfield 13, 3) := by decide +kernel
theorem dX1_shortest_25 : decode cX1_shortest 25 = .ok (.iload_n 3, 1) := by decide +kernel
theorem dX1_shortest_26 : decode cX1_shortest 26 = .ok (.iaload, 1) := by decide +kernel
theorem dX1_shortest_27 : decode cX1_shortest 27 = .ok (.iload_n 1, 1) := by decide +kernel
theorem dX1_shortest_28 : decode cX1_shortest 28 = .ok (.invokestatic 70, 3) := by decide +kernel
theorem dX1_shortest_31 : decode cX1_shortest 31 = .ok (.ifCond .eq 30, 3) := by decide +kernel
theorem dX1_shortest_34 : decode cX1_shortest 34 = .ok (.aload_n 0, 1) := by decide +kernel
theorem dX1_shortest_35 : decode cX1_shortest 35 = .ok (.getfield 13, 3) := by decide +kernel
theorem dX1_shortest_38 : decode cX1_shortest 38 = .ok (.iload_n 3, 1) := by decide +kernel
theorem dX1_shortest_39 : decode cX1_shortest 39 = .ok (.iaload, 1) := by decide +kernel
theorem dX1_shortest_40 : decode cX1_shortest 40 = .ok (.invokestatic 73, 3) := by decide +kernel
theorem dX1_shortest_43 : decode cX1_shortest 43 = .ok (.istore 4, 2) := by decide +kernel
theorem dX1_shortest_45 : decode cX1_shortest 45 = .ok (.iload_n 2, 1) := by decide +kernel
theorem dX1_shortest_46 : decode cX1_shortest 46 = .ok (.ifCond .ne 8, 3) := by decide +kernel
theorem dX1_shortest_49 : decode cX1_shortest 49 = .ok (.iload 4, 2) := by decide +kernel
theorem dX1_shortest_51 : decode cX1_shortest 51 = .ok (.goto 9, 3) := by decide +kernel
theorem dX1_shortest_54 : decode cX1_shortest 54 = .ok (.iload_n 2, 1) := by decide +kernel
theorem dX1_shortest_55 : decode cX1_shortest 55 = .ok (.iload 4, 2) := by decide +kernel
theorem dX1_shortest_57 : decode cX1_shortest 57 = .ok (.invokestatic 79, 3) := by decide +kernel
theorem dX1_shortest_60 : decode cX1_shortest 60 = .ok (.istore_n 2, 1) := by decide +kernel
theorem dX1_shortest_61 : decode cX1_shortest 61 = .ok (.iinc 3 1, 3) := by decide +kernel
theorem dX1_shortest_64 : decode cX1_shortest 64 = .ok (.goto (-51), 3) := by decide +kernel
theorem dX1_shortest_67 : decode cX1_shortest 67 = .ok (.iload_n 2, 1) := by decide +kernel
theorem dX1_shortest_68 : decode cX1_shortest 68 = .ok (.ireturn, 1) := by decide +kernel
set_option maxRecDepth 20000 in
theorem ggX1_hasEntry_X1_hasReaction : GoodIn wsX1_hasEntry wsX1_hasReaction := goodIn_r _ [6, 7, 8, 9, 10, 11, 12, 13, 14, 15, 16] (by decide +kernel) (by decide +kernel)
set_option maxRecDepth 20000 in
theorem gX1_hasEntry_X1_hasReaction : GoodIn wsX1_hasEntry (wsV RX1 53 RX1 yX1_hasReaction wsX1_hasReaction) := goodIn_app (goodIn_of _ (by decide +kernel)) ggX1_hasEntry_X1_hasReaction
theorem dX1_hasEntry_0 : decode cX1_hasEntry 0 = .ok (.iload_n 1, 1) := by decide +kernel
theorem dX1_hasEntry_1 : decode cX1_hasEntry 1 = .ok (.ifCond .lt 23, 3) := by decide +kernel
theorem dX1_hasEntry_4 : decode cX1_hasEntry 4 = .ok (.iload_n 1, 1) := by decide +kernel
theorem dX1_hasEntry_5 : decode cX1_hasEntry 5 = .ok (.aload_n 0, 1) := by decide +kernel
theorem dX1_hasEntry_6 : decode cX1_hasEntry 6 = .ok (.getfield 30, 3) := by decide +kernel
theorem dX1_hasEntry_9 : decode cX1_hasEntry 9 = .ok (.if_icmp .ge 15, 3) := by decide +kernel
theorem dX1_hasEntry_12 : decode cX1_hasEntry 12 = .ok (.aload_n 0, 1) := by decide +kernel
theorem dX1_hasEntry_13 : decode cX1_hasEntry 13 = .ok (.iload_n 2, 1) := by decide +kernel
theorem dX1_hasEntry_14 : decode cX1_hasEntry 14 = .ok (.invokevirtual 53, 3) := by decide +kernel
theorem dX1_hasEntry_17 : decode cX1_hasEntry 17 = .ok (.ifCond .eq 7, 3) := by decide +kernel
theorem dX1_hasEntry_20 : decode cX1_hasEntry 20 = .ok (.iconst 1, 1) := by decide +kernel
theorem dX1_hasEntry_21 : decode cX1_hasEntry 21 = .ok (.goto 4, 3) := by decide +kernel
theorem dX1_hasEntry_24 : decode cX1_hasEntry 24 = .ok (.iconst 0, 1) := by decide +kernel
theorem dX1_hasEntry_25 : decode cX1_hasEntry 25 = .ok (.ireturn, 1) := by decide +kernel
theorem dX1_hasReaction_0 : decode cX1_hasReaction 0 = .ok (.iload_n 1, 1) := by decide +kernel
theorem dX1_hasReaction_1 : decode cX1_hasReaction 1 = .ok (.ifCond .lt 15, 3) := by decide +kernel
theorem dX1_hasReaction_4 : decode cX1_hasReaction 4 = .ok (.iload_n 1, 1) := by decide +kernel
theorem dX1_hasReaction_5 : decode cX1_hasReaction 5 = .ok (.aload_n 0, 1) := by decide +kernel
theorem dX1_hasReaction_6 : decode cX1_hasReaction 6 = .ok (.getfield 34, 3) := by decide +kernel
theorem dX1_hasReaction_9 : decode cX1_hasReaction 9 = .ok (.if_icmp .ge 7, 3) := by decide +kernel
theorem dX1_hasReaction_12 : decode cX1_hasReaction 12 = .ok (.iconst 1, 1) := by decide +kernel
theorem dX1_hasReaction_13 : decode cX1_hasReaction 13 = .ok (.goto 4, 3) := by decide +kernel
theorem dX1_hasReaction_16 : decode cX1_hasReaction 16 = .ok (.iconst 0, 1) := by decide +kernel
theorem dX1_hasReaction_17 : decode cX1_hasReaction 17 = .ok (.ireturn, 1) := by decide +kernel
theorem dX1_isListed_0 : decode cX1_isListed 0 = .ok (.iload_n 1, 1) := by decide +kernel
theorem dX1_isListed_1 : decode cX1_isListed 1 = .ok (.ifCond .lt 15, 3) := by decide +kernel
theorem dX1_isListed_4 : decode cX1_isListed 4 = .ok (.iload_n 1, 1) := by decide +kernel
theorem dX1_isListed_5 : decode cX1_isListed 5 = .ok (.aload_n 0, 1) := by decide +kernel
theorem dX1_isListed_6 : decode cX1_isListed 6 = .ok (.getfield 40, 3) := by decide +kernel
theorem dX1_isListed_9 : decode cX1_isListed 9 = .ok (.if_icmp .ge 7, 3) := by decide +kernel
theorem dX1_isListed_12 : decode cX1_isListed 12 = .ok (.iconst 1, 1) := by decide +kernel
theorem dX1_isListed_13 : decode cX1_isListed 13 = .ok (.goto 4, 3) := by decide +kernel
theorem dX1_isListed_16 : decode cX1_isListed 16 = .ok (.iconst 0, 1) := by decide +kernel
theorem dX1_isListed_17 : decode cX1_isListed 17 = .ok (.ireturn, 1) := by decide +kernel
theorem dX1_isColumn_0 : decode cX1_isColumn 0 = .ok (.iload_n 0, 1) := by decide +kernel
theorem dX1_isColumn_1 : decode cX1_isColumn 1 = .ok (.ifCond .lt 13, 3) := by decide +kernel
theorem dX1_isColumn_4 : decode cX1_isColumn 4 = .ok (.iload_n 0, 1) := by decide +kernel
theorem dX1_isColumn_5 : decode cX1_isColumn 5 = .ok (.bipush 8, 2) := by decide +kernel
theorem dX1_isColumn_7 : decode cX1_isColumn 7 = .ok (.if_icmp .ge 7, 3) := by decide +kernel
theorem dX1_isColumn_10 : decode cX1_isColumn 10 = .ok (.iconst 1, 1) := by decide +kernel
theorem dX1_isColumn_11 : decode cX1_isColumn 11 = .ok (.goto 4, 3) := by decide +kernel
theorem dX1_isColumn_14 : decode cX1_isColumn 14 = .ok (.iconst 0, 1) := by decide +kernel
theorem dX1_isColumn_15 : decode cX1_isColumn 15 = .ok (.ireturn, 1) := by decide +kernel
theorem dX1_has_0 : decode cX1_has 0 = .ok (.iload_n 0, 1) := by decide +kernel
theorem dX1_has_1 : decode cX1_has 1 = .ok (.iload_n 1, 1) := by decide +kernel
theorem dX1_has_2 : decode cX1_has 2 = .ok (.ishr, 1) := by decide +kernel
theorem dX1_has_3 : decode cX1_has 3 = .ok (.iconst 1, 1) := by decide +kernel
theorem dX1_has_4 : decode cX1_has 4 = .ok (.iand, 1) := by decide +kernel
theorem dX1_has_5 : decode cX1_has 5 = .ok (.ifCond .eq 7, 3) := by decide +kernel
theorem dX1_has_8 : decode cX1_has 8 = .ok (.iconst 1, 1) := by decide +kernel
theorem dX1_has_9 : decode cX1_has 9 = .ok (.goto 4, 3) := by decide +kernel
theorem dX1_has_12 : decode cX1_has 12 = .ok (.iconst 0, 1) := by decide +kernel
theorem dX1_has_13 : decode cX1_has 13 = .ok (.ireturn, 1) := by decide +kernel
theorem dX1_runs_0 : decode cX1_runs 0 = .ok (.iload_n 1, 1) := by decide +kernel
theorem dX1_runs_1 : decode cX1_runs 1 = .ok (.iconst 1, 1) := by decide +kernel
theorem dX1_runs_2 : decode cX1_runs 2 = .ok (.if_icmp .ne 13, 3) := by decide +kernel
theorem dX1_runs_5 : decode cX1_runs 5 = .ok (.iload_n 0, 1) := by decide +kernel
theorem dX1_runs_6 : decode cX1_runs 6 = .ok (.ifCond .le 7, 3) := by decide +kernel
theorem dX1_runs_9 : decode cX1_runs 9 = .ok (.iconst 1, 1) := by decide +kernel
theorem dX1_runs_10 : decode cX1_runs 10 = .ok (.goto 4, 3) := by decide +kernel
theorem dX1_runs_13 : decode cX1_runs 13 = .ok (.iconst 0, 1) := by decide +kernel
theorem dX1_runs_14 : decode cX1_runs 14 = .ok (.ireturn, 1) := by decide +kernel
theorem dX1_runs_15 : decode cX1_runs 15 = .ok (.iload_n 1, 1) := by decide +kernel
theorem dX1_runs_16 : decode cX1_runs 16 = .ok (.iconst (-1), 1) := by decide +kernel
theorem dX1_runs_17 : decode cX1_runs 17 = .ok (.if_icmp .ne 15, 3) := by decide +kernel
theorem dX1_runs_20 : decode cX1_runs 20 = .ok (.iload_n 0, 1) := by decide +kernel
theorem dX1_runs_21 : decode cX1_runs 21 = .ok (.ifCond .ge 7, 3) := by decide +kernel
theorem dX1_runs_24 : decode cX1_runs 24 = .ok (.iconst 1, 1) := by decide +kernel
theorem dX1_runs_25 : decode cX1_runs 25 = .ok (.goto 16, 3) := by decide +kernel
theorem dX1_runs_28 : decode cX1_runs 28 = .ok (.iconst 0, 1) := by decide +kernel
theorem dX1_runs_29 : decode cX1_runs 29 = .ok (.goto 12, 3) := by decide +kernel
theorem dX1_runs_32 : decode cX1_runs 32 = .ok (.iload_n 0, 1) := by decide +kernel
theorem dX1_runs_33 : decode cX1_runs 33 = .ok (.ifCond .eq 7, 3) := by decide +kernel
theorem dX1_runs_36 : decode cX1_runs 36 = .ok (.iconst 1, 1) := by decide +kernel
theorem dX1_runs_37 : decode cX1_runs 37 = .ok (.goto 4, 3) := by decide +kernel
theorem dX1_runs_40 : decode cX1_runs 40 = .ok (.iconst 0, 1) := by decide +kernel
theorem dX1_runs_41 : decode cX1_runs 41 = .ok (.ireturn, 1) := by decide +kernel
set_option maxRecDepth 20000 in
theorem ggX1_listIfSupport_X1_loadColumns : GoodIn wsX1_listIfSupport wsX1_loadColumns := goodIn_r _ [7, 2, 8, 9, 10, 11, 12, 13, 14, 15, 16, 17, 18, 19, 20, 21, 22, 23, 24, 25, 26, 27, 6, 28, 29, 30, 31, 32, 33, 83, 84, 85, 86, 87, 88, 89, 90, 91, 92, 93, 94, 95] (by decide +kernel) (by decide +kernel)
set_option maxRecDepth 20000 in
theorem gX1_listIfSupport_X1_loadColumns : GoodIn wsX1_listIfSupport (wsV RX1 85 RX1 yX1_loadColumns wsX1_loadColumns) := goodIn_app (goodIn_of _ (by decide +kernel)) ggX1_listIfSupport_X1_loadColumns
set_option maxRecDepth 20000 in
theorem ggX1_listIfSupport_X0_leavesOneFullFlow : GoodIn wsX1_listIfSupport wsX0_leavesOneFullFlow := goodIn_r _ [37, 24, 23, 33, 38, 39, 40, 14, 41, 25, 42, 43, 44, 45, 46, 47, 48, 49, 50, 51, 52, 53, 54, 6, 55, 92, 93, 94, 95] (by decide +kernel) (by decide +kernel)
set_option maxRecDepth 20000 in
theorem gX1_listIfSupport_X0_leavesOneFullFlow : GoodIn wsX1_listIfSupport (wsV RX1 88 RX0 yX0_leavesOneFullFlow wsX0_leavesOneFullFlow) := goodIn_app (goodIn_of _ (by decide +kernel)) ggX1_listIfSupport_X0_leavesOneFullFlow
set_option maxRecDepth 20000 in
theorem ggX1_listIfSupport_X1_readFlow : GoodIn wsX1_listIfSupport wsX1_readFlow := goodIn_r _ [59, 60, 2, 26, 27, 6, 28, 61, 62, 63, 14, 64, 24, 23, 25, 33, 83, 84, 85, 86, 87, 88, 89, 90, 91, 92, 93, 94, 95] (by decide +kernel) (by decide +kernel)
set_option maxRecDepth 20000 in
theorem gX1_listIfSupport_X1_readFlow : GoodIn wsX1_listIfSupport (wsV RX1 92 RX1 yX1_readFlow wsX1_readFlow) := goodIn_app (goodIn_of _ (by decide +kernel)) ggX1_listIfSupport_X1_readFlow
set_option maxRecDepth 20000 in
theorem ggX1_listIfSupport_X1_allowedDirection : GoodIn wsX1_listIfSupport wsX1_allowedDirection := goodIn_r _ [68, 60, 69, 83, 84, 85, 86, 87, 88, 89, 90, 91] (by decide +kernel) (by decide +kernel)
set_option maxRecDepth 20000 in
theorem gX1_listIfSupport_X1_allowedDirection : GoodIn wsX1_listIfSupport (wsV RX1 95 RX1 yX1_allowedDirection wsX1_allowedDirection) := goodIn_app (goodIn_of _ (by decide +kernel)) ggX1_listIfSupport_X1_allowedDirection
set_option maxRecDepth 20000 in
theorem ggX1_listIfSupport_X1_list : GoodIn wsX1_listIfSupport wsX1_list := goodIn_r _ [73, 60, 74, 1, 75, 76, 77, 6, 78, 79, 80, 18, 81, 82, 54, 55, 83, 84, 85, 86, 87, 88, 89, 90, 91] (by decide +kernel) (by decide +kernel)
set_option maxRecDepth 20000 in
theorem gX1_listIfSupport_X1_list : GoodIn wsX1_listIfSupport (wsV RX1 98 RX1 yX1_list wsX1_list) := goodIn_app (goodIn_of _ (by decide +kernel)) ggX1_listIfSupport_X1_list
theorem dX1_listIfSupport_0 : decode cX1_listIfSupport 0 = .ok (.aload_n 0, 1) := by decide +kernel
theorem dX1_listIfSupport_1 : decode cX1_listIfSupport 1 = .ok (.getfield 40, 3) := by decide +kernel
theorem dX1_listIfSupport_4 : decode cX1_listIfSupport 4 = .ok (.bipush 70, 2) := by decide +kernel
theorem dX1_listIfSupport_6 : decode cX1_listIfSupport 6 = .ok (.if_icmp .lt 4, 3) := by decide +kernel
theorem dX1_listIfSupport_9 : decode cX1_listIfSupport 9 = .ok (.return_, 1) := by decide +kernel
theorem dX1_listIfSupport_10 : decode cX1_listIfSupport 10 = .ok (.aload_n 0, 1) := by decide +kernel
theorem dX1_listIfSupport_11 : decode cX1_listIfSupport 11 = .ok (.iload_n 1, 1) := by decide +kernel
theorem dX1_listIfSupport_12 : decode cX1_listIfSupport 12 = .ok (.invokevirtual 85, 3) := by decide +kernel
theorem dX1_listIfSupport_15 : decode cX1_listIfSupport 15 = .ok (.aload_n 0, 1) := by decide +kernel
theorem dX1_listIfSupport_16 : decode cX1_listIfSupport 16 = .ok (.getfield 22, 3) := by decide +kernel
theorem dX1_listIfSupport_19 : decode cX1_listIfSupport 19 = .ok (.invokevirtual 88, 3) := by decide +kernel
theorem dX1_listIfSupport_22 : decode cX1_listIfSupport 22 = .ok (.ifCond .ne 4, 3) := by decide +kernel
theorem dX1_listIfSupport_25 : decode cX1_listIfSupport 25 = .ok (.return_, 1) := by decide +kernel
theorem dX1_listIfSupport_26 : decode cX1_listIfSupport 26 = .ok (.aload_n 0, 1) := by decide +kernel
theorem dX1_listIfSupport_27 : decode cX1_listIfSupport 27 = .ok (.iload_n 1, 1) := by decide +kernel
theorem dX1_listIfSupport_28 : decode cX1_listIfSupport 28 = .ok (.invokevirtual 92, 3) := by decide +kernel
theorem dX1_listIfSupport_31 : decode cX1_listIfSupport 31 = .ok (.aload_n 0, 1) := by decide +kernel
theorem dX1_listIfSupport_32 : decode cX1_listIfSupport 32 = .ok (.iload_n 1, 1) := by decide +kernel
theorem dX1_listIfSupport_33 : decode cX1_listIfSupport 33 = .ok (.invokevirtual 95, 3) := by decide +kernel
theorem dX1_listIfSupport_36 : decode cX1_listIfSupport 36 = .ok (.istore_n 2, 1) := by decide +kernel
theorem dX1_listIfSupport_37 : decode cX1_listIfSupport 37 = .ok (.iload_n 2, 1) := by decide +kernel
theorem dX1_listIfSupport_38 : decode cX1_listIfSupport 38 = .ok (.ifCond .eq 9, 3) := by decide +kernel
theorem dX1_listIfSupport_41 : decode cX1_listIfSupport 41 = .ok (.aload_n 0, 1) := by decide +kernel
theorem dX1_listIfSupport_42 : decode cX1_listIfSupport 42 = .ok (.iload_n 1, 1) := by decide +kernel
theorem dX1_listIfSupport_43 : decode cX1_listIfSupport 43 = .ok (.iload_n 2, 1) := by decide +kernel
theorem dX1_listIfSupport_44 : decode cX1_listIfSupport 44 = .ok (.invokevirtual 98, 3) := by decide +kernel
theorem dX1_listIfSupport_47 : decode cX1_listIfSupport 47 = .ok (.return_, 1) := by decide +kernel
set_option maxRecDepth 20000 in
theorem ggX1_loadColumns_X0_begin : GoodIn wsX1_loadColumns wsX0_begin := goodIn_r _ [9, 10, 11, 12, 13, 14, 15, 16, 17, 18, 19, 38, 39, 40, 41] (by decide +kernel) (by decide +kernel)
set_option maxRecDepth 20000 in
theorem gX1_loadColumns_X0_begin : GoodIn wsX1_loadColumns (wsV RX1 102 RX0 yX0_begin wsX0_begin) := goodIn_app (goodIn_of _ (by decide +kernel)) ggX1_loadColumns_X0_begin
set_option maxRecDepth 20000 in
theorem ggX1_loadColumns_X1_has : GoodIn wsX1_loadColumns wsX1_has := goodIn_r _ [23] (by decide +kernel) (by decide +kernel)
set_option maxRecDepth 20000 in
theorem gX1_loadColumns_X1_has : GoodIn wsX1_loadColumns (va_wsS RX1 70 yX1_has wsX1_has) := goodIn_app (goodIn_of _ (by decide +kernel)) ggX1_loadColumns_X1_has
set_option maxRecDepth 20000 in
theorem ggX1_loadColumns_X0_addColumn : GoodIn wsX1_loadColumns wsX0_addColumn := goodIn_r _ [27, 18, 17, 28, 38, 39, 40, 41] (by decide +kernel) (by decide +kernel)
set_option maxRecDepth 20000 in
theorem gX1_loadColumns_X0_addColumn : GoodIn wsX1_loadColumns (wsV RX1 105 RX0 yX0_addColumn wsX0_addColumn) := goodIn_app (goodIn_of _ (by decide +kernel)) ggX1_loadColumns_X0_addColumn
theorem dX1_loadColumns_0 : decode cX1_loadColumns 0 = .ok (.aload_n 0, 1) := by decide +kernel
theorem dX1_loadColumns_1 : decode cX1_loadColumns 1 = .ok (.getfield 22, 3) := by decide +kernel
theorem dX1_loadColumns_4 : decode cX1_loadColumns 4 = .ok (.aload_n 0, 1) := by decide +kernel
theorem dX1_loadColumns_5 : decode cX1_loadColumns 5 = .ok (.getfield 30, 3) := by decide +kernel
theorem dX1_loadColumns_8 : decode cX1_loadColumns 8 = .ok (.invokevirtual 102, 3) := by decide +kernel
theorem dX1_loadColumns_11 : decode cX1_loadColumns 11 = .ok (.iconst 0, 1) := by decide +kernel
theorem dX1_loadColumns_12 : decode cX1_loadColumns 12 = .ok (.istore_n 2, 1) := by decide +kernel
theorem dX1_loadColumns_13 : decode cX1_loadColumns 13 = .ok (.iload_n 2, 1) := by decide +kernel
theorem dX1_loadColumns_14 : decode cX1_loadColumns 14 = .ok (.aload_n 0, 1) := by decide +kernel
theorem dX1_loadColumns_15 : decode cX1_loadColumns 15 = .ok (.getfield 34, 3) := by decide +kernel
theorem dX1_loadColumns_18 : decode cX1_loadColumns 18 = .ok (.if_icmp .ge 29, 3) := by decide +kernel
theorem dX1_loadColumns_21 : decode cX1_loadColumns 21 = .ok (.iload_n 1, 1) := by decide +kernel
theorem dX1_loadColumns_22 : decode cX1_loadColumns 22 = .ok (.iload_n 2, 1) := by decide +kernel
theorem dX1_loadColumns_23 : decode cX1_loadColumns 23 = .ok (.invokestatic 70, 3) := by decide +kernel
theorem dX1_loadColumns_26 : decode cX1_loadColumns 26 = .ok (.ifCond .eq 15, 3) := by decide +kernel
theorem dX1_loadColumns_29 : decode cX1_loadColumns 29 = .ok (.aload_n 0, 1) := by decide +kernel
theorem dX1_loadColumns_30 : decode cX1_loadColumns 30 = .ok (.getfield 22, 3) := by decide +kernel
theorem dX1_loadColumns_33 : decode cX1_loadColumns 33 = .ok (.aload_n 0, 1) := by decide +kernel
theorem dX1_loadColumns_34 : decode cX1_loadColumns 34 = .ok (.getfield 9, 3) := by decide +kernel
theorem dX1_loadColumns_37 : decode cX1_loadColumns 37 = .ok (.iload_n 2, 1) := by decide +kernel
theorem dX1_loadColumns_38 : decode cX1_loadColumns 38 = .ok (.invokevirtual 105, 3) := by decide +kernel
theorem dX1_loadColumns_41 : decode cX1_loadColumns 41 = .ok (.iinc 2 1, 3) := by decide +kernel
theorem dX1_loadColumns_44 : decode cX1_loadColumns 44 = .ok (.goto (-31), 3) := by decide +kernel
theorem dX1_loadColumns_47 : decode cX1_loadColumns 47 = .ok (.return_, 1) := by decide +kernel
set_option maxRecDepth 20000 in
theorem ggX1_readFlow_X1_has : GoodIn wsX1_readFlow wsX1_has := goodIn_r _ [6] (by decide +kernel) (by decide +kernel)
set_option maxRecDepth 20000 in
theorem gX1_readFlow_X1_has : GoodIn wsX1_readFlow (va_wsS RX1 70 yX1_has wsX1_has) := goodIn_app (goodIn_of _ (by decide +kernel)) ggX1_readFlow_X1_has
set_option maxRecDepth 20000 in
theorem ggX1_readFlow_X0_flowAt : GoodIn wsX1_readFlow wsX0_flowAt := goodIn_r _ [11, 12, 13, 14, 15, 25, 26, 27, 28] (by decide +kernel) (by decide +kernel)
set_option maxRecDepth 20000 in
theorem gX1_readFlow_X0_flowAt : GoodIn wsX1_readFlow (wsV RX1 108 RX0 yX0_flowAt wsX0_flowAt) := goodIn_app (goodIn_of _ (by decide +kernel)) ggX1_readFlow_X0_flowAt
theorem dX1_readFlow_0 : decode cX1_readFlow 0 = .ok (.iconst 0, 1) := by decide +kernel
theorem dX1_readFlow_1 : decode cX1_readFlow 1 = .ok (.istore_n 2, 1) := by decide +kernel
theorem dX1_readFlow_2 : decode cX1_readFlow 2 = .ok (.iconst 0, 1) := by decide +kernel
theorem dX1_readFlow_3 : decode cX1_readFlow 3 = .ok (.istore_n 3, 1) := by decide +kernel
theorem dX1_readFlow_4 : decode cX1_readFlow 4 = .ok (.iload_n 3, 1) := by decide +kernel
theorem dX1_readFlow_5 : decode cX1_readFlow 5 = .ok (.bipush 8, 2) := by decide +kernel
theorem dX1_readFlow_7 : decode cX1_readFlow 7 = .ok (.if_icmp .ge 44, 3) := by decide +kernel
theorem dX1_readFlow_10 : decode cX1_readFlow 10 = .ok (.iload_n 1, 1) := by decide +kernel
theorem dX1_readFlow_11 : decode cX1_readFlow 11 = .ok (.iload_n 3, 1) := by decide +kernel
theorem dX1_readFlow_12 : decode cX1_readFlow 12 = .ok (.invokestatic 70, 3) := by decide +kernel
theorem dX1_readFlow_15 : decode cX1_readFlow 15 = .ok (.ifCond .eq 23, 3) := by decide +kernel
theorem dX1_readFlow_18 : decode cX1_readFlow 18 = .ok (.aload_n 0, 1) := by decide +kernel
theorem dX1_readFlow_19 : decode cX1_readFlow 19 = .ok (.getfield 26, 3) := by decide +kernel
theorem dX1_readFlow_22 : decode cX1_readFlow 22 = .ok (.iload_n 3, 1) := by decide +kernel
theorem dX1_readFlow_23 : decode cX1_readFlow 23 = .ok (.aload_n 0, 1) := by decide +kernel
theorem dX1_readFlow_24 : decode cX1_readFlow 24 = .ok (.getfield 22, 3) := by decide +kernel
theorem dX1_readFlow_27 : decode cX1_readFlow 27 = .ok (.iload_n 2, 1) := by decide +kernel
theorem dX1_readFlow_28 : decode cX1_readFlow 28 = .ok (.invokevirtual 108, 3) := by decide +kernel
theorem dX1_readFlow_31 : decode cX1_readFlow 31 = .ok (.lastore, 1) := by decide +kernel
theorem dX1_readFlow_32 : decode cX1_readFlow 32 = .ok (.iinc 2 1, 3) := by decide +kernel
theorem dX1_readFlow_35 : decode cX1_readFlow 35 = .ok (.goto 10, 3) := by decide +kernel
theorem dX1_readFlow_38 : decode cX1_readFlow 38 = .ok (.aload_n 0, 1) := by decide +kernel
theorem dX1_readFlow_39 : decode cX1_readFlow 39 = .ok (.getfield 26, 3) := by decide +kernel
theorem dX1_readFlow_42 : decode cX1_readFlow 42 = .ok (.iload_n 3, 1) := by decide +kernel
theorem dX1_readFlow_43 : decode cX1_readFlow 43 = .ok (.lconst 0, 1) := by decide +kernel
theorem dX1_readFlow_44 : decode cX1_readFlow 44 = .ok (.lastore, 1) := by decide +kernel
theorem dX1_readFlow_45 : decode cX1_readFlow 45 = .ok (.iinc 3 1, 3) := by decide +kernel
theorem dX1_readFlow_48 : decode cX1_readFlow 48 = .ok (.goto (-44), 3) := by decide +kernel
theorem dX1_readFlow_51 : decode cX1_readFlow 51 = .ok (.return_, 1) := by decide +kernel
theorem dX1_allowedDirection_0 : decode cX1_allowedDirection 0 = .ok (.iconst 0, 1) := by decide +kernel
theorem dX1_allowedDirection_1 : decode cX1_allowedDirection 1 = .ok (.istore_n 2, 1) := by decide +kernel
theorem dX1_allowedDirection_2 : decode cX1_allowedDirection 2 = .ok (.iconst 0, 1) := by decide +kernel
theorem dX1_allowedDirection_3 : decode cX1_allowedDirection 3 = .ok (.istore_n 3, 1) := by decide +kernel
theorem dX1_allowedDirection_4 : decode cX1_allowedDirection 4 = .ok (.iload_n 3, 1) := by decide +kernel
theorem dX1_allowedDirection_5 : decode cX1_allowedDirection 5 = .ok (.bipush 8, 2) := by decide +kernel
theorem dX1_allowedDirection_7 : decode cX1_allowedDirection 7 = .ok (.if_icmp .ge 26, 3) := by decide +kernel
theorem dX1_allowedDirection_10 : decode cX1_allowedDirection 10 = .ok (.aload_n 0, 1) := by decide +kernel
theorem dX1_allowedDirection_11 : decode cX1_allowedDirection 11 = .ok (.getfield 26, 3) := by decide +kernel
theorem dX1_allowedDirection_14 : decode cX1_allowedDirection 14 = .ok (.iload_n 3, 1) := by decide +kernel
theorem dX1_allowedDirection_15 : decode cX1_allowedDirection 15 = .ok (.laload, 1) := by decide +kernel
theorem dX1_allowedDirection_16 : decode cX1_allowedDirection 16 = .ok (.lconst 0, 1) := by decide +kernel
theorem dX1_allowedDirection_17 : decode cX1_allowedDirection 17 = .ok (.lcmp, 1) := by decide +kernel
theorem dX1_allowedDirection_18 : decode cX1_allowedDirection 18 = .ok (.ifCond .le 9, 3) := by decide +kernel
theorem dX1_allowedDirection_21 : decode cX1_allowedDirection 21 = .ok (.iload_n 2, 1) := by decide +kernel
theorem dX1_allowedDirection_22 : decode cX1_allowedDirection 22 = .ok (.iconst 1, 1) := by decide +kernel
theorem dX1_allowedDirection_23 : decode cX1_allowedDirection 23 = .ok (.iload_n 3, 1) := by decide +kernel
theorem dX1_allowedDirection_24 : decode cX1_allowedDirection 24 = .ok (.ishl, 1) := by decide +kernel
theorem dX1_allowedDirection_25 : decode cX1_allowedDirection 25 = .ok (.ior, 1) := by decide +kernel
theorem dX1_allowedDirection_26 : decode cX1_allowedDirection 26 = .ok (.istore_n 2, 1) := by decide +kernel
theorem dX1_allowedDirection_27 : decode cX1_allowedDirection 27 = .ok (.iinc 3 1, 3) := by decide +kernel
theorem dX1_allowedDirection_30 : decode cX1_allowedDirection 30 = .ok (.goto (-26), 3) := by decide +kernel
theorem dX1_allowedDirection_33 : decode cX1_allowedDirection 33 = .ok (.iload_n 1, 1) := by decide +kernel
theorem dX1_allowedDirection_34 : decode cX1_allowedDirection 34 = .ok (.iload_n 2, 1) := by decide +kernel
theorem dX1_allowedDirection_35 : decode cX1_allowedDirection 35 = .ok (.iconst (-1), 1) := by decide +kernel
theorem dX1_allowedDirection_36 : decode cX1_allowedDirection 36 = .ok (.ixor, 1) := by decide +kernel
theorem dX1_allowedDirection_37 : decode cX1_allowedDirection 37 = .ok (.iand, 1) := by decide +kernel
theorem dX1_allowedDirection_38 : decode cX1_allowedDirection 38 = .ok (.istore_n 3, 1) := by decide +kernel
theorem dX1_allowedDirection_39 : decode cX1_allowedDirection 39 = .ok (.iload_n 1, 1) := by decide +kernel
theorem dX1_allowedDirection_40 : decode cX1_allowedDirection 40 = .ok (.aload_n 0, 1) := by decide +kernel
theorem dX1_allowedDirection_41 : decode cX1_allowedDirection 41 = .ok (.getfield 37, 3) := by decide +kernel
theorem dX1_allowedDirection_44 : decode cX1_allowedDirection 44 = .ok (.iconst (-1), 1) := by decide +kernel
theorem dX1_allowedDirection_45 : decode cX1_allowedDirection 45 = .ok (.ixor, 1) := by decide +kernel
theorem dX1_allowedDirection_46 : decode cX1_allowedDirection 46 = .ok (.iand, 1) := by decide +kernel
theorem dX1_allowedDirection_47 : decode cX1_allowedDirection 47 = .ok (.istore 4, 2) := by decide +kernel
theorem dX1_allowedDirection_49 : decode cX1_allowedDirection 49 = .ok (.iload 4, 2) := by decide +kernel
theorem dX1_allowedDirection_51 : decode cX1_allowedDirection 51 = .ok (.ifCond .ne 22, 3) := by decide +kernel
theorem dX1_allowedDirection_54 : decode cX1_allowedDirection 54 = .ok (.iload_n 1, 1) := by decide +kernel
theorem dX1_allowedDirection_55 : decode cX1_allowedDirection 55 = .ok (.iload_n 1, 1) := by decide +kernel
theorem dX1_allowedDirection_56 : decode cX1_allowedDirection 56 = .ok (.ineg, 1) := by decide +kernel
theorem dX1_allowedDirection_57 : decode cX1_allowedDirection 57 = .ok (.iand, 1) := by decide +kernel
theorem dX1_allowedDirection_58 : decode cX1_allowedDirection 58 = .ok (.istore 5, 2) := by decide +kernel
theorem dX1_allowedDirection_60 : decode cX1_allowedDirection 60 = .ok (.iload_n 2, 1) := by decide +kernel
theorem dX1_allowedDirection_61 : decode cX1_allowedDirection 61 = .ok (.iload 5, 2) := by decide +kernel
theorem dX1_allowedDirection_63 : decode cX1_allowedDirection 63 = .ok (.iand, 1) := by decide +kernel
theorem dX1_allowedDirection_64 : decode cX1_allowedDirection 64 = .ok (.ifCond .eq 7, 3) := by decide +kernel
theorem dX1_allowedDirection_67 : decode cX1_allowedDirection 67 = .ok (.iconst 1, 1) := by decide +kernel
theorem dX1_allowedDirection_68 : decode cX1_allowedDirection 68 = .ok (.goto 4, 3) := by decide +kernel
theorem dX1_allowedDirection_71 : decode cX1_allowedDirection 71 = .ok (.iconst (-1), 1) := by decide +kernel
theorem dX1_allowedDirection_72 : decode cX1_allowedDirection 72 = .ok (.ireturn, 1) := by decide +kernel
theorem dX1_allowedDirection_73 : decode cX1_allowedDirection 73 = .ok (.iload 4, 2) := by decide +kernel
theorem dX1_allowedDirection_75 : decode cX1_allowedDirection 75 = .ok (.iload_n 3, 1) := by decide +kernel
theorem dX1_allowedDirection_76 : decode cX1_allowedDirection 76 = .ok (.iand, 1) := by decide +kernel
theorem dX1_allowedDirection_77 : decode cX1_allowedDirection 77 = .ok (.ifCond .ne 5, 3) := by decide +kernel
theorem dX1_allowedDirection_80 : decode cX1_allowedDirection 80 = .ok (.iconst 1, 1) := by decide +kernel
theorem dX1_allowedDirection_81 : decode cX1_allowedDirection 81 = .ok (.ireturn, 1) := by decide +kernel
theorem dX1_allowedDirection_82 : decode cX1_allowedDirection 82 = .ok (.iload 4, 2) := by decide +kernel
theorem dX1_allowedDirection_84 : decode cX1_allowedDirection 84 = .ok (.iload_n 2, 1) := by decide +kernel
theorem dX1_allowedDirection_85 : decode cX1_allowedDirection 85 = .ok (.iand, 1) := by decide +kernel
theorem dX1_allowedDirection_86 : decode cX1_allowedDirection 86 = .ok (.ifCond .ne 7, 3) := by decide +kernel
theorem dX1_allowedDirection_89 : decode cX1_allowedDirection 89 = .ok (.iconst (-1), 1) := by decide +kernel
theorem dX1_allowedDirection_90 : decode cX1_allowedDirection 90 = .ok (.goto 4, 3) := by decide +kernel
theorem dX1_allowedDirection_93 : decode cX1_allowedDirection 93 = .ok (.iconst 0, 1) := by decide +kernel
theorem dX1_allowedDirection_94 : decode cX1_allowedDirection 94 = .ok (.ireturn, 1) := by decide +kernel
set_option maxRecDepth 20000 in
theorem ggX1_list_X1_commonDivisor : GoodIn wsX1_list wsX1_commonDivisor := goodIn_r _ [8, 9, 10, 11, 12] (by decide +kernel) (by decide +kernel)
set_option maxRecDepth 20000 in
theorem gX1_list_X1_commonDivisor : GoodIn wsX1_list (va_wsS RX1 112 yX1_commonDivisor wsX1_commonDivisor) := goodIn_app (goodIn_of _ (by decide +kernel)) ggX1_list_X1_commonDivisor
set_option maxRecDepth 20000 in
theorem ggX1_list_X1_quotient : GoodIn wsX1_list wsX1_quotient := goodIn_r _ [15] (by decide +kernel) (by decide +kernel)
set_option maxRecDepth 20000 in
theorem gX1_list_X1_quotient : GoodIn wsX1_list (va_wsS RX1 116 yX1_quotient wsX1_quotient) := goodIn_app (goodIn_of _ (by decide +kernel)) ggX1_list_X1_quotient
theorem dX1_list_0 : decode cX1_list 0 = .ok (.lconst 0, 1) := by decide +kernel
theorem dX1_list_1 : decode cX1_list 1 = .ok (.lstore_n 3, 1) := by decide +kernel
theorem dX1_list_2 : decode cX1_list 2 = .ok (.iconst 0, 1) := by decide +kernel
theorem dX1_list_3 : decode cX1_list 3 = .ok (.istore 5, 2) := by decide +kernel
theorem dX1_list_5 : decode cX1_list 5 = .ok (.iload 5, 2) := by decide +kernel
theorem dX1_list_7 : decode cX1_list 7 = .ok (.bipush 8, 2) := by decide +kernel
theorem dX1_list_9 : decode cX1_list 9 = .ok (.if_icmp .ge 21, 3) := by decide +kernel
theorem dX1_list_12 : decode cX1_list 12 = .ok (.lload_n 3, 1) := by decide +kernel
theorem dX1_list_13 : decode cX1_list 13 = .ok (.aload_n 0, 1) := by decide +kernel
theorem dX1_list_14 : decode cX1_list 14 = .ok (.getfield 26, 3) := by decide +kernel
theorem dX1_list_17 : decode cX1_list 17 = .ok (.iload 5, 2) := by decide +kernel
theorem dX1_list_19 : decode cX1_list 19 = .ok (.laload, 1) := by decide +kernel
theorem dX1_list_20 : decode cX1_list 20 = .ok (.invokestatic 112, 3) := by decide +kernel
theorem dX1_list_23 : decode cX1_list 23 = .ok (.lstore_n 3, 1) := by decide +kernel
theorem dX1_list_24 : decode cX1_list 24 = .ok (.iinc 5 1, 3) := by decide +kernel
theorem dX1_list_27 : decode cX1_list 27 = .ok (.goto (-22), 3) := by decide +kernel
theorem dX1_list_30 : decode cX1_list 30 = .ok (.iconst 0, 1) := by decide +kernel
theorem dX1_list_31 : decode cX1_list 31 = .ok (.istore 5, 2) := by decide +kernel
theorem dX1_list_33 : decode cX1_list 33 = .ok (.iload 5, 2) := by decide +kernel
theorem dX1_list_35 : decode cX1_list 35 = .ok (.bipush 8, 2) := by decide +kernel
theorem dX1_list_37 : decode cX1_list 37 = .ok (.if_icmp .ge 43, 3) := by decide +kernel
theorem dX1_list_40 : decode cX1_list 40 = .ok (.iload_n 2, 1) := by decide +kernel
theorem dX1_list_41 : decode cX1_list 41 = .ok (.i2l, 1) := by decide +kernel
theorem dX1_list_42 : decode cX1_list 42 = .ok (.aload_n 0, 1) := by decide +kernel
theorem dX1_list_43 : decode cX1_list 43 = .ok (.getfield 26, 3) := by decide +kernel
theorem dX1_list_46 : decode cX1_list 46 = .ok (.iload 5, 2) := by decide +kernel
theorem dX1_list_48 : decode cX1_list 48 = .ok (.laload, 1) := by decide +kernel
theorem dX1_list_49 : decode cX1_list 49 = .ok (.lload_n 3, 1) := by decide +kernel
theorem dX1_list_50 : decode cX1_list 50 = .ok (.invokestatic 116, 3) := by decide +kernel
theorem dX1_list_53 : decode cX1_list 53 = .ok (.lmul, 1) := by decide +kernel
theorem dX1_list_54 : decode cX1_list 54 = .ok (.lstore 6, 2) := by decide +kernel
theorem dX1_list_56 : decode cX1_list 56 = .ok (.aload_n 0, 1) := by decide +kernel
theorem dX1_list_57 : decode cX1_list 57 = .ok (.getfield 16, 3) := by decide +kernel
theorem dX1_list_60 : decode cX1_list 60 = .ok (.aload_n 0, 1) := by decide +kernel
theorem dX1_list_61 : decode cX1_list 61 = .ok (.getfield 40, 3) := by decide +kernel
theorem dX1_list_64 : decode cX1_list 64 = .ok (.bipush 8, 2) := by decide +kernel
theorem dX1_list_66 : decode cX1_list 66 = .ok (.imul, 1) := by decide +kernel
theorem dX1_list_67 : decode cX1_list 67 = .ok (.iload 5, 2) := by decide +kernel
theorem dX1_list_69 : decode cX1_list 69 = .ok (.iadd, 1) := by decide +kernel
theorem dX1_list_70 : decode cX1_list 70 = .ok (.lload 6, 2) := by decide +kernel
theorem dX1_list_72 : decode cX1_list 72 = .ok (.l2i, 1) := by decide +kernel
theorem dX1_list_73 : decode cX1_list 73 = .ok (.iastore, 1) := by decide +kernel
theorem dX1_list_74 : decode cX1_list 74 = .ok (.iinc 5 1, 3) := by decide +kernel
theorem dX1_list_77 : decode cX1_list 77 = .ok (.goto (-44), 3) := by decide +kernel
theorem dX1_list_80 : decode cX1_list 80 = .ok (.aload_n 0, 1) := by decide +kernel
theorem dX1_list_81 : decode cX1_list 81 = .ok (.getfield 13, 3) := by decide +kernel
theorem dX1_list_84 : decode cX1_list 84 = .ok (.aload_n 0, 1) := by decide +kernel
theorem dX1_list_85 : decode cX1_list 85 = .ok (.getfield 40, 3) := by decide +kernel
theorem dX1_list_88 : decode cX1_list 88 = .ok (.iload_n 1, 1) := by decide +kernel
theorem dX1_list_89 : decode cX1_list 89 = .ok (.iastore, 1) := by decide +kernel
theorem dX1_list_90 : decode cX1_list 90 = .ok (.aload_n 0, 1) := by decide +kernel
theorem dX1_list_91 : decode cX1_list 91 = .ok (.dup, 1) := by decide +kernel
theorem dX1_list_92 : decode cX1_list 92 = .ok (.getfield 40, 3) := by decide +kernel
theorem dX1_list_95 : decode cX1_list 95 = .ok (.iconst 1, 1) := by decide +kernel
theorem dX1_list_96 : decode cX1_list 96 = .ok (.iadd, 1) := by decide +kernel
theorem dX1_list_97 : decode cX1_list 97 = .ok (.putfield 40, 3) := by decide +kernel
theorem dX1_list_100 : decode cX1_list 100 = .ok (.return_, 1) := by decide +kernel
theorem dX1_commonDivisor_0 : decode cX1_commonDivisor 0 = .ok (.lload_n 0, 1) := by decide +kernel
theorem dX1_commonDivisor_1 : decode cX1_commonDivisor 1 = .ok (.invokestatic 119, 3) := by decide +kernel
theorem dX1_commonDivisor_4 : decode cX1_commonDivisor 4 = .ok (.lstore 4, 2) := by decide +kernel
theorem dX1_commonDivisor_6 : decode cX1_commonDivisor 6 = .ok (.lload_n 2, 1) := by decide +kernel
theorem dX1_commonDivisor_7 : decode cX1_commonDivisor 7 = .ok (.invokestatic 119, 3) := by decide +kernel
theorem dX1_commonDivisor_10 : decode cX1_commonDivisor 10 = .ok (.lstore 6, 2) := by decide +kernel
theorem dX1_commonDivisor_12 : decode cX1_commonDivisor 12 = .ok (.iconst 0, 1) := by decide +kernel
theorem dX1_commonDivisor_13 : decode cX1_commonDivisor 13 = .ok (.istore 8, 2) := by decide +kernel
theorem dX1_commonDivisor_15 : decode cX1_commonDivisor 15 = .ok (.iload 8, 2) := by decide +kernel
theorem dX1_commonDivisor_17 : decode cX1_commonDivisor 17 = .ok (.bipush 100, 2) := by decide +kernel
theorem dX1_commonDivisor_19 : decode cX1_commonDivisor 19 = .ok (.if_icmp .ge 31, 3) := by decide +kernel
theorem dX1_commonDivisor_22 : decode cX1_commonDivisor 22 = .ok (.lload 6, 2) := by decide +kernel
theorem dX1_commonDivisor_24 : decode cX1_commonDivisor 24 = .ok (.lconst 0, 1) := by decide +kernel
theorem dX1_commonDivisor_25 : decode cX1_commonDivisor 25 = .ok (.lcmp, 1) := by decide +kernel
theorem dX1_commonDivisor_26 : decode cX1_commonDivisor 26 = .ok (.ifCond .eq 24, 3) := by decide +kernel
theorem dX1_commonDivisor_29 : decode cX1_commonDivisor 29 = .ok (.lload 4, 2) := by decide +kernel
theorem dX1_commonDivisor_31 : decode cX1_commonDivisor 31 = .ok (.lload 6, 2) := by decide +kernel
theorem dX1_commonDivisor_33 : decode cX1_commonDivisor 33 = .ok (.lrem, 1) := by decide +kernel
theorem dX1_commonDivisor_34 : decode cX1_commonDivisor 34 = .ok (.lstore 9, 2) := by decide +kernel
theorem dX1_commonDivisor_36 : decode cX1_commonDivisor 36 = .ok (.lload 6, 2) := by decide +kernel
theorem dX1_commonDivisor_38 : decode cX1_commonDivisor 38 = .ok (.lstore 4, 2) := by decide +kernel
theorem dX1_commonDivisor_40 : decode cX1_commonDivisor 40 = .ok (.lload 9, 2) := by decide +kernel
theorem dX1_commonDivisor_42 : decode cX1_commonDivisor 42 = .ok (.lstore 6, 2) := by decide +kernel
theorem dX1_commonDivisor_44 : decode cX1_commonDivisor 44 = .ok (.iinc 8 1, 3) := by decide +kernel
theorem dX1_commonDivisor_47 : decode cX1_commonDivisor 47 = .ok (.goto (-32), 3) := by decide +kernel
theorem dX1_commonDivisor_50 : decode cX1_commonDivisor 50 = .ok (.lload 4, 2) := by decide +kernel
theorem dX1_commonDivisor_52 : decode cX1_commonDivisor 52 = .ok (.lreturn, 1) := by decide +kernel
theorem dX1_quotient_0 : decode cX1_quotient 0 = .ok (.lload_n 2, 1) := by decide +kernel
theorem dX1_quotient_1 : decode cX1_quotient 1 = .ok (.lconst 0, 1) := by decide +kernel
theorem dX1_quotient_2 : decode cX1_quotient 2 = .ok (.lcmp, 1) := by decide +kernel
theorem dX1_quotient_3 : decode cX1_quotient 3 = .ok (.ifCond .ne 7, 3) := by decide +kernel
theorem dX1_quotient_6 : decode cX1_quotient 6 = .ok (.lconst 0, 1) := by decide +kernel
theorem dX1_quotient_7 : decode cX1_quotient 7 = .ok (.goto 6, 3) := by decide +kernel
theorem dX1_quotient_10 : decode cX1_quotient 10 = .ok (.lload_n 0, 1) := by decide +kernel
theorem dX1_quotient_11 : decode cX1_quotient 11 = .ok (.lload_n 2, 1) := by decide +kernel
theorem dX1_quotient_12 : decode cX1_quotient 12 = .ok (.ldiv, 1) := by decide +kernel
theorem dX1_quotient_13 : decode cX1_quotient 13 = .ok (.lreturn, 1) := by decide +kernel
theorem dX2_init_0 : decode cX2_init 0 = .ok (.aload_n 0, 1) := by decide +kernel
theorem dX2_init_1 : decode cX2_init 1 = .ok (.invokespecial 1, 3) := by decide +kernel
theorem dX2_init_4 : decode cX2_init 4 = .ok (.aload_n 0, 1) := by decide +kernel
theorem dX2_init_5 : decode cX2_init 5 = .ok (.bipush 48, 2) := by decide +kernel
theorem dX2_init_7 : decode cX2_init 7 = .ok (.newarray .int, 2) := by decide +kernel
theorem dX2_init_9 : decode cX2_init 9 = .ok (.putfield 7, 3) := by decide +kernel
theorem dX2_init_12 : decode cX2_init 12 = .ok (.aload_n 0, 1) := by decide +kernel
theorem dX2_init_13 : decode cX2_init 13 = .ok (.bipush 8, 2) := by decide +kernel
theorem dX2_init_15 : decode cX2_init 15 = .ok (.newarray .boolean, 2) := by decide +kernel
theorem dX2_init_17 : decode cX2_init 17 = .ok (.putfield 13, 3) := by decide +kernel
theorem dX2_init_20 : decode cX2_init 20 = .ok (.aload_n 0, 1) := by decide +kernel
theorem dX2_init_21 : decode cX2_init 21 = .ok (.bipush 70, 2) := by decide +kernel
theorem dX2_init_23 : decode cX2_init 23 = .ok (.newarray .int, 2) := by decide +kernel
theorem dX2_init_25 : decode cX2_init 25 = .ok (.putfield 17, 3) := by decide +kernel
theorem dX2_init_28 : decode cX2_init 28 = .ok (.aload_n 0, 1) := by decide +kernel
theorem dX2_init_29 : decode cX2_init 29 = .ok (.sipush 560, 3) := by decide +kernel
theorem dX2_init_32 : decode cX2_init 32 = .ok (.newarray .int, 2) := by decide +kernel
theorem dX2_init_34 : decode cX2_init 34 = .ok (.putfield 20, 3) := by decide +kernel
theorem dX2_init_37 : decode cX2_init 37 = .ok (.aload_n 0, 1) := by decide +kernel
theorem dX2_init_38 : decode cX2_init 38 = .ok (.bipush 48, 2) := by decide +kernel
theorem dX2_init_40 : decode cX2_init 40 = .ok (.newarray .long, 2) := by decide +kernel
theorem dX2_init_42 : decode cX2_init 42 = .ok (.putfield 23, 3) := by decide +kernel
theorem dX2_init_45 : decode cX2_init 45 = .ok (.aload_n 0, 1) := by decide +kernel
theorem dX2_init_46 : decode cX2_init 46 = .ok (.bipush 8, 2) := by decide +kernel
theorem dX2_init_48 : decode cX2_init 48 = .ok (.newarray .int, 2) := by decide +kernel
theorem dX2_init_50 : decode cX2_init 50 = .ok (.putfield 27, 3) := by decide +kernel
theorem dX2_init_53 : decode cX2_init 53 = .ok (.aload_n 0, 1) := by decide +kernel
theorem dX2_init_54 : decode cX2_init 54 = .ok (.bipush 8, 2) := by decide +kernel
theorem dX2_init_56 : decode cX2_init 56 = .ok (.newarray .long, 2) := by decide +kernel
theorem dX2_init_58 : decode cX2_init 58 = .ok (.putfield 30, 3) := by decide +kernel
theorem dX2_init_61 : decode cX2_init 61 = .ok (.aload_n 0, 1) := by decide +kernel
theorem dX2_init_62 : decode cX2_init 62 = .ok (.iconst 1, 1) := by decide +kernel
theorem dX2_init_63 : decode cX2_init 63 = .ok (.putfield 33, 3) := by decide +kernel
theorem dX2_init_66 : decode cX2_init 66 = .ok (.return_, 1) := by decide +kernel
theorem dX2_size_0 : decode cX2_size 0 = .ok (.iload_n 1, 1) := by decide +kernel
theorem dX2_size_1 : decode cX2_size 1 = .ok (.ifCond .lt 20, 3) := by decide +kernel
theorem dX2_size_4 : decode cX2_size 4 = .ok (.iload_n 1, 1) := by decide +kernel
theorem dX2_size_5 : decode cX2_size 5 = .ok (.bipush 6, 2) := by decide +kernel
theorem dX2_size_7 : decode cX2_size 7 = .ok (.if_icmp .gt 14, 3) := by decide +kernel
theorem dX2_size_10 : decode cX2_size 10 = .ok (.iload_n 2, 1) := by decide +kernel
theorem dX2_size_11 : decode cX2_size 11 = .ok (.iconst 1, 1) := by decide +kernel
theorem dX2_size_12 : decode cX2_size 12 = .ok (.if_icmp .lt 9, 3) := by decide +kernel
theorem dX2_size_15 : decode cX2_size 15 = .ok (.iload_n 2, 1) := by decide +kernel
theorem dX2_size_16 : decode cX2_size 16 = .ok (.bipush 8, 2) := by decide +kernel
theorem dX2_size_18 : decode cX2_size 18 = .ok (.if_icmp .le 5, 3) := by decide +kernel
theorem dX2_size_21 : decode cX2_size 21 = .ok (.iconst 0, 1) := by decide +kernel
theorem dX2_size_22 : decode cX2_size 22 = .ok (.ireturn, 1) := by decide +kernel
theorem dX2_size_23 : decode cX2_size 23 = .ok (.aload_n 0, 1) := by decide +kernel
theorem dX2_size_24 : decode cX2_size 24 = .ok (.iload_n 1, 1) := by decide +kernel
theorem dX2_size_25 : decode cX2_size 25 = .ok (.putfield 37, 3) := by decide +kernel
theorem dX2_size_28 : decode cX2_size 28 = .ok (.aload_n 0, 1) := by decide +kernel
theorem dX2_size_29 : decode cX2_size 29 = .ok (.iload_n 2, 1) := by decide +kernel
theorem dX2_size_30 : decode cX2_size 30 = .ok (.putfield 33, 3) := by decide +kernel
theorem dX2_size_33 : decode cX2_size 33 = .ok (.iconst 0, 1) := by decide +kernel
theorem dX2_size_34 : decode cX2_size 34 = .ok (.istore_n 3, 1) := by decide +kernel
theorem dX2_size_35 : decode cX2_size 35 = .ok (.iload_n 3, 1) := by decide +kernel
theorem dX2_size_36 : decode cX2_size 36 = .ok (.bipush 48, 2) := by decide +kernel
theorem dX2_size_38 : decode cX2_size 38 = .ok (.if_icmp .ge 16, 3) := by decide +kernel
theorem dX2_size_41 : decode cX2_size 41 = .ok (.aload_n 0, 1) := by decide +kernel
theorem dX2_size_42 : decode cX2_size 42 = .ok (.getfield 7, 3) := by decide +kernel
theorem dX2_size_45 : decode cX2_size 45 = .ok (.iload_n 3, 1) := by decide +kernel
theorem dX2_size_46 : decode cX2_size 46 = .ok (.iconst 0, 1) := by decide +kernel
theorem dX2_size_47 : decode cX2_size 47 = .ok (.iastore, 1) := by decide +kernel
theorem dX2_size_48 : decode cX2_size 48 = .ok (.iinc 3 1, 3) := by decide +kernel
theorem dX2_size_51 : decode cX2_size 51 = .ok (.goto (-16), 3) := by decide +kernel
theorem dX2_size_54 : decode cX2_size 54 = .ok (.iconst 0, 1) := by decide +kernel
theorem dX2_size_55 : decode cX2_size 55 = .ok (.istore_n 3, 1) := by decide +kernel
theorem dX2_size_56 : decode cX2_size 56 = .ok (.iload_n 3, 1) := by decide +kernel
theorem dX2_size_57 : decode cX2_size 57 = .ok (.bipush 8, 2) := by decide +kernel
theorem dX2_size_59 : decode cX2_size 59 = .ok (.if_icmp .ge 16, 3) := by decide +kernel
theorem dX2_size_62 : decode cX2_size 62 = .ok (.aload_n 0, 1) := by decide +kernel
theorem dX2_size_63 : decode cX2_size 63 = .ok (.getfield 13, 3) := by decide +kernel
theorem dX2_size_66 : decode cX2_size 66 = .ok (.iload_n 3, 1) := by decide +kernel
theorem dX2_size_67 : decode cX2_size 67 = .ok (.iconst 0, 1) := by decide +kernel
theorem dX2_size_68 : decode cX2_size 68 = .ok (.bastore, 1) := by decide +kernel
theorem dX2_size_69 : decode cX2_size 69 = .ok (.iinc 3 1, 3) := by decide +kernel
theorem dX2_size_72 : decode cX2_size 72 = .ok (.goto (-16), 3) := by decide +kernel
theorem dX2_size_75 : decode cX2_size 75 = .ok (.aload_n 0, 1) := by decide +kernel
theorem dX2_size_76 : decode cX2_size 76 = .ok (.iconst 0, 1) := by decide +kernel
theorem dX2_size_77 : decode cX2_size 77 = .ok (.putfield 40, 3) := by decide +kernel
theorem dX2_size_80 : decode cX2_size 80 = .ok (.iconst 1, 1) := by decide +kernel
theorem dX2_size_81 : decode cX2_size 81 = .ok (.ireturn, 1) := by decide +kernel
theorem dX2_there_0 : decode cX2_there 0 = .ok (.iload_n 1, 1) := by decide +kernel
theorem dX2_there_1 : decode cX2_there 1 = .ok (.ifCond .lt 27, 3) := by decide +kernel
theorem dX2_there_4 : decode cX2_there 4 = .ok (.iload_n 1, 1) := by decide +kernel
theorem dX2_there_5 : decode cX2_there 5 = .ok (.aload_n 0, 1) := by decide +kernel
theorem dX2_there_6 : decode cX2_there 6 = .ok (.getfield 37, 3) := by decide +kernel
theorem dX2_there_9 : decode cX2_there 9 = .ok (.if_icmp .ge 19, 3) := by decide +kernel
theorem dX2_there_12 : decode cX2_there 12 = .ok (.iload_n 2, 1) := by decide +kernel
theorem dX2_there_13 : decode cX2_there 13 = .ok (.ifCond .lt 15, 3) := by decide +kernel
theorem dX2_there_16 : decode cX2_there 16 = .ok (.iload_n 2, 1) := by decide +kernel
theorem dX2_there_17 : decode cX2_there 17 = .ok (.aload_n 0, 1) := by decide +kernel
theorem dX2_there_18 : decode cX2_there 18 = .ok (.getfield 33, 3) := by decide +kernel
theorem dX2_there_21 : decode cX2_there 21 = .ok (.if_icmp .ge 7, 3) := by decide +kernel
theorem dX2_there_24 : decode cX2_there 24 = .ok (.iconst 1, 1) := by decide +kernel
theorem dX2_there_25 : decode cX2_there 25 = .ok (.goto 4, 3) := by decide +kernel
theorem dX2_there_28 : decode cX2_there 28 = .ok (.iconst 0, 1) := by decide +kernel
theorem dX2_there_29 : decode cX2_there 29 = .ok (.ireturn, 1) := by decide +kernel
set_option maxRecDepth 20000 in
theorem ggX2_enter_X2_there : GoodIn wsX2_enter wsX2_there := goodIn_r _ [6, 7, 8, 9, 10, 11, 12, 13, 14, 15, 16, 17, 18] (by decide +kernel) (by decide +kernel)
set_option maxRecDepth 20000 in
theorem gX2_enter_X2_there : GoodIn wsX2_enter (wsV RX2 43 RX2 yX2_there wsX2_there) := goodIn_app (goodIn_of _ (by decide +kernel)) ggX2_enter_X2_there
theorem dX2_enter_0 : decode cX2_enter 0 = .ok (.aload_n 0, 1) := by decide +kernel
theorem dX2_enter_1 : decode cX2_enter 1 = .ok (.iload_n 1, 1) := by decide +kernel
theorem dX2_enter_2 : decode cX2_enter 2 = .ok (.iload_n 2, 1) := by decide +kernel
theorem dX2_enter_3 : decode cX2_enter 3 = .ok (.invokevirtual 43, 3) := by decide +kernel
theorem dX2_enter_6 : decode cX2_enter 6 = .ok (.ifCond .eq 15, 3) := by decide +kernel
theorem dX2_enter_9 : decode cX2_enter 9 = .ok (.iload_n 3, 1) := by decide +kernel
theorem dX2_enter_10 : decode cX2_enter 10 = .ok (.bipush (-9), 2) := by decide +kernel
theorem dX2_enter_12 : decode cX2_enter 12 = .ok (.if_icmp .lt 9, 3) := by decide +kernel
theorem dX2_enter_15 : decode cX2_enter 15 = .ok (.iload_n 3, 1) := by decide +kernel
theorem dX2_enter_16 : decode cX2_enter 16 = .ok (.bipush 9, 2) := by decide +kernel
theorem dX2_enter_18 : decode cX2_enter 18 = .ok (.if_icmp .le 5, 3) := by decide +kernel
theorem dX2_enter_21 : decode cX2_enter 21 = .ok (.iconst 0, 1) := by decide +kernel
theorem dX2_enter_22 : decode cX2_enter 22 = .ok (.ireturn, 1) := by decide +kernel
theorem dX2_enter_23 : decode cX2_enter 23 = .ok (.aload_n 0, 1) := by decide +kernel
theorem dX2_enter_24 : decode cX2_enter 24 = .ok (.getfield 7, 3) := by decide +kernel
theorem dX2_enter_27 : decode cX2_enter 27 = .ok (.bipush 8, 2) := by decide +kernel
theorem dX2_enter_29 : decode cX2_enter 29 = .ok (.iload_n 1, 1) := by decide +kernel
theorem dX2_enter_30 : decode cX2_enter 30 = .ok (.imul, 1) := by decide +kernel
theorem dX2_enter_31 : decode cX2_enter 31 = .ok (.iload_n 2, 1) := by decide +kernel
theorem dX2_enter_32 : decode cX2_enter 32 = .ok (.iadd, 1) := by decide +kernel
theorem dX2_enter_33 : decode cX2_enter 33 = .ok (.iload_n 3, 1) := by decide +kernel
theorem dX2_enter_34 : decode cX2_enter 34 = .ok (.iastore, 1) := by decide +kernel
theorem dX2_enter_35 : decode cX2_enter 35 = .ok (.iconst 1, 1) := by decide +kernel
theorem dX2_enter_36 : decode cX2_enter 36 = .ok (.ireturn, 1) := by decide +kernel
set_option maxRecDepth 20000 in
theorem ggX2_entry_X2_there : GoodIn wsX2_entry wsX2_there := goodIn_r _ [6, 7, 8, 9, 10, 11, 12, 13, 14, 15, 16, 17, 18] (by decide +kernel) (by decide +kernel)
set_option maxRecDepth 20000 in
theorem gX2_entry_X2_there : GoodIn wsX2_entry (wsV RX2 43 RX2 yX2_there wsX2_there) := goodIn_app (goodIn_of _ (by decide +kernel)) ggX2_entry_X2_there
theorem dX2_entry_0 : decode cX2_entry 0 = .ok (.aload_n 0, 1) := by decide +kernel
theorem dX2_entry_1 : decode cX2_entry 1 = .ok (.iload_n 1, 1) := by decide +kernel
theorem dX2_entry_2 : decode cX2_entry 2 = .ok (.iload_n 2, 1) := by decide +kernel
theorem dX2_entry_3 : decode cX2_entry 3 = .ok (.invokevirtual 43, 3) := by decide +kernel
theorem dX2_entry_6 : decode cX2_entry 6 = .ok (.ifCond .eq 17, 3) := by decide +kernel
theorem dX2_entry_9 : decode cX2_entry 9 = .ok (.aload_n 0, 1) := by decide +kernel
theorem dX2_entry_10 : decode cX2_entry 10 = .ok (.getfield 7, 3) := by decide +kernel
theorem dX2_entry_13 : decode cX2_entry 13 = .ok (.bipush 8, 2) := by decide +kernel
theorem dX2_entry_15 : decode cX2_entry 15 = .ok (.iload_n 1, 1) := by decide +kernel
theorem dX2_entry_16 : decode cX2_entry 16 = .ok (.imul, 1) := by decide +kernel
theorem dX2_entry_17 : decode cX2_entry 17 = .ok (.iload_n 2, 1) := by decide +kernel
theorem dX2_entry_18 : decode cX2_entry 18 = .ok (.iadd, 1) := by decide +kernel
theorem dX2_entry_19 : decode cX2_entry 19 = .ok (.iaload, 1) := by decide +kernel
theorem dX2_entry_20 : decode cX2_entry 20 = .ok (.goto 4, 3) := by decide +kernel
theorem dX2_entry_23 : decode cX2_entry 23 = .ok (.iconst 0, 1) := by decide +kernel
theorem dX2_entry_24 : decode cX2_entry 24 = .ok (.ireturn, 1) := by decide +kernel
theorem dX2_reversible_0 : decode cX2_reversible 0 = .ok (.iload_n 1, 1) := by decide +kernel
theorem dX2_reversible_1 : decode cX2_reversible 1 = .ok (.ifCond .lt 11, 3) := by decide +kernel
theorem dX2_reversible_4 : decode cX2_reversible 4 = .ok (.iload_n 1, 1) := by decide +kernel
theorem dX2_reversible_5 : decode cX2_reversible 5 = .ok (.aload_n 0, 1) := by decide +kernel
theorem dX2_reversible_6 : decode cX2_reversible 6 = .ok (.getfield 33, 3) := by decide +kernel
theorem dX2_reversible_9 : decode cX2_reversible 9 = .ok (.if_icmp .lt 5, 3) := by decide +kernel
theorem dX2_reversible_12 : decode cX2_reversible 12 = .ok (.iconst 0, 1) := by decide +kernel
theorem dX2_reversible_13 : decode cX2_reversible 13 = .ok (.ireturn, 1) := by decide +kernel
theorem dX2_reversible_14 : decode cX2_reversible 14 = .ok (.aload_n 0, 1) := by decide +kernel
theorem dX2_reversible_15 : decode cX2_reversible 15 = .ok (.getfield 13, 3) := by decide +kernel
theorem dX2_reversible_18 : decode cX2_reversible 18 = .ok (.iload_n 1, 1) := by decide +kernel
theorem dX2_reversible_19 : decode cX2_reversible 19 = .ok (.iload_n 2, 1) := by decide +kernel
theorem dX2_reversible_20 : decode cX2_reversible 20 = .ok (.bastore, 1) := by decide +kernel
theorem dX2_reversible_21 : decode cX2_reversible 21 = .ok (.iconst 1, 1) := by decide +kernel
theorem dX2_reversible_22 : decode cX2_reversible 22 = .ok (.ireturn, 1) := by decide +kernel
theorem dX2_reversibles_0 : decode cX2_reversibles 0 = .ok (.iconst 0, 1) := by decide +kernel
theorem dX2_reversibles_1 : decode cX2_reversibles 1 = .ok (.istore_n 1, 1) := by decide +kernel
theorem dX2_reversibles_2 : decode cX2_reversibles 2 = .ok (.iconst 0, 1) := by decide +kernel
theorem dX2_reversibles_3 : decode cX2_reversibles 3 = .ok (.istore_n 2, 1) := by decide +kernel
theorem dX2_reversibles_4 : decode cX2_reversibles 4 = .ok (.iload_n 2, 1) := by decide +kernel
theorem dX2_reversibles_5 : decode cX2_reversibles 5 = .ok (.bipush 8, 2) := by decide +kernel
theorem dX2_reversibles_7 : decode cX2_reversibles 7 = .ok (.if_icmp .ge 24, 3) := by decide +kernel
theorem dX2_reversibles_10 : decode cX2_reversibles 10 = .ok (.aload_n 0, 1) := by decide +kernel
theorem dX2_reversibles_11 : decode cX2_reversibles 11 = .ok (.getfield 13, 3) := by decide +kernel
theorem dX2_reversibles_14 : decode cX2_reversibles 14 = .ok (.iload_n 2, 1) := by decide +kernel
theorem dX2_reversibles_15 : decode cX2_reversibles 15 = .ok (.baload, 1) := by decide +kernel
theorem dX2_reversibles_16 : decode cX2_reversibles 16 = .ok (.ifCond .eq 9, 3) := by decide +kernel
theorem dX2_reversibles_19 : decode cX2_reversibles 19 = .ok (.iload_n 1, 1) := by decide +kernel
theorem dX2_reversibles_20 : decode cX2_reversibles 20 = .ok (.iconst 1, 1) := by decide +kernel
theorem dX2_reversibles_21 : decode cX2_reversibles 21 = .ok (.iload_n 2, 1) := by decide +kernel
theorem dX2_reversibles_22 : decode cX2_reversibles 22 = .ok (.ishl, 1) := by decide +kernel
theorem dX2_reversibles_23 : decode cX2_reversibles 23 = .ok (.iadd, 1) := by decide +kernel
theorem dX2_reversibles_24 : decode cX2_reversibles 24 = .ok (.istore_n 1, 1) := by decide +kernel
theorem dX2_reversibles_25 : decode cX2_reversibles 25 = .ok (.iinc 2 1, 3) := by decide +kernel
theorem dX2_reversibles_28 : decode cX2_reversibles 28 = .ok (.goto (-24), 3) := by decide +kernel
theorem dX2_reversibles_31 : decode cX2_reversibles 31 = .ok (.iload_n 1, 1) := by decide +kernel
theorem dX2_reversibles_32 : decode cX2_reversibles 32 = .ok (.ireturn, 1) := by decide +kernel
set_option maxRecDepth 20000 in
theorem ggX2_solve_X2_straight : GoodIn wsX2_solve wsX2_straight := goodIn_r _ [7, 8, 9, 10, 11, 2, 12, 13, 14, 15, 6, 16, 17, 18, 19, 20, 32, 33, 34, 35, 36, 37, 38, 39, 40, 41] (by decide +kernel) (by decide +kernel)
set_option maxRecDepth 20000 in
theorem gX2_solve_X2_straight : GoodIn wsX2_solve (wsV RX2 47 RX2 yX2_straight wsX2_straight) := goodIn_app (goodIn_of _ (by decide +kernel)) ggX2_solve_X2_straight
set_option maxRecDepth 20000 in
theorem ggX2_solve_X2_signed : GoodIn wsX2_solve wsX2_signed := goodIn_r _ [24, 2, 11, 25, 32, 33, 34, 35, 36, 37, 38, 39, 40, 41] (by decide +kernel) (by decide +kernel)
set_option maxRecDepth 20000 in
theorem gX2_solve_X2_signed : GoodIn wsX2_solve (wsV RX2 51 RX2 yX2_signed wsX2_signed) := goodIn_app (goodIn_of _ (by decide +kernel)) ggX2_solve_X2_signed
set_option maxRecDepth 20000 in
theorem ggX2_solve_X2_list : GoodIn wsX2_solve wsX2_list := goodIn_r _ [29, 11, 30, 1, 31, 32, 33, 34, 35, 36, 37, 38, 39, 40, 41] (by decide +kernel) (by decide +kernel)
set_option maxRecDepth 20000 in
theorem gX2_solve_X2_list : GoodIn wsX2_solve (wsV RX2 54 RX2 yX2_list wsX2_list) := goodIn_app (goodIn_of _ (by decide +kernel)) ggX2_solve_X2_list
theorem dX2_solve_0 : decode cX2_solve 0 = .ok (.aload_n 0, 1) := by decide +kernel
theorem dX2_solve_1 : decode cX2_solve 1 = .ok (.iconst 0, 1) := by decide +kernel
theorem dX2_solve_2 : decode cX2_solve 2 = .ok (.putfield 40, 3) := by decide +kernel
theorem dX2_solve_5 : decode cX2_solve 5 = .ok (.iconst 1, 1) := by decide +kernel
theorem dX2_solve_6 : decode cX2_solve 6 = .ok (.istore_n 1, 1) := by decide +kernel
theorem dX2_solve_7 : decode cX2_solve 7 = .ok (.iload_n 1, 1) := by decide +kernel
theorem dX2_solve_8 : decode cX2_solve 8 = .ok (.sipush 256, 3) := by decide +kernel
theorem dX2_solve_11 : decode cX2_solve 11 = .ok (.if_icmp .ge 39, 3) := by decide +kernel
theorem dX2_solve_14 : decode cX2_solve 14 = .ok (.iload_n 1, 1) := by decide +kernel
theorem dX2_solve_15 : decode cX2_solve 15 = .ok (.aload_n 0, 1) := by decide +kernel
theorem dX2_solve_16 : decode cX2_solve 16 = .ok (.getfield 33, 3) := by decide +kernel
theorem dX2_solve_19 : decode cX2_solve 19 = .ok (.ishr, 1) := by decide +kernel
theorem dX2_solve_20 : decode cX2_solve 20 = .ok (.ifCond .ne 24, 3) := by decide +kernel
theorem dX2_solve_23 : decode cX2_solve 23 = .ok (.aload_n 0, 1) := by decide +kernel
theorem dX2_solve_24 : decode cX2_solve 24 = .ok (.iload_n 1, 1) := by decide +kernel
theorem dX2_solve_25 : decode cX2_solve 25 = .ok (.invokevirtual 47, 3) := by decide +kernel
theorem dX2_solve_28 : decode cX2_solve 28 = .ok (.ifCond .eq 16, 3) := by decide +kernel
theorem dX2_solve_31 : decode cX2_solve 31 = .ok (.aload_n 0, 1) := by decide +kernel
theorem dX2_solve_32 : decode cX2_solve 32 = .ok (.iload_n 1, 1) := by decide +kernel
theorem dX2_solve_33 : decode cX2_solve 33 = .ok (.invokevirtual 51, 3) := by decide +kernel
theorem dX2_solve_36 : decode cX2_solve 36 = .ok (.ifCond .eq 8, 3) := by decide +kernel
theorem dX2_solve_39 : decode cX2_solve 39 = .ok (.aload_n 0, 1) := by decide +kernel
theorem dX2_solve_40 : decode cX2_solve 40 = .ok (.iload_n 1, 1) := by decide +kernel
theorem dX2_solve_41 : decode cX2_solve 41 = .ok (.invokevirtual 54, 3) := by decide +kernel
theorem dX2_solve_44 : decode cX2_solve 44 = .ok (.iinc 1 1, 3) := by decide +kernel
theorem dX2_solve_47 : decode cX2_solve 47 = .ok (.goto (-40), 3) := by decide +kernel
theorem dX2_solve_50 : decode cX2_solve 50 = .ok (.aload_n 0, 1) := by decide +kernel
theorem dX2_solve_51 : decode cX2_solve 51 = .ok (.getfield 40, 3) := by decide +kernel
theorem dX2_solve_54 : decode cX2_solve 54 = .ok (.ireturn, 1) := by decide +kernel
set_option maxRecDepth 20000 in
theorem ggX2_straight_X2_exchange : GoodIn wsX2_straight wsX2_exchange := goodIn_r _ [11, 1, 16, 17, 18, 19, 20, 21, 22, 23, 24, 25] (by decide +kernel) (by decide +kernel)
set_option maxRecDepth 20000 in
theorem gX2_straight_X2_exchange : GoodIn wsX2_straight (wsV RX2 58 RX2 yX2_exchange wsX2_exchange) := goodIn_app (goodIn_of _ (by decide +kernel)) ggX2_straight_X2_exchange
set_option maxRecDepth 20000 in
theorem ggX2_straight_X2_clear : GoodIn wsX2_straight wsX2_clear := goodIn_r _ [15, 1, 6, 16, 17, 18, 19, 20, 21, 22, 23, 24, 25] (by decide +kernel) (by decide +kernel)
set_option maxRecDepth 20000 in
theorem gX2_straight_X2_clear : GoodIn wsX2_straight (wsV RX2 62 RX2 yX2_clear wsX2_clear) := goodIn_app (goodIn_of _ (by decide +kernel)) ggX2_straight_X2_clear
theorem dX2_straight_0 : decode cX2_straight 0 = .ok (.iconst 0, 1) := by decide +kernel
theorem dX2_straight_1 : decode cX2_straight 1 = .ok (.istore_n 2, 1) := by decide +kernel
theorem dX2_straight_2 : decode cX2_straight 2 = .ok (.iload_n 2, 1) := by decide +kernel
theorem dX2_straight_3 : decode cX2_straight 3 = .ok (.bipush 48, 2) := by decide +kernel
theorem dX2_straight_5 : decode cX2_straight 5 = .ok (.if_icmp .ge 22, 3) := by decide +kernel
theorem dX2_straight_8 : decode cX2_straight 8 = .ok (.aload_n 0, 1) := by decide +kernel
theorem dX2_straight_9 : decode cX2_straight 9 = .ok (.getfield 23, 3) := by decide +kernel
theorem dX2_straight_12 : decode cX2_straight 12 = .ok (.iload_n 2, 1) := by decide +kernel
theorem dX2_straight_13 : decode cX2_straight 13 = .ok (.aload_n 0, 1) := by decide +kernel
theorem dX2_straight_14 : decode cX2_straight 14 = .ok (.getfield 7, 3) := by decide +kernel
theorem dX2_straight_17 : decode cX2_straight 17 = .ok (.iload_n 2, 1) := by decide +kernel
theorem dX2_straight_18 : decode cX2_straight 18 = .ok (.iaload, 1) := by decide +kernel
theorem dX2_straight_19 : decode cX2_straight 19 = .ok (.i2l, 1) := by decide +kernel
theorem dX2_straight_20 : decode cX2_straight 20 = .ok (.lastore, 1) := by decide +kernel
theorem dX2_straight_21 : decode cX2_straight 21 = .ok (.iinc 2 1, 3) := by decide +kernel
theorem dX2_straight_24 : decode cX2_straight 24 = .ok (.goto (-22), 3) := by decide +kernel
theorem dX2_straight_27 : decode cX2_straight 27 = .ok (.iconst 0, 1) := by decide +kernel
theorem dX2_straight_28 : decode cX2_straight 28 = .ok (.istore_n 2, 1) := by decide +kernel
theorem dX2_straight_29 : decode cX2_straight 29 = .ok (.iload_n 2, 1) := by decide +kernel
theorem dX2_straight_30 : decode cX2_straight 30 = .ok (.bipush 8, 2) := by decide +kernel
theorem dX2_straight_32 : decode cX2_straight 32 = .ok (.if_icmp .ge 23, 3) := by decide +kernel
theorem dX2_straight_35 : decode cX2_straight 35 = .ok (.aload_n 0, 1) := by decide +kernel
theorem dX2_straight_36 : decode cX2_straight 36 = .ok (.getfield 27, 3) := by decide +kernel
theorem dX2_straight_39 : decode cX2_straight 39 = .ok (.iload_n 2, 1) := by decide +kernel
theorem dX2_straight_40 : decode cX2_straight 40 = .ok (.iconst 0, 1) := by decide +kernel
theorem dX2_straight_41 : decode cX2_straight 41 = .ok (.iastore, 1) := by decide +kernel
theorem dX2_straight_42 : decode cX2_straight 42 = .ok (.aload_n 0, 1) := by decide +kernel
theorem dX2_straight_43 : decode cX2_straight 43 = .ok (.getfield 30, 3) := by decide +kernel
theorem dX2_straight_46 : decode cX2_straight 46 = .ok (.iload_n 2, 1) := by decide +kernel
theorem dX2_straight_47 : decode cX2_straight 47 = .ok (.lconst 0, 1) := by decide +kernel
theorem dX2_straight_48 : decode cX2_straight 48 = .ok (.lastore, 1) := by decide +kernel
theorem dX2_straight_49 : decode cX2_straight 49 = .ok (.iinc 2 1, 3) := by decide +kernel
theorem dX2_straight_52 : decode cX2_straight 52 = .ok (.goto (-23), 3) := by decide +kernel
theorem dX2_straight_55 : decode cX2_straight 55 = .ok (.iconst (-1), 1) := by decide +kernel
theorem dX2_straight_56 : decode cX2_straight 56 = .ok (.istore_n 2, 1) := by decide +kernel
theorem dX2_straight_57 : decode cX2_straight 57 = .ok (.iconst 0, 1) := by decide +kernel
theorem dX2_straight_58 : decode cX2_straight 58 = .ok (.istore_n 3, 1) := by decide +kernel
theorem dX2_straight_59 : decode cX2_straight 59 = .ok (.lconst 1, 1) := by decide +kernel
theorem dX2_straight_60 : decode cX2_straight 60 = .ok (.lstore 4, 2) := by decide +kernel
theorem dX2_straight_62 : decode cX2_straight 62 = .ok (.iconst 0, 1) := by decide +kernel
theorem dX2_straight_63 : decode cX2_straight 63 = .ok (.istore 6, 2) := by decide +kernel
theorem dX2_straight_65 : decode cX2_straight 65 = .ok (.iload 6, 2) := by decide +kernel
theorem dX2_straight_67 : decode cX2_straight 67 = .ok (.aload_n 0, 1) := by decide +kernel
theorem dX2_straight_68 : decode cX2_straight 68 = .ok (.getfield 33, 3) := by decide +kernel
theorem dX2_straight_71 : decode cX2_straight 71 = .ok (.if_icmp .ge 119, 3) := by decide +kernel
theorem dX2_straight_74 : decode cX2_straight 74 = .ok (.iload_n 1, 1) := by decide +kernel
theorem dX2_straight_75 : decode cX2_straight 75 = .ok (.iload 6, 2) := by decide +kernel
theorem dX2_straight_77 : decode cX2_straight 77 = .ok (.ishr, 1) := by decide +kernel
theorem dX2_straight_78 : decode cX2_straight 78 = .ok (.iconst 1, 1) := by decide +kernel
theorem dX2_straight_79 : decode cX2_straight 79 = .ok (.iand, 1) := by decide +kernel
theorem dX2_straight_80 : decode cX2_straight 80 = .ok (.ifCond .ne 6, 3) := by decide +kernel
theorem dX2_straight_83 : decode cX2_straight 83 = .ok (.goto 101, 3) := by decide +kernel
theorem dX2_straight_86 : decode cX2_straight 86 = .ok (.iload_n 3, 1) := by decide +kernel
theorem dX2_straight_87 : decode cX2_straight 87 = .ok (.istore 7, 2) := by decide +kernel
theorem dX2_straight_89 : decode cX2_straight 89 = .ok (.iload 7, 2) := by decide +kernel
theorem dX2_straight_91 : decode cX2_straight 91 = .ok (.aload_n 0, 1) := by decide +kernel
theorem dX2_straight_92 : decode cX2_straight 92 = .ok (.getfield 37, 3) := by decide +kernel
theorem dX2_straight_95 : decode cX2_straight 95 = .ok (.if_icmp .ge 27, 3) := by decide +kernel
theorem dX2_straight_98 : decode cX2_straight 98 = .ok (.aload_n 0, 1) := by decide +kernel
theorem dX2_straight_99 : decode cX2_straight 99 = .ok (.getfield 23, 3) := by decide +kernel
theorem dX2_straight_102 : decode cX2_straight 102 = .ok (.bipush 8, 2) := by decide +kernel
theorem dX2_straight_104 : decode cX2_straight 104 = .ok (.iload 7, 2) := by decide +kernel
theorem dX2_straight_106 : decode cX2_straight 106 = .ok (.imul, 1) := by decide +kernel
theorem dX2_straight_107 : decode cX2_straight 107 = .ok (.iload 6, 2) := by decide +kernel
theorem dX2_straight_109 : decode cX2_straight 109 = .ok (.iadd, 1) := by decide +kernel
theorem dX2_straight_110 : decode cX2_straight 110 = .ok (.laload, 1) := by decide +kernel
theorem dX2_straight_111 : decode cX2_straight 111 = .ok (.lconst 0, 1) := by decide +kernel
theorem dX2_straight_112 : decode cX2_straight 112 = .ok (.lcmp, 1) := by decide +kernel
theorem dX2_straight_113 : decode cX2_straight 113 = .ok (.ifCond .ne 9, 3) := by decide +kernel
theorem dX2_straight_116 : decode cX2_straight 116 = .ok (.iinc 7 1, 3) := by decide +kernel
theorem dX2_straight_119 : decode cX2_straight 119 = .ok (.goto (-30), 3) := by decide +kernel
theorem dX2_straight_122 : decode cX2_straight 122 = .ok (.iload 7, 2) := by decide +kernel
theorem dX2_straight_124 : decode cX2_straight 124 = .ok (.aload_n 0, 1) := by decide +kernel
theorem dX2_straight_125 : decode cX2_straight 125 = .ok (.getfield 37, 3) := by decide +kernel
theorem dX2_straight_128 : decode cX2_straight 128 = .ok (.if_icmp .ne 15, 3) := by decide +kernel
theorem dX2_straight_131 : decode cX2_straight 131 = .ok (.iload_n 2, 1) := by decide +kernel
theorem dX2_straight_132 : decode cX2_straight 132 = .ok (.ifCond .lt 5, 3) := by decide +kernel
theorem dX2_straight_135 : decode cX2_straight 135 = .ok (.iconst 0, 1) := by decide +kernel
theorem dX2_straight_136 : decode cX2_straight 136 = .ok (.ireturn, 1) := by decide +kernel
theorem dX2_straight_137 : decode cX2_straight 137 = .ok (.iload 6, 2) := by decide +kernel
theorem dX2_straight_139 : decode cX2_straight 139 = .ok (.istore_n 2, 1) := by decide +kernel
theorem dX2_straight_140 : decode cX2_straight 140 = .ok (.goto 44, 3) := by decide +kernel
theorem dX2_straight_143 : decode cX2_straight 143 = .ok (.aload_n 0, 1) := by decide +kernel
theorem dX2_straight_144 : decode cX2_straight 144 = .ok (.iload_n 3, 1) := by decide +kernel
theorem dX2_straight_145 : decode cX2_straight 145 = .ok (.iload 7, 2) := by decide +kernel
theorem dX2_straight_147 : decode cX2_straight 147 = .ok (.invokevirtual 58, 3) := by decide +kernel
theorem dX2_straight_150 : decode cX2_straight 150 = .ok (.aload_n 0, 1) := by decide +kernel
theorem dX2_straight_151 : decode cX2_straight 151 = .ok (.iload_n 3, 1) := by decide +kernel
theorem dX2_straight_152 : decode cX2_straight 152 = .ok (.iload 6, 2) := by decide +kernel
theorem dX2_straight_154 : decode cX2_straight 154 = .ok (.lload 4, 2) := by decide +kernel
theorem dX2_straight_156 : decode cX2_straight 156 = .ok (.invokevirtual 62, 3) := by decide +kernel
theorem dX2_straight_159 : decode cX2_straight 159 = .ok (.aload_n 0, 1) := by decide +kernel
theorem dX2_straight_160 : decode cX2_straight 160 = .ok (.getfield 23, 3) := by decide +kernel
theorem dX2_straight_163 : decode cX2_straight 163 = .ok (.bipush 8, 2) := by decide +kernel
theorem dX2_straight_165 : decode cX2_straight 165 = .ok (.iload_n 3, 1) := by decide +kernel
theorem dX2_straight_166 : decode cX2_straight 166 = .ok (.imul, 1) := by decide +kernel
theorem dX2_straight_167 : decode cX2_straight 167 = .ok (.iload 6, 2) := by decide +kernel
theorem dX2_straight_169 : decode cX2_straight 169 = .ok (.iadd, 1) := by decide +kernel
theorem dX2_straight_170 : decode cX2_straight 170 = .ok (.laload, 1) := by decide +kernel
theorem dX2_straight_171 : decode cX2_straight 171 = .ok (.lstore 4, 2) := by decide +kernel
theorem dX2_straight_173 : decode cX2_straight 173 = .ok (.iinc 3 1, 3) := by decide +kernel
theorem dX2_straight_176 : decode cX2_straight 176 = .ok (.aload_n 0, 1) := by decide +kernel
theorem dX2_straight_177 : decode cX2_straight 177 = .ok (.getfield 27, 3) := by decide +kernel
theorem dX2_straight_180 : decode cX2_straight 180 = .ok (.iload 6, 2) := by decide +kernel
theorem dX2_straight_182 : decode cX2_straight 182 = .ok (.iload_n 3, 1) := by decide +kernel
theorem dX2_straight_183 : decode cX2_straight 183 = .ok (.iastore, 1) := by decide +kernel
theorem dX2_straight_184 : decode cX2_straight 184 = .ok (.iinc 6 1, 3) := by decide +kernel
theorem dX2_straight_187 : decode cX2_straight 187 = .ok (.goto (-122), 3) := by decide +kernel
theorem dX2_straight_190 : decode cX2_straight 190 = .ok (.iload_n 2, 1) := by decide +kernel
theorem dX2_straight_191 : decode cX2_straight 191 = .ok (.ifCond .ge 5, 3) := by decide +kernel
theorem dX2_straight_194 : decode cX2_straight 194 = .ok (.iconst 0, 1) := by decide +kernel
theorem dX2_straight_195 : decode cX2_straight 195 = .ok (.ireturn, 1) := by decide +kernel
theorem dX2_straight_196 : decode cX2_straight 196 = .ok (.aload_n 0, 1) := by decide +kernel
theorem dX2_straight_197 : decode cX2_straight 197 = .ok (.getfield 30, 3) := by decide +kernel
theorem dX2_straight_200 : decode cX2_straight 200 = .ok (.iload_n 2, 1) := by decide +kernel
theorem dX2_straight_201 : decode cX2_straight 201 = .ok (.lload 4, 2) := by decide +kernel
theorem dX2_straight_203 : decode cX2_straight 203 = .ok (.lastore, 1) := by decide +kernel
theorem dX2_straight_204 : decode cX2_straight 204 = .ok (.iconst 0, 1) := by decide +kernel
theorem dX2_straight_205 : decode cX2_straight 205 = .ok (.istore 6, 2) := by decide +kernel
theorem dX2_straight_207 : decode cX2_straight 207 = .ok (.iload 6, 2) := by decide +kernel
theorem dX2_straight_209 : decode cX2_straight 209 = .ok (.aload_n 0, 1) := by decide +kernel
theorem dX2_straight_210 : decode cX2_straight 210 = .ok (.getfield 33, 3) := by decide +kernel
theorem dX2_straight_213 : decode cX2_straight 213 = .ok (.if_icmp .ge 46, 3) := by decide +kernel
theorem dX2_straight_216 : decode cX2_straight 216 = .ok (.aload_n 0, 1) := by decide +kernel
theorem dX2_straight_217 : decode cX2_straight 217 = .ok (.getfield 27, 3) := by decide +kernel
theorem dX2_straight_220 : decode cX2_straight 220 = .ok (.iload 6, 2) := by decide +kernel
theorem dX2_straight_222 : decode cX2_straight 222 = .ok (.iaload, 1) := by decide +kernel
theorem dX2_straight_223 : decode cX2_straight 223 = .ok (.ifCond .le 30, 3) := by decide +kernel
theorem dX2_straight_226 : decode cX2_straight 226 = .ok (.aload_n 0, 1) := by decide +kernel
theorem dX2_straight_227 : decode cX2_straight 227 = .ok (.getfield 30, 3) := by decide +kernel
theorem dX2_straight_230 : decode cX2_straight 230 = .ok (.iload 6, 2) := by decide +kernel
theorem dX2_straight_232 : decode cX2_straight 232 = .ok (.aload_n 0, 1) := by decide +kernel
theorem dX2_straight_233 : decode cX2_straight 233 = .ok (.getfield 23, 3) := by decide +kernel
theorem dX2_straight_236 : decode cX2_straight 236 = .ok (.bipush 8, 2) := by decide +kernel
theorem dX2_straight_238 : decode cX2_straight 238 = .ok (.aload_n 0, 1) := by decide +kernel
theorem dX2_straight_239 : decode cX2_straight 239 = .ok (.getfield 27, 3) := by decide +kernel
theorem dX2_straight_242 : decode cX2_straight 242 = .ok (.iload 6, 2) := by decide +kernel
theorem dX2_straight_244 : decode cX2_straight 244 = .ok (.iaload, 1) := by decide +kernel
theorem dX2_straight_245 : decode cX2_straight 245 = .ok (.iconst 1, 1) := by decide +kernel
theorem dX2_straight_246 : decode cX2_straight 246 = .ok (.isub, 1) := by decide +kernel
theorem dX2_straight_247 : decode cX2_straight 247 = .ok (.imul, 1) := by decide +kernel
theorem dX2_straight_248 : decode cX2_straight 248 = .ok (.iload_n 2, 1) := by decide +kernel
theorem dX2_straight_249 : decode cX2_straight 249 = .ok (.iadd, 1) := by decide +kernel
theorem dX2_straight_250 : decode cX2_straight 250 = .ok (.laload, 1) := by decide +kernel
theorem dX2_straight_251 : decode cX2_straight 251 = .ok (.lneg, 1) := by decide +kernel
theorem dX2_straight_252 : decode cX2_straight 252 = .ok (.lastore, 1) := by decide +kernel
theorem dX2_straight_253 : decode cX2_straight 253 = .ok (.iinc 6 1, 3) := by decide +kernel
theorem dX2_straight_256 : decode cX2_straight 256 = .ok (.goto (-49), 3) := by decide +kernel
theorem dX2_straight_259 : decode cX2_straight 259 = .ok (.iconst 1, 1) := by decide +kernel
theorem dX2_straight_260 : decode cX2_straight 260 = .ok (.ireturn, 1) := by decide +kernel
theorem dX2_exchange_0 : decode cX2_exchange 0 = .ok (.iconst 0, 1) := by decide +kernel
theorem dX2_exchange_1 : decode cX2_exchange 1 = .ok (.istore_n 3, 1) := by decide +kernel
theorem dX2_exchange_2 : decode cX2_exchange 2 = .ok (.iload_n 3, 1) := by decide +kernel
theorem dX2_exchange_3 : decode cX2_exchange 3 = .ok (.bipush 8, 2) := by decide +kernel
theorem dX2_exchange_5 : decode cX2_exchange 5 = .ok (.if_icmp .ge 57, 3) := by decide +kernel
theorem dX2_exchange_8 : decode cX2_exchange 8 = .ok (.aload_n 0, 1) := by decide +kernel
theorem dX2_exchange_9 : decode cX2_exchange 9 = .ok (.getfield 23, 3) := by decide +kernel
theorem dX2_exchange_12 : decode cX2_exchange 12 = .ok (.bipush 8, 2) := by decide +kernel
theorem dX2_exchange_14 : decode cX2_exchange 14 = .ok (.iload_n 1, 1) := by decide +kernel
theorem dX2_exchange_15 : decode cX2_exchange 15 = .ok (.imul, 1) := by decide +kernel
theorem dX2_exchange_16 : decode cX2_exchange 16 = .ok (.iload_n 3, 1) := by decide +kernel
theorem dX2_exchange_17 : decode cX2_exchange 17 = .ok (.iadd, 1) := by decide +kernel
theorem dX2_exchange_18 : decode cX2_exchange 18 = .ok (.laload, 1) := by decide +kernel
theorem dX2_exchange_19 : decode cX2_exchange 19 = .ok (.lstore 4, 2) := by decide +kernel
theorem dX2_exchange_21 : decode cX2_exchange 21 = .ok (.aload_n 0, 1) := by decide +kernel
theorem dX2_exchange_22 : decode cX2_exchange 22 = .ok (.getfield 23, 3) := by decide +kernel
theorem dX2_exchange_25 : decode cX2_exchange 25 = .ok (.bipush 8, 2) := by decide +kernel
theorem dX2_exchange_27 : decode cX2_exchange 27 = .ok (.iload_n 1, 1) := by decide +kernel
theorem dX2_exchange_28 : decode cX2_exchange 28 = .ok (.imul, 1) := by decide +kernel
theorem dX2_exchange_29 : decode cX2_exchange 29 = .ok (.iload_n 3, 1) := by decide +kernel
theorem dX2_exchange_30 : decode cX2_exchange 30 = .ok (.iadd, 1) := by decide +kernel
theorem dX2_exchange_31 : decode cX2_exchange 31 = .ok (.aload_n 0, 1) := by decide +kernel
theorem dX2_exchange_32 : decode cX2_exchange 32 = .ok (.getfield 23, 3) := by decide +kernel
theorem dX2_exchange_35 : decode cX2_exchange 35 = .ok (.bipush 8, 2) := by decide +kernel
theorem dX2_exchange_37 : decode cX2_exchange 37 = .ok (.iload_n 2, 1) := by decide +kernel
theorem dX2_exchange_38 : decode cX2_exchange 38 = .ok (.imul, 1) := by decide +kernel
theorem dX2_exchange_39 : decode cX2_exchange 39 = .ok (.iload_n 3, 1) := by decide +kernel
theorem dX2_exchange_40 : decode cX2_exchange 40 = .ok (.iadd, 1) := by decide +kernel
theorem dX2_exchange_41 : decode cX2_exchange 41 = .ok (.laload, 1) := by decide +kernel
theorem dX2_exchange_42 : decode cX2_exchange 42 = .ok (.lastore, 1) := by decide +kernel
theorem dX2_exchange_43 : decode cX2_exchange 43 = .ok (.aload_n 0, 1) := by decide +kernel
theorem dX2_exchange_44 : decode cX2_exchange 44 = .ok (.getfield 23, 3) := by decide +kernel
theorem dX2_exchange_47 : decode cX2_exchange 47 = .ok (.bipush 8, 2) := by decide +kernel
theorem dX2_exchange_49 : decode cX2_exchange 49 = .ok (.iload_n 2, 1) := by decide +kernel
theorem dX2_exchange_50 : decode cX2_exchange 50 = .ok (.imul, 1) := by decide +kernel
theorem dX2_exchange_51 : decode cX2_exchange 51 = .ok (.iload_n 3, 1) := by decide +kernel
theorem dX2_exchange_52 : decode cX2_exchange 52 = .ok (.iadd, 1) := by decide +kernel
theorem dX2_exchange_53 : decode cX2_exchange 53 = .ok (.lload 4, 2) := by decide +kernel
theorem dX2_exchange_55 : decode cX2_exchange 55 = .ok (.lastore, 1) := by decide +kernel
theorem dX2_exchange_56 : decode cX2_exchange 56 = .ok (.iinc 3 1, 3) := by decide +kernel
theorem dX2_exchange_59 : decode cX2_exchange 59 = .ok (.goto (-57), 3) := by decide +kernel
theorem dX2_exchange_62 : decode cX2_exchange 62 = .ok (.return_, 1) := by decide +kernel
theorem dX2_clear_0 : decode cX2_clear 0 = .ok (.aload_n 0, 1) := by decide +kernel
theorem dX2_clear_1 : decode cX2_clear 1 = .ok (.getfield 23, 3) := by decide +kernel
theorem dX2_clear_4 : decode cX2_clear 4 = .ok (.bipush 8, 2) := by decide +kernel
theorem dX2_clear_6 : decode cX2_clear 6 = .ok (.iload_n 1, 1) := by decide +kernel
theorem dX2_clear_7 : decode cX2_clear 7 = .ok (.imul, 1) := by decide +kernel
theorem dX2_clear_8 : decode cX2_clear 8 = .ok (.iload_n 2, 1) := by decide +kernel
theorem dX2_clear_9 : decode cX2_clear 9 = .ok (.iadd, 1) := by decide +kernel
theorem dX2_clear_10 : decode cX2_clear 10 = .ok (.laload, 1) := by decide +kernel
theorem dX2_clear_11 : decode cX2_clear 11 = .ok (.lstore 5, 2) := by decide +kernel
theorem dX2_clear_13 : decode cX2_clear 13 = .ok (.iconst 0, 1) := by decide +kernel
theorem dX2_clear_14 : decode cX2_clear 14 = .ok (.istore 7, 2) := by decide +kernel
theorem dX2_clear_16 : decode cX2_clear 16 = .ok (.iload 7, 2) := by decide +kernel
theorem dX2_clear_18 : decode cX2_clear 18 = .ok (.aload_n 0, 1) := by decide +kernel
theorem dX2_clear_19 : decode cX2_clear 19 = .ok (.getfield 37, 3) := by decide +kernel
theorem dX2_clear_22 : decode cX2_clear 22 = .ok (.if_icmp .ge 95, 3) := by decide +kernel
theorem dX2_clear_25 : decode cX2_clear 25 = .ok (.iload 7, 2) := by decide +kernel
theorem dX2_clear_27 : decode cX2_clear 27 = .ok (.iload_n 1, 1) := by decide +kernel
theorem dX2_clear_28 : decode cX2_clear 28 = .ok (.if_icmp .ne 6, 3) := by decide +kernel
theorem dX2_clear_31 : decode cX2_clear 31 = .ok (.goto 80, 3) := by decide +kernel
theorem dX2_clear_34 : decode cX2_clear 34 = .ok (.aload_n 0, 1) := by decide +kernel
theorem dX2_clear_35 : decode cX2_clear 35 = .ok (.getfield 23, 3) := by decide +kernel
theorem dX2_clear_38 : decode cX2_clear 38 = .ok (.bipush 8, 2) := by decide +kernel
theorem dX2_clear_40 : decode cX2_clear 40 = .ok (.iload 7, 2) := by decide +kernel
theorem dX2_clear_42 : decode cX2_clear 42 = .ok (.imul, 1) := by decide +kernel
theorem dX2_clear_43 : decode cX2_clear 43 = .ok (.iload_n 2, 1) := by decide +kernel
theorem dX2_clear_44 : decode cX2_clear 44 = .ok (.iadd, 1) := by decide +kernel
theorem dX2_clear_45 : decode cX2_clear 45 = .ok (.laload, 1) := by decide +kernel
theorem dX2_clear_46 : decode cX2_clear 46 = .ok (.lstore 8, 2) := by decide +kernel
theorem dX2_clear_48 : decode cX2_clear 48 = .ok (.iconst 0, 1) := by decide +kernel
theorem dX2_clear_49 : decode cX2_clear 49 = .ok (.istore 10, 2) := by decide +kernel
theorem dX2_clear_51 : decode cX2_clear 51 = .ok (.iload 10, 2) := by decide +kernel
theorem dX2_clear_53 : decode cX2_clear 53 = .ok (.bipush 8, 2) := by decide +kernel
theorem dX2_clear_55 : decode cX2_clear 55 = .ok (.if_icmp .ge 56, 3) := by decide +kernel
theorem dX2_clear_58 : decode cX2_clear 58 = .ok (.aload_n 0, 1) := by decide +kernel
theorem dX2_clear_59 : decode cX2_clear 59 = .ok (.getfield 23, 3) := by decide +kernel
theorem dX2_clear_62 : decode cX2_clear 62 = .ok (.bipush 8, 2) := by decide +kernel
theorem dX2_clear_64 : decode cX2_clear 64 = .ok (.iload 7, 2) := by decide +kernel
theorem dX2_clear_66 : decode cX2_clear 66 = .ok (.imul, 1) := by decide +kernel
theorem dX2_clear_67 : decode cX2_clear 67 = .ok (.iload 10, 2) := by decide +kernel
theorem dX2_clear_69 : decode cX2_clear 69 = .ok (.iadd, 1) := by decide +kernel
theorem dX2_clear_70 : decode cX2_clear 70 = .ok (.lload 5, 2) := by decide +kernel
theorem dX2_clear_72 : decode cX2_clear 72 = .ok (.aload_n 0, 1) := by decide +kernel
theorem dX2_clear_73 : decode cX2_clear 73 = .ok (.getfield 23, 3) := by decide +kernel
theorem dX2_clear_76 : decode cX2_clear 76 = .ok (.bipush 8, 2) := by decide +kernel
theorem dX2_clear_78 : decode cX2_clear 78 = .ok (.iload 7, 2) := by decide +kernel
theorem dX2_clear_80 : decode cX2_clear 80 = .ok (.imul, 1) := by decide +kernel
theorem dX2_clear_81 : decode cX2_clear 81 = .ok (.iload 10, 2) := by decide +kernel
theorem dX2_clear_83 : decode cX2_clear 83 = .ok (.iadd, 1) := by decide +kernel
theorem dX2_clear_84 : decode cX2_clear 84 = .ok (.laload, 1) := by decide +kernel
theorem dX2_clear_85 : decode cX2_clear 85 = .ok (.lmul, 1) := by decide +kernel
theorem dX2_clear_86 : decode cX2_clear 86 = .ok (.lload 8, 2) := by decide +kernel
theorem dX2_clear_88 : decode cX2_clear 88 = .ok (.aload_n 0, 1) := by decide +kernel
theorem dX2_clear_89 : decode cX2_clear 89 = .ok (.getfield 23, 3) := by decide +kernel
theorem dX2_clear_92 : decode cX2_clear 92 = .ok (.bipush 8, 2) := by decide +kernel
theorem dX2_clear_94 : decode cX2_clear 94 = .ok (.iload_n 1, 1) := by decide +kernel
theorem dX2_clear_95 : decode cX2_clear 95 = .ok (.imul, 1) := by decide +kernel
theorem dX2_clear_96 : decode cX2_clear 96 = .ok (.iload 10, 2) := by decide +kernel
theorem dX2_clear_98 : decode cX2_clear 98 = .ok (.iadd, 1) := by decide +kernel
theorem dX2_clear_99 : decode cX2_clear 99 = .ok (.laload, 1) := by decide +kernel
theorem dX2_clear_100 : decode cX2_clear 100 = .ok (.lmul, 1) := by decide +kernel
theorem dX2_clear_101 : decode cX2_clear 101 = .ok (.lsub, 1) := by decide +kernel
theorem dX2_clear_102 : decode cX2_clear 102 = .ok (.lload_n 3, 1) := by decide +kernel
theorem dX2_clear_103 : decode cX2_clear 103 = .ok (.ldiv, 1) := by decide +kernel
theorem dX2_clear_104 : decode cX2_clear 104 = .ok (.lastore, 1) := by decide +kernel
theorem dX2_clear_105 : decode cX2_clear 105 = .ok (.iinc 10 1, 3) := by decide +kernel
theorem dX2_clear_108 : decode cX2_clear 108 = .ok (.goto (-57), 3) := by decide +kernel
theorem dX2_clear_111 : decode cX2_clear 111 = .ok (.iinc 7 1, 3) := by decide +kernel
theorem dX2_clear_114 : decode cX2_clear 114 = .ok (.goto (-98), 3) := by decide +kernel
theorem dX2_clear_117 : decode cX2_clear 117 = .ok (.return_, 1) := by decide +kernel
theorem dX2_signed_0 : decode cX2_signed 0 = .ok (.iconst 0, 1) := by decide +kernel
theorem dX2_signed_1 : decode cX2_signed 1 = .ok (.istore_n 2, 1) := by decide +kernel
theorem dX2_signed_2 : decode cX2_signed 2 = .ok (.iconst 0, 1) := by decide +kernel
theorem dX2_signed_3 : decode cX2_signed 3 = .ok (.istore_n 3, 1) := by decide +kernel
theorem dX2_signed_4 : decode cX2_signed 4 = .ok (.aload_n 0, 1) := by decide +kernel
theorem dX2_signed_5 : decode cX2_signed 5 = .ok (.getfield 33, 3) := by decide +kernel
theorem dX2_signed_8 : decode cX2_signed 8 = .ok (.iconst 1, 1) := by decide +kernel
theorem dX2_signed_9 : decode cX2_signed 9 = .ok (.isub, 1) := by decide +kernel
theorem dX2_signed_10 : decode cX2_signed 10 = .ok (.istore 4, 2) := by decide +kernel
theorem dX2_signed_12 : decode cX2_signed 12 = .ok (.iload 4, 2) := by decide +kernel
theorem dX2_signed_14 : decode cX2_signed 14 = .ok (.ifCond .lt 89, 3) := by decide +kernel
theorem dX2_signed_17 : decode cX2_signed 17 = .ok (.iload_n 1, 1) := by decide +kernel
theorem dX2_signed_18 : decode cX2_signed 18 = .ok (.iload 4, 2) := by decide +kernel
theorem dX2_signed_20 : decode cX2_signed 20 = .ok (.ishr, 1) := by decide +kernel
theorem dX2_signed_21 : decode cX2_signed 21 = .ok (.iconst 1, 1) := by decide +kernel
theorem dX2_signed_22 : decode cX2_signed 22 = .ok (.iand, 1) := by decide +kernel
theorem dX2_signed_23 : decode cX2_signed 23 = .ok (.ifCond .ne 6, 3) := by decide +kernel
theorem dX2_signed_26 : decode cX2_signed 26 = .ok (.goto 71, 3) := by decide +kernel
theorem dX2_signed_29 : decode cX2_signed 29 = .ok (.aload_n 0, 1) := by decide +kernel
theorem dX2_signed_30 : decode cX2_signed 30 = .ok (.getfield 30, 3) := by decide +kernel
theorem dX2_signed_33 : decode cX2_signed 33 = .ok (.iload 4, 2) := by decide +kernel
theorem dX2_signed_35 : decode cX2_signed 35 = .ok (.laload, 1) := by decide +kernel
theorem dX2_signed_36 : decode cX2_signed 36 = .ok (.lconst 0, 1) := by decide +kernel
theorem dX2_signed_37 : decode cX2_signed 37 = .ok (.lcmp, 1) := by decide +kernel
theorem dX2_signed_38 : decode cX2_signed 38 = .ok (.ifCond .ne 5, 3) := by decide +kernel
theorem dX2_signed_41 : decode cX2_signed 41 = .ok (.iconst 0, 1) := by decide +kernel
theorem dX2_signed_42 : decode cX2_signed 42 = .ok (.ireturn, 1) := by decide +kernel
theorem dX2_signed_43 : decode cX2_signed 43 = .ok (.aload_n 0, 1) := by decide +kernel
theorem dX2_signed_44 : decode cX2_signed 44 = .ok (.getfield 30, 3) := by decide +kernel
theorem dX2_signed_47 : decode cX2_signed 47 = .ok (.iload 4, 2) := by decide +kernel
theorem dX2_signed_49 : decode cX2_signed 49 = .ok (.laload, 1) := by decide +kernel
theorem dX2_signed_50 : decode cX2_signed 50 = .ok (.lconst 0, 1) := by decide +kernel
theorem dX2_signed_51 : decode cX2_signed 51 = .ok (.lcmp, 1) := by decide +kernel
theorem dX2_signed_52 : decode cX2_signed 52 = .ok (.ifCond .le 7, 3) := by decide +kernel
theorem dX2_signed_55 : decode cX2_signed 55 = .ok (.iconst 1, 1) := by decide +kernel
theorem dX2_signed_56 : decode cX2_signed 56 = .ok (.goto 4, 3) := by decide +kernel
theorem dX2_signed_59 : decode cX2_signed 59 = .ok (.iconst (-1), 1) := by decide +kernel
theorem dX2_signed_60 : decode cX2_signed 60 = .ok (.istore 5, 2) := by decide +kernel
theorem dX2_signed_62 : decode cX2_signed 62 = .ok (.iload 5, 2) := by decide +kernel
theorem dX2_signed_64 : decode cX2_signed 64 = .ok (.istore_n 3, 1) := by decide +kernel
theorem dX2_signed_65 : decode cX2_signed 65 = .ok (.aload_n 0, 1) := by decide +kernel
theorem dX2_signed_66 : decode cX2_signed 66 = .ok (.getfield 13, 3) := by decide +kernel
theorem dX2_signed_69 : decode cX2_signed 69 = .ok (.iload 4, 2) := by decide +kernel
theorem dX2_signed_71 : decode cX2_signed 71 = .ok (.baload, 1) := by decide +kernel
theorem dX2_signed_72 : decode cX2_signed 72 = .ok (.ifCond .ne 12, 3) := by decide +kernel
theorem dX2_signed_75 : decode cX2_signed 75 = .ok (.iload_n 2, 1) := by decide +kernel
theorem dX2_signed_76 : decode cX2_signed 76 = .ok (.iload 5, 2) := by decide +kernel
theorem dX2_signed_78 : decode cX2_signed 78 = .ok (.ineg, 1) := by decide +kernel
theorem dX2_signed_79 : decode cX2_signed 79 = .ok (.if_icmp .ne 5, 3) := by decide +kernel
theorem dX2_signed_82 : decode cX2_signed 82 = .ok (.iconst 0, 1) := by decide +kernel
theorem dX2_signed_83 : decode cX2_signed 83 = .ok (.ireturn, 1) := by decide +kernel
theorem dX2_signed_84 : decode cX2_signed 84 = .ok (.aload_n 0, 1) := by decide +kernel
theorem dX2_signed_85 : decode cX2_signed 85 = .ok (.getfield 13, 3) := by decide +kernel
theorem dX2_signed_88 : decode cX2_signed 88 = .ok (.iload 4, 2) := by decide +kernel
theorem dX2_signed_90 : decode cX2_signed 90 = .ok (.baload, 1) := by decide +kernel
theorem dX2_signed_91 : decode cX2_signed 91 = .ok (.ifCond .ne 6, 3) := by decide +kernel
theorem dX2_signed_94 : decode cX2_signed 94 = .ok (.iload 5, 2) := by decide +kernel
theorem dX2_signed_96 : decode cX2_signed 96 = .ok (.istore_n 2, 1) := by decide +kernel
theorem dX2_signed_97 : decode cX2_signed 97 = .ok (.iinc 4 (-1), 3) := by decide +kernel
theorem dX2_signed_100 : decode cX2_signed 100 = .ok (.goto (-88), 3) := by decide +kernel
theorem dX2_signed_103 : decode cX2_signed 103 = .ok (.iload_n 2, 1) := by decide +kernel
theorem dX2_signed_104 : decode cX2_signed 104 = .ok (.ifCond .ne 5, 3) := by decide +kernel
theorem dX2_signed_107 : decode cX2_signed 107 = .ok (.iload_n 3, 1) := by decide +kernel
theorem dX2_signed_108 : decode cX2_signed 108 = .ok (.istore_n 2, 1) := by decide +kernel
theorem dX2_signed_109 : decode cX2_signed 109 = .ok (.iconst 0, 1) := by decide +kernel
theorem dX2_signed_110 : decode cX2_signed 110 = .ok (.istore 4, 2) := by decide +kernel
theorem dX2_signed_112 : decode cX2_signed 112 = .ok (.iload 4, 2) := by decide +kernel
theorem dX2_signed_114 : decode cX2_signed 114 = .ok (.bipush 8, 2) := by decide +kernel
theorem dX2_signed_116 : decode cX2_signed 116 = .ok (.if_icmp .ge 26, 3) := by decide +kernel
theorem dX2_signed_119 : decode cX2_signed 119 = .ok (.aload_n 0, 1) := by decide +kernel
theorem dX2_signed_120 : decode cX2_signed 120 = .ok (.getfield 30, 3) := by decide +kernel
theorem dX2_signed_123 : decode cX2_signed 123 = .ok (.iload 4, 2) := by decide +kernel
theorem dX2_signed_125 : decode cX2_signed 125 = .ok (.iload_n 2, 1) := by decide +kernel
theorem dX2_signed_126 : decode cX2_signed 126 = .ok (.i2l, 1) := by decide +kernel
theorem dX2_signed_127 : decode cX2_signed 127 = .ok (.aload_n 0, 1) := by decide +kernel
theorem dX2_signed_128 : decode cX2_signed 128 = .ok (.getfield 30, 3) := by decide +kernel
theorem dX2_signed_131 : decode cX2_signed 131 = .ok (.iload 4, 2) := by decide +kernel
theorem dX2_signed_133 : decode cX2_signed 133 = .ok (.laload, 1) := by decide +kernel
theorem dX2_signed_134 : decode cX2_signed 134 = .ok (.lmul, 1) := by decide +kernel
theorem dX2_signed_135 : decode cX2_signed 135 = .ok (.lastore, 1) := by decide +kernel
theorem dX2_signed_136 : decode cX2_signed 136 = .ok (.iinc 4 1, 3) := by decide +kernel
theorem dX2_signed_139 : decode cX2_signed 139 = .ok (.goto (-27), 3) := by decide +kernel
theorem dX2_signed_142 : decode cX2_signed 142 = .ok (.iconst 1, 1) := by decide +kernel
theorem dX2_signed_143 : decode cX2_signed 143 = .ok (.ireturn, 1) := by decide +kernel
theorem dX2_list_0 : decode cX2_list 0 = .ok (.lconst 0, 1) := by decide +kernel
theorem dX2_list_1 : decode cX2_list 1 = .ok (.lstore_n 2, 1) := by decide +kernel
theorem dX2_list_2 : decode cX2_list 2 = .ok (.iconst 0, 1) := by decide +kernel
theorem dX2_list_3 : decode cX2_list 3 = .ok (.istore 4, 2) := by decide +kernel
theorem dX2_list_5 : decode cX2_list 5 = .ok (.iload 4, 2) := by decide +kernel
theorem dX2_list_7 : decode cX2_list 7 = .ok (.bipush 8, 2) := by decide +kernel
theorem dX2_list_9 : decode cX2_list 9 = .ok (.if_icmp .ge 64, 3) := by decide +kernel
theorem dX2_list_12 : decode cX2_list 12 = .ok (.aload_n 0, 1) := by decide +kernel
theorem dX2_list_13 : decode cX2_list 13 = .ok (.getfield 30, 3) := by decide +kernel
theorem dX2_list_16 : decode cX2_list 16 = .ok (.iload 4, 2) := by decide +kernel
theorem dX2_list_18 : decode cX2_list 18 = .ok (.laload, 1) := by decide +kernel
theorem dX2_list_19 : decode cX2_list 19 = .ok (.lconst 0, 1) := by decide +kernel
theorem dX2_list_20 : decode cX2_list 20 = .ok (.lcmp, 1) := by decide +kernel
theorem dX2_list_21 : decode cX2_list 21 = .ok (.ifCond .ge 14, 3) := by decide +kernel
theorem dX2_list_24 : decode cX2_list 24 = .ok (.aload_n 0, 1) := by decide +kernel
theorem dX2_list_25 : decode cX2_list 25 = .ok (.getfield 30, 3) := by decide +kernel
theorem dX2_list_28 : decode cX2_list 28 = .ok (.iload 4, 2) := by decide +kernel
theorem dX2_list_30 : decode cX2_list 30 = .ok (.laload, 1) := by decide +kernel
theorem dX2_list_31 : decode cX2_list 31 = .ok (.lneg, 1) := by decide +kernel
theorem dX2_list_32 : decode cX2_list 32 = .ok (.goto 10, 3) := by decide +kernel
theorem dX2_list_35 : decode cX2_list 35 = .ok (.aload_n 0, 1) := by decide +kernel
theorem dX2_list_36 : decode cX2_list 36 = .ok (.getfield 30, 3) := by decide +kernel
theorem dX2_list_39 : decode cX2_list 39 = .ok (.iload 4, 2) := by decide +kernel
theorem dX2_list_41 : decode cX2_list 41 = .ok (.laload, 1) := by decide +kernel
theorem dX2_list_42 : decode cX2_list 42 = .ok (.lstore 5, 2) := by decide +kernel
theorem dX2_list_44 : decode cX2_list 44 = .ok (.lload 5, 2) := by decide +kernel
theorem dX2_list_46 : decode cX2_list 46 = .ok (.lconst 0, 1) := by decide +kernel
theorem dX2_list_47 : decode cX2_list 47 = .ok (.lcmp, 1) := by decide +kernel
theorem dX2_list_48 : decode cX2_list 48 = .ok (.ifCond .eq 19, 3) := by decide +kernel
theorem dX2_list_51 : decode cX2_list 51 = .ok (.lload_n 2, 1) := by decide +kernel
theorem dX2_list_52 : decode cX2_list 52 = .ok (.lload 5, 2) := by decide +kernel
theorem dX2_list_54 : decode cX2_list 54 = .ok (.lrem, 1) := by decide +kernel
theorem dX2_list_55 : decode cX2_list 55 = .ok (.lstore 7, 2) := by decide +kernel
theorem dX2_list_57 : decode cX2_list 57 = .ok (.lload 5, 2) := by decide +kernel
theorem dX2_list_59 : decode cX2_list 59 = .ok (.lstore_n 2, 1) := by decide +kernel
theorem dX2_list_60 : decode cX2_list 60 = .ok (.lload 7, 2) := by decide +kernel
theorem dX2_list_62 : decode cX2_list 62 = .ok (.lstore 5, 2) := by decide +kernel
theorem dX2_list_64 : decode cX2_list 64 = .ok (.goto (-20), 3) := by decide +kernel
theorem dX2_list_67 : decode cX2_list 67 = .ok (.iinc 4 1, 3) := by decide +kernel
theorem dX2_list_70 : decode cX2_list 70 = .ok (.goto (-65), 3) := by decide +kernel
theorem dX2_list_73 : decode cX2_list 73 = .ok (.aload_n 0, 1) := by decide +kernel
theorem dX2_list_74 : decode cX2_list 74 = .ok (.getfield 17, 3) := by decide +kernel
theorem dX2_list_77 : decode cX2_list 77 = .ok (.aload_n 0, 1) := by decide +kernel
theorem dX2_list_78 : decode cX2_list 78 = .ok (.getfield 40, 3) := by decide +kernel
theorem dX2_list_81 : decode cX2_list 81 = .ok (.iload_n 1, 1) := by decide +kernel
theorem dX2_list_82 : decode cX2_list 82 = .ok (.iastore, 1) := by decide +kernel
theorem dX2_list_83 : decode cX2_list 83 = .ok (.iconst 0, 1) := by decide +kernel
theorem dX2_list_84 : decode cX2_list 84 = .ok (.istore 4, 2) := by decide +kernel
theorem dX2_list_86 : decode cX2_list 86 = .ok (.iload 4, 2) := by decide +kernel
theorem dX2_list_88 : decode cX2_list 88 = .ok (.bipush 8, 2) := by decide +kernel
theorem dX2_list_90 : decode cX2_list 90 = .ok (.if_icmp .ge 34, 3) := by decide +kernel
theorem dX2_list_93 : decode cX2_list 93 = .ok (.aload_n 0, 1) := by decide +kernel
theorem dX2_list_94 : decode cX2_list 94 = .ok (.getfield 20, 3) := by decide +kernel
theorem dX2_list_97 : decode cX2_list 97 = .ok (.bipush 8, 2) := by decide +kernel
theorem dX2_list_99 : decode cX2_list 99 = .ok (.aload_n 0, 1) := by decide +kernel
theorem dX2_list_100 : decode cX2_list 100 = .ok (.getfield 40, 3) := by decide +kernel
theorem dX2_list_103 : decode cX2_list 103 = .ok (.imul, 1) := by decide +kernel
theorem dX2_list_104 : decode cX2_list 104 = .ok (.iload 4, 2) := by decide +kernel
theorem dX2_list_106 : decode cX2_list 106 = .ok (.iadd, 1) := by decide +kernel
theorem dX2_list_107 : decode cX2_list 107 = .ok (.aload_n 0, 1) := by decide +kernel
theorem dX2_list_108 : decode cX2_list 108 = .ok (.getfield 30, 3) := by decide +kernel
theorem dX2_list_111 : decode cX2_list 111 = .ok (.iload 4, 2) := by decide +kernel
theorem dX2_list_113 : decode cX2_list 113 = .ok (.laload, 1) := by decide +kernel
theorem dX2_list_114 : decode cX2_list 114 = .ok (.lload_n 2, 1) := by decide +kernel
theorem dX2_list_115 : decode cX2_list 115 = .ok (.ldiv, 1) := by decide +kernel
theorem dX2_list_116 : decode cX2_list 116 = .ok (.l2i, 1) := by decide +kernel
theorem dX2_list_117 : decode cX2_list 117 = .ok (.iastore, 1) := by decide +kernel
theorem dX2_list_118 : decode cX2_list 118 = .ok (.iinc 4 1, 3) := by decide +kernel
theorem dX2_list_121 : decode cX2_list 121 = .ok (.goto (-35), 3) := by decide +kernel
theorem dX2_list_124 : decode cX2_list 124 = .ok (.aload_n 0, 1) := by decide +kernel
theorem dX2_list_125 : decode cX2_list 125 = .ok (.dup, 1) := by decide +kernel
theorem dX2_list_126 : decode cX2_list 126 = .ok (.getfield 40, 3) := by decide +kernel
theorem dX2_list_129 : decode cX2_list 129 = .ok (.iconst 1, 1) := by decide +kernel
theorem dX2_list_130 : decode cX2_list 130 = .ok (.iadd, 1) := by decide +kernel
theorem dX2_list_131 : decode cX2_list 131 = .ok (.putfield 40, 3) := by decide +kernel
theorem dX2_list_134 : decode cX2_list 134 = .ok (.return_, 1) := by decide +kernel
theorem dX2_modes_0 : decode cX2_modes 0 = .ok (.aload_n 0, 1) := by decide +kernel
theorem dX2_modes_1 : decode cX2_modes 1 = .ok (.getfield 40, 3) := by decide +kernel
theorem dX2_modes_4 : decode cX2_modes 4 = .ok (.ireturn, 1) := by decide +kernel
theorem dX2_support_0 : decode cX2_support 0 = .ok (.iload_n 1, 1) := by decide +kernel
theorem dX2_support_1 : decode cX2_support 1 = .ok (.ifCond .lt 20, 3) := by decide +kernel
theorem dX2_support_4 : decode cX2_support 4 = .ok (.iload_n 1, 1) := by decide +kernel
theorem dX2_support_5 : decode cX2_support 5 = .ok (.aload_n 0, 1) := by decide +kernel
theorem dX2_support_6 : decode cX2_support 6 = .ok (.getfield 40, 3) := by decide +kernel
theorem dX2_support_9 : decode cX2_support 9 = .ok (.if_icmp .ge 12, 3) := by decide +kernel
theorem dX2_support_12 : decode cX2_support 12 = .ok (.aload_n 0, 1) := by decide +kernel
theorem dX2_support_13 : decode cX2_support 13 = .ok (.getfield 17, 3) := by decide +kernel
theorem dX2_support_16 : decode cX2_support 16 = .ok (.iload_n 1, 1) := by decide +kernel
theorem dX2_support_17 : decode cX2_support 17 = .ok (.iaload, 1) := by decide +kernel
theorem dX2_support_18 : decode cX2_support 18 = .ok (.goto 4, 3) := by decide +kernel
theorem dX2_support_21 : decode cX2_support 21 = .ok (.iconst 0, 1) := by decide +kernel
theorem dX2_support_22 : decode cX2_support 22 = .ok (.ireturn, 1) := by decide +kernel
theorem dX2_rate_0 : decode cX2_rate 0 = .ok (.iload_n 1, 1) := by decide +kernel
theorem dX2_rate_1 : decode cX2_rate 1 = .ok (.ifCond .lt 35, 3) := by decide +kernel
theorem dX2_rate_4 : decode cX2_rate 4 = .ok (.iload_n 1, 1) := by decide +kernel
theorem dX2_rate_5 : decode cX2_rate 5 = .ok (.aload_n 0, 1) := by decide +kernel
theorem dX2_rate_6 : decode cX2_rate 6 = .ok (.getfield 40, 3) := by decide +kernel
theorem dX2_rate_9 : decode cX2_rate 9 = .ok (.if_icmp .ge 27, 3) := by decide +kernel
theorem dX2_rate_12 : decode cX2_rate 12 = .ok (.iload_n 2, 1) := by decide +kernel
theorem dX2_rate_13 : decode cX2_rate 13 = .ok (.ifCond .lt 23, 3) := by decide +kernel
theorem dX2_rate_16 : decode cX2_rate 16 = .ok (.iload_n 2, 1) := by decide +kernel
theorem dX2_rate_17 : decode cX2_rate 17 = .ok (.bipush 7, 2) := by decide +kernel
theorem dX2_rate_19 : decode cX2_rate 19 = .ok (.if_icmp .gt 17, 3) := by decide +kernel
theorem dX2_rate_22 : decode cX2_rate 22 = .ok (.aload_n 0, 1) := by decide +kernel
theorem dX2_rate_23 : decode cX2_rate 23 = .ok (.getfield 20, 3) := by decide +kernel
theorem dX2_rate_26 : decode cX2_rate 26 = .ok (.bipush 8, 2) := by decide +kernel
theorem dX2_rate_28 : decode cX2_rate 28 = .ok (.iload_n 1, 1) := by decide +kernel
theorem dX2_rate_29 : decode cX2_rate 29 = .ok (.imul, 1) := by decide +kernel
theorem dX2_rate_30 : decode cX2_rate 30 = .ok (.iload_n 2, 1) := by decide +kernel
theorem dX2_rate_31 : decode cX2_rate 31 = .ok (.iadd, 1) := by decide +kernel
theorem dX2_rate_32 : decode cX2_rate 32 = .ok (.iaload, 1) := by decide +kernel
theorem dX2_rate_33 : decode cX2_rate 33 = .ok (.goto 4, 3) := by decide +kernel
theorem dX2_rate_36 : decode cX2_rate 36 = .ok (.iconst 0, 1) := by decide +kernel
theorem dX2_rate_37 : decode cX2_rate 37 = .ok (.ireturn, 1) := by decide +kernel
theorem dX2_within_0 : decode cX2_within 0 = .ok (.iconst 0, 1) := by decide +kernel
theorem dX2_within_1 : decode cX2_within 1 = .ok (.istore_n 2, 1) := by decide +kernel
theorem dX2_within_2 : decode cX2_within 2 = .ok (.iconst 0, 1) := by decide +kernel
theorem dX2_within_3 : decode cX2_within 3 = .ok (.istore_n 3, 1) := by decide +kernel
theorem dX2_within_4 : decode cX2_within 4 = .ok (.iload_n 3, 1) := by decide +kernel
theorem dX2_within_5 : decode cX2_within 5 = .ok (.aload_n 0, 1) := by decide +kernel
theorem dX2_within_6 : decode cX2_within 6 = .ok (.getfield 40, 3) := by decide +kernel
theorem dX2_within_9 : decode cX2_within 9 = .ok (.if_icmp .ge 25, 3) := by decide +kernel
theorem dX2_within_12 : decode cX2_within 12 = .ok (.aload_n 0, 1) := by decide +kernel
theorem dX2_within_13 : decode cX2_within 13 = .ok (.getfield 17, 3) := by decide +kernel
theorem dX2_within_16 : decode cX2_within 16 = .ok (.iload_n 3, 1) := by decide +kernel
theorem dX2_within_17 : decode cX2_within 17 = .ok (.iaload, 1) := by decide +kernel
theorem dX2_within_18 : decode cX2_within 18 = .ok (.iload_n 1, 1) := by decide +kernel
theorem dX2_within_19 : decode cX2_within 19 = .ok (.iconst (-1), 1) := by decide +kernel
theorem dX2_within_20 : decode cX2_within 20 = .ok (.ixor, 1) := by decide +kernel
theorem dX2_within_21 : decode cX2_within 21 = .ok (.iand, 1) := by decide +kernel
theorem dX2_within_22 : decode cX2_within 22 = .ok (.ifCond .ne 6, 3) := by decide +kernel
theorem dX2_within_25 : decode cX2_within 25 = .ok (.iinc 2 1, 3) := by decide +kernel
theorem dX2_within_28 : decode cX2_within 28 = .ok (.iinc 3 1, 3) := by decide +kernel
theorem dX2_within_31 : decode cX2_within 31 = .ok (.goto (-27), 3) := by decide +kernel
theorem dX2_within_34 : decode cX2_within 34 = .ok (.iload_n 2, 1) := by decide +kernel
theorem dX2_within_35 : decode cX2_within 35 = .ok (.ireturn, 1) := by decide +kernel
set_option maxRecDepth 20000 in
theorem ggX2_running_X2_rate : GoodIn wsX2_running wsX2_rate := goodIn_r _ [6, 1, 7, 8, 9, 10, 11, 12, 13, 14, 15, 16, 17] (by decide +kernel) (by decide +kernel)
set_option maxRecDepth 20000 in
theorem gX2_running_X2_rate : GoodIn wsX2_running (wsV RX2 66 RX2 yX2_rate wsX2_rate) := goodIn_app (goodIn_of _ (by decide +kernel)) ggX2_running_X2_rate
theorem dX2_running_0 : decode cX2_running 0 = .ok (.iconst 0, 1) := by decide +kernel
theorem dX2_running_1 : decode cX2_running 1 = .ok (.istore_n 3, 1) := by decide +kernel
theorem dX2_running_2 : decode cX2_running 2 = .ok (.iconst 0, 1) := by decide +kernel
theorem dX2_running_3 : decode cX2_running 3 = .ok (.istore 4, 2) := by decide +kernel
theorem dX2_running_5 : decode cX2_running 5 = .ok (.iload 4, 2) := by decide +kernel
theorem dX2_running_7 : decode cX2_running 7 = .ok (.aload_n 0, 1) := by decide +kernel
theorem dX2_running_8 : decode cX2_running 8 = .ok (.getfield 40, 3) := by decide +kernel
theorem dX2_running_11 : decode cX2_running 11 = .ok (.if_icmp .ge 52, 3) := by decide +kernel
theorem dX2_running_14 : decode cX2_running 14 = .ok (.aload_n 0, 1) := by decide +kernel
theorem dX2_running_15 : decode cX2_running 15 = .ok (.iload 4, 2) := by decide +kernel
theorem dX2_running_17 : decode cX2_running 17 = .ok (.iload_n 1, 1) := by decide +kernel
theorem dX2_running_18 : decode cX2_running 18 = .ok (.invokevirtual 66, 3) := by decide +kernel
theorem dX2_running_21 : decode cX2_running 21 = .ok (.istore 5, 2) := by decide +kernel
theorem dX2_running_23 : decode cX2_running 23 = .ok (.iload_n 2, 1) := by decide +kernel
theorem dX2_running_24 : decode cX2_running 24 = .ok (.iconst 1, 1) := by decide +kernel
theorem dX2_running_25 : decode cX2_running 25 = .ok (.if_icmp .ne 11, 3) := by decide +kernel
theorem dX2_running_28 : decode cX2_running 28 = .ok (.iload 5, 2) := by decide +kernel
theorem dX2_running_30 : decode cX2_running 30 = .ok (.ifCond .le 27, 3) := by decide +kernel
theorem dX2_running_33 : decode cX2_running 33 = .ok (.goto 21, 3) := by decide +kernel
theorem dX2_running_36 : decode cX2_running 36 = .ok (.iload_n 2, 1) := by decide +kernel
theorem dX2_running_37 : decode cX2_running 37 = .ok (.iconst (-1), 1) := by decide +kernel
theorem dX2_running_38 : decode cX2_running 38 = .ok (.if_icmp .ne 11, 3) := by decide +kernel
theorem dX2_running_41 : decode cX2_running 41 = .ok (.iload 5, 2) := by decide +kernel
theorem dX2_running_43 : decode cX2_running 43 = .ok (.ifCond .ge 14, 3) := by decide +kernel
theorem dX2_running_46 : decode cX2_running 46 = .ok (.goto 8, 3) := by decide +kernel
theorem dX2_running_49 : decode cX2_running 49 = .ok (.iload 5, 2) := by decide +kernel
theorem dX2_running_51 : decode cX2_running 51 = .ok (.ifCond .eq 6, 3) := by decide +kernel
theorem dX2_running_54 : decode cX2_running 54 = .ok (.iinc 3 1, 3) := by decide +kernel
theorem dX2_running_57 : decode cX2_running 57 = .ok (.iinc 4 1, 3) := by decide +kernel
theorem dX2_running_60 : decode cX2_running 60 = .ok (.goto (-55), 3) := by decide +kernel
theorem dX2_running_63 : decode cX2_running 63 = .ok (.iload_n 3, 1) := by decide +kernel
theorem dX2_running_64 : decode cX2_running 64 = .ok (.ireturn, 1) := by decide +kernel
theorem dX2_shortest_0 : decode cX2_shortest 0 = .ok (.iload_n 1, 1) := by decide +kernel
theorem dX2_shortest_1 : decode cX2_shortest 1 = .ok (.ifCond .lt 9, 3) := by decide +kernel
theorem dX2_shortest_4 : decode cX2_shortest 4 = .ok (.iload_n 1, 1) := by decide +kernel
theorem dX2_shortest_5 : decode cX2_shortest 5 = .ok (.bipush 7, 2) := by decide +kernel
theorem dX2_shortest_7 : decode cX2_shortest 7 = .ok (.if_icmp .le 5, 3) := by decide +kernel
theorem dX2_shortest_10 : decode cX2_shortest 10 = .ok (.iconst 0, 1) := by decide +kernel
theorem dX2_shortest_11 : decode cX2_shortest 11 = .ok (.ireturn, 1) := by decide +kernel
theorem dX2_shortest_12 : decode cX2_shortest 12 = .ok (.iconst 0, 1) := by decide +kernel
theorem dX2_shortest_13 : decode cX2_shortest 13 = .ok (.istore_n 2, 1) := by decide +kernel
theorem dX2_shortest_14 : decode cX2_shortest 14 = .ok (.iconst 0, 1) := by decide +kernel
theorem dX2_shortest_15 : decode cX2_shortest 15 = .ok (.istore_n 3, 1) := by decide +kernel
theorem dX2_shortest_16 : decode cX2_shortest 16 = .ok (.iload_n 3, 1) := by decide +kernel
theorem dX2_shortest_17 : decode cX2_shortest 17 = .ok (.aload_n 0, 1) := by decide +kernel
theorem dX2_shortest_18 : decode cX2_shortest 18 = .ok (.getfield 40, 3) := by decide +kernel
theorem dX2_shortest_21 : decode cX2_shortest 21 = .ok (.if_icmp .ge 73, 3) := by decide +kernel
theorem dX2_shortest_24 : decode cX2_shortest 24 = .ok (.aload_n 0, 1) := by decide +kernel
theorem dX2_shortest_25 : decode cX2_shortest 25 = .ok (.getfield 17, 3) := by decide +kernel
theorem dX2_shortest_28 : decode cX2_shortest 28 = .ok (.iload_n 3, 1) := by decide +kernel
theorem dX2_shortest_29 : decode cX2_shortest 29 = .ok (.iaload, 1) := by decide +kernel
theorem dX2_shortest_30 : decode cX2_shortest 30 = .ok (.iload_n 1, 1) := by decide +kernel
theorem dX2_shortest_31 : decode cX2_shortest 31 = .ok (.ishr, 1) := by decide +kernel
theorem dX2_shortest_32 : decode cX2_shortest 32 = .ok (.iconst 1, 1) := by decide +kernel
theorem dX2_shortest_33 : decode cX2_shortest 33 = .ok (.iand, 1) := by decide +kernel
theorem dX2_shortest_34 : decode cX2_shortest 34 = .ok (.ifCond .ne 6, 3) := by decide +kernel
theorem dX2_shortest_37 : decode cX2_shortest 37 = .ok (.goto 51, 3) := by decide +kernel
theorem dX2_shortest_40 : decode cX2_shortest 40 = .ok (.iconst 0, 1) := by decide +kernel
theorem dX2_shortest_41 : decode cX2_shortest 41 = .ok (.istore 4, 2) := by decide +kernel
theorem dX2_shortest_43 : decode cX2_shortest 43 = .ok (.iconst 0, 1) := by decide +kernel
theorem dX2_shortest_44 : decode cX2_shortest 44 = .ok (.istore 5, 2) := by decide +kernel
theorem dX2_shortest_46 : decode cX2_shortest 46 = .ok (.iload 5, 2) := by decide +kernel
theorem dX2_shortest_48 : decode cX2_shortest 48 = .ok (.bipush 8, 2) := by decide +kernel
theorem dX2_shortest_50 : decode cX2_shortest 50 = .ok (.if_icmp .ge 25, 3) := by decide +kernel
theorem dX2_shortest_53 : decode cX2_shortest 53 = .ok (.iload 4, 2) := by decide +kernel
theorem dX2_shortest_55 : decode cX2_shortest 55 = .ok (.aload_n 0, 1) := by decide +kernel
theorem dX2_shortest_56 : decode cX2_shortest 56 = .ok (.getfield 17, 3) := by decide +kernel
theorem dX2_shortest_59 : decode cX2_shortest 59 = .ok (.iload_n 3, 1) := by decide +kernel
theorem dX2_shortest_60 : decode cX2_shortest 60 = .ok (.iaload, 1) := by decide +kernel
theorem dX2_shortest_61 : decode cX2_shortest 61 = .ok (.iload 5, 2) := by decide +kernel
theorem dX2_shortest_63 : decode cX2_shortest 63 = .ok (.ishr, 1) := by decide +kernel
theorem dX2_shortest_64 : decode cX2_shortest 64 = .ok (.iconst 1, 1) := by decide +kernel
theorem dX2_shortest_65 : decode cX2_shortest 65 = .ok (.iand, 1) := by decide +kernel
theorem dX2_shortest_66 : decode cX2_shortest 66 = .ok (.iadd, 1) := by decide +kernel
theorem dX2_shortest_67 : decode cX2_shortest 67 = .ok (.istore 4, 2) := by decide +kernel
theorem dX2_shortest_69 : decode cX2_shortest 69 = .ok (.iinc 5 1, 3) := by decide +kernel
theorem dX2_shortest_72 : decode cX2_shortest 72 = .ok (.goto (-26), 3) := by decide +kernel
theorem dX2_shortest_75 : decode cX2_shortest 75 = .ok (.iload_n 2, 1) := by decide +kernel
theorem dX2_shortest_76 : decode cX2_shortest 76 = .ok (.ifCond .eq 9, 3) := by decide +kernel
theorem dX2_shortest_79 : decode cX2_shortest 79 = .ok (.iload 4, 2) := by decide +kernel
theorem dX2_shortest_81 : decode cX2_shortest 81 = .ok (.iload_n 2, 1) := by decide +kernel
theorem dX2_shortest_82 : decode cX2_shortest 82 = .ok (.if_icmp .ge 6, 3) := by decide +kernel
theorem dX2_shortest_85 : decode cX2_shortest 85 = .ok (.iload 4, 2) := by decide +kernel
theorem dX2_shortest_87 : decode cX2_shortest 87 = .ok (.istore_n 2, 1) := by decide +kernel
theorem dX2_shortest_88 : decode cX2_shortest 88 = .ok (.iinc 3 1, 3) := by decide +kernel
theorem dX2_shortest_91 : decode cX2_shortest 91 = .ok (.goto (-75), 3) := by decide +kernel
theorem dX2_shortest_94 : decode cX2_shortest 94 = .ok (.iload_n 2, 1) := by decide +kernel
theorem dX2_shortest_95 : decode cX2_shortest 95 = .ok (.ireturn, 1) := by decide +kernel
theorem dJ6_bitCount_0f7a4_0 : decode cJ6_bitCount_0f7a4 0 = .ok (.iload_n 0, 1) := by decide +kernel
theorem dJ6_bitCount_0f7a4_1 : decode cJ6_bitCount_0f7a4 1 = .ok (.iload_n 0, 1) := by decide +kernel
theorem dJ6_bitCount_0f7a4_2 : decode cJ6_bitCount_0f7a4 2 = .ok (.iconst 1, 1) := by decide +kernel
theorem dJ6_bitCount_0f7a4_3 : decode cJ6_bitCount_0f7a4 3 = .ok (.iushr, 1) := by decide +kernel
theorem dJ6_bitCount_0f7a4_4 : decode cJ6_bitCount_0f7a4 4 = .ok (.ldc_w 265, 3) := by decide +kernel
theorem dJ6_bitCount_0f7a4_7 : decode cJ6_bitCount_0f7a4 7 = .ok (.iand, 1) := by decide +kernel
theorem dJ6_bitCount_0f7a4_8 : decode cJ6_bitCount_0f7a4 8 = .ok (.isub, 1) := by decide +kernel
theorem dJ6_bitCount_0f7a4_9 : decode cJ6_bitCount_0f7a4 9 = .ok (.istore_n 0, 1) := by decide +kernel
theorem dJ6_bitCount_0f7a4_10 : decode cJ6_bitCount_0f7a4 10 = .ok (.iload_n 0, 1) := by decide +kernel
theorem dJ6_bitCount_0f7a4_11 : decode cJ6_bitCount_0f7a4 11 = .ok (.ldc_w 266, 3) := by decide +kernel
theorem dJ6_bitCount_0f7a4_14 : decode cJ6_bitCount_0f7a4 14 = .ok (.iand, 1) := by decide +kernel
theorem dJ6_bitCount_0f7a4_15 : decode cJ6_bitCount_0f7a4 15 = .ok (.iload_n 0, 1) := by decide +kernel
theorem dJ6_bitCount_0f7a4_16 : decode cJ6_bitCount_0f7a4 16 = .ok (.iconst 2, 1) := by decide +kernel
theorem dJ6_bitCount_0f7a4_17 : decode cJ6_bitCount_0f7a4 17 = .ok (.iushr, 1) := by decide +kernel
theorem dJ6_bitCount_0f7a4_18 : decode cJ6_bitCount_0f7a4 18 = .ok (.ldc_w 266, 3) := by decide +kernel
theorem dJ6_bitCount_0f7a4_21 : decode cJ6_bitCount_0f7a4 21 = .ok (.iand, 1) := by decide +kernel
theorem dJ6_bitCount_0f7a4_22 : decode cJ6_bitCount_0f7a4 22 = .ok (.iadd, 1) := by decide +kernel
theorem dJ6_bitCount_0f7a4_23 : decode cJ6_bitCount_0f7a4 23 = .ok (.istore_n 0, 1) := by decide +kernel
theorem dJ6_bitCount_0f7a4_24 : decode cJ6_bitCount_0f7a4 24 = .ok (.iload_n 0, 1) := by decide +kernel
theorem dJ6_bitCount_0f7a4_25 : decode cJ6_bitCount_0f7a4 25 = .ok (.iload_n 0, 1) := by decide +kernel
theorem dJ6_bitCount_0f7a4_26 : decode cJ6_bitCount_0f7a4 26 = .ok (.iconst 4, 1) := by decide +kernel
theorem dJ6_bitCount_0f7a4_27 : decode cJ6_bitCount_0f7a4 27 = .ok (.iushr, 1) := by decide +kernel
theorem dJ6_bitCount_0f7a4_28 : decode cJ6_bitCount_0f7a4 28 = .ok (.iadd, 1) := by decide +kernel
theorem dJ6_bitCount_0f7a4_29 : decode cJ6_bitCount_0f7a4 29 = .ok (.ldc_w 267, 3) := by decide +kernel
theorem dJ6_bitCount_0f7a4_32 : decode cJ6_bitCount_0f7a4 32 = .ok (.iand, 1) := by decide +kernel
theorem dJ6_bitCount_0f7a4_33 : decode cJ6_bitCount_0f7a4 33 = .ok (.istore_n 0, 1) := by decide +kernel
theorem dJ6_bitCount_0f7a4_34 : decode cJ6_bitCount_0f7a4 34 = .ok (.iload_n 0, 1) := by decide +kernel
theorem dJ6_bitCount_0f7a4_35 : decode cJ6_bitCount_0f7a4 35 = .ok (.iload_n 0, 1) := by decide +kernel
theorem dJ6_bitCount_0f7a4_36 : decode cJ6_bitCount_0f7a4 36 = .ok (.bipush 8, 2) := by decide +kernel
theorem dJ6_bitCount_0f7a4_38 : decode cJ6_bitCount_0f7a4 38 = .ok (.iushr, 1) := by decide +kernel
theorem dJ6_bitCount_0f7a4_39 : decode cJ6_bitCount_0f7a4 39 = .ok (.iadd, 1) := by decide +kernel
theorem dJ6_bitCount_0f7a4_40 : decode cJ6_bitCount_0f7a4 40 = .ok (.istore_n 0, 1) := by decide +kernel
theorem dJ6_bitCount_0f7a4_41 : decode cJ6_bitCount_0f7a4 41 = .ok (.iload_n 0, 1) := by decide +kernel
theorem dJ6_bitCount_0f7a4_42 : decode cJ6_bitCount_0f7a4 42 = .ok (.iload_n 0, 1) := by decide +kernel
theorem dJ6_bitCount_0f7a4_43 : decode cJ6_bitCount_0f7a4 43 = .ok (.bipush 16, 2) := by decide +kernel
theorem dJ6_bitCount_0f7a4_45 : decode cJ6_bitCount_0f7a4 45 = .ok (.iushr, 1) := by decide +kernel
theorem dJ6_bitCount_0f7a4_46 : decode cJ6_bitCount_0f7a4 46 = .ok (.iadd, 1) := by decide +kernel
theorem dJ6_bitCount_0f7a4_47 : decode cJ6_bitCount_0f7a4 47 = .ok (.istore_n 0, 1) := by decide +kernel
theorem dJ6_bitCount_0f7a4_48 : decode cJ6_bitCount_0f7a4 48 = .ok (.iload_n 0, 1) := by decide +kernel
theorem dJ6_bitCount_0f7a4_49 : decode cJ6_bitCount_0f7a4 49 = .ok (.bipush 63, 2) := by decide +kernel
theorem dJ6_bitCount_0f7a4_51 : decode cJ6_bitCount_0f7a4 51 = .ok (.iand, 1) := by decide +kernel
theorem dJ6_bitCount_0f7a4_52 : decode cJ6_bitCount_0f7a4 52 = .ok (.ireturn, 1) := by decide +kernel
theorem dJ9_abs_067f4_0 : decode cJ9_abs_067f4 0 = .ok (.lload_n 0, 1) := by decide +kernel
theorem dJ9_abs_067f4_1 : decode cJ9_abs_067f4 1 = .ok (.lconst 0, 1) := by decide +kernel
theorem dJ9_abs_067f4_2 : decode cJ9_abs_067f4 2 = .ok (.lcmp, 1) := by decide +kernel
theorem dJ9_abs_067f4_3 : decode cJ9_abs_067f4 3 = .ok (.ifCond .ge 8, 3) := by decide +kernel
theorem dJ9_abs_067f4_6 : decode cJ9_abs_067f4 6 = .ok (.lload_n 0, 1) := by decide +kernel
theorem dJ9_abs_067f4_7 : decode cJ9_abs_067f4 7 = .ok (.lneg, 1) := by decide +kernel
theorem dJ9_abs_067f4_8 : decode cJ9_abs_067f4 8 = .ok (.goto 4, 3) := by decide +kernel
theorem dJ9_abs_067f4_11 : decode cJ9_abs_067f4 11 = .ok (.lload_n 0, 1) := by decide +kernel
theorem dJ9_abs_067f4_12 : decode cJ9_abs_067f4 12 = .ok (.lreturn, 1) := by decide +kernel
theorem dJ9_max_7cf53_0 : decode cJ9_max_7cf53 0 = .ok (.iload_n 0, 1) := by decide +kernel
theorem dJ9_max_7cf53_1 : decode cJ9_max_7cf53 1 = .ok (.iload_n 1, 1) := by decide +kernel
theorem dJ9_max_7cf53_2 : decode cJ9_max_7cf53 2 = .ok (.if_icmp .lt 7, 3) := by decide +kernel
theorem dJ9_max_7cf53_5 : decode cJ9_max_7cf53 5 = .ok (.iload_n 0, 1) := by decide +kernel
theorem dJ9_max_7cf53_6 : decode cJ9_max_7cf53 6 = .ok (.goto 4, 3) := by decide +kernel
theorem dJ9_max_7cf53_9 : decode cJ9_max_7cf53 9 = .ok (.iload_n 1, 1) := by decide +kernel
theorem dJ9_max_7cf53_10 : decode cJ9_max_7cf53 10 = .ok (.ireturn, 1) := by decide +kernel
theorem dJ9_min_7cf53_0 : decode cJ9_min_7cf53 0 = .ok (.iload_n 0, 1) := by decide +kernel
theorem dJ9_min_7cf53_1 : decode cJ9_min_7cf53 1 = .ok (.iload_n 1, 1) := by decide +kernel
theorem dJ9_min_7cf53_2 : decode cJ9_min_7cf53 2 = .ok (.if_icmp .gt 7, 3) := by decide +kernel
theorem dJ9_min_7cf53_5 : decode cJ9_min_7cf53 5 = .ok (.iload_n 0, 1) := by decide +kernel
theorem dJ9_min_7cf53_6 : decode cJ9_min_7cf53 6 = .ok (.goto 4, 3) := by decide +kernel
theorem dJ9_min_7cf53_9 : decode cJ9_min_7cf53 9 = .ok (.iload_n 1, 1) := by decide +kernel
theorem dJ9_min_7cf53_10 : decode cJ9_min_7cf53 10 = .ok (.ireturn, 1) := by decide +kernel
theorem dJ7_fill_53178_0 : decode cJ7_fill_53178 0 = .ok (.iconst 0, 1) := by decide +kernel
theorem dJ7_fill_53178_1 : decode cJ7_fill_53178 1 = .ok (.istore_n 2, 1) := by decide +kernel
theorem dJ7_fill_53178_2 : decode cJ7_fill_53178 2 = .ok (.aload_n 0, 1) := by decide +kernel
theorem dJ7_fill_53178_3 : decode cJ7_fill_53178 3 = .ok (.arraylength, 1) := by decide +kernel
theorem dJ7_fill_53178_4 : decode cJ7_fill_53178 4 = .ok (.istore_n 3, 1) := by decide +kernel
theorem dJ7_fill_53178_5 : decode cJ7_fill_53178 5 = .ok (.iload_n 2, 1) := by decide +kernel
theorem dJ7_fill_53178_6 : decode cJ7_fill_53178 6 = .ok (.iload_n 3, 1) := by decide +kernel
theorem dJ7_fill_53178_7 : decode cJ7_fill_53178 7 = .ok (.if_icmp .ge 13, 3) := by decide +kernel
theorem dJ7_fill_53178_10 : decode cJ7_fill_53178 10 = .ok (.aload_n 0, 1) := by decide +kernel
theorem dJ7_fill_53178_11 : decode cJ7_fill_53178 11 = .ok (.iload_n 2, 1) := by decide +kernel
theorem dJ7_fill_53178_12 : decode cJ7_fill_53178 12 = .ok (.iload_n 1, 1) := by decide +kernel
theorem dJ7_fill_53178_13 : decode cJ7_fill_53178 13 = .ok (.iastore, 1) := by decide +kernel
theorem dJ7_fill_53178_14 : decode cJ7_fill_53178 14 = .ok (.iinc 2 1, 3) := by decide +kernel
theorem dJ7_fill_53178_17 : decode cJ7_fill_53178 17 = .ok (.goto (-12), 3) := by decide +kernel
theorem dJ7_fill_53178_20 : decode cJ7_fill_53178 20 = .ok (.return_, 1) := by decide +kernel
set_option maxRecDepth 20000 in
theorem ggL_law_X1_init : GoodIn wsL_law wsX1_init := goodIn_r _ [8, 9, 10, 11, 12, 13, 14, 15, 16, 17, 18, 19, 20, 21, 22, 23, 24, 25, 26, 27, 28, 29, 30, 31, 32, 33, 271, 272, 273, 274, 275, 276, 277, 278, 279, 290, 291, 292, 293] (by decide +kernel) (by decide +kernel)
set_option maxRecDepth 20000 in
theorem gL_law_X1_init : GoodIn wsL_law (wsX1_init) := ggL_law_X1_init
set_option maxRecDepth 20000 in
theorem ggL_law_X2_init : GoodIn wsL_law wsX2_init := goodIn_r _ [36, 37, 10, 11, 12, 38, 39, 40, 41, 42, 20, 43, 44, 45, 46, 280, 281, 282, 283, 284, 285, 286, 287, 288, 289] (by decide +kernel) (by decide +kernel)
set_option maxRecDepth 20000 in
theorem gL_law_X2_init : GoodIn wsL_law (wsX2_init) := ggL_law_X2_init
set_option maxRecDepth 20000 in
theorem ggL_law_X1_size : GoodIn wsL_law wsX1_size := goodIn_r _ [50, 22, 23, 13, 24, 25, 51, 52, 53, 54, 271, 272, 273, 274, 275, 276, 277, 278, 279] (by decide +kernel) (by decide +kernel)
set_option maxRecDepth 20000 in
theorem gL_law_X1_size : GoodIn wsL_law (wsV RL 13 RX1 yX1_size wsX1_size) := goodIn_app (goodIn_of _ (by decide +kernel)) ggL_law_X1_size
set_option maxRecDepth 20000 in
theorem ggL_law_X2_size : GoodIn wsL_law wsX2_size := goodIn_r _ [58, 59, 46, 38, 40, 60, 280, 281, 282, 283, 284, 285, 286, 287, 288, 289] (by decide +kernel) (by decide +kernel)
set_option maxRecDepth 20000 in
theorem gL_law_X2_size : GoodIn wsL_law (wsV RL 17 RX2 yX2_size wsX2_size) := goodIn_app (goodIn_of _ (by decide +kernel)) ggL_law_X2_size
set_option maxRecDepth 20000 in
theorem ggL_law_X1_enter : GoodIn wsL_law wsX1_enter := goodIn_r _ [64, 13, 65, 66, 67, 2, 68, 22, 69, 70, 71, 72, 23, 271, 272, 273, 274, 275, 276, 277, 278, 279] (by decide +kernel) (by decide +kernel)
set_option maxRecDepth 20000 in
theorem gL_law_X1_enter : GoodIn wsL_law (wsV RL 18 RX1 yX1_enter wsX1_enter) := goodIn_app (goodIn_of _ (by decide +kernel)) ggL_law_X1_enter
set_option maxRecDepth 20000 in
theorem ggL_law_X2_enter : GoodIn wsL_law wsX2_enter := goodIn_r _ [76, 38, 77, 78, 79, 5, 80, 59, 46, 280, 281, 282, 283, 284, 285, 286, 287, 288, 289] (by decide +kernel) (by decide +kernel)
set_option maxRecDepth 20000 in
theorem gL_law_X2_enter : GoodIn wsL_law (wsV RL 22 RX2 yX2_enter wsX2_enter) := goodIn_app (goodIn_of _ (by decide +kernel)) ggL_law_X2_enter
set_option maxRecDepth 20000 in
theorem ggL_law_X1_entry : GoodIn wsL_law wsX1_entry := goodIn_r _ [84, 13, 65, 66, 67, 2, 68, 22, 69, 70, 71, 72, 23, 271, 272, 273, 274, 275, 276, 277, 278, 279] (by decide +kernel) (by decide +kernel)
set_option maxRecDepth 20000 in
theorem gL_law_X1_entry : GoodIn wsL_law (wsV RL 23 RX1 yX1_entry wsX1_entry) := goodIn_app (goodIn_of _ (by decide +kernel)) ggL_law_X1_entry
set_option maxRecDepth 20000 in
theorem ggL_law_X2_entry : GoodIn wsL_law wsX2_entry := goodIn_r _ [88, 38, 77, 78, 79, 5, 80, 59, 46, 280, 281, 282, 283, 284, 285, 286, 287, 288, 289] (by decide +kernel) (by decide +kernel)
set_option maxRecDepth 20000 in
theorem gL_law_X2_entry : GoodIn wsL_law (wsV RL 27 RX2 yX2_entry wsX2_entry) := goodIn_app (goodIn_of _ (by decide +kernel)) ggL_law_X2_entry
set_option maxRecDepth 20000 in
theorem ggL_law_X1_reversible : GoodIn wsL_law wsX1_reversible := goodIn_r _ [92, 24, 69, 70, 71, 2, 72, 23, 271, 272, 273, 274, 275, 276, 277, 278, 279] (by decide +kernel) (by decide +kernel)
set_option maxRecDepth 20000 in
theorem gL_law_X1_reversible : GoodIn wsL_law (wsV RL 28 RX1 yX1_reversible wsX1_reversible) := goodIn_app (goodIn_of _ (by decide +kernel)) ggL_law_X1_reversible
set_option maxRecDepth 20000 in
theorem ggL_law_X2_reversible : GoodIn wsL_law wsX2_reversible := goodIn_r _ [96, 46, 40, 280, 281, 282, 283, 284, 285, 286, 287, 288, 289] (by decide +kernel) (by decide +kernel)
set_option maxRecDepth 20000 in
theorem gL_law_X2_reversible : GoodIn wsL_law (wsV RL 32 RX2 yX2_reversible wsX2_reversible) := goodIn_app (goodIn_of _ (by decide +kernel)) ggL_law_X2_reversible
set_option maxRecDepth 20000 in
theorem ggL_law_X1_reversibles : GoodIn wsL_law wsX1_reversibles := goodIn_r _ [100, 24, 271, 272, 273, 274, 275, 276, 277, 278, 279] (by decide +kernel) (by decide +kernel)
set_option maxRecDepth 20000 in
theorem gL_law_X1_reversibles : GoodIn wsL_law (wsV RL 33 RX1 yX1_reversibles wsX1_reversibles) := goodIn_app (goodIn_of _ (by decide +kernel)) ggL_law_X1_reversibles
set_option maxRecDepth 20000 in
theorem ggL_law_X2_reversibles : GoodIn wsL_law wsX2_reversibles := goodIn_r _ [104, 40, 280, 281, 282, 283, 284, 285, 286, 287, 288, 289] (by decide +kernel) (by decide +kernel)
set_option maxRecDepth 20000 in
theorem gL_law_X2_reversibles : GoodIn wsL_law (wsV RL 37 RX2 yX2_reversibles wsX2_reversibles) := goodIn_app (goodIn_of _ (by decide +kernel)) ggL_law_X2_reversibles
set_option maxRecDepth 20000 in
theorem ggL_law_X1_solve : GoodIn wsL_law wsX1_solve := goodIn_r _ [108, 25, 23, 109, 110, 111, 2, 112, 19, 113, 114, 115, 116, 22, 13, 117, 118, 119, 18, 120, 121, 122, 123, 124, 125, 126, 127, 31, 32, 33, 128, 129, 130, 131, 132, 133, 134, 30, 135, 136, 137, 138, 139, 140, 141, 142, 143, 144, 145, 146, 147, 148, 149, 150, 151, 152, 153, 154, 155, 156, 157, 158, 159, 160, 21, 161, 162, 163, 164, 165, 166, 167, 168, 24, 169, 170, 171, 172, 15, 14, 173, 174, 175, 176, 177, 178, 179, 271, 272, 273, 274, 275, 276, 277, 278, 279, 290, 291, 292, 293] (by decide +kernel) (by decide +kernel)
set_option maxRecDepth 20000 in
theorem gL_law_X1_solve : GoodIn wsL_law (wsV RL 38 RX1 yX1_solve wsX1_solve) := goodIn_app (goodIn_of _ (by decide +kernel)) ggL_law_X1_solve
set_option maxRecDepth 20000 in
theorem ggL_law_X2_solve : GoodIn wsL_law wsX2_solve := goodIn_r _ [183, 60, 46, 184, 185, 186, 5, 187, 43, 38, 44, 45, 59, 188, 189, 190, 191, 192, 193, 194, 195, 196, 197, 198, 199, 40, 200, 201, 202, 203, 41, 42, 280, 281, 282, 283, 284, 285, 286, 287, 288, 289] (by decide +kernel) (by decide +kernel)
set_option maxRecDepth 20000 in
theorem gL_law_X2_solve : GoodIn wsL_law (wsV RL 41 RX2 yX2_solve wsX2_solve) := goodIn_app (goodIn_of _ (by decide +kernel)) ggL_law_X2_solve
set_option maxRecDepth 20000 in
theorem ggL_law_X1_modes : GoodIn wsL_law wsX1_modes := goodIn_r _ [207, 25, 271, 272, 273, 274, 275, 276, 277, 278, 279] (by decide +kernel) (by decide +kernel)
set_option maxRecDepth 20000 in
theorem gL_law_X1_modes : GoodIn wsL_law (wsV RL 42 RX1 yX1_modes wsX1_modes) := goodIn_app (goodIn_of _ (by decide +kernel)) ggL_law_X1_modes
set_option maxRecDepth 20000 in
theorem ggL_law_X2_modes : GoodIn wsL_law wsX2_modes := goodIn_r _ [211, 60, 280, 281, 282, 283, 284, 285, 286, 287, 288, 289] (by decide +kernel) (by decide +kernel)
set_option maxRecDepth 20000 in
theorem gL_law_X2_modes : GoodIn wsL_law (wsV RL 45 RX2 yX2_modes wsX2_modes) := goodIn_app (goodIn_of _ (by decide +kernel)) ggL_law_X2_modes
set_option maxRecDepth 20000 in
theorem ggL_law_X1_support : GoodIn wsL_law wsX1_support := goodIn_r _ [215, 14, 216, 217, 218, 2, 219, 25, 271, 272, 273, 274, 275, 276, 277, 278, 279] (by decide +kernel) (by decide +kernel)
set_option maxRecDepth 20000 in
theorem gL_law_X1_support : GoodIn wsL_law (wsV RL 46 RX1 yX1_support wsX1_support) := goodIn_app (goodIn_of _ (by decide +kernel)) ggL_law_X1_support
set_option maxRecDepth 20000 in
theorem ggL_law_X2_support : GoodIn wsL_law wsX2_support := goodIn_r _ [223, 60, 41, 280, 281, 282, 283, 284, 285, 286, 287, 288, 289] (by decide +kernel) (by decide +kernel)
set_option maxRecDepth 20000 in
theorem gL_law_X2_support : GoodIn wsL_law (wsV RL 50 RX2 yX2_support wsX2_support) := goodIn_app (goodIn_of _ (by decide +kernel)) ggL_law_X2_support
set_option maxRecDepth 20000 in
theorem ggL_law_X1_rate : GoodIn wsL_law wsX1_rate := goodIn_r _ [227, 15, 216, 217, 218, 2, 219, 25, 228, 229, 230, 271, 272, 273, 274, 275, 276, 277, 278, 279] (by decide +kernel) (by decide +kernel)
set_option maxRecDepth 20000 in
theorem gL_law_X1_rate : GoodIn wsL_law (wsV RL 51 RX1 yX1_rate wsX1_rate) := goodIn_app (goodIn_of _ (by decide +kernel)) ggL_law_X1_rate
set_option maxRecDepth 20000 in
theorem ggL_law_X2_rate : GoodIn wsL_law wsX2_rate := goodIn_r _ [234, 60, 42, 280, 281, 282, 283, 284, 285, 286, 287, 288, 289] (by decide +kernel) (by decide +kernel)
set_option maxRecDepth 20000 in
theorem gL_law_X2_rate : GoodIn wsL_law (wsV RL 54 RX2 yX2_rate wsX2_rate) := goodIn_app (goodIn_of _ (by decide +kernel)) ggL_law_X2_rate
set_option maxRecDepth 20000 in
theorem ggL_law_X1_within : GoodIn wsL_law wsX1_within := goodIn_r _ [238, 25, 14, 271, 272, 273, 274, 275, 276, 277, 278, 279] (by decide +kernel) (by decide +kernel)
set_option maxRecDepth 20000 in
theorem gL_law_X1_within : GoodIn wsL_law (wsV RL 55 RX1 yX1_within wsX1_within) := goodIn_app (goodIn_of _ (by decide +kernel)) ggL_law_X1_within
set_option maxRecDepth 20000 in
theorem ggL_law_X2_within : GoodIn wsL_law wsX2_within := goodIn_r _ [242, 60, 41, 280, 281, 282, 283, 284, 285, 286, 287, 288, 289] (by decide +kernel) (by decide +kernel)
set_option maxRecDepth 20000 in
theorem gL_law_X2_within : GoodIn wsL_law (wsV RL 58 RX2 yX2_within wsX2_within) := goodIn_app (goodIn_of _ (by decide +kernel)) ggL_law_X2_within
set_option maxRecDepth 20000 in
theorem ggL_law_X1_running : GoodIn wsL_law wsX1_running := goodIn_r _ [246, 25, 15, 228, 229, 2, 230, 247, 248, 249, 271, 272, 273, 274, 275, 276, 277, 278, 279] (by decide +kernel) (by decide +kernel)
set_option maxRecDepth 20000 in
theorem gL_law_X1_running : GoodIn wsL_law (wsV RL 59 RX1 yX1_running wsX1_running) := goodIn_app (goodIn_of _ (by decide +kernel)) ggL_law_X1_running
set_option maxRecDepth 20000 in
theorem ggL_law_X2_running : GoodIn wsL_law wsX2_running := goodIn_r _ [253, 60, 254, 232, 233, 5, 234, 42, 280, 281, 282, 283, 284, 285, 286, 287, 288, 289] (by decide +kernel) (by decide +kernel)
set_option maxRecDepth 20000 in
theorem gL_law_X2_running : GoodIn wsL_law (wsV RL 62 RX2 yX2_running wsX2_running) := goodIn_app (goodIn_of _ (by decide +kernel)) ggL_law_X2_running
set_option maxRecDepth 20000 in
theorem ggL_law_X1_shortest : GoodIn wsL_law wsX1_shortest := goodIn_r _ [258, 25, 14, 259, 122, 123, 124, 228, 229, 2, 230, 128, 129, 130, 260, 261, 262, 263, 264, 265, 266, 271, 272, 273, 274, 275, 276, 277, 278, 279] (by decide +kernel) (by decide +kernel)
set_option maxRecDepth 20000 in
theorem gL_law_X1_shortest : GoodIn wsL_law (wsV RL 63 RX1 yX1_shortest wsX1_shortest) := goodIn_app (goodIn_of _ (by decide +kernel)) ggL_law_X1_shortest
set_option maxRecDepth 20000 in
theorem ggL_law_X2_shortest : GoodIn wsL_law wsX2_shortest := goodIn_r _ [270, 60, 41, 280, 281, 282, 283, 284, 285, 286, 287, 288, 289] (by decide +kernel) (by decide +kernel)
set_option maxRecDepth 20000 in
theorem gL_law_X2_shortest : GoodIn wsL_law (wsV RL 66 RX2 yX2_shortest wsX2_shortest) := goodIn_app (goodIn_of _ (by decide +kernel)) ggL_law_X2_shortest
theorem dL_law_0 : decode cL_law 0 = .ok (.new 7, 3) := by decide +kernel
theorem dL_law_3 : decode cL_law 3 = .ok (.dup, 1) := by decide +kernel
theorem dL_law_4 : decode cL_law 4 = .ok (.invokespecial 9, 3) := by decide +kernel
theorem dL_law_7 : decode cL_law 7 = .ok (.astore_n 1, 1) := by decide +kernel
theorem dL_law_8 : decode cL_law 8 = .ok (.new 10, 3) := by decide +kernel
theorem dL_law_11 : decode cL_law 11 = .ok (.dup, 1) := by decide +kernel
theorem dL_law_12 : decode cL_law 12 = .ok (.invokespecial 12, 3) := by decide +kernel
theorem dL_law_15 : decode cL_law 15 = .ok (.astore_n 2, 1) := by decide +kernel
theorem dL_law_16 : decode cL_law 16 = .ok (.iconst 0, 1) := by decide +kernel
theorem dL_law_17 : decode cL_law 17 = .ok (.istore_n 3, 1) := by decide +kernel
theorem dL_law_18 : decode cL_law 18 = .ok (.iload_n 3, 1) := by decide +kernel
theorem dL_law_19 : decode cL_law 19 = .ok (.aload_n 0, 1) := by decide +kernel
theorem dL_law_20 : decode cL_law 20 = .ok (.arraylength, 1) := by decide +kernel
theorem dL_law_21 : decode cL_law 21 = .ok (.iconst 4, 1) := by decide +kernel
theorem dL_law_22 : decode cL_law 22 = .ok (.isub, 1) := by decide +kernel
theorem dL_law_23 : decode cL_law 23 = .ok (.if_icmp .gt 411, 3) := by decide +kernel
theorem dL_law_26 : decode cL_law 26 = .ok (.aload_n 0, 1) := by decide +kernel
theorem dL_law_27 : decode cL_law 27 = .ok (.iload_n 3, 1) := by decide +kernel
theorem dL_law_28 : decode cL_law 28 = .ok (.iaload, 1) := by decide +kernel
theorem dL_law_29 : decode cL_law 29 = .ok (.bipush 15, 2) := by decide +kernel
theorem dL_law_31 : decode cL_law 31 = .ok (.iand, 1) := by decide +kernel
theorem dL_law_32 : decode cL_law 32 = .ok (.tableswitch 396 0 11 #[64, 97, 140, 173, 222, 235, 248, 261, 284, 317, 340, 373], 64) := by decide +kernel
theorem dL_law_96 : decode cL_law 96 = .ok (.aload_n 1, 1) := by decide +kernel
theorem dL_law_97 : decode cL_law 97 = .ok (.aload_n 0, 1) := by decide +kernel
theorem dL_law_98 : decode cL_law 98 = .ok (.iload_n 3, 1) := by decide +kernel
theorem dL_law_99 : decode cL_law 99 = .ok (.iconst 1, 1) := by decide +kernel
theorem dL_law_100 : decode cL_law 100 = .ok (.iadd, 1) := by decide +kernel
theorem dL_law_101 : decode cL_law 101 = .ok (.iaload, 1) := by decide +kernel
theorem dL_law_102 : decode cL_law 102 = .ok (.aload_n 0, 1) := by decide +kernel
theorem dL_law_103 : decode cL_law 103 = .ok (.iload_n 3, 1) := by decide +kernel
theorem dL_law_104 : decode cL_law 104 = .ok (.iconst 2, 1) := by decide +kernel
theorem dL_law_105 : decode cL_law 105 = .ok (.iadd, 1) := by decide +kernel
theorem dL_law_106 : decode cL_law 106 = .ok (.iaload, 1) := by decide +kernel
theorem dL_law_107 : decode cL_law 107 = .ok (.invokevirtual 13, 3) := by decide +kernel
theorem dL_law_110 : decode cL_law 110 = .ok (.aload_n 2, 1) := by decide +kernel
theorem dL_law_111 : decode cL_law 111 = .ok (.aload_n 0, 1) := by decide +kernel
theorem dL_law_112 : decode cL_law 112 = .ok (.iload_n 3, 1) := by decide +kernel
theorem dL_law_113 : decode cL_law 113 = .ok (.iconst 1, 1) := by decide +kernel
theorem dL_law_114 : decode cL_law 114 = .ok (.iadd, 1) := by decide +kernel
theorem dL_law_115 : decode cL_law 115 = .ok (.iaload, 1) := by decide +kernel
theorem dL_law_116 : decode cL_law 116 = .ok (.aload_n 0, 1) := by decide +kernel
theorem dL_law_117 : decode cL_law 117 = .ok (.iload_n 3, 1) := by decide +kernel
theorem dL_law_118 : decode cL_law 118 = .ok (.iconst 2, 1) := by decide +kernel
theorem dL_law_119 : decode cL_law 119 = .ok (.iadd, 1) := by decide +kernel
theorem dL_law_120 : decode cL_law 120 = .ok (.iaload, 1) := by decide +kernel
theorem dL_law_121 : decode cL_law 121 = .ok (.invokevirtual 17, 3) := by decide +kernel
theorem dL_law_124 : decode cL_law 124 = .ok (.if_icmp .eq 304, 3) := by decide +kernel
theorem dL_law_127 : decode cL_law 127 = .ok (.iconst 0, 1) := by decide +kernel
theorem dL_law_128 : decode cL_law 128 = .ok (.ireturn, 1) := by decide +kernel
theorem dL_law_129 : decode cL_law 129 = .ok (.aload_n 1, 1) := by decide +kernel
theorem dL_law_130 : decode cL_law 130 = .ok (.aload_n 0, 1) := by decide +kernel
theorem dL_law_131 : decode cL_law 131 = .ok (.iload_n 3, 1) := by decide +kernel
theorem dL_law_132 : decode cL_law 132 = .ok (.iconst 1, 1) := by decide +kernel
theorem dL_law_133 : decode cL_law 133 = .ok (.iadd, 1) := by decide +kernel
theorem dL_law_134 : decode cL_law 134 = .ok (.iaload, 1) := by decide +kernel
theorem dL_law_135 : decode cL_law 135 = .ok (.aload_n 0, 1) := by decide +kernel
theorem dL_law_136 : decode cL_law 136 = .ok (.iload_n 3, 1) := by decide +kernel
theorem dL_law_137 : decode cL_law 137 = .ok (.iconst 2, 1) := by decide +kernel
theorem dL_law_138 : decode cL_law 138 = .ok (.iadd, 1) := by decide +kernel
theorem dL_law_139 : decode cL_law 139 = .ok (.iaload, 1) := by decide +kernel
theorem dL_law_140 : decode cL_law 140 = .ok (.aload_n 0, 1) := by decide +kernel
theorem dL_law_141 : decode cL_law 141 = .ok (.iload_n 3, 1) := by decide +kernel
theorem dL_law_142 : decode cL_law 142 = .ok (.iconst 3, 1) := by decide +kernel
theorem dL_law_143 : decode cL_law 143 = .ok (.iadd, 1) := by decide +kernel
theorem dL_law_144 : decode cL_law 144 = .ok (.iaload, 1) := by decide +kernel
theorem dL_law_145 : decode cL_law 145 = .ok (.invokevirtual 18, 3) := by decide +kernel
theorem dL_law_148 : decode cL_law 148 = .ok (.aload_n 2, 1) := by decide +kernel
theorem dL_law_149 : decode cL_law 149 = .ok (.aload_n 0, 1) := by decide +kernel
theorem dL_law_150 : decode cL_law 150 = .ok (.iload_n 3, 1) := by decide +kernel
theorem dL_law_151 : decode cL_law 151 = .ok (.iconst 1, 1) := by decide +kernel
theorem dL_law_152 : decode cL_law 152 = .ok (.iadd, 1) := by decide +kernel
theorem dL_law_153 : decode cL_law 153 = .ok (.iaload, 1) := by decide +kernel
theorem dL_law_154 : decode cL_law 154 = .ok (.aload_n 0, 1) := by decide +kernel
theorem dL_law_155 : decode cL_law 155 = .ok (.iload_n 3, 1) := by decide +kernel
theorem dL_law_156 : decode cL_law 156 = .ok (.iconst 2, 1) := by decide +kernel
theorem dL_law_157 : decode cL_law 157 = .ok (.iadd, 1) := by decide +kernel
theorem dL_law_158 : decode cL_law 158 = .ok (.iaload, 1) := by decide +kernel
theorem dL_law_159 : decode cL_law 159 = .ok (.aload_n 0, 1) := by decide +kernel
theorem dL_law_160 : decode cL_law 160 = .ok (.iload_n 3, 1) := by decide +kernel
theorem dL_law_161 : decode cL_law 161 = .ok (.iconst 3, 1) := by decide +kernel
theorem dL_law_162 : decode cL_law 162 = .ok (.iadd, 1) := by decide +kernel
theorem dL_law_163 : decode cL_law 163 = .ok (.iaload, 1) := by decide +kernel
theorem dL_law_164 : decode cL_law 164 = .ok (.invokevirtual 22, 3) := by decide +kernel
theorem dL_law_167 : decode cL_law 167 = .ok (.if_icmp .eq 261, 3) := by decide +kernel
theorem dL_law_170 : decode cL_law 170 = .ok (.iconst 0, 1) := by decide +kernel
theorem dL_law_171 : decode cL_law 171 = .ok (.ireturn, 1) := by decide +kernel
theorem dL_law_172 : decode cL_law 172 = .ok (.aload_n 1, 1) := by decide +kernel
theorem dL_law_173 : decode cL_law 173 = .ok (.aload_n 0, 1) := by decide +kernel
theorem dL_law_174 : decode cL_law 174 = .ok (.iload_n 3, 1) := by decide +kernel
theorem dL_law_175 : decode cL_law 175 = .ok (.iconst 1, 1) := by decide +kernel
theorem dL_law_176 : decode cL_law 176 = .ok (.iadd, 1) := by decide +kernel
theorem dL_law_177 : decode cL_law 177 = .ok (.iaload, 1) := by decide +kernel
theorem dL_law_178 : decode cL_law 178 = .ok (.aload_n 0, 1) := by decide +kernel
theorem dL_law_179 : decode cL_law 179 = .ok (.iload_n 3, 1) := by decide +kernel
theorem dL_law_180 : decode cL_law 180 = .ok (.iconst 2, 1) := by decide +kernel
theorem dL_law_181 : decode cL_law 181 = .ok (.iadd, 1) := by decide +kernel
theorem dL_law_182 : decode cL_law 182 = .ok (.iaload, 1) := by decide +kernel
theorem dL_law_183 : decode cL_law 183 = .ok (.invokevirtual 23, 3) := by decide +kernel
theorem dL_law_186 : decode cL_law 186 = .ok (.aload_n 2, 1) := by decide +kernel
theorem dL_law_187 : decode cL_law 187 = .ok (.aload_n 0, 1) := by decide +kernel
theorem dL_law_188 : decode cL_law 188 = .ok (.iload_n 3, 1) := by decide +kernel
theorem dL_law_189 : decode cL_law 189 = .ok (.iconst 1, 1) := by decide +kernel
theorem dL_law_190 : decode cL_law 190 = .ok (.iadd, 1) := by decide +kernel
theorem dL_law_191 : decode cL_law 191 = .ok (.iaload, 1) := by decide +kernel
theorem dL_law_192 : decode cL_law 192 = .ok (.aload_n 0, 1) := by decide +kernel
theorem dL_law_193 : decode cL_law 193 = .ok (.iload_n 3, 1) := by decide +kernel
theorem dL_law_194 : decode cL_law 194 = .ok (.iconst 2, 1) := by decide +kernel
theorem dL_law_195 : decode cL_law 195 = .ok (.iadd, 1) := by decide +kernel
theorem dL_law_196 : decode cL_law 196 = .ok (.iaload, 1) := by decide +kernel
theorem dL_law_197 : decode cL_law 197 = .ok (.invokevirtual 27, 3) := by decide +kernel
theorem dL_law_200 : decode cL_law 200 = .ok (.if_icmp .eq 228, 3) := by decide +kernel
theorem dL_law_203 : decode cL_law 203 = .ok (.iconst 0, 1) := by decide +kernel
theorem dL_law_204 : decode cL_law 204 = .ok (.ireturn, 1) := by decide +kernel
theorem dL_law_205 : decode cL_law 205 = .ok (.aload_n 1, 1) := by decide +kernel
theorem dL_law_206 : decode cL_law 206 = .ok (.aload_n 0, 1) := by decide +kernel
theorem dL_law_207 : decode cL_law 207 = .ok (.iload_n 3, 1) := by decide +kernel
theorem dL_law_208 : decode cL_law 208 = .ok (.iconst 1, 1) := by decide +kernel
theorem dL_law_209 : decode cL_law 209 = .ok (.iadd, 1) := by decide +kernel
theorem dL_law_210 : decode cL_law 210 = .ok (.iaload, 1) := by decide +kernel
theorem dL_law_211 : decode cL_law 211 = .ok (.aload_n 0, 1) := by decide +kernel
theorem dL_law_212 : decode cL_law 212 = .ok (.iload_n 3, 1) := by decide +kernel
theorem dL_law_213 : decode cL_law 213 = .ok (.iconst 2, 1) := by decide +kernel
theorem dL_law_214 : decode cL_law 214 = .ok (.iadd, 1) := by decide +kernel
theorem dL_law_215 : decode cL_law 215 = .ok (.iaload, 1) := by decide +kernel
theorem dL_law_216 : decode cL_law 216 = .ok (.ifCond .eq 7, 3) := by decide +kernel
theorem dL_law_219 : decode cL_law 219 = .ok (.iconst 1, 1) := by decide +kernel
theorem dL_law_220 : decode cL_law 220 = .ok (.goto 4, 3) := by decide +kernel
theorem dL_law_223 : decode cL_law 223 = .ok (.iconst 0, 1) := by decide +kernel
theorem dL_law_224 : decode cL_law 224 = .ok (.invokevirtual 28, 3) := by decide +kernel
theorem dL_law_227 : decode cL_law 227 = .ok (.aload_n 2, 1) := by decide +kernel
theorem dL_law_228 : decode cL_law 228 = .ok (.aload_n 0, 1) := by decide +kernel
theorem dL_law_229 : decode cL_law 229 = .ok (.iload_n 3, 1) := by decide +kernel
theorem dL_law_230 : decode cL_law 230 = .ok (.iconst 1, 1) := by decide +kernel
theorem dL_law_231 : decode cL_law 231 = .ok (.iadd, 1) := by decide +kernel
theorem dL_law_232 : decode cL_law 232 = .ok (.iaload, 1) := by decide +kernel
theorem dL_law_233 : decode cL_law 233 = .ok (.aload_n 0, 1) := by decide +kernel
theorem dL_law_234 : decode cL_law 234 = .ok (.iload_n 3, 1) := by decide +kernel
theorem dL_law_235 : decode cL_law 235 = .ok (.iconst 2, 1) := by decide +kernel
theorem dL_law_236 : decode cL_law 236 = .ok (.iadd, 1) := by decide +kernel
theorem dL_law_237 : decode cL_law 237 = .ok (.iaload, 1) := by decide +kernel
theorem dL_law_238 : decode cL_law 238 = .ok (.ifCond .eq 7, 3) := by decide +kernel
theorem dL_law_241 : decode cL_law 241 = .ok (.iconst 1, 1) := by decide +kernel
theorem dL_law_242 : decode cL_law 242 = .ok (.goto 4, 3) := by decide +kernel
theorem dL_law_245 : decode cL_law 245 = .ok (.iconst 0, 1) := by decide +kernel
theorem dL_law_246 : decode cL_law 246 = .ok (.invokevirtual 32, 3) := by decide +kernel
theorem dL_law_249 : decode cL_law 249 = .ok (.if_icmp .eq 179, 3) := by decide +kernel
theorem dL_law_252 : decode cL_law 252 = .ok (.iconst 0, 1) := by decide +kernel
theorem dL_law_253 : decode cL_law 253 = .ok (.ireturn, 1) := by decide +kernel
theorem dL_law_254 : decode cL_law 254 = .ok (.aload_n 1, 1) := by decide +kernel
theorem dL_law_255 : decode cL_law 255 = .ok (.invokevirtual 33, 3) := by decide +kernel
theorem dL_law_258 : decode cL_law 258 = .ok (.aload_n 2, 1) := by decide +kernel
theorem dL_law_259 : decode cL_law 259 = .ok (.invokevirtual 37, 3) := by decide +kernel
theorem dL_law_262 : decode cL_law 262 = .ok (.if_icmp .eq 166, 3) := by decide +kernel
theorem dL_law_265 : decode cL_law 265 = .ok (.iconst 0, 1) := by decide +kernel
theorem dL_law_266 : decode cL_law 266 = .ok (.ireturn, 1) := by decide +kernel
theorem dL_law_267 : decode cL_law 267 = .ok (.aload_n 1, 1) := by decide +kernel
theorem dL_law_268 : decode cL_law 268 = .ok (.invokevirtual 38, 3) := by decide +kernel
theorem dL_law_271 : decode cL_law 271 = .ok (.aload_n 2, 1) := by decide +kernel
theorem dL_law_272 : decode cL_law 272 = .ok (.invokevirtual 41, 3) := by decide +kernel
theorem dL_law_275 : decode cL_law 275 = .ok (.if_icmp .eq 153, 3) := by decide +kernel
theorem dL_law_278 : decode cL_law 278 = .ok (.iconst 0, 1) := by decide +kernel
theorem dL_law_279 : decode cL_law 279 = .ok (.ireturn, 1) := by decide +kernel
theorem dL_law_280 : decode cL_law 280 = .ok (.aload_n 1, 1) := by decide +kernel
theorem dL_law_281 : decode cL_law 281 = .ok (.invokevirtual 42, 3) := by decide +kernel
theorem dL_law_284 : decode cL_law 284 = .ok (.aload_n 2, 1) := by decide +kernel
theorem dL_law_285 : decode cL_law 285 = .ok (.invokevirtual 45, 3) := by decide +kernel
theorem dL_law_288 : decode cL_law 288 = .ok (.if_icmp .eq 140, 3) := by decide +kernel
theorem dL_law_291 : decode cL_law 291 = .ok (.iconst 0, 1) := by decide +kernel
theorem dL_law_292 : decode cL_law 292 = .ok (.ireturn, 1) := by decide +kernel
theorem dL_law_293 : decode cL_law 293 = .ok (.aload_n 1, 1) := by decide +kernel
theorem dL_law_294 : decode cL_law 294 = .ok (.aload_n 0, 1) := by decide +kernel
theorem dL_law_295 : decode cL_law 295 = .ok (.iload_n 3, 1) := by decide +kernel
theorem dL_law_296 : decode cL_law 296 = .ok (.iconst 1, 1) := by decide +kernel
theorem dL_law_297 : decode cL_law 297 = .ok (.iadd, 1) := by decide +kernel
theorem dL_law_298 : decode cL_law 298 = .ok (.iaload, 1) := by decide +kernel
theorem dL_law_299 : decode cL_law 299 = .ok (.invokevirtual 46, 3) := by decide +kernel
theorem dL_law_302 : decode cL_law 302 = .ok (.aload_n 2, 1) := by decide +kernel
theorem dL_law_303 : decode cL_law 303 = .ok (.aload_n 0, 1) := by decide +kernel
theorem dL_law_304 : decode cL_law 304 = .ok (.iload_n 3, 1) := by decide +kernel
theorem dL_law_305 : decode cL_law 305 = .ok (.iconst 1, 1) := by decide +kernel
theorem dL_law_306 : decode cL_law 306 = .ok (.iadd, 1) := by decide +kernel
theorem dL_law_307 : decode cL_law 307 = .ok (.iaload, 1) := by decide +kernel
theorem dL_law_308 : decode cL_law 308 = .ok (.invokevirtual 50, 3) := by decide +kernel
theorem dL_law_311 : decode cL_law 311 = .ok (.if_icmp .eq 117, 3) := by decide +kernel
theorem dL_law_314 : decode cL_law 314 = .ok (.iconst 0, 1) := by decide +kernel
theorem dL_law_315 : decode cL_law 315 = .ok (.ireturn, 1) := by decide +kernel
theorem dL_law_316 : decode cL_law 316 = .ok (.aload_n 1, 1) := by decide +kernel
theorem dL_law_317 : decode cL_law 317 = .ok (.aload_n 0, 1) := by decide +kernel
theorem dL_law_318 : decode cL_law 318 = .ok (.iload_n 3, 1) := by decide +kernel
theorem dL_law_319 : decode cL_law 319 = .ok (.iconst 1, 1) := by decide +kernel
theorem dL_law_320 : decode cL_law 320 = .ok (.iadd, 1) := by decide +kernel
theorem dL_law_321 : decode cL_law 321 = .ok (.iaload, 1) := by decide +kernel
theorem dL_law_322 : decode cL_law 322 = .ok (.aload_n 0, 1) := by decide +kernel
theorem dL_law_323 : decode cL_law 323 = .ok (.iload_n 3, 1) := by decide +kernel
theorem dL_law_324 : decode cL_law 324 = .ok (.iconst 2, 1) := by decide +kernel
theorem dL_law_325 : decode cL_law 325 = .ok (.iadd, 1) := by decide +kernel
theorem dL_law_326 : decode cL_law 326 = .ok (.iaload, 1) := by decide +kernel
theorem dL_law_327 : decode cL_law 327 = .ok (.invokevirtual 51, 3) := by decide +kernel
theorem dL_law_330 : decode cL_law 330 = .ok (.aload_n 2, 1) := by decide +kernel
theorem dL_law_331 : decode cL_law 331 = .ok (.aload_n 0, 1) := by decide +kernel
theorem dL_law_332 : decode cL_law 332 = .ok (.iload_n 3, 1) := by decide +kernel
theorem dL_law_333 : decode cL_law 333 = .ok (.iconst 1, 1) := by decide +kernel
theorem dL_law_334 : decode cL_law 334 = .ok (.iadd, 1) := by decide +kernel
theorem dL_law_335 : decode cL_law 335 = .ok (.iaload, 1) := by decide +kernel
theorem dL_law_336 : decode cL_law 336 = .ok (.aload_n 0, 1) := by decide +kernel
theorem dL_law_337 : decode cL_law 337 = .ok (.iload_n 3, 1) := by decide +kernel
theorem dL_law_338 : decode cL_law 338 = .ok (.iconst 2, 1) := by decide +kernel
theorem dL_law_339 : decode cL_law 339 = .ok (.iadd, 1) := by decide +kernel
theorem dL_law_340 : decode cL_law 340 = .ok (.iaload, 1) := by decide +kernel
theorem dL_law_341 : decode cL_law 341 = .ok (.invokevirtual 54, 3) := by decide +kernel
theorem dL_law_344 : decode cL_law 344 = .ok (.if_icmp .eq 84, 3) := by decide +kernel
theorem dL_law_347 : decode cL_law 347 = .ok (.iconst 0, 1) := by decide +kernel
theorem dL_law_348 : decode cL_law 348 = .ok (.ireturn, 1) := by decide +kernel
theorem dL_law_349 : decode cL_law 349 = .ok (.aload_n 1, 1) := by decide +kernel
theorem dL_law_350 : decode cL_law 350 = .ok (.aload_n 0, 1) := by decide +kernel
theorem dL_law_351 : decode cL_law 351 = .ok (.iload_n 3, 1) := by decide +kernel
theorem dL_law_352 : decode cL_law 352 = .ok (.iconst 1, 1) := by decide +kernel
theorem dL_law_353 : decode cL_law 353 = .ok (.iadd, 1) := by decide +kernel
theorem dL_law_354 : decode cL_law 354 = .ok (.iaload, 1) := by decide +kernel
theorem dL_law_355 : decode cL_law 355 = .ok (.invokevirtual 55, 3) := by decide +kernel
theorem dL_law_358 : decode cL_law 358 = .ok (.aload_n 2, 1) := by decide +kernel
theorem dL_law_359 : decode cL_law 359 = .ok (.aload_n 0, 1) := by decide +kernel
theorem dL_law_360 : decode cL_law 360 = .ok (.iload_n 3, 1) := by decide +kernel
theorem dL_law_361 : decode cL_law 361 = .ok (.iconst 1, 1) := by decide +kernel
theorem dL_law_362 : decode cL_law 362 = .ok (.iadd, 1) := by decide +kernel
theorem dL_law_363 : decode cL_law 363 = .ok (.iaload, 1) := by decide +kernel
theorem dL_law_364 : decode cL_law 364 = .ok (.invokevirtual 58, 3) := by decide +kernel
theorem dL_law_367 : decode cL_law 367 = .ok (.if_icmp .eq 61, 3) := by decide +kernel
theorem dL_law_370 : decode cL_law 370 = .ok (.iconst 0, 1) := by decide +kernel
theorem dL_law_371 : decode cL_law 371 = .ok (.ireturn, 1) := by decide +kernel
theorem dL_law_372 : decode cL_law 372 = .ok (.aload_n 1, 1) := by decide +kernel
theorem dL_law_373 : decode cL_law 373 = .ok (.aload_n 0, 1) := by decide +kernel
theorem dL_law_374 : decode cL_law 374 = .ok (.iload_n 3, 1) := by decide +kernel
theorem dL_law_375 : decode cL_law 375 = .ok (.iconst 1, 1) := by decide +kernel
theorem dL_law_376 : decode cL_law 376 = .ok (.iadd, 1) := by decide +kernel
theorem dL_law_377 : decode cL_law 377 = .ok (.iaload, 1) := by decide +kernel
theorem dL_law_378 : decode cL_law 378 = .ok (.aload_n 0, 1) := by decide +kernel
theorem dL_law_379 : decode cL_law 379 = .ok (.iload_n 3, 1) := by decide +kernel
theorem dL_law_380 : decode cL_law 380 = .ok (.iconst 2, 1) := by decide +kernel
theorem dL_law_381 : decode cL_law 381 = .ok (.iadd, 1) := by decide +kernel
theorem dL_law_382 : decode cL_law 382 = .ok (.iaload, 1) := by decide +kernel
theorem dL_law_383 : decode cL_law 383 = .ok (.invokevirtual 59, 3) := by decide +kernel
theorem dL_law_386 : decode cL_law 386 = .ok (.aload_n 2, 1) := by decide +kernel
theorem dL_law_387 : decode cL_law 387 = .ok (.aload_n 0, 1) := by decide +kernel
theorem dL_law_388 : decode cL_law 388 = .ok (.iload_n 3, 1) := by decide +kernel
theorem dL_law_389 : decode cL_law 389 = .ok (.iconst 1, 1) := by decide +kernel
theorem dL_law_390 : decode cL_law 390 = .ok (.iadd, 1) := by decide +kernel
theorem dL_law_391 : decode cL_law 391 = .ok (.iaload, 1) := by decide +kernel
theorem dL_law_392 : decode cL_law 392 = .ok (.aload_n 0, 1) := by decide +kernel
theorem dL_law_393 : decode cL_law 393 = .ok (.iload_n 3, 1) := by decide +kernel
theorem dL_law_394 : decode cL_law 394 = .ok (.iconst 2, 1) := by decide +kernel
theorem dL_law_395 : decode cL_law 395 = .ok (.iadd, 1) := by decide +kernel
theorem dL_law_396 : decode cL_law 396 = .ok (.iaload, 1) := by decide +kernel
theorem dL_law_397 : decode cL_law 397 = .ok (.invokevirtual 62, 3) := by decide +kernel
theorem dL_law_400 : decode cL_law 400 = .ok (.if_icmp .eq 28, 3) := by decide +kernel
theorem dL_law_403 : decode cL_law 403 = .ok (.iconst 0, 1) := by decide +kernel
theorem dL_law_404 : decode cL_law 404 = .ok (.ireturn, 1) := by decide +kernel
theorem dL_law_405 : decode cL_law 405 = .ok (.aload_n 1, 1) := by decide +kernel
theorem dL_law_406 : decode cL_law 406 = .ok (.aload_n 0, 1) := by decide +kernel
theorem dL_law_407 : decode cL_law 407 = .ok (.iload_n 3, 1) := by decide +kernel
theorem dL_law_408 : decode cL_law 408 = .ok (.iconst 1, 1) := by decide +kernel
theorem dL_law_409 : decode cL_law 409 = .ok (.iadd, 1) := by decide +kernel
theorem dL_law_410 : decode cL_law 410 = .ok (.iaload, 1) := by decide +kernel
theorem dL_law_411 : decode cL_law 411 = .ok (.invokevirtual 63, 3) := by decide +kernel
theorem dL_law_414 : decode cL_law 414 = .ok (.aload_n 2, 1) := by decide +kernel
theorem dL_law_415 : decode cL_law 415 = .ok (.aload_n 0, 1) := by decide +kernel
theorem dL_law_416 : decode cL_law 416 = .ok (.iload_n 3, 1) := by decide +kernel
theorem dL_law_417 : decode cL_law 417 = .ok (.iconst 1, 1) := by decide +kernel
theorem dL_law_418 : decode cL_law 418 = .ok (.iadd, 1) := by decide +kernel
theorem dL_law_419 : decode cL_law 419 = .ok (.iaload, 1) := by decide +kernel
theorem dL_law_420 : decode cL_law 420 = .ok (.invokevirtual 66, 3) := by decide +kernel
theorem dL_law_423 : decode cL_law 423 = .ok (.if_icmp .eq 5, 3) := by decide +kernel
theorem dL_law_426 : decode cL_law 426 = .ok (.iconst 0, 1) := by decide +kernel
theorem dL_law_427 : decode cL_law 427 = .ok (.ireturn, 1) := by decide +kernel
theorem dL_law_428 : decode cL_law 428 = .ok (.iinc 3 4, 3) := by decide +kernel
theorem dL_law_431 : decode cL_law 431 = .ok (.goto (-413), 3) := by decide +kernel
theorem dL_law_434 : decode cL_law 434 = .ok (.iconst 1, 1) := by decide +kernel
theorem dL_law_435 : decode cL_law 435 = .ok (.ireturn, 1) := by decide +kernel
abbrev vwCl : List vw_C := [(RX0, TX0, 4), (RX1, TX1, 9), (RX2, TX2, 10)]
end
section
/-! rows of my own: numbers as Nat, contracts without new cells, calls with the frame rule inside -/
def gx_N (U : State) : Prop := va_Nw (.methodLinkNest RX0 51 yX1_quotient "FluxModes") U
def bI (b : Bool) : Int32 := if b = true then 1 else 0
theorem bI_t : bI true = 1 := rfl
theorem bI_f : bI false = 0 := rfl
theorem bI_ne {b : Bool} (h : ¬ bI b = 0) : b = true := by
  cases b with
  | true => rfl
  | false => exact absurd rfl h
theorem bI_eq {b : Bool} (h : bI b = 0) : b = false := by
  cases b with
  | true => exact absurd h (by decide)
  | false => rfl
theorem bI_nar (b : Bool) : narrow .boolean (.int (bI b)) = .int (bI b) := by cases b <;> rfl
section GX
variable {p : Program} {l : Launch} {e : Env} {R : Room} {s : State} {m : MethodId} {args : Array Value} {below : List Frame} {meth : Method} {c : Code} {H : Heap} {locs : List Loc} {cells slots : Nat} {Q : State → Prop}
variable {cc : ByteArray} {pc : Nat} {ls : Array Slot} {rest : List Value} {D : va_G} {cl : List vw_C} {A : Nat → Prop} {a : Nat} {tys : List (ClassId × FieldType)} {ws : va_W} {H0 : Heap}
theorem gx_i {x y : Int32} (h : x = y) (k : W p l e R s m args below meth c H locs cells slots Q (F0 m pc ls (.int y :: rest))) : W p l e R s m args below meth c H locs cells slots Q (F0 m pc ls (.int x :: rest)) := h ▸ k
theorem gx_l {x y : Int64} (h : x = y) (k : W p l e R s m args below meth c H locs cells slots Q (F0 m pc ls (.long y :: rest))) : W p l e R s m args below meth c H locs cells slots Q (F0 m pc ls (.long x :: rest)) := h ▸ k
theorem gx_ge (hexec : p.tables.exec = Jvm.exec) (hb : c.code = cc) {x y : Nat} {off : Int} {tgt : Nat} (hdg : decode cc pc = .ok (.if_icmp .ge off, 3)) (ht : (pc : Int) + off = (tgt : Int)) (hx : x < 2 ^ 31) (hy : y < 2 ^ 31) (kt : y ≤ x → W p l e R s m args below meth c H locs cells slots Q (F0 m tgt ls rest)) (kf : x < y → W p l e R s m args below meth c H locs cells slots Q (F0 m (pc + 3) ls rest)) : W p l e R s m args below meth c H locs cells slots Q (F0 m pc ls (.int (nI y) :: .int (nI x) :: rest)) :=
  lv_icmp_ge hexec hb hdg ht (fun h => kt ((nI_leI hy hx).mp h)) (fun h => kf (Nat.not_le.mp (fun q => h ((nI_leI hy hx).mpr q))))
theorem gx_lt (hexec : p.tables.exec = Jvm.exec) (hb : c.code = cc) {x y : Nat} {off : Int} {tgt : Nat} (hdg : decode cc pc = .ok (.if_icmp .lt off, 3)) (ht : (pc : Int) + off = (tgt : Int)) (hx : x < 2 ^ 31) (hy : y < 2 ^ 31) (kt : x < y → W p l e R s m args below meth c H locs cells slots Q (F0 m tgt ls rest)) (kf : y ≤ x → W p l e R s m args below meth c H locs cells slots Q (F0 m (pc + 3) ls rest)) : W p l e R s m args below meth c H locs cells slots Q (F0 m pc ls (.int (nI y) :: .int (nI x) :: rest)) :=
  lv_icmp_lt hexec hb hdg ht (fun h => kt ((nI_ltI hx hy).mp h)) (fun h => kf (Nat.not_lt.mp (fun q => h ((nI_ltI hx hy).mpr q))))
theorem gx_le (hexec : p.tables.exec = Jvm.exec) (hb : c.code = cc) {x y : Nat} {off : Int} {tgt : Nat} (hdg : decode cc pc = .ok (.if_icmp .le off, 3)) (ht : (pc : Int) + off = (tgt : Int)) (hx : x < 2 ^ 31) (hy : y < 2 ^ 31) (kt : x ≤ y → W p l e R s m args below meth c H locs cells slots Q (F0 m tgt ls rest)) (kf : y < x → W p l e R s m args below meth c H locs cells slots Q (F0 m (pc + 3) ls rest)) : W p l e R s m args below meth c H locs cells slots Q (F0 m pc ls (.int (nI y) :: .int (nI x) :: rest)) :=
  lv_icmp_le hexec hb hdg ht (fun h => kt ((nI_leI hx hy).mp h)) (fun h => kf (Nat.not_le.mp (fun q => h ((nI_leI hx hy).mpr q))))
theorem gx_gt (hexec : p.tables.exec = Jvm.exec) (hb : c.code = cc) {x y : Nat} {off : Int} {tgt : Nat} (hdg : decode cc pc = .ok (.if_icmp .gt off, 3)) (ht : (pc : Int) + off = (tgt : Int)) (hx : x < 2 ^ 31) (hy : y < 2 ^ 31) (kt : y < x → W p l e R s m args below meth c H locs cells slots Q (F0 m tgt ls rest)) (kf : x ≤ y → W p l e R s m args below meth c H locs cells slots Q (F0 m (pc + 3) ls rest)) : W p l e R s m args below meth c H locs cells slots Q (F0 m pc ls (.int (nI y) :: .int (nI x) :: rest)) :=
  lv_icmp_gt hexec hb hdg ht (fun h => kt ((nI_ltI hy hx).mp h)) (fun h => kf (Nat.not_lt.mp (fun q => h ((nI_ltI hy hx).mpr q))))
theorem gx_eq (hexec : p.tables.exec = Jvm.exec) (hb : c.code = cc) {x y : Nat} {off : Int} {tgt : Nat} (hdg : decode cc pc = .ok (.if_icmp .eq off, 3)) (ht : (pc : Int) + off = (tgt : Int)) (hx : x < 2 ^ 31) (hy : y < 2 ^ 31) (kt : x = y → W p l e R s m args below meth c H locs cells slots Q (F0 m tgt ls rest)) (kf : x ≠ y → W p l e R s m args below meth c H locs cells slots Q (F0 m (pc + 3) ls rest)) : W p l e R s m args below meth c H locs cells slots Q (F0 m pc ls (.int (nI y) :: .int (nI x) :: rest)) :=
  lv_icmp_eq hexec hb hdg ht (fun h => kt ((nI_eq hx hy).mp h)) (fun h => kf (fun q => h ((nI_eq hx hy).mpr q)))
theorem gx_ne (hexec : p.tables.exec = Jvm.exec) (hb : c.code = cc) {x y : Nat} {off : Int} {tgt : Nat} (hdg : decode cc pc = .ok (.if_icmp .ne off, 3)) (ht : (pc : Int) + off = (tgt : Int)) (hx : x < 2 ^ 31) (hy : y < 2 ^ 31) (kt : x ≠ y → W p l e R s m args below meth c H locs cells slots Q (F0 m tgt ls rest)) (kf : x = y → W p l e R s m args below meth c H locs cells slots Q (F0 m (pc + 3) ls rest)) : W p l e R s m args below meth c H locs cells slots Q (F0 m pc ls (.int (nI y) :: .int (nI x) :: rest)) :=
  lv_icmp_ne hexec hb hdg ht (fun h => kt (fun q => h ((nI_eq hx hy).mpr q))) (fun h => kf ((nI_eq hx hy).mp h))
/-- a truth value against 0 -/
theorem gx_beq (hexec : p.tables.exec = Jvm.exec) (hb : c.code = cc) {b : Bool} {off : Int} {tgt : Nat} (hdg : decode cc pc = .ok (.ifCond .eq off, 3)) (ht : (pc : Int) + off = (tgt : Int)) (kt : b = false → W p l e R s m args below meth c H locs cells slots Q (F0 m tgt ls rest)) (kf : b = true → W p l e R s m args below meth c H locs cells slots Q (F0 m (pc + 3) ls rest)) : W p l e R s m args below meth c H locs cells slots Q (F0 m pc ls (.int (bI b) :: rest)) :=
  lv_if_eq hexec hb hdg ht (fun h => kt (bI_eq h)) (fun h => kf (bI_ne h))
theorem gx_bne (hexec : p.tables.exec = Jvm.exec) (hb : c.code = cc) {b : Bool} {off : Int} {tgt : Nat} (hdg : decode cc pc = .ok (.ifCond .ne off, 3)) (ht : (pc : Int) + off = (tgt : Int)) (kt : b = true → W p l e R s m args below meth c H locs cells slots Q (F0 m tgt ls rest)) (kf : b = false → W p l e R s m args below meth c H locs cells slots Q (F0 m (pc + 3) ls rest)) : W p l e R s m args below meth c H locs cells slots Q (F0 m pc ls (.int (bI b) :: rest)) :=
  lv_if_ne hexec hb hdg ht (fun h => kt (bI_ne h)) (fun h => kf (bI_eq h))
/-- arrays, at a place that is a Nat -/
theorem gx_iald (hexec : p.tables.exec = Jvm.exec) (hb : c.code = cc) (hK : va_K D cl tys s) (hP : va_P D cl ws H) (q0 t0 : Nat) {cA : ClassId} {n : Nat} {f : Nat → Int32} (ha : ws[q0]? = some (a, .inl (cA, n, .inl f))) (ht : tys[t0]? = some (cA, .int)) {i : Int32} {q : Nat} (hi : i = nI q) (hq : q < n) (hn : n < 2 ^ 31) (hdg : decode cc pc = .ok (.iaload, 1))
    (kk : W p l e R s m args below meth c H locs cells slots Q (F0 m (pc + 1) ls (.int (f q) :: rest))) : W p l e R s m args below meth c H locs cells slots Q (F0 m pc ls (.int i :: .ref a :: rest)) := by
  subst hi
  exact va_iald hexec hb hK hP q0 t0 ha ht (vp_in_nI hq hn) hdg (by rw [nI_clamp (Nat.lt_trans hq hn)]; exact kk)
theorem gx_zald (hexec : p.tables.exec = Jvm.exec) (hb : c.code = cc) (hK : va_K D cl tys s) (hP : va_P D cl ws H) (q0 t0 : Nat) {cA : ClassId} {n : Nat} {f : Nat → Int32} (ha : ws[q0]? = some (a, .inl (cA, n, .inl f))) (ht : tys[t0]? = some (cA, .boolean)) {i : Int32} {q : Nat} (hi : i = nI q) (hq : q < n) (hn : n < 2 ^ 31) (hdg : decode cc pc = .ok (.baload, 1))
    (kk : W p l e R s m args below meth c H locs cells slots Q (F0 m (pc + 1) ls (.int (f q) :: rest))) : W p l e R s m args below meth c H locs cells slots Q (F0 m pc ls (.int i :: .ref a :: rest)) := by
  subst hi
  exact va_zald hexec hb hK hP q0 t0 ha ht (vp_in_nI hq hn) hdg (by rw [nI_clamp (Nat.lt_trans hq hn)]; exact kk)
theorem gx_lald (hexec : p.tables.exec = Jvm.exec) (hb : c.code = cc) (hK : va_K D cl tys s) (hP : va_P D cl ws H) (q0 t0 : Nat) {cA : ClassId} {n : Nat} {f : Nat → Int64} (ha : ws[q0]? = some (a, .inl (cA, n, .inr (.inl f)))) (ht : tys[t0]? = some (cA, .long)) {i : Int32} {q : Nat} (hi : i = nI q) (hq : q < n) (hn : n < 2 ^ 31) (hdg : decode cc pc = .ok (.laload, 1))
    (kk : W p l e R s m args below meth c H locs cells slots Q (F0 m (pc + 1) ls (.long (f q) :: rest))) : W p l e R s m args below meth c H locs cells slots Q (F0 m pc ls (.int i :: .ref a :: rest)) := by
  subst hi
  exact va_lald hexec hb hK hP q0 t0 ha ht (vp_in_nI hq hn) hdg (by rw [nI_clamp (Nat.lt_trans hq hn)]; exact kk)
theorem gx_iast (hexec : p.tables.exec = Jvm.exec) (hb : c.code = cc) (hK : va_K D cl tys s) (hP : va_P D cl ws H) (hD : va_D A ws) (hS : va_S A H0 H locs) (q0 t0 : Nat) {cA : ClassId} {n : Nat} {f : Nat → Int32} (ha : ws[q0]? = some (a, .inl (cA, n, .inl f))) (ht : tys[t0]? = some (cA, .int)) {i : Int32} {q : Nat} {x : Int32} (hi : i = nI q) (hq : q < n) (hn : n < 2 ^ 31) (hdg : decode cc pc = .ok (.iastore, 1))
    (kk : ∀ (H1 : Heap) (locs1 : List Loc), va_P D cl (ws.set q0 (a, .inl (cA, n, .inl (upd f q x)))) H1 → va_D A (ws.set q0 (a, .inl (cA, n, .inl (upd f q x)))) → va_S A H0 H1 locs1 → W p l e R s m args below meth c H1 locs1 cells slots Q (F0 m (pc + 1) ls rest)) : W p l e R s m args below meth c H locs cells slots Q (F0 m pc ls (.int x :: .int i :: .ref a :: rest)) := by
  subst hi
  refine va_iast hexec hb hK hP hD hS q0 t0 ha ht (vp_in_nI hq hn) hdg ?_
  rw [nI_clamp (Nat.lt_trans hq hn)]
  exact kk
theorem gx_zast (hexec : p.tables.exec = Jvm.exec) (hb : c.code = cc) (hK : va_K D cl tys s) (hP : va_P D cl ws H) (hD : va_D A ws) (hS : va_S A H0 H locs) (q0 t0 : Nat) {cA : ClassId} {n : Nat} {f : Nat → Int32} (ha : ws[q0]? = some (a, .inl (cA, n, .inl f))) (ht : tys[t0]? = some (cA, .boolean)) {i : Int32} {q : Nat} {b : Bool} (hi : i = nI q) (hq : q < n) (hn : n < 2 ^ 31) (hdg : decode cc pc = .ok (.bastore, 1))
    (kk : ∀ (H1 : Heap) (locs1 : List Loc), va_P D cl (ws.set q0 (a, .inl (cA, n, .inl (upd f q (bI b))))) H1 → va_D A (ws.set q0 (a, .inl (cA, n, .inl (upd f q (bI b))))) → va_S A H0 H1 locs1 → W p l e R s m args below meth c H1 locs1 cells slots Q (F0 m (pc + 1) ls rest)) : W p l e R s m args below meth c H locs cells slots Q (F0 m pc ls (.int (bI b) :: .int i :: .ref a :: rest)) := by
  subst hi
  refine va_zast hexec hb hK hP hD hS q0 t0 ha ht (vp_in_nI hq hn) hdg ?_
  rw [nI_clamp (Nat.lt_trans hq hn), show vp_nar .boolean (bI b) = bI b by unfold vp_nar; rw [bI_nar]]
  exact kk
theorem gx_last (hexec : p.tables.exec = Jvm.exec) (hb : c.code = cc) (hK : va_K D cl tys s) (hP : va_P D cl ws H) (hD : va_D A ws) (hS : va_S A H0 H locs) (q0 t0 : Nat) {cA : ClassId} {n : Nat} {f : Nat → Int64} (ha : ws[q0]? = some (a, .inl (cA, n, .inr (.inl f)))) (ht : tys[t0]? = some (cA, .long)) {i : Int32} {q : Nat} {x : Int64} (hi : i = nI q) (hq : q < n) (hn : n < 2 ^ 31) (hdg : decode cc pc = .ok (.lastore, 1))
    (kk : ∀ (H1 : Heap) (locs1 : List Loc), va_P D cl (ws.set q0 (a, .inl (cA, n, .inr (.inl (vp_updL f q x))))) H1 → va_D A (ws.set q0 (a, .inl (cA, n, .inr (.inl (vp_updL f q x))))) → va_S A H0 H1 locs1 → W p l e R s m args below meth c H1 locs1 cells slots Q (F0 m (pc + 1) ls rest)) : W p l e R s m args below meth c H locs cells slots Q (F0 m pc ls (.long x :: .int i :: .ref a :: rest)) := by
  subst hi
  refine va_last hexec hb hK hP hD hS q0 t0 ha ht (vp_in_nI hq hn) hdg ?_
  rw [nI_clamp (Nat.lt_trans hq hn)]
  exact kk
end GX
/-! longs compared, then tested -/
theorem gx_cmp0 (x y : Int64) : lg_cmp x y = 0 ↔ x = y := by
  unfold lg_cmp
  constructor
  · intro h
    by_cases h1 : y < x
    · rw [if_pos h1] at h; exact absurd h (by decide)
    · rw [if_neg h1] at h
      by_cases h2 : x = y
      · exact h2
      · rw [if_neg h2] at h; exact absurd h (by decide)
  · intro h
    subst h
    rw [if_neg (show ¬ x < x by rw [Int64.lt_iff_toInt_lt]; omega), if_pos rfl]
theorem gx_cmp_le (x y : Int64) : lg_cmp x y ≤ 0 ↔ ¬ y < x := by
  unfold lg_cmp
  by_cases h1 : y < x
  · rw [if_pos h1]
    exact ⟨fun h => absurd h (by decide), fun h => absurd h1 h⟩
  · rw [if_neg h1]
    refine ⟨fun _ => h1, fun _ => ?_⟩
    split <;> decide
theorem gx_cmp_ge (x y : Int64) : 0 ≤ lg_cmp x y ↔ ¬ x < y := by
  rw [lg_cmp_ge, Int64.le_iff_toInt_le, Int64.lt_iff_toInt_lt]
  omega
end
section
/-! contracts that make no cell: what is given, what comes back -/
def gx_P (D : va_G) (av : List Value) (tys : List (ClassId × FieldType)) (win : va_W) (sz : Nat) : Array Value → State → Prop := fun v U => v = av.toArray ∧ U.heap.size = sz ∧ va_P D vwCl win U.heap ∧ va_K D vwCl tys U ∧ va_D (fun _ => True) win ∧ gx_N U
def gx_B (D : va_G) (tys : List (ClassId × FieldType)) (A : Nat → Prop) {S : Type} (wout : S → va_W) : S → State → Prop := fun u t => va_P D vwCl (wout u) t.heap ∧ va_K D vwCl tys t ∧ va_D A (wout u)
def gx_Mi (l : Launch) (D : va_G) (y : MethodName) (ws : List Cond) (rm : Room) (av : List Value) (tys : List (ClassId × FieldType)) (win : va_W) {S : Type} (post : Int32 → S → Prop) (wout : S → va_W) : Prop := ∀ sz : Nat, Met l y ws rm (gx_P D av tys win sz) (va_Qi post (gx_B D tys (va_A win sz) wout) (va_A win sz)) 0 0 (va_A win sz)
def gx_Ml (l : Launch) (D : va_G) (y : MethodName) (ws : List Cond) (rm : Room) (av : List Value) (tys : List (ClassId × FieldType)) (win : va_W) {S : Type} (post : Int64 → S → Prop) (wout : S → va_W) : Prop := ∀ sz : Nat, Met l y ws rm (gx_P D av tys win sz) (va_Ql post (gx_B D tys (va_A win sz) wout) (va_A win sz)) 0 0 (va_A win sz)
def gx_Mv (l : Launch) (D : va_G) (y : MethodName) (ws : List Cond) (rm : Room) (av : List Value) (tys : List (ClassId × FieldType)) (win : va_W) {S : Type} (post : S → Prop) (wout : S → va_W) : Prop := ∀ sz : Nat, Met l y ws rm (gx_P D av tys win sz) (va_Qv post (gx_B D tys (va_A win sz) wout) (va_A win sz)) 0 0 (va_A win sz)
/-- what holds at a body's start -/
def gx_Body (p : Program) (l : Launch) (e : Env) (s : State) (m : MethodId) (below : List Frame) (meth : Method) (c : Code) (D : va_G) (y : MethodName) (ws : List Cond) (cc : ByteArray) (maxL : Nat) (ret : Option FieldType) (av : List Value) (tys : List (ClassId × FieldType)) (win : va_W) (A : Nat → Prop) : Prop :=
  CallFix p m c cc maxL s av.toArray ws y.cls ∧ meth.sig.returnType = ret ∧ meth.locks = false ∧ gx_N s ∧ va_K D vwCl tys s ∧ va_P D vwCl win s.heap ∧ va_D A win ∧ ∀ q : Nat, s.heap.size ≤ q → A q
theorem gx_start {l : Launch} {D : va_G} {y : MethodName} {ws ws' : List Cond} {rm : Room} {av : List Value} {tys : List (ClassId × FieldType)} {win : va_W} {cc : ByteArray} {maxL : Nat} {ret : Option FieldType} {Qc : (Nat → Prop) → Array Value → State → Outcome → State → Prop}
    (hy : plainName y.cls = true) (hw : ws = Cond.code y cc maxL ret :: ws') (hlen : (lg_sl av).length ≤ maxL)
    (body : ∀ (p : Program) (e : Env) (s : State) (m : MethodId) (below : List Frame) (meth : Method) (c : Code) (A : Nat → Prop), gx_Body p l e s m below meth c D y ws cc maxL ret av tys win A → ∀ ls : Array Slot, lv_has ls maxL (lv_args 0 av) → W p l e rm s m av.toArray below meth c s.heap [] 0 0 (MQ below (Qc A) av.toArray s 0 0 A) (F0 m 0 ls [])) (sz : Nat) :
    Met l y ws rm (gx_P D av tys win sz) (Qc (va_A win sz)) 0 0 (va_A win sz) := by
  refine Met.ofW (cc := cc) (maxL := maxL) (ret := ret) hy hw ?_
  intro p e s m args below meth c s₁ B hml hv
  obtain ⟨rfl, hsz, hP, hK, hD0, hN⟩ := hv
  have hts := atoms_spec (ws := ws) B.pre
  have hown : s.vm.findClass y.cls = some m.cls := findClass_of_methodNamed B.named
  subst hsz
  have hl := lv_entry av (n := maxL) hlen
  rw [lg_entry_eq]
  exact body p e s m below meth c _ ⟨⟨B.exec, B.bytes, hml, hown, hts⟩, B.returns, B.notSynchronized, hN, hK, hP, hD0.self, fun q h => Or.inr h⟩ _ hl
section GR
variable {p : Program} {l : Launch} {e : Env} {R : Room} {s : State} {m : MethodId} {args : Array Value} {below : List Frame} {meth : Method} {c : Code} {H : Heap} {locs : List Loc}
variable {cc : ByteArray} {pc : Nat} {ls : Array Slot} {D : va_G} {A : Nat → Prop} {tys : List (ClassId × FieldType)} {S : Type} {wout : S → va_W}
theorem gx_reti {post : Int32 → S → Prop} (hexec : p.tables.exec = Jvm.exec) (hb : c.code = cc) (hr : meth.sig.returnType = some .int) (hlocks : meth.locks = false) {v : Int32} (u : S) (hp : post v u) (hK : va_K D vwCl tys s) (hP : va_P D vwCl (wout u) H) (hD : va_D A (wout u)) (hS : va_S A s.heap H locs) (hdg : decode cc pc = .ok (.ireturn, 1)) :
    W p l e R s m args below meth c H locs 0 0 (MQ below (va_Qi post (gx_B D tys A wout) A) args s 0 0 A) (F0 m pc ls [.int v]) :=
  W.iret hexec hb hr (fun t ht hW => ⟨⟨v, u, rfl, hp, by rw [ht]; exact hP, va_K.moved hW.alike hK, hD⟩, hS.F ht⟩) hS.2.2 hdg hlocks
theorem gx_retz {post : Int32 → S → Prop} (hexec : p.tables.exec = Jvm.exec) (hb : c.code = cc) (hr : meth.sig.returnType = some .boolean) (hlocks : meth.locks = false) {v : Int32} (b : Bool) (hv : v = bI b) (u : S) (hp : post v u) (hK : va_K D vwCl tys s) (hP : va_P D vwCl (wout u) H) (hD : va_D A (wout u)) (hS : va_S A s.heap H locs) (hdg : decode cc pc = .ok (.ireturn, 1)) :
    W p l e R s m args below meth c H locs 0 0 (MQ below (va_Qi post (gx_B D tys A wout) A) args s 0 0 A) (F0 m pc ls [.int v]) :=
  W.zret hexec hb hr (by rw [hv]; exact bI_nar b) (fun t ht hW => ⟨⟨v, u, rfl, hp, by rw [ht]; exact hP, va_K.moved hW.alike hK, hD⟩, hS.F ht⟩) hS.2.2 hdg hlocks
theorem gx_retl {post : Int64 → S → Prop} (hexec : p.tables.exec = Jvm.exec) (hb : c.code = cc) (hr : meth.sig.returnType = some .long) (hlocks : meth.locks = false) {v : Int64} (u : S) (hp : post v u) (hK : va_K D vwCl tys s) (hP : va_P D vwCl (wout u) H) (hD : va_D A (wout u)) (hS : va_S A s.heap H locs) (hdg : decode cc pc = .ok (.lreturn, 1)) :
    W p l e R s m args below meth c H locs 0 0 (MQ below (va_Ql post (gx_B D tys A wout) A) args s 0 0 A) (F0 m pc ls [.long v]) :=
  W.lret hexec hb hr (fun t ht hW => ⟨⟨v, u, rfl, hp, by rw [ht]; exact hP, va_K.moved hW.alike hK, hD⟩, hS.F ht⟩) hS.2.2 hdg hlocks
theorem gx_retv {post : S → Prop} (hexec : p.tables.exec = Jvm.exec) (hb : c.code = cc) (hr : meth.sig.returnType = none) (hlocks : meth.locks = false) (u : S) (hp : post u) (hK : va_K D vwCl tys s) (hP : va_P D vwCl (wout u) H) (hD : va_D A (wout u)) (hS : va_S A s.heap H locs) (hdg : decode cc pc = .ok (.return_, 1)) :
    W p l e R s m args below meth c H locs 0 0 (MQ below (va_Qv post (gx_B D tys A wout) A) args s 0 0 A) (F0 m pc ls []) :=
  W.vret hexec hb hr (fun t ht hW => ⟨⟨u, rfl, hp, by rw [ht]; exact hP, va_K.moved hW.alike hK, hD⟩, hS.F ht⟩) hS.2.2 hdg hlocks
end GR
theorem gx_blind {D : va_G} {av : List Value} {tys : List (ClassId × FieldType)} {win : va_W} {sz : Nat} : FrameBlind (gx_P D av tys win sz) := by
  intro a U g mk q
  obtain ⟨q0, q1, qP, qK, qD, qN⟩ := q
  exact ⟨q0, q1, qP, va_K.moved (u := U) (U := U.calling g mk a) (Vm.Alike.refl U.vm) qK, qD, va_Nw.same rfl (u := U) (U := U.calling g mk a) rfl qN⟩
theorem gx_pre {s : State} {H : Heap} {D : va_G} {av : List Value} {tys : List (ClassId × FieldType)} {win : va_W} {A : Nat → Prop} (hN : gx_N s) (hK : va_K D vwCl tys s) (hP : va_P D vwCl win H) (hD : va_D A win) : ∀ U : State, U.heap = H → s.WarmedH U.vm → gx_P D av tys win H.size av.toArray U :=
  fun U hU hW => ⟨rfl, by rw [hU], by rw [hU]; exact hP, va_K.moved hW.alike hK, hD.weaken (fun _ _ _ _ => trivial), va_Nw.warmM hW hN⟩
section GC
variable {p : Program} {l : Launch} {e : Env} {R : Room} {s : State} {m : MethodId} {args : Array Value} {below : List Frame} {meth : Method} {c : Code} {H : Heap} {locs : List Loc} {cells slots : Nat} {Q : State → Prop}
variable {cc : ByteArray} {pc : Nat} {ls : Array Slot} {st rest : List Value} {D : va_G} {A : Nat → Prop} {tys tysC : List (ClassId × FieldType)} {ws0 win wr : va_W} {H0 : Heap} {S : Type} {wout : S → va_W} {a : Array Value}
/-- the world behind a call that made no cell -/
theorem gx_ji {post : Int32 → S → Prop} (hr : va_Run p l e R s m args below meth c H locs cells slots 0 0 (F0 m pc ls st) rest (va_Qi post (gx_B D tysC (va_A win H.size) wout) (va_A win H.size) a) (va_A win H.size)) (hP : va_P D vwCl ws0 H) (hD : va_D A ws0) (hS : va_S A H0 H locs) (hA : ∀ q : Nat, H0.size ≤ q → A q) (isC isR : List Nat) (hC : isC.map (fun i => ws0[i]?) = win.map some) (hR : isR.map (fun i => ws0[i]?) = wr.map some) (hn : va_nd isR = true) (hdis : ∀ i ∈ isR, i ∉ isC)
    (kk : ∀ (r : Int32) (u : S) (H1 : Heap) (locs1 : List Loc), post r u → va_P D vwCl (wr ++ wout u) H1 → va_D A (wr ++ wout u) → va_S A H0 H1 locs1 → W p l e R s m args below meth c H1 locs1 cells slots Q (F0 m (pc + 3) ls (.int r :: rest))) : W p l e R s m args below meth c H locs cells slots Q (F0 m pc ls st) := by
  have hFc := va_free (wc := win) hD hS hA isC hC
  refine va_calli hr hS (fun q _ h => hFc q h) hFc (fun r u t H1 locs1 ht hvm hw hB hz1 hk1 hS1 => ?_)
  obtain ⟨hP1, hK1, hD1⟩ := hB
  rw [ht] at hP1
  obtain ⟨hP2, hD2⟩ := va_join (wr := wr) (w1 := wout u) hP hD isC isR hC hR hn hdis hk1 hFc hP1 hD1
  exact kk r u H1 locs1 hw hP2 hD2 hS1
theorem gx_jl {post : Int64 → S → Prop} (hr : va_Run p l e R s m args below meth c H locs cells slots 0 0 (F0 m pc ls st) rest (va_Ql post (gx_B D tysC (va_A win H.size) wout) (va_A win H.size) a) (va_A win H.size)) (hP : va_P D vwCl ws0 H) (hD : va_D A ws0) (hS : va_S A H0 H locs) (hA : ∀ q : Nat, H0.size ≤ q → A q) (isC isR : List Nat) (hC : isC.map (fun i => ws0[i]?) = win.map some) (hR : isR.map (fun i => ws0[i]?) = wr.map some) (hn : va_nd isR = true) (hdis : ∀ i ∈ isR, i ∉ isC)
    (kk : ∀ (r : Int64) (u : S) (H1 : Heap) (locs1 : List Loc), post r u → va_P D vwCl (wr ++ wout u) H1 → va_D A (wr ++ wout u) → va_S A H0 H1 locs1 → W p l e R s m args below meth c H1 locs1 cells slots Q (F0 m (pc + 3) ls (.long r :: rest))) : W p l e R s m args below meth c H locs cells slots Q (F0 m pc ls st) := by
  have hFc := va_free (wc := win) hD hS hA isC hC
  refine va_calll hr hS (fun q _ h => hFc q h) hFc (fun r u t H1 locs1 ht hvm hw hB hz1 hk1 hS1 => ?_)
  obtain ⟨hP1, hK1, hD1⟩ := hB
  rw [ht] at hP1
  obtain ⟨hP2, hD2⟩ := va_join (wr := wr) (w1 := wout u) hP hD isC isR hC hR hn hdis hk1 hFc hP1 hD1
  exact kk r u H1 locs1 hw hP2 hD2 hS1
theorem gx_jv {post : S → Prop} (hr : va_Run p l e R s m args below meth c H locs cells slots 0 0 (F0 m pc ls st) rest (va_Qv post (gx_B D tysC (va_A win H.size) wout) (va_A win H.size) a) (va_A win H.size)) (hP : va_P D vwCl ws0 H) (hD : va_D A ws0) (hS : va_S A H0 H locs) (hA : ∀ q : Nat, H0.size ≤ q → A q) (isC isR : List Nat) (hC : isC.map (fun i => ws0[i]?) = win.map some) (hR : isR.map (fun i => ws0[i]?) = wr.map some) (hn : va_nd isR = true) (hdis : ∀ i ∈ isR, i ∉ isC)
    (kk : ∀ (u : S) (H1 : Heap) (locs1 : List Loc), post u → va_P D vwCl (wr ++ wout u) H1 → va_D A (wr ++ wout u) → va_S A H0 H1 locs1 → W p l e R s m args below meth c H1 locs1 cells slots Q (F0 m (pc + 3) ls rest)) : W p l e R s m args below meth c H locs cells slots Q (F0 m pc ls st) := by
  have hFc := va_free (wc := win) hD hS hA isC hC
  refine va_callv hr hS (fun q _ h => hFc q h) hFc (fun u t H1 locs1 ht hvm hw hB hz1 hk1 hS1 => ?_)
  obtain ⟨hP1, hK1, hD1⟩ := hB
  rw [ht] at hP1
  obtain ⟨hP2, hD2⟩ := va_join (wr := wr) (w1 := wout u) hP hD isC isR hC hR hn hdis hk1 hFc hP1 hD1
  exact kk u H1 locs1 hw hP2 hD2 hS1
variable {y : MethodName} {ws : List Cond} {rm : Room} {nL maxL index n : Nat} {Ts : List Cond} {own C : String} {bytes : ByteArray} {ret : Option FieldType} {As : List Value} {b : Nat} {Qc : Array Value → State → Outcome → State → Prop}
/-- a call of an object's method, of a static one, of a nest mate's static one -/
theorem gx_rV (C0 : CallFix p m c cc nL s args Ts own) (hM : Met l y ws rm (gx_P D (.ref b :: As) tysC win H.size) Qc 0 0 (va_A win H.size)) (cw : CallW R s args own C index y bytes maxL ret ws rm 0 0 n) (hN : gx_N s) (hK : va_K D vwCl tys s) (hP : va_P D vwCl ws0 H) (hD : va_D A ws0) (isC isT : List Nat) (hC : isC.map (fun i => ws0[i]?) = win.map some) (hC2 : isC.filterMap (fun i => ws0[i]?) = win) (hnC : va_nd isC = true) (hT : isT.filterMap (fun i => tys[i]?) = tysC) (k0 : Nat) {ci : Nat} {fs : List Value} {q : vw_C} (hr0 : win[k0]? = some (b, .inr (ci, fs))) (hc : vwCl[ci]? = some q) (hq : q.1 = C) (hn : As.length = n) (hsz : ls.size = nL) (hst : st = As.reverse ++ .ref b :: rest) (hW : (rest.map fun v => v.category).sum ≤ 8) (hdg : decode cc pc = .ok (.invokevirtual index, 3)) (hf : cells ≤ R.cells ∧ slots ≤ R.slots) :
    va_Run p l e R s m args below meth c H locs cells slots 0 0 (F0 m pc ls st) rest (Qc (Value.ref b :: As).toArray) (va_A win H.size) := by
  have hPc := hP.sub (ws' := win) isC hC2
  have hDc := hD.sub (ws' := win) isC hnC hC
  have hKc := hK.sub (tys' := tysC) isT hT
  subst hq
  exact va_runV (As := As) (rest := rest) C0 hM cw ⟨gx_blind, va_recv hKc hPc hc hr0, gx_pre hN hKc hPc hDc⟩ rfl hn hsz hst (lv_room hW) hdg hf
theorem gx_rS (C0 : CallFix p m c cc nL s args Ts own) (hM : Met l y ws rm (gx_P D As tysC win H.size) Qc 0 0 (va_A win H.size)) (cw : CallB R s args own index y bytes maxL ret ws rm 0 0 n ∧ (Cond.static y).before args s = true) (hN : gx_N s) (hK : va_K D vwCl tys s) (hP : va_P D vwCl ws0 H) (hD : va_D A ws0) (isC isT : List Nat) (hC : isC.map (fun i => ws0[i]?) = win.map some) (hC2 : isC.filterMap (fun i => ws0[i]?) = win) (hnC : va_nd isC = true) (hT : isT.filterMap (fun i => tys[i]?) = tysC) (hn : As.length = n) (hsz : ls.size = nL) (hst : st = As.reverse ++ rest) (hW : (rest.map fun v => v.category).sum ≤ 8) (hdg : decode cc pc = .ok (.invokestatic index, 3)) (hf : cells ≤ R.cells ∧ slots ≤ R.slots) :
    va_Run p l e R s m args below meth c H locs cells slots 0 0 (F0 m pc ls st) rest (Qc As.toArray) (va_A win H.size) := by
  have hPc := hP.sub (ws' := win) isC hC2
  have hDc := hD.sub (ws' := win) isC hnC hC
  have hKc := hK.sub (tys' := tysC) isT hT
  exact va_runS (As := As) (rest := rest) C0 hM cw ⟨gx_blind, gx_pre hN hKc hPc hDc⟩ rfl hn hsz hst (lv_room hW) hdg hf
theorem gx_rSN {host : String} (C0 : CallFix p m c cc nL s args Ts own) (hM : Met l y ws rm (gx_P D As tysC win H.size) Qc 0 0 (va_A win H.size)) (cw : va_CN R s args own index y host bytes maxL ret ws rm 0 0 n ∧ (Cond.static y).before args s = true ∧ True) (hN : gx_N s) (hK : va_K D vwCl tys s) (hP : va_P D vwCl ws0 H) (hD : va_D A ws0) (isC isT : List Nat) (hC : isC.map (fun i => ws0[i]?) = win.map some) (hC2 : isC.filterMap (fun i => ws0[i]?) = win) (hnC : va_nd isC = true) (hT : isT.filterMap (fun i => tys[i]?) = tysC) (hn : As.length = n) (hsz : ls.size = nL) (hst : st = As.reverse ++ rest) (hW : (rest.map fun v => v.category).sum ≤ 8) (hdg : decode cc pc = .ok (.invokestatic index, 3)) (hf : cells ≤ R.cells ∧ slots ≤ R.slots) :
    va_Run p l e R s m args below meth c H locs cells slots 0 0 (F0 m pc ls st) rest (Qc As.toArray) (va_A win H.size) := by
  have hPc := hP.sub (ws' := win) isC hC2
  have hDc := hD.sub (ws' := win) isC hnC hC
  have hKc := hK.sub (tys' := tysC) isT hT
  exact va_runSN (As := As) (rest := rest) C0 hM cw ⟨gx_blind, gx_pre hN hKc hPc hDc⟩ rfl hn hsz hst (lv_room hW) hdg hf
end GC
end
section
/-! what the calls answer, in numbers -/
def sp_in (x : Int32) (n : Nat) : Bool := decide (0 ≤ x.toInt ∧ x.toInt < (n : Int))
theorem sp_in_lo {x : Int32} {n : Nat} (h : x < 0) : sp_in x n = false := by
  unfold sp_in
  rw [Int32.lt_iff_toInt_lt] at h
  have h0 : (0 : Int32).toInt = 0 := by decide
  exact decide_eq_false (by omega)
theorem sp_in_hi {x : Int32} {n : Nat} (hn : n < 2 ^ 31) (h : nI n ≤ x) : sp_in x n = false := by
  unfold sp_in
  rw [Int32.le_iff_toInt_le, nI_toInt hn] at h
  exact decide_eq_false (by omega)
theorem sp_in_ok {x : Int32} {n : Nat} (hn : n < 2 ^ 31) (h0 : ¬ x < 0) (h : ¬ nI n ≤ x) : sp_in x n = true := by
  unfold sp_in
  rw [Int32.lt_iff_toInt_lt] at h0
  rw [Int32.le_iff_toInt_le, nI_toInt hn] at h
  have h1 : (0 : Int32).toInt = 0 := by decide
  exact decide_eq_true (by omega)
theorem sp_in_nI {n k : Nat} (hk : k < 2 ^ 31) : sp_in (nI k) n = decide (k < n) := by
  unfold sp_in
  rw [nI_toInt hk]
  by_cases h : k < n
  · rw [decide_eq_true h, decide_eq_true (by omega)]
  · rw [decide_eq_false h, decide_eq_false (by omega)]
theorem sp_in_t {x : Int32} {n : Nat} (hn : n < 2 ^ 31) (h : sp_in x n = true) : ∃ j : Nat, j < n ∧ x = nI j := by
  unfold sp_in at h
  have h1 := of_decide_eq_true h
  exact vp_in_of (vp_in_iff.mpr h1) hn
theorem sp_in_clamp {x : Int32} {n : Nat} (hn : n < 2 ^ 31) (h : sp_in x n = true) : x.toNatClampNeg < n ∧ x = nI x.toNatClampNeg := by
  obtain ⟨j, hj, rfl⟩ := sp_in_t hn h
  rw [nI_clamp (by omega)]
  exact ⟨hj, rfl⟩
def sp_runs (x how : Int32) : Bool := if how = 1 then decide (0 < x) else if how = -1 then decide (x < 0) else decide (x ≠ 0)
/-- is j in the set? sets are below 256, j below 8 -/
theorem sp_has : ∀ S, S < 256 → ∀ j, j < 8 → ((nI S >>> (nI j &&& 31)) &&& nI 1) = bI (S.testBit j) := by
  have h : (List.range 256).all (fun S => (List.range 8).all (fun j => ((nI S >>> (nI j &&& 31)) &&& nI 1) == bI (S.testBit j))) = true := by decide +kernel
  intro S hS j hj
  have h1 := List.all_eq_true.mp (List.all_eq_true.mp h S (List.mem_range.mpr hS)) j (List.mem_range.mpr hj)
  simpa using h1
end
section
/-! the cells of the elimination: what each step does to them -/
def qt (v d : Int64) : Int64 := if d = 0 then 0 else v / d
theorem updL_at (f : Nat → Int64) (k : Nat) (x : Int64) : vp_updL f k x k = x := if_pos rfl
theorem updL_ne {f : Nat → Int64} {k j : Nat} {x : Int64} (h : j ≠ k) : vp_updL f k x j = f j := if_neg h
theorem ix_ne {r c r' c' : Nat} (hc : c < 8) (hc' : c' < 8) (h : r ≠ r' ∨ c ≠ c') : r * 8 + c ≠ r' * 8 + c' := by omega
def ac_I (K0 K : Nat → Int64) (E : Nat → Int32) (t j i : Nat) : Prop := (∀ r, r < i → K (r * 8 + t) = (E (r * 8 + j)).toInt64) ∧ ∀ r c, c < 8 → c ≠ t → K (r * 8 + c) = K0 (r * 8 + c)
theorem ac_0 (K0 : Nat → Int64) (E : Nat → Int32) (t j : Nat) : ac_I K0 K0 E t j 0 := ⟨fun r h => absurd h (Nat.not_lt_zero r), fun _ _ _ _ => rfl⟩
theorem ac_s {K0 K : Nat → Int64} {E : Nat → Int32} {t j i : Nat} (ht : t < 8) (h : ac_I K0 K E t j i) : ac_I K0 (vp_updL K (i * 8 + t) (E (i * 8 + j)).toInt64) E t j (i + 1) := by
  refine ⟨fun r hr => ?_, fun r c hc hct => ?_⟩
  · by_cases hri : r = i
    · subst hri; exact updL_at _ _ _
    · rw [updL_ne (ix_ne ht ht (Or.inl hri))]; exact h.1 r (by omega)
  · rw [updL_ne (ix_ne hc ht (Or.inr hct))]; exact h.2 r c hc hct
def sw_I (K0 K : Nat → Int64) (a b i : Nat) : Prop := ∀ r c, c < 8 → K (r * 8 + c) = if c < i then K0 (mx_sw a b r * 8 + c) else K0 (r * 8 + c)
theorem sw_0 (K0 : Nat → Int64) (a b : Nat) : sw_I K0 K0 a b 0 := fun r c _ => by rw [if_neg (Nat.not_lt_zero c)]
theorem sw_s {K0 K : Nat → Int64} {a b i : Nat} (hi : i < 8) (h : sw_I K0 K a b i) : sw_I K0 (vp_updL (vp_updL K (a * 8 + i) (K (b * 8 + i))) (b * 8 + i) (K (a * 8 + i))) a b (i + 1) := by
  intro r c hc
  by_cases hci : c = i
  · subst hci
    have e : ∀ r, K (r * 8 + c) = K0 (r * 8 + c) := fun r => by rw [h r c hc, if_neg (Nat.lt_irrefl c)]
    rw [if_pos (Nat.lt_succ_self c)]
    by_cases hrb : r = b
    · subst hrb; rw [updL_at, mx_sw_r, e]
    · rw [updL_ne (ix_ne hc hc (Or.inl hrb))]
      by_cases hra : r = a
      · subst hra; rw [updL_at, mx_sw_l, e]
      · rw [updL_ne (ix_ne hc hc (Or.inl hra)), mx_sw_o hra hrb, e]
  · rw [updL_ne (ix_ne hc hi (Or.inr hci)), updL_ne (ix_ne hc hi (Or.inr hci)), h r c hc]
    by_cases h1 : c < i
    · rw [if_pos h1, if_pos (by omega)]
    · rw [if_neg h1, if_neg (by omega)]
def cr_I (K0 K : Nat → Int64) (row col : Nat) (nx pv : Int64) (i : Nat) : Prop := ∀ r c, c < 8 → K (r * 8 + c) = if r = row ∧ col < c ∧ c < i then qt (nx * K0 (row * 8 + c) - K0 (row * 8 + col) * K0 (col * 8 + c)) pv else K0 (r * 8 + c)
theorem cr_0 (K0 : Nat → Int64) (row col : Nat) (nx pv : Int64) : cr_I K0 K0 row col nx pv (col + 1) := fun r c _ => by rw [if_neg (by omega)]
theorem cr_s {K0 K : Nat → Int64} {row col : Nat} {nx pv : Int64} {i : Nat} (hrc : row ≠ col) (hci : col < i) (hi : i < 8) (h : cr_I K0 K row col nx pv i) : cr_I K0 (vp_updL K (row * 8 + i) (qt (nx * K (row * 8 + i) - K0 (row * 8 + col) * K (col * 8 + i)) pv)) row col nx pv (i + 1) := by
  have e1 : K (row * 8 + i) = K0 (row * 8 + i) := by rw [h row i hi, if_neg (by omega)]
  have e2 : K (col * 8 + i) = K0 (col * 8 + i) := by rw [h col i hi, if_neg (by omega)]
  intro r c hc
  by_cases hx : r = row ∧ c = i
  · obtain ⟨rfl, rfl⟩ := hx
    rw [updL_at, e1, e2, if_pos ⟨rfl, hci, Nat.lt_succ_self c⟩]
  · rw [updL_ne (ix_ne hc hi (by omega)), h r c hc]
    by_cases h1 : r = row ∧ col < c ∧ c < i
    · rw [if_pos h1, if_pos ⟨h1.1, h1.2.1, by omega⟩]
    · rw [if_neg h1, if_neg (by omega)]
/-- all rows but the pivot's, up to row i -/
def cl_I (K1 K : Nat → Int64) (t col : Nat) (pv : Int64) (i : Nat) : Prop := ∀ r c, c < 8 → K (r * 8 + c) = if r < i ∧ r ≠ col ∧ col < c ∧ c < t then qt (K1 (col * 8 + col) * K1 (r * 8 + c) - K1 (r * 8 + col) * K1 (col * 8 + c)) pv else K1 (r * 8 + c)
theorem cl_0 (K1 : Nat → Int64) (t col : Nat) (pv : Int64) : cl_I K1 K1 t col pv 0 := fun r c _ => by rw [if_neg (by omega)]
theorem cl_skip {K1 K : Nat → Int64} {t col : Nat} {pv : Int64} (h : cl_I K1 K t col pv col) : cl_I K1 K t col pv (col + 1) := by
  intro r c hc
  rw [h r c hc]
  by_cases h1 : r < col ∧ r ≠ col ∧ col < c ∧ c < t
  · rw [if_pos h1, if_pos (by omega)]
  · rw [if_neg h1, if_neg (by omega)]
theorem cl_s {K1 K K' : Nat → Int64} {t col : Nat} {pv : Int64} {i : Nat} (hic : i ≠ col) (ht : t ≤ 8) (hct : col < t) (h : cl_I K1 K t col pv i) (h2 : cr_I K K' i col (K1 (col * 8 + col)) pv t) : cl_I K1 K' t col pv (i + 1) := by
  have e1 : ∀ c, c < 8 → K (i * 8 + c) = K1 (i * 8 + c) := fun c hc => by rw [h i c hc, if_neg (by omega)]
  have e2 : ∀ c, c < 8 → K (col * 8 + c) = K1 (col * 8 + c) := fun c hc => by rw [h col c hc, if_neg (by omega)]
  intro r c hc
  rw [h2 r c hc]
  by_cases h1 : r = i ∧ col < c ∧ c < t
  · obtain ⟨rfl, h3, h4⟩ := h1
    rw [if_pos ⟨rfl, h3, h4⟩, if_pos ⟨Nat.lt_succ_self r, hic, h3, h4⟩, e1 c hc, e1 col (by omega), e2 c hc]
  · rw [if_neg h1, h r c hc]
    by_cases h5 : r < i ∧ r ≠ col ∧ col < c ∧ c < t
    · rw [if_pos h5, if_pos (by omega)]
    · rw [if_neg h5, if_neg (by omega)]
/-- what clearing a column says of the columns behind it -/
def cc_ok (w t col : Nat) (pv : Int64) (K K' : Nat → Int64) (pv' : Int64) : Prop := ∃ i, col ≤ i ∧ i < w ∧ K (i * 8 + col) ≠ 0 ∧ (∀ j, col ≤ j → j < i → K (j * 8 + col) = 0) ∧ pv' = K (i * 8 + col) ∧ ∀ r q, r < w → col < q → q < t → K' (r * 8 + q) = if r = col then K (i * 8 + q) else qt (K (i * 8 + col) * K (mx_sw col i r * 8 + q) - K (mx_sw col i r * 8 + col) * K (i * 8 + q)) pv
theorem cc_of {w t col i : Nat} {pv : Int64} {K K1 K' : Nat → Int64} (ht : t ≤ 8) (hct : col < t) (hi : col ≤ i) (hiw : i < w) (hne : K (i * 8 + col) ≠ 0) (hz : ∀ j, col ≤ j → j < i → K (j * 8 + col) = 0) (h1 : sw_I K K1 col i t) (h2 : cl_I K1 K' t col pv w) : cc_ok w t col pv K K' (K1 (col * 8 + col)) := by
  have e : ∀ r c, c < t → K1 (r * 8 + c) = K (mx_sw col i r * 8 + c) := fun r c hc => by rw [h1 r c (by omega), if_pos hc]
  refine ⟨i, hi, hiw, hne, hz, ?_, fun r q hr hq hqt => ?_⟩
  · rw [e col col hct, mx_sw_l]
  · rw [h2 r q (by omega)]
    by_cases hrc : r = col
    · subst hrc
      rw [if_neg (by omega), if_pos rfl, e r q hqt, mx_sw_l]
    · rw [if_pos ⟨hr, hrc, hq, hqt⟩, if_neg hrc, e r q hqt, e r col hct, e col q hqt, e col col hct, mx_sw_l]
theorem sp_max0 {M : Nat} (h : M < 2 ^ 31) : (if nI 0 < nI M then nI M else nI 0) = nI M := by
  by_cases h0 : 0 < M
  · rw [if_pos (nI_lt h0 h)]
  · rw [if_neg (nI_nlt (by omega) (by omega)), show M = 0 by omega]
theorem pr_s {K : Nat → Int64} {col i : Nat} (h : ∀ j, col ≤ j → j < i → K (j * 8 + col) = 0) (hz : K (i * 8 + col) = 0) : ∀ j, col ≤ j → j < i + 1 → K (j * 8 + col) = 0 := by
  intro j h1 h2
  by_cases hj : j = i
  · rw [hj]; exact hz
  · exact h j h1 (by omega)
end
section
/-! longs that are numbers: no product leaves the long, no division leaves a rest -/
theorem l64_min : Int64.minValue.toInt = -9223372036854775808 := by decide +kernel
theorem l64_max : Int64.maxValue.toInt = 9223372036854775807 := by decide +kernel
theorem l64_toInt {x : Int} (h : x.natAbs ≤ 382637520) : (Int64.ofInt x).toInt = x := Int64.toInt_ofInt_of_le (by omega) (by omega)
theorem l64_zero {x : Int} (h : x.natAbs ≤ 382637520) : Int64.ofInt x = 0 ↔ x = 0 := by
  constructor
  · intro h1
    have h2 := congrArg Int64.toInt h1
    rw [l64_toInt h] at h2
    have h0 : (0 : Int64).toInt = 0 := by decide
    omega
  · intro h1
    rw [h1]
    rfl
theorem l64_pos {x : Int} (h : x.natAbs ≤ 382637520) : 0 < Int64.ofInt x ↔ 0 < x := by
  rw [Int64.lt_iff_toInt_lt, l64_toInt h]
  have h0 : (0 : Int64).toInt = 0 := by decide
  omega
theorem l64_step {a b c d p x : Int} (ha : a.natAbs ≤ 382637520) (hb : b.natAbs ≤ 382637520) (hc : c.natAbs ≤ 382637520) (hd : d.natAbs ≤ 382637520) (hp : p ≠ 0) (hp2 : p.natAbs ≤ 382637520) (h : p * x = a * b - c * d) : qt (Int64.ofInt a * Int64.ofInt b - Int64.ofInt c * Int64.ofInt d) (Int64.ofInt p) = Int64.ofInt x := by
  unfold qt
  have h1 := mx_abs_mul ha hb
  have h2 := mx_abs_mul hc hd
  have h3 : (p * x).natAbs ≤ 382637520 * 382637520 + 382637520 * 382637520 := by
    rw [h]
    exact mx_abs_sub h1 h2
  rw [if_neg (fun q => hp ((l64_zero hp2).mp q)), ← Int64.ofInt_mul, ← Int64.ofInt_mul, ← Int64.ofInt_sub, ← h, ← Int64.ofInt_tdiv (by rw [l64_min]; omega) (by rw [l64_max]; omega) (by rw [l64_min]; omega) (by rw [l64_max]; omega)]
  rw [Int.mul_tdiv_cancel_left x hp]
theorem mx_tup_abs {c0 : Nat → Nat → Int} (h : ∀ t s, (c0 t s).natAbs ≤ 9) (σ : Nat → Nat) : ∀ t s, (mx_tup c0 σ t s).natAbs ≤ 9 := fun t s => h t (σ s)
theorem mx_X_abs {c0 : Nat → Nat → Int} {M k : Nat} {σ : Nat → Nat} {i : Nat} {v : Nat → Int} (hM : M ≤ 6) (hk : k ≤ M) (hi : i < M) (h : ∀ t s, (c0 t s).natAbs ≤ 9) (hv : ∀ s, (v s).natAbs ≤ 9) : (mx_X c0 k σ i v).natAbs ≤ 382637520 := mx_vl_abs hM hk hi (fun t _ s => mx_tup_abs h σ t s) (fun s => hv (σ s))
theorem mx_p_abs {c0 : Nat → Nat → Int} {M k : Nat} {σ : Nat → Nat} (hM : M ≤ 6) (hk : k ≤ M) (h : ∀ t s, (c0 t s).natAbs ≤ 9) : (mx_p c0 k σ).natAbs ≤ 382637520 := by
  rw [← mx_B6]
  exact Nat.le_trans (mx_dt_abs (fun t _ s _ => mx_tup_abs h σ t s)) (mx_B_mono (by omega))
/-- the cells from column k on, ahead of the k-th step -/
def lf_I (c0 : Nat → Nat → Int) (M n k : Nat) (σ : Nat → Nat) (K : Nat → Int64) (pv : Int64) : Prop := mx_sg c0 M k = some σ ∧ pv = Int64.ofInt (mx_p c0 k σ) ∧ ∀ r q, r < M → k ≤ q → q < n → K (r * 8 + q) = Int64.ofInt (mx_X c0 k σ r (c0 q))
theorem lf_0 {c0 : Nat → Nat → Int} {M n : Nat} {K : Nat → Int64} (h : ∀ r q, r < M → q < n → K (r * 8 + q) = Int64.ofInt (c0 q r)) : lf_I c0 M n 0 (fun s => s) K 1 := ⟨rfl, rfl, fun r q hr _ hq => by rw [mx_X_0]; exact h r q hr hq⟩
theorem lf_nz {c0 : Nat → Nat → Int} {M n k : Nat} {σ : Nat → Nat} {K : Nat → Int64} {pv : Int64} (hM : M ≤ 6) (hc : ∀ t s, (c0 t s).natAbs ≤ 9) (hI : lf_I c0 M n k σ K pv) {i q : Nat} (hi : i < M) (hk : k ≤ q) (hq : q < n) : K (i * 8 + q) = 0 ↔ mx_X c0 k σ i (c0 q) = 0 := by
  obtain ⟨h1, -, h3⟩ := hI
  rw [h3 i q hi hk hq]
  exact l64_zero (mx_X_abs hM (mx_sg_ok h1).1 hi hc (hc q))
theorem lf_step {c0 : Nat → Nat → Int} {M n k : Nat} {σ : Nat → Nat} {K K' : Nat → Int64} {pv pv' : Int64} (hM : M ≤ 6) (hc : ∀ t s, (c0 t s).natAbs ≤ 9) (hkn : k < n) (hI : lf_I c0 M n k σ K pv) (h : cc_ok M n k pv K K' pv') : ∃ σ', lf_I c0 M n (k + 1) σ' K' pv' := by
  have hnz := fun {i} (hi : i < M) => lf_nz hM hc hI (i := i) (q := k) hi (Nat.le_refl k) hkn
  obtain ⟨h1, h2, h3⟩ := hI
  obtain ⟨i, g1, g2, g3, g4, g5, g6⟩ := h
  obtain ⟨hkM, hp, -⟩ := mx_sg_ok h1
  have hkM' : k < M := by omega
  have hf : mx_first (fun i => mx_X c0 k σ i (c0 k) != 0) k (M - k) = some i := by
    refine mx_first_at g1 (by omega) ?_ (fun j hj1 hj2 => ?_)
    · have : mx_X c0 k σ i (c0 k) ≠ 0 := fun q => g3 ((hnz g2).mpr q)
      simpa using this
    · have : mx_X c0 k σ j (c0 k) = 0 := (hnz (by omega)).mp (g4 j hj1 hj2)
      simpa using this
  refine ⟨fun s => σ (mx_sw k i s), mx_sg_next h1 hf, ?_, fun r q hr hq hqn => ?_⟩
  · rw [g5, h3 i k g2 (Nat.le_refl k) hkn, mx_p_next, mx_X_sw c0 σ g1, mx_sw_l]
  · rw [g6 r q hr (by omega) hqn]
    by_cases hrk : r = k
    · subst hrk
      rw [if_pos rfl, h3 i q g2 (by omega) hqn, mx_X_step_k, mx_X_sw c0 σ g1, mx_sw_l]
    · have hsr : mx_sw k i r < M := mx_sw_lt hkM' g2 hr
      rw [if_neg hrk, h3 i k g2 (Nat.le_refl k) hkn, h3 _ q hsr (by omega) hqn, h3 _ k hsr (Nat.le_refl k) hkn, h3 i q g2 (by omega) hqn, h2]
      refine l64_step (mx_X_abs hM hkM g2 hc (hc k)) (mx_X_abs hM hkM hsr hc (hc q)) (mx_X_abs hM hkM hsr hc (hc k)) (mx_X_abs hM hkM g2 hc (hc q)) hp (mx_p_abs hM hkM hc) ?_
      have hst := mx_X_step c0 (k := k) (i := r) (fun s => σ (mx_sw k i s)) hrk (c0 q)
      rw [mx_p_sw c0 σ g1, mx_X_sw c0 σ g1, mx_X_sw c0 σ g1, mx_X_sw c0 σ g1, mx_X_sw c0 σ g1, mx_sw_l] at hst
      exact hst
theorem lf_fail {c0 : Nat → Nat → Int} {M n k : Nat} {σ : Nat → Nat} {K : Nat → Int64} {pv : Int64} (hM : M ≤ 6) (hc : ∀ t s, (c0 t s).natAbs ≤ 9) (hkn : k < n) (hI : lf_I c0 M n k σ K pv) (h : ∀ j, k ≤ j → j < M → K (j * 8 + k) = 0) : mx_sg c0 M (k + 1) = none := by
  have hnz := fun {i} (hi : i < M) => lf_nz hM hc hI (i := i) (q := k) hi (Nat.le_refl k) hkn
  refine mx_sg_fail hI.1 (mx_first_none (fun j h1 h2 => ?_))
  have hkM := (mx_sg_ok hI.1).1
  have : mx_X c0 k σ j (c0 k) = 0 := (hnz (by omega)).mp (h j h1 (by omega))
  simpa using this
/-- the last column, looked through -/
def ltI (t : Nat) (K : Nat → Int64) (i : Nat) : Prop := ∀ j, j < i → (j < t - 1 → K (j * 8 + (t - 1)) ≠ 0) ∧ (t - 1 ≤ j → K (j * 8 + (t - 1)) = 0)
theorem ltI_s {t : Nat} {K : Nat → Int64} {i : Nat} (h : ltI t K i) (h1 : i < t - 1 → K (i * 8 + (t - 1)) ≠ 0) (h2 : t - 1 ≤ i → K (i * 8 + (t - 1)) = 0) : ltI t K (i + 1) := by
  intro j hj
  by_cases hji : j = i
  · subst hji; exact ⟨h1, h2⟩
  · exact h j (by omega)
theorem lf_ok {c0 : Nat → Nat → Int} {M n : Nat} {σ : Nat → Nat} {K : Nat → Int64} {pv : Int64} (hM : M ≤ 6) (hn : 1 ≤ n) (hc : ∀ t s, (c0 t s).natAbs ≤ 9) (hI : lf_I c0 M n (n - 1) σ K pv) : ltI n K M ↔ mx_ok c0 M (n - 1) σ := by
  have hnz := fun {i} (hi : i < M) => lf_nz hM hc hI (i := i) (q := n - 1) hi (Nat.le_refl _) (by omega)
  have hkM := (mx_sg_ok hI.1).1
  constructor
  · intro h
    exact ⟨hI.1, fun i hi q => (h i (by omega)).1 hi ((hnz (by omega)).mpr q), fun i h1 h2 => (hnz h2).mp ((h i h2).2 h1)⟩
  · intro h j hj
    exact ⟨fun h1 q => h.2.1 j h1 ((hnz hj).mp q), fun h1 => (hnz hj).mpr (h.2.2 j h1 hj)⟩
/-- what the answer of the elimination says -/
def lf_T (c0 : Nat → Nat → Int) (M n : Nat) (K : Nat → Int64) (pv : Int64) : Prop := ∃ σ, mx_ok c0 M (n - 1) σ ∧ pv = Int64.ofInt (mx_p c0 (n - 1) σ) ∧ ∀ i, i < n - 1 → K (i * 8 + (n - 1)) = Int64.ofInt (mx_X c0 (n - 1) σ i (c0 (n - 1)))
def lf_F (c0 : Nat → Nat → Int) (M n : Nat) : Prop := ∀ σ, ¬ mx_ok c0 M (n - 1) σ
theorem lf_F_small {c0 : Nat → Nat → Int} {M n : Nat} (h : M < n - 1) : lf_F c0 M n := fun σ hs => by
  have := (mx_sg_ok hs.1).1
  omega
theorem lf_F_none {c0 : Nat → Nat → Int} {M n k : Nat} (hk : k + 1 ≤ n - 1) (h : mx_sg c0 M (k + 1) = none) : lf_F c0 M n := fun σ hs => by
  have h1 := (mx_sg_none_le h hk).symm.trans hs.1
  cases h1
theorem lf_F_last {c0 : Nat → Nat → Int} {M n : Nat} {σ : Nat → Nat} {K : Nat → Int64} {pv : Int64} (hM : M ≤ 6) (hn : 1 ≤ n) (hc : ∀ t s, (c0 t s).natAbs ≤ 9) (hI : lf_I c0 M n (n - 1) σ K pv) (h : ¬ ltI n K M) : lf_F c0 M n := fun σ' hs => by
  have h1 : σ' = σ := Option.some.inj (hs.1.symm.trans hI.1)
  subst h1
  exact h ((lf_ok hM hn hc hI).mpr hs)
theorem lf_T_of {c0 : Nat → Nat → Int} {M n : Nat} {σ : Nat → Nat} {K : Nat → Int64} {pv : Int64} (hM : M ≤ 6) (hn : 1 ≤ n) (hc : ∀ t s, (c0 t s).natAbs ≤ 9) (hI : lf_I c0 M n (n - 1) σ K pv) (h : ltI n K M) : lf_T c0 M n K pv := by
  have hkM := (mx_sg_ok hI.1).1
  exact ⟨σ, (lf_ok hM hn hc hI).mp h, hI.2.1, fun i hi => hI.2.2 i (n - 1) (by omega) (Nat.le_refl _) (by omega)⟩
end
section
/-! bits of sets -/
theorem nx_and (a b : Nat) : nI a &&& nI b = nI (a &&& b) := by
  apply Int32.toBitVec_inj.1
  show BitVec.ofNat 32 a &&& BitVec.ofNat 32 b = BitVec.ofNat 32 (a &&& b)
  apply BitVec.eq_of_getLsbD_eq
  intro i hi
  simp [hi]
theorem nx_or (a b : Nat) : nI a ||| nI b = nI (a ||| b) := by
  apply Int32.toBitVec_inj.1
  show BitVec.ofNat 32 a ||| BitVec.ofNat 32 b = BitVec.ofNat 32 (a ||| b)
  apply BitVec.eq_of_getLsbD_eq
  intro i hi
  simp [hi]
theorem bit_hi {a i : Nat} (ha : a < 256) (hi : ¬ i < 8) : a.testBit i = false := Nat.testBit_lt_two_pow (Nat.lt_of_lt_of_le ha (Nat.pow_le_pow_right (n := 2) (by decide) (show 8 ≤ i by omega)))
theorem bit_255 : ∀ i, i < 8 → Nat.testBit 255 i = true := by decide
theorem nx_andn {a b : Nat} (ha : a < 256) : nI a &&& (nI b ^^^ (-1)) = nI (a &&& (255 ^^^ b)) := by
  apply Int32.toBitVec_inj.1
  have h1 : (-1 : Int32).toBitVec = BitVec.allOnes 32 := by decide
  rw [Int32.toBitVec_and, Int32.toBitVec_xor, h1]
  show BitVec.ofNat 32 a &&& (BitVec.ofNat 32 b ^^^ BitVec.allOnes 32) = BitVec.ofNat 32 (a &&& (255 ^^^ b))
  apply BitVec.eq_of_getLsbD_eq
  intro i hi
  rw [BitVec.getLsbD_and, BitVec.getLsbD_xor, BitVec.getLsbD_ofNat, BitVec.getLsbD_ofNat, BitVec.getLsbD_ofNat, BitVec.getLsbD_allOnes, Nat.testBit_and, Nat.testBit_xor, decide_eq_true hi]
  by_cases h8 : i < 8
  · rw [bit_255 i h8]
    cases a.testBit i <;> cases b.testBit i <;> rfl
  · rw [bit_hi ha h8]
    rfl
theorem nx_shl1 : ∀ j, j < 9 → nI 1 <<< (nI j &&& 31) = nI (2 ^ j) := by decide +kernel
theorem nx_least : ∀ S, S < 256 → 0 < S → nI S &&& (-(nI S)) = nI (2 ^ mx_nth S 0) := by
  have h : (List.range 256).all (fun S => !(decide (0 < S)) || (nI S &&& (-(nI S)) == nI (2 ^ mx_nth S 0))) = true := by decide +kernel
  intro S hS h0
  have h1 := List.all_eq_true.mp h S (List.mem_range.mpr hS)
  rw [decide_eq_true h0] at h1
  simpa using h1
theorem z8 {x : Nat} (hx : x < 256) : nI x = 0 ↔ ∀ i, i < 8 → x.testBit i = false := by
  rw [← nI_0, nI_eq (by omega) (by omega)]
  constructor
  · intro h i _
    rw [h]
    exact Nat.zero_testBit i
  · intro h
    refine Nat.eq_of_testBit_eq (fun i => ?_)
    rw [Nat.zero_testBit]
    by_cases h8 : i < 8
    · exact h i h8
    · exact bit_hi hx h8
theorem and_lt {a b : Nat} (ha : a < 256) : a &&& b < 256 := Nat.lt_of_le_of_lt Nat.and_le_left ha
def al8 (q : Nat → Bool) : Bool := (List.range 8).all q
theorem al8_t {q : Nat → Bool} : al8 q = true ↔ ∀ j, j < 8 → q j = true := by
  unfold al8
  rw [List.all_eq_true]
  exact ⟨fun h j hj => h j (List.mem_range.mpr hj), fun h j hj => h j (List.mem_range.mp hj)⟩
theorem al8_n {q : Nat → Bool} (h : ¬ ∀ j, j < 8 → q j = true) : al8 q = false := by
  cases h1 : al8 q with
  | false => rfl
  | true => exact absurd (al8_t.mp h1) h
/-- which way a flow may be listed; P j: its rate is positive -/
def dirS (S V : Nat) (P : Nat → Bool) : Int32 := if al8 (fun j => !(S.testBit j) || V.testBit j) = true then (if P (mx_nth S 0) = true then 1 else -1) else if al8 (fun j => !(S.testBit j && !V.testBit j) || P j) = true then 1 else if al8 (fun j => !(S.testBit j && !V.testBit j) || !P j) = true then -1 else 0
def fwm (P : Nat → Bool) : Nat → Nat
  | 0 => 0
  | j + 1 => if P j = true then fwm P j ||| 2 ^ j else fwm P j
theorem fwm_in {P : Nat → Bool} {j : Nat} (h : P j = true) : fwm P (j + 1) = fwm P j ||| 2 ^ j := if_pos h
theorem fwm_out {P : Nat → Bool} {j : Nat} (h : P j = false) : fwm P (j + 1) = fwm P j := if_neg (by rw [h]; decide)
theorem fwm_lt (P : Nat → Bool) : ∀ {j : Nat}, j ≤ 8 → fwm P j < 256
  | 0, _ => (by decide : 0 < 256)
  | j + 1, h => by
    have h1 := fwm_lt P (j := j) (by omega)
    cases hp : P j with
    | true =>
      rw [fwm_in hp]
      exact Nat.or_lt_two_pow (n := 8) h1 (Nat.pow_lt_pow_right (by decide) (by omega))
    | false => rw [fwm_out hp]; exact h1
theorem fwm_bit (P : Nat → Bool) (i : Nat) : ∀ j, (fwm P j).testBit i = (decide (i < j) && P i)
  | 0 => by show Nat.testBit 0 i = _; simp
  | j + 1 => by
    cases hp : P j with
    | true =>
      rw [fwm_in hp, Nat.testBit_or, fwm_bit P i j, Nat.testBit_two_pow]
      by_cases h : i = j
      · subst h; simp [hp]
      · have h2 : ¬ j = i := fun q => h q.symm
        by_cases h3 : i < j
        · simp [h2, h3, show i < j + 1 by omega]
        · simp [h2, h3, show ¬ i < j + 1 by omega]
    | false =>
      rw [fwm_out hp, fwm_bit P i j]
      by_cases h : i = j
      · subst h; simp [hp]
      · by_cases h3 : i < j
        · simp [h3, show i < j + 1 by omega]
        · simp [h3, show ¬ i < j + 1 by omega]
theorem fwm_8 (P : Nat → Bool) {i : Nat} (h : i < 8) : (fwm P 8).testBit i = P i := by rw [fwm_bit, decide_eq_true h]; rfl
theorem andn_bit {S V i : Nat} (h : i < 8) : (S &&& (255 ^^^ V)).testBit i = (S.testBit i && !V.testBit i) := by
  rw [Nat.testBit_and, Nat.testBit_xor, bit_255 i h]
  cases V.testBit i <;> rfl
theorem ow_z {S V : Nat} (hS : S < 256) : nI (S &&& (255 ^^^ V)) = 0 ↔ al8 (fun j => !(S.testBit j) || V.testBit j) = true := by
  rw [z8 (and_lt hS), al8_t]
  constructor
  · intro h j hj
    have h1 := h j hj
    rw [andn_bit hj] at h1
    cases hs : S.testBit j <;> cases hv : V.testBit j <;> simp_all
  · intro h j hj
    have h1 := h j hj
    rw [andn_bit hj]
    cases hs : S.testBit j <;> cases hv : V.testBit j <;> simp_all
theorem ob_z {S V : Nat} {P : Nat → Bool} (hS : S < 256) : nI ((S &&& (255 ^^^ V)) &&& (S &&& (255 ^^^ fwm P 8))) = 0 ↔ al8 (fun j => !(S.testBit j && !V.testBit j) || P j) = true := by
  rw [z8 (and_lt (and_lt hS)), al8_t]
  constructor
  · intro h j hj
    have h1 := h j hj
    rw [Nat.testBit_and, andn_bit hj, andn_bit hj, fwm_8 P hj] at h1
    cases hs : S.testBit j <;> cases hv : V.testBit j <;> cases hp : P j <;> simp_all
  · intro h j hj
    have h1 := h j hj
    rw [Nat.testBit_and, andn_bit hj, andn_bit hj, fwm_8 P hj]
    cases hs : S.testBit j <;> cases hv : V.testBit j <;> cases hp : P j <;> simp_all
theorem of_z {S V : Nat} {P : Nat → Bool} (hS : S < 256) : nI ((S &&& (255 ^^^ V)) &&& fwm P 8) = 0 ↔ al8 (fun j => !(S.testBit j && !V.testBit j) || !P j) = true := by
  rw [z8 (and_lt (and_lt hS)), al8_t]
  constructor
  · intro h j hj
    have h1 := h j hj
    rw [Nat.testBit_and, andn_bit hj, fwm_8 P hj] at h1
    cases hs : S.testBit j <;> cases hv : V.testBit j <;> cases hp : P j <;> simp_all
  · intro h j hj
    have h1 := h j hj
    rw [Nat.testBit_and, andn_bit hj, fwm_8 P hj]
    cases hs : S.testBit j <;> cases hv : V.testBit j <;> cases hp : P j <;> simp_all
theorem nz_cnt : ∀ S, S < 256 → 0 < S → 0 < mx_cnt S 8 := by
  have h : (List.range 256).all (fun S => !(decide (0 < S)) || decide (0 < mx_cnt S 8)) = true := by decide +kernel
  intro S hS h0
  have h1 := List.all_eq_true.mp h S (List.mem_range.mpr hS)
  rw [decide_eq_true h0] at h1
  simpa using h1
theorem fl_z {S : Nat} {P : Nat → Bool} (hS : S < 256) (h0 : 0 < S) : nI (fwm P 8 &&& 2 ^ mx_nth S 0) = 0 ↔ P (mx_nth S 0) = false := by
  have hn := (mx_nth_in (S := S) (t := 0) (nz_cnt S hS h0)).1
  rw [z8 (and_lt (fwm_lt P (Nat.le_refl 8)))]
  constructor
  · intro h
    have h1 := h _ hn
    rw [Nat.testBit_and, fwm_8 P hn, Nat.testBit_two_pow] at h1
    simpa using h1
  · intro h i hi
    rw [Nat.testBit_and, fwm_8 P hi, Nat.testBit_two_pow]
    by_cases hx : mx_nth S 0 = i
    · rw [← hx, h]; rfl
    · simp [hx]
theorem dir_1 {S V : Nat} {P : Nat → Bool} (hS : S < 256) (h0 : 0 < S) (h1 : nI (S &&& (255 ^^^ V)) = 0) (h2 : ¬ nI (fwm P 8 &&& 2 ^ mx_nth S 0) = 0) : 1 = dirS S V P := by
  unfold dirS
  rw [if_pos ((ow_z hS).mp h1), if_pos]
  cases hp : P (mx_nth S 0) with
  | true => rfl
  | false => exact absurd ((fl_z hS h0).mpr hp) h2
theorem dir_2 {S V : Nat} {P : Nat → Bool} (hS : S < 256) (h0 : 0 < S) (h1 : nI (S &&& (255 ^^^ V)) = 0) (h2 : nI (fwm P 8 &&& 2 ^ mx_nth S 0) = 0) : -1 = dirS S V P := by
  unfold dirS
  rw [if_pos ((ow_z hS).mp h1), if_neg (by rw [(fl_z hS h0).mp h2]; decide)]
theorem dir_3 {S V : Nat} {P : Nat → Bool} (hS : S < 256) (h1 : ¬ nI (S &&& (255 ^^^ V)) = 0) (h2 : nI ((S &&& (255 ^^^ V)) &&& (S &&& (255 ^^^ fwm P 8))) = 0) : 1 = dirS S V P := by
  unfold dirS
  rw [if_neg (fun q => h1 ((ow_z hS).mpr q)), if_pos ((ob_z hS).mp h2)]
theorem dir_4 {S V : Nat} {P : Nat → Bool} (hS : S < 256) (h1 : ¬ nI (S &&& (255 ^^^ V)) = 0) (h2 : ¬ nI ((S &&& (255 ^^^ V)) &&& (S &&& (255 ^^^ fwm P 8))) = 0) (h3 : nI ((S &&& (255 ^^^ V)) &&& fwm P 8) = 0) : -1 = dirS S V P := by
  unfold dirS
  rw [if_neg (fun q => h1 ((ow_z hS).mpr q)), if_neg (fun q => h2 ((ob_z hS).mpr q)), if_pos ((of_z hS).mp h3)]
theorem dir_5 {S V : Nat} {P : Nat → Bool} (hS : S < 256) (h1 : ¬ nI (S &&& (255 ^^^ V)) = 0) (h2 : ¬ nI ((S &&& (255 ^^^ V)) &&& (S &&& (255 ^^^ fwm P 8))) = 0) (h3 : ¬ nI ((S &&& (255 ^^^ V)) &&& fwm P 8) = 0) : 0 = dirS S V P := by
  unfold dirS
  rw [if_neg (fun q => h1 ((ow_z hS).mpr q)), if_neg (fun q => h2 ((ob_z hS).mpr q)), if_neg (fun q => h3 ((of_z hS).mpr q))]
theorem dir_pm (S V : Nat) (P : Nat → Bool) : dirS S V P = 1 ∨ dirS S V P = -1 ∨ dirS S V P = 0 := by
  unfold dirS
  split
  · split
    · exact Or.inl rfl
    · exact Or.inr (Or.inl rfl)
  · split
    · exact Or.inl rfl
    · split
      · exact Or.inr (Or.inl rfl)
      · exact Or.inr (Or.inr rfl)
/-! the columns of a set, loaded -/
def lc_I (E : Nat → Int32) (S j M : Nat) (K : Nat → Int64) : Prop := ∀ q, q < mx_cnt S j → ∀ r, r < M → K (r * 8 + q) = (E (r * 8 + mx_nth S q)).toInt64
theorem lc_0 (E : Nat → Int32) (S M : Nat) (K : Nat → Int64) : lc_I E S 0 M K := fun q h => absurd h (Nat.not_lt_zero q)
theorem lc_in {E : Nat → Int32} {S j M : Nat} {K K' : Nat → Int64} (hj : j < 8) (hb : S.testBit j = true) (h : lc_I E S j M K) (h2 : ac_I K K' E (mx_cnt S j) j M) : lc_I E S (j + 1) M K' := by
  intro q hq r hr
  rw [mx_cnt_in hb] at hq
  have hle := mx_cnt_le S j
  by_cases hqc : q = mx_cnt S j
  · subst hqc
    rw [mx_nth_cnt hb hj]
    exact h2.1 r hr
  · rw [h2.2 r q (by omega) hqc]
    exact h q (by omega) r hr
theorem lc_out {E : Nat → Int32} {S j M : Nat} {K : Nat → Int64} (hb : S.testBit j = false) (h : lc_I E S j M K) : lc_I E S (j + 1) M K := by
  intro q hq
  rw [mx_cnt_out hb] at hq
  exact h q hq
/-- a column of the network -/
def mx_col (E : Nat → Int32) (j : Nat) : Nat → Int := fun s => if s < 6 ∧ j < 8 then (E (s * 8 + j)).toInt else 0
def fc (E : Nat → Int32) (S : Nat) : Nat → Nat → Int := fun t => mx_col E (mx_nth S t)
def e9 (E : Nat → Int32) : Prop := ∀ q, q < 48 → (E q).toInt.natAbs ≤ 9
theorem fc_9 {E : Nat → Int32} (h : e9 E) (S : Nat) : ∀ t s, (fc E S t s).natAbs ≤ 9 := by
  intro t s
  unfold fc mx_col
  split
  · exact h _ (by omega)
  · decide
theorem fc_K {E : Nat → Int32} {S M : Nat} {K : Nat → Int64} (hM : M ≤ 6) (h : lc_I E S 8 M K) : ∀ r q, r < M → q < mx_cnt S 8 → K (r * 8 + q) = Int64.ofInt (fc E S q r) := by
  intro r q hr hq
  rw [h q hq r hr]
  unfold fc mx_col
  rw [if_pos ⟨by omega, (mx_nth_in hq).1⟩, Int64.ofInt_int32ToInt]
/-- bits of S lie below R -/
theorem cnt_hi {S R : Nat} (hS : S < 2 ^ R) : ∀ {j : Nat}, R ≤ j → mx_cnt S j = mx_cnt S R := by
  intro j hj
  induction j with
  | zero => rw [Nat.le_zero.mp hj]
  | succ j ih =>
    rcases Nat.lt_or_ge j R with h | h
    · rw [show j + 1 = R by omega]
    · rw [mx_cnt_out (Nat.testBit_lt_two_pow (Nat.lt_of_lt_of_le hS (Nat.pow_le_pow_right (by decide) h))), ih h]
/-! the flow, read -/
def fa (K : Nat → Int64) (pv : Int64) (w T t : Nat) : Int64 := if t < T - 1 ∧ t < w then -K (t * 8 + (T - 1)) else pv
def fs_I (S : Nat) (G : Nat → Int64) (F : Nat → Int64) (j : Nat) : Prop := ∀ i, i < j → F i = if S.testBit i = true then G (mx_cnt S i) else 0
theorem fs_0 (S : Nat) (G F : Nat → Int64) : fs_I S G F 0 := fun i h => absurd h (Nat.not_lt_zero i)
theorem fs_in {S : Nat} {G F : Nat → Int64} {j : Nat} (hb : S.testBit j = true) (h : fs_I S G F j) : fs_I S G (vp_updL F j (G (mx_cnt S j))) (j + 1) := by
  intro i hi
  by_cases hij : i = j
  · subst hij; rw [updL_at, if_pos hb]
  · rw [updL_ne hij]; exact h i (by omega)
theorem fs_out {S : Nat} {G F : Nat → Int64} {j : Nat} (hb : S.testBit j = false) (h : fs_I S G F j) : fs_I S G (vp_updL F j 0) (j + 1) := by
  intro i hi
  by_cases hij : i = j
  · subst hij; rw [updL_at, if_neg (by rw [hb]; decide)]
  · rw [updL_ne hij]; exact h i (by omega)
/-! greatest common divisors -/
theorem lN_ofInt (n : Nat) : lN n = Int64.ofInt (n : Int) := Int64.ofInt_eq_ofNat.symm
theorem ab_n {g : Nat} (hg : g ≤ 382637520) : (if 0 < lN g then lN g else -lN g) = lN g := by
  rw [lN_ofInt]
  by_cases h : 0 < Int64.ofInt (g : Int)
  · rw [if_pos h]
  · rw [if_neg h]
    have h1 : ¬ 0 < (g : Int) := fun q => h ((l64_pos (by omega)).mpr q)
    rw [show (g : Int) = 0 by omega]
    decide
theorem ab_x {x : Int} (hx : x.natAbs ≤ 382637520) : (if 0 < Int64.ofInt x then Int64.ofInt x else -Int64.ofInt x) = lN x.natAbs := by
  rw [lN_ofInt]
  by_cases h : 0 < Int64.ofInt x
  · rw [if_pos h]
    have h1 := (l64_pos hx).mp h
    rw [show ((x.natAbs : Nat) : Int) = x by omega]
  · rw [if_neg h, ← Int64.ofInt_neg]
    have h1 : ¬ 0 < x := fun q => h ((l64_pos hx).mpr q)
    rw [show ((x.natAbs : Nat) : Int) = -x by omega]
def cd_I (G i g r : Nat) : Prop := Nat.gcd g r = G ∧ g ≤ 382637520 ∧ r ≤ 382637520 ∧ (i = 0 ∨ (r ≤ g ∧ g * r * 2 ^ (i - 1) < 2 ^ 60))
theorem cd_s {G i g r : Nat} (hr : r ≠ 0) (h : cd_I G i g r) : cd_I G (i + 1) r (g % r) := by
  obtain ⟨h1, h2, h3, h4⟩ := h
  have hlt : g % r < r := Nat.mod_lt g (by omega)
  refine ⟨?_, h3, by omega, Or.inr ⟨by omega, ?_⟩⟩
  · rw [← h1, Nat.gcd_comm g r, Nat.gcd_rec r g, Nat.gcd_comm]
  · show r * (g % r) * 2 ^ i < 2 ^ 60
    rcases h4 with h4 | ⟨h4, h5⟩
    · subst h4
      have h6 : r * (g % r) ≤ 382637520 * 382637520 := Nat.mul_le_mul h3 (by omega)
      rw [Nat.pow_zero, Nat.mul_one]
      omega
    · rcases Nat.eq_zero_or_pos i with hi | hi
      · subst hi
        have h6 : r * (g % r) ≤ 382637520 * 382637520 := Nat.mul_le_mul h3 (by omega)
        rw [Nat.pow_zero, Nat.mul_one]
        omega
      · have h7 : 2 * (g % r) ≤ g := by
          have h8 := Nat.div_add_mod g r
          have h9 : 1 ≤ g / r := (Nat.le_div_iff_mul_le (by omega)).mpr (by omega)
          have h10 : r * 1 ≤ r * (g / r) := Nat.mul_le_mul_left r h9
          omega
        have h11 : r * (g % r) * 2 ^ i ≤ g * r * 2 ^ (i - 1) := by
          rw [show 2 ^ i = 2 * 2 ^ (i - 1) by rw [← Nat.pow_succ', show (i - 1).succ = i by omega], ← Nat.mul_assoc, show r * (g % r) * 2 = r * (2 * (g % r)) by rw [Nat.mul_assoc, Nat.mul_comm (g % r) 2], Nat.mul_comm g r]
          exact Nat.mul_le_mul_right _ (Nat.mul_le_mul_left r h7)
        omega
theorem cd_end {G i g r : Nat} (hi : 100 ≤ i) (h : cd_I G i g r) : r = 0 := by
  obtain ⟨h1, h2, h3, h4⟩ := h
  rcases h4 with h4 | ⟨h4, h5⟩
  · omega
  · rcases Nat.eq_zero_or_pos r with h6 | h6
    · exact h6
    · exfalso
      have h7 : 1 * 2 ^ 99 ≤ g * r * 2 ^ (i - 1) := Nat.mul_le_mul (Nat.mul_pos (by omega) h6) (Nat.pow_le_pow_right (by decide) (by omega))
      have h8 : (2 : Nat) ^ 60 ≤ 1 * 2 ^ 99 := by decide
      omega
def gdv (x : Nat → Nat) : Nat → Nat
  | 0 => 0
  | j + 1 => Nat.gcd (gdv x j) (x j)
theorem gdv_le {x : Nat → Nat} {B : Nat} (h : ∀ j, j < 8 → x j ≤ B) : ∀ {j : Nat}, j ≤ 8 → gdv x j ≤ B
  | 0, _ => Nat.zero_le B
  | j + 1, hj => by
    show Nat.gcd (gdv x j) (x j) ≤ B
    have h1 := gdv_le h (j := j) (by omega)
    rcases Nat.eq_zero_or_pos (gdv x j) with h2 | h2
    · rw [h2, Nat.gcd_zero_left]; exact h j (by omega)
    · exact Nat.le_trans (Nat.gcd_le_left _ h2) h1
/-! a mode's rates, laid behind the others -/
def rtv (d : Int32) (f : Int) (G : Nat) : Int32 := (d.toInt64 * qt (Int64.ofInt f) (lN G)).toInt32
theorem upd_at (f : Nat → Int32) (k : Nat) (x : Int32) : upd f k x k = x := if_pos rfl
theorem upd_ne {f : Nat → Int32} {k j : Nat} {x : Int32} (h : j ≠ k) : upd f k x j = f j := if_neg h
def rl_I (T0 T : Nat → Int32) (n : Nat) (v : Nat → Int32) (i : Nat) : Prop := (∀ j, j < i → T (n * 8 + j) = v j) ∧ ∀ k j, j < 8 → k ≠ n → T (k * 8 + j) = T0 (k * 8 + j)
theorem rl_0 (T0 : Nat → Int32) (n : Nat) (v : Nat → Int32) : rl_I T0 T0 n v 0 := ⟨fun j h => absurd h (Nat.not_lt_zero j), fun _ _ _ _ => rfl⟩
theorem rl_s {T0 T : Nat → Int32} {n : Nat} {v : Nat → Int32} {i : Nat} (hi : i < 8) (h : rl_I T0 T n v i) : rl_I T0 (upd T (n * 8 + i) (v i)) n v (i + 1) := by
  refine ⟨fun j hj => ?_, fun k j hj hk => ?_⟩
  · by_cases hji : j = i
    · subst hji; exact upd_at _ _ _
    · rw [upd_ne (ix_ne (by omega) hi (Or.inr hji))]; exact h.1 j (by omega)
  · rw [upd_ne (ix_ne hj hi (Or.inl hk))]; exact h.2 k j hj hk
theorem lN_z {r : Nat} (h : r ≤ 382637520) : lN r = 0 ↔ r = 0 := by
  rw [lN_ofInt, l64_zero (by omega)]
  omega
end
section
/-! which sets are listed, and with which rates -/
def sgm (E : Nat → Int32) (M S : Nat) : Option (Nat → Nat) := mx_sg (fc E S) M (mx_cnt S 8 - 1)
def fvv (E : Nat → Int32) (M S j : Nat) : Int := match sgm E M S with
  | some σ => if S.testBit j = true then mx_fl (fc E S) (mx_cnt S 8 - 1) σ (mx_cnt S j) else 0
  | none => 0
def okS (E : Nat → Int32) (M S : Nat) : Prop := ∃ σ, mx_ok (fc E S) M (mx_cnt S 8 - 1) σ
def posv (E : Nat → Int32) (M S : Nat) : Nat → Bool := fun j => decide (0 < fvv E M S j)
def dirv (E : Nat → Int32) (M V S : Nat) : Int32 := dirS S V (posv E M S)
def lstd (E : Nat → Int32) (M V S : Nat) : Prop := okS E M S ∧ dirv E M V S ≠ 0
def gcv (E : Nat → Int32) (M S : Nat) : Nat := gdv (fun j => (fvv E M S j).natAbs) 8
def ratv (E : Nat → Int32) (M V S j : Nat) : Int32 := rtv (dirv E M V S) (fvv E M S j) (gcv E M S)
theorem fvv_some {E : Nat → Int32} {M S : Nat} {σ : Nat → Nat} (h : sgm E M S = some σ) (j : Nat) : fvv E M S j = if S.testBit j = true then mx_fl (fc E S) (mx_cnt S 8 - 1) σ (mx_cnt S j) else 0 := by
  unfold fvv
  rw [h]
theorem fvv_abs {E : Nat → Int32} {M : Nat} (hM : M ≤ 6) (h9 : e9 E) (S j : Nat) (hj : j < 8) : (fvv E M S j).natAbs ≤ 382637520 := by
  cases h : sgm E M S with
  | none =>
    unfold fvv
    rw [h]
    exact Nat.zero_le _
  | some σ =>
    rw [fvv_some h]
    have hk := (mx_sg_ok h).1
    split
    · rename_i hb
      have hlt := mx_cnt_lt hj hb
      unfold mx_fl
      split
      · rename_i ht
        rw [Int.natAbs_neg]
        exact mx_X_abs hM hk (by omega) (fc_9 h9 S) (fc_9 h9 S _)
      · exact mx_p_abs hM hk (fc_9 h9 S)
    · decide
theorem fl_read {E : Nat → Int32} {M S : Nat} {K F : Nat → Int64} {pv : Int64} (hT : lf_T (fc E S) M (mx_cnt S 8) K pv) (hF : fs_I S (fa K pv M (mx_cnt S 8)) F 8) : ∀ j, j < 8 → F j = Int64.ofInt (fvv E M S j) := by
  intro j hj
  obtain ⟨σ, h1, h2, h3⟩ := hT
  have hs : sgm E M S = some σ := h1.1
  have hk := (mx_sg_ok h1.1).1
  rw [hF j hj, fvv_some hs]
  cases hb : S.testBit j with
  | false => rfl
  | true =>
    rw [if_pos rfl, if_pos rfl]
    have hlt := mx_cnt_lt hj hb
    unfold fa mx_fl
    by_cases ht : mx_cnt S j < mx_cnt S 8 - 1
    · rw [if_pos ⟨ht, by omega⟩, if_pos ht, h3 _ ht, Int64.ofInt_neg]
    · rw [if_neg (fun q => ht q.1), if_neg ht, h2]
theorem lf_T_ok {E : Nat → Int32} {M S : Nat} {K : Nat → Int64} {pv : Int64} (hT : lf_T (fc E S) M (mx_cnt S 8) K pv) : okS E M S := by
  obtain ⟨σ, h, -⟩ := hT
  exact ⟨σ, h⟩
theorem lf_F_ok {E : Nat → Int32} {M S : Nat} (hF : lf_F (fc E S) M (mx_cnt S 8)) : ¬ okS E M S := fun ⟨σ, h⟩ => hF σ h
theorem dirS_congr {S V : Nat} {P Q : Nat → Bool} (hS : S < 256) (h0 : 0 < S) (h : ∀ j, j < 8 → P j = Q j) : dirS S V P = dirS S V Q := by
  have e1 : al8 (fun j => !(S.testBit j && !V.testBit j) || P j) = al8 (fun j => !(S.testBit j && !V.testBit j) || Q j) := by
    rw [Bool.eq_iff_iff, al8_t, al8_t]
    exact ⟨fun g j hj => by rw [← h j hj]; exact g j hj, fun g j hj => by rw [h j hj]; exact g j hj⟩
  have e2 : al8 (fun j => !(S.testBit j && !V.testBit j) || !P j) = al8 (fun j => !(S.testBit j && !V.testBit j) || !Q j) := by
    rw [Bool.eq_iff_iff, al8_t, al8_t]
    exact ⟨fun g j hj => by rw [← h j hj]; exact g j hj, fun g j hj => by rw [h j hj]; exact g j hj⟩
  unfold dirS
  rw [e1, e2, h _ (mx_nth_in (nz_cnt S hS h0)).1]
theorem dir_eq {E : Nat → Int32} {M V S : Nat} {F : Nat → Int64} (hM : M ≤ 6) (h9 : e9 E) (hS : S < 256) (h0 : 0 < S) (hF : ∀ j, j < 8 → F j = Int64.ofInt (fvv E M S j)) : dirS S V (fun j => decide (0 < F j)) = dirv E M V S := by
  refine dirS_congr hS h0 (fun j hj => ?_)
  show decide (0 < F j) = decide (0 < fvv E M S j)
  rw [hF j hj]
  exact decide_eq_decide.mpr (l64_pos (fvv_abs hM h9 S j hj))
theorem lc_8 {E : Nat → Int32} {S R M : Nat} {K : Nat → Int64} (h : lc_I E S R M K) (he : mx_cnt S 8 = mx_cnt S R) : lc_I E S 8 M K := fun q hq => h q (by omega)
/-! a set, looked at, and listed or not -/
def li_P (E : Nat → Int32) (M V S n : Nat) (U T : Nat → Int32) (n' : Nat) (U' T' : Nat → Int32) : Prop := (n < 70 ∧ lstd E M V S → n' = n + 1 ∧ U' = upd U n (nI S) ∧ rl_I T T' n (ratv E M V S) 8) ∧ (¬ (n < 70 ∧ lstd E M V S) → n' = n ∧ U' = U ∧ T' = T)
theorem li_no {E : Nat → Int32} {M V S n : Nat} {U T : Nat → Int32} (h : ¬ (n < 70 ∧ lstd E M V S)) : li_P E M V S n U T n U T := ⟨fun q => absurd q h, fun _ => ⟨rfl, rfl, rfl⟩⟩
theorem li_yes {E : Nat → Int32} {M V S n : Nat} {U T T' : Nat → Int32} (h : n < 70 ∧ lstd E M V S) (hr : rl_I T T' n (ratv E M V S) 8) : li_P E M V S n U T (n + 1) (upd U n (nI S)) T' := ⟨fun _ => ⟨rfl, rfl, hr⟩, fun q => absurd h q⟩
noncomputable def lb (E : Nat → Int32) (M R V : Nat) : Nat → Bool := fun s => @decide (0 < s ∧ s < 2 ^ R ∧ lstd E M V s) (Classical.propDecidable _)
theorem lb_t {E : Nat → Int32} {M R V s : Nat} : lb E M R V s = true ↔ 0 < s ∧ s < 2 ^ R ∧ lstd E M V s := by
  unfold lb
  exact @decide_eq_true_iff _ (Classical.propDecidable _)
theorem mx_count_s (q : Nat → Bool) (n : Nat) : mx_count q (n + 1) = mx_count q n + (if q n = true then 1 else 0) := rfl
theorem mx_count_in {q : Nat → Bool} {n : Nat} (h : q n = true) : mx_count q (n + 1) = mx_count q n + 1 := by rw [mx_count_s, if_pos h]
theorem mx_count_out {q : Nat → Bool} {n : Nat} (h : ¬ q n = true) : mx_count q (n + 1) = mx_count q n := by rw [mx_count_s, if_neg h]; rfl
theorem mx_count_mono (q : Nat → Bool) {a b : Nat} (h : a ≤ b) : mx_count q a ≤ mx_count q b := by
  induction b with
  | zero => rw [Nat.le_zero.mp h]; exact Nat.le_refl _
  | succ b ih =>
    rcases Nat.lt_or_ge a (b + 1) with h1 | h1
    · refine Nat.le_trans (ih (by omega)) ?_
      rw [mx_count_s]
      omega
    · rw [show a = b + 1 by omega]; exact Nat.le_refl _
theorem mx_count_lt {q : Nat → Bool} {a b : Nat} (h : a < b) (ha : q a = true) : mx_count q a < mx_count q b := by
  have h1 := mx_count_mono q (show a + 1 ≤ b from h)
  rw [mx_count_in ha] at h1
  exact h1
theorem mx_count_at {q : Nat → Bool} : ∀ {N k : Nat}, k < mx_count q N → ∃ s, s < N ∧ q s = true ∧ mx_count q s = k
  | 0, k, h => absurd h (Nat.not_lt_zero k)
  | N + 1, k, h => by
    by_cases hq : q N = true
    · rw [mx_count_in hq] at h
      by_cases hk : k = mx_count q N
      · exact ⟨N, Nat.lt_succ_self N, hq, hk.symm⟩
      · obtain ⟨s, h1, h2, h3⟩ := mx_count_at (q := q) (N := N) (k := k) (by omega)
        exact ⟨s, by omega, h2, h3⟩
    · rw [mx_count_out hq] at h
      obtain ⟨s, h1, h2, h3⟩ := mx_count_at (q := q) (N := N) (k := k) h
      exact ⟨s, by omega, h2, h3⟩
theorem pow_256 {R : Nat} (h : R ≤ 8) : 2 ^ R ≤ 256 := Nat.pow_le_pow_right (n := 2) (by decide) h
theorem lb_anti {E : Nat → Int32} {M R V : Nat} (hR : R ≤ 8) : ∀ a b, lb E M R V a = true → lb E M R V b = true → a &&& b = a → a = b := by
  intro a b ha hb hab
  obtain ⟨a0, a1, ⟨σ, oa⟩, -⟩ := lb_t.mp ha
  obtain ⟨b0, b1, ⟨τ, ob⟩, -⟩ := lb_t.mp hb
  have h2 := pow_256 hR
  have ca := nz_cnt a (by omega) a0
  have cb := nz_cnt b (by omega) b0
  have hsub : ∀ j, j < 8 → a.testBit j = true → b.testBit j = true := by
    intro j _ h
    have h1 : (a &&& b).testBit j = true := by rw [hab]; exact h
    rw [Nat.testBit_and, Bool.and_eq_true] at h1
    exact h1.2
  have hback := mx_antichain (A := mx_col E) (M := M) (S := a) (T := b) (kS := mx_cnt a 8 - 1) (kT := mx_cnt b 8 - 1) (by omega) (by omega) oa ob hsub
  refine Nat.eq_of_testBit_eq (fun i => ?_)
  by_cases hi : i < 8
  · rw [Bool.eq_iff_iff]
    exact ⟨hsub i hi, hback i hi⟩
  · rw [bit_hi (by omega) hi, bit_hi (by omega) hi]
theorem lb_70 {E : Nat → Int32} {M R V : Nat} (hR : R ≤ 8) {N : Nat} (hN : N ≤ 256) : mx_count (lb E M R V) N ≤ 70 := mx_sperner hN (fun a b _ _ ha hb hab => lb_anti hR a b ha hb hab)
/-- the list, once the sets below N have been looked at -/
def LsM (E : Nat → Int32) (M R V N n : Nat) (U T : Nat → Int32) : Prop := n = mx_count (lb E M R V) N ∧ ∀ s, s < N → lb E M R V s = true → U (mx_count (lb E M R V) s) = nI s ∧ ∀ j, j < 8 → T (mx_count (lb E M R V) s * 8 + j) = ratv E M V s j
theorem lb_0 (E : Nat → Int32) (M R V : Nat) : ¬ lb E M R V 0 = true := fun h => absurd (lb_t.mp h).1 (Nat.lt_irrefl 0)
theorem LsM_0 (E : Nat → Int32) (M R V : Nat) (U T : Nat → Int32) : LsM E M R V 1 0 U T := by
  refine ⟨?_, fun s hs h => ?_⟩
  · rw [show (1 : Nat) = 0 + 1 from rfl, mx_count_out (lb_0 E M R V)]
    rfl
  · rw [show s = 0 by omega] at h
    exact absurd h (lb_0 E M R V)
theorem LsM_s {E : Nat → Int32} {M R V N n n' : Nat} {U T U' T' : Nat → Int32} (hR : R ≤ 8) (h0 : 0 < N) (hN : N < 2 ^ R) (h : LsM E M R V N n U T) (hp : li_P E M V N n U T n' U' T') : LsM E M R V (N + 1) n' U' T' := by
  have h2 := pow_256 hR
  have h70 := lb_70 (E := E) (M := M) (V := V) hR (N := N + 1) (by omega)
  obtain ⟨g1, g2⟩ := h
  by_cases hb : lb E M R V N = true
  · rw [mx_count_in hb] at h70
    obtain ⟨rfl, rfl, hr⟩ := hp.1 ⟨by omega, (lb_t.mp hb).2.2⟩
    refine ⟨by rw [mx_count_in hb, g1], fun s hs hs2 => ?_⟩
    by_cases hsN : s = N
    · subst hsN
      rw [← g1]
      exact ⟨upd_at _ _ _, hr.1⟩
    · have hlt := mx_count_lt (show s < N by omega) hs2
      obtain ⟨q1, q2⟩ := g2 s (by omega) hs2
      refine ⟨by rw [upd_ne (by omega)]; exact q1, fun j hj => ?_⟩
      rw [hr.2 _ j hj (by omega)]
      exact q2 j hj
  · obtain ⟨rfl, rfl, rfl⟩ := hp.2 (fun q => hb (lb_t.mpr ⟨h0, hN, q.2⟩))
    refine ⟨by rw [mx_count_out hb]; exact g1, fun s hs hs2 => ?_⟩
    have hsN : s ≠ N := fun q => hb (by rw [← q]; exact hs2)
    exact g2 s (by omega) hs2
theorem LsM_skip {E : Nat → Int32} {M R V N n : Nat} {U T : Nat → Int32} (hb : ¬ lb E M R V N = true) (h : LsM E M R V N n U T) : LsM E M R V (N + 1) n U T := by
  refine ⟨by rw [mx_count_out hb]; exact h.1, fun s hs hs2 => ?_⟩
  have hsN : s ≠ N := fun q => hb (by rw [← q]; exact hs2)
  exact h.2 s (by omega) hs2
theorem LsM_up {E : Nat → Int32} {M R V N n : Nat} {U T : Nat → Int32} (hN : 2 ^ R ≤ N) (h : LsM E M R V (2 ^ R) n U T) : LsM E M R V N n U T := by
  induction N with
  | zero => rw [← Nat.le_zero.mp hN]; exact h
  | succ N ih =>
    rcases Nat.lt_or_ge N (2 ^ R) with h1 | h1
    · rw [show N + 1 = 2 ^ R by omega]; exact h
    · exact LsM_skip (fun q => absurd (lb_t.mp q).2.1 (by omega)) (ih h1)
/-- two lists of the same network are the same -/
theorem LsM_same {E : Nat → Int32} {M R V N n n' : Nat} {U T U' T' : Nat → Int32} (hN : N ≤ 256) (h : LsM E M R V N n U T) (h' : LsM E M R V N n' U' T') : n = n' ∧ ∀ k, k < n → (∃ s, s < 256 ∧ U k = nI s ∧ U' k = nI s) ∧ ∀ j, j < 8 → T (k * 8 + j) = T' (k * 8 + j) := by
  refine ⟨h.1.trans h'.1.symm, fun k hk => ?_⟩
  rw [h.1] at hk
  obtain ⟨s, h1, h2, rfl⟩ := mx_count_at hk
  obtain ⟨a1, a2⟩ := h.2 s h1 h2
  obtain ⟨b1, b2⟩ := h'.2 s h1 h2
  exact ⟨⟨s, by omega, a1, b1⟩, fun j hj => (a2 j hj).trans (b2 j hj).symm⟩
theorem LsM_70 {E : Nat → Int32} {M R V N n : Nat} {U T : Nat → Int32} (hR : R ≤ 8) (hN : N ≤ 256) (h : LsM E M R V N n U T) : n ≤ 70 := by
  rw [h.1]
  exact lb_70 hR hN
end
section
/-! what the public calls ask of their arguments, and answer -/
def szok (x y : Int32) : Bool := decide (0 ≤ x.toInt ∧ x.toInt ≤ 6 ∧ 1 ≤ y.toInt ∧ y.toInt ≤ 8)
theorem c32_0 : (0 : Int32).toInt = 0 := by decide
theorem n32_6 : (nI 6).toInt = 6 := by decide
theorem n32_1 : (nI 1).toInt = 1 := by decide
theorem n32_8 : (nI 8).toInt = 8 := by decide
theorem sz_1 {x y : Int32} (h : x < 0) : szok x y = false := by
  rw [Int32.lt_iff_toInt_lt, c32_0] at h
  exact decide_eq_false (by omega)
theorem sz_2 {x y : Int32} (h : nI 6 < x) : szok x y = false := by
  rw [Int32.lt_iff_toInt_lt, n32_6] at h
  exact decide_eq_false (by omega)
theorem sz_3 {x y : Int32} (h : y < nI 1) : szok x y = false := by
  rw [Int32.lt_iff_toInt_lt, n32_1] at h
  exact decide_eq_false (by omega)
theorem sz_4 {x y : Int32} (h : ¬ y ≤ nI 8) : szok x y = false := by
  rw [Int32.le_iff_toInt_le, n32_8] at h
  exact decide_eq_false (by omega)
theorem sz_t {x y : Int32} (h1 : ¬ x < 0) (h2 : ¬ nI 6 < x) (h3 : ¬ y < nI 1) (h4 : y ≤ nI 8) : szok x y = true := by
  rw [Int32.lt_iff_toInt_lt, c32_0] at h1
  rw [Int32.lt_iff_toInt_lt, n32_6] at h2
  rw [Int32.lt_iff_toInt_lt, n32_1] at h3
  rw [Int32.le_iff_toInt_le, n32_8] at h4
  exact decide_eq_true (by omega)
theorem sz_of {x y : Int32} (h : szok x y = true) : ∃ a b : Nat, a ≤ 6 ∧ 1 ≤ b ∧ b ≤ 8 ∧ x = nI a ∧ y = nI b := by
  obtain ⟨h1, h2, h3, h4⟩ := of_decide_eq_true h
  refine ⟨x.toInt.toNat, y.toInt.toNat, by omega, by omega, by omega, ?_, ?_⟩
  · exact Int32.toInt_inj.mp (by rw [nI_toInt (by omega)]; omega)
  · exact Int32.toInt_inj.mp (by rw [nI_toInt (by omega)]; omega)
def z9 (z : Int32) : Bool := decide (-9 ≤ z.toInt ∧ z.toInt ≤ 9)
theorem n32_9 : (nI 9).toInt = 9 := by decide
theorem n32_m9 : (-9 : Int32).toInt = -9 := by decide
theorem z9_1 {z : Int32} (h : z < (-9)) : z9 z = false := by
  rw [Int32.lt_iff_toInt_lt, n32_m9] at h
  exact decide_eq_false (by omega)
theorem z9_2 {z : Int32} (h : ¬ z ≤ nI 9) : z9 z = false := by
  rw [Int32.le_iff_toInt_le, n32_9] at h
  exact decide_eq_false (by omega)
theorem z9_t {z : Int32} (h1 : ¬ z < (-9)) (h2 : z ≤ nI 9) : z9 z = true := by
  rw [Int32.lt_iff_toInt_lt, n32_m9] at h1
  rw [Int32.le_iff_toInt_le, n32_9] at h2
  exact decide_eq_true (by omega)
theorem z9_abs {z : Int32} (h : z9 z = true) : z.toInt.natAbs ≤ 9 := by
  have := of_decide_eq_true h
  omega
def ixx (x y : Int32) : Nat := x.toNatClampNeg * 8 + y.toNatClampNeg
theorem ix_ok {x y : Int32} {M R : Nat} (hM : M ≤ 6) (hR : R ≤ 8) (h : (sp_in x M && sp_in y R) = true) : x * nI 8 + y = nI (ixx x y) ∧ nI 8 * x + y = nI (ixx x y) ∧ ixx x y < 48 := by
  rw [Bool.and_eq_true] at h
  obtain ⟨i, hi, rfl⟩ := sp_in_t (by omega) h.1
  obtain ⟨j, hj, rfl⟩ := sp_in_t (by omega) h.2
  unfold ixx
  rw [nI_clamp (by omega), nI_clamp (by omega), pk_mul, pk_mul, nI_add, nI_add, Nat.mul_comm 8 i]
  exact ⟨rfl, rfl, by omega⟩
def enok (x y z : Int32) (M R : Nat) : Bool := (sp_in x M && sp_in y R) && z9 z
def rvs (V R : Nat) (x : Int32) (b : Bool) : Nat := if sp_in x R = true then (if b = true then V ||| 2 ^ x.toNatClampNeg else V &&& (255 ^^^ 2 ^ x.toNatClampNeg)) else V
theorem rvs_lt {V R : Nat} {x : Int32} {b : Bool} (hR : R ≤ 8) (hV : V < 256) : rvs V R x b < 256 := by
  unfold rvs
  split
  · rename_i h
    have h1 := (sp_in_clamp (by omega) h).1
    split
    · exact Nat.or_lt_two_pow (n := 8) hV (Nat.pow_lt_pow_right (by decide) (by omega))
    · exact and_lt hV
  · exact hV
theorem n1_eq : (nI 1 : Int32) = 1 := by decide
theorem rv_bit {R : Nat} {x : Int32} (hR : R ≤ 8) (h : sp_in x R = true) : nI 1 <<< (x &&& 31) = nI (2 ^ x.toNatClampNeg) := by
  obtain ⟨h1, h2⟩ := sp_in_clamp (by omega) h
  have h3 := nx_shl1 x.toNatClampNeg (by omega)
  rw [← h2] at h3
  exact h3
/-- bits counted, as the library counts them -/
def bc1 (x : Int32) : Int32 := x - ((x.toUInt32 >>> ((nI 1).toUInt32 &&& Int32.toUInt32 31)).toInt32 &&& 1431655765)
def bc2 (x : Int32) : Int32 := (x &&& 858993459) + ((x.toUInt32 >>> ((nI 2).toUInt32 &&& Int32.toUInt32 31)).toInt32 &&& 858993459)
def bc3 (x : Int32) : Int32 := (x + (x.toUInt32 >>> ((nI 4).toUInt32 &&& Int32.toUInt32 31)).toInt32) &&& 252645135
def bc4 (x : Int32) : Int32 := x + (x.toUInt32 >>> ((nI 8).toUInt32 &&& Int32.toUInt32 31)).toInt32
def bc5 (x : Int32) : Int32 := x + (x.toUInt32 >>> ((nI 16).toUInt32 &&& Int32.toUInt32 31)).toInt32
theorem bc_ok : ∀ s, s < 256 → (bc5 (bc4 (bc3 (bc2 (bc1 (nI s)))))) &&& nI 63 = nI (mx_cnt s 8) := by
  have h : (List.range 256).all (fun s => (bc5 (bc4 (bc3 (bc2 (bc1 (nI s)))))) &&& nI 63 == nI (mx_cnt s 8)) = true := by decide +kernel
  intro s hs
  have h1 := List.all_eq_true.mp h s (List.mem_range.mpr hs)
  simpa using h1
/-- the shortest of the first k that has j -/
def shs (sf : Nat → Nat) (j : Nat) : Nat → Nat
  | 0 => 0
  | k + 1 => if (sf k).testBit j = true then (if shs sf j k = 0 ∨ mx_cnt (sf k) 8 < shs sf j k then mx_cnt (sf k) 8 else shs sf j k) else shs sf j k
theorem shs_le (sf : Nat → Nat) (j : Nat) : ∀ k, shs sf j k ≤ 8
  | 0 => Nat.zero_le 8
  | k + 1 => by
    have h1 := shs_le sf j k
    have h2 := mx_cnt_le (sf k) 8
    unfold shs
    split
    · split
      · exact h2
      · exact h1
    · exact h1
theorem shs_out {sf : Nat → Nat} {j k : Nat} (h : (sf k).testBit j = false) : shs sf j (k + 1) = shs sf j k := if_neg (by rw [h]; decide)
theorem shs_0 {sf : Nat → Nat} {j k : Nat} (h : (sf k).testBit j = true) (h0 : shs sf j k = 0) : shs sf j (k + 1) = mx_cnt (sf k) 8 := by
  show (if _ then _ else _) = _
  rw [if_pos h, if_pos (Or.inl h0)]
theorem shs_m {sf : Nat → Nat} {j k : Nat} (h : (sf k).testBit j = true) (h0 : ¬ shs sf j k = 0) : (if nI (mx_cnt (sf k) 8) < nI (shs sf j k) then nI (mx_cnt (sf k) 8) else nI (shs sf j k)) = nI (shs sf j (k + 1)) := by
  have h1 := shs_le sf j k
  have h2 := mx_cnt_le (sf k) 8
  have e : shs sf j (k + 1) = if mx_cnt (sf k) 8 < shs sf j k then mx_cnt (sf k) 8 else shs sf j k := by
    show (if _ then _ else _) = _
    rw [if_pos h]
    by_cases h3 : mx_cnt (sf k) 8 < shs sf j k
    · rw [if_pos h3, if_pos (Or.inr h3)]
    · rw [if_neg h3, if_neg (fun q => q.elim h0 h3)]
  rw [e]
  by_cases h3 : mx_cnt (sf k) 8 < shs sf j k
  · rw [if_pos h3, if_pos (nI_lt h3 (by omega))]
  · rw [if_neg h3, if_neg (nI_nlt (by omega) (by omega))]
theorem cnt_step_t {q : Nat → Bool} {k a : Nat} (h : q k = true) (ha : a = mx_count q k) : a + 1 = mx_count q (k + 1) := by rw [mx_count_in h, ha]
theorem cnt_step_f {q : Nat → Bool} {k a : Nat} (h : q k = false) (ha : a = mx_count q k) : a = mx_count q (k + 1) := by rw [mx_count_out (by rw [h]; decide), ha]
theorem mx_count_le (q : Nat → Bool) : ∀ n, mx_count q n ≤ n
  | 0 => Nat.le_refl 0
  | n + 1 => by
    have := mx_count_le q n
    rw [mx_count_s]
    split <;> omega
def wiq (U : Nat → Int32) (x : Int32) : Nat → Bool := fun k => decide ((U k &&& (x ^^^ (-1))) = 0)
def ruq (T : Nat → Int32) (j : Nat) (how : Int32) : Nat → Bool := fun k => sp_runs (T (k * 8 + j)) how
theorem ix_70 {x y : Int32} {n : Nat} (hn : n ≤ 70) (h : (sp_in x n && sp_in y 8) = true) : x * nI 8 + y = nI (ixx x y) ∧ nI 8 * x + y = nI (ixx x y) ∧ ixx x y < 560 := by
  rw [Bool.and_eq_true] at h
  obtain ⟨i, hi, rfl⟩ := sp_in_t (by omega) h.1
  obtain ⟨j, hj, rfl⟩ := sp_in_t (by omega) h.2
  unfold ixx
  rw [nI_clamp (by omega), nI_clamp (by omega), pk_mul, pk_mul, nI_add, nI_add, Nat.mul_comm 8 i]
  exact ⟨rfl, rfl, by omega⟩
end
section
abbrev rmX1_isColumn : Room := { frames := 0, cells := 0, slots := 0, locals := 0 }
set_option maxHeartbeats 4000000 in
set_option maxRecDepth 100000 in
theorem kX1_isColumn (l : Launch) (D : va_G) (x : Int32)  : gx_Mi l D yX1_isColumn wsX1_isColumn rmX1_isColumn [.int x] [] [] (S := Unit) (fun r (_ : Unit) => r = bI (sp_in x 8)) (fun (_ : Unit) => []) := by
  intro sz
  refine gx_start (cc := cX1_isColumn) (maxL := 1) (ret := (some .boolean)) (Qc := fun A => va_Qi (fun r (_ : Unit) => r = bI (sp_in x 8)) (gx_B D [] A (fun (_ : Unit) => [])) A) (by decide) rfl (Nat.le_of_ble_eq_true rfl) ?_ sz
  intro p e s m below meth c A hbody ls hl
  obtain ⟨C0, hr, hlocks, hN, hK, hP, hD, hA⟩ := hbody
  have C0 : CallFix p m c cX1_isColumn 1 s ([.int x] : List Value).toArray wsX1_isColumn RX1 := C0
  obtain ⟨hx, hb, hml, hown, hts⟩ := id C0
  have hS : va_S A s.heap s.heap [] := va_S.rf
  have hl : lv_has ls 1 [(0, .int x)] := hl
  refine lv_iload_n hx hb dX1_isColumn_0 rfl (lv_at hl 0 rfl) ?_
  refine lv_if_lt (tgt := 14) hx hb dX1_isColumn_1 (by decide) (fun c_1 => ?_) (fun c_1 => ?_)
  · have hz := sp_in_lo (n := 8) c_1
    refine lv_iconst (v := nI 0) hx hb dX1_isColumn_14 (by decide) ?_
    exact gx_retz hx hb hr hlocks false (by decide) () (by rw [hz]; decide) hK (hP.sub [] rfl) (hD.sub [] (by decide) rfl) hS dX1_isColumn_15
  · refine lv_iload_n hx hb dX1_isColumn_4 rfl (lv_at hl 0 rfl) ?_
    refine lv_bipush (v := nI 8) hx hb dX1_isColumn_5 (by decide) ?_
    refine lv_icmp_ge (tgt := 14) hx hb dX1_isColumn_7 (by decide) (fun c_7 => ?_) (fun c_7 => ?_)
    · have hz := sp_in_hi (n := 8) (by decide) c_7
      refine lv_iconst (v := nI 0) hx hb dX1_isColumn_14 (by decide) ?_
      exact gx_retz hx hb hr hlocks false (by decide) () (by rw [hz]; decide) hK (hP.sub [] rfl) (hD.sub [] (by decide) rfl) hS dX1_isColumn_15
    · refine lv_iconst (v := nI 1) hx hb dX1_isColumn_10 (by decide) ?_
      refine lv_goto (tgt := 15) hx hb dX1_isColumn_11 (by decide) ?_
      exact gx_retz hx hb hr hlocks true (by decide) () (by rw [sp_in_ok (n := 8) (by decide) c_1 c_7]; decide) hK (hP.sub [] rfl) (hD.sub [] (by decide) rfl) hS dX1_isColumn_15
abbrev rmX1_has : Room := { frames := 0, cells := 0, slots := 0, locals := 0 }
set_option maxHeartbeats 4000000 in
set_option maxRecDepth 100000 in
theorem kX1_has (l : Launch) (D : va_G) (S j : Nat) (hs8 : S < 256) (hj : j < 8) : gx_Mi l D yX1_has wsX1_has rmX1_has [.int (nI S), .int (nI j)] [] [] (S := Unit) (fun r (_ : Unit) => r = bI (S.testBit j)) (fun (_ : Unit) => []) := by
  intro sz
  refine gx_start (cc := cX1_has) (maxL := 2) (ret := (some .boolean)) (Qc := fun A => va_Qi (fun r (_ : Unit) => r = bI (S.testBit j)) (gx_B D [] A (fun (_ : Unit) => [])) A) (by decide) rfl (Nat.le_of_ble_eq_true rfl) ?_ sz
  intro p e s m below meth c A hbody ls hl
  obtain ⟨C0, hr, hlocks, hN, hK, hP, hD, hA⟩ := hbody
  have C0 : CallFix p m c cX1_has 2 s ([.int (nI S), .int (nI j)] : List Value).toArray wsX1_has RX1 := C0
  obtain ⟨hx, hb, hml, hown, hts⟩ := id C0
  have hS : va_S A s.heap s.heap [] := va_S.rf
  have hl : lv_has ls 2 [(0, .int (nI S)), (1, .int (nI j))] := hl
  refine lv_iload_n hx hb dX1_has_0 rfl (lv_at hl 0 rfl) ?_
  refine lv_iload_n hx hb dX1_has_1 rfl (lv_at hl 1 rfl) ?_
  refine lv_ishr hx hb dX1_has_2 ?_
  refine lv_iconst (v := nI 1) hx hb dX1_has_3 (by decide) ?_
  refine lv_iand hx hb dX1_has_4 ?_
  refine gx_i (y := bI (S.testBit j)) (sp_has S hs8 j hj) ?_
  refine gx_beq (tgt := 12) hx hb dX1_has_5 (by decide) (fun c_5 => ?_) (fun c_5 => ?_)
  · have hz := c_5
    refine lv_iconst (v := nI 0) hx hb dX1_has_12 (by decide) ?_
    exact gx_retz hx hb hr hlocks false (by decide) () (by rw [hz]; decide) hK (hP.sub [] rfl) (hD.sub [] (by decide) rfl) hS dX1_has_13
  · have hz := c_5
    refine lv_iconst (v := nI 1) hx hb dX1_has_8 (by decide) ?_
    refine lv_goto (tgt := 13) hx hb dX1_has_9 (by decide) ?_
    exact gx_retz hx hb hr hlocks true (by decide) () (by rw [hz]; decide) hK (hP.sub [] rfl) (hD.sub [] (by decide) rfl) hS dX1_has_13
abbrev rmX1_runs : Room := { frames := 0, cells := 0, slots := 0, locals := 0 }
set_option maxHeartbeats 4000000 in
set_option maxRecDepth 100000 in
theorem kX1_runs (l : Launch) (D : va_G) (x y : Int32)  : gx_Mi l D yX1_runs wsX1_runs rmX1_runs [.int x, .int y] [] [] (S := Unit) (fun r (_ : Unit) => r = bI (sp_runs x y)) (fun (_ : Unit) => []) := by
  intro sz
  refine gx_start (cc := cX1_runs) (maxL := 2) (ret := (some .boolean)) (Qc := fun A => va_Qi (fun r (_ : Unit) => r = bI (sp_runs x y)) (gx_B D [] A (fun (_ : Unit) => [])) A) (by decide) rfl (Nat.le_of_ble_eq_true rfl) ?_ sz
  intro p e s m below meth c A hbody ls hl
  obtain ⟨C0, hr, hlocks, hN, hK, hP, hD, hA⟩ := hbody
  have C0 : CallFix p m c cX1_runs 2 s ([.int x, .int y] : List Value).toArray wsX1_runs RX1 := C0
  obtain ⟨hx, hb, hml, hown, hts⟩ := id C0
  have hS : va_S A s.heap s.heap [] := va_S.rf
  have hl : lv_has ls 2 [(0, .int x), (1, .int y)] := hl
  refine lv_iload_n hx hb dX1_runs_0 rfl (lv_at hl 1 rfl) ?_
  refine lv_iconst (v := 1) hx hb dX1_runs_1 (by decide) ?_
  refine lv_icmp_ne (tgt := 15) hx hb dX1_runs_2 (by decide) (fun c_2 => ?_) (fun c_2 => ?_)
  · refine lv_iload_n hx hb dX1_runs_15 rfl (lv_at hl 1 rfl) ?_
    refine lv_iconst (v := (-1)) hx hb dX1_runs_16 (by decide) ?_
    refine lv_icmp_ne (tgt := 32) hx hb dX1_runs_17 (by decide) (fun c_17 => ?_) (fun c_17 => ?_)
    · refine lv_iload_n hx hb dX1_runs_32 rfl (lv_at hl 0 rfl) ?_
      refine lv_if_eq (tgt := 40) hx hb dX1_runs_33 (by decide) (fun c_33 => ?_) (fun c_33 => ?_)
      · have hz : sp_runs x y = false := by unfold sp_runs; rw [if_neg c_2, if_neg c_17]; exact decide_eq_false (fun q => q c_33)
        refine lv_iconst (v := nI 0) hx hb dX1_runs_40 (by decide) ?_
        exact gx_retz hx hb hr hlocks false (by decide) () (by rw [hz]; decide) hK (hP.sub [] rfl) (hD.sub [] (by decide) rfl) hS dX1_runs_41
      · have hz : sp_runs x y = true := by unfold sp_runs; rw [if_neg c_2, if_neg c_17]; exact decide_eq_true c_33
        refine lv_iconst (v := nI 1) hx hb dX1_runs_36 (by decide) ?_
        refine lv_goto (tgt := 41) hx hb dX1_runs_37 (by decide) ?_
        exact gx_retz hx hb hr hlocks true (by decide) () (by rw [hz]; decide) hK (hP.sub [] rfl) (hD.sub [] (by decide) rfl) hS dX1_runs_41
    · refine lv_iload_n hx hb dX1_runs_20 rfl (lv_at hl 0 rfl) ?_
      refine lv_if_ge (tgt := 28) hx hb dX1_runs_21 (by decide) (fun c_21 => ?_) (fun c_21 => ?_)
      · have hz : sp_runs x y = false := by unfold sp_runs; rw [if_neg c_2, if_pos c_17]; exact decide_eq_false (by rw [Int32.not_lt]; exact c_21)
        refine lv_iconst (v := nI 0) hx hb dX1_runs_28 (by decide) ?_
        refine lv_goto (tgt := 41) hx hb dX1_runs_29 (by decide) ?_
        exact gx_retz hx hb hr hlocks false (by decide) () (by rw [hz]; decide) hK (hP.sub [] rfl) (hD.sub [] (by decide) rfl) hS dX1_runs_41
      · have hz : sp_runs x y = true := by unfold sp_runs; rw [if_neg c_2, if_pos c_17]; exact decide_eq_true (by rw [← Int32.not_le]; exact c_21)
        refine lv_iconst (v := nI 1) hx hb dX1_runs_24 (by decide) ?_
        refine lv_goto (tgt := 41) hx hb dX1_runs_25 (by decide) ?_
        exact gx_retz hx hb hr hlocks true (by decide) () (by rw [hz]; decide) hK (hP.sub [] rfl) (hD.sub [] (by decide) rfl) hS dX1_runs_41
  · refine lv_iload_n hx hb dX1_runs_5 rfl (lv_at hl 0 rfl) ?_
    refine lv_if_le (tgt := 13) hx hb dX1_runs_6 (by decide) (fun c_6 => ?_) (fun c_6 => ?_)
    · have hz : sp_runs x y = false := by unfold sp_runs; rw [if_pos c_2]; exact decide_eq_false (by rw [Int32.not_lt]; exact c_6)
      refine lv_iconst (v := nI 0) hx hb dX1_runs_13 (by decide) ?_
      exact gx_retz hx hb hr hlocks false (by decide) () (by rw [hz]; decide) hK (hP.sub [] rfl) (hD.sub [] (by decide) rfl) hS dX1_runs_14
    · have hz : sp_runs x y = true := by unfold sp_runs; rw [if_pos c_2]; exact decide_eq_true (by rw [← Int32.not_le]; exact c_6)
      refine lv_iconst (v := nI 1) hx hb dX1_runs_9 (by decide) ?_
      refine lv_goto (tgt := 14) hx hb dX1_runs_10 (by decide) ?_
      exact gx_retz hx hb hr hlocks true (by decide) () (by rw [hz]; decide) hK (hP.sub [] rfl) (hD.sub [] (by decide) rfl) hS dX1_runs_14
abbrev rmX1_quotient : Room := { frames := 0, cells := 0, slots := 0, locals := 0 }
set_option maxHeartbeats 4000000 in
set_option maxRecDepth 100000 in
theorem kX1_quotient (l : Launch) (D : va_G) (v d : Int64)  : gx_Ml l D yX1_quotient wsX1_quotient rmX1_quotient [.long v, .long d] [] [] (S := Unit) (fun r (_ : Unit) => r = if d = 0 then 0 else v / d) (fun (_ : Unit) => []) := by
  intro sz
  refine gx_start (cc := cX1_quotient) (maxL := 4) (ret := (some .long)) (Qc := fun A => va_Ql (fun r (_ : Unit) => r = if d = 0 then 0 else v / d) (gx_B D [] A (fun (_ : Unit) => [])) A) (by decide) rfl (Nat.le_of_ble_eq_true rfl) ?_ sz
  intro p e s m below meth c A hbody ls hl
  obtain ⟨C0, hr, hlocks, hN, hK, hP, hD, hA⟩ := hbody
  have C0 : CallFix p m c cX1_quotient 4 s ([.long v, .long d] : List Value).toArray wsX1_quotient RX1 := C0
  obtain ⟨hx, hb, hml, hown, hts⟩ := id C0
  have hS : va_S A s.heap s.heap [] := va_S.rf
  have hl : lv_has ls 4 [(0, .long v), (2, .long d)] := hl
  refine lv_lload_n hx hb dX1_quotient_0 rfl (lv_at hl 1 rfl) ?_
  refine lv_lconst (v := 0) hx hb dX1_quotient_1 (by decide) ?_
  refine W.lcmp hx hb dX1_quotient_2 ?_
  refine lv_if_ne (tgt := 10) hx hb dX1_quotient_3 (by decide) (fun c_3 => ?_) (fun c_3 => ?_)
  · have hz : ¬ d = 0 := fun q => c_3 ((gx_cmp0 _ _).mpr q)
    refine lv_lload_n hx hb dX1_quotient_10 rfl (lv_at hl 0 rfl) ?_
    refine lv_lload_n hx hb dX1_quotient_11 rfl (lv_at hl 1 rfl) ?_
    refine lv_ldiv hx hb dX1_quotient_12 hz ?_
    exact gx_retl hx hb hr hlocks () (by rw [if_neg hz]) hK (hP.sub [] rfl) (hD.sub [] (by decide) rfl) hS dX1_quotient_13
  · have hz : d = 0 := (gx_cmp0 _ _).mp c_3
    refine lv_lconst (v := 0) hx hb dX1_quotient_6 (by decide) ?_
    refine lv_goto (tgt := 13) hx hb dX1_quotient_7 (by decide) ?_
    exact gx_retl hx hb hr hlocks () (by rw [if_pos hz]) hK (hP.sub [] rfl) (hD.sub [] (by decide) rfl) hS dX1_quotient_13
abbrev rmX1_hasReaction : Room := { frames := 0, cells := 0, slots := 0, locals := 0 }
theorem iw_X1_hasReaction_X1 : ∀ w ∈ wsX10, w ∈ wsX1_hasReaction := by decide +kernel
theorem kw_X1_hasReaction_34 : Cond.fieldLink RX1 34 "FluxModes" "reactions" "I" ∈ wsX1_hasReaction := by decide +kernel
set_option maxHeartbeats 4000000 in
set_option maxRecDepth 100000 in
theorem kX1_hasReaction (l : Launch) (D : va_G) (h0 e1 s1 r1 d1 w1 M R V n : Nat) (x : Int32) (hn : R < 256) : gx_Mi l D yX1_hasReaction wsX1_hasReaction rmX1_hasReaction [.ref h0, .int x] [] [(h0, .inr (1, [.ref e1, .int (nI M), .int (nI R), .int (nI V), .ref s1, .ref r1, .int (nI n), .ref d1, .ref w1]))] (S := Unit) (fun r (_ : Unit) => r = bI (sp_in x R)) (fun (_ : Unit) => [(h0, .inr (1, [.ref e1, .int (nI M), .int (nI R), .int (nI V), .ref s1, .ref r1, .int (nI n), .ref d1, .ref w1]))]) := by
  intro sz
  refine gx_start (cc := cX1_hasReaction) (maxL := 2) (ret := (some .boolean)) (Qc := fun A => va_Qi (fun r (_ : Unit) => r = bI (sp_in x R)) (gx_B D [] A (fun (_ : Unit) => [(h0, .inr (1, [.ref e1, .int (nI M), .int (nI R), .int (nI V), .ref s1, .ref r1, .int (nI n), .ref d1, .ref w1]))])) A) (by decide) rfl (Nat.le_of_ble_eq_true rfl) ?_ sz
  intro p e s m below meth c A hbody ls hl
  obtain ⟨C0, hr, hlocks, hN, hK, hP, hD, hA⟩ := hbody
  have C0 : CallFix p m c cX1_hasReaction 2 s ([.ref h0, .int x] : List Value).toArray wsX1_hasReaction RX1 := C0
  obtain ⟨hx, hb, hml, hown, hts⟩ := id C0
  have hS : va_S A s.heap s.heap [] := va_S.rf
  have hl : lv_has ls 2 [(0, .ref h0), (1, .int x)] := hl
  refine lv_iload_n hx hb dX1_hasReaction_0 rfl (lv_at hl 1 rfl) ?_
  refine lv_if_lt (tgt := 16) hx hb dX1_hasReaction_1 (by decide) (fun c_1 => ?_) (fun c_1 => ?_)
  · have hz := sp_in_lo (n := R) c_1
    refine lv_iconst (v := nI 0) hx hb dX1_hasReaction_16 (by decide) ?_
    exact gx_retz hx hb hr hlocks false (by decide) () (by rw [hz]; decide) hK (hP.sub [0] rfl) (hD.sub [0] (by decide) rfl) hS dX1_hasReaction_17
  · refine lv_iload_n hx hb dX1_hasReaction_4 rfl (lv_at hl 1 rfl) ?_
    refine lv_aload_n hx hb dX1_hasReaction_5 rfl (lv_at hl 0 rfl) ?_
    refine va_get (D := D) (ci := 1) (v := .int (nI R)) (C := RX1) (T := TX1) (N := 9) hx hb hts iw_X1_hasReaction_X1 hown hK hP 0 rfl rfl 2 (by decide) (hts _ kw_X1_hasReaction_34) (fun _ h9 => h9) rfl dX1_hasReaction_6 ?_
    refine lv_icmp_ge (tgt := 16) hx hb dX1_hasReaction_9 (by decide) (fun c_9 => ?_) (fun c_9 => ?_)
    · have hz := sp_in_hi (n := R) (by omega) c_9
      refine lv_iconst (v := nI 0) hx hb dX1_hasReaction_16 (by decide) ?_
      exact gx_retz hx hb hr hlocks false (by decide) () (by rw [hz]; decide) hK (hP.sub [0] rfl) (hD.sub [0] (by decide) rfl) hS dX1_hasReaction_17
    · have hz := sp_in_ok (n := R) (by omega) c_1 c_9
      refine lv_iconst (v := nI 1) hx hb dX1_hasReaction_12 (by decide) ?_
      refine lv_goto (tgt := 17) hx hb dX1_hasReaction_13 (by decide) ?_
      exact gx_retz hx hb hr hlocks true (by decide) () (by rw [hz]; decide) hK (hP.sub [0] rfl) (hD.sub [0] (by decide) rfl) hS dX1_hasReaction_17
abbrev rmX1_isListed : Room := { frames := 0, cells := 0, slots := 0, locals := 0 }
theorem iw_X1_isListed_X1 : ∀ w ∈ wsX10, w ∈ wsX1_isListed := by decide +kernel
theorem kw_X1_isListed_40 : Cond.fieldLink RX1 40 "FluxModes" "listed" "I" ∈ wsX1_isListed := by decide +kernel
set_option maxHeartbeats 4000000 in
set_option maxRecDepth 100000 in
theorem kX1_isListed (l : Launch) (D : va_G) (h0 e1 s1 r1 d1 w1 M R V n : Nat) (x : Int32) (hn : n < 256) : gx_Mi l D yX1_isListed wsX1_isListed rmX1_isListed [.ref h0, .int x] [] [(h0, .inr (1, [.ref e1, .int (nI M), .int (nI R), .int (nI V), .ref s1, .ref r1, .int (nI n), .ref d1, .ref w1]))] (S := Unit) (fun r (_ : Unit) => r = bI (sp_in x n)) (fun (_ : Unit) => [(h0, .inr (1, [.ref e1, .int (nI M), .int (nI R), .int (nI V), .ref s1, .ref r1, .int (nI n), .ref d1, .ref w1]))]) := by
  intro sz
  refine gx_start (cc := cX1_isListed) (maxL := 2) (ret := (some .boolean)) (Qc := fun A => va_Qi (fun r (_ : Unit) => r = bI (sp_in x n)) (gx_B D [] A (fun (_ : Unit) => [(h0, .inr (1, [.ref e1, .int (nI M), .int (nI R), .int (nI V), .ref s1, .ref r1, .int (nI n), .ref d1, .ref w1]))])) A) (by decide) rfl (Nat.le_of_ble_eq_true rfl) ?_ sz
  intro p e s m below meth c A hbody ls hl
  obtain ⟨C0, hr, hlocks, hN, hK, hP, hD, hA⟩ := hbody
  have C0 : CallFix p m c cX1_isListed 2 s ([.ref h0, .int x] : List Value).toArray wsX1_isListed RX1 := C0
  obtain ⟨hx, hb, hml, hown, hts⟩ := id C0
  have hS : va_S A s.heap s.heap [] := va_S.rf
  have hl : lv_has ls 2 [(0, .ref h0), (1, .int x)] := hl
  refine lv_iload_n hx hb dX1_isListed_0 rfl (lv_at hl 1 rfl) ?_
  refine lv_if_lt (tgt := 16) hx hb dX1_isListed_1 (by decide) (fun c_1 => ?_) (fun c_1 => ?_)
  · have hz := sp_in_lo (n := n) c_1
    refine lv_iconst (v := nI 0) hx hb dX1_isListed_16 (by decide) ?_
    exact gx_retz hx hb hr hlocks false (by decide) () (by rw [hz]; decide) hK (hP.sub [0] rfl) (hD.sub [0] (by decide) rfl) hS dX1_isListed_17
  · refine lv_iload_n hx hb dX1_isListed_4 rfl (lv_at hl 1 rfl) ?_
    refine lv_aload_n hx hb dX1_isListed_5 rfl (lv_at hl 0 rfl) ?_
    refine va_get (D := D) (ci := 1) (v := .int (nI n)) (C := RX1) (T := TX1) (N := 9) hx hb hts iw_X1_isListed_X1 hown hK hP 0 rfl rfl 6 (by decide) (hts _ kw_X1_isListed_40) (fun _ h9 => h9) rfl dX1_isListed_6 ?_
    refine lv_icmp_ge (tgt := 16) hx hb dX1_isListed_9 (by decide) (fun c_9 => ?_) (fun c_9 => ?_)
    · have hz := sp_in_hi (n := n) (by omega) c_9
      refine lv_iconst (v := nI 0) hx hb dX1_isListed_16 (by decide) ?_
      exact gx_retz hx hb hr hlocks false (by decide) () (by rw [hz]; decide) hK (hP.sub [0] rfl) (hD.sub [0] (by decide) rfl) hS dX1_isListed_17
    · have hz := sp_in_ok (n := n) (by omega) c_1 c_9
      refine lv_iconst (v := nI 1) hx hb dX1_isListed_12 (by decide) ?_
      refine lv_goto (tgt := 17) hx hb dX1_isListed_13 (by decide) ?_
      exact gx_retz hx hb hr hlocks true (by decide) () (by rw [hz]; decide) hK (hP.sub [0] rfl) (hD.sub [0] (by decide) rfl) hS dX1_isListed_17
abbrev rmX1_hasEntry : Room := { frames := 1, cells := 0, slots := 0, locals := 21 }
theorem iw_X1_hasEntry_X1 : ∀ w ∈ wsX10, w ∈ wsX1_hasEntry := by decide +kernel
theorem kw_X1_hasEntry_30 : Cond.fieldLink RX1 30 "FluxModes" "metabolites" "I" ∈ wsX1_hasEntry := by decide +kernel
set_option maxHeartbeats 4000000 in
set_option maxRecDepth 100000 in
theorem kX1_hasEntry (l : Launch) (D : va_G) (h0 e1 s1 r1 d1 w1 M R V n : Nat) (x y : Int32) (hM : M < 256) (hR : R < 256) : gx_Mi l D yX1_hasEntry wsX1_hasEntry rmX1_hasEntry [.ref h0, .int x, .int y] [] [(h0, .inr (1, [.ref e1, .int (nI M), .int (nI R), .int (nI V), .ref s1, .ref r1, .int (nI n), .ref d1, .ref w1]))] (S := Unit) (fun r (_ : Unit) => r = bI (sp_in x M && sp_in y R)) (fun (_ : Unit) => [(h0, .inr (1, [.ref e1, .int (nI M), .int (nI R), .int (nI V), .ref s1, .ref r1, .int (nI n), .ref d1, .ref w1]))]) := by
  intro sz
  refine gx_start (cc := cX1_hasEntry) (maxL := 3) (ret := (some .boolean)) (Qc := fun A => va_Qi (fun r (_ : Unit) => r = bI (sp_in x M && sp_in y R)) (gx_B D [] A (fun (_ : Unit) => [(h0, .inr (1, [.ref e1, .int (nI M), .int (nI R), .int (nI V), .ref s1, .ref r1, .int (nI n), .ref d1, .ref w1]))])) A) (by decide) rfl (Nat.le_of_ble_eq_true rfl) ?_ sz
  intro p e s m below meth c A hbody ls hl
  obtain ⟨C0, hr, hlocks, hN, hK, hP, hD, hA⟩ := hbody
  have C0 : CallFix p m c cX1_hasEntry 3 s ([.ref h0, .int x, .int y] : List Value).toArray wsX1_hasEntry RX1 := C0
  obtain ⟨hx, hb, hml, hown, hts⟩ := id C0
  have hS : va_S A s.heap s.heap [] := va_S.rf
  have hl : lv_has ls 3 [(0, .ref h0), (1, .int x), (2, .int y)] := hl
  refine lv_iload_n hx hb dX1_hasEntry_0 rfl (lv_at hl 1 rfl) ?_
  refine lv_if_lt (tgt := 24) hx hb dX1_hasEntry_1 (by decide) (fun c_1 => ?_) (fun c_1 => ?_)
  · have hz : (sp_in x M && sp_in y R) = false := by rw [sp_in_lo (n := M) c_1]; rfl
    refine lv_iconst (v := nI 0) hx hb dX1_hasEntry_24 (by decide) ?_
    exact gx_retz hx hb hr hlocks false (by decide) () (by rw [hz]; decide) hK (hP.sub [0] rfl) (hD.sub [0] (by decide) rfl) hS dX1_hasEntry_25
  · refine lv_iload_n hx hb dX1_hasEntry_4 rfl (lv_at hl 1 rfl) ?_
    refine lv_aload_n hx hb dX1_hasEntry_5 rfl (lv_at hl 0 rfl) ?_
    refine va_get (D := D) (ci := 1) (v := .int (nI M)) (C := RX1) (T := TX1) (N := 9) hx hb hts iw_X1_hasEntry_X1 hown hK hP 0 rfl rfl 1 (by decide) (hts _ kw_X1_hasEntry_30) (fun _ h9 => h9) rfl dX1_hasEntry_6 ?_
    refine lv_icmp_ge (tgt := 24) hx hb dX1_hasEntry_9 (by decide) (fun c_9 => ?_) (fun c_9 => ?_)
    · have hz : (sp_in x M && sp_in y R) = false := by rw [sp_in_hi (n := M) (by omega) c_9]; rfl
      refine lv_iconst (v := nI 0) hx hb dX1_hasEntry_24 (by decide) ?_
      exact gx_retz hx hb hr hlocks false (by decide) () (by rw [hz]; decide) hK (hP.sub [0] rfl) (hD.sub [0] (by decide) rfl) hS dX1_hasEntry_25
    · refine lv_aload_n hx hb dX1_hasEntry_12 rfl (lv_at hl 0 rfl) ?_
      refine lv_iload_n hx hb dX1_hasEntry_13 rfl (lv_at hl 2 rfl) ?_
      refine gx_ji (wr := []) (gx_rV (As := [.int y]) (rest := []) C0 (kX1_hasReaction l D h0 e1 s1 r1 d1 w1 M R V n y hR _) (cwV 1 hts gX1_hasEntry_X1_hasReaction rfl rfl rfl (by decide +kernel) ⟨Nat.le_of_ble_eq_true rfl, Nat.le_of_ble_eq_true rfl⟩) hN hK hP hD [0] [] rfl rfl (by decide) rfl 0 rfl rfl rfl rfl hl.1 rfl (Nat.le_of_ble_eq_true rfl) dX1_hasEntry_14 ⟨Nat.zero_le _, Nat.zero_le _⟩) hP hD hS hA [0] [] rfl rfl (by decide) (by decide) (fun r u H locs hw hP hD hS => ?_)
      have hw : r = bI (sp_in y R) := hw
      subst hw
      have hP : va_P D vwCl [(h0, .inr (1, [.ref e1, .int (nI M), .int (nI R), .int (nI V), .ref s1, .ref r1, .int (nI n), .ref d1, .ref w1]))] H := hP
      have hD : va_D A [(h0, .inr (1, [.ref e1, .int (nI M), .int (nI R), .int (nI V), .ref s1, .ref r1, .int (nI n), .ref d1, .ref w1]))] := hD
      refine gx_beq (tgt := 24) hx hb dX1_hasEntry_17 (by decide) (fun c_17 => ?_) (fun c_17 => ?_)
      · have hz : (sp_in x M && sp_in y R) = false := by rw [c_17, Bool.and_false]
        refine lv_iconst (v := nI 0) hx hb dX1_hasEntry_24 (by decide) ?_
        exact gx_retz hx hb hr hlocks false (by decide) () (by rw [hz]; decide) hK (hP.sub [0] rfl) (hD.sub [0] (by decide) rfl) hS dX1_hasEntry_25
      · have hz : (sp_in x M && sp_in y R) = true := by rw [c_17, sp_in_ok (n := M) (by omega) c_1 c_9]; rfl
        refine lv_iconst (v := nI 1) hx hb dX1_hasEntry_20 (by decide) ?_
        refine lv_goto (tgt := 25) hx hb dX1_hasEntry_21 (by decide) ?_
        exact gx_retz hx hb hr hlocks true (by decide) () (by rw [hz]; decide) hK (hP.sub [0] rfl) (hD.sub [0] (by decide) rfl) hS dX1_hasEntry_25
end
section
abbrev rmX0_begin : Room := { frames := 1, cells := 0, slots := 0, locals := 30 }
theorem iw_X0_begin_X0 : ∀ w ∈ wsX00, w ∈ wsX0_begin := by decide +kernel
theorem kw_X0_begin_15 : Cond.fieldLink RX0 15 "FluxModes$Reduction" "rows" "I" ∈ wsX0_begin := by decide +kernel
theorem kw_X0_begin_19 : Cond.fieldLink RX0 19 "FluxModes$Reduction" "columns" "I" ∈ wsX0_begin := by decide +kernel
theorem kw_X0_begin_22 : Cond.fieldLink RX0 22 "FluxModes$Reduction" "pivot" "J" ∈ wsX0_begin := by decide +kernel
set_option maxHeartbeats 4000000 in
set_option maxRecDepth 100000 in
theorem kX0_begin (l : Launch) (D : va_G) (d1 k1 w t : Nat) (pv : Int64) (M : Nat) (hM : M ≤ 6) : gx_Mv l D yX0_begin wsX0_begin rmX0_begin [.ref d1, .int (nI M)] [] [(d1, .inr (0, [.ref k1, .int (nI w), .int (nI t), .long pv]))] (S := Unit) (fun (_ : Unit) => True) (fun (_ : Unit) => [(d1, .inr (0, [.ref k1, .int (nI M), .int (nI 0), .long 1]))]) := by
  intro sz
  refine gx_start (cc := cX0_begin) (maxL := 2) (ret := none) (Qc := fun A => va_Qv (fun (_ : Unit) => True) (gx_B D [] A (fun (_ : Unit) => [(d1, .inr (0, [.ref k1, .int (nI M), .int (nI 0), .long 1]))])) A) (by decide) rfl (Nat.le_of_ble_eq_true rfl) ?_ sz
  intro p e s m below meth c A hbody ls hl
  obtain ⟨C0, hr, hlocks, hN, hK, hP, hD, hA⟩ := hbody
  have C0 : CallFix p m c cX0_begin 2 s ([.ref d1, .int (nI M)] : List Value).toArray wsX0_begin RX0 := C0
  obtain ⟨hx, hb, hml, hown, hts⟩ := id C0
  have hS : va_S A s.heap s.heap [] := va_S.rf
  have hl : lv_has ls 2 [(0, .ref d1), (1, .int (nI M))] := hl
  refine lv_aload_n hx hb dX0_begin_0 rfl (lv_at hl 0 rfl) ?_
  refine lv_iconst (v := nI 0) hx hb dX0_begin_1 (by decide) ?_
  refine lv_iload_n hx hb dX0_begin_2 rfl (lv_at hl 1 rfl) ?_
  refine lv_bipush (v := nI 6) hx hb dX0_begin_3 (by decide) ?_
  refine va_mmin hx hb (by rw [hml]; exact hl.1.symm) hown (hts _ (show Cond.methodLink RX0 26 Lib.Math.min.name ∈ wsX0_begin by decide +kernel)) (hts _ (show Cond.static Lib.Math.min.name ∈ wsX0_begin by decide +kernel)) (hts _ (show Cond.initialized "java/lang/Math" ∈ wsX0_begin by decide +kernel)) (hts _ (show Cond.code Lib.Math.min.name Lib.Math.min.code 2 (some .int) ∈ wsX0_begin by decide +kernel)) (Nat.le_of_ble_eq_true rfl) (Nat.le_of_ble_eq_true rfl) (Nat.zero_le _) (Nat.zero_le _) dX0_begin_5 ?_
  refine gx_i (y := nI M) (if_neg (nI_nlt (by omega) (by omega))) ?_
  refine va_mmax hx hb (by rw [hml]; exact hl.1.symm) hown (hts _ (show Cond.methodLink RX0 32 Lib.Math.max.name ∈ wsX0_begin by decide +kernel)) (hts _ (show Cond.static Lib.Math.max.name ∈ wsX0_begin by decide +kernel)) (hts _ (show Cond.initialized "java/lang/Math" ∈ wsX0_begin by decide +kernel)) (hts _ (show Cond.code Lib.Math.max.name Lib.Math.max.code 2 (some .int) ∈ wsX0_begin by decide +kernel)) (Nat.le_of_ble_eq_true rfl) (Nat.le_of_ble_eq_true rfl) (Nat.zero_le _) (Nat.zero_le _) dX0_begin_8 ?_
  refine gx_i (y := nI M) (sp_max0 (by omega)) ?_
  refine va_put (D := D) (ci := 0) (v := .int (nI M)) (ty := .int) (C := RX0) (T := TX0) (N := 4) hx hb hts iw_X0_begin_X0 tyX0 tyX0_ok nmX0 hown hK hP hD hS 0 rfl rfl 1 (by decide) (hts _ kw_X0_begin_15) (fun _ h9 => h9) rfl (by decide +kernel) rfl rfl (Nat.le_of_ble_eq_true rfl) dX0_begin_11 (fun H locs hP hD hS => ?_)
  have hP : va_P D vwCl [(d1, .inr (0, [.ref k1, .int (nI M), .int (nI t), .long pv]))] H := hP
  have hD : va_D A [(d1, .inr (0, [.ref k1, .int (nI M), .int (nI t), .long pv]))] := hD
  refine lv_aload_n hx hb dX0_begin_14 rfl (lv_at hl 0 rfl) ?_
  refine lv_iconst (v := nI 0) hx hb dX0_begin_15 (by decide) ?_
  refine va_put (D := D) (ci := 0) (v := .int (nI 0)) (ty := .int) (C := RX0) (T := TX0) (N := 4) hx hb hts iw_X0_begin_X0 tyX0 tyX0_ok nmX0 hown hK hP hD hS 0 rfl rfl 2 (by decide) (hts _ kw_X0_begin_19) (fun _ h9 => h9) rfl (by decide +kernel) rfl rfl (Nat.le_of_ble_eq_true rfl) dX0_begin_16 (fun H locs hP hD hS => ?_)
  have hP : va_P D vwCl [(d1, .inr (0, [.ref k1, .int (nI M), .int (nI 0), .long pv]))] H := hP
  have hD : va_D A [(d1, .inr (0, [.ref k1, .int (nI M), .int (nI 0), .long pv]))] := hD
  refine lv_aload_n hx hb dX0_begin_19 rfl (lv_at hl 0 rfl) ?_
  refine lv_lconst (v := 1) hx hb dX0_begin_20 (by decide) ?_
  refine va_put (D := D) (ci := 0) (v := .long 1) (ty := .long) (C := RX0) (T := TX0) (N := 4) hx hb hts iw_X0_begin_X0 tyX0 tyX0_ok nmX0 hown hK hP hD hS 0 rfl rfl 3 (by decide) (hts _ kw_X0_begin_22) (fun _ h9 => h9) rfl (by decide +kernel) rfl rfl (Nat.le_of_ble_eq_true rfl) dX0_begin_21 (fun H locs hP hD hS => ?_)
  have hP : va_P D vwCl [(d1, .inr (0, [.ref k1, .int (nI M), .int (nI 0), .long 1]))] H := hP
  have hD : va_D A [(d1, .inr (0, [.ref k1, .int (nI M), .int (nI 0), .long 1]))] := hD
  exact gx_retv hx hb hr hlocks () (trivial) hK (hP.sub [0] rfl) (hD.sub [0] (by decide) rfl) hS dX0_begin_24
theorem iw_X0_addColumn_X0 : ∀ w ∈ wsX00, w ∈ wsX0_addColumn := by decide +kernel
theorem kw_X0_addColumn_9 : Cond.fieldLink RX0 9 "FluxModes$Reduction" "cells" "[J" ∈ wsX0_addColumn := by decide +kernel
theorem kw_X0_addColumn_15 : Cond.fieldLink RX0 15 "FluxModes$Reduction" "rows" "I" ∈ wsX0_addColumn := by decide +kernel
theorem kw_X0_addColumn_19 : Cond.fieldLink RX0 19 "FluxModes$Reduction" "columns" "I" ∈ wsX0_addColumn := by decide +kernel
abbrev rmX0_addColumn : Room := { frames := 0, cells := 0, slots := 0, locals := 0 }
set_option maxHeartbeats 4000000 in
set_option maxRecDepth 100000 in
theorem lpX0_addColumn {p : Program} {l : Launch} {e : Env} {s : State} {m : MethodId} {args : Array Value} {below : List Frame} {meth : Method} {c : Code} {Q : State → Prop} {D : va_G} {A : Nat → Prop} {H0 : Heap} (C0 : CallFix p m c cX0_addColumn 4 s args wsX0_addColumn RX0) (hN : gx_N s) (hA : ∀ q : Nat, H0.size ≤ q → A q) {d1 k1 e1 w t j : Nat} {pv : Int64} {cK cE : ClassId} {E : Nat → Int32} {K0 : Nat → Int64} (hw6 : w ≤ 6) (ht : t < 8) (hj : j < 8) (hK : va_K D vwCl [(cK, .long), (cE, .int)] s) (kk : ∀ (K : Nat → Int64) (H : Heap) (locs : List Loc) (ls : Array Slot), (ac_I K0 K E t j w) → va_P D vwCl [(d1, .inr (0, [.ref k1, .int (nI w), .int (nI t), .long pv])), (k1, .inl (cK, 48, .inr (.inl K))), (e1, .inl (cE, 48, .inl E))] H → va_D A [(d1, .inr (0, [.ref k1, .int (nI w), .int (nI t), .long pv])), (k1, .inl (cK, 48, .inr (.inl K))), (e1, .inl (cE, 48, .inl E))] → va_S A H0 H locs → lv_has ls 4 [(0, .ref d1), (1, .ref e1), (2, .int (nI j)), (3, .int (nI w))] → W p l e rmX0_addColumn s m args below meth c H locs 0 0 Q (F0 m 49 ls [])) : ∀ (n_ : Nat) (i : Nat) (K : Nat → Int64) (H : Heap) (locs : List Loc) (ls : Array Slot), (i ≤ w ∧ w < i + n_) → (ac_I K0 K E t j i) → va_P D vwCl [(d1, .inr (0, [.ref k1, .int (nI w), .int (nI t), .long pv])), (k1, .inl (cK, 48, .inr (.inl K))), (e1, .inl (cE, 48, .inl E))] H → va_D A [(d1, .inr (0, [.ref k1, .int (nI w), .int (nI t), .long pv])), (k1, .inl (cK, 48, .inr (.inl K))), (e1, .inl (cE, 48, .inl E))] → va_S A H0 H locs → lv_has ls 4 [(0, .ref d1), (1, .ref e1), (2, .int (nI j)), (3, .int (nI i))] → W p l e rmX0_addColumn s m args below meth c H locs 0 0 Q (F0 m 12 ls []) := by
  obtain ⟨hx, hb, hml, hown, hts⟩ := id C0
  intro n_
  induction n_ with
  | zero =>
    intro i K H locs ls hm
    exact absurd hm (by omega)
  | succ n_ ih =>
    intro i K H locs ls hm hI hP hD hS hl
    refine lv_iload_n hx hb dX0_addColumn_12 rfl (lv_at hl 3 rfl) ?_
    refine lv_aload_n hx hb dX0_addColumn_13 rfl (lv_at hl 0 rfl) ?_
    refine va_get (D := D) (ci := 0) (v := .int (nI w)) (C := RX0) (T := TX0) (N := 4) hx hb hts iw_X0_addColumn_X0 hown hK hP 0 rfl rfl 1 (by decide) (hts _ kw_X0_addColumn_15) (fun _ h9 => h9) rfl dX0_addColumn_14 ?_
    refine gx_ge (tgt := 49) hx hb dX0_addColumn_17 (by decide) (by omega) (by omega) (fun c_17 => ?_) (fun c_17 => ?_)
    · have hiw : i = w := by omega
      subst hiw
      exact kk _ _ _ _ hI (hP.sub [0, 1, 2] rfl) (hD.sub [0, 1, 2] (by decide) rfl) hS (lv_sub hl [0, 1, 2, 3] rfl)
    · refine lv_aload_n hx hb dX0_addColumn_20 rfl (lv_at hl 0 rfl) ?_
      refine va_get (D := D) (ci := 0) (v := .ref k1) (C := RX0) (T := TX0) (N := 4) hx hb hts iw_X0_addColumn_X0 hown hK hP 0 rfl rfl 0 (by decide) (hts _ kw_X0_addColumn_9) (fun _ h9 => h9) rfl dX0_addColumn_21 ?_
      refine lv_iload_n hx hb dX0_addColumn_24 rfl (lv_at hl 3 rfl) ?_
      refine lv_bipush (v := nI 8) hx hb dX0_addColumn_25 (by decide) ?_
      refine lv_imul hx hb dX0_addColumn_27 ?_
      refine gx_i (y := nI (i * 8)) (pk_mul i 8) ?_
      refine lv_aload_n hx hb dX0_addColumn_28 rfl (lv_at hl 0 rfl) ?_
      refine va_get (D := D) (ci := 0) (v := .int (nI t)) (C := RX0) (T := TX0) (N := 4) hx hb hts iw_X0_addColumn_X0 hown hK hP 0 rfl rfl 2 (by decide) (hts _ kw_X0_addColumn_19) (fun _ h9 => h9) rfl dX0_addColumn_29 ?_
      refine lv_iadd hx hb dX0_addColumn_32 ?_
      refine gx_i (y := nI (i * 8 + t)) (nI_add (i * 8) t) ?_
      refine lv_aload_n hx hb dX0_addColumn_33 rfl (lv_at hl 1 rfl) ?_
      refine lv_iload_n hx hb dX0_addColumn_34 rfl (lv_at hl 3 rfl) ?_
      refine lv_bipush (v := nI 8) hx hb dX0_addColumn_35 (by decide) ?_
      refine lv_imul hx hb dX0_addColumn_37 ?_
      refine gx_i (y := nI (i * 8)) (pk_mul i 8) ?_
      refine lv_iload_n hx hb dX0_addColumn_38 rfl (lv_at hl 2 rfl) ?_
      refine lv_iadd hx hb dX0_addColumn_39 ?_
      refine gx_i (y := nI (i * 8 + j)) (nI_add (i * 8) j) ?_
      refine gx_iald (q := i * 8 + j) hx hb hK hP 2 1 rfl rfl (rfl) (by omega) (by decide) dX0_addColumn_40 ?_
      refine lv_i2l (v := (E (i * 8 + j)).toInt64) hx hb dX0_addColumn_41 rfl ?_
      refine gx_last (q := i * 8 + t) hx hb hK hP hD hS 1 0 rfl rfl (rfl) (by omega) (by decide) dX0_addColumn_42 (fun H locs hP hD hS => ?_)
      have hP : va_P D vwCl [(d1, .inr (0, [.ref k1, .int (nI w), .int (nI t), .long pv])), (k1, .inl (cK, 48, .inr (.inl (vp_updL K (i * 8 + t) ((E (i * 8 + j)).toInt64))))), (e1, .inl (cE, 48, .inl E))] H := hP
      have hD : va_D A [(d1, .inr (0, [.ref k1, .int (nI w), .int (nI t), .long pv])), (k1, .inl (cK, 48, .inr (.inl (vp_updL K (i * 8 + t) ((E (i * 8 + j)).toInt64))))), (e1, .inl (cE, 48, .inl E))] := hD
      refine lv_iinc (v := nI (i + 1)) (lv' := [(3, .int (nI (i + 1))), (0, .ref d1), (1, .ref e1), (2, .int (nI j))]) hx hb dX0_addColumn_43 hl (k := 3) rfl ((nI_succ i).symm) (by decide) rfl (fun ls hl => ?_)
      refine lv_goto (tgt := 12) hx hb dX0_addColumn_46 (by decide) ?_
      exact ih (i + 1) _ _ _ _ (by omega) (ac_s ht hI) (hP.sub [0, 1, 2] rfl) (hD.sub [0, 1, 2] (by decide) rfl) hS (lv_sub hl [1, 2, 3, 0] rfl)
set_option maxHeartbeats 4000000 in
set_option maxRecDepth 100000 in
theorem kX0_addColumn (l : Launch) (D : va_G) (d1 k1 e1 w t j : Nat) (pv : Int64) (cK cE : ClassId) (E : Nat → Int32) (K : Nat → Int64) (hw6 : w ≤ 6) (ht : t < 8) (hj : j < 8) : gx_Mv l D yX0_addColumn wsX0_addColumn rmX0_addColumn [.ref d1, .ref e1, .int (nI j)] [(cK, .long), (cE, .int)] [(d1, .inr (0, [.ref k1, .int (nI w), .int (nI t), .long pv])), (k1, .inl (cK, 48, .inr (.inl K))), (e1, .inl (cE, 48, .inl E))] (S := Nat → Int64) (fun (K1 : Nat → Int64) => ac_I K K1 E t j w) (fun (K1 : Nat → Int64) => [(d1, .inr (0, [.ref k1, .int (nI w), .int (nI (t + 1)), .long pv])), (k1, .inl (cK, 48, .inr (.inl K1))), (e1, .inl (cE, 48, .inl E))]) := by
  intro sz
  refine gx_start (cc := cX0_addColumn) (maxL := 4) (ret := none) (Qc := fun A => va_Qv (fun (K1 : Nat → Int64) => ac_I K K1 E t j w) (gx_B D [(cK, .long), (cE, .int)] A (fun (K1 : Nat → Int64) => [(d1, .inr (0, [.ref k1, .int (nI w), .int (nI (t + 1)), .long pv])), (k1, .inl (cK, 48, .inr (.inl K1))), (e1, .inl (cE, 48, .inl E))])) A) (by decide) rfl (Nat.le_of_ble_eq_true rfl) ?_ sz
  intro p e s m below meth c A hbody ls hl
  obtain ⟨C0, hr, hlocks, hN, hK, hP, hD, hA⟩ := hbody
  have C0 : CallFix p m c cX0_addColumn 4 s ([.ref d1, .ref e1, .int (nI j)] : List Value).toArray wsX0_addColumn RX0 := C0
  obtain ⟨hx, hb, hml, hown, hts⟩ := id C0
  have hS : va_S A s.heap s.heap [] := va_S.rf
  have hl : lv_has ls 4 [(0, .ref d1), (1, .ref e1), (2, .int (nI j))] := hl
  refine lv_aload_n hx hb dX0_addColumn_0 rfl (lv_at hl 0 rfl) ?_
  refine va_get (D := D) (ci := 0) (v := .int (nI t)) (C := RX0) (T := TX0) (N := 4) hx hb hts iw_X0_addColumn_X0 hown hK hP 0 rfl rfl 2 (by decide) (hts _ kw_X0_addColumn_19) (fun _ h9 => h9) rfl dX0_addColumn_1 ?_
  refine lv_bipush (v := nI 8) hx hb dX0_addColumn_4 (by decide) ?_
  refine gx_lt (tgt := 10) hx hb dX0_addColumn_6 (by decide) (by omega) (by omega) (fun c_6 => ?_) (fun c_6 => ?_)
  · refine lv_iconst (v := nI 0) hx hb dX0_addColumn_10 (by decide) ?_
    refine lv_istore_n (lv' := [(3, .int (nI 0)), (0, .ref d1), (1, .ref e1), (2, .int (nI j))]) hx hb dX0_addColumn_11 rfl hl (by decide) rfl (fun ls hl => ?_)
    refine lpX0_addColumn C0 hN hA hw6 ht hj hK (fun K1 H locs ls hI hP hD hS hl => ?_) (w + 1) 0 K _ _ _ (by omega) (ac_0 K E t j) (hP.sub [0, 1, 2] rfl) (hD.sub [0, 1, 2] (by decide) rfl) hS (lv_sub hl [1, 2, 3, 0] rfl)
    refine lv_aload_n hx hb dX0_addColumn_49 rfl (lv_at hl 0 rfl) ?_
    refine lv_dup hx hb dX0_addColumn_50 rfl ?_
    refine va_get (D := D) (ci := 0) (v := .int (nI t)) (C := RX0) (T := TX0) (N := 4) hx hb hts iw_X0_addColumn_X0 hown hK hP 0 rfl rfl 2 (by decide) (hts _ kw_X0_addColumn_19) (fun _ h9 => h9) rfl dX0_addColumn_51 ?_
    refine lv_iconst (v := nI 1) hx hb dX0_addColumn_54 (by decide) ?_
    refine lv_iadd hx hb dX0_addColumn_55 ?_
    refine gx_i (y := nI (t + 1)) (nI_add t 1) ?_
    refine va_put (D := D) (ci := 0) (v := .int (nI (t + 1))) (ty := .int) (C := RX0) (T := TX0) (N := 4) hx hb hts iw_X0_addColumn_X0 tyX0 tyX0_ok nmX0 hown hK hP hD hS 0 rfl rfl 2 (by decide) (hts _ kw_X0_addColumn_19) (fun _ h9 => h9) rfl (by decide +kernel) rfl rfl (Nat.le_of_ble_eq_true rfl) dX0_addColumn_56 (fun H locs hP hD hS => ?_)
    have hP : va_P D vwCl [(d1, .inr (0, [.ref k1, .int (nI w), .int (nI (t + 1)), .long pv])), (k1, .inl (cK, 48, .inr (.inl K1))), (e1, .inl (cE, 48, .inl E))] H := hP
    have hD : va_D A [(d1, .inr (0, [.ref k1, .int (nI w), .int (nI (t + 1)), .long pv])), (k1, .inl (cK, 48, .inr (.inl K1))), (e1, .inl (cE, 48, .inl E))] := hD
    exact gx_retv hx hb hr hlocks K1 (hI) hK (hP.sub [0, 1, 2] rfl) (hD.sub [0, 1, 2] (by decide) rfl) hS dX0_addColumn_59
  · exact absurd c_6 (by omega)
abbrev rmX0_pivotRow : Room := { frames := 0, cells := 0, slots := 0, locals := 0 }
theorem iw_X0_pivotRow_X0 : ∀ w ∈ wsX00, w ∈ wsX0_pivotRow := by decide +kernel
theorem kw_X0_pivotRow_9 : Cond.fieldLink RX0 9 "FluxModes$Reduction" "cells" "[J" ∈ wsX0_pivotRow := by decide +kernel
theorem kw_X0_pivotRow_15 : Cond.fieldLink RX0 15 "FluxModes$Reduction" "rows" "I" ∈ wsX0_pivotRow := by decide +kernel
set_option maxHeartbeats 4000000 in
set_option maxRecDepth 100000 in
theorem lpX0_pivotRow {p : Program} {l : Launch} {e : Env} {s : State} {m : MethodId} {args : Array Value} {below : List Frame} {meth : Method} {c : Code} {Q : State → Prop} {D : va_G} {A : Nat → Prop} {H0 : Heap} (C0 : CallFix p m c cX0_pivotRow 3 s args wsX0_pivotRow RX0) (hN : gx_N s) (hA : ∀ q : Nat, H0.size ≤ q → A q) {d1 k1 w t col : Nat} {pv : Int64} {cK : ClassId} {K : Nat → Int64} (hw6 : w ≤ 6) (hc : col < 8) (hK : va_K D vwCl [(cK, .long)] s) (kf : ∀ (i : Nat) (H : Heap) (locs : List Loc) (ls : Array Slot), (col ≤ i) → (i < w) → (K (i * 8 + col) ≠ 0) → (∀ j, col ≤ j → j < i → K (j * 8 + col) = 0) → va_P D vwCl [(d1, .inr (0, [.ref k1, .int (nI w), .int (nI t), .long pv])), (k1, .inl (cK, 48, .inr (.inl K)))] H → va_D A [(d1, .inr (0, [.ref k1, .int (nI w), .int (nI t), .long pv])), (k1, .inl (cK, 48, .inr (.inl K)))] → va_S A H0 H locs → lv_has ls 3 [(0, .ref d1), (1, .int (nI col)), (2, .int (nI i))] → W p l e rmX0_pivotRow s m args below meth c H locs 0 0 Q (F0 m 27 ls [.int (nI i)])) (kn : ∀ (i : Nat) (H : Heap) (locs : List Loc) (ls : Array Slot), (∀ j, col ≤ j → j < w → K (j * 8 + col) = 0) → va_P D vwCl [(d1, .inr (0, [.ref k1, .int (nI w), .int (nI t), .long pv])), (k1, .inl (cK, 48, .inr (.inl K)))] H → va_D A [(d1, .inr (0, [.ref k1, .int (nI w), .int (nI t), .long pv])), (k1, .inl (cK, 48, .inr (.inl K)))] → va_S A H0 H locs → lv_has ls 3 [(0, .ref d1), (1, .int (nI col)), (2, .int (nI i))] → W p l e rmX0_pivotRow s m args below meth c H locs 0 0 Q (F0 m 34 ls [])) : ∀ (n_ : Nat) (i : Nat) (H : Heap) (locs : List Loc) (ls : Array Slot), (col ≤ i ∧ i ≤ w ∧ w < i + n_) → (∀ j, col ≤ j → j < i → K (j * 8 + col) = 0) → va_P D vwCl [(d1, .inr (0, [.ref k1, .int (nI w), .int (nI t), .long pv])), (k1, .inl (cK, 48, .inr (.inl K)))] H → va_D A [(d1, .inr (0, [.ref k1, .int (nI w), .int (nI t), .long pv])), (k1, .inl (cK, 48, .inr (.inl K)))] → va_S A H0 H locs → lv_has ls 3 [(0, .ref d1), (1, .int (nI col)), (2, .int (nI i))] → W p l e rmX0_pivotRow s m args below meth c H locs 0 0 Q (F0 m 2 ls []) := by
  obtain ⟨hx, hb, hml, hown, hts⟩ := id C0
  intro n_
  induction n_ with
  | zero =>
    intro i H locs ls hm
    exact absurd hm (by omega)
  | succ n_ ih =>
    intro i H locs ls hm hI hP hD hS hl
    refine lv_iload_n hx hb dX0_pivotRow_2 rfl (lv_at hl 2 rfl) ?_
    refine lv_aload_n hx hb dX0_pivotRow_3 rfl (lv_at hl 0 rfl) ?_
    refine va_get (D := D) (ci := 0) (v := .int (nI w)) (C := RX0) (T := TX0) (N := 4) hx hb hts iw_X0_pivotRow_X0 hown hK hP 0 rfl rfl 1 (by decide) (hts _ kw_X0_pivotRow_15) (fun _ h9 => h9) rfl dX0_pivotRow_4 ?_
    refine gx_ge (tgt := 34) hx hb dX0_pivotRow_7 (by decide) (by omega) (by omega) (fun c_7 => ?_) (fun c_7 => ?_)
    · exact kn i _ _ _ (fun j h1 h2 => hI j h1 (by omega)) (hP.sub [0, 1] rfl) (hD.sub [0, 1] (by decide) rfl) hS (lv_sub hl [0, 1, 2] rfl)
    · refine lv_aload_n hx hb dX0_pivotRow_10 rfl (lv_at hl 0 rfl) ?_
      refine va_get (D := D) (ci := 0) (v := .ref k1) (C := RX0) (T := TX0) (N := 4) hx hb hts iw_X0_pivotRow_X0 hown hK hP 0 rfl rfl 0 (by decide) (hts _ kw_X0_pivotRow_9) (fun _ h9 => h9) rfl dX0_pivotRow_11 ?_
      refine lv_iload_n hx hb dX0_pivotRow_14 rfl (lv_at hl 2 rfl) ?_
      refine lv_bipush (v := nI 8) hx hb dX0_pivotRow_15 (by decide) ?_
      refine lv_imul hx hb dX0_pivotRow_17 ?_
      refine gx_i (y := nI (i * 8)) (pk_mul i 8) ?_
      refine lv_iload_n hx hb dX0_pivotRow_18 rfl (lv_at hl 1 rfl) ?_
      refine lv_iadd hx hb dX0_pivotRow_19 ?_
      refine gx_i (y := nI (i * 8 + col)) (nI_add (i * 8) col) ?_
      refine gx_lald (q := i * 8 + col) hx hb hK hP 1 0 rfl rfl (rfl) (by omega) (by decide) dX0_pivotRow_20 ?_
      refine lv_lconst (v := 0) hx hb dX0_pivotRow_21 (by decide) ?_
      refine W.lcmp hx hb dX0_pivotRow_22 ?_
      refine lv_if_eq (tgt := 28) hx hb dX0_pivotRow_23 (by decide) (fun c_23 => ?_) (fun c_23 => ?_)
      · refine lv_iinc (v := nI (i + 1)) (lv' := [(2, .int (nI (i + 1))), (0, .ref d1), (1, .int (nI col))]) hx hb dX0_pivotRow_28 hl (k := 2) rfl ((nI_succ i).symm) (by decide) rfl (fun ls hl => ?_)
        refine lv_goto (tgt := 2) hx hb dX0_pivotRow_31 (by decide) ?_
        have hz : K (i * 8 + col) = 0 := (gx_cmp0 _ _).mp c_23
        exact ih (i + 1) _ _ _ (by omega) (pr_s hI hz) (hP.sub [0, 1] rfl) (hD.sub [0, 1] (by decide) rfl) hS (lv_sub hl [1, 2, 0] rfl)
      · refine lv_iload_n hx hb dX0_pivotRow_26 rfl (lv_at hl 2 rfl) ?_
        have hz : K (i * 8 + col) ≠ 0 := fun q => c_23 ((gx_cmp0 _ _).mpr q)
        exact kf i _ _ _ hm.1 (by omega) hz hI (hP.sub [0, 1] rfl) (hD.sub [0, 1] (by decide) rfl) hS (lv_sub hl [0, 1, 2] rfl)
set_option maxHeartbeats 4000000 in
set_option maxRecDepth 100000 in
theorem kX0_pivotRow (l : Launch) (D : va_G) (d1 k1 w t col : Nat) (pv : Int64) (cK : ClassId) (K : Nat → Int64) (hw6 : w ≤ 6) (hc : col < 8) (hcw : col ≤ w) : gx_Mi l D yX0_pivotRow wsX0_pivotRow rmX0_pivotRow [.ref d1, .int (nI col)] [(cK, .long)] [(d1, .inr (0, [.ref k1, .int (nI w), .int (nI t), .long pv])), (k1, .inl (cK, 48, .inr (.inl K)))] (S := Unit) (fun r (_ : Unit) => (∃ i, r = nI i ∧ col ≤ i ∧ i < w ∧ K (i * 8 + col) ≠ 0 ∧ ∀ j, col ≤ j → j < i → K (j * 8 + col) = 0) ∨ (r = (-1) ∧ ∀ j, col ≤ j → j < w → K (j * 8 + col) = 0)) (fun (_ : Unit) => [(d1, .inr (0, [.ref k1, .int (nI w), .int (nI t), .long pv])), (k1, .inl (cK, 48, .inr (.inl K)))]) := by
  intro sz
  refine gx_start (cc := cX0_pivotRow) (maxL := 3) (ret := (some .int)) (Qc := fun A => va_Qi (fun r (_ : Unit) => (∃ i, r = nI i ∧ col ≤ i ∧ i < w ∧ K (i * 8 + col) ≠ 0 ∧ ∀ j, col ≤ j → j < i → K (j * 8 + col) = 0) ∨ (r = (-1) ∧ ∀ j, col ≤ j → j < w → K (j * 8 + col) = 0)) (gx_B D [(cK, .long)] A (fun (_ : Unit) => [(d1, .inr (0, [.ref k1, .int (nI w), .int (nI t), .long pv])), (k1, .inl (cK, 48, .inr (.inl K)))])) A) (by decide) rfl (Nat.le_of_ble_eq_true rfl) ?_ sz
  intro p e s m below meth c A hbody ls hl
  obtain ⟨C0, hr, hlocks, hN, hK, hP, hD, hA⟩ := hbody
  have C0 : CallFix p m c cX0_pivotRow 3 s ([.ref d1, .int (nI col)] : List Value).toArray wsX0_pivotRow RX0 := C0
  obtain ⟨hx, hb, hml, hown, hts⟩ := id C0
  have hS : va_S A s.heap s.heap [] := va_S.rf
  have hl : lv_has ls 3 [(0, .ref d1), (1, .int (nI col))] := hl
  refine lv_iload_n hx hb dX0_pivotRow_0 rfl (lv_at hl 1 rfl) ?_
  refine lv_istore_n (lv' := [(2, .int (nI col)), (0, .ref d1), (1, .int (nI col))]) hx hb dX0_pivotRow_1 rfl hl (by decide) rfl (fun ls hl => ?_)
  refine lpX0_pivotRow C0 hN hA hw6 hc hK (fun i H locs ls h1 h2 h3 h4 hP hD hS hl => ?_) (fun i H locs ls h1 hP hD hS hl => ?_) (w + 1) col _ _ _ (by omega) (fun j h1 h2 => absurd h1 (by omega)) (hP.sub [0, 1] rfl) (hD.sub [0, 1] (by decide) rfl) hS (lv_sub hl [1, 2, 0] rfl)
  · exact gx_reti hx hb hr hlocks () (Or.inl ⟨i, rfl, h1, h2, h3, h4⟩) hK (hP.sub [0, 1] rfl) (hD.sub [0, 1] (by decide) rfl) hS dX0_pivotRow_27
  · refine lv_iconst (v := (-1)) hx hb dX0_pivotRow_34 (by decide) ?_
    exact gx_reti hx hb hr hlocks () (Or.inr ⟨rfl, h1⟩) hK (hP.sub [0, 1] rfl) (hD.sub [0, 1] (by decide) rfl) hS dX0_pivotRow_35
abbrev rmX0_swapRows : Room := { frames := 0, cells := 0, slots := 0, locals := 0 }
theorem iw_X0_swapRows_X0 : ∀ w ∈ wsX00, w ∈ wsX0_swapRows := by decide +kernel
theorem kw_X0_swapRows_9 : Cond.fieldLink RX0 9 "FluxModes$Reduction" "cells" "[J" ∈ wsX0_swapRows := by decide +kernel
theorem kw_X0_swapRows_19 : Cond.fieldLink RX0 19 "FluxModes$Reduction" "columns" "I" ∈ wsX0_swapRows := by decide +kernel
set_option maxHeartbeats 4000000 in
set_option maxRecDepth 100000 in
theorem lpX0_swapRows {p : Program} {l : Launch} {e : Env} {s : State} {m : MethodId} {args : Array Value} {below : List Frame} {meth : Method} {c : Code} {Q : State → Prop} {D : va_G} {A : Nat → Prop} {H0 : Heap} (C0 : CallFix p m c cX0_swapRows 6 s args wsX0_swapRows RX0) (hN : gx_N s) (hA : ∀ q : Nat, H0.size ≤ q → A q) {d1 k1 w t a b : Nat} {pv : Int64} {cK : ClassId} {K0 : Nat → Int64} (ht : t ≤ 8) (ha6 : a < 6) (hb6 : b < 6) (hK : va_K D vwCl [(cK, .long)] s) (kk : ∀ (K : Nat → Int64) (H : Heap) (locs : List Loc) (ls : Array Slot), (sw_I K0 K a b t) → va_P D vwCl [(d1, .inr (0, [.ref k1, .int (nI w), .int (nI t), .long pv])), (k1, .inl (cK, 48, .inr (.inl K)))] H → va_D A [(d1, .inr (0, [.ref k1, .int (nI w), .int (nI t), .long pv])), (k1, .inl (cK, 48, .inr (.inl K)))] → va_S A H0 H locs → lv_has ls 6 [(0, .ref d1), (1, .int (nI a)), (2, .int (nI b)), (3, .int (nI t))] → W p l e rmX0_swapRows s m args below meth c H locs 0 0 Q (F0 m 64 ls [])) : ∀ (n_ : Nat) (i : Nat) (K : Nat → Int64) (H : Heap) (locs : List Loc) (ls : Array Slot), (i ≤ t ∧ t < i + n_) → (sw_I K0 K a b i) → va_P D vwCl [(d1, .inr (0, [.ref k1, .int (nI w), .int (nI t), .long pv])), (k1, .inl (cK, 48, .inr (.inl K)))] H → va_D A [(d1, .inr (0, [.ref k1, .int (nI w), .int (nI t), .long pv])), (k1, .inl (cK, 48, .inr (.inl K)))] → va_S A H0 H locs → lv_has ls 6 [(0, .ref d1), (1, .int (nI a)), (2, .int (nI b)), (3, .int (nI i))] → W p l e rmX0_swapRows s m args below meth c H locs 0 0 Q (F0 m 2 ls []) := by
  obtain ⟨hx, hb, hml, hown, hts⟩ := id C0
  intro n_
  induction n_ with
  | zero =>
    intro i K H locs ls hm
    exact absurd hm (by omega)
  | succ n_ ih =>
    intro i K H locs ls hm hI hP hD hS hl
    refine lv_iload_n hx hb dX0_swapRows_2 rfl (lv_at hl 3 rfl) ?_
    refine lv_aload_n hx hb dX0_swapRows_3 rfl (lv_at hl 0 rfl) ?_
    refine va_get (D := D) (ci := 0) (v := .int (nI t)) (C := RX0) (T := TX0) (N := 4) hx hb hts iw_X0_swapRows_X0 hown hK hP 0 rfl rfl 2 (by decide) (hts _ kw_X0_swapRows_19) (fun _ h9 => h9) rfl dX0_swapRows_4 ?_
    refine gx_ge (tgt := 64) hx hb dX0_swapRows_7 (by decide) (by omega) (by omega) (fun c_7 => ?_) (fun c_7 => ?_)
    · have hit : i = t := by omega
      subst hit
      exact kk _ _ _ _ hI (hP.sub [0, 1] rfl) (hD.sub [0, 1] (by decide) rfl) hS (lv_sub hl [0, 1, 2, 3] rfl)
    · refine lv_aload_n hx hb dX0_swapRows_10 rfl (lv_at hl 0 rfl) ?_
      refine va_get (D := D) (ci := 0) (v := .ref k1) (C := RX0) (T := TX0) (N := 4) hx hb hts iw_X0_swapRows_X0 hown hK hP 0 rfl rfl 0 (by decide) (hts _ kw_X0_swapRows_9) (fun _ h9 => h9) rfl dX0_swapRows_11 ?_
      refine lv_iload_n hx hb dX0_swapRows_14 rfl (lv_at hl 1 rfl) ?_
      refine lv_bipush (v := nI 8) hx hb dX0_swapRows_15 (by decide) ?_
      refine lv_imul hx hb dX0_swapRows_17 ?_
      refine gx_i (y := nI (a * 8)) (pk_mul a 8) ?_
      refine lv_iload_n hx hb dX0_swapRows_18 rfl (lv_at hl 3 rfl) ?_
      refine lv_iadd hx hb dX0_swapRows_19 ?_
      refine gx_i (y := nI (a * 8 + i)) (nI_add (a * 8) i) ?_
      refine gx_lald (q := a * 8 + i) hx hb hK hP 1 0 rfl rfl (rfl) (by omega) (by decide) dX0_swapRows_20 ?_
      refine lv_lstore (lv' := [(4, .long (K (a * 8 + i))), (0, .ref d1), (1, .int (nI a)), (2, .int (nI b)), (3, .int (nI i))]) hx hb dX0_swapRows_21 hl (by decide) rfl (fun ls hl => ?_)
      refine lv_aload_n hx hb dX0_swapRows_23 rfl (lv_at hl 1 rfl) ?_
      refine va_get (D := D) (ci := 0) (v := .ref k1) (C := RX0) (T := TX0) (N := 4) hx hb hts iw_X0_swapRows_X0 hown hK hP 0 rfl rfl 0 (by decide) (hts _ kw_X0_swapRows_9) (fun _ h9 => h9) rfl dX0_swapRows_24 ?_
      refine lv_iload_n hx hb dX0_swapRows_27 rfl (lv_at hl 2 rfl) ?_
      refine lv_bipush (v := nI 8) hx hb dX0_swapRows_28 (by decide) ?_
      refine lv_imul hx hb dX0_swapRows_30 ?_
      refine gx_i (y := nI (a * 8)) (pk_mul a 8) ?_
      refine lv_iload_n hx hb dX0_swapRows_31 rfl (lv_at hl 4 rfl) ?_
      refine lv_iadd hx hb dX0_swapRows_32 ?_
      refine gx_i (y := nI (a * 8 + i)) (nI_add (a * 8) i) ?_
      refine lv_aload_n hx hb dX0_swapRows_33 rfl (lv_at hl 1 rfl) ?_
      refine va_get (D := D) (ci := 0) (v := .ref k1) (C := RX0) (T := TX0) (N := 4) hx hb hts iw_X0_swapRows_X0 hown hK hP 0 rfl rfl 0 (by decide) (hts _ kw_X0_swapRows_9) (fun _ h9 => h9) rfl dX0_swapRows_34 ?_
      refine lv_iload_n hx hb dX0_swapRows_37 rfl (lv_at hl 3 rfl) ?_
      refine lv_bipush (v := nI 8) hx hb dX0_swapRows_38 (by decide) ?_
      refine lv_imul hx hb dX0_swapRows_40 ?_
      refine gx_i (y := nI (b * 8)) (pk_mul b 8) ?_
      refine lv_iload_n hx hb dX0_swapRows_41 rfl (lv_at hl 4 rfl) ?_
      refine lv_iadd hx hb dX0_swapRows_42 ?_
      refine gx_i (y := nI (b * 8 + i)) (nI_add (b * 8) i) ?_
      refine gx_lald (q := b * 8 + i) hx hb hK hP 1 0 rfl rfl (rfl) (by omega) (by decide) dX0_swapRows_43 ?_
      refine gx_last (q := a * 8 + i) hx hb hK hP hD hS 1 0 rfl rfl (rfl) (by omega) (by decide) dX0_swapRows_44 (fun H locs hP hD hS => ?_)
      have hP : va_P D vwCl [(d1, .inr (0, [.ref k1, .int (nI w), .int (nI t), .long pv])), (k1, .inl (cK, 48, .inr (.inl (vp_updL K (a * 8 + i) (K (b * 8 + i))))))] H := hP
      have hD : va_D A [(d1, .inr (0, [.ref k1, .int (nI w), .int (nI t), .long pv])), (k1, .inl (cK, 48, .inr (.inl (vp_updL K (a * 8 + i) (K (b * 8 + i))))))] := hD
      refine lv_aload_n hx hb dX0_swapRows_45 rfl (lv_at hl 1 rfl) ?_
      refine va_get (D := D) (ci := 0) (v := .ref k1) (C := RX0) (T := TX0) (N := 4) hx hb hts iw_X0_swapRows_X0 hown hK hP 0 rfl rfl 0 (by decide) (hts _ kw_X0_swapRows_9) (fun _ h9 => h9) rfl dX0_swapRows_46 ?_
      refine lv_iload_n hx hb dX0_swapRows_49 rfl (lv_at hl 3 rfl) ?_
      refine lv_bipush (v := nI 8) hx hb dX0_swapRows_50 (by decide) ?_
      refine lv_imul hx hb dX0_swapRows_52 ?_
      refine gx_i (y := nI (b * 8)) (pk_mul b 8) ?_
      refine lv_iload_n hx hb dX0_swapRows_53 rfl (lv_at hl 4 rfl) ?_
      refine lv_iadd hx hb dX0_swapRows_54 ?_
      refine gx_i (y := nI (b * 8 + i)) (nI_add (b * 8) i) ?_
      refine lv_lload hx hb dX0_swapRows_55 (lv_at hl 0 rfl) ?_
      refine gx_last (q := b * 8 + i) hx hb hK hP hD hS 1 0 rfl rfl (rfl) (by omega) (by decide) dX0_swapRows_57 (fun H locs hP hD hS => ?_)
      have hP : va_P D vwCl [(d1, .inr (0, [.ref k1, .int (nI w), .int (nI t), .long pv])), (k1, .inl (cK, 48, .inr (.inl (vp_updL (vp_updL K (a * 8 + i) (K (b * 8 + i))) (b * 8 + i) (K (a * 8 + i))))))] H := hP
      have hD : va_D A [(d1, .inr (0, [.ref k1, .int (nI w), .int (nI t), .long pv])), (k1, .inl (cK, 48, .inr (.inl (vp_updL (vp_updL K (a * 8 + i) (K (b * 8 + i))) (b * 8 + i) (K (a * 8 + i))))))] := hD
      refine lv_iinc (v := nI (i + 1)) (lv' := [(3, .int (nI (i + 1))), (4, .long (K (a * 8 + i))), (0, .ref d1), (1, .int (nI a)), (2, .int (nI b))]) hx hb dX0_swapRows_58 hl (k := 4) rfl ((nI_succ i).symm) (by decide) rfl (fun ls hl => ?_)
      refine lv_goto (tgt := 2) hx hb dX0_swapRows_61 (by decide) ?_
      exact ih (i + 1) _ _ _ _ (by omega) (sw_s (by omega) hI) (hP.sub [0, 1] rfl) (hD.sub [0, 1] (by decide) rfl) hS (lv_sub hl [2, 3, 4, 0] rfl)
set_option maxHeartbeats 4000000 in
set_option maxRecDepth 100000 in
theorem kX0_swapRows (l : Launch) (D : va_G) (d1 k1 w t a b : Nat) (pv : Int64) (cK : ClassId) (K : Nat → Int64) (ht : t ≤ 8) (ha6 : a < 6) (hb6 : b < 6) : gx_Mv l D yX0_swapRows wsX0_swapRows rmX0_swapRows [.ref d1, .int (nI a), .int (nI b)] [(cK, .long)] [(d1, .inr (0, [.ref k1, .int (nI w), .int (nI t), .long pv])), (k1, .inl (cK, 48, .inr (.inl K)))] (S := Nat → Int64) (fun (K1 : Nat → Int64) => sw_I K K1 a b t) (fun (K1 : Nat → Int64) => [(d1, .inr (0, [.ref k1, .int (nI w), .int (nI t), .long pv])), (k1, .inl (cK, 48, .inr (.inl K1)))]) := by
  intro sz
  refine gx_start (cc := cX0_swapRows) (maxL := 6) (ret := none) (Qc := fun A => va_Qv (fun (K1 : Nat → Int64) => sw_I K K1 a b t) (gx_B D [(cK, .long)] A (fun (K1 : Nat → Int64) => [(d1, .inr (0, [.ref k1, .int (nI w), .int (nI t), .long pv])), (k1, .inl (cK, 48, .inr (.inl K1)))])) A) (by decide) rfl (Nat.le_of_ble_eq_true rfl) ?_ sz
  intro p e s m below meth c A hbody ls hl
  obtain ⟨C0, hr, hlocks, hN, hK, hP, hD, hA⟩ := hbody
  have C0 : CallFix p m c cX0_swapRows 6 s ([.ref d1, .int (nI a), .int (nI b)] : List Value).toArray wsX0_swapRows RX0 := C0
  obtain ⟨hx, hb, hml, hown, hts⟩ := id C0
  have hS : va_S A s.heap s.heap [] := va_S.rf
  have hl : lv_has ls 6 [(0, .ref d1), (1, .int (nI a)), (2, .int (nI b))] := hl
  refine lv_iconst (v := nI 0) hx hb dX0_swapRows_0 (by decide) ?_
  refine lv_istore_n (lv' := [(3, .int (nI 0)), (0, .ref d1), (1, .int (nI a)), (2, .int (nI b))]) hx hb dX0_swapRows_1 rfl hl (by decide) rfl (fun ls hl => ?_)
  refine lpX0_swapRows C0 hN hA ht ha6 hb6 hK (fun K1 H locs ls hI hP hD hS hl => ?_) (t + 1) 0 K _ _ _ (by omega) (sw_0 K a b) (hP.sub [0, 1] rfl) (hD.sub [0, 1] (by decide) rfl) hS (lv_sub hl [1, 2, 3, 0] rfl)
  exact gx_retv hx hb hr hlocks K1 (hI) hK (hP.sub [0, 1] rfl) (hD.sub [0, 1] (by decide) rfl) hS dX0_swapRows_64
abbrev rmX0_clearRow : Room := { frames := 1, cells := 0, slots := 0, locals := 23 }
theorem iw_X0_clearRow_X0 : ∀ w ∈ wsX00, w ∈ wsX0_clearRow := by decide +kernel
theorem kw_X0_clearRow_9 : Cond.fieldLink RX0 9 "FluxModes$Reduction" "cells" "[J" ∈ wsX0_clearRow := by decide +kernel
theorem kw_X0_clearRow_19 : Cond.fieldLink RX0 19 "FluxModes$Reduction" "columns" "I" ∈ wsX0_clearRow := by decide +kernel
theorem kw_X0_clearRow_22 : Cond.fieldLink RX0 22 "FluxModes$Reduction" "pivot" "J" ∈ wsX0_clearRow := by decide +kernel
set_option maxHeartbeats 4000000 in
set_option maxRecDepth 100000 in
theorem lpX0_clearRow {p : Program} {l : Launch} {e : Env} {s : State} {m : MethodId} {args : Array Value} {below : List Frame} {meth : Method} {c : Code} {Q : State → Prop} {D : va_G} {A : Nat → Prop} {H0 : Heap} (C0 : CallFix p m c cX0_clearRow 12 s args wsX0_clearRow RX0) (hN : gx_N s) (hA : ∀ q : Nat, H0.size ≤ q → A q) {d1 k1 w t row col : Nat} {pv nx fa : Int64} {cK : ClassId} {K0 : Nat → Int64} (ht : t ≤ 8) (hr6 : row < 6) (hc6 : col < 6) (hrc : row ≠ col) (hfa : fa = K0 (row * 8 + col)) (hK : va_K D vwCl [(cK, .long)] s) (kk : ∀ (K : Nat → Int64) (H : Heap) (locs : List Loc) (ls : Array Slot), (cr_I K0 K row col nx pv t) → va_P D vwCl [(d1, .inr (0, [.ref k1, .int (nI w), .int (nI t), .long pv])), (k1, .inl (cK, 48, .inr (.inl K)))] H → va_D A [(d1, .inr (0, [.ref k1, .int (nI w), .int (nI t), .long pv])), (k1, .inl (cK, 48, .inr (.inl K)))] → va_S A H0 H locs → lv_has ls 12 [(0, .ref d1), (1, .int (nI row)), (2, .int (nI col)), (3, .long nx), (5, .int (nI (row * 8))), (6, .int (nI (col * 8))), (7, .long fa), (9, .int (nI t))] → W p l e rmX0_clearRow s m args below meth c H locs 0 0 Q (F0 m 90 ls [])) : ∀ (n_ : Nat) (i : Nat) (K : Nat → Int64) (H : Heap) (locs : List Loc) (ls : Array Slot), (col < i ∧ i ≤ t ∧ t < i + n_) → (cr_I K0 K row col nx pv i) → va_P D vwCl [(d1, .inr (0, [.ref k1, .int (nI w), .int (nI t), .long pv])), (k1, .inl (cK, 48, .inr (.inl K)))] H → va_D A [(d1, .inr (0, [.ref k1, .int (nI w), .int (nI t), .long pv])), (k1, .inl (cK, 48, .inr (.inl K)))] → va_S A H0 H locs → lv_has ls 12 [(0, .ref d1), (1, .int (nI row)), (2, .int (nI col)), (3, .long nx), (5, .int (nI (row * 8))), (6, .int (nI (col * 8))), (7, .long fa), (9, .int (nI i))] → W p l e rmX0_clearRow s m args below meth c H locs 0 0 Q (F0 m 28 ls []) := by
  obtain ⟨hx, hb, hml, hown, hts⟩ := id C0
  intro n_
  induction n_ with
  | zero =>
    intro i K H locs ls hm
    exact absurd hm (by omega)
  | succ n_ ih =>
    intro i K H locs ls hm hI hP hD hS hl
    refine lv_iload hx hb dX0_clearRow_28 (lv_at hl 7 rfl) ?_
    refine lv_aload_n hx hb dX0_clearRow_30 rfl (lv_at hl 0 rfl) ?_
    refine va_get (D := D) (ci := 0) (v := .int (nI t)) (C := RX0) (T := TX0) (N := 4) hx hb hts iw_X0_clearRow_X0 hown hK hP 0 rfl rfl 2 (by decide) (hts _ kw_X0_clearRow_19) (fun _ h9 => h9) rfl dX0_clearRow_31 ?_
    refine gx_ge (tgt := 90) hx hb dX0_clearRow_34 (by decide) (by omega) (by omega) (fun c_34 => ?_) (fun c_34 => ?_)
    · have hit : i = t := by omega
      subst hit
      exact kk _ _ _ _ hI (hP.sub [0, 1] rfl) (hD.sub [0, 1] (by decide) rfl) hS (lv_sub hl [0, 1, 2, 3, 4, 5, 6, 7] rfl)
    · refine lv_lload_n hx hb dX0_clearRow_37 rfl (lv_at hl 3 rfl) ?_
      refine lv_aload_n hx hb dX0_clearRow_38 rfl (lv_at hl 0 rfl) ?_
      refine va_get (D := D) (ci := 0) (v := .ref k1) (C := RX0) (T := TX0) (N := 4) hx hb hts iw_X0_clearRow_X0 hown hK hP 0 rfl rfl 0 (by decide) (hts _ kw_X0_clearRow_9) (fun _ h9 => h9) rfl dX0_clearRow_39 ?_
      refine lv_iload hx hb dX0_clearRow_42 (lv_at hl 4 rfl) ?_
      refine lv_iload hx hb dX0_clearRow_44 (lv_at hl 7 rfl) ?_
      refine lv_iadd hx hb dX0_clearRow_46 ?_
      refine gx_i (y := nI (row * 8 + i)) (nI_add (row * 8) i) ?_
      refine gx_lald (q := row * 8 + i) hx hb hK hP 1 0 rfl rfl (rfl) (by omega) (by decide) dX0_clearRow_47 ?_
      refine lv_lmul hx hb dX0_clearRow_48 ?_
      refine lv_lload hx hb dX0_clearRow_49 (lv_at hl 6 rfl) ?_
      refine lv_aload_n hx hb dX0_clearRow_51 rfl (lv_at hl 0 rfl) ?_
      refine va_get (D := D) (ci := 0) (v := .ref k1) (C := RX0) (T := TX0) (N := 4) hx hb hts iw_X0_clearRow_X0 hown hK hP 0 rfl rfl 0 (by decide) (hts _ kw_X0_clearRow_9) (fun _ h9 => h9) rfl dX0_clearRow_52 ?_
      refine lv_iload hx hb dX0_clearRow_55 (lv_at hl 5 rfl) ?_
      refine lv_iload hx hb dX0_clearRow_57 (lv_at hl 7 rfl) ?_
      refine lv_iadd hx hb dX0_clearRow_59 ?_
      refine gx_i (y := nI (col * 8 + i)) (nI_add (col * 8) i) ?_
      refine gx_lald (q := col * 8 + i) hx hb hK hP 1 0 rfl rfl (rfl) (by omega) (by decide) dX0_clearRow_60 ?_
      refine lv_lmul hx hb dX0_clearRow_61 ?_
      refine lv_lsub hx hb dX0_clearRow_62 ?_
      refine lv_lstore (lv' := [(10, .long ((nx * (K (row * 8 + i))) - (fa * (K (col * 8 + i))))), (0, .ref d1), (1, .int (nI row)), (2, .int (nI col)), (3, .long nx), (5, .int (nI (row * 8))), (6, .int (nI (col * 8))), (7, .long fa), (9, .int (nI i))]) hx hb dX0_clearRow_63 hl (by decide) rfl (fun ls hl => ?_)
      refine lv_aload_n hx hb dX0_clearRow_65 rfl (lv_at hl 1 rfl) ?_
      refine va_get (D := D) (ci := 0) (v := .ref k1) (C := RX0) (T := TX0) (N := 4) hx hb hts iw_X0_clearRow_X0 hown hK hP 0 rfl rfl 0 (by decide) (hts _ kw_X0_clearRow_9) (fun _ h9 => h9) rfl dX0_clearRow_66 ?_
      refine lv_iload hx hb dX0_clearRow_69 (lv_at hl 5 rfl) ?_
      refine lv_iload hx hb dX0_clearRow_71 (lv_at hl 8 rfl) ?_
      refine lv_iadd hx hb dX0_clearRow_73 ?_
      refine gx_i (y := nI (row * 8 + i)) (nI_add (row * 8) i) ?_
      refine lv_lload hx hb dX0_clearRow_74 (lv_at hl 0 rfl) ?_
      refine lv_aload_n hx hb dX0_clearRow_76 rfl (lv_at hl 1 rfl) ?_
      refine va_get (D := D) (ci := 0) (v := .long pv) (C := RX0) (T := TX0) (N := 4) hx hb hts iw_X0_clearRow_X0 hown hK hP 0 rfl rfl 3 (by decide) (hts _ kw_X0_clearRow_22) (fun _ h9 => h9) rfl dX0_clearRow_77 ?_
      refine gx_jl (wr := [(d1, .inr (0, [.ref k1, .int (nI w), .int (nI t), .long pv])), (k1, .inl (cK, 48, .inr (.inl K)))]) (gx_rSN (As := [.long ((nx * (K (row * 8 + i))) - (fa * (K (col * 8 + i)))), .long pv]) (rest := [.int (nI (row * 8 + i)), .ref k1]) C0 (kX1_quotient l D ((nx * (K (row * 8 + i))) - (fa * (K (col * 8 + i)))) pv _) ⟨va_cnB 2 hts gX0_clearRow_X1_quotient_n51 rfl rfl rfl hN (hts _ (show Cond.initialized RX1 ∈ wsX0_clearRow by decide +kernel)) (by decide +kernel) ⟨Nat.le_of_ble_eq_true rfl, Nat.le_of_ble_eq_true rfl⟩, hts _ (show Cond.static yX1_quotient ∈ wsX0_clearRow by decide +kernel), trivial⟩ hN hK hP hD [] [] rfl rfl (by decide) rfl rfl hl.1 rfl (Nat.le_of_ble_eq_true rfl) dX0_clearRow_80 ⟨Nat.zero_le _, Nat.zero_le _⟩) hP hD hS hA [] [0, 1] rfl rfl (by decide) (by decide) (fun rq u H locs hw hP hD hS => ?_)
      have hw : rq = qt ((nx * (K (row * 8 + i))) - (fa * (K (col * 8 + i)))) (pv) := hw
      subst hw
      have hP : va_P D vwCl [(d1, .inr (0, [.ref k1, .int (nI w), .int (nI t), .long pv])), (k1, .inl (cK, 48, .inr (.inl K)))] H := hP
      have hD : va_D A [(d1, .inr (0, [.ref k1, .int (nI w), .int (nI t), .long pv])), (k1, .inl (cK, 48, .inr (.inl K)))] := hD
      refine gx_last (q := row * 8 + i) hx hb hK hP hD hS 1 0 rfl rfl (rfl) (by omega) (by decide) dX0_clearRow_83 (fun H locs hP hD hS => ?_)
      have hP : va_P D vwCl [(d1, .inr (0, [.ref k1, .int (nI w), .int (nI t), .long pv])), (k1, .inl (cK, 48, .inr (.inl (vp_updL K (row * 8 + i) (qt ((nx * (K (row * 8 + i))) - (fa * (K (col * 8 + i)))) (pv))))))] H := hP
      have hD : va_D A [(d1, .inr (0, [.ref k1, .int (nI w), .int (nI t), .long pv])), (k1, .inl (cK, 48, .inr (.inl (vp_updL K (row * 8 + i) (qt ((nx * (K (row * 8 + i))) - (fa * (K (col * 8 + i)))) (pv))))))] := hD
      refine lv_iinc (v := nI (i + 1)) (lv' := [(9, .int (nI (i + 1))), (10, .long ((nx * (K (row * 8 + i))) - (fa * (K (col * 8 + i))))), (0, .ref d1), (1, .int (nI row)), (2, .int (nI col)), (3, .long nx), (5, .int (nI (row * 8))), (6, .int (nI (col * 8))), (7, .long fa)]) hx hb dX0_clearRow_84 hl (k := 8) rfl ((nI_succ i).symm) (by decide) rfl (fun ls hl => ?_)
      refine lv_goto (tgt := 28) hx hb dX0_clearRow_87 (by decide) ?_
      exact ih (i + 1) _ _ _ _ (by omega) (by rw [hfa]; exact cr_s hrc (by omega) (by omega) hI) (hP.sub [0, 1] rfl) (hD.sub [0, 1] (by decide) rfl) hS (lv_sub hl [2, 3, 4, 5, 6, 7, 8, 0] rfl)
set_option maxHeartbeats 4000000 in
set_option maxRecDepth 100000 in
theorem kX0_clearRow (l : Launch) (D : va_G) (d1 k1 w t row col : Nat) (pv nx : Int64) (cK : ClassId) (K : Nat → Int64) (ht : t ≤ 8) (hr6 : row < 6) (hc6 : col < 6) (hrc : row ≠ col) (hct : col < t) : gx_Mv l D yX0_clearRow wsX0_clearRow rmX0_clearRow [.ref d1, .int (nI row), .int (nI col), .long nx] [(cK, .long)] [(d1, .inr (0, [.ref k1, .int (nI w), .int (nI t), .long pv])), (k1, .inl (cK, 48, .inr (.inl K)))] (S := Nat → Int64) (fun (K1 : Nat → Int64) => cr_I K K1 row col nx pv t) (fun (K1 : Nat → Int64) => [(d1, .inr (0, [.ref k1, .int (nI w), .int (nI t), .long pv])), (k1, .inl (cK, 48, .inr (.inl K1)))]) := by
  intro sz
  refine gx_start (cc := cX0_clearRow) (maxL := 12) (ret := none) (Qc := fun A => va_Qv (fun (K1 : Nat → Int64) => cr_I K K1 row col nx pv t) (gx_B D [(cK, .long)] A (fun (K1 : Nat → Int64) => [(d1, .inr (0, [.ref k1, .int (nI w), .int (nI t), .long pv])), (k1, .inl (cK, 48, .inr (.inl K1)))])) A) (by decide) rfl (Nat.le_of_ble_eq_true rfl) ?_ sz
  intro p e s m below meth c A hbody ls hl
  obtain ⟨C0, hr, hlocks, hN, hK, hP, hD, hA⟩ := hbody
  have C0 : CallFix p m c cX0_clearRow 12 s ([.ref d1, .int (nI row), .int (nI col), .long nx] : List Value).toArray wsX0_clearRow RX0 := C0
  obtain ⟨hx, hb, hml, hown, hts⟩ := id C0
  have hS : va_S A s.heap s.heap [] := va_S.rf
  have hl : lv_has ls 12 [(0, .ref d1), (1, .int (nI row)), (2, .int (nI col)), (3, .long nx)] := hl
  refine lv_iload_n hx hb dX0_clearRow_0 rfl (lv_at hl 1 rfl) ?_
  refine lv_bipush (v := nI 8) hx hb dX0_clearRow_1 (by decide) ?_
  refine lv_imul hx hb dX0_clearRow_3 ?_
  refine gx_i (y := nI (row * 8)) (pk_mul row 8) ?_
  refine lv_istore (lv' := [(5, .int (nI (row * 8))), (0, .ref d1), (1, .int (nI row)), (2, .int (nI col)), (3, .long nx)]) hx hb dX0_clearRow_4 hl (by decide) rfl (fun ls hl => ?_)
  refine lv_iload_n hx hb dX0_clearRow_6 rfl (lv_at hl 3 rfl) ?_
  refine lv_bipush (v := nI 8) hx hb dX0_clearRow_7 (by decide) ?_
  refine lv_imul hx hb dX0_clearRow_9 ?_
  refine gx_i (y := nI (col * 8)) (pk_mul col 8) ?_
  refine lv_istore (lv' := [(6, .int (nI (col * 8))), (5, .int (nI (row * 8))), (0, .ref d1), (1, .int (nI row)), (2, .int (nI col)), (3, .long nx)]) hx hb dX0_clearRow_10 hl (by decide) rfl (fun ls hl => ?_)
  refine lv_aload_n hx hb dX0_clearRow_12 rfl (lv_at hl 2 rfl) ?_
  refine va_get (D := D) (ci := 0) (v := .ref k1) (C := RX0) (T := TX0) (N := 4) hx hb hts iw_X0_clearRow_X0 hown hK hP 0 rfl rfl 0 (by decide) (hts _ kw_X0_clearRow_9) (fun _ h9 => h9) rfl dX0_clearRow_13 ?_
  refine lv_iload hx hb dX0_clearRow_16 (lv_at hl 1 rfl) ?_
  refine lv_iload_n hx hb dX0_clearRow_18 rfl (lv_at hl 4 rfl) ?_
  refine lv_iadd hx hb dX0_clearRow_19 ?_
  refine gx_i (y := nI (row * 8 + col)) (nI_add (row * 8) col) ?_
  refine gx_lald (q := row * 8 + col) hx hb hK hP 1 0 rfl rfl (rfl) (by omega) (by decide) dX0_clearRow_20 ?_
  refine lv_lstore (lv' := [(7, .long (K (row * 8 + col))), (6, .int (nI (col * 8))), (5, .int (nI (row * 8))), (0, .ref d1), (1, .int (nI row)), (2, .int (nI col)), (3, .long nx)]) hx hb dX0_clearRow_21 hl (by decide) rfl (fun ls hl => ?_)
  refine lv_iload_n hx hb dX0_clearRow_23 rfl (lv_at hl 5 rfl) ?_
  refine lv_iconst (v := nI 1) hx hb dX0_clearRow_24 (by decide) ?_
  refine lv_iadd hx hb dX0_clearRow_25 ?_
  refine gx_i (y := nI (col + 1)) (nI_add col 1) ?_
  refine lv_istore (lv' := [(9, .int (nI (col + 1))), (7, .long (K (row * 8 + col))), (6, .int (nI (col * 8))), (5, .int (nI (row * 8))), (0, .ref d1), (1, .int (nI row)), (2, .int (nI col)), (3, .long nx)]) hx hb dX0_clearRow_26 hl (by decide) rfl (fun ls hl => ?_)
  refine lpX0_clearRow (fa := K (row * 8 + col)) C0 hN hA ht hr6 hc6 hrc rfl hK (fun K1 H locs ls hI hP hD hS hl => ?_) (t + 1) (col + 1) K _ _ _ (by omega) (cr_0 K row col nx pv) (hP.sub [0, 1] rfl) (hD.sub [0, 1] (by decide) rfl) hS (lv_sub hl [4, 5, 6, 7, 3, 2, 1, 0] rfl)
  exact gx_retv hx hb hr hlocks K1 (hI) hK (hP.sub [0, 1] rfl) (hD.sub [0, 1] (by decide) rfl) hS dX0_clearRow_90
abbrev rmX0_flowAt : Room := { frames := 0, cells := 0, slots := 0, locals := 0 }
theorem iw_X0_flowAt_X0 : ∀ w ∈ wsX00, w ∈ wsX0_flowAt := by decide +kernel
theorem kw_X0_flowAt_9 : Cond.fieldLink RX0 9 "FluxModes$Reduction" "cells" "[J" ∈ wsX0_flowAt := by decide +kernel
theorem kw_X0_flowAt_15 : Cond.fieldLink RX0 15 "FluxModes$Reduction" "rows" "I" ∈ wsX0_flowAt := by decide +kernel
theorem kw_X0_flowAt_19 : Cond.fieldLink RX0 19 "FluxModes$Reduction" "columns" "I" ∈ wsX0_flowAt := by decide +kernel
theorem kw_X0_flowAt_22 : Cond.fieldLink RX0 22 "FluxModes$Reduction" "pivot" "J" ∈ wsX0_flowAt := by decide +kernel
set_option maxHeartbeats 4000000 in
set_option maxRecDepth 100000 in
theorem kX0_flowAt (l : Launch) (D : va_G) (d1 k1 w t i : Nat) (pv : Int64) (cK : ClassId) (K : Nat → Int64) (hw6 : w ≤ 6) (ht : t ≤ 8) (ht1 : 1 ≤ t) (hi : i < 8) : gx_Ml l D yX0_flowAt wsX0_flowAt rmX0_flowAt [.ref d1, .int (nI i)] [(cK, .long)] [(d1, .inr (0, [.ref k1, .int (nI w), .int (nI t), .long pv])), (k1, .inl (cK, 48, .inr (.inl K)))] (S := Unit) (fun r (_ : Unit) => r = if i < t - 1 ∧ i < w then -K (i * 8 + (t - 1)) else pv) (fun (_ : Unit) => [(d1, .inr (0, [.ref k1, .int (nI w), .int (nI t), .long pv])), (k1, .inl (cK, 48, .inr (.inl K)))]) := by
  intro sz
  refine gx_start (cc := cX0_flowAt) (maxL := 3) (ret := (some .long)) (Qc := fun A => va_Ql (fun r (_ : Unit) => r = if i < t - 1 ∧ i < w then -K (i * 8 + (t - 1)) else pv) (gx_B D [(cK, .long)] A (fun (_ : Unit) => [(d1, .inr (0, [.ref k1, .int (nI w), .int (nI t), .long pv])), (k1, .inl (cK, 48, .inr (.inl K)))])) A) (by decide) rfl (Nat.le_of_ble_eq_true rfl) ?_ sz
  intro p e s m below meth c A hbody ls hl
  obtain ⟨C0, hr, hlocks, hN, hK, hP, hD, hA⟩ := hbody
  have C0 : CallFix p m c cX0_flowAt 3 s ([.ref d1, .int (nI i)] : List Value).toArray wsX0_flowAt RX0 := C0
  obtain ⟨hx, hb, hml, hown, hts⟩ := id C0
  have hS : va_S A s.heap s.heap [] := va_S.rf
  have hl : lv_has ls 3 [(0, .ref d1), (1, .int (nI i))] := hl
  refine lv_aload_n hx hb dX0_flowAt_0 rfl (lv_at hl 0 rfl) ?_
  refine va_get (D := D) (ci := 0) (v := .int (nI t)) (C := RX0) (T := TX0) (N := 4) hx hb hts iw_X0_flowAt_X0 hown hK hP 0 rfl rfl 2 (by decide) (hts _ kw_X0_flowAt_19) (fun _ h9 => h9) rfl dX0_flowAt_1 ?_
  refine lv_iconst (v := nI 1) hx hb dX0_flowAt_4 (by decide) ?_
  refine lv_isub hx hb dX0_flowAt_5 ?_
  refine gx_i (y := nI (t - 1)) (pk_sub (by omega)) ?_
  refine lv_istore_n (lv' := [(2, .int (nI (t - 1))), (0, .ref d1), (1, .int (nI i))]) hx hb dX0_flowAt_6 rfl hl (by decide) rfl (fun ls hl => ?_)
  refine lv_iload_n hx hb dX0_flowAt_7 rfl (lv_at hl 2 rfl) ?_
  refine lv_if_lt (tgt := 24) hx hb dX0_flowAt_8 (by decide) (fun c_8 => ?_) (fun c_8 => ?_)
  · exact absurd c_8 (nI_pos (by omega))
  · refine lv_iload_n hx hb dX0_flowAt_11 rfl (lv_at hl 2 rfl) ?_
    refine lv_iload_n hx hb dX0_flowAt_12 rfl (lv_at hl 0 rfl) ?_
    refine gx_ge (tgt := 24) hx hb dX0_flowAt_13 (by decide) (by omega) (by omega) (fun c_13 => ?_) (fun c_13 => ?_)
    · have hz : ¬ (i < t - 1 ∧ i < w) := by omega
      refine lv_aload_n hx hb dX0_flowAt_24 rfl (lv_at hl 1 rfl) ?_
      refine va_get (D := D) (ci := 0) (v := .long pv) (C := RX0) (T := TX0) (N := 4) hx hb hts iw_X0_flowAt_X0 hown hK hP 0 rfl rfl 3 (by decide) (hts _ kw_X0_flowAt_22) (fun _ h9 => h9) rfl dX0_flowAt_25 ?_
      exact gx_retl hx hb hr hlocks () ((if_neg hz).symm) hK (hP.sub [0, 1] rfl) (hD.sub [0, 1] (by decide) rfl) hS dX0_flowAt_28
    · refine lv_iload_n hx hb dX0_flowAt_16 rfl (lv_at hl 2 rfl) ?_
      refine lv_aload_n hx hb dX0_flowAt_17 rfl (lv_at hl 1 rfl) ?_
      refine va_get (D := D) (ci := 0) (v := .int (nI w)) (C := RX0) (T := TX0) (N := 4) hx hb hts iw_X0_flowAt_X0 hown hK hP 0 rfl rfl 1 (by decide) (hts _ kw_X0_flowAt_15) (fun _ h9 => h9) rfl dX0_flowAt_18 ?_
      refine gx_lt (tgt := 29) hx hb dX0_flowAt_21 (by decide) (by omega) (by omega) (fun c_21 => ?_) (fun c_21 => ?_)
      · have hz : i < t - 1 ∧ i < w := by omega
        refine lv_aload_n hx hb dX0_flowAt_29 rfl (lv_at hl 1 rfl) ?_
        refine va_get (D := D) (ci := 0) (v := .ref k1) (C := RX0) (T := TX0) (N := 4) hx hb hts iw_X0_flowAt_X0 hown hK hP 0 rfl rfl 0 (by decide) (hts _ kw_X0_flowAt_9) (fun _ h9 => h9) rfl dX0_flowAt_30 ?_
        refine lv_iload_n hx hb dX0_flowAt_33 rfl (lv_at hl 2 rfl) ?_
        refine lv_bipush (v := nI 8) hx hb dX0_flowAt_34 (by decide) ?_
        refine lv_imul hx hb dX0_flowAt_36 ?_
        refine gx_i (y := nI (i * 8)) (pk_mul i 8) ?_
        refine lv_iload_n hx hb dX0_flowAt_37 rfl (lv_at hl 0 rfl) ?_
        refine lv_iadd hx hb dX0_flowAt_38 ?_
        refine gx_i (y := nI (i * 8 + (t - 1))) (nI_add (i * 8) (t - 1)) ?_
        refine gx_lald (q := i * 8 + (t - 1)) hx hb hK hP 1 0 rfl rfl (rfl) (by omega) (by decide) dX0_flowAt_39 ?_
        refine lv_lneg hx hb dX0_flowAt_40 ?_
        exact gx_retl hx hb hr hlocks () ((if_pos hz).symm) hK (hP.sub [0, 1] rfl) (hD.sub [0, 1] (by decide) rfl) hS dX0_flowAt_41
      · have hz : ¬ (i < t - 1 ∧ i < w) := by omega
        refine lv_aload_n hx hb dX0_flowAt_24 rfl (lv_at hl 1 rfl) ?_
        refine va_get (D := D) (ci := 0) (v := .long pv) (C := RX0) (T := TX0) (N := 4) hx hb hts iw_X0_flowAt_X0 hown hK hP 0 rfl rfl 3 (by decide) (hts _ kw_X0_flowAt_22) (fun _ h9 => h9) rfl dX0_flowAt_25 ?_
        exact gx_retl hx hb hr hlocks () ((if_neg hz).symm) hK (hP.sub [0, 1] rfl) (hD.sub [0, 1] (by decide) rfl) hS dX0_flowAt_28
abbrev rmX0_clearColumn : Room := { frames := 2, cells := 0, slots := 0, locals := 54 }
theorem iw_X0_clearColumn_X0 : ∀ w ∈ wsX00, w ∈ wsX0_clearColumn := by decide +kernel
theorem kw_X0_clearColumn_15 : Cond.fieldLink RX0 15 "FluxModes$Reduction" "rows" "I" ∈ wsX0_clearColumn := by decide +kernel
theorem kw_X0_clearColumn_9 : Cond.fieldLink RX0 9 "FluxModes$Reduction" "cells" "[J" ∈ wsX0_clearColumn := by decide +kernel
theorem kw_X0_clearColumn_22 : Cond.fieldLink RX0 22 "FluxModes$Reduction" "pivot" "J" ∈ wsX0_clearColumn := by decide +kernel
set_option maxHeartbeats 4000000 in
set_option maxRecDepth 100000 in
theorem lpX0_clearColumn {p : Program} {l : Launch} {e : Env} {s : State} {m : MethodId} {args : Array Value} {below : List Frame} {meth : Method} {c : Code} {Q : State → Prop} {D : va_G} {A : Nat → Prop} {H0 : Heap} (C0 : CallFix p m c cX0_clearColumn 6 s args wsX0_clearColumn RX0) (hN : gx_N s) (hA : ∀ q : Nat, H0.size ≤ q → A q) {d1 k1 w t col f : Nat} {pv nx : Int64} {cK : ClassId} {K1 : Nat → Int64} (hw6 : w ≤ 6) (ht : t ≤ 8) (hcw : col < w) (hct : col < t) (hnx : nx = K1 (col * 8 + col)) (hK : va_K D vwCl [(cK, .long)] s) (kk : ∀ (K : Nat → Int64) (H : Heap) (locs : List Loc) (ls : Array Slot), (cl_I K1 K t col pv w) → va_P D vwCl [(d1, .inr (0, [.ref k1, .int (nI w), .int (nI t), .long pv])), (k1, .inl (cK, 48, .inr (.inl K)))] H → va_D A [(d1, .inr (0, [.ref k1, .int (nI w), .int (nI t), .long pv])), (k1, .inl (cK, 48, .inr (.inl K)))] → va_S A H0 H locs → lv_has ls 6 [(0, .ref d1), (1, .int (nI col)), (2, .int (nI f)), (3, .long nx), (5, .int (nI w))] → W p l e rmX0_clearColumn s m args below meth c H locs 0 0 Q (F0 m 62 ls [])) : ∀ (n_ : Nat) (i : Nat) (K : Nat → Int64) (H : Heap) (locs : List Loc) (ls : Array Slot), (i ≤ w ∧ w < i + n_) → (cl_I K1 K t col pv i) → va_P D vwCl [(d1, .inr (0, [.ref k1, .int (nI w), .int (nI t), .long pv])), (k1, .inl (cK, 48, .inr (.inl K)))] H → va_D A [(d1, .inr (0, [.ref k1, .int (nI w), .int (nI t), .long pv])), (k1, .inl (cK, 48, .inr (.inl K)))] → va_S A H0 H locs → lv_has ls 6 [(0, .ref d1), (1, .int (nI col)), (2, .int (nI f)), (3, .long nx), (5, .int (nI i))] → W p l e rmX0_clearColumn s m args below meth c H locs 0 0 Q (F0 m 33 ls []) := by
  obtain ⟨hx, hb, hml, hown, hts⟩ := id C0
  intro n_
  induction n_ with
  | zero =>
    intro i K H locs ls hm
    exact absurd hm (by omega)
  | succ n_ ih =>
    intro i K H locs ls hm hI hP hD hS hl
    refine lv_iload hx hb dX0_clearColumn_33 (lv_at hl 4 rfl) ?_
    refine lv_aload_n hx hb dX0_clearColumn_35 rfl (lv_at hl 0 rfl) ?_
    refine va_get (D := D) (ci := 0) (v := .int (nI w)) (C := RX0) (T := TX0) (N := 4) hx hb hts iw_X0_clearColumn_X0 hown hK hP 0 rfl rfl 1 (by decide) (hts _ kw_X0_clearColumn_15) (fun _ h9 => h9) rfl dX0_clearColumn_36 ?_
    refine gx_ge (tgt := 62) hx hb dX0_clearColumn_39 (by decide) (by omega) (by omega) (fun c_39 => ?_) (fun c_39 => ?_)
    · have hiw : i = w := by omega
      subst hiw
      exact kk _ _ _ _ hI (hP.sub [0, 1] rfl) (hD.sub [0, 1] (by decide) rfl) hS (lv_sub hl [0, 1, 2, 3, 4] rfl)
    · refine lv_iload hx hb dX0_clearColumn_42 (lv_at hl 4 rfl) ?_
      refine lv_iload_n hx hb dX0_clearColumn_44 rfl (lv_at hl 1 rfl) ?_
      refine gx_eq (tgt := 56) hx hb dX0_clearColumn_45 (by decide) (by omega) (by omega) (fun c_45 => ?_) (fun c_45 => ?_)
      · refine lv_iinc (v := nI (i + 1)) (lv' := [(5, .int (nI (i + 1))), (0, .ref d1), (1, .int (nI col)), (2, .int (nI f)), (3, .long nx)]) hx hb dX0_clearColumn_56 hl (k := 4) rfl ((nI_succ i).symm) (by decide) rfl (fun ls hl => ?_)
        refine lv_goto (tgt := 33) hx hb dX0_clearColumn_59 (by decide) ?_
        exact ih (i + 1) _ _ _ _ (by omega) (by rw [c_45]; rw [c_45] at hI; exact cl_skip hI) (hP.sub [0, 1] rfl) (hD.sub [0, 1] (by decide) rfl) hS (lv_sub hl [1, 2, 3, 4, 0] rfl)
      · refine lv_aload_n hx hb dX0_clearColumn_48 rfl (lv_at hl 0 rfl) ?_
        refine lv_iload hx hb dX0_clearColumn_49 (lv_at hl 4 rfl) ?_
        refine lv_iload_n hx hb dX0_clearColumn_51 rfl (lv_at hl 1 rfl) ?_
        refine lv_lload_n hx hb dX0_clearColumn_52 rfl (lv_at hl 3 rfl) ?_
        refine gx_jv (wr := []) (gx_rV (As := [.int (nI i), .int (nI col), .long nx]) (rest := []) C0 (kX0_clearRow l D d1 k1 w t i col pv nx cK K ht (by omega) (by omega) c_45 hct _) (cwV 3 hts gX0_clearColumn_X0_clearRow rfl rfl rfl (by decide +kernel) ⟨Nat.le_of_ble_eq_true rfl, Nat.le_of_ble_eq_true rfl⟩) hN hK hP hD [0, 1] [0] rfl rfl (by decide) rfl 0 rfl rfl rfl rfl hl.1 rfl (Nat.le_of_ble_eq_true rfl) dX0_clearColumn_53 ⟨Nat.zero_le _, Nat.zero_le _⟩) hP hD hS hA [0, 1] [] rfl rfl (by decide) (by decide) (fun u H locs hw hP hD hS => ?_)
        have hP : va_P D vwCl [(d1, .inr (0, [.ref k1, .int (nI w), .int (nI t), .long pv])), (k1, .inl (cK, 48, .inr (.inl u)))] H := hP
        have hD : va_D A [(d1, .inr (0, [.ref k1, .int (nI w), .int (nI t), .long pv])), (k1, .inl (cK, 48, .inr (.inl u)))] := hD
        refine lv_iinc (v := nI (i + 1)) (lv' := [(5, .int (nI (i + 1))), (0, .ref d1), (1, .int (nI col)), (2, .int (nI f)), (3, .long nx)]) hx hb dX0_clearColumn_56 hl (k := 4) rfl ((nI_succ i).symm) (by decide) rfl (fun ls hl => ?_)
        refine lv_goto (tgt := 33) hx hb dX0_clearColumn_59 (by decide) ?_
        exact ih (i + 1) _ _ _ _ (by omega) (cl_s c_45 ht hct hI (hnx ▸ hw)) (hP.sub [0, 1] rfl) (hD.sub [0, 1] (by decide) rfl) hS (lv_sub hl [1, 2, 3, 4, 0] rfl)
set_option maxHeartbeats 4000000 in
set_option maxRecDepth 100000 in
theorem kX0_clearColumn (l : Launch) (D : va_G) (d1 k1 w t col : Nat) (pv : Int64) (cK : ClassId) (K : Nat → Int64) (hw6 : w ≤ 6) (ht : t ≤ 8) (hcw : col < w) (hct : col < t) : gx_Mi l D yX0_clearColumn wsX0_clearColumn rmX0_clearColumn [.ref d1, .int (nI col)] [(cK, .long)] [(d1, .inr (0, [.ref k1, .int (nI w), .int (nI t), .long pv])), (k1, .inl (cK, 48, .inr (.inl K)))] (S := (Nat → Int64) × Int64) (fun r (u : (Nat → Int64) × Int64) => ∃ b, r = bI b ∧ (b = true → cc_ok w t col pv K u.1 u.2) ∧ (b = false → ∀ j, col ≤ j → j < w → K (j * 8 + col) = 0)) (fun (u : (Nat → Int64) × Int64) => [(d1, .inr (0, [.ref k1, .int (nI w), .int (nI t), .long u.2])), (k1, .inl (cK, 48, .inr (.inl u.1)))]) := by
  intro sz
  refine gx_start (cc := cX0_clearColumn) (maxL := 6) (ret := (some .boolean)) (Qc := fun A => va_Qi (fun r (u : (Nat → Int64) × Int64) => ∃ b, r = bI b ∧ (b = true → cc_ok w t col pv K u.1 u.2) ∧ (b = false → ∀ j, col ≤ j → j < w → K (j * 8 + col) = 0)) (gx_B D [(cK, .long)] A (fun (u : (Nat → Int64) × Int64) => [(d1, .inr (0, [.ref k1, .int (nI w), .int (nI t), .long u.2])), (k1, .inl (cK, 48, .inr (.inl u.1)))])) A) (by decide) rfl (Nat.le_of_ble_eq_true rfl) ?_ sz
  intro p e s m below meth c A hbody ls hl
  obtain ⟨C0, hr, hlocks, hN, hK, hP, hD, hA⟩ := hbody
  have C0 : CallFix p m c cX0_clearColumn 6 s ([.ref d1, .int (nI col)] : List Value).toArray wsX0_clearColumn RX0 := C0
  obtain ⟨hx, hb, hml, hown, hts⟩ := id C0
  have hS : va_S A s.heap s.heap [] := va_S.rf
  have hl : lv_has ls 6 [(0, .ref d1), (1, .int (nI col))] := hl
  refine lv_aload_n hx hb dX0_clearColumn_0 rfl (lv_at hl 0 rfl) ?_
  refine lv_iload_n hx hb dX0_clearColumn_1 rfl (lv_at hl 1 rfl) ?_
  refine gx_ji (wr := []) (gx_rV (As := [.int (nI col)]) (rest := []) C0 (kX0_pivotRow l D d1 k1 w t col pv cK K hw6 (by omega) (by omega) _) (cwV 1 hts gX0_clearColumn_X0_pivotRow rfl rfl rfl (by decide +kernel) ⟨Nat.le_of_ble_eq_true rfl, Nat.le_of_ble_eq_true rfl⟩) hN hK hP hD [0, 1] [0] rfl rfl (by decide) rfl 0 rfl rfl rfl rfl hl.1 rfl (Nat.le_of_ble_eq_true rfl) dX0_clearColumn_2 ⟨Nat.zero_le _, Nat.zero_le _⟩) hP hD hS hA [0, 1] [] rfl rfl (by decide) (by decide) (fun r u H locs hw hP hD hS => ?_)
  have hP : va_P D vwCl [(d1, .inr (0, [.ref k1, .int (nI w), .int (nI t), .long pv])), (k1, .inl (cK, 48, .inr (.inl K)))] H := hP
  have hD : va_D A [(d1, .inr (0, [.ref k1, .int (nI w), .int (nI t), .long pv])), (k1, .inl (cK, 48, .inr (.inl K)))] := hD
  rcases hw with ⟨i, rfl, g1, g2, g3, g4⟩ | ⟨rfl, g1⟩
  · refine lv_istore_n (lv' := [(2, .int (nI i)), (0, .ref d1), (1, .int (nI col))]) hx hb dX0_clearColumn_5 rfl hl (by decide) rfl (fun ls hl => ?_)
    refine lv_iload_n hx hb dX0_clearColumn_6 rfl (lv_at hl 0 rfl) ?_
    refine lv_if_ge (tgt := 12) hx hb dX0_clearColumn_7 (by decide) (fun c_7 => ?_) (fun c_7 => ?_)
    · refine lv_aload_n hx hb dX0_clearColumn_12 rfl (lv_at hl 1 rfl) ?_
      refine lv_iload_n hx hb dX0_clearColumn_13 rfl (lv_at hl 2 rfl) ?_
      refine lv_iload_n hx hb dX0_clearColumn_14 rfl (lv_at hl 0 rfl) ?_
      refine gx_jv (wr := []) (gx_rV (As := [.int (nI col), .int (nI i)]) (rest := []) C0 (kX0_swapRows l D d1 k1 w t col i pv cK K ht (by omega) (by omega) _) (cwV 2 hts gX0_clearColumn_X0_swapRows rfl rfl rfl (by decide +kernel) ⟨Nat.le_of_ble_eq_true rfl, Nat.le_of_ble_eq_true rfl⟩) hN hK hP hD [0, 1] [0] rfl rfl (by decide) rfl 0 rfl rfl rfl rfl hl.1 rfl (Nat.le_of_ble_eq_true rfl) dX0_clearColumn_15 ⟨Nat.zero_le _, Nat.zero_le _⟩) hP hD hS hA [0, 1] [] rfl rfl (by decide) (by decide) (fun u H locs hw hP hD hS => ?_)
      obtain ⟨K1, rfl⟩ : ∃ z, z = u := ⟨_, rfl⟩
      have hw9 : sw_I K K1 col i t := hw
      have hP : va_P D vwCl [(d1, .inr (0, [.ref k1, .int (nI w), .int (nI t), .long pv])), (k1, .inl (cK, 48, .inr (.inl K1)))] H := hP
      have hD : va_D A [(d1, .inr (0, [.ref k1, .int (nI w), .int (nI t), .long pv])), (k1, .inl (cK, 48, .inr (.inl K1)))] := hD
      refine lv_aload_n hx hb dX0_clearColumn_18 rfl (lv_at hl 1 rfl) ?_
      refine va_get (D := D) (ci := 0) (v := .ref k1) (C := RX0) (T := TX0) (N := 4) hx hb hts iw_X0_clearColumn_X0 hown hK hP 0 rfl rfl 0 (by decide) (hts _ kw_X0_clearColumn_9) (fun _ h9 => h9) rfl dX0_clearColumn_19 ?_
      refine lv_iload_n hx hb dX0_clearColumn_22 rfl (lv_at hl 2 rfl) ?_
      refine lv_bipush (v := nI 8) hx hb dX0_clearColumn_23 (by decide) ?_
      refine lv_imul hx hb dX0_clearColumn_25 ?_
      refine gx_i (y := nI (col * 8)) (pk_mul col 8) ?_
      refine lv_iload_n hx hb dX0_clearColumn_26 rfl (lv_at hl 2 rfl) ?_
      refine lv_iadd hx hb dX0_clearColumn_27 ?_
      refine gx_i (y := nI (col * 8 + col)) (nI_add (col * 8) col) ?_
      refine gx_lald (q := col * 8 + col) hx hb hK hP 1 0 rfl rfl (rfl) (by omega) (by decide) dX0_clearColumn_28 ?_
      refine lv_lstore_n (lv' := [(3, .long (K1 (col * 8 + col))), (2, .int (nI i)), (0, .ref d1), (1, .int (nI col))]) hx hb dX0_clearColumn_29 rfl hl (by decide) rfl (fun ls hl => ?_)
      refine lv_iconst (v := nI 0) hx hb dX0_clearColumn_30 (by decide) ?_
      refine lv_istore (lv' := [(5, .int (nI 0)), (3, .long (K1 (col * 8 + col))), (2, .int (nI i)), (0, .ref d1), (1, .int (nI col))]) hx hb dX0_clearColumn_31 hl (by decide) rfl (fun ls hl => ?_)
      refine lpX0_clearColumn (f := i) (nx := K1 (col * 8 + col)) C0 hN hA hw6 ht hcw hct rfl hK (fun K2 H locs ls hI hP hD hS hl => ?_) (w + 1) 0 K1 _ _ _ (by omega) (cl_0 K1 t col pv) (hP.sub [0, 1] rfl) (hD.sub [0, 1] (by decide) rfl) hS (lv_sub hl [3, 4, 2, 1, 0] rfl)
      refine lv_aload_n hx hb dX0_clearColumn_62 rfl (lv_at hl 0 rfl) ?_
      refine lv_lload_n hx hb dX0_clearColumn_63 rfl (lv_at hl 3 rfl) ?_
      refine va_put (D := D) (ci := 0) (v := .long (K1 (col * 8 + col))) (ty := .long) (C := RX0) (T := TX0) (N := 4) hx hb hts iw_X0_clearColumn_X0 tyX0 tyX0_ok nmX0 hown hK hP hD hS 0 rfl rfl 3 (by decide) (hts _ kw_X0_clearColumn_22) (fun _ h9 => h9) rfl (by decide +kernel) rfl rfl (Nat.le_of_ble_eq_true rfl) dX0_clearColumn_64 (fun H locs hP hD hS => ?_)
      have hP : va_P D vwCl [(d1, .inr (0, [.ref k1, .int (nI w), .int (nI t), .long (K1 (col * 8 + col))])), (k1, .inl (cK, 48, .inr (.inl K2)))] H := hP
      have hD : va_D A [(d1, .inr (0, [.ref k1, .int (nI w), .int (nI t), .long (K1 (col * 8 + col))])), (k1, .inl (cK, 48, .inr (.inl K2)))] := hD
      refine lv_iconst (v := nI 1) hx hb dX0_clearColumn_67 (by decide) ?_
      exact gx_retz hx hb hr hlocks true (by decide) (K2, K1 (col * 8 + col)) (⟨true, rfl, fun _ => cc_of ht hct g1 g2 g3 g4 hw9 hI, fun h => absurd h (by decide)⟩) hK (hP.sub [0, 1] rfl) (hD.sub [0, 1] (by decide) rfl) hS dX0_clearColumn_68
    · exact absurd (nI_pos' (by omega)) c_7
  · refine lv_istore_n (lv' := [(2, .int ((-1))), (0, .ref d1), (1, .int (nI col))]) hx hb dX0_clearColumn_5 rfl hl (by decide) rfl (fun ls hl => ?_)
    refine lv_iload_n hx hb dX0_clearColumn_6 rfl (lv_at hl 0 rfl) ?_
    refine lv_if_ge (tgt := 12) hx hb dX0_clearColumn_7 (by decide) (fun c_7 => ?_) (fun c_7 => ?_)
    · exact absurd c_7 (by decide)
    · refine lv_iconst (v := nI 0) hx hb dX0_clearColumn_10 (by decide) ?_
      exact gx_retz hx hb hr hlocks false (by decide) (K, pv) (⟨false, rfl, fun h => absurd h (by decide), fun _ => g1⟩) hK (hP.sub [0, 1] rfl) (hD.sub [0, 1] (by decide) rfl) hS dX0_clearColumn_11
end
section
abbrev rmX0_leavesOneFullFlow : Room := { frames := 3, cells := 0, slots := 0, locals := 79 }
theorem iw_X0_leavesOneFullFlow_X0 : ∀ w ∈ wsX00, w ∈ wsX0_leavesOneFullFlow := by decide +kernel
theorem kw_X0_leavesOneFullFlow_9 : Cond.fieldLink RX0 9 "FluxModes$Reduction" "cells" "[J" ∈ wsX0_leavesOneFullFlow := by decide +kernel
theorem kw_X0_leavesOneFullFlow_15 : Cond.fieldLink RX0 15 "FluxModes$Reduction" "rows" "I" ∈ wsX0_leavesOneFullFlow := by decide +kernel
theorem kw_X0_leavesOneFullFlow_19 : Cond.fieldLink RX0 19 "FluxModes$Reduction" "columns" "I" ∈ wsX0_leavesOneFullFlow := by decide +kernel
set_option maxHeartbeats 4000000 in
set_option maxRecDepth 100000 in
theorem lpX0_leaves1 {p : Program} {l : Launch} {e : Env} {s : State} {m : MethodId} {args : Array Value} {below : List Frame} {meth : Method} {c : Code} {Q : State → Prop} {D : va_G} {A : Nat → Prop} {H0 : Heap} (C0 : CallFix p m c cX0_leavesOneFullFlow 5 s args wsX0_leavesOneFullFlow RX0) (hN : gx_N s) (hA : ∀ q : Nat, H0.size ≤ q → A q) {d1 k1 w t : Nat} {cK : ClassId} {c0 : Nat → Nat → Int} (hw6 : w ≤ 6) (ht8 : t ≤ 8) (ht1 : 1 ≤ t) (hc9 : ∀ q s, (c0 q s).natAbs ≤ 9) (htw : t - 1 ≤ w) (hK : va_K D vwCl [(cK, .long)] s) (kk : ∀ (K : Nat → Int64) (pv : Int64) (H : Heap) (locs : List Loc) (ls : Array Slot), (∃ σ, lf_I c0 w t (t - 1) σ K pv) → va_P D vwCl [(d1, .inr (0, [.ref k1, .int (nI w), .int (nI t), .long pv])), (k1, .inl (cK, 48, .inr (.inl K)))] H → va_D A [(d1, .inr (0, [.ref k1, .int (nI w), .int (nI t), .long pv])), (k1, .inl (cK, 48, .inr (.inl K)))] → va_S A H0 H locs → lv_has ls 5 [(0, .ref d1), (1, .int (nI (t - 1))), (2, .int (nI (t - 1)))] → W p l e rmX0_leavesOneFullFlow s m args below meth c H locs 0 0 Q (F0 m 44 ls [])) (kr : ∀ (k : Nat) (K : Nat → Int64) (pv : Int64) (H : Heap) (locs : List Loc) (ls : Array Slot), (lf_F c0 w t) → va_P D vwCl [(d1, .inr (0, [.ref k1, .int (nI w), .int (nI t), .long pv])), (k1, .inl (cK, 48, .inr (.inl K)))] H → va_D A [(d1, .inr (0, [.ref k1, .int (nI w), .int (nI t), .long pv])), (k1, .inl (cK, 48, .inr (.inl K)))] → va_S A H0 H locs → lv_has ls 5 [(0, .ref d1), (1, .int (nI (t - 1))), (2, .int (nI k))] → W p l e rmX0_leavesOneFullFlow s m args below meth c H locs 0 0 Q (F0 m 36 ls [])) : ∀ (n_ : Nat) (k : Nat) (K : Nat → Int64) (pv : Int64) (H : Heap) (locs : List Loc) (ls : Array Slot), (k ≤ t - 1 ∧ t - 1 < k + n_) → (∃ σ, lf_I c0 w t k σ K pv) → va_P D vwCl [(d1, .inr (0, [.ref k1, .int (nI w), .int (nI t), .long pv])), (k1, .inl (cK, 48, .inr (.inl K)))] H → va_D A [(d1, .inr (0, [.ref k1, .int (nI w), .int (nI t), .long pv])), (k1, .inl (cK, 48, .inr (.inl K)))] → va_S A H0 H locs → lv_has ls 5 [(0, .ref d1), (1, .int (nI (t - 1))), (2, .int (nI k))] → W p l e rmX0_leavesOneFullFlow s m args below meth c H locs 0 0 Q (F0 m 23 ls []) := by
  obtain ⟨hx, hb, hml, hown, hts⟩ := id C0
  intro n_
  induction n_ with
  | zero =>
    intro k K pv H locs ls hm
    exact absurd hm (by omega)
  | succ n_ ih =>
    intro k K pv H locs ls hm hI hP hD hS hl
    refine lv_iload_n hx hb dX0_leavesOneFullFlow_23 rfl (lv_at hl 2 rfl) ?_
    refine lv_iload_n hx hb dX0_leavesOneFullFlow_24 rfl (lv_at hl 1 rfl) ?_
    refine gx_ge (tgt := 44) hx hb dX0_leavesOneFullFlow_25 (by decide) (by omega) (by omega) (fun c_25 => ?_) (fun c_25 => ?_)
    · have hkt : k = t - 1 := by omega
      subst hkt
      exact kk _ _ _ _ _ hI (hP.sub [0, 1] rfl) (hD.sub [0, 1] (by decide) rfl) hS (lv_sub hl [0, 1, 2] rfl)
    · refine lv_aload_n hx hb dX0_leavesOneFullFlow_28 rfl (lv_at hl 0 rfl) ?_
      refine lv_iload_n hx hb dX0_leavesOneFullFlow_29 rfl (lv_at hl 2 rfl) ?_
      refine gx_ji (wr := []) (gx_rV (As := [.int (nI k)]) (rest := []) C0 (kX0_clearColumn l D d1 k1 w t k pv cK K hw6 ht8 (by omega) (by omega) _) (cwV 1 hts gX0_leavesOneFullFlow_X0_clearColumn rfl rfl rfl (by decide +kernel) ⟨Nat.le_of_ble_eq_true rfl, Nat.le_of_ble_eq_true rfl⟩) hN hK hP hD [0, 1] [0] rfl rfl (by decide) rfl 0 rfl rfl rfl rfl hl.1 rfl (Nat.le_of_ble_eq_true rfl) dX0_leavesOneFullFlow_30 ⟨Nat.zero_le _, Nat.zero_le _⟩) hP hD hS hA [0, 1] [] rfl rfl (by decide) (by decide) (fun r u H locs hw hP hD hS => ?_)
      obtain ⟨b, hb9, hq1, hq2⟩ := hw
      subst hb9
      have hP : va_P D vwCl [(d1, .inr (0, [.ref k1, .int (nI w), .int (nI t), .long u.2])), (k1, .inl (cK, 48, .inr (.inl u.1)))] H := hP
      have hD : va_D A [(d1, .inr (0, [.ref k1, .int (nI w), .int (nI t), .long u.2])), (k1, .inl (cK, 48, .inr (.inl u.1)))] := hD
      refine gx_bne (tgt := 38) hx hb dX0_leavesOneFullFlow_33 (by decide) (fun c_33 => ?_) (fun c_33 => ?_)
      · refine lv_iinc (v := nI (k + 1)) (lv' := [(2, .int (nI (k + 1))), (0, .ref d1), (1, .int (nI (t - 1)))]) hx hb dX0_leavesOneFullFlow_38 hl (k := 2) rfl ((nI_succ k).symm) (by decide) rfl (fun ls hl => ?_)
        refine lv_goto (tgt := 23) hx hb dX0_leavesOneFullFlow_41 (by decide) ?_
        obtain ⟨σ, hσ⟩ := hI
        have hn := lf_step hw6 hc9 (by omega) hσ (hq1 c_33)
        exact ih (k + 1) _ _ _ _ _ (by omega) hn (hP.sub [0, 1] rfl) (hD.sub [0, 1] (by decide) rfl) hS (lv_sub hl [1, 2, 0] rfl)
      · obtain ⟨σ, hσ⟩ := hI
        exact kr k u.1 u.2 _ _ _ (lf_F_none (by omega) (lf_fail hw6 hc9 (by omega) hσ (hq2 c_33))) (hP.sub [0, 1] rfl) (hD.sub [0, 1] (by decide) rfl) hS (lv_sub hl [0, 1, 2] rfl)
set_option maxHeartbeats 4000000 in
set_option maxRecDepth 100000 in
theorem lpX0_leaves2 {p : Program} {l : Launch} {e : Env} {s : State} {m : MethodId} {args : Array Value} {below : List Frame} {meth : Method} {c : Code} {Q : State → Prop} {D : va_G} {A : Nat → Prop} {H0 : Heap} (C0 : CallFix p m c cX0_leavesOneFullFlow 5 s args wsX0_leavesOneFullFlow RX0) (hN : gx_N s) (hA : ∀ q : Nat, H0.size ≤ q → A q) {d1 k1 w t : Nat} {cK : ClassId} {K : Nat → Int64} {pv : Int64} (hw6 : w ≤ 6) (ht8 : t ≤ 8) (ht1 : 1 ≤ t) (hK : va_K D vwCl [(cK, .long)] s) (kk : ∀ (H : Heap) (locs : List Loc) (ls : Array Slot), (ltI t K w) → va_P D vwCl [(d1, .inr (0, [.ref k1, .int (nI w), .int (nI t), .long pv])), (k1, .inl (cK, 48, .inr (.inl K)))] H → va_D A [(d1, .inr (0, [.ref k1, .int (nI w), .int (nI t), .long pv])), (k1, .inl (cK, 48, .inr (.inl K)))] → va_S A H0 H locs → lv_has ls 5 [(0, .ref d1), (1, .int (nI (t - 1))), (2, .int (nI w))] → W p l e rmX0_leavesOneFullFlow s m args below meth c H locs 0 0 Q (F0 m 102 ls [])) (kr : ∀ (i : Nat) (H : Heap) (locs : List Loc) (ls : Array Slot), (¬ ltI t K w) → va_P D vwCl [(d1, .inr (0, [.ref k1, .int (nI w), .int (nI t), .long pv])), (k1, .inl (cK, 48, .inr (.inl K)))] H → va_D A [(d1, .inr (0, [.ref k1, .int (nI w), .int (nI t), .long pv])), (k1, .inl (cK, 48, .inr (.inl K)))] → va_S A H0 H locs → lv_has ls 5 [(0, .ref d1), (1, .int (nI (t - 1))), (2, .int (nI i))] → W p l e rmX0_leavesOneFullFlow s m args below meth c H locs 0 0 Q (F0 m 94 ls [])) : ∀ (n_ : Nat) (i : Nat) (H : Heap) (locs : List Loc) (ls : Array Slot), (i ≤ w ∧ w < i + n_) → (ltI t K i) → va_P D vwCl [(d1, .inr (0, [.ref k1, .int (nI w), .int (nI t), .long pv])), (k1, .inl (cK, 48, .inr (.inl K)))] H → va_D A [(d1, .inr (0, [.ref k1, .int (nI w), .int (nI t), .long pv])), (k1, .inl (cK, 48, .inr (.inl K)))] → va_S A H0 H locs → lv_has ls 5 [(0, .ref d1), (1, .int (nI (t - 1))), (2, .int (nI i))] → W p l e rmX0_leavesOneFullFlow s m args below meth c H locs 0 0 Q (F0 m 46 ls []) := by
  obtain ⟨hx, hb, hml, hown, hts⟩ := id C0
  intro n_
  induction n_ with
  | zero =>
    intro i H locs ls hm
    exact absurd hm (by omega)
  | succ n_ ih =>
    intro i H locs ls hm hI hP hD hS hl
    refine lv_iload_n hx hb dX0_leavesOneFullFlow_46 rfl (lv_at hl 2 rfl) ?_
    refine lv_aload_n hx hb dX0_leavesOneFullFlow_47 rfl (lv_at hl 0 rfl) ?_
    refine va_get (D := D) (ci := 0) (v := .int (nI w)) (C := RX0) (T := TX0) (N := 4) hx hb hts iw_X0_leavesOneFullFlow_X0 hown hK hP 0 rfl rfl 1 (by decide) (hts _ kw_X0_leavesOneFullFlow_15) (fun _ h9 => h9) rfl dX0_leavesOneFullFlow_48 ?_
    refine gx_ge (tgt := 102) hx hb dX0_leavesOneFullFlow_51 (by decide) (by omega) (by omega) (fun c_51 => ?_) (fun c_51 => ?_)
    · have hiw : i = w := by omega
      subst hiw
      exact kk _ _ _ hI (hP.sub [0, 1] rfl) (hD.sub [0, 1] (by decide) rfl) hS (lv_sub hl [0, 1, 2] rfl)
    · refine lv_aload_n hx hb dX0_leavesOneFullFlow_54 rfl (lv_at hl 0 rfl) ?_
      refine va_get (D := D) (ci := 0) (v := .ref k1) (C := RX0) (T := TX0) (N := 4) hx hb hts iw_X0_leavesOneFullFlow_X0 hown hK hP 0 rfl rfl 0 (by decide) (hts _ kw_X0_leavesOneFullFlow_9) (fun _ h9 => h9) rfl dX0_leavesOneFullFlow_55 ?_
      refine lv_iload_n hx hb dX0_leavesOneFullFlow_58 rfl (lv_at hl 2 rfl) ?_
      refine lv_bipush (v := nI 8) hx hb dX0_leavesOneFullFlow_59 (by decide) ?_
      refine lv_imul hx hb dX0_leavesOneFullFlow_61 ?_
      refine gx_i (y := nI (i * 8)) (pk_mul i 8) ?_
      refine lv_iload_n hx hb dX0_leavesOneFullFlow_62 rfl (lv_at hl 1 rfl) ?_
      refine lv_iadd hx hb dX0_leavesOneFullFlow_63 ?_
      refine gx_i (y := nI (i * 8 + (t - 1))) (nI_add (i * 8) (t - 1)) ?_
      refine gx_lald (q := i * 8 + (t - 1)) hx hb hK hP 1 0 rfl rfl (rfl) (by omega) (by decide) dX0_leavesOneFullFlow_64 ?_
      refine lv_lconst (v := 0) hx hb dX0_leavesOneFullFlow_65 (by decide) ?_
      refine W.lcmp hx hb dX0_leavesOneFullFlow_66 ?_
      refine lv_if_ne (tgt := 74) hx hb dX0_leavesOneFullFlow_67 (by decide) (fun c_67 => ?_) (fun c_67 => ?_)
      · refine lv_iconst (v := nI 0) hx hb dX0_leavesOneFullFlow_74 (by decide) ?_
        refine lv_istore_n (lv' := [(3, .int (nI 0)), (0, .ref d1), (1, .int (nI (t - 1))), (2, .int (nI i))]) hx hb dX0_leavesOneFullFlow_75 rfl hl (by decide) rfl (fun ls hl => ?_)
        refine lv_iload_n hx hb dX0_leavesOneFullFlow_76 rfl (lv_at hl 3 rfl) ?_
        refine lv_iload_n hx hb dX0_leavesOneFullFlow_77 rfl (lv_at hl 2 rfl) ?_
        refine gx_ge (tgt := 85) hx hb dX0_leavesOneFullFlow_78 (by decide) (by omega) (by omega) (fun c_78 => ?_) (fun c_78 => ?_)
        · refine lv_iconst (v := nI 0) hx hb dX0_leavesOneFullFlow_85 (by decide) ?_
          refine lv_istore (lv' := [(4, .int (nI 0)), (3, .int (nI 0)), (0, .ref d1), (1, .int (nI (t - 1))), (2, .int (nI i))]) hx hb dX0_leavesOneFullFlow_86 hl (by decide) rfl (fun ls hl => ?_)
          refine lv_iload_n hx hb dX0_leavesOneFullFlow_88 rfl (lv_at hl 1 rfl) ?_
          refine lv_iload hx hb dX0_leavesOneFullFlow_89 (lv_at hl 0 rfl) ?_
          refine gx_ne (tgt := 96) hx hb dX0_leavesOneFullFlow_91 (by decide) (by omega) (by omega) (fun c_91 => ?_) (fun c_91 => ?_)
          · exact absurd rfl c_91
          · have hz : K (i * 8 + (t - 1)) ≠ 0 := fun q => c_67 ((gx_cmp0 _ _).mpr q)
            exact kr i _ _ _ (fun h => hz ((h i (by omega)).2 (by omega))) (hP.sub [0, 1] rfl) (hD.sub [0, 1] (by decide) rfl) hS (lv_sub hl [2, 3, 4] rfl)
        · refine lv_iconst (v := nI 1) hx hb dX0_leavesOneFullFlow_81 (by decide) ?_
          refine lv_goto (tgt := 86) hx hb dX0_leavesOneFullFlow_82 (by decide) ?_
          refine lv_istore (lv' := [(4, .int (nI 1)), (3, .int (nI 0)), (0, .ref d1), (1, .int (nI (t - 1))), (2, .int (nI i))]) hx hb dX0_leavesOneFullFlow_86 hl (by decide) rfl (fun ls hl => ?_)
          refine lv_iload_n hx hb dX0_leavesOneFullFlow_88 rfl (lv_at hl 1 rfl) ?_
          refine lv_iload hx hb dX0_leavesOneFullFlow_89 (lv_at hl 0 rfl) ?_
          refine gx_ne (tgt := 96) hx hb dX0_leavesOneFullFlow_91 (by decide) (by omega) (by omega) (fun c_91 => ?_) (fun c_91 => ?_)
          · refine lv_iinc (v := nI (i + 1)) (lv' := [(2, .int (nI (i + 1))), (4, .int (nI 1)), (3, .int (nI 0)), (0, .ref d1), (1, .int (nI (t - 1)))]) hx hb dX0_leavesOneFullFlow_96 hl (k := 4) rfl ((nI_succ i).symm) (by decide) rfl (fun ls hl => ?_)
            refine lv_goto (tgt := 46) hx hb dX0_leavesOneFullFlow_99 (by decide) ?_
            have hz : K (i * 8 + (t - 1)) ≠ 0 := fun q => c_67 ((gx_cmp0 _ _).mpr q)
            exact ih (i + 1) _ _ _ (by omega) (ltI_s hI (fun _ => hz) (fun h => absurd h (by omega))) (hP.sub [0, 1] rfl) (hD.sub [0, 1] (by decide) rfl) hS (lv_sub hl [3, 4, 0] rfl)
          · exact absurd c_91 (by decide)
      · refine lv_iconst (v := nI 1) hx hb dX0_leavesOneFullFlow_70 (by decide) ?_
        refine lv_goto (tgt := 75) hx hb dX0_leavesOneFullFlow_71 (by decide) ?_
        refine lv_istore_n (lv' := [(3, .int (nI 1)), (0, .ref d1), (1, .int (nI (t - 1))), (2, .int (nI i))]) hx hb dX0_leavesOneFullFlow_75 rfl hl (by decide) rfl (fun ls hl => ?_)
        refine lv_iload_n hx hb dX0_leavesOneFullFlow_76 rfl (lv_at hl 3 rfl) ?_
        refine lv_iload_n hx hb dX0_leavesOneFullFlow_77 rfl (lv_at hl 2 rfl) ?_
        refine gx_ge (tgt := 85) hx hb dX0_leavesOneFullFlow_78 (by decide) (by omega) (by omega) (fun c_78 => ?_) (fun c_78 => ?_)
        · refine lv_iconst (v := nI 0) hx hb dX0_leavesOneFullFlow_85 (by decide) ?_
          refine lv_istore (lv' := [(4, .int (nI 0)), (3, .int (nI 1)), (0, .ref d1), (1, .int (nI (t - 1))), (2, .int (nI i))]) hx hb dX0_leavesOneFullFlow_86 hl (by decide) rfl (fun ls hl => ?_)
          refine lv_iload_n hx hb dX0_leavesOneFullFlow_88 rfl (lv_at hl 1 rfl) ?_
          refine lv_iload hx hb dX0_leavesOneFullFlow_89 (lv_at hl 0 rfl) ?_
          refine gx_ne (tgt := 96) hx hb dX0_leavesOneFullFlow_91 (by decide) (by omega) (by omega) (fun c_91 => ?_) (fun c_91 => ?_)
          · refine lv_iinc (v := nI (i + 1)) (lv' := [(2, .int (nI (i + 1))), (4, .int (nI 0)), (3, .int (nI 1)), (0, .ref d1), (1, .int (nI (t - 1)))]) hx hb dX0_leavesOneFullFlow_96 hl (k := 4) rfl ((nI_succ i).symm) (by decide) rfl (fun ls hl => ?_)
            refine lv_goto (tgt := 46) hx hb dX0_leavesOneFullFlow_99 (by decide) ?_
            have hz : K (i * 8 + (t - 1)) = 0 := (gx_cmp0 _ _).mp c_67
            exact ih (i + 1) _ _ _ (by omega) (ltI_s hI (fun h => absurd h (by omega)) (fun _ => hz)) (hP.sub [0, 1] rfl) (hD.sub [0, 1] (by decide) rfl) hS (lv_sub hl [3, 4, 0] rfl)
          · exact absurd c_91 (by decide)
        · refine lv_iconst (v := nI 1) hx hb dX0_leavesOneFullFlow_81 (by decide) ?_
          refine lv_goto (tgt := 86) hx hb dX0_leavesOneFullFlow_82 (by decide) ?_
          refine lv_istore (lv' := [(4, .int (nI 1)), (3, .int (nI 1)), (0, .ref d1), (1, .int (nI (t - 1))), (2, .int (nI i))]) hx hb dX0_leavesOneFullFlow_86 hl (by decide) rfl (fun ls hl => ?_)
          refine lv_iload_n hx hb dX0_leavesOneFullFlow_88 rfl (lv_at hl 1 rfl) ?_
          refine lv_iload hx hb dX0_leavesOneFullFlow_89 (lv_at hl 0 rfl) ?_
          refine gx_ne (tgt := 96) hx hb dX0_leavesOneFullFlow_91 (by decide) (by omega) (by omega) (fun c_91 => ?_) (fun c_91 => ?_)
          · exact absurd rfl c_91
          · have hz : K (i * 8 + (t - 1)) = 0 := (gx_cmp0 _ _).mp c_67
            exact kr i _ _ _ (fun h => (h i (by omega)).1 (by omega) hz) (hP.sub [0, 1] rfl) (hD.sub [0, 1] (by decide) rfl) hS (lv_sub hl [2, 3, 4] rfl)
set_option maxHeartbeats 4000000 in
set_option maxRecDepth 100000 in
theorem kX0_leavesOneFullFlow (l : Launch) (D : va_G) (d1 k1 w t : Nat) (cK : ClassId) (c0 : Nat → Nat → Int) (K : Nat → Int64) (hw6 : w ≤ 6) (ht8 : t ≤ 8) (ht1 : 1 ≤ t) (hc9 : ∀ q s, (c0 q s).natAbs ≤ 9) (hK0 : ∀ r q, r < w → q < t → K (r * 8 + q) = Int64.ofInt (c0 q r)) : gx_Mi l D yX0_leavesOneFullFlow wsX0_leavesOneFullFlow rmX0_leavesOneFullFlow [.ref d1] [(cK, .long)] [(d1, .inr (0, [.ref k1, .int (nI w), .int (nI t), .long 1])), (k1, .inl (cK, 48, .inr (.inl K)))] (S := (Nat → Int64) × Int64) (fun r (u : (Nat → Int64) × Int64) => ∃ b, r = bI b ∧ (b = true → lf_T c0 w t u.1 u.2) ∧ (b = false → lf_F c0 w t)) (fun (u : (Nat → Int64) × Int64) => [(d1, .inr (0, [.ref k1, .int (nI w), .int (nI t), .long u.2])), (k1, .inl (cK, 48, .inr (.inl u.1)))]) := by
  intro sz
  refine gx_start (cc := cX0_leavesOneFullFlow) (maxL := 5) (ret := (some .boolean)) (Qc := fun A => va_Qi (fun r (u : (Nat → Int64) × Int64) => ∃ b, r = bI b ∧ (b = true → lf_T c0 w t u.1 u.2) ∧ (b = false → lf_F c0 w t)) (gx_B D [(cK, .long)] A (fun (u : (Nat → Int64) × Int64) => [(d1, .inr (0, [.ref k1, .int (nI w), .int (nI t), .long u.2])), (k1, .inl (cK, 48, .inr (.inl u.1)))])) A) (by decide) rfl (Nat.le_of_ble_eq_true rfl) ?_ sz
  intro p e s m below meth c A hbody ls hl
  obtain ⟨C0, hr, hlocks, hN, hK, hP, hD, hA⟩ := hbody
  have C0 : CallFix p m c cX0_leavesOneFullFlow 5 s ([.ref d1] : List Value).toArray wsX0_leavesOneFullFlow RX0 := C0
  obtain ⟨hx, hb, hml, hown, hts⟩ := id C0
  have hS : va_S A s.heap s.heap [] := va_S.rf
  have hl : lv_has ls 5 [(0, .ref d1)] := hl
  refine lv_aload_n hx hb dX0_leavesOneFullFlow_0 rfl (lv_at hl 0 rfl) ?_
  refine va_get (D := D) (ci := 0) (v := .int (nI t)) (C := RX0) (T := TX0) (N := 4) hx hb hts iw_X0_leavesOneFullFlow_X0 hown hK hP 0 rfl rfl 2 (by decide) (hts _ kw_X0_leavesOneFullFlow_19) (fun _ h9 => h9) rfl dX0_leavesOneFullFlow_1 ?_
  refine lv_iconst (v := nI 1) hx hb dX0_leavesOneFullFlow_4 (by decide) ?_
  refine lv_isub hx hb dX0_leavesOneFullFlow_5 ?_
  refine gx_i (y := nI (t - 1)) (pk_sub (by omega)) ?_
  refine lv_istore_n (lv' := [(1, .int (nI (t - 1))), (0, .ref d1)]) hx hb dX0_leavesOneFullFlow_6 rfl hl (by decide) rfl (fun ls hl => ?_)
  refine lv_iload_n hx hb dX0_leavesOneFullFlow_7 rfl (lv_at hl 0 rfl) ?_
  refine lv_if_lt (tgt := 19) hx hb dX0_leavesOneFullFlow_8 (by decide) (fun c_8 => ?_) (fun c_8 => ?_)
  · exact absurd c_8 (nI_pos (by omega))
  · refine lv_iload_n hx hb dX0_leavesOneFullFlow_11 rfl (lv_at hl 0 rfl) ?_
    refine lv_aload_n hx hb dX0_leavesOneFullFlow_12 rfl (lv_at hl 1 rfl) ?_
    refine va_get (D := D) (ci := 0) (v := .int (nI w)) (C := RX0) (T := TX0) (N := 4) hx hb hts iw_X0_leavesOneFullFlow_X0 hown hK hP 0 rfl rfl 1 (by decide) (hts _ kw_X0_leavesOneFullFlow_15) (fun _ h9 => h9) rfl dX0_leavesOneFullFlow_13 ?_
    refine gx_le (tgt := 21) hx hb dX0_leavesOneFullFlow_16 (by decide) (by omega) (by omega) (fun c_16 => ?_) (fun c_16 => ?_)
    · refine lv_iconst (v := nI 0) hx hb dX0_leavesOneFullFlow_21 (by decide) ?_
      refine lv_istore_n (lv' := [(2, .int (nI 0)), (1, .int (nI (t - 1))), (0, .ref d1)]) hx hb dX0_leavesOneFullFlow_22 rfl hl (by decide) rfl (fun ls hl => ?_)
      refine lpX0_leaves1 C0 hN hA hw6 ht8 ht1 hc9 (by omega) hK (fun K1 pv1 H locs ls hI hP hD hS hl => ?_) (fun k K1 pv1 H locs ls hF hP hD hS hl => ?_) (t - 1 + 1) 0 K 1 _ _ _ (by omega) ⟨_, lf_0 hK0⟩ (hP.sub [0, 1] rfl) (hD.sub [0, 1] (by decide) rfl) hS (lv_sub hl [2, 1, 0] rfl)
      · refine lv_iconst (v := nI 0) hx hb dX0_leavesOneFullFlow_44 (by decide) ?_
        refine lv_istore_n (lv' := [(2, .int (nI 0)), (0, .ref d1), (1, .int (nI (t - 1)))]) hx hb dX0_leavesOneFullFlow_45 rfl hl (by decide) rfl (fun ls hl => ?_)
        obtain ⟨σ, hσ⟩ := hI
        refine lpX0_leaves2 C0 hN hA hw6 ht8 ht1 hK (fun H locs ls hL hP hD hS hl => ?_) (fun i H locs ls hF hP hD hS hl => ?_) (w + 1) 0 _ _ _ (by omega) (fun j h => absurd h (Nat.not_lt_zero j)) (hP.sub [0, 1] rfl) (hD.sub [0, 1] (by decide) rfl) hS (lv_sub hl [1, 2, 0] rfl)
        · refine lv_iconst (v := nI 1) hx hb dX0_leavesOneFullFlow_102 (by decide) ?_
          exact gx_retz hx hb hr hlocks true (by decide) (K1, pv1) (⟨true, rfl, (fun _ => lf_T_of hw6 ht1 hc9 hσ hL), fun h => absurd h (by decide)⟩) hK (hP.sub [0, 1] rfl) (hD.sub [0, 1] (by decide) rfl) hS dX0_leavesOneFullFlow_103
        · refine lv_iconst (v := nI 0) hx hb dX0_leavesOneFullFlow_94 (by decide) ?_
          exact gx_retz hx hb hr hlocks false (by decide) (K1, pv1) (⟨false, rfl, (fun h => absurd h (by decide)), fun _ => lf_F_last hw6 ht1 hc9 hσ hF⟩) hK (hP.sub [0, 1] rfl) (hD.sub [0, 1] (by decide) rfl) hS dX0_leavesOneFullFlow_95
      · refine lv_iconst (v := nI 0) hx hb dX0_leavesOneFullFlow_36 (by decide) ?_
        exact gx_retz hx hb hr hlocks false (by decide) (K1, pv1) (⟨false, rfl, (fun h => absurd h (by decide)), fun _ => hF⟩) hK (hP.sub [0, 1] rfl) (hD.sub [0, 1] (by decide) rfl) hS dX0_leavesOneFullFlow_37
    · refine lv_iconst (v := nI 0) hx hb dX0_leavesOneFullFlow_19 (by decide) ?_
      exact gx_retz hx hb hr hlocks false (by decide) (K, 1) (⟨false, rfl, (fun h => absurd h (by decide)), fun _ => lf_F_small (by omega)⟩) hK (hP.sub [0, 1] rfl) (hD.sub [0, 1] (by decide) rfl) hS dX0_leavesOneFullFlow_20
end
section
abbrev rmX1_commonDivisor : Room := { frames := 1, cells := 0, slots := 0, locals := 30 }
set_option maxHeartbeats 4000000 in
set_option maxRecDepth 100000 in
theorem lpX1_commonDivisor {p : Program} {l : Launch} {e : Env} {s : State} {m : MethodId} {args : Array Value} {below : List Frame} {meth : Method} {c : Code} {Q : State → Prop} {D : va_G} {A : Nat → Prop} {H0 : Heap} (C0 : CallFix p m c cX1_commonDivisor 11 s args wsX1_commonDivisor RX1) (hN : gx_N s) (hA : ∀ q : Nat, H0.size ≤ q → A q) {G : Nat}  (hK : va_K D vwCl [] s) (kk : ∀ (i r : Nat) (H : Heap) (locs : List Loc) (ls : Array Slot), va_P D vwCl [] H → va_D A [] → va_S A H0 H locs → lv_has ls 11 [(4, .long (lN G)), (6, .long (lN r)), (8, .int (nI i))] → W p l e rmX1_commonDivisor s m args below meth c H locs 0 0 Q (F0 m 50 ls [])) : ∀ (n_ : Nat) (i g r : Nat) (H : Heap) (locs : List Loc) (ls : Array Slot), (i ≤ 100 ∧ 100 < i + n_) → (cd_I G i g r) → va_P D vwCl [] H → va_D A [] → va_S A H0 H locs → lv_has ls 11 [(4, .long (lN g)), (6, .long (lN r)), (8, .int (nI i))] → W p l e rmX1_commonDivisor s m args below meth c H locs 0 0 Q (F0 m 15 ls []) := by
  obtain ⟨hx, hb, hml, hown, hts⟩ := id C0
  intro n_
  induction n_ with
  | zero =>
    intro i g r H locs ls hm
    exact absurd hm (by omega)
  | succ n_ ih =>
    intro i g r H locs ls hm hI hP hD hS hl
    refine lv_iload hx hb dX1_commonDivisor_15 (lv_at hl 2 rfl) ?_
    refine lv_bipush (v := nI 100) hx hb dX1_commonDivisor_17 (by decide) ?_
    refine gx_ge (tgt := 50) hx hb dX1_commonDivisor_19 (by decide) (by omega) (by omega) (fun c_19 => ?_) (fun c_19 => ?_)
    · have hr0 : r = 0 := cd_end (by omega) hI
      subst hr0
      have hg0 : g = G := by have h1 := hI.1; rw [Nat.gcd_zero_right] at h1; exact h1
      subst hg0
      exact kk _ _ _ _ _ (hP.sub [] rfl) (hD.sub [] (by decide) rfl) hS (lv_sub hl [0, 1, 2] rfl)
    · refine lv_lload hx hb dX1_commonDivisor_22 (lv_at hl 1 rfl) ?_
      refine lv_lconst (v := 0) hx hb dX1_commonDivisor_24 (by decide) ?_
      refine W.lcmp hx hb dX1_commonDivisor_25 ?_
      refine lv_if_eq (tgt := 50) hx hb dX1_commonDivisor_26 (by decide) (fun c_26 => ?_) (fun c_26 => ?_)
      · have hr0 : r = 0 := (lN_z hI.2.2.1).mp ((gx_cmp0 _ _).mp c_26)
        subst hr0
        have hg0 : g = G := by have h1 := hI.1; rw [Nat.gcd_zero_right] at h1; exact h1
        subst hg0
        exact kk _ _ _ _ _ (hP.sub [] rfl) (hD.sub [] (by decide) rfl) hS (lv_sub hl [0, 1, 2] rfl)
      · have hz : ¬ lN r = 0 := fun q => c_26 ((gx_cmp0 _ _).mpr q)
        have hr0 : r ≠ 0 := fun q => hz ((lN_z hI.2.2.1).mpr q)
        have hb1 := hI.2.1
        have hb2 := hI.2.2.1
        refine lv_lload hx hb dX1_commonDivisor_29 (lv_at hl 0 rfl) ?_
        refine lv_lload hx hb dX1_commonDivisor_31 (lv_at hl 1 rfl) ?_
        refine lv_lrem hx hb dX1_commonDivisor_33 hz ?_
        refine gx_l (y := lN (g % r)) (pk_lRem (by omega) (by omega) (by omega)) ?_
        refine lv_lstore (lv' := [(9, .long (lN (g % r))), (4, .long (lN g)), (6, .long (lN r)), (8, .int (nI i))]) hx hb dX1_commonDivisor_34 hl (by decide) rfl (fun ls hl => ?_)
        refine lv_lload hx hb dX1_commonDivisor_36 (lv_at hl 2 rfl) ?_
        refine lv_lstore (lv' := [(4, .long (lN r)), (9, .long (lN (g % r))), (6, .long (lN r)), (8, .int (nI i))]) hx hb dX1_commonDivisor_38 hl (by decide) rfl (fun ls hl => ?_)
        refine lv_lload hx hb dX1_commonDivisor_40 (lv_at hl 1 rfl) ?_
        refine lv_lstore (lv' := [(6, .long (lN (g % r))), (4, .long (lN r)), (9, .long (lN (g % r))), (8, .int (nI i))]) hx hb dX1_commonDivisor_42 hl (by decide) rfl (fun ls hl => ?_)
        refine lv_iinc (v := nI (i + 1)) (lv' := [(8, .int (nI (i + 1))), (6, .long (lN (g % r))), (4, .long (lN r)), (9, .long (lN (g % r)))]) hx hb dX1_commonDivisor_44 hl (k := 3) rfl ((nI_succ i).symm) (by decide) rfl (fun ls hl => ?_)
        refine lv_goto (tgt := 15) hx hb dX1_commonDivisor_47 (by decide) ?_
        exact ih (i + 1) r (g % r) _ _ _ (by omega) (cd_s hr0 hI) (hP.sub [] rfl) (hD.sub [] (by decide) rfl) hS (lv_sub hl [2, 1, 0] rfl)
set_option maxHeartbeats 4000000 in
set_option maxRecDepth 100000 in
theorem kX1_commonDivisor (l : Launch) (D : va_G) (g : Nat) (x : Int) (hg : g ≤ 382637520) (hx9 : x.natAbs ≤ 382637520) : gx_Ml l D yX1_commonDivisor wsX1_commonDivisor rmX1_commonDivisor [.long (lN g), .long (Int64.ofInt x)] [] [] (S := Unit) (fun r (_ : Unit) => r = lN (Nat.gcd g x.natAbs)) (fun (_ : Unit) => []) := by
  intro sz
  refine gx_start (cc := cX1_commonDivisor) (maxL := 11) (ret := (some .long)) (Qc := fun A => va_Ql (fun r (_ : Unit) => r = lN (Nat.gcd g x.natAbs)) (gx_B D [] A (fun (_ : Unit) => [])) A) (by decide) rfl (Nat.le_of_ble_eq_true rfl) ?_ sz
  intro p e s m below meth c A hbody ls hl
  obtain ⟨C0, hr, hlocks, hN, hK, hP, hD, hA⟩ := hbody
  have C0 : CallFix p m c cX1_commonDivisor 11 s ([.long (lN g), .long (Int64.ofInt x)] : List Value).toArray wsX1_commonDivisor RX1 := C0
  obtain ⟨hx, hb, hml, hown, hts⟩ := id C0
  have hS : va_S A s.heap s.heap [] := va_S.rf
  have hl : lv_has ls 11 [(0, .long (lN g)), (2, .long (Int64.ofInt x))] := hl
  refine lv_lload_n hx hb dX1_commonDivisor_0 rfl (lv_at hl 0 rfl) ?_
  refine va_mabs_long hx hb (by rw [hml]; exact hl.1.symm) hown (hts _ (show Cond.methodLink RX1 119 Lib.MathLoose.abs_long.x ∈ wsX1_commonDivisor by decide +kernel)) (hts _ (show Cond.static Lib.MathLoose.abs_long.x ∈ wsX1_commonDivisor by decide +kernel)) (hts _ (show Cond.initialized "java/lang/Math" ∈ wsX1_commonDivisor by decide +kernel)) (hts _ (show Cond.code Lib.MathLoose.abs_long.x Lib.MathLoose.abs_long.code 2 (some .long) ∈ wsX1_commonDivisor by decide +kernel)) (Nat.le_of_ble_eq_true rfl) (Nat.le_of_ble_eq_true rfl) (Nat.zero_le _) (Nat.zero_le _) dX1_commonDivisor_1 ?_
  refine gx_l (y := lN g) (ab_n hg) ?_
  refine lv_lstore (lv' := [(4, .long (lN g)), (0, .long (lN g)), (2, .long (Int64.ofInt x))]) hx hb dX1_commonDivisor_4 hl (by decide) rfl (fun ls hl => ?_)
  refine lv_lload_n hx hb dX1_commonDivisor_6 rfl (lv_at hl 2 rfl) ?_
  refine va_mabs_long hx hb (by rw [hml]; exact hl.1.symm) hown (hts _ (show Cond.methodLink RX1 119 Lib.MathLoose.abs_long.x ∈ wsX1_commonDivisor by decide +kernel)) (hts _ (show Cond.static Lib.MathLoose.abs_long.x ∈ wsX1_commonDivisor by decide +kernel)) (hts _ (show Cond.initialized "java/lang/Math" ∈ wsX1_commonDivisor by decide +kernel)) (hts _ (show Cond.code Lib.MathLoose.abs_long.x Lib.MathLoose.abs_long.code 2 (some .long) ∈ wsX1_commonDivisor by decide +kernel)) (Nat.le_of_ble_eq_true rfl) (Nat.le_of_ble_eq_true rfl) (Nat.zero_le _) (Nat.zero_le _) dX1_commonDivisor_7 ?_
  refine gx_l (y := lN x.natAbs) (ab_x hx9) ?_
  refine lv_lstore (lv' := [(6, .long (lN x.natAbs)), (4, .long (lN g)), (0, .long (lN g)), (2, .long (Int64.ofInt x))]) hx hb dX1_commonDivisor_10 hl (by decide) rfl (fun ls hl => ?_)
  refine lv_iconst (v := nI 0) hx hb dX1_commonDivisor_12 (by decide) ?_
  refine lv_istore (lv' := [(8, .int (nI 0)), (6, .long (lN x.natAbs)), (4, .long (lN g)), (0, .long (lN g)), (2, .long (Int64.ofInt x))]) hx hb dX1_commonDivisor_13 hl (by decide) rfl (fun ls hl => ?_)
  refine lpX1_commonDivisor (G := Nat.gcd g x.natAbs) C0 hN hA hK (fun i r H locs ls hP hD hS hl => ?_) 101 0 g x.natAbs _ _ _ (by omega) ⟨rfl, hg, hx9, Or.inl rfl⟩ (hP.sub [] rfl) (hD.sub [] (by decide) rfl) hS (lv_sub hl [2, 1, 0] rfl)
  refine lv_lload hx hb dX1_commonDivisor_50 (lv_at hl 0 rfl) ?_
  exact gx_retl hx hb hr hlocks () (rfl) hK (hP.sub [] rfl) (hD.sub [] (by decide) rfl) hS dX1_commonDivisor_52
abbrev rmX1_loadColumns : Room := { frames := 2, cells := 0, slots := 0, locals := 51 }
theorem iw_X1_loadColumns_X1 : ∀ w ∈ wsX10, w ∈ wsX1_loadColumns := by decide +kernel
theorem kw_X1_loadColumns_9 : Cond.fieldLink RX1 9 "FluxModes" "entries" "[I" ∈ wsX1_loadColumns := by decide +kernel
theorem kw_X1_loadColumns_22 : Cond.fieldLink RX1 22 "FluxModes" "reduction" "LFluxModes$Reduction;" ∈ wsX1_loadColumns := by decide +kernel
theorem kw_X1_loadColumns_34 : Cond.fieldLink RX1 34 "FluxModes" "reactions" "I" ∈ wsX1_loadColumns := by decide +kernel
theorem kw_X1_loadColumns_30 : Cond.fieldLink RX1 30 "FluxModes" "metabolites" "I" ∈ wsX1_loadColumns := by decide +kernel
set_option maxHeartbeats 4000000 in
set_option maxRecDepth 100000 in
theorem lpX1_loadColumns {p : Program} {l : Launch} {e : Env} {s : State} {m : MethodId} {args : Array Value} {below : List Frame} {meth : Method} {c : Code} {Q : State → Prop} {D : va_G} {A : Nat → Prop} {H0 : Heap} (C0 : CallFix p m c cX1_loadColumns 3 s args wsX1_loadColumns RX1) (hN : gx_N s) (hA : ∀ q : Nat, H0.size ≤ q → A q) {h0 e1 s1 r1 d1 w1 k1 M R V n S : Nat} {cE cK : ClassId} {E : Nat → Int32} (hM6 : M ≤ 6) (hR8 : R ≤ 8) (hs8 : S < 256) (hK : va_K D vwCl [(cE, .int), (cK, .long)] s) (kk : ∀ (t : Nat) (K : Nat → Int64) (H : Heap) (locs : List Loc) (ls : Array Slot), (t = mx_cnt S R) → (lc_I E S R M K) → va_P D vwCl [(h0, .inr (1, [.ref e1, .int (nI M), .int (nI R), .int (nI V), .ref s1, .ref r1, .int (nI n), .ref d1, .ref w1])), (e1, .inl (cE, 48, .inl E)), (d1, .inr (0, [.ref k1, .int (nI M), .int (nI t), .long 1])), (k1, .inl (cK, 48, .inr (.inl K)))] H → va_D A [(h0, .inr (1, [.ref e1, .int (nI M), .int (nI R), .int (nI V), .ref s1, .ref r1, .int (nI n), .ref d1, .ref w1])), (e1, .inl (cE, 48, .inl E)), (d1, .inr (0, [.ref k1, .int (nI M), .int (nI t), .long 1])), (k1, .inl (cK, 48, .inr (.inl K)))] → va_S A H0 H locs → lv_has ls 3 [(0, .ref h0), (1, .int (nI S)), (2, .int (nI R))] → W p l e rmX1_loadColumns s m args below meth c H locs 0 0 Q (F0 m 47 ls [])) : ∀ (n_ : Nat) (j t : Nat) (K : Nat → Int64) (H : Heap) (locs : List Loc) (ls : Array Slot), (j ≤ R ∧ R < j + n_) → (t = mx_cnt S j ∧ lc_I E S j M K) → va_P D vwCl [(h0, .inr (1, [.ref e1, .int (nI M), .int (nI R), .int (nI V), .ref s1, .ref r1, .int (nI n), .ref d1, .ref w1])), (e1, .inl (cE, 48, .inl E)), (d1, .inr (0, [.ref k1, .int (nI M), .int (nI t), .long 1])), (k1, .inl (cK, 48, .inr (.inl K)))] H → va_D A [(h0, .inr (1, [.ref e1, .int (nI M), .int (nI R), .int (nI V), .ref s1, .ref r1, .int (nI n), .ref d1, .ref w1])), (e1, .inl (cE, 48, .inl E)), (d1, .inr (0, [.ref k1, .int (nI M), .int (nI t), .long 1])), (k1, .inl (cK, 48, .inr (.inl K)))] → va_S A H0 H locs → lv_has ls 3 [(0, .ref h0), (1, .int (nI S)), (2, .int (nI j))] → W p l e rmX1_loadColumns s m args below meth c H locs 0 0 Q (F0 m 13 ls []) := by
  obtain ⟨hx, hb, hml, hown, hts⟩ := id C0
  intro n_
  induction n_ with
  | zero =>
    intro j t K H locs ls hm
    exact absurd hm (by omega)
  | succ n_ ih =>
    intro j t K H locs ls hm ht hP hD hS hl
    refine lv_iload_n hx hb dX1_loadColumns_13 rfl (lv_at hl 2 rfl) ?_
    refine lv_aload_n hx hb dX1_loadColumns_14 rfl (lv_at hl 0 rfl) ?_
    refine va_get (D := D) (ci := 1) (v := .int (nI R)) (C := RX1) (T := TX1) (N := 9) hx hb hts iw_X1_loadColumns_X1 hown hK hP 0 rfl rfl 2 (by decide) (hts _ kw_X1_loadColumns_34) (fun _ h9 => h9) rfl dX1_loadColumns_15 ?_
    refine gx_ge (tgt := 47) hx hb dX1_loadColumns_18 (by decide) (by omega) (by omega) (fun c_18 => ?_) (fun c_18 => ?_)
    · have hjR : j = R := by omega
      subst hjR
      exact kk t K _ _ _ ht.1 ht.2 (hP.sub [0, 1, 2, 3] rfl) (hD.sub [0, 1, 2, 3] (by decide) rfl) hS (lv_sub hl [0, 1, 2] rfl)
    · refine lv_iload_n hx hb dX1_loadColumns_21 rfl (lv_at hl 1 rfl) ?_
      refine lv_iload_n hx hb dX1_loadColumns_22 rfl (lv_at hl 2 rfl) ?_
      refine gx_ji (wr := [(h0, .inr (1, [.ref e1, .int (nI M), .int (nI R), .int (nI V), .ref s1, .ref r1, .int (nI n), .ref d1, .ref w1])), (e1, .inl (cE, 48, .inl E)), (d1, .inr (0, [.ref k1, .int (nI M), .int (nI t), .long 1])), (k1, .inl (cK, 48, .inr (.inl K)))]) (gx_rS (As := [.int (nI S), .int (nI j)]) (rest := []) C0 (kX1_has l D S j hs8 (by omega) _) (va_cwS 2 hts gX1_loadColumns_X1_has rfl rfl rfl (by decide +kernel) ⟨Nat.le_of_ble_eq_true rfl, Nat.le_of_ble_eq_true rfl⟩) hN hK hP hD [] [] rfl rfl (by decide) rfl rfl hl.1 rfl (Nat.le_of_ble_eq_true rfl) dX1_loadColumns_23 ⟨Nat.zero_le _, Nat.zero_le _⟩) hP hD hS hA [] [0, 1, 2, 3] rfl rfl (by decide) (by decide) (fun r u H locs hw hP hD hS => ?_)
      have hw : r = bI (S.testBit j) := hw
      subst hw
      have htj := mx_cnt_le S j
      have hP : va_P D vwCl [(h0, .inr (1, [.ref e1, .int (nI M), .int (nI R), .int (nI V), .ref s1, .ref r1, .int (nI n), .ref d1, .ref w1])), (e1, .inl (cE, 48, .inl E)), (d1, .inr (0, [.ref k1, .int (nI M), .int (nI t), .long 1])), (k1, .inl (cK, 48, .inr (.inl K)))] H := hP
      have hD : va_D A [(h0, .inr (1, [.ref e1, .int (nI M), .int (nI R), .int (nI V), .ref s1, .ref r1, .int (nI n), .ref d1, .ref w1])), (e1, .inl (cE, 48, .inl E)), (d1, .inr (0, [.ref k1, .int (nI M), .int (nI t), .long 1])), (k1, .inl (cK, 48, .inr (.inl K)))] := hD
      refine gx_beq (tgt := 41) hx hb dX1_loadColumns_26 (by decide) (fun c_26 => ?_) (fun c_26 => ?_)
      · refine lv_iinc (v := nI (j + 1)) (lv' := [(2, .int (nI (j + 1))), (0, .ref h0), (1, .int (nI S))]) hx hb dX1_loadColumns_41 hl (k := 2) rfl ((nI_succ j).symm) (by decide) rfl (fun ls hl => ?_)
        refine lv_goto (tgt := 13) hx hb dX1_loadColumns_44 (by decide) ?_
        exact ih (j + 1) t K _ _ _ (by omega) ⟨by rw [ht.1, mx_cnt_out c_26], lc_out c_26 ht.2⟩ (hP.sub [0, 1, 2, 3] rfl) (hD.sub [0, 1, 2, 3] (by decide) rfl) hS (lv_sub hl [1, 2, 0] rfl)
      · refine lv_aload_n hx hb dX1_loadColumns_29 rfl (lv_at hl 0 rfl) ?_
        refine va_get (D := D) (ci := 1) (v := .ref d1) (C := RX1) (T := TX1) (N := 9) hx hb hts iw_X1_loadColumns_X1 hown hK hP 0 rfl rfl 7 (by decide) (hts _ kw_X1_loadColumns_22) (fun _ h9 => h9) rfl dX1_loadColumns_30 ?_
        refine lv_aload_n hx hb dX1_loadColumns_33 rfl (lv_at hl 0 rfl) ?_
        refine va_get (D := D) (ci := 1) (v := .ref e1) (C := RX1) (T := TX1) (N := 9) hx hb hts iw_X1_loadColumns_X1 hown hK hP 0 rfl rfl 0 (by decide) (hts _ kw_X1_loadColumns_9) (fun _ h9 => h9) rfl dX1_loadColumns_34 ?_
        refine lv_iload_n hx hb dX1_loadColumns_37 rfl (lv_at hl 2 rfl) ?_
        refine gx_jv (wr := [(h0, .inr (1, [.ref e1, .int (nI M), .int (nI R), .int (nI V), .ref s1, .ref r1, .int (nI n), .ref d1, .ref w1]))]) (gx_rV (As := [.ref e1, .int (nI j)]) (rest := []) C0 (kX0_addColumn l D d1 k1 e1 M t j 1 cK cE E K hM6 (by omega) (by omega) _) (cwV 2 hts gX1_loadColumns_X0_addColumn rfl rfl rfl (by decide +kernel) ⟨Nat.le_of_ble_eq_true rfl, Nat.le_of_ble_eq_true rfl⟩) hN hK hP hD [2, 3, 1] [1, 0] rfl rfl (by decide) rfl 0 rfl rfl rfl rfl hl.1 rfl (Nat.le_of_ble_eq_true rfl) dX1_loadColumns_38 ⟨Nat.zero_le _, Nat.zero_le _⟩) hP hD hS hA [2, 3, 1] [0] rfl rfl (by decide) (by decide) (fun u H locs hw hP hD hS => ?_)
        have hw : ac_I K u E t j M := hw
        have hP : va_P D vwCl [(h0, .inr (1, [.ref e1, .int (nI M), .int (nI R), .int (nI V), .ref s1, .ref r1, .int (nI n), .ref d1, .ref w1])), (d1, .inr (0, [.ref k1, .int (nI M), .int (nI (t + 1)), .long 1])), (k1, .inl (cK, 48, .inr (.inl u))), (e1, .inl (cE, 48, .inl E))] H := hP
        have hD : va_D A [(h0, .inr (1, [.ref e1, .int (nI M), .int (nI R), .int (nI V), .ref s1, .ref r1, .int (nI n), .ref d1, .ref w1])), (d1, .inr (0, [.ref k1, .int (nI M), .int (nI (t + 1)), .long 1])), (k1, .inl (cK, 48, .inr (.inl u))), (e1, .inl (cE, 48, .inl E))] := hD
        refine lv_iinc (v := nI (j + 1)) (lv' := [(2, .int (nI (j + 1))), (0, .ref h0), (1, .int (nI S))]) hx hb dX1_loadColumns_41 hl (k := 2) rfl ((nI_succ j).symm) (by decide) rfl (fun ls hl => ?_)
        refine lv_goto (tgt := 13) hx hb dX1_loadColumns_44 (by decide) ?_
        exact ih (j + 1) (t + 1) u _ _ _ (by omega) ⟨by rw [ht.1, mx_cnt_in c_26], lc_in (by omega) c_26 ht.2 (ht.1 ▸ hw)⟩ (hP.sub [0, 3, 1, 2] rfl) (hD.sub [0, 3, 1, 2] (by decide) rfl) hS (lv_sub hl [1, 2, 0] rfl)
set_option maxHeartbeats 4000000 in
set_option maxRecDepth 100000 in
theorem kX1_loadColumns (l : Launch) (D : va_G) (h0 e1 s1 r1 d1 w1 k1 M R V n S w t : Nat) (pv : Int64) (cE cK : ClassId) (E : Nat → Int32) (K : Nat → Int64) (hM6 : M ≤ 6) (hR8 : R ≤ 8) (hs8 : S < 256) : gx_Mv l D yX1_loadColumns wsX1_loadColumns rmX1_loadColumns [.ref h0, .int (nI S)] [(cE, .int), (cK, .long)] [(h0, .inr (1, [.ref e1, .int (nI M), .int (nI R), .int (nI V), .ref s1, .ref r1, .int (nI n), .ref d1, .ref w1])), (e1, .inl (cE, 48, .inl E)), (d1, .inr (0, [.ref k1, .int (nI w), .int (nI t), .long pv])), (k1, .inl (cK, 48, .inr (.inl K)))] (S := Nat × (Nat → Int64)) (fun (u : Nat × (Nat → Int64)) => u.1 = mx_cnt S R ∧ lc_I E S R M u.2) (fun (u : Nat × (Nat → Int64)) => [(h0, .inr (1, [.ref e1, .int (nI M), .int (nI R), .int (nI V), .ref s1, .ref r1, .int (nI n), .ref d1, .ref w1])), (e1, .inl (cE, 48, .inl E)), (d1, .inr (0, [.ref k1, .int (nI M), .int (nI (u.1)), .long 1])), (k1, .inl (cK, 48, .inr (.inl u.2)))]) := by
  intro sz
  refine gx_start (cc := cX1_loadColumns) (maxL := 3) (ret := none) (Qc := fun A => va_Qv (fun (u : Nat × (Nat → Int64)) => u.1 = mx_cnt S R ∧ lc_I E S R M u.2) (gx_B D [(cE, .int), (cK, .long)] A (fun (u : Nat × (Nat → Int64)) => [(h0, .inr (1, [.ref e1, .int (nI M), .int (nI R), .int (nI V), .ref s1, .ref r1, .int (nI n), .ref d1, .ref w1])), (e1, .inl (cE, 48, .inl E)), (d1, .inr (0, [.ref k1, .int (nI M), .int (nI (u.1)), .long 1])), (k1, .inl (cK, 48, .inr (.inl u.2)))])) A) (by decide) rfl (Nat.le_of_ble_eq_true rfl) ?_ sz
  intro p e s m below meth c A hbody ls hl
  obtain ⟨C0, hr, hlocks, hN, hK, hP, hD, hA⟩ := hbody
  have C0 : CallFix p m c cX1_loadColumns 3 s ([.ref h0, .int (nI S)] : List Value).toArray wsX1_loadColumns RX1 := C0
  obtain ⟨hx, hb, hml, hown, hts⟩ := id C0
  have hS : va_S A s.heap s.heap [] := va_S.rf
  have hl : lv_has ls 3 [(0, .ref h0), (1, .int (nI S))] := hl
  refine lv_aload_n hx hb dX1_loadColumns_0 rfl (lv_at hl 0 rfl) ?_
  refine va_get (D := D) (ci := 1) (v := .ref d1) (C := RX1) (T := TX1) (N := 9) hx hb hts iw_X1_loadColumns_X1 hown hK hP 0 rfl rfl 7 (by decide) (hts _ kw_X1_loadColumns_22) (fun _ h9 => h9) rfl dX1_loadColumns_1 ?_
  refine lv_aload_n hx hb dX1_loadColumns_4 rfl (lv_at hl 0 rfl) ?_
  refine va_get (D := D) (ci := 1) (v := .int (nI M)) (C := RX1) (T := TX1) (N := 9) hx hb hts iw_X1_loadColumns_X1 hown hK hP 0 rfl rfl 1 (by decide) (hts _ kw_X1_loadColumns_30) (fun _ h9 => h9) rfl dX1_loadColumns_5 ?_
  refine gx_jv (wr := [(h0, .inr (1, [.ref e1, .int (nI M), .int (nI R), .int (nI V), .ref s1, .ref r1, .int (nI n), .ref d1, .ref w1])), (e1, .inl (cE, 48, .inl E)), (k1, .inl (cK, 48, .inr (.inl K)))]) (gx_rV (As := [.int (nI M)]) (rest := []) C0 (kX0_begin l D d1 k1 w t pv M hM6 _) (cwV 1 hts gX1_loadColumns_X0_begin rfl rfl rfl (by decide +kernel) ⟨Nat.le_of_ble_eq_true rfl, Nat.le_of_ble_eq_true rfl⟩) hN hK hP hD [2] [] rfl rfl (by decide) rfl 0 rfl rfl rfl rfl hl.1 rfl (Nat.le_of_ble_eq_true rfl) dX1_loadColumns_8 ⟨Nat.zero_le _, Nat.zero_le _⟩) hP hD hS hA [2] [0, 1, 3] rfl rfl (by decide) (by decide) (fun u H locs hw hP hD hS => ?_)
  have hP : va_P D vwCl [(h0, .inr (1, [.ref e1, .int (nI M), .int (nI R), .int (nI V), .ref s1, .ref r1, .int (nI n), .ref d1, .ref w1])), (e1, .inl (cE, 48, .inl E)), (k1, .inl (cK, 48, .inr (.inl K))), (d1, .inr (0, [.ref k1, .int (nI M), .int (nI 0), .long 1]))] H := hP
  have hD : va_D A [(h0, .inr (1, [.ref e1, .int (nI M), .int (nI R), .int (nI V), .ref s1, .ref r1, .int (nI n), .ref d1, .ref w1])), (e1, .inl (cE, 48, .inl E)), (k1, .inl (cK, 48, .inr (.inl K))), (d1, .inr (0, [.ref k1, .int (nI M), .int (nI 0), .long 1]))] := hD
  refine lv_iconst (v := nI 0) hx hb dX1_loadColumns_11 (by decide) ?_
  refine lv_istore_n (lv' := [(2, .int (nI 0)), (0, .ref h0), (1, .int (nI S))]) hx hb dX1_loadColumns_12 rfl hl (by decide) rfl (fun ls hl => ?_)
  refine lpX1_loadColumns C0 hN hA hM6 hR8 hs8 hK (fun t1 K1 H locs ls g1 g2 hP hD hS hl => ?_) (R + 1) 0 0 K _ _ _ (by omega) ⟨rfl, lc_0 E S M K⟩ (hP.sub [0, 1, 3, 2] rfl) (hD.sub [0, 1, 3, 2] (by decide) rfl) hS (lv_sub hl [1, 2, 0] rfl)
  exact gx_retv hx hb hr hlocks (t1, K1) (⟨g1, g2⟩) hK (hP.sub [0, 1, 2, 3] rfl) (hD.sub [0, 1, 2, 3] (by decide) rfl) hS dX1_loadColumns_47
abbrev rmX1_readFlow : Room := { frames := 1, cells := 0, slots := 0, locals := 22 }
theorem iw_X1_readFlow_X1 : ∀ w ∈ wsX10, w ∈ wsX1_readFlow := by decide +kernel
theorem kw_X1_readFlow_22 : Cond.fieldLink RX1 22 "FluxModes" "reduction" "LFluxModes$Reduction;" ∈ wsX1_readFlow := by decide +kernel
theorem kw_X1_readFlow_26 : Cond.fieldLink RX1 26 "FluxModes" "flow" "[J" ∈ wsX1_readFlow := by decide +kernel
set_option maxHeartbeats 4000000 in
set_option maxRecDepth 100000 in
theorem lpX1_readFlow {p : Program} {l : Launch} {e : Env} {s : State} {m : MethodId} {args : Array Value} {below : List Frame} {meth : Method} {c : Code} {Q : State → Prop} {D : va_G} {A : Nat → Prop} {H0 : Heap} (C0 : CallFix p m c cX1_readFlow 4 s args wsX1_readFlow RX1) (hN : gx_N s) (hA : ∀ q : Nat, H0.size ≤ q → A q) {h0 e1 s1 r1 d1 w1 k1 M R V n S w T : Nat} {pv : Int64} {cK cW : ClassId} {K : Nat → Int64} (hw6 : w ≤ 6) (hT8 : T ≤ 8) (hT1 : 1 ≤ T) (hs8 : S < 256) (hK : va_K D vwCl [(cK, .long), (cW, .long)] s) (kk : ∀ (t : Nat) (F : Nat → Int64) (H : Heap) (locs : List Loc) (ls : Array Slot), (fs_I S (fa K pv w T) F 8) → va_P D vwCl [(h0, .inr (1, [.ref e1, .int (nI M), .int (nI R), .int (nI V), .ref s1, .ref r1, .int (nI n), .ref d1, .ref w1])), (d1, .inr (0, [.ref k1, .int (nI w), .int (nI T), .long pv])), (k1, .inl (cK, 48, .inr (.inl K))), (w1, .inl (cW, 8, .inr (.inl F)))] H → va_D A [(h0, .inr (1, [.ref e1, .int (nI M), .int (nI R), .int (nI V), .ref s1, .ref r1, .int (nI n), .ref d1, .ref w1])), (d1, .inr (0, [.ref k1, .int (nI w), .int (nI T), .long pv])), (k1, .inl (cK, 48, .inr (.inl K))), (w1, .inl (cW, 8, .inr (.inl F)))] → va_S A H0 H locs → lv_has ls 4 [(0, .ref h0), (1, .int (nI S)), (2, .int (nI t)), (3, .int (nI 8))] → W p l e rmX1_readFlow s m args below meth c H locs 0 0 Q (F0 m 51 ls [])) : ∀ (n_ : Nat) (j t : Nat) (F : Nat → Int64) (H : Heap) (locs : List Loc) (ls : Array Slot), (j ≤ 8 ∧ 8 < j + n_) → (t = mx_cnt S j ∧ fs_I S (fa K pv w T) F j) → va_P D vwCl [(h0, .inr (1, [.ref e1, .int (nI M), .int (nI R), .int (nI V), .ref s1, .ref r1, .int (nI n), .ref d1, .ref w1])), (d1, .inr (0, [.ref k1, .int (nI w), .int (nI T), .long pv])), (k1, .inl (cK, 48, .inr (.inl K))), (w1, .inl (cW, 8, .inr (.inl F)))] H → va_D A [(h0, .inr (1, [.ref e1, .int (nI M), .int (nI R), .int (nI V), .ref s1, .ref r1, .int (nI n), .ref d1, .ref w1])), (d1, .inr (0, [.ref k1, .int (nI w), .int (nI T), .long pv])), (k1, .inl (cK, 48, .inr (.inl K))), (w1, .inl (cW, 8, .inr (.inl F)))] → va_S A H0 H locs → lv_has ls 4 [(0, .ref h0), (1, .int (nI S)), (2, .int (nI t)), (3, .int (nI j))] → W p l e rmX1_readFlow s m args below meth c H locs 0 0 Q (F0 m 4 ls []) := by
  obtain ⟨hx, hb, hml, hown, hts⟩ := id C0
  intro n_
  induction n_ with
  | zero =>
    intro j t F H locs ls hm
    exact absurd hm (by omega)
  | succ n_ ih =>
    intro j t F H locs ls hm ht hP hD hS hl
    refine lv_iload_n hx hb dX1_readFlow_4 rfl (lv_at hl 3 rfl) ?_
    refine lv_bipush (v := nI 8) hx hb dX1_readFlow_5 (by decide) ?_
    refine gx_ge (tgt := 51) hx hb dX1_readFlow_7 (by decide) (by omega) (by omega) (fun c_7 => ?_) (fun c_7 => ?_)
    · have hj8 : j = 8 := by omega
      subst hj8
      exact kk t F _ _ _ ht.2 (hP.sub [0, 1, 2, 3] rfl) (hD.sub [0, 1, 2, 3] (by decide) rfl) hS (lv_sub hl [0, 1, 2, 3] rfl)
    · refine lv_iload_n hx hb dX1_readFlow_10 rfl (lv_at hl 1 rfl) ?_
      refine lv_iload_n hx hb dX1_readFlow_11 rfl (lv_at hl 3 rfl) ?_
      refine gx_ji (wr := [(h0, .inr (1, [.ref e1, .int (nI M), .int (nI R), .int (nI V), .ref s1, .ref r1, .int (nI n), .ref d1, .ref w1])), (d1, .inr (0, [.ref k1, .int (nI w), .int (nI T), .long pv])), (k1, .inl (cK, 48, .inr (.inl K))), (w1, .inl (cW, 8, .inr (.inl F)))]) (gx_rS (As := [.int (nI S), .int (nI j)]) (rest := []) C0 (kX1_has l D S j hs8 (by omega) _) (va_cwS 2 hts gX1_readFlow_X1_has rfl rfl rfl (by decide +kernel) ⟨Nat.le_of_ble_eq_true rfl, Nat.le_of_ble_eq_true rfl⟩) hN hK hP hD [] [] rfl rfl (by decide) rfl rfl hl.1 rfl (Nat.le_of_ble_eq_true rfl) dX1_readFlow_12 ⟨Nat.zero_le _, Nat.zero_le _⟩) hP hD hS hA [] [0, 1, 2, 3] rfl rfl (by decide) (by decide) (fun r u H locs hw hP hD hS => ?_)
      have hw : r = bI (S.testBit j) := hw
      subst hw
      have htj := mx_cnt_le S j
      have hP : va_P D vwCl [(h0, .inr (1, [.ref e1, .int (nI M), .int (nI R), .int (nI V), .ref s1, .ref r1, .int (nI n), .ref d1, .ref w1])), (d1, .inr (0, [.ref k1, .int (nI w), .int (nI T), .long pv])), (k1, .inl (cK, 48, .inr (.inl K))), (w1, .inl (cW, 8, .inr (.inl F)))] H := hP
      have hD : va_D A [(h0, .inr (1, [.ref e1, .int (nI M), .int (nI R), .int (nI V), .ref s1, .ref r1, .int (nI n), .ref d1, .ref w1])), (d1, .inr (0, [.ref k1, .int (nI w), .int (nI T), .long pv])), (k1, .inl (cK, 48, .inr (.inl K))), (w1, .inl (cW, 8, .inr (.inl F)))] := hD
      refine gx_beq (tgt := 38) hx hb dX1_readFlow_15 (by decide) (fun c_15 => ?_) (fun c_15 => ?_)
      · refine lv_aload_n hx hb dX1_readFlow_38 rfl (lv_at hl 0 rfl) ?_
        refine va_get (D := D) (ci := 1) (v := .ref w1) (C := RX1) (T := TX1) (N := 9) hx hb hts iw_X1_readFlow_X1 hown hK hP 0 rfl rfl 8 (by decide) (hts _ kw_X1_readFlow_26) (fun _ h9 => h9) rfl dX1_readFlow_39 ?_
        refine lv_iload_n hx hb dX1_readFlow_42 rfl (lv_at hl 3 rfl) ?_
        refine lv_lconst (v := 0) hx hb dX1_readFlow_43 (by decide) ?_
        refine gx_last (q := j) hx hb hK hP hD hS 3 1 rfl rfl (rfl) (by omega) (by decide) dX1_readFlow_44 (fun H locs hP hD hS => ?_)
        have hP : va_P D vwCl [(h0, .inr (1, [.ref e1, .int (nI M), .int (nI R), .int (nI V), .ref s1, .ref r1, .int (nI n), .ref d1, .ref w1])), (d1, .inr (0, [.ref k1, .int (nI w), .int (nI T), .long pv])), (k1, .inl (cK, 48, .inr (.inl K))), (w1, .inl (cW, 8, .inr (.inl (vp_updL F j 0))))] H := hP
        have hD : va_D A [(h0, .inr (1, [.ref e1, .int (nI M), .int (nI R), .int (nI V), .ref s1, .ref r1, .int (nI n), .ref d1, .ref w1])), (d1, .inr (0, [.ref k1, .int (nI w), .int (nI T), .long pv])), (k1, .inl (cK, 48, .inr (.inl K))), (w1, .inl (cW, 8, .inr (.inl (vp_updL F j 0))))] := hD
        refine lv_iinc (v := nI (j + 1)) (lv' := [(3, .int (nI (j + 1))), (0, .ref h0), (1, .int (nI S)), (2, .int (nI t))]) hx hb dX1_readFlow_45 hl (k := 3) rfl ((nI_succ j).symm) (by decide) rfl (fun ls hl => ?_)
        refine lv_goto (tgt := 4) hx hb dX1_readFlow_48 (by decide) ?_
        exact ih (j + 1) t _ _ _ _ (by omega) ⟨by rw [ht.1, mx_cnt_out c_15], fs_out c_15 ht.2⟩ (hP.sub [0, 1, 2, 3] rfl) (hD.sub [0, 1, 2, 3] (by decide) rfl) hS (lv_sub hl [1, 2, 3, 0] rfl)
      · refine lv_aload_n hx hb dX1_readFlow_18 rfl (lv_at hl 0 rfl) ?_
        refine va_get (D := D) (ci := 1) (v := .ref w1) (C := RX1) (T := TX1) (N := 9) hx hb hts iw_X1_readFlow_X1 hown hK hP 0 rfl rfl 8 (by decide) (hts _ kw_X1_readFlow_26) (fun _ h9 => h9) rfl dX1_readFlow_19 ?_
        refine lv_iload_n hx hb dX1_readFlow_22 rfl (lv_at hl 3 rfl) ?_
        refine lv_aload_n hx hb dX1_readFlow_23 rfl (lv_at hl 0 rfl) ?_
        refine va_get (D := D) (ci := 1) (v := .ref d1) (C := RX1) (T := TX1) (N := 9) hx hb hts iw_X1_readFlow_X1 hown hK hP 0 rfl rfl 7 (by decide) (hts _ kw_X1_readFlow_22) (fun _ h9 => h9) rfl dX1_readFlow_24 ?_
        refine lv_iload_n hx hb dX1_readFlow_27 rfl (lv_at hl 2 rfl) ?_
        refine gx_jl (wr := [(h0, .inr (1, [.ref e1, .int (nI M), .int (nI R), .int (nI V), .ref s1, .ref r1, .int (nI n), .ref d1, .ref w1])), (w1, .inl (cW, 8, .inr (.inl F)))]) (gx_rV (As := [.int (nI t)]) (rest := [.int (nI j), .ref w1]) C0 (kX0_flowAt l D d1 k1 w T t pv cK K hw6 hT8 hT1 (by omega) _) (cwV 1 hts gX1_readFlow_X0_flowAt rfl rfl rfl (by decide +kernel) ⟨Nat.le_of_ble_eq_true rfl, Nat.le_of_ble_eq_true rfl⟩) hN hK hP hD [1, 2] [0] rfl rfl (by decide) rfl 0 rfl rfl rfl rfl hl.1 rfl (Nat.le_of_ble_eq_true rfl) dX1_readFlow_28 ⟨Nat.zero_le _, Nat.zero_le _⟩) hP hD hS hA [1, 2] [0, 3] rfl rfl (by decide) (by decide) (fun rq u H locs hw hP hD hS => ?_)
        have hw : rq = fa K pv w T t := hw
        subst hw
        have hP : va_P D vwCl [(h0, .inr (1, [.ref e1, .int (nI M), .int (nI R), .int (nI V), .ref s1, .ref r1, .int (nI n), .ref d1, .ref w1])), (w1, .inl (cW, 8, .inr (.inl F))), (d1, .inr (0, [.ref k1, .int (nI w), .int (nI T), .long pv])), (k1, .inl (cK, 48, .inr (.inl K)))] H := hP
        have hD : va_D A [(h0, .inr (1, [.ref e1, .int (nI M), .int (nI R), .int (nI V), .ref s1, .ref r1, .int (nI n), .ref d1, .ref w1])), (w1, .inl (cW, 8, .inr (.inl F))), (d1, .inr (0, [.ref k1, .int (nI w), .int (nI T), .long pv])), (k1, .inl (cK, 48, .inr (.inl K)))] := hD
        refine gx_last (q := j) hx hb hK hP hD hS 1 1 rfl rfl (rfl) (by omega) (by decide) dX1_readFlow_31 (fun H locs hP hD hS => ?_)
        have hP : va_P D vwCl [(h0, .inr (1, [.ref e1, .int (nI M), .int (nI R), .int (nI V), .ref s1, .ref r1, .int (nI n), .ref d1, .ref w1])), (w1, .inl (cW, 8, .inr (.inl (vp_updL F j (fa K pv w T t))))), (d1, .inr (0, [.ref k1, .int (nI w), .int (nI T), .long pv])), (k1, .inl (cK, 48, .inr (.inl K)))] H := hP
        have hD : va_D A [(h0, .inr (1, [.ref e1, .int (nI M), .int (nI R), .int (nI V), .ref s1, .ref r1, .int (nI n), .ref d1, .ref w1])), (w1, .inl (cW, 8, .inr (.inl (vp_updL F j (fa K pv w T t))))), (d1, .inr (0, [.ref k1, .int (nI w), .int (nI T), .long pv])), (k1, .inl (cK, 48, .inr (.inl K)))] := hD
        refine lv_iinc (v := nI (t + 1)) (lv' := [(2, .int (nI (t + 1))), (0, .ref h0), (1, .int (nI S)), (3, .int (nI j))]) hx hb dX1_readFlow_32 hl (k := 2) rfl ((nI_succ t).symm) (by decide) rfl (fun ls hl => ?_)
        refine lv_goto (tgt := 45) hx hb dX1_readFlow_35 (by decide) ?_
        refine lv_iinc (v := nI (j + 1)) (lv' := [(3, .int (nI (j + 1))), (2, .int (nI (t + 1))), (0, .ref h0), (1, .int (nI S))]) hx hb dX1_readFlow_45 hl (k := 3) rfl ((nI_succ j).symm) (by decide) rfl (fun ls hl => ?_)
        refine lv_goto (tgt := 4) hx hb dX1_readFlow_48 (by decide) ?_
        exact ih (j + 1) (t + 1) _ _ _ _ (by omega) ⟨by rw [ht.1, mx_cnt_in c_15], ht.1 ▸ fs_in c_15 ht.2⟩ (hP.sub [0, 2, 3, 1] rfl) (hD.sub [0, 2, 3, 1] (by decide) rfl) hS (lv_sub hl [2, 3, 1, 0] rfl)
set_option maxHeartbeats 4000000 in
set_option maxRecDepth 100000 in
theorem kX1_readFlow (l : Launch) (D : va_G) (h0 e1 s1 r1 d1 w1 k1 M R V n S w T : Nat) (pv : Int64) (cK cW : ClassId) (K F : Nat → Int64) (hw6 : w ≤ 6) (hT8 : T ≤ 8) (hT1 : 1 ≤ T) (hs8 : S < 256) : gx_Mv l D yX1_readFlow wsX1_readFlow rmX1_readFlow [.ref h0, .int (nI S)] [(cK, .long), (cW, .long)] [(h0, .inr (1, [.ref e1, .int (nI M), .int (nI R), .int (nI V), .ref s1, .ref r1, .int (nI n), .ref d1, .ref w1])), (d1, .inr (0, [.ref k1, .int (nI w), .int (nI T), .long pv])), (k1, .inl (cK, 48, .inr (.inl K))), (w1, .inl (cW, 8, .inr (.inl F)))] (S := Nat → Int64) (fun (u : Nat → Int64) => fs_I S (fa K pv w T) u 8) (fun (u : Nat → Int64) => [(h0, .inr (1, [.ref e1, .int (nI M), .int (nI R), .int (nI V), .ref s1, .ref r1, .int (nI n), .ref d1, .ref w1])), (d1, .inr (0, [.ref k1, .int (nI w), .int (nI T), .long pv])), (k1, .inl (cK, 48, .inr (.inl K))), (w1, .inl (cW, 8, .inr (.inl u)))]) := by
  intro sz
  refine gx_start (cc := cX1_readFlow) (maxL := 4) (ret := none) (Qc := fun A => va_Qv (fun (u : Nat → Int64) => fs_I S (fa K pv w T) u 8) (gx_B D [(cK, .long), (cW, .long)] A (fun (u : Nat → Int64) => [(h0, .inr (1, [.ref e1, .int (nI M), .int (nI R), .int (nI V), .ref s1, .ref r1, .int (nI n), .ref d1, .ref w1])), (d1, .inr (0, [.ref k1, .int (nI w), .int (nI T), .long pv])), (k1, .inl (cK, 48, .inr (.inl K))), (w1, .inl (cW, 8, .inr (.inl u)))])) A) (by decide) rfl (Nat.le_of_ble_eq_true rfl) ?_ sz
  intro p e s m below meth c A hbody ls hl
  obtain ⟨C0, hr, hlocks, hN, hK, hP, hD, hA⟩ := hbody
  have C0 : CallFix p m c cX1_readFlow 4 s ([.ref h0, .int (nI S)] : List Value).toArray wsX1_readFlow RX1 := C0
  obtain ⟨hx, hb, hml, hown, hts⟩ := id C0
  have hS : va_S A s.heap s.heap [] := va_S.rf
  have hl : lv_has ls 4 [(0, .ref h0), (1, .int (nI S))] := hl
  refine lv_iconst (v := nI 0) hx hb dX1_readFlow_0 (by decide) ?_
  refine lv_istore_n (lv' := [(2, .int (nI 0)), (0, .ref h0), (1, .int (nI S))]) hx hb dX1_readFlow_1 rfl hl (by decide) rfl (fun ls hl => ?_)
  refine lv_iconst (v := nI 0) hx hb dX1_readFlow_2 (by decide) ?_
  refine lv_istore_n (lv' := [(3, .int (nI 0)), (2, .int (nI 0)), (0, .ref h0), (1, .int (nI S))]) hx hb dX1_readFlow_3 rfl hl (by decide) rfl (fun ls hl => ?_)
  refine lpX1_readFlow C0 hN hA hw6 hT8 hT1 hs8 hK (fun t1 F1 H locs ls g1 hP hD hS hl => ?_) 9 0 0 F _ _ _ (by omega) ⟨rfl, fs_0 _ _ _⟩ (hP.sub [0, 1, 2, 3] rfl) (hD.sub [0, 1, 2, 3] (by decide) rfl) hS (lv_sub hl [2, 3, 1, 0] rfl)
  exact gx_retv hx hb hr hlocks F1 (g1) hK (hP.sub [0, 1, 2, 3] rfl) (hD.sub [0, 1, 2, 3] (by decide) rfl) hS dX1_readFlow_51
abbrev rmX1_allowedDirection : Room := { frames := 0, cells := 0, slots := 0, locals := 0 }
theorem iw_X1_allowedDirection_X1 : ∀ w ∈ wsX10, w ∈ wsX1_allowedDirection := by decide +kernel
theorem kw_X1_allowedDirection_26 : Cond.fieldLink RX1 26 "FluxModes" "flow" "[J" ∈ wsX1_allowedDirection := by decide +kernel
theorem kw_X1_allowedDirection_37 : Cond.fieldLink RX1 37 "FluxModes" "reversibleSet" "I" ∈ wsX1_allowedDirection := by decide +kernel
set_option maxHeartbeats 4000000 in
set_option maxRecDepth 100000 in
theorem lpX1_allowedDirection {p : Program} {l : Launch} {e : Env} {s : State} {m : MethodId} {args : Array Value} {below : List Frame} {meth : Method} {c : Code} {Q : State → Prop} {D : va_G} {A : Nat → Prop} {H0 : Heap} (C0 : CallFix p m c cX1_allowedDirection 6 s args wsX1_allowedDirection RX1) (hN : gx_N s) (hA : ∀ q : Nat, H0.size ≤ q → A q) {h0 e1 s1 r1 d1 w1 M R V n S : Nat} {cW : ClassId} {F : Nat → Int64} (hs8 : S < 256) (hK : va_K D vwCl [(cW, .long)] s) (kk : ∀ (H : Heap) (locs : List Loc) (ls : Array Slot), va_P D vwCl [(h0, .inr (1, [.ref e1, .int (nI M), .int (nI R), .int (nI V), .ref s1, .ref r1, .int (nI n), .ref d1, .ref w1])), (w1, .inl (cW, 8, .inr (.inl F)))] H → va_D A [(h0, .inr (1, [.ref e1, .int (nI M), .int (nI R), .int (nI V), .ref s1, .ref r1, .int (nI n), .ref d1, .ref w1])), (w1, .inl (cW, 8, .inr (.inl F)))] → va_S A H0 H locs → lv_has ls 6 [(0, .ref h0), (1, .int (nI S)), (2, .int (nI (fwm (fun j => decide (0 < F j)) 8))), (3, .int (nI 8))] → W p l e rmX1_allowedDirection s m args below meth c H locs 0 0 Q (F0 m 33 ls [])) : ∀ (n_ : Nat) (j fw : Nat) (H : Heap) (locs : List Loc) (ls : Array Slot), (j ≤ 8 ∧ 8 < j + n_) → (fw = fwm (fun j => decide (0 < F j)) j) → va_P D vwCl [(h0, .inr (1, [.ref e1, .int (nI M), .int (nI R), .int (nI V), .ref s1, .ref r1, .int (nI n), .ref d1, .ref w1])), (w1, .inl (cW, 8, .inr (.inl F)))] H → va_D A [(h0, .inr (1, [.ref e1, .int (nI M), .int (nI R), .int (nI V), .ref s1, .ref r1, .int (nI n), .ref d1, .ref w1])), (w1, .inl (cW, 8, .inr (.inl F)))] → va_S A H0 H locs → lv_has ls 6 [(0, .ref h0), (1, .int (nI S)), (2, .int (nI fw)), (3, .int (nI j))] → W p l e rmX1_allowedDirection s m args below meth c H locs 0 0 Q (F0 m 4 ls []) := by
  obtain ⟨hx, hb, hml, hown, hts⟩ := id C0
  intro n_
  induction n_ with
  | zero =>
    intro j fw H locs ls hm
    exact absurd hm (by omega)
  | succ n_ ih =>
    intro j fw H locs ls hm hI hP hD hS hl
    refine lv_iload_n hx hb dX1_allowedDirection_4 rfl (lv_at hl 3 rfl) ?_
    refine lv_bipush (v := nI 8) hx hb dX1_allowedDirection_5 (by decide) ?_
    refine gx_ge (tgt := 33) hx hb dX1_allowedDirection_7 (by decide) (by omega) (by omega) (fun c_7 => ?_) (fun c_7 => ?_)
    · have hj8 : j = 8 := by omega
      subst hj8
      subst hI
      exact kk _ _ _ (hP.sub [0, 1] rfl) (hD.sub [0, 1] (by decide) rfl) hS (lv_sub hl [0, 1, 2, 3] rfl)
    · refine lv_aload_n hx hb dX1_allowedDirection_10 rfl (lv_at hl 0 rfl) ?_
      refine va_get (D := D) (ci := 1) (v := .ref w1) (C := RX1) (T := TX1) (N := 9) hx hb hts iw_X1_allowedDirection_X1 hown hK hP 0 rfl rfl 8 (by decide) (hts _ kw_X1_allowedDirection_26) (fun _ h9 => h9) rfl dX1_allowedDirection_11 ?_
      refine lv_iload_n hx hb dX1_allowedDirection_14 rfl (lv_at hl 3 rfl) ?_
      refine gx_lald (q := j) hx hb hK hP 1 0 rfl rfl (rfl) (by omega) (by decide) dX1_allowedDirection_15 ?_
      refine lv_lconst (v := 0) hx hb dX1_allowedDirection_16 (by decide) ?_
      refine W.lcmp hx hb dX1_allowedDirection_17 ?_
      refine lv_if_le (tgt := 27) hx hb dX1_allowedDirection_18 (by decide) (fun c_18 => ?_) (fun c_18 => ?_)
      · refine lv_iinc (v := nI (j + 1)) (lv' := [(3, .int (nI (j + 1))), (0, .ref h0), (1, .int (nI S)), (2, .int (nI fw))]) hx hb dX1_allowedDirection_27 hl (k := 3) rfl ((nI_succ j).symm) (by decide) rfl (fun ls hl => ?_)
        refine lv_goto (tgt := 4) hx hb dX1_allowedDirection_30 (by decide) ?_
        have hz : decide (0 < F j) = false := decide_eq_false ((gx_cmp_le _ _).mp c_18)
        exact ih (j + 1) fw _ _ _ (by omega) (by rw [fwm_out (P := (fun j => decide (0 < F j))) hz]; exact hI) (hP.sub [0, 1] rfl) (hD.sub [0, 1] (by decide) rfl) hS (lv_sub hl [1, 2, 3, 0] rfl)
      · refine lv_iload_n hx hb dX1_allowedDirection_21 rfl (lv_at hl 2 rfl) ?_
        refine lv_iconst (v := nI 1) hx hb dX1_allowedDirection_22 (by decide) ?_
        refine lv_iload_n hx hb dX1_allowedDirection_23 rfl (lv_at hl 3 rfl) ?_
        refine lv_ishl hx hb dX1_allowedDirection_24 ?_
        refine gx_i (y := nI (2 ^ j)) (nx_shl1 j (by omega)) ?_
        refine lv_ior hx hb dX1_allowedDirection_25 ?_
        refine gx_i (y := nI (fw ||| 2 ^ j)) (nx_or fw (2 ^ j)) ?_
        refine lv_istore_n (lv' := [(2, .int (nI (fw ||| 2 ^ j))), (0, .ref h0), (1, .int (nI S)), (3, .int (nI j))]) hx hb dX1_allowedDirection_26 rfl hl (by decide) rfl (fun ls hl => ?_)
        refine lv_iinc (v := nI (j + 1)) (lv' := [(3, .int (nI (j + 1))), (2, .int (nI (fw ||| 2 ^ j))), (0, .ref h0), (1, .int (nI S))]) hx hb dX1_allowedDirection_27 hl (k := 3) rfl ((nI_succ j).symm) (by decide) rfl (fun ls hl => ?_)
        refine lv_goto (tgt := 4) hx hb dX1_allowedDirection_30 (by decide) ?_
        have hz : decide (0 < F j) = true := decide_eq_true (Classical.byContradiction (fun q => c_18 ((gx_cmp_le _ _).mpr q)))
        exact ih (j + 1) (fw ||| 2 ^ j) _ _ _ (by omega) (by rw [fwm_in (P := (fun j => decide (0 < F j))) hz, hI]) (hP.sub [0, 1] rfl) (hD.sub [0, 1] (by decide) rfl) hS (lv_sub hl [2, 3, 1, 0] rfl)
set_option maxHeartbeats 4000000 in
set_option maxRecDepth 100000 in
theorem kX1_allowedDirection (l : Launch) (D : va_G) (h0 e1 s1 r1 d1 w1 M R V n S : Nat) (cW : ClassId) (F : Nat → Int64) (hs8 : S < 256) (hs0 : 0 < S) : gx_Mi l D yX1_allowedDirection wsX1_allowedDirection rmX1_allowedDirection [.ref h0, .int (nI S)] [(cW, .long)] [(h0, .inr (1, [.ref e1, .int (nI M), .int (nI R), .int (nI V), .ref s1, .ref r1, .int (nI n), .ref d1, .ref w1])), (w1, .inl (cW, 8, .inr (.inl F)))] (S := Unit) (fun r (_ : Unit) => r = dirS S V (fun j => decide (0 < F j))) (fun (_ : Unit) => [(h0, .inr (1, [.ref e1, .int (nI M), .int (nI R), .int (nI V), .ref s1, .ref r1, .int (nI n), .ref d1, .ref w1])), (w1, .inl (cW, 8, .inr (.inl F)))]) := by
  intro sz
  refine gx_start (cc := cX1_allowedDirection) (maxL := 6) (ret := (some .int)) (Qc := fun A => va_Qi (fun r (_ : Unit) => r = dirS S V (fun j => decide (0 < F j))) (gx_B D [(cW, .long)] A (fun (_ : Unit) => [(h0, .inr (1, [.ref e1, .int (nI M), .int (nI R), .int (nI V), .ref s1, .ref r1, .int (nI n), .ref d1, .ref w1])), (w1, .inl (cW, 8, .inr (.inl F)))])) A) (by decide) rfl (Nat.le_of_ble_eq_true rfl) ?_ sz
  intro p e s m below meth c A hbody ls hl
  obtain ⟨C0, hr, hlocks, hN, hK, hP, hD, hA⟩ := hbody
  have C0 : CallFix p m c cX1_allowedDirection 6 s ([.ref h0, .int (nI S)] : List Value).toArray wsX1_allowedDirection RX1 := C0
  obtain ⟨hx, hb, hml, hown, hts⟩ := id C0
  have hS : va_S A s.heap s.heap [] := va_S.rf
  have hl : lv_has ls 6 [(0, .ref h0), (1, .int (nI S))] := hl
  refine lv_iconst (v := nI 0) hx hb dX1_allowedDirection_0 (by decide) ?_
  refine lv_istore_n (lv' := [(2, .int (nI 0)), (0, .ref h0), (1, .int (nI S))]) hx hb dX1_allowedDirection_1 rfl hl (by decide) rfl (fun ls hl => ?_)
  refine lv_iconst (v := nI 0) hx hb dX1_allowedDirection_2 (by decide) ?_
  refine lv_istore_n (lv' := [(3, .int (nI 0)), (2, .int (nI 0)), (0, .ref h0), (1, .int (nI S))]) hx hb dX1_allowedDirection_3 rfl hl (by decide) rfl (fun ls hl => ?_)
  refine lpX1_allowedDirection C0 hN hA hs8 hK (fun H locs ls hP hD hS hl => ?_) 9 0 0 _ _ _ (by omega) rfl (hP.sub [0, 1] rfl) (hD.sub [0, 1] (by decide) rfl) hS (lv_sub hl [2, 3, 1, 0] rfl)
  generalize hPe : (fun j => decide (0 < F j)) = P at hl ⊢
  refine lv_iload_n hx hb dX1_allowedDirection_33 rfl (lv_at hl 1 rfl) ?_
  refine lv_iload_n hx hb dX1_allowedDirection_34 rfl (lv_at hl 2 rfl) ?_
  refine lv_iconst (v := (-1)) hx hb dX1_allowedDirection_35 (by decide) ?_
  refine lv_ixor hx hb dX1_allowedDirection_36 ?_
  refine lv_iand hx hb dX1_allowedDirection_37 ?_
  refine gx_i (y := nI (S &&& (255 ^^^ fwm P 8))) (nx_andn hs8) ?_
  refine lv_istore_n (lv' := [(3, .int (nI (S &&& (255 ^^^ fwm P 8)))), (0, .ref h0), (1, .int (nI S)), (2, .int (nI (fwm P 8)))]) hx hb dX1_allowedDirection_38 rfl hl (by decide) rfl (fun ls hl => ?_)
  refine lv_iload_n hx hb dX1_allowedDirection_39 rfl (lv_at hl 2 rfl) ?_
  refine lv_aload_n hx hb dX1_allowedDirection_40 rfl (lv_at hl 1 rfl) ?_
  refine va_get (D := D) (ci := 1) (v := .int (nI V)) (C := RX1) (T := TX1) (N := 9) hx hb hts iw_X1_allowedDirection_X1 hown hK hP 0 rfl rfl 3 (by decide) (hts _ kw_X1_allowedDirection_37) (fun _ h9 => h9) rfl dX1_allowedDirection_41 ?_
  refine lv_iconst (v := (-1)) hx hb dX1_allowedDirection_44 (by decide) ?_
  refine lv_ixor hx hb dX1_allowedDirection_45 ?_
  refine lv_iand hx hb dX1_allowedDirection_46 ?_
  refine gx_i (y := nI (S &&& (255 ^^^ V))) (nx_andn hs8) ?_
  refine lv_istore (lv' := [(4, .int (nI (S &&& (255 ^^^ V)))), (3, .int (nI (S &&& (255 ^^^ fwm P 8)))), (0, .ref h0), (1, .int (nI S)), (2, .int (nI (fwm P 8)))]) hx hb dX1_allowedDirection_47 hl (by decide) rfl (fun ls hl => ?_)
  refine lv_iload hx hb dX1_allowedDirection_49 (lv_at hl 0 rfl) ?_
  refine lv_if_ne (tgt := 73) hx hb dX1_allowedDirection_51 (by decide) (fun c_51 => ?_) (fun c_51 => ?_)
  · refine lv_iload hx hb dX1_allowedDirection_73 (lv_at hl 0 rfl) ?_
    refine lv_iload_n hx hb dX1_allowedDirection_75 rfl (lv_at hl 1 rfl) ?_
    refine lv_iand hx hb dX1_allowedDirection_76 ?_
    refine gx_i (y := nI ((S &&& (255 ^^^ V)) &&& (S &&& (255 ^^^ fwm P 8)))) (nx_and _ _) ?_
    refine lv_if_ne (tgt := 82) hx hb dX1_allowedDirection_77 (by decide) (fun c_77 => ?_) (fun c_77 => ?_)
    · refine lv_iload hx hb dX1_allowedDirection_82 (lv_at hl 0 rfl) ?_
      refine lv_iload_n hx hb dX1_allowedDirection_84 rfl (lv_at hl 4 rfl) ?_
      refine lv_iand hx hb dX1_allowedDirection_85 ?_
      refine gx_i (y := nI ((S &&& (255 ^^^ V)) &&& fwm P 8)) (nx_and _ _) ?_
      refine lv_if_ne (tgt := 93) hx hb dX1_allowedDirection_86 (by decide) (fun c_86 => ?_) (fun c_86 => ?_)
      · refine lv_iconst (v := 0) hx hb dX1_allowedDirection_93 (by decide) ?_
        exact gx_reti hx hb hr hlocks () (dir_5 hs8 c_51 c_77 c_86) hK (hP.sub [0, 1] rfl) (hD.sub [0, 1] (by decide) rfl) hS dX1_allowedDirection_94
      · refine lv_iconst (v := (-1)) hx hb dX1_allowedDirection_89 (by decide) ?_
        refine lv_goto (tgt := 94) hx hb dX1_allowedDirection_90 (by decide) ?_
        exact gx_reti hx hb hr hlocks () (dir_4 hs8 c_51 c_77 c_86) hK (hP.sub [0, 1] rfl) (hD.sub [0, 1] (by decide) rfl) hS dX1_allowedDirection_94
    · refine lv_iconst (v := 1) hx hb dX1_allowedDirection_80 (by decide) ?_
      exact gx_reti hx hb hr hlocks () (dir_3 hs8 c_51 c_77) hK (hP.sub [0, 1] rfl) (hD.sub [0, 1] (by decide) rfl) hS dX1_allowedDirection_81
  · refine lv_iload_n hx hb dX1_allowedDirection_54 rfl (lv_at hl 3 rfl) ?_
    refine lv_iload_n hx hb dX1_allowedDirection_55 rfl (lv_at hl 3 rfl) ?_
    refine lv_ineg hx hb dX1_allowedDirection_56 ?_
    refine lv_iand hx hb dX1_allowedDirection_57 ?_
    refine gx_i (y := nI (2 ^ mx_nth S 0)) (nx_least S hs8 hs0) ?_
    refine lv_istore (lv' := [(5, .int (nI (2 ^ mx_nth S 0))), (4, .int (nI (S &&& (255 ^^^ V)))), (3, .int (nI (S &&& (255 ^^^ fwm P 8)))), (0, .ref h0), (1, .int (nI S)), (2, .int (nI (fwm P 8)))]) hx hb dX1_allowedDirection_58 hl (by decide) rfl (fun ls hl => ?_)
    refine lv_iload_n hx hb dX1_allowedDirection_60 rfl (lv_at hl 5 rfl) ?_
    refine lv_iload hx hb dX1_allowedDirection_61 (lv_at hl 0 rfl) ?_
    refine lv_iand hx hb dX1_allowedDirection_63 ?_
    refine gx_i (y := nI (fwm P 8 &&& 2 ^ mx_nth S 0)) (nx_and _ _) ?_
    refine lv_if_eq (tgt := 71) hx hb dX1_allowedDirection_64 (by decide) (fun c_64 => ?_) (fun c_64 => ?_)
    · refine lv_iconst (v := (-1)) hx hb dX1_allowedDirection_71 (by decide) ?_
      exact gx_reti hx hb hr hlocks () (dir_2 hs8 hs0 c_51 c_64) hK (hP.sub [0, 1] rfl) (hD.sub [0, 1] (by decide) rfl) hS dX1_allowedDirection_72
    · refine lv_iconst (v := 1) hx hb dX1_allowedDirection_67 (by decide) ?_
      refine lv_goto (tgt := 72) hx hb dX1_allowedDirection_68 (by decide) ?_
      exact gx_reti hx hb hr hlocks () (dir_1 hs8 hs0 c_51 c_64) hK (hP.sub [0, 1] rfl) (hD.sub [0, 1] (by decide) rfl) hS dX1_allowedDirection_72
abbrev rmX1_list : Room := { frames := 2, cells := 0, slots := 0, locals := 60 }
theorem iw_X1_list_X1 : ∀ w ∈ wsX10, w ∈ wsX1_list := by decide +kernel
theorem kw_X1_list_26 : Cond.fieldLink RX1 26 "FluxModes" "flow" "[J" ∈ wsX1_list := by decide +kernel
theorem kw_X1_list_16 : Cond.fieldLink RX1 16 "FluxModes" "listedRates" "[I" ∈ wsX1_list := by decide +kernel
theorem kw_X1_list_40 : Cond.fieldLink RX1 40 "FluxModes" "listed" "I" ∈ wsX1_list := by decide +kernel
theorem kw_X1_list_13 : Cond.fieldLink RX1 13 "FluxModes" "listedSupports" "[I" ∈ wsX1_list := by decide +kernel
set_option maxHeartbeats 4000000 in
set_option maxRecDepth 100000 in
theorem lpX1_list1 {p : Program} {l : Launch} {e : Env} {s : State} {m : MethodId} {args : Array Value} {below : List Frame} {meth : Method} {c : Code} {Q : State → Prop} {D : va_G} {A : Nat → Prop} {H0 : Heap} (C0 : CallFix p m c cX1_list 8 s args wsX1_list RX1) (hN : gx_N s) (hA : ∀ q : Nat, H0.size ≤ q → A q) {h0 e1 s1 r1 d1 w1 M R V n S : Nat} {d : Int32} {cS cR cW : ClassId} {U : Nat → Int32} {F : Nat → Int64} {f : Nat → Int} {T0 : Nat → Int32} (hn : n < 70) (hF : ∀ j, j < 8 → F j = Int64.ofInt (f j)) (hf : ∀ j, j < 8 → (f j).natAbs ≤ 382637520) (hK : va_K D vwCl [(cS, .int), (cR, .int), (cW, .long)] s) (kk : ∀ (H : Heap) (locs : List Loc) (ls : Array Slot), va_P D vwCl [(h0, .inr (1, [.ref e1, .int (nI M), .int (nI R), .int (nI V), .ref s1, .ref r1, .int (nI n), .ref d1, .ref w1])), (s1, .inl (cS, 70, .inl U)), (r1, .inl (cR, 560, .inl T0)), (w1, .inl (cW, 8, .inr (.inl F)))] H → va_D A [(h0, .inr (1, [.ref e1, .int (nI M), .int (nI R), .int (nI V), .ref s1, .ref r1, .int (nI n), .ref d1, .ref w1])), (s1, .inl (cS, 70, .inl U)), (r1, .inl (cR, 560, .inl T0)), (w1, .inl (cW, 8, .inr (.inl F)))] → va_S A H0 H locs → lv_has ls 8 [(0, .ref h0), (1, .int (nI S)), (2, .int d), (3, .long (lN (gdv (fun j => (f j).natAbs) 8))), (5, .int (nI 8))] → W p l e rmX1_list s m args below meth c H locs 0 0 Q (F0 m 30 ls [])) : ∀ (n_ : Nat) (j g : Nat) (H : Heap) (locs : List Loc) (ls : Array Slot), (j ≤ 8 ∧ 8 < j + n_) → (g = gdv (fun j => (f j).natAbs) j) → va_P D vwCl [(h0, .inr (1, [.ref e1, .int (nI M), .int (nI R), .int (nI V), .ref s1, .ref r1, .int (nI n), .ref d1, .ref w1])), (s1, .inl (cS, 70, .inl U)), (r1, .inl (cR, 560, .inl T0)), (w1, .inl (cW, 8, .inr (.inl F)))] H → va_D A [(h0, .inr (1, [.ref e1, .int (nI M), .int (nI R), .int (nI V), .ref s1, .ref r1, .int (nI n), .ref d1, .ref w1])), (s1, .inl (cS, 70, .inl U)), (r1, .inl (cR, 560, .inl T0)), (w1, .inl (cW, 8, .inr (.inl F)))] → va_S A H0 H locs → lv_has ls 8 [(0, .ref h0), (1, .int (nI S)), (2, .int d), (3, .long (lN g)), (5, .int (nI j))] → W p l e rmX1_list s m args below meth c H locs 0 0 Q (F0 m 5 ls []) := by
  obtain ⟨hx, hb, hml, hown, hts⟩ := id C0
  intro n_
  induction n_ with
  | zero =>
    intro j g H locs ls hm
    exact absurd hm (by omega)
  | succ n_ ih =>
    intro j g H locs ls hm hI hP hD hS hl
    refine lv_iload hx hb dX1_list_5 (lv_at hl 4 rfl) ?_
    refine lv_bipush (v := nI 8) hx hb dX1_list_7 (by decide) ?_
    refine gx_ge (tgt := 30) hx hb dX1_list_9 (by decide) (by omega) (by omega) (fun c_9 => ?_) (fun c_9 => ?_)
    · have hj8 : j = 8 := by omega
      subst hj8
      subst hI
      exact kk _ _ _ (hP.sub [0, 1, 2, 3] rfl) (hD.sub [0, 1, 2, 3] (by decide) rfl) hS (lv_sub hl [0, 1, 2, 3, 4] rfl)
    · refine lv_lload_n hx hb dX1_list_12 rfl (lv_at hl 3 rfl) ?_
      refine lv_aload_n hx hb dX1_list_13 rfl (lv_at hl 0 rfl) ?_
      refine va_get (D := D) (ci := 1) (v := .ref w1) (C := RX1) (T := TX1) (N := 9) hx hb hts iw_X1_list_X1 hown hK hP 0 rfl rfl 8 (by decide) (hts _ kw_X1_list_26) (fun _ h9 => h9) rfl dX1_list_14 ?_
      refine lv_iload hx hb dX1_list_17 (lv_at hl 4 rfl) ?_
      refine gx_lald (q := j) hx hb hK hP 3 2 rfl rfl (rfl) (by omega) (by decide) dX1_list_19 ?_
      refine gx_l (y := Int64.ofInt (f j)) (hF j (by omega)) ?_
      refine gx_jl (wr := [(h0, .inr (1, [.ref e1, .int (nI M), .int (nI R), .int (nI V), .ref s1, .ref r1, .int (nI n), .ref d1, .ref w1])), (s1, .inl (cS, 70, .inl U)), (r1, .inl (cR, 560, .inl T0)), (w1, .inl (cW, 8, .inr (.inl F)))]) (gx_rS (As := [.long (lN g), .long (Int64.ofInt (f j))]) (rest := []) C0 (kX1_commonDivisor l D g (f j) (hI ▸ gdv_le hf (by omega)) (hf j (by omega)) _) (va_cwS 2 hts gX1_list_X1_commonDivisor rfl rfl rfl (by decide +kernel) ⟨Nat.le_of_ble_eq_true rfl, Nat.le_of_ble_eq_true rfl⟩) hN hK hP hD [] [] rfl rfl (by decide) rfl rfl hl.1 rfl (Nat.le_of_ble_eq_true rfl) dX1_list_20 ⟨Nat.zero_le _, Nat.zero_le _⟩) hP hD hS hA [] [0, 1, 2, 3] rfl rfl (by decide) (by decide) (fun rq u H locs hw hP hD hS => ?_)
      have hw : rq = lN (Nat.gcd g (f j).natAbs) := hw
      subst hw
      have hP : va_P D vwCl [(h0, .inr (1, [.ref e1, .int (nI M), .int (nI R), .int (nI V), .ref s1, .ref r1, .int (nI n), .ref d1, .ref w1])), (s1, .inl (cS, 70, .inl U)), (r1, .inl (cR, 560, .inl T0)), (w1, .inl (cW, 8, .inr (.inl F)))] H := hP
      have hD : va_D A [(h0, .inr (1, [.ref e1, .int (nI M), .int (nI R), .int (nI V), .ref s1, .ref r1, .int (nI n), .ref d1, .ref w1])), (s1, .inl (cS, 70, .inl U)), (r1, .inl (cR, 560, .inl T0)), (w1, .inl (cW, 8, .inr (.inl F)))] := hD
      refine lv_lstore_n (lv' := [(3, .long (lN (Nat.gcd g (f j).natAbs))), (0, .ref h0), (1, .int (nI S)), (2, .int d), (5, .int (nI j))]) hx hb dX1_list_23 rfl hl (by decide) rfl (fun ls hl => ?_)
      refine lv_iinc (v := nI (j + 1)) (lv' := [(5, .int (nI (j + 1))), (3, .long (lN (Nat.gcd g (f j).natAbs))), (0, .ref h0), (1, .int (nI S)), (2, .int d)]) hx hb dX1_list_24 hl (k := 4) rfl ((nI_succ j).symm) (by decide) rfl (fun ls hl => ?_)
      refine lv_goto (tgt := 5) hx hb dX1_list_27 (by decide) ?_
      exact ih (j + 1) (Nat.gcd g (f j).natAbs) _ _ _ (by omega) (by rw [hI]; rfl) (hP.sub [0, 1, 2, 3] rfl) (hD.sub [0, 1, 2, 3] (by decide) rfl) hS (lv_sub hl [2, 3, 4, 1, 0] rfl)
set_option maxHeartbeats 4000000 in
set_option maxRecDepth 100000 in
theorem lpX1_list2 {p : Program} {l : Launch} {e : Env} {s : State} {m : MethodId} {args : Array Value} {below : List Frame} {meth : Method} {c : Code} {Q : State → Prop} {D : va_G} {A : Nat → Prop} {H0 : Heap} (C0 : CallFix p m c cX1_list 8 s args wsX1_list RX1) (hN : gx_N s) (hA : ∀ q : Nat, H0.size ≤ q → A q) {h0 e1 s1 r1 d1 w1 M R V n S : Nat} {d : Int32} {cS cR cW : ClassId} {U : Nat → Int32} {F : Nat → Int64} {f : Nat → Int} {T0 : Nat → Int32} {G : Nat} (hn : n < 70) (hF : ∀ j, j < 8 → F j = Int64.ofInt (f j)) (hf : ∀ j, j < 8 → (f j).natAbs ≤ 382637520) (hK : va_K D vwCl [(cS, .int), (cR, .int), (cW, .long)] s) (kk : ∀ (T : Nat → Int32) (H : Heap) (locs : List Loc) (ls : Array Slot), (rl_I T0 T n (fun j => rtv d (f j) G) 8) → va_P D vwCl [(h0, .inr (1, [.ref e1, .int (nI M), .int (nI R), .int (nI V), .ref s1, .ref r1, .int (nI n), .ref d1, .ref w1])), (s1, .inl (cS, 70, .inl U)), (r1, .inl (cR, 560, .inl T)), (w1, .inl (cW, 8, .inr (.inl F)))] H → va_D A [(h0, .inr (1, [.ref e1, .int (nI M), .int (nI R), .int (nI V), .ref s1, .ref r1, .int (nI n), .ref d1, .ref w1])), (s1, .inl (cS, 70, .inl U)), (r1, .inl (cR, 560, .inl T)), (w1, .inl (cW, 8, .inr (.inl F)))] → va_S A H0 H locs → lv_has ls 8 [(0, .ref h0), (1, .int (nI S)), (2, .int d), (3, .long (lN G)), (5, .int (nI 8))] → W p l e rmX1_list s m args below meth c H locs 0 0 Q (F0 m 80 ls [])) : ∀ (n_ : Nat) (j : Nat) (T : Nat → Int32) (H : Heap) (locs : List Loc) (ls : Array Slot), (j ≤ 8 ∧ 8 < j + n_) → (rl_I T0 T n (fun j => rtv d (f j) G) j) → va_P D vwCl [(h0, .inr (1, [.ref e1, .int (nI M), .int (nI R), .int (nI V), .ref s1, .ref r1, .int (nI n), .ref d1, .ref w1])), (s1, .inl (cS, 70, .inl U)), (r1, .inl (cR, 560, .inl T)), (w1, .inl (cW, 8, .inr (.inl F)))] H → va_D A [(h0, .inr (1, [.ref e1, .int (nI M), .int (nI R), .int (nI V), .ref s1, .ref r1, .int (nI n), .ref d1, .ref w1])), (s1, .inl (cS, 70, .inl U)), (r1, .inl (cR, 560, .inl T)), (w1, .inl (cW, 8, .inr (.inl F)))] → va_S A H0 H locs → lv_has ls 8 [(0, .ref h0), (1, .int (nI S)), (2, .int d), (3, .long (lN G)), (5, .int (nI j))] → W p l e rmX1_list s m args below meth c H locs 0 0 Q (F0 m 33 ls []) := by
  obtain ⟨hx, hb, hml, hown, hts⟩ := id C0
  intro n_
  induction n_ with
  | zero =>
    intro j T H locs ls hm
    exact absurd hm (by omega)
  | succ n_ ih =>
    intro j T H locs ls hm hI hP hD hS hl
    refine lv_iload hx hb dX1_list_33 (lv_at hl 4 rfl) ?_
    refine lv_bipush (v := nI 8) hx hb dX1_list_35 (by decide) ?_
    refine gx_ge (tgt := 80) hx hb dX1_list_37 (by decide) (by omega) (by omega) (fun c_37 => ?_) (fun c_37 => ?_)
    · have hj8 : j = 8 := by omega
      subst hj8
      exact kk _ _ _ _ hI (hP.sub [0, 1, 2, 3] rfl) (hD.sub [0, 1, 2, 3] (by decide) rfl) hS (lv_sub hl [0, 1, 2, 3, 4] rfl)
    · refine lv_iload_n hx hb dX1_list_40 rfl (lv_at hl 2 rfl) ?_
      refine lv_i2l (v := d.toInt64) hx hb dX1_list_41 rfl ?_
      refine lv_aload_n hx hb dX1_list_42 rfl (lv_at hl 0 rfl) ?_
      refine va_get (D := D) (ci := 1) (v := .ref w1) (C := RX1) (T := TX1) (N := 9) hx hb hts iw_X1_list_X1 hown hK hP 0 rfl rfl 8 (by decide) (hts _ kw_X1_list_26) (fun _ h9 => h9) rfl dX1_list_43 ?_
      refine lv_iload hx hb dX1_list_46 (lv_at hl 4 rfl) ?_
      refine gx_lald (q := j) hx hb hK hP 3 2 rfl rfl (rfl) (by omega) (by decide) dX1_list_48 ?_
      refine gx_l (y := Int64.ofInt (f j)) (hF j (by omega)) ?_
      refine lv_lload_n hx hb dX1_list_49 rfl (lv_at hl 3 rfl) ?_
      refine gx_jl (wr := [(h0, .inr (1, [.ref e1, .int (nI M), .int (nI R), .int (nI V), .ref s1, .ref r1, .int (nI n), .ref d1, .ref w1])), (s1, .inl (cS, 70, .inl U)), (r1, .inl (cR, 560, .inl T)), (w1, .inl (cW, 8, .inr (.inl F)))]) (gx_rS (As := [.long (Int64.ofInt (f j)), .long (lN G)]) (rest := [.long d.toInt64]) C0 (kX1_quotient l D (Int64.ofInt (f j)) (lN G) _) (va_cwS 2 hts gX1_list_X1_quotient rfl rfl rfl (by decide +kernel) ⟨Nat.le_of_ble_eq_true rfl, Nat.le_of_ble_eq_true rfl⟩) hN hK hP hD [] [] rfl rfl (by decide) rfl rfl hl.1 rfl (Nat.le_of_ble_eq_true rfl) dX1_list_50 ⟨Nat.zero_le _, Nat.zero_le _⟩) hP hD hS hA [] [0, 1, 2, 3] rfl rfl (by decide) (by decide) (fun rq u H locs hw hP hD hS => ?_)
      have hw : rq = qt (Int64.ofInt (f j)) (lN G) := hw
      subst hw
      have hP : va_P D vwCl [(h0, .inr (1, [.ref e1, .int (nI M), .int (nI R), .int (nI V), .ref s1, .ref r1, .int (nI n), .ref d1, .ref w1])), (s1, .inl (cS, 70, .inl U)), (r1, .inl (cR, 560, .inl T)), (w1, .inl (cW, 8, .inr (.inl F)))] H := hP
      have hD : va_D A [(h0, .inr (1, [.ref e1, .int (nI M), .int (nI R), .int (nI V), .ref s1, .ref r1, .int (nI n), .ref d1, .ref w1])), (s1, .inl (cS, 70, .inl U)), (r1, .inl (cR, 560, .inl T)), (w1, .inl (cW, 8, .inr (.inl F)))] := hD
      refine lv_lmul hx hb dX1_list_53 ?_
      refine lv_lstore (lv' := [(6, .long (d.toInt64 * (qt (Int64.ofInt (f j)) (lN G)))), (0, .ref h0), (1, .int (nI S)), (2, .int d), (3, .long (lN G)), (5, .int (nI j))]) hx hb dX1_list_54 hl (by decide) rfl (fun ls hl => ?_)
      refine lv_aload_n hx hb dX1_list_56 rfl (lv_at hl 1 rfl) ?_
      refine va_get (D := D) (ci := 1) (v := .ref r1) (C := RX1) (T := TX1) (N := 9) hx hb hts iw_X1_list_X1 hown hK hP 0 rfl rfl 5 (by decide) (hts _ kw_X1_list_16) (fun _ h9 => h9) rfl dX1_list_57 ?_
      refine lv_aload_n hx hb dX1_list_60 rfl (lv_at hl 1 rfl) ?_
      refine va_get (D := D) (ci := 1) (v := .int (nI n)) (C := RX1) (T := TX1) (N := 9) hx hb hts iw_X1_list_X1 hown hK hP 0 rfl rfl 6 (by decide) (hts _ kw_X1_list_40) (fun _ h9 => h9) rfl dX1_list_61 ?_
      refine lv_bipush (v := nI 8) hx hb dX1_list_64 (by decide) ?_
      refine lv_imul hx hb dX1_list_66 ?_
      refine gx_i (y := nI (n * 8)) (pk_mul n 8) ?_
      refine lv_iload hx hb dX1_list_67 (lv_at hl 5 rfl) ?_
      refine lv_iadd hx hb dX1_list_69 ?_
      refine gx_i (y := nI (n * 8 + j)) (nI_add (n * 8) j) ?_
      refine lv_lload hx hb dX1_list_70 (lv_at hl 0 rfl) ?_
      refine lv_l2i (v := (d.toInt64 * (qt (Int64.ofInt (f j)) (lN G))).toInt32) hx hb dX1_list_72 rfl ?_
      refine gx_i (y := rtv d (f j) G) (rfl) ?_
      refine gx_iast (q := n * 8 + j) hx hb hK hP hD hS 2 1 rfl rfl (rfl) (by omega) (by decide) dX1_list_73 (fun H locs hP hD hS => ?_)
      have hP : va_P D vwCl [(h0, .inr (1, [.ref e1, .int (nI M), .int (nI R), .int (nI V), .ref s1, .ref r1, .int (nI n), .ref d1, .ref w1])), (s1, .inl (cS, 70, .inl U)), (r1, .inl (cR, 560, .inl (upd T (n * 8 + j) (rtv d (f j) G)))), (w1, .inl (cW, 8, .inr (.inl F)))] H := hP
      have hD : va_D A [(h0, .inr (1, [.ref e1, .int (nI M), .int (nI R), .int (nI V), .ref s1, .ref r1, .int (nI n), .ref d1, .ref w1])), (s1, .inl (cS, 70, .inl U)), (r1, .inl (cR, 560, .inl (upd T (n * 8 + j) (rtv d (f j) G)))), (w1, .inl (cW, 8, .inr (.inl F)))] := hD
      refine lv_iinc (v := nI (j + 1)) (lv' := [(5, .int (nI (j + 1))), (6, .long (d.toInt64 * (qt (Int64.ofInt (f j)) (lN G)))), (0, .ref h0), (1, .int (nI S)), (2, .int d), (3, .long (lN G))]) hx hb dX1_list_74 hl (k := 5) rfl ((nI_succ j).symm) (by decide) rfl (fun ls hl => ?_)
      refine lv_goto (tgt := 33) hx hb dX1_list_77 (by decide) ?_
      exact ih (j + 1) _ _ _ _ (by omega) (rl_s (by omega) hI) (hP.sub [0, 1, 2, 3] rfl) (hD.sub [0, 1, 2, 3] (by decide) rfl) hS (lv_sub hl [2, 3, 4, 5, 0] rfl)
set_option maxHeartbeats 4000000 in
set_option maxRecDepth 100000 in
theorem kX1_list (l : Launch) (D : va_G) (h0 e1 s1 r1 d1 w1 M R V n S : Nat) (d : Int32) (cS cR cW : ClassId) (U T : Nat → Int32) (F : Nat → Int64) (f : Nat → Int) (hn : n < 70) (hF : ∀ j, j < 8 → F j = Int64.ofInt (f j)) (hf : ∀ j, j < 8 → (f j).natAbs ≤ 382637520) : gx_Mv l D yX1_list wsX1_list rmX1_list [.ref h0, .int (nI S), .int d] [(cS, .int), (cR, .int), (cW, .long)] [(h0, .inr (1, [.ref e1, .int (nI M), .int (nI R), .int (nI V), .ref s1, .ref r1, .int (nI n), .ref d1, .ref w1])), (s1, .inl (cS, 70, .inl U)), (r1, .inl (cR, 560, .inl T)), (w1, .inl (cW, 8, .inr (.inl F)))] (S := Nat → Int32) (fun (u : Nat → Int32) => rl_I T u n (fun j => rtv d (f j) (gdv (fun j => (f j).natAbs) 8)) 8) (fun (u : Nat → Int32) => [(h0, .inr (1, [.ref e1, .int (nI M), .int (nI R), .int (nI V), .ref s1, .ref r1, .int (nI (n + 1)), .ref d1, .ref w1])), (s1, .inl (cS, 70, .inl (upd U n (nI S)))), (r1, .inl (cR, 560, .inl u)), (w1, .inl (cW, 8, .inr (.inl F)))]) := by
  intro sz
  refine gx_start (cc := cX1_list) (maxL := 8) (ret := none) (Qc := fun A => va_Qv (fun (u : Nat → Int32) => rl_I T u n (fun j => rtv d (f j) (gdv (fun j => (f j).natAbs) 8)) 8) (gx_B D [(cS, .int), (cR, .int), (cW, .long)] A (fun (u : Nat → Int32) => [(h0, .inr (1, [.ref e1, .int (nI M), .int (nI R), .int (nI V), .ref s1, .ref r1, .int (nI (n + 1)), .ref d1, .ref w1])), (s1, .inl (cS, 70, .inl (upd U n (nI S)))), (r1, .inl (cR, 560, .inl u)), (w1, .inl (cW, 8, .inr (.inl F)))])) A) (by decide) rfl (Nat.le_of_ble_eq_true rfl) ?_ sz
  intro p e s m below meth c A hbody ls hl
  obtain ⟨C0, hr, hlocks, hN, hK, hP, hD, hA⟩ := hbody
  have C0 : CallFix p m c cX1_list 8 s ([.ref h0, .int (nI S), .int d] : List Value).toArray wsX1_list RX1 := C0
  obtain ⟨hx, hb, hml, hown, hts⟩ := id C0
  have hS : va_S A s.heap s.heap [] := va_S.rf
  have hl : lv_has ls 8 [(0, .ref h0), (1, .int (nI S)), (2, .int d)] := hl
  refine lv_lconst (v := 0) hx hb dX1_list_0 (by decide) ?_
  refine lv_lstore_n (lv' := [(3, .long 0), (0, .ref h0), (1, .int (nI S)), (2, .int d)]) hx hb dX1_list_1 rfl hl (by decide) rfl (fun ls hl => ?_)
  refine lv_iconst (v := nI 0) hx hb dX1_list_2 (by decide) ?_
  refine lv_istore (lv' := [(5, .int (nI 0)), (3, .long 0), (0, .ref h0), (1, .int (nI S)), (2, .int d)]) hx hb dX1_list_3 hl (by decide) rfl (fun ls hl => ?_)
  refine lpX1_list1 (d := d) (U := U) C0 hN hA hn hF hf hK (fun H locs ls hP hD hS hl => ?_) 9 0 0 _ _ _ (by omega) rfl (hP.sub [0, 1, 2, 3] rfl) (hD.sub [0, 1, 2, 3] (by decide) rfl) hS (lv_sub hl [2, 3, 4, 1, 0] rfl)
  generalize hGe : gdv (fun j => (f j).natAbs) 8 = G at hl ⊢
  refine lv_iconst (v := nI 0) hx hb dX1_list_30 (by decide) ?_
  refine lv_istore (lv' := [(5, .int (nI 0)), (0, .ref h0), (1, .int (nI S)), (2, .int d), (3, .long (lN G))]) hx hb dX1_list_31 hl (by decide) rfl (fun ls hl => ?_)
  refine lpX1_list2 (U := U) (T0 := T) (G := G) C0 hN hA hn hF hf hK (fun T1 H locs ls hI hP hD hS hl => ?_) 9 0 T _ _ _ (by omega) (rl_0 T n _) (hP.sub [0, 1, 2, 3] rfl) (hD.sub [0, 1, 2, 3] (by decide) rfl) hS (lv_sub hl [1, 2, 3, 4, 0] rfl)
  refine lv_aload_n hx hb dX1_list_80 rfl (lv_at hl 0 rfl) ?_
  refine va_get (D := D) (ci := 1) (v := .ref s1) (C := RX1) (T := TX1) (N := 9) hx hb hts iw_X1_list_X1 hown hK hP 0 rfl rfl 4 (by decide) (hts _ kw_X1_list_13) (fun _ h9 => h9) rfl dX1_list_81 ?_
  refine lv_aload_n hx hb dX1_list_84 rfl (lv_at hl 0 rfl) ?_
  refine va_get (D := D) (ci := 1) (v := .int (nI n)) (C := RX1) (T := TX1) (N := 9) hx hb hts iw_X1_list_X1 hown hK hP 0 rfl rfl 6 (by decide) (hts _ kw_X1_list_40) (fun _ h9 => h9) rfl dX1_list_85 ?_
  refine lv_iload_n hx hb dX1_list_88 rfl (lv_at hl 1 rfl) ?_
  refine gx_iast (q := n) hx hb hK hP hD hS 1 0 rfl rfl (rfl) (by omega) (by decide) dX1_list_89 (fun H locs hP hD hS => ?_)
  have hP : va_P D vwCl [(h0, .inr (1, [.ref e1, .int (nI M), .int (nI R), .int (nI V), .ref s1, .ref r1, .int (nI n), .ref d1, .ref w1])), (s1, .inl (cS, 70, .inl (upd U n (nI S)))), (r1, .inl (cR, 560, .inl T1)), (w1, .inl (cW, 8, .inr (.inl F)))] H := hP
  have hD : va_D A [(h0, .inr (1, [.ref e1, .int (nI M), .int (nI R), .int (nI V), .ref s1, .ref r1, .int (nI n), .ref d1, .ref w1])), (s1, .inl (cS, 70, .inl (upd U n (nI S)))), (r1, .inl (cR, 560, .inl T1)), (w1, .inl (cW, 8, .inr (.inl F)))] := hD
  refine lv_aload_n hx hb dX1_list_90 rfl (lv_at hl 0 rfl) ?_
  refine lv_dup hx hb dX1_list_91 rfl ?_
  refine va_get (D := D) (ci := 1) (v := .int (nI n)) (C := RX1) (T := TX1) (N := 9) hx hb hts iw_X1_list_X1 hown hK hP 0 rfl rfl 6 (by decide) (hts _ kw_X1_list_40) (fun _ h9 => h9) rfl dX1_list_92 ?_
  refine lv_iconst (v := nI 1) hx hb dX1_list_95 (by decide) ?_
  refine lv_iadd hx hb dX1_list_96 ?_
  refine gx_i (y := nI (n + 1)) (nI_add n 1) ?_
  refine va_put (D := D) (ci := 1) (v := .int (nI (n + 1))) (ty := .int) (C := RX1) (T := TX1) (N := 9) hx hb hts iw_X1_list_X1 tyX1 tyX1_ok nmX1 hown hK hP hD hS 0 rfl rfl 6 (by decide) (hts _ kw_X1_list_40) (fun _ h9 => h9) rfl (by decide +kernel) rfl rfl (Nat.le_of_ble_eq_true rfl) dX1_list_97 (fun H locs hP hD hS => ?_)
  have hP : va_P D vwCl [(h0, .inr (1, [.ref e1, .int (nI M), .int (nI R), .int (nI V), .ref s1, .ref r1, .int (nI (n + 1)), .ref d1, .ref w1])), (s1, .inl (cS, 70, .inl (upd U n (nI S)))), (r1, .inl (cR, 560, .inl T1)), (w1, .inl (cW, 8, .inr (.inl F)))] H := hP
  have hD : va_D A [(h0, .inr (1, [.ref e1, .int (nI M), .int (nI R), .int (nI V), .ref s1, .ref r1, .int (nI (n + 1)), .ref d1, .ref w1])), (s1, .inl (cS, 70, .inl (upd U n (nI S)))), (r1, .inl (cR, 560, .inl T1)), (w1, .inl (cW, 8, .inr (.inl F)))] := hD
  exact gx_retv hx hb hr hlocks T1 (hGe ▸ hI) hK (hP.sub [0, 1, 2, 3] rfl) (hD.sub [0, 1, 2, 3] (by decide) rfl) hS dX1_list_100
end
section
abbrev rmX1_listIfSupport : Room := { frames := 4, cells := 0, slots := 0, locals := 103 }
theorem iw_X1_listIfSupport_X1 : ∀ w ∈ wsX10, w ∈ wsX1_listIfSupport := by decide +kernel
theorem kw_X1_listIfSupport_22 : Cond.fieldLink RX1 22 "FluxModes" "reduction" "LFluxModes$Reduction;" ∈ wsX1_listIfSupport := by decide +kernel
theorem kw_X1_listIfSupport_40 : Cond.fieldLink RX1 40 "FluxModes" "listed" "I" ∈ wsX1_listIfSupport := by decide +kernel
set_option maxHeartbeats 4000000 in
set_option maxRecDepth 100000 in
theorem kX1_listIfSupport (l : Launch) (D : va_G) (h0 e1 s1 r1 d1 w1 k1 M R V n S w t : Nat) (pv : Int64) (cE cS cR cK cW : ClassId) (E U T : Nat → Int32) (K F : Nat → Int64) (hM6 : M ≤ 6) (hR8 : R ≤ 8) (h9 : e9 E) (hs0 : 0 < S) (hSR : S < 2 ^ R) (hn : n ≤ 70) : gx_Mv l D yX1_listIfSupport wsX1_listIfSupport rmX1_listIfSupport [.ref h0, .int (nI S)] [(cE, .int), (cS, .int), (cR, .int), (cK, .long), (cW, .long)] [(h0, .inr (1, [.ref e1, .int (nI M), .int (nI R), .int (nI V), .ref s1, .ref r1, .int (nI n), .ref d1, .ref w1])), (e1, .inl (cE, 48, .inl E)), (s1, .inl (cS, 70, .inl U)), (r1, .inl (cR, 560, .inl T)), (d1, .inr (0, [.ref k1, .int (nI w), .int (nI t), .long pv])), (k1, .inl (cK, 48, .inr (.inl K))), (w1, .inl (cW, 8, .inr (.inl F)))] (S := Nat × (Nat → Int32) × (Nat → Int32) × Nat × Nat × Int64 × (Nat → Int64) × (Nat → Int64)) (fun (u : Nat × (Nat → Int32) × (Nat → Int32) × Nat × Nat × Int64 × (Nat → Int64) × (Nat → Int64)) => li_P E M V S n U T u.1 u.2.1 u.2.2.1) (fun (u : Nat × (Nat → Int32) × (Nat → Int32) × Nat × Nat × Int64 × (Nat → Int64) × (Nat → Int64)) => [(h0, .inr (1, [.ref e1, .int (nI M), .int (nI R), .int (nI V), .ref s1, .ref r1, .int (nI (u.1)), .ref d1, .ref w1])), (e1, .inl (cE, 48, .inl E)), (s1, .inl (cS, 70, .inl u.2.1)), (r1, .inl (cR, 560, .inl u.2.2.1)), (d1, .inr (0, [.ref k1, .int (nI (u.2.2.2.1)), .int (nI (u.2.2.2.2.1)), .long u.2.2.2.2.2.1])), (k1, .inl (cK, 48, .inr (.inl u.2.2.2.2.2.2.1))), (w1, .inl (cW, 8, .inr (.inl u.2.2.2.2.2.2.2)))]) := by
  intro sz
  refine gx_start (cc := cX1_listIfSupport) (maxL := 3) (ret := none) (Qc := fun A => va_Qv (fun (u : Nat × (Nat → Int32) × (Nat → Int32) × Nat × Nat × Int64 × (Nat → Int64) × (Nat → Int64)) => li_P E M V S n U T u.1 u.2.1 u.2.2.1) (gx_B D [(cE, .int), (cS, .int), (cR, .int), (cK, .long), (cW, .long)] A (fun (u : Nat × (Nat → Int32) × (Nat → Int32) × Nat × Nat × Int64 × (Nat → Int64) × (Nat → Int64)) => [(h0, .inr (1, [.ref e1, .int (nI M), .int (nI R), .int (nI V), .ref s1, .ref r1, .int (nI (u.1)), .ref d1, .ref w1])), (e1, .inl (cE, 48, .inl E)), (s1, .inl (cS, 70, .inl u.2.1)), (r1, .inl (cR, 560, .inl u.2.2.1)), (d1, .inr (0, [.ref k1, .int (nI (u.2.2.2.1)), .int (nI (u.2.2.2.2.1)), .long u.2.2.2.2.2.1])), (k1, .inl (cK, 48, .inr (.inl u.2.2.2.2.2.2.1))), (w1, .inl (cW, 8, .inr (.inl u.2.2.2.2.2.2.2)))])) A) (by decide) rfl (Nat.le_of_ble_eq_true rfl) ?_ sz
  intro p e s m below meth c A hbody ls hl
  obtain ⟨C0, hr, hlocks, hN, hK, hP, hD, hA⟩ := hbody
  have C0 : CallFix p m c cX1_listIfSupport 3 s ([.ref h0, .int (nI S)] : List Value).toArray wsX1_listIfSupport RX1 := C0
  obtain ⟨hx, hb, hml, hown, hts⟩ := id C0
  have hS : va_S A s.heap s.heap [] := va_S.rf
  have hl : lv_has ls 3 [(0, .ref h0), (1, .int (nI S))] := hl
  have hs8 : S < 256 := Nat.lt_of_lt_of_le hSR (pow_256 hR8)
  have hce : mx_cnt S 8 = mx_cnt S R := cnt_hi hSR hR8
  have hc8 : mx_cnt S 8 ≤ 8 := mx_cnt_le S 8
  have hc1 : 1 ≤ mx_cnt S 8 := nz_cnt S hs8 hs0
  refine lv_aload_n hx hb dX1_listIfSupport_0 rfl (lv_at hl 0 rfl) ?_
  refine va_get (D := D) (ci := 1) (v := .int (nI n)) (C := RX1) (T := TX1) (N := 9) hx hb hts iw_X1_listIfSupport_X1 hown hK hP 0 rfl rfl 6 (by decide) (hts _ kw_X1_listIfSupport_40) (fun _ h9 => h9) rfl dX1_listIfSupport_1 ?_
  refine lv_bipush (v := nI 70) hx hb dX1_listIfSupport_4 (by decide) ?_
  refine gx_lt (tgt := 10) hx hb dX1_listIfSupport_6 (by decide) (by omega) (by omega) (fun c_6 => ?_) (fun c_6 => ?_)
  · refine lv_aload_n hx hb dX1_listIfSupport_10 rfl (lv_at hl 0 rfl) ?_
    refine lv_iload_n hx hb dX1_listIfSupport_11 rfl (lv_at hl 1 rfl) ?_
    refine gx_jv (wr := [(s1, .inl (cS, 70, .inl U)), (r1, .inl (cR, 560, .inl T)), (w1, .inl (cW, 8, .inr (.inl F)))]) (gx_rV (As := [.int (nI S)]) (rest := []) C0 (kX1_loadColumns l D h0 e1 s1 r1 d1 w1 k1 M R V n S w t pv cE cK E K hM6 hR8 hs8 _) (cwV 1 hts gX1_listIfSupport_X1_loadColumns rfl rfl rfl (by decide +kernel) ⟨Nat.le_of_ble_eq_true rfl, Nat.le_of_ble_eq_true rfl⟩) hN hK hP hD [0, 1, 4, 5] [0, 3] rfl rfl (by decide) rfl 0 rfl rfl rfl rfl hl.1 rfl (Nat.le_of_ble_eq_true rfl) dX1_listIfSupport_12 ⟨Nat.zero_le _, Nat.zero_le _⟩) hP hD hS hA [0, 1, 4, 5] [2, 3, 6] rfl rfl (by decide) (by decide) (fun u H locs hw hP hD hS => ?_)
    obtain ⟨t1, K1⟩ := u
    have hw1 : t1 = mx_cnt S R := hw.1
    have hw2 : lc_I E S 8 M K1 := lc_8 hw.2 hce
    rw [← hce] at hw1
    subst hw1
    have hP : va_P D vwCl [(s1, .inl (cS, 70, .inl U)), (r1, .inl (cR, 560, .inl T)), (w1, .inl (cW, 8, .inr (.inl F))), (h0, .inr (1, [.ref e1, .int (nI M), .int (nI R), .int (nI V), .ref s1, .ref r1, .int (nI n), .ref d1, .ref w1])), (e1, .inl (cE, 48, .inl E)), (d1, .inr (0, [.ref k1, .int (nI M), .int (nI (mx_cnt S 8)), .long 1])), (k1, .inl (cK, 48, .inr (.inl K1)))] H := hP
    have hD : va_D A [(s1, .inl (cS, 70, .inl U)), (r1, .inl (cR, 560, .inl T)), (w1, .inl (cW, 8, .inr (.inl F))), (h0, .inr (1, [.ref e1, .int (nI M), .int (nI R), .int (nI V), .ref s1, .ref r1, .int (nI n), .ref d1, .ref w1])), (e1, .inl (cE, 48, .inl E)), (d1, .inr (0, [.ref k1, .int (nI M), .int (nI (mx_cnt S 8)), .long 1])), (k1, .inl (cK, 48, .inr (.inl K1)))] := hD
    refine lv_aload_n hx hb dX1_listIfSupport_15 rfl (lv_at hl 0 rfl) ?_
    refine va_get (D := D) (ci := 1) (v := .ref d1) (C := RX1) (T := TX1) (N := 9) hx hb hts iw_X1_listIfSupport_X1 hown hK hP 3 rfl rfl 7 (by decide) (hts _ kw_X1_listIfSupport_22) (fun _ h9 => h9) rfl dX1_listIfSupport_16 ?_
    refine gx_ji (wr := [(s1, .inl (cS, 70, .inl U)), (r1, .inl (cR, 560, .inl T)), (w1, .inl (cW, 8, .inr (.inl F))), (h0, .inr (1, [.ref e1, .int (nI M), .int (nI R), .int (nI V), .ref s1, .ref r1, .int (nI n), .ref d1, .ref w1])), (e1, .inl (cE, 48, .inl E))]) (gx_rV (As := []) (rest := []) C0 (kX0_leavesOneFullFlow l D d1 k1 M (mx_cnt S 8) cK (fc E S) K1 hM6 hc8 hc1 (fc_9 h9 S) (fc_K hM6 hw2) _) (cwV 0 hts gX1_listIfSupport_X0_leavesOneFullFlow rfl rfl rfl (by decide +kernel) ⟨Nat.le_of_ble_eq_true rfl, Nat.le_of_ble_eq_true rfl⟩) hN hK hP hD [5, 6] [3] rfl rfl (by decide) rfl 0 rfl rfl rfl rfl hl.1 rfl (Nat.le_of_ble_eq_true rfl) dX1_listIfSupport_19 ⟨Nat.zero_le _, Nat.zero_le _⟩) hP hD hS hA [5, 6] [0, 1, 2, 3, 4] rfl rfl (by decide) (by decide) (fun r u H locs hw hP hD hS => ?_)
    obtain ⟨K2, pv2⟩ := u
    obtain ⟨b, hb9, hq1, hq2⟩ := hw
    subst hb9
    have hP : va_P D vwCl [(s1, .inl (cS, 70, .inl U)), (r1, .inl (cR, 560, .inl T)), (w1, .inl (cW, 8, .inr (.inl F))), (h0, .inr (1, [.ref e1, .int (nI M), .int (nI R), .int (nI V), .ref s1, .ref r1, .int (nI n), .ref d1, .ref w1])), (e1, .inl (cE, 48, .inl E)), (d1, .inr (0, [.ref k1, .int (nI M), .int (nI (mx_cnt S 8)), .long pv2])), (k1, .inl (cK, 48, .inr (.inl K2)))] H := hP
    have hD : va_D A [(s1, .inl (cS, 70, .inl U)), (r1, .inl (cR, 560, .inl T)), (w1, .inl (cW, 8, .inr (.inl F))), (h0, .inr (1, [.ref e1, .int (nI M), .int (nI R), .int (nI V), .ref s1, .ref r1, .int (nI n), .ref d1, .ref w1])), (e1, .inl (cE, 48, .inl E)), (d1, .inr (0, [.ref k1, .int (nI M), .int (nI (mx_cnt S 8)), .long pv2])), (k1, .inl (cK, 48, .inr (.inl K2)))] := hD
    refine gx_bne (tgt := 26) hx hb dX1_listIfSupport_22 (by decide) (fun c_22 => ?_) (fun c_22 => ?_)
    · refine lv_aload_n hx hb dX1_listIfSupport_26 rfl (lv_at hl 0 rfl) ?_
      refine lv_iload_n hx hb dX1_listIfSupport_27 rfl (lv_at hl 1 rfl) ?_
      refine gx_jv (wr := [(s1, .inl (cS, 70, .inl U)), (r1, .inl (cR, 560, .inl T)), (e1, .inl (cE, 48, .inl E))]) (gx_rV (As := [.int (nI S)]) (rest := []) C0 (kX1_readFlow l D h0 e1 s1 r1 d1 w1 k1 M R V n S M (mx_cnt S 8) pv2 cK cW K2 F hM6 hc8 hc1 hs8 _) (cwV 1 hts gX1_listIfSupport_X1_readFlow rfl rfl rfl (by decide +kernel) ⟨Nat.le_of_ble_eq_true rfl, Nat.le_of_ble_eq_true rfl⟩) hN hK hP hD [3, 5, 6, 2] [3, 4] rfl rfl (by decide) rfl 0 rfl rfl rfl rfl hl.1 rfl (Nat.le_of_ble_eq_true rfl) dX1_listIfSupport_28 ⟨Nat.zero_le _, Nat.zero_le _⟩) hP hD hS hA [3, 5, 6, 2] [0, 1, 4] rfl rfl (by decide) (by decide) (fun u H locs hw hP hD hS => ?_)
      obtain ⟨F1, rfl⟩ : ∃ z, z = u := ⟨_, rfl⟩
      have hF : ∀ j, j < 8 → F1 j = Int64.ofInt (fvv E M S j) := fl_read (hq1 c_22) hw
      have hP : va_P D vwCl [(s1, .inl (cS, 70, .inl U)), (r1, .inl (cR, 560, .inl T)), (e1, .inl (cE, 48, .inl E)), (h0, .inr (1, [.ref e1, .int (nI M), .int (nI R), .int (nI V), .ref s1, .ref r1, .int (nI n), .ref d1, .ref w1])), (d1, .inr (0, [.ref k1, .int (nI M), .int (nI (mx_cnt S 8)), .long pv2])), (k1, .inl (cK, 48, .inr (.inl K2))), (w1, .inl (cW, 8, .inr (.inl F1)))] H := hP
      have hD : va_D A [(s1, .inl (cS, 70, .inl U)), (r1, .inl (cR, 560, .inl T)), (e1, .inl (cE, 48, .inl E)), (h0, .inr (1, [.ref e1, .int (nI M), .int (nI R), .int (nI V), .ref s1, .ref r1, .int (nI n), .ref d1, .ref w1])), (d1, .inr (0, [.ref k1, .int (nI M), .int (nI (mx_cnt S 8)), .long pv2])), (k1, .inl (cK, 48, .inr (.inl K2))), (w1, .inl (cW, 8, .inr (.inl F1)))] := hD
      refine lv_aload_n hx hb dX1_listIfSupport_31 rfl (lv_at hl 0 rfl) ?_
      refine lv_iload_n hx hb dX1_listIfSupport_32 rfl (lv_at hl 1 rfl) ?_
      refine gx_ji (wr := [(s1, .inl (cS, 70, .inl U)), (r1, .inl (cR, 560, .inl T)), (e1, .inl (cE, 48, .inl E)), (d1, .inr (0, [.ref k1, .int (nI M), .int (nI (mx_cnt S 8)), .long pv2])), (k1, .inl (cK, 48, .inr (.inl K2)))]) (gx_rV (As := [.int (nI S)]) (rest := []) C0 (kX1_allowedDirection l D h0 e1 s1 r1 d1 w1 M R V n S cW F1 hs8 hs0 _) (cwV 1 hts gX1_listIfSupport_X1_allowedDirection rfl rfl rfl (by decide +kernel) ⟨Nat.le_of_ble_eq_true rfl, Nat.le_of_ble_eq_true rfl⟩) hN hK hP hD [3, 6] [4] rfl rfl (by decide) rfl 0 rfl rfl rfl rfl hl.1 rfl (Nat.le_of_ble_eq_true rfl) dX1_listIfSupport_33 ⟨Nat.zero_le _, Nat.zero_le _⟩) hP hD hS hA [3, 6] [0, 1, 2, 4, 5] rfl rfl (by decide) (by decide) (fun r u H locs hw hP hD hS => ?_)
      have hw : r = dirv E M V S := Eq.trans hw (dir_eq hM6 h9 hs8 hs0 hF)
      subst hw
      have hP : va_P D vwCl [(s1, .inl (cS, 70, .inl U)), (r1, .inl (cR, 560, .inl T)), (e1, .inl (cE, 48, .inl E)), (d1, .inr (0, [.ref k1, .int (nI M), .int (nI (mx_cnt S 8)), .long pv2])), (k1, .inl (cK, 48, .inr (.inl K2))), (h0, .inr (1, [.ref e1, .int (nI M), .int (nI R), .int (nI V), .ref s1, .ref r1, .int (nI n), .ref d1, .ref w1])), (w1, .inl (cW, 8, .inr (.inl F1)))] H := hP
      have hD : va_D A [(s1, .inl (cS, 70, .inl U)), (r1, .inl (cR, 560, .inl T)), (e1, .inl (cE, 48, .inl E)), (d1, .inr (0, [.ref k1, .int (nI M), .int (nI (mx_cnt S 8)), .long pv2])), (k1, .inl (cK, 48, .inr (.inl K2))), (h0, .inr (1, [.ref e1, .int (nI M), .int (nI R), .int (nI V), .ref s1, .ref r1, .int (nI n), .ref d1, .ref w1])), (w1, .inl (cW, 8, .inr (.inl F1)))] := hD
      refine lv_istore_n (lv' := [(2, .int (dirv E M V S)), (0, .ref h0), (1, .int (nI S))]) hx hb dX1_listIfSupport_36 rfl hl (by decide) rfl (fun ls hl => ?_)
      refine lv_iload_n hx hb dX1_listIfSupport_37 rfl (lv_at hl 0 rfl) ?_
      refine lv_if_eq (tgt := 47) hx hb dX1_listIfSupport_38 (by decide) (fun c_38 => ?_) (fun c_38 => ?_)
      · exact gx_retv hx hb hr hlocks (n, U, T, M, mx_cnt S 8, pv2, K2, F1) (li_no (fun q => q.2.2 c_38)) hK (hP.sub [5, 2, 0, 1, 3, 4, 6] rfl) (hD.sub [5, 2, 0, 1, 3, 4, 6] (by decide) rfl) hS dX1_listIfSupport_47
      · refine lv_aload_n hx hb dX1_listIfSupport_41 rfl (lv_at hl 1 rfl) ?_
        refine lv_iload_n hx hb dX1_listIfSupport_42 rfl (lv_at hl 2 rfl) ?_
        refine lv_iload_n hx hb dX1_listIfSupport_43 rfl (lv_at hl 0 rfl) ?_
        refine gx_jv (wr := [(e1, .inl (cE, 48, .inl E)), (d1, .inr (0, [.ref k1, .int (nI M), .int (nI (mx_cnt S 8)), .long pv2])), (k1, .inl (cK, 48, .inr (.inl K2)))]) (gx_rV (As := [.int (nI S), .int (dirv E M V S)]) (rest := []) C0 (kX1_list l D h0 e1 s1 r1 d1 w1 M R V n S (dirv E M V S) cS cR cW U T F1 (fvv E M S) (by omega) hF (fun j hj => fvv_abs hM6 h9 S j hj) _) (cwV 2 hts gX1_listIfSupport_X1_list rfl rfl rfl (by decide +kernel) ⟨Nat.le_of_ble_eq_true rfl, Nat.le_of_ble_eq_true rfl⟩) hN hK hP hD [5, 0, 1, 6] [1, 2, 4] rfl rfl (by decide) rfl 0 rfl rfl rfl rfl hl.1 rfl (Nat.le_of_ble_eq_true rfl) dX1_listIfSupport_44 ⟨Nat.zero_le _, Nat.zero_le _⟩) hP hD hS hA [5, 0, 1, 6] [2, 3, 4] rfl rfl (by decide) (by decide) (fun u H locs hw hP hD hS => ?_)
        obtain ⟨T1, rfl⟩ : ∃ z, z = u := ⟨_, rfl⟩
        have hr9 : rl_I T T1 n (ratv E M V S) 8 := hw
        have hP : va_P D vwCl [(e1, .inl (cE, 48, .inl E)), (d1, .inr (0, [.ref k1, .int (nI M), .int (nI (mx_cnt S 8)), .long pv2])), (k1, .inl (cK, 48, .inr (.inl K2))), (h0, .inr (1, [.ref e1, .int (nI M), .int (nI R), .int (nI V), .ref s1, .ref r1, .int (nI (n + 1)), .ref d1, .ref w1])), (s1, .inl (cS, 70, .inl (upd U n (nI S)))), (r1, .inl (cR, 560, .inl T1)), (w1, .inl (cW, 8, .inr (.inl F1)))] H := hP
        have hD : va_D A [(e1, .inl (cE, 48, .inl E)), (d1, .inr (0, [.ref k1, .int (nI M), .int (nI (mx_cnt S 8)), .long pv2])), (k1, .inl (cK, 48, .inr (.inl K2))), (h0, .inr (1, [.ref e1, .int (nI M), .int (nI R), .int (nI V), .ref s1, .ref r1, .int (nI (n + 1)), .ref d1, .ref w1])), (s1, .inl (cS, 70, .inl (upd U n (nI S)))), (r1, .inl (cR, 560, .inl T1)), (w1, .inl (cW, 8, .inr (.inl F1)))] := hD
        exact gx_retv hx hb hr hlocks (n + 1, upd U n (nI S), T1, M, mx_cnt S 8, pv2, K2, F1) (li_yes ⟨by omega, lf_T_ok (hq1 c_22), c_38⟩ hr9) hK (hP.sub [3, 0, 4, 5, 1, 2, 6] rfl) (hD.sub [3, 0, 4, 5, 1, 2, 6] (by decide) rfl) hS dX1_listIfSupport_47
    · exact gx_retv hx hb hr hlocks (n, U, T, M, mx_cnt S 8, pv2, K2, F) (li_no (fun q => lf_F_ok (hq2 c_22) q.2.1)) hK (hP.sub [3, 4, 0, 1, 5, 6, 2] rfl) (hD.sub [3, 4, 0, 1, 5, 6, 2] (by decide) rfl) hS dX1_listIfSupport_25
  · exact gx_retv hx hb hr hlocks (n, U, T, w, t, pv, K, F) (li_no (fun q => absurd q.1 (by omega))) hK (hP.sub [0, 1, 2, 3, 4, 5, 6] rfl) (hD.sub [0, 1, 2, 3, 4, 5, 6] (by decide) rfl) hS dX1_listIfSupport_9
abbrev rmX1_solve : Room := { frames := 5, cells := 0, slots := 0, locals := 125 }
theorem iw_X1_solve_X1 : ∀ w ∈ wsX10, w ∈ wsX1_solve := by decide +kernel
theorem kw_X1_solve_34 : Cond.fieldLink RX1 34 "FluxModes" "reactions" "I" ∈ wsX1_solve := by decide +kernel
theorem kw_X1_solve_40 : Cond.fieldLink RX1 40 "FluxModes" "listed" "I" ∈ wsX1_solve := by decide +kernel
set_option maxHeartbeats 4000000 in
set_option maxRecDepth 100000 in
theorem lpX1_solve {p : Program} {l : Launch} {e : Env} {s : State} {m : MethodId} {args : Array Value} {below : List Frame} {meth : Method} {c : Code} {Q : State → Prop} {D : va_G} {A : Nat → Prop} {H0 : Heap} (C0 : CallFix p m c cX1_solve 3 s args wsX1_solve RX1) (hN : gx_N s) (hA : ∀ q : Nat, H0.size ≤ q → A q) {h0 e1 s1 r1 d1 w1 k1 M R V Z : Nat} {cE cS cR cK cW : ClassId} {E : Nat → Int32} (hM6 : M ≤ 6) (hR8 : R ≤ 8) (h9 : e9 E) (hZ : Z = 2 ^ R) (hZ8 : Z ≤ 256) (hK : va_K D vwCl [(cE, .int), (cS, .int), (cR, .int), (cK, .long), (cW, .long)] s) (kk : ∀ (n : Nat) (U T : Nat → Int32) (w t : Nat) (pv : Int64) (K F : Nat → Int64) (H : Heap) (locs : List Loc) (ls : Array Slot), (LsM E M R V Z n U T) → va_P D vwCl [(h0, .inr (1, [.ref e1, .int (nI M), .int (nI R), .int (nI V), .ref s1, .ref r1, .int (nI n), .ref d1, .ref w1])), (e1, .inl (cE, 48, .inl E)), (s1, .inl (cS, 70, .inl U)), (r1, .inl (cR, 560, .inl T)), (d1, .inr (0, [.ref k1, .int (nI w), .int (nI t), .long pv])), (k1, .inl (cK, 48, .inr (.inl K))), (w1, .inl (cW, 8, .inr (.inl F)))] H → va_D A [(h0, .inr (1, [.ref e1, .int (nI M), .int (nI R), .int (nI V), .ref s1, .ref r1, .int (nI n), .ref d1, .ref w1])), (e1, .inl (cE, 48, .inl E)), (s1, .inl (cS, 70, .inl U)), (r1, .inl (cR, 560, .inl T)), (d1, .inr (0, [.ref k1, .int (nI w), .int (nI t), .long pv])), (k1, .inl (cK, 48, .inr (.inl K))), (w1, .inl (cW, 8, .inr (.inl F)))] → va_S A H0 H locs → lv_has ls 3 [(0, .ref h0), (1, .int (nI Z)), (2, .int (nI Z))] → W p l e rmX1_solve s m args below meth c H locs 0 0 Q (F0 m 30 ls [])) : ∀ (n_ : Nat) (N : Nat) (n : Nat) (U T : Nat → Int32) (w t : Nat) (pv : Int64) (K F : Nat → Int64) (H : Heap) (locs : List Loc) (ls : Array Slot), (N ≤ Z ∧ Z < N + n_) → (0 < N ∧ LsM E M R V N n U T) → va_P D vwCl [(h0, .inr (1, [.ref e1, .int (nI M), .int (nI R), .int (nI V), .ref s1, .ref r1, .int (nI n), .ref d1, .ref w1])), (e1, .inl (cE, 48, .inl E)), (s1, .inl (cS, 70, .inl U)), (r1, .inl (cR, 560, .inl T)), (d1, .inr (0, [.ref k1, .int (nI w), .int (nI t), .long pv])), (k1, .inl (cK, 48, .inr (.inl K))), (w1, .inl (cW, 8, .inr (.inl F)))] H → va_D A [(h0, .inr (1, [.ref e1, .int (nI M), .int (nI R), .int (nI V), .ref s1, .ref r1, .int (nI n), .ref d1, .ref w1])), (e1, .inl (cE, 48, .inl E)), (s1, .inl (cS, 70, .inl U)), (r1, .inl (cR, 560, .inl T)), (d1, .inr (0, [.ref k1, .int (nI w), .int (nI t), .long pv])), (k1, .inl (cK, 48, .inr (.inl K))), (w1, .inl (cW, 8, .inr (.inl F)))] → va_S A H0 H locs → lv_has ls 3 [(0, .ref h0), (1, .int (nI Z)), (2, .int (nI N))] → W p l e rmX1_solve s m args below meth c H locs 0 0 Q (F0 m 14 ls []) := by
  obtain ⟨hx, hb, hml, hown, hts⟩ := id C0
  intro n_
  induction n_ with
  | zero =>
    intro N n U T w t pv K F H locs ls hm
    exact absurd hm (by omega)
  | succ n_ ih =>
    intro N n U T w t pv K F H locs ls hm hI hP hD hS hl
    refine lv_iload_n hx hb dX1_solve_14 rfl (lv_at hl 2 rfl) ?_
    refine lv_iload_n hx hb dX1_solve_15 rfl (lv_at hl 1 rfl) ?_
    refine gx_ge (tgt := 30) hx hb dX1_solve_16 (by decide) (by omega) (by omega) (fun c_16 => ?_) (fun c_16 => ?_)
    · have hNZ : N = Z := by omega
      subst hNZ
      exact kk _ _ _ _ _ _ _ _ _ _ _ hI.2 (hP.sub [0, 1, 2, 3, 4, 5, 6] rfl) (hD.sub [0, 1, 2, 3, 4, 5, 6] (by decide) rfl) hS (lv_sub hl [0, 1, 2] rfl)
    · have hn70 : n ≤ 70 := LsM_70 hR8 (by omega) hI.2
      refine lv_aload_n hx hb dX1_solve_19 rfl (lv_at hl 0 rfl) ?_
      refine lv_iload_n hx hb dX1_solve_20 rfl (lv_at hl 2 rfl) ?_
      refine gx_jv (wr := []) (gx_rV (As := [.int (nI N)]) (rest := []) C0 (kX1_listIfSupport l D h0 e1 s1 r1 d1 w1 k1 M R V n N w t pv cE cS cR cK cW E U T K F hM6 hR8 h9 hI.1 (by rw [← hZ]; exact c_16) hn70 _) (cwV 1 hts gX1_solve_X1_listIfSupport rfl rfl rfl (by decide +kernel) ⟨Nat.le_of_ble_eq_true rfl, Nat.le_of_ble_eq_true rfl⟩) hN hK hP hD [0, 1, 2, 3, 4, 5, 6] [0, 1, 2, 3, 4] rfl rfl (by decide) rfl 0 rfl rfl rfl rfl hl.1 rfl (Nat.le_of_ble_eq_true rfl) dX1_solve_21 ⟨Nat.zero_le _, Nat.zero_le _⟩) hP hD hS hA [0, 1, 2, 3, 4, 5, 6] [] rfl rfl (by decide) (by decide) (fun u H locs hw hP hD hS => ?_)
      have hw : li_P E M V N n U T u.1 u.2.1 u.2.2.1 := hw
      have hP : va_P D vwCl [(h0, .inr (1, [.ref e1, .int (nI M), .int (nI R), .int (nI V), .ref s1, .ref r1, .int (nI (u.1)), .ref d1, .ref w1])), (e1, .inl (cE, 48, .inl E)), (s1, .inl (cS, 70, .inl u.2.1)), (r1, .inl (cR, 560, .inl u.2.2.1)), (d1, .inr (0, [.ref k1, .int (nI (u.2.2.2.1)), .int (nI (u.2.2.2.2.1)), .long u.2.2.2.2.2.1])), (k1, .inl (cK, 48, .inr (.inl u.2.2.2.2.2.2.1))), (w1, .inl (cW, 8, .inr (.inl u.2.2.2.2.2.2.2)))] H := hP
      have hD : va_D A [(h0, .inr (1, [.ref e1, .int (nI M), .int (nI R), .int (nI V), .ref s1, .ref r1, .int (nI (u.1)), .ref d1, .ref w1])), (e1, .inl (cE, 48, .inl E)), (s1, .inl (cS, 70, .inl u.2.1)), (r1, .inl (cR, 560, .inl u.2.2.1)), (d1, .inr (0, [.ref k1, .int (nI (u.2.2.2.1)), .int (nI (u.2.2.2.2.1)), .long u.2.2.2.2.2.1])), (k1, .inl (cK, 48, .inr (.inl u.2.2.2.2.2.2.1))), (w1, .inl (cW, 8, .inr (.inl u.2.2.2.2.2.2.2)))] := hD
      refine lv_iinc (v := nI (N + 1)) (lv' := [(2, .int (nI (N + 1))), (0, .ref h0), (1, .int (nI Z))]) hx hb dX1_solve_24 hl (k := 2) rfl ((nI_succ N).symm) (by decide) rfl (fun ls hl => ?_)
      refine lv_goto (tgt := 14) hx hb dX1_solve_27 (by decide) ?_
      exact ih (N + 1) _ _ _ _ _ _ _ _ _ _ _ (by omega) ⟨Nat.succ_pos N, LsM_s hR8 hI.1 (by rw [← hZ]; exact c_16) hI.2 hw⟩ (hP.sub [0, 1, 2, 3, 4, 5, 6] rfl) (hD.sub [0, 1, 2, 3, 4, 5, 6] (by decide) rfl) hS (lv_sub hl [1, 2, 0] rfl)
set_option maxHeartbeats 4000000 in
set_option maxRecDepth 100000 in
theorem kX1_solve (l : Launch) (D : va_G) (h0 e1 s1 r1 d1 w1 k1 M R V n w t : Nat) (pv : Int64) (cE cS cR cK cW : ClassId) (E U T : Nat → Int32) (K F : Nat → Int64) (hM6 : M ≤ 6) (hR8 : R ≤ 8) (h9 : e9 E) : gx_Mi l D yX1_solve wsX1_solve rmX1_solve [.ref h0] [(cE, .int), (cS, .int), (cR, .int), (cK, .long), (cW, .long)] [(h0, .inr (1, [.ref e1, .int (nI M), .int (nI R), .int (nI V), .ref s1, .ref r1, .int (nI n), .ref d1, .ref w1])), (e1, .inl (cE, 48, .inl E)), (s1, .inl (cS, 70, .inl U)), (r1, .inl (cR, 560, .inl T)), (d1, .inr (0, [.ref k1, .int (nI w), .int (nI t), .long pv])), (k1, .inl (cK, 48, .inr (.inl K))), (w1, .inl (cW, 8, .inr (.inl F)))] (S := Nat × (Nat → Int32) × (Nat → Int32) × Nat × Nat × Int64 × (Nat → Int64) × (Nat → Int64)) (fun r (u : Nat × (Nat → Int32) × (Nat → Int32) × Nat × Nat × Int64 × (Nat → Int64) × (Nat → Int64)) => r = nI u.1 ∧ LsM E M R V 256 u.1 u.2.1 u.2.2.1) (fun (u : Nat × (Nat → Int32) × (Nat → Int32) × Nat × Nat × Int64 × (Nat → Int64) × (Nat → Int64)) => [(h0, .inr (1, [.ref e1, .int (nI M), .int (nI R), .int (nI V), .ref s1, .ref r1, .int (nI (u.1)), .ref d1, .ref w1])), (e1, .inl (cE, 48, .inl E)), (s1, .inl (cS, 70, .inl u.2.1)), (r1, .inl (cR, 560, .inl u.2.2.1)), (d1, .inr (0, [.ref k1, .int (nI (u.2.2.2.1)), .int (nI (u.2.2.2.2.1)), .long u.2.2.2.2.2.1])), (k1, .inl (cK, 48, .inr (.inl u.2.2.2.2.2.2.1))), (w1, .inl (cW, 8, .inr (.inl u.2.2.2.2.2.2.2)))]) := by
  intro sz
  refine gx_start (cc := cX1_solve) (maxL := 3) (ret := (some .int)) (Qc := fun A => va_Qi (fun r (u : Nat × (Nat → Int32) × (Nat → Int32) × Nat × Nat × Int64 × (Nat → Int64) × (Nat → Int64)) => r = nI u.1 ∧ LsM E M R V 256 u.1 u.2.1 u.2.2.1) (gx_B D [(cE, .int), (cS, .int), (cR, .int), (cK, .long), (cW, .long)] A (fun (u : Nat × (Nat → Int32) × (Nat → Int32) × Nat × Nat × Int64 × (Nat → Int64) × (Nat → Int64)) => [(h0, .inr (1, [.ref e1, .int (nI M), .int (nI R), .int (nI V), .ref s1, .ref r1, .int (nI (u.1)), .ref d1, .ref w1])), (e1, .inl (cE, 48, .inl E)), (s1, .inl (cS, 70, .inl u.2.1)), (r1, .inl (cR, 560, .inl u.2.2.1)), (d1, .inr (0, [.ref k1, .int (nI (u.2.2.2.1)), .int (nI (u.2.2.2.2.1)), .long u.2.2.2.2.2.1])), (k1, .inl (cK, 48, .inr (.inl u.2.2.2.2.2.2.1))), (w1, .inl (cW, 8, .inr (.inl u.2.2.2.2.2.2.2)))])) A) (by decide) rfl (Nat.le_of_ble_eq_true rfl) ?_ sz
  intro p e s m below meth c A hbody ls hl
  obtain ⟨C0, hr, hlocks, hN, hK, hP, hD, hA⟩ := hbody
  have C0 : CallFix p m c cX1_solve 3 s ([.ref h0] : List Value).toArray wsX1_solve RX1 := C0
  obtain ⟨hx, hb, hml, hown, hts⟩ := id C0
  have hS : va_S A s.heap s.heap [] := va_S.rf
  have hl : lv_has ls 3 [(0, .ref h0)] := hl
  refine lv_aload_n hx hb dX1_solve_0 rfl (lv_at hl 0 rfl) ?_
  refine lv_iconst (v := nI 0) hx hb dX1_solve_1 (by decide) ?_
  refine va_put (D := D) (ci := 1) (v := .int (nI 0)) (ty := .int) (C := RX1) (T := TX1) (N := 9) hx hb hts iw_X1_solve_X1 tyX1 tyX1_ok nmX1 hown hK hP hD hS 0 rfl rfl 6 (by decide) (hts _ kw_X1_solve_40) (fun _ h9 => h9) rfl (by decide +kernel) rfl rfl (Nat.le_of_ble_eq_true rfl) dX1_solve_2 (fun H locs hP hD hS => ?_)
  have hP : va_P D vwCl [(h0, .inr (1, [.ref e1, .int (nI M), .int (nI R), .int (nI V), .ref s1, .ref r1, .int (nI 0), .ref d1, .ref w1])), (e1, .inl (cE, 48, .inl E)), (s1, .inl (cS, 70, .inl U)), (r1, .inl (cR, 560, .inl T)), (d1, .inr (0, [.ref k1, .int (nI w), .int (nI t), .long pv])), (k1, .inl (cK, 48, .inr (.inl K))), (w1, .inl (cW, 8, .inr (.inl F)))] H := hP
  have hD : va_D A [(h0, .inr (1, [.ref e1, .int (nI M), .int (nI R), .int (nI V), .ref s1, .ref r1, .int (nI 0), .ref d1, .ref w1])), (e1, .inl (cE, 48, .inl E)), (s1, .inl (cS, 70, .inl U)), (r1, .inl (cR, 560, .inl T)), (d1, .inr (0, [.ref k1, .int (nI w), .int (nI t), .long pv])), (k1, .inl (cK, 48, .inr (.inl K))), (w1, .inl (cW, 8, .inr (.inl F)))] := hD
  refine lv_iconst (v := nI 1) hx hb dX1_solve_5 (by decide) ?_
  refine lv_aload_n hx hb dX1_solve_6 rfl (lv_at hl 0 rfl) ?_
  refine va_get (D := D) (ci := 1) (v := .int (nI R)) (C := RX1) (T := TX1) (N := 9) hx hb hts iw_X1_solve_X1 hown hK hP 0 rfl rfl 2 (by decide) (hts _ kw_X1_solve_34) (fun _ h9 => h9) rfl dX1_solve_7 ?_
  refine lv_ishl hx hb dX1_solve_10 ?_
  refine gx_i (y := nI (2 ^ R)) (nx_shl1 R (by omega)) ?_
  refine lv_istore_n (lv' := [(1, .int (nI (2 ^ R))), (0, .ref h0)]) hx hb dX1_solve_11 rfl hl (by decide) rfl (fun ls hl => ?_)
  refine lv_iconst (v := nI 1) hx hb dX1_solve_12 (by decide) ?_
  refine lv_istore_n (lv' := [(2, .int (nI 1)), (1, .int (nI (2 ^ R))), (0, .ref h0)]) hx hb dX1_solve_13 rfl hl (by decide) rfl (fun ls hl => ?_)
  refine lpX1_solve C0 hN hA hM6 hR8 h9 rfl (pow_256 hR8) hK (fun n1 U1 T1 w1_ t1 pv1 K1 F1 H locs ls hI hP hD hS hl => ?_) (2 ^ R + 1) 1 0 U T w t pv K F _ _ _ (by have h1 := Nat.pow_pos (n := R) (show 0 < 2 by decide); omega) ⟨Nat.zero_lt_one, LsM_0 E M R V U T⟩ (hP.sub [0, 1, 2, 3, 4, 5, 6] rfl) (hD.sub [0, 1, 2, 3, 4, 5, 6] (by decide) rfl) hS (lv_sub hl [2, 1, 0] rfl)
  refine lv_aload_n hx hb dX1_solve_30 rfl (lv_at hl 0 rfl) ?_
  refine va_get (D := D) (ci := 1) (v := .int (nI n1)) (C := RX1) (T := TX1) (N := 9) hx hb hts iw_X1_solve_X1 hown hK hP 0 rfl rfl 6 (by decide) (hts _ kw_X1_solve_40) (fun _ h9 => h9) rfl dX1_solve_31 ?_
  exact gx_reti hx hb hr hlocks (n1, U1, T1, w1_, t1, pv1, K1, F1) (⟨rfl, LsM_up (pow_256 hR8) hI⟩) hK (hP.sub [0, 1, 2, 3, 4, 5, 6] rfl) (hD.sub [0, 1, 2, 3, 4, 5, 6] (by decide) rfl) hS dX1_solve_34
end
section
theorem fl_s {E : Nat → Int32} {v : Int32} {i : Nat} (h : ∀ q, q < i → E q = v) : ∀ q, q < i + 1 → upd E i v q = v := by
  intro q hq
  by_cases hqi : q = i
  · rw [hqi]; exact upd_at _ _ _
  · rw [upd_ne hqi]; exact h q (by omega)
abbrev rmJ7_fill_53178 : Room := { frames := 0, cells := 0, slots := 0, locals := 0 }
set_option maxHeartbeats 4000000 in
set_option maxRecDepth 100000 in
theorem lpJ7_fill {p : Program} {l : Launch} {e : Env} {s : State} {m : MethodId} {args : Array Value} {below : List Frame} {meth : Method} {c : Code} {Q : State → Prop} {D : va_G} {A : Nat → Prop} {H0 : Heap} (C0 : CallFix p m c cJ7_fill_53178 4 s args wsJ7_fill_53178 RJ7) (hN : gx_N s) (hA : ∀ q : Nat, H0.size ≤ q → A q) {e1 : Nat} {v : Int32} {cE : ClassId}  (hK : va_K D vwCl [(cE, .int)] s) (kk : ∀ (E : Nat → Int32) (H : Heap) (locs : List Loc) (ls : Array Slot), (∀ q, q < 48 → E q = v) → va_P D vwCl [(e1, .inl (cE, 48, .inl E))] H → va_D A [(e1, .inl (cE, 48, .inl E))] → va_S A H0 H locs → lv_has ls 4 [(0, .ref e1), (1, .int v), (2, .int (nI 48)), (3, .int (nI 48))] → W p l e rmJ7_fill_53178 s m args below meth c H locs 0 0 Q (F0 m 20 ls [])) : ∀ (n_ : Nat) (i : Nat) (E : Nat → Int32) (H : Heap) (locs : List Loc) (ls : Array Slot), (i ≤ 48 ∧ 48 < i + n_) → (∀ q, q < i → E q = v) → va_P D vwCl [(e1, .inl (cE, 48, .inl E))] H → va_D A [(e1, .inl (cE, 48, .inl E))] → va_S A H0 H locs → lv_has ls 4 [(0, .ref e1), (1, .int v), (2, .int (nI i)), (3, .int (nI 48))] → W p l e rmJ7_fill_53178 s m args below meth c H locs 0 0 Q (F0 m 5 ls []) := by
  obtain ⟨hx, hb, hml, hown, hts⟩ := id C0
  intro n_
  induction n_ with
  | zero =>
    intro i E H locs ls hm
    exact absurd hm (by omega)
  | succ n_ ih =>
    intro i E H locs ls hm hI hP hD hS hl
    refine lv_iload_n hx hb dJ7_fill_53178_5 rfl (lv_at hl 2 rfl) ?_
    refine lv_iload_n hx hb dJ7_fill_53178_6 rfl (lv_at hl 3 rfl) ?_
    refine gx_ge (tgt := 20) hx hb dJ7_fill_53178_7 (by decide) (by omega) (by omega) (fun c_7 => ?_) (fun c_7 => ?_)
    · have hi8 : i = 48 := by omega
      subst hi8
      exact kk _ _ _ _ hI (hP.sub [0] rfl) (hD.sub [0] (by decide) rfl) hS (lv_sub hl [0, 1, 2, 3] rfl)
    · refine lv_aload_n hx hb dJ7_fill_53178_10 rfl (lv_at hl 0 rfl) ?_
      refine lv_iload_n hx hb dJ7_fill_53178_11 rfl (lv_at hl 2 rfl) ?_
      refine lv_iload_n hx hb dJ7_fill_53178_12 rfl (lv_at hl 1 rfl) ?_
      refine gx_iast (q := i) hx hb hK hP hD hS 0 0 rfl rfl (rfl) (by omega) (by decide) dJ7_fill_53178_13 (fun H locs hP hD hS => ?_)
      have hP : va_P D vwCl [(e1, .inl (cE, 48, .inl (upd E i v)))] H := hP
      have hD : va_D A [(e1, .inl (cE, 48, .inl (upd E i v)))] := hD
      refine lv_iinc (v := nI (i + 1)) (lv' := [(2, .int (nI (i + 1))), (0, .ref e1), (1, .int v), (3, .int (nI 48))]) hx hb dJ7_fill_53178_14 hl (k := 2) rfl ((nI_succ i).symm) (by decide) rfl (fun ls hl => ?_)
      refine lv_goto (tgt := 5) hx hb dJ7_fill_53178_17 (by decide) ?_
      exact ih (i + 1) _ _ _ _ (by omega) (fl_s hI) (hP.sub [0] rfl) (hD.sub [0] (by decide) rfl) hS (lv_sub hl [1, 2, 0, 3] rfl)
set_option maxHeartbeats 4000000 in
set_option maxRecDepth 100000 in
theorem kJ7_fill_53178 (l : Launch) (D : va_G) (e1 : Nat) (v : Int32) (cE : ClassId) (E : Nat → Int32)  : gx_Mv l D yJ7_fill_53178 wsJ7_fill_53178 rmJ7_fill_53178 [.ref e1, .int v] [(cE, .int)] [(e1, .inl (cE, 48, .inl E))] (S := Nat → Int32) (fun (u : Nat → Int32) => ∀ q, q < 48 → u q = v) (fun (u : Nat → Int32) => [(e1, .inl (cE, 48, .inl u))]) := by
  intro sz
  refine gx_start (cc := cJ7_fill_53178) (maxL := 4) (ret := none) (Qc := fun A => va_Qv (fun (u : Nat → Int32) => ∀ q, q < 48 → u q = v) (gx_B D [(cE, .int)] A (fun (u : Nat → Int32) => [(e1, .inl (cE, 48, .inl u))])) A) (by decide) rfl (Nat.le_of_ble_eq_true rfl) ?_ sz
  intro p e s m below meth c A hbody ls hl
  obtain ⟨C0, hr, hlocks, hN, hK, hP, hD, hA⟩ := hbody
  have C0 : CallFix p m c cJ7_fill_53178 4 s ([.ref e1, .int v] : List Value).toArray wsJ7_fill_53178 RJ7 := C0
  obtain ⟨hx, hb, hml, hown, hts⟩ := id C0
  have hS : va_S A s.heap s.heap [] := va_S.rf
  have hl : lv_has ls 4 [(0, .ref e1), (1, .int v)] := hl
  refine lv_iconst (v := nI 0) hx hb dJ7_fill_53178_0 (by decide) ?_
  refine lv_istore_n (lv' := [(2, .int (nI 0)), (0, .ref e1), (1, .int v)]) hx hb dJ7_fill_53178_1 rfl hl (by decide) rfl (fun ls hl => ?_)
  refine lv_aload_n hx hb dJ7_fill_53178_2 rfl (lv_at hl 1 rfl) ?_
  refine va_alen (v := nI 48) hx hb hK hP 0 0 rfl rfl rfl dJ7_fill_53178_3 ?_
  refine lv_istore_n (lv' := [(3, .int (nI 48)), (2, .int (nI 0)), (0, .ref e1), (1, .int v)]) hx hb dJ7_fill_53178_4 rfl hl (by decide) rfl (fun ls hl => ?_)
  refine lpJ7_fill C0 hN hA hK (fun E1 H locs ls hI hP hD hS hl => ?_) 49 0 E _ _ _ (by omega) (fun q h => absurd h (Nat.not_lt_zero q)) (hP.sub [0] rfl) (hD.sub [0] (by decide) rfl) hS (lv_sub hl [2, 3, 1, 0] rfl)
  exact gx_retv hx hb hr hlocks E1 (hI) hK (hP.sub [0] rfl) (hD.sub [0] (by decide) rfl) hS dJ7_fill_53178_20
abbrev rmX1_size : Room := { frames := 1, cells := 0, slots := 0, locals := 23 }
theorem iw_X1_size_X1 : ∀ w ∈ wsX10, w ∈ wsX1_size := by decide +kernel
theorem kw_X1_size_9 : Cond.fieldLink RX1 9 "FluxModes" "entries" "[I" ∈ wsX1_size := by decide +kernel
theorem kw_X1_size_30 : Cond.fieldLink RX1 30 "FluxModes" "metabolites" "I" ∈ wsX1_size := by decide +kernel
theorem kw_X1_size_34 : Cond.fieldLink RX1 34 "FluxModes" "reactions" "I" ∈ wsX1_size := by decide +kernel
theorem kw_X1_size_37 : Cond.fieldLink RX1 37 "FluxModes" "reversibleSet" "I" ∈ wsX1_size := by decide +kernel
theorem kw_X1_size_40 : Cond.fieldLink RX1 40 "FluxModes" "listed" "I" ∈ wsX1_size := by decide +kernel
set_option maxHeartbeats 4000000 in
set_option maxRecDepth 100000 in
theorem kX1_size (l : Launch) (D : va_G) (h0 e1 s1 r1 d1 w1 M R V n : Nat) (x y : Int32) (cE : ClassId) (E : Nat → Int32)  : gx_Mi l D yX1_size wsX1_size rmX1_size [.ref h0, .int x, .int y] [(cE, .int)] [(h0, .inr (1, [.ref e1, .int (nI M), .int (nI R), .int (nI V), .ref s1, .ref r1, .int (nI n), .ref d1, .ref w1])), (e1, .inl (cE, 48, .inl E))] (S := Nat × Nat × Nat × Nat × (Nat → Int32)) (fun r (u : Nat × Nat × Nat × Nat × (Nat → Int32)) => r = bI (szok x y) ∧ (szok x y = true → x = nI u.1 ∧ y = nI u.2.1 ∧ u.1 ≤ 6 ∧ 1 ≤ u.2.1 ∧ u.2.1 ≤ 8 ∧ u.2.2.1 = 0 ∧ u.2.2.2.1 = 0 ∧ ∀ q, q < 48 → u.2.2.2.2 q = nI 0) ∧ (szok x y = false → u.1 = M ∧ u.2.1 = R ∧ u.2.2.1 = V ∧ u.2.2.2.1 = n ∧ u.2.2.2.2 = E)) (fun (u : Nat × Nat × Nat × Nat × (Nat → Int32)) => [(h0, .inr (1, [.ref e1, .int (nI (u.1)), .int (nI (u.2.1)), .int (nI (u.2.2.1)), .ref s1, .ref r1, .int (nI (u.2.2.2.1)), .ref d1, .ref w1])), (e1, .inl (cE, 48, .inl u.2.2.2.2))]) := by
  intro sz
  refine gx_start (cc := cX1_size) (maxL := 3) (ret := (some .boolean)) (Qc := fun A => va_Qi (fun r (u : Nat × Nat × Nat × Nat × (Nat → Int32)) => r = bI (szok x y) ∧ (szok x y = true → x = nI u.1 ∧ y = nI u.2.1 ∧ u.1 ≤ 6 ∧ 1 ≤ u.2.1 ∧ u.2.1 ≤ 8 ∧ u.2.2.1 = 0 ∧ u.2.2.2.1 = 0 ∧ ∀ q, q < 48 → u.2.2.2.2 q = nI 0) ∧ (szok x y = false → u.1 = M ∧ u.2.1 = R ∧ u.2.2.1 = V ∧ u.2.2.2.1 = n ∧ u.2.2.2.2 = E)) (gx_B D [(cE, .int)] A (fun (u : Nat × Nat × Nat × Nat × (Nat → Int32)) => [(h0, .inr (1, [.ref e1, .int (nI (u.1)), .int (nI (u.2.1)), .int (nI (u.2.2.1)), .ref s1, .ref r1, .int (nI (u.2.2.2.1)), .ref d1, .ref w1])), (e1, .inl (cE, 48, .inl u.2.2.2.2))])) A) (by decide) rfl (Nat.le_of_ble_eq_true rfl) ?_ sz
  intro p e s m below meth c A hbody ls hl
  obtain ⟨C0, hr, hlocks, hN, hK, hP, hD, hA⟩ := hbody
  have C0 : CallFix p m c cX1_size 3 s ([.ref h0, .int x, .int y] : List Value).toArray wsX1_size RX1 := C0
  obtain ⟨hx, hb, hml, hown, hts⟩ := id C0
  have hS : va_S A s.heap s.heap [] := va_S.rf
  have hl : lv_has ls 3 [(0, .ref h0), (1, .int x), (2, .int y)] := hl
  refine lv_iload_n hx hb dX1_size_0 rfl (lv_at hl 1 rfl) ?_
  refine lv_if_lt (tgt := 21) hx hb dX1_size_1 (by decide) (fun c_1 => ?_) (fun c_1 => ?_)
  · have hz : szok x y = false := sz_1 c_1
    refine lv_iconst (v := nI 0) hx hb dX1_size_21 (by decide) ?_
    exact gx_retz hx hb hr hlocks false (by decide) (M, R, V, n, E) (⟨by rw [hz]; decide, fun h => absurd (h.symm.trans hz) (by decide), fun _ => ⟨rfl, rfl, rfl, rfl, rfl⟩⟩) hK (hP.sub [0, 1] rfl) (hD.sub [0, 1] (by decide) rfl) hS dX1_size_22
  · refine lv_iload_n hx hb dX1_size_4 rfl (lv_at hl 1 rfl) ?_
    refine lv_bipush (v := nI 6) hx hb dX1_size_5 (by decide) ?_
    refine lv_icmp_gt (tgt := 21) hx hb dX1_size_7 (by decide) (fun c_7 => ?_) (fun c_7 => ?_)
    · have hz : szok x y = false := sz_2 c_7
      refine lv_iconst (v := nI 0) hx hb dX1_size_21 (by decide) ?_
      exact gx_retz hx hb hr hlocks false (by decide) (M, R, V, n, E) (⟨by rw [hz]; decide, fun h => absurd (h.symm.trans hz) (by decide), fun _ => ⟨rfl, rfl, rfl, rfl, rfl⟩⟩) hK (hP.sub [0, 1] rfl) (hD.sub [0, 1] (by decide) rfl) hS dX1_size_22
    · refine lv_iload_n hx hb dX1_size_10 rfl (lv_at hl 2 rfl) ?_
      refine lv_iconst (v := nI 1) hx hb dX1_size_11 (by decide) ?_
      refine lv_icmp_lt (tgt := 21) hx hb dX1_size_12 (by decide) (fun c_12 => ?_) (fun c_12 => ?_)
      · have hz : szok x y = false := sz_3 c_12
        refine lv_iconst (v := nI 0) hx hb dX1_size_21 (by decide) ?_
        exact gx_retz hx hb hr hlocks false (by decide) (M, R, V, n, E) (⟨by rw [hz]; decide, fun h => absurd (h.symm.trans hz) (by decide), fun _ => ⟨rfl, rfl, rfl, rfl, rfl⟩⟩) hK (hP.sub [0, 1] rfl) (hD.sub [0, 1] (by decide) rfl) hS dX1_size_22
      · refine lv_iload_n hx hb dX1_size_15 rfl (lv_at hl 2 rfl) ?_
        refine lv_bipush (v := nI 8) hx hb dX1_size_16 (by decide) ?_
        refine lv_icmp_le (tgt := 23) hx hb dX1_size_18 (by decide) (fun c_18 => ?_) (fun c_18 => ?_)
        · have hz : szok x y = true := sz_t c_1 c_7 c_12 c_18
          obtain ⟨a, b, ha6, hb1, hb8, rfl, rfl⟩ := sz_of hz
          refine lv_aload_n hx hb dX1_size_23 rfl (lv_at hl 0 rfl) ?_
          refine lv_iload_n hx hb dX1_size_24 rfl (lv_at hl 1 rfl) ?_
          refine va_put (D := D) (ci := 1) (v := .int (nI a)) (ty := .int) (C := RX1) (T := TX1) (N := 9) hx hb hts iw_X1_size_X1 tyX1 tyX1_ok nmX1 hown hK hP hD hS 0 rfl rfl 1 (by decide) (hts _ kw_X1_size_30) (fun _ h9 => h9) rfl (by decide +kernel) rfl rfl (Nat.le_of_ble_eq_true rfl) dX1_size_25 (fun H locs hP hD hS => ?_)
          have hP : va_P D vwCl [(h0, .inr (1, [.ref e1, .int (nI a), .int (nI R), .int (nI V), .ref s1, .ref r1, .int (nI n), .ref d1, .ref w1])), (e1, .inl (cE, 48, .inl E))] H := hP
          have hD : va_D A [(h0, .inr (1, [.ref e1, .int (nI a), .int (nI R), .int (nI V), .ref s1, .ref r1, .int (nI n), .ref d1, .ref w1])), (e1, .inl (cE, 48, .inl E))] := hD
          refine lv_aload_n hx hb dX1_size_28 rfl (lv_at hl 0 rfl) ?_
          refine lv_iload_n hx hb dX1_size_29 rfl (lv_at hl 2 rfl) ?_
          refine va_put (D := D) (ci := 1) (v := .int (nI b)) (ty := .int) (C := RX1) (T := TX1) (N := 9) hx hb hts iw_X1_size_X1 tyX1 tyX1_ok nmX1 hown hK hP hD hS 0 rfl rfl 2 (by decide) (hts _ kw_X1_size_34) (fun _ h9 => h9) rfl (by decide +kernel) rfl rfl (Nat.le_of_ble_eq_true rfl) dX1_size_30 (fun H locs hP hD hS => ?_)
          have hP : va_P D vwCl [(h0, .inr (1, [.ref e1, .int (nI a), .int (nI b), .int (nI V), .ref s1, .ref r1, .int (nI n), .ref d1, .ref w1])), (e1, .inl (cE, 48, .inl E))] H := hP
          have hD : va_D A [(h0, .inr (1, [.ref e1, .int (nI a), .int (nI b), .int (nI V), .ref s1, .ref r1, .int (nI n), .ref d1, .ref w1])), (e1, .inl (cE, 48, .inl E))] := hD
          refine lv_aload_n hx hb dX1_size_33 rfl (lv_at hl 0 rfl) ?_
          refine va_get (D := D) (ci := 1) (v := .ref e1) (C := RX1) (T := TX1) (N := 9) hx hb hts iw_X1_size_X1 hown hK hP 0 rfl rfl 0 (by decide) (hts _ kw_X1_size_9) (fun _ h9 => h9) rfl dX1_size_34 ?_
          refine lv_iconst (v := nI 0) hx hb dX1_size_37 (by decide) ?_
          refine gx_jv (wr := [(h0, .inr (1, [.ref e1, .int (nI a), .int (nI b), .int (nI V), .ref s1, .ref r1, .int (nI n), .ref d1, .ref w1]))]) (gx_rS (As := [.ref e1, .int (nI 0)]) (rest := []) C0 (kJ7_fill_53178 l D e1 (nI 0) cE E _) (va_cwS 2 hts gX1_size_J7_fill_53178 rfl rfl rfl (by decide +kernel) ⟨Nat.le_of_ble_eq_true rfl, Nat.le_of_ble_eq_true rfl⟩) hN hK hP hD [1] [0] rfl rfl (by decide) rfl rfl hl.1 rfl (Nat.le_of_ble_eq_true rfl) dX1_size_38 ⟨Nat.zero_le _, Nat.zero_le _⟩) hP hD hS hA [1] [0] rfl rfl (by decide) (by decide) (fun u H locs hw hP hD hS => ?_)
          obtain ⟨E1, rfl⟩ : ∃ z, z = u := ⟨_, rfl⟩
          have hw9 : ∀ q, q < 48 → E1 q = nI 0 := hw
          have hP : va_P D vwCl [(h0, .inr (1, [.ref e1, .int (nI a), .int (nI b), .int (nI V), .ref s1, .ref r1, .int (nI n), .ref d1, .ref w1])), (e1, .inl (cE, 48, .inl E1))] H := hP
          have hD : va_D A [(h0, .inr (1, [.ref e1, .int (nI a), .int (nI b), .int (nI V), .ref s1, .ref r1, .int (nI n), .ref d1, .ref w1])), (e1, .inl (cE, 48, .inl E1))] := hD
          refine lv_aload_n hx hb dX1_size_41 rfl (lv_at hl 0 rfl) ?_
          refine lv_iconst (v := nI 0) hx hb dX1_size_42 (by decide) ?_
          refine va_put (D := D) (ci := 1) (v := .int (nI 0)) (ty := .int) (C := RX1) (T := TX1) (N := 9) hx hb hts iw_X1_size_X1 tyX1 tyX1_ok nmX1 hown hK hP hD hS 0 rfl rfl 3 (by decide) (hts _ kw_X1_size_37) (fun _ h9 => h9) rfl (by decide +kernel) rfl rfl (Nat.le_of_ble_eq_true rfl) dX1_size_43 (fun H locs hP hD hS => ?_)
          have hP : va_P D vwCl [(h0, .inr (1, [.ref e1, .int (nI a), .int (nI b), .int (nI 0), .ref s1, .ref r1, .int (nI n), .ref d1, .ref w1])), (e1, .inl (cE, 48, .inl E1))] H := hP
          have hD : va_D A [(h0, .inr (1, [.ref e1, .int (nI a), .int (nI b), .int (nI 0), .ref s1, .ref r1, .int (nI n), .ref d1, .ref w1])), (e1, .inl (cE, 48, .inl E1))] := hD
          refine lv_aload_n hx hb dX1_size_46 rfl (lv_at hl 0 rfl) ?_
          refine lv_iconst (v := nI 0) hx hb dX1_size_47 (by decide) ?_
          refine va_put (D := D) (ci := 1) (v := .int (nI 0)) (ty := .int) (C := RX1) (T := TX1) (N := 9) hx hb hts iw_X1_size_X1 tyX1 tyX1_ok nmX1 hown hK hP hD hS 0 rfl rfl 6 (by decide) (hts _ kw_X1_size_40) (fun _ h9 => h9) rfl (by decide +kernel) rfl rfl (Nat.le_of_ble_eq_true rfl) dX1_size_48 (fun H locs hP hD hS => ?_)
          have hP : va_P D vwCl [(h0, .inr (1, [.ref e1, .int (nI a), .int (nI b), .int (nI 0), .ref s1, .ref r1, .int (nI 0), .ref d1, .ref w1])), (e1, .inl (cE, 48, .inl E1))] H := hP
          have hD : va_D A [(h0, .inr (1, [.ref e1, .int (nI a), .int (nI b), .int (nI 0), .ref s1, .ref r1, .int (nI 0), .ref d1, .ref w1])), (e1, .inl (cE, 48, .inl E1))] := hD
          refine lv_iconst (v := nI 1) hx hb dX1_size_51 (by decide) ?_
          exact gx_retz hx hb hr hlocks true (by decide) (a, b, 0, 0, E1) (⟨by rw [hz]; decide, (fun _ => ⟨rfl, rfl, ha6, hb1, hb8, rfl, rfl, hw9⟩), fun h => absurd (h.symm.trans hz) (by decide)⟩) hK (hP.sub [0, 1] rfl) (hD.sub [0, 1] (by decide) rfl) hS dX1_size_52
        · have hz : szok x y = false := sz_4 c_18
          refine lv_iconst (v := nI 0) hx hb dX1_size_21 (by decide) ?_
          exact gx_retz hx hb hr hlocks false (by decide) (M, R, V, n, E) (⟨by rw [hz]; decide, fun h => absurd (h.symm.trans hz) (by decide), fun _ => ⟨rfl, rfl, rfl, rfl, rfl⟩⟩) hK (hP.sub [0, 1] rfl) (hD.sub [0, 1] (by decide) rfl) hS dX1_size_22
abbrev rmX1_enter : Room := { frames := 2, cells := 0, slots := 0, locals := 43 }
theorem iw_X1_enter_X1 : ∀ w ∈ wsX10, w ∈ wsX1_enter := by decide +kernel
theorem kw_X1_enter_9 : Cond.fieldLink RX1 9 "FluxModes" "entries" "[I" ∈ wsX1_enter := by decide +kernel
set_option maxHeartbeats 4000000 in
set_option maxRecDepth 100000 in
theorem kX1_enter (l : Launch) (D : va_G) (h0 e1 s1 r1 d1 w1 M R V n : Nat) (x y z : Int32) (cE : ClassId) (E : Nat → Int32) (hM6 : M ≤ 6) (hR8 : R ≤ 8) : gx_Mi l D yX1_enter wsX1_enter rmX1_enter [.ref h0, .int x, .int y, .int z] [(cE, .int)] [(h0, .inr (1, [.ref e1, .int (nI M), .int (nI R), .int (nI V), .ref s1, .ref r1, .int (nI n), .ref d1, .ref w1])), (e1, .inl (cE, 48, .inl E))] (S := Nat → Int32) (fun r (u : Nat → Int32) => r = bI (enok x y z M R) ∧ u = if enok x y z M R = true then upd E (ixx x y) z else E) (fun (u : Nat → Int32) => [(h0, .inr (1, [.ref e1, .int (nI M), .int (nI R), .int (nI V), .ref s1, .ref r1, .int (nI n), .ref d1, .ref w1])), (e1, .inl (cE, 48, .inl u))]) := by
  intro sz
  refine gx_start (cc := cX1_enter) (maxL := 4) (ret := (some .boolean)) (Qc := fun A => va_Qi (fun r (u : Nat → Int32) => r = bI (enok x y z M R) ∧ u = if enok x y z M R = true then upd E (ixx x y) z else E) (gx_B D [(cE, .int)] A (fun (u : Nat → Int32) => [(h0, .inr (1, [.ref e1, .int (nI M), .int (nI R), .int (nI V), .ref s1, .ref r1, .int (nI n), .ref d1, .ref w1])), (e1, .inl (cE, 48, .inl u))])) A) (by decide) rfl (Nat.le_of_ble_eq_true rfl) ?_ sz
  intro p e s m below meth c A hbody ls hl
  obtain ⟨C0, hr, hlocks, hN, hK, hP, hD, hA⟩ := hbody
  have C0 : CallFix p m c cX1_enter 4 s ([.ref h0, .int x, .int y, .int z] : List Value).toArray wsX1_enter RX1 := C0
  obtain ⟨hx, hb, hml, hown, hts⟩ := id C0
  have hS : va_S A s.heap s.heap [] := va_S.rf
  have hl : lv_has ls 4 [(0, .ref h0), (1, .int x), (2, .int y), (3, .int z)] := hl
  refine lv_aload_n hx hb dX1_enter_0 rfl (lv_at hl 0 rfl) ?_
  refine lv_iload_n hx hb dX1_enter_1 rfl (lv_at hl 1 rfl) ?_
  refine lv_iload_n hx hb dX1_enter_2 rfl (lv_at hl 2 rfl) ?_
  refine gx_ji (wr := [(e1, .inl (cE, 48, .inl E))]) (gx_rV (As := [.int x, .int y]) (rest := []) C0 (kX1_hasEntry l D h0 e1 s1 r1 d1 w1 M R V n x y (by omega) (by omega) _) (cwV 2 hts gX1_enter_X1_hasEntry rfl rfl rfl (by decide +kernel) ⟨Nat.le_of_ble_eq_true rfl, Nat.le_of_ble_eq_true rfl⟩) hN hK hP hD [0] [] rfl rfl (by decide) rfl 0 rfl rfl rfl rfl hl.1 rfl (Nat.le_of_ble_eq_true rfl) dX1_enter_3 ⟨Nat.zero_le _, Nat.zero_le _⟩) hP hD hS hA [0] [1] rfl rfl (by decide) (by decide) (fun r u H locs hw hP hD hS => ?_)
  have hw : r = bI (sp_in x M && sp_in y R) := hw
  subst hw
  have hP : va_P D vwCl [(e1, .inl (cE, 48, .inl E)), (h0, .inr (1, [.ref e1, .int (nI M), .int (nI R), .int (nI V), .ref s1, .ref r1, .int (nI n), .ref d1, .ref w1]))] H := hP
  have hD : va_D A [(e1, .inl (cE, 48, .inl E)), (h0, .inr (1, [.ref e1, .int (nI M), .int (nI R), .int (nI V), .ref s1, .ref r1, .int (nI n), .ref d1, .ref w1]))] := hD
  refine gx_beq (tgt := 21) hx hb dX1_enter_6 (by decide) (fun c_6 => ?_) (fun c_6 => ?_)
  · have hz : enok x y z M R = false := by unfold enok; rw [c_6]; rfl
    refine lv_iconst (v := nI 0) hx hb dX1_enter_21 (by decide) ?_
    exact gx_retz hx hb hr hlocks false (by decide) E (⟨by rw [hz]; decide, by rw [hz]; rfl⟩) hK (hP.sub [1, 0] rfl) (hD.sub [1, 0] (by decide) rfl) hS dX1_enter_22
  · refine lv_iload_n hx hb dX1_enter_9 rfl (lv_at hl 3 rfl) ?_
    refine lv_bipush (v := (-9)) hx hb dX1_enter_10 (by decide) ?_
    refine lv_icmp_lt (tgt := 21) hx hb dX1_enter_12 (by decide) (fun c_12 => ?_) (fun c_12 => ?_)
    · have hz : enok x y z M R = false := by unfold enok; rw [z9_1 c_12, Bool.and_false]
      refine lv_iconst (v := nI 0) hx hb dX1_enter_21 (by decide) ?_
      exact gx_retz hx hb hr hlocks false (by decide) E (⟨by rw [hz]; decide, by rw [hz]; rfl⟩) hK (hP.sub [1, 0] rfl) (hD.sub [1, 0] (by decide) rfl) hS dX1_enter_22
    · refine lv_iload_n hx hb dX1_enter_15 rfl (lv_at hl 3 rfl) ?_
      refine lv_bipush (v := nI 9) hx hb dX1_enter_16 (by decide) ?_
      refine lv_icmp_le (tgt := 23) hx hb dX1_enter_18 (by decide) (fun c_18 => ?_) (fun c_18 => ?_)
      · have hz : enok x y z M R = true := by unfold enok; rw [c_6, z9_t c_12 c_18]; rfl
        obtain ⟨hi1, hi2, hi3⟩ := ix_ok hM6 hR8 c_6
        refine lv_aload_n hx hb dX1_enter_23 rfl (lv_at hl 0 rfl) ?_
        refine va_get (D := D) (ci := 1) (v := .ref e1) (C := RX1) (T := TX1) (N := 9) hx hb hts iw_X1_enter_X1 hown hK hP 1 rfl rfl 0 (by decide) (hts _ kw_X1_enter_9) (fun _ h9 => h9) rfl dX1_enter_24 ?_
        refine lv_iload_n hx hb dX1_enter_27 rfl (lv_at hl 1 rfl) ?_
        refine lv_bipush (v := nI 8) hx hb dX1_enter_28 (by decide) ?_
        refine lv_imul hx hb dX1_enter_30 ?_
        refine lv_iload_n hx hb dX1_enter_31 rfl (lv_at hl 2 rfl) ?_
        refine lv_iadd hx hb dX1_enter_32 ?_
        refine lv_iload_n hx hb dX1_enter_33 rfl (lv_at hl 3 rfl) ?_
        refine gx_iast (q := ixx x y) hx hb hK hP hD hS 0 0 rfl rfl (hi1) (hi3) (by decide) dX1_enter_34 (fun H locs hP hD hS => ?_)
        have hP : va_P D vwCl [(e1, .inl (cE, 48, .inl (upd E (ixx x y) z))), (h0, .inr (1, [.ref e1, .int (nI M), .int (nI R), .int (nI V), .ref s1, .ref r1, .int (nI n), .ref d1, .ref w1]))] H := hP
        have hD : va_D A [(e1, .inl (cE, 48, .inl (upd E (ixx x y) z))), (h0, .inr (1, [.ref e1, .int (nI M), .int (nI R), .int (nI V), .ref s1, .ref r1, .int (nI n), .ref d1, .ref w1]))] := hD
        refine lv_iconst (v := nI 1) hx hb dX1_enter_35 (by decide) ?_
        exact gx_retz hx hb hr hlocks true (by decide) (upd E (ixx x y) z) (⟨by rw [hz]; decide, by rw [hz]; rfl⟩) hK (hP.sub [1, 0] rfl) (hD.sub [1, 0] (by decide) rfl) hS dX1_enter_36
      · have hz : enok x y z M R = false := by unfold enok; rw [z9_2 c_18, Bool.and_false]
        refine lv_iconst (v := nI 0) hx hb dX1_enter_21 (by decide) ?_
        exact gx_retz hx hb hr hlocks false (by decide) E (⟨by rw [hz]; decide, by rw [hz]; rfl⟩) hK (hP.sub [1, 0] rfl) (hD.sub [1, 0] (by decide) rfl) hS dX1_enter_22
abbrev rmX1_entry : Room := { frames := 2, cells := 0, slots := 0, locals := 43 }
theorem iw_X1_entry_X1 : ∀ w ∈ wsX10, w ∈ wsX1_entry := by decide +kernel
theorem kw_X1_entry_9 : Cond.fieldLink RX1 9 "FluxModes" "entries" "[I" ∈ wsX1_entry := by decide +kernel
set_option maxHeartbeats 4000000 in
set_option maxRecDepth 100000 in
theorem kX1_entry (l : Launch) (D : va_G) (h0 e1 s1 r1 d1 w1 M R V n : Nat) (x y : Int32) (cE : ClassId) (E : Nat → Int32) (hM6 : M ≤ 6) (hR8 : R ≤ 8) : gx_Mi l D yX1_entry wsX1_entry rmX1_entry [.ref h0, .int x, .int y] [(cE, .int)] [(h0, .inr (1, [.ref e1, .int (nI M), .int (nI R), .int (nI V), .ref s1, .ref r1, .int (nI n), .ref d1, .ref w1])), (e1, .inl (cE, 48, .inl E))] (S := Unit) (fun r (_ : Unit) => r = if (sp_in x M && sp_in y R) = true then E (ixx x y) else 0) (fun (_ : Unit) => [(h0, .inr (1, [.ref e1, .int (nI M), .int (nI R), .int (nI V), .ref s1, .ref r1, .int (nI n), .ref d1, .ref w1])), (e1, .inl (cE, 48, .inl E))]) := by
  intro sz
  refine gx_start (cc := cX1_entry) (maxL := 3) (ret := (some .int)) (Qc := fun A => va_Qi (fun r (_ : Unit) => r = if (sp_in x M && sp_in y R) = true then E (ixx x y) else 0) (gx_B D [(cE, .int)] A (fun (_ : Unit) => [(h0, .inr (1, [.ref e1, .int (nI M), .int (nI R), .int (nI V), .ref s1, .ref r1, .int (nI n), .ref d1, .ref w1])), (e1, .inl (cE, 48, .inl E))])) A) (by decide) rfl (Nat.le_of_ble_eq_true rfl) ?_ sz
  intro p e s m below meth c A hbody ls hl
  obtain ⟨C0, hr, hlocks, hN, hK, hP, hD, hA⟩ := hbody
  have C0 : CallFix p m c cX1_entry 3 s ([.ref h0, .int x, .int y] : List Value).toArray wsX1_entry RX1 := C0
  obtain ⟨hx, hb, hml, hown, hts⟩ := id C0
  have hS : va_S A s.heap s.heap [] := va_S.rf
  have hl : lv_has ls 3 [(0, .ref h0), (1, .int x), (2, .int y)] := hl
  refine lv_aload_n hx hb dX1_entry_0 rfl (lv_at hl 0 rfl) ?_
  refine lv_iload_n hx hb dX1_entry_1 rfl (lv_at hl 1 rfl) ?_
  refine lv_iload_n hx hb dX1_entry_2 rfl (lv_at hl 2 rfl) ?_
  refine gx_ji (wr := [(e1, .inl (cE, 48, .inl E))]) (gx_rV (As := [.int x, .int y]) (rest := []) C0 (kX1_hasEntry l D h0 e1 s1 r1 d1 w1 M R V n x y (by omega) (by omega) _) (cwV 2 hts gX1_entry_X1_hasEntry rfl rfl rfl (by decide +kernel) ⟨Nat.le_of_ble_eq_true rfl, Nat.le_of_ble_eq_true rfl⟩) hN hK hP hD [0] [] rfl rfl (by decide) rfl 0 rfl rfl rfl rfl hl.1 rfl (Nat.le_of_ble_eq_true rfl) dX1_entry_3 ⟨Nat.zero_le _, Nat.zero_le _⟩) hP hD hS hA [0] [1] rfl rfl (by decide) (by decide) (fun r u H locs hw hP hD hS => ?_)
  have hw : r = bI (sp_in x M && sp_in y R) := hw
  subst hw
  have hP : va_P D vwCl [(e1, .inl (cE, 48, .inl E)), (h0, .inr (1, [.ref e1, .int (nI M), .int (nI R), .int (nI V), .ref s1, .ref r1, .int (nI n), .ref d1, .ref w1]))] H := hP
  have hD : va_D A [(e1, .inl (cE, 48, .inl E)), (h0, .inr (1, [.ref e1, .int (nI M), .int (nI R), .int (nI V), .ref s1, .ref r1, .int (nI n), .ref d1, .ref w1]))] := hD
  refine gx_beq (tgt := 23) hx hb dX1_entry_6 (by decide) (fun c_6 => ?_) (fun c_6 => ?_)
  · refine lv_iconst (v := 0) hx hb dX1_entry_23 (by decide) ?_
    exact gx_reti hx hb hr hlocks () (by rw [c_6]; rfl) hK (hP.sub [1, 0] rfl) (hD.sub [1, 0] (by decide) rfl) hS dX1_entry_24
  · obtain ⟨hi1, hi2, hi3⟩ := ix_ok hM6 hR8 c_6
    refine lv_aload_n hx hb dX1_entry_9 rfl (lv_at hl 0 rfl) ?_
    refine va_get (D := D) (ci := 1) (v := .ref e1) (C := RX1) (T := TX1) (N := 9) hx hb hts iw_X1_entry_X1 hown hK hP 1 rfl rfl 0 (by decide) (hts _ kw_X1_entry_9) (fun _ h9 => h9) rfl dX1_entry_10 ?_
    refine lv_iload_n hx hb dX1_entry_13 rfl (lv_at hl 1 rfl) ?_
    refine lv_bipush (v := nI 8) hx hb dX1_entry_14 (by decide) ?_
    refine lv_imul hx hb dX1_entry_16 ?_
    refine lv_iload_n hx hb dX1_entry_17 rfl (lv_at hl 2 rfl) ?_
    refine lv_iadd hx hb dX1_entry_18 ?_
    refine gx_iald (q := ixx x y) hx hb hK hP 0 0 rfl rfl (hi1) (hi3) (by decide) dX1_entry_19 ?_
    refine lv_goto (tgt := 24) hx hb dX1_entry_20 (by decide) ?_
    exact gx_reti hx hb hr hlocks () (by rw [c_6]; rfl) hK (hP.sub [1, 0] rfl) (hD.sub [1, 0] (by decide) rfl) hS dX1_entry_24
abbrev rmX1_reversible : Room := { frames := 1, cells := 0, slots := 0, locals := 21 }
theorem iw_X1_reversible_X1 : ∀ w ∈ wsX10, w ∈ wsX1_reversible := by decide +kernel
theorem kw_X1_reversible_37 : Cond.fieldLink RX1 37 "FluxModes" "reversibleSet" "I" ∈ wsX1_reversible := by decide +kernel
set_option maxHeartbeats 4000000 in
set_option maxRecDepth 100000 in
theorem kX1_reversible (l : Launch) (D : va_G) (h0 e1 s1 r1 d1 w1 M R V n : Nat) (x : Int32) (b : Bool) (hR8 : R ≤ 8) (hV : V < 256) : gx_Mi l D yX1_reversible wsX1_reversible rmX1_reversible [.ref h0, .int x, .int (bI b)] [] [(h0, .inr (1, [.ref e1, .int (nI M), .int (nI R), .int (nI V), .ref s1, .ref r1, .int (nI n), .ref d1, .ref w1]))] (S := Nat) (fun r (u : Nat) => r = bI (sp_in x R) ∧ u = rvs V R x b) (fun (u : Nat) => [(h0, .inr (1, [.ref e1, .int (nI M), .int (nI R), .int (nI u), .ref s1, .ref r1, .int (nI n), .ref d1, .ref w1]))]) := by
  intro sz
  refine gx_start (cc := cX1_reversible) (maxL := 4) (ret := (some .boolean)) (Qc := fun A => va_Qi (fun r (u : Nat) => r = bI (sp_in x R) ∧ u = rvs V R x b) (gx_B D [] A (fun (u : Nat) => [(h0, .inr (1, [.ref e1, .int (nI M), .int (nI R), .int (nI u), .ref s1, .ref r1, .int (nI n), .ref d1, .ref w1]))])) A) (by decide) rfl (Nat.le_of_ble_eq_true rfl) ?_ sz
  intro p e s m below meth c A hbody ls hl
  obtain ⟨C0, hr, hlocks, hN, hK, hP, hD, hA⟩ := hbody
  have C0 : CallFix p m c cX1_reversible 4 s ([.ref h0, .int x, .int (bI b)] : List Value).toArray wsX1_reversible RX1 := C0
  obtain ⟨hx, hb, hml, hown, hts⟩ := id C0
  have hS : va_S A s.heap s.heap [] := va_S.rf
  have hl : lv_has ls 4 [(0, .ref h0), (1, .int x), (2, .int (bI b))] := hl
  refine lv_aload_n hx hb dX1_reversible_0 rfl (lv_at hl 0 rfl) ?_
  refine lv_iload_n hx hb dX1_reversible_1 rfl (lv_at hl 1 rfl) ?_
  refine gx_ji (wr := []) (gx_rV (As := [.int x]) (rest := []) C0 (kX1_hasReaction l D h0 e1 s1 r1 d1 w1 M R V n x (by omega) _) (cwV 1 hts gX1_reversible_X1_hasReaction rfl rfl rfl (by decide +kernel) ⟨Nat.le_of_ble_eq_true rfl, Nat.le_of_ble_eq_true rfl⟩) hN hK hP hD [0] [] rfl rfl (by decide) rfl 0 rfl rfl rfl rfl hl.1 rfl (Nat.le_of_ble_eq_true rfl) dX1_reversible_2 ⟨Nat.zero_le _, Nat.zero_le _⟩) hP hD hS hA [0] [] rfl rfl (by decide) (by decide) (fun r u H locs hw hP hD hS => ?_)
  have hw : r = bI (sp_in x R) := hw
  subst hw
  have hP : va_P D vwCl [(h0, .inr (1, [.ref e1, .int (nI M), .int (nI R), .int (nI V), .ref s1, .ref r1, .int (nI n), .ref d1, .ref w1]))] H := hP
  have hD : va_D A [(h0, .inr (1, [.ref e1, .int (nI M), .int (nI R), .int (nI V), .ref s1, .ref r1, .int (nI n), .ref d1, .ref w1]))] := hD
  refine gx_bne (tgt := 10) hx hb dX1_reversible_5 (by decide) (fun c_5 => ?_) (fun c_5 => ?_)
  · refine lv_iconst (v := nI 1) hx hb dX1_reversible_10 (by decide) ?_
    refine lv_iload_n hx hb dX1_reversible_11 rfl (lv_at hl 1 rfl) ?_
    refine lv_ishl hx hb dX1_reversible_12 ?_
    refine gx_i (y := nI (2 ^ x.toNatClampNeg)) (rv_bit hR8 c_5) ?_
    refine lv_istore_n (lv' := [(3, .int (nI (2 ^ x.toNatClampNeg))), (0, .ref h0), (1, .int x), (2, .int (bI b))]) hx hb dX1_reversible_13 rfl hl (by decide) rfl (fun ls hl => ?_)
    refine lv_aload_n hx hb dX1_reversible_14 rfl (lv_at hl 1 rfl) ?_
    refine lv_iload_n hx hb dX1_reversible_15 rfl (lv_at hl 3 rfl) ?_
    refine gx_beq (tgt := 28) hx hb dX1_reversible_16 (by decide) (fun c_16 => ?_) (fun c_16 => ?_)
    · refine lv_aload_n hx hb dX1_reversible_28 rfl (lv_at hl 1 rfl) ?_
      refine va_get (D := D) (ci := 1) (v := .int (nI V)) (C := RX1) (T := TX1) (N := 9) hx hb hts iw_X1_reversible_X1 hown hK hP 0 rfl rfl 3 (by decide) (hts _ kw_X1_reversible_37) (fun _ h9 => h9) rfl dX1_reversible_29 ?_
      refine lv_iload_n hx hb dX1_reversible_32 rfl (lv_at hl 0 rfl) ?_
      refine lv_iconst (v := (-1)) hx hb dX1_reversible_33 (by decide) ?_
      refine lv_ixor hx hb dX1_reversible_34 ?_
      refine lv_iand hx hb dX1_reversible_35 ?_
      refine gx_i (y := nI (V &&& (255 ^^^ 2 ^ x.toNatClampNeg))) (nx_andn hV) ?_
      refine va_put (D := D) (ci := 1) (v := .int (nI (V &&& (255 ^^^ 2 ^ x.toNatClampNeg)))) (ty := .int) (C := RX1) (T := TX1) (N := 9) hx hb hts iw_X1_reversible_X1 tyX1 tyX1_ok nmX1 hown hK hP hD hS 0 rfl rfl 3 (by decide) (hts _ kw_X1_reversible_37) (fun _ h9 => h9) rfl (by decide +kernel) rfl rfl (Nat.le_of_ble_eq_true rfl) dX1_reversible_36 (fun H locs hP hD hS => ?_)
      have hP : va_P D vwCl [(h0, .inr (1, [.ref e1, .int (nI M), .int (nI R), .int (nI (V &&& (255 ^^^ 2 ^ x.toNatClampNeg))), .ref s1, .ref r1, .int (nI n), .ref d1, .ref w1]))] H := hP
      have hD : va_D A [(h0, .inr (1, [.ref e1, .int (nI M), .int (nI R), .int (nI (V &&& (255 ^^^ 2 ^ x.toNatClampNeg))), .ref s1, .ref r1, .int (nI n), .ref d1, .ref w1]))] := hD
      refine lv_iconst (v := nI 1) hx hb dX1_reversible_39 (by decide) ?_
      exact gx_retz hx hb hr hlocks true (by decide) (V &&& (255 ^^^ 2 ^ x.toNatClampNeg)) (⟨by rw [c_5]; decide, by unfold rvs; rw [if_pos c_5, c_16]; rfl⟩) hK (hP.sub [0] rfl) (hD.sub [0] (by decide) rfl) hS dX1_reversible_40
    · refine lv_aload_n hx hb dX1_reversible_19 rfl (lv_at hl 1 rfl) ?_
      refine va_get (D := D) (ci := 1) (v := .int (nI V)) (C := RX1) (T := TX1) (N := 9) hx hb hts iw_X1_reversible_X1 hown hK hP 0 rfl rfl 3 (by decide) (hts _ kw_X1_reversible_37) (fun _ h9 => h9) rfl dX1_reversible_20 ?_
      refine lv_iload_n hx hb dX1_reversible_23 rfl (lv_at hl 0 rfl) ?_
      refine lv_ior hx hb dX1_reversible_24 ?_
      refine gx_i (y := nI (V ||| 2 ^ x.toNatClampNeg)) (nx_or _ _) ?_
      refine lv_goto (tgt := 36) hx hb dX1_reversible_25 (by decide) ?_
      refine va_put (D := D) (ci := 1) (v := .int (nI (V ||| 2 ^ x.toNatClampNeg))) (ty := .int) (C := RX1) (T := TX1) (N := 9) hx hb hts iw_X1_reversible_X1 tyX1 tyX1_ok nmX1 hown hK hP hD hS 0 rfl rfl 3 (by decide) (hts _ kw_X1_reversible_37) (fun _ h9 => h9) rfl (by decide +kernel) rfl rfl (Nat.le_of_ble_eq_true rfl) dX1_reversible_36 (fun H locs hP hD hS => ?_)
      have hP : va_P D vwCl [(h0, .inr (1, [.ref e1, .int (nI M), .int (nI R), .int (nI (V ||| 2 ^ x.toNatClampNeg)), .ref s1, .ref r1, .int (nI n), .ref d1, .ref w1]))] H := hP
      have hD : va_D A [(h0, .inr (1, [.ref e1, .int (nI M), .int (nI R), .int (nI (V ||| 2 ^ x.toNatClampNeg)), .ref s1, .ref r1, .int (nI n), .ref d1, .ref w1]))] := hD
      refine lv_iconst (v := nI 1) hx hb dX1_reversible_39 (by decide) ?_
      exact gx_retz hx hb hr hlocks true (by decide) (V ||| 2 ^ x.toNatClampNeg) (⟨by rw [c_5]; decide, by unfold rvs; rw [if_pos c_5, c_16]; rfl⟩) hK (hP.sub [0] rfl) (hD.sub [0] (by decide) rfl) hS dX1_reversible_40
  · refine lv_iconst (v := nI 0) hx hb dX1_reversible_8 (by decide) ?_
    exact gx_retz hx hb hr hlocks false (by decide) V (⟨by rw [c_5]; decide, by unfold rvs; rw [if_neg (by rw [c_5]; decide)]⟩) hK (hP.sub [0] rfl) (hD.sub [0] (by decide) rfl) hS dX1_reversible_9
abbrev rmX1_reversibles : Room := { frames := 0, cells := 0, slots := 0, locals := 0 }
theorem iw_X1_reversibles_X1 : ∀ w ∈ wsX10, w ∈ wsX1_reversibles := by decide +kernel
theorem kw_X1_reversibles_37 : Cond.fieldLink RX1 37 "FluxModes" "reversibleSet" "I" ∈ wsX1_reversibles := by decide +kernel
set_option maxHeartbeats 4000000 in
set_option maxRecDepth 100000 in
theorem kX1_reversibles (l : Launch) (D : va_G) (h0 e1 s1 r1 d1 w1 M R V n : Nat)  : gx_Mi l D yX1_reversibles wsX1_reversibles rmX1_reversibles [.ref h0] [] [(h0, .inr (1, [.ref e1, .int (nI M), .int (nI R), .int (nI V), .ref s1, .ref r1, .int (nI n), .ref d1, .ref w1]))] (S := Unit) (fun r (_ : Unit) => r = nI V) (fun (_ : Unit) => [(h0, .inr (1, [.ref e1, .int (nI M), .int (nI R), .int (nI V), .ref s1, .ref r1, .int (nI n), .ref d1, .ref w1]))]) := by
  intro sz
  refine gx_start (cc := cX1_reversibles) (maxL := 1) (ret := (some .int)) (Qc := fun A => va_Qi (fun r (_ : Unit) => r = nI V) (gx_B D [] A (fun (_ : Unit) => [(h0, .inr (1, [.ref e1, .int (nI M), .int (nI R), .int (nI V), .ref s1, .ref r1, .int (nI n), .ref d1, .ref w1]))])) A) (by decide) rfl (Nat.le_of_ble_eq_true rfl) ?_ sz
  intro p e s m below meth c A hbody ls hl
  obtain ⟨C0, hr, hlocks, hN, hK, hP, hD, hA⟩ := hbody
  have C0 : CallFix p m c cX1_reversibles 1 s ([.ref h0] : List Value).toArray wsX1_reversibles RX1 := C0
  obtain ⟨hx, hb, hml, hown, hts⟩ := id C0
  have hS : va_S A s.heap s.heap [] := va_S.rf
  have hl : lv_has ls 1 [(0, .ref h0)] := hl
  refine lv_aload_n hx hb dX1_reversibles_0 rfl (lv_at hl 0 rfl) ?_
  refine va_get (D := D) (ci := 1) (v := .int (nI V)) (C := RX1) (T := TX1) (N := 9) hx hb hts iw_X1_reversibles_X1 hown hK hP 0 rfl rfl 3 (by decide) (hts _ kw_X1_reversibles_37) (fun _ h9 => h9) rfl dX1_reversibles_1 ?_
  exact gx_reti hx hb hr hlocks () (rfl) hK (hP.sub [0] rfl) (hD.sub [0] (by decide) rfl) hS dX1_reversibles_4
abbrev rmX1_modes : Room := { frames := 0, cells := 0, slots := 0, locals := 0 }
theorem iw_X1_modes_X1 : ∀ w ∈ wsX10, w ∈ wsX1_modes := by decide +kernel
theorem kw_X1_modes_40 : Cond.fieldLink RX1 40 "FluxModes" "listed" "I" ∈ wsX1_modes := by decide +kernel
set_option maxHeartbeats 4000000 in
set_option maxRecDepth 100000 in
theorem kX1_modes (l : Launch) (D : va_G) (h0 e1 s1 r1 d1 w1 M R V n : Nat)  : gx_Mi l D yX1_modes wsX1_modes rmX1_modes [.ref h0] [] [(h0, .inr (1, [.ref e1, .int (nI M), .int (nI R), .int (nI V), .ref s1, .ref r1, .int (nI n), .ref d1, .ref w1]))] (S := Unit) (fun r (_ : Unit) => r = nI n) (fun (_ : Unit) => [(h0, .inr (1, [.ref e1, .int (nI M), .int (nI R), .int (nI V), .ref s1, .ref r1, .int (nI n), .ref d1, .ref w1]))]) := by
  intro sz
  refine gx_start (cc := cX1_modes) (maxL := 1) (ret := (some .int)) (Qc := fun A => va_Qi (fun r (_ : Unit) => r = nI n) (gx_B D [] A (fun (_ : Unit) => [(h0, .inr (1, [.ref e1, .int (nI M), .int (nI R), .int (nI V), .ref s1, .ref r1, .int (nI n), .ref d1, .ref w1]))])) A) (by decide) rfl (Nat.le_of_ble_eq_true rfl) ?_ sz
  intro p e s m below meth c A hbody ls hl
  obtain ⟨C0, hr, hlocks, hN, hK, hP, hD, hA⟩ := hbody
  have C0 : CallFix p m c cX1_modes 1 s ([.ref h0] : List Value).toArray wsX1_modes RX1 := C0
  obtain ⟨hx, hb, hml, hown, hts⟩ := id C0
  have hS : va_S A s.heap s.heap [] := va_S.rf
  have hl : lv_has ls 1 [(0, .ref h0)] := hl
  refine lv_aload_n hx hb dX1_modes_0 rfl (lv_at hl 0 rfl) ?_
  refine va_get (D := D) (ci := 1) (v := .int (nI n)) (C := RX1) (T := TX1) (N := 9) hx hb hts iw_X1_modes_X1 hown hK hP 0 rfl rfl 6 (by decide) (hts _ kw_X1_modes_40) (fun _ h9 => h9) rfl dX1_modes_1 ?_
  exact gx_reti hx hb hr hlocks () (rfl) hK (hP.sub [0] rfl) (hD.sub [0] (by decide) rfl) hS dX1_modes_4
abbrev rmX1_support : Room := { frames := 1, cells := 0, slots := 0, locals := 21 }
theorem iw_X1_support_X1 : ∀ w ∈ wsX10, w ∈ wsX1_support := by decide +kernel
theorem kw_X1_support_13 : Cond.fieldLink RX1 13 "FluxModes" "listedSupports" "[I" ∈ wsX1_support := by decide +kernel
set_option maxHeartbeats 4000000 in
set_option maxRecDepth 100000 in
theorem kX1_support (l : Launch) (D : va_G) (h0 e1 s1 r1 d1 w1 M R V n : Nat) (x : Int32) (cS : ClassId) (U : Nat → Int32) (hn : n ≤ 70) : gx_Mi l D yX1_support wsX1_support rmX1_support [.ref h0, .int x] [(cS, .int)] [(h0, .inr (1, [.ref e1, .int (nI M), .int (nI R), .int (nI V), .ref s1, .ref r1, .int (nI n), .ref d1, .ref w1])), (s1, .inl (cS, 70, .inl U))] (S := Unit) (fun r (_ : Unit) => r = if sp_in x n = true then U x.toNatClampNeg else 0) (fun (_ : Unit) => [(h0, .inr (1, [.ref e1, .int (nI M), .int (nI R), .int (nI V), .ref s1, .ref r1, .int (nI n), .ref d1, .ref w1])), (s1, .inl (cS, 70, .inl U))]) := by
  intro sz
  refine gx_start (cc := cX1_support) (maxL := 2) (ret := (some .int)) (Qc := fun A => va_Qi (fun r (_ : Unit) => r = if sp_in x n = true then U x.toNatClampNeg else 0) (gx_B D [(cS, .int)] A (fun (_ : Unit) => [(h0, .inr (1, [.ref e1, .int (nI M), .int (nI R), .int (nI V), .ref s1, .ref r1, .int (nI n), .ref d1, .ref w1])), (s1, .inl (cS, 70, .inl U))])) A) (by decide) rfl (Nat.le_of_ble_eq_true rfl) ?_ sz
  intro p e s m below meth c A hbody ls hl
  obtain ⟨C0, hr, hlocks, hN, hK, hP, hD, hA⟩ := hbody
  have C0 : CallFix p m c cX1_support 2 s ([.ref h0, .int x] : List Value).toArray wsX1_support RX1 := C0
  obtain ⟨hx, hb, hml, hown, hts⟩ := id C0
  have hS : va_S A s.heap s.heap [] := va_S.rf
  have hl : lv_has ls 2 [(0, .ref h0), (1, .int x)] := hl
  refine lv_aload_n hx hb dX1_support_0 rfl (lv_at hl 0 rfl) ?_
  refine lv_iload_n hx hb dX1_support_1 rfl (lv_at hl 1 rfl) ?_
  refine gx_ji (wr := [(s1, .inl (cS, 70, .inl U))]) (gx_rV (As := [.int x]) (rest := []) C0 (kX1_isListed l D h0 e1 s1 r1 d1 w1 M R V n x (by omega) _) (cwV 1 hts gX1_support_X1_isListed rfl rfl rfl (by decide +kernel) ⟨Nat.le_of_ble_eq_true rfl, Nat.le_of_ble_eq_true rfl⟩) hN hK hP hD [0] [] rfl rfl (by decide) rfl 0 rfl rfl rfl rfl hl.1 rfl (Nat.le_of_ble_eq_true rfl) dX1_support_2 ⟨Nat.zero_le _, Nat.zero_le _⟩) hP hD hS hA [0] [1] rfl rfl (by decide) (by decide) (fun r u H locs hw hP hD hS => ?_)
  have hw : r = bI (sp_in x n) := hw
  subst hw
  have hP : va_P D vwCl [(s1, .inl (cS, 70, .inl U)), (h0, .inr (1, [.ref e1, .int (nI M), .int (nI R), .int (nI V), .ref s1, .ref r1, .int (nI n), .ref d1, .ref w1]))] H := hP
  have hD : va_D A [(s1, .inl (cS, 70, .inl U)), (h0, .inr (1, [.ref e1, .int (nI M), .int (nI R), .int (nI V), .ref s1, .ref r1, .int (nI n), .ref d1, .ref w1]))] := hD
  refine gx_beq (tgt := 17) hx hb dX1_support_5 (by decide) (fun c_5 => ?_) (fun c_5 => ?_)
  · refine lv_iconst (v := 0) hx hb dX1_support_17 (by decide) ?_
    exact gx_reti hx hb hr hlocks () (by rw [c_5]; rfl) hK (hP.sub [1, 0] rfl) (hD.sub [1, 0] (by decide) rfl) hS dX1_support_18
  · obtain ⟨hi3, hi1⟩ := sp_in_clamp (by omega) c_5
    refine lv_aload_n hx hb dX1_support_8 rfl (lv_at hl 0 rfl) ?_
    refine va_get (D := D) (ci := 1) (v := .ref s1) (C := RX1) (T := TX1) (N := 9) hx hb hts iw_X1_support_X1 hown hK hP 1 rfl rfl 4 (by decide) (hts _ kw_X1_support_13) (fun _ h9 => h9) rfl dX1_support_9 ?_
    refine lv_iload_n hx hb dX1_support_12 rfl (lv_at hl 1 rfl) ?_
    refine gx_iald (q := x.toNatClampNeg) hx hb hK hP 0 0 rfl rfl (hi1) (by omega) (by decide) dX1_support_13 ?_
    refine lv_goto (tgt := 18) hx hb dX1_support_14 (by decide) ?_
    exact gx_reti hx hb hr hlocks () (by rw [c_5]; rfl) hK (hP.sub [1, 0] rfl) (hD.sub [1, 0] (by decide) rfl) hS dX1_support_18
abbrev rmX1_rate : Room := { frames := 1, cells := 0, slots := 0, locals := 21 }
theorem iw_X1_rate_X1 : ∀ w ∈ wsX10, w ∈ wsX1_rate := by decide +kernel
theorem kw_X1_rate_16 : Cond.fieldLink RX1 16 "FluxModes" "listedRates" "[I" ∈ wsX1_rate := by decide +kernel
set_option maxHeartbeats 4000000 in
set_option maxRecDepth 100000 in
theorem kX1_rate (l : Launch) (D : va_G) (h0 e1 s1 r1 d1 w1 M R V n : Nat) (x y : Int32) (cR : ClassId) (T : Nat → Int32) (hn : n ≤ 70) : gx_Mi l D yX1_rate wsX1_rate rmX1_rate [.ref h0, .int x, .int y] [(cR, .int)] [(h0, .inr (1, [.ref e1, .int (nI M), .int (nI R), .int (nI V), .ref s1, .ref r1, .int (nI n), .ref d1, .ref w1])), (r1, .inl (cR, 560, .inl T))] (S := Unit) (fun r (_ : Unit) => r = if (sp_in x n && sp_in y 8) = true then T (ixx x y) else 0) (fun (_ : Unit) => [(h0, .inr (1, [.ref e1, .int (nI M), .int (nI R), .int (nI V), .ref s1, .ref r1, .int (nI n), .ref d1, .ref w1])), (r1, .inl (cR, 560, .inl T))]) := by
  intro sz
  refine gx_start (cc := cX1_rate) (maxL := 3) (ret := (some .int)) (Qc := fun A => va_Qi (fun r (_ : Unit) => r = if (sp_in x n && sp_in y 8) = true then T (ixx x y) else 0) (gx_B D [(cR, .int)] A (fun (_ : Unit) => [(h0, .inr (1, [.ref e1, .int (nI M), .int (nI R), .int (nI V), .ref s1, .ref r1, .int (nI n), .ref d1, .ref w1])), (r1, .inl (cR, 560, .inl T))])) A) (by decide) rfl (Nat.le_of_ble_eq_true rfl) ?_ sz
  intro p e s m below meth c A hbody ls hl
  obtain ⟨C0, hr, hlocks, hN, hK, hP, hD, hA⟩ := hbody
  have C0 : CallFix p m c cX1_rate 3 s ([.ref h0, .int x, .int y] : List Value).toArray wsX1_rate RX1 := C0
  obtain ⟨hx, hb, hml, hown, hts⟩ := id C0
  have hS : va_S A s.heap s.heap [] := va_S.rf
  have hl : lv_has ls 3 [(0, .ref h0), (1, .int x), (2, .int y)] := hl
  refine lv_aload_n hx hb dX1_rate_0 rfl (lv_at hl 0 rfl) ?_
  refine lv_iload_n hx hb dX1_rate_1 rfl (lv_at hl 1 rfl) ?_
  refine gx_ji (wr := [(r1, .inl (cR, 560, .inl T))]) (gx_rV (As := [.int x]) (rest := []) C0 (kX1_isListed l D h0 e1 s1 r1 d1 w1 M R V n x (by omega) _) (cwV 1 hts gX1_rate_X1_isListed rfl rfl rfl (by decide +kernel) ⟨Nat.le_of_ble_eq_true rfl, Nat.le_of_ble_eq_true rfl⟩) hN hK hP hD [0] [] rfl rfl (by decide) rfl 0 rfl rfl rfl rfl hl.1 rfl (Nat.le_of_ble_eq_true rfl) dX1_rate_2 ⟨Nat.zero_le _, Nat.zero_le _⟩) hP hD hS hA [0] [1] rfl rfl (by decide) (by decide) (fun r u H locs hw hP hD hS => ?_)
  have hw : r = bI (sp_in x n) := hw
  subst hw
  have hP : va_P D vwCl [(r1, .inl (cR, 560, .inl T)), (h0, .inr (1, [.ref e1, .int (nI M), .int (nI R), .int (nI V), .ref s1, .ref r1, .int (nI n), .ref d1, .ref w1]))] H := hP
  have hD : va_D A [(r1, .inl (cR, 560, .inl T)), (h0, .inr (1, [.ref e1, .int (nI M), .int (nI R), .int (nI V), .ref s1, .ref r1, .int (nI n), .ref d1, .ref w1]))] := hD
  refine gx_beq (tgt := 29) hx hb dX1_rate_5 (by decide) (fun c_5 => ?_) (fun c_5 => ?_)
  · have hz : (sp_in x n && sp_in y 8) = false := by rw [c_5]; rfl
    refine lv_iconst (v := 0) hx hb dX1_rate_29 (by decide) ?_
    exact gx_reti hx hb hr hlocks () (by rw [hz]; rfl) hK (hP.sub [1, 0] rfl) (hD.sub [1, 0] (by decide) rfl) hS dX1_rate_30
  · refine lv_iload_n hx hb dX1_rate_8 rfl (lv_at hl 2 rfl) ?_
    refine gx_ji (wr := [(r1, .inl (cR, 560, .inl T)), (h0, .inr (1, [.ref e1, .int (nI M), .int (nI R), .int (nI V), .ref s1, .ref r1, .int (nI n), .ref d1, .ref w1]))]) (gx_rS (As := [.int y]) (rest := []) C0 (kX1_isColumn l D y _) (va_cwS 1 hts gX1_rate_X1_isColumn rfl rfl rfl (by decide +kernel) ⟨Nat.le_of_ble_eq_true rfl, Nat.le_of_ble_eq_true rfl⟩) hN hK hP hD [] [] rfl rfl (by decide) rfl rfl hl.1 rfl (Nat.le_of_ble_eq_true rfl) dX1_rate_9 ⟨Nat.zero_le _, Nat.zero_le _⟩) hP hD hS hA [] [0, 1] rfl rfl (by decide) (by decide) (fun r u H locs hw hP hD hS => ?_)
    have hw : r = bI (sp_in y 8) := hw
    subst hw
    have hP : va_P D vwCl [(r1, .inl (cR, 560, .inl T)), (h0, .inr (1, [.ref e1, .int (nI M), .int (nI R), .int (nI V), .ref s1, .ref r1, .int (nI n), .ref d1, .ref w1]))] H := hP
    have hD : va_D A [(r1, .inl (cR, 560, .inl T)), (h0, .inr (1, [.ref e1, .int (nI M), .int (nI R), .int (nI V), .ref s1, .ref r1, .int (nI n), .ref d1, .ref w1]))] := hD
    refine gx_beq (tgt := 29) hx hb dX1_rate_12 (by decide) (fun c_12 => ?_) (fun c_12 => ?_)
    · have hz : (sp_in x n && sp_in y 8) = false := by rw [c_12, Bool.and_false]
      refine lv_iconst (v := 0) hx hb dX1_rate_29 (by decide) ?_
      exact gx_reti hx hb hr hlocks () (by rw [hz]; rfl) hK (hP.sub [1, 0] rfl) (hD.sub [1, 0] (by decide) rfl) hS dX1_rate_30
    · have hz : (sp_in x n && sp_in y 8) = true := by rw [c_5, c_12]; rfl
      obtain ⟨hi1, hi2, hi3⟩ := ix_70 hn hz
      refine lv_aload_n hx hb dX1_rate_15 rfl (lv_at hl 0 rfl) ?_
      refine va_get (D := D) (ci := 1) (v := .ref r1) (C := RX1) (T := TX1) (N := 9) hx hb hts iw_X1_rate_X1 hown hK hP 1 rfl rfl 5 (by decide) (hts _ kw_X1_rate_16) (fun _ h9 => h9) rfl dX1_rate_16 ?_
      refine lv_iload_n hx hb dX1_rate_19 rfl (lv_at hl 1 rfl) ?_
      refine lv_bipush (v := nI 8) hx hb dX1_rate_20 (by decide) ?_
      refine lv_imul hx hb dX1_rate_22 ?_
      refine lv_iload_n hx hb dX1_rate_23 rfl (lv_at hl 2 rfl) ?_
      refine lv_iadd hx hb dX1_rate_24 ?_
      refine gx_iald (q := ixx x y) hx hb hK hP 0 0 rfl rfl (hi1) (hi3) (by decide) dX1_rate_25 ?_
      refine lv_goto (tgt := 30) hx hb dX1_rate_26 (by decide) ?_
      exact gx_reti hx hb hr hlocks () (by rw [hz]; rfl) hK (hP.sub [1, 0] rfl) (hD.sub [1, 0] (by decide) rfl) hS dX1_rate_30
abbrev rmX1_within : Room := { frames := 0, cells := 0, slots := 0, locals := 0 }
theorem iw_X1_within_X1 : ∀ w ∈ wsX10, w ∈ wsX1_within := by decide +kernel
theorem kw_X1_within_13 : Cond.fieldLink RX1 13 "FluxModes" "listedSupports" "[I" ∈ wsX1_within := by decide +kernel
theorem kw_X1_within_40 : Cond.fieldLink RX1 40 "FluxModes" "listed" "I" ∈ wsX1_within := by decide +kernel
set_option maxHeartbeats 4000000 in
set_option maxRecDepth 100000 in
theorem lpX1_within {p : Program} {l : Launch} {e : Env} {s : State} {m : MethodId} {args : Array Value} {below : List Frame} {meth : Method} {c : Code} {Q : State → Prop} {D : va_G} {A : Nat → Prop} {H0 : Heap} (C0 : CallFix p m c cX1_within 4 s args wsX1_within RX1) (hN : gx_N s) (hA : ∀ q : Nat, H0.size ≤ q → A q) {h0 e1 s1 r1 d1 w1 M R V n : Nat} {x : Int32} {cS : ClassId} {U : Nat → Int32} (hn : n ≤ 70) (hK : va_K D vwCl [(cS, .int)] s) (kk : ∀ (H : Heap) (locs : List Loc) (ls : Array Slot), va_P D vwCl [(h0, .inr (1, [.ref e1, .int (nI M), .int (nI R), .int (nI V), .ref s1, .ref r1, .int (nI n), .ref d1, .ref w1])), (s1, .inl (cS, 70, .inl U))] H → va_D A [(h0, .inr (1, [.ref e1, .int (nI M), .int (nI R), .int (nI V), .ref s1, .ref r1, .int (nI n), .ref d1, .ref w1])), (s1, .inl (cS, 70, .inl U))] → va_S A H0 H locs → lv_has ls 4 [(0, .ref h0), (1, .int x), (2, .int (nI (mx_count (wiq U x) n))), (3, .int (nI n))] → W p l e rmX1_within s m args below meth c H locs 0 0 Q (F0 m 34 ls [])) : ∀ (n_ : Nat) (k a : Nat) (H : Heap) (locs : List Loc) (ls : Array Slot), (k ≤ n ∧ n < k + n_) → (a = mx_count (wiq U x) k) → va_P D vwCl [(h0, .inr (1, [.ref e1, .int (nI M), .int (nI R), .int (nI V), .ref s1, .ref r1, .int (nI n), .ref d1, .ref w1])), (s1, .inl (cS, 70, .inl U))] H → va_D A [(h0, .inr (1, [.ref e1, .int (nI M), .int (nI R), .int (nI V), .ref s1, .ref r1, .int (nI n), .ref d1, .ref w1])), (s1, .inl (cS, 70, .inl U))] → va_S A H0 H locs → lv_has ls 4 [(0, .ref h0), (1, .int x), (2, .int (nI a)), (3, .int (nI k))] → W p l e rmX1_within s m args below meth c H locs 0 0 Q (F0 m 4 ls []) := by
  obtain ⟨hx, hb, hml, hown, hts⟩ := id C0
  intro n_
  induction n_ with
  | zero =>
    intro k a H locs ls hm
    exact absurd hm (by omega)
  | succ n_ ih =>
    intro k a H locs ls hm hI hP hD hS hl
    refine lv_iload_n hx hb dX1_within_4 rfl (lv_at hl 3 rfl) ?_
    refine lv_aload_n hx hb dX1_within_5 rfl (lv_at hl 0 rfl) ?_
    refine va_get (D := D) (ci := 1) (v := .int (nI n)) (C := RX1) (T := TX1) (N := 9) hx hb hts iw_X1_within_X1 hown hK hP 0 rfl rfl 6 (by decide) (hts _ kw_X1_within_40) (fun _ h9 => h9) rfl dX1_within_6 ?_
    refine gx_ge (tgt := 34) hx hb dX1_within_9 (by decide) (by omega) (by omega) (fun c_9 => ?_) (fun c_9 => ?_)
    · have hkn : k = n := by omega
      subst hkn
      subst hI
      exact kk _ _ _ (hP.sub [0, 1] rfl) (hD.sub [0, 1] (by decide) rfl) hS (lv_sub hl [0, 1, 2, 3] rfl)
    · refine lv_aload_n hx hb dX1_within_12 rfl (lv_at hl 0 rfl) ?_
      refine va_get (D := D) (ci := 1) (v := .ref s1) (C := RX1) (T := TX1) (N := 9) hx hb hts iw_X1_within_X1 hown hK hP 0 rfl rfl 4 (by decide) (hts _ kw_X1_within_13) (fun _ h9 => h9) rfl dX1_within_13 ?_
      refine lv_iload_n hx hb dX1_within_16 rfl (lv_at hl 3 rfl) ?_
      refine gx_iald (q := k) hx hb hK hP 1 0 rfl rfl (rfl) (by omega) (by decide) dX1_within_17 ?_
      refine lv_iload_n hx hb dX1_within_18 rfl (lv_at hl 1 rfl) ?_
      refine lv_iconst (v := (-1)) hx hb dX1_within_19 (by decide) ?_
      refine lv_ixor hx hb dX1_within_20 ?_
      refine lv_iand hx hb dX1_within_21 ?_
      refine lv_if_ne (tgt := 28) hx hb dX1_within_22 (by decide) (fun c_22 => ?_) (fun c_22 => ?_)
      · refine lv_iinc (v := nI (k + 1)) (lv' := [(3, .int (nI (k + 1))), (0, .ref h0), (1, .int x), (2, .int (nI a))]) hx hb dX1_within_28 hl (k := 3) rfl ((nI_succ k).symm) (by decide) rfl (fun ls hl => ?_)
        refine lv_goto (tgt := 4) hx hb dX1_within_31 (by decide) ?_
        have hz : wiq U x k = false := decide_eq_false c_22
        exact ih (k + 1) a _ _ _ (by omega) (cnt_step_f hz hI) (hP.sub [0, 1] rfl) (hD.sub [0, 1] (by decide) rfl) hS (lv_sub hl [1, 2, 3, 0] rfl)
      · refine lv_iinc (v := nI (a + 1)) (lv' := [(2, .int (nI (a + 1))), (0, .ref h0), (1, .int x), (3, .int (nI k))]) hx hb dX1_within_25 hl (k := 2) rfl ((nI_succ a).symm) (by decide) rfl (fun ls hl => ?_)
        refine lv_iinc (v := nI (k + 1)) (lv' := [(3, .int (nI (k + 1))), (2, .int (nI (a + 1))), (0, .ref h0), (1, .int x)]) hx hb dX1_within_28 hl (k := 3) rfl ((nI_succ k).symm) (by decide) rfl (fun ls hl => ?_)
        refine lv_goto (tgt := 4) hx hb dX1_within_31 (by decide) ?_
        have hz : wiq U x k = true := decide_eq_true c_22
        exact ih (k + 1) (a + 1) _ _ _ (by omega) (cnt_step_t hz hI) (hP.sub [0, 1] rfl) (hD.sub [0, 1] (by decide) rfl) hS (lv_sub hl [2, 3, 1, 0] rfl)
set_option maxHeartbeats 4000000 in
set_option maxRecDepth 100000 in
theorem kX1_within (l : Launch) (D : va_G) (h0 e1 s1 r1 d1 w1 M R V n : Nat) (x : Int32) (cS : ClassId) (U : Nat → Int32) (hn : n ≤ 70) : gx_Mi l D yX1_within wsX1_within rmX1_within [.ref h0, .int x] [(cS, .int)] [(h0, .inr (1, [.ref e1, .int (nI M), .int (nI R), .int (nI V), .ref s1, .ref r1, .int (nI n), .ref d1, .ref w1])), (s1, .inl (cS, 70, .inl U))] (S := Unit) (fun r (_ : Unit) => r = nI (mx_count (wiq U x) n)) (fun (_ : Unit) => [(h0, .inr (1, [.ref e1, .int (nI M), .int (nI R), .int (nI V), .ref s1, .ref r1, .int (nI n), .ref d1, .ref w1])), (s1, .inl (cS, 70, .inl U))]) := by
  intro sz
  refine gx_start (cc := cX1_within) (maxL := 4) (ret := (some .int)) (Qc := fun A => va_Qi (fun r (_ : Unit) => r = nI (mx_count (wiq U x) n)) (gx_B D [(cS, .int)] A (fun (_ : Unit) => [(h0, .inr (1, [.ref e1, .int (nI M), .int (nI R), .int (nI V), .ref s1, .ref r1, .int (nI n), .ref d1, .ref w1])), (s1, .inl (cS, 70, .inl U))])) A) (by decide) rfl (Nat.le_of_ble_eq_true rfl) ?_ sz
  intro p e s m below meth c A hbody ls hl
  obtain ⟨C0, hr, hlocks, hN, hK, hP, hD, hA⟩ := hbody
  have C0 : CallFix p m c cX1_within 4 s ([.ref h0, .int x] : List Value).toArray wsX1_within RX1 := C0
  obtain ⟨hx, hb, hml, hown, hts⟩ := id C0
  have hS : va_S A s.heap s.heap [] := va_S.rf
  have hl : lv_has ls 4 [(0, .ref h0), (1, .int x)] := hl
  refine lv_iconst (v := nI 0) hx hb dX1_within_0 (by decide) ?_
  refine lv_istore_n (lv' := [(2, .int (nI 0)), (0, .ref h0), (1, .int x)]) hx hb dX1_within_1 rfl hl (by decide) rfl (fun ls hl => ?_)
  refine lv_iconst (v := nI 0) hx hb dX1_within_2 (by decide) ?_
  refine lv_istore_n (lv' := [(3, .int (nI 0)), (2, .int (nI 0)), (0, .ref h0), (1, .int x)]) hx hb dX1_within_3 rfl hl (by decide) rfl (fun ls hl => ?_)
  refine lpX1_within C0 hN hA hn hK (fun H locs ls hP hD hS hl => ?_) (n + 1) 0 0 _ _ _ (by omega) rfl (hP.sub [0, 1] rfl) (hD.sub [0, 1] (by decide) rfl) hS (lv_sub hl [2, 3, 1, 0] rfl)
  refine lv_iload_n hx hb dX1_within_34 rfl (lv_at hl 2 rfl) ?_
  exact gx_reti hx hb hr hlocks () (rfl) hK (hP.sub [0, 1] rfl) (hD.sub [0, 1] (by decide) rfl) hS dX1_within_35
abbrev rmX1_running : Room := { frames := 1, cells := 0, slots := 0, locals := 21 }
theorem iw_X1_running_X1 : ∀ w ∈ wsX10, w ∈ wsX1_running := by decide +kernel
theorem kw_X1_running_16 : Cond.fieldLink RX1 16 "FluxModes" "listedRates" "[I" ∈ wsX1_running := by decide +kernel
theorem kw_X1_running_40 : Cond.fieldLink RX1 40 "FluxModes" "listed" "I" ∈ wsX1_running := by decide +kernel
set_option maxHeartbeats 4000000 in
set_option maxRecDepth 100000 in
theorem lpX1_running {p : Program} {l : Launch} {e : Env} {s : State} {m : MethodId} {args : Array Value} {below : List Frame} {meth : Method} {c : Code} {Q : State → Prop} {D : va_G} {A : Nat → Prop} {H0 : Heap} (C0 : CallFix p m c cX1_running 5 s args wsX1_running RX1) (hN : gx_N s) (hA : ∀ q : Nat, H0.size ≤ q → A q) {h0 e1 s1 r1 d1 w1 M R V n j : Nat} {y : Int32} {cR : ClassId} {T : Nat → Int32} (hn : n ≤ 70) (hj : j < 8) (hK : va_K D vwCl [(cR, .int)] s) (kk : ∀ (H : Heap) (locs : List Loc) (ls : Array Slot), va_P D vwCl [(h0, .inr (1, [.ref e1, .int (nI M), .int (nI R), .int (nI V), .ref s1, .ref r1, .int (nI n), .ref d1, .ref w1])), (r1, .inl (cR, 560, .inl T))] H → va_D A [(h0, .inr (1, [.ref e1, .int (nI M), .int (nI R), .int (nI V), .ref s1, .ref r1, .int (nI n), .ref d1, .ref w1])), (r1, .inl (cR, 560, .inl T))] → va_S A H0 H locs → lv_has ls 5 [(0, .ref h0), (1, .int (nI j)), (2, .int y), (3, .int (nI (mx_count (ruq T j y) n))), (4, .int (nI n))] → W p l e rmX1_running s m args below meth c H locs 0 0 Q (F0 m 51 ls [])) : ∀ (n_ : Nat) (k a : Nat) (H : Heap) (locs : List Loc) (ls : Array Slot), (k ≤ n ∧ n < k + n_) → (a = mx_count (ruq T j y) k) → va_P D vwCl [(h0, .inr (1, [.ref e1, .int (nI M), .int (nI R), .int (nI V), .ref s1, .ref r1, .int (nI n), .ref d1, .ref w1])), (r1, .inl (cR, 560, .inl T))] H → va_D A [(h0, .inr (1, [.ref e1, .int (nI M), .int (nI R), .int (nI V), .ref s1, .ref r1, .int (nI n), .ref d1, .ref w1])), (r1, .inl (cR, 560, .inl T))] → va_S A H0 H locs → lv_has ls 5 [(0, .ref h0), (1, .int (nI j)), (2, .int y), (3, .int (nI a)), (4, .int (nI k))] → W p l e rmX1_running s m args below meth c H locs 0 0 Q (F0 m 14 ls []) := by
  obtain ⟨hx, hb, hml, hown, hts⟩ := id C0
  intro n_
  induction n_ with
  | zero =>
    intro k a H locs ls hm
    exact absurd hm (by omega)
  | succ n_ ih =>
    intro k a H locs ls hm hI hP hD hS hl
    refine lv_iload hx hb dX1_running_14 (lv_at hl 4 rfl) ?_
    refine lv_aload_n hx hb dX1_running_16 rfl (lv_at hl 0 rfl) ?_
    refine va_get (D := D) (ci := 1) (v := .int (nI n)) (C := RX1) (T := TX1) (N := 9) hx hb hts iw_X1_running_X1 hown hK hP 0 rfl rfl 6 (by decide) (hts _ kw_X1_running_40) (fun _ h9 => h9) rfl dX1_running_17 ?_
    refine gx_ge (tgt := 51) hx hb dX1_running_20 (by decide) (by omega) (by omega) (fun c_20 => ?_) (fun c_20 => ?_)
    · have hkn : k = n := by omega
      subst hkn
      subst hI
      exact kk _ _ _ (hP.sub [0, 1] rfl) (hD.sub [0, 1] (by decide) rfl) hS (lv_sub hl [0, 1, 2, 3, 4] rfl)
    · refine lv_aload_n hx hb dX1_running_23 rfl (lv_at hl 0 rfl) ?_
      refine va_get (D := D) (ci := 1) (v := .ref r1) (C := RX1) (T := TX1) (N := 9) hx hb hts iw_X1_running_X1 hown hK hP 0 rfl rfl 5 (by decide) (hts _ kw_X1_running_16) (fun _ h9 => h9) rfl dX1_running_24 ?_
      refine lv_iload hx hb dX1_running_27 (lv_at hl 4 rfl) ?_
      refine lv_bipush (v := nI 8) hx hb dX1_running_29 (by decide) ?_
      refine lv_imul hx hb dX1_running_31 ?_
      refine gx_i (y := nI (k * 8)) (pk_mul k 8) ?_
      refine lv_iload_n hx hb dX1_running_32 rfl (lv_at hl 1 rfl) ?_
      refine lv_iadd hx hb dX1_running_33 ?_
      refine gx_i (y := nI (k * 8 + j)) (nI_add (k * 8) j) ?_
      refine gx_iald (q := k * 8 + j) hx hb hK hP 1 0 rfl rfl (rfl) (by omega) (by decide) dX1_running_34 ?_
      refine lv_iload_n hx hb dX1_running_35 rfl (lv_at hl 2 rfl) ?_
      refine gx_ji (wr := [(h0, .inr (1, [.ref e1, .int (nI M), .int (nI R), .int (nI V), .ref s1, .ref r1, .int (nI n), .ref d1, .ref w1])), (r1, .inl (cR, 560, .inl T))]) (gx_rS (As := [.int (T (k * 8 + j)), .int y]) (rest := []) C0 (kX1_runs l D (T (k * 8 + j)) y _) (va_cwS 2 hts gX1_running_X1_runs rfl rfl rfl (by decide +kernel) ⟨Nat.le_of_ble_eq_true rfl, Nat.le_of_ble_eq_true rfl⟩) hN hK hP hD [] [] rfl rfl (by decide) rfl rfl hl.1 rfl (Nat.le_of_ble_eq_true rfl) dX1_running_36 ⟨Nat.zero_le _, Nat.zero_le _⟩) hP hD hS hA [] [0, 1] rfl rfl (by decide) (by decide) (fun r u H locs hw hP hD hS => ?_)
      have hw : r = bI (sp_runs (T (k * 8 + j)) y) := hw
      subst hw
      have hP : va_P D vwCl [(h0, .inr (1, [.ref e1, .int (nI M), .int (nI R), .int (nI V), .ref s1, .ref r1, .int (nI n), .ref d1, .ref w1])), (r1, .inl (cR, 560, .inl T))] H := hP
      have hD : va_D A [(h0, .inr (1, [.ref e1, .int (nI M), .int (nI R), .int (nI V), .ref s1, .ref r1, .int (nI n), .ref d1, .ref w1])), (r1, .inl (cR, 560, .inl T))] := hD
      refine gx_beq (tgt := 45) hx hb dX1_running_39 (by decide) (fun c_39 => ?_) (fun c_39 => ?_)
      · refine lv_iinc (v := nI (k + 1)) (lv' := [(4, .int (nI (k + 1))), (0, .ref h0), (1, .int (nI j)), (2, .int y), (3, .int (nI a))]) hx hb dX1_running_45 hl (k := 4) rfl ((nI_succ k).symm) (by decide) rfl (fun ls hl => ?_)
        refine lv_goto (tgt := 14) hx hb dX1_running_48 (by decide) ?_
        exact ih (k + 1) a _ _ _ (by omega) (cnt_step_f (q := ruq T j y) c_39 hI) (hP.sub [0, 1] rfl) (hD.sub [0, 1] (by decide) rfl) hS (lv_sub hl [1, 2, 3, 4, 0] rfl)
      · refine lv_iinc (v := nI (a + 1)) (lv' := [(3, .int (nI (a + 1))), (0, .ref h0), (1, .int (nI j)), (2, .int y), (4, .int (nI k))]) hx hb dX1_running_42 hl (k := 3) rfl ((nI_succ a).symm) (by decide) rfl (fun ls hl => ?_)
        refine lv_iinc (v := nI (k + 1)) (lv' := [(4, .int (nI (k + 1))), (3, .int (nI (a + 1))), (0, .ref h0), (1, .int (nI j)), (2, .int y)]) hx hb dX1_running_45 hl (k := 4) rfl ((nI_succ k).symm) (by decide) rfl (fun ls hl => ?_)
        refine lv_goto (tgt := 14) hx hb dX1_running_48 (by decide) ?_
        exact ih (k + 1) (a + 1) _ _ _ (by omega) (cnt_step_t (q := ruq T j y) c_39 hI) (hP.sub [0, 1] rfl) (hD.sub [0, 1] (by decide) rfl) hS (lv_sub hl [2, 3, 4, 1, 0] rfl)
set_option maxHeartbeats 4000000 in
set_option maxRecDepth 100000 in
theorem kX1_running (l : Launch) (D : va_G) (h0 e1 s1 r1 d1 w1 M R V n : Nat) (x y : Int32) (cR : ClassId) (T : Nat → Int32) (hn : n ≤ 70) : gx_Mi l D yX1_running wsX1_running rmX1_running [.ref h0, .int x, .int y] [(cR, .int)] [(h0, .inr (1, [.ref e1, .int (nI M), .int (nI R), .int (nI V), .ref s1, .ref r1, .int (nI n), .ref d1, .ref w1])), (r1, .inl (cR, 560, .inl T))] (S := Unit) (fun r (_ : Unit) => r = if sp_in x 8 = true then nI (mx_count (ruq T x.toNatClampNeg y) n) else 0) (fun (_ : Unit) => [(h0, .inr (1, [.ref e1, .int (nI M), .int (nI R), .int (nI V), .ref s1, .ref r1, .int (nI n), .ref d1, .ref w1])), (r1, .inl (cR, 560, .inl T))]) := by
  intro sz
  refine gx_start (cc := cX1_running) (maxL := 5) (ret := (some .int)) (Qc := fun A => va_Qi (fun r (_ : Unit) => r = if sp_in x 8 = true then nI (mx_count (ruq T x.toNatClampNeg y) n) else 0) (gx_B D [(cR, .int)] A (fun (_ : Unit) => [(h0, .inr (1, [.ref e1, .int (nI M), .int (nI R), .int (nI V), .ref s1, .ref r1, .int (nI n), .ref d1, .ref w1])), (r1, .inl (cR, 560, .inl T))])) A) (by decide) rfl (Nat.le_of_ble_eq_true rfl) ?_ sz
  intro p e s m below meth c A hbody ls hl
  obtain ⟨C0, hr, hlocks, hN, hK, hP, hD, hA⟩ := hbody
  have C0 : CallFix p m c cX1_running 5 s ([.ref h0, .int x, .int y] : List Value).toArray wsX1_running RX1 := C0
  obtain ⟨hx, hb, hml, hown, hts⟩ := id C0
  have hS : va_S A s.heap s.heap [] := va_S.rf
  have hl : lv_has ls 5 [(0, .ref h0), (1, .int x), (2, .int y)] := hl
  refine lv_iload_n hx hb dX1_running_0 rfl (lv_at hl 1 rfl) ?_
  refine gx_ji (wr := [(h0, .inr (1, [.ref e1, .int (nI M), .int (nI R), .int (nI V), .ref s1, .ref r1, .int (nI n), .ref d1, .ref w1])), (r1, .inl (cR, 560, .inl T))]) (gx_rS (As := [.int x]) (rest := []) C0 (kX1_isColumn l D x _) (va_cwS 1 hts gX1_running_X1_isColumn rfl rfl rfl (by decide +kernel) ⟨Nat.le_of_ble_eq_true rfl, Nat.le_of_ble_eq_true rfl⟩) hN hK hP hD [] [] rfl rfl (by decide) rfl rfl hl.1 rfl (Nat.le_of_ble_eq_true rfl) dX1_running_1 ⟨Nat.zero_le _, Nat.zero_le _⟩) hP hD hS hA [] [0, 1] rfl rfl (by decide) (by decide) (fun r u H locs hw hP hD hS => ?_)
  have hw : r = bI (sp_in x 8) := hw
  subst hw
  have hP : va_P D vwCl [(h0, .inr (1, [.ref e1, .int (nI M), .int (nI R), .int (nI V), .ref s1, .ref r1, .int (nI n), .ref d1, .ref w1])), (r1, .inl (cR, 560, .inl T))] H := hP
  have hD : va_D A [(h0, .inr (1, [.ref e1, .int (nI M), .int (nI R), .int (nI V), .ref s1, .ref r1, .int (nI n), .ref d1, .ref w1])), (r1, .inl (cR, 560, .inl T))] := hD
  refine gx_bne (tgt := 9) hx hb dX1_running_4 (by decide) (fun c_4 => ?_) (fun c_4 => ?_)
  · have hz := c_4
    obtain ⟨j, hj, rfl⟩ := sp_in_t (by decide) c_4
    refine lv_iconst (v := nI 0) hx hb dX1_running_9 (by decide) ?_
    refine lv_istore_n (lv' := [(3, .int (nI 0)), (0, .ref h0), (1, .int (nI j)), (2, .int y)]) hx hb dX1_running_10 rfl hl (by decide) rfl (fun ls hl => ?_)
    refine lv_iconst (v := nI 0) hx hb dX1_running_11 (by decide) ?_
    refine lv_istore (lv' := [(4, .int (nI 0)), (3, .int (nI 0)), (0, .ref h0), (1, .int (nI j)), (2, .int y)]) hx hb dX1_running_12 hl (by decide) rfl (fun ls hl => ?_)
    refine lpX1_running C0 hN hA hn hj hK (fun H locs ls hP hD hS hl => ?_) (n + 1) 0 0 _ _ _ (by omega) rfl (hP.sub [0, 1] rfl) (hD.sub [0, 1] (by decide) rfl) hS (lv_sub hl [2, 3, 4, 1, 0] rfl)
    refine lv_iload_n hx hb dX1_running_51 rfl (lv_at hl 3 rfl) ?_
    exact gx_reti hx hb hr hlocks () (by rw [hz, nI_clamp (by omega)]; rfl) hK (hP.sub [0, 1] rfl) (hD.sub [0, 1] (by decide) rfl) hS dX1_running_52
  · refine lv_iconst (v := 0) hx hb dX1_running_7 (by decide) ?_
    exact gx_reti hx hb hr hlocks () (by rw [c_4]; rfl) hK (hP.sub [0, 1] rfl) (hD.sub [0, 1] (by decide) rfl) hS dX1_running_8
abbrev rmJ6_bitCount_0f7a4 : Room := { frames := 0, cells := 0, slots := 0, locals := 0 }
set_option maxHeartbeats 4000000 in
set_option maxRecDepth 100000 in
theorem kJ6_bitCount_0f7a4 (l : Launch) (D : va_G) (sv : Nat) (hsv : sv < 256) : gx_Mi l D yJ6_bitCount_0f7a4 wsJ6_bitCount_0f7a4 rmJ6_bitCount_0f7a4 [.int (nI sv)] [] [] (S := Unit) (fun r (_ : Unit) => r = nI (mx_cnt sv 8)) (fun (_ : Unit) => []) := by
  intro sz
  refine gx_start (cc := cJ6_bitCount_0f7a4) (maxL := 1) (ret := (some .int)) (Qc := fun A => va_Qi (fun r (_ : Unit) => r = nI (mx_cnt sv 8)) (gx_B D [] A (fun (_ : Unit) => [])) A) (by decide) rfl (Nat.le_of_ble_eq_true rfl) ?_ sz
  intro p e s m below meth c A hbody ls hl
  obtain ⟨C0, hr, hlocks, hN, hK, hP, hD, hA⟩ := hbody
  have C0 : CallFix p m c cJ6_bitCount_0f7a4 1 s ([.int (nI sv)] : List Value).toArray wsJ6_bitCount_0f7a4 RJ6 := C0
  obtain ⟨hx, hb, hml, hown, hts⟩ := id C0
  have hS : va_S A s.heap s.heap [] := va_S.rf
  have hl : lv_has ls 1 [(0, .int (nI sv))] := hl
  refine lv_iload_n hx hb dJ6_bitCount_0f7a4_0 rfl (lv_at hl 0 rfl) ?_
  refine lv_iload_n hx hb dJ6_bitCount_0f7a4_1 rfl (lv_at hl 0 rfl) ?_
  refine lv_iconst (v := nI 1) hx hb dJ6_bitCount_0f7a4_2 (by decide) ?_
  refine lv_iushr (v := ((nI sv).toUInt32 >>> ((nI 1).toUInt32 &&& Int32.toUInt32 31)).toInt32) hx hb dJ6_bitCount_0f7a4_3 rfl ?_
  refine lv_ldcw (v := 1431655765) hx hb hown (hts _ (show Cond.constant RJ6 265 (1431655765) ∈ wsJ6_bitCount_0f7a4 by decide +kernel)) dJ6_bitCount_0f7a4_4 ?_
  refine lv_iand hx hb dJ6_bitCount_0f7a4_7 ?_
  refine lv_isub hx hb dJ6_bitCount_0f7a4_8 ?_
  refine lv_topi (fun y1 e_y1 => ?_)
  refine lv_istore_n (lv' := [(0, .int y1)]) hx hb dJ6_bitCount_0f7a4_9 rfl hl (by decide) rfl (fun ls hl => ?_)
  refine lv_iload_n hx hb dJ6_bitCount_0f7a4_10 rfl (lv_at hl 0 rfl) ?_
  refine lv_ldcw (v := 858993459) hx hb hown (hts _ (show Cond.constant RJ6 266 (858993459) ∈ wsJ6_bitCount_0f7a4 by decide +kernel)) dJ6_bitCount_0f7a4_11 ?_
  refine lv_iand hx hb dJ6_bitCount_0f7a4_14 ?_
  refine lv_iload_n hx hb dJ6_bitCount_0f7a4_15 rfl (lv_at hl 0 rfl) ?_
  refine lv_iconst (v := nI 2) hx hb dJ6_bitCount_0f7a4_16 (by decide) ?_
  refine lv_iushr (v := (y1.toUInt32 >>> ((nI 2).toUInt32 &&& Int32.toUInt32 31)).toInt32) hx hb dJ6_bitCount_0f7a4_17 rfl ?_
  refine lv_ldcw (v := 858993459) hx hb hown (hts _ (show Cond.constant RJ6 266 (858993459) ∈ wsJ6_bitCount_0f7a4 by decide +kernel)) dJ6_bitCount_0f7a4_18 ?_
  refine lv_iand hx hb dJ6_bitCount_0f7a4_21 ?_
  refine lv_iadd hx hb dJ6_bitCount_0f7a4_22 ?_
  refine lv_topi (fun y2 e_y2 => ?_)
  refine lv_istore_n (lv' := [(0, .int y2)]) hx hb dJ6_bitCount_0f7a4_23 rfl hl (by decide) rfl (fun ls hl => ?_)
  refine lv_iload_n hx hb dJ6_bitCount_0f7a4_24 rfl (lv_at hl 0 rfl) ?_
  refine lv_iload_n hx hb dJ6_bitCount_0f7a4_25 rfl (lv_at hl 0 rfl) ?_
  refine lv_iconst (v := nI 4) hx hb dJ6_bitCount_0f7a4_26 (by decide) ?_
  refine lv_iushr (v := (y2.toUInt32 >>> ((nI 4).toUInt32 &&& Int32.toUInt32 31)).toInt32) hx hb dJ6_bitCount_0f7a4_27 rfl ?_
  refine lv_iadd hx hb dJ6_bitCount_0f7a4_28 ?_
  refine lv_ldcw (v := 252645135) hx hb hown (hts _ (show Cond.constant RJ6 267 (252645135) ∈ wsJ6_bitCount_0f7a4 by decide +kernel)) dJ6_bitCount_0f7a4_29 ?_
  refine lv_iand hx hb dJ6_bitCount_0f7a4_32 ?_
  refine lv_topi (fun y3 e_y3 => ?_)
  refine lv_istore_n (lv' := [(0, .int y3)]) hx hb dJ6_bitCount_0f7a4_33 rfl hl (by decide) rfl (fun ls hl => ?_)
  refine lv_iload_n hx hb dJ6_bitCount_0f7a4_34 rfl (lv_at hl 0 rfl) ?_
  refine lv_iload_n hx hb dJ6_bitCount_0f7a4_35 rfl (lv_at hl 0 rfl) ?_
  refine lv_bipush (v := nI 8) hx hb dJ6_bitCount_0f7a4_36 (by decide) ?_
  refine lv_iushr (v := (y3.toUInt32 >>> ((nI 8).toUInt32 &&& Int32.toUInt32 31)).toInt32) hx hb dJ6_bitCount_0f7a4_38 rfl ?_
  refine lv_iadd hx hb dJ6_bitCount_0f7a4_39 ?_
  refine lv_topi (fun y4 e_y4 => ?_)
  refine lv_istore_n (lv' := [(0, .int y4)]) hx hb dJ6_bitCount_0f7a4_40 rfl hl (by decide) rfl (fun ls hl => ?_)
  refine lv_iload_n hx hb dJ6_bitCount_0f7a4_41 rfl (lv_at hl 0 rfl) ?_
  refine lv_iload_n hx hb dJ6_bitCount_0f7a4_42 rfl (lv_at hl 0 rfl) ?_
  refine lv_bipush (v := nI 16) hx hb dJ6_bitCount_0f7a4_43 (by decide) ?_
  refine lv_iushr (v := (y4.toUInt32 >>> ((nI 16).toUInt32 &&& Int32.toUInt32 31)).toInt32) hx hb dJ6_bitCount_0f7a4_45 rfl ?_
  refine lv_iadd hx hb dJ6_bitCount_0f7a4_46 ?_
  refine lv_topi (fun y5 e_y5 => ?_)
  refine lv_istore_n (lv' := [(0, .int y5)]) hx hb dJ6_bitCount_0f7a4_47 rfl hl (by decide) rfl (fun ls hl => ?_)
  refine lv_iload_n hx hb dJ6_bitCount_0f7a4_48 rfl (lv_at hl 0 rfl) ?_
  refine lv_bipush (v := nI 63) hx hb dJ6_bitCount_0f7a4_49 (by decide) ?_
  refine lv_iand hx hb dJ6_bitCount_0f7a4_51 ?_
  exact gx_reti hx hb hr hlocks () (by rw [e_y5, e_y4, e_y3, e_y2, e_y1]; exact bc_ok sv hsv) hK (hP.sub [] rfl) (hD.sub [] (by decide) rfl) hS dJ6_bitCount_0f7a4_52
abbrev rmX1_shortest : Room := { frames := 1, cells := 0, slots := 0, locals := 40 }
theorem iw_X1_shortest_X1 : ∀ w ∈ wsX10, w ∈ wsX1_shortest := by decide +kernel
theorem kw_X1_shortest_13 : Cond.fieldLink RX1 13 "FluxModes" "listedSupports" "[I" ∈ wsX1_shortest := by decide +kernel
theorem kw_X1_shortest_40 : Cond.fieldLink RX1 40 "FluxModes" "listed" "I" ∈ wsX1_shortest := by decide +kernel
set_option maxHeartbeats 4000000 in
set_option maxRecDepth 100000 in
theorem lpX1_shortest {p : Program} {l : Launch} {e : Env} {s : State} {m : MethodId} {args : Array Value} {below : List Frame} {meth : Method} {c : Code} {Q : State → Prop} {D : va_G} {A : Nat → Prop} {H0 : Heap} (C0 : CallFix p m c cX1_shortest 5 s args wsX1_shortest RX1) (hN : gx_N s) (hA : ∀ q : Nat, H0.size ≤ q → A q) {h0 e1 s1 r1 d1 w1 M R V n j : Nat} {cS : ClassId} {U : Nat → Int32} {sf : Nat → Nat} (hn : n ≤ 70) (hU : ∀ k, k < n → sf k < 256 ∧ U k = nI (sf k)) (hj : j < 8) (hK : va_K D vwCl [(cS, .int)] s) (kk : ∀ (H : Heap) (locs : List Loc) (ls : Array Slot), va_P D vwCl [(h0, .inr (1, [.ref e1, .int (nI M), .int (nI R), .int (nI V), .ref s1, .ref r1, .int (nI n), .ref d1, .ref w1])), (s1, .inl (cS, 70, .inl U))] H → va_D A [(h0, .inr (1, [.ref e1, .int (nI M), .int (nI R), .int (nI V), .ref s1, .ref r1, .int (nI n), .ref d1, .ref w1])), (s1, .inl (cS, 70, .inl U))] → va_S A H0 H locs → lv_has ls 5 [(0, .ref h0), (1, .int (nI j)), (2, .int (nI (shs sf j n))), (3, .int (nI n))] → W p l e rmX1_shortest s m args below meth c H locs 0 0 Q (F0 m 67 ls [])) : ∀ (n_ : Nat) (k a : Nat) (H : Heap) (locs : List Loc) (ls : Array Slot), (k ≤ n ∧ n < k + n_) → (a = shs sf j k) → va_P D vwCl [(h0, .inr (1, [.ref e1, .int (nI M), .int (nI R), .int (nI V), .ref s1, .ref r1, .int (nI n), .ref d1, .ref w1])), (s1, .inl (cS, 70, .inl U))] H → va_D A [(h0, .inr (1, [.ref e1, .int (nI M), .int (nI R), .int (nI V), .ref s1, .ref r1, .int (nI n), .ref d1, .ref w1])), (s1, .inl (cS, 70, .inl U))] → va_S A H0 H locs → lv_has ls 5 [(0, .ref h0), (1, .int (nI j)), (2, .int (nI a)), (3, .int (nI k))] → W p l e rmX1_shortest s m args below meth c H locs 0 0 Q (F0 m 13 ls []) := by
  obtain ⟨hx, hb, hml, hown, hts⟩ := id C0
  intro n_
  induction n_ with
  | zero =>
    intro k a H locs ls hm
    exact absurd hm (by omega)
  | succ n_ ih =>
    intro k a H locs ls hm hI hP hD hS hl
    refine lv_iload_n hx hb dX1_shortest_13 rfl (lv_at hl 3 rfl) ?_
    refine lv_aload_n hx hb dX1_shortest_14 rfl (lv_at hl 0 rfl) ?_
    refine va_get (D := D) (ci := 1) (v := .int (nI n)) (C := RX1) (T := TX1) (N := 9) hx hb hts iw_X1_shortest_X1 hown hK hP 0 rfl rfl 6 (by decide) (hts _ kw_X1_shortest_40) (fun _ h9 => h9) rfl dX1_shortest_15 ?_
    refine gx_ge (tgt := 67) hx hb dX1_shortest_18 (by decide) (by omega) (by omega) (fun c_18 => ?_) (fun c_18 => ?_)
    · have hkn : k = n := by omega
      subst hkn
      subst hI
      exact kk _ _ _ (hP.sub [0, 1] rfl) (hD.sub [0, 1] (by decide) rfl) hS (lv_sub hl [0, 1, 2, 3] rfl)
    · obtain ⟨hs8, hs9⟩ := hU k c_18
      have ha8 := shs_le sf j k
      rw [← hI] at ha8
      refine lv_aload_n hx hb dX1_shortest_21 rfl (lv_at hl 0 rfl) ?_
      refine va_get (D := D) (ci := 1) (v := .ref s1) (C := RX1) (T := TX1) (N := 9) hx hb hts iw_X1_shortest_X1 hown hK hP 0 rfl rfl 4 (by decide) (hts _ kw_X1_shortest_13) (fun _ h9 => h9) rfl dX1_shortest_22 ?_
      refine lv_iload_n hx hb dX1_shortest_25 rfl (lv_at hl 3 rfl) ?_
      refine gx_iald (q := k) hx hb hK hP 1 0 rfl rfl (rfl) (by omega) (by decide) dX1_shortest_26 ?_
      refine gx_i (y := nI (sf k)) (hs9) ?_
      refine lv_iload_n hx hb dX1_shortest_27 rfl (lv_at hl 1 rfl) ?_
      refine gx_ji (wr := [(h0, .inr (1, [.ref e1, .int (nI M), .int (nI R), .int (nI V), .ref s1, .ref r1, .int (nI n), .ref d1, .ref w1])), (s1, .inl (cS, 70, .inl U))]) (gx_rS (As := [.int (nI (sf k)), .int (nI j)]) (rest := []) C0 (kX1_has l D (sf k) j hs8 hj _) (va_cwS 2 hts gX1_shortest_X1_has rfl rfl rfl (by decide +kernel) ⟨Nat.le_of_ble_eq_true rfl, Nat.le_of_ble_eq_true rfl⟩) hN hK hP hD [] [] rfl rfl (by decide) rfl rfl hl.1 rfl (Nat.le_of_ble_eq_true rfl) dX1_shortest_28 ⟨Nat.zero_le _, Nat.zero_le _⟩) hP hD hS hA [] [0, 1] rfl rfl (by decide) (by decide) (fun r u H locs hw hP hD hS => ?_)
      have hw : r = bI ((sf k).testBit j) := hw
      subst hw
      have hP : va_P D vwCl [(h0, .inr (1, [.ref e1, .int (nI M), .int (nI R), .int (nI V), .ref s1, .ref r1, .int (nI n), .ref d1, .ref w1])), (s1, .inl (cS, 70, .inl U))] H := hP
      have hD : va_D A [(h0, .inr (1, [.ref e1, .int (nI M), .int (nI R), .int (nI V), .ref s1, .ref r1, .int (nI n), .ref d1, .ref w1])), (s1, .inl (cS, 70, .inl U))] := hD
      refine gx_beq (tgt := 61) hx hb dX1_shortest_31 (by decide) (fun c_31 => ?_) (fun c_31 => ?_)
      · refine lv_iinc (v := nI (k + 1)) (lv' := [(3, .int (nI (k + 1))), (0, .ref h0), (1, .int (nI j)), (2, .int (nI a))]) hx hb dX1_shortest_61 hl (k := 3) rfl ((nI_succ k).symm) (by decide) rfl (fun ls hl => ?_)
        refine lv_goto (tgt := 13) hx hb dX1_shortest_64 (by decide) ?_
        exact ih (k + 1) a _ _ _ (by omega) (by rw [shs_out c_31]; exact hI) (hP.sub [0, 1] rfl) (hD.sub [0, 1] (by decide) rfl) hS (lv_sub hl [1, 2, 3, 0] rfl)
      · refine lv_aload_n hx hb dX1_shortest_34 rfl (lv_at hl 0 rfl) ?_
        refine va_get (D := D) (ci := 1) (v := .ref s1) (C := RX1) (T := TX1) (N := 9) hx hb hts iw_X1_shortest_X1 hown hK hP 0 rfl rfl 4 (by decide) (hts _ kw_X1_shortest_13) (fun _ h9 => h9) rfl dX1_shortest_35 ?_
        refine lv_iload_n hx hb dX1_shortest_38 rfl (lv_at hl 3 rfl) ?_
        refine gx_iald (q := k) hx hb hK hP 1 0 rfl rfl (rfl) (by omega) (by decide) dX1_shortest_39 ?_
        refine gx_i (y := nI (sf k)) (hs9) ?_
        refine gx_ji (wr := [(h0, .inr (1, [.ref e1, .int (nI M), .int (nI R), .int (nI V), .ref s1, .ref r1, .int (nI n), .ref d1, .ref w1])), (s1, .inl (cS, 70, .inl U))]) (gx_rS (As := [.int (nI (sf k))]) (rest := []) C0 (kJ6_bitCount_0f7a4 l D (sf k) hs8 _) (va_cwS 1 hts gX1_shortest_J6_bitCount_0f7a4 rfl rfl rfl (by decide +kernel) ⟨Nat.le_of_ble_eq_true rfl, Nat.le_of_ble_eq_true rfl⟩) hN hK hP hD [] [] rfl rfl (by decide) rfl rfl hl.1 rfl (Nat.le_of_ble_eq_true rfl) dX1_shortest_40 ⟨Nat.zero_le _, Nat.zero_le _⟩) hP hD hS hA [] [0, 1] rfl rfl (by decide) (by decide) (fun r u H locs hw hP hD hS => ?_)
        have hw : r = nI (mx_cnt (sf k) 8) := hw
        subst hw
        have hP : va_P D vwCl [(h0, .inr (1, [.ref e1, .int (nI M), .int (nI R), .int (nI V), .ref s1, .ref r1, .int (nI n), .ref d1, .ref w1])), (s1, .inl (cS, 70, .inl U))] H := hP
        have hD : va_D A [(h0, .inr (1, [.ref e1, .int (nI M), .int (nI R), .int (nI V), .ref s1, .ref r1, .int (nI n), .ref d1, .ref w1])), (s1, .inl (cS, 70, .inl U))] := hD
        refine lv_istore (lv' := [(4, .int (nI (mx_cnt (sf k) 8))), (0, .ref h0), (1, .int (nI j)), (2, .int (nI a)), (3, .int (nI k))]) hx hb dX1_shortest_43 hl (by decide) rfl (fun ls hl => ?_)
        refine lv_iload_n hx hb dX1_shortest_45 rfl (lv_at hl 3 rfl) ?_
        refine lv_if_ne (tgt := 54) hx hb dX1_shortest_46 (by decide) (fun c_46 => ?_) (fun c_46 => ?_)
        · have hq0 : ¬ shs sf j k = 0 := fun q => c_46 (by rw [hI, q]; exact nI_0)
          refine lv_iload_n hx hb dX1_shortest_54 rfl (lv_at hl 3 rfl) ?_
          refine lv_iload hx hb dX1_shortest_55 (lv_at hl 0 rfl) ?_
          refine va_mmin hx hb (by rw [hml]; exact hl.1.symm) hown (hts _ (show Cond.methodLink RX1 79 Lib.Math.min.name ∈ wsX1_shortest by decide +kernel)) (hts _ (show Cond.static Lib.Math.min.name ∈ wsX1_shortest by decide +kernel)) (hts _ (show Cond.initialized "java/lang/Math" ∈ wsX1_shortest by decide +kernel)) (hts _ (show Cond.code Lib.Math.min.name Lib.Math.min.code 2 (some .int) ∈ wsX1_shortest by decide +kernel)) (Nat.le_of_ble_eq_true rfl) (Nat.le_of_ble_eq_true rfl) (Nat.zero_le _) (Nat.zero_le _) dX1_shortest_57 ?_
          refine gx_i (y := nI (shs sf j (k + 1))) (by rw [hI]; exact shs_m c_31 hq0) ?_
          refine lv_istore_n (lv' := [(2, .int (nI (shs sf j (k + 1)))), (4, .int (nI (mx_cnt (sf k) 8))), (0, .ref h0), (1, .int (nI j)), (3, .int (nI k))]) hx hb dX1_shortest_60 rfl hl (by decide) rfl (fun ls hl => ?_)
          refine lv_iinc (v := nI (k + 1)) (lv' := [(3, .int (nI (k + 1))), (2, .int (nI (shs sf j (k + 1)))), (4, .int (nI (mx_cnt (sf k) 8))), (0, .ref h0), (1, .int (nI j))]) hx hb dX1_shortest_61 hl (k := 4) rfl ((nI_succ k).symm) (by decide) rfl (fun ls hl => ?_)
          refine lv_goto (tgt := 13) hx hb dX1_shortest_64 (by decide) ?_
          exact ih (k + 1) (shs sf j (k + 1)) _ _ _ (by omega) rfl (hP.sub [0, 1] rfl) (hD.sub [0, 1] (by decide) rfl) hS (lv_sub hl [3, 4, 1, 0] rfl)
        · have hq0 : shs sf j k = 0 := by rw [← hI]; exact (nI_eq (by omega) (by omega)).mp (c_46.trans nI_0.symm)
          refine lv_iload hx hb dX1_shortest_49 (lv_at hl 0 rfl) ?_
          refine lv_goto (tgt := 60) hx hb dX1_shortest_51 (by decide) ?_
          refine lv_istore_n (lv' := [(2, .int (nI (mx_cnt (sf k) 8))), (4, .int (nI (mx_cnt (sf k) 8))), (0, .ref h0), (1, .int (nI j)), (3, .int (nI k))]) hx hb dX1_shortest_60 rfl hl (by decide) rfl (fun ls hl => ?_)
          refine lv_iinc (v := nI (k + 1)) (lv' := [(3, .int (nI (k + 1))), (2, .int (nI (mx_cnt (sf k) 8))), (4, .int (nI (mx_cnt (sf k) 8))), (0, .ref h0), (1, .int (nI j))]) hx hb dX1_shortest_61 hl (k := 4) rfl ((nI_succ k).symm) (by decide) rfl (fun ls hl => ?_)
          refine lv_goto (tgt := 13) hx hb dX1_shortest_64 (by decide) ?_
          exact ih (k + 1) (mx_cnt (sf k) 8) _ _ _ (by omega) (shs_0 c_31 hq0).symm (hP.sub [0, 1] rfl) (hD.sub [0, 1] (by decide) rfl) hS (lv_sub hl [3, 4, 1, 0] rfl)
set_option maxHeartbeats 4000000 in
set_option maxRecDepth 100000 in
theorem kX1_shortest (l : Launch) (D : va_G) (h0 e1 s1 r1 d1 w1 M R V n : Nat) (x : Int32) (cS : ClassId) (U : Nat → Int32) (sf : Nat → Nat) (hn : n ≤ 70) (hU : ∀ k, k < n → sf k < 256 ∧ U k = nI (sf k)) : gx_Mi l D yX1_shortest wsX1_shortest rmX1_shortest [.ref h0, .int x] [(cS, .int)] [(h0, .inr (1, [.ref e1, .int (nI M), .int (nI R), .int (nI V), .ref s1, .ref r1, .int (nI n), .ref d1, .ref w1])), (s1, .inl (cS, 70, .inl U))] (S := Unit) (fun r (_ : Unit) => r = if sp_in x 8 = true then nI (shs sf x.toNatClampNeg n) else 0) (fun (_ : Unit) => [(h0, .inr (1, [.ref e1, .int (nI M), .int (nI R), .int (nI V), .ref s1, .ref r1, .int (nI n), .ref d1, .ref w1])), (s1, .inl (cS, 70, .inl U))]) := by
  intro sz
  refine gx_start (cc := cX1_shortest) (maxL := 5) (ret := (some .int)) (Qc := fun A => va_Qi (fun r (_ : Unit) => r = if sp_in x 8 = true then nI (shs sf x.toNatClampNeg n) else 0) (gx_B D [(cS, .int)] A (fun (_ : Unit) => [(h0, .inr (1, [.ref e1, .int (nI M), .int (nI R), .int (nI V), .ref s1, .ref r1, .int (nI n), .ref d1, .ref w1])), (s1, .inl (cS, 70, .inl U))])) A) (by decide) rfl (Nat.le_of_ble_eq_true rfl) ?_ sz
  intro p e s m below meth c A hbody ls hl
  obtain ⟨C0, hr, hlocks, hN, hK, hP, hD, hA⟩ := hbody
  have C0 : CallFix p m c cX1_shortest 5 s ([.ref h0, .int x] : List Value).toArray wsX1_shortest RX1 := C0
  obtain ⟨hx, hb, hml, hown, hts⟩ := id C0
  have hS : va_S A s.heap s.heap [] := va_S.rf
  have hl : lv_has ls 5 [(0, .ref h0), (1, .int x)] := hl
  refine lv_iload_n hx hb dX1_shortest_0 rfl (lv_at hl 1 rfl) ?_
  refine gx_ji (wr := [(h0, .inr (1, [.ref e1, .int (nI M), .int (nI R), .int (nI V), .ref s1, .ref r1, .int (nI n), .ref d1, .ref w1])), (s1, .inl (cS, 70, .inl U))]) (gx_rS (As := [.int x]) (rest := []) C0 (kX1_isColumn l D x _) (va_cwS 1 hts gX1_shortest_X1_isColumn rfl rfl rfl (by decide +kernel) ⟨Nat.le_of_ble_eq_true rfl, Nat.le_of_ble_eq_true rfl⟩) hN hK hP hD [] [] rfl rfl (by decide) rfl rfl hl.1 rfl (Nat.le_of_ble_eq_true rfl) dX1_shortest_1 ⟨Nat.zero_le _, Nat.zero_le _⟩) hP hD hS hA [] [0, 1] rfl rfl (by decide) (by decide) (fun r u H locs hw hP hD hS => ?_)
  have hw : r = bI (sp_in x 8) := hw
  subst hw
  have hP : va_P D vwCl [(h0, .inr (1, [.ref e1, .int (nI M), .int (nI R), .int (nI V), .ref s1, .ref r1, .int (nI n), .ref d1, .ref w1])), (s1, .inl (cS, 70, .inl U))] H := hP
  have hD : va_D A [(h0, .inr (1, [.ref e1, .int (nI M), .int (nI R), .int (nI V), .ref s1, .ref r1, .int (nI n), .ref d1, .ref w1])), (s1, .inl (cS, 70, .inl U))] := hD
  refine gx_bne (tgt := 9) hx hb dX1_shortest_4 (by decide) (fun c_4 => ?_) (fun c_4 => ?_)
  · have hz := c_4
    obtain ⟨j, hj, rfl⟩ := sp_in_t (by decide) c_4
    refine lv_iconst (v := nI 0) hx hb dX1_shortest_9 (by decide) ?_
    refine lv_istore_n (lv' := [(2, .int (nI 0)), (0, .ref h0), (1, .int (nI j))]) hx hb dX1_shortest_10 rfl hl (by decide) rfl (fun ls hl => ?_)
    refine lv_iconst (v := nI 0) hx hb dX1_shortest_11 (by decide) ?_
    refine lv_istore_n (lv' := [(3, .int (nI 0)), (2, .int (nI 0)), (0, .ref h0), (1, .int (nI j))]) hx hb dX1_shortest_12 rfl hl (by decide) rfl (fun ls hl => ?_)
    refine lpX1_shortest C0 hN hA hn hU hj hK (fun H locs ls hP hD hS hl => ?_) (n + 1) 0 0 _ _ _ (by omega) rfl (hP.sub [0, 1] rfl) (hD.sub [0, 1] (by decide) rfl) hS (lv_sub hl [2, 3, 1, 0] rfl)
    refine lv_iload_n hx hb dX1_shortest_67 rfl (lv_at hl 2 rfl) ?_
    exact gx_reti hx hb hr hlocks () (by rw [hz, nI_clamp (by omega)]; rfl) hK (hP.sub [0, 1] rfl) (hD.sub [0, 1] (by decide) rfl) hS dX1_shortest_68
  · refine lv_iconst (v := 0) hx hb dX1_shortest_7 (by decide) ?_
    exact gx_reti hx hb hr hlocks () (by rw [c_4]; rfl) hK (hP.sub [0, 1] rfl) (hD.sub [0, 1] (by decide) rfl) hS dX1_shortest_8
end
section
/-! the reference's own tests of arguments, its own counts -/
theorem sp_in_ok' {x : Int32} {n : Nat} (hn : n < 2 ^ 31) (h0 : ¬ x < 0) (h : x < nI n) : sp_in x n = true := sp_in_ok hn h0 (Int32.not_le.mpr h)
theorem sp_in_hi' {x : Int32} {n : Nat} (hn : n < 2 ^ 31) (h : ¬ x < nI n) : sp_in x n = false := sp_in_hi hn (Int32.not_lt.mp h)
theorem n32_7 : (nI 7).toInt = 7 := by decide
theorem sp_8_hi {x : Int32} (h : nI 7 < x) : sp_in x 8 = false := by
  rw [Int32.lt_iff_toInt_lt, n32_7] at h
  exact decide_eq_false (by omega)
theorem sp_8_ok {x : Int32} (h0 : ¬ x < 0) (h : ¬ nI 7 < x) : sp_in x 8 = true := by
  rw [Int32.lt_iff_toInt_lt, n32_7] at h
  rw [Int32.lt_iff_toInt_lt, c32_0] at h0
  exact decide_eq_true (by omega)
def bts (Bt : Nat → Int32) (V : Nat) : Prop := ∀ j, j < 8 → Bt j = bI (V.testBit j)
theorem rv_mod : ∀ V, V < 256 → ∀ j, j < 8 → (if V.testBit j = true then V % 2 ^ j + 2 ^ j else V % 2 ^ j) = V % 2 ^ (j + 1) := by
  have h : (List.range 256).all (fun V => (List.range 8).all (fun j => (if V.testBit j = true then V % 2 ^ j + 2 ^ j else V % 2 ^ j) == V % 2 ^ (j + 1))) = true := by decide +kernel
  intro V hV j hj
  have h1 := List.all_eq_true.mp (List.all_eq_true.mp h V (List.mem_range.mpr hV)) j (List.mem_range.mpr hj)
  simpa using h1
theorem rv_mod_t {V j a : Nat} (hV : V < 256) (hj : j < 8) (h : V.testBit j = true) (ha : a = V % 2 ^ j) : a + 2 ^ j = V % 2 ^ (j + 1) := by
  have h1 := rv_mod V hV j hj
  rw [if_pos h] at h1
  rw [ha]; exact h1
theorem rv_mod_f {V j a : Nat} (hV : V < 256) (hj : j < 8) (h : V.testBit j = false) (ha : a = V % 2 ^ j) : a = V % 2 ^ (j + 1) := by
  have h1 := rv_mod V hV j hj
  rw [if_neg (by rw [h]; decide)] at h1
  rw [ha]; exact h1
theorem fz_s {E : Nat → Int32} {v : Int32} {i : Nat} (h : ∀ q, q < i → E q = v) : ∀ q, q < i + 1 → upd E i v q = v := by
  intro q hq
  by_cases hqi : q = i
  · rw [hqi]; exact upd_at _ _ _
  · rw [upd_ne hqi]; exact h q (by omega)
def rvl (T : Nat → Int32) (x : Int32) (k : Nat) : Int32 := if sp_in x 8 = true then T (k * 8 + x.toNatClampNeg) else 0
theorem rvl_eq {T : Nat → Int32} {x : Int32} {n k : Nat} (hn : n ≤ 70) (hk : k < n) : (if (sp_in (nI k) n && sp_in x 8) = true then T (ixx (nI k) x) else 0) = rvl T x k := by
  unfold rvl ixx
  rw [sp_in_nI (by omega), decide_eq_true hk, nI_clamp (by omega)]
  rfl
def ruv (T : Nat → Int32) (x how : Int32) : Nat → Bool := fun k => sp_runs (rvl T x k) how
theorem mx_count_congr {q q' : Nat → Bool} : ∀ {n : Nat}, (∀ k, k < n → q k = q' k) → mx_count q n = mx_count q' n
  | 0, _ => rfl
  | n + 1, h => by rw [mx_count_s, mx_count_s, mx_count_congr (n := n) (fun k hk => h k (by omega)), h n (by omega)]
theorem mx_count_no {q : Nat → Bool} : ∀ {n : Nat}, (∀ k, k < n → q k = false) → mx_count q n = 0
  | 0, _ => rfl
  | n + 1, h => by rw [mx_count_out (by rw [h n (by omega)]; decide), mx_count_no (n := n) (fun k hk => h k (by omega))]
theorem ruv_eq {T : Nat → Int32} {x how : Int32} (n : Nat) : nI (mx_count (ruv T x how) n) = if sp_in x 8 = true then nI (mx_count (ruq T x.toNatClampNeg how) n) else 0 := by
  cases h : sp_in x 8 with
  | true =>
    rw [if_pos rfl, mx_count_congr (q' := ruq T x.toNatClampNeg how) (fun k _ => by unfold ruv ruq rvl; rw [if_pos h])]
  | false =>
    rw [if_neg (by decide), mx_count_no (fun k _ => by
      have e : rvl T x k = 0 := if_neg (by rw [h]; decide)
      unfold ruv sp_runs
      rw [e]
      split
      · decide
      · split <;> decide)]
    exact nI_0
theorem ru_1 {x y : Int32} (h : y = 1) (h2 : x ≤ 0) : sp_runs x y = false := by unfold sp_runs; rw [if_pos h]; exact decide_eq_false (by rw [Int32.not_lt]; exact h2)
theorem ru_2 {x y : Int32} (h : y = 1) (h2 : ¬ x ≤ 0) : sp_runs x y = true := by unfold sp_runs; rw [if_pos h]; exact decide_eq_true (by rw [← Int32.not_le]; exact h2)
theorem ru_3 {x y : Int32} (h : ¬ y = 1) (h1 : y = -1) (h2 : 0 ≤ x) : sp_runs x y = false := by unfold sp_runs; rw [if_neg h, if_pos h1]; exact decide_eq_false (by rw [Int32.not_lt]; exact h2)
theorem ru_4 {x y : Int32} (h : ¬ y = 1) (h1 : y = -1) (h2 : ¬ 0 ≤ x) : sp_runs x y = true := by unfold sp_runs; rw [if_neg h, if_pos h1]; exact decide_eq_true (by rw [← Int32.not_le]; exact h2)
theorem ru_5 {x y : Int32} (h : ¬ y = 1) (h1 : ¬ y = -1) (h2 : x = 0) : sp_runs x y = false := by unfold sp_runs; rw [if_neg h, if_neg h1]; exact decide_eq_false (fun q => q h2)
theorem ru_6 {x y : Int32} (h : ¬ y = 1) (h1 : ¬ y = -1) (h2 : ¬ x = 0) : sp_runs x y = true := by unfold sp_runs; rw [if_neg h, if_neg h1]; exact decide_eq_true h2
theorem cnt_bI (s i : Nat) : nI (mx_cnt s i) + bI (s.testBit i) = nI (mx_cnt s (i + 1)) := by
  cases h : s.testBit i with
  | true => rw [mx_cnt_in h]; exact (nI_succ _).symm
  | false =>
    rw [mx_cnt_out h]
    show nI _ + 0 = _
    exact Int32.add_zero _
theorem shs_1 {sf : Nat → Nat} {j k : Nat} (h : (sf k).testBit j = true) (h0 : shs sf j k = 0 ∨ mx_cnt (sf k) 8 < shs sf j k) : mx_cnt (sf k) 8 = shs sf j (k + 1) := by
  show _ = (if _ then _ else _)
  rw [if_pos h, if_pos h0]
theorem shs_2 {sf : Nat → Nat} {j k : Nat} (h : (sf k).testBit j = true) (h0 : ¬ (shs sf j k = 0 ∨ mx_cnt (sf k) 8 < shs sf j k)) : shs sf j k = shs sf j (k + 1) := by
  show _ = (if _ then _ else _)
  rw [if_pos h, if_neg h0]
end
section
abbrev rmX2_there : Room := { frames := 0, cells := 0, slots := 0, locals := 0 }
theorem iw_X2_there_X2 : ∀ w ∈ wsX20, w ∈ wsX2_there := by decide +kernel
theorem kw_X2_there_33 : Cond.fieldLink RX2 33 "FluxModesModel" "\x72" "I" ∈ wsX2_there := by decide +kernel
theorem kw_X2_there_37 : Cond.fieldLink RX2 37 "FluxModesModel" "m" "I" ∈ wsX2_there := by decide +kernel
set_option maxHeartbeats 4000000 in
set_option maxRecDepth 100000 in
theorem kX2_there (l : Launch) (D : va_G) (g0 p1 b1 q1 t1 a1 l1 v1 M R n : Nat) (x y : Int32) (hM6 : M ≤ 6) (hR8 : R ≤ 8) : gx_Mi l D yX2_there wsX2_there rmX2_there [.ref g0, .int x, .int y] [] [(g0, .inr (2, [.ref p1, .ref b1, .int (nI M), .int (nI R), .int (nI n), .ref q1, .ref t1, .ref a1, .ref l1, .ref v1]))] (S := Unit) (fun r (_ : Unit) => r = bI (sp_in x M && sp_in y R)) (fun (_ : Unit) => [(g0, .inr (2, [.ref p1, .ref b1, .int (nI M), .int (nI R), .int (nI n), .ref q1, .ref t1, .ref a1, .ref l1, .ref v1]))]) := by
  intro sz
  refine gx_start (cc := cX2_there) (maxL := 3) (ret := (some .boolean)) (Qc := fun A => va_Qi (fun r (_ : Unit) => r = bI (sp_in x M && sp_in y R)) (gx_B D [] A (fun (_ : Unit) => [(g0, .inr (2, [.ref p1, .ref b1, .int (nI M), .int (nI R), .int (nI n), .ref q1, .ref t1, .ref a1, .ref l1, .ref v1]))])) A) (by decide) rfl (Nat.le_of_ble_eq_true rfl) ?_ sz
  intro p e s m below meth c A hbody ls hl
  obtain ⟨C0, hr, hlocks, hN, hK, hP, hD, hA⟩ := hbody
  have C0 : CallFix p m c cX2_there 3 s ([.ref g0, .int x, .int y] : List Value).toArray wsX2_there RX2 := C0
  obtain ⟨hx, hb, hml, hown, hts⟩ := id C0
  have hS : va_S A s.heap s.heap [] := va_S.rf
  have hl : lv_has ls 3 [(0, .ref g0), (1, .int x), (2, .int y)] := hl
  refine lv_iload_n hx hb dX2_there_0 rfl (lv_at hl 1 rfl) ?_
  refine lv_if_lt (tgt := 28) hx hb dX2_there_1 (by decide) (fun c_1 => ?_) (fun c_1 => ?_)
  · have hz : (sp_in x M && sp_in y R) = false := by rw [sp_in_lo (n := M) c_1]; rfl
    refine lv_iconst (v := nI 0) hx hb dX2_there_28 (by decide) ?_
    exact gx_retz hx hb hr hlocks false (by decide) () (by rw [hz]; decide) hK (hP.sub [0] rfl) (hD.sub [0] (by decide) rfl) hS dX2_there_29
  · refine lv_iload_n hx hb dX2_there_4 rfl (lv_at hl 1 rfl) ?_
    refine lv_aload_n hx hb dX2_there_5 rfl (lv_at hl 0 rfl) ?_
    refine va_get (D := D) (ci := 2) (v := .int (nI M)) (C := RX2) (T := TX2) (N := 10) hx hb hts iw_X2_there_X2 hown hK hP 0 rfl rfl 2 (by decide) (hts _ kw_X2_there_37) (fun _ h9 => h9) rfl dX2_there_6 ?_
    refine lv_icmp_ge (tgt := 28) hx hb dX2_there_9 (by decide) (fun c_9 => ?_) (fun c_9 => ?_)
    · have hz : (sp_in x M && sp_in y R) = false := by rw [sp_in_hi (n := M) (by omega) c_9]; rfl
      refine lv_iconst (v := nI 0) hx hb dX2_there_28 (by decide) ?_
      exact gx_retz hx hb hr hlocks false (by decide) () (by rw [hz]; decide) hK (hP.sub [0] rfl) (hD.sub [0] (by decide) rfl) hS dX2_there_29
    · refine lv_iload_n hx hb dX2_there_12 rfl (lv_at hl 2 rfl) ?_
      refine lv_if_lt (tgt := 28) hx hb dX2_there_13 (by decide) (fun c_13 => ?_) (fun c_13 => ?_)
      · have hz : (sp_in x M && sp_in y R) = false := by rw [sp_in_lo (n := R) c_13, Bool.and_false]
        refine lv_iconst (v := nI 0) hx hb dX2_there_28 (by decide) ?_
        exact gx_retz hx hb hr hlocks false (by decide) () (by rw [hz]; decide) hK (hP.sub [0] rfl) (hD.sub [0] (by decide) rfl) hS dX2_there_29
      · refine lv_iload_n hx hb dX2_there_16 rfl (lv_at hl 2 rfl) ?_
        refine lv_aload_n hx hb dX2_there_17 rfl (lv_at hl 0 rfl) ?_
        refine va_get (D := D) (ci := 2) (v := .int (nI R)) (C := RX2) (T := TX2) (N := 10) hx hb hts iw_X2_there_X2 hown hK hP 0 rfl rfl 3 (by decide) (hts _ kw_X2_there_33) (fun _ h9 => h9) rfl dX2_there_18 ?_
        refine lv_icmp_ge (tgt := 28) hx hb dX2_there_21 (by decide) (fun c_21 => ?_) (fun c_21 => ?_)
        · have hz : (sp_in x M && sp_in y R) = false := by rw [sp_in_hi (n := R) (by omega) c_21, Bool.and_false]
          refine lv_iconst (v := nI 0) hx hb dX2_there_28 (by decide) ?_
          exact gx_retz hx hb hr hlocks false (by decide) () (by rw [hz]; decide) hK (hP.sub [0] rfl) (hD.sub [0] (by decide) rfl) hS dX2_there_29
        · have hz : (sp_in x M && sp_in y R) = true := by rw [sp_in_ok (n := M) (by omega) c_1 c_9, sp_in_ok (n := R) (by omega) c_13 c_21]; rfl
          refine lv_iconst (v := nI 1) hx hb dX2_there_24 (by decide) ?_
          refine lv_goto (tgt := 29) hx hb dX2_there_25 (by decide) ?_
          exact gx_retz hx hb hr hlocks true (by decide) () (by rw [hz]; decide) hK (hP.sub [0] rfl) (hD.sub [0] (by decide) rfl) hS dX2_there_29
abbrev rmX2_enter : Room := { frames := 1, cells := 0, slots := 0, locals := 22 }
theorem iw_X2_enter_X2 : ∀ w ∈ wsX20, w ∈ wsX2_enter := by decide +kernel
theorem kw_X2_enter_7 : Cond.fieldLink RX2 7 "FluxModesModel" "net" "[I" ∈ wsX2_enter := by decide +kernel
set_option maxHeartbeats 4000000 in
set_option maxRecDepth 100000 in
theorem kX2_enter (l : Launch) (D : va_G) (g0 p1 b1 q1 t1 a1 l1 v1 M R n : Nat) (x y z : Int32) (dE : ClassId) (E : Nat → Int32) (hM6 : M ≤ 6) (hR8 : R ≤ 8) : gx_Mi l D yX2_enter wsX2_enter rmX2_enter [.ref g0, .int x, .int y, .int z] [(dE, .int)] [(g0, .inr (2, [.ref p1, .ref b1, .int (nI M), .int (nI R), .int (nI n), .ref q1, .ref t1, .ref a1, .ref l1, .ref v1])), (p1, .inl (dE, 48, .inl E))] (S := Nat → Int32) (fun r (u : Nat → Int32) => r = bI (enok x y z M R) ∧ u = if enok x y z M R = true then upd E (ixx x y) z else E) (fun (u : Nat → Int32) => [(g0, .inr (2, [.ref p1, .ref b1, .int (nI M), .int (nI R), .int (nI n), .ref q1, .ref t1, .ref a1, .ref l1, .ref v1])), (p1, .inl (dE, 48, .inl u))]) := by
  intro sz
  refine gx_start (cc := cX2_enter) (maxL := 4) (ret := (some .boolean)) (Qc := fun A => va_Qi (fun r (u : Nat → Int32) => r = bI (enok x y z M R) ∧ u = if enok x y z M R = true then upd E (ixx x y) z else E) (gx_B D [(dE, .int)] A (fun (u : Nat → Int32) => [(g0, .inr (2, [.ref p1, .ref b1, .int (nI M), .int (nI R), .int (nI n), .ref q1, .ref t1, .ref a1, .ref l1, .ref v1])), (p1, .inl (dE, 48, .inl u))])) A) (by decide) rfl (Nat.le_of_ble_eq_true rfl) ?_ sz
  intro p e s m below meth c A hbody ls hl
  obtain ⟨C0, hr, hlocks, hN, hK, hP, hD, hA⟩ := hbody
  have C0 : CallFix p m c cX2_enter 4 s ([.ref g0, .int x, .int y, .int z] : List Value).toArray wsX2_enter RX2 := C0
  obtain ⟨hx, hb, hml, hown, hts⟩ := id C0
  have hS : va_S A s.heap s.heap [] := va_S.rf
  have hl : lv_has ls 4 [(0, .ref g0), (1, .int x), (2, .int y), (3, .int z)] := hl
  refine lv_aload_n hx hb dX2_enter_0 rfl (lv_at hl 0 rfl) ?_
  refine lv_iload_n hx hb dX2_enter_1 rfl (lv_at hl 1 rfl) ?_
  refine lv_iload_n hx hb dX2_enter_2 rfl (lv_at hl 2 rfl) ?_
  refine gx_ji (wr := [(p1, .inl (dE, 48, .inl E))]) (gx_rV (As := [.int x, .int y]) (rest := []) C0 (kX2_there l D g0 p1 b1 q1 t1 a1 l1 v1 M R n x y hM6 hR8 _) (cwV 2 hts gX2_enter_X2_there rfl rfl rfl (by decide +kernel) ⟨Nat.le_of_ble_eq_true rfl, Nat.le_of_ble_eq_true rfl⟩) hN hK hP hD [0] [] rfl rfl (by decide) rfl 0 rfl rfl rfl rfl hl.1 rfl (Nat.le_of_ble_eq_true rfl) dX2_enter_3 ⟨Nat.zero_le _, Nat.zero_le _⟩) hP hD hS hA [0] [1] rfl rfl (by decide) (by decide) (fun r u H locs hw hP hD hS => ?_)
  have hw : r = bI (sp_in x M && sp_in y R) := hw
  subst hw
  have hP : va_P D vwCl [(p1, .inl (dE, 48, .inl E)), (g0, .inr (2, [.ref p1, .ref b1, .int (nI M), .int (nI R), .int (nI n), .ref q1, .ref t1, .ref a1, .ref l1, .ref v1]))] H := hP
  have hD : va_D A [(p1, .inl (dE, 48, .inl E)), (g0, .inr (2, [.ref p1, .ref b1, .int (nI M), .int (nI R), .int (nI n), .ref q1, .ref t1, .ref a1, .ref l1, .ref v1]))] := hD
  refine gx_beq (tgt := 21) hx hb dX2_enter_6 (by decide) (fun c_6 => ?_) (fun c_6 => ?_)
  · have hz : enok x y z M R = false := by unfold enok; rw [c_6]; rfl
    refine lv_iconst (v := nI 0) hx hb dX2_enter_21 (by decide) ?_
    exact gx_retz hx hb hr hlocks false (by decide) E (⟨by rw [hz]; decide, by rw [hz]; rfl⟩) hK (hP.sub [1, 0] rfl) (hD.sub [1, 0] (by decide) rfl) hS dX2_enter_22
  · refine lv_iload_n hx hb dX2_enter_9 rfl (lv_at hl 3 rfl) ?_
    refine lv_bipush (v := (-9)) hx hb dX2_enter_10 (by decide) ?_
    refine lv_icmp_lt (tgt := 21) hx hb dX2_enter_12 (by decide) (fun c_12 => ?_) (fun c_12 => ?_)
    · have hz : enok x y z M R = false := by unfold enok; rw [z9_1 c_12, Bool.and_false]
      refine lv_iconst (v := nI 0) hx hb dX2_enter_21 (by decide) ?_
      exact gx_retz hx hb hr hlocks false (by decide) E (⟨by rw [hz]; decide, by rw [hz]; rfl⟩) hK (hP.sub [1, 0] rfl) (hD.sub [1, 0] (by decide) rfl) hS dX2_enter_22
    · refine lv_iload_n hx hb dX2_enter_15 rfl (lv_at hl 3 rfl) ?_
      refine lv_bipush (v := nI 9) hx hb dX2_enter_16 (by decide) ?_
      refine lv_icmp_le (tgt := 23) hx hb dX2_enter_18 (by decide) (fun c_18 => ?_) (fun c_18 => ?_)
      · have hz : enok x y z M R = true := by unfold enok; rw [c_6, z9_t c_12 c_18]; rfl
        obtain ⟨hi1, hi2, hi3⟩ := ix_ok hM6 hR8 c_6
        refine lv_aload_n hx hb dX2_enter_23 rfl (lv_at hl 0 rfl) ?_
        refine va_get (D := D) (ci := 2) (v := .ref p1) (C := RX2) (T := TX2) (N := 10) hx hb hts iw_X2_enter_X2 hown hK hP 1 rfl rfl 0 (by decide) (hts _ kw_X2_enter_7) (fun _ h9 => h9) rfl dX2_enter_24 ?_
        refine lv_bipush (v := nI 8) hx hb dX2_enter_27 (by decide) ?_
        refine lv_iload_n hx hb dX2_enter_29 rfl (lv_at hl 1 rfl) ?_
        refine lv_imul hx hb dX2_enter_30 ?_
        refine lv_iload_n hx hb dX2_enter_31 rfl (lv_at hl 2 rfl) ?_
        refine lv_iadd hx hb dX2_enter_32 ?_
        refine lv_iload_n hx hb dX2_enter_33 rfl (lv_at hl 3 rfl) ?_
        refine gx_iast (q := ixx x y) hx hb hK hP hD hS 0 0 rfl rfl (hi2) (hi3) (by decide) dX2_enter_34 (fun H locs hP hD hS => ?_)
        have hP : va_P D vwCl [(p1, .inl (dE, 48, .inl (upd E (ixx x y) z))), (g0, .inr (2, [.ref p1, .ref b1, .int (nI M), .int (nI R), .int (nI n), .ref q1, .ref t1, .ref a1, .ref l1, .ref v1]))] H := hP
        have hD : va_D A [(p1, .inl (dE, 48, .inl (upd E (ixx x y) z))), (g0, .inr (2, [.ref p1, .ref b1, .int (nI M), .int (nI R), .int (nI n), .ref q1, .ref t1, .ref a1, .ref l1, .ref v1]))] := hD
        refine lv_iconst (v := nI 1) hx hb dX2_enter_35 (by decide) ?_
        exact gx_retz hx hb hr hlocks true (by decide) (upd E (ixx x y) z) (⟨by rw [hz]; decide, by rw [hz]; rfl⟩) hK (hP.sub [1, 0] rfl) (hD.sub [1, 0] (by decide) rfl) hS dX2_enter_36
      · have hz : enok x y z M R = false := by unfold enok; rw [z9_2 c_18, Bool.and_false]
        refine lv_iconst (v := nI 0) hx hb dX2_enter_21 (by decide) ?_
        exact gx_retz hx hb hr hlocks false (by decide) E (⟨by rw [hz]; decide, by rw [hz]; rfl⟩) hK (hP.sub [1, 0] rfl) (hD.sub [1, 0] (by decide) rfl) hS dX2_enter_22
abbrev rmX2_entry : Room := { frames := 1, cells := 0, slots := 0, locals := 22 }
theorem iw_X2_entry_X2 : ∀ w ∈ wsX20, w ∈ wsX2_entry := by decide +kernel
theorem kw_X2_entry_7 : Cond.fieldLink RX2 7 "FluxModesModel" "net" "[I" ∈ wsX2_entry := by decide +kernel
set_option maxHeartbeats 4000000 in
set_option maxRecDepth 100000 in
theorem kX2_entry (l : Launch) (D : va_G) (g0 p1 b1 q1 t1 a1 l1 v1 M R n : Nat) (x y : Int32) (dE : ClassId) (E : Nat → Int32) (hM6 : M ≤ 6) (hR8 : R ≤ 8) : gx_Mi l D yX2_entry wsX2_entry rmX2_entry [.ref g0, .int x, .int y] [(dE, .int)] [(g0, .inr (2, [.ref p1, .ref b1, .int (nI M), .int (nI R), .int (nI n), .ref q1, .ref t1, .ref a1, .ref l1, .ref v1])), (p1, .inl (dE, 48, .inl E))] (S := Unit) (fun r (_ : Unit) => r = if (sp_in x M && sp_in y R) = true then E (ixx x y) else 0) (fun (_ : Unit) => [(g0, .inr (2, [.ref p1, .ref b1, .int (nI M), .int (nI R), .int (nI n), .ref q1, .ref t1, .ref a1, .ref l1, .ref v1])), (p1, .inl (dE, 48, .inl E))]) := by
  intro sz
  refine gx_start (cc := cX2_entry) (maxL := 3) (ret := (some .int)) (Qc := fun A => va_Qi (fun r (_ : Unit) => r = if (sp_in x M && sp_in y R) = true then E (ixx x y) else 0) (gx_B D [(dE, .int)] A (fun (_ : Unit) => [(g0, .inr (2, [.ref p1, .ref b1, .int (nI M), .int (nI R), .int (nI n), .ref q1, .ref t1, .ref a1, .ref l1, .ref v1])), (p1, .inl (dE, 48, .inl E))])) A) (by decide) rfl (Nat.le_of_ble_eq_true rfl) ?_ sz
  intro p e s m below meth c A hbody ls hl
  obtain ⟨C0, hr, hlocks, hN, hK, hP, hD, hA⟩ := hbody
  have C0 : CallFix p m c cX2_entry 3 s ([.ref g0, .int x, .int y] : List Value).toArray wsX2_entry RX2 := C0
  obtain ⟨hx, hb, hml, hown, hts⟩ := id C0
  have hS : va_S A s.heap s.heap [] := va_S.rf
  have hl : lv_has ls 3 [(0, .ref g0), (1, .int x), (2, .int y)] := hl
  refine lv_aload_n hx hb dX2_entry_0 rfl (lv_at hl 0 rfl) ?_
  refine lv_iload_n hx hb dX2_entry_1 rfl (lv_at hl 1 rfl) ?_
  refine lv_iload_n hx hb dX2_entry_2 rfl (lv_at hl 2 rfl) ?_
  refine gx_ji (wr := [(p1, .inl (dE, 48, .inl E))]) (gx_rV (As := [.int x, .int y]) (rest := []) C0 (kX2_there l D g0 p1 b1 q1 t1 a1 l1 v1 M R n x y hM6 hR8 _) (cwV 2 hts gX2_entry_X2_there rfl rfl rfl (by decide +kernel) ⟨Nat.le_of_ble_eq_true rfl, Nat.le_of_ble_eq_true rfl⟩) hN hK hP hD [0] [] rfl rfl (by decide) rfl 0 rfl rfl rfl rfl hl.1 rfl (Nat.le_of_ble_eq_true rfl) dX2_entry_3 ⟨Nat.zero_le _, Nat.zero_le _⟩) hP hD hS hA [0] [1] rfl rfl (by decide) (by decide) (fun r u H locs hw hP hD hS => ?_)
  have hw : r = bI (sp_in x M && sp_in y R) := hw
  subst hw
  have hP : va_P D vwCl [(p1, .inl (dE, 48, .inl E)), (g0, .inr (2, [.ref p1, .ref b1, .int (nI M), .int (nI R), .int (nI n), .ref q1, .ref t1, .ref a1, .ref l1, .ref v1]))] H := hP
  have hD : va_D A [(p1, .inl (dE, 48, .inl E)), (g0, .inr (2, [.ref p1, .ref b1, .int (nI M), .int (nI R), .int (nI n), .ref q1, .ref t1, .ref a1, .ref l1, .ref v1]))] := hD
  refine gx_beq (tgt := 23) hx hb dX2_entry_6 (by decide) (fun c_6 => ?_) (fun c_6 => ?_)
  · refine lv_iconst (v := 0) hx hb dX2_entry_23 (by decide) ?_
    exact gx_reti hx hb hr hlocks () (by rw [c_6]; rfl) hK (hP.sub [1, 0] rfl) (hD.sub [1, 0] (by decide) rfl) hS dX2_entry_24
  · obtain ⟨hi1, hi2, hi3⟩ := ix_ok hM6 hR8 c_6
    refine lv_aload_n hx hb dX2_entry_9 rfl (lv_at hl 0 rfl) ?_
    refine va_get (D := D) (ci := 2) (v := .ref p1) (C := RX2) (T := TX2) (N := 10) hx hb hts iw_X2_entry_X2 hown hK hP 1 rfl rfl 0 (by decide) (hts _ kw_X2_entry_7) (fun _ h9 => h9) rfl dX2_entry_10 ?_
    refine lv_bipush (v := nI 8) hx hb dX2_entry_13 (by decide) ?_
    refine lv_iload_n hx hb dX2_entry_15 rfl (lv_at hl 1 rfl) ?_
    refine lv_imul hx hb dX2_entry_16 ?_
    refine lv_iload_n hx hb dX2_entry_17 rfl (lv_at hl 2 rfl) ?_
    refine lv_iadd hx hb dX2_entry_18 ?_
    refine gx_iald (q := ixx x y) hx hb hK hP 0 0 rfl rfl (hi2) (hi3) (by decide) dX2_entry_19 ?_
    refine lv_goto (tgt := 24) hx hb dX2_entry_20 (by decide) ?_
    exact gx_reti hx hb hr hlocks () (by rw [c_6]; rfl) hK (hP.sub [1, 0] rfl) (hD.sub [1, 0] (by decide) rfl) hS dX2_entry_24
abbrev rmX2_reversible : Room := { frames := 0, cells := 0, slots := 0, locals := 0 }
theorem iw_X2_reversible_X2 : ∀ w ∈ wsX20, w ∈ wsX2_reversible := by decide +kernel
theorem kw_X2_reversible_13 : Cond.fieldLink RX2 13 "FluxModesModel" "both" "[Z" ∈ wsX2_reversible := by decide +kernel
theorem kw_X2_reversible_33 : Cond.fieldLink RX2 33 "FluxModesModel" "\x72" "I" ∈ wsX2_reversible := by decide +kernel
set_option maxHeartbeats 4000000 in
set_option maxRecDepth 100000 in
theorem kX2_reversible (l : Launch) (D : va_G) (g0 p1 b1 q1 t1 a1 l1 v1 M R n : Nat) (x : Int32) (b : Bool) (dB : ClassId) (Bt : Nat → Int32) (hR8 : R ≤ 8) : gx_Mi l D yX2_reversible wsX2_reversible rmX2_reversible [.ref g0, .int x, .int (bI b)] [(dB, .boolean)] [(g0, .inr (2, [.ref p1, .ref b1, .int (nI M), .int (nI R), .int (nI n), .ref q1, .ref t1, .ref a1, .ref l1, .ref v1])), (b1, .inl (dB, 8, .inl Bt))] (S := Nat → Int32) (fun r (u : Nat → Int32) => r = bI (sp_in x R) ∧ u = if sp_in x R = true then upd Bt x.toNatClampNeg (bI b) else Bt) (fun (u : Nat → Int32) => [(g0, .inr (2, [.ref p1, .ref b1, .int (nI M), .int (nI R), .int (nI n), .ref q1, .ref t1, .ref a1, .ref l1, .ref v1])), (b1, .inl (dB, 8, .inl u))]) := by
  intro sz
  refine gx_start (cc := cX2_reversible) (maxL := 3) (ret := (some .boolean)) (Qc := fun A => va_Qi (fun r (u : Nat → Int32) => r = bI (sp_in x R) ∧ u = if sp_in x R = true then upd Bt x.toNatClampNeg (bI b) else Bt) (gx_B D [(dB, .boolean)] A (fun (u : Nat → Int32) => [(g0, .inr (2, [.ref p1, .ref b1, .int (nI M), .int (nI R), .int (nI n), .ref q1, .ref t1, .ref a1, .ref l1, .ref v1])), (b1, .inl (dB, 8, .inl u))])) A) (by decide) rfl (Nat.le_of_ble_eq_true rfl) ?_ sz
  intro p e s m below meth c A hbody ls hl
  obtain ⟨C0, hr, hlocks, hN, hK, hP, hD, hA⟩ := hbody
  have C0 : CallFix p m c cX2_reversible 3 s ([.ref g0, .int x, .int (bI b)] : List Value).toArray wsX2_reversible RX2 := C0
  obtain ⟨hx, hb, hml, hown, hts⟩ := id C0
  have hS : va_S A s.heap s.heap [] := va_S.rf
  have hl : lv_has ls 3 [(0, .ref g0), (1, .int x), (2, .int (bI b))] := hl
  refine lv_iload_n hx hb dX2_reversible_0 rfl (lv_at hl 1 rfl) ?_
  refine lv_if_lt (tgt := 12) hx hb dX2_reversible_1 (by decide) (fun c_1 => ?_) (fun c_1 => ?_)
  · have hz := sp_in_lo (n := R) c_1
    refine lv_iconst (v := nI 0) hx hb dX2_reversible_12 (by decide) ?_
    exact gx_retz hx hb hr hlocks false (by decide) Bt (⟨by rw [hz]; decide, by rw [hz]; rfl⟩) hK (hP.sub [0, 1] rfl) (hD.sub [0, 1] (by decide) rfl) hS dX2_reversible_13
  · refine lv_iload_n hx hb dX2_reversible_4 rfl (lv_at hl 1 rfl) ?_
    refine lv_aload_n hx hb dX2_reversible_5 rfl (lv_at hl 0 rfl) ?_
    refine va_get (D := D) (ci := 2) (v := .int (nI R)) (C := RX2) (T := TX2) (N := 10) hx hb hts iw_X2_reversible_X2 hown hK hP 0 rfl rfl 3 (by decide) (hts _ kw_X2_reversible_33) (fun _ h9 => h9) rfl dX2_reversible_6 ?_
    refine lv_icmp_lt (tgt := 14) hx hb dX2_reversible_9 (by decide) (fun c_9 => ?_) (fun c_9 => ?_)
    · have hz := sp_in_ok' (n := R) (by omega) c_1 c_9
      obtain ⟨hi3, hi1⟩ := sp_in_clamp (by omega) hz
      refine lv_aload_n hx hb dX2_reversible_14 rfl (lv_at hl 0 rfl) ?_
      refine va_get (D := D) (ci := 2) (v := .ref b1) (C := RX2) (T := TX2) (N := 10) hx hb hts iw_X2_reversible_X2 hown hK hP 0 rfl rfl 1 (by decide) (hts _ kw_X2_reversible_13) (fun _ h9 => h9) rfl dX2_reversible_15 ?_
      refine lv_iload_n hx hb dX2_reversible_18 rfl (lv_at hl 1 rfl) ?_
      refine lv_iload_n hx hb dX2_reversible_19 rfl (lv_at hl 2 rfl) ?_
      refine gx_zast (q := x.toNatClampNeg) hx hb hK hP hD hS 1 0 rfl rfl (hi1) (by omega) (by decide) dX2_reversible_20 (fun H locs hP hD hS => ?_)
      have hP : va_P D vwCl [(g0, .inr (2, [.ref p1, .ref b1, .int (nI M), .int (nI R), .int (nI n), .ref q1, .ref t1, .ref a1, .ref l1, .ref v1])), (b1, .inl (dB, 8, .inl (upd Bt x.toNatClampNeg (bI b))))] H := hP
      have hD : va_D A [(g0, .inr (2, [.ref p1, .ref b1, .int (nI M), .int (nI R), .int (nI n), .ref q1, .ref t1, .ref a1, .ref l1, .ref v1])), (b1, .inl (dB, 8, .inl (upd Bt x.toNatClampNeg (bI b))))] := hD
      refine lv_iconst (v := nI 1) hx hb dX2_reversible_21 (by decide) ?_
      exact gx_retz hx hb hr hlocks true (by decide) (upd Bt x.toNatClampNeg (bI b)) (⟨by rw [hz]; decide, by rw [hz]; rfl⟩) hK (hP.sub [0, 1] rfl) (hD.sub [0, 1] (by decide) rfl) hS dX2_reversible_22
    · have hz := sp_in_hi' (n := R) (by omega) c_9
      refine lv_iconst (v := nI 0) hx hb dX2_reversible_12 (by decide) ?_
      exact gx_retz hx hb hr hlocks false (by decide) Bt (⟨by rw [hz]; decide, by rw [hz]; rfl⟩) hK (hP.sub [0, 1] rfl) (hD.sub [0, 1] (by decide) rfl) hS dX2_reversible_13
abbrev rmX2_reversibles : Room := { frames := 0, cells := 0, slots := 0, locals := 0 }
theorem iw_X2_reversibles_X2 : ∀ w ∈ wsX20, w ∈ wsX2_reversibles := by decide +kernel
theorem kw_X2_reversibles_13 : Cond.fieldLink RX2 13 "FluxModesModel" "both" "[Z" ∈ wsX2_reversibles := by decide +kernel
set_option maxHeartbeats 4000000 in
set_option maxRecDepth 100000 in
theorem lpX2_reversibles {p : Program} {l : Launch} {e : Env} {s : State} {m : MethodId} {args : Array Value} {below : List Frame} {meth : Method} {c : Code} {Q : State → Prop} {D : va_G} {A : Nat → Prop} {H0 : Heap} (C0 : CallFix p m c cX2_reversibles 3 s args wsX2_reversibles RX2) (hN : gx_N s) (hA : ∀ q : Nat, H0.size ≤ q → A q) {g0 p1 b1 q1 t1 a1 l1 v1 M R n V : Nat} {dB : ClassId} {Bt : Nat → Int32} (hV : V < 256) (hB : bts Bt V) (hK : va_K D vwCl [(dB, .boolean)] s) (kk : ∀ (H : Heap) (locs : List Loc) (ls : Array Slot), va_P D vwCl [(g0, .inr (2, [.ref p1, .ref b1, .int (nI M), .int (nI R), .int (nI n), .ref q1, .ref t1, .ref a1, .ref l1, .ref v1])), (b1, .inl (dB, 8, .inl Bt))] H → va_D A [(g0, .inr (2, [.ref p1, .ref b1, .int (nI M), .int (nI R), .int (nI n), .ref q1, .ref t1, .ref a1, .ref l1, .ref v1])), (b1, .inl (dB, 8, .inl Bt))] → va_S A H0 H locs → lv_has ls 3 [(0, .ref g0), (1, .int (nI V)), (2, .int (nI 8))] → W p l e rmX2_reversibles s m args below meth c H locs 0 0 Q (F0 m 31 ls [])) : ∀ (n_ : Nat) (j a : Nat) (H : Heap) (locs : List Loc) (ls : Array Slot), (j ≤ 8 ∧ 8 < j + n_) → (a = V % 2 ^ j) → va_P D vwCl [(g0, .inr (2, [.ref p1, .ref b1, .int (nI M), .int (nI R), .int (nI n), .ref q1, .ref t1, .ref a1, .ref l1, .ref v1])), (b1, .inl (dB, 8, .inl Bt))] H → va_D A [(g0, .inr (2, [.ref p1, .ref b1, .int (nI M), .int (nI R), .int (nI n), .ref q1, .ref t1, .ref a1, .ref l1, .ref v1])), (b1, .inl (dB, 8, .inl Bt))] → va_S A H0 H locs → lv_has ls 3 [(0, .ref g0), (1, .int (nI a)), (2, .int (nI j))] → W p l e rmX2_reversibles s m args below meth c H locs 0 0 Q (F0 m 4 ls []) := by
  obtain ⟨hx, hb, hml, hown, hts⟩ := id C0
  intro n_
  induction n_ with
  | zero =>
    intro j a H locs ls hm
    exact absurd hm (by omega)
  | succ n_ ih =>
    intro j a H locs ls hm hI hP hD hS hl
    refine lv_iload_n hx hb dX2_reversibles_4 rfl (lv_at hl 2 rfl) ?_
    refine lv_bipush (v := nI 8) hx hb dX2_reversibles_5 (by decide) ?_
    refine gx_ge (tgt := 31) hx hb dX2_reversibles_7 (by decide) (by omega) (by omega) (fun c_7 => ?_) (fun c_7 => ?_)
    · have hj8 : j = 8 := by omega
      subst hj8
      have hav : a = V := by rw [hI]; exact Nat.mod_eq_of_lt hV
      subst hav
      exact kk _ _ _ (hP.sub [0, 1] rfl) (hD.sub [0, 1] (by decide) rfl) hS (lv_sub hl [0, 1, 2] rfl)
    · refine lv_aload_n hx hb dX2_reversibles_10 rfl (lv_at hl 0 rfl) ?_
      refine va_get (D := D) (ci := 2) (v := .ref b1) (C := RX2) (T := TX2) (N := 10) hx hb hts iw_X2_reversibles_X2 hown hK hP 0 rfl rfl 1 (by decide) (hts _ kw_X2_reversibles_13) (fun _ h9 => h9) rfl dX2_reversibles_11 ?_
      refine lv_iload_n hx hb dX2_reversibles_14 rfl (lv_at hl 2 rfl) ?_
      refine gx_zald (q := j) hx hb hK hP 1 0 rfl rfl (rfl) (by omega) (by decide) dX2_reversibles_15 ?_
      refine gx_i (y := bI (V.testBit j)) (hB j (by omega)) ?_
      refine gx_beq (tgt := 25) hx hb dX2_reversibles_16 (by decide) (fun c_16 => ?_) (fun c_16 => ?_)
      · refine lv_iinc (v := nI (j + 1)) (lv' := [(2, .int (nI (j + 1))), (0, .ref g0), (1, .int (nI a))]) hx hb dX2_reversibles_25 hl (k := 2) rfl ((nI_succ j).symm) (by decide) rfl (fun ls hl => ?_)
        refine lv_goto (tgt := 4) hx hb dX2_reversibles_28 (by decide) ?_
        exact ih (j + 1) a _ _ _ (by omega) (rv_mod_f hV (by omega) c_16 hI) (hP.sub [0, 1] rfl) (hD.sub [0, 1] (by decide) rfl) hS (lv_sub hl [1, 2, 0] rfl)
      · refine lv_iload_n hx hb dX2_reversibles_19 rfl (lv_at hl 1 rfl) ?_
        refine lv_iconst (v := nI 1) hx hb dX2_reversibles_20 (by decide) ?_
        refine lv_iload_n hx hb dX2_reversibles_21 rfl (lv_at hl 2 rfl) ?_
        refine lv_ishl hx hb dX2_reversibles_22 ?_
        refine gx_i (y := nI (2 ^ j)) (nx_shl1 j (by omega)) ?_
        refine lv_iadd hx hb dX2_reversibles_23 ?_
        refine gx_i (y := nI (a + 2 ^ j)) (nI_add _ _) ?_
        refine lv_istore_n (lv' := [(1, .int (nI (a + 2 ^ j))), (0, .ref g0), (2, .int (nI j))]) hx hb dX2_reversibles_24 rfl hl (by decide) rfl (fun ls hl => ?_)
        refine lv_iinc (v := nI (j + 1)) (lv' := [(2, .int (nI (j + 1))), (1, .int (nI (a + 2 ^ j))), (0, .ref g0)]) hx hb dX2_reversibles_25 hl (k := 2) rfl ((nI_succ j).symm) (by decide) rfl (fun ls hl => ?_)
        refine lv_goto (tgt := 4) hx hb dX2_reversibles_28 (by decide) ?_
        exact ih (j + 1) (a + 2 ^ j) _ _ _ (by omega) (rv_mod_t hV (by omega) c_16 hI) (hP.sub [0, 1] rfl) (hD.sub [0, 1] (by decide) rfl) hS (lv_sub hl [2, 1, 0] rfl)
set_option maxHeartbeats 4000000 in
set_option maxRecDepth 100000 in
theorem kX2_reversibles (l : Launch) (D : va_G) (g0 p1 b1 q1 t1 a1 l1 v1 M R n : Nat) (V : Nat) (dB : ClassId) (Bt : Nat → Int32) (hV : V < 256) (hB : bts Bt V) : gx_Mi l D yX2_reversibles wsX2_reversibles rmX2_reversibles [.ref g0] [(dB, .boolean)] [(g0, .inr (2, [.ref p1, .ref b1, .int (nI M), .int (nI R), .int (nI n), .ref q1, .ref t1, .ref a1, .ref l1, .ref v1])), (b1, .inl (dB, 8, .inl Bt))] (S := Unit) (fun r (_ : Unit) => r = nI V) (fun (_ : Unit) => [(g0, .inr (2, [.ref p1, .ref b1, .int (nI M), .int (nI R), .int (nI n), .ref q1, .ref t1, .ref a1, .ref l1, .ref v1])), (b1, .inl (dB, 8, .inl Bt))]) := by
  intro sz
  refine gx_start (cc := cX2_reversibles) (maxL := 3) (ret := (some .int)) (Qc := fun A => va_Qi (fun r (_ : Unit) => r = nI V) (gx_B D [(dB, .boolean)] A (fun (_ : Unit) => [(g0, .inr (2, [.ref p1, .ref b1, .int (nI M), .int (nI R), .int (nI n), .ref q1, .ref t1, .ref a1, .ref l1, .ref v1])), (b1, .inl (dB, 8, .inl Bt))])) A) (by decide) rfl (Nat.le_of_ble_eq_true rfl) ?_ sz
  intro p e s m below meth c A hbody ls hl
  obtain ⟨C0, hr, hlocks, hN, hK, hP, hD, hA⟩ := hbody
  have C0 : CallFix p m c cX2_reversibles 3 s ([.ref g0] : List Value).toArray wsX2_reversibles RX2 := C0
  obtain ⟨hx, hb, hml, hown, hts⟩ := id C0
  have hS : va_S A s.heap s.heap [] := va_S.rf
  have hl : lv_has ls 3 [(0, .ref g0)] := hl
  refine lv_iconst (v := nI 0) hx hb dX2_reversibles_0 (by decide) ?_
  refine lv_istore_n (lv' := [(1, .int (nI 0)), (0, .ref g0)]) hx hb dX2_reversibles_1 rfl hl (by decide) rfl (fun ls hl => ?_)
  refine lv_iconst (v := nI 0) hx hb dX2_reversibles_2 (by decide) ?_
  refine lv_istore_n (lv' := [(2, .int (nI 0)), (1, .int (nI 0)), (0, .ref g0)]) hx hb dX2_reversibles_3 rfl hl (by decide) rfl (fun ls hl => ?_)
  refine lpX2_reversibles (V := V) C0 hN hA hV hB hK (fun H locs ls hP hD hS hl => ?_) 9 0 0 _ _ _ (by omega) (Nat.mod_one V).symm (hP.sub [0, 1] rfl) (hD.sub [0, 1] (by decide) rfl) hS (lv_sub hl [2, 1, 0] rfl)
  refine lv_iload_n hx hb dX2_reversibles_31 rfl (lv_at hl 1 rfl) ?_
  exact gx_reti hx hb hr hlocks () (rfl) hK (hP.sub [0, 1] rfl) (hD.sub [0, 1] (by decide) rfl) hS dX2_reversibles_32
abbrev rmX2_size : Room := { frames := 0, cells := 0, slots := 0, locals := 0 }
theorem iw_X2_size_X2 : ∀ w ∈ wsX20, w ∈ wsX2_size := by decide +kernel
theorem kw_X2_size_7 : Cond.fieldLink RX2 7 "FluxModesModel" "net" "[I" ∈ wsX2_size := by decide +kernel
theorem kw_X2_size_13 : Cond.fieldLink RX2 13 "FluxModesModel" "both" "[Z" ∈ wsX2_size := by decide +kernel
theorem kw_X2_size_33 : Cond.fieldLink RX2 33 "FluxModesModel" "\x72" "I" ∈ wsX2_size := by decide +kernel
theorem kw_X2_size_37 : Cond.fieldLink RX2 37 "FluxModesModel" "m" "I" ∈ wsX2_size := by decide +kernel
theorem kw_X2_size_40 : Cond.fieldLink RX2 40 "FluxModesModel" "listed" "I" ∈ wsX2_size := by decide +kernel
set_option maxHeartbeats 4000000 in
set_option maxRecDepth 100000 in
theorem lpX2_size1 {p : Program} {l : Launch} {e : Env} {s : State} {m : MethodId} {args : Array Value} {below : List Frame} {meth : Method} {c : Code} {Q : State → Prop} {D : va_G} {A : Nat → Prop} {H0 : Heap} (C0 : CallFix p m c cX2_size 4 s args wsX2_size RX2) (hN : gx_N s) (hA : ∀ q : Nat, H0.size ≤ q → A q) {g0 p1 b1 q1 t1 a1 l1 v1 a b n : Nat} {dE dB : ClassId} {Bt : Nat → Int32}  (hK : va_K D vwCl [(dE, .int), (dB, .boolean)] s) (kk : ∀ (E : Nat → Int32) (H : Heap) (locs : List Loc) (ls : Array Slot), (∀ q, q < 48 → E q = nI 0) → va_P D vwCl [(g0, .inr (2, [.ref p1, .ref b1, .int (nI a), .int (nI b), .int (nI n), .ref q1, .ref t1, .ref a1, .ref l1, .ref v1])), (p1, .inl (dE, 48, .inl E)), (b1, .inl (dB, 8, .inl Bt))] H → va_D A [(g0, .inr (2, [.ref p1, .ref b1, .int (nI a), .int (nI b), .int (nI n), .ref q1, .ref t1, .ref a1, .ref l1, .ref v1])), (p1, .inl (dE, 48, .inl E)), (b1, .inl (dB, 8, .inl Bt))] → va_S A H0 H locs → lv_has ls 4 [(0, .ref g0), (1, .int (nI a)), (2, .int (nI b)), (3, .int (nI 48))] → W p l e rmX2_size s m args below meth c H locs 0 0 Q (F0 m 54 ls [])) : ∀ (n_ : Nat) (i : Nat) (E : Nat → Int32) (H : Heap) (locs : List Loc) (ls : Array Slot), (i ≤ 48 ∧ 48 < i + n_) → (∀ q, q < i → E q = nI 0) → va_P D vwCl [(g0, .inr (2, [.ref p1, .ref b1, .int (nI a), .int (nI b), .int (nI n), .ref q1, .ref t1, .ref a1, .ref l1, .ref v1])), (p1, .inl (dE, 48, .inl E)), (b1, .inl (dB, 8, .inl Bt))] H → va_D A [(g0, .inr (2, [.ref p1, .ref b1, .int (nI a), .int (nI b), .int (nI n), .ref q1, .ref t1, .ref a1, .ref l1, .ref v1])), (p1, .inl (dE, 48, .inl E)), (b1, .inl (dB, 8, .inl Bt))] → va_S A H0 H locs → lv_has ls 4 [(0, .ref g0), (1, .int (nI a)), (2, .int (nI b)), (3, .int (nI i))] → W p l e rmX2_size s m args below meth c H locs 0 0 Q (F0 m 35 ls []) := by
  obtain ⟨hx, hb, hml, hown, hts⟩ := id C0
  intro n_
  induction n_ with
  | zero =>
    intro i E H locs ls hm
    exact absurd hm (by omega)
  | succ n_ ih =>
    intro i E H locs ls hm hI hP hD hS hl
    refine lv_iload_n hx hb dX2_size_35 rfl (lv_at hl 3 rfl) ?_
    refine lv_bipush (v := nI 48) hx hb dX2_size_36 (by decide) ?_
    refine gx_ge (tgt := 54) hx hb dX2_size_38 (by decide) (by omega) (by omega) (fun c_38 => ?_) (fun c_38 => ?_)
    · have hi8 : i = 48 := by omega
      subst hi8
      exact kk _ _ _ _ hI (hP.sub [0, 1, 2] rfl) (hD.sub [0, 1, 2] (by decide) rfl) hS (lv_sub hl [0, 1, 2, 3] rfl)
    · refine lv_aload_n hx hb dX2_size_41 rfl (lv_at hl 0 rfl) ?_
      refine va_get (D := D) (ci := 2) (v := .ref p1) (C := RX2) (T := TX2) (N := 10) hx hb hts iw_X2_size_X2 hown hK hP 0 rfl rfl 0 (by decide) (hts _ kw_X2_size_7) (fun _ h9 => h9) rfl dX2_size_42 ?_
      refine lv_iload_n hx hb dX2_size_45 rfl (lv_at hl 3 rfl) ?_
      refine lv_iconst (v := nI 0) hx hb dX2_size_46 (by decide) ?_
      refine gx_iast (q := i) hx hb hK hP hD hS 1 0 rfl rfl (rfl) (by omega) (by decide) dX2_size_47 (fun H locs hP hD hS => ?_)
      have hP : va_P D vwCl [(g0, .inr (2, [.ref p1, .ref b1, .int (nI a), .int (nI b), .int (nI n), .ref q1, .ref t1, .ref a1, .ref l1, .ref v1])), (p1, .inl (dE, 48, .inl (upd E i (nI 0)))), (b1, .inl (dB, 8, .inl Bt))] H := hP
      have hD : va_D A [(g0, .inr (2, [.ref p1, .ref b1, .int (nI a), .int (nI b), .int (nI n), .ref q1, .ref t1, .ref a1, .ref l1, .ref v1])), (p1, .inl (dE, 48, .inl (upd E i (nI 0)))), (b1, .inl (dB, 8, .inl Bt))] := hD
      refine lv_iinc (v := nI (i + 1)) (lv' := [(3, .int (nI (i + 1))), (0, .ref g0), (1, .int (nI a)), (2, .int (nI b))]) hx hb dX2_size_48 hl (k := 3) rfl ((nI_succ i).symm) (by decide) rfl (fun ls hl => ?_)
      refine lv_goto (tgt := 35) hx hb dX2_size_51 (by decide) ?_
      exact ih (i + 1) _ _ _ _ (by omega) (fz_s hI) (hP.sub [0, 1, 2] rfl) (hD.sub [0, 1, 2] (by decide) rfl) hS (lv_sub hl [1, 2, 3, 0] rfl)
set_option maxHeartbeats 4000000 in
set_option maxRecDepth 100000 in
theorem lpX2_size2 {p : Program} {l : Launch} {e : Env} {s : State} {m : MethodId} {args : Array Value} {below : List Frame} {meth : Method} {c : Code} {Q : State → Prop} {D : va_G} {A : Nat → Prop} {H0 : Heap} (C0 : CallFix p m c cX2_size 4 s args wsX2_size RX2) (hN : gx_N s) (hA : ∀ q : Nat, H0.size ≤ q → A q) {g0 p1 b1 q1 t1 a1 l1 v1 a b n : Nat} {dE dB : ClassId} {E : Nat → Int32}  (hK : va_K D vwCl [(dE, .int), (dB, .boolean)] s) (kk : ∀ (Bt : Nat → Int32) (H : Heap) (locs : List Loc) (ls : Array Slot), (∀ q, q < 8 → Bt q = bI false) → va_P D vwCl [(g0, .inr (2, [.ref p1, .ref b1, .int (nI a), .int (nI b), .int (nI n), .ref q1, .ref t1, .ref a1, .ref l1, .ref v1])), (p1, .inl (dE, 48, .inl E)), (b1, .inl (dB, 8, .inl Bt))] H → va_D A [(g0, .inr (2, [.ref p1, .ref b1, .int (nI a), .int (nI b), .int (nI n), .ref q1, .ref t1, .ref a1, .ref l1, .ref v1])), (p1, .inl (dE, 48, .inl E)), (b1, .inl (dB, 8, .inl Bt))] → va_S A H0 H locs → lv_has ls 4 [(0, .ref g0), (1, .int (nI a)), (2, .int (nI b)), (3, .int (nI 8))] → W p l e rmX2_size s m args below meth c H locs 0 0 Q (F0 m 75 ls [])) : ∀ (n_ : Nat) (i : Nat) (Bt : Nat → Int32) (H : Heap) (locs : List Loc) (ls : Array Slot), (i ≤ 8 ∧ 8 < i + n_) → (∀ q, q < i → Bt q = bI false) → va_P D vwCl [(g0, .inr (2, [.ref p1, .ref b1, .int (nI a), .int (nI b), .int (nI n), .ref q1, .ref t1, .ref a1, .ref l1, .ref v1])), (p1, .inl (dE, 48, .inl E)), (b1, .inl (dB, 8, .inl Bt))] H → va_D A [(g0, .inr (2, [.ref p1, .ref b1, .int (nI a), .int (nI b), .int (nI n), .ref q1, .ref t1, .ref a1, .ref l1, .ref v1])), (p1, .inl (dE, 48, .inl E)), (b1, .inl (dB, 8, .inl Bt))] → va_S A H0 H locs → lv_has ls 4 [(0, .ref g0), (1, .int (nI a)), (2, .int (nI b)), (3, .int (nI i))] → W p l e rmX2_size s m args below meth c H locs 0 0 Q (F0 m 56 ls []) := by
  obtain ⟨hx, hb, hml, hown, hts⟩ := id C0
  intro n_
  induction n_ with
  | zero =>
    intro i Bt H locs ls hm
    exact absurd hm (by omega)
  | succ n_ ih =>
    intro i Bt H locs ls hm hI hP hD hS hl
    refine lv_iload_n hx hb dX2_size_56 rfl (lv_at hl 3 rfl) ?_
    refine lv_bipush (v := nI 8) hx hb dX2_size_57 (by decide) ?_
    refine gx_ge (tgt := 75) hx hb dX2_size_59 (by decide) (by omega) (by omega) (fun c_59 => ?_) (fun c_59 => ?_)
    · have hi8 : i = 8 := by omega
      subst hi8
      exact kk _ _ _ _ hI (hP.sub [0, 1, 2] rfl) (hD.sub [0, 1, 2] (by decide) rfl) hS (lv_sub hl [0, 1, 2, 3] rfl)
    · refine lv_aload_n hx hb dX2_size_62 rfl (lv_at hl 0 rfl) ?_
      refine va_get (D := D) (ci := 2) (v := .ref b1) (C := RX2) (T := TX2) (N := 10) hx hb hts iw_X2_size_X2 hown hK hP 0 rfl rfl 1 (by decide) (hts _ kw_X2_size_13) (fun _ h9 => h9) rfl dX2_size_63 ?_
      refine lv_iload_n hx hb dX2_size_66 rfl (lv_at hl 3 rfl) ?_
      refine lv_iconst (v := bI false) hx hb dX2_size_67 (by decide) ?_
      refine gx_zast (q := i) hx hb hK hP hD hS 2 1 rfl rfl (rfl) (by omega) (by decide) dX2_size_68 (fun H locs hP hD hS => ?_)
      have hP : va_P D vwCl [(g0, .inr (2, [.ref p1, .ref b1, .int (nI a), .int (nI b), .int (nI n), .ref q1, .ref t1, .ref a1, .ref l1, .ref v1])), (p1, .inl (dE, 48, .inl E)), (b1, .inl (dB, 8, .inl (upd Bt i (bI false))))] H := hP
      have hD : va_D A [(g0, .inr (2, [.ref p1, .ref b1, .int (nI a), .int (nI b), .int (nI n), .ref q1, .ref t1, .ref a1, .ref l1, .ref v1])), (p1, .inl (dE, 48, .inl E)), (b1, .inl (dB, 8, .inl (upd Bt i (bI false))))] := hD
      refine lv_iinc (v := nI (i + 1)) (lv' := [(3, .int (nI (i + 1))), (0, .ref g0), (1, .int (nI a)), (2, .int (nI b))]) hx hb dX2_size_69 hl (k := 3) rfl ((nI_succ i).symm) (by decide) rfl (fun ls hl => ?_)
      refine lv_goto (tgt := 56) hx hb dX2_size_72 (by decide) ?_
      exact ih (i + 1) _ _ _ _ (by omega) (fz_s hI) (hP.sub [0, 1, 2] rfl) (hD.sub [0, 1, 2] (by decide) rfl) hS (lv_sub hl [1, 2, 3, 0] rfl)
set_option maxHeartbeats 4000000 in
set_option maxRecDepth 100000 in
theorem kX2_size (l : Launch) (D : va_G) (g0 p1 b1 q1 t1 a1 l1 v1 M R n : Nat) (x y : Int32) (dE dB : ClassId) (E Bt : Nat → Int32)  : gx_Mi l D yX2_size wsX2_size rmX2_size [.ref g0, .int x, .int y] [(dE, .int), (dB, .boolean)] [(g0, .inr (2, [.ref p1, .ref b1, .int (nI M), .int (nI R), .int (nI n), .ref q1, .ref t1, .ref a1, .ref l1, .ref v1])), (p1, .inl (dE, 48, .inl E)), (b1, .inl (dB, 8, .inl Bt))] (S := Nat × Nat × Nat × (Nat → Int32) × (Nat → Int32)) (fun r (u : Nat × Nat × Nat × (Nat → Int32) × (Nat → Int32)) => r = bI (szok x y) ∧ (szok x y = true → x = nI u.1 ∧ y = nI u.2.1 ∧ u.1 ≤ 6 ∧ 1 ≤ u.2.1 ∧ u.2.1 ≤ 8 ∧ u.2.2.1 = 0 ∧ (∀ q, q < 48 → u.2.2.2.1 q = nI 0) ∧ ∀ q, q < 8 → u.2.2.2.2 q = bI false) ∧ (szok x y = false → u.1 = M ∧ u.2.1 = R ∧ u.2.2.1 = n ∧ u.2.2.2.1 = E ∧ u.2.2.2.2 = Bt)) (fun (u : Nat × Nat × Nat × (Nat → Int32) × (Nat → Int32)) => [(g0, .inr (2, [.ref p1, .ref b1, .int (nI (u.1)), .int (nI (u.2.1)), .int (nI (u.2.2.1)), .ref q1, .ref t1, .ref a1, .ref l1, .ref v1])), (p1, .inl (dE, 48, .inl u.2.2.2.1)), (b1, .inl (dB, 8, .inl u.2.2.2.2))]) := by
  intro sz
  refine gx_start (cc := cX2_size) (maxL := 4) (ret := (some .boolean)) (Qc := fun A => va_Qi (fun r (u : Nat × Nat × Nat × (Nat → Int32) × (Nat → Int32)) => r = bI (szok x y) ∧ (szok x y = true → x = nI u.1 ∧ y = nI u.2.1 ∧ u.1 ≤ 6 ∧ 1 ≤ u.2.1 ∧ u.2.1 ≤ 8 ∧ u.2.2.1 = 0 ∧ (∀ q, q < 48 → u.2.2.2.1 q = nI 0) ∧ ∀ q, q < 8 → u.2.2.2.2 q = bI false) ∧ (szok x y = false → u.1 = M ∧ u.2.1 = R ∧ u.2.2.1 = n ∧ u.2.2.2.1 = E ∧ u.2.2.2.2 = Bt)) (gx_B D [(dE, .int), (dB, .boolean)] A (fun (u : Nat × Nat × Nat × (Nat → Int32) × (Nat → Int32)) => [(g0, .inr (2, [.ref p1, .ref b1, .int (nI (u.1)), .int (nI (u.2.1)), .int (nI (u.2.2.1)), .ref q1, .ref t1, .ref a1, .ref l1, .ref v1])), (p1, .inl (dE, 48, .inl u.2.2.2.1)), (b1, .inl (dB, 8, .inl u.2.2.2.2))])) A) (by decide) rfl (Nat.le_of_ble_eq_true rfl) ?_ sz
  intro p e s m below meth c A hbody ls hl
  obtain ⟨C0, hr, hlocks, hN, hK, hP, hD, hA⟩ := hbody
  have C0 : CallFix p m c cX2_size 4 s ([.ref g0, .int x, .int y] : List Value).toArray wsX2_size RX2 := C0
  obtain ⟨hx, hb, hml, hown, hts⟩ := id C0
  have hS : va_S A s.heap s.heap [] := va_S.rf
  have hl : lv_has ls 4 [(0, .ref g0), (1, .int x), (2, .int y)] := hl
  refine lv_iload_n hx hb dX2_size_0 rfl (lv_at hl 1 rfl) ?_
  refine lv_if_lt (tgt := 21) hx hb dX2_size_1 (by decide) (fun c_1 => ?_) (fun c_1 => ?_)
  · have hz : szok x y = false := sz_1 c_1
    refine lv_iconst (v := nI 0) hx hb dX2_size_21 (by decide) ?_
    exact gx_retz hx hb hr hlocks false (by decide) (M, R, n, E, Bt) (⟨by rw [hz]; decide, fun h => absurd (h.symm.trans hz) (by decide), fun _ => ⟨rfl, rfl, rfl, rfl, rfl⟩⟩) hK (hP.sub [0, 1, 2] rfl) (hD.sub [0, 1, 2] (by decide) rfl) hS dX2_size_22
  · refine lv_iload_n hx hb dX2_size_4 rfl (lv_at hl 1 rfl) ?_
    refine lv_bipush (v := nI 6) hx hb dX2_size_5 (by decide) ?_
    refine lv_icmp_gt (tgt := 21) hx hb dX2_size_7 (by decide) (fun c_7 => ?_) (fun c_7 => ?_)
    · have hz : szok x y = false := sz_2 c_7
      refine lv_iconst (v := nI 0) hx hb dX2_size_21 (by decide) ?_
      exact gx_retz hx hb hr hlocks false (by decide) (M, R, n, E, Bt) (⟨by rw [hz]; decide, fun h => absurd (h.symm.trans hz) (by decide), fun _ => ⟨rfl, rfl, rfl, rfl, rfl⟩⟩) hK (hP.sub [0, 1, 2] rfl) (hD.sub [0, 1, 2] (by decide) rfl) hS dX2_size_22
    · refine lv_iload_n hx hb dX2_size_10 rfl (lv_at hl 2 rfl) ?_
      refine lv_iconst (v := nI 1) hx hb dX2_size_11 (by decide) ?_
      refine lv_icmp_lt (tgt := 21) hx hb dX2_size_12 (by decide) (fun c_12 => ?_) (fun c_12 => ?_)
      · have hz : szok x y = false := sz_3 c_12
        refine lv_iconst (v := nI 0) hx hb dX2_size_21 (by decide) ?_
        exact gx_retz hx hb hr hlocks false (by decide) (M, R, n, E, Bt) (⟨by rw [hz]; decide, fun h => absurd (h.symm.trans hz) (by decide), fun _ => ⟨rfl, rfl, rfl, rfl, rfl⟩⟩) hK (hP.sub [0, 1, 2] rfl) (hD.sub [0, 1, 2] (by decide) rfl) hS dX2_size_22
      · refine lv_iload_n hx hb dX2_size_15 rfl (lv_at hl 2 rfl) ?_
        refine lv_bipush (v := nI 8) hx hb dX2_size_16 (by decide) ?_
        refine lv_icmp_le (tgt := 23) hx hb dX2_size_18 (by decide) (fun c_18 => ?_) (fun c_18 => ?_)
        · have hz : szok x y = true := sz_t c_1 c_7 c_12 c_18
          obtain ⟨a, b, ha6, hb1, hb8, rfl, rfl⟩ := sz_of hz
          refine lv_aload_n hx hb dX2_size_23 rfl (lv_at hl 0 rfl) ?_
          refine lv_iload_n hx hb dX2_size_24 rfl (lv_at hl 1 rfl) ?_
          refine va_put (D := D) (ci := 2) (v := .int (nI a)) (ty := .int) (C := RX2) (T := TX2) (N := 10) hx hb hts iw_X2_size_X2 tyX2 tyX2_ok nmX2 hown hK hP hD hS 0 rfl rfl 2 (by decide) (hts _ kw_X2_size_37) (fun _ h9 => h9) rfl (by decide +kernel) rfl rfl (Nat.le_of_ble_eq_true rfl) dX2_size_25 (fun H locs hP hD hS => ?_)
          have hP : va_P D vwCl [(g0, .inr (2, [.ref p1, .ref b1, .int (nI a), .int (nI R), .int (nI n), .ref q1, .ref t1, .ref a1, .ref l1, .ref v1])), (p1, .inl (dE, 48, .inl E)), (b1, .inl (dB, 8, .inl Bt))] H := hP
          have hD : va_D A [(g0, .inr (2, [.ref p1, .ref b1, .int (nI a), .int (nI R), .int (nI n), .ref q1, .ref t1, .ref a1, .ref l1, .ref v1])), (p1, .inl (dE, 48, .inl E)), (b1, .inl (dB, 8, .inl Bt))] := hD
          refine lv_aload_n hx hb dX2_size_28 rfl (lv_at hl 0 rfl) ?_
          refine lv_iload_n hx hb dX2_size_29 rfl (lv_at hl 2 rfl) ?_
          refine va_put (D := D) (ci := 2) (v := .int (nI b)) (ty := .int) (C := RX2) (T := TX2) (N := 10) hx hb hts iw_X2_size_X2 tyX2 tyX2_ok nmX2 hown hK hP hD hS 0 rfl rfl 3 (by decide) (hts _ kw_X2_size_33) (fun _ h9 => h9) rfl (by decide +kernel) rfl rfl (Nat.le_of_ble_eq_true rfl) dX2_size_30 (fun H locs hP hD hS => ?_)
          have hP : va_P D vwCl [(g0, .inr (2, [.ref p1, .ref b1, .int (nI a), .int (nI b), .int (nI n), .ref q1, .ref t1, .ref a1, .ref l1, .ref v1])), (p1, .inl (dE, 48, .inl E)), (b1, .inl (dB, 8, .inl Bt))] H := hP
          have hD : va_D A [(g0, .inr (2, [.ref p1, .ref b1, .int (nI a), .int (nI b), .int (nI n), .ref q1, .ref t1, .ref a1, .ref l1, .ref v1])), (p1, .inl (dE, 48, .inl E)), (b1, .inl (dB, 8, .inl Bt))] := hD
          refine lv_iconst (v := nI 0) hx hb dX2_size_33 (by decide) ?_
          refine lv_istore_n (lv' := [(3, .int (nI 0)), (0, .ref g0), (1, .int (nI a)), (2, .int (nI b))]) hx hb dX2_size_34 rfl hl (by decide) rfl (fun ls hl => ?_)
          refine lpX2_size1 C0 hN hA hK (fun E1 H locs ls hI1 hP hD hS hl => ?_) 49 0 E _ _ _ (by omega) (fun q h => absurd h (Nat.not_lt_zero q)) (hP.sub [0, 1, 2] rfl) (hD.sub [0, 1, 2] (by decide) rfl) hS (lv_sub hl [1, 2, 3, 0] rfl)
          refine lv_iconst (v := nI 0) hx hb dX2_size_54 (by decide) ?_
          refine lv_istore_n (lv' := [(3, .int (nI 0)), (0, .ref g0), (1, .int (nI a)), (2, .int (nI b))]) hx hb dX2_size_55 rfl hl (by decide) rfl (fun ls hl => ?_)
          refine lpX2_size2 C0 hN hA hK (fun B1 H locs ls hI2 hP hD hS hl => ?_) 9 0 Bt _ _ _ (by omega) (fun q h => absurd h (Nat.not_lt_zero q)) (hP.sub [0, 1, 2] rfl) (hD.sub [0, 1, 2] (by decide) rfl) hS (lv_sub hl [1, 2, 3, 0] rfl)
          refine lv_aload_n hx hb dX2_size_75 rfl (lv_at hl 0 rfl) ?_
          refine lv_iconst (v := nI 0) hx hb dX2_size_76 (by decide) ?_
          refine va_put (D := D) (ci := 2) (v := .int (nI 0)) (ty := .int) (C := RX2) (T := TX2) (N := 10) hx hb hts iw_X2_size_X2 tyX2 tyX2_ok nmX2 hown hK hP hD hS 0 rfl rfl 4 (by decide) (hts _ kw_X2_size_40) (fun _ h9 => h9) rfl (by decide +kernel) rfl rfl (Nat.le_of_ble_eq_true rfl) dX2_size_77 (fun H locs hP hD hS => ?_)
          have hP : va_P D vwCl [(g0, .inr (2, [.ref p1, .ref b1, .int (nI a), .int (nI b), .int (nI 0), .ref q1, .ref t1, .ref a1, .ref l1, .ref v1])), (p1, .inl (dE, 48, .inl E1)), (b1, .inl (dB, 8, .inl B1))] H := hP
          have hD : va_D A [(g0, .inr (2, [.ref p1, .ref b1, .int (nI a), .int (nI b), .int (nI 0), .ref q1, .ref t1, .ref a1, .ref l1, .ref v1])), (p1, .inl (dE, 48, .inl E1)), (b1, .inl (dB, 8, .inl B1))] := hD
          refine lv_iconst (v := nI 1) hx hb dX2_size_80 (by decide) ?_
          exact gx_retz hx hb hr hlocks true (by decide) (a, b, 0, E1, B1) (⟨by rw [hz]; decide, (fun _ => ⟨rfl, rfl, ha6, hb1, hb8, rfl, hI1, hI2⟩), fun h => absurd (h.symm.trans hz) (by decide)⟩) hK (hP.sub [0, 1, 2] rfl) (hD.sub [0, 1, 2] (by decide) rfl) hS dX2_size_81
        · have hz : szok x y = false := sz_4 c_18
          refine lv_iconst (v := nI 0) hx hb dX2_size_21 (by decide) ?_
          exact gx_retz hx hb hr hlocks false (by decide) (M, R, n, E, Bt) (⟨by rw [hz]; decide, fun h => absurd (h.symm.trans hz) (by decide), fun _ => ⟨rfl, rfl, rfl, rfl, rfl⟩⟩) hK (hP.sub [0, 1, 2] rfl) (hD.sub [0, 1, 2] (by decide) rfl) hS dX2_size_22
abbrev rmX2_modes : Room := { frames := 0, cells := 0, slots := 0, locals := 0 }
theorem iw_X2_modes_X2 : ∀ w ∈ wsX20, w ∈ wsX2_modes := by decide +kernel
theorem kw_X2_modes_40 : Cond.fieldLink RX2 40 "FluxModesModel" "listed" "I" ∈ wsX2_modes := by decide +kernel
set_option maxHeartbeats 4000000 in
set_option maxRecDepth 100000 in
theorem kX2_modes (l : Launch) (D : va_G) (g0 p1 b1 q1 t1 a1 l1 v1 M R n : Nat)  : gx_Mi l D yX2_modes wsX2_modes rmX2_modes [.ref g0] [] [(g0, .inr (2, [.ref p1, .ref b1, .int (nI M), .int (nI R), .int (nI n), .ref q1, .ref t1, .ref a1, .ref l1, .ref v1]))] (S := Unit) (fun r (_ : Unit) => r = nI n) (fun (_ : Unit) => [(g0, .inr (2, [.ref p1, .ref b1, .int (nI M), .int (nI R), .int (nI n), .ref q1, .ref t1, .ref a1, .ref l1, .ref v1]))]) := by
  intro sz
  refine gx_start (cc := cX2_modes) (maxL := 1) (ret := (some .int)) (Qc := fun A => va_Qi (fun r (_ : Unit) => r = nI n) (gx_B D [] A (fun (_ : Unit) => [(g0, .inr (2, [.ref p1, .ref b1, .int (nI M), .int (nI R), .int (nI n), .ref q1, .ref t1, .ref a1, .ref l1, .ref v1]))])) A) (by decide) rfl (Nat.le_of_ble_eq_true rfl) ?_ sz
  intro p e s m below meth c A hbody ls hl
  obtain ⟨C0, hr, hlocks, hN, hK, hP, hD, hA⟩ := hbody
  have C0 : CallFix p m c cX2_modes 1 s ([.ref g0] : List Value).toArray wsX2_modes RX2 := C0
  obtain ⟨hx, hb, hml, hown, hts⟩ := id C0
  have hS : va_S A s.heap s.heap [] := va_S.rf
  have hl : lv_has ls 1 [(0, .ref g0)] := hl
  refine lv_aload_n hx hb dX2_modes_0 rfl (lv_at hl 0 rfl) ?_
  refine va_get (D := D) (ci := 2) (v := .int (nI n)) (C := RX2) (T := TX2) (N := 10) hx hb hts iw_X2_modes_X2 hown hK hP 0 rfl rfl 4 (by decide) (hts _ kw_X2_modes_40) (fun _ h9 => h9) rfl dX2_modes_1 ?_
  exact gx_reti hx hb hr hlocks () (rfl) hK (hP.sub [0] rfl) (hD.sub [0] (by decide) rfl) hS dX2_modes_4
abbrev rmX2_support : Room := { frames := 0, cells := 0, slots := 0, locals := 0 }
theorem iw_X2_support_X2 : ∀ w ∈ wsX20, w ∈ wsX2_support := by decide +kernel
theorem kw_X2_support_17 : Cond.fieldLink RX2 17 "FluxModesModel" "supports" "[I" ∈ wsX2_support := by decide +kernel
theorem kw_X2_support_40 : Cond.fieldLink RX2 40 "FluxModesModel" "listed" "I" ∈ wsX2_support := by decide +kernel
set_option maxHeartbeats 4000000 in
set_option maxRecDepth 100000 in
theorem kX2_support (l : Launch) (D : va_G) (g0 p1 b1 q1 t1 a1 l1 v1 M R n : Nat) (x : Int32) (dS : ClassId) (U : Nat → Int32) (hn : n ≤ 70) : gx_Mi l D yX2_support wsX2_support rmX2_support [.ref g0, .int x] [(dS, .int)] [(g0, .inr (2, [.ref p1, .ref b1, .int (nI M), .int (nI R), .int (nI n), .ref q1, .ref t1, .ref a1, .ref l1, .ref v1])), (q1, .inl (dS, 70, .inl U))] (S := Unit) (fun r (_ : Unit) => r = if sp_in x n = true then U x.toNatClampNeg else 0) (fun (_ : Unit) => [(g0, .inr (2, [.ref p1, .ref b1, .int (nI M), .int (nI R), .int (nI n), .ref q1, .ref t1, .ref a1, .ref l1, .ref v1])), (q1, .inl (dS, 70, .inl U))]) := by
  intro sz
  refine gx_start (cc := cX2_support) (maxL := 2) (ret := (some .int)) (Qc := fun A => va_Qi (fun r (_ : Unit) => r = if sp_in x n = true then U x.toNatClampNeg else 0) (gx_B D [(dS, .int)] A (fun (_ : Unit) => [(g0, .inr (2, [.ref p1, .ref b1, .int (nI M), .int (nI R), .int (nI n), .ref q1, .ref t1, .ref a1, .ref l1, .ref v1])), (q1, .inl (dS, 70, .inl U))])) A) (by decide) rfl (Nat.le_of_ble_eq_true rfl) ?_ sz
  intro p e s m below meth c A hbody ls hl
  obtain ⟨C0, hr, hlocks, hN, hK, hP, hD, hA⟩ := hbody
  have C0 : CallFix p m c cX2_support 2 s ([.ref g0, .int x] : List Value).toArray wsX2_support RX2 := C0
  obtain ⟨hx, hb, hml, hown, hts⟩ := id C0
  have hS : va_S A s.heap s.heap [] := va_S.rf
  have hl : lv_has ls 2 [(0, .ref g0), (1, .int x)] := hl
  refine lv_iload_n hx hb dX2_support_0 rfl (lv_at hl 1 rfl) ?_
  refine lv_if_lt (tgt := 21) hx hb dX2_support_1 (by decide) (fun c_1 => ?_) (fun c_1 => ?_)
  · have hz := sp_in_lo (n := n) c_1
    refine lv_iconst (v := 0) hx hb dX2_support_21 (by decide) ?_
    exact gx_reti hx hb hr hlocks () (by rw [hz]; rfl) hK (hP.sub [0, 1] rfl) (hD.sub [0, 1] (by decide) rfl) hS dX2_support_22
  · refine lv_iload_n hx hb dX2_support_4 rfl (lv_at hl 1 rfl) ?_
    refine lv_aload_n hx hb dX2_support_5 rfl (lv_at hl 0 rfl) ?_
    refine va_get (D := D) (ci := 2) (v := .int (nI n)) (C := RX2) (T := TX2) (N := 10) hx hb hts iw_X2_support_X2 hown hK hP 0 rfl rfl 4 (by decide) (hts _ kw_X2_support_40) (fun _ h9 => h9) rfl dX2_support_6 ?_
    refine lv_icmp_ge (tgt := 21) hx hb dX2_support_9 (by decide) (fun c_9 => ?_) (fun c_9 => ?_)
    · have hz := sp_in_hi (n := n) (by omega) c_9
      refine lv_iconst (v := 0) hx hb dX2_support_21 (by decide) ?_
      exact gx_reti hx hb hr hlocks () (by rw [hz]; rfl) hK (hP.sub [0, 1] rfl) (hD.sub [0, 1] (by decide) rfl) hS dX2_support_22
    · have hz := sp_in_ok (n := n) (by omega) c_1 c_9
      obtain ⟨hi3, hi1⟩ := sp_in_clamp (by omega) hz
      refine lv_aload_n hx hb dX2_support_12 rfl (lv_at hl 0 rfl) ?_
      refine va_get (D := D) (ci := 2) (v := .ref q1) (C := RX2) (T := TX2) (N := 10) hx hb hts iw_X2_support_X2 hown hK hP 0 rfl rfl 5 (by decide) (hts _ kw_X2_support_17) (fun _ h9 => h9) rfl dX2_support_13 ?_
      refine lv_iload_n hx hb dX2_support_16 rfl (lv_at hl 1 rfl) ?_
      refine gx_iald (q := x.toNatClampNeg) hx hb hK hP 1 0 rfl rfl (hi1) (by omega) (by decide) dX2_support_17 ?_
      refine lv_goto (tgt := 22) hx hb dX2_support_18 (by decide) ?_
      exact gx_reti hx hb hr hlocks () (by rw [hz]; rfl) hK (hP.sub [0, 1] rfl) (hD.sub [0, 1] (by decide) rfl) hS dX2_support_22
abbrev rmX2_rate : Room := { frames := 0, cells := 0, slots := 0, locals := 0 }
theorem iw_X2_rate_X2 : ∀ w ∈ wsX20, w ∈ wsX2_rate := by decide +kernel
theorem kw_X2_rate_20 : Cond.fieldLink RX2 20 "FluxModesModel" "rates" "[I" ∈ wsX2_rate := by decide +kernel
theorem kw_X2_rate_40 : Cond.fieldLink RX2 40 "FluxModesModel" "listed" "I" ∈ wsX2_rate := by decide +kernel
set_option maxHeartbeats 4000000 in
set_option maxRecDepth 100000 in
theorem kX2_rate (l : Launch) (D : va_G) (g0 p1 b1 q1 t1 a1 l1 v1 M R n : Nat) (x y : Int32) (dR : ClassId) (T : Nat → Int32) (hn : n ≤ 70) : gx_Mi l D yX2_rate wsX2_rate rmX2_rate [.ref g0, .int x, .int y] [(dR, .int)] [(g0, .inr (2, [.ref p1, .ref b1, .int (nI M), .int (nI R), .int (nI n), .ref q1, .ref t1, .ref a1, .ref l1, .ref v1])), (t1, .inl (dR, 560, .inl T))] (S := Unit) (fun r (_ : Unit) => r = if (sp_in x n && sp_in y 8) = true then T (ixx x y) else 0) (fun (_ : Unit) => [(g0, .inr (2, [.ref p1, .ref b1, .int (nI M), .int (nI R), .int (nI n), .ref q1, .ref t1, .ref a1, .ref l1, .ref v1])), (t1, .inl (dR, 560, .inl T))]) := by
  intro sz
  refine gx_start (cc := cX2_rate) (maxL := 3) (ret := (some .int)) (Qc := fun A => va_Qi (fun r (_ : Unit) => r = if (sp_in x n && sp_in y 8) = true then T (ixx x y) else 0) (gx_B D [(dR, .int)] A (fun (_ : Unit) => [(g0, .inr (2, [.ref p1, .ref b1, .int (nI M), .int (nI R), .int (nI n), .ref q1, .ref t1, .ref a1, .ref l1, .ref v1])), (t1, .inl (dR, 560, .inl T))])) A) (by decide) rfl (Nat.le_of_ble_eq_true rfl) ?_ sz
  intro p e s m below meth c A hbody ls hl
  obtain ⟨C0, hr, hlocks, hN, hK, hP, hD, hA⟩ := hbody
  have C0 : CallFix p m c cX2_rate 3 s ([.ref g0, .int x, .int y] : List Value).toArray wsX2_rate RX2 := C0
  obtain ⟨hx, hb, hml, hown, hts⟩ := id C0
  have hS : va_S A s.heap s.heap [] := va_S.rf
  have hl : lv_has ls 3 [(0, .ref g0), (1, .int x), (2, .int y)] := hl
  refine lv_iload_n hx hb dX2_rate_0 rfl (lv_at hl 1 rfl) ?_
  refine lv_if_lt (tgt := 36) hx hb dX2_rate_1 (by decide) (fun c_1 => ?_) (fun c_1 => ?_)
  · have hz : (sp_in x n && sp_in y 8) = false := by rw [sp_in_lo (n := n) c_1]; rfl
    refine lv_iconst (v := 0) hx hb dX2_rate_36 (by decide) ?_
    exact gx_reti hx hb hr hlocks () (by rw [hz]; rfl) hK (hP.sub [0, 1] rfl) (hD.sub [0, 1] (by decide) rfl) hS dX2_rate_37
  · refine lv_iload_n hx hb dX2_rate_4 rfl (lv_at hl 1 rfl) ?_
    refine lv_aload_n hx hb dX2_rate_5 rfl (lv_at hl 0 rfl) ?_
    refine va_get (D := D) (ci := 2) (v := .int (nI n)) (C := RX2) (T := TX2) (N := 10) hx hb hts iw_X2_rate_X2 hown hK hP 0 rfl rfl 4 (by decide) (hts _ kw_X2_rate_40) (fun _ h9 => h9) rfl dX2_rate_6 ?_
    refine lv_icmp_ge (tgt := 36) hx hb dX2_rate_9 (by decide) (fun c_9 => ?_) (fun c_9 => ?_)
    · have hz : (sp_in x n && sp_in y 8) = false := by rw [sp_in_hi (n := n) (by omega) c_9]; rfl
      refine lv_iconst (v := 0) hx hb dX2_rate_36 (by decide) ?_
      exact gx_reti hx hb hr hlocks () (by rw [hz]; rfl) hK (hP.sub [0, 1] rfl) (hD.sub [0, 1] (by decide) rfl) hS dX2_rate_37
    · refine lv_iload_n hx hb dX2_rate_12 rfl (lv_at hl 2 rfl) ?_
      refine lv_if_lt (tgt := 36) hx hb dX2_rate_13 (by decide) (fun c_13 => ?_) (fun c_13 => ?_)
      · have hz : (sp_in x n && sp_in y 8) = false := by rw [sp_in_lo (n := 8) c_13, Bool.and_false]
        refine lv_iconst (v := 0) hx hb dX2_rate_36 (by decide) ?_
        exact gx_reti hx hb hr hlocks () (by rw [hz]; rfl) hK (hP.sub [0, 1] rfl) (hD.sub [0, 1] (by decide) rfl) hS dX2_rate_37
      · refine lv_iload_n hx hb dX2_rate_16 rfl (lv_at hl 2 rfl) ?_
        refine lv_bipush (v := nI 7) hx hb dX2_rate_17 (by decide) ?_
        refine lv_icmp_gt (tgt := 36) hx hb dX2_rate_19 (by decide) (fun c_19 => ?_) (fun c_19 => ?_)
        · have hz : (sp_in x n && sp_in y 8) = false := by rw [sp_8_hi c_19, Bool.and_false]
          refine lv_iconst (v := 0) hx hb dX2_rate_36 (by decide) ?_
          exact gx_reti hx hb hr hlocks () (by rw [hz]; rfl) hK (hP.sub [0, 1] rfl) (hD.sub [0, 1] (by decide) rfl) hS dX2_rate_37
        · have hz : (sp_in x n && sp_in y 8) = true := by rw [sp_in_ok (n := n) (by omega) c_1 c_9, sp_8_ok c_13 c_19]; rfl
          obtain ⟨hi1, hi2, hi3⟩ := ix_70 hn hz
          refine lv_aload_n hx hb dX2_rate_22 rfl (lv_at hl 0 rfl) ?_
          refine va_get (D := D) (ci := 2) (v := .ref t1) (C := RX2) (T := TX2) (N := 10) hx hb hts iw_X2_rate_X2 hown hK hP 0 rfl rfl 6 (by decide) (hts _ kw_X2_rate_20) (fun _ h9 => h9) rfl dX2_rate_23 ?_
          refine lv_bipush (v := nI 8) hx hb dX2_rate_26 (by decide) ?_
          refine lv_iload_n hx hb dX2_rate_28 rfl (lv_at hl 1 rfl) ?_
          refine lv_imul hx hb dX2_rate_29 ?_
          refine lv_iload_n hx hb dX2_rate_30 rfl (lv_at hl 2 rfl) ?_
          refine lv_iadd hx hb dX2_rate_31 ?_
          refine gx_iald (q := ixx x y) hx hb hK hP 1 0 rfl rfl (hi2) (hi3) (by decide) dX2_rate_32 ?_
          refine lv_goto (tgt := 37) hx hb dX2_rate_33 (by decide) ?_
          exact gx_reti hx hb hr hlocks () (by rw [hz]; rfl) hK (hP.sub [0, 1] rfl) (hD.sub [0, 1] (by decide) rfl) hS dX2_rate_37
abbrev rmX2_within : Room := { frames := 0, cells := 0, slots := 0, locals := 0 }
theorem iw_X2_within_X2 : ∀ w ∈ wsX20, w ∈ wsX2_within := by decide +kernel
theorem kw_X2_within_17 : Cond.fieldLink RX2 17 "FluxModesModel" "supports" "[I" ∈ wsX2_within := by decide +kernel
theorem kw_X2_within_40 : Cond.fieldLink RX2 40 "FluxModesModel" "listed" "I" ∈ wsX2_within := by decide +kernel
set_option maxHeartbeats 4000000 in
set_option maxRecDepth 100000 in
theorem lpX2_within {p : Program} {l : Launch} {e : Env} {s : State} {m : MethodId} {args : Array Value} {below : List Frame} {meth : Method} {c : Code} {Q : State → Prop} {D : va_G} {A : Nat → Prop} {H0 : Heap} (C0 : CallFix p m c cX2_within 4 s args wsX2_within RX2) (hN : gx_N s) (hA : ∀ q : Nat, H0.size ≤ q → A q) {g0 p1 b1 q1 t1 a1 l1 v1 M R n : Nat} {x : Int32} {dS : ClassId} {U : Nat → Int32} (hn : n ≤ 70) (hK : va_K D vwCl [(dS, .int)] s) (kk : ∀ (H : Heap) (locs : List Loc) (ls : Array Slot), va_P D vwCl [(g0, .inr (2, [.ref p1, .ref b1, .int (nI M), .int (nI R), .int (nI n), .ref q1, .ref t1, .ref a1, .ref l1, .ref v1])), (q1, .inl (dS, 70, .inl U))] H → va_D A [(g0, .inr (2, [.ref p1, .ref b1, .int (nI M), .int (nI R), .int (nI n), .ref q1, .ref t1, .ref a1, .ref l1, .ref v1])), (q1, .inl (dS, 70, .inl U))] → va_S A H0 H locs → lv_has ls 4 [(0, .ref g0), (1, .int x), (2, .int (nI (mx_count (wiq U x) n))), (3, .int (nI n))] → W p l e rmX2_within s m args below meth c H locs 0 0 Q (F0 m 34 ls [])) : ∀ (n_ : Nat) (k a : Nat) (H : Heap) (locs : List Loc) (ls : Array Slot), (k ≤ n ∧ n < k + n_) → (a = mx_count (wiq U x) k) → va_P D vwCl [(g0, .inr (2, [.ref p1, .ref b1, .int (nI M), .int (nI R), .int (nI n), .ref q1, .ref t1, .ref a1, .ref l1, .ref v1])), (q1, .inl (dS, 70, .inl U))] H → va_D A [(g0, .inr (2, [.ref p1, .ref b1, .int (nI M), .int (nI R), .int (nI n), .ref q1, .ref t1, .ref a1, .ref l1, .ref v1])), (q1, .inl (dS, 70, .inl U))] → va_S A H0 H locs → lv_has ls 4 [(0, .ref g0), (1, .int x), (2, .int (nI a)), (3, .int (nI k))] → W p l e rmX2_within s m args below meth c H locs 0 0 Q (F0 m 4 ls []) := by
  obtain ⟨hx, hb, hml, hown, hts⟩ := id C0
  intro n_
  induction n_ with
  | zero =>
    intro k a H locs ls hm
    exact absurd hm (by omega)
  | succ n_ ih =>
    intro k a H locs ls hm hI hP hD hS hl
    refine lv_iload_n hx hb dX2_within_4 rfl (lv_at hl 3 rfl) ?_
    refine lv_aload_n hx hb dX2_within_5 rfl (lv_at hl 0 rfl) ?_
    refine va_get (D := D) (ci := 2) (v := .int (nI n)) (C := RX2) (T := TX2) (N := 10) hx hb hts iw_X2_within_X2 hown hK hP 0 rfl rfl 4 (by decide) (hts _ kw_X2_within_40) (fun _ h9 => h9) rfl dX2_within_6 ?_
    refine gx_ge (tgt := 34) hx hb dX2_within_9 (by decide) (by omega) (by omega) (fun c_9 => ?_) (fun c_9 => ?_)
    · have hkn : k = n := by omega
      subst hkn
      subst hI
      exact kk _ _ _ (hP.sub [0, 1] rfl) (hD.sub [0, 1] (by decide) rfl) hS (lv_sub hl [0, 1, 2, 3] rfl)
    · refine lv_aload_n hx hb dX2_within_12 rfl (lv_at hl 0 rfl) ?_
      refine va_get (D := D) (ci := 2) (v := .ref q1) (C := RX2) (T := TX2) (N := 10) hx hb hts iw_X2_within_X2 hown hK hP 0 rfl rfl 5 (by decide) (hts _ kw_X2_within_17) (fun _ h9 => h9) rfl dX2_within_13 ?_
      refine lv_iload_n hx hb dX2_within_16 rfl (lv_at hl 3 rfl) ?_
      refine gx_iald (q := k) hx hb hK hP 1 0 rfl rfl (rfl) (by omega) (by decide) dX2_within_17 ?_
      refine lv_iload_n hx hb dX2_within_18 rfl (lv_at hl 1 rfl) ?_
      refine lv_iconst (v := (-1)) hx hb dX2_within_19 (by decide) ?_
      refine lv_ixor hx hb dX2_within_20 ?_
      refine lv_iand hx hb dX2_within_21 ?_
      refine lv_if_ne (tgt := 28) hx hb dX2_within_22 (by decide) (fun c_22 => ?_) (fun c_22 => ?_)
      · refine lv_iinc (v := nI (k + 1)) (lv' := [(3, .int (nI (k + 1))), (0, .ref g0), (1, .int x), (2, .int (nI a))]) hx hb dX2_within_28 hl (k := 3) rfl ((nI_succ k).symm) (by decide) rfl (fun ls hl => ?_)
        refine lv_goto (tgt := 4) hx hb dX2_within_31 (by decide) ?_
        have hz : wiq U x k = false := decide_eq_false c_22
        exact ih (k + 1) a _ _ _ (by omega) (cnt_step_f hz hI) (hP.sub [0, 1] rfl) (hD.sub [0, 1] (by decide) rfl) hS (lv_sub hl [1, 2, 3, 0] rfl)
      · refine lv_iinc (v := nI (a + 1)) (lv' := [(2, .int (nI (a + 1))), (0, .ref g0), (1, .int x), (3, .int (nI k))]) hx hb dX2_within_25 hl (k := 2) rfl ((nI_succ a).symm) (by decide) rfl (fun ls hl => ?_)
        refine lv_iinc (v := nI (k + 1)) (lv' := [(3, .int (nI (k + 1))), (2, .int (nI (a + 1))), (0, .ref g0), (1, .int x)]) hx hb dX2_within_28 hl (k := 3) rfl ((nI_succ k).symm) (by decide) rfl (fun ls hl => ?_)
        refine lv_goto (tgt := 4) hx hb dX2_within_31 (by decide) ?_
        have hz : wiq U x k = true := decide_eq_true c_22
        exact ih (k + 1) (a + 1) _ _ _ (by omega) (cnt_step_t hz hI) (hP.sub [0, 1] rfl) (hD.sub [0, 1] (by decide) rfl) hS (lv_sub hl [2, 3, 1, 0] rfl)
set_option maxHeartbeats 4000000 in
set_option maxRecDepth 100000 in
theorem kX2_within (l : Launch) (D : va_G) (g0 p1 b1 q1 t1 a1 l1 v1 M R n : Nat) (x : Int32) (dS : ClassId) (U : Nat → Int32) (hn : n ≤ 70) : gx_Mi l D yX2_within wsX2_within rmX2_within [.ref g0, .int x] [(dS, .int)] [(g0, .inr (2, [.ref p1, .ref b1, .int (nI M), .int (nI R), .int (nI n), .ref q1, .ref t1, .ref a1, .ref l1, .ref v1])), (q1, .inl (dS, 70, .inl U))] (S := Unit) (fun r (_ : Unit) => r = nI (mx_count (wiq U x) n)) (fun (_ : Unit) => [(g0, .inr (2, [.ref p1, .ref b1, .int (nI M), .int (nI R), .int (nI n), .ref q1, .ref t1, .ref a1, .ref l1, .ref v1])), (q1, .inl (dS, 70, .inl U))]) := by
  intro sz
  refine gx_start (cc := cX2_within) (maxL := 4) (ret := (some .int)) (Qc := fun A => va_Qi (fun r (_ : Unit) => r = nI (mx_count (wiq U x) n)) (gx_B D [(dS, .int)] A (fun (_ : Unit) => [(g0, .inr (2, [.ref p1, .ref b1, .int (nI M), .int (nI R), .int (nI n), .ref q1, .ref t1, .ref a1, .ref l1, .ref v1])), (q1, .inl (dS, 70, .inl U))])) A) (by decide) rfl (Nat.le_of_ble_eq_true rfl) ?_ sz
  intro p e s m below meth c A hbody ls hl
  obtain ⟨C0, hr, hlocks, hN, hK, hP, hD, hA⟩ := hbody
  have C0 : CallFix p m c cX2_within 4 s ([.ref g0, .int x] : List Value).toArray wsX2_within RX2 := C0
  obtain ⟨hx, hb, hml, hown, hts⟩ := id C0
  have hS : va_S A s.heap s.heap [] := va_S.rf
  have hl : lv_has ls 4 [(0, .ref g0), (1, .int x)] := hl
  refine lv_iconst (v := nI 0) hx hb dX2_within_0 (by decide) ?_
  refine lv_istore_n (lv' := [(2, .int (nI 0)), (0, .ref g0), (1, .int x)]) hx hb dX2_within_1 rfl hl (by decide) rfl (fun ls hl => ?_)
  refine lv_iconst (v := nI 0) hx hb dX2_within_2 (by decide) ?_
  refine lv_istore_n (lv' := [(3, .int (nI 0)), (2, .int (nI 0)), (0, .ref g0), (1, .int x)]) hx hb dX2_within_3 rfl hl (by decide) rfl (fun ls hl => ?_)
  refine lpX2_within C0 hN hA hn hK (fun H locs ls hP hD hS hl => ?_) (n + 1) 0 0 _ _ _ (by omega) rfl (hP.sub [0, 1] rfl) (hD.sub [0, 1] (by decide) rfl) hS (lv_sub hl [2, 3, 1, 0] rfl)
  refine lv_iload_n hx hb dX2_within_34 rfl (lv_at hl 2 rfl) ?_
  exact gx_reti hx hb hr hlocks () (rfl) hK (hP.sub [0, 1] rfl) (hD.sub [0, 1] (by decide) rfl) hS dX2_within_35
abbrev rmX2_running : Room := { frames := 1, cells := 0, slots := 0, locals := 22 }
theorem iw_X2_running_X2 : ∀ w ∈ wsX20, w ∈ wsX2_running := by decide +kernel
theorem kw_X2_running_40 : Cond.fieldLink RX2 40 "FluxModesModel" "listed" "I" ∈ wsX2_running := by decide +kernel
set_option maxHeartbeats 4000000 in
set_option maxRecDepth 100000 in
theorem lpX2_running {p : Program} {l : Launch} {e : Env} {s : State} {m : MethodId} {args : Array Value} {below : List Frame} {meth : Method} {c : Code} {Q : State → Prop} {D : va_G} {A : Nat → Prop} {H0 : Heap} (C0 : CallFix p m c cX2_running 6 s args wsX2_running RX2) (hN : gx_N s) (hA : ∀ q : Nat, H0.size ≤ q → A q) {g0 p1 b1 q1 t1 a1 l1 v1 M R n : Nat} {x y : Int32} {dR : ClassId} {T : Nat → Int32} (hn : n ≤ 70) (hK : va_K D vwCl [(dR, .int)] s) (kk : ∀ (H : Heap) (locs : List Loc) (ls : Array Slot), va_P D vwCl [(g0, .inr (2, [.ref p1, .ref b1, .int (nI M), .int (nI R), .int (nI n), .ref q1, .ref t1, .ref a1, .ref l1, .ref v1])), (t1, .inl (dR, 560, .inl T))] H → va_D A [(g0, .inr (2, [.ref p1, .ref b1, .int (nI M), .int (nI R), .int (nI n), .ref q1, .ref t1, .ref a1, .ref l1, .ref v1])), (t1, .inl (dR, 560, .inl T))] → va_S A H0 H locs → lv_has ls 6 [(0, .ref g0), (1, .int x), (2, .int y), (3, .int (nI (mx_count (ruv T x y) n))), (4, .int (nI n))] → W p l e rmX2_running s m args below meth c H locs 0 0 Q (F0 m 63 ls [])) : ∀ (n_ : Nat) (k a : Nat) (H : Heap) (locs : List Loc) (ls : Array Slot), (k ≤ n ∧ n < k + n_) → (a = mx_count (ruv T x y) k) → va_P D vwCl [(g0, .inr (2, [.ref p1, .ref b1, .int (nI M), .int (nI R), .int (nI n), .ref q1, .ref t1, .ref a1, .ref l1, .ref v1])), (t1, .inl (dR, 560, .inl T))] H → va_D A [(g0, .inr (2, [.ref p1, .ref b1, .int (nI M), .int (nI R), .int (nI n), .ref q1, .ref t1, .ref a1, .ref l1, .ref v1])), (t1, .inl (dR, 560, .inl T))] → va_S A H0 H locs → lv_has ls 6 [(0, .ref g0), (1, .int x), (2, .int y), (3, .int (nI a)), (4, .int (nI k))] → W p l e rmX2_running s m args below meth c H locs 0 0 Q (F0 m 5 ls []) := by
  obtain ⟨hx, hb, hml, hown, hts⟩ := id C0
  intro n_
  induction n_ with
  | zero =>
    intro k a H locs ls hm
    exact absurd hm (by omega)
  | succ n_ ih =>
    intro k a H locs ls hm hI hP hD hS hl
    refine lv_iload hx hb dX2_running_5 (lv_at hl 4 rfl) ?_
    refine lv_aload_n hx hb dX2_running_7 rfl (lv_at hl 0 rfl) ?_
    refine va_get (D := D) (ci := 2) (v := .int (nI n)) (C := RX2) (T := TX2) (N := 10) hx hb hts iw_X2_running_X2 hown hK hP 0 rfl rfl 4 (by decide) (hts _ kw_X2_running_40) (fun _ h9 => h9) rfl dX2_running_8 ?_
    refine gx_ge (tgt := 63) hx hb dX2_running_11 (by decide) (by omega) (by omega) (fun c_11 => ?_) (fun c_11 => ?_)
    · have hkn : k = n := by omega
      subst hkn
      subst hI
      exact kk _ _ _ (hP.sub [0, 1] rfl) (hD.sub [0, 1] (by decide) rfl) hS (lv_sub hl [0, 1, 2, 3, 4] rfl)
    · refine lv_aload_n hx hb dX2_running_14 rfl (lv_at hl 0 rfl) ?_
      refine lv_iload hx hb dX2_running_15 (lv_at hl 4 rfl) ?_
      refine lv_iload_n hx hb dX2_running_17 rfl (lv_at hl 1 rfl) ?_
      refine gx_ji (wr := []) (gx_rV (As := [.int (nI k), .int x]) (rest := []) C0 (kX2_rate l D g0 p1 b1 q1 t1 a1 l1 v1 M R n (nI k) x dR T hn _) (cwV 2 hts gX2_running_X2_rate rfl rfl rfl (by decide +kernel) ⟨Nat.le_of_ble_eq_true rfl, Nat.le_of_ble_eq_true rfl⟩) hN hK hP hD [0, 1] [0] rfl rfl (by decide) rfl 0 rfl rfl rfl rfl hl.1 rfl (Nat.le_of_ble_eq_true rfl) dX2_running_18 ⟨Nat.zero_le _, Nat.zero_le _⟩) hP hD hS hA [0, 1] [] rfl rfl (by decide) (by decide) (fun r u H locs hw hP hD hS => ?_)
      have hw : r = rvl T x k := Eq.trans hw (rvl_eq hn c_11)
      subst hw
      have hP : va_P D vwCl [(g0, .inr (2, [.ref p1, .ref b1, .int (nI M), .int (nI R), .int (nI n), .ref q1, .ref t1, .ref a1, .ref l1, .ref v1])), (t1, .inl (dR, 560, .inl T))] H := hP
      have hD : va_D A [(g0, .inr (2, [.ref p1, .ref b1, .int (nI M), .int (nI R), .int (nI n), .ref q1, .ref t1, .ref a1, .ref l1, .ref v1])), (t1, .inl (dR, 560, .inl T))] := hD
      refine lv_istore (lv' := [(5, .int (rvl T x k)), (0, .ref g0), (1, .int x), (2, .int y), (3, .int (nI a)), (4, .int (nI k))]) hx hb dX2_running_21 hl (by decide) rfl (fun ls hl => ?_)
      refine lv_iload_n hx hb dX2_running_23 rfl (lv_at hl 3 rfl) ?_
      refine lv_iconst (v := 1) hx hb dX2_running_24 (by decide) ?_
      refine lv_icmp_ne (tgt := 36) hx hb dX2_running_25 (by decide) (fun c_25 => ?_) (fun c_25 => ?_)
      · refine lv_iload_n hx hb dX2_running_36 rfl (lv_at hl 3 rfl) ?_
        refine lv_iconst (v := (-1)) hx hb dX2_running_37 (by decide) ?_
        refine lv_icmp_ne (tgt := 49) hx hb dX2_running_38 (by decide) (fun c_38 => ?_) (fun c_38 => ?_)
        · refine lv_iload hx hb dX2_running_49 (lv_at hl 0 rfl) ?_
          refine lv_if_eq (tgt := 57) hx hb dX2_running_51 (by decide) (fun c_51 => ?_) (fun c_51 => ?_)
          · have hz : ruv T x y k = false := ru_5 c_25 c_38 c_51
            refine lv_iinc (v := nI (k + 1)) (lv' := [(4, .int (nI (k + 1))), (5, .int (rvl T x k)), (0, .ref g0), (1, .int x), (2, .int y), (3, .int (nI a))]) hx hb dX2_running_57 hl (k := 5) rfl ((nI_succ k).symm) (by decide) rfl (fun ls hl => ?_)
            refine lv_goto (tgt := 5) hx hb dX2_running_60 (by decide) ?_
            exact ih (k + 1) a _ _ _ (by omega) (cnt_step_f (q := ruv T x y) hz hI) (hP.sub [0, 1] rfl) (hD.sub [0, 1] (by decide) rfl) hS (lv_sub hl [2, 3, 4, 5, 0] rfl)
          · have hz : ruv T x y k = true := ru_6 c_25 c_38 c_51
            refine lv_iinc (v := nI (a + 1)) (lv' := [(3, .int (nI (a + 1))), (5, .int (rvl T x k)), (0, .ref g0), (1, .int x), (2, .int y), (4, .int (nI k))]) hx hb dX2_running_54 hl (k := 4) rfl ((nI_succ a).symm) (by decide) rfl (fun ls hl => ?_)
            refine lv_iinc (v := nI (k + 1)) (lv' := [(4, .int (nI (k + 1))), (3, .int (nI (a + 1))), (5, .int (rvl T x k)), (0, .ref g0), (1, .int x), (2, .int y)]) hx hb dX2_running_57 hl (k := 5) rfl ((nI_succ k).symm) (by decide) rfl (fun ls hl => ?_)
            refine lv_goto (tgt := 5) hx hb dX2_running_60 (by decide) ?_
            exact ih (k + 1) (a + 1) _ _ _ (by omega) (cnt_step_t (q := ruv T x y) hz hI) (hP.sub [0, 1] rfl) (hD.sub [0, 1] (by decide) rfl) hS (lv_sub hl [3, 4, 5, 1, 0] rfl)
        · refine lv_iload hx hb dX2_running_41 (lv_at hl 0 rfl) ?_
          refine lv_if_ge (tgt := 57) hx hb dX2_running_43 (by decide) (fun c_43 => ?_) (fun c_43 => ?_)
          · have hz : ruv T x y k = false := ru_3 c_25 c_38 c_43
            refine lv_iinc (v := nI (k + 1)) (lv' := [(4, .int (nI (k + 1))), (5, .int (rvl T x k)), (0, .ref g0), (1, .int x), (2, .int y), (3, .int (nI a))]) hx hb dX2_running_57 hl (k := 5) rfl ((nI_succ k).symm) (by decide) rfl (fun ls hl => ?_)
            refine lv_goto (tgt := 5) hx hb dX2_running_60 (by decide) ?_
            exact ih (k + 1) a _ _ _ (by omega) (cnt_step_f (q := ruv T x y) hz hI) (hP.sub [0, 1] rfl) (hD.sub [0, 1] (by decide) rfl) hS (lv_sub hl [2, 3, 4, 5, 0] rfl)
          · have hz : ruv T x y k = true := ru_4 c_25 c_38 c_43
            refine lv_goto (tgt := 54) hx hb dX2_running_46 (by decide) ?_
            refine lv_iinc (v := nI (a + 1)) (lv' := [(3, .int (nI (a + 1))), (5, .int (rvl T x k)), (0, .ref g0), (1, .int x), (2, .int y), (4, .int (nI k))]) hx hb dX2_running_54 hl (k := 4) rfl ((nI_succ a).symm) (by decide) rfl (fun ls hl => ?_)
            refine lv_iinc (v := nI (k + 1)) (lv' := [(4, .int (nI (k + 1))), (3, .int (nI (a + 1))), (5, .int (rvl T x k)), (0, .ref g0), (1, .int x), (2, .int y)]) hx hb dX2_running_57 hl (k := 5) rfl ((nI_succ k).symm) (by decide) rfl (fun ls hl => ?_)
            refine lv_goto (tgt := 5) hx hb dX2_running_60 (by decide) ?_
            exact ih (k + 1) (a + 1) _ _ _ (by omega) (cnt_step_t (q := ruv T x y) hz hI) (hP.sub [0, 1] rfl) (hD.sub [0, 1] (by decide) rfl) hS (lv_sub hl [3, 4, 5, 1, 0] rfl)
      · refine lv_iload hx hb dX2_running_28 (lv_at hl 0 rfl) ?_
        refine lv_if_le (tgt := 57) hx hb dX2_running_30 (by decide) (fun c_30 => ?_) (fun c_30 => ?_)
        · have hz : ruv T x y k = false := ru_1 c_25 c_30
          refine lv_iinc (v := nI (k + 1)) (lv' := [(4, .int (nI (k + 1))), (5, .int (rvl T x k)), (0, .ref g0), (1, .int x), (2, .int y), (3, .int (nI a))]) hx hb dX2_running_57 hl (k := 5) rfl ((nI_succ k).symm) (by decide) rfl (fun ls hl => ?_)
          refine lv_goto (tgt := 5) hx hb dX2_running_60 (by decide) ?_
          exact ih (k + 1) a _ _ _ (by omega) (cnt_step_f (q := ruv T x y) hz hI) (hP.sub [0, 1] rfl) (hD.sub [0, 1] (by decide) rfl) hS (lv_sub hl [2, 3, 4, 5, 0] rfl)
        · have hz : ruv T x y k = true := ru_2 c_25 c_30
          refine lv_goto (tgt := 54) hx hb dX2_running_33 (by decide) ?_
          refine lv_iinc (v := nI (a + 1)) (lv' := [(3, .int (nI (a + 1))), (5, .int (rvl T x k)), (0, .ref g0), (1, .int x), (2, .int y), (4, .int (nI k))]) hx hb dX2_running_54 hl (k := 4) rfl ((nI_succ a).symm) (by decide) rfl (fun ls hl => ?_)
          refine lv_iinc (v := nI (k + 1)) (lv' := [(4, .int (nI (k + 1))), (3, .int (nI (a + 1))), (5, .int (rvl T x k)), (0, .ref g0), (1, .int x), (2, .int y)]) hx hb dX2_running_57 hl (k := 5) rfl ((nI_succ k).symm) (by decide) rfl (fun ls hl => ?_)
          refine lv_goto (tgt := 5) hx hb dX2_running_60 (by decide) ?_
          exact ih (k + 1) (a + 1) _ _ _ (by omega) (cnt_step_t (q := ruv T x y) hz hI) (hP.sub [0, 1] rfl) (hD.sub [0, 1] (by decide) rfl) hS (lv_sub hl [3, 4, 5, 1, 0] rfl)
set_option maxHeartbeats 4000000 in
set_option maxRecDepth 100000 in
theorem kX2_running (l : Launch) (D : va_G) (g0 p1 b1 q1 t1 a1 l1 v1 M R n : Nat) (x y : Int32) (dR : ClassId) (T : Nat → Int32) (hn : n ≤ 70) : gx_Mi l D yX2_running wsX2_running rmX2_running [.ref g0, .int x, .int y] [(dR, .int)] [(g0, .inr (2, [.ref p1, .ref b1, .int (nI M), .int (nI R), .int (nI n), .ref q1, .ref t1, .ref a1, .ref l1, .ref v1])), (t1, .inl (dR, 560, .inl T))] (S := Unit) (fun r (_ : Unit) => r = if sp_in x 8 = true then nI (mx_count (ruq T x.toNatClampNeg y) n) else 0) (fun (_ : Unit) => [(g0, .inr (2, [.ref p1, .ref b1, .int (nI M), .int (nI R), .int (nI n), .ref q1, .ref t1, .ref a1, .ref l1, .ref v1])), (t1, .inl (dR, 560, .inl T))]) := by
  intro sz
  refine gx_start (cc := cX2_running) (maxL := 6) (ret := (some .int)) (Qc := fun A => va_Qi (fun r (_ : Unit) => r = if sp_in x 8 = true then nI (mx_count (ruq T x.toNatClampNeg y) n) else 0) (gx_B D [(dR, .int)] A (fun (_ : Unit) => [(g0, .inr (2, [.ref p1, .ref b1, .int (nI M), .int (nI R), .int (nI n), .ref q1, .ref t1, .ref a1, .ref l1, .ref v1])), (t1, .inl (dR, 560, .inl T))])) A) (by decide) rfl (Nat.le_of_ble_eq_true rfl) ?_ sz
  intro p e s m below meth c A hbody ls hl
  obtain ⟨C0, hr, hlocks, hN, hK, hP, hD, hA⟩ := hbody
  have C0 : CallFix p m c cX2_running 6 s ([.ref g0, .int x, .int y] : List Value).toArray wsX2_running RX2 := C0
  obtain ⟨hx, hb, hml, hown, hts⟩ := id C0
  have hS : va_S A s.heap s.heap [] := va_S.rf
  have hl : lv_has ls 6 [(0, .ref g0), (1, .int x), (2, .int y)] := hl
  refine lv_iconst (v := nI 0) hx hb dX2_running_0 (by decide) ?_
  refine lv_istore_n (lv' := [(3, .int (nI 0)), (0, .ref g0), (1, .int x), (2, .int y)]) hx hb dX2_running_1 rfl hl (by decide) rfl (fun ls hl => ?_)
  refine lv_iconst (v := nI 0) hx hb dX2_running_2 (by decide) ?_
  refine lv_istore (lv' := [(4, .int (nI 0)), (3, .int (nI 0)), (0, .ref g0), (1, .int x), (2, .int y)]) hx hb dX2_running_3 hl (by decide) rfl (fun ls hl => ?_)
  refine lpX2_running C0 hN hA hn hK (fun H locs ls hP hD hS hl => ?_) (n + 1) 0 0 _ _ _ (by omega) rfl (hP.sub [0, 1] rfl) (hD.sub [0, 1] (by decide) rfl) hS (lv_sub hl [2, 3, 4, 1, 0] rfl)
  refine lv_iload_n hx hb dX2_running_63 rfl (lv_at hl 3 rfl) ?_
  exact gx_reti hx hb hr hlocks () (ruv_eq n) hK (hP.sub [0, 1] rfl) (hD.sub [0, 1] (by decide) rfl) hS dX2_running_64
abbrev rmX2_shortest : Room := { frames := 0, cells := 0, slots := 0, locals := 0 }
theorem iw_X2_shortest_X2 : ∀ w ∈ wsX20, w ∈ wsX2_shortest := by decide +kernel
theorem kw_X2_shortest_17 : Cond.fieldLink RX2 17 "FluxModesModel" "supports" "[I" ∈ wsX2_shortest := by decide +kernel
theorem kw_X2_shortest_40 : Cond.fieldLink RX2 40 "FluxModesModel" "listed" "I" ∈ wsX2_shortest := by decide +kernel
set_option maxHeartbeats 4000000 in
set_option maxRecDepth 100000 in
theorem lpX2_shortest1 {p : Program} {l : Launch} {e : Env} {s : State} {m : MethodId} {args : Array Value} {below : List Frame} {meth : Method} {c : Code} {Q : State → Prop} {D : va_G} {A : Nat → Prop} {H0 : Heap} (C0 : CallFix p m c cX2_shortest 6 s args wsX2_shortest RX2) (hN : gx_N s) (hA : ∀ q : Nat, H0.size ≤ q → A q) {g0 p1 b1 q1 t1 a1 l1 v1 M R n j : Nat} {dS : ClassId} {U : Nat → Int32} {sf : Nat → Nat} {a k : Nat} (hn : n ≤ 70) (hU : ∀ k, k < n → sf k < 256 ∧ U k = nI (sf k)) (hk : k < n) (hK : va_K D vwCl [(dS, .int)] s) (kk : ∀ (H : Heap) (locs : List Loc) (ls : Array Slot), va_P D vwCl [(g0, .inr (2, [.ref p1, .ref b1, .int (nI M), .int (nI R), .int (nI n), .ref q1, .ref t1, .ref a1, .ref l1, .ref v1])), (q1, .inl (dS, 70, .inl U))] H → va_D A [(g0, .inr (2, [.ref p1, .ref b1, .int (nI M), .int (nI R), .int (nI n), .ref q1, .ref t1, .ref a1, .ref l1, .ref v1])), (q1, .inl (dS, 70, .inl U))] → va_S A H0 H locs → lv_has ls 6 [(0, .ref g0), (1, .int (nI j)), (2, .int (nI a)), (3, .int (nI k)), (4, .int (nI (mx_cnt (sf k) 8))), (5, .int (nI 8))] → W p l e rmX2_shortest s m args below meth c H locs 0 0 Q (F0 m 75 ls [])) : ∀ (n_ : Nat) (i : Nat) (H : Heap) (locs : List Loc) (ls : Array Slot), (i ≤ 8 ∧ 8 < i + n_) → va_P D vwCl [(g0, .inr (2, [.ref p1, .ref b1, .int (nI M), .int (nI R), .int (nI n), .ref q1, .ref t1, .ref a1, .ref l1, .ref v1])), (q1, .inl (dS, 70, .inl U))] H → va_D A [(g0, .inr (2, [.ref p1, .ref b1, .int (nI M), .int (nI R), .int (nI n), .ref q1, .ref t1, .ref a1, .ref l1, .ref v1])), (q1, .inl (dS, 70, .inl U))] → va_S A H0 H locs → lv_has ls 6 [(0, .ref g0), (1, .int (nI j)), (2, .int (nI a)), (3, .int (nI k)), (4, .int (nI (mx_cnt (sf k) i))), (5, .int (nI i))] → W p l e rmX2_shortest s m args below meth c H locs 0 0 Q (F0 m 46 ls []) := by
  obtain ⟨hx, hb, hml, hown, hts⟩ := id C0
  intro n_
  induction n_ with
  | zero =>
    intro i H locs ls hm
    exact absurd hm (by omega)
  | succ n_ ih =>
    intro i H locs ls hm  hP hD hS hl
    refine lv_iload hx hb dX2_shortest_46 (lv_at hl 5 rfl) ?_
    refine lv_bipush (v := nI 8) hx hb dX2_shortest_48 (by decide) ?_
    refine gx_ge (tgt := 75) hx hb dX2_shortest_50 (by decide) (by omega) (by omega) (fun c_50 => ?_) (fun c_50 => ?_)
    · have hi8 : i = 8 := by omega
      subst hi8
      exact kk _ _ _ (hP.sub [0, 1] rfl) (hD.sub [0, 1] (by decide) rfl) hS (lv_sub hl [0, 1, 2, 3, 4, 5] rfl)
    · refine lv_iload hx hb dX2_shortest_53 (lv_at hl 4 rfl) ?_
      refine lv_aload_n hx hb dX2_shortest_55 rfl (lv_at hl 0 rfl) ?_
      refine va_get (D := D) (ci := 2) (v := .ref q1) (C := RX2) (T := TX2) (N := 10) hx hb hts iw_X2_shortest_X2 hown hK hP 0 rfl rfl 5 (by decide) (hts _ kw_X2_shortest_17) (fun _ h9 => h9) rfl dX2_shortest_56 ?_
      refine lv_iload_n hx hb dX2_shortest_59 rfl (lv_at hl 3 rfl) ?_
      refine gx_iald (q := k) hx hb hK hP 1 0 rfl rfl (rfl) (by omega) (by decide) dX2_shortest_60 ?_
      refine gx_i (y := nI (sf k)) ((hU k hk).2) ?_
      refine lv_iload hx hb dX2_shortest_61 (lv_at hl 5 rfl) ?_
      refine lv_ishr hx hb dX2_shortest_63 ?_
      refine lv_iconst (v := nI 1) hx hb dX2_shortest_64 (by decide) ?_
      refine lv_iand hx hb dX2_shortest_65 ?_
      refine gx_i (y := bI ((sf k).testBit i)) (sp_has (sf k) (hU k hk).1 i (by omega)) ?_
      refine lv_iadd hx hb dX2_shortest_66 ?_
      refine gx_i (y := nI (mx_cnt (sf k) (i + 1))) (cnt_bI (sf k) i) ?_
      refine lv_istore (lv' := [(4, .int (nI (mx_cnt (sf k) (i + 1)))), (0, .ref g0), (1, .int (nI j)), (2, .int (nI a)), (3, .int (nI k)), (5, .int (nI i))]) hx hb dX2_shortest_67 hl (by decide) rfl (fun ls hl => ?_)
      refine lv_iinc (v := nI (i + 1)) (lv' := [(5, .int (nI (i + 1))), (4, .int (nI (mx_cnt (sf k) (i + 1)))), (0, .ref g0), (1, .int (nI j)), (2, .int (nI a)), (3, .int (nI k))]) hx hb dX2_shortest_69 hl (k := 5) rfl ((nI_succ i).symm) (by decide) rfl (fun ls hl => ?_)
      refine lv_goto (tgt := 46) hx hb dX2_shortest_72 (by decide) ?_
      exact ih (i + 1) _ _ _ (by omega) (hP.sub [0, 1] rfl) (hD.sub [0, 1] (by decide) rfl) hS (lv_sub hl [2, 3, 4, 5, 1, 0] rfl)
set_option maxHeartbeats 4000000 in
set_option maxRecDepth 100000 in
theorem lpX2_shortest {p : Program} {l : Launch} {e : Env} {s : State} {m : MethodId} {args : Array Value} {below : List Frame} {meth : Method} {c : Code} {Q : State → Prop} {D : va_G} {A : Nat → Prop} {H0 : Heap} (C0 : CallFix p m c cX2_shortest 6 s args wsX2_shortest RX2) (hN : gx_N s) (hA : ∀ q : Nat, H0.size ≤ q → A q) {g0 p1 b1 q1 t1 a1 l1 v1 M R n j : Nat} {dS : ClassId} {U : Nat → Int32} {sf : Nat → Nat} (hn : n ≤ 70) (hU : ∀ k, k < n → sf k < 256 ∧ U k = nI (sf k)) (hj : j < 8) (hK : va_K D vwCl [(dS, .int)] s) (kk : ∀ (H : Heap) (locs : List Loc) (ls : Array Slot), va_P D vwCl [(g0, .inr (2, [.ref p1, .ref b1, .int (nI M), .int (nI R), .int (nI n), .ref q1, .ref t1, .ref a1, .ref l1, .ref v1])), (q1, .inl (dS, 70, .inl U))] H → va_D A [(g0, .inr (2, [.ref p1, .ref b1, .int (nI M), .int (nI R), .int (nI n), .ref q1, .ref t1, .ref a1, .ref l1, .ref v1])), (q1, .inl (dS, 70, .inl U))] → va_S A H0 H locs → lv_has ls 6 [(0, .ref g0), (1, .int (nI j)), (2, .int (nI (shs sf j n))), (3, .int (nI n))] → W p l e rmX2_shortest s m args below meth c H locs 0 0 Q (F0 m 94 ls [])) : ∀ (n_ : Nat) (k a : Nat) (H : Heap) (locs : List Loc) (ls : Array Slot), (k ≤ n ∧ n < k + n_) → (a = shs sf j k) → va_P D vwCl [(g0, .inr (2, [.ref p1, .ref b1, .int (nI M), .int (nI R), .int (nI n), .ref q1, .ref t1, .ref a1, .ref l1, .ref v1])), (q1, .inl (dS, 70, .inl U))] H → va_D A [(g0, .inr (2, [.ref p1, .ref b1, .int (nI M), .int (nI R), .int (nI n), .ref q1, .ref t1, .ref a1, .ref l1, .ref v1])), (q1, .inl (dS, 70, .inl U))] → va_S A H0 H locs → lv_has ls 6 [(0, .ref g0), (1, .int (nI j)), (2, .int (nI a)), (3, .int (nI k))] → W p l e rmX2_shortest s m args below meth c H locs 0 0 Q (F0 m 16 ls []) := by
  obtain ⟨hx, hb, hml, hown, hts⟩ := id C0
  intro n_
  induction n_ with
  | zero =>
    intro k a H locs ls hm
    exact absurd hm (by omega)
  | succ n_ ih =>
    intro k a H locs ls hm hI hP hD hS hl
    refine lv_iload_n hx hb dX2_shortest_16 rfl (lv_at hl 3 rfl) ?_
    refine lv_aload_n hx hb dX2_shortest_17 rfl (lv_at hl 0 rfl) ?_
    refine va_get (D := D) (ci := 2) (v := .int (nI n)) (C := RX2) (T := TX2) (N := 10) hx hb hts iw_X2_shortest_X2 hown hK hP 0 rfl rfl 4 (by decide) (hts _ kw_X2_shortest_40) (fun _ h9 => h9) rfl dX2_shortest_18 ?_
    refine gx_ge (tgt := 94) hx hb dX2_shortest_21 (by decide) (by omega) (by omega) (fun c_21 => ?_) (fun c_21 => ?_)
    · have hkn : k = n := by omega
      subst hkn
      subst hI
      exact kk _ _ _ (hP.sub [0, 1] rfl) (hD.sub [0, 1] (by decide) rfl) hS (lv_sub hl [0, 1, 2, 3] rfl)
    · obtain ⟨hs8, hs9⟩ := hU k c_21
      have ha8 := shs_le sf j k
      rw [← hI] at ha8
      have hc8 := mx_cnt_le (sf k) 8
      refine lv_aload_n hx hb dX2_shortest_24 rfl (lv_at hl 0 rfl) ?_
      refine va_get (D := D) (ci := 2) (v := .ref q1) (C := RX2) (T := TX2) (N := 10) hx hb hts iw_X2_shortest_X2 hown hK hP 0 rfl rfl 5 (by decide) (hts _ kw_X2_shortest_17) (fun _ h9 => h9) rfl dX2_shortest_25 ?_
      refine lv_iload_n hx hb dX2_shortest_28 rfl (lv_at hl 3 rfl) ?_
      refine gx_iald (q := k) hx hb hK hP 1 0 rfl rfl (rfl) (by omega) (by decide) dX2_shortest_29 ?_
      refine gx_i (y := nI (sf k)) (hs9) ?_
      refine lv_iload_n hx hb dX2_shortest_30 rfl (lv_at hl 1 rfl) ?_
      refine lv_ishr hx hb dX2_shortest_31 ?_
      refine lv_iconst (v := nI 1) hx hb dX2_shortest_32 (by decide) ?_
      refine lv_iand hx hb dX2_shortest_33 ?_
      refine gx_i (y := bI ((sf k).testBit j)) (sp_has (sf k) hs8 j hj) ?_
      refine gx_bne (tgt := 40) hx hb dX2_shortest_34 (by decide) (fun c_34 => ?_) (fun c_34 => ?_)
      · refine lv_iconst (v := nI 0) hx hb dX2_shortest_40 (by decide) ?_
        refine lv_istore (lv' := [(4, .int (nI 0)), (0, .ref g0), (1, .int (nI j)), (2, .int (nI a)), (3, .int (nI k))]) hx hb dX2_shortest_41 hl (by decide) rfl (fun ls hl => ?_)
        refine lv_iconst (v := nI 0) hx hb dX2_shortest_43 (by decide) ?_
        refine lv_istore (lv' := [(5, .int (nI 0)), (4, .int (nI 0)), (0, .ref g0), (1, .int (nI j)), (2, .int (nI a)), (3, .int (nI k))]) hx hb dX2_shortest_44 hl (by decide) rfl (fun ls hl => ?_)
        refine lpX2_shortest1 C0 hN hA hn hU c_21 hK (fun H locs ls hP hD hS hl => ?_) 9 0 _ _ _ (by omega) (hP.sub [0, 1] rfl) (hD.sub [0, 1] (by decide) rfl) hS (lv_sub hl [2, 3, 4, 5, 1, 0] rfl)
        refine lv_iload_n hx hb dX2_shortest_75 rfl (lv_at hl 2 rfl) ?_
        refine lv_if_eq (tgt := 85) hx hb dX2_shortest_76 (by decide) (fun c_76 => ?_) (fun c_76 => ?_)
        · have hq1 : shs sf j k = 0 ∨ mx_cnt (sf k) 8 < shs sf j k := Or.inl (by rw [← hI]; exact (nI_eq (by omega) (by omega)).mp (c_76.trans nI_0.symm))
          refine lv_iload hx hb dX2_shortest_85 (lv_at hl 4 rfl) ?_
          refine lv_istore_n (lv' := [(2, .int (nI (mx_cnt (sf k) 8))), (0, .ref g0), (1, .int (nI j)), (3, .int (nI k)), (4, .int (nI (mx_cnt (sf k) 8))), (5, .int (nI 8))]) hx hb dX2_shortest_87 rfl hl (by decide) rfl (fun ls hl => ?_)
          refine lv_iinc (v := nI (k + 1)) (lv' := [(3, .int (nI (k + 1))), (2, .int (nI (mx_cnt (sf k) 8))), (0, .ref g0), (1, .int (nI j)), (4, .int (nI (mx_cnt (sf k) 8))), (5, .int (nI 8))]) hx hb dX2_shortest_88 hl (k := 3) rfl ((nI_succ k).symm) (by decide) rfl (fun ls hl => ?_)
          refine lv_goto (tgt := 16) hx hb dX2_shortest_91 (by decide) ?_
          exact ih (k + 1) (mx_cnt (sf k) 8) _ _ _ (by omega) (shs_1 c_34 hq1) (hP.sub [0, 1] rfl) (hD.sub [0, 1] (by decide) rfl) hS (lv_sub hl [2, 3, 1, 0] rfl)
        · have hq0 : ¬ shs sf j k = 0 := fun q => c_76 (by rw [hI, q]; exact nI_0)
          refine lv_iload hx hb dX2_shortest_79 (lv_at hl 4 rfl) ?_
          refine lv_iload_n hx hb dX2_shortest_81 rfl (lv_at hl 2 rfl) ?_
          refine gx_ge (tgt := 88) hx hb dX2_shortest_82 (by decide) (by omega) (by omega) (fun c_82 => ?_) (fun c_82 => ?_)
          · refine lv_iinc (v := nI (k + 1)) (lv' := [(3, .int (nI (k + 1))), (0, .ref g0), (1, .int (nI j)), (2, .int (nI a)), (4, .int (nI (mx_cnt (sf k) 8))), (5, .int (nI 8))]) hx hb dX2_shortest_88 hl (k := 3) rfl ((nI_succ k).symm) (by decide) rfl (fun ls hl => ?_)
            refine lv_goto (tgt := 16) hx hb dX2_shortest_91 (by decide) ?_
            exact ih (k + 1) a _ _ _ (by omega) (hI.trans (shs_2 c_34 (fun q => q.elim hq0 (fun z => absurd (hI ▸ c_82) (by omega))))) (hP.sub [0, 1] rfl) (hD.sub [0, 1] (by decide) rfl) hS (lv_sub hl [1, 2, 3, 0] rfl)
          · have hq1 : shs sf j k = 0 ∨ mx_cnt (sf k) 8 < shs sf j k := Or.inr (hI ▸ c_82)
            refine lv_iload hx hb dX2_shortest_85 (lv_at hl 4 rfl) ?_
            refine lv_istore_n (lv' := [(2, .int (nI (mx_cnt (sf k) 8))), (0, .ref g0), (1, .int (nI j)), (3, .int (nI k)), (4, .int (nI (mx_cnt (sf k) 8))), (5, .int (nI 8))]) hx hb dX2_shortest_87 rfl hl (by decide) rfl (fun ls hl => ?_)
            refine lv_iinc (v := nI (k + 1)) (lv' := [(3, .int (nI (k + 1))), (2, .int (nI (mx_cnt (sf k) 8))), (0, .ref g0), (1, .int (nI j)), (4, .int (nI (mx_cnt (sf k) 8))), (5, .int (nI 8))]) hx hb dX2_shortest_88 hl (k := 3) rfl ((nI_succ k).symm) (by decide) rfl (fun ls hl => ?_)
            refine lv_goto (tgt := 16) hx hb dX2_shortest_91 (by decide) ?_
            exact ih (k + 1) (mx_cnt (sf k) 8) _ _ _ (by omega) (shs_1 c_34 hq1) (hP.sub [0, 1] rfl) (hD.sub [0, 1] (by decide) rfl) hS (lv_sub hl [2, 3, 1, 0] rfl)
      · refine lv_goto (tgt := 88) hx hb dX2_shortest_37 (by decide) ?_
        refine lv_iinc (v := nI (k + 1)) (lv' := [(3, .int (nI (k + 1))), (0, .ref g0), (1, .int (nI j)), (2, .int (nI a))]) hx hb dX2_shortest_88 hl (k := 3) rfl ((nI_succ k).symm) (by decide) rfl (fun ls hl => ?_)
        refine lv_goto (tgt := 16) hx hb dX2_shortest_91 (by decide) ?_
        exact ih (k + 1) a _ _ _ (by omega) (by rw [shs_out c_34]; exact hI) (hP.sub [0, 1] rfl) (hD.sub [0, 1] (by decide) rfl) hS (lv_sub hl [1, 2, 3, 0] rfl)
set_option maxHeartbeats 4000000 in
set_option maxRecDepth 100000 in
theorem kX2_shortest (l : Launch) (D : va_G) (g0 p1 b1 q1 t1 a1 l1 v1 M R n : Nat) (x : Int32) (dS : ClassId) (U : Nat → Int32) (sf : Nat → Nat) (hn : n ≤ 70) (hU : ∀ k, k < n → sf k < 256 ∧ U k = nI (sf k)) : gx_Mi l D yX2_shortest wsX2_shortest rmX2_shortest [.ref g0, .int x] [(dS, .int)] [(g0, .inr (2, [.ref p1, .ref b1, .int (nI M), .int (nI R), .int (nI n), .ref q1, .ref t1, .ref a1, .ref l1, .ref v1])), (q1, .inl (dS, 70, .inl U))] (S := Unit) (fun r (_ : Unit) => r = if sp_in x 8 = true then nI (shs sf x.toNatClampNeg n) else 0) (fun (_ : Unit) => [(g0, .inr (2, [.ref p1, .ref b1, .int (nI M), .int (nI R), .int (nI n), .ref q1, .ref t1, .ref a1, .ref l1, .ref v1])), (q1, .inl (dS, 70, .inl U))]) := by
  intro sz
  refine gx_start (cc := cX2_shortest) (maxL := 6) (ret := (some .int)) (Qc := fun A => va_Qi (fun r (_ : Unit) => r = if sp_in x 8 = true then nI (shs sf x.toNatClampNeg n) else 0) (gx_B D [(dS, .int)] A (fun (_ : Unit) => [(g0, .inr (2, [.ref p1, .ref b1, .int (nI M), .int (nI R), .int (nI n), .ref q1, .ref t1, .ref a1, .ref l1, .ref v1])), (q1, .inl (dS, 70, .inl U))])) A) (by decide) rfl (Nat.le_of_ble_eq_true rfl) ?_ sz
  intro p e s m below meth c A hbody ls hl
  obtain ⟨C0, hr, hlocks, hN, hK, hP, hD, hA⟩ := hbody
  have C0 : CallFix p m c cX2_shortest 6 s ([.ref g0, .int x] : List Value).toArray wsX2_shortest RX2 := C0
  obtain ⟨hx, hb, hml, hown, hts⟩ := id C0
  have hS : va_S A s.heap s.heap [] := va_S.rf
  have hl : lv_has ls 6 [(0, .ref g0), (1, .int x)] := hl
  refine lv_iload_n hx hb dX2_shortest_0 rfl (lv_at hl 1 rfl) ?_
  refine lv_if_lt (tgt := 10) hx hb dX2_shortest_1 (by decide) (fun c_1 => ?_) (fun c_1 => ?_)
  · have hz := sp_in_lo (n := 8) c_1
    refine lv_iconst (v := 0) hx hb dX2_shortest_10 (by decide) ?_
    exact gx_reti hx hb hr hlocks () (by rw [hz]; rfl) hK (hP.sub [0, 1] rfl) (hD.sub [0, 1] (by decide) rfl) hS dX2_shortest_11
  · refine lv_iload_n hx hb dX2_shortest_4 rfl (lv_at hl 1 rfl) ?_
    refine lv_bipush (v := nI 7) hx hb dX2_shortest_5 (by decide) ?_
    refine lv_icmp_le (tgt := 12) hx hb dX2_shortest_7 (by decide) (fun c_7 => ?_) (fun c_7 => ?_)
    · have hz := sp_8_ok c_1 (Int32.not_lt.mpr c_7)
      obtain ⟨j, hj, rfl⟩ := sp_in_t (by decide) hz
      refine lv_iconst (v := nI 0) hx hb dX2_shortest_12 (by decide) ?_
      refine lv_istore_n (lv' := [(2, .int (nI 0)), (0, .ref g0), (1, .int (nI j))]) hx hb dX2_shortest_13 rfl hl (by decide) rfl (fun ls hl => ?_)
      refine lv_iconst (v := nI 0) hx hb dX2_shortest_14 (by decide) ?_
      refine lv_istore_n (lv' := [(3, .int (nI 0)), (2, .int (nI 0)), (0, .ref g0), (1, .int (nI j))]) hx hb dX2_shortest_15 rfl hl (by decide) rfl (fun ls hl => ?_)
      refine lpX2_shortest C0 hN hA hn hU hj hK (fun H locs ls hP hD hS hl => ?_) (n + 1) 0 0 _ _ _ (by omega) rfl (hP.sub [0, 1] rfl) (hD.sub [0, 1] (by decide) rfl) hS (lv_sub hl [2, 3, 1, 0] rfl)
      refine lv_iload_n hx hb dX2_shortest_94 rfl (lv_at hl 2 rfl) ?_
      exact gx_reti hx hb hr hlocks () (by rw [hz, nI_clamp (by omega)]; rfl) hK (hP.sub [0, 1] rfl) (hD.sub [0, 1] (by decide) rfl) hS dX2_shortest_95
    · have hz := sp_8_hi (Int32.not_le.mp c_7)
      refine lv_iconst (v := 0) hx hb dX2_shortest_10 (by decide) ?_
      exact gx_reti hx hb hr hlocks () (by rw [hz]; rfl) hK (hP.sub [0, 1] rfl) (hD.sub [0, 1] (by decide) rfl) hS dX2_shortest_11
end
section
/-! the reference's elimination and signs -/
theorem qt_ne {v d : Int64} (h : ¬ d = 0) : v / d = qt v d := (if_neg h).symm
def ci_I (K0 K : Nat → Int64) (i row : Nat) (ld f bf : Int64) (j : Nat) : Prop := ∀ r q, q < 8 → K (r * 8 + q) = if r = i ∧ q < j then qt (ld * K0 (i * 8 + q) - f * K0 (row * 8 + q)) bf else K0 (r * 8 + q)
theorem ci_0 (K0 : Nat → Int64) (i row : Nat) (ld f bf : Int64) : ci_I K0 K0 i row ld f bf 0 := fun r q _ => by rw [if_neg (by omega)]
theorem ci_s {K0 K : Nat → Int64} {i row : Nat} {ld f bf : Int64} {j : Nat} (hir : i ≠ row) (hj : j < 8) (h : ci_I K0 K i row ld f bf j) : ci_I K0 (vp_updL K (i * 8 + j) (qt (ld * K (i * 8 + j) - f * K (row * 8 + j)) bf)) i row ld f bf (j + 1) := by
  have e1 : K (i * 8 + j) = K0 (i * 8 + j) := by rw [h i j hj, if_neg (by omega)]
  have e2 : K (row * 8 + j) = K0 (row * 8 + j) := by rw [h row j hj, if_neg (by omega)]
  intro r q hq
  by_cases hx : r = i ∧ q = j
  · obtain ⟨rfl, rfl⟩ := hx
    rw [updL_at, e1, e2, if_pos ⟨rfl, Nat.lt_succ_self q⟩]
  · rw [updL_ne (ix_ne hq hj (by omega)), h r q hq]
    by_cases h1 : r = i ∧ q < j
    · rw [if_pos h1, if_pos ⟨h1.1, by omega⟩]
    · rw [if_neg h1, if_neg (by omega)]
def cm_I (K0 K : Nat → Int64) (row c : Nat) (bf : Int64) (i : Nat) : Prop := ∀ r q, q < 8 → K (r * 8 + q) = if r < i ∧ r ≠ row then qt (K0 (row * 8 + c) * K0 (r * 8 + q) - K0 (r * 8 + c) * K0 (row * 8 + q)) bf else K0 (r * 8 + q)
theorem cm_0 (K0 : Nat → Int64) (row c : Nat) (bf : Int64) : cm_I K0 K0 row c bf 0 := fun r q _ => by rw [if_neg (by omega)]
theorem cm_skip {K0 K : Nat → Int64} {row c : Nat} {bf : Int64} (h : cm_I K0 K row c bf row) : cm_I K0 K row c bf (row + 1) := by
  intro r q hq
  rw [h r q hq]
  by_cases h1 : r < row ∧ r ≠ row
  · rw [if_pos h1, if_pos (by omega)]
  · rw [if_neg h1, if_neg (by omega)]
theorem cm_s {K0 K K' : Nat → Int64} {row c : Nat} {bf : Int64} {i : Nat} (hir : i ≠ row) (hc : c < 8) (h : cm_I K0 K row c bf i) (h2 : ci_I K K' i row (K0 (row * 8 + c)) (K (i * 8 + c)) bf 8) : cm_I K0 K' row c bf (i + 1) := by
  have e1 : ∀ q, q < 8 → K (i * 8 + q) = K0 (i * 8 + q) := fun q hq => by rw [h i q hq, if_neg (by omega)]
  have e2 : ∀ q, q < 8 → K (row * 8 + q) = K0 (row * 8 + q) := fun q hq => by rw [h row q hq, if_neg (by omega)]
  intro r q hq
  rw [h2 r q hq]
  by_cases h1 : r = i
  · subst h1
    rw [if_pos ⟨rfl, hq⟩, if_pos ⟨Nat.lt_succ_self r, hir⟩, e1 q hq, e1 c hc, e2 q hq]
  · rw [if_neg (fun z => h1 z.1), h r q hq]
    by_cases h5 : r < i ∧ r ≠ row
    · rw [if_pos h5, if_pos (by omega)]
    · rw [if_neg h5, if_neg (by omega)]
/-! signs -/
def sgd (S V : Nat) (F : Nat → Int64) : Prop := (∀ i, i < 8 → S.testBit i = true → F i ≠ 0) ∧ dirS S V (fun j => decide (0 < F j)) ≠ 0
def nrs (S V j i : Nat) : Prop := j ≤ i ∧ i < 8 ∧ S.testBit i = true ∧ V.testBit i = false
def sgI (S V : Nat) (F : Nat → Int64) (j : Nat) (sg fi : Int32) : Prop :=
  (∀ i, j ≤ i → i < 8 → S.testBit i = true → F i ≠ 0) ∧
  ((sg = 0 ∧ ∀ i, ¬ nrs S V j i) ∨ (sg = 1 ∧ (∃ i, nrs S V j i) ∧ ∀ i, nrs S V j i → 0 < F i) ∨ (sg = -1 ∧ (∃ i, nrs S V j i) ∧ ∀ i, nrs S V j i → ¬ 0 < F i)) ∧
  ((∀ i, j ≤ i → i < 8 → S.testBit i = false) ∨ ∃ i, j ≤ i ∧ i < 8 ∧ S.testBit i = true ∧ (∀ i', j ≤ i' → i' < i → S.testBit i' = false) ∧ fi = if 0 < F i then 1 else -1)
theorem sg_start {S V R : Nat} {F : Nat → Int64} (hS : S < 2 ^ R) : sgI S V F R 0 0 := by
  have hz : ∀ i, R ≤ i → S.testBit i = false := fun i h => Nat.testBit_lt_two_pow (Nat.lt_of_lt_of_le hS (Nat.pow_le_pow_right (by decide) h))
  refine ⟨fun i h1 _ h2 => ?_, Or.inl ⟨rfl, fun i h => ?_⟩, Or.inl (fun i h1 _ => hz i h1)⟩
  · rw [hz i h1] at h2; cases h2
  · have h2 := h.2.2.1
    rw [hz i h.1] at h2; cases h2
theorem nrs_skip {S V j i : Nat} (h : S.testBit j = false ∨ V.testBit j = true) (hn : nrs S V j i) : nrs S V (j + 1) i := by
  refine ⟨?_, hn.2⟩
  have h1 := hn.1
  by_cases hij : i = j
  · subst hij
    rcases h with h | h
    · rw [hn.2.2.1] at h; cases h
    · rw [hn.2.2.2] at h; cases h
  · omega
theorem nrs_up {S V j i : Nat} (hn : nrs S V (j + 1) i) : nrs S V j i := ⟨by have := hn.1; omega, hn.2⟩
theorem sg_mid {S V j : Nat} {F : Nat → Int64} {sg : Int32} (h : S.testBit j = false ∨ V.testBit j = true) (hI : (sg = 0 ∧ ∀ i, ¬ nrs S V (j + 1) i) ∨ (sg = 1 ∧ (∃ i, nrs S V (j + 1) i) ∧ ∀ i, nrs S V (j + 1) i → 0 < F i) ∨ (sg = -1 ∧ (∃ i, nrs S V (j + 1) i) ∧ ∀ i, nrs S V (j + 1) i → ¬ 0 < F i)) : (sg = 0 ∧ ∀ i, ¬ nrs S V j i) ∨ (sg = 1 ∧ (∃ i, nrs S V j i) ∧ ∀ i, nrs S V j i → 0 < F i) ∨ (sg = -1 ∧ (∃ i, nrs S V j i) ∧ ∀ i, nrs S V j i → ¬ 0 < F i) := by
  rcases hI with ⟨h1, h2⟩ | ⟨h1, ⟨i, hi⟩, h2⟩ | ⟨h1, ⟨i, hi⟩, h2⟩
  · exact Or.inl ⟨h1, fun i hn => h2 i (nrs_skip h hn)⟩
  · exact Or.inr (Or.inl ⟨h1, ⟨i, nrs_up hi⟩, fun i hn => h2 i (nrs_skip h hn)⟩)
  · exact Or.inr (Or.inr ⟨h1, ⟨i, nrs_up hi⟩, fun i hn => h2 i (nrs_skip h hn)⟩)
theorem sg_skip {S V j : Nat} {F : Nat → Int64} {sg fi : Int32} (hb : S.testBit j = false) (h : sgI S V F (j + 1) sg fi) : sgI S V F j sg fi := by
  obtain ⟨h1, h2, h3⟩ := h
  have hne : ∀ {i}, S.testBit i = true → i ≠ j := fun hi q => by rw [q, hb] at hi; cases hi
  refine ⟨fun i a b d => h1 i (by have := hne d; omega) b d, sg_mid (Or.inl hb) h2, ?_⟩
  rcases h3 with h3 | ⟨i, a, b, d, g, k⟩
  · refine Or.inl (fun i a b => ?_)
    by_cases hij : i = j
    · rw [hij]; exact hb
    · exact h3 i (by omega) b
  · refine Or.inr ⟨i, by omega, b, d, fun i' q1 q2 => ?_, k⟩
    by_cases hij : i' = j
    · rw [hij]; exact hb
    · exact g i' (by omega) q2
theorem sg_nz {S V j : Nat} {F : Nat → Int64} {sg fi : Int32} (hz : F j ≠ 0) (h : sgI S V F (j + 1) sg fi) : ∀ i, j ≤ i → i < 8 → S.testBit i = true → F i ≠ 0 := by
  intro i a b d
  by_cases hij : i = j
  · rw [hij]; exact hz
  · exact h.1 i (by omega) b d
theorem sg_fi {S j : Nat} {F : Nat → Int64} {s : Int32} (hj : j < 8) (hb : S.testBit j = true) (hs : s = if 0 < F j then 1 else -1) : (∀ i, j ≤ i → i < 8 → S.testBit i = false) ∨ ∃ i, j ≤ i ∧ i < 8 ∧ S.testBit i = true ∧ (∀ i', j ≤ i' → i' < i → S.testBit i' = false) ∧ s = if 0 < F i then 1 else -1 := Or.inr ⟨j, Nat.le_refl j, hj, hb, fun i' a b => absurd a (by omega), hs⟩
theorem sg_rev {S V j : Nat} {F : Nat → Int64} {sg fi s : Int32} (hj : j < 8) (hb : S.testBit j = true) (hz : F j ≠ 0) (hv : V.testBit j = true) (hs : s = if 0 < F j then 1 else -1) (h : sgI S V F (j + 1) sg fi) : sgI S V F j sg s := ⟨sg_nz hz h, sg_mid (Or.inr hv) h.2.1, sg_fi hj hb hs⟩
theorem sg_pos {S V j : Nat} {F : Nat → Int64} {sg fi : Int32} (hj : j < 8) (hb : S.testBit j = true) (hz : F j ≠ 0) (hv : V.testBit j = false) (hp : 0 < F j) (hc : ¬ sg = -1) (h : sgI S V F (j + 1) sg fi) : sgI S V F j 1 1 := by
  refine ⟨sg_nz hz h, Or.inr (Or.inl ⟨rfl, ⟨j, Nat.le_refl j, hj, hb, hv⟩, fun i hn => ?_⟩), sg_fi hj hb (by rw [if_pos hp])⟩
  by_cases hij : i = j
  · rw [hij]; exact hp
  · have hn' : nrs S V (j + 1) i := ⟨by have := hn.1; omega, hn.2⟩
    rcases h.2.1 with ⟨-, h2⟩ | ⟨-, -, h2⟩ | ⟨h1, -⟩
    · exact absurd hn' (h2 i)
    · exact h2 i hn'
    · exact absurd h1 hc
theorem sg_neg {S V j : Nat} {F : Nat → Int64} {sg fi : Int32} (hj : j < 8) (hb : S.testBit j = true) (hz : F j ≠ 0) (hv : V.testBit j = false) (hp : ¬ 0 < F j) (hc : ¬ sg = 1) (h : sgI S V F (j + 1) sg fi) : sgI S V F j (-1) (-1) := by
  refine ⟨sg_nz hz h, Or.inr (Or.inr ⟨rfl, ⟨j, Nat.le_refl j, hj, hb, hv⟩, fun i hn => ?_⟩), sg_fi hj hb (by rw [if_neg hp])⟩
  by_cases hij : i = j
  · rw [hij]; exact hp
  · have hn' : nrs S V (j + 1) i := ⟨by have := hn.1; omega, hn.2⟩
    rcases h.2.1 with ⟨-, h2⟩ | ⟨h1, -⟩ | ⟨-, -, h2⟩
    · exact absurd hn' (h2 i)
    · exact absurd h1 hc
    · exact h2 i hn'
theorem sgd_zero {S V j : Nat} {F : Nat → Int64} (hj : j < 8) (hb : S.testBit j = true) (hz : F j = 0) : ¬ sgd S V F := fun h => h.1 j hj hb hz
theorem sgd_mix {S V a b : Nat} {F : Nat → Int64} (ha : nrs S V 0 a) (hb : nrs S V 0 b) (hpa : 0 < F a) (hpb : ¬ 0 < F b) : ¬ sgd S V F := by
  intro h
  refine h.2 ?_
  unfold dirS
  rw [if_neg, if_neg, if_neg]
  · intro q
    have := al8_t.mp q a ha.2.1
    rw [ha.2.2.1, ha.2.2.2] at this
    dsimp only at this
    rw [decide_eq_true hpa] at this
    cases this
  · intro q
    have := al8_t.mp q b hb.2.1
    rw [hb.2.2.1, hb.2.2.2] at this
    dsimp only at this
    rw [decide_eq_false hpb] at this
    cases this
  · intro q
    have := al8_t.mp q a ha.2.1
    rw [ha.2.2.1, ha.2.2.2] at this
    cases this
theorem nrs_0 {S V j i : Nat} (h : nrs S V j i) : nrs S V 0 i := ⟨Nat.zero_le i, h.2⟩
theorem sgd_p {S V j : Nat} {F : Nat → Int64} {sg fi : Int32} (hj : j < 8) (hb : S.testBit j = true) (hv : V.testBit j = false) (hp : 0 < F j) (hc : sg = -1) (h : sgI S V F (j + 1) sg fi) : ¬ sgd S V F := by
  rcases h.2.1 with ⟨h1, -⟩ | ⟨h1, -⟩ | ⟨-, ⟨i, hi⟩, h2⟩
  · rw [hc] at h1; exact absurd h1 (by decide)
  · rw [hc] at h1; exact absurd h1 (by decide)
  · exact sgd_mix ⟨Nat.zero_le j, hj, hb, hv⟩ (nrs_0 hi) hp (h2 i hi)
theorem sgd_n {S V j : Nat} {F : Nat → Int64} {sg fi : Int32} (hj : j < 8) (hb : S.testBit j = true) (hv : V.testBit j = false) (hp : ¬ 0 < F j) (hc : sg = 1) (h : sgI S V F (j + 1) sg fi) : ¬ sgd S V F := by
  rcases h.2.1 with ⟨h1, -⟩ | ⟨-, ⟨i, hi⟩, h2⟩ | ⟨h1, -⟩
  · rw [hc] at h1; exact absurd h1 (by decide)
  · exact sgd_mix (nrs_0 hi) ⟨Nat.zero_le j, hj, hb, hv⟩ (h2 i hi) hp
  · rw [hc] at h1; exact absurd h1 (by decide)
theorem rev_all {S V : Nat} (h : ∀ i, ¬ nrs S V 0 i) : al8 (fun j => !(S.testBit j) || V.testBit j) = true := by
  rw [al8_t]
  intro j hj
  cases hs : S.testBit j with
  | false => rfl
  | true =>
    cases hv : V.testBit j with
    | true => rfl
    | false => exact absurd ⟨Nat.zero_le j, hj, hs, hv⟩ (h j)
theorem rev_not {S V i : Nat} (h : nrs S V 0 i) : ¬ al8 (fun j => !(S.testBit j) || V.testBit j) = true := by
  intro q
  have := al8_t.mp q i h.2.1
  rw [h.2.2.1, h.2.2.2] at this
  cases this
theorem least_nth {S i : Nat} (hi : i < 8) (hb : S.testBit i = true) (hl : ∀ i', 0 ≤ i' → i' < i → S.testBit i' = false) : mx_nth S 0 = i := by
  have hc : ∀ k, k ≤ i → mx_cnt S k = 0 := by
    intro k
    induction k with
    | zero => intro _; rfl
    | succ k ih => intro hk; rw [mx_cnt_out (hl k (Nat.zero_le k) (by omega))]; exact ih (by omega)
  rw [← hc i (Nat.le_refl i)]
  exact mx_nth_cnt hb hi
theorem sg_d0 {S V : Nat} {F : Nat → Int64} {sg fi : Int32} (hS : S < 256) (h0 : 0 < S) (hz : sg = 0) (h : sgI S V F 0 sg fi) : fi = dirS S V (fun j => decide (0 < F j)) := by
  obtain ⟨h1, h2, h3⟩ := h
  have hr : ∀ i, ¬ nrs S V 0 i := by
    rcases h2 with ⟨-, h2⟩ | ⟨q, -⟩ | ⟨q, -⟩
    · exact h2
    · rw [hz] at q; exact absurd q (by decide)
    · rw [hz] at q; exact absurd q (by decide)
  rcases h3 with h3 | ⟨i, -, b, d, g, k⟩
  · have hn := mx_nth_in (S := S) (t := 0) (nz_cnt S hS h0)
    rw [h3 _ (Nat.zero_le _) hn.1] at hn
    cases hn.2.1
  · unfold dirS
    rw [if_pos (rev_all hr), least_nth b d g, k]
    by_cases hp : 0 < F i
    · rw [if_pos hp, if_pos (decide_eq_true hp)]
    · rw [if_neg hp, if_neg (fun q => hp (of_decide_eq_true q))]
theorem sg_d1 {S V : Nat} {F : Nat → Int64} {sg fi : Int32} (hz : ¬ sg = 0) (h : sgI S V F 0 sg fi) : sg = dirS S V (fun j => decide (0 < F j)) := by
  rcases h.2.1 with ⟨q, -⟩ | ⟨q, ⟨i, hi⟩, h2⟩ | ⟨q, ⟨i, hi⟩, h2⟩
  · exact absurd q hz
  · unfold dirS
    rw [if_neg (rev_not hi), if_pos, q]
    rw [al8_t]
    intro j hj
    cases hs : S.testBit j with
    | false => rfl
    | true =>
      cases hv : V.testBit j with
      | true => rfl
      | false => exact decide_eq_true (h2 j ⟨Nat.zero_le j, hj, hs, hv⟩)
  · unfold dirS
    rw [if_neg (rev_not hi), if_neg, if_pos, q]
    · rw [al8_t]
      intro j hj
      cases hs : S.testBit j with
      | false => rfl
      | true =>
        cases hv : V.testBit j with
        | true => rfl
        | false =>
          have h4 := h2 j ⟨Nat.zero_le j, hj, hs, hv⟩
          show (!decide (0 < F j)) = true
          rw [decide_eq_false h4]
          rfl
    · intro q2
      have := al8_t.mp q2 i hi.2.1
      rw [hi.2.2.1, hi.2.2.2] at this
      dsimp only at this
      rw [decide_eq_false (h2 i hi)] at this
      cases this
theorem dirS_ne0 {S V : Nat} {F : Nat → Int64} {sg fi d : Int32} (hd : d = dirS S V (fun j => decide (0 < F j))) (h : sgI S V F 0 sg fi) (hd2 : d = sg ∧ ¬ sg = 0 ∨ sg = 0 ∧ d = fi) (hS : S < 256) (h0 : 0 < S) : sgd S V F := by
  refine ⟨fun i hi hb => h.1 i (Nat.zero_le i) hi hb, ?_⟩
  rw [← hd]
  rcases hd2 with ⟨e, hn⟩ | ⟨-, e⟩
  · rw [e]; exact hn
  · rcases h.2.2 with h3 | ⟨i, -, b, dd, g, k⟩
    · have hn := mx_nth_in (S := S) (t := 0) (nz_cnt S hS h0)
      rw [h3 _ (Nat.zero_le _) hn.1] at hn
      cases hn.2.1
    · rw [e, k]
      split <;> decide
def ml_I (F0 F : Nat → Int64) (d : Int32) (j : Nat) : Prop := ∀ i, i < 8 → F i = if i < j then d.toInt64 * F0 i else F0 i
theorem ml_0 (F0 : Nat → Int64) (d : Int32) : ml_I F0 F0 d 0 := fun i _ => by rw [if_neg (Nat.not_lt_zero i)]
theorem ml_s {F0 F : Nat → Int64} {d : Int32} {j : Nat} (hj : j < 8) (h : ml_I F0 F d j) : ml_I F0 (vp_updL F j (d.toInt64 * F j)) d (j + 1) := by
  intro i hi
  by_cases hij : i = j
  · subst hij
    rw [updL_at, if_pos (Nat.lt_succ_self i), h i hi, if_neg (Nat.lt_irrefl i)]
  · rw [updL_ne hij, h i hi]
    by_cases h1 : i < j
    · rw [if_pos h1, if_pos (by omega)]
    · rw [if_neg h1, if_neg (by omega)]
theorem ab_p {x : Int} (hx : x.natAbs ≤ 382637520) (h : ¬ Int64.ofInt x < 0) : Int64.ofInt x = lN x.natAbs := by
  rw [Int64.lt_iff_toInt_lt, l64_toInt hx] at h
  have h0 : (0 : Int64).toInt = 0 := by decide
  rw [lN_ofInt, show ((x.natAbs : Nat) : Int) = x by omega]
theorem ab_m {x : Int} (hx : x.natAbs ≤ 382637520) (h : Int64.ofInt x < 0) : -Int64.ofInt x = lN x.natAbs := by
  rw [Int64.lt_iff_toInt_lt, l64_toInt hx] at h
  have h0 : (0 : Int64).toInt = 0 := by decide
  rw [lN_ofInt, ← Int64.ofInt_neg, show ((x.natAbs : Nat) : Int) = -x by omega]
theorem gdv_0 {x : Nat → Nat} : ∀ {j : Nat}, gdv x j = 0 → ∀ i, i < j → x i = 0
  | 0, _, i, h => absurd h (Nat.not_lt_zero i)
  | j + 1, h, i, hi => by
    have h1 : Nat.gcd (gdv x j) (x j) = 0 := h
    rw [Nat.gcd_eq_zero_iff] at h1
    by_cases hij : i = j
    · rw [hij]; exact h1.2
    · exact gdv_0 h1.1 i (by omega)
theorem gdv_congr {x y : Nat → Nat} : ∀ {j : Nat}, (∀ i, i < j → x i = y i) → gdv x j = gdv y j
  | 0, _ => rfl
  | j + 1, h => by
    show Nat.gcd (gdv x j) (x j) = Nat.gcd (gdv y j) (y j)
    rw [gdv_congr (j := j) (fun i hi => h i (by omega)), h j (by omega)]
end
section
abbrev rmX2_exchange : Room := { frames := 0, cells := 0, slots := 0, locals := 0 }
theorem iw_X2_exchange_X2 : ∀ w ∈ wsX20, w ∈ wsX2_exchange := by decide +kernel
theorem kw_X2_exchange_23 : Cond.fieldLink RX2 23 "FluxModesModel" "a" "[J" ∈ wsX2_exchange := by decide +kernel
set_option maxHeartbeats 4000000 in
set_option maxRecDepth 100000 in
theorem lpX2_exchange {p : Program} {l : Launch} {e : Env} {s : State} {m : MethodId} {args : Array Value} {below : List Frame} {meth : Method} {c : Code} {Q : State → Prop} {D : va_G} {A : Nat → Prop} {H0 : Heap} (C0 : CallFix p m c cX2_exchange 6 s args wsX2_exchange RX2) (hN : gx_N s) (hA : ∀ q : Nat, H0.size ≤ q → A q) {g0 p1 b1 q1 t1 a1 l1 v1 M R n : Nat} {a b : Nat} {dA : ClassId} {K0 : Nat → Int64} (ha6 : a < 6) (hb6 : b < 6) (hK : va_K D vwCl [(dA, .long)] s) (kk : ∀ (K : Nat → Int64) (H : Heap) (locs : List Loc) (ls : Array Slot), (sw_I K0 K a b 8) → va_P D vwCl [(g0, .inr (2, [.ref p1, .ref b1, .int (nI M), .int (nI R), .int (nI n), .ref q1, .ref t1, .ref a1, .ref l1, .ref v1])), (a1, .inl (dA, 48, .inr (.inl K)))] H → va_D A [(g0, .inr (2, [.ref p1, .ref b1, .int (nI M), .int (nI R), .int (nI n), .ref q1, .ref t1, .ref a1, .ref l1, .ref v1])), (a1, .inl (dA, 48, .inr (.inl K)))] → va_S A H0 H locs → lv_has ls 6 [(0, .ref g0), (1, .int (nI a)), (2, .int (nI b)), (3, .int (nI 8))] → W p l e rmX2_exchange s m args below meth c H locs 0 0 Q (F0 m 62 ls [])) : ∀ (n_ : Nat) (i : Nat) (K : Nat → Int64) (H : Heap) (locs : List Loc) (ls : Array Slot), (i ≤ 8 ∧ 8 < i + n_) → (sw_I K0 K a b i) → va_P D vwCl [(g0, .inr (2, [.ref p1, .ref b1, .int (nI M), .int (nI R), .int (nI n), .ref q1, .ref t1, .ref a1, .ref l1, .ref v1])), (a1, .inl (dA, 48, .inr (.inl K)))] H → va_D A [(g0, .inr (2, [.ref p1, .ref b1, .int (nI M), .int (nI R), .int (nI n), .ref q1, .ref t1, .ref a1, .ref l1, .ref v1])), (a1, .inl (dA, 48, .inr (.inl K)))] → va_S A H0 H locs → lv_has ls 6 [(0, .ref g0), (1, .int (nI a)), (2, .int (nI b)), (3, .int (nI i))] → W p l e rmX2_exchange s m args below meth c H locs 0 0 Q (F0 m 2 ls []) := by
  obtain ⟨hx, hb, hml, hown, hts⟩ := id C0
  intro n_
  induction n_ with
  | zero =>
    intro i K H locs ls hm
    exact absurd hm (by omega)
  | succ n_ ih =>
    intro i K H locs ls hm hI hP hD hS hl
    refine lv_iload_n hx hb dX2_exchange_2 rfl (lv_at hl 3 rfl) ?_
    refine lv_bipush (v := nI 8) hx hb dX2_exchange_3 (by decide) ?_
    refine gx_ge (tgt := 62) hx hb dX2_exchange_5 (by decide) (by omega) (by omega) (fun c_5 => ?_) (fun c_5 => ?_)
    · have hi8 : i = 8 := by omega
      subst hi8
      exact kk _ _ _ _ hI (hP.sub [0, 1] rfl) (hD.sub [0, 1] (by decide) rfl) hS (lv_sub hl [0, 1, 2, 3] rfl)
    · refine lv_aload_n hx hb dX2_exchange_8 rfl (lv_at hl 0 rfl) ?_
      refine va_get (D := D) (ci := 2) (v := .ref a1) (C := RX2) (T := TX2) (N := 10) hx hb hts iw_X2_exchange_X2 hown hK hP 0 rfl rfl 7 (by decide) (hts _ kw_X2_exchange_23) (fun _ h9 => h9) rfl dX2_exchange_9 ?_
      refine lv_bipush (v := nI 8) hx hb dX2_exchange_12 (by decide) ?_
      refine lv_iload_n hx hb dX2_exchange_14 rfl (lv_at hl 1 rfl) ?_
      refine lv_imul hx hb dX2_exchange_15 ?_
      refine gx_i (y := nI (a * 8)) ((pk_mul 8 a).trans (by rw [Nat.mul_comm])) ?_
      refine lv_iload_n hx hb dX2_exchange_16 rfl (lv_at hl 3 rfl) ?_
      refine lv_iadd hx hb dX2_exchange_17 ?_
      refine gx_i (y := nI (a * 8 + i)) (nI_add (a * 8) i) ?_
      refine gx_lald (q := a * 8 + i) hx hb hK hP 1 0 rfl rfl (rfl) (by omega) (by decide) dX2_exchange_18 ?_
      refine lv_lstore (lv' := [(4, .long (K (a * 8 + i))), (0, .ref g0), (1, .int (nI a)), (2, .int (nI b)), (3, .int (nI i))]) hx hb dX2_exchange_19 hl (by decide) rfl (fun ls hl => ?_)
      refine lv_aload_n hx hb dX2_exchange_21 rfl (lv_at hl 1 rfl) ?_
      refine va_get (D := D) (ci := 2) (v := .ref a1) (C := RX2) (T := TX2) (N := 10) hx hb hts iw_X2_exchange_X2 hown hK hP 0 rfl rfl 7 (by decide) (hts _ kw_X2_exchange_23) (fun _ h9 => h9) rfl dX2_exchange_22 ?_
      refine lv_bipush (v := nI 8) hx hb dX2_exchange_25 (by decide) ?_
      refine lv_iload_n hx hb dX2_exchange_27 rfl (lv_at hl 2 rfl) ?_
      refine lv_imul hx hb dX2_exchange_28 ?_
      refine gx_i (y := nI (a * 8)) ((pk_mul 8 a).trans (by rw [Nat.mul_comm])) ?_
      refine lv_iload_n hx hb dX2_exchange_29 rfl (lv_at hl 4 rfl) ?_
      refine lv_iadd hx hb dX2_exchange_30 ?_
      refine gx_i (y := nI (a * 8 + i)) (nI_add (a * 8) i) ?_
      refine lv_aload_n hx hb dX2_exchange_31 rfl (lv_at hl 1 rfl) ?_
      refine va_get (D := D) (ci := 2) (v := .ref a1) (C := RX2) (T := TX2) (N := 10) hx hb hts iw_X2_exchange_X2 hown hK hP 0 rfl rfl 7 (by decide) (hts _ kw_X2_exchange_23) (fun _ h9 => h9) rfl dX2_exchange_32 ?_
      refine lv_bipush (v := nI 8) hx hb dX2_exchange_35 (by decide) ?_
      refine lv_iload_n hx hb dX2_exchange_37 rfl (lv_at hl 3 rfl) ?_
      refine lv_imul hx hb dX2_exchange_38 ?_
      refine gx_i (y := nI (b * 8)) ((pk_mul 8 b).trans (by rw [Nat.mul_comm])) ?_
      refine lv_iload_n hx hb dX2_exchange_39 rfl (lv_at hl 4 rfl) ?_
      refine lv_iadd hx hb dX2_exchange_40 ?_
      refine gx_i (y := nI (b * 8 + i)) (nI_add (b * 8) i) ?_
      refine gx_lald (q := b * 8 + i) hx hb hK hP 1 0 rfl rfl (rfl) (by omega) (by decide) dX2_exchange_41 ?_
      refine gx_last (q := a * 8 + i) hx hb hK hP hD hS 1 0 rfl rfl (rfl) (by omega) (by decide) dX2_exchange_42 (fun H locs hP hD hS => ?_)
      have hP : va_P D vwCl [(g0, .inr (2, [.ref p1, .ref b1, .int (nI M), .int (nI R), .int (nI n), .ref q1, .ref t1, .ref a1, .ref l1, .ref v1])), (a1, .inl (dA, 48, .inr (.inl (vp_updL K (a * 8 + i) (K (b * 8 + i))))))] H := hP
      have hD : va_D A [(g0, .inr (2, [.ref p1, .ref b1, .int (nI M), .int (nI R), .int (nI n), .ref q1, .ref t1, .ref a1, .ref l1, .ref v1])), (a1, .inl (dA, 48, .inr (.inl (vp_updL K (a * 8 + i) (K (b * 8 + i))))))] := hD
      refine lv_aload_n hx hb dX2_exchange_43 rfl (lv_at hl 1 rfl) ?_
      refine va_get (D := D) (ci := 2) (v := .ref a1) (C := RX2) (T := TX2) (N := 10) hx hb hts iw_X2_exchange_X2 hown hK hP 0 rfl rfl 7 (by decide) (hts _ kw_X2_exchange_23) (fun _ h9 => h9) rfl dX2_exchange_44 ?_
      refine lv_bipush (v := nI 8) hx hb dX2_exchange_47 (by decide) ?_
      refine lv_iload_n hx hb dX2_exchange_49 rfl (lv_at hl 3 rfl) ?_
      refine lv_imul hx hb dX2_exchange_50 ?_
      refine gx_i (y := nI (b * 8)) ((pk_mul 8 b).trans (by rw [Nat.mul_comm])) ?_
      refine lv_iload_n hx hb dX2_exchange_51 rfl (lv_at hl 4 rfl) ?_
      refine lv_iadd hx hb dX2_exchange_52 ?_
      refine gx_i (y := nI (b * 8 + i)) (nI_add (b * 8) i) ?_
      refine lv_lload hx hb dX2_exchange_53 (lv_at hl 0 rfl) ?_
      refine gx_last (q := b * 8 + i) hx hb hK hP hD hS 1 0 rfl rfl (rfl) (by omega) (by decide) dX2_exchange_55 (fun H locs hP hD hS => ?_)
      have hP : va_P D vwCl [(g0, .inr (2, [.ref p1, .ref b1, .int (nI M), .int (nI R), .int (nI n), .ref q1, .ref t1, .ref a1, .ref l1, .ref v1])), (a1, .inl (dA, 48, .inr (.inl (vp_updL (vp_updL K (a * 8 + i) (K (b * 8 + i))) (b * 8 + i) (K (a * 8 + i))))))] H := hP
      have hD : va_D A [(g0, .inr (2, [.ref p1, .ref b1, .int (nI M), .int (nI R), .int (nI n), .ref q1, .ref t1, .ref a1, .ref l1, .ref v1])), (a1, .inl (dA, 48, .inr (.inl (vp_updL (vp_updL K (a * 8 + i) (K (b * 8 + i))) (b * 8 + i) (K (a * 8 + i))))))] := hD
      refine lv_iinc (v := nI (i + 1)) (lv' := [(3, .int (nI (i + 1))), (4, .long (K (a * 8 + i))), (0, .ref g0), (1, .int (nI a)), (2, .int (nI b))]) hx hb dX2_exchange_56 hl (k := 4) rfl ((nI_succ i).symm) (by decide) rfl (fun ls hl => ?_)
      refine lv_goto (tgt := 2) hx hb dX2_exchange_59 (by decide) ?_
      exact ih (i + 1) _ _ _ _ (by omega) (sw_s (by omega) hI) (hP.sub [0, 1] rfl) (hD.sub [0, 1] (by decide) rfl) hS (lv_sub hl [2, 3, 4, 0] rfl)
set_option maxHeartbeats 4000000 in
set_option maxRecDepth 100000 in
theorem kX2_exchange (l : Launch) (D : va_G) (g0 p1 b1 q1 t1 a1 l1 v1 M R n : Nat) (a b : Nat) (dA : ClassId) (K : Nat → Int64) (ha6 : a < 6) (hb6 : b < 6) : gx_Mv l D yX2_exchange wsX2_exchange rmX2_exchange [.ref g0, .int (nI a), .int (nI b)] [(dA, .long)] [(g0, .inr (2, [.ref p1, .ref b1, .int (nI M), .int (nI R), .int (nI n), .ref q1, .ref t1, .ref a1, .ref l1, .ref v1])), (a1, .inl (dA, 48, .inr (.inl K)))] (S := Nat → Int64) (fun (u : Nat → Int64) => sw_I K u a b 8) (fun (u : Nat → Int64) => [(g0, .inr (2, [.ref p1, .ref b1, .int (nI M), .int (nI R), .int (nI n), .ref q1, .ref t1, .ref a1, .ref l1, .ref v1])), (a1, .inl (dA, 48, .inr (.inl u)))]) := by
  intro sz
  refine gx_start (cc := cX2_exchange) (maxL := 6) (ret := none) (Qc := fun A => va_Qv (fun (u : Nat → Int64) => sw_I K u a b 8) (gx_B D [(dA, .long)] A (fun (u : Nat → Int64) => [(g0, .inr (2, [.ref p1, .ref b1, .int (nI M), .int (nI R), .int (nI n), .ref q1, .ref t1, .ref a1, .ref l1, .ref v1])), (a1, .inl (dA, 48, .inr (.inl u)))])) A) (by decide) rfl (Nat.le_of_ble_eq_true rfl) ?_ sz
  intro p e s m below meth c A hbody ls hl
  obtain ⟨C0, hr, hlocks, hN, hK, hP, hD, hA⟩ := hbody
  have C0 : CallFix p m c cX2_exchange 6 s ([.ref g0, .int (nI a), .int (nI b)] : List Value).toArray wsX2_exchange RX2 := C0
  obtain ⟨hx, hb, hml, hown, hts⟩ := id C0
  have hS : va_S A s.heap s.heap [] := va_S.rf
  have hl : lv_has ls 6 [(0, .ref g0), (1, .int (nI a)), (2, .int (nI b))] := hl
  refine lv_iconst (v := nI 0) hx hb dX2_exchange_0 (by decide) ?_
  refine lv_istore_n (lv' := [(3, .int (nI 0)), (0, .ref g0), (1, .int (nI a)), (2, .int (nI b))]) hx hb dX2_exchange_1 rfl hl (by decide) rfl (fun ls hl => ?_)
  refine lpX2_exchange C0 hN hA ha6 hb6 hK (fun K1 H locs ls hI hP hD hS hl => ?_) 9 0 K _ _ _ (by omega) (sw_0 K a b) (hP.sub [0, 1] rfl) (hD.sub [0, 1] (by decide) rfl) hS (lv_sub hl [1, 2, 3, 0] rfl)
  exact gx_retv hx hb hr hlocks K1 (hI) hK (hP.sub [0, 1] rfl) (hD.sub [0, 1] (by decide) rfl) hS dX2_exchange_62
abbrev rmX2_clear : Room := { frames := 0, cells := 0, slots := 0, locals := 0 }
theorem iw_X2_clear_X2 : ∀ w ∈ wsX20, w ∈ wsX2_clear := by decide +kernel
theorem kw_X2_clear_23 : Cond.fieldLink RX2 23 "FluxModesModel" "a" "[J" ∈ wsX2_clear := by decide +kernel
theorem kw_X2_clear_37 : Cond.fieldLink RX2 37 "FluxModesModel" "m" "I" ∈ wsX2_clear := by decide +kernel
set_option maxHeartbeats 4000000 in
set_option maxRecDepth 100000 in
theorem lpX2_clear1 {p : Program} {l : Launch} {e : Env} {s : State} {m : MethodId} {args : Array Value} {below : List Frame} {meth : Method} {c : Code} {Q : State → Prop} {D : va_G} {A : Nat → Prop} {H0 : Heap} (C0 : CallFix p m c cX2_clear 11 s args wsX2_clear RX2) (hN : gx_N s) (hA : ∀ q : Nat, H0.size ≤ q → A q) {g0 p1 b1 q1 t1 a1 l1 v1 M R n : Nat} {row col : Nat} {bf ld : Int64} {dA : ClassId} {K0 : Nat → Int64} {i : Nat} {f : Int64} (hM6 : M ≤ 6) (hr6 : row < 6) (hc8 : col < 8) (hbf : ¬ bf = 0) (hi : i < M) (hir : i ≠ row) (hK : va_K D vwCl [(dA, .long)] s) (kk : ∀ (K : Nat → Int64) (H : Heap) (locs : List Loc) (ls : Array Slot), (ci_I K0 K i row ld f bf 8) → va_P D vwCl [(g0, .inr (2, [.ref p1, .ref b1, .int (nI M), .int (nI R), .int (nI n), .ref q1, .ref t1, .ref a1, .ref l1, .ref v1])), (a1, .inl (dA, 48, .inr (.inl K)))] H → va_D A [(g0, .inr (2, [.ref p1, .ref b1, .int (nI M), .int (nI R), .int (nI n), .ref q1, .ref t1, .ref a1, .ref l1, .ref v1])), (a1, .inl (dA, 48, .inr (.inl K)))] → va_S A H0 H locs → lv_has ls 11 [(0, .ref g0), (1, .int (nI row)), (2, .int (nI col)), (3, .long bf), (5, .long ld), (7, .int (nI i)), (8, .long f), (10, .int (nI 8))] → W p l e rmX2_clear s m args below meth c H locs 0 0 Q (F0 m 111 ls [])) : ∀ (n_ : Nat) (j : Nat) (K : Nat → Int64) (H : Heap) (locs : List Loc) (ls : Array Slot), (j ≤ 8 ∧ 8 < j + n_) → (ci_I K0 K i row ld f bf j) → va_P D vwCl [(g0, .inr (2, [.ref p1, .ref b1, .int (nI M), .int (nI R), .int (nI n), .ref q1, .ref t1, .ref a1, .ref l1, .ref v1])), (a1, .inl (dA, 48, .inr (.inl K)))] H → va_D A [(g0, .inr (2, [.ref p1, .ref b1, .int (nI M), .int (nI R), .int (nI n), .ref q1, .ref t1, .ref a1, .ref l1, .ref v1])), (a1, .inl (dA, 48, .inr (.inl K)))] → va_S A H0 H locs → lv_has ls 11 [(0, .ref g0), (1, .int (nI row)), (2, .int (nI col)), (3, .long bf), (5, .long ld), (7, .int (nI i)), (8, .long f), (10, .int (nI j))] → W p l e rmX2_clear s m args below meth c H locs 0 0 Q (F0 m 51 ls []) := by
  obtain ⟨hx, hb, hml, hown, hts⟩ := id C0
  intro n_
  induction n_ with
  | zero =>
    intro j K H locs ls hm
    exact absurd hm (by omega)
  | succ n_ ih =>
    intro j K H locs ls hm hI hP hD hS hl
    refine lv_iload hx hb dX2_clear_51 (lv_at hl 7 rfl) ?_
    refine lv_bipush (v := nI 8) hx hb dX2_clear_53 (by decide) ?_
    refine gx_ge (tgt := 111) hx hb dX2_clear_55 (by decide) (by omega) (by omega) (fun c_55 => ?_) (fun c_55 => ?_)
    · have hj8 : j = 8 := by omega
      subst hj8
      exact kk _ _ _ _ hI (hP.sub [0, 1] rfl) (hD.sub [0, 1] (by decide) rfl) hS (lv_sub hl [0, 1, 2, 3, 4, 5, 6, 7] rfl)
    · refine lv_aload_n hx hb dX2_clear_58 rfl (lv_at hl 0 rfl) ?_
      refine va_get (D := D) (ci := 2) (v := .ref a1) (C := RX2) (T := TX2) (N := 10) hx hb hts iw_X2_clear_X2 hown hK hP 0 rfl rfl 7 (by decide) (hts _ kw_X2_clear_23) (fun _ h9 => h9) rfl dX2_clear_59 ?_
      refine lv_bipush (v := nI 8) hx hb dX2_clear_62 (by decide) ?_
      refine lv_iload hx hb dX2_clear_64 (lv_at hl 5 rfl) ?_
      refine lv_imul hx hb dX2_clear_66 ?_
      refine gx_i (y := nI (i * 8)) ((pk_mul 8 i).trans (by rw [Nat.mul_comm])) ?_
      refine lv_iload hx hb dX2_clear_67 (lv_at hl 7 rfl) ?_
      refine lv_iadd hx hb dX2_clear_69 ?_
      refine gx_i (y := nI (i * 8 + j)) (nI_add (i * 8) j) ?_
      refine lv_lload hx hb dX2_clear_70 (lv_at hl 4 rfl) ?_
      refine lv_aload_n hx hb dX2_clear_72 rfl (lv_at hl 0 rfl) ?_
      refine va_get (D := D) (ci := 2) (v := .ref a1) (C := RX2) (T := TX2) (N := 10) hx hb hts iw_X2_clear_X2 hown hK hP 0 rfl rfl 7 (by decide) (hts _ kw_X2_clear_23) (fun _ h9 => h9) rfl dX2_clear_73 ?_
      refine lv_bipush (v := nI 8) hx hb dX2_clear_76 (by decide) ?_
      refine lv_iload hx hb dX2_clear_78 (lv_at hl 5 rfl) ?_
      refine lv_imul hx hb dX2_clear_80 ?_
      refine gx_i (y := nI (i * 8)) ((pk_mul 8 i).trans (by rw [Nat.mul_comm])) ?_
      refine lv_iload hx hb dX2_clear_81 (lv_at hl 7 rfl) ?_
      refine lv_iadd hx hb dX2_clear_83 ?_
      refine gx_i (y := nI (i * 8 + j)) (nI_add (i * 8) j) ?_
      refine gx_lald (q := i * 8 + j) hx hb hK hP 1 0 rfl rfl (rfl) (by omega) (by decide) dX2_clear_84 ?_
      refine lv_lmul hx hb dX2_clear_85 ?_
      refine lv_lload hx hb dX2_clear_86 (lv_at hl 6 rfl) ?_
      refine lv_aload_n hx hb dX2_clear_88 rfl (lv_at hl 0 rfl) ?_
      refine va_get (D := D) (ci := 2) (v := .ref a1) (C := RX2) (T := TX2) (N := 10) hx hb hts iw_X2_clear_X2 hown hK hP 0 rfl rfl 7 (by decide) (hts _ kw_X2_clear_23) (fun _ h9 => h9) rfl dX2_clear_89 ?_
      refine lv_bipush (v := nI 8) hx hb dX2_clear_92 (by decide) ?_
      refine lv_iload_n hx hb dX2_clear_94 rfl (lv_at hl 1 rfl) ?_
      refine lv_imul hx hb dX2_clear_95 ?_
      refine gx_i (y := nI (row * 8)) ((pk_mul 8 row).trans (by rw [Nat.mul_comm])) ?_
      refine lv_iload hx hb dX2_clear_96 (lv_at hl 7 rfl) ?_
      refine lv_iadd hx hb dX2_clear_98 ?_
      refine gx_i (y := nI (row * 8 + j)) (nI_add (row * 8) j) ?_
      refine gx_lald (q := row * 8 + j) hx hb hK hP 1 0 rfl rfl (rfl) (by omega) (by decide) dX2_clear_99 ?_
      refine lv_lmul hx hb dX2_clear_100 ?_
      refine lv_lsub hx hb dX2_clear_101 ?_
      refine lv_lload_n hx hb dX2_clear_102 rfl (lv_at hl 3 rfl) ?_
      refine lv_ldiv hx hb dX2_clear_103 hbf ?_
      refine gx_l (y := qt (ld * K (i * 8 + j) - f * K (row * 8 + j)) bf) (qt_ne hbf) ?_
      refine gx_last (q := i * 8 + j) hx hb hK hP hD hS 1 0 rfl rfl (rfl) (by omega) (by decide) dX2_clear_104 (fun H locs hP hD hS => ?_)
      have hP : va_P D vwCl [(g0, .inr (2, [.ref p1, .ref b1, .int (nI M), .int (nI R), .int (nI n), .ref q1, .ref t1, .ref a1, .ref l1, .ref v1])), (a1, .inl (dA, 48, .inr (.inl (vp_updL K (i * 8 + j) (qt (ld * K (i * 8 + j) - f * K (row * 8 + j)) bf)))))] H := hP
      have hD : va_D A [(g0, .inr (2, [.ref p1, .ref b1, .int (nI M), .int (nI R), .int (nI n), .ref q1, .ref t1, .ref a1, .ref l1, .ref v1])), (a1, .inl (dA, 48, .inr (.inl (vp_updL K (i * 8 + j) (qt (ld * K (i * 8 + j) - f * K (row * 8 + j)) bf)))))] := hD
      refine lv_iinc (v := nI (j + 1)) (lv' := [(10, .int (nI (j + 1))), (0, .ref g0), (1, .int (nI row)), (2, .int (nI col)), (3, .long bf), (5, .long ld), (7, .int (nI i)), (8, .long f)]) hx hb dX2_clear_105 hl (k := 7) rfl ((nI_succ j).symm) (by decide) rfl (fun ls hl => ?_)
      refine lv_goto (tgt := 51) hx hb dX2_clear_108 (by decide) ?_
      exact ih (j + 1) _ _ _ _ (by omega) (ci_s hir (by omega) hI) (hP.sub [0, 1] rfl) (hD.sub [0, 1] (by decide) rfl) hS (lv_sub hl [1, 2, 3, 4, 5, 6, 7, 0] rfl)
set_option maxHeartbeats 4000000 in
set_option maxRecDepth 100000 in
theorem lpX2_clear {p : Program} {l : Launch} {e : Env} {s : State} {m : MethodId} {args : Array Value} {below : List Frame} {meth : Method} {c : Code} {Q : State → Prop} {D : va_G} {A : Nat → Prop} {H0 : Heap} (C0 : CallFix p m c cX2_clear 11 s args wsX2_clear RX2) (hN : gx_N s) (hA : ∀ q : Nat, H0.size ≤ q → A q) {g0 p1 b1 q1 t1 a1 l1 v1 M R n : Nat} {row col : Nat} {bf ld : Int64} {dA : ClassId} {K0 : Nat → Int64} (hM6 : M ≤ 6) (hr6 : row < 6) (hc8 : col < 8) (hbf : ¬ bf = 0) (hld : ld = K0 (row * 8 + col)) (hK : va_K D vwCl [(dA, .long)] s) (kk : ∀ (K : Nat → Int64) (H : Heap) (locs : List Loc) (ls : Array Slot), (cm_I K0 K row col bf M) → va_P D vwCl [(g0, .inr (2, [.ref p1, .ref b1, .int (nI M), .int (nI R), .int (nI n), .ref q1, .ref t1, .ref a1, .ref l1, .ref v1])), (a1, .inl (dA, 48, .inr (.inl K)))] H → va_D A [(g0, .inr (2, [.ref p1, .ref b1, .int (nI M), .int (nI R), .int (nI n), .ref q1, .ref t1, .ref a1, .ref l1, .ref v1])), (a1, .inl (dA, 48, .inr (.inl K)))] → va_S A H0 H locs → lv_has ls 11 [(0, .ref g0), (1, .int (nI row)), (2, .int (nI col)), (3, .long bf), (5, .long ld), (7, .int (nI M))] → W p l e rmX2_clear s m args below meth c H locs 0 0 Q (F0 m 117 ls [])) : ∀ (n_ : Nat) (i : Nat) (K : Nat → Int64) (H : Heap) (locs : List Loc) (ls : Array Slot), (i ≤ M ∧ M < i + n_) → (cm_I K0 K row col bf i) → va_P D vwCl [(g0, .inr (2, [.ref p1, .ref b1, .int (nI M), .int (nI R), .int (nI n), .ref q1, .ref t1, .ref a1, .ref l1, .ref v1])), (a1, .inl (dA, 48, .inr (.inl K)))] H → va_D A [(g0, .inr (2, [.ref p1, .ref b1, .int (nI M), .int (nI R), .int (nI n), .ref q1, .ref t1, .ref a1, .ref l1, .ref v1])), (a1, .inl (dA, 48, .inr (.inl K)))] → va_S A H0 H locs → lv_has ls 11 [(0, .ref g0), (1, .int (nI row)), (2, .int (nI col)), (3, .long bf), (5, .long ld), (7, .int (nI i))] → W p l e rmX2_clear s m args below meth c H locs 0 0 Q (F0 m 16 ls []) := by
  obtain ⟨hx, hb, hml, hown, hts⟩ := id C0
  intro n_
  induction n_ with
  | zero =>
    intro i K H locs ls hm
    exact absurd hm (by omega)
  | succ n_ ih =>
    intro i K H locs ls hm hI hP hD hS hl
    refine lv_iload hx hb dX2_clear_16 (lv_at hl 5 rfl) ?_
    refine lv_aload_n hx hb dX2_clear_18 rfl (lv_at hl 0 rfl) ?_
    refine va_get (D := D) (ci := 2) (v := .int (nI M)) (C := RX2) (T := TX2) (N := 10) hx hb hts iw_X2_clear_X2 hown hK hP 0 rfl rfl 2 (by decide) (hts _ kw_X2_clear_37) (fun _ h9 => h9) rfl dX2_clear_19 ?_
    refine gx_ge (tgt := 117) hx hb dX2_clear_22 (by decide) (by omega) (by omega) (fun c_22 => ?_) (fun c_22 => ?_)
    · have hiM : i = M := by omega
      subst hiM
      exact kk _ _ _ _ hI (hP.sub [0, 1] rfl) (hD.sub [0, 1] (by decide) rfl) hS (lv_sub hl [0, 1, 2, 3, 4, 5] rfl)
    · refine lv_iload hx hb dX2_clear_25 (lv_at hl 5 rfl) ?_
      refine lv_iload_n hx hb dX2_clear_27 rfl (lv_at hl 1 rfl) ?_
      refine gx_ne (tgt := 34) hx hb dX2_clear_28 (by decide) (by omega) (by omega) (fun c_28 => ?_) (fun c_28 => ?_)
      · refine lv_aload_n hx hb dX2_clear_34 rfl (lv_at hl 0 rfl) ?_
        refine va_get (D := D) (ci := 2) (v := .ref a1) (C := RX2) (T := TX2) (N := 10) hx hb hts iw_X2_clear_X2 hown hK hP 0 rfl rfl 7 (by decide) (hts _ kw_X2_clear_23) (fun _ h9 => h9) rfl dX2_clear_35 ?_
        refine lv_bipush (v := nI 8) hx hb dX2_clear_38 (by decide) ?_
        refine lv_iload hx hb dX2_clear_40 (lv_at hl 5 rfl) ?_
        refine lv_imul hx hb dX2_clear_42 ?_
        refine gx_i (y := nI (i * 8)) ((pk_mul 8 i).trans (by rw [Nat.mul_comm])) ?_
        refine lv_iload_n hx hb dX2_clear_43 rfl (lv_at hl 2 rfl) ?_
        refine lv_iadd hx hb dX2_clear_44 ?_
        refine gx_i (y := nI (i * 8 + col)) (nI_add (i * 8) col) ?_
        refine gx_lald (q := i * 8 + col) hx hb hK hP 1 0 rfl rfl (rfl) (by omega) (by decide) dX2_clear_45 ?_
        refine lv_lstore (lv' := [(8, .long (K (i * 8 + col))), (0, .ref g0), (1, .int (nI row)), (2, .int (nI col)), (3, .long bf), (5, .long ld), (7, .int (nI i))]) hx hb dX2_clear_46 hl (by decide) rfl (fun ls hl => ?_)
        refine lv_iconst (v := nI 0) hx hb dX2_clear_48 (by decide) ?_
        refine lv_istore (lv' := [(10, .int (nI 0)), (8, .long (K (i * 8 + col))), (0, .ref g0), (1, .int (nI row)), (2, .int (nI col)), (3, .long bf), (5, .long ld), (7, .int (nI i))]) hx hb dX2_clear_49 hl (by decide) rfl (fun ls hl => ?_)
        refine lpX2_clear1 (K0 := K) C0 hN hA hM6 hr6 hc8 hbf (by omega) c_28 hK (fun K1 H locs ls hJ hP hD hS hl => ?_) 9 0 K _ _ _ (by omega) (ci_0 K i row ld _ bf) (hP.sub [0, 1] rfl) (hD.sub [0, 1] (by decide) rfl) hS (lv_sub hl [2, 3, 4, 5, 6, 7, 1, 0] rfl)
        refine lv_iinc (v := nI (i + 1)) (lv' := [(7, .int (nI (i + 1))), (0, .ref g0), (1, .int (nI row)), (2, .int (nI col)), (3, .long bf), (5, .long ld), (8, .long (K (i * 8 + col))), (10, .int (nI 8))]) hx hb dX2_clear_111 hl (k := 5) rfl ((nI_succ i).symm) (by decide) rfl (fun ls hl => ?_)
        refine lv_goto (tgt := 16) hx hb dX2_clear_114 (by decide) ?_
        exact ih (i + 1) _ _ _ _ (by omega) (cm_s c_28 hc8 hI (hld ▸ hJ)) (hP.sub [0, 1] rfl) (hD.sub [0, 1] (by decide) rfl) hS (lv_sub hl [1, 2, 3, 4, 5, 0] rfl)
      · refine lv_goto (tgt := 111) hx hb dX2_clear_31 (by decide) ?_
        refine lv_iinc (v := nI (i + 1)) (lv' := [(7, .int (nI (i + 1))), (0, .ref g0), (1, .int (nI row)), (2, .int (nI col)), (3, .long bf), (5, .long ld)]) hx hb dX2_clear_111 hl (k := 5) rfl ((nI_succ i).symm) (by decide) rfl (fun ls hl => ?_)
        refine lv_goto (tgt := 16) hx hb dX2_clear_114 (by decide) ?_
        exact ih (i + 1) _ _ _ _ (by omega) (by rw [c_28]; rw [c_28] at hI; exact cm_skip hI) (hP.sub [0, 1] rfl) (hD.sub [0, 1] (by decide) rfl) hS (lv_sub hl [1, 2, 3, 4, 5, 0] rfl)
set_option maxHeartbeats 4000000 in
set_option maxRecDepth 100000 in
theorem kX2_clear (l : Launch) (D : va_G) (g0 p1 b1 q1 t1 a1 l1 v1 M R n : Nat) (row col : Nat) (bf : Int64) (dA : ClassId) (K : Nat → Int64) (hM6 : M ≤ 6) (hr6 : row < 6) (hc8 : col < 8) (hbf : ¬ bf = 0) : gx_Mv l D yX2_clear wsX2_clear rmX2_clear [.ref g0, .int (nI row), .int (nI col), .long bf] [(dA, .long)] [(g0, .inr (2, [.ref p1, .ref b1, .int (nI M), .int (nI R), .int (nI n), .ref q1, .ref t1, .ref a1, .ref l1, .ref v1])), (a1, .inl (dA, 48, .inr (.inl K)))] (S := Nat → Int64) (fun (u : Nat → Int64) => cm_I K u row col bf M) (fun (u : Nat → Int64) => [(g0, .inr (2, [.ref p1, .ref b1, .int (nI M), .int (nI R), .int (nI n), .ref q1, .ref t1, .ref a1, .ref l1, .ref v1])), (a1, .inl (dA, 48, .inr (.inl u)))]) := by
  intro sz
  refine gx_start (cc := cX2_clear) (maxL := 11) (ret := none) (Qc := fun A => va_Qv (fun (u : Nat → Int64) => cm_I K u row col bf M) (gx_B D [(dA, .long)] A (fun (u : Nat → Int64) => [(g0, .inr (2, [.ref p1, .ref b1, .int (nI M), .int (nI R), .int (nI n), .ref q1, .ref t1, .ref a1, .ref l1, .ref v1])), (a1, .inl (dA, 48, .inr (.inl u)))])) A) (by decide) rfl (Nat.le_of_ble_eq_true rfl) ?_ sz
  intro p e s m below meth c A hbody ls hl
  obtain ⟨C0, hr, hlocks, hN, hK, hP, hD, hA⟩ := hbody
  have C0 : CallFix p m c cX2_clear 11 s ([.ref g0, .int (nI row), .int (nI col), .long bf] : List Value).toArray wsX2_clear RX2 := C0
  obtain ⟨hx, hb, hml, hown, hts⟩ := id C0
  have hS : va_S A s.heap s.heap [] := va_S.rf
  have hl : lv_has ls 11 [(0, .ref g0), (1, .int (nI row)), (2, .int (nI col)), (3, .long bf)] := hl
  refine lv_aload_n hx hb dX2_clear_0 rfl (lv_at hl 0 rfl) ?_
  refine va_get (D := D) (ci := 2) (v := .ref a1) (C := RX2) (T := TX2) (N := 10) hx hb hts iw_X2_clear_X2 hown hK hP 0 rfl rfl 7 (by decide) (hts _ kw_X2_clear_23) (fun _ h9 => h9) rfl dX2_clear_1 ?_
  refine lv_bipush (v := nI 8) hx hb dX2_clear_4 (by decide) ?_
  refine lv_iload_n hx hb dX2_clear_6 rfl (lv_at hl 1 rfl) ?_
  refine lv_imul hx hb dX2_clear_7 ?_
  refine gx_i (y := nI (row * 8)) ((pk_mul 8 row).trans (by rw [Nat.mul_comm])) ?_
  refine lv_iload_n hx hb dX2_clear_8 rfl (lv_at hl 2 rfl) ?_
  refine lv_iadd hx hb dX2_clear_9 ?_
  refine gx_i (y := nI (row * 8 + col)) (nI_add (row * 8) col) ?_
  refine gx_lald (q := row * 8 + col) hx hb hK hP 1 0 rfl rfl (rfl) (by omega) (by decide) dX2_clear_10 ?_
  refine lv_lstore (lv' := [(5, .long (K (row * 8 + col))), (0, .ref g0), (1, .int (nI row)), (2, .int (nI col)), (3, .long bf)]) hx hb dX2_clear_11 hl (by decide) rfl (fun ls hl => ?_)
  refine lv_iconst (v := nI 0) hx hb dX2_clear_13 (by decide) ?_
  refine lv_istore (lv' := [(7, .int (nI 0)), (5, .long (K (row * 8 + col))), (0, .ref g0), (1, .int (nI row)), (2, .int (nI col)), (3, .long bf)]) hx hb dX2_clear_14 hl (by decide) rfl (fun ls hl => ?_)
  refine lpX2_clear (ld := K (row * 8 + col)) C0 hN hA hM6 hr6 hc8 hbf rfl hK (fun K1 H locs ls hI hP hD hS hl => ?_) (M + 1) 0 K _ _ _ (by omega) (cm_0 K row col bf) (hP.sub [0, 1] rfl) (hD.sub [0, 1] (by decide) rfl) hS (lv_sub hl [2, 3, 4, 5, 1, 0] rfl)
  exact gx_retv hx hb hr hlocks K1 (hI) hK (hP.sub [0, 1] rfl) (hD.sub [0, 1] (by decide) rfl) hS dX2_clear_117
abbrev rmX2_signed : Room := { frames := 0, cells := 0, slots := 0, locals := 0 }
theorem iw_X2_signed_X2 : ∀ w ∈ wsX20, w ∈ wsX2_signed := by decide +kernel
theorem kw_X2_signed_13 : Cond.fieldLink RX2 13 "FluxModesModel" "both" "[Z" ∈ wsX2_signed := by decide +kernel
theorem kw_X2_signed_30 : Cond.fieldLink RX2 30 "FluxModesModel" "line" "[J" ∈ wsX2_signed := by decide +kernel
theorem kw_X2_signed_33 : Cond.fieldLink RX2 33 "FluxModesModel" "\x72" "I" ∈ wsX2_signed := by decide +kernel
set_option maxHeartbeats 4000000 in
set_option maxRecDepth 100000 in
theorem lpX2_signed1 {p : Program} {l : Launch} {e : Env} {s : State} {m : MethodId} {args : Array Value} {below : List Frame} {meth : Method} {c : Code} {Q : State → Prop} {D : va_G} {A : Nat → Prop} {H0 : Heap} (C0 : CallFix p m c cX2_signed 6 s args wsX2_signed RX2) (hN : gx_N s) (hA : ∀ q : Nat, H0.size ≤ q → A q) {g0 p1 b1 q1 t1 a1 l1 v1 M R n : Nat} {S V : Nat} {dB dV : ClassId} {Bt : Nat → Int32} {F : Nat → Int64} (hR8 : R ≤ 8) (hs8 : S < 256) (hB : bts Bt V) (hK : va_K D vwCl [(dB, .boolean), (dV, .long)] s) (kk : ∀ (sg fi x4 : Int32) (H : Heap) (locs : List Loc) (ls : Array Slot), (sgI S V F 0 sg fi) → va_P D vwCl [(g0, .inr (2, [.ref p1, .ref b1, .int (nI M), .int (nI R), .int (nI n), .ref q1, .ref t1, .ref a1, .ref l1, .ref v1])), (b1, .inl (dB, 8, .inl Bt)), (v1, .inl (dV, 8, .inr (.inl F)))] H → va_D A [(g0, .inr (2, [.ref p1, .ref b1, .int (nI M), .int (nI R), .int (nI n), .ref q1, .ref t1, .ref a1, .ref l1, .ref v1])), (b1, .inl (dB, 8, .inl Bt)), (v1, .inl (dV, 8, .inr (.inl F)))] → va_S A H0 H locs → lv_has ls 6 [(0, .ref g0), (1, .int (nI S)), (2, .int sg), (3, .int fi), (4, .int x4)] → W p l e rmX2_signed s m args below meth c H locs 0 0 Q (F0 m 103 ls [])) (kr : ∀ (sg fi x4 : Int32) (H : Heap) (locs : List Loc) (ls : Array Slot), (¬ sgd S V F) → va_P D vwCl [(g0, .inr (2, [.ref p1, .ref b1, .int (nI M), .int (nI R), .int (nI n), .ref q1, .ref t1, .ref a1, .ref l1, .ref v1])), (b1, .inl (dB, 8, .inl Bt)), (v1, .inl (dV, 8, .inr (.inl F)))] H → va_D A [(g0, .inr (2, [.ref p1, .ref b1, .int (nI M), .int (nI R), .int (nI n), .ref q1, .ref t1, .ref a1, .ref l1, .ref v1])), (b1, .inl (dB, 8, .inl Bt)), (v1, .inl (dV, 8, .inr (.inl F)))] → va_S A H0 H locs → lv_has ls 6 [(0, .ref g0), (1, .int (nI S)), (2, .int sg), (3, .int fi), (4, .int x4)] → W p l e rmX2_signed s m args below meth c H locs 0 0 Q (F0 m 41 ls [])) (kt : ∀ (sg fi x4 s5 : Int32) (H : Heap) (locs : List Loc) (ls : Array Slot), (¬ sgd S V F) → va_P D vwCl [(g0, .inr (2, [.ref p1, .ref b1, .int (nI M), .int (nI R), .int (nI n), .ref q1, .ref t1, .ref a1, .ref l1, .ref v1])), (b1, .inl (dB, 8, .inl Bt)), (v1, .inl (dV, 8, .inr (.inl F)))] H → va_D A [(g0, .inr (2, [.ref p1, .ref b1, .int (nI M), .int (nI R), .int (nI n), .ref q1, .ref t1, .ref a1, .ref l1, .ref v1])), (b1, .inl (dB, 8, .inl Bt)), (v1, .inl (dV, 8, .inr (.inl F)))] → va_S A H0 H locs → lv_has ls 6 [(0, .ref g0), (1, .int (nI S)), (2, .int sg), (3, .int fi), (4, .int x4), (5, .int s5)] → W p l e rmX2_signed s m args below meth c H locs 0 0 Q (F0 m 82 ls [])) : ∀ (n_ : Nat) (J : Nat) (x4 sg fi : Int32) (H : Heap) (locs : List Loc) (ls : Array Slot), (J ≤ R ∧ J < n_) → (x4 = nI J + (-1) ∧ sgI S V F J sg fi) → va_P D vwCl [(g0, .inr (2, [.ref p1, .ref b1, .int (nI M), .int (nI R), .int (nI n), .ref q1, .ref t1, .ref a1, .ref l1, .ref v1])), (b1, .inl (dB, 8, .inl Bt)), (v1, .inl (dV, 8, .inr (.inl F)))] H → va_D A [(g0, .inr (2, [.ref p1, .ref b1, .int (nI M), .int (nI R), .int (nI n), .ref q1, .ref t1, .ref a1, .ref l1, .ref v1])), (b1, .inl (dB, 8, .inl Bt)), (v1, .inl (dV, 8, .inr (.inl F)))] → va_S A H0 H locs → lv_has ls 6 [(0, .ref g0), (1, .int (nI S)), (2, .int sg), (3, .int fi), (4, .int x4)] → W p l e rmX2_signed s m args below meth c H locs 0 0 Q (F0 m 12 ls []) := by
  obtain ⟨hx, hb, hml, hown, hts⟩ := id C0
  intro n_
  induction n_ with
  | zero =>
    intro J x4 sg fi H locs ls hm
    exact absurd hm (by omega)
  | succ n_ ih =>
    intro J x4 sg fi H locs ls hm hI hP hD hS hl
    refine lv_iload hx hb dX2_signed_12 (lv_at hl 4 rfl) ?_
    refine lv_if_lt (tgt := 103) hx hb dX2_signed_14 (by decide) (fun c_14 => ?_) (fun c_14 => ?_)
    · have hJ0 : J = 0 := by rcases Nat.eq_zero_or_pos J with h | h; exact h; exact absurd c_14 (by rw [hI.1, show J = (J - 1) + 1 by omega, pk_m1]; exact nI_pos (by omega))
      have hI2 := hI.2
      rw [hJ0] at hI2
      exact kk sg fi x4 _ _ _ hI2 (hP.sub [0, 1, 2] rfl) (hD.sub [0, 1, 2] (by decide) rfl) hS (lv_sub hl [0, 1, 2, 3, 4] rfl)
    · obtain ⟨j, rfl⟩ : ∃ j, J = j + 1 := ⟨J - 1, by rcases Nat.eq_zero_or_pos J with h | h; exact absurd (show x4 < 0 by rw [hI.1, h]; decide) c_14; omega⟩
      have hx4 : x4 = nI j := by rw [hI.1]; exact pk_m1 j
      subst hx4
      refine lv_iload_n hx hb dX2_signed_17 rfl (lv_at hl 1 rfl) ?_
      refine lv_iload hx hb dX2_signed_18 (lv_at hl 4 rfl) ?_
      refine lv_ishr hx hb dX2_signed_20 ?_
      refine lv_iconst (v := nI 1) hx hb dX2_signed_21 (by decide) ?_
      refine lv_iand hx hb dX2_signed_22 ?_
      refine gx_i (y := bI (S.testBit j)) (sp_has S hs8 j (by omega)) ?_
      refine gx_bne (tgt := 29) hx hb dX2_signed_23 (by decide) (fun c_23 => ?_) (fun c_23 => ?_)
      · refine lv_aload_n hx hb dX2_signed_29 rfl (lv_at hl 0 rfl) ?_
        refine va_get (D := D) (ci := 2) (v := .ref v1) (C := RX2) (T := TX2) (N := 10) hx hb hts iw_X2_signed_X2 hown hK hP 0 rfl rfl 9 (by decide) (hts _ kw_X2_signed_30) (fun _ h9 => h9) rfl dX2_signed_30 ?_
        refine lv_iload hx hb dX2_signed_33 (lv_at hl 4 rfl) ?_
        refine gx_lald (q := j) hx hb hK hP 2 1 rfl rfl (rfl) (by omega) (by decide) dX2_signed_35 ?_
        refine lv_lconst (v := 0) hx hb dX2_signed_36 (by decide) ?_
        refine W.lcmp hx hb dX2_signed_37 ?_
        refine lv_if_ne (tgt := 43) hx hb dX2_signed_38 (by decide) (fun c_38 => ?_) (fun c_38 => ?_)
        · have hz : F j ≠ 0 := fun q => c_38 ((gx_cmp0 _ _).mpr q)
          refine lv_aload_n hx hb dX2_signed_43 rfl (lv_at hl 0 rfl) ?_
          refine va_get (D := D) (ci := 2) (v := .ref v1) (C := RX2) (T := TX2) (N := 10) hx hb hts iw_X2_signed_X2 hown hK hP 0 rfl rfl 9 (by decide) (hts _ kw_X2_signed_30) (fun _ h9 => h9) rfl dX2_signed_44 ?_
          refine lv_iload hx hb dX2_signed_47 (lv_at hl 4 rfl) ?_
          refine gx_lald (q := j) hx hb hK hP 2 1 rfl rfl (rfl) (by omega) (by decide) dX2_signed_49 ?_
          refine lv_lconst (v := 0) hx hb dX2_signed_50 (by decide) ?_
          refine W.lcmp hx hb dX2_signed_51 ?_
          refine lv_if_le (tgt := 59) hx hb dX2_signed_52 (by decide) (fun c_52 => ?_) (fun c_52 => ?_)
          · have hp : ¬ 0 < F j := (gx_cmp_le _ _).mp c_52
            refine lv_iconst (v := (-1)) hx hb dX2_signed_59 (by decide) ?_
            refine lv_istore (lv' := [(5, .int ((-1))), (0, .ref g0), (1, .int (nI S)), (2, .int sg), (3, .int fi), (4, .int (nI j))]) hx hb dX2_signed_60 hl (by decide) rfl (fun ls hl => ?_)
            refine lv_iload hx hb dX2_signed_62 (lv_at hl 0 rfl) ?_
            refine lv_istore_n (lv' := [(3, .int ((-1))), (5, .int ((-1))), (0, .ref g0), (1, .int (nI S)), (2, .int sg), (4, .int (nI j))]) hx hb dX2_signed_64 rfl hl (by decide) rfl (fun ls hl => ?_)
            refine lv_aload_n hx hb dX2_signed_65 rfl (lv_at hl 2 rfl) ?_
            refine va_get (D := D) (ci := 2) (v := .ref b1) (C := RX2) (T := TX2) (N := 10) hx hb hts iw_X2_signed_X2 hown hK hP 0 rfl rfl 1 (by decide) (hts _ kw_X2_signed_13) (fun _ h9 => h9) rfl dX2_signed_66 ?_
            refine lv_iload hx hb dX2_signed_69 (lv_at hl 5 rfl) ?_
            refine gx_zald (q := j) hx hb hK hP 1 0 rfl rfl (rfl) (by omega) (by decide) dX2_signed_71 ?_
            refine gx_i (y := bI (V.testBit j)) (hB j (by omega)) ?_
            refine gx_bne (tgt := 84) hx hb dX2_signed_72 (by decide) (fun c_72 => ?_) (fun c_72 => ?_)
            · have hv72 := c_72
              refine lv_aload_n hx hb dX2_signed_84 rfl (lv_at hl 2 rfl) ?_
              refine va_get (D := D) (ci := 2) (v := .ref b1) (C := RX2) (T := TX2) (N := 10) hx hb hts iw_X2_signed_X2 hown hK hP 0 rfl rfl 1 (by decide) (hts _ kw_X2_signed_13) (fun _ h9 => h9) rfl dX2_signed_85 ?_
              refine lv_iload hx hb dX2_signed_88 (lv_at hl 5 rfl) ?_
              refine gx_zald (q := j) hx hb hK hP 1 0 rfl rfl (rfl) (by omega) (by decide) dX2_signed_90 ?_
              refine gx_i (y := bI (V.testBit j)) (hB j (by omega)) ?_
              refine gx_bne (tgt := 97) hx hb dX2_signed_91 (by decide) (fun c_91 => ?_) (fun c_91 => ?_)
              · refine lv_iinc (v := nI j + (-1)) (lv' := [(4, .int (nI j + (-1))), (3, .int ((-1))), (5, .int ((-1))), (0, .ref g0), (1, .int (nI S)), (2, .int sg)]) hx hb dX2_signed_97 hl (k := 5) rfl (rfl) (by decide) rfl (fun ls hl => ?_)
                refine lv_goto (tgt := 12) hx hb dX2_signed_100 (by decide) ?_
                exact ih j (nI j + (-1)) sg ((-1)) _ _ _ (by omega) ⟨rfl, sg_rev (by omega) c_23 hz c_72 (by rw [if_neg hp]) hI.2⟩ (hP.sub [0, 1, 2] rfl) (hD.sub [0, 1, 2] (by decide) rfl) hS (lv_sub hl [3, 4, 5, 1, 0] rfl)
              · exact absurd (hv72.symm.trans c_91) (by decide)
            · have hv72 := c_72
              refine lv_iload_n hx hb dX2_signed_75 rfl (lv_at hl 4 rfl) ?_
              refine lv_iload hx hb dX2_signed_76 (lv_at hl 1 rfl) ?_
              refine lv_ineg hx hb dX2_signed_78 ?_
              refine lv_icmp_ne (tgt := 84) hx hb dX2_signed_79 (by decide) (fun c_79 => ?_) (fun c_79 => ?_)
              · have c_79 : ¬ sg = 1 := c_79
                refine lv_aload_n hx hb dX2_signed_84 rfl (lv_at hl 2 rfl) ?_
                refine va_get (D := D) (ci := 2) (v := .ref b1) (C := RX2) (T := TX2) (N := 10) hx hb hts iw_X2_signed_X2 hown hK hP 0 rfl rfl 1 (by decide) (hts _ kw_X2_signed_13) (fun _ h9 => h9) rfl dX2_signed_85 ?_
                refine lv_iload hx hb dX2_signed_88 (lv_at hl 5 rfl) ?_
                refine gx_zald (q := j) hx hb hK hP 1 0 rfl rfl (rfl) (by omega) (by decide) dX2_signed_90 ?_
                refine gx_i (y := bI (V.testBit j)) (hB j (by omega)) ?_
                refine gx_bne (tgt := 97) hx hb dX2_signed_91 (by decide) (fun c_91 => ?_) (fun c_91 => ?_)
                · exact absurd (c_91.symm.trans hv72) (by decide)
                · refine lv_iload hx hb dX2_signed_94 (lv_at hl 1 rfl) ?_
                  refine lv_istore_n (lv' := [(2, .int ((-1))), (3, .int ((-1))), (5, .int ((-1))), (0, .ref g0), (1, .int (nI S)), (4, .int (nI j))]) hx hb dX2_signed_96 rfl hl (by decide) rfl (fun ls hl => ?_)
                  refine lv_iinc (v := nI j + (-1)) (lv' := [(4, .int (nI j + (-1))), (2, .int ((-1))), (3, .int ((-1))), (5, .int ((-1))), (0, .ref g0), (1, .int (nI S))]) hx hb dX2_signed_97 hl (k := 5) rfl (rfl) (by decide) rfl (fun ls hl => ?_)
                  refine lv_goto (tgt := 12) hx hb dX2_signed_100 (by decide) ?_
                  exact ih j (nI j + (-1)) (-1) (-1) _ _ _ (by omega) ⟨rfl, sg_neg (by omega) c_23 hz c_72 hp c_79 hI.2⟩ (hP.sub [0, 1, 2] rfl) (hD.sub [0, 1, 2] (by decide) rfl) hS (lv_sub hl [4, 5, 1, 2, 0] rfl)
              · have c_79 : sg = 1 := c_79
                exact kt sg ((-1)) (nI j) ((-1)) _ _ _ (sgd_n (by omega) c_23 c_72 hp c_79 hI.2) (hP.sub [0, 1, 2] rfl) (hD.sub [0, 1, 2] (by decide) rfl) hS (lv_sub hl [2, 3, 4, 0, 5, 1] rfl)
          · have hp : 0 < F j := Classical.byContradiction (fun q => c_52 ((gx_cmp_le _ _).mpr q))
            refine lv_iconst (v := 1) hx hb dX2_signed_55 (by decide) ?_
            refine lv_goto (tgt := 60) hx hb dX2_signed_56 (by decide) ?_
            refine lv_istore (lv' := [(5, .int 1), (0, .ref g0), (1, .int (nI S)), (2, .int sg), (3, .int fi), (4, .int (nI j))]) hx hb dX2_signed_60 hl (by decide) rfl (fun ls hl => ?_)
            refine lv_iload hx hb dX2_signed_62 (lv_at hl 0 rfl) ?_
            refine lv_istore_n (lv' := [(3, .int 1), (5, .int 1), (0, .ref g0), (1, .int (nI S)), (2, .int sg), (4, .int (nI j))]) hx hb dX2_signed_64 rfl hl (by decide) rfl (fun ls hl => ?_)
            refine lv_aload_n hx hb dX2_signed_65 rfl (lv_at hl 2 rfl) ?_
            refine va_get (D := D) (ci := 2) (v := .ref b1) (C := RX2) (T := TX2) (N := 10) hx hb hts iw_X2_signed_X2 hown hK hP 0 rfl rfl 1 (by decide) (hts _ kw_X2_signed_13) (fun _ h9 => h9) rfl dX2_signed_66 ?_
            refine lv_iload hx hb dX2_signed_69 (lv_at hl 5 rfl) ?_
            refine gx_zald (q := j) hx hb hK hP 1 0 rfl rfl (rfl) (by omega) (by decide) dX2_signed_71 ?_
            refine gx_i (y := bI (V.testBit j)) (hB j (by omega)) ?_
            refine gx_bne (tgt := 84) hx hb dX2_signed_72 (by decide) (fun c_72 => ?_) (fun c_72 => ?_)
            · have hv72 := c_72
              refine lv_aload_n hx hb dX2_signed_84 rfl (lv_at hl 2 rfl) ?_
              refine va_get (D := D) (ci := 2) (v := .ref b1) (C := RX2) (T := TX2) (N := 10) hx hb hts iw_X2_signed_X2 hown hK hP 0 rfl rfl 1 (by decide) (hts _ kw_X2_signed_13) (fun _ h9 => h9) rfl dX2_signed_85 ?_
              refine lv_iload hx hb dX2_signed_88 (lv_at hl 5 rfl) ?_
              refine gx_zald (q := j) hx hb hK hP 1 0 rfl rfl (rfl) (by omega) (by decide) dX2_signed_90 ?_
              refine gx_i (y := bI (V.testBit j)) (hB j (by omega)) ?_
              refine gx_bne (tgt := 97) hx hb dX2_signed_91 (by decide) (fun c_91 => ?_) (fun c_91 => ?_)
              · refine lv_iinc (v := nI j + (-1)) (lv' := [(4, .int (nI j + (-1))), (3, .int 1), (5, .int 1), (0, .ref g0), (1, .int (nI S)), (2, .int sg)]) hx hb dX2_signed_97 hl (k := 5) rfl (rfl) (by decide) rfl (fun ls hl => ?_)
                refine lv_goto (tgt := 12) hx hb dX2_signed_100 (by decide) ?_
                exact ih j (nI j + (-1)) sg 1 _ _ _ (by omega) ⟨rfl, sg_rev (by omega) c_23 hz c_72 (by rw [if_pos hp]) hI.2⟩ (hP.sub [0, 1, 2] rfl) (hD.sub [0, 1, 2] (by decide) rfl) hS (lv_sub hl [3, 4, 5, 1, 0] rfl)
              · exact absurd (hv72.symm.trans c_91) (by decide)
            · have hv72 := c_72
              refine lv_iload_n hx hb dX2_signed_75 rfl (lv_at hl 4 rfl) ?_
              refine lv_iload hx hb dX2_signed_76 (lv_at hl 1 rfl) ?_
              refine lv_ineg hx hb dX2_signed_78 ?_
              refine lv_icmp_ne (tgt := 84) hx hb dX2_signed_79 (by decide) (fun c_79 => ?_) (fun c_79 => ?_)
              · have c_79 : ¬ sg = -1 := c_79
                refine lv_aload_n hx hb dX2_signed_84 rfl (lv_at hl 2 rfl) ?_
                refine va_get (D := D) (ci := 2) (v := .ref b1) (C := RX2) (T := TX2) (N := 10) hx hb hts iw_X2_signed_X2 hown hK hP 0 rfl rfl 1 (by decide) (hts _ kw_X2_signed_13) (fun _ h9 => h9) rfl dX2_signed_85 ?_
                refine lv_iload hx hb dX2_signed_88 (lv_at hl 5 rfl) ?_
                refine gx_zald (q := j) hx hb hK hP 1 0 rfl rfl (rfl) (by omega) (by decide) dX2_signed_90 ?_
                refine gx_i (y := bI (V.testBit j)) (hB j (by omega)) ?_
                refine gx_bne (tgt := 97) hx hb dX2_signed_91 (by decide) (fun c_91 => ?_) (fun c_91 => ?_)
                · exact absurd (c_91.symm.trans hv72) (by decide)
                · refine lv_iload hx hb dX2_signed_94 (lv_at hl 1 rfl) ?_
                  refine lv_istore_n (lv' := [(2, .int 1), (3, .int 1), (5, .int 1), (0, .ref g0), (1, .int (nI S)), (4, .int (nI j))]) hx hb dX2_signed_96 rfl hl (by decide) rfl (fun ls hl => ?_)
                  refine lv_iinc (v := nI j + (-1)) (lv' := [(4, .int (nI j + (-1))), (2, .int 1), (3, .int 1), (5, .int 1), (0, .ref g0), (1, .int (nI S))]) hx hb dX2_signed_97 hl (k := 5) rfl (rfl) (by decide) rfl (fun ls hl => ?_)
                  refine lv_goto (tgt := 12) hx hb dX2_signed_100 (by decide) ?_
                  exact ih j (nI j + (-1)) 1 1 _ _ _ (by omega) ⟨rfl, sg_pos (by omega) c_23 hz c_72 hp c_79 hI.2⟩ (hP.sub [0, 1, 2] rfl) (hD.sub [0, 1, 2] (by decide) rfl) hS (lv_sub hl [4, 5, 1, 2, 0] rfl)
              · have c_79 : sg = -1 := c_79
                exact kt sg 1 (nI j) 1 _ _ _ (sgd_p (by omega) c_23 c_72 hp c_79 hI.2) (hP.sub [0, 1, 2] rfl) (hD.sub [0, 1, 2] (by decide) rfl) hS (lv_sub hl [2, 3, 4, 0, 5, 1] rfl)
        · have hz : F j = 0 := (gx_cmp0 _ _).mp c_38
          exact kr sg fi (nI j) _ _ _ (sgd_zero (by omega) c_23 hz) (hP.sub [0, 1, 2] rfl) (hD.sub [0, 1, 2] (by decide) rfl) hS (lv_sub hl [0, 1, 2, 3, 4] rfl)
      · refine lv_goto (tgt := 97) hx hb dX2_signed_26 (by decide) ?_
        refine lv_iinc (v := nI j + (-1)) (lv' := [(4, .int (nI j + (-1))), (0, .ref g0), (1, .int (nI S)), (2, .int sg), (3, .int fi)]) hx hb dX2_signed_97 hl (k := 4) rfl (rfl) (by decide) rfl (fun ls hl => ?_)
        refine lv_goto (tgt := 12) hx hb dX2_signed_100 (by decide) ?_
        exact ih j (nI j + (-1)) sg fi _ _ _ (by omega) ⟨rfl, sg_skip c_23 hI.2⟩ (hP.sub [0, 1, 2] rfl) (hD.sub [0, 1, 2] (by decide) rfl) hS (lv_sub hl [1, 2, 3, 4, 0] rfl)
set_option maxHeartbeats 4000000 in
set_option maxRecDepth 100000 in
theorem lpX2_signed2 {p : Program} {l : Launch} {e : Env} {s : State} {m : MethodId} {args : Array Value} {below : List Frame} {meth : Method} {c : Code} {Q : State → Prop} {D : va_G} {A : Nat → Prop} {H0 : Heap} (C0 : CallFix p m c cX2_signed 6 s args wsX2_signed RX2) (hN : gx_N s) (hA : ∀ q : Nat, H0.size ≤ q → A q) {g0 p1 b1 q1 t1 a1 l1 v1 M R n : Nat} {d : Int32} {dB dV : ClassId} {Bt : Nat → Int32} {F : Nat → Int64}  (hK : va_K D vwCl [(dB, .boolean), (dV, .long)] s) (kk : ∀ (Fn : Nat → Int64) (H : Heap) (locs : List Loc) (ls : Array Slot), (ml_I F Fn d 8) → va_P D vwCl [(g0, .inr (2, [.ref p1, .ref b1, .int (nI M), .int (nI R), .int (nI n), .ref q1, .ref t1, .ref a1, .ref l1, .ref v1])), (b1, .inl (dB, 8, .inl Bt)), (v1, .inl (dV, 8, .inr (.inl Fn)))] H → va_D A [(g0, .inr (2, [.ref p1, .ref b1, .int (nI M), .int (nI R), .int (nI n), .ref q1, .ref t1, .ref a1, .ref l1, .ref v1])), (b1, .inl (dB, 8, .inl Bt)), (v1, .inl (dV, 8, .inr (.inl Fn)))] → va_S A H0 H locs → lv_has ls 6 [(0, .ref g0), (2, .int d), (4, .int (nI 8))] → W p l e rmX2_signed s m args below meth c H locs 0 0 Q (F0 m 142 ls [])) : ∀ (n_ : Nat) (j : Nat) (Fn : Nat → Int64) (H : Heap) (locs : List Loc) (ls : Array Slot), (j ≤ 8 ∧ 8 < j + n_) → (ml_I F Fn d j) → va_P D vwCl [(g0, .inr (2, [.ref p1, .ref b1, .int (nI M), .int (nI R), .int (nI n), .ref q1, .ref t1, .ref a1, .ref l1, .ref v1])), (b1, .inl (dB, 8, .inl Bt)), (v1, .inl (dV, 8, .inr (.inl Fn)))] H → va_D A [(g0, .inr (2, [.ref p1, .ref b1, .int (nI M), .int (nI R), .int (nI n), .ref q1, .ref t1, .ref a1, .ref l1, .ref v1])), (b1, .inl (dB, 8, .inl Bt)), (v1, .inl (dV, 8, .inr (.inl Fn)))] → va_S A H0 H locs → lv_has ls 6 [(0, .ref g0), (2, .int d), (4, .int (nI j))] → W p l e rmX2_signed s m args below meth c H locs 0 0 Q (F0 m 112 ls []) := by
  obtain ⟨hx, hb, hml, hown, hts⟩ := id C0
  intro n_
  induction n_ with
  | zero =>
    intro j Fn H locs ls hm
    exact absurd hm (by omega)
  | succ n_ ih =>
    intro j Fn H locs ls hm hI hP hD hS hl
    refine lv_iload hx hb dX2_signed_112 (lv_at hl 2 rfl) ?_
    refine lv_bipush (v := nI 8) hx hb dX2_signed_114 (by decide) ?_
    refine gx_ge (tgt := 142) hx hb dX2_signed_116 (by decide) (by omega) (by omega) (fun c_116 => ?_) (fun c_116 => ?_)
    · have hj8 : j = 8 := by omega
      subst hj8
      exact kk _ _ _ _ hI (hP.sub [0, 1, 2] rfl) (hD.sub [0, 1, 2] (by decide) rfl) hS (lv_sub hl [0, 1, 2] rfl)
    · refine lv_aload_n hx hb dX2_signed_119 rfl (lv_at hl 0 rfl) ?_
      refine va_get (D := D) (ci := 2) (v := .ref v1) (C := RX2) (T := TX2) (N := 10) hx hb hts iw_X2_signed_X2 hown hK hP 0 rfl rfl 9 (by decide) (hts _ kw_X2_signed_30) (fun _ h9 => h9) rfl dX2_signed_120 ?_
      refine lv_iload hx hb dX2_signed_123 (lv_at hl 2 rfl) ?_
      refine lv_iload_n hx hb dX2_signed_125 rfl (lv_at hl 1 rfl) ?_
      refine lv_i2l (v := d.toInt64) hx hb dX2_signed_126 rfl ?_
      refine lv_aload_n hx hb dX2_signed_127 rfl (lv_at hl 0 rfl) ?_
      refine va_get (D := D) (ci := 2) (v := .ref v1) (C := RX2) (T := TX2) (N := 10) hx hb hts iw_X2_signed_X2 hown hK hP 0 rfl rfl 9 (by decide) (hts _ kw_X2_signed_30) (fun _ h9 => h9) rfl dX2_signed_128 ?_
      refine lv_iload hx hb dX2_signed_131 (lv_at hl 2 rfl) ?_
      refine gx_lald (q := j) hx hb hK hP 2 1 rfl rfl (rfl) (by omega) (by decide) dX2_signed_133 ?_
      refine lv_lmul hx hb dX2_signed_134 ?_
      refine gx_last (q := j) hx hb hK hP hD hS 2 1 rfl rfl (rfl) (by omega) (by decide) dX2_signed_135 (fun H locs hP hD hS => ?_)
      have hP : va_P D vwCl [(g0, .inr (2, [.ref p1, .ref b1, .int (nI M), .int (nI R), .int (nI n), .ref q1, .ref t1, .ref a1, .ref l1, .ref v1])), (b1, .inl (dB, 8, .inl Bt)), (v1, .inl (dV, 8, .inr (.inl (vp_updL Fn j (d.toInt64 * (Fn j))))))] H := hP
      have hD : va_D A [(g0, .inr (2, [.ref p1, .ref b1, .int (nI M), .int (nI R), .int (nI n), .ref q1, .ref t1, .ref a1, .ref l1, .ref v1])), (b1, .inl (dB, 8, .inl Bt)), (v1, .inl (dV, 8, .inr (.inl (vp_updL Fn j (d.toInt64 * (Fn j))))))] := hD
      refine lv_iinc (v := nI (j + 1)) (lv' := [(4, .int (nI (j + 1))), (0, .ref g0), (2, .int d)]) hx hb dX2_signed_136 hl (k := 2) rfl ((nI_succ j).symm) (by decide) rfl (fun ls hl => ?_)
      refine lv_goto (tgt := 112) hx hb dX2_signed_139 (by decide) ?_
      exact ih (j + 1) _ _ _ _ (by omega) (ml_s (by omega) hI) (hP.sub [0, 1, 2] rfl) (hD.sub [0, 1, 2] (by decide) rfl) hS (lv_sub hl [1, 2, 0] rfl)
set_option maxHeartbeats 4000000 in
set_option maxRecDepth 100000 in
theorem kX2_signed (l : Launch) (D : va_G) (g0 p1 b1 q1 t1 a1 l1 v1 M R n : Nat) (S V : Nat) (dB dV : ClassId) (Bt : Nat → Int32) (F : Nat → Int64) (hR8 : R ≤ 8) (hs8 : S < 256) (hB : bts Bt V) (hR1 : 1 ≤ R) (hSR : S < 2 ^ R) (hs0 : 0 < S) : gx_Mi l D yX2_signed wsX2_signed rmX2_signed [.ref g0, .int (nI S)] [(dB, .boolean), (dV, .long)] [(g0, .inr (2, [.ref p1, .ref b1, .int (nI M), .int (nI R), .int (nI n), .ref q1, .ref t1, .ref a1, .ref l1, .ref v1])), (b1, .inl (dB, 8, .inl Bt)), (v1, .inl (dV, 8, .inr (.inl F)))] (S := Nat → Int64) (fun r (u : Nat → Int64) => ∃ b, r = bI b ∧ (b = true → sgd S V F ∧ ∀ j, j < 8 → u j = (dirS S V (fun j => decide (0 < F j))).toInt64 * F j) ∧ (b = false → ¬ sgd S V F)) (fun (u : Nat → Int64) => [(g0, .inr (2, [.ref p1, .ref b1, .int (nI M), .int (nI R), .int (nI n), .ref q1, .ref t1, .ref a1, .ref l1, .ref v1])), (b1, .inl (dB, 8, .inl Bt)), (v1, .inl (dV, 8, .inr (.inl u)))]) := by
  intro sz
  refine gx_start (cc := cX2_signed) (maxL := 6) (ret := (some .boolean)) (Qc := fun A => va_Qi (fun r (u : Nat → Int64) => ∃ b, r = bI b ∧ (b = true → sgd S V F ∧ ∀ j, j < 8 → u j = (dirS S V (fun j => decide (0 < F j))).toInt64 * F j) ∧ (b = false → ¬ sgd S V F)) (gx_B D [(dB, .boolean), (dV, .long)] A (fun (u : Nat → Int64) => [(g0, .inr (2, [.ref p1, .ref b1, .int (nI M), .int (nI R), .int (nI n), .ref q1, .ref t1, .ref a1, .ref l1, .ref v1])), (b1, .inl (dB, 8, .inl Bt)), (v1, .inl (dV, 8, .inr (.inl u)))])) A) (by decide) rfl (Nat.le_of_ble_eq_true rfl) ?_ sz
  intro p e s m below meth c A hbody ls hl
  obtain ⟨C0, hr, hlocks, hN, hK, hP, hD, hA⟩ := hbody
  have C0 : CallFix p m c cX2_signed 6 s ([.ref g0, .int (nI S)] : List Value).toArray wsX2_signed RX2 := C0
  obtain ⟨hx, hb, hml, hown, hts⟩ := id C0
  have hS : va_S A s.heap s.heap [] := va_S.rf
  have hl : lv_has ls 6 [(0, .ref g0), (1, .int (nI S))] := hl
  refine lv_iconst (v := nI 0) hx hb dX2_signed_0 (by decide) ?_
  refine lv_istore_n (lv' := [(2, .int (nI 0)), (0, .ref g0), (1, .int (nI S))]) hx hb dX2_signed_1 rfl hl (by decide) rfl (fun ls hl => ?_)
  refine lv_iconst (v := nI 0) hx hb dX2_signed_2 (by decide) ?_
  refine lv_istore_n (lv' := [(3, .int (nI 0)), (2, .int (nI 0)), (0, .ref g0), (1, .int (nI S))]) hx hb dX2_signed_3 rfl hl (by decide) rfl (fun ls hl => ?_)
  refine lv_aload_n hx hb dX2_signed_4 rfl (lv_at hl 2 rfl) ?_
  refine va_get (D := D) (ci := 2) (v := .int (nI R)) (C := RX2) (T := TX2) (N := 10) hx hb hts iw_X2_signed_X2 hown hK hP 0 rfl rfl 3 (by decide) (hts _ kw_X2_signed_33) (fun _ h9 => h9) rfl dX2_signed_5 ?_
  refine lv_iconst (v := nI 1) hx hb dX2_signed_8 (by decide) ?_
  refine lv_isub hx hb dX2_signed_9 ?_
  refine gx_i (y := nI (R - 1)) (pk_sub (by omega)) ?_
  refine lv_istore (lv' := [(4, .int (nI (R - 1))), (3, .int (nI 0)), (2, .int (nI 0)), (0, .ref g0), (1, .int (nI S))]) hx hb dX2_signed_10 hl (by decide) rfl (fun ls hl => ?_)
  refine lpX2_signed1 (V := V) C0 hN hA hR8 hs8 hB hK (fun sg fi x4 H locs ls hI hP hD hS hl => ?_) (fun sg fi x4 H locs ls hF hP hD hS hl => ?_) (fun sg fi x4 s5 H locs ls hF hP hD hS hl => ?_) (R + 1) R (nI (R - 1)) (nI 0) (nI 0) _ _ _ (by omega) ⟨by rw [show R = (R - 1) + 1 by omega, pk_m1]; rfl, sg_start hSR⟩ (hP.sub [0, 1, 2] rfl) (hD.sub [0, 1, 2] (by decide) rfl) hS (lv_sub hl [3, 4, 2, 1, 0] rfl)
  · refine lv_iload_n hx hb dX2_signed_103 rfl (lv_at hl 2 rfl) ?_
    refine lv_if_ne (tgt := 109) hx hb dX2_signed_104 (by decide) (fun c_104 => ?_) (fun c_104 => ?_)
    · have hd : sg = dirS S V (fun j => decide (0 < F j)) := sg_d1 c_104 hI
      have hd2 : sg = sg ∧ ¬ sg = 0 ∨ sg = 0 ∧ sg = fi := Or.inl ⟨rfl, c_104⟩
      refine lv_iconst (v := nI 0) hx hb dX2_signed_109 (by decide) ?_
      refine lv_istore (lv' := [(4, .int (nI 0)), (0, .ref g0), (1, .int (nI S)), (2, .int sg), (3, .int fi)]) hx hb dX2_signed_110 hl (by decide) rfl (fun ls hl => ?_)
      refine lpX2_signed2 (d := sg) (F := F) C0 hN hA hK (fun F1 H locs ls hM hP hD hS hl => ?_) 9 0 F _ _ _ (by omega) (ml_0 F _) (hP.sub [0, 1, 2] rfl) (hD.sub [0, 1, 2] (by decide) rfl) hS (lv_sub hl [1, 3, 0] rfl)
      refine lv_iconst (v := nI 1) hx hb dX2_signed_142 (by decide) ?_
      exact gx_retz hx hb hr hlocks true (by decide) F1 (⟨true, rfl, (fun _ => ⟨dirS_ne0 hd hI hd2 hs8 hs0, fun j hj => by rw [hM j hj, if_pos hj, hd]⟩), fun h => absurd h (by decide)⟩) hK (hP.sub [0, 1, 2] rfl) (hD.sub [0, 1, 2] (by decide) rfl) hS dX2_signed_143
    · have hd : fi = dirS S V (fun j => decide (0 < F j)) := sg_d0 hs8 hs0 c_104 hI
      have hd2 : fi = sg ∧ ¬ sg = 0 ∨ sg = 0 ∧ fi = fi := Or.inr ⟨c_104, rfl⟩
      refine lv_iload_n hx hb dX2_signed_107 rfl (lv_at hl 3 rfl) ?_
      refine lv_istore_n (lv' := [(2, .int fi), (0, .ref g0), (1, .int (nI S)), (3, .int fi), (4, .int x4)]) hx hb dX2_signed_108 rfl hl (by decide) rfl (fun ls hl => ?_)
      refine lv_iconst (v := nI 0) hx hb dX2_signed_109 (by decide) ?_
      refine lv_istore (lv' := [(4, .int (nI 0)), (2, .int fi), (0, .ref g0), (1, .int (nI S)), (3, .int fi)]) hx hb dX2_signed_110 hl (by decide) rfl (fun ls hl => ?_)
      refine lpX2_signed2 (d := fi) (F := F) C0 hN hA hK (fun F1 H locs ls hM hP hD hS hl => ?_) 9 0 F _ _ _ (by omega) (ml_0 F _) (hP.sub [0, 1, 2] rfl) (hD.sub [0, 1, 2] (by decide) rfl) hS (lv_sub hl [2, 1, 0] rfl)
      refine lv_iconst (v := nI 1) hx hb dX2_signed_142 (by decide) ?_
      exact gx_retz hx hb hr hlocks true (by decide) F1 (⟨true, rfl, (fun _ => ⟨dirS_ne0 hd hI hd2 hs8 hs0, fun j hj => by rw [hM j hj, if_pos hj, hd]⟩), fun h => absurd h (by decide)⟩) hK (hP.sub [0, 1, 2] rfl) (hD.sub [0, 1, 2] (by decide) rfl) hS dX2_signed_143
  · refine lv_iconst (v := nI 0) hx hb dX2_signed_41 (by decide) ?_
    exact gx_retz hx hb hr hlocks false (by decide) F (⟨false, rfl, (fun h => absurd h (by decide)), fun _ => hF⟩) hK (hP.sub [0, 1, 2] rfl) (hD.sub [0, 1, 2] (by decide) rfl) hS dX2_signed_42
  · refine lv_iconst (v := nI 0) hx hb dX2_signed_82 (by decide) ?_
    exact gx_retz hx hb hr hlocks false (by decide) F (⟨false, rfl, (fun h => absurd h (by decide)), fun _ => hF⟩) hK (hP.sub [0, 1, 2] rfl) (hD.sub [0, 1, 2] (by decide) rfl) hS dX2_signed_83
abbrev rmX2_list : Room := { frames := 0, cells := 0, slots := 0, locals := 0 }
theorem iw_X2_list_X2 : ∀ w ∈ wsX20, w ∈ wsX2_list := by decide +kernel
theorem kw_X2_list_30 : Cond.fieldLink RX2 30 "FluxModesModel" "line" "[J" ∈ wsX2_list := by decide +kernel
theorem kw_X2_list_20 : Cond.fieldLink RX2 20 "FluxModesModel" "rates" "[I" ∈ wsX2_list := by decide +kernel
theorem kw_X2_list_40 : Cond.fieldLink RX2 40 "FluxModesModel" "listed" "I" ∈ wsX2_list := by decide +kernel
theorem kw_X2_list_17 : Cond.fieldLink RX2 17 "FluxModesModel" "supports" "[I" ∈ wsX2_list := by decide +kernel
set_option maxHeartbeats 4000000 in
set_option maxRecDepth 100000 in
theorem lpX2_list0 {p : Program} {l : Launch} {e : Env} {s : State} {m : MethodId} {args : Array Value} {below : List Frame} {meth : Method} {c : Code} {Q : State → Prop} {D : va_G} {A : Nat → Prop} {H0 : Heap} (C0 : CallFix p m c cX2_list 9 s args wsX2_list RX2) (hN : gx_N s) (hA : ∀ q : Nat, H0.size ≤ q → A q) {g0 p1 b1 q1 t1 a1 l1 v1 M R n : Nat} {S : Nat} {dS dR dV : ClassId} {U T0 : Nat → Int32} {F : Nat → Int64} {f : Nat → Int} {G j : Nat} (hn : n < 70) (hF : ∀ j, j < 8 → F j = Int64.ofInt (f j)) (hf : ∀ j, j < 8 → (f j).natAbs ≤ 382637520) (hK : va_K D vwCl [(dS, .int), (dR, .int), (dV, .long)] s) (kk : ∀ (r : Nat) (H : Heap) (locs : List Loc) (ls : Array Slot), va_P D vwCl [(g0, .inr (2, [.ref p1, .ref b1, .int (nI M), .int (nI R), .int (nI n), .ref q1, .ref t1, .ref a1, .ref l1, .ref v1])), (q1, .inl (dS, 70, .inl U)), (t1, .inl (dR, 560, .inl T0)), (v1, .inl (dV, 8, .inr (.inl F)))] H → va_D A [(g0, .inr (2, [.ref p1, .ref b1, .int (nI M), .int (nI R), .int (nI n), .ref q1, .ref t1, .ref a1, .ref l1, .ref v1])), (q1, .inl (dS, 70, .inl U)), (t1, .inl (dR, 560, .inl T0)), (v1, .inl (dV, 8, .inr (.inl F)))] → va_S A H0 H locs → lv_has ls 9 [(0, .ref g0), (1, .int (nI S)), (2, .long (lN G)), (4, .int (nI j)), (5, .long (lN r))] → W p l e rmX2_list s m args below meth c H locs 0 0 Q (F0 m 67 ls [])) : ∀ (n_ : Nat) (g r : Nat) (H : Heap) (locs : List Loc) (ls : Array Slot), (r < n_) → (Nat.gcd g r = G ∧ g ≤ 382637520 ∧ r ≤ 382637520) → va_P D vwCl [(g0, .inr (2, [.ref p1, .ref b1, .int (nI M), .int (nI R), .int (nI n), .ref q1, .ref t1, .ref a1, .ref l1, .ref v1])), (q1, .inl (dS, 70, .inl U)), (t1, .inl (dR, 560, .inl T0)), (v1, .inl (dV, 8, .inr (.inl F)))] H → va_D A [(g0, .inr (2, [.ref p1, .ref b1, .int (nI M), .int (nI R), .int (nI n), .ref q1, .ref t1, .ref a1, .ref l1, .ref v1])), (q1, .inl (dS, 70, .inl U)), (t1, .inl (dR, 560, .inl T0)), (v1, .inl (dV, 8, .inr (.inl F)))] → va_S A H0 H locs → lv_has ls 9 [(0, .ref g0), (1, .int (nI S)), (2, .long (lN g)), (4, .int (nI j)), (5, .long (lN r))] → W p l e rmX2_list s m args below meth c H locs 0 0 Q (F0 m 44 ls []) := by
  obtain ⟨hx, hb, hml, hown, hts⟩ := id C0
  intro n_
  induction n_ with
  | zero =>
    intro g r H locs ls hm
    exact absurd hm (by omega)
  | succ n_ ih =>
    intro g r H locs ls hm hI hP hD hS hl
    refine lv_lload hx hb dX2_list_44 (lv_at hl 4 rfl) ?_
    refine lv_lconst (v := 0) hx hb dX2_list_46 (by decide) ?_
    refine W.lcmp hx hb dX2_list_47 ?_
    refine lv_if_eq (tgt := 67) hx hb dX2_list_48 (by decide) (fun c_48 => ?_) (fun c_48 => ?_)
    · have hr0 : r = 0 := (lN_z hI.2.2).mp ((gx_cmp0 _ _).mp c_48)
      subst hr0
      have hg0 : g = G := by have h1 := hI.1; rw [Nat.gcd_zero_right] at h1; exact h1
      subst hg0
      exact kk 0 _ _ _ (hP.sub [0, 1, 2, 3] rfl) (hD.sub [0, 1, 2, 3] (by decide) rfl) hS (lv_sub hl [0, 1, 2, 3, 4] rfl)
    · have hz : ¬ lN r = 0 := fun q => c_48 ((gx_cmp0 _ _).mpr q)
      have hr0 : r ≠ 0 := fun q => hz ((lN_z hI.2.2).mpr q)
      have hb1 := hI.2.1
      have hb2 := hI.2.2
      refine lv_lload_n hx hb dX2_list_51 rfl (lv_at hl 2 rfl) ?_
      refine lv_lload hx hb dX2_list_52 (lv_at hl 4 rfl) ?_
      refine lv_lrem hx hb dX2_list_54 hz ?_
      refine gx_l (y := lN (g % r)) (pk_lRem (by omega) (by omega) (by omega)) ?_
      refine lv_lstore (lv' := [(7, .long (lN (g % r))), (0, .ref g0), (1, .int (nI S)), (2, .long (lN g)), (4, .int (nI j)), (5, .long (lN r))]) hx hb dX2_list_55 hl (by decide) rfl (fun ls hl => ?_)
      refine lv_lload hx hb dX2_list_57 (lv_at hl 5 rfl) ?_
      refine lv_lstore_n (lv' := [(2, .long (lN r)), (7, .long (lN (g % r))), (0, .ref g0), (1, .int (nI S)), (4, .int (nI j)), (5, .long (lN r))]) hx hb dX2_list_59 rfl hl (by decide) rfl (fun ls hl => ?_)
      refine lv_lload hx hb dX2_list_60 (lv_at hl 1 rfl) ?_
      refine lv_lstore (lv' := [(5, .long (lN (g % r))), (2, .long (lN r)), (7, .long (lN (g % r))), (0, .ref g0), (1, .int (nI S)), (4, .int (nI j))]) hx hb dX2_list_62 hl (by decide) rfl (fun ls hl => ?_)
      refine lv_goto (tgt := 44) hx hb dX2_list_64 (by decide) ?_
      have hlt : g % r < r := Nat.mod_lt g (by omega)
      exact ih r (g % r) _ _ _ (by omega) ⟨by rw [← hI.1, Nat.gcd_comm g r, Nat.gcd_rec r g, Nat.gcd_comm], hI.2.2, by omega⟩ (hP.sub [0, 1, 2, 3] rfl) (hD.sub [0, 1, 2, 3] (by decide) rfl) hS (lv_sub hl [3, 4, 1, 5, 0] rfl)
set_option maxHeartbeats 4000000 in
set_option maxRecDepth 100000 in
theorem lpX2_list1 {p : Program} {l : Launch} {e : Env} {s : State} {m : MethodId} {args : Array Value} {below : List Frame} {meth : Method} {c : Code} {Q : State → Prop} {D : va_G} {A : Nat → Prop} {H0 : Heap} (C0 : CallFix p m c cX2_list 9 s args wsX2_list RX2) (hN : gx_N s) (hA : ∀ q : Nat, H0.size ≤ q → A q) {g0 p1 b1 q1 t1 a1 l1 v1 M R n : Nat} {S : Nat} {dS dR dV : ClassId} {U T0 : Nat → Int32} {F : Nat → Int64} {f : Nat → Int} (hn : n < 70) (hF : ∀ j, j < 8 → F j = Int64.ofInt (f j)) (hf : ∀ j, j < 8 → (f j).natAbs ≤ 382637520) (hK : va_K D vwCl [(dS, .int), (dR, .int), (dV, .long)] s) (kk : ∀ (H : Heap) (locs : List Loc) (ls : Array Slot), va_P D vwCl [(g0, .inr (2, [.ref p1, .ref b1, .int (nI M), .int (nI R), .int (nI n), .ref q1, .ref t1, .ref a1, .ref l1, .ref v1])), (q1, .inl (dS, 70, .inl U)), (t1, .inl (dR, 560, .inl T0)), (v1, .inl (dV, 8, .inr (.inl F)))] H → va_D A [(g0, .inr (2, [.ref p1, .ref b1, .int (nI M), .int (nI R), .int (nI n), .ref q1, .ref t1, .ref a1, .ref l1, .ref v1])), (q1, .inl (dS, 70, .inl U)), (t1, .inl (dR, 560, .inl T0)), (v1, .inl (dV, 8, .inr (.inl F)))] → va_S A H0 H locs → lv_has ls 9 [(0, .ref g0), (1, .int (nI S)), (2, .long (lN (gdv (fun j => (f j).natAbs) 8))), (4, .int (nI 8))] → W p l e rmX2_list s m args below meth c H locs 0 0 Q (F0 m 73 ls [])) : ∀ (n_ : Nat) (j g : Nat) (H : Heap) (locs : List Loc) (ls : Array Slot), (j ≤ 8 ∧ 8 < j + n_) → (g = gdv (fun j => (f j).natAbs) j) → va_P D vwCl [(g0, .inr (2, [.ref p1, .ref b1, .int (nI M), .int (nI R), .int (nI n), .ref q1, .ref t1, .ref a1, .ref l1, .ref v1])), (q1, .inl (dS, 70, .inl U)), (t1, .inl (dR, 560, .inl T0)), (v1, .inl (dV, 8, .inr (.inl F)))] H → va_D A [(g0, .inr (2, [.ref p1, .ref b1, .int (nI M), .int (nI R), .int (nI n), .ref q1, .ref t1, .ref a1, .ref l1, .ref v1])), (q1, .inl (dS, 70, .inl U)), (t1, .inl (dR, 560, .inl T0)), (v1, .inl (dV, 8, .inr (.inl F)))] → va_S A H0 H locs → lv_has ls 9 [(0, .ref g0), (1, .int (nI S)), (2, .long (lN g)), (4, .int (nI j))] → W p l e rmX2_list s m args below meth c H locs 0 0 Q (F0 m 5 ls []) := by
  obtain ⟨hx, hb, hml, hown, hts⟩ := id C0
  intro n_
  induction n_ with
  | zero =>
    intro j g H locs ls hm
    exact absurd hm (by omega)
  | succ n_ ih =>
    intro j g H locs ls hm hI hP hD hS hl
    refine lv_iload hx hb dX2_list_5 (lv_at hl 3 rfl) ?_
    refine lv_bipush (v := nI 8) hx hb dX2_list_7 (by decide) ?_
    refine gx_ge (tgt := 73) hx hb dX2_list_9 (by decide) (by omega) (by omega) (fun c_9 => ?_) (fun c_9 => ?_)
    · have hj8 : j = 8 := by omega
      subst hj8
      subst hI
      exact kk _ _ _ (hP.sub [0, 1, 2, 3] rfl) (hD.sub [0, 1, 2, 3] (by decide) rfl) hS (lv_sub hl [0, 1, 2, 3] rfl)
    · refine lv_aload_n hx hb dX2_list_12 rfl (lv_at hl 0 rfl) ?_
      refine va_get (D := D) (ci := 2) (v := .ref v1) (C := RX2) (T := TX2) (N := 10) hx hb hts iw_X2_list_X2 hown hK hP 0 rfl rfl 9 (by decide) (hts _ kw_X2_list_30) (fun _ h9 => h9) rfl dX2_list_13 ?_
      refine lv_iload hx hb dX2_list_16 (lv_at hl 3 rfl) ?_
      refine gx_lald (q := j) hx hb hK hP 3 2 rfl rfl (rfl) (by omega) (by decide) dX2_list_18 ?_
      refine gx_l (y := Int64.ofInt (f j)) (hF j (by omega)) ?_
      refine lv_lconst (v := 0) hx hb dX2_list_19 (by decide) ?_
      refine W.lcmp hx hb dX2_list_20 ?_
      refine lv_if_ge (tgt := 35) hx hb dX2_list_21 (by decide) (fun c_21 => ?_) (fun c_21 => ?_)
      · refine lv_aload_n hx hb dX2_list_35 rfl (lv_at hl 0 rfl) ?_
        refine va_get (D := D) (ci := 2) (v := .ref v1) (C := RX2) (T := TX2) (N := 10) hx hb hts iw_X2_list_X2 hown hK hP 0 rfl rfl 9 (by decide) (hts _ kw_X2_list_30) (fun _ h9 => h9) rfl dX2_list_36 ?_
        refine lv_iload hx hb dX2_list_39 (lv_at hl 3 rfl) ?_
        refine gx_lald (q := j) hx hb hK hP 3 2 rfl rfl (rfl) (by omega) (by decide) dX2_list_41 ?_
        refine gx_l (y := lN (f j).natAbs) (by rw [hF j (by omega)]; exact ab_p (hf j (by omega)) ((gx_cmp_ge _ _).mp c_21)) ?_
        refine lv_lstore (lv' := [(5, .long (lN (f j).natAbs)), (0, .ref g0), (1, .int (nI S)), (2, .long (lN g)), (4, .int (nI j))]) hx hb dX2_list_42 hl (by decide) rfl (fun ls hl => ?_)
        refine lpX2_list0 (U := U) (T0 := T0) (G := Nat.gcd g (f j).natAbs) C0 hN hA hn hF hf hK (fun r H locs ls hP hD hS hl => ?_) ((f j).natAbs + 1) g (f j).natAbs _ _ _ (by omega) ⟨rfl, hI ▸ gdv_le hf (by omega), hf j (by omega)⟩ (hP.sub [0, 1, 2, 3] rfl) (hD.sub [0, 1, 2, 3] (by decide) rfl) hS (lv_sub hl [1, 2, 3, 4, 0] rfl)
        refine lv_iinc (v := nI (j + 1)) (lv' := [(4, .int (nI (j + 1))), (0, .ref g0), (1, .int (nI S)), (2, .long (lN (Nat.gcd g (f j).natAbs))), (5, .long (lN r))]) hx hb dX2_list_67 hl (k := 3) rfl ((nI_succ j).symm) (by decide) rfl (fun ls hl => ?_)
        refine lv_goto (tgt := 5) hx hb dX2_list_70 (by decide) ?_
        exact ih (j + 1) (Nat.gcd g (f j).natAbs) _ _ _ (by omega) (by rw [hI]; rfl) (hP.sub [0, 1, 2, 3] rfl) (hD.sub [0, 1, 2, 3] (by decide) rfl) hS (lv_sub hl [1, 2, 3, 0] rfl)
      · refine lv_aload_n hx hb dX2_list_24 rfl (lv_at hl 0 rfl) ?_
        refine va_get (D := D) (ci := 2) (v := .ref v1) (C := RX2) (T := TX2) (N := 10) hx hb hts iw_X2_list_X2 hown hK hP 0 rfl rfl 9 (by decide) (hts _ kw_X2_list_30) (fun _ h9 => h9) rfl dX2_list_25 ?_
        refine lv_iload hx hb dX2_list_28 (lv_at hl 3 rfl) ?_
        refine gx_lald (q := j) hx hb hK hP 3 2 rfl rfl (rfl) (by omega) (by decide) dX2_list_30 ?_
        refine gx_l (y := Int64.ofInt (f j)) (hF j (by omega)) ?_
        refine lv_lneg hx hb dX2_list_31 ?_
        refine gx_l (y := lN (f j).natAbs) (ab_m (hf j (by omega)) (Classical.byContradiction (fun q => c_21 ((gx_cmp_ge _ _).mpr q)))) ?_
        refine lv_goto (tgt := 42) hx hb dX2_list_32 (by decide) ?_
        refine lv_lstore (lv' := [(5, .long (lN (f j).natAbs)), (0, .ref g0), (1, .int (nI S)), (2, .long (lN g)), (4, .int (nI j))]) hx hb dX2_list_42 hl (by decide) rfl (fun ls hl => ?_)
        refine lpX2_list0 (U := U) (T0 := T0) (G := Nat.gcd g (f j).natAbs) C0 hN hA hn hF hf hK (fun r H locs ls hP hD hS hl => ?_) ((f j).natAbs + 1) g (f j).natAbs _ _ _ (by omega) ⟨rfl, hI ▸ gdv_le hf (by omega), hf j (by omega)⟩ (hP.sub [0, 1, 2, 3] rfl) (hD.sub [0, 1, 2, 3] (by decide) rfl) hS (lv_sub hl [1, 2, 3, 4, 0] rfl)
        refine lv_iinc (v := nI (j + 1)) (lv' := [(4, .int (nI (j + 1))), (0, .ref g0), (1, .int (nI S)), (2, .long (lN (Nat.gcd g (f j).natAbs))), (5, .long (lN r))]) hx hb dX2_list_67 hl (k := 3) rfl ((nI_succ j).symm) (by decide) rfl (fun ls hl => ?_)
        refine lv_goto (tgt := 5) hx hb dX2_list_70 (by decide) ?_
        exact ih (j + 1) (Nat.gcd g (f j).natAbs) _ _ _ (by omega) (by rw [hI]; rfl) (hP.sub [0, 1, 2, 3] rfl) (hD.sub [0, 1, 2, 3] (by decide) rfl) hS (lv_sub hl [1, 2, 3, 0] rfl)
set_option maxHeartbeats 4000000 in
set_option maxRecDepth 100000 in
theorem lpX2_list2 {p : Program} {l : Launch} {e : Env} {s : State} {m : MethodId} {args : Array Value} {below : List Frame} {meth : Method} {c : Code} {Q : State → Prop} {D : va_G} {A : Nat → Prop} {H0 : Heap} (C0 : CallFix p m c cX2_list 9 s args wsX2_list RX2) (hN : gx_N s) (hA : ∀ q : Nat, H0.size ≤ q → A q) {g0 p1 b1 q1 t1 a1 l1 v1 M R n : Nat} {S : Nat} {dS dR dV : ClassId} {U T0 : Nat → Int32} {F : Nat → Int64} {f : Nat → Int} {G : Nat} (hn : n < 70) (hF : ∀ j, j < 8 → F j = Int64.ofInt (f j)) (hf : ∀ j, j < 8 → (f j).natAbs ≤ 382637520) (hG : ¬ lN G = 0) (hK : va_K D vwCl [(dS, .int), (dR, .int), (dV, .long)] s) (kk : ∀ (T : Nat → Int32) (H : Heap) (locs : List Loc) (ls : Array Slot), (rl_I T0 T n (fun j => (qt (Int64.ofInt (f j)) (lN G)).toInt32) 8) → va_P D vwCl [(g0, .inr (2, [.ref p1, .ref b1, .int (nI M), .int (nI R), .int (nI n), .ref q1, .ref t1, .ref a1, .ref l1, .ref v1])), (q1, .inl (dS, 70, .inl U)), (t1, .inl (dR, 560, .inl T)), (v1, .inl (dV, 8, .inr (.inl F)))] H → va_D A [(g0, .inr (2, [.ref p1, .ref b1, .int (nI M), .int (nI R), .int (nI n), .ref q1, .ref t1, .ref a1, .ref l1, .ref v1])), (q1, .inl (dS, 70, .inl U)), (t1, .inl (dR, 560, .inl T)), (v1, .inl (dV, 8, .inr (.inl F)))] → va_S A H0 H locs → lv_has ls 9 [(0, .ref g0), (1, .int (nI S)), (2, .long (lN G)), (4, .int (nI 8))] → W p l e rmX2_list s m args below meth c H locs 0 0 Q (F0 m 124 ls [])) : ∀ (n_ : Nat) (j : Nat) (T : Nat → Int32) (H : Heap) (locs : List Loc) (ls : Array Slot), (j ≤ 8 ∧ 8 < j + n_) → (rl_I T0 T n (fun j => (qt (Int64.ofInt (f j)) (lN G)).toInt32) j) → va_P D vwCl [(g0, .inr (2, [.ref p1, .ref b1, .int (nI M), .int (nI R), .int (nI n), .ref q1, .ref t1, .ref a1, .ref l1, .ref v1])), (q1, .inl (dS, 70, .inl U)), (t1, .inl (dR, 560, .inl T)), (v1, .inl (dV, 8, .inr (.inl F)))] H → va_D A [(g0, .inr (2, [.ref p1, .ref b1, .int (nI M), .int (nI R), .int (nI n), .ref q1, .ref t1, .ref a1, .ref l1, .ref v1])), (q1, .inl (dS, 70, .inl U)), (t1, .inl (dR, 560, .inl T)), (v1, .inl (dV, 8, .inr (.inl F)))] → va_S A H0 H locs → lv_has ls 9 [(0, .ref g0), (1, .int (nI S)), (2, .long (lN G)), (4, .int (nI j))] → W p l e rmX2_list s m args below meth c H locs 0 0 Q (F0 m 86 ls []) := by
  obtain ⟨hx, hb, hml, hown, hts⟩ := id C0
  intro n_
  induction n_ with
  | zero =>
    intro j T H locs ls hm
    exact absurd hm (by omega)
  | succ n_ ih =>
    intro j T H locs ls hm hI hP hD hS hl
    refine lv_iload hx hb dX2_list_86 (lv_at hl 3 rfl) ?_
    refine lv_bipush (v := nI 8) hx hb dX2_list_88 (by decide) ?_
    refine gx_ge (tgt := 124) hx hb dX2_list_90 (by decide) (by omega) (by omega) (fun c_90 => ?_) (fun c_90 => ?_)
    · have hj8 : j = 8 := by omega
      subst hj8
      exact kk _ _ _ _ hI (hP.sub [0, 1, 2, 3] rfl) (hD.sub [0, 1, 2, 3] (by decide) rfl) hS (lv_sub hl [0, 1, 2, 3] rfl)
    · refine lv_aload_n hx hb dX2_list_93 rfl (lv_at hl 0 rfl) ?_
      refine va_get (D := D) (ci := 2) (v := .ref t1) (C := RX2) (T := TX2) (N := 10) hx hb hts iw_X2_list_X2 hown hK hP 0 rfl rfl 6 (by decide) (hts _ kw_X2_list_20) (fun _ h9 => h9) rfl dX2_list_94 ?_
      refine lv_bipush (v := nI 8) hx hb dX2_list_97 (by decide) ?_
      refine lv_aload_n hx hb dX2_list_99 rfl (lv_at hl 0 rfl) ?_
      refine va_get (D := D) (ci := 2) (v := .int (nI n)) (C := RX2) (T := TX2) (N := 10) hx hb hts iw_X2_list_X2 hown hK hP 0 rfl rfl 4 (by decide) (hts _ kw_X2_list_40) (fun _ h9 => h9) rfl dX2_list_100 ?_
      refine lv_imul hx hb dX2_list_103 ?_
      refine gx_i (y := nI (n * 8)) ((pk_mul 8 n).trans (by rw [Nat.mul_comm])) ?_
      refine lv_iload hx hb dX2_list_104 (lv_at hl 3 rfl) ?_
      refine lv_iadd hx hb dX2_list_106 ?_
      refine gx_i (y := nI (n * 8 + j)) (nI_add (n * 8) j) ?_
      refine lv_aload_n hx hb dX2_list_107 rfl (lv_at hl 0 rfl) ?_
      refine va_get (D := D) (ci := 2) (v := .ref v1) (C := RX2) (T := TX2) (N := 10) hx hb hts iw_X2_list_X2 hown hK hP 0 rfl rfl 9 (by decide) (hts _ kw_X2_list_30) (fun _ h9 => h9) rfl dX2_list_108 ?_
      refine lv_iload hx hb dX2_list_111 (lv_at hl 3 rfl) ?_
      refine gx_lald (q := j) hx hb hK hP 3 2 rfl rfl (rfl) (by omega) (by decide) dX2_list_113 ?_
      refine gx_l (y := Int64.ofInt (f j)) (hF j (by omega)) ?_
      refine lv_lload_n hx hb dX2_list_114 rfl (lv_at hl 2 rfl) ?_
      refine lv_ldiv hx hb dX2_list_115 hG ?_
      refine gx_l (y := qt (Int64.ofInt (f j)) (lN G)) (qt_ne hG) ?_
      refine lv_l2i (v := (qt (Int64.ofInt (f j)) (lN G)).toInt32) hx hb dX2_list_116 rfl ?_
      refine gx_iast (q := n * 8 + j) hx hb hK hP hD hS 2 1 rfl rfl (rfl) (by omega) (by decide) dX2_list_117 (fun H locs hP hD hS => ?_)
      have hP : va_P D vwCl [(g0, .inr (2, [.ref p1, .ref b1, .int (nI M), .int (nI R), .int (nI n), .ref q1, .ref t1, .ref a1, .ref l1, .ref v1])), (q1, .inl (dS, 70, .inl U)), (t1, .inl (dR, 560, .inl (upd T (n * 8 + j) ((qt (Int64.ofInt (f j)) (lN G)).toInt32)))), (v1, .inl (dV, 8, .inr (.inl F)))] H := hP
      have hD : va_D A [(g0, .inr (2, [.ref p1, .ref b1, .int (nI M), .int (nI R), .int (nI n), .ref q1, .ref t1, .ref a1, .ref l1, .ref v1])), (q1, .inl (dS, 70, .inl U)), (t1, .inl (dR, 560, .inl (upd T (n * 8 + j) ((qt (Int64.ofInt (f j)) (lN G)).toInt32)))), (v1, .inl (dV, 8, .inr (.inl F)))] := hD
      refine lv_iinc (v := nI (j + 1)) (lv' := [(4, .int (nI (j + 1))), (0, .ref g0), (1, .int (nI S)), (2, .long (lN G))]) hx hb dX2_list_118 hl (k := 3) rfl ((nI_succ j).symm) (by decide) rfl (fun ls hl => ?_)
      refine lv_goto (tgt := 86) hx hb dX2_list_121 (by decide) ?_
      exact ih (j + 1) _ _ _ _ (by omega) (rl_s (by omega) hI) (hP.sub [0, 1, 2, 3] rfl) (hD.sub [0, 1, 2, 3] (by decide) rfl) hS (lv_sub hl [1, 2, 3, 0] rfl)
set_option maxHeartbeats 4000000 in
set_option maxRecDepth 100000 in
theorem kX2_list (l : Launch) (D : va_G) (g0 p1 b1 q1 t1 a1 l1 v1 M R n : Nat) (S : Nat) (dS dR dV : ClassId) (U T : Nat → Int32) (F : Nat → Int64) (f : Nat → Int) (hn : n < 70) (hF : ∀ j, j < 8 → F j = Int64.ofInt (f j)) (hf : ∀ j, j < 8 → (f j).natAbs ≤ 382637520) (hG : ¬ lN (gdv (fun j => (f j).natAbs) 8) = 0) : gx_Mv l D yX2_list wsX2_list rmX2_list [.ref g0, .int (nI S)] [(dS, .int), (dR, .int), (dV, .long)] [(g0, .inr (2, [.ref p1, .ref b1, .int (nI M), .int (nI R), .int (nI n), .ref q1, .ref t1, .ref a1, .ref l1, .ref v1])), (q1, .inl (dS, 70, .inl U)), (t1, .inl (dR, 560, .inl T)), (v1, .inl (dV, 8, .inr (.inl F)))] (S := Nat → Int32) (fun (u : Nat → Int32) => rl_I T u n (fun j => (qt (Int64.ofInt (f j)) (lN (gdv (fun j => (f j).natAbs) 8))).toInt32) 8) (fun (u : Nat → Int32) => [(g0, .inr (2, [.ref p1, .ref b1, .int (nI M), .int (nI R), .int (nI (n + 1)), .ref q1, .ref t1, .ref a1, .ref l1, .ref v1])), (q1, .inl (dS, 70, .inl (upd U n (nI S)))), (t1, .inl (dR, 560, .inl u)), (v1, .inl (dV, 8, .inr (.inl F)))]) := by
  intro sz
  refine gx_start (cc := cX2_list) (maxL := 9) (ret := none) (Qc := fun A => va_Qv (fun (u : Nat → Int32) => rl_I T u n (fun j => (qt (Int64.ofInt (f j)) (lN (gdv (fun j => (f j).natAbs) 8))).toInt32) 8) (gx_B D [(dS, .int), (dR, .int), (dV, .long)] A (fun (u : Nat → Int32) => [(g0, .inr (2, [.ref p1, .ref b1, .int (nI M), .int (nI R), .int (nI (n + 1)), .ref q1, .ref t1, .ref a1, .ref l1, .ref v1])), (q1, .inl (dS, 70, .inl (upd U n (nI S)))), (t1, .inl (dR, 560, .inl u)), (v1, .inl (dV, 8, .inr (.inl F)))])) A) (by decide) rfl (Nat.le_of_ble_eq_true rfl) ?_ sz
  intro p e s m below meth c A hbody ls hl
  obtain ⟨C0, hr, hlocks, hN, hK, hP, hD, hA⟩ := hbody
  have C0 : CallFix p m c cX2_list 9 s ([.ref g0, .int (nI S)] : List Value).toArray wsX2_list RX2 := C0
  obtain ⟨hx, hb, hml, hown, hts⟩ := id C0
  have hS : va_S A s.heap s.heap [] := va_S.rf
  have hl : lv_has ls 9 [(0, .ref g0), (1, .int (nI S))] := hl
  refine lv_lconst (v := 0) hx hb dX2_list_0 (by decide) ?_
  refine lv_lstore_n (lv' := [(2, .long 0), (0, .ref g0), (1, .int (nI S))]) hx hb dX2_list_1 rfl hl (by decide) rfl (fun ls hl => ?_)
  refine lv_iconst (v := nI 0) hx hb dX2_list_2 (by decide) ?_
  refine lv_istore (lv' := [(4, .int (nI 0)), (2, .long 0), (0, .ref g0), (1, .int (nI S))]) hx hb dX2_list_3 hl (by decide) rfl (fun ls hl => ?_)
  refine lpX2_list1 (U := U) C0 hN hA hn hF hf hK (fun H locs ls hP hD hS hl => ?_) 9 0 0 _ _ _ (by omega) rfl (hP.sub [0, 1, 2, 3] rfl) (hD.sub [0, 1, 2, 3] (by decide) rfl) hS (lv_sub hl [2, 3, 1, 0] rfl)
  generalize hGe : gdv (fun j => (f j).natAbs) 8 = G at hl ⊢ hG
  refine lv_aload_n hx hb dX2_list_73 rfl (lv_at hl 0 rfl) ?_
  refine va_get (D := D) (ci := 2) (v := .ref q1) (C := RX2) (T := TX2) (N := 10) hx hb hts iw_X2_list_X2 hown hK hP 0 rfl rfl 5 (by decide) (hts _ kw_X2_list_17) (fun _ h9 => h9) rfl dX2_list_74 ?_
  refine lv_aload_n hx hb dX2_list_77 rfl (lv_at hl 0 rfl) ?_
  refine va_get (D := D) (ci := 2) (v := .int (nI n)) (C := RX2) (T := TX2) (N := 10) hx hb hts iw_X2_list_X2 hown hK hP 0 rfl rfl 4 (by decide) (hts _ kw_X2_list_40) (fun _ h9 => h9) rfl dX2_list_78 ?_
  refine lv_iload_n hx hb dX2_list_81 rfl (lv_at hl 1 rfl) ?_
  refine gx_iast (q := n) hx hb hK hP hD hS 1 0 rfl rfl (rfl) (by omega) (by decide) dX2_list_82 (fun H locs hP hD hS => ?_)
  have hP : va_P D vwCl [(g0, .inr (2, [.ref p1, .ref b1, .int (nI M), .int (nI R), .int (nI n), .ref q1, .ref t1, .ref a1, .ref l1, .ref v1])), (q1, .inl (dS, 70, .inl (upd U n (nI S)))), (t1, .inl (dR, 560, .inl T)), (v1, .inl (dV, 8, .inr (.inl F)))] H := hP
  have hD : va_D A [(g0, .inr (2, [.ref p1, .ref b1, .int (nI M), .int (nI R), .int (nI n), .ref q1, .ref t1, .ref a1, .ref l1, .ref v1])), (q1, .inl (dS, 70, .inl (upd U n (nI S)))), (t1, .inl (dR, 560, .inl T)), (v1, .inl (dV, 8, .inr (.inl F)))] := hD
  refine lv_iconst (v := nI 0) hx hb dX2_list_83 (by decide) ?_
  refine lv_istore (lv' := [(4, .int (nI 0)), (0, .ref g0), (1, .int (nI S)), (2, .long (lN G))]) hx hb dX2_list_84 hl (by decide) rfl (fun ls hl => ?_)
  refine lpX2_list2 (T0 := T) (G := G) C0 hN hA hn hF hf hG hK (fun T1 H locs ls hI hP hD hS hl => ?_) 9 0 T _ _ _ (by omega) (rl_0 T n _) (hP.sub [0, 1, 2, 3] rfl) (hD.sub [0, 1, 2, 3] (by decide) rfl) hS (lv_sub hl [1, 2, 3, 0] rfl)
  refine lv_aload_n hx hb dX2_list_124 rfl (lv_at hl 0 rfl) ?_
  refine lv_dup hx hb dX2_list_125 rfl ?_
  refine va_get (D := D) (ci := 2) (v := .int (nI n)) (C := RX2) (T := TX2) (N := 10) hx hb hts iw_X2_list_X2 hown hK hP 0 rfl rfl 4 (by decide) (hts _ kw_X2_list_40) (fun _ h9 => h9) rfl dX2_list_126 ?_
  refine lv_iconst (v := nI 1) hx hb dX2_list_129 (by decide) ?_
  refine lv_iadd hx hb dX2_list_130 ?_
  refine gx_i (y := nI (n + 1)) (nI_add n 1) ?_
  refine va_put (D := D) (ci := 2) (v := .int (nI (n + 1))) (ty := .int) (C := RX2) (T := TX2) (N := 10) hx hb hts iw_X2_list_X2 tyX2 tyX2_ok nmX2 hown hK hP hD hS 0 rfl rfl 4 (by decide) (hts _ kw_X2_list_40) (fun _ h9 => h9) rfl (by decide +kernel) rfl rfl (Nat.le_of_ble_eq_true rfl) dX2_list_131 (fun H locs hP hD hS => ?_)
  have hP : va_P D vwCl [(g0, .inr (2, [.ref p1, .ref b1, .int (nI M), .int (nI R), .int (nI (n + 1)), .ref q1, .ref t1, .ref a1, .ref l1, .ref v1])), (q1, .inl (dS, 70, .inl (upd U n (nI S)))), (t1, .inl (dR, 560, .inl T1)), (v1, .inl (dV, 8, .inr (.inl F)))] H := hP
  have hD : va_D A [(g0, .inr (2, [.ref p1, .ref b1, .int (nI M), .int (nI R), .int (nI (n + 1)), .ref q1, .ref t1, .ref a1, .ref l1, .ref v1])), (q1, .inl (dS, 70, .inl (upd U n (nI S)))), (t1, .inl (dR, 560, .inl T1)), (v1, .inl (dV, 8, .inr (.inl F)))] := hD
  exact gx_retv hx hb hr hlocks T1 (hI) hK (hP.sub [0, 1, 2, 3] rfl) (hD.sub [0, 1, 2, 3] (by decide) rfl) hS dX2_list_134
end
section
/-! the reference's elimination: all columns, one of them left free -/
def sA_I (c0 : Nat → Nat → Int) (M : Nat) (E : Nat → Int32) (k : Nat) (σ : Nat → Nat) (K : Nat → Int64) (bf : Int64) : Prop := mx_sg c0 M k = some σ ∧ bf = Int64.ofInt (mx_p c0 k σ) ∧ ∀ r q, r < M → q < 8 → K (r * 8 + q) = Int64.ofInt (mx_X c0 k σ r (mx_col E q))
theorem col_9 {E : Nat → Int32} (h : e9 E) (q : Nat) : ∀ s, (mx_col E q s).natAbs ≤ 9 := by
  intro s
  unfold mx_col
  split
  · exact h _ (by omega)
  · decide
theorem sA_0 {c0 : Nat → Nat → Int} {M : Nat} {E : Nat → Int32} {K : Nat → Int64} (hM : M ≤ 6) (h : ∀ q, q < 48 → K q = (E q).toInt64) : sA_I c0 M E 0 (fun s => s) K 1 := by
  refine ⟨rfl, rfl, fun r q hr hq => ?_⟩
  rw [mx_X_0, h _ (by omega)]
  unfold mx_col
  rw [if_pos ⟨by omega, hq⟩, Int64.ofInt_int32ToInt]
theorem sA_nz {c0 : Nat → Nat → Int} {M : Nat} {E : Nat → Int32} {k : Nat} {σ : Nat → Nat} {K : Nat → Int64} {bf : Int64} (hM : M ≤ 6) (hc : ∀ t s, (c0 t s).natAbs ≤ 9) (h9 : e9 E) (hI : sA_I c0 M E k σ K bf) {i q : Nat} (hi : i < M) (hq : q < 8) : K (i * 8 + q) = 0 ↔ mx_X c0 k σ i (mx_col E q) = 0 := by
  rw [hI.2.2 i q hi hq]
  exact l64_zero (mx_X_abs hM (mx_sg_ok hI.1).1 hi hc (col_9 h9 q))
theorem sA_step {c0 : Nat → Nat → Int} {M : Nat} {E : Nat → Int32} {k j i : Nat} {σ : Nat → Nat} {K K1 K2 : Nat → Int64} {bf : Int64} (hM : M ≤ 6) (hc : ∀ t s, (c0 t s).natAbs ≤ 9) (h9 : e9 E) (hj : j < 8) (hcj : c0 k = mx_col E j) (hI : sA_I c0 M E k σ K bf) (g1 : k ≤ i) (g2 : i < M) (g3 : K (i * 8 + j) ≠ 0) (g4 : ∀ r, k ≤ r → r < i → K (r * 8 + j) = 0) (h1 : sw_I K K1 k i 8) (h2 : cm_I K1 K2 k j bf M) : ∃ σ', sA_I c0 M E (k + 1) σ' K2 (K2 (k * 8 + j)) := by
  have hnz := fun {i} (hi : i < M) => sA_nz hM hc h9 hI (i := i) hi hj
  obtain ⟨a1, a2, a3⟩ := hI
  obtain ⟨hkM, hp, -⟩ := mx_sg_ok a1
  have hkM' : k < M := by omega
  have e1 : ∀ r q, q < 8 → K1 (r * 8 + q) = K (mx_sw k i r * 8 + q) := fun r q hq => by rw [h1 r q hq, if_pos hq]
  have hf : mx_first (fun i => mx_X c0 k σ i (c0 k) != 0) k (M - k) = some i := by
    rw [hcj]
    refine mx_first_at g1 (by omega) ?_ (fun r hr1 hr2 => ?_)
    · have : mx_X c0 k σ i (mx_col E j) ≠ 0 := fun q => g3 ((hnz g2).mpr q)
      simpa using this
    · have : mx_X c0 k σ r (mx_col E j) = 0 := (hnz (by omega)).mp (g4 r hr1 hr2)
      simpa using this
  refine ⟨fun s => σ (mx_sw k i s), mx_sg_next a1 hf, ?_, fun r q hr hq => ?_⟩
  · rw [h2 k j hj, if_neg (by omega), e1 k j hj, mx_sw_l, a3 i j g2 hj, mx_p_next, mx_X_sw c0 σ g1, mx_sw_l, hcj]
  · rw [h2 r q hq]
    by_cases hrk : r = k
    · subst hrk
      rw [if_neg (by omega), e1 r q hq, mx_sw_l, a3 i q g2 hq, mx_X_step_k, mx_X_sw c0 σ g1, mx_sw_l]
    · have hsr : mx_sw k i r < M := mx_sw_lt hkM' g2 hr
      rw [if_pos ⟨hr, hrk⟩, e1 k j hj, e1 r q hq, e1 r j hj, e1 k q hq, mx_sw_l, a3 i j g2 hj, a3 _ q hsr hq, a3 _ j hsr hj, a3 i q g2 hq, a2]
      refine l64_step (mx_X_abs hM hkM g2 hc (col_9 h9 j)) (mx_X_abs hM hkM hsr hc (col_9 h9 q)) (mx_X_abs hM hkM hsr hc (col_9 h9 j)) (mx_X_abs hM hkM g2 hc (col_9 h9 q)) hp (mx_p_abs hM hkM hc) ?_
      have hst := mx_X_step c0 (k := k) (i := r) (fun s => σ (mx_sw k i s)) hrk (mx_col E q)
      rw [mx_p_sw c0 σ g1, mx_X_sw c0 σ g1, mx_X_sw c0 σ g1, mx_X_sw c0 σ g1, mx_X_sw c0 σ g1, mx_sw_l, hcj] at hst
      exact hst
def updN (f : Nat → Nat) (k x : Nat) : Nat → Nat := fun j => if j = k then x else f j
theorem updN_at (f : Nat → Nat) (k x : Nat) : updN f k x k = x := if_pos rfl
theorem updN_ne {f : Nat → Nat} {k j x : Nat} (h : j ≠ k) : updN f k x j = f j := if_neg h
def lds (Ld : Nat → Int32) (ld : Nat → Nat) : Prop := ∀ i, i < 8 → Ld i = nI (ld i)
theorem lds_s {Ld : Nat → Int32} {ld : Nat → Nat} {j x : Nat} (h : lds Ld ld) : lds (upd Ld j (nI x)) (updN ld j x) := by
  intro i hi
  by_cases hij : i = j
  · rw [hij, upd_at, updN_at]
  · rw [upd_ne hij, updN_ne hij]; exact h i hi
def sA (E : Nat → Int32) (M S j k : Nat) (bf : Int64) (K : Nat → Int64) (ld : Nat → Nat) : Prop := k = mx_cnt S j ∧ (∃ σ, sA_I (fc E S) M E k σ K bf) ∧ ∀ i, i < 8 → ld i = if i < j ∧ S.testBit i = true then mx_cnt S i + 1 else 0
def sB (E : Nat → Int32) (M S j k f : Nat) (bf : Int64) (K : Nat → Int64) (ld : Nat → Nat) : Prop :=
  (f < j ∧ S.testBit f = true ∧ mx_cnt S f ≤ k ∧ k ≤ M ∧ bf ≠ 0) ∧ mx_sg (fc E S) M (mx_cnt S f + 1) = none ∧ (∀ i, mx_cnt S f ≤ i → i < M → K (i * 8 + f) = 0) ∧ (∀ i, i < 8 → S.testBit i = false → ld i = 0) ∧ ld f = 0 ∧ (∀ i, i < 8 → ld i ≤ k) ∧ (∀ i, f < i → i < j → S.testBit i = true → mx_cnt S f < ld i) ∧ (mx_cnt S j = mx_cnt S f + 1 → (∃ σ, sA_I (fc E S) M E (mx_cnt S f) σ K bf) ∧ ∀ i, i < f → S.testBit i = true → ld i = mx_cnt S i + 1)
def sI (E : Nat → Int32) (M S j k : Nat) (fr : Int32) (bf : Int64) (K : Nat → Int64) (ld : Nat → Nat) : Prop := (fr = -1 ∧ sA E M S j k bf K ld) ∨ ∃ f, f < 8 ∧ fr = nI f ∧ sB E M S j k f bf K ld
theorem sI_0 {E : Nat → Int32} {M S : Nat} {K : Nat → Int64} (hM : M ≤ 6) (h : ∀ q, q < 48 → K q = (E q).toInt64) : sI E M S 0 0 (-1) 1 K (fun _ => 0) := Or.inl ⟨rfl, rfl, ⟨_, sA_0 hM h⟩, fun i _ => by rw [if_neg (fun q => absurd q.1 (Nat.not_lt_zero i))]⟩
theorem sA_bf {E : Nat → Int32} {M S j k : Nat} {bf : Int64} {K : Nat → Int64} {ld : Nat → Nat} (hM : M ≤ 6) (h9 : e9 E) (h : sA E M S j k bf K ld) : bf ≠ 0 ∧ k ≤ M := by
  obtain ⟨-, ⟨σ, a1, a2, -⟩, -⟩ := h
  obtain ⟨hk, hp, -⟩ := mx_sg_ok a1
  refine ⟨fun q => hp ?_, hk⟩
  rw [a2] at q
  exact (l64_zero (mx_p_abs hM hk (fc_9 h9 S))).mp q
theorem sI_bf {E : Nat → Int32} {M S j k : Nat} {fr : Int32} {bf : Int64} {K : Nat → Int64} {ld : Nat → Nat} (hM : M ≤ 6) (h9 : e9 E) (h : sI E M S j k fr bf K ld) : ¬ bf = 0 ∧ k ≤ M := by
  rcases h with ⟨-, h⟩ | ⟨f, -, -, ⟨-, -, -, h1, h2⟩, -⟩
  · exact sA_bf hM h9 h
  · exact ⟨h2, h1⟩
theorem sI_ld {E : Nat → Int32} {M S j k : Nat} {fr : Int32} {bf : Int64} {K : Nat → Int64} {ld : Nat → Nat} (hM : M ≤ 6) (h9 : e9 E) (h : sI E M S j k fr bf K ld) : ∀ i, i < 8 → ld i ≤ M := by
  rcases h with ⟨-, h⟩ | ⟨f, -, -, h⟩
  · intro i hi
    have hk := (sA_bf hM h9 h).2
    obtain ⟨h1, -, h3⟩ := h
    rw [h3 i hi]
    split
    · rename_i hx
      have := mx_cnt_lt hx.1 hx.2
      omega
    · exact Nat.zero_le M
  · intro i hi
    exact Nat.le_trans (h.2.2.2.2.2.1 i hi) h.1.2.2.2.1
theorem sI_skip {E : Nat → Int32} {M S j k : Nat} {fr : Int32} {bf : Int64} {K : Nat → Int64} {ld : Nat → Nat} (hb : S.testBit j = false) (h : sI E M S j k fr bf K ld) : sI E M S (j + 1) k fr bf K ld := by
  have hne : ∀ {i}, S.testBit i = true → i ≠ j := fun hi q => by rw [q, hb] at hi; cases hi
  rcases h with ⟨e, h1, h2, h3⟩ | ⟨f, hf, e, ⟨b1, b2, b3⟩, b4, b5, b6, b7, b8, b9, b10⟩
  · refine Or.inl ⟨e, by rw [mx_cnt_out hb]; exact h1, h2, fun i hi => ?_⟩
    rw [h3 i hi]
    by_cases hx : i < j ∧ S.testBit i = true
    · rw [if_pos hx, if_pos ⟨by omega, hx.2⟩]
    · rw [if_neg hx, if_neg (fun q => hx ⟨by have := hne q.2; omega, q.2⟩)]
  · refine Or.inr ⟨f, hf, e, ⟨by omega, b2, b3⟩, b4, b5, b6, b7, b8, fun i q1 q2 q3 => b9 i q1 (by have := hne q3; omega) q3, fun q => b10 (by rw [mx_cnt_out hb] at q; exact q)⟩
theorem sI_lt {E : Nat → Int32} {M S j k : Nat} {fr : Int32} {bf : Int64} {K : Nat → Int64} {ld : Nat → Nat} (h : sI E M S j k fr bf K ld) (hl : fr < 0) : sA E M S j k bf K ld := by
  rcases h with ⟨-, h⟩ | ⟨f, hf, e, -⟩
  · exact h
  · rw [e] at hl
    exact absurd hl (nI_pos (by omega))
theorem sI_nlt {E : Nat → Int32} {M S j k : Nat} {fr : Int32} {bf : Int64} {K : Nat → Int64} {ld : Nat → Nat} (h : sI E M S j k fr bf K ld) (hl : ¬ fr < 0) : ∃ f, f < 8 ∧ fr = nI f ∧ sB E M S j k f bf K ld := by
  rcases h with ⟨e, -⟩ | h
  · rw [e] at hl
    exact absurd (by decide) hl
  · exact h
theorem sI_free {E : Nat → Int32} {M S j k : Nat} {bf : Int64} {K : Nat → Int64} {ld : Nat → Nat} (hM : M ≤ 6) (h9 : e9 E) (hj : j < 8) (hb : S.testBit j = true) (h : sA E M S j k bf K ld) (hz : ∀ r, k ≤ r → r < M → K (r * 8 + j) = 0) : sI E M S (j + 1) k (nI j) bf K ld := by
  obtain ⟨hbf, hkM⟩ := sA_bf hM h9 h
  obtain ⟨rfl, ⟨σ, hs⟩, h3⟩ := h
  have hcj : fc E S (mx_cnt S j) = mx_col E j := by unfold fc; rw [mx_nth_cnt hb hj]
  refine Or.inr ⟨j, hj, rfl, ⟨Nat.lt_succ_self j, hb, Nat.le_refl _, hkM, hbf⟩, ?_, hz, fun i hi hn => ?_, ?_, fun i hi => ?_, fun i q1 q2 _ => absurd q1 (by omega), fun _ => ⟨⟨σ, hs⟩, fun i q1 q2 => ?_⟩⟩
  · refine mx_sg_fail hs.1 (mx_first_none (fun r hr1 hr2 => ?_))
    rw [hcj]
    have : mx_X (fc E S) (mx_cnt S j) σ r (mx_col E j) = 0 := (sA_nz hM (fc_9 h9 S) h9 hs (by omega) hj).mp (hz r hr1 (by omega))
    simpa using this
  · rw [h3 i hi, if_neg (fun q => by rw [hn] at q; cases q.2)]
  · rw [h3 j hj, if_neg (fun q => absurd q.1 (Nat.lt_irrefl j))]
  · rw [h3 i hi]
    split
    · rename_i hx
      have := mx_cnt_lt hx.1 hx.2
      omega
    · exact Nat.zero_le _
  · rw [h3 i (by omega), if_pos ⟨q1, q2⟩]
theorem cnt_next {S f j : Nat} (hfj : f < j) (hf : S.testBit f = true) : mx_cnt S f + 1 ≤ mx_cnt S j := mx_cnt_lt hfj hf
theorem sI_bad {E : Nat → Int32} {M S j k f : Nat} {bf : Int64} {K : Nat → Int64} {ld : Nat → Nat} (hj : j < 8) (hb : S.testBit j = true) (h : sB E M S j k f bf K ld) : ¬ okS E M S := by
  rintro ⟨σ, hs⟩
  obtain ⟨⟨b1, b2, -⟩, b4, -⟩ := h
  have h1 := cnt_next b1 b2
  have h2 := cnt_next hj hb
  have h3 := (mx_sg_none_le b4 (show mx_cnt S f + 1 ≤ mx_cnt S 8 - 1 by omega)).symm.trans hs.1
  cases h3
theorem qt_z (d : Int64) : qt 0 d = 0 := by
  unfold qt
  split
  · rfl
  · exact Int64.zero_div
theorem sI_piv {E : Nat → Int32} {M S j k i : Nat} {fr : Int32} {bf : Int64} {K K1 K2 : Nat → Int64} {ld : Nat → Nat} (hM : M ≤ 6) (h9 : e9 E) (hj : j < 8) (hb : S.testBit j = true) (h : sI E M S j k fr bf K ld) (g1 : k ≤ i) (g2 : i < M) (g3 : K (i * 8 + j) ≠ 0) (g4 : ∀ r, k ≤ r → r < i → K (r * 8 + j) = 0) (h1 : sw_I K K1 k i 8) (h2 : cm_I K1 K2 k j bf M) : sI E M S (j + 1) (k + 1) fr (K2 (k * 8 + j)) K2 (updN ld j (k + 1)) := by
  rcases h with ⟨e, rfl, ⟨σ, hs⟩, h3⟩ | ⟨f, hf, e, ⟨b1, b2, b3, b3a, b3b⟩, b4, b5, b6, b7, b8, b9, b10⟩
  · have hcj : fc E S (mx_cnt S j) = mx_col E j := by unfold fc; rw [mx_nth_cnt hb hj]
    refine Or.inl ⟨e, by rw [mx_cnt_in hb], sA_step hM (fc_9 h9 S) h9 hj hcj hs g1 g2 g3 g4 h1 h2, fun r hr => ?_⟩
    by_cases hrj : r = j
    · rw [hrj, updN_at, if_pos ⟨Nat.lt_succ_self j, hb⟩]
    · rw [updN_ne hrj, h3 r hr]
      by_cases hx : r < j ∧ S.testBit r = true
      · rw [if_pos hx, if_pos ⟨by omega, hx.2⟩]
      · rw [if_neg hx, if_neg (fun q => hx ⟨by omega, q.2⟩)]
  · have e1 : ∀ r q, q < 8 → K1 (r * 8 + q) = K (mx_sw k i r * 8 + q) := fun r q hq => by rw [h1 r q hq, if_pos hq]
    have hfj : f ≠ j := by omega
    have hz1 : ∀ r, mx_cnt S f ≤ r → r < M → K1 (r * 8 + f) = 0 := by
      intro r q1 q2
      rw [e1 r f hf]
      refine b5 _ ?_ (mx_sw_lt (by omega) g2 q2)
      unfold mx_sw
      split
      · omega
      · split <;> omega
    refine Or.inr ⟨f, hf, e, ⟨by omega, b2, by omega, by omega, ?_⟩, b4, fun r q1 q2 => ?_, fun r q1 q2 => ?_, ?_, fun r q1 => ?_, fun r q1 q2 q3 => ?_, fun q => ?_⟩
    · rw [h2 k j hj, if_neg (by omega), e1 k j hj, mx_sw_l]
      exact g3
    · rw [h2 r f hf]
      split
      · rw [hz1 r q1 q2, hz1 k b3 (by omega), Int64.mul_zero, Int64.mul_zero, Int64.sub_self, qt_z]
      · exact hz1 r q1 q2
    · have : r ≠ j := fun q => by rw [q, hb] at q2; cases q2
      rw [updN_ne this]
      exact b6 r q1 q2
    · rw [updN_ne hfj]; exact b7
    · by_cases hrj : r = j
      · rw [hrj, updN_at]; exact Nat.le_refl _
      · rw [updN_ne hrj]
        have := b8 r q1
        omega
    · by_cases hrj : r = j
      · rw [hrj, updN_at]; omega
      · rw [updN_ne hrj]
        exact b9 r q1 (by omega) q3
    · have h4 := cnt_next b1 b2
      rw [mx_cnt_in hb] at q
      omega
/-! its end -/
theorem sI_none {E : Nat → Int32} {M S R k : Nat} {bf : Int64} {K : Nat → Int64} {ld : Nat → Nat} (hR : R ≤ 8) (hs0 : 0 < S) (hs8 : S < 256) (hSR : S < 2 ^ R) (h : sA E M S R k bf K ld) : ¬ okS E M S := by
  rintro ⟨σ0, hs⟩
  obtain ⟨hk, ⟨σ', h1, -⟩, -⟩ := h
  have hce : mx_cnt S 8 = mx_cnt S R := cnt_hi hSR hR
  have hc1 := nz_cnt S hs8 hs0
  rw [hk, ← hce, show mx_cnt S 8 = (mx_cnt S 8 - 1) + 1 by omega] at h1
  obtain ⟨σ, i, g1, g2, -⟩ := mx_sg_prev h1
  obtain ⟨q1, q2, q3⟩ := mx_first_some g2
  have e : σ0 = σ := Option.some.inj (hs.1.symm.trans g1)
  subst e
  have h5 := hs.2.2 i q1 (by omega)
  rw [h5] at q3
  simp at q3
def fn_I (K : Nat → Int64) (ld : Nat → Nat) (f : Nat) (F0 F : Nat → Int64) (j : Nat) : Prop := ∀ i, i < 8 → F i = if i < j ∧ ld i ≠ 0 then -K ((ld i - 1) * 8 + f) else F0 i
theorem fn_0 (K : Nat → Int64) (ld : Nat → Nat) (f : Nat) (F0 : Nat → Int64) : fn_I K ld f F0 F0 0 := fun i _ => by rw [if_neg (fun q => absurd q.1 (Nat.not_lt_zero i))]
theorem fn_t {K : Nat → Int64} {ld : Nat → Nat} {f : Nat} {F0 F : Nat → Int64} {j : Nat} (hld : ld j ≠ 0) (h : fn_I K ld f F0 F j) : fn_I K ld f F0 (vp_updL F j (-K ((ld j - 1) * 8 + f))) (j + 1) := by
  intro i hi
  by_cases hij : i = j
  · subst hij
    rw [updL_at, if_pos ⟨Nat.lt_succ_self i, hld⟩]
  · rw [updL_ne hij, h i hi]
    by_cases hx : i < j ∧ ld i ≠ 0
    · rw [if_pos hx, if_pos ⟨by omega, hx.2⟩]
    · rw [if_neg hx, if_neg (fun q => hx ⟨by omega, q.2⟩)]
theorem fn_f {K : Nat → Int64} {ld : Nat → Nat} {f : Nat} {F0 F : Nat → Int64} {j : Nat} (hld : ld j = 0) (h : fn_I K ld f F0 F j) : fn_I K ld f F0 F (j + 1) := by
  intro i hi
  rw [h i hi]
  by_cases hx : i < j ∧ ld i ≠ 0
  · rw [if_pos hx, if_pos ⟨by omega, hx.2⟩]
  · have hy : ¬ (i < j + 1 ∧ ld i ≠ 0) := by
      intro q
      have hij : i ≠ j := fun z => q.2 (by rw [z]; exact hld)
      exact hx ⟨by omega, q.2⟩
    rw [if_neg hx, if_neg hy]
theorem cnt_ex {S a : Nat} : ∀ {b : Nat}, a ≤ b → mx_cnt S a < mx_cnt S b → ∃ j, a ≤ j ∧ j < b ∧ S.testBit j = true
  | 0, h1, h2 => by rw [Nat.le_zero.mp h1] at h2; exact absurd h2 (Nat.lt_irrefl _)
  | b + 1, h1, h2 => by
    cases hb : S.testBit b with
    | true =>
      rcases Nat.lt_or_ge b a with h3 | h3
      · rw [show a = b + 1 by omega] at h2; exact absurd h2 (Nat.lt_irrefl _)
      · exact ⟨b, h3, Nat.lt_succ_self b, hb⟩
    | false =>
      rw [mx_cnt_out hb] at h2
      rcases Nat.lt_or_ge b a with h3 | h3
      · rw [show a = b + 1 by omega, mx_cnt_out hb] at h2; exact absurd h2 (Nat.lt_irrefl _)
      · obtain ⟨j, q1, q2, q3⟩ := cnt_ex (b := b) h3 h2
        exact ⟨j, q1, by omega, q3⟩
def st_P (E : Nat → Int32) (M S : Nat) (b : Bool) (F : Nat → Int64) : Prop := (okS E M S → b = true ∧ ∀ j, j < 8 → F j = Int64.ofInt (fvv E M S j)) ∧ (¬ okS E M S → b = false ∨ ∃ j, j < 8 ∧ S.testBit j = true ∧ F j = 0)
theorem st_no {E : Nat → Int32} {M S : Nat} {F : Nat → Int64} (h : ¬ okS E M S) : st_P E M S false F := ⟨fun q => absurd q h, fun _ => Or.inl rfl⟩
theorem neg64_0 : -(0 : Int64) = 0 := by decide
theorem st_fin {E : Nat → Int32} {M S R k f : Nat} {bf : Int64} {K F : Nat → Int64} {ld : Nat → Nat} (hM : M ≤ 6) (h9 : e9 E) (hR : R ≤ 8) (hs0 : 0 < S) (hs8 : S < 256) (hSR : S < 2 ^ R) (hf8 : f < 8) (h : sB E M S R k f bf K ld) (hF : fn_I K ld f (vp_updL (fun _ => 0) f bf) F R) : st_P E M S true F := by
  obtain ⟨⟨b1, b2, b3, b3a, b3b⟩, b4, b5, b6, b7, b8, b9, b10⟩ := h
  have hce : mx_cnt S 8 = mx_cnt S R := cnt_hi hSR hR
  have hmR : ∀ i, i < 8 → S.testBit i = true → i < R := by
    intro i _ hb
    rcases Nat.lt_or_ge i R with h1 | h1
    · exact h1
    · rw [Nat.testBit_lt_two_pow (Nat.lt_of_lt_of_le hSR (Nat.pow_le_pow_right (by decide) h1))] at hb
      cases hb
  have hfR : mx_cnt S f + 1 ≤ mx_cnt S R := cnt_next b1 b2
  by_cases hl : mx_cnt S R = mx_cnt S f + 1
  · -- the free column is the last one
    obtain ⟨⟨σ, a1, a2, a3⟩, hld⟩ := b10 hl
    have hn1 : mx_cnt S 8 - 1 = mx_cnt S f := by omega
    have hs : sgm E M S = some σ := by unfold sgm; rw [hn1]; exact a1
    have hcf : fc E S (mx_cnt S 8 - 1) = mx_col E f := by unfold fc; rw [hn1, mx_nth_cnt b2 hf8]
    have hall : ∀ j, j < 8 → F j = Int64.ofInt (fvv E M S j) := by
      intro j hj
      rw [hF j hj, fvv_some hs]
      cases hb : S.testBit j with
      | false =>
        rw [if_neg (fun q => q.2 (b6 j hj hb)), if_neg (by decide), updL_ne (fun q => by rw [q, b2] at hb; cases hb)]
        rfl
      | true =>
        rw [if_pos rfl]
        by_cases hjf : j = f
        · subst hjf
          rw [if_neg (fun q => q.2 b7), updL_at, a2, hn1]
          unfold mx_fl
          rw [if_neg (Nat.lt_irrefl _)]
        · have hjf2 : j < f := by
            rcases Nat.lt_or_gt_of_ne hjf with q | q
            · exact q
            · have q1 : mx_cnt S f + 1 ≤ mx_cnt S j := cnt_next q b2
              have q2 : mx_cnt S j + 1 ≤ mx_cnt S R := cnt_next (hmR j hj hb) hb
              omega
          have hlt := cnt_next hjf2 hb
          rw [if_pos ⟨hmR j hj hb, by rw [hld j hjf2 hb]; omega⟩, hld j hjf2 hb, show mx_cnt S j + 1 - 1 = mx_cnt S j by omega, a3 _ f (by omega) hf8, hn1]
          unfold mx_fl
          rw [if_pos (by omega), Int64.ofInt_neg, ← hn1, hcf]
    refine ⟨fun _ => ⟨rfl, hall⟩, fun hno => Or.inr ?_⟩
    refine Classical.byContradiction (fun hx => hno ⟨σ, hs, fun t ht q => ?_, fun i q1 q2 => ?_⟩)
    · obtain ⟨g1, g2, g3⟩ := mx_nth_in (S := S) (t := t) (by omega)
      refine hx ⟨mx_nth S t, g1, g2, ?_⟩
      rw [hall _ g1, fvv_some hs, if_pos g2, g3]
      unfold mx_fl
      rw [if_pos ht, q]
      rfl
    · rw [hcf, hn1]
      rw [hn1] at q1
      have := b5 i q1 q2
      rw [a3 i f q2 hf8] at this
      exact (l64_zero (mx_X_abs hM (mx_sg_ok a1).1 q2 (fc_9 h9 S) (col_9 h9 f))).mp this
  · -- a column behind the free one
    obtain ⟨j, q1, q2, q3⟩ := cnt_ex (S := S) (a := f + 1) (b := R) (by omega) (by rw [mx_cnt_in b2]; omega)
    have h1 := b9 j (by omega) q2 q3
    have h2 := b8 j (by omega)
    refine ⟨fun ⟨σ, hs⟩ => ?_, fun _ => Or.inr ⟨j, by omega, q3, ?_⟩⟩
    · have h3 := (mx_sg_none_le b4 (show mx_cnt S f + 1 ≤ mx_cnt S 8 - 1 by omega)).symm.trans hs.1
      cases h3
    · rw [hF j (by omega), if_pos ⟨q2, by omega⟩, b5 _ (by omega) (by omega)]
      exact neg64_0
theorem cp_s {K : Nat → Int64} {E : Nat → Int32} {i : Nat} (h : ∀ q, q < i → K q = (E q).toInt64) : ∀ q, q < i + 1 → vp_updL K i (E i).toInt64 q = (E q).toInt64 := by
  intro q hq
  by_cases hqi : q = i
  · rw [hqi]; exact updL_at _ _ _
  · rw [updL_ne hqi]; exact h q (by omega)
theorem fzl_s {F : Nat → Int64} {v : Int64} {i : Nat} (h : ∀ q, q < i → F q = v) : ∀ q, q < i + 1 → vp_updL F i v q = v := by
  intro q hq
  by_cases hqi : q = i
  · rw [hqi]; exact updL_at _ _ _
  · rw [updL_ne hqi]; exact h q (by omega)
theorem pq_s {K : Nat → Int64} {k j i : Nat} (h : ∀ r, k ≤ r → r < i → K (r * 8 + j) = 0) (hz : K (i * 8 + j) = 0) : ∀ r, k ≤ r → r < i + 1 → K (r * 8 + j) = 0 := by
  intro r h1 h2
  by_cases hr : r = i
  · rw [hr]; exact hz
  · exact h r h1 (by omega)
theorem fn_z {K : Nat → Int64} {ld : Nat → Nat} {f R : Nat} {F1 F : Nat → Int64} {bf : Int64} (hz : ∀ q, q < 8 → F1 q = 0) (h : fn_I K ld f (vp_updL F1 f bf) F R) : fn_I K ld f (vp_updL (fun _ => 0) f bf) F R := by
  intro i hi
  rw [h i hi]
  by_cases hx : i < R ∧ ld i ≠ 0
  · rw [if_pos hx, if_pos hx]
  · rw [if_neg hx, if_neg hx]
    by_cases hif : i = f
    · rw [hif, updL_at, updL_at]
    · rw [updL_ne hif, updL_ne hif]; exact hz i hi
end
section
abbrev rmX2_straight : Room := { frames := 1, cells := 0, slots := 0, locals := 30 }
theorem iw_X2_straight_X2 : ∀ w ∈ wsX20, w ∈ wsX2_straight := by decide +kernel
theorem kw_X2_straight_7 : Cond.fieldLink RX2 7 "FluxModesModel" "net" "[I" ∈ wsX2_straight := by decide +kernel
theorem kw_X2_straight_23 : Cond.fieldLink RX2 23 "FluxModesModel" "a" "[J" ∈ wsX2_straight := by decide +kernel
theorem kw_X2_straight_27 : Cond.fieldLink RX2 27 "FluxModesModel" "leads" "[I" ∈ wsX2_straight := by decide +kernel
theorem kw_X2_straight_30 : Cond.fieldLink RX2 30 "FluxModesModel" "line" "[J" ∈ wsX2_straight := by decide +kernel
theorem kw_X2_straight_37 : Cond.fieldLink RX2 37 "FluxModesModel" "m" "I" ∈ wsX2_straight := by decide +kernel
theorem kw_X2_straight_33 : Cond.fieldLink RX2 33 "FluxModesModel" "\x72" "I" ∈ wsX2_straight := by decide +kernel
set_option maxHeartbeats 4000000 in
set_option maxRecDepth 100000 in
theorem lpX2_straight1 {p : Program} {l : Launch} {e : Env} {s : State} {m : MethodId} {args : Array Value} {below : List Frame} {meth : Method} {c : Code} {Q : State → Prop} {D : va_G} {A : Nat → Prop} {H0 : Heap} (C0 : CallFix p m c cX2_straight 8 s args wsX2_straight RX2) (hN : gx_N s) (hA : ∀ q : Nat, H0.size ≤ q → A q) {g0 p1 b1 q1 t1 a1 l1 v1 M R n S : Nat} {dE dA dL dV : ClassId} {E : Nat → Int32} {Ld : Nat → Int32} {F : Nat → Int64}  (hK : va_K D vwCl [(dE, .int), (dA, .long), (dL, .int), (dV, .long)] s) (kk : ∀ (K : Nat → Int64) (H : Heap) (locs : List Loc) (ls : Array Slot), (∀ q, q < 48 → K q = (E q).toInt64) → va_P D vwCl [(g0, .inr (2, [.ref p1, .ref b1, .int (nI M), .int (nI R), .int (nI n), .ref q1, .ref t1, .ref a1, .ref l1, .ref v1])), (p1, .inl (dE, 48, .inl E)), (a1, .inl (dA, 48, .inr (.inl K))), (l1, .inl (dL, 8, .inl Ld)), (v1, .inl (dV, 8, .inr (.inl F)))] H → va_D A [(g0, .inr (2, [.ref p1, .ref b1, .int (nI M), .int (nI R), .int (nI n), .ref q1, .ref t1, .ref a1, .ref l1, .ref v1])), (p1, .inl (dE, 48, .inl E)), (a1, .inl (dA, 48, .inr (.inl K))), (l1, .inl (dL, 8, .inl Ld)), (v1, .inl (dV, 8, .inr (.inl F)))] → va_S A H0 H locs → lv_has ls 8 [(0, .ref g0), (1, .int (nI S)), (2, .int (nI 48))] → W p l e rmX2_straight s m args below meth c H locs 0 0 Q (F0 m 27 ls [])) : ∀ (n_ : Nat) (i : Nat) (K : Nat → Int64) (H : Heap) (locs : List Loc) (ls : Array Slot), (i ≤ 48 ∧ 48 < i + n_) → (∀ q, q < i → K q = (E q).toInt64) → va_P D vwCl [(g0, .inr (2, [.ref p1, .ref b1, .int (nI M), .int (nI R), .int (nI n), .ref q1, .ref t1, .ref a1, .ref l1, .ref v1])), (p1, .inl (dE, 48, .inl E)), (a1, .inl (dA, 48, .inr (.inl K))), (l1, .inl (dL, 8, .inl Ld)), (v1, .inl (dV, 8, .inr (.inl F)))] H → va_D A [(g0, .inr (2, [.ref p1, .ref b1, .int (nI M), .int (nI R), .int (nI n), .ref q1, .ref t1, .ref a1, .ref l1, .ref v1])), (p1, .inl (dE, 48, .inl E)), (a1, .inl (dA, 48, .inr (.inl K))), (l1, .inl (dL, 8, .inl Ld)), (v1, .inl (dV, 8, .inr (.inl F)))] → va_S A H0 H locs → lv_has ls 8 [(0, .ref g0), (1, .int (nI S)), (2, .int (nI i))] → W p l e rmX2_straight s m args below meth c H locs 0 0 Q (F0 m 2 ls []) := by
  obtain ⟨hx, hb, hml, hown, hts⟩ := id C0
  intro n_
  induction n_ with
  | zero =>
    intro i K H locs ls hm
    exact absurd hm (by omega)
  | succ n_ ih =>
    intro i K H locs ls hm hI hP hD hS hl
    refine lv_iload_n hx hb dX2_straight_2 rfl (lv_at hl 2 rfl) ?_
    refine lv_bipush (v := nI 48) hx hb dX2_straight_3 (by decide) ?_
    refine gx_ge (tgt := 27) hx hb dX2_straight_5 (by decide) (by omega) (by omega) (fun c_5 => ?_) (fun c_5 => ?_)
    · have hi8 : i = 48 := by omega
      subst hi8
      exact kk _ _ _ _ hI (hP.sub [0, 1, 2, 3, 4] rfl) (hD.sub [0, 1, 2, 3, 4] (by decide) rfl) hS (lv_sub hl [0, 1, 2] rfl)
    · refine lv_aload_n hx hb dX2_straight_8 rfl (lv_at hl 0 rfl) ?_
      refine va_get (D := D) (ci := 2) (v := .ref a1) (C := RX2) (T := TX2) (N := 10) hx hb hts iw_X2_straight_X2 hown hK hP 0 rfl rfl 7 (by decide) (hts _ kw_X2_straight_23) (fun _ h9 => h9) rfl dX2_straight_9 ?_
      refine lv_iload_n hx hb dX2_straight_12 rfl (lv_at hl 2 rfl) ?_
      refine lv_aload_n hx hb dX2_straight_13 rfl (lv_at hl 0 rfl) ?_
      refine va_get (D := D) (ci := 2) (v := .ref p1) (C := RX2) (T := TX2) (N := 10) hx hb hts iw_X2_straight_X2 hown hK hP 0 rfl rfl 0 (by decide) (hts _ kw_X2_straight_7) (fun _ h9 => h9) rfl dX2_straight_14 ?_
      refine lv_iload_n hx hb dX2_straight_17 rfl (lv_at hl 2 rfl) ?_
      refine gx_iald (q := i) hx hb hK hP 1 0 rfl rfl (rfl) (by omega) (by decide) dX2_straight_18 ?_
      refine lv_i2l (v := (E i).toInt64) hx hb dX2_straight_19 rfl ?_
      refine gx_last (q := i) hx hb hK hP hD hS 2 1 rfl rfl (rfl) (by omega) (by decide) dX2_straight_20 (fun H locs hP hD hS => ?_)
      have hP : va_P D vwCl [(g0, .inr (2, [.ref p1, .ref b1, .int (nI M), .int (nI R), .int (nI n), .ref q1, .ref t1, .ref a1, .ref l1, .ref v1])), (p1, .inl (dE, 48, .inl E)), (a1, .inl (dA, 48, .inr (.inl (vp_updL K i ((E i).toInt64))))), (l1, .inl (dL, 8, .inl Ld)), (v1, .inl (dV, 8, .inr (.inl F)))] H := hP
      have hD : va_D A [(g0, .inr (2, [.ref p1, .ref b1, .int (nI M), .int (nI R), .int (nI n), .ref q1, .ref t1, .ref a1, .ref l1, .ref v1])), (p1, .inl (dE, 48, .inl E)), (a1, .inl (dA, 48, .inr (.inl (vp_updL K i ((E i).toInt64))))), (l1, .inl (dL, 8, .inl Ld)), (v1, .inl (dV, 8, .inr (.inl F)))] := hD
      refine lv_iinc (v := nI (i + 1)) (lv' := [(2, .int (nI (i + 1))), (0, .ref g0), (1, .int (nI S))]) hx hb dX2_straight_21 hl (k := 2) rfl ((nI_succ i).symm) (by decide) rfl (fun ls hl => ?_)
      refine lv_goto (tgt := 2) hx hb dX2_straight_24 (by decide) ?_
      exact ih (i + 1) _ _ _ _ (by omega) (cp_s hI) (hP.sub [0, 1, 2, 3, 4] rfl) (hD.sub [0, 1, 2, 3, 4] (by decide) rfl) hS (lv_sub hl [1, 2, 0] rfl)
set_option maxHeartbeats 4000000 in
set_option maxRecDepth 100000 in
theorem lpX2_straight2 {p : Program} {l : Launch} {e : Env} {s : State} {m : MethodId} {args : Array Value} {below : List Frame} {meth : Method} {c : Code} {Q : State → Prop} {D : va_G} {A : Nat → Prop} {H0 : Heap} (C0 : CallFix p m c cX2_straight 8 s args wsX2_straight RX2) (hN : gx_N s) (hA : ∀ q : Nat, H0.size ≤ q → A q) {g0 p1 b1 q1 t1 a1 l1 v1 M R n S : Nat} {dE dA dL dV : ClassId} {E : Nat → Int32} {K : Nat → Int64}  (hK : va_K D vwCl [(dE, .int), (dA, .long), (dL, .int), (dV, .long)] s) (kk : ∀ (Ld : Nat → Int32) (F : Nat → Int64) (H : Heap) (locs : List Loc) (ls : Array Slot), (∀ q, q < 8 → Ld q = nI 0) → (∀ q, q < 8 → F q = 0) → va_P D vwCl [(g0, .inr (2, [.ref p1, .ref b1, .int (nI M), .int (nI R), .int (nI n), .ref q1, .ref t1, .ref a1, .ref l1, .ref v1])), (p1, .inl (dE, 48, .inl E)), (a1, .inl (dA, 48, .inr (.inl K))), (l1, .inl (dL, 8, .inl Ld)), (v1, .inl (dV, 8, .inr (.inl F)))] H → va_D A [(g0, .inr (2, [.ref p1, .ref b1, .int (nI M), .int (nI R), .int (nI n), .ref q1, .ref t1, .ref a1, .ref l1, .ref v1])), (p1, .inl (dE, 48, .inl E)), (a1, .inl (dA, 48, .inr (.inl K))), (l1, .inl (dL, 8, .inl Ld)), (v1, .inl (dV, 8, .inr (.inl F)))] → va_S A H0 H locs → lv_has ls 8 [(0, .ref g0), (1, .int (nI S)), (2, .int (nI 8))] → W p l e rmX2_straight s m args below meth c H locs 0 0 Q (F0 m 55 ls [])) : ∀ (n_ : Nat) (i : Nat) (Ld : Nat → Int32) (F : Nat → Int64) (H : Heap) (locs : List Loc) (ls : Array Slot), (i ≤ 8 ∧ 8 < i + n_) → ((∀ q, q < i → Ld q = nI 0) ∧ ∀ q, q < i → F q = 0) → va_P D vwCl [(g0, .inr (2, [.ref p1, .ref b1, .int (nI M), .int (nI R), .int (nI n), .ref q1, .ref t1, .ref a1, .ref l1, .ref v1])), (p1, .inl (dE, 48, .inl E)), (a1, .inl (dA, 48, .inr (.inl K))), (l1, .inl (dL, 8, .inl Ld)), (v1, .inl (dV, 8, .inr (.inl F)))] H → va_D A [(g0, .inr (2, [.ref p1, .ref b1, .int (nI M), .int (nI R), .int (nI n), .ref q1, .ref t1, .ref a1, .ref l1, .ref v1])), (p1, .inl (dE, 48, .inl E)), (a1, .inl (dA, 48, .inr (.inl K))), (l1, .inl (dL, 8, .inl Ld)), (v1, .inl (dV, 8, .inr (.inl F)))] → va_S A H0 H locs → lv_has ls 8 [(0, .ref g0), (1, .int (nI S)), (2, .int (nI i))] → W p l e rmX2_straight s m args below meth c H locs 0 0 Q (F0 m 29 ls []) := by
  obtain ⟨hx, hb, hml, hown, hts⟩ := id C0
  intro n_
  induction n_ with
  | zero =>
    intro i Ld F H locs ls hm
    exact absurd hm (by omega)
  | succ n_ ih =>
    intro i Ld F H locs ls hm hI hP hD hS hl
    refine lv_iload_n hx hb dX2_straight_29 rfl (lv_at hl 2 rfl) ?_
    refine lv_bipush (v := nI 8) hx hb dX2_straight_30 (by decide) ?_
    refine gx_ge (tgt := 55) hx hb dX2_straight_32 (by decide) (by omega) (by omega) (fun c_32 => ?_) (fun c_32 => ?_)
    · have hi8 : i = 8 := by omega
      subst hi8
      exact kk _ _ _ _ _ hI.1 hI.2 (hP.sub [0, 1, 2, 3, 4] rfl) (hD.sub [0, 1, 2, 3, 4] (by decide) rfl) hS (lv_sub hl [0, 1, 2] rfl)
    · refine lv_aload_n hx hb dX2_straight_35 rfl (lv_at hl 0 rfl) ?_
      refine va_get (D := D) (ci := 2) (v := .ref l1) (C := RX2) (T := TX2) (N := 10) hx hb hts iw_X2_straight_X2 hown hK hP 0 rfl rfl 8 (by decide) (hts _ kw_X2_straight_27) (fun _ h9 => h9) rfl dX2_straight_36 ?_
      refine lv_iload_n hx hb dX2_straight_39 rfl (lv_at hl 2 rfl) ?_
      refine lv_iconst (v := nI 0) hx hb dX2_straight_40 (by decide) ?_
      refine gx_iast (q := i) hx hb hK hP hD hS 3 2 rfl rfl (rfl) (by omega) (by decide) dX2_straight_41 (fun H locs hP hD hS => ?_)
      have hP : va_P D vwCl [(g0, .inr (2, [.ref p1, .ref b1, .int (nI M), .int (nI R), .int (nI n), .ref q1, .ref t1, .ref a1, .ref l1, .ref v1])), (p1, .inl (dE, 48, .inl E)), (a1, .inl (dA, 48, .inr (.inl K))), (l1, .inl (dL, 8, .inl (upd Ld i (nI 0)))), (v1, .inl (dV, 8, .inr (.inl F)))] H := hP
      have hD : va_D A [(g0, .inr (2, [.ref p1, .ref b1, .int (nI M), .int (nI R), .int (nI n), .ref q1, .ref t1, .ref a1, .ref l1, .ref v1])), (p1, .inl (dE, 48, .inl E)), (a1, .inl (dA, 48, .inr (.inl K))), (l1, .inl (dL, 8, .inl (upd Ld i (nI 0)))), (v1, .inl (dV, 8, .inr (.inl F)))] := hD
      refine lv_aload_n hx hb dX2_straight_42 rfl (lv_at hl 0 rfl) ?_
      refine va_get (D := D) (ci := 2) (v := .ref v1) (C := RX2) (T := TX2) (N := 10) hx hb hts iw_X2_straight_X2 hown hK hP 0 rfl rfl 9 (by decide) (hts _ kw_X2_straight_30) (fun _ h9 => h9) rfl dX2_straight_43 ?_
      refine lv_iload_n hx hb dX2_straight_46 rfl (lv_at hl 2 rfl) ?_
      refine lv_lconst (v := 0) hx hb dX2_straight_47 (by decide) ?_
      refine gx_last (q := i) hx hb hK hP hD hS 4 3 rfl rfl (rfl) (by omega) (by decide) dX2_straight_48 (fun H locs hP hD hS => ?_)
      have hP : va_P D vwCl [(g0, .inr (2, [.ref p1, .ref b1, .int (nI M), .int (nI R), .int (nI n), .ref q1, .ref t1, .ref a1, .ref l1, .ref v1])), (p1, .inl (dE, 48, .inl E)), (a1, .inl (dA, 48, .inr (.inl K))), (l1, .inl (dL, 8, .inl (upd Ld i (nI 0)))), (v1, .inl (dV, 8, .inr (.inl (vp_updL F i 0))))] H := hP
      have hD : va_D A [(g0, .inr (2, [.ref p1, .ref b1, .int (nI M), .int (nI R), .int (nI n), .ref q1, .ref t1, .ref a1, .ref l1, .ref v1])), (p1, .inl (dE, 48, .inl E)), (a1, .inl (dA, 48, .inr (.inl K))), (l1, .inl (dL, 8, .inl (upd Ld i (nI 0)))), (v1, .inl (dV, 8, .inr (.inl (vp_updL F i 0))))] := hD
      refine lv_iinc (v := nI (i + 1)) (lv' := [(2, .int (nI (i + 1))), (0, .ref g0), (1, .int (nI S))]) hx hb dX2_straight_49 hl (k := 2) rfl ((nI_succ i).symm) (by decide) rfl (fun ls hl => ?_)
      refine lv_goto (tgt := 29) hx hb dX2_straight_52 (by decide) ?_
      exact ih (i + 1) _ _ _ _ _ (by omega) ⟨fz_s hI.1, fzl_s hI.2⟩ (hP.sub [0, 1, 2, 3, 4] rfl) (hD.sub [0, 1, 2, 3, 4] (by decide) rfl) hS (lv_sub hl [1, 2, 0] rfl)
set_option maxHeartbeats 4000000 in
set_option maxRecDepth 100000 in
theorem lpX2_straightW {p : Program} {l : Launch} {e : Env} {s : State} {m : MethodId} {args : Array Value} {below : List Frame} {meth : Method} {c : Code} {Q : State → Prop} {D : va_G} {A : Nat → Prop} {H0 : Heap} (C0 : CallFix p m c cX2_straight 8 s args wsX2_straight RX2) (hN : gx_N s) (hA : ∀ q : Nat, H0.size ≤ q → A q) {g0 p1 b1 q1 t1 a1 l1 v1 M R n S : Nat} {dE dA dL dV : ClassId} {E : Nat → Int32} {k j : Nat} {fr : Int32} {bf : Int64} {K : Nat → Int64} {Ld : Nat → Int32} {F : Nat → Int64} (hM6 : M ≤ 6) (hj8 : j < 8) (hK : va_K D vwCl [(dE, .int), (dA, .long), (dL, .int), (dV, .long)] s) (kk : ∀ (i : Nat) (H : Heap) (locs : List Loc) (ls : Array Slot), (k ≤ i) → (i ≤ M) → (∀ r, k ≤ r → r < i → K (r * 8 + j) = 0) → (i < M → K (i * 8 + j) ≠ 0) → va_P D vwCl [(g0, .inr (2, [.ref p1, .ref b1, .int (nI M), .int (nI R), .int (nI n), .ref q1, .ref t1, .ref a1, .ref l1, .ref v1])), (p1, .inl (dE, 48, .inl E)), (a1, .inl (dA, 48, .inr (.inl K))), (l1, .inl (dL, 8, .inl Ld)), (v1, .inl (dV, 8, .inr (.inl F)))] H → va_D A [(g0, .inr (2, [.ref p1, .ref b1, .int (nI M), .int (nI R), .int (nI n), .ref q1, .ref t1, .ref a1, .ref l1, .ref v1])), (p1, .inl (dE, 48, .inl E)), (a1, .inl (dA, 48, .inr (.inl K))), (l1, .inl (dL, 8, .inl Ld)), (v1, .inl (dV, 8, .inr (.inl F)))] → va_S A H0 H locs → lv_has ls 8 [(0, .ref g0), (1, .int (nI S)), (2, .int fr), (3, .int (nI k)), (4, .long bf), (6, .int (nI j)), (7, .int (nI i))] → W p l e rmX2_straight s m args below meth c H locs 0 0 Q (F0 m 122 ls [])) : ∀ (n_ : Nat) (i : Nat) (H : Heap) (locs : List Loc) (ls : Array Slot), (k ≤ i ∧ i ≤ M ∧ M < i + n_) → (∀ r, k ≤ r → r < i → K (r * 8 + j) = 0) → va_P D vwCl [(g0, .inr (2, [.ref p1, .ref b1, .int (nI M), .int (nI R), .int (nI n), .ref q1, .ref t1, .ref a1, .ref l1, .ref v1])), (p1, .inl (dE, 48, .inl E)), (a1, .inl (dA, 48, .inr (.inl K))), (l1, .inl (dL, 8, .inl Ld)), (v1, .inl (dV, 8, .inr (.inl F)))] H → va_D A [(g0, .inr (2, [.ref p1, .ref b1, .int (nI M), .int (nI R), .int (nI n), .ref q1, .ref t1, .ref a1, .ref l1, .ref v1])), (p1, .inl (dE, 48, .inl E)), (a1, .inl (dA, 48, .inr (.inl K))), (l1, .inl (dL, 8, .inl Ld)), (v1, .inl (dV, 8, .inr (.inl F)))] → va_S A H0 H locs → lv_has ls 8 [(0, .ref g0), (1, .int (nI S)), (2, .int fr), (3, .int (nI k)), (4, .long bf), (6, .int (nI j)), (7, .int (nI i))] → W p l e rmX2_straight s m args below meth c H locs 0 0 Q (F0 m 89 ls []) := by
  obtain ⟨hx, hb, hml, hown, hts⟩ := id C0
  intro n_
  induction n_ with
  | zero =>
    intro i H locs ls hm
    exact absurd hm (by omega)
  | succ n_ ih =>
    intro i H locs ls hm hI hP hD hS hl
    refine lv_iload hx hb dX2_straight_89 (lv_at hl 6 rfl) ?_
    refine lv_aload_n hx hb dX2_straight_91 rfl (lv_at hl 0 rfl) ?_
    refine va_get (D := D) (ci := 2) (v := .int (nI M)) (C := RX2) (T := TX2) (N := 10) hx hb hts iw_X2_straight_X2 hown hK hP 0 rfl rfl 2 (by decide) (hts _ kw_X2_straight_37) (fun _ h9 => h9) rfl dX2_straight_92 ?_
    refine gx_ge (tgt := 122) hx hb dX2_straight_95 (by decide) (by omega) (by omega) (fun c_95 => ?_) (fun c_95 => ?_)
    · exact kk i _ _ _ hm.1 (by omega) hI (fun h => absurd h (by omega)) (hP.sub [0, 1, 2, 3, 4] rfl) (hD.sub [0, 1, 2, 3, 4] (by decide) rfl) hS (lv_sub hl [0, 1, 2, 3, 4, 5, 6] rfl)
    · refine lv_aload_n hx hb dX2_straight_98 rfl (lv_at hl 0 rfl) ?_
      refine va_get (D := D) (ci := 2) (v := .ref a1) (C := RX2) (T := TX2) (N := 10) hx hb hts iw_X2_straight_X2 hown hK hP 0 rfl rfl 7 (by decide) (hts _ kw_X2_straight_23) (fun _ h9 => h9) rfl dX2_straight_99 ?_
      refine lv_bipush (v := nI 8) hx hb dX2_straight_102 (by decide) ?_
      refine lv_iload hx hb dX2_straight_104 (lv_at hl 6 rfl) ?_
      refine lv_imul hx hb dX2_straight_106 ?_
      refine gx_i (y := nI (i * 8)) ((pk_mul 8 i).trans (by rw [Nat.mul_comm])) ?_
      refine lv_iload hx hb dX2_straight_107 (lv_at hl 5 rfl) ?_
      refine lv_iadd hx hb dX2_straight_109 ?_
      refine gx_i (y := nI (i * 8 + j)) (nI_add (i * 8) j) ?_
      refine gx_lald (q := i * 8 + j) hx hb hK hP 2 1 rfl rfl (rfl) (by omega) (by decide) dX2_straight_110 ?_
      refine lv_lconst (v := 0) hx hb dX2_straight_111 (by decide) ?_
      refine W.lcmp hx hb dX2_straight_112 ?_
      refine lv_if_ne (tgt := 122) hx hb dX2_straight_113 (by decide) (fun c_113 => ?_) (fun c_113 => ?_)
      · have hz : K (i * 8 + j) ≠ 0 := fun q => c_113 ((gx_cmp0 _ _).mpr q)
        exact kk i _ _ _ hm.1 (by omega) hI (fun _ => hz) (hP.sub [0, 1, 2, 3, 4] rfl) (hD.sub [0, 1, 2, 3, 4] (by decide) rfl) hS (lv_sub hl [0, 1, 2, 3, 4, 5, 6] rfl)
      · refine lv_iinc (v := nI (i + 1)) (lv' := [(7, .int (nI (i + 1))), (0, .ref g0), (1, .int (nI S)), (2, .int fr), (3, .int (nI k)), (4, .long bf), (6, .int (nI j))]) hx hb dX2_straight_116 hl (k := 6) rfl ((nI_succ i).symm) (by decide) rfl (fun ls hl => ?_)
        refine lv_goto (tgt := 89) hx hb dX2_straight_119 (by decide) ?_
        have hz : K (i * 8 + j) = 0 := (gx_cmp0 _ _).mp c_113
        exact ih (i + 1) _ _ _ (by omega) (pq_s hI hz) (hP.sub [0, 1, 2, 3, 4] rfl) (hD.sub [0, 1, 2, 3, 4] (by decide) rfl) hS (lv_sub hl [1, 2, 3, 4, 5, 6, 0] rfl)
set_option maxHeartbeats 4000000 in
set_option maxRecDepth 100000 in
theorem lpX2_straight {p : Program} {l : Launch} {e : Env} {s : State} {m : MethodId} {args : Array Value} {below : List Frame} {meth : Method} {c : Code} {Q : State → Prop} {D : va_G} {A : Nat → Prop} {H0 : Heap} (C0 : CallFix p m c cX2_straight 8 s args wsX2_straight RX2) (hN : gx_N s) (hA : ∀ q : Nat, H0.size ≤ q → A q) {g0 p1 b1 q1 t1 a1 l1 v1 M R n S : Nat} {dE dA dL dV : ClassId} {E : Nat → Int32} {F : Nat → Int64} (hM6 : M ≤ 6) (hR8 : R ≤ 8) (h9 : e9 E) (hs8 : S < 256) (hK : va_K D vwCl [(dE, .int), (dA, .long), (dL, .int), (dV, .long)] s) (kk : ∀ (k : Nat) (fr : Int32) (bf : Int64) (K : Nat → Int64) (Ld : Nat → Int32) (ld : Nat → Nat) (H : Heap) (locs : List Loc) (ls : Array Slot), (sI E M S R k fr bf K ld) → (lds Ld ld) → va_P D vwCl [(g0, .inr (2, [.ref p1, .ref b1, .int (nI M), .int (nI R), .int (nI n), .ref q1, .ref t1, .ref a1, .ref l1, .ref v1])), (p1, .inl (dE, 48, .inl E)), (a1, .inl (dA, 48, .inr (.inl K))), (l1, .inl (dL, 8, .inl Ld)), (v1, .inl (dV, 8, .inr (.inl F)))] H → va_D A [(g0, .inr (2, [.ref p1, .ref b1, .int (nI M), .int (nI R), .int (nI n), .ref q1, .ref t1, .ref a1, .ref l1, .ref v1])), (p1, .inl (dE, 48, .inl E)), (a1, .inl (dA, 48, .inr (.inl K))), (l1, .inl (dL, 8, .inl Ld)), (v1, .inl (dV, 8, .inr (.inl F)))] → va_S A H0 H locs → lv_has ls 8 [(0, .ref g0), (1, .int (nI S)), (2, .int fr), (3, .int (nI k)), (4, .long bf), (6, .int (nI R))] → W p l e rmX2_straight s m args below meth c H locs 0 0 Q (F0 m 190 ls [])) (kr : ∀ (k j i : Nat) (fr : Int32) (bf : Int64) (K : Nat → Int64) (Ld : Nat → Int32) (H : Heap) (locs : List Loc) (ls : Array Slot), (¬ okS E M S) → va_P D vwCl [(g0, .inr (2, [.ref p1, .ref b1, .int (nI M), .int (nI R), .int (nI n), .ref q1, .ref t1, .ref a1, .ref l1, .ref v1])), (p1, .inl (dE, 48, .inl E)), (a1, .inl (dA, 48, .inr (.inl K))), (l1, .inl (dL, 8, .inl Ld)), (v1, .inl (dV, 8, .inr (.inl F)))] H → va_D A [(g0, .inr (2, [.ref p1, .ref b1, .int (nI M), .int (nI R), .int (nI n), .ref q1, .ref t1, .ref a1, .ref l1, .ref v1])), (p1, .inl (dE, 48, .inl E)), (a1, .inl (dA, 48, .inr (.inl K))), (l1, .inl (dL, 8, .inl Ld)), (v1, .inl (dV, 8, .inr (.inl F)))] → va_S A H0 H locs → lv_has ls 8 [(0, .ref g0), (1, .int (nI S)), (2, .int fr), (3, .int (nI k)), (4, .long bf), (6, .int (nI j)), (7, .int (nI i))] → W p l e rmX2_straight s m args below meth c H locs 0 0 Q (F0 m 135 ls [])) : ∀ (n_ : Nat) (j : Nat) (k : Nat) (fr : Int32) (bf : Int64) (K : Nat → Int64) (Ld : Nat → Int32) (ld : Nat → Nat) (H : Heap) (locs : List Loc) (ls : Array Slot), (j ≤ R ∧ R < j + n_) → (sI E M S j k fr bf K ld ∧ lds Ld ld) → va_P D vwCl [(g0, .inr (2, [.ref p1, .ref b1, .int (nI M), .int (nI R), .int (nI n), .ref q1, .ref t1, .ref a1, .ref l1, .ref v1])), (p1, .inl (dE, 48, .inl E)), (a1, .inl (dA, 48, .inr (.inl K))), (l1, .inl (dL, 8, .inl Ld)), (v1, .inl (dV, 8, .inr (.inl F)))] H → va_D A [(g0, .inr (2, [.ref p1, .ref b1, .int (nI M), .int (nI R), .int (nI n), .ref q1, .ref t1, .ref a1, .ref l1, .ref v1])), (p1, .inl (dE, 48, .inl E)), (a1, .inl (dA, 48, .inr (.inl K))), (l1, .inl (dL, 8, .inl Ld)), (v1, .inl (dV, 8, .inr (.inl F)))] → va_S A H0 H locs → lv_has ls 8 [(0, .ref g0), (1, .int (nI S)), (2, .int fr), (3, .int (nI k)), (4, .long bf), (6, .int (nI j))] → W p l e rmX2_straight s m args below meth c H locs 0 0 Q (F0 m 65 ls []) := by
  obtain ⟨hx, hb, hml, hown, hts⟩ := id C0
  intro n_
  induction n_ with
  | zero =>
    intro j k fr bf K Ld ld H locs ls hm
    exact absurd hm (by omega)
  | succ n_ ih =>
    intro j k fr bf K Ld ld H locs ls hm hI hP hD hS hl
    refine lv_iload hx hb dX2_straight_65 (lv_at hl 5 rfl) ?_
    refine lv_aload_n hx hb dX2_straight_67 rfl (lv_at hl 0 rfl) ?_
    refine va_get (D := D) (ci := 2) (v := .int (nI R)) (C := RX2) (T := TX2) (N := 10) hx hb hts iw_X2_straight_X2 hown hK hP 0 rfl rfl 3 (by decide) (hts _ kw_X2_straight_33) (fun _ h9 => h9) rfl dX2_straight_68 ?_
    refine gx_ge (tgt := 190) hx hb dX2_straight_71 (by decide) (by omega) (by omega) (fun c_71 => ?_) (fun c_71 => ?_)
    · have hjR : j = R := by omega
      subst hjR
      exact kk k fr bf K Ld ld _ _ _ hI.1 hI.2 (hP.sub [0, 1, 2, 3, 4] rfl) (hD.sub [0, 1, 2, 3, 4] (by decide) rfl) hS (lv_sub hl [0, 1, 2, 3, 4, 5] rfl)
    · refine lv_iload_n hx hb dX2_straight_74 rfl (lv_at hl 1 rfl) ?_
      refine lv_iload hx hb dX2_straight_75 (lv_at hl 5 rfl) ?_
      refine lv_ishr hx hb dX2_straight_77 ?_
      refine lv_iconst (v := nI 1) hx hb dX2_straight_78 (by decide) ?_
      refine lv_iand hx hb dX2_straight_79 ?_
      refine gx_i (y := bI (S.testBit j)) (sp_has S hs8 j (by omega)) ?_
      refine gx_bne (tgt := 86) hx hb dX2_straight_80 (by decide) (fun c_80 => ?_) (fun c_80 => ?_)
      · refine lv_iload_n hx hb dX2_straight_86 rfl (lv_at hl 3 rfl) ?_
        refine lv_istore (lv' := [(7, .int (nI k)), (0, .ref g0), (1, .int (nI S)), (2, .int fr), (3, .int (nI k)), (4, .long bf), (6, .int (nI j))]) hx hb dX2_straight_87 hl (by decide) rfl (fun ls hl => ?_)
        obtain ⟨hbf, hkM⟩ := sI_bf hM6 h9 hI.1
        refine lpX2_straightW C0 hN hA hM6 (by omega) hK (fun i H locs ls g1 g2 g3 g4 hP hD hS hl => ?_) (M + 1) k _ _ _ (by omega) (fun r h1 h2 => absurd h1 (by omega)) (hP.sub [0, 1, 2, 3, 4] rfl) (hD.sub [0, 1, 2, 3, 4] (by decide) rfl) hS (lv_sub hl [1, 2, 3, 4, 5, 6, 0] rfl)
        refine lv_iload hx hb dX2_straight_122 (lv_at hl 6 rfl) ?_
        refine lv_aload_n hx hb dX2_straight_124 rfl (lv_at hl 0 rfl) ?_
        refine va_get (D := D) (ci := 2) (v := .int (nI M)) (C := RX2) (T := TX2) (N := 10) hx hb hts iw_X2_straight_X2 hown hK hP 0 rfl rfl 2 (by decide) (hts _ kw_X2_straight_37) (fun _ h9 => h9) rfl dX2_straight_125 ?_
        refine gx_ne (tgt := 143) hx hb dX2_straight_128 (by decide) (by omega) (by omega) (fun c_128 => ?_) (fun c_128 => ?_)
        · refine lv_aload_n hx hb dX2_straight_143 rfl (lv_at hl 0 rfl) ?_
          refine lv_iload_n hx hb dX2_straight_144 rfl (lv_at hl 3 rfl) ?_
          refine lv_iload hx hb dX2_straight_145 (lv_at hl 6 rfl) ?_
          refine gx_jv (wr := [(p1, .inl (dE, 48, .inl E)), (l1, .inl (dL, 8, .inl Ld)), (v1, .inl (dV, 8, .inr (.inl F)))]) (gx_rV (As := [.int (nI k), .int (nI i)]) (rest := []) C0 (kX2_exchange l D g0 p1 b1 q1 t1 a1 l1 v1 M R n k i dA K (by omega) (by omega) _) (cwV 2 hts gX2_straight_X2_exchange rfl rfl rfl (by decide +kernel) ⟨Nat.le_of_ble_eq_true rfl, Nat.le_of_ble_eq_true rfl⟩) hN hK hP hD [0, 2] [1] rfl rfl (by decide) rfl 0 rfl rfl rfl rfl hl.1 rfl (Nat.le_of_ble_eq_true rfl) dX2_straight_147 ⟨Nat.zero_le _, Nat.zero_le _⟩) hP hD hS hA [0, 2] [1, 3, 4] rfl rfl (by decide) (by decide) (fun u H locs hw hP hD hS => ?_)
          obtain ⟨K1, rfl⟩ : ∃ z, z = u := ⟨_, rfl⟩
          have hw1 : sw_I K K1 k i 8 := hw
          have hP : va_P D vwCl [(p1, .inl (dE, 48, .inl E)), (l1, .inl (dL, 8, .inl Ld)), (v1, .inl (dV, 8, .inr (.inl F))), (g0, .inr (2, [.ref p1, .ref b1, .int (nI M), .int (nI R), .int (nI n), .ref q1, .ref t1, .ref a1, .ref l1, .ref v1])), (a1, .inl (dA, 48, .inr (.inl K1)))] H := hP
          have hD : va_D A [(p1, .inl (dE, 48, .inl E)), (l1, .inl (dL, 8, .inl Ld)), (v1, .inl (dV, 8, .inr (.inl F))), (g0, .inr (2, [.ref p1, .ref b1, .int (nI M), .int (nI R), .int (nI n), .ref q1, .ref t1, .ref a1, .ref l1, .ref v1])), (a1, .inl (dA, 48, .inr (.inl K1)))] := hD
          refine lv_aload_n hx hb dX2_straight_150 rfl (lv_at hl 0 rfl) ?_
          refine lv_iload_n hx hb dX2_straight_151 rfl (lv_at hl 3 rfl) ?_
          refine lv_iload hx hb dX2_straight_152 (lv_at hl 5 rfl) ?_
          refine lv_lload hx hb dX2_straight_154 (lv_at hl 4 rfl) ?_
          refine gx_jv (wr := [(p1, .inl (dE, 48, .inl E)), (l1, .inl (dL, 8, .inl Ld)), (v1, .inl (dV, 8, .inr (.inl F)))]) (gx_rV (As := [.int (nI k), .int (nI j), .long bf]) (rest := []) C0 (kX2_clear l D g0 p1 b1 q1 t1 a1 l1 v1 M R n k j bf dA K1 hM6 (by omega) (by omega) hbf _) (cwV 3 hts gX2_straight_X2_clear rfl rfl rfl (by decide +kernel) ⟨Nat.le_of_ble_eq_true rfl, Nat.le_of_ble_eq_true rfl⟩) hN hK hP hD [3, 4] [1] rfl rfl (by decide) rfl 0 rfl rfl rfl rfl hl.1 rfl (Nat.le_of_ble_eq_true rfl) dX2_straight_156 ⟨Nat.zero_le _, Nat.zero_le _⟩) hP hD hS hA [3, 4] [0, 1, 2] rfl rfl (by decide) (by decide) (fun u H locs hw hP hD hS => ?_)
          obtain ⟨K2, rfl⟩ : ∃ z, z = u := ⟨_, rfl⟩
          have hw2 : cm_I K1 K2 k j bf M := hw
          have hP : va_P D vwCl [(p1, .inl (dE, 48, .inl E)), (l1, .inl (dL, 8, .inl Ld)), (v1, .inl (dV, 8, .inr (.inl F))), (g0, .inr (2, [.ref p1, .ref b1, .int (nI M), .int (nI R), .int (nI n), .ref q1, .ref t1, .ref a1, .ref l1, .ref v1])), (a1, .inl (dA, 48, .inr (.inl K2)))] H := hP
          have hD : va_D A [(p1, .inl (dE, 48, .inl E)), (l1, .inl (dL, 8, .inl Ld)), (v1, .inl (dV, 8, .inr (.inl F))), (g0, .inr (2, [.ref p1, .ref b1, .int (nI M), .int (nI R), .int (nI n), .ref q1, .ref t1, .ref a1, .ref l1, .ref v1])), (a1, .inl (dA, 48, .inr (.inl K2)))] := hD
          refine lv_aload_n hx hb dX2_straight_159 rfl (lv_at hl 0 rfl) ?_
          refine va_get (D := D) (ci := 2) (v := .ref a1) (C := RX2) (T := TX2) (N := 10) hx hb hts iw_X2_straight_X2 hown hK hP 3 rfl rfl 7 (by decide) (hts _ kw_X2_straight_23) (fun _ h9 => h9) rfl dX2_straight_160 ?_
          refine lv_bipush (v := nI 8) hx hb dX2_straight_163 (by decide) ?_
          refine lv_iload_n hx hb dX2_straight_165 rfl (lv_at hl 3 rfl) ?_
          refine lv_imul hx hb dX2_straight_166 ?_
          refine gx_i (y := nI (k * 8)) ((pk_mul 8 k).trans (by rw [Nat.mul_comm])) ?_
          refine lv_iload hx hb dX2_straight_167 (lv_at hl 5 rfl) ?_
          refine lv_iadd hx hb dX2_straight_169 ?_
          refine gx_i (y := nI (k * 8 + j)) (nI_add (k * 8) j) ?_
          refine gx_lald (q := k * 8 + j) hx hb hK hP 4 1 rfl rfl (rfl) (by omega) (by decide) dX2_straight_170 ?_
          refine lv_lstore (lv' := [(4, .long (K2 (k * 8 + j))), (0, .ref g0), (1, .int (nI S)), (2, .int fr), (3, .int (nI k)), (6, .int (nI j)), (7, .int (nI i))]) hx hb dX2_straight_171 hl (by decide) rfl (fun ls hl => ?_)
          refine lv_iinc (v := nI (k + 1)) (lv' := [(3, .int (nI (k + 1))), (4, .long (K2 (k * 8 + j))), (0, .ref g0), (1, .int (nI S)), (2, .int fr), (6, .int (nI j)), (7, .int (nI i))]) hx hb dX2_straight_173 hl (k := 4) rfl ((nI_succ k).symm) (by decide) rfl (fun ls hl => ?_)
          refine lv_aload_n hx hb dX2_straight_176 rfl (lv_at hl 2 rfl) ?_
          refine va_get (D := D) (ci := 2) (v := .ref l1) (C := RX2) (T := TX2) (N := 10) hx hb hts iw_X2_straight_X2 hown hK hP 3 rfl rfl 8 (by decide) (hts _ kw_X2_straight_27) (fun _ h9 => h9) rfl dX2_straight_177 ?_
          refine lv_iload hx hb dX2_straight_180 (lv_at hl 5 rfl) ?_
          refine lv_iload_n hx hb dX2_straight_182 rfl (lv_at hl 0 rfl) ?_
          refine gx_iast (q := j) hx hb hK hP hD hS 1 2 rfl rfl (rfl) (by omega) (by decide) dX2_straight_183 (fun H locs hP hD hS => ?_)
          have hP : va_P D vwCl [(p1, .inl (dE, 48, .inl E)), (l1, .inl (dL, 8, .inl (upd Ld j (nI (k + 1))))), (v1, .inl (dV, 8, .inr (.inl F))), (g0, .inr (2, [.ref p1, .ref b1, .int (nI M), .int (nI R), .int (nI n), .ref q1, .ref t1, .ref a1, .ref l1, .ref v1])), (a1, .inl (dA, 48, .inr (.inl K2)))] H := hP
          have hD : va_D A [(p1, .inl (dE, 48, .inl E)), (l1, .inl (dL, 8, .inl (upd Ld j (nI (k + 1))))), (v1, .inl (dV, 8, .inr (.inl F))), (g0, .inr (2, [.ref p1, .ref b1, .int (nI M), .int (nI R), .int (nI n), .ref q1, .ref t1, .ref a1, .ref l1, .ref v1])), (a1, .inl (dA, 48, .inr (.inl K2)))] := hD
          refine lv_iinc (v := nI (j + 1)) (lv' := [(6, .int (nI (j + 1))), (3, .int (nI (k + 1))), (4, .long (K2 (k * 8 + j))), (0, .ref g0), (1, .int (nI S)), (2, .int fr), (7, .int (nI i))]) hx hb dX2_straight_184 hl (k := 5) rfl ((nI_succ j).symm) (by decide) rfl (fun ls hl => ?_)
          refine lv_goto (tgt := 65) hx hb dX2_straight_187 (by decide) ?_
          exact ih (j + 1) (k + 1) fr _ _ _ (updN ld j (k + 1)) _ _ _ (by omega) ⟨sI_piv hM6 h9 (by omega) c_80 hI.1 g1 (by omega) (g4 (by omega)) g3 hw1 hw2, lds_s hI.2⟩ (hP.sub [3, 0, 4, 1, 2] rfl) (hD.sub [3, 0, 4, 1, 2] (by decide) rfl) hS (lv_sub hl [3, 4, 5, 1, 2, 0] rfl)
        · refine lv_iload_n hx hb dX2_straight_131 rfl (lv_at hl 2 rfl) ?_
          refine lv_if_lt (tgt := 137) hx hb dX2_straight_132 (by decide) (fun c_132 => ?_) (fun c_132 => ?_)
          · refine lv_iload hx hb dX2_straight_137 (lv_at hl 5 rfl) ?_
            refine lv_istore_n (lv' := [(2, .int (nI j)), (0, .ref g0), (1, .int (nI S)), (3, .int (nI k)), (4, .long bf), (6, .int (nI j)), (7, .int (nI i))]) hx hb dX2_straight_139 rfl hl (by decide) rfl (fun ls hl => ?_)
            refine lv_goto (tgt := 184) hx hb dX2_straight_140 (by decide) ?_
            refine lv_iinc (v := nI (j + 1)) (lv' := [(6, .int (nI (j + 1))), (2, .int (nI j)), (0, .ref g0), (1, .int (nI S)), (3, .int (nI k)), (4, .long bf), (7, .int (nI i))]) hx hb dX2_straight_184 hl (k := 5) rfl ((nI_succ j).symm) (by decide) rfl (fun ls hl => ?_)
            refine lv_goto (tgt := 65) hx hb dX2_straight_187 (by decide) ?_
            exact ih (j + 1) k (nI j) bf K Ld ld _ _ _ (by omega) ⟨sI_free hM6 h9 (by omega) c_80 (sI_lt hI.1 c_132) (c_128 ▸ g3), hI.2⟩ (hP.sub [0, 1, 2, 3, 4] rfl) (hD.sub [0, 1, 2, 3, 4] (by decide) rfl) hS (lv_sub hl [2, 3, 1, 4, 5, 0] rfl)
          · obtain ⟨f, hf8, hfr, hB⟩ := sI_nlt hI.1 c_132
            exact kr k j i fr bf K Ld _ _ _ (sI_bad (by omega) c_80 hB) (hP.sub [0, 1, 2, 3, 4] rfl) (hD.sub [0, 1, 2, 3, 4] (by decide) rfl) hS (lv_sub hl [0, 1, 2, 3, 4, 5, 6] rfl)
      · refine lv_goto (tgt := 184) hx hb dX2_straight_83 (by decide) ?_
        refine lv_iinc (v := nI (j + 1)) (lv' := [(6, .int (nI (j + 1))), (0, .ref g0), (1, .int (nI S)), (2, .int fr), (3, .int (nI k)), (4, .long bf)]) hx hb dX2_straight_184 hl (k := 5) rfl ((nI_succ j).symm) (by decide) rfl (fun ls hl => ?_)
        refine lv_goto (tgt := 65) hx hb dX2_straight_187 (by decide) ?_
        exact ih (j + 1) k fr bf K Ld ld _ _ _ (by omega) ⟨sI_skip c_80 hI.1, hI.2⟩ (hP.sub [0, 1, 2, 3, 4] rfl) (hD.sub [0, 1, 2, 3, 4] (by decide) rfl) hS (lv_sub hl [1, 2, 3, 4, 5, 0] rfl)
set_option maxHeartbeats 4000000 in
set_option maxRecDepth 100000 in
theorem lpX2_straight4 {p : Program} {l : Launch} {e : Env} {s : State} {m : MethodId} {args : Array Value} {below : List Frame} {meth : Method} {c : Code} {Q : State → Prop} {D : va_G} {A : Nat → Prop} {H0 : Heap} (C0 : CallFix p m c cX2_straight 8 s args wsX2_straight RX2) (hN : gx_N s) (hA : ∀ q : Nat, H0.size ≤ q → A q) {g0 p1 b1 q1 t1 a1 l1 v1 M R n S : Nat} {dE dA dL dV : ClassId} {E : Nat → Int32} {f : Nat} {K Fz : Nat → Int64} {Ld : Nat → Int32} {ld : Nat → Nat} (hR8 : R ≤ 8) (hf8 : f < 8) (hld : lds Ld ld) (hld6 : ∀ i, i < 8 → ld i ≤ 6) (hK : va_K D vwCl [(dE, .int), (dA, .long), (dL, .int), (dV, .long)] s) (kk : ∀ (F : Nat → Int64) (H : Heap) (locs : List Loc) (ls : Array Slot), (fn_I K ld f Fz F R) → va_P D vwCl [(g0, .inr (2, [.ref p1, .ref b1, .int (nI M), .int (nI R), .int (nI n), .ref q1, .ref t1, .ref a1, .ref l1, .ref v1])), (p1, .inl (dE, 48, .inl E)), (a1, .inl (dA, 48, .inr (.inl K))), (l1, .inl (dL, 8, .inl Ld)), (v1, .inl (dV, 8, .inr (.inl F)))] H → va_D A [(g0, .inr (2, [.ref p1, .ref b1, .int (nI M), .int (nI R), .int (nI n), .ref q1, .ref t1, .ref a1, .ref l1, .ref v1])), (p1, .inl (dE, 48, .inl E)), (a1, .inl (dA, 48, .inr (.inl K))), (l1, .inl (dL, 8, .inl Ld)), (v1, .inl (dV, 8, .inr (.inl F)))] → va_S A H0 H locs → lv_has ls 8 [(0, .ref g0), (2, .int (nI f)), (6, .int (nI R))] → W p l e rmX2_straight s m args below meth c H locs 0 0 Q (F0 m 259 ls [])) : ∀ (n_ : Nat) (j : Nat) (F : Nat → Int64) (H : Heap) (locs : List Loc) (ls : Array Slot), (j ≤ R ∧ R < j + n_) → (fn_I K ld f Fz F j) → va_P D vwCl [(g0, .inr (2, [.ref p1, .ref b1, .int (nI M), .int (nI R), .int (nI n), .ref q1, .ref t1, .ref a1, .ref l1, .ref v1])), (p1, .inl (dE, 48, .inl E)), (a1, .inl (dA, 48, .inr (.inl K))), (l1, .inl (dL, 8, .inl Ld)), (v1, .inl (dV, 8, .inr (.inl F)))] H → va_D A [(g0, .inr (2, [.ref p1, .ref b1, .int (nI M), .int (nI R), .int (nI n), .ref q1, .ref t1, .ref a1, .ref l1, .ref v1])), (p1, .inl (dE, 48, .inl E)), (a1, .inl (dA, 48, .inr (.inl K))), (l1, .inl (dL, 8, .inl Ld)), (v1, .inl (dV, 8, .inr (.inl F)))] → va_S A H0 H locs → lv_has ls 8 [(0, .ref g0), (2, .int (nI f)), (6, .int (nI j))] → W p l e rmX2_straight s m args below meth c H locs 0 0 Q (F0 m 207 ls []) := by
  obtain ⟨hx, hb, hml, hown, hts⟩ := id C0
  intro n_
  induction n_ with
  | zero =>
    intro j F H locs ls hm
    exact absurd hm (by omega)
  | succ n_ ih =>
    intro j F H locs ls hm hI hP hD hS hl
    refine lv_iload hx hb dX2_straight_207 (lv_at hl 2 rfl) ?_
    refine lv_aload_n hx hb dX2_straight_209 rfl (lv_at hl 0 rfl) ?_
    refine va_get (D := D) (ci := 2) (v := .int (nI R)) (C := RX2) (T := TX2) (N := 10) hx hb hts iw_X2_straight_X2 hown hK hP 0 rfl rfl 3 (by decide) (hts _ kw_X2_straight_33) (fun _ h9 => h9) rfl dX2_straight_210 ?_
    refine gx_ge (tgt := 259) hx hb dX2_straight_213 (by decide) (by omega) (by omega) (fun c_213 => ?_) (fun c_213 => ?_)
    · have hjR : j = R := by omega
      subst hjR
      exact kk _ _ _ _ hI (hP.sub [0, 1, 2, 3, 4] rfl) (hD.sub [0, 1, 2, 3, 4] (by decide) rfl) hS (lv_sub hl [0, 1, 2] rfl)
    · have hl6 := hld6 j (by omega)
      refine lv_aload_n hx hb dX2_straight_216 rfl (lv_at hl 0 rfl) ?_
      refine va_get (D := D) (ci := 2) (v := .ref l1) (C := RX2) (T := TX2) (N := 10) hx hb hts iw_X2_straight_X2 hown hK hP 0 rfl rfl 8 (by decide) (hts _ kw_X2_straight_27) (fun _ h9 => h9) rfl dX2_straight_217 ?_
      refine lv_iload hx hb dX2_straight_220 (lv_at hl 2 rfl) ?_
      refine gx_iald (q := j) hx hb hK hP 3 2 rfl rfl (rfl) (by omega) (by decide) dX2_straight_222 ?_
      refine gx_i (y := nI (ld j)) (hld j (by omega)) ?_
      refine lv_if_le (tgt := 253) hx hb dX2_straight_223 (by decide) (fun c_223 => ?_) (fun c_223 => ?_)
      · have hz : ld j = 0 := by rcases Nat.eq_zero_or_pos (ld j) with h | h; exact h; exact absurd c_223 (nI_nle h (by omega))
        refine lv_iinc (v := nI (j + 1)) (lv' := [(6, .int (nI (j + 1))), (0, .ref g0), (2, .int (nI f))]) hx hb dX2_straight_253 hl (k := 2) rfl ((nI_succ j).symm) (by decide) rfl (fun ls hl => ?_)
        refine lv_goto (tgt := 207) hx hb dX2_straight_256 (by decide) ?_
        exact ih (j + 1) _ _ _ _ (by omega) (fn_f hz hI) (hP.sub [0, 1, 2, 3, 4] rfl) (hD.sub [0, 1, 2, 3, 4] (by decide) rfl) hS (lv_sub hl [1, 2, 0] rfl)
      · have hz : ld j ≠ 0 := fun q => c_223 (by rw [q]; decide)
        refine lv_aload_n hx hb dX2_straight_226 rfl (lv_at hl 0 rfl) ?_
        refine va_get (D := D) (ci := 2) (v := .ref v1) (C := RX2) (T := TX2) (N := 10) hx hb hts iw_X2_straight_X2 hown hK hP 0 rfl rfl 9 (by decide) (hts _ kw_X2_straight_30) (fun _ h9 => h9) rfl dX2_straight_227 ?_
        refine lv_iload hx hb dX2_straight_230 (lv_at hl 2 rfl) ?_
        refine lv_aload_n hx hb dX2_straight_232 rfl (lv_at hl 0 rfl) ?_
        refine va_get (D := D) (ci := 2) (v := .ref a1) (C := RX2) (T := TX2) (N := 10) hx hb hts iw_X2_straight_X2 hown hK hP 0 rfl rfl 7 (by decide) (hts _ kw_X2_straight_23) (fun _ h9 => h9) rfl dX2_straight_233 ?_
        refine lv_bipush (v := nI 8) hx hb dX2_straight_236 (by decide) ?_
        refine lv_aload_n hx hb dX2_straight_238 rfl (lv_at hl 0 rfl) ?_
        refine va_get (D := D) (ci := 2) (v := .ref l1) (C := RX2) (T := TX2) (N := 10) hx hb hts iw_X2_straight_X2 hown hK hP 0 rfl rfl 8 (by decide) (hts _ kw_X2_straight_27) (fun _ h9 => h9) rfl dX2_straight_239 ?_
        refine lv_iload hx hb dX2_straight_242 (lv_at hl 2 rfl) ?_
        refine gx_iald (q := j) hx hb hK hP 3 2 rfl rfl (rfl) (by omega) (by decide) dX2_straight_244 ?_
        refine gx_i (y := nI (ld j)) (hld j (by omega)) ?_
        refine lv_iconst (v := nI 1) hx hb dX2_straight_245 (by decide) ?_
        refine lv_isub hx hb dX2_straight_246 ?_
        refine gx_i (y := nI (ld j - 1)) (pk_sub (by omega)) ?_
        refine lv_imul hx hb dX2_straight_247 ?_
        refine gx_i (y := nI ((ld j - 1) * 8)) ((pk_mul 8 (ld j - 1)).trans (by rw [Nat.mul_comm])) ?_
        refine lv_iload_n hx hb dX2_straight_248 rfl (lv_at hl 1 rfl) ?_
        refine lv_iadd hx hb dX2_straight_249 ?_
        refine gx_i (y := nI ((ld j - 1) * 8 + f)) (nI_add ((ld j - 1) * 8) f) ?_
        refine gx_lald (q := (ld j - 1) * 8 + f) hx hb hK hP 2 1 rfl rfl (rfl) (by omega) (by decide) dX2_straight_250 ?_
        refine lv_lneg hx hb dX2_straight_251 ?_
        refine gx_last (q := j) hx hb hK hP hD hS 4 3 rfl rfl (rfl) (by omega) (by decide) dX2_straight_252 (fun H locs hP hD hS => ?_)
        have hP : va_P D vwCl [(g0, .inr (2, [.ref p1, .ref b1, .int (nI M), .int (nI R), .int (nI n), .ref q1, .ref t1, .ref a1, .ref l1, .ref v1])), (p1, .inl (dE, 48, .inl E)), (a1, .inl (dA, 48, .inr (.inl K))), (l1, .inl (dL, 8, .inl Ld)), (v1, .inl (dV, 8, .inr (.inl (vp_updL F j (-(K ((ld j - 1) * 8 + f)))))))] H := hP
        have hD : va_D A [(g0, .inr (2, [.ref p1, .ref b1, .int (nI M), .int (nI R), .int (nI n), .ref q1, .ref t1, .ref a1, .ref l1, .ref v1])), (p1, .inl (dE, 48, .inl E)), (a1, .inl (dA, 48, .inr (.inl K))), (l1, .inl (dL, 8, .inl Ld)), (v1, .inl (dV, 8, .inr (.inl (vp_updL F j (-(K ((ld j - 1) * 8 + f)))))))] := hD
        refine lv_iinc (v := nI (j + 1)) (lv' := [(6, .int (nI (j + 1))), (0, .ref g0), (2, .int (nI f))]) hx hb dX2_straight_253 hl (k := 2) rfl ((nI_succ j).symm) (by decide) rfl (fun ls hl => ?_)
        refine lv_goto (tgt := 207) hx hb dX2_straight_256 (by decide) ?_
        exact ih (j + 1) _ _ _ _ (by omega) (fn_t hz hI) (hP.sub [0, 1, 2, 3, 4] rfl) (hD.sub [0, 1, 2, 3, 4] (by decide) rfl) hS (lv_sub hl [1, 2, 0] rfl)
set_option maxHeartbeats 4000000 in
set_option maxRecDepth 100000 in
theorem kX2_straight (l : Launch) (D : va_G) (g0 p1 b1 q1 t1 a1 l1 v1 M R n : Nat) (S : Nat) (dE dA dL dV : ClassId) (E Ld : Nat → Int32) (K F : Nat → Int64) (hM6 : M ≤ 6) (hR8 : R ≤ 8) (h9 : e9 E) (hs8 : S < 256) (hs0 : 0 < S) (hSR : S < 2 ^ R) : gx_Mi l D yX2_straight wsX2_straight rmX2_straight [.ref g0, .int (nI S)] [(dE, .int), (dA, .long), (dL, .int), (dV, .long)] [(g0, .inr (2, [.ref p1, .ref b1, .int (nI M), .int (nI R), .int (nI n), .ref q1, .ref t1, .ref a1, .ref l1, .ref v1])), (p1, .inl (dE, 48, .inl E)), (a1, .inl (dA, 48, .inr (.inl K))), (l1, .inl (dL, 8, .inl Ld)), (v1, .inl (dV, 8, .inr (.inl F)))] (S := (Nat → Int64) × (Nat → Int32) × (Nat → Int64)) (fun r (u : (Nat → Int64) × (Nat → Int32) × (Nat → Int64)) => ∃ b, r = bI b ∧ st_P E M S b u.2.2) (fun (u : (Nat → Int64) × (Nat → Int32) × (Nat → Int64)) => [(g0, .inr (2, [.ref p1, .ref b1, .int (nI M), .int (nI R), .int (nI n), .ref q1, .ref t1, .ref a1, .ref l1, .ref v1])), (p1, .inl (dE, 48, .inl E)), (a1, .inl (dA, 48, .inr (.inl u.1))), (l1, .inl (dL, 8, .inl u.2.1)), (v1, .inl (dV, 8, .inr (.inl u.2.2)))]) := by
  intro sz
  refine gx_start (cc := cX2_straight) (maxL := 8) (ret := (some .boolean)) (Qc := fun A => va_Qi (fun r (u : (Nat → Int64) × (Nat → Int32) × (Nat → Int64)) => ∃ b, r = bI b ∧ st_P E M S b u.2.2) (gx_B D [(dE, .int), (dA, .long), (dL, .int), (dV, .long)] A (fun (u : (Nat → Int64) × (Nat → Int32) × (Nat → Int64)) => [(g0, .inr (2, [.ref p1, .ref b1, .int (nI M), .int (nI R), .int (nI n), .ref q1, .ref t1, .ref a1, .ref l1, .ref v1])), (p1, .inl (dE, 48, .inl E)), (a1, .inl (dA, 48, .inr (.inl u.1))), (l1, .inl (dL, 8, .inl u.2.1)), (v1, .inl (dV, 8, .inr (.inl u.2.2)))])) A) (by decide) rfl (Nat.le_of_ble_eq_true rfl) ?_ sz
  intro p e s m below meth c A hbody ls hl
  obtain ⟨C0, hr, hlocks, hN, hK, hP, hD, hA⟩ := hbody
  have C0 : CallFix p m c cX2_straight 8 s ([.ref g0, .int (nI S)] : List Value).toArray wsX2_straight RX2 := C0
  obtain ⟨hx, hb, hml, hown, hts⟩ := id C0
  have hS : va_S A s.heap s.heap [] := va_S.rf
  have hl : lv_has ls 8 [(0, .ref g0), (1, .int (nI S))] := hl
  refine lv_iconst (v := nI 0) hx hb dX2_straight_0 (by decide) ?_
  refine lv_istore_n (lv' := [(2, .int (nI 0)), (0, .ref g0), (1, .int (nI S))]) hx hb dX2_straight_1 rfl hl (by decide) rfl (fun ls hl => ?_)
  refine lpX2_straight1 C0 hN hA hK (fun K1 H locs ls hI1 hP hD hS hl => ?_) 49 0 K _ _ _ (by omega) (fun q h => absurd h (Nat.not_lt_zero q)) (hP.sub [0, 1, 2, 3, 4] rfl) (hD.sub [0, 1, 2, 3, 4] (by decide) rfl) hS (lv_sub hl [1, 2, 0] rfl)
  refine lv_iconst (v := nI 0) hx hb dX2_straight_27 (by decide) ?_
  refine lv_istore_n (lv' := [(2, .int (nI 0)), (0, .ref g0), (1, .int (nI S))]) hx hb dX2_straight_28 rfl hl (by decide) rfl (fun ls hl => ?_)
  refine lpX2_straight2 C0 hN hA hK (fun Ld1 F1 H locs ls hI2 hI3 hP hD hS hl => ?_) 9 0 Ld F _ _ _ (by omega) ⟨fun q h => absurd h (Nat.not_lt_zero q), fun q h => absurd h (Nat.not_lt_zero q)⟩ (hP.sub [0, 1, 2, 3, 4] rfl) (hD.sub [0, 1, 2, 3, 4] (by decide) rfl) hS (lv_sub hl [1, 2, 0] rfl)
  refine lv_iconst (v := (-1)) hx hb dX2_straight_55 (by decide) ?_
  refine lv_istore_n (lv' := [(2, .int ((-1))), (0, .ref g0), (1, .int (nI S))]) hx hb dX2_straight_56 rfl hl (by decide) rfl (fun ls hl => ?_)
  refine lv_iconst (v := nI 0) hx hb dX2_straight_57 (by decide) ?_
  refine lv_istore_n (lv' := [(3, .int (nI 0)), (2, .int ((-1))), (0, .ref g0), (1, .int (nI S))]) hx hb dX2_straight_58 rfl hl (by decide) rfl (fun ls hl => ?_)
  refine lv_lconst (v := 1) hx hb dX2_straight_59 (by decide) ?_
  refine lv_lstore (lv' := [(4, .long 1), (3, .int (nI 0)), (2, .int ((-1))), (0, .ref g0), (1, .int (nI S))]) hx hb dX2_straight_60 hl (by decide) rfl (fun ls hl => ?_)
  refine lv_iconst (v := nI 0) hx hb dX2_straight_62 (by decide) ?_
  refine lv_istore (lv' := [(6, .int (nI 0)), (4, .long 1), (3, .int (nI 0)), (2, .int ((-1))), (0, .ref g0), (1, .int (nI S))]) hx hb dX2_straight_63 hl (by decide) rfl (fun ls hl => ?_)
  refine lpX2_straight (S := S) C0 hN hA hM6 hR8 h9 hs8 hK (fun k fr bf K2 Ld2 ld H locs ls hI hL hP hD hS hl => ?_) (fun k j i fr bf K2 Ld2 H locs ls hF hP hD hS hl => ?_) (R + 1) 0 0 (-1) 1 K1 Ld1 (fun _ => 0) _ _ _ (by omega) ⟨sI_0 hM6 hI1, hI2⟩ (hP.sub [0, 1, 2, 3, 4] rfl) (hD.sub [0, 1, 2, 3, 4] (by decide) rfl) hS (lv_sub hl [4, 5, 3, 2, 1, 0] rfl)
  · refine lv_iload_n hx hb dX2_straight_190 rfl (lv_at hl 2 rfl) ?_
    refine lv_if_ge (tgt := 196) hx hb dX2_straight_191 (by decide) (fun c_191 => ?_) (fun c_191 => ?_)
    · obtain ⟨f, hf8, hfr, hB⟩ := sI_nlt hI (Int32.not_lt.mpr c_191)
      subst hfr
      refine lv_aload_n hx hb dX2_straight_196 rfl (lv_at hl 0 rfl) ?_
      refine va_get (D := D) (ci := 2) (v := .ref v1) (C := RX2) (T := TX2) (N := 10) hx hb hts iw_X2_straight_X2 hown hK hP 0 rfl rfl 9 (by decide) (hts _ kw_X2_straight_30) (fun _ h9 => h9) rfl dX2_straight_197 ?_
      refine lv_iload_n hx hb dX2_straight_200 rfl (lv_at hl 2 rfl) ?_
      refine lv_lload hx hb dX2_straight_201 (lv_at hl 4 rfl) ?_
      refine gx_last (q := f) hx hb hK hP hD hS 4 3 rfl rfl (rfl) (by omega) (by decide) dX2_straight_203 (fun H locs hP hD hS => ?_)
      have hP : va_P D vwCl [(g0, .inr (2, [.ref p1, .ref b1, .int (nI M), .int (nI R), .int (nI n), .ref q1, .ref t1, .ref a1, .ref l1, .ref v1])), (p1, .inl (dE, 48, .inl E)), (a1, .inl (dA, 48, .inr (.inl K2))), (l1, .inl (dL, 8, .inl Ld2)), (v1, .inl (dV, 8, .inr (.inl (vp_updL F1 f bf))))] H := hP
      have hD : va_D A [(g0, .inr (2, [.ref p1, .ref b1, .int (nI M), .int (nI R), .int (nI n), .ref q1, .ref t1, .ref a1, .ref l1, .ref v1])), (p1, .inl (dE, 48, .inl E)), (a1, .inl (dA, 48, .inr (.inl K2))), (l1, .inl (dL, 8, .inl Ld2)), (v1, .inl (dV, 8, .inr (.inl (vp_updL F1 f bf))))] := hD
      refine lv_iconst (v := nI 0) hx hb dX2_straight_204 (by decide) ?_
      refine lv_istore (lv' := [(6, .int (nI 0)), (0, .ref g0), (1, .int (nI S)), (2, .int (nI f)), (3, .int (nI k)), (4, .long bf)]) hx hb dX2_straight_205 hl (by decide) rfl (fun ls hl => ?_)
      have hl6 := sI_ld hM6 h9 hI
      refine lpX2_straight4 (S := S) (f := f) (Fz := vp_updL F1 f bf) (ld := ld) C0 hN hA hR8 hf8 hL (fun i hi => Nat.le_trans (hl6 i hi) hM6) hK (fun F2 H locs ls hI4 hP hD hS hl => ?_) (R + 1) 0 _ _ _ _ (by omega) (fn_0 K2 ld f _) (hP.sub [0, 1, 2, 3, 4] rfl) (hD.sub [0, 1, 2, 3, 4] (by decide) rfl) hS (lv_sub hl [1, 3, 0] rfl)
      refine lv_iconst (v := nI 1) hx hb dX2_straight_259 (by decide) ?_
      exact gx_retz hx hb hr hlocks true (by decide) (K2, Ld2, F2) (⟨true, rfl, st_fin hM6 h9 hR8 hs0 hs8 hSR hf8 hB (fn_z hI3 hI4)⟩) hK (hP.sub [0, 1, 2, 3, 4] rfl) (hD.sub [0, 1, 2, 3, 4] (by decide) rfl) hS dX2_straight_260
    · have hno := sI_none hR8 hs0 hs8 hSR (sI_lt hI (Int32.not_le.mp c_191))
      refine lv_iconst (v := nI 0) hx hb dX2_straight_194 (by decide) ?_
      exact gx_retz hx hb hr hlocks false (by decide) (K2, Ld2, F1) (⟨false, rfl, st_no (hno)⟩) hK (hP.sub [0, 1, 2, 3, 4] rfl) (hD.sub [0, 1, 2, 3, 4] (by decide) rfl) hS dX2_straight_195
  · refine lv_iconst (v := nI 0) hx hb dX2_straight_135 (by decide) ?_
    exact gx_retz hx hb hr hlocks false (by decide) (K2, Ld2, F1) (⟨false, rfl, st_no (hF)⟩) hK (hP.sub [0, 1, 2, 3, 4] rfl) (hD.sub [0, 1, 2, 3, 4] (by decide) rfl) hS dX2_straight_136
end
section
/-! the reference's list -/
theorem s_amt : ∀ R, R < 9 → ((nI R &&& 31).toBitVec.smod 32).toNat = R := by decide +kernel
theorem shr_R {N R : Nat} (hN : N < 2 ^ 31) (hR : R ≤ 8) : nI N >>> (nI R &&& 31) = nI (N / 2 ^ R) := pk_shrN hN _ R (s_amt R (by omega))
theorem shr_z {N R : Nat} (hN : N ≤ 256) (h : nI (N / 2 ^ R) = 0) : N < 2 ^ R := by
  have h1 : N / 2 ^ R ≤ N := Nat.div_le_self _ _
  have h2 : N / 2 ^ R = 0 := (nI_eq (by omega) (by omega)).mp (h.trans nI_0.symm)
  exact (Nat.div_eq_zero_iff_lt (Nat.pow_pos (by decide))).mp h2
theorem shr_nz {N R : Nat} (h : ¬ nI (N / 2 ^ R) = 0) : ¬ N < 2 ^ R := fun q => h (by rw [Nat.div_eq_of_lt q]; exact nI_0)
theorem fvv_ne {E : Nat → Int32} {M S j : Nat} (h : okS E M S) (hb : S.testBit j = true) : fvv E M S j ≠ 0 := by
  obtain ⟨σ, hs⟩ := h
  rw [fvv_some (σ := σ) hs.1, if_pos hb]
  exact mx_fl_ne hs _
theorem ms_1 {E : Nat → Int32} {M V S : Nat} {F : Nat → Int64} (h : st_P E M S false F) : ¬ lstd E M V S := fun q => by
  have := (h.1 q.1).1
  cases this
theorem ms_2 {E : Nat → Int32} {M V S : Nat} {F : Nat → Int64} (hM : M ≤ 6) (h9 : e9 E) (hS : S < 256) (h0 : 0 < S) (h : st_P E M S true F) (hn : ¬ sgd S V F) : ¬ lstd E M V S := fun q => by
  have hF := (h.1 q.1).2
  refine hn ⟨fun i hi hb => ?_, ?_⟩
  · rw [hF i hi]
    exact fun z => fvv_ne q.1 hb ((l64_zero (fvv_abs hM h9 S i hi)).mp z)
  · rw [dir_eq hM h9 hS h0 hF]
    exact q.2
theorem ms_3 {E : Nat → Int32} {M V S : Nat} {F : Nat → Int64} (hM : M ≤ 6) (h9 : e9 E) (hS : S < 256) (h0 : 0 < S) (h : st_P E M S true F) (hg : sgd S V F) : lstd E M V S ∧ ∀ j, j < 8 → F j = Int64.ofInt (fvv E M S j) := by
  have ho : okS E M S := Classical.byContradiction (fun q => by
    rcases h.2 q with z | ⟨j, hj, hb, z⟩
    · cases z
    · exact hg.1 j hj hb z)
  have hF := (h.1 ho).2
  refine ⟨⟨ho, ?_⟩, hF⟩
  rw [← dir_eq hM h9 hS h0 hF]
  exact hg.2
def dI (d : Int32) : Int := if d = 1 then 1 else -1
def sgf (E : Nat → Int32) (M V S j : Nat) : Int := dI (dirv E M V S) * fvv E M S j
theorem dI_abs (d : Int32) (x : Int) : (dI d * x).natAbs = x.natAbs := by
  unfold dI
  split
  · rw [Int.one_mul]
  · rw [Int.neg_mul, Int.one_mul, Int.natAbs_neg]
theorem sgf_abs {E : Nat → Int32} {M V S j : Nat} : (sgf E M V S j).natAbs = (fvv E M S j).natAbs := dI_abs _ _
theorem one64 : (1 : Int32).toInt64 = 1 := by decide
theorem mone64 : (-1 : Int32).toInt64 = -1 := by decide
theorem dI_mul {d : Int32} (hd : d = 1 ∨ d = -1) (x : Int) : d.toInt64 * Int64.ofInt x = Int64.ofInt (dI d * x) := by
  rcases hd with rfl | rfl
  · rw [one64, Int64.one_mul, show dI 1 = 1 from rfl, Int.one_mul]
  · rw [mone64, show dI (-1) = -1 from by decide, Int.neg_mul, Int.one_mul, Int64.ofInt_neg, Int64.neg_mul, Int64.one_mul]
theorem qt_int {x : Int} {G : Nat} (hx : x.natAbs ≤ 382637520) (hG : G ≤ 382637520) (h0 : ¬ lN G = 0) : qt (Int64.ofInt x) (lN G) = Int64.ofInt (x.tdiv (G : Int)) := by
  rw [← qt_ne h0, lN_ofInt, Int64.ofInt_tdiv (by rw [l64_min]; omega) (by rw [l64_max]; omega) (by rw [l64_min]; omega) (by rw [l64_max]; omega)]
theorem rtv_eq {d : Int32} (hd : d = 1 ∨ d = -1) {x : Int} {G : Nat} (hx : x.natAbs ≤ 382637520) (hG : G ≤ 382637520) (h0 : ¬ lN G = 0) : (qt (Int64.ofInt (dI d * x)) (lN G)).toInt32 = rtv d x G := by
  unfold rtv
  rw [qt_int (by rw [dI_abs]; exact hx) hG h0, qt_int hx hG h0, dI_mul hd]
  congr 1
  rcases hd with rfl | rfl
  · rw [show dI 1 = 1 from rfl, Int.one_mul, Int.one_mul]
  · rw [show dI (-1) = -1 from by decide, Int.neg_mul, Int.one_mul, Int.neg_mul, Int.one_mul, Int.neg_tdiv]
theorem rl_congr {T0 T : Nat → Int32} {n : Nat} {v v' : Nat → Int32} (h : rl_I T0 T n v 8) (hv : ∀ j, j < 8 → v j = v' j) : rl_I T0 T n v' 8 := ⟨fun j hj => (h.1 j hj).trans (hv j hj), h.2⟩
theorem gcv_sg {E : Nat → Int32} {M V S : Nat} : gdv (fun j => (sgf E M V S j).natAbs) 8 = gcv E M S := gdv_congr (fun i _ => sgf_abs)
theorem gcv_ne {E : Nat → Int32} {M S : Nat} (hM : M ≤ 6) (h9 : e9 E) (hS : S < 256) (h0 : 0 < S) (ho : okS E M S) : ¬ lN (gcv E M S) = 0 := by
  have hle : gcv E M S ≤ 382637520 := gdv_le (fun j hj => fvv_abs hM h9 S j hj) (Nat.le_refl 8)
  rw [lN_z hle]
  intro q
  obtain ⟨g1, g2, g3⟩ := mx_nth_in (S := S) (t := 0) (nz_cnt S hS h0)
  have := gdv_0 (j := 8) q _ g1
  exact fvv_ne ho g2 (Int.natAbs_eq_zero.mp this)
theorem dirv_pm {E : Nat → Int32} {M V S : Nat} (h : lstd E M V S) : dirv E M V S = 1 ∨ dirv E M V S = -1 := by
  rcases dir_pm S V (posv E M S) with h1 | h1 | h1
  · exact Or.inl h1
  · exact Or.inr h1
  · exact absurd h1 h.2
theorem ms_F {E : Nat → Int32} {M V S : Nat} {F F2 : Nat → Int64} (hM : M ≤ 6) (h9 : e9 E) (hS : S < 256) (h0 : 0 < S) (hl : lstd E M V S) (hF : ∀ j, j < 8 → F j = Int64.ofInt (fvv E M S j)) (h2 : ∀ j, j < 8 → F2 j = (dirS S V (fun j => decide (0 < F j))).toInt64 * F j) : ∀ j, j < 8 → F2 j = Int64.ofInt (sgf E M V S j) := by
  intro j hj
  rw [h2 j hj, dir_eq hM h9 hS h0 hF, hF j hj, dI_mul (dirv_pm hl)]
  rfl
theorem ms_rate {E : Nat → Int32} {M V S n : Nat} {T T1 : Nat → Int32} (hM : M ≤ 6) (h9 : e9 E) (hS : S < 256) (h0 : 0 < S) (hl : lstd E M V S) (h : rl_I T T1 n (fun j => (qt (Int64.ofInt (sgf E M V S j)) (lN (gdv (fun j => (sgf E M V S j).natAbs) 8))).toInt32) 8) : rl_I T T1 n (ratv E M V S) 8 := by
  refine rl_congr h (fun j hj => ?_)
  rw [gcv_sg]
  exact rtv_eq (dirv_pm hl) (fvv_abs hM h9 S j hj) (gdv_le (fun j hj => fvv_abs hM h9 S j hj) (Nat.le_refl 8)) (gcv_ne hM h9 hS h0 hl.1)
theorem ms_70 {E : Nat → Int32} {M R V N n : Nat} {U T : Nat → Int32} (hR : R ≤ 8) (hN : N < 2 ^ R) (h0 : 0 < N) (h : LsM E M R V N n U T) (hl : lstd E M V N) : n < 70 := by
  have h2 := pow_256 hR
  have h3 := lb_70 (E := E) (M := M) (V := V) hR (N := N + 1) (by omega)
  rw [mx_count_in (lb_t.mpr ⟨h0, hN, hl⟩), ← h.1] at h3
  omega
end
section
abbrev rmX2_solve : Room := { frames := 2, cells := 0, slots := 0, locals := 57 }
theorem iw_X2_solve_X2 : ∀ w ∈ wsX20, w ∈ wsX2_solve := by decide +kernel
theorem kw_X2_solve_33 : Cond.fieldLink RX2 33 "FluxModesModel" "\x72" "I" ∈ wsX2_solve := by decide +kernel
theorem kw_X2_solve_40 : Cond.fieldLink RX2 40 "FluxModesModel" "listed" "I" ∈ wsX2_solve := by decide +kernel
set_option maxHeartbeats 4000000 in
set_option maxRecDepth 100000 in
theorem lpX2_solve {p : Program} {l : Launch} {e : Env} {s : State} {m : MethodId} {args : Array Value} {below : List Frame} {meth : Method} {c : Code} {Q : State → Prop} {D : va_G} {A : Nat → Prop} {H0 : Heap} (C0 : CallFix p m c cX2_solve 2 s args wsX2_solve RX2) (hN : gx_N s) (hA : ∀ q : Nat, H0.size ≤ q → A q) {g0 p1 b1 q1 t1 a1 l1 v1 M R V : Nat} {dE dB dS dR dA dL dV : ClassId} {E Bt : Nat → Int32} (hM6 : M ≤ 6) (hR8 : R ≤ 8) (hR1 : 1 ≤ R) (h9 : e9 E) (hB : bts Bt V) (hK : va_K D vwCl [(dE, .int), (dB, .boolean), (dS, .int), (dR, .int), (dA, .long), (dL, .int), (dV, .long)] s) (kk : ∀ (n : Nat) (U T : Nat → Int32) (K : Nat → Int64) (Ld : Nat → Int32) (F : Nat → Int64) (H : Heap) (locs : List Loc) (ls : Array Slot), (LsM E M R V 256 n U T) → va_P D vwCl [(g0, .inr (2, [.ref p1, .ref b1, .int (nI M), .int (nI R), .int (nI n), .ref q1, .ref t1, .ref a1, .ref l1, .ref v1])), (p1, .inl (dE, 48, .inl E)), (b1, .inl (dB, 8, .inl Bt)), (q1, .inl (dS, 70, .inl U)), (t1, .inl (dR, 560, .inl T)), (a1, .inl (dA, 48, .inr (.inl K))), (l1, .inl (dL, 8, .inl Ld)), (v1, .inl (dV, 8, .inr (.inl F)))] H → va_D A [(g0, .inr (2, [.ref p1, .ref b1, .int (nI M), .int (nI R), .int (nI n), .ref q1, .ref t1, .ref a1, .ref l1, .ref v1])), (p1, .inl (dE, 48, .inl E)), (b1, .inl (dB, 8, .inl Bt)), (q1, .inl (dS, 70, .inl U)), (t1, .inl (dR, 560, .inl T)), (a1, .inl (dA, 48, .inr (.inl K))), (l1, .inl (dL, 8, .inl Ld)), (v1, .inl (dV, 8, .inr (.inl F)))] → va_S A H0 H locs → lv_has ls 2 [(0, .ref g0), (1, .int (nI 256))] → W p l e rmX2_solve s m args below meth c H locs 0 0 Q (F0 m 50 ls [])) : ∀ (n_ : Nat) (N : Nat) (n : Nat) (U T : Nat → Int32) (K : Nat → Int64) (Ld : Nat → Int32) (F : Nat → Int64) (H : Heap) (locs : List Loc) (ls : Array Slot), (N ≤ 256 ∧ 256 < N + n_) → (0 < N ∧ LsM E M R V N n U T) → va_P D vwCl [(g0, .inr (2, [.ref p1, .ref b1, .int (nI M), .int (nI R), .int (nI n), .ref q1, .ref t1, .ref a1, .ref l1, .ref v1])), (p1, .inl (dE, 48, .inl E)), (b1, .inl (dB, 8, .inl Bt)), (q1, .inl (dS, 70, .inl U)), (t1, .inl (dR, 560, .inl T)), (a1, .inl (dA, 48, .inr (.inl K))), (l1, .inl (dL, 8, .inl Ld)), (v1, .inl (dV, 8, .inr (.inl F)))] H → va_D A [(g0, .inr (2, [.ref p1, .ref b1, .int (nI M), .int (nI R), .int (nI n), .ref q1, .ref t1, .ref a1, .ref l1, .ref v1])), (p1, .inl (dE, 48, .inl E)), (b1, .inl (dB, 8, .inl Bt)), (q1, .inl (dS, 70, .inl U)), (t1, .inl (dR, 560, .inl T)), (a1, .inl (dA, 48, .inr (.inl K))), (l1, .inl (dL, 8, .inl Ld)), (v1, .inl (dV, 8, .inr (.inl F)))] → va_S A H0 H locs → lv_has ls 2 [(0, .ref g0), (1, .int (nI N))] → W p l e rmX2_solve s m args below meth c H locs 0 0 Q (F0 m 7 ls []) := by
  obtain ⟨hx, hb, hml, hown, hts⟩ := id C0
  intro n_
  induction n_ with
  | zero =>
    intro N n U T K Ld F H locs ls hm
    exact absurd hm (by omega)
  | succ n_ ih =>
    intro N n U T K Ld F H locs ls hm hI hP hD hS hl
    refine lv_iload_n hx hb dX2_solve_7 rfl (lv_at hl 1 rfl) ?_
    refine lv_sipush (v := nI 256) hx hb dX2_solve_8 (by decide) ?_
    refine gx_ge (tgt := 50) hx hb dX2_solve_11 (by decide) (by omega) (by omega) (fun c_11 => ?_) (fun c_11 => ?_)
    · have hN8 : N = 256 := by omega
      subst hN8
      exact kk _ _ _ _ _ _ _ _ _ hI.2 (hP.sub [0, 1, 2, 3, 4, 5, 6, 7] rfl) (hD.sub [0, 1, 2, 3, 4, 5, 6, 7] (by decide) rfl) hS (lv_sub hl [0, 1] rfl)
    · refine lv_iload_n hx hb dX2_solve_14 rfl (lv_at hl 1 rfl) ?_
      refine lv_aload_n hx hb dX2_solve_15 rfl (lv_at hl 0 rfl) ?_
      refine va_get (D := D) (ci := 2) (v := .int (nI R)) (C := RX2) (T := TX2) (N := 10) hx hb hts iw_X2_solve_X2 hown hK hP 0 rfl rfl 3 (by decide) (hts _ kw_X2_solve_33) (fun _ h9 => h9) rfl dX2_solve_16 ?_
      refine lv_ishr hx hb dX2_solve_19 ?_
      refine gx_i (y := nI (N / 2 ^ R)) (shr_R (by omega) hR8) ?_
      refine lv_if_ne (tgt := 44) hx hb dX2_solve_20 (by decide) (fun c_20 => ?_) (fun c_20 => ?_)
      · refine lv_iinc (v := nI (N + 1)) (lv' := [(1, .int (nI (N + 1))), (0, .ref g0)]) hx hb dX2_solve_44 hl (k := 1) rfl ((nI_succ N).symm) (by decide) rfl (fun ls hl => ?_)
        refine lv_goto (tgt := 7) hx hb dX2_solve_47 (by decide) ?_
        exact ih (N + 1) _ _ _ _ _ _ _ _ _ (by omega) ⟨Nat.succ_pos N, LsM_skip (fun q => shr_nz c_20 (lb_t.mp q).2.1) hI.2⟩ (hP.sub [0, 1, 2, 3, 4, 5, 6, 7] rfl) (hD.sub [0, 1, 2, 3, 4, 5, 6, 7] (by decide) rfl) hS (lv_sub hl [1, 0] rfl)
      · have hNR : N < 2 ^ R := shr_z (by omega) c_20
        have hs8 : N < 256 := c_11
        have hs0 := hI.1
        refine lv_aload_n hx hb dX2_solve_23 rfl (lv_at hl 0 rfl) ?_
        refine lv_iload_n hx hb dX2_solve_24 rfl (lv_at hl 1 rfl) ?_
        refine gx_ji (wr := [(b1, .inl (dB, 8, .inl Bt)), (q1, .inl (dS, 70, .inl U)), (t1, .inl (dR, 560, .inl T))]) (gx_rV (As := [.int (nI N)]) (rest := []) C0 (kX2_straight l D g0 p1 b1 q1 t1 a1 l1 v1 M R n N dE dA dL dV E Ld K F hM6 hR8 h9 hs8 hs0 hNR _) (cwV 1 hts gX2_solve_X2_straight rfl rfl rfl (by decide +kernel) ⟨Nat.le_of_ble_eq_true rfl, Nat.le_of_ble_eq_true rfl⟩) hN hK hP hD [0, 1, 5, 6, 7] [0, 4, 5, 6] rfl rfl (by decide) rfl 0 rfl rfl rfl rfl hl.1 rfl (Nat.le_of_ble_eq_true rfl) dX2_solve_25 ⟨Nat.zero_le _, Nat.zero_le _⟩) hP hD hS hA [0, 1, 5, 6, 7] [2, 3, 4] rfl rfl (by decide) (by decide) (fun r u H locs hw hP hD hS => ?_)
        obtain ⟨K1, Ld1, F1⟩ := u
        obtain ⟨b, hb9, hst⟩ := hw
        subst hb9
        have hst : st_P E M N b F1 := hst
        have hP : va_P D vwCl [(b1, .inl (dB, 8, .inl Bt)), (q1, .inl (dS, 70, .inl U)), (t1, .inl (dR, 560, .inl T)), (g0, .inr (2, [.ref p1, .ref b1, .int (nI M), .int (nI R), .int (nI n), .ref q1, .ref t1, .ref a1, .ref l1, .ref v1])), (p1, .inl (dE, 48, .inl E)), (a1, .inl (dA, 48, .inr (.inl K1))), (l1, .inl (dL, 8, .inl Ld1)), (v1, .inl (dV, 8, .inr (.inl F1)))] H := hP
        have hD : va_D A [(b1, .inl (dB, 8, .inl Bt)), (q1, .inl (dS, 70, .inl U)), (t1, .inl (dR, 560, .inl T)), (g0, .inr (2, [.ref p1, .ref b1, .int (nI M), .int (nI R), .int (nI n), .ref q1, .ref t1, .ref a1, .ref l1, .ref v1])), (p1, .inl (dE, 48, .inl E)), (a1, .inl (dA, 48, .inr (.inl K1))), (l1, .inl (dL, 8, .inl Ld1)), (v1, .inl (dV, 8, .inr (.inl F1)))] := hD
        refine gx_beq (tgt := 44) hx hb dX2_solve_28 (by decide) (fun c_28 => ?_) (fun c_28 => ?_)
        · have hno : ¬ lstd E M V N := ms_1 (c_28 ▸ hst)
          refine lv_iinc (v := nI (N + 1)) (lv' := [(1, .int (nI (N + 1))), (0, .ref g0)]) hx hb dX2_solve_44 hl (k := 1) rfl ((nI_succ N).symm) (by decide) rfl (fun ls hl => ?_)
          refine lv_goto (tgt := 7) hx hb dX2_solve_47 (by decide) ?_
          exact ih (N + 1) _ _ _ _ _ _ _ _ _ (by omega) ⟨Nat.succ_pos N, LsM_s hR8 hI.1 hNR hI.2 (li_no (fun q => hno q.2))⟩ (hP.sub [3, 4, 0, 1, 2, 5, 6, 7] rfl) (hD.sub [3, 4, 0, 1, 2, 5, 6, 7] (by decide) rfl) hS (lv_sub hl [1, 0] rfl)
        · have hst : st_P E M N true F1 := c_28 ▸ hst
          refine lv_aload_n hx hb dX2_solve_31 rfl (lv_at hl 0 rfl) ?_
          refine lv_iload_n hx hb dX2_solve_32 rfl (lv_at hl 1 rfl) ?_
          refine gx_ji (wr := [(q1, .inl (dS, 70, .inl U)), (t1, .inl (dR, 560, .inl T)), (p1, .inl (dE, 48, .inl E)), (a1, .inl (dA, 48, .inr (.inl K1))), (l1, .inl (dL, 8, .inl Ld1))]) (gx_rV (As := [.int (nI N)]) (rest := []) C0 (kX2_signed l D g0 p1 b1 q1 t1 a1 l1 v1 M R n N V dB dV Bt F1 hR8 hs8 hB hR1 hNR hs0 _) (cwV 1 hts gX2_solve_X2_signed rfl rfl rfl (by decide +kernel) ⟨Nat.le_of_ble_eq_true rfl, Nat.le_of_ble_eq_true rfl⟩) hN hK hP hD [3, 0, 7] [1, 6] rfl rfl (by decide) rfl 0 rfl rfl rfl rfl hl.1 rfl (Nat.le_of_ble_eq_true rfl) dX2_solve_33 ⟨Nat.zero_le _, Nat.zero_le _⟩) hP hD hS hA [3, 0, 7] [1, 2, 4, 5, 6] rfl rfl (by decide) (by decide) (fun r u H locs hw hP hD hS => ?_)
          obtain ⟨F2, rfl⟩ : ∃ z, z = u := ⟨_, rfl⟩
          obtain ⟨b2, hb8, hq1, hq2⟩ := hw
          subst hb8
          have hP : va_P D vwCl [(q1, .inl (dS, 70, .inl U)), (t1, .inl (dR, 560, .inl T)), (p1, .inl (dE, 48, .inl E)), (a1, .inl (dA, 48, .inr (.inl K1))), (l1, .inl (dL, 8, .inl Ld1)), (g0, .inr (2, [.ref p1, .ref b1, .int (nI M), .int (nI R), .int (nI n), .ref q1, .ref t1, .ref a1, .ref l1, .ref v1])), (b1, .inl (dB, 8, .inl Bt)), (v1, .inl (dV, 8, .inr (.inl F2)))] H := hP
          have hD : va_D A [(q1, .inl (dS, 70, .inl U)), (t1, .inl (dR, 560, .inl T)), (p1, .inl (dE, 48, .inl E)), (a1, .inl (dA, 48, .inr (.inl K1))), (l1, .inl (dL, 8, .inl Ld1)), (g0, .inr (2, [.ref p1, .ref b1, .int (nI M), .int (nI R), .int (nI n), .ref q1, .ref t1, .ref a1, .ref l1, .ref v1])), (b1, .inl (dB, 8, .inl Bt)), (v1, .inl (dV, 8, .inr (.inl F2)))] := hD
          refine gx_beq (tgt := 44) hx hb dX2_solve_36 (by decide) (fun c_36 => ?_) (fun c_36 => ?_)
          · have hno : ¬ lstd E M V N := ms_2 hM6 h9 hs8 hs0 hst (hq2 c_36)
            refine lv_iinc (v := nI (N + 1)) (lv' := [(1, .int (nI (N + 1))), (0, .ref g0)]) hx hb dX2_solve_44 hl (k := 1) rfl ((nI_succ N).symm) (by decide) rfl (fun ls hl => ?_)
            refine lv_goto (tgt := 7) hx hb dX2_solve_47 (by decide) ?_
            exact ih (N + 1) _ _ _ _ _ _ _ _ _ (by omega) ⟨Nat.succ_pos N, LsM_s hR8 hI.1 hNR hI.2 (li_no (fun q => hno q.2))⟩ (hP.sub [5, 2, 6, 0, 1, 3, 4, 7] rfl) (hD.sub [5, 2, 6, 0, 1, 3, 4, 7] (by decide) rfl) hS (lv_sub hl [1, 0] rfl)
          · obtain ⟨hsg, hF2⟩ := hq1 c_36
            obtain ⟨hlst, hF1⟩ := ms_3 hM6 h9 hs8 hs0 hst hsg
            have hF := ms_F hM6 h9 hs8 hs0 hlst hF1 hF2
            have hn70 := ms_70 hR8 hNR hs0 hI.2 hlst
            refine lv_aload_n hx hb dX2_solve_39 rfl (lv_at hl 0 rfl) ?_
            refine lv_iload_n hx hb dX2_solve_40 rfl (lv_at hl 1 rfl) ?_
            refine gx_jv (wr := [(p1, .inl (dE, 48, .inl E)), (a1, .inl (dA, 48, .inr (.inl K1))), (l1, .inl (dL, 8, .inl Ld1)), (b1, .inl (dB, 8, .inl Bt))]) (gx_rV (As := [.int (nI N)]) (rest := []) C0 (kX2_list l D g0 p1 b1 q1 t1 a1 l1 v1 M R n N dS dR dV U T F2 (sgf E M V N) hn70 hF (fun j hj => by rw [sgf_abs]; exact fvv_abs hM6 h9 N j hj) (by rw [gcv_sg]; exact gcv_ne hM6 h9 hs8 hs0 hlst.1) _) (cwV 1 hts gX2_solve_X2_list rfl rfl rfl (by decide +kernel) ⟨Nat.le_of_ble_eq_true rfl, Nat.le_of_ble_eq_true rfl⟩) hN hK hP hD [5, 0, 1, 7] [2, 3, 6] rfl rfl (by decide) rfl 0 rfl rfl rfl rfl hl.1 rfl (Nat.le_of_ble_eq_true rfl) dX2_solve_41 ⟨Nat.zero_le _, Nat.zero_le _⟩) hP hD hS hA [5, 0, 1, 7] [2, 3, 4, 6] rfl rfl (by decide) (by decide) (fun u H locs hw hP hD hS => ?_)
            obtain ⟨T1, rfl⟩ : ∃ z, z = u := ⟨_, rfl⟩
            have hr9 : rl_I T T1 n (ratv E M V N) 8 := ms_rate hM6 h9 hs8 hs0 hlst hw
            have hP : va_P D vwCl [(p1, .inl (dE, 48, .inl E)), (a1, .inl (dA, 48, .inr (.inl K1))), (l1, .inl (dL, 8, .inl Ld1)), (b1, .inl (dB, 8, .inl Bt)), (g0, .inr (2, [.ref p1, .ref b1, .int (nI M), .int (nI R), .int (nI (n + 1)), .ref q1, .ref t1, .ref a1, .ref l1, .ref v1])), (q1, .inl (dS, 70, .inl (upd U n (nI N)))), (t1, .inl (dR, 560, .inl T1)), (v1, .inl (dV, 8, .inr (.inl F2)))] H := hP
            have hD : va_D A [(p1, .inl (dE, 48, .inl E)), (a1, .inl (dA, 48, .inr (.inl K1))), (l1, .inl (dL, 8, .inl Ld1)), (b1, .inl (dB, 8, .inl Bt)), (g0, .inr (2, [.ref p1, .ref b1, .int (nI M), .int (nI R), .int (nI (n + 1)), .ref q1, .ref t1, .ref a1, .ref l1, .ref v1])), (q1, .inl (dS, 70, .inl (upd U n (nI N)))), (t1, .inl (dR, 560, .inl T1)), (v1, .inl (dV, 8, .inr (.inl F2)))] := hD
            refine lv_iinc (v := nI (N + 1)) (lv' := [(1, .int (nI (N + 1))), (0, .ref g0)]) hx hb dX2_solve_44 hl (k := 1) rfl ((nI_succ N).symm) (by decide) rfl (fun ls hl => ?_)
            refine lv_goto (tgt := 7) hx hb dX2_solve_47 (by decide) ?_
            exact ih (N + 1) _ _ _ _ _ _ _ _ _ (by omega) ⟨Nat.succ_pos N, LsM_s hR8 hI.1 hNR hI.2 (li_yes ⟨ms_70 hR8 hNR hI.1 hI.2 hlst, hlst⟩ hr9)⟩ (hP.sub [4, 0, 3, 5, 6, 1, 2, 7] rfl) (hD.sub [4, 0, 3, 5, 6, 1, 2, 7] (by decide) rfl) hS (lv_sub hl [1, 0] rfl)
set_option maxHeartbeats 4000000 in
set_option maxRecDepth 100000 in
theorem kX2_solve (l : Launch) (D : va_G) (g0 p1 b1 q1 t1 a1 l1 v1 M R n : Nat) (V : Nat) (dE dB dS dR dA dL dV : ClassId) (E Bt U T Ld : Nat → Int32) (K F : Nat → Int64) (hM6 : M ≤ 6) (hR8 : R ≤ 8) (hR1 : 1 ≤ R) (h9 : e9 E) (hB : bts Bt V) : gx_Mi l D yX2_solve wsX2_solve rmX2_solve [.ref g0] [(dE, .int), (dB, .boolean), (dS, .int), (dR, .int), (dA, .long), (dL, .int), (dV, .long)] [(g0, .inr (2, [.ref p1, .ref b1, .int (nI M), .int (nI R), .int (nI n), .ref q1, .ref t1, .ref a1, .ref l1, .ref v1])), (p1, .inl (dE, 48, .inl E)), (b1, .inl (dB, 8, .inl Bt)), (q1, .inl (dS, 70, .inl U)), (t1, .inl (dR, 560, .inl T)), (a1, .inl (dA, 48, .inr (.inl K))), (l1, .inl (dL, 8, .inl Ld)), (v1, .inl (dV, 8, .inr (.inl F)))] (S := Nat × (Nat → Int32) × (Nat → Int32) × (Nat → Int64) × (Nat → Int32) × (Nat → Int64)) (fun r (u : Nat × (Nat → Int32) × (Nat → Int32) × (Nat → Int64) × (Nat → Int32) × (Nat → Int64)) => r = nI u.1 ∧ LsM E M R V 256 u.1 u.2.1 u.2.2.1) (fun (u : Nat × (Nat → Int32) × (Nat → Int32) × (Nat → Int64) × (Nat → Int32) × (Nat → Int64)) => [(g0, .inr (2, [.ref p1, .ref b1, .int (nI M), .int (nI R), .int (nI (u.1)), .ref q1, .ref t1, .ref a1, .ref l1, .ref v1])), (p1, .inl (dE, 48, .inl E)), (b1, .inl (dB, 8, .inl Bt)), (q1, .inl (dS, 70, .inl u.2.1)), (t1, .inl (dR, 560, .inl u.2.2.1)), (a1, .inl (dA, 48, .inr (.inl u.2.2.2.1))), (l1, .inl (dL, 8, .inl u.2.2.2.2.1)), (v1, .inl (dV, 8, .inr (.inl u.2.2.2.2.2)))]) := by
  intro sz
  refine gx_start (cc := cX2_solve) (maxL := 2) (ret := (some .int)) (Qc := fun A => va_Qi (fun r (u : Nat × (Nat → Int32) × (Nat → Int32) × (Nat → Int64) × (Nat → Int32) × (Nat → Int64)) => r = nI u.1 ∧ LsM E M R V 256 u.1 u.2.1 u.2.2.1) (gx_B D [(dE, .int), (dB, .boolean), (dS, .int), (dR, .int), (dA, .long), (dL, .int), (dV, .long)] A (fun (u : Nat × (Nat → Int32) × (Nat → Int32) × (Nat → Int64) × (Nat → Int32) × (Nat → Int64)) => [(g0, .inr (2, [.ref p1, .ref b1, .int (nI M), .int (nI R), .int (nI (u.1)), .ref q1, .ref t1, .ref a1, .ref l1, .ref v1])), (p1, .inl (dE, 48, .inl E)), (b1, .inl (dB, 8, .inl Bt)), (q1, .inl (dS, 70, .inl u.2.1)), (t1, .inl (dR, 560, .inl u.2.2.1)), (a1, .inl (dA, 48, .inr (.inl u.2.2.2.1))), (l1, .inl (dL, 8, .inl u.2.2.2.2.1)), (v1, .inl (dV, 8, .inr (.inl u.2.2.2.2.2)))])) A) (by decide) rfl (Nat.le_of_ble_eq_true rfl) ?_ sz
  intro p e s m below meth c A hbody ls hl
  obtain ⟨C0, hr, hlocks, hN, hK, hP, hD, hA⟩ := hbody
  have C0 : CallFix p m c cX2_solve 2 s ([.ref g0] : List Value).toArray wsX2_solve RX2 := C0
  obtain ⟨hx, hb, hml, hown, hts⟩ := id C0
  have hS : va_S A s.heap s.heap [] := va_S.rf
  have hl : lv_has ls 2 [(0, .ref g0)] := hl
  refine lv_aload_n hx hb dX2_solve_0 rfl (lv_at hl 0 rfl) ?_
  refine lv_iconst (v := nI 0) hx hb dX2_solve_1 (by decide) ?_
  refine va_put (D := D) (ci := 2) (v := .int (nI 0)) (ty := .int) (C := RX2) (T := TX2) (N := 10) hx hb hts iw_X2_solve_X2 tyX2 tyX2_ok nmX2 hown hK hP hD hS 0 rfl rfl 4 (by decide) (hts _ kw_X2_solve_40) (fun _ h9 => h9) rfl (by decide +kernel) rfl rfl (Nat.le_of_ble_eq_true rfl) dX2_solve_2 (fun H locs hP hD hS => ?_)
  have hP : va_P D vwCl [(g0, .inr (2, [.ref p1, .ref b1, .int (nI M), .int (nI R), .int (nI 0), .ref q1, .ref t1, .ref a1, .ref l1, .ref v1])), (p1, .inl (dE, 48, .inl E)), (b1, .inl (dB, 8, .inl Bt)), (q1, .inl (dS, 70, .inl U)), (t1, .inl (dR, 560, .inl T)), (a1, .inl (dA, 48, .inr (.inl K))), (l1, .inl (dL, 8, .inl Ld)), (v1, .inl (dV, 8, .inr (.inl F)))] H := hP
  have hD : va_D A [(g0, .inr (2, [.ref p1, .ref b1, .int (nI M), .int (nI R), .int (nI 0), .ref q1, .ref t1, .ref a1, .ref l1, .ref v1])), (p1, .inl (dE, 48, .inl E)), (b1, .inl (dB, 8, .inl Bt)), (q1, .inl (dS, 70, .inl U)), (t1, .inl (dR, 560, .inl T)), (a1, .inl (dA, 48, .inr (.inl K))), (l1, .inl (dL, 8, .inl Ld)), (v1, .inl (dV, 8, .inr (.inl F)))] := hD
  refine lv_iconst (v := nI 1) hx hb dX2_solve_5 (by decide) ?_
  refine lv_istore_n (lv' := [(1, .int (nI 1)), (0, .ref g0)]) hx hb dX2_solve_6 rfl hl (by decide) rfl (fun ls hl => ?_)
  refine lpX2_solve (V := V) C0 hN hA hM6 hR8 hR1 h9 hB hK (fun n1 U1 T1 K1 Ld1 F1 H locs ls hI hP hD hS hl => ?_) 257 1 0 U T K Ld F _ _ _ (by omega) ⟨Nat.zero_lt_one, LsM_0 E M R V U T⟩ (hP.sub [0, 1, 2, 3, 4, 5, 6, 7] rfl) (hD.sub [0, 1, 2, 3, 4, 5, 6, 7] (by decide) rfl) hS (lv_sub hl [1, 0] rfl)
  refine lv_aload_n hx hb dX2_solve_50 rfl (lv_at hl 0 rfl) ?_
  refine va_get (D := D) (ci := 2) (v := .int (nI n1)) (C := RX2) (T := TX2) (N := 10) hx hb hts iw_X2_solve_X2 hown hK hP 0 rfl rfl 4 (by decide) (hts _ kw_X2_solve_40) (fun _ h9 => h9) rfl dX2_solve_51 ?_
  exact gx_reti hx hb hr hlocks (n1, U1, T1, K1, Ld1, F1) (⟨rfl, hI⟩) hK (hP.sub [0, 1, 2, 3, 4, 5, 6, 7] rfl) (hD.sub [0, 1, 2, 3, 4, 5, 6, 7] (by decide) rfl) hS dX2_solve_54
end
