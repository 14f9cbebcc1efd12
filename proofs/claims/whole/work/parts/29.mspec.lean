/-! the reference's own tests of arguments, its own counts -/
theorem sp_in_ok' {x : Int32} {n : Nat} (hn : n < 2 ^ 31) (h0 : ¬ x < 0) (h : x < nI n) : sp_in x n = true := sp_in_ok hn h0 (Int32.not_le.mpr h)
theorem sp_in_hi' {x : Int32} {n : Nat} (hn : n < 2 ^ 31) (h : ¬ x < nI n) : sp_in x n = false := sp_in_hi hn (Int32.not_lt.mp h)
theorem n32_7 : (nI 7).toInt = 7 := by decide
theorem sp_8_hi {x : Int32} (h : nI 7 < x) : sp_in x 8 = false := by
  rw [Int32.lt_iff_toInt_lt, n32_7] at h
  exact decide_eq_false (by omega)
theorem sp_8_ok {x : Int32} (h0 : ¬ x < 0) (h : ¬ nI 7 < x) : sp_in x 8 = true := by
  rw [Int32.lt_iff_toInt_lt, n32_7] at h
  rw [Int32.lt_iff_toInt_lt, c32_0] at h0
  exact decide_eq_true (by omega)
def bts (Bt : Nat → Int32) (V : Nat) : Prop := ∀ j, j < 8 → Bt j = bI (V.testBit j)
theorem rv_mod : ∀ V, V < 256 → ∀ j, j < 8 → (if V.testBit j = true then V % 2 ^ j + 2 ^ j else V % 2 ^ j) = V % 2 ^ (j + 1) := by
  have h : (List.range 256).all (fun V => (List.range 8).all (fun j => (if V.testBit j = true then V % 2 ^ j + 2 ^ j else V % 2 ^ j) == V % 2 ^ (j + 1))) = true := by decide +kernel
  intro V hV j hj
  have h1 := List.all_eq_true.mp (List.all_eq_true.mp h V (List.mem_range.mpr hV)) j (List.mem_range.mpr hj)
  simpa using h1
theorem rv_mod_t {V j a : Nat} (hV : V < 256) (hj : j < 8) (h : V.testBit j = true) (ha : a = V % 2 ^ j) : a + 2 ^ j = V % 2 ^ (j + 1) := by
  have h1 := rv_mod V hV j hj
  rw [if_pos h] at h1
  rw [ha]; exact h1
theorem rv_mod_f {V j a : Nat} (hV : V < 256) (hj : j < 8) (h : V.testBit j = false) (ha : a = V % 2 ^ j) : a = V % 2 ^ (j + 1) := by
  have h1 := rv_mod V hV j hj
  rw [if_neg (by rw [h]; decide)] at h1
  rw [ha]; exact h1
theorem fz_s {E : Nat → Int32} {v : Int32} {i : Nat} (h : ∀ q, q < i → E q = v) : ∀ q, q < i + 1 → upd E i v q = v := by
  intro q hq
  by_cases hqi : q = i
  · rw [hqi]; exact upd_at _ _ _
  · rw [upd_ne hqi]; exact h q (by omega)
def rvl (T : Nat → Int32) (x : Int32) (k : Nat) : Int32 := if sp_in x 8 = true then T (k * 8 + x.toNatClampNeg) else 0
theorem rvl_eq {T : Nat → Int32} {x : Int32} {n k : Nat} (hn : n ≤ 70) (hk : k < n) : (if (sp_in (nI k) n && sp_in x 8) = true then T (ixx (nI k) x) else 0) = rvl T x k := by
  unfold rvl ixx
  rw [sp_in_nI (by omega), decide_eq_true hk, nI_clamp (by omega)]
  rfl
def ruv (T : Nat → Int32) (x how : Int32) : Nat → Bool := fun k => sp_runs (rvl T x k) how
theorem mx_count_congr {q q' : Nat → Bool} : ∀ {n : Nat}, (∀ k, k < n → q k = q' k) → mx_count q n = mx_count q' n
  | 0, _ => rfl
  | n + 1, h => by rw [mx_count_s, mx_count_s, mx_count_congr (n := n) (fun k hk => h k (by omega)), h n (by omega)]
theorem mx_count_no {q : Nat → Bool} : ∀ {n : Nat}, (∀ k, k < n → q k = false) → mx_count q n = 0
  | 0, _ => rfl
  | n + 1, h => by rw [mx_count_out (by rw [h n (by omega)]; decide), mx_count_no (n := n) (fun k hk => h k (by omega))]
theorem ruv_eq {T : Nat → Int32} {x how : Int32} (n : Nat) : nI (mx_count (ruv T x how) n) = if sp_in x 8 = true then nI (mx_count (ruq T x.toNatClampNeg how) n) else 0 := by
  cases h : sp_in x 8 with
  | true =>
    rw [if_pos rfl, mx_count_congr (q' := ruq T x.toNatClampNeg how) (fun k _ => by unfold ruv ruq rvl; rw [if_pos h])]
  | false =>
    rw [if_neg (by decide), mx_count_no (fun k _ => by
      have e : rvl T x k = 0 := if_neg (by rw [h]; decide)
      unfold ruv sp_runs
      rw [e]
      split
      · decide
      · split <;> decide)]
    exact nI_0
theorem ru_1 {x y : Int32} (h : y = 1) (h2 : x ≤ 0) : sp_runs x y = false := by unfold sp_runs; rw [if_pos h]; exact decide_eq_false (by rw [Int32.not_lt]; exact h2)
theorem ru_2 {x y : Int32} (h : y = 1) (h2 : ¬ x ≤ 0) : sp_runs x y = true := by unfold sp_runs; rw [if_pos h]; exact decide_eq_true (by rw [← Int32.not_le]; exact h2)
theorem ru_3 {x y : Int32} (h : ¬ y = 1) (h1 : y = -1) (h2 : 0 ≤ x) : sp_runs x y = false := by unfold sp_runs; rw [if_neg h, if_pos h1]; exact decide_eq_false (by rw [Int32.not_lt]; exact h2)
theorem ru_4 {x y : Int32} (h : ¬ y = 1) (h1 : y = -1) (h2 : ¬ 0 ≤ x) : sp_runs x y = true := by unfold sp_runs; rw [if_neg h, if_pos h1]; exact decide_eq_true (by rw [← Int32.not_le]; exact h2)
theorem ru_5 {x y : Int32} (h : ¬ y = 1) (h1 : ¬ y = -1) (h2 : x = 0) : sp_runs x y = false := by unfold sp_runs; rw [if_neg h, if_neg h1]; exact decide_eq_false (fun q => q h2)
theorem ru_6 {x y : Int32} (h : ¬ y = 1) (h1 : ¬ y = -1) (h2 : ¬ x = 0) : sp_runs x y = true := by unfold sp_runs; rw [if_neg h, if_neg h1]; exact decide_eq_true h2
theorem cnt_bI (s i : Nat) : nI (mx_cnt s i) + bI (s.testBit i) = nI (mx_cnt s (i + 1)) := by
  cases h : s.testBit i with
  | true => rw [mx_cnt_in h]; exact (nI_succ _).symm
  | false =>
    rw [mx_cnt_out h]
    show nI _ + 0 = _
    exact Int32.add_zero _
theorem shs_1 {sf : Nat → Nat} {j k : Nat} (h : (sf k).testBit j = true) (h0 : shs sf j k = 0 ∨ mx_cnt (sf k) 8 < shs sf j k) : mx_cnt (sf k) 8 = shs sf j (k + 1) := by
  show _ = (if _ then _ else _)
  rw [if_pos h, if_pos h0]
theorem shs_2 {sf : Nat → Nat} {j k : Nat} (h : (sf k).testBit j = true) (h0 : ¬ (shs sf j k = 0 ∨ mx_cnt (sf k) 8 < shs sf j k)) : shs sf j k = shs sf j (k + 1) := by
  show _ = (if _ then _ else _)
  rw [if_pos h, if_neg h0]
