/-! the cells of the elimination: what each step does to them -/
def qt (v d : Int64) : Int64 := if d = 0 then 0 else v / d
theorem updL_at (f : Nat → Int64) (k : Nat) (x : Int64) : vp_updL f k x k = x := if_pos rfl
theorem updL_ne {f : Nat → Int64} {k j : Nat} {x : Int64} (h : j ≠ k) : vp_updL f k x j = f j := if_neg h
theorem ix_ne {r c r' c' : Nat} (hc : c < 8) (hc' : c' < 8) (h : r ≠ r' ∨ c ≠ c') : r * 8 + c ≠ r' * 8 + c' := by omega
def ac_I (K0 K : Nat → Int64) (E : Nat → Int32) (t j i : Nat) : Prop := (∀ r, r < i → K (r * 8 + t) = (E (r * 8 + j)).toInt64) ∧ ∀ r c, c < 8 → c ≠ t → K (r * 8 + c) = K0 (r * 8 + c)
theorem ac_0 (K0 : Nat → Int64) (E : Nat → Int32) (t j : Nat) : ac_I K0 K0 E t j 0 := ⟨fun r h => absurd h (Nat.not_lt_zero r), fun _ _ _ _ => rfl⟩
theorem ac_s {K0 K : Nat → Int64} {E : Nat → Int32} {t j i : Nat} (ht : t < 8) (h : ac_I K0 K E t j i) : ac_I K0 (vp_updL K (i * 8 + t) (E (i * 8 + j)).toInt64) E t j (i + 1) := by
  refine ⟨fun r hr => ?_, fun r c hc hct => ?_⟩
  · by_cases hri : r = i
    · subst hri; exact updL_at _ _ _
    · rw [updL_ne (ix_ne ht ht (Or.inl hri))]; exact h.1 r (by omega)
  · rw [updL_ne (ix_ne hc ht (Or.inr hct))]; exact h.2 r c hc hct
def sw_I (K0 K : Nat → Int64) (a b i : Nat) : Prop := ∀ r c, c < 8 → K (r * 8 + c) = if c < i then K0 (mx_sw a b r * 8 + c) else K0 (r * 8 + c)
theorem sw_0 (K0 : Nat → Int64) (a b : Nat) : sw_I K0 K0 a b 0 := fun r c _ => by rw [if_neg (Nat.not_lt_zero c)]
theorem sw_s {K0 K : Nat → Int64} {a b i : Nat} (hi : i < 8) (h : sw_I K0 K a b i) : sw_I K0 (vp_updL (vp_updL K (a * 8 + i) (K (b * 8 + i))) (b * 8 + i) (K (a * 8 + i))) a b (i + 1) := by
  intro r c hc
  by_cases hci : c = i
  · subst hci
    have e : ∀ r, K (r * 8 + c) = K0 (r * 8 + c) := fun r => by rw [h r c hc, if_neg (Nat.lt_irrefl c)]
    rw [if_pos (Nat.lt_succ_self c)]
    by_cases hrb : r = b
    · subst hrb; rw [updL_at, mx_sw_r, e]
    · rw [updL_ne (ix_ne hc hc (Or.inl hrb))]
      by_cases hra : r = a
      · subst hra; rw [updL_at, mx_sw_l, e]
      · rw [updL_ne (ix_ne hc hc (Or.inl hra)), mx_sw_o hra hrb, e]
  · rw [updL_ne (ix_ne hc hi (Or.inr hci)), updL_ne (ix_ne hc hi (Or.inr hci)), h r c hc]
    by_cases h1 : c < i
    · rw [if_pos h1, if_pos (by omega)]
    · rw [if_neg h1, if_neg (by omega)]
def cr_I (K0 K : Nat → Int64) (row col : Nat) (nx pv : Int64) (i : Nat) : Prop := ∀ r c, c < 8 → K (r * 8 + c) = if r = row ∧ col < c ∧ c < i then qt (nx * K0 (row * 8 + c) - K0 (row * 8 + col) * K0 (col * 8 + c)) pv else K0 (r * 8 + c)
theorem cr_0 (K0 : Nat → Int64) (row col : Nat) (nx pv : Int64) : cr_I K0 K0 row col nx pv (col + 1) := fun r c _ => by rw [if_neg (by omega)]
theorem cr_s {K0 K : Nat → Int64} {row col : Nat} {nx pv : Int64} {i : Nat} (hrc : row ≠ col) (hci : col < i) (hi : i < 8) (h : cr_I K0 K row col nx pv i) : cr_I K0 (vp_updL K (row * 8 + i) (qt (nx * K (row * 8 + i) - K0 (row * 8 + col) * K (col * 8 + i)) pv)) row col nx pv (i + 1) := by
  have e1 : K (row * 8 + i) = K0 (row * 8 + i) := by rw [h row i hi, if_neg (by omega)]
  have e2 : K (col * 8 + i) = K0 (col * 8 + i) := by rw [h col i hi, if_neg (by omega)]
  intro r c hc
  by_cases hx : r = row ∧ c = i
  · obtain ⟨rfl, rfl⟩ := hx
    rw [updL_at, e1, e2, if_pos ⟨rfl, hci, Nat.lt_succ_self c⟩]
  · rw [updL_ne (ix_ne hc hi (by omega)), h r c hc]
    by_cases h1 : r = row ∧ col < c ∧ c < i
    · rw [if_pos h1, if_pos ⟨h1.1, h1.2.1, by omega⟩]
    · rw [if_neg h1, if_neg (by omega)]
/-- all rows but the pivot's, up to row i -/
def cl_I (K1 K : Nat → Int64) (t col : Nat) (pv : Int64) (i : Nat) : Prop := ∀ r c, c < 8 → K (r * 8 + c) = if r < i ∧ r ≠ col ∧ col < c ∧ c < t then qt (K1 (col * 8 + col) * K1 (r * 8 + c) - K1 (r * 8 + col) * K1 (col * 8 + c)) pv else K1 (r * 8 + c)
theorem cl_0 (K1 : Nat → Int64) (t col : Nat) (pv : Int64) : cl_I K1 K1 t col pv 0 := fun r c _ => by rw [if_neg (by omega)]
theorem cl_skip {K1 K : Nat → Int64} {t col : Nat} {pv : Int64} (h : cl_I K1 K t col pv col) : cl_I K1 K t col pv (col + 1) := by
  intro r c hc
  rw [h r c hc]
  by_cases h1 : r < col ∧ r ≠ col ∧ col < c ∧ c < t
  · rw [if_pos h1, if_pos (by omega)]
  · rw [if_neg h1, if_neg (by omega)]
theorem cl_s {K1 K K' : Nat → Int64} {t col : Nat} {pv : Int64} {i : Nat} (hic : i ≠ col) (ht : t ≤ 8) (hct : col < t) (h : cl_I K1 K t col pv i) (h2 : cr_I K K' i col (K1 (col * 8 + col)) pv t) : cl_I K1 K' t col pv (i + 1) := by
  have e1 : ∀ c, c < 8 → K (i * 8 + c) = K1 (i * 8 + c) := fun c hc => by rw [h i c hc, if_neg (by omega)]
  have e2 : ∀ c, c < 8 → K (col * 8 + c) = K1 (col * 8 + c) := fun c hc => by rw [h col c hc, if_neg (by omega)]
  intro r c hc
  rw [h2 r c hc]
  by_cases h1 : r = i ∧ col < c ∧ c < t
  · obtain ⟨rfl, h3, h4⟩ := h1
    rw [if_pos ⟨rfl, h3, h4⟩, if_pos ⟨Nat.lt_succ_self r, hic, h3, h4⟩, e1 c hc, e1 col (by omega), e2 c hc]
  · rw [if_neg h1, h r c hc]
    by_cases h5 : r < i ∧ r ≠ col ∧ col < c ∧ c < t
    · rw [if_pos h5, if_pos (by omega)]
    · rw [if_neg h5, if_neg (by omega)]
/-- what clearing a column says of the columns behind it -/
def cc_ok (w t col : Nat) (pv : Int64) (K K' : Nat → Int64) (pv' : Int64) : Prop := ∃ i, col ≤ i ∧ i < w ∧ K (i * 8 + col) ≠ 0 ∧ (∀ j, col ≤ j → j < i → K (j * 8 + col) = 0) ∧ pv' = K (i * 8 + col) ∧ ∀ r q, r < w → col < q → q < t → K' (r * 8 + q) = if r = col then K (i * 8 + q) else qt (K (i * 8 + col) * K (mx_sw col i r * 8 + q) - K (mx_sw col i r * 8 + col) * K (i * 8 + q)) pv
theorem cc_of {w t col i : Nat} {pv : Int64} {K K1 K' : Nat → Int64} (ht : t ≤ 8) (hct : col < t) (hi : col ≤ i) (hiw : i < w) (hne : K (i * 8 + col) ≠ 0) (hz : ∀ j, col ≤ j → j < i → K (j * 8 + col) = 0) (h1 : sw_I K K1 col i t) (h2 : cl_I K1 K' t col pv w) : cc_ok w t col pv K K' (K1 (col * 8 + col)) := by
  have e : ∀ r c, c < t → K1 (r * 8 + c) = K (mx_sw col i r * 8 + c) := fun r c hc => by rw [h1 r c (by omega), if_pos hc]
  refine ⟨i, hi, hiw, hne, hz, ?_, fun r q hr hq hqt => ?_⟩
  · rw [e col col hct, mx_sw_l]
  · rw [h2 r q (by omega)]
    by_cases hrc : r = col
    · subst hrc
      rw [if_neg (by omega), if_pos rfl, e r q hqt, mx_sw_l]
    · rw [if_pos ⟨hr, hrc, hq, hqt⟩, if_neg hrc, e r q hqt, e r col hct, e col q hqt, e col col hct, mx_sw_l]
theorem sp_max0 {M : Nat} (h : M < 2 ^ 31) : (if nI 0 < nI M then nI M else nI 0) = nI M := by
  by_cases h0 : 0 < M
  · rw [if_pos (nI_lt h0 h)]
  · rw [if_neg (nI_nlt (by omega) (by omega)), show M = 0 by omega]
theorem pr_s {K : Nat → Int64} {col i : Nat} (h : ∀ j, col ≤ j → j < i → K (j * 8 + col) = 0) (hz : K (i * 8 + col) = 0) : ∀ j, col ≤ j → j < i + 1 → K (j * 8 + col) = 0 := by
  intro j h1 h2
  by_cases hj : j = i
  · rw [hj]; exact hz
  · exact h j h1 (by omega)
