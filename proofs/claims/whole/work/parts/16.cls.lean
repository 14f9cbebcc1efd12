/-! bits of sets -/
theorem nx_and (a b : Nat) : nI a &&& nI b = nI (a &&& b) := by
  apply Int32.toBitVec_inj.1
  show BitVec.ofNat 32 a &&& BitVec.ofNat 32 b = BitVec.ofNat 32 (a &&& b)
  apply BitVec.eq_of_getLsbD_eq
  intro i hi
  simp [hi]
theorem nx_or (a b : Nat) : nI a ||| nI b = nI (a ||| b) := by
  apply Int32.toBitVec_inj.1
  show BitVec.ofNat 32 a ||| BitVec.ofNat 32 b = BitVec.ofNat 32 (a ||| b)
  apply BitVec.eq_of_getLsbD_eq
  intro i hi
  simp [hi]
theorem bit_hi {a i : Nat} (ha : a < 256) (hi : ¬ i < 8) : a.testBit i = false := Nat.testBit_lt_two_pow (Nat.lt_of_lt_of_le ha (Nat.pow_le_pow_right (n := 2) (by decide) (show 8 ≤ i by omega)))
theorem bit_255 : ∀ i, i < 8 → Nat.testBit 255 i = true := by decide
theorem nx_andn {a b : Nat} (ha : a < 256) : nI a &&& (nI b ^^^ (-1)) = nI (a &&& (255 ^^^ b)) := by
  apply Int32.toBitVec_inj.1
  have h1 : (-1 : Int32).toBitVec = BitVec.allOnes 32 := by decide
  rw [Int32.toBitVec_and, Int32.toBitVec_xor, h1]
  show BitVec.ofNat 32 a &&& (BitVec.ofNat 32 b ^^^ BitVec.allOnes 32) = BitVec.ofNat 32 (a &&& (255 ^^^ b))
  apply BitVec.eq_of_getLsbD_eq
  intro i hi
  rw [BitVec.getLsbD_and, BitVec.getLsbD_xor, BitVec.getLsbD_ofNat, BitVec.getLsbD_ofNat, BitVec.getLsbD_ofNat, BitVec.getLsbD_allOnes, Nat.testBit_and, Nat.testBit_xor, decide_eq_true hi]
  by_cases h8 : i < 8
  · rw [bit_255 i h8]
    cases a.testBit i <;> cases b.testBit i <;> rfl
  · rw [bit_hi ha h8]
    rfl
theorem nx_shl1 : ∀ j, j < 9 → nI 1 <<< (nI j &&& 31) = nI (2 ^ j) := by decide +kernel
theorem nx_least : ∀ S, S < 256 → 0 < S → nI S &&& (-(nI S)) = nI (2 ^ mx_nth S 0) := by
  have h : (List.range 256).all (fun S => !(decide (0 < S)) || (nI S &&& (-(nI S)) == nI (2 ^ mx_nth S 0))) = true := by decide +kernel
  intro S hS h0
  have h1 := List.all_eq_true.mp h S (List.mem_range.mpr hS)
  rw [decide_eq_true h0] at h1
  simpa using h1
theorem z8 {x : Nat} (hx : x < 256) : nI x = 0 ↔ ∀ i, i < 8 → x.testBit i = false := by
  rw [← nI_0, nI_eq (by omega) (by omega)]
  constructor
  · intro h i _
    rw [h]
    exact Nat.zero_testBit i
  · intro h
    refine Nat.eq_of_testBit_eq (fun i => ?_)
    rw [Nat.zero_testBit]
    by_cases h8 : i < 8
    · exact h i h8
    · exact bit_hi hx h8
theorem and_lt {a b : Nat} (ha : a < 256) : a &&& b < 256 := Nat.lt_of_le_of_lt Nat.and_le_left ha
def al8 (q : Nat → Bool) : Bool := (List.range 8).all q
theorem al8_t {q : Nat → Bool} : al8 q = true ↔ ∀ j, j < 8 → q j = true := by
  unfold al8
  rw [List.all_eq_true]
  exact ⟨fun h j hj => h j (List.mem_range.mpr hj), fun h j hj => h j (List.mem_range.mp hj)⟩
theorem al8_n {q : Nat → Bool} (h : ¬ ∀ j, j < 8 → q j = true) : al8 q = false := by
  cases h1 : al8 q with
  | false => rfl
  | true => exact absurd (al8_t.mp h1) h
/-- which way a flow may be listed; P j: its rate is positive -/
def dirS (S V : Nat) (P : Nat → Bool) : Int32 := if al8 (fun j => !(S.testBit j) || V.testBit j) = true then (if P (mx_nth S 0) = true then 1 else -1) else if al8 (fun j => !(S.testBit j && !V.testBit j) || P j) = true then 1 else if al8 (fun j => !(S.testBit j && !V.testBit j) || !P j) = true then -1 else 0
def fwm (P : Nat → Bool) : Nat → Nat
  | 0 => 0
  | j + 1 => if P j = true then fwm P j ||| 2 ^ j else fwm P j
theorem fwm_in {P : Nat → Bool} {j : Nat} (h : P j = true) : fwm P (j + 1) = fwm P j ||| 2 ^ j := if_pos h
theorem fwm_out {P : Nat → Bool} {j : Nat} (h : P j = false) : fwm P (j + 1) = fwm P j := if_neg (by rw [h]; decide)
theorem fwm_lt (P : Nat → Bool) : ∀ {j : Nat}, j ≤ 8 → fwm P j < 256
  | 0, _ => (by decide : 0 < 256)
  | j + 1, h => by
    have h1 := fwm_lt P (j := j) (by omega)
    cases hp : P j with
    | true =>
      rw [fwm_in hp]
      exact Nat.or_lt_two_pow (n := 8) h1 (Nat.pow_lt_pow_right (by decide) (by omega))
    | false => rw [fwm_out hp]; exact h1
theorem fwm_bit (P : Nat → Bool) (i : Nat) : ∀ j, (fwm P j).testBit i = (decide (i < j) && P i)
  | 0 => by show Nat.testBit 0 i = _; simp
  | j + 1 => by
    cases hp : P j with
    | true =>
      rw [fwm_in hp, Nat.testBit_or, fwm_bit P i j, Nat.testBit_two_pow]
      by_cases h : i = j
      · subst h; simp [hp]
      · have h2 : ¬ j = i := fun q => h q.symm
        by_cases h3 : i < j
        · simp [h2, h3, show i < j + 1 by omega]
        · simp [h2, h3, show ¬ i < j + 1 by omega]
    | false =>
      rw [fwm_out hp, fwm_bit P i j]
      by_cases h : i = j
      · subst h; simp [hp]
      · by_cases h3 : i < j
        · simp [h3, show i < j + 1 by omega]
        · simp [h3, show ¬ i < j + 1 by omega]
theorem fwm_8 (P : Nat → Bool) {i : Nat} (h : i < 8) : (fwm P 8).testBit i = P i := by rw [fwm_bit, decide_eq_true h]; rfl
theorem andn_bit {S V i : Nat} (h : i < 8) : (S &&& (255 ^^^ V)).testBit i = (S.testBit i && !V.testBit i) := by
  rw [Nat.testBit_and, Nat.testBit_xor, bit_255 i h]
  cases V.testBit i <;> rfl
theorem ow_z {S V : Nat} (hS : S < 256) : nI (S &&& (255 ^^^ V)) = 0 ↔ al8 (fun j => !(S.testBit j) || V.testBit j) = true := by
  rw [z8 (and_lt hS), al8_t]
  constructor
  · intro h j hj
    have h1 := h j hj
    rw [andn_bit hj] at h1
    cases hs : S.testBit j <;> cases hv : V.testBit j <;> simp_all
  · intro h j hj
    have h1 := h j hj
    rw [andn_bit hj]
    cases hs : S.testBit j <;> cases hv : V.testBit j <;> simp_all
theorem ob_z {S V : Nat} {P : Nat → Bool} (hS : S < 256) : nI ((S &&& (255 ^^^ V)) &&& (S &&& (255 ^^^ fwm P 8))) = 0 ↔ al8 (fun j => !(S.testBit j && !V.testBit j) || P j) = true := by
  rw [z8 (and_lt (and_lt hS)), al8_t]
  constructor
  · intro h j hj
    have h1 := h j hj
    rw [Nat.testBit_and, andn_bit hj, andn_bit hj, fwm_8 P hj] at h1
    cases hs : S.testBit j <;> cases hv : V.testBit j <;> cases hp : P j <;> simp_all
  · intro h j hj
    have h1 := h j hj
    rw [Nat.testBit_and, andn_bit hj, andn_bit hj, fwm_8 P hj]
    cases hs : S.testBit j <;> cases hv : V.testBit j <;> cases hp : P j <;> simp_all
theorem of_z {S V : Nat} {P : Nat → Bool} (hS : S < 256) : nI ((S &&& (255 ^^^ V)) &&& fwm P 8) = 0 ↔ al8 (fun j => !(S.testBit j && !V.testBit j) || !P j) = true := by
  rw [z8 (and_lt (and_lt hS)), al8_t]
  constructor
  · intro h j hj
    have h1 := h j hj
    rw [Nat.testBit_and, andn_bit hj, fwm_8 P hj] at h1
    cases hs : S.testBit j <;> cases hv : V.testBit j <;> cases hp : P j <;> simp_all
  · intro h j hj
    have h1 := h j hj
    rw [Nat.testBit_and, andn_bit hj, fwm_8 P hj]
    cases hs : S.testBit j <;> cases hv : V.testBit j <;> cases hp : P j <;> simp_all
theorem nz_cnt : ∀ S, S < 256 → 0 < S → 0 < mx_cnt S 8 := by
  have h : (List.range 256).all (fun S => !(decide (0 < S)) || decide (0 < mx_cnt S 8)) = true := by decide +kernel
  intro S hS h0
  have h1 := List.all_eq_true.mp h S (List.mem_range.mpr hS)
  rw [decide_eq_true h0] at h1
  simpa using h1
theorem fl_z {S : Nat} {P : Nat → Bool} (hS : S < 256) (h0 : 0 < S) : nI (fwm P 8 &&& 2 ^ mx_nth S 0) = 0 ↔ P (mx_nth S 0) = false := by
  have hn := (mx_nth_in (S := S) (t := 0) (nz_cnt S hS h0)).1
  rw [z8 (and_lt (fwm_lt P (Nat.le_refl 8)))]
  constructor
  · intro h
    have h1 := h _ hn
    rw [Nat.testBit_and, fwm_8 P hn, Nat.testBit_two_pow] at h1
    simpa using h1
  · intro h i hi
    rw [Nat.testBit_and, fwm_8 P hi, Nat.testBit_two_pow]
    by_cases hx : mx_nth S 0 = i
    · rw [← hx, h]; rfl
    · simp [hx]
theorem dir_1 {S V : Nat} {P : Nat → Bool} (hS : S < 256) (h0 : 0 < S) (h1 : nI (S &&& (255 ^^^ V)) = 0) (h2 : ¬ nI (fwm P 8 &&& 2 ^ mx_nth S 0) = 0) : 1 = dirS S V P := by
  unfold dirS
  rw [if_pos ((ow_z hS).mp h1), if_pos]
  cases hp : P (mx_nth S 0) with
  | true => rfl
  | false => exact absurd ((fl_z hS h0).mpr hp) h2
theorem dir_2 {S V : Nat} {P : Nat → Bool} (hS : S < 256) (h0 : 0 < S) (h1 : nI (S &&& (255 ^^^ V)) = 0) (h2 : nI (fwm P 8 &&& 2 ^ mx_nth S 0) = 0) : -1 = dirS S V P := by
  unfold dirS
  rw [if_pos ((ow_z hS).mp h1), if_neg (by rw [(fl_z hS h0).mp h2]; decide)]
theorem dir_3 {S V : Nat} {P : Nat → Bool} (hS : S < 256) (h1 : ¬ nI (S &&& (255 ^^^ V)) = 0) (h2 : nI ((S &&& (255 ^^^ V)) &&& (S &&& (255 ^^^ fwm P 8))) = 0) : 1 = dirS S V P := by
  unfold dirS
  rw [if_neg (fun q => h1 ((ow_z hS).mpr q)), if_pos ((ob_z hS).mp h2)]
theorem dir_4 {S V : Nat} {P : Nat → Bool} (hS : S < 256) (h1 : ¬ nI (S &&& (255 ^^^ V)) = 0) (h2 : ¬ nI ((S &&& (255 ^^^ V)) &&& (S &&& (255 ^^^ fwm P 8))) = 0) (h3 : nI ((S &&& (255 ^^^ V)) &&& fwm P 8) = 0) : -1 = dirS S V P := by
  unfold dirS
  rw [if_neg (fun q => h1 ((ow_z hS).mpr q)), if_neg (fun q => h2 ((ob_z hS).mpr q)), if_pos ((of_z hS).mp h3)]
theorem dir_5 {S V : Nat} {P : Nat → Bool} (hS : S < 256) (h1 : ¬ nI (S &&& (255 ^^^ V)) = 0) (h2 : ¬ nI ((S &&& (255 ^^^ V)) &&& (S &&& (255 ^^^ fwm P 8))) = 0) (h3 : ¬ nI ((S &&& (255 ^^^ V)) &&& fwm P 8) = 0) : 0 = dirS S V P := by
  unfold dirS
  rw [if_neg (fun q => h1 ((ow_z hS).mpr q)), if_neg (fun q => h2 ((ob_z hS).mpr q)), if_neg (fun q => h3 ((of_z hS).mpr q))]
theorem dir_pm (S V : Nat) (P : Nat → Bool) : dirS S V P = 1 ∨ dirS S V P = -1 ∨ dirS S V P = 0 := by
  unfold dirS
  split
  · split
    · exact Or.inl rfl
    · exact Or.inr (Or.inl rfl)
  · split
    · exact Or.inl rfl
    · split
      · exact Or.inr (Or.inl rfl)
      · exact Or.inr (Or.inr rfl)
/-! the columns of a set, loaded -/
def lc_I (E : Nat → Int32) (S j M : Nat) (K : Nat → Int64) : Prop := ∀ q, q < mx_cnt S j → ∀ r, r < M → K (r * 8 + q) = (E (r * 8 + mx_nth S q)).toInt64
theorem lc_0 (E : Nat → Int32) (S M : Nat) (K : Nat → Int64) : lc_I E S 0 M K := fun q h => absurd h (Nat.not_lt_zero q)
theorem lc_in {E : Nat → Int32} {S j M : Nat} {K K' : Nat → Int64} (hj : j < 8) (hb : S.testBit j = true) (h : lc_I E S j M K) (h2 : ac_I K K' E (mx_cnt S j) j M) : lc_I E S (j + 1) M K' := by
  intro q hq r hr
  rw [mx_cnt_in hb] at hq
  have hle := mx_cnt_le S j
  by_cases hqc : q = mx_cnt S j
  · subst hqc
    rw [mx_nth_cnt hb hj]
    exact h2.1 r hr
  · rw [h2.2 r q (by omega) hqc]
    exact h q (by omega) r hr
theorem lc_out {E : Nat → Int32} {S j M : Nat} {K : Nat → Int64} (hb : S.testBit j = false) (h : lc_I E S j M K) : lc_I E S (j + 1) M K := by
  intro q hq
  rw [mx_cnt_out hb] at hq
  exact h q hq
/-- a column of the network -/
def mx_col (E : Nat → Int32) (j : Nat) : Nat → Int := fun s => if s < 6 ∧ j < 8 then (E (s * 8 + j)).toInt else 0
def fc (E : Nat → Int32) (S : Nat) : Nat → Nat → Int := fun t => mx_col E (mx_nth S t)
def e9 (E : Nat → Int32) : Prop := ∀ q, q < 48 → (E q).toInt.natAbs ≤ 9
theorem fc_9 {E : Nat → Int32} (h : e9 E) (S : Nat) : ∀ t s, (fc E S t s).natAbs ≤ 9 := by
  intro t s
  unfold fc mx_col
  split
  · exact h _ (by omega)
  · decide
theorem fc_K {E : Nat → Int32} {S M : Nat} {K : Nat → Int64} (hM : M ≤ 6) (h : lc_I E S 8 M K) : ∀ r q, r < M → q < mx_cnt S 8 → K (r * 8 + q) = Int64.ofInt (fc E S q r) := by
  intro r q hr hq
  rw [h q hq r hr]
  unfold fc mx_col
  rw [if_pos ⟨by omega, (mx_nth_in hq).1⟩, Int64.ofInt_int32ToInt]
/-- bits of S lie below R -/
theorem cnt_hi {S R : Nat} (hS : S < 2 ^ R) : ∀ {j : Nat}, R ≤ j → mx_cnt S j = mx_cnt S R := by
  intro j hj
  induction j with
  | zero => rw [Nat.le_zero.mp hj]
  | succ j ih =>
    rcases Nat.lt_or_ge j R with h | h
    · rw [show j + 1 = R by omega]
    · rw [mx_cnt_out (Nat.testBit_lt_two_pow (Nat.lt_of_lt_of_le hS (Nat.pow_le_pow_right (by decide) h))), ih h]
/-! the flow, read -/
def fa (K : Nat → Int64) (pv : Int64) (w T t : Nat) : Int64 := if t < T - 1 ∧ t < w then -K (t * 8 + (T - 1)) else pv
def fs_I (S : Nat) (G : Nat → Int64) (F : Nat → Int64) (j : Nat) : Prop := ∀ i, i < j → F i = if S.testBit i = true then G (mx_cnt S i) else 0
theorem fs_0 (S : Nat) (G F : Nat → Int64) : fs_I S G F 0 := fun i h => absurd h (Nat.not_lt_zero i)
theorem fs_in {S : Nat} {G F : Nat → Int64} {j : Nat} (hb : S.testBit j = true) (h : fs_I S G F j) : fs_I S G (vp_updL F j (G (mx_cnt S j))) (j + 1) := by
  intro i hi
  by_cases hij : i = j
  · subst hij; rw [updL_at, if_pos hb]
  · rw [updL_ne hij]; exact h i (by omega)
theorem fs_out {S : Nat} {G F : Nat → Int64} {j : Nat} (hb : S.testBit j = false) (h : fs_I S G F j) : fs_I S G (vp_updL F j 0) (j + 1) := by
  intro i hi
  by_cases hij : i = j
  · subst hij; rw [updL_at, if_neg (by rw [hb]; decide)]
  · rw [updL_ne hij]; exact h i (by omega)
/-! greatest common divisors -/
theorem lN_ofInt (n : Nat) : lN n = Int64.ofInt (n : Int) := Int64.ofInt_eq_ofNat.symm
theorem ab_n {g : Nat} (hg : g ≤ 382637520) : (if 0 < lN g then lN g else -lN g) = lN g := by
  rw [lN_ofInt]
  by_cases h : 0 < Int64.ofInt (g : Int)
  · rw [if_pos h]
  · rw [if_neg h]
    have h1 : ¬ 0 < (g : Int) := fun q => h ((l64_pos (by omega)).mpr q)
    rw [show (g : Int) = 0 by omega]
    decide
theorem ab_x {x : Int} (hx : x.natAbs ≤ 382637520) : (if 0 < Int64.ofInt x then Int64.ofInt x else -Int64.ofInt x) = lN x.natAbs := by
  rw [lN_ofInt]
  by_cases h : 0 < Int64.ofInt x
  · rw [if_pos h]
    have h1 := (l64_pos hx).mp h
    rw [show ((x.natAbs : Nat) : Int) = x by omega]
  · rw [if_neg h, ← Int64.ofInt_neg]
    have h1 : ¬ 0 < x := fun q => h ((l64_pos hx).mpr q)
    rw [show ((x.natAbs : Nat) : Int) = -x by omega]
def cd_I (G i g r : Nat) : Prop := Nat.gcd g r = G ∧ g ≤ 382637520 ∧ r ≤ 382637520 ∧ (i = 0 ∨ (r ≤ g ∧ g * r * 2 ^ (i - 1) < 2 ^ 60))
theorem cd_s {G i g r : Nat} (hr : r ≠ 0) (h : cd_I G i g r) : cd_I G (i + 1) r (g % r) := by
  obtain ⟨h1, h2, h3, h4⟩ := h
  have hlt : g % r < r := Nat.mod_lt g (by omega)
  refine ⟨?_, h3, by omega, Or.inr ⟨by omega, ?_⟩⟩
  · rw [← h1, Nat.gcd_comm g r, Nat.gcd_rec r g, Nat.gcd_comm]
  · show r * (g % r) * 2 ^ i < 2 ^ 60
    rcases h4 with h4 | ⟨h4, h5⟩
    · subst h4
      have h6 : r * (g % r) ≤ 382637520 * 382637520 := Nat.mul_le_mul h3 (by omega)
      rw [Nat.pow_zero, Nat.mul_one]
      omega
    · rcases Nat.eq_zero_or_pos i with hi | hi
      · subst hi
        have h6 : r * (g % r) ≤ 382637520 * 382637520 := Nat.mul_le_mul h3 (by omega)
        rw [Nat.pow_zero, Nat.mul_one]
        omega
      · have h7 : 2 * (g % r) ≤ g := by
          have h8 := Nat.div_add_mod g r
          have h9 : 1 ≤ g / r := (Nat.le_div_iff_mul_le (by omega)).mpr (by omega)
          have h10 : r * 1 ≤ r * (g / r) := Nat.mul_le_mul_left r h9
          omega
        have h11 : r * (g % r) * 2 ^ i ≤ g * r * 2 ^ (i - 1) := by
          rw [show 2 ^ i = 2 * 2 ^ (i - 1) by rw [← Nat.pow_succ', show (i - 1).succ = i by omega], ← Nat.mul_assoc, show r * (g % r) * 2 = r * (2 * (g % r)) by rw [Nat.mul_assoc, Nat.mul_comm (g % r) 2], Nat.mul_comm g r]
          exact Nat.mul_le_mul_right _ (Nat.mul_le_mul_left r h7)
        omega
theorem cd_end {G i g r : Nat} (hi : 100 ≤ i) (h : cd_I G i g r) : r = 0 := by
  obtain ⟨h1, h2, h3, h4⟩ := h
  rcases h4 with h4 | ⟨h4, h5⟩
  · omega
  · rcases Nat.eq_zero_or_pos r with h6 | h6
    · exact h6
    · exfalso
      have h7 : 1 * 2 ^ 99 ≤ g * r * 2 ^ (i - 1) := Nat.mul_le_mul (Nat.mul_pos (by omega) h6) (Nat.pow_le_pow_right (by decide) (by omega))
      have h8 : (2 : Nat) ^ 60 ≤ 1 * 2 ^ 99 := by decide
      omega
def gdv (x : Nat → Nat) : Nat → Nat
  | 0 => 0
  | j + 1 => Nat.gcd (gdv x j) (x j)
theorem gdv_le {x : Nat → Nat} {B : Nat} (h : ∀ j, j < 8 → x j ≤ B) : ∀ {j : Nat}, j ≤ 8 → gdv x j ≤ B
  | 0, _ => Nat.zero_le B
  | j + 1, hj => by
    show Nat.gcd (gdv x j) (x j) ≤ B
    have h1 := gdv_le h (j := j) (by omega)
    rcases Nat.eq_zero_or_pos (gdv x j) with h2 | h2
    · rw [h2, Nat.gcd_zero_left]; exact h j (by omega)
    · exact Nat.le_trans (Nat.gcd_le_left _ h2) h1
/-! a mode's rates, laid behind the others -/
def rtv (d : Int32) (f : Int) (G : Nat) : Int32 := (d.toInt64 * qt (Int64.ofInt f) (lN G)).toInt32
theorem upd_at (f : Nat → Int32) (k : Nat) (x : Int32) : upd f k x k = x := if_pos rfl
theorem upd_ne {f : Nat → Int32} {k j : Nat} {x : Int32} (h : j ≠ k) : upd f k x j = f j := if_neg h
def rl_I (T0 T : Nat → Int32) (n : Nat) (v : Nat → Int32) (i : Nat) : Prop := (∀ j, j < i → T (n * 8 + j) = v j) ∧ ∀ k j, j < 8 → k ≠ n → T (k * 8 + j) = T0 (k * 8 + j)
theorem rl_0 (T0 : Nat → Int32) (n : Nat) (v : Nat → Int32) : rl_I T0 T0 n v 0 := ⟨fun j h => absurd h (Nat.not_lt_zero j), fun _ _ _ _ => rfl⟩
theorem rl_s {T0 T : Nat → Int32} {n : Nat} {v : Nat → Int32} {i : Nat} (hi : i < 8) (h : rl_I T0 T n v i) : rl_I T0 (upd T (n * 8 + i) (v i)) n v (i + 1) := by
  refine ⟨fun j hj => ?_, fun k j hj hk => ?_⟩
  · by_cases hji : j = i
    · subst hji; exact upd_at _ _ _
    · rw [upd_ne (ix_ne (by omega) hi (Or.inr hji))]; exact h.1 j (by omega)
  · rw [upd_ne (ix_ne hj hi (Or.inl hk))]; exact h.2 k j hj hk
theorem lN_z {r : Nat} (h : r ≤ 382637520) : lN r = 0 ↔ r = 0 := by
  rw [lN_ofInt, l64_zero (by omega)]
  omega
