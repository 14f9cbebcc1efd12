/-! what the public calls ask of their arguments, and answer -/
def szok (x y : Int32) : Bool := decide (0 ≤ x.toInt ∧ x.toInt ≤ 6 ∧ 1 ≤ y.toInt ∧ y.toInt ≤ 8)
theorem c32_0 : (0 : Int32).toInt = 0 := by decide
theorem n32_6 : (nI 6).toInt = 6 := by decide
theorem n32_1 : (nI 1).toInt = 1 := by decide
theorem n32_8 : (nI 8).toInt = 8 := by decide
theorem sz_1 {x y : Int32} (h : x < 0) : szok x y = false := by
  rw [Int32.lt_iff_toInt_lt, c32_0] at h
  exact decide_eq_false (by omega)
theorem sz_2 {x y : Int32} (h : nI 6 < x) : szok x y = false := by
  rw [Int32.lt_iff_toInt_lt, n32_6] at h
  exact decide_eq_false (by omega)
theorem sz_3 {x y : Int32} (h : y < nI 1) : szok x y = false := by
  rw [Int32.lt_iff_toInt_lt, n32_1] at h
  exact decide_eq_false (by omega)
theorem sz_4 {x y : Int32} (h : ¬ y ≤ nI 8) : szok x y = false := by
  rw [Int32.le_iff_toInt_le, n32_8] at h
  exact decide_eq_false (by omega)
theorem sz_t {x y : Int32} (h1 : ¬ x < 0) (h2 : ¬ nI 6 < x) (h3 : ¬ y < nI 1) (h4 : y ≤ nI 8) : szok x y = true := by
  rw [Int32.lt_iff_toInt_lt, c32_0] at h1
  rw [Int32.lt_iff_toInt_lt, n32_6] at h2
  rw [Int32.lt_iff_toInt_lt, n32_1] at h3
  rw [Int32.le_iff_toInt_le, n32_8] at h4
  exact decide_eq_true (by omega)
theorem sz_of {x y : Int32} (h : szok x y = true) : ∃ a b : Nat, a ≤ 6 ∧ 1 ≤ b ∧ b ≤ 8 ∧ x = nI a ∧ y = nI b := by
  obtain ⟨h1, h2, h3, h4⟩ := of_decide_eq_true h
  refine ⟨x.toInt.toNat, y.toInt.toNat, by omega, by omega, by omega, ?_, ?_⟩
  · exact Int32.toInt_inj.mp (by rw [nI_toInt (by omega)]; omega)
  · exact Int32.toInt_inj.mp (by rw [nI_toInt (by omega)]; omega)
def z9 (z : Int32) : Bool := decide (-9 ≤ z.toInt ∧ z.toInt ≤ 9)
theorem n32_9 : (nI 9).toInt = 9 := by decide
theorem n32_m9 : (-9 : Int32).toInt = -9 := by decide
theorem z9_1 {z : Int32} (h : z < (-9)) : z9 z = false := by
  rw [Int32.lt_iff_toInt_lt, n32_m9] at h
  exact decide_eq_false (by omega)
theorem z9_2 {z : Int32} (h : ¬ z ≤ nI 9) : z9 z = false := by
  rw [Int32.le_iff_toInt_le, n32_9] at h
  exact decide_eq_false (by omega)
theorem z9_t {z : Int32} (h1 : ¬ z < (-9)) (h2 : z ≤ nI 9) : z9 z = true := by
  rw [Int32.lt_iff_toInt_lt, n32_m9] at h1
  rw [Int32.le_iff_toInt_le, n32_9] at h2
  exact decide_eq_true (by omega)
theorem z9_abs {z : Int32} (h : z9 z = true) : z.toInt.natAbs ≤ 9 := by
  have := of_decide_eq_true h
  omega
def ixx (x y : Int32) : Nat := x.toNatClampNeg * 8 + y.toNatClampNeg
theorem ix_ok {x y : Int32} {M R : Nat} (hM : M ≤ 6) (hR : R ≤ 8) (h : (sp_in x M && sp_in y R) = true) : x * nI 8 + y = nI (ixx x y) ∧ nI 8 * x + y = nI (ixx x y) ∧ ixx x y < 48 := by
  rw [Bool.and_eq_true] at h
  obtain ⟨i, hi, rfl⟩ := sp_in_t (by omega) h.1
  obtain ⟨j, hj, rfl⟩ := sp_in_t (by omega) h.2
  unfold ixx
  rw [nI_clamp (by omega), nI_clamp (by omega), pk_mul, pk_mul, nI_add, nI_add, Nat.mul_comm 8 i]
  exact ⟨rfl, rfl, by omega⟩
def enok (x y z : Int32) (M R : Nat) : Bool := (sp_in x M && sp_in y R) && z9 z
def rvs (V R : Nat) (x : Int32) (b : Bool) : Nat := if sp_in x R = true then (if b = true then V ||| 2 ^ x.toNatClampNeg else V &&& (255 ^^^ 2 ^ x.toNatClampNeg)) else V
theorem rvs_lt {V R : Nat} {x : Int32} {b : Bool} (hR : R ≤ 8) (hV : V < 256) : rvs V R x b < 256 := by
  unfold rvs
  split
  · rename_i h
    have h1 := (sp_in_clamp (by omega) h).1
    split
    · exact Nat.or_lt_two_pow (n := 8) hV (Nat.pow_lt_pow_right (by decide) (by omega))
    · exact and_lt hV
  · exact hV
theorem n1_eq : (nI 1 : Int32) = 1 := by decide
theorem rv_bit {R : Nat} {x : Int32} (hR : R ≤ 8) (h : sp_in x R = true) : nI 1 <<< (x &&& 31) = nI (2 ^ x.toNatClampNeg) := by
  obtain ⟨h1, h2⟩ := sp_in_clamp (by omega) h
  have h3 := nx_shl1 x.toNatClampNeg (by omega)
  rw [← h2] at h3
  exact h3
/-- bits counted, as the library counts them -/
def bc1 (x : Int32) : Int32 := x - ((x.toUInt32 >>> ((nI 1).toUInt32 &&& Int32.toUInt32 31)).toInt32 &&& 1431655765)
def bc2 (x : Int32) : Int32 := (x &&& 858993459) + ((x.toUInt32 >>> ((nI 2).toUInt32 &&& Int32.toUInt32 31)).toInt32 &&& 858993459)
def bc3 (x : Int32) : Int32 := (x + (x.toUInt32 >>> ((nI 4).toUInt32 &&& Int32.toUInt32 31)).toInt32) &&& 252645135
def bc4 (x : Int32) : Int32 := x + (x.toUInt32 >>> ((nI 8).toUInt32 &&& Int32.toUInt32 31)).toInt32
def bc5 (x : Int32) : Int32 := x + (x.toUInt32 >>> ((nI 16).toUInt32 &&& Int32.toUInt32 31)).toInt32
theorem bc_ok : ∀ s, s < 256 → (bc5 (bc4 (bc3 (bc2 (bc1 (nI s)))))) &&& nI 63 = nI (mx_cnt s 8) := by
  have h : (List.range 256).all (fun s => (bc5 (bc4 (bc3 (bc2 (bc1 (nI s)))))) &&& nI 63 == nI (mx_cnt s 8)) = true := by decide +kernel
  intro s hs
  have h1 := List.all_eq_true.mp h s (List.mem_range.mpr hs)
  simpa using h1
/-- the shortest of the first k that has j -/
def shs (sf : Nat → Nat) (j : Nat) : Nat → Nat
  | 0 => 0
  | k + 1 => if (sf k).testBit j = true then (if shs sf j k = 0 ∨ mx_cnt (sf k) 8 < shs sf j k then mx_cnt (sf k) 8 else shs sf j k) else shs sf j k
theorem shs_le (sf : Nat → Nat) (j : Nat) : ∀ k, shs sf j k ≤ 8
  | 0 => Nat.zero_le 8
  | k + 1 => by
    have h1 := shs_le sf j k
    have h2 := mx_cnt_le (sf k) 8
    unfold shs
    split
    · split
      · exact h2
      · exact h1
    · exact h1
theorem shs_out {sf : Nat → Nat} {j k : Nat} (h : (sf k).testBit j = false) : shs sf j (k + 1) = shs sf j k := if_neg (by rw [h]; decide)
theorem shs_0 {sf : Nat → Nat} {j k : Nat} (h : (sf k).testBit j = true) (h0 : shs sf j k = 0) : shs sf j (k + 1) = mx_cnt (sf k) 8 := by
  show (if _ then _ else _) = _
  rw [if_pos h, if_pos (Or.inl h0)]
theorem shs_m {sf : Nat → Nat} {j k : Nat} (h : (sf k).testBit j = true) (h0 : ¬ shs sf j k = 0) : (if nI (mx_cnt (sf k) 8) < nI (shs sf j k) then nI (mx_cnt (sf k) 8) else nI (shs sf j k)) = nI (shs sf j (k + 1)) := by
  have h1 := shs_le sf j k
  have h2 := mx_cnt_le (sf k) 8
  have e : shs sf j (k + 1) = if mx_cnt (sf k) 8 < shs sf j k then mx_cnt (sf k) 8 else shs sf j k := by
    show (if _ then _ else _) = _
    rw [if_pos h]
    by_cases h3 : mx_cnt (sf k) 8 < shs sf j k
    · rw [if_pos h3, if_pos (Or.inr h3)]
    · rw [if_neg h3, if_neg (fun q => q.elim h0 h3)]
  rw [e]
  by_cases h3 : mx_cnt (sf k) 8 < shs sf j k
  · rw [if_pos h3, if_pos (nI_lt h3 (by omega))]
  · rw [if_neg h3, if_neg (nI_nlt (by omega) (by omega))]
theorem cnt_step_t {q : Nat → Bool} {k a : Nat} (h : q k = true) (ha : a = mx_count q k) : a + 1 = mx_count q (k + 1) := by rw [mx_count_in h, ha]
theorem cnt_step_f {q : Nat → Bool} {k a : Nat} (h : q k = false) (ha : a = mx_count q k) : a = mx_count q (k + 1) := by rw [mx_count_out (by rw [h]; decide), ha]
theorem mx_count_le (q : Nat → Bool) : ∀ n, mx_count q n ≤ n
  | 0 => Nat.le_refl 0
  | n + 1 => by
    have := mx_count_le q n
    rw [mx_count_s]
    split <;> omega
def wiq (U : Nat → Int32) (x : Int32) : Nat → Bool := fun k => decide ((U k &&& (x ^^^ (-1))) = 0)
def ruq (T : Nat → Int32) (j : Nat) (how : Int32) : Nat → Bool := fun k => sp_runs (T (k * 8 + j)) how
theorem ix_70 {x y : Int32} {n : Nat} (hn : n ≤ 70) (h : (sp_in x n && sp_in y 8) = true) : x * nI 8 + y = nI (ixx x y) ∧ nI 8 * x + y = nI (ixx x y) ∧ ixx x y < 560 := by
  rw [Bool.and_eq_true] at h
  obtain ⟨i, hi, rfl⟩ := sp_in_t (by omega) h.1
  obtain ⟨j, hj, rfl⟩ := sp_in_t (by omega) h.2
  unfold ixx
  rw [nI_clamp (by omega), nI_clamp (by omega), pk_mul, pk_mul, nI_add, nI_add, Nat.mul_comm 8 i]
  exact ⟨rfl, rfl, by omega⟩
