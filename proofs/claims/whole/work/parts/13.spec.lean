/-! what the calls answer, in numbers -/
def sp_in (x : Int32) (n : Nat) : Bool := decide (0 ≤ x.toInt ∧ x.toInt < (n : Int))
theorem sp_in_lo {x : Int32} {n : Nat} (h : x < 0) : sp_in x n = false := by
  unfold sp_in
  rw [Int32.lt_iff_toInt_lt] at h
  have h0 : (0 : Int32).toInt = 0 := by decide
  exact decide_eq_false (by omega)
theorem sp_in_hi {x : Int32} {n : Nat} (hn : n < 2 ^ 31) (h : nI n ≤ x) : sp_in x n = false := by
  unfold sp_in
  rw [Int32.le_iff_toInt_le, nI_toInt hn] at h
  exact decide_eq_false (by omega)
theorem sp_in_ok {x : Int32} {n : Nat} (hn : n < 2 ^ 31) (h0 : ¬ x < 0) (h : ¬ nI n ≤ x) : sp_in x n = true := by
  unfold sp_in
  rw [Int32.lt_iff_toInt_lt] at h0
  rw [Int32.le_iff_toInt_le, nI_toInt hn] at h
  have h1 : (0 : Int32).toInt = 0 := by decide
  exact decide_eq_true (by omega)
theorem sp_in_nI {n k : Nat} (hk : k < 2 ^ 31) : sp_in (nI k) n = decide (k < n) := by
  unfold sp_in
  rw [nI_toInt hk]
  by_cases h : k < n
  · rw [decide_eq_true h, decide_eq_true (by omega)]
  · rw [decide_eq_false h, decide_eq_false (by omega)]
theorem sp_in_t {x : Int32} {n : Nat} (hn : n < 2 ^ 31) (h : sp_in x n = true) : ∃ j : Nat, j < n ∧ x = nI j := by
  unfold sp_in at h
  have h1 := of_decide_eq_true h
  exact vp_in_of (vp_in_iff.mpr h1) hn
theorem sp_in_clamp {x : Int32} {n : Nat} (hn : n < 2 ^ 31) (h : sp_in x n = true) : x.toNatClampNeg < n ∧ x = nI x.toNatClampNeg := by
  obtain ⟨j, hj, rfl⟩ := sp_in_t hn h
  rw [nI_clamp (by omega)]
  exact ⟨hj, rfl⟩
def sp_runs (x how : Int32) : Bool := if how = 1 then decide (0 < x) else if how = -1 then decide (x < 0) else decide (x ≠ 0)
/-- is j in the set? sets are below 256, j below 8 -/
theorem sp_has : ∀ S, S < 256 → ∀ j, j < 8 → ((nI S >>> (nI j &&& 31)) &&& nI 1) = bI (S.testBit j) := by
  have h : (List.range 256).all (fun S => (List.range 8).all (fun j => ((nI S >>> (nI j &&& 31)) &&& nI 1) == bI (S.testBit j))) = true := by decide +kernel
  intro S hS j hj
  have h1 := List.all_eq_true.mp (List.all_eq_true.mp h S (List.mem_range.mpr hS)) j (List.mem_range.mpr hj)
  simpa using h1
