/-! the reference's list -/
theorem s_amt : ∀ R, R < 9 → ((nI R &&& 31).toBitVec.smod 32).toNat = R := by decide +kernel
theorem shr_R {N R : Nat} (hN : N < 2 ^ 31) (hR : R ≤ 8) : nI N >>> (nI R &&& 31) = nI (N / 2 ^ R) := pk_shrN hN _ R (s_amt R (by omega))
theorem shr_z {N R : Nat} (hN : N ≤ 256) (h : nI (N / 2 ^ R) = 0) : N < 2 ^ R := by
  have h1 : N / 2 ^ R ≤ N := Nat.div_le_self _ _
  have h2 : N / 2 ^ R = 0 := (nI_eq (by omega) (by omega)).mp (h.trans nI_0.symm)
  exact (Nat.div_eq_zero_iff_lt (Nat.pow_pos (by decide))).mp h2
theorem shr_nz {N R : Nat} (h : ¬ nI (N / 2 ^ R) = 0) : ¬ N < 2 ^ R := fun q => h (by rw [Nat.div_eq_of_lt q]; exact nI_0)
theorem fvv_ne {E : Nat → Int32} {M S j : Nat} (h : okS E M S) (hb : S.testBit j = true) : fvv E M S j ≠ 0 := by
  obtain ⟨σ, hs⟩ := h
  rw [fvv_some (σ := σ) hs.1, if_pos hb]
  exact mx_fl_ne hs _
theorem ms_1 {E : Nat → Int32} {M V S : Nat} {F : Nat → Int64} (h : st_P E M S false F) : ¬ lstd E M V S := fun q => by
  have := (h.1 q.1).1
  cases this
theorem ms_2 {E : Nat → Int32} {M V S : Nat} {F : Nat → Int64} (hM : M ≤ 6) (h9 : e9 E) (hS : S < 256) (h0 : 0 < S) (h : st_P E M S true F) (hn : ¬ sgd S V F) : ¬ lstd E M V S := fun q => by
  have hF := (h.1 q.1).2
  refine hn ⟨fun i hi hb => ?_, ?_⟩
  · rw [hF i hi]
    exact fun z => fvv_ne q.1 hb ((l64_zero (fvv_abs hM h9 S i hi)).mp z)
  · rw [dir_eq hM h9 hS h0 hF]
    exact q.2
theorem ms_3 {E : Nat → Int32} {M V S : Nat} {F : Nat → Int64} (hM : M ≤ 6) (h9 : e9 E) (hS : S < 256) (h0 : 0 < S) (h : st_P E M S true F) (hg : sgd S V F) : lstd E M V S ∧ ∀ j, j < 8 → F j = Int64.ofInt (fvv E M S j) := by
  have ho : okS E M S := Classical.byContradiction (fun q => by
    rcases h.2 q with z | ⟨j, hj, hb, z⟩
    · cases z
    · exact hg.1 j hj hb z)
  have hF := (h.1 ho).2
  refine ⟨⟨ho, ?_⟩, hF⟩
  rw [← dir_eq hM h9 hS h0 hF]
  exact hg.2
def dI (d : Int32) : Int := if d = 1 then 1 else -1
def sgf (E : Nat → Int32) (M V S j : Nat) : Int := dI (dirv E M V S) * fvv E M S j
theorem dI_abs (d : Int32) (x : Int) : (dI d * x).natAbs = x.natAbs := by
  unfold dI
  split
  · rw [Int.one_mul]
  · rw [Int.neg_mul, Int.one_mul, Int.natAbs_neg]
theorem sgf_abs {E : Nat → Int32} {M V S j : Nat} : (sgf E M V S j).natAbs = (fvv E M S j).natAbs := dI_abs _ _
theorem one64 : (1 : Int32).toInt64 = 1 := by decide
theorem mone64 : (-1 : Int32).toInt64 = -1 := by decide
theorem dI_mul {d : Int32} (hd : d = 1 ∨ d = -1) (x : Int) : d.toInt64 * Int64.ofInt x = Int64.ofInt (dI d * x) := by
  rcases hd with rfl | rfl
  · rw [one64, Int64.one_mul, show dI 1 = 1 from rfl, Int.one_mul]
  · rw [mone64, show dI (-1) = -1 from by decide, Int.neg_mul, Int.one_mul, Int64.ofInt_neg, Int64.neg_mul, Int64.one_mul]
theorem qt_int {x : Int} {G : Nat} (hx : x.natAbs ≤ 382637520) (hG : G ≤ 382637520) (h0 : ¬ lN G = 0) : qt (Int64.ofInt x) (lN G) = Int64.ofInt (x.tdiv (G : Int)) := by
  rw [← qt_ne h0, lN_ofInt, Int64.ofInt_tdiv (by rw [l64_min]; omega) (by rw [l64_max]; omega) (by rw [l64_min]; omega) (by rw [l64_max]; omega)]
theorem rtv_eq {d : Int32} (hd : d = 1 ∨ d = -1) {x : Int} {G : Nat} (hx : x.natAbs ≤ 382637520) (hG : G ≤ 382637520) (h0 : ¬ lN G = 0) : (qt (Int64.ofInt (dI d * x)) (lN G)).toInt32 = rtv d x G := by
  unfold rtv
  rw [qt_int (by rw [dI_abs]; exact hx) hG h0, qt_int hx hG h0, dI_mul hd]
  congr 1
  rcases hd with rfl | rfl
  · rw [show dI 1 = 1 from rfl, Int.one_mul, Int.one_mul]
  · rw [show dI (-1) = -1 from by decide, Int.neg_mul, Int.one_mul, Int.neg_mul, Int.one_mul, Int.neg_tdiv]
theorem rl_congr {T0 T : Nat → Int32} {n : Nat} {v v' : Nat → Int32} (h : rl_I T0 T n v 8) (hv : ∀ j, j < 8 → v j = v' j) : rl_I T0 T n v' 8 := ⟨fun j hj => (h.1 j hj).trans (hv j hj), h.2⟩
theorem gcv_sg {E : Nat → Int32} {M V S : Nat} : gdv (fun j => (sgf E M V S j).natAbs) 8 = gcv E M S := gdv_congr (fun i _ => sgf_abs)
theorem gcv_ne {E : Nat → Int32} {M S : Nat} (hM : M ≤ 6) (h9 : e9 E) (hS : S < 256) (h0 : 0 < S) (ho : okS E M S) : ¬ lN (gcv E M S) = 0 := by
  have hle : gcv E M S ≤ 382637520 := gdv_le (fun j hj => fvv_abs hM h9 S j hj) (Nat.le_refl 8)
  rw [lN_z hle]
  intro q
  obtain ⟨g1, g2, g3⟩ := mx_nth_in (S := S) (t := 0) (nz_cnt S hS h0)
  have := gdv_0 (j := 8) q _ g1
  exact fvv_ne ho g2 (Int.natAbs_eq_zero.mp this)
theorem dirv_pm {E : Nat → Int32} {M V S : Nat} (h : lstd E M V S) : dirv E M V S = 1 ∨ dirv E M V S = -1 := by
  rcases dir_pm S V (posv E M S) with h1 | h1 | h1
  · exact Or.inl h1
  · exact Or.inr h1
  · exact absurd h1 h.2
theorem ms_F {E : Nat → Int32} {M V S : Nat} {F F2 : Nat → Int64} (hM : M ≤ 6) (h9 : e9 E) (hS : S < 256) (h0 : 0 < S) (hl : lstd E M V S) (hF : ∀ j, j < 8 → F j = Int64.ofInt (fvv E M S j)) (h2 : ∀ j, j < 8 → F2 j = (dirS S V (fun j => decide (0 < F j))).toInt64 * F j) : ∀ j, j < 8 → F2 j = Int64.ofInt (sgf E M V S j) := by
  intro j hj
  rw [h2 j hj, dir_eq hM h9 hS h0 hF, hF j hj, dI_mul (dirv_pm hl)]
  rfl
theorem ms_rate {E : Nat → Int32} {M V S n : Nat} {T T1 : Nat → Int32} (hM : M ≤ 6) (h9 : e9 E) (hS : S < 256) (h0 : 0 < S) (hl : lstd E M V S) (h : rl_I T T1 n (fun j => (qt (Int64.ofInt (sgf E M V S j)) (lN (gdv (fun j => (sgf E M V S j).natAbs) 8))).toInt32) 8) : rl_I T T1 n (ratv E M V S) 8 := by
  refine rl_congr h (fun j hj => ?_)
  rw [gcv_sg]
  exact rtv_eq (dirv_pm hl) (fvv_abs hM h9 S j hj) (gdv_le (fun j hj => fvv_abs hM h9 S j hj) (Nat.le_refl 8)) (gcv_ne hM h9 hS h0 hl.1)
theorem ms_70 {E : Nat → Int32} {M R V N n : Nat} {U T : Nat → Int32} (hR : R ≤ 8) (hN : N < 2 ^ R) (h0 : 0 < N) (h : LsM E M R V N n U T) (hl : lstd E M V N) : n < 70 := by
  have h2 := pow_256 hR
  have h3 := lb_70 (E := E) (M := M) (V := V) hR (N := N + 1) (by omega)
  rw [mx_count_in (lb_t.mpr ⟨h0, hN, hl⟩), ← h.1] at h3
  omega
