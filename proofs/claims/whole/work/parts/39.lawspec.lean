/-! class and reference side by side -/
theorem gx_sld {p : Program} {l : Launch} {e : Env} {R : Room} {s : State} {m : MethodId} {args : Array Value} {below : List Frame} {meth : Method} {c : Code} {H H0 : Heap} {locs : List Loc} {cells slots : Nat} {Q : State → Prop} {cc : ByteArray} {pc : Nat} {ls : Array Slot} {rest : List Value} {A : Nat → Prop} (hexec : p.tables.exec = Jvm.exec) (hb : c.code = cc) {b L : Nat} {xs : Nat → Int32} (hX : va_X b L xs s H0) (hbl : b < H0.size) (hbA : ¬ A b) (hS : va_S A H0 H locs) {i : Int32} {q : Nat} (hi : i = nI q) (hq : q < L) (hL : L < 2 ^ 31) (hdg : decode cc pc = .ok (.iaload, 1))
    (kk : W p l e R s m args below meth c H locs cells slots Q (F0 m (pc + 1) ls (.int (xs q) :: rest))) : W p l e R s m args below meth c H locs cells slots Q (F0 m pc ls (.int i :: .ref b :: rest)) := by
  subst hi
  exact va_sld hexec hb hX hbl hbA hS (vp_in_nI hq hL) hdg (by rw [nI_clamp (Nat.lt_trans hq hL)]; exact kk)
def LI (M R V n : Nat) (E U T E2 Bt U2 T2 : Nat → Int32) : Prop := (M ≤ 6 ∧ 1 ≤ R ∧ R ≤ 8 ∧ V < 256 ∧ n ≤ 70) ∧ e9 E ∧ (∀ q, q < 48 → E q = E2 q) ∧ bts Bt V ∧ ∀ k, k < n → (∃ s, s < 256 ∧ U k = nI s ∧ U2 k = nI s) ∧ ∀ j, j < 8 → T (k * 8 + j) = T2 (k * 8 + j)
theorem LI_0 : LI 0 1 0 0 (fun _ => 0) (fun _ => 0) (fun _ => 0) (fun _ => 0) (fun _ => 0) (fun _ => 0) (fun _ => 0) := by
  refine ⟨⟨by decide, by decide, by decide, by decide, by decide⟩, (fun q _ => (by decide : (0 : Int32).toInt.natAbs ≤ 9)), fun _ _ => rfl, fun j _ => ?_, fun k hk => absurd hk (Nat.not_lt_zero k)⟩
  rw [Nat.zero_testBit]
  rfl
theorem e9_congr {E E2 : Nat → Int32} (h : e9 E) (he : ∀ q, q < 48 → E q = E2 q) : e9 E2 := fun q hq => by rw [← he q hq]; exact h q hq
theorem e9_z {E : Nat → Int32} (h : ∀ q, q < 48 → E q = nI 0) : e9 E := fun q hq => by rw [h q hq]; decide
theorem LI_size {M R V n M1 R1 V1 n1 M3 R3 n3 : Nat} {E U T E2 Bt U2 T2 E1 E3 B3 : Nat → Int32} {x y : Int32} (h : LI M R V n E U T E2 Bt U2 T2)
    (ha : (szok x y = true → x = nI M1 ∧ y = nI R1 ∧ M1 ≤ 6 ∧ 1 ≤ R1 ∧ R1 ≤ 8 ∧ V1 = 0 ∧ n1 = 0 ∧ ∀ q, q < 48 → E1 q = nI 0) ∧ (szok x y = false → M1 = M ∧ R1 = R ∧ V1 = V ∧ n1 = n ∧ E1 = E))
    (hb : (szok x y = true → x = nI M3 ∧ y = nI R3 ∧ M3 ≤ 6 ∧ 1 ≤ R3 ∧ R3 ≤ 8 ∧ n3 = 0 ∧ (∀ q, q < 48 → E3 q = nI 0) ∧ ∀ q, q < 8 → B3 q = bI false) ∧ (szok x y = false → M3 = M ∧ R3 = R ∧ n3 = n ∧ E3 = E2 ∧ B3 = Bt)) : (M3 = M1 ∧ R3 = R1 ∧ n3 = n1) ∧ LI M3 R3 V1 n3 E1 U T E3 B3 U2 T2 := by
  cases hz : szok x y with
  | true =>
    obtain ⟨a1, a2, a3, a4, a5, a6, a7, a8⟩ := ha.1 hz
    obtain ⟨b1, b2, b3, b4, b5, b6, b7, b8⟩ := hb.1 hz
    have e1 : M3 = M1 := (nI_eq (by omega) (by omega)).mp (b1.symm.trans a1)
    have e2 : R3 = R1 := (nI_eq (by omega) (by omega)).mp (b2.symm.trans a2)
    refine ⟨⟨e1, e2, by omega⟩, ⟨b3, b4, b5, by omega, by omega⟩, e9_z a8, fun q hq => by rw [a8 q hq, b7 q hq], fun j hj => ?_, fun k hk => absurd hk (by omega)⟩
    rw [b8 j hj, a6, Nat.zero_testBit]
  | false =>
    obtain ⟨a1, a2, a3, a4, a5⟩ := ha.2 hz
    obtain ⟨b1, b2, b3, b4, b5⟩ := hb.2 hz
    rw [a1, a2, a3, a4, a5, b1, b2, b3, b4, b5]
    exact ⟨⟨rfl, rfl, rfl⟩, h⟩
theorem LI_enter {M R V n : Nat} {E U T E2 Bt U2 T2 E1 E3 : Nat → Int32} {x y z : Int32} (h : LI M R V n E U T E2 Bt U2 T2) (ha : E1 = if enok x y z M R = true then upd E (ixx x y) z else E) (hb : E3 = if enok x y z M R = true then upd E2 (ixx x y) z else E2) : LI M R V n E1 U T E3 Bt U2 T2 := by
  cases hz : enok x y z M R with
  | true =>
    rw [if_pos hz] at ha hb
    obtain ⟨h1, h2, h3, h4, h5⟩ := h
    unfold enok at hz
    rw [Bool.and_eq_true] at hz
    refine ⟨h1, fun q hq => ?_, fun q hq => ?_, h4, h5⟩
    · rw [ha]
      by_cases hqi : q = ixx x y
      · rw [hqi, upd_at]; exact z9_abs hz.2
      · rw [upd_ne hqi]; exact h2 q hq
    · rw [ha, hb]
      by_cases hqi : q = ixx x y
      · rw [hqi, upd_at, upd_at]
      · rw [upd_ne hqi, upd_ne hqi]; exact h3 q hq
  | false =>
    rw [if_neg (by rw [hz]; decide)] at ha hb
    rw [ha, hb]
    exact h
theorem eq_entry {M R V n : Nat} {E U T E2 Bt U2 T2 : Nat → Int32} {x y : Int32} (h : LI M R V n E U T E2 Bt U2 T2) : (if (sp_in x M && sp_in y R) = true then E (ixx x y) else 0) = if (sp_in x M && sp_in y R) = true then E2 (ixx x y) else 0 := by
  by_cases hz : (sp_in x M && sp_in y R) = true
  · rw [if_pos hz, if_pos hz]
    exact h.2.2.1 _ (ix_ok h.1.1 h.1.2.2.1 hz).2.2
  · rw [if_neg hz, if_neg hz]
theorem LI_rev {M R V n V1 : Nat} {E U T E2 Bt U2 T2 B3 : Nat → Int32} {x : Int32} {b : Bool} (h : LI M R V n E U T E2 Bt U2 T2) (ha : V1 = rvs V R x b) (hb : B3 = if sp_in x R = true then upd Bt x.toNatClampNeg (bI b) else Bt) : LI M R V1 n E U T E2 B3 U2 T2 := by
  obtain ⟨⟨h1, h1a, h1b, h1c, h1d⟩, h2, h3, h4, h5⟩ := h
  refine ⟨⟨h1, h1a, h1b, by rw [ha]; exact rvs_lt h1b h1c, h1d⟩, h2, h3, fun j hj => ?_, h5⟩
  rw [ha, hb]
  unfold rvs
  by_cases hz : sp_in x R = true
  · rw [if_pos hz, if_pos hz]
    by_cases hjc : j = x.toNatClampNeg
    · rw [← hjc, upd_at]
      cases b with
      | true => rw [if_pos rfl, Nat.testBit_or, Nat.testBit_two_pow]; simp
      | false => rw [if_neg (by decide), Nat.testBit_and, Nat.testBit_xor, Nat.testBit_two_pow, bit_255 j hj]; simp
    · have hcj : ¬ x.toNatClampNeg = j := fun q => hjc q.symm
      rw [upd_ne hjc, h4 j hj]
      cases b with
      | true => rw [if_pos rfl, Nat.testBit_or, Nat.testBit_two_pow]; simp [hcj]
      | false => rw [if_neg (by decide), Nat.testBit_and, Nat.testBit_xor, Nat.testBit_two_pow, bit_255 j hj]; simp [hcj]
  · rw [if_neg hz, if_neg hz]
    exact h4 j hj
/-! the list depends on the entries alone that there are -/
theorem fc_congr {E E2 : Nat → Int32} (h : ∀ q, q < 48 → E q = E2 q) (S : Nat) : fc E S = fc E2 S := by
  funext t s
  unfold fc mx_col
  by_cases hx : s < 6 ∧ mx_nth S t < 8
  · rw [if_pos hx, if_pos hx, h _ (by omega)]
  · rw [if_neg hx, if_neg hx]
theorem sgm_congr {E E2 : Nat → Int32} (h : ∀ q, q < 48 → E q = E2 q) (M S : Nat) : sgm E M S = sgm E2 M S := by unfold sgm; rw [fc_congr h]
theorem fvv_congr {E E2 : Nat → Int32} (h : ∀ q, q < 48 → E q = E2 q) (M S j : Nat) : fvv E M S j = fvv E2 M S j := by unfold fvv; rw [sgm_congr h, fc_congr h]
theorem okS_congr {E E2 : Nat → Int32} (h : ∀ q, q < 48 → E q = E2 q) (M S : Nat) : okS E M S = okS E2 M S := by unfold okS; rw [fc_congr h]
theorem posv_congr {E E2 : Nat → Int32} (h : ∀ q, q < 48 → E q = E2 q) (M S : Nat) : posv E M S = posv E2 M S := by funext j; unfold posv; rw [fvv_congr h]
theorem dirv_congr {E E2 : Nat → Int32} (h : ∀ q, q < 48 → E q = E2 q) (M V S : Nat) : dirv E M V S = dirv E2 M V S := by unfold dirv; rw [posv_congr h]
theorem lstd_congr {E E2 : Nat → Int32} (h : ∀ q, q < 48 → E q = E2 q) (M V S : Nat) : lstd E M V S = lstd E2 M V S := by unfold lstd; rw [okS_congr h, dirv_congr h]
theorem gcv_congr {E E2 : Nat → Int32} (h : ∀ q, q < 48 → E q = E2 q) (M S : Nat) : gcv E M S = gcv E2 M S := by
  unfold gcv
  exact gdv_congr (fun i _ => by rw [fvv_congr h])
theorem ratv_congr {E E2 : Nat → Int32} (h : ∀ q, q < 48 → E q = E2 q) (M V S j : Nat) : ratv E M V S j = ratv E2 M V S j := by unfold ratv; rw [dirv_congr h, fvv_congr h, gcv_congr h]
theorem lb_congr {E E2 : Nat → Int32} (h : ∀ q, q < 48 → E q = E2 q) (M R V : Nat) : lb E M R V = lb E2 M R V := by
  funext s
  rw [Bool.eq_iff_iff, lb_t, lb_t, lstd_congr h]
theorem LsM_congr {E E2 : Nat → Int32} (h : ∀ q, q < 48 → E q = E2 q) {M R V N n : Nat} {U T : Nat → Int32} (hl : LsM E M R V N n U T) : LsM E2 M R V N n U T := by
  unfold LsM at hl ⊢
  rw [← lb_congr h]
  refine ⟨hl.1, fun s h1 h2 => ⟨(hl.2 s h1 h2).1, fun j hj => ?_⟩⟩
  rw [← ratv_congr h]
  exact (hl.2 s h1 h2).2 j hj
theorem LI_solve {M R V n n1 n3 : Nat} {E U T E2 Bt U2 T2 U1 T1 U3 T3 : Nat → Int32} (h : LI M R V n E U T E2 Bt U2 T2) (ha : LsM E M R V 256 n1 U1 T1) (hb : LsM E2 M R V 256 n3 U3 T3) : n1 = n3 ∧ LI M R V n1 E U1 T1 E2 Bt U3 T3 := by
  obtain ⟨⟨h1, h1a, h1b, h1c, h1d⟩, h2, h3, h4, -⟩ := h
  obtain ⟨g1, g2⟩ := LsM_same (Nat.le_refl 256) (LsM_congr h3 ha) hb
  exact ⟨g1, ⟨h1, h1a, h1b, h1c, LsM_70 h1b (Nat.le_refl 256) ha⟩, h2, h3, h4, g2⟩
theorem eq_support {M R V n : Nat} {E U T E2 Bt U2 T2 : Nat → Int32} {x : Int32} (h : LI M R V n E U T E2 Bt U2 T2) : (if sp_in x n = true then U x.toNatClampNeg else 0) = if sp_in x n = true then U2 x.toNatClampNeg else 0 := by
  by_cases hz : sp_in x n = true
  · rw [if_pos hz, if_pos hz]
    have hn := h.1.2.2.2.2
    obtain ⟨⟨s, -, h1, h2⟩, -⟩ := h.2.2.2.2 _ (sp_in_clamp (by omega) hz).1
    rw [h1, h2]
  · rw [if_neg hz, if_neg hz]
theorem eq_rate {M R V n : Nat} {E U T E2 Bt U2 T2 : Nat → Int32} {x y : Int32} (h : LI M R V n E U T E2 Bt U2 T2) : (if (sp_in x n && sp_in y 8) = true then T (ixx x y) else 0) = if (sp_in x n && sp_in y 8) = true then T2 (ixx x y) else 0 := by
  by_cases hz : (sp_in x n && sp_in y 8) = true
  · rw [if_pos hz, if_pos hz]
    rw [Bool.and_eq_true] at hz
    have hn := h.1.2.2.2.2
    exact (h.2.2.2.2 _ (sp_in_clamp (by omega) hz.1).1).2 _ (sp_in_clamp (by decide) hz.2).1
  · rw [if_neg hz, if_neg hz]
theorem eq_within {M R V n : Nat} {E U T E2 Bt U2 T2 : Nat → Int32} {x : Int32} (h : LI M R V n E U T E2 Bt U2 T2) : nI (mx_count (wiq U x) n) = nI (mx_count (wiq U2 x) n) := by
  rw [mx_count_congr (q' := wiq U2 x) (fun k hk => ?_)]
  obtain ⟨⟨s, -, h1, h2⟩, -⟩ := h.2.2.2.2 k hk
  unfold wiq
  rw [h1, h2]
theorem eq_running {M R V n : Nat} {E U T E2 Bt U2 T2 : Nat → Int32} {x y : Int32} (h : LI M R V n E U T E2 Bt U2 T2) : (if sp_in x 8 = true then nI (mx_count (ruq T x.toNatClampNeg y) n) else 0) = if sp_in x 8 = true then nI (mx_count (ruq T2 x.toNatClampNeg y) n) else 0 := by
  by_cases hz : sp_in x 8 = true
  · rw [if_pos hz, if_pos hz, mx_count_congr (q' := ruq T2 x.toNatClampNeg y) (fun k hk => ?_)]
    unfold ruq
    rw [(h.2.2.2.2 k hk).2 _ (sp_in_clamp (by decide) hz).1]
  · rw [if_neg hz, if_neg hz]
def sfU (U : Nat → Int32) : Nat → Nat := fun k => (U k).toNatClampNeg
theorem sf_1 {M R V n : Nat} {E U T E2 Bt U2 T2 : Nat → Int32} (h : LI M R V n E U T E2 Bt U2 T2) : ∀ k, k < n → sfU U k < 256 ∧ U k = nI (sfU U k) := by
  intro k hk
  obtain ⟨⟨s, hs, h1, -⟩, -⟩ := h.2.2.2.2 k hk
  unfold sfU
  rw [h1, nI_clamp (by omega)]
  exact ⟨hs, rfl⟩
theorem sf_2 {M R V n : Nat} {E U T E2 Bt U2 T2 : Nat → Int32} (h : LI M R V n E U T E2 Bt U2 T2) : ∀ k, k < n → sfU U k < 256 ∧ U2 k = nI (sfU U k) := by
  intro k hk
  obtain ⟨⟨s, hs, h1, h2⟩, -⟩ := h.2.2.2.2 k hk
  unfold sfU
  rw [h1, nI_clamp (by omega)]
  exact ⟨hs, h2⟩
theorem lw_more {i L : Nat} (hi : i < 2 ^ 30) (hL : L < 2 ^ 30) (h : ¬ nI L - nI 4 < nI i) : i + 4 ≤ L := by
  rw [Int32.lt_iff_toInt_lt, pk_sub_toInt hL (by decide), nI_toInt (by omega)] at h
  omega
