/-! which sets are listed, and with which rates -/
def sgm (E : Nat → Int32) (M S : Nat) : Option (Nat → Nat) := mx_sg (fc E S) M (mx_cnt S 8 - 1)
def fvv (E : Nat → Int32) (M S j : Nat) : Int := match sgm E M S with
  | some σ => if S.testBit j = true then mx_fl (fc E S) (mx_cnt S 8 - 1) σ (mx_cnt S j) else 0
  | none => 0
def okS (E : Nat → Int32) (M S : Nat) : Prop := ∃ σ, mx_ok (fc E S) M (mx_cnt S 8 - 1) σ
def posv (E : Nat → Int32) (M S : Nat) : Nat → Bool := fun j => decide (0 < fvv E M S j)
def dirv (E : Nat → Int32) (M V S : Nat) : Int32 := dirS S V (posv E M S)
def lstd (E : Nat → Int32) (M V S : Nat) : Prop := okS E M S ∧ dirv E M V S ≠ 0
def gcv (E : Nat → Int32) (M S : Nat) : Nat := gdv (fun j => (fvv E M S j).natAbs) 8
def ratv (E : Nat → Int32) (M V S j : Nat) : Int32 := rtv (dirv E M V S) (fvv E M S j) (gcv E M S)
theorem fvv_some {E : Nat → Int32} {M S : Nat} {σ : Nat → Nat} (h : sgm E M S = some σ) (j : Nat) : fvv E M S j = if S.testBit j = true then mx_fl (fc E S) (mx_cnt S 8 - 1) σ (mx_cnt S j) else 0 := by
  unfold fvv
  rw [h]
theorem fvv_abs {E : Nat → Int32} {M : Nat} (hM : M ≤ 6) (h9 : e9 E) (S j : Nat) (hj : j < 8) : (fvv E M S j).natAbs ≤ 382637520 := by
  cases h : sgm E M S with
  | none =>
    unfold fvv
    rw [h]
    exact Nat.zero_le _
  | some σ =>
    rw [fvv_some h]
    have hk := (mx_sg_ok h).1
    split
    · rename_i hb
      have hlt := mx_cnt_lt hj hb
      unfold mx_fl
      split
      · rename_i ht
        rw [Int.natAbs_neg]
        exact mx_X_abs hM hk (by omega) (fc_9 h9 S) (fc_9 h9 S _)
      · exact mx_p_abs hM hk (fc_9 h9 S)
    · decide
theorem fl_read {E : Nat → Int32} {M S : Nat} {K F : Nat → Int64} {pv : Int64} (hT : lf_T (fc E S) M (mx_cnt S 8) K pv) (hF : fs_I S (fa K pv M (mx_cnt S 8)) F 8) : ∀ j, j < 8 → F j = Int64.ofInt (fvv E M S j) := by
  intro j hj
  obtain ⟨σ, h1, h2, h3⟩ := hT
  have hs : sgm E M S = some σ := h1.1
  have hk := (mx_sg_ok h1.1).1
  rw [hF j hj, fvv_some hs]
  cases hb : S.testBit j with
  | false => rfl
  | true =>
    rw [if_pos rfl, if_pos rfl]
    have hlt := mx_cnt_lt hj hb
    unfold fa mx_fl
    by_cases ht : mx_cnt S j < mx_cnt S 8 - 1
    · rw [if_pos ⟨ht, by omega⟩, if_pos ht, h3 _ ht, Int64.ofInt_neg]
    · rw [if_neg (fun q => ht q.1), if_neg ht, h2]
theorem lf_T_ok {E : Nat → Int32} {M S : Nat} {K : Nat → Int64} {pv : Int64} (hT : lf_T (fc E S) M (mx_cnt S 8) K pv) : okS E M S := by
  obtain ⟨σ, h, -⟩ := hT
  exact ⟨σ, h⟩
theorem lf_F_ok {E : Nat → Int32} {M S : Nat} (hF : lf_F (fc E S) M (mx_cnt S 8)) : ¬ okS E M S := fun ⟨σ, h⟩ => hF σ h
theorem dirS_congr {S V : Nat} {P Q : Nat → Bool} (hS : S < 256) (h0 : 0 < S) (h : ∀ j, j < 8 → P j = Q j) : dirS S V P = dirS S V Q := by
  have e1 : al8 (fun j => !(S.testBit j && !V.testBit j) || P j) = al8 (fun j => !(S.testBit j && !V.testBit j) || Q j) := by
    rw [Bool.eq_iff_iff, al8_t, al8_t]
    exact ⟨fun g j hj => by rw [← h j hj]; exact g j hj, fun g j hj => by rw [h j hj]; exact g j hj⟩
  have e2 : al8 (fun j => !(S.testBit j && !V.testBit j) || !P j) = al8 (fun j => !(S.testBit j && !V.testBit j) || !Q j) := by
    rw [Bool.eq_iff_iff, al8_t, al8_t]
    exact ⟨fun g j hj => by rw [← h j hj]; exact g j hj, fun g j hj => by rw [h j hj]; exact g j hj⟩
  unfold dirS
  rw [e1, e2, h _ (mx_nth_in (nz_cnt S hS h0)).1]
theorem dir_eq {E : Nat → Int32} {M V S : Nat} {F : Nat → Int64} (hM : M ≤ 6) (h9 : e9 E) (hS : S < 256) (h0 : 0 < S) (hF : ∀ j, j < 8 → F j = Int64.ofInt (fvv E M S j)) : dirS S V (fun j => decide (0 < F j)) = dirv E M V S := by
  refine dirS_congr hS h0 (fun j hj => ?_)
  show decide (0 < F j) = decide (0 < fvv E M S j)
  rw [hF j hj]
  exact decide_eq_decide.mpr (l64_pos (fvv_abs hM h9 S j hj))
theorem lc_8 {E : Nat → Int32} {S R M : Nat} {K : Nat → Int64} (h : lc_I E S R M K) (he : mx_cnt S 8 = mx_cnt S R) : lc_I E S 8 M K := fun q hq => h q (by omega)
/-! a set, looked at, and listed or not -/
def li_P (E : Nat → Int32) (M V S n : Nat) (U T : Nat → Int32) (n' : Nat) (U' T' : Nat → Int32) : Prop := (n < 70 ∧ lstd E M V S → n' = n + 1 ∧ U' = upd U n (nI S) ∧ rl_I T T' n (ratv E M V S) 8) ∧ (¬ (n < 70 ∧ lstd E M V S) → n' = n ∧ U' = U ∧ T' = T)
theorem li_no {E : Nat → Int32} {M V S n : Nat} {U T : Nat → Int32} (h : ¬ (n < 70 ∧ lstd E M V S)) : li_P E M V S n U T n U T := ⟨fun q => absurd q h, fun _ => ⟨rfl, rfl, rfl⟩⟩
theorem li_yes {E : Nat → Int32} {M V S n : Nat} {U T T' : Nat → Int32} (h : n < 70 ∧ lstd E M V S) (hr : rl_I T T' n (ratv E M V S) 8) : li_P E M V S n U T (n + 1) (upd U n (nI S)) T' := ⟨fun _ => ⟨rfl, rfl, hr⟩, fun q => absurd h q⟩
noncomputable def lb (E : Nat → Int32) (M R V : Nat) : Nat → Bool := fun s => @decide (0 < s ∧ s < 2 ^ R ∧ lstd E M V s) (Classical.propDecidable _)
theorem lb_t {E : Nat → Int32} {M R V s : Nat} : lb E M R V s = true ↔ 0 < s ∧ s < 2 ^ R ∧ lstd E M V s := by
  unfold lb
  exact @decide_eq_true_iff _ (Classical.propDecidable _)
theorem mx_count_s (q : Nat → Bool) (n : Nat) : mx_count q (n + 1) = mx_count q n + (if q n = true then 1 else 0) := rfl
theorem mx_count_in {q : Nat → Bool} {n : Nat} (h : q n = true) : mx_count q (n + 1) = mx_count q n + 1 := by rw [mx_count_s, if_pos h]
theorem mx_count_out {q : Nat → Bool} {n : Nat} (h : ¬ q n = true) : mx_count q (n + 1) = mx_count q n := by rw [mx_count_s, if_neg h]; rfl
theorem mx_count_mono (q : Nat → Bool) {a b : Nat} (h : a ≤ b) : mx_count q a ≤ mx_count q b := by
  induction b with
  | zero => rw [Nat.le_zero.mp h]; exact Nat.le_refl _
  | succ b ih =>
    rcases Nat.lt_or_ge a (b + 1) with h1 | h1
    · refine Nat.le_trans (ih (by omega)) ?_
      rw [mx_count_s]
      omega
    · rw [show a = b + 1 by omega]; exact Nat.le_refl _
theorem mx_count_lt {q : Nat → Bool} {a b : Nat} (h : a < b) (ha : q a = true) : mx_count q a < mx_count q b := by
  have h1 := mx_count_mono q (show a + 1 ≤ b from h)
  rw [mx_count_in ha] at h1
  exact h1
theorem mx_count_at {q : Nat → Bool} : ∀ {N k : Nat}, k < mx_count q N → ∃ s, s < N ∧ q s = true ∧ mx_count q s = k
  | 0, k, h => absurd h (Nat.not_lt_zero k)
  | N + 1, k, h => by
    by_cases hq : q N = true
    · rw [mx_count_in hq] at h
      by_cases hk : k = mx_count q N
      · exact ⟨N, Nat.lt_succ_self N, hq, hk.symm⟩
      · obtain ⟨s, h1, h2, h3⟩ := mx_count_at (q := q) (N := N) (k := k) (by omega)
        exact ⟨s, by omega, h2, h3⟩
    · rw [mx_count_out hq] at h
      obtain ⟨s, h1, h2, h3⟩ := mx_count_at (q := q) (N := N) (k := k) h
      exact ⟨s, by omega, h2, h3⟩
theorem pow_256 {R : Nat} (h : R ≤ 8) : 2 ^ R ≤ 256 := Nat.pow_le_pow_right (n := 2) (by decide) h
theorem lb_anti {E : Nat → Int32} {M R V : Nat} (hR : R ≤ 8) : ∀ a b, lb E M R V a = true → lb E M R V b = true → a &&& b = a → a = b := by
  intro a b ha hb hab
  obtain ⟨a0, a1, ⟨σ, oa⟩, -⟩ := lb_t.mp ha
  obtain ⟨b0, b1, ⟨τ, ob⟩, -⟩ := lb_t.mp hb
  have h2 := pow_256 hR
  have ca := nz_cnt a (by omega) a0
  have cb := nz_cnt b (by omega) b0
  have hsub : ∀ j, j < 8 → a.testBit j = true → b.testBit j = true := by
    intro j _ h
    have h1 : (a &&& b).testBit j = true := by rw [hab]; exact h
    rw [Nat.testBit_and, Bool.and_eq_true] at h1
    exact h1.2
  have hback := mx_antichain (A := mx_col E) (M := M) (S := a) (T := b) (kS := mx_cnt a 8 - 1) (kT := mx_cnt b 8 - 1) (by omega) (by omega) oa ob hsub
  refine Nat.eq_of_testBit_eq (fun i => ?_)
  by_cases hi : i < 8
  · rw [Bool.eq_iff_iff]
    exact ⟨hsub i hi, hback i hi⟩
  · rw [bit_hi (by omega) hi, bit_hi (by omega) hi]
theorem lb_70 {E : Nat → Int32} {M R V : Nat} (hR : R ≤ 8) {N : Nat} (hN : N ≤ 256) : mx_count (lb E M R V) N ≤ 70 := mx_sperner hN (fun a b _ _ ha hb hab => lb_anti hR a b ha hb hab)
/-- the list, once the sets below N have been looked at -/
def LsM (E : Nat → Int32) (M R V N n : Nat) (U T : Nat → Int32) : Prop := n = mx_count (lb E M R V) N ∧ ∀ s, s < N → lb E M R V s = true → U (mx_count (lb E M R V) s) = nI s ∧ ∀ j, j < 8 → T (mx_count (lb E M R V) s * 8 + j) = ratv E M V s j
theorem lb_0 (E : Nat → Int32) (M R V : Nat) : ¬ lb E M R V 0 = true := fun h => absurd (lb_t.mp h).1 (Nat.lt_irrefl 0)
theorem LsM_0 (E : Nat → Int32) (M R V : Nat) (U T : Nat → Int32) : LsM E M R V 1 0 U T := by
  refine ⟨?_, fun s hs h => ?_⟩
  · rw [show (1 : Nat) = 0 + 1 from rfl, mx_count_out (lb_0 E M R V)]
    rfl
  · rw [show s = 0 by omega] at h
    exact absurd h (lb_0 E M R V)
theorem LsM_s {E : Nat → Int32} {M R V N n n' : Nat} {U T U' T' : Nat → Int32} (hR : R ≤ 8) (h0 : 0 < N) (hN : N < 2 ^ R) (h : LsM E M R V N n U T) (hp : li_P E M V N n U T n' U' T') : LsM E M R V (N + 1) n' U' T' := by
  have h2 := pow_256 hR
  have h70 := lb_70 (E := E) (M := M) (V := V) hR (N := N + 1) (by omega)
  obtain ⟨g1, g2⟩ := h
  by_cases hb : lb E M R V N = true
  · rw [mx_count_in hb] at h70
    obtain ⟨rfl, rfl, hr⟩ := hp.1 ⟨by omega, (lb_t.mp hb).2.2⟩
    refine ⟨by rw [mx_count_in hb, g1], fun s hs hs2 => ?_⟩
    by_cases hsN : s = N
    · subst hsN
      rw [← g1]
      exact ⟨upd_at _ _ _, hr.1⟩
    · have hlt := mx_count_lt (show s < N by omega) hs2
      obtain ⟨q1, q2⟩ := g2 s (by omega) hs2
      refine ⟨by rw [upd_ne (by omega)]; exact q1, fun j hj => ?_⟩
      rw [hr.2 _ j hj (by omega)]
      exact q2 j hj
  · obtain ⟨rfl, rfl, rfl⟩ := hp.2 (fun q => hb (lb_t.mpr ⟨h0, hN, q.2⟩))
    refine ⟨by rw [mx_count_out hb]; exact g1, fun s hs hs2 => ?_⟩
    have hsN : s ≠ N := fun q => hb (by rw [← q]; exact hs2)
    exact g2 s (by omega) hs2
theorem LsM_skip {E : Nat → Int32} {M R V N n : Nat} {U T : Nat → Int32} (hb : ¬ lb E M R V N = true) (h : LsM E M R V N n U T) : LsM E M R V (N + 1) n U T := by
  refine ⟨by rw [mx_count_out hb]; exact h.1, fun s hs hs2 => ?_⟩
  have hsN : s ≠ N := fun q => hb (by rw [← q]; exact hs2)
  exact h.2 s (by omega) hs2
theorem LsM_up {E : Nat → Int32} {M R V N n : Nat} {U T : Nat → Int32} (hN : 2 ^ R ≤ N) (h : LsM E M R V (2 ^ R) n U T) : LsM E M R V N n U T := by
  induction N with
  | zero => rw [← Nat.le_zero.mp hN]; exact h
  | succ N ih =>
    rcases Nat.lt_or_ge N (2 ^ R) with h1 | h1
    · rw [show N + 1 = 2 ^ R by omega]; exact h
    · exact LsM_skip (fun q => absurd (lb_t.mp q).2.1 (by omega)) (ih h1)
/-- two lists of the same network are the same -/
theorem LsM_same {E : Nat → Int32} {M R V N n n' : Nat} {U T U' T' : Nat → Int32} (hN : N ≤ 256) (h : LsM E M R V N n U T) (h' : LsM E M R V N n' U' T') : n = n' ∧ ∀ k, k < n → (∃ s, s < 256 ∧ U k = nI s ∧ U' k = nI s) ∧ ∀ j, j < 8 → T (k * 8 + j) = T' (k * 8 + j) := by
  refine ⟨h.1.trans h'.1.symm, fun k hk => ?_⟩
  rw [h.1] at hk
  obtain ⟨s, h1, h2, rfl⟩ := mx_count_at hk
  obtain ⟨a1, a2⟩ := h.2 s h1 h2
  obtain ⟨b1, b2⟩ := h'.2 s h1 h2
  exact ⟨⟨s, by omega, a1, b1⟩, fun j hj => (a2 j hj).trans (b2 j hj).symm⟩
theorem LsM_70 {E : Nat → Int32} {M R V N n : Nat} {U T : Nat → Int32} (hR : R ≤ 8) (hN : N ≤ 256) (h : LsM E M R V N n U T) : n ≤ 70 := by
  rw [h.1]
  exact lb_70 hR hN
