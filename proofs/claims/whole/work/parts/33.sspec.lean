/-! the reference's elimination: all columns, one of them left free -/
def sA_I (c0 : Nat → Nat → Int) (M : Nat) (E : Nat → Int32) (k : Nat) (σ : Nat → Nat) (K : Nat → Int64) (bf : Int64) : Prop := mx_sg c0 M k = some σ ∧ bf = Int64.ofInt (mx_p c0 k σ) ∧ ∀ r q, r < M → q < 8 → K (r * 8 + q) = Int64.ofInt (mx_X c0 k σ r (mx_col E q))
theorem col_9 {E : Nat → Int32} (h : e9 E) (q : Nat) : ∀ s, (mx_col E q s).natAbs ≤ 9 := by
  intro s
  unfold mx_col
  split
  · exact h _ (by omega)
  · decide
theorem sA_0 {c0 : Nat → Nat → Int} {M : Nat} {E : Nat → Int32} {K : Nat → Int64} (hM : M ≤ 6) (h : ∀ q, q < 48 → K q = (E q).toInt64) : sA_I c0 M E 0 (fun s => s) K 1 := by
  refine ⟨rfl, rfl, fun r q hr hq => ?_⟩
  rw [mx_X_0, h _ (by omega)]
  unfold mx_col
  rw [if_pos ⟨by omega, hq⟩, Int64.ofInt_int32ToInt]
theorem sA_nz {c0 : Nat → Nat → Int} {M : Nat} {E : Nat → Int32} {k : Nat} {σ : Nat → Nat} {K : Nat → Int64} {bf : Int64} (hM : M ≤ 6) (hc : ∀ t s, (c0 t s).natAbs ≤ 9) (h9 : e9 E) (hI : sA_I c0 M E k σ K bf) {i q : Nat} (hi : i < M) (hq : q < 8) : K (i * 8 + q) = 0 ↔ mx_X c0 k σ i (mx_col E q) = 0 := by
  rw [hI.2.2 i q hi hq]
  exact l64_zero (mx_X_abs hM (mx_sg_ok hI.1).1 hi hc (col_9 h9 q))
theorem sA_step {c0 : Nat → Nat → Int} {M : Nat} {E : Nat → Int32} {k j i : Nat} {σ : Nat → Nat} {K K1 K2 : Nat → Int64} {bf : Int64} (hM : M ≤ 6) (hc : ∀ t s, (c0 t s).natAbs ≤ 9) (h9 : e9 E) (hj : j < 8) (hcj : c0 k = mx_col E j) (hI : sA_I c0 M E k σ K bf) (g1 : k ≤ i) (g2 : i < M) (g3 : K (i * 8 + j) ≠ 0) (g4 : ∀ r, k ≤ r → r < i → K (r * 8 + j) = 0) (h1 : sw_I K K1 k i 8) (h2 : cm_I K1 K2 k j bf M) : ∃ σ', sA_I c0 M E (k + 1) σ' K2 (K2 (k * 8 + j)) := by
  have hnz := fun {i} (hi : i < M) => sA_nz hM hc h9 hI (i := i) hi hj
  obtain ⟨a1, a2, a3⟩ := hI
  obtain ⟨hkM, hp, -⟩ := mx_sg_ok a1
  have hkM' : k < M := by omega
  have e1 : ∀ r q, q < 8 → K1 (r * 8 + q) = K (mx_sw k i r * 8 + q) := fun r q hq => by rw [h1 r q hq, if_pos hq]
  have hf : mx_first (fun i => mx_X c0 k σ i (c0 k) != 0) k (M - k) = some i := by
    rw [hcj]
    refine mx_first_at g1 (by omega) ?_ (fun r hr1 hr2 => ?_)
    · have : mx_X c0 k σ i (mx_col E j) ≠ 0 := fun q => g3 ((hnz g2).mpr q)
      simpa using this
    · have : mx_X c0 k σ r (mx_col E j) = 0 := (hnz (by omega)).mp (g4 r hr1 hr2)
      simpa using this
  refine ⟨fun s => σ (mx_sw k i s), mx_sg_next a1 hf, ?_, fun r q hr hq => ?_⟩
  · rw [h2 k j hj, if_neg (by omega), e1 k j hj, mx_sw_l, a3 i j g2 hj, mx_p_next, mx_X_sw c0 σ g1, mx_sw_l, hcj]
  · rw [h2 r q hq]
    by_cases hrk : r = k
    · subst hrk
      rw [if_neg (by omega), e1 r q hq, mx_sw_l, a3 i q g2 hq, mx_X_step_k, mx_X_sw c0 σ g1, mx_sw_l]
    · have hsr : mx_sw k i r < M := mx_sw_lt hkM' g2 hr
      rw [if_pos ⟨hr, hrk⟩, e1 k j hj, e1 r q hq, e1 r j hj, e1 k q hq, mx_sw_l, a3 i j g2 hj, a3 _ q hsr hq, a3 _ j hsr hj, a3 i q g2 hq, a2]
      refine l64_step (mx_X_abs hM hkM g2 hc (col_9 h9 j)) (mx_X_abs hM hkM hsr hc (col_9 h9 q)) (mx_X_abs hM hkM hsr hc (col_9 h9 j)) (mx_X_abs hM hkM g2 hc (col_9 h9 q)) hp (mx_p_abs hM hkM hc) ?_
      have hst := mx_X_step c0 (k := k) (i := r) (fun s => σ (mx_sw k i s)) hrk (mx_col E q)
      rw [mx_p_sw c0 σ g1, mx_X_sw c0 σ g1, mx_X_sw c0 σ g1, mx_X_sw c0 σ g1, mx_X_sw c0 σ g1, mx_sw_l, hcj] at hst
      exact hst
def updN (f : Nat → Nat) (k x : Nat) : Nat → Nat := fun j => if j = k then x else f j
theorem updN_at (f : Nat → Nat) (k x : Nat) : updN f k x k = x := if_pos rfl
theorem updN_ne {f : Nat → Nat} {k j x : Nat} (h : j ≠ k) : updN f k x j = f j := if_neg h
def lds (Ld : Nat → Int32) (ld : Nat → Nat) : Prop := ∀ i, i < 8 → Ld i = nI (ld i)
theorem lds_s {Ld : Nat → Int32} {ld : Nat → Nat} {j x : Nat} (h : lds Ld ld) : lds (upd Ld j (nI x)) (updN ld j x) := by
  intro i hi
  by_cases hij : i = j
  · rw [hij, upd_at, updN_at]
  · rw [upd_ne hij, updN_ne hij]; exact h i hi
def sA (E : Nat → Int32) (M S j k : Nat) (bf : Int64) (K : Nat → Int64) (ld : Nat → Nat) : Prop := k = mx_cnt S j ∧ (∃ σ, sA_I (fc E S) M E k σ K bf) ∧ ∀ i, i < 8 → ld i = if i < j ∧ S.testBit i = true then mx_cnt S i + 1 else 0
def sB (E : Nat → Int32) (M S j k f : Nat) (bf : Int64) (K : Nat → Int64) (ld : Nat → Nat) : Prop :=
  (f < j ∧ S.testBit f = true ∧ mx_cnt S f ≤ k ∧ k ≤ M ∧ bf ≠ 0) ∧ mx_sg (fc E S) M (mx_cnt S f + 1) = none ∧ (∀ i, mx_cnt S f ≤ i → i < M → K (i * 8 + f) = 0) ∧ (∀ i, i < 8 → S.testBit i = false → ld i = 0) ∧ ld f = 0 ∧ (∀ i, i < 8 → ld i ≤ k) ∧ (∀ i, f < i → i < j → S.testBit i = true → mx_cnt S f < ld i) ∧ (mx_cnt S j = mx_cnt S f + 1 → (∃ σ, sA_I (fc E S) M E (mx_cnt S f) σ K bf) ∧ ∀ i, i < f → S.testBit i = true → ld i = mx_cnt S i + 1)
def sI (E : Nat → Int32) (M S j k : Nat) (fr : Int32) (bf : Int64) (K : Nat → Int64) (ld : Nat → Nat) : Prop := (fr = -1 ∧ sA E M S j k bf K ld) ∨ ∃ f, f < 8 ∧ fr = nI f ∧ sB E M S j k f bf K ld
theorem sI_0 {E : Nat → Int32} {M S : Nat} {K : Nat → Int64} (hM : M ≤ 6) (h : ∀ q, q < 48 → K q = (E q).toInt64) : sI E M S 0 0 (-1) 1 K (fun _ => 0) := Or.inl ⟨rfl, rfl, ⟨_, sA_0 hM h⟩, fun i _ => by rw [if_neg (fun q => absurd q.1 (Nat.not_lt_zero i))]⟩
theorem sA_bf {E : Nat → Int32} {M S j k : Nat} {bf : Int64} {K : Nat → Int64} {ld : Nat → Nat} (hM : M ≤ 6) (h9 : e9 E) (h : sA E M S j k bf K ld) : bf ≠ 0 ∧ k ≤ M := by
  obtain ⟨-, ⟨σ, a1, a2, -⟩, -⟩ := h
  obtain ⟨hk, hp, -⟩ := mx_sg_ok a1
  refine ⟨fun q => hp ?_, hk⟩
  rw [a2] at q
  exact (l64_zero (mx_p_abs hM hk (fc_9 h9 S))).mp q
theorem sI_bf {E : Nat → Int32} {M S j k : Nat} {fr : Int32} {bf : Int64} {K : Nat → Int64} {ld : Nat → Nat} (hM : M ≤ 6) (h9 : e9 E) (h : sI E M S j k fr bf K ld) : ¬ bf = 0 ∧ k ≤ M := by
  rcases h with ⟨-, h⟩ | ⟨f, -, -, ⟨-, -, -, h1, h2⟩, -⟩
  · exact sA_bf hM h9 h
  · exact ⟨h2, h1⟩
theorem sI_ld {E : Nat → Int32} {M S j k : Nat} {fr : Int32} {bf : Int64} {K : Nat → Int64} {ld : Nat → Nat} (hM : M ≤ 6) (h9 : e9 E) (h : sI E M S j k fr bf K ld) : ∀ i, i < 8 → ld i ≤ M := by
  rcases h with ⟨-, h⟩ | ⟨f, -, -, h⟩
  · intro i hi
    have hk := (sA_bf hM h9 h).2
    obtain ⟨h1, -, h3⟩ := h
    rw [h3 i hi]
    split
    · rename_i hx
      have := mx_cnt_lt hx.1 hx.2
      omega
    · exact Nat.zero_le M
  · intro i hi
    exact Nat.le_trans (h.2.2.2.2.2.1 i hi) h.1.2.2.2.1
theorem sI_skip {E : Nat → Int32} {M S j k : Nat} {fr : Int32} {bf : Int64} {K : Nat → Int64} {ld : Nat → Nat} (hb : S.testBit j = false) (h : sI E M S j k fr bf K ld) : sI E M S (j + 1) k fr bf K ld := by
  have hne : ∀ {i}, S.testBit i = true → i ≠ j := fun hi q => by rw [q, hb] at hi; cases hi
  rcases h with ⟨e, h1, h2, h3⟩ | ⟨f, hf, e, ⟨b1, b2, b3⟩, b4, b5, b6, b7, b8, b9, b10⟩
  · refine Or.inl ⟨e, by rw [mx_cnt_out hb]; exact h1, h2, fun i hi => ?_⟩
    rw [h3 i hi]
    by_cases hx : i < j ∧ S.testBit i = true
    · rw [if_pos hx, if_pos ⟨by omega, hx.2⟩]
    · rw [if_neg hx, if_neg (fun q => hx ⟨by have := hne q.2; omega, q.2⟩)]
  · refine Or.inr ⟨f, hf, e, ⟨by omega, b2, b3⟩, b4, b5, b6, b7, b8, fun i q1 q2 q3 => b9 i q1 (by have := hne q3; omega) q3, fun q => b10 (by rw [mx_cnt_out hb] at q; exact q)⟩
theorem sI_lt {E : Nat → Int32} {M S j k : Nat} {fr : Int32} {bf : Int64} {K : Nat → Int64} {ld : Nat → Nat} (h : sI E M S j k fr bf K ld) (hl : fr < 0) : sA E M S j k bf K ld := by
  rcases h with ⟨-, h⟩ | ⟨f, hf, e, -⟩
  · exact h
  · rw [e] at hl
    exact absurd hl (nI_pos (by omega))
theorem sI_nlt {E : Nat → Int32} {M S j k : Nat} {fr : Int32} {bf : Int64} {K : Nat → Int64} {ld : Nat → Nat} (h : sI E M S j k fr bf K ld) (hl : ¬ fr < 0) : ∃ f, f < 8 ∧ fr = nI f ∧ sB E M S j k f bf K ld := by
  rcases h with ⟨e, -⟩ | h
  · rw [e] at hl
    exact absurd (by decide) hl
  · exact h
theorem sI_free {E : Nat → Int32} {M S j k : Nat} {bf : Int64} {K : Nat → Int64} {ld : Nat → Nat} (hM : M ≤ 6) (h9 : e9 E) (hj : j < 8) (hb : S.testBit j = true) (h : sA E M S j k bf K ld) (hz : ∀ r, k ≤ r → r < M → K (r * 8 + j) = 0) : sI E M S (j + 1) k (nI j) bf K ld := by
  obtain ⟨hbf, hkM⟩ := sA_bf hM h9 h
  obtain ⟨rfl, ⟨σ, hs⟩, h3⟩ := h
  have hcj : fc E S (mx_cnt S j) = mx_col E j := by unfold fc; rw [mx_nth_cnt hb hj]
  refine Or.inr ⟨j, hj, rfl, ⟨Nat.lt_succ_self j, hb, Nat.le_refl _, hkM, hbf⟩, ?_, hz, fun i hi hn => ?_, ?_, fun i hi => ?_, fun i q1 q2 _ => absurd q1 (by omega), fun _ => ⟨⟨σ, hs⟩, fun i q1 q2 => ?_⟩⟩
  · refine mx_sg_fail hs.1 (mx_first_none (fun r hr1 hr2 => ?_))
    rw [hcj]
    have : mx_X (fc E S) (mx_cnt S j) σ r (mx_col E j) = 0 := (sA_nz hM (fc_9 h9 S) h9 hs (by omega) hj).mp (hz r hr1 (by omega))
    simpa using this
  · rw [h3 i hi, if_neg (fun q => by rw [hn] at q; cases q.2)]
  · rw [h3 j hj, if_neg (fun q => absurd q.1 (Nat.lt_irrefl j))]
  · rw [h3 i hi]
    split
    · rename_i hx
      have := mx_cnt_lt hx.1 hx.2
      omega
    · exact Nat.zero_le _
  · rw [h3 i (by omega), if_pos ⟨q1, q2⟩]
theorem cnt_next {S f j : Nat} (hfj : f < j) (hf : S.testBit f = true) : mx_cnt S f + 1 ≤ mx_cnt S j := mx_cnt_lt hfj hf
theorem sI_bad {E : Nat → Int32} {M S j k f : Nat} {bf : Int64} {K : Nat → Int64} {ld : Nat → Nat} (hj : j < 8) (hb : S.testBit j = true) (h : sB E M S j k f bf K ld) : ¬ okS E M S := by
  rintro ⟨σ, hs⟩
  obtain ⟨⟨b1, b2, -⟩, b4, -⟩ := h
  have h1 := cnt_next b1 b2
  have h2 := cnt_next hj hb
  have h3 := (mx_sg_none_le b4 (show mx_cnt S f + 1 ≤ mx_cnt S 8 - 1 by omega)).symm.trans hs.1
  cases h3
theorem qt_z (d : Int64) : qt 0 d = 0 := by
  unfold qt
  split
  · rfl
  · exact Int64.zero_div
theorem sI_piv {E : Nat → Int32} {M S j k i : Nat} {fr : Int32} {bf : Int64} {K K1 K2 : Nat → Int64} {ld : Nat → Nat} (hM : M ≤ 6) (h9 : e9 E) (hj : j < 8) (hb : S.testBit j = true) (h : sI E M S j k fr bf K ld) (g1 : k ≤ i) (g2 : i < M) (g3 : K (i * 8 + j) ≠ 0) (g4 : ∀ r, k ≤ r → r < i → K (r * 8 + j) = 0) (h1 : sw_I K K1 k i 8) (h2 : cm_I K1 K2 k j bf M) : sI E M S (j + 1) (k + 1) fr (K2 (k * 8 + j)) K2 (updN ld j (k + 1)) := by
  rcases h with ⟨e, rfl, ⟨σ, hs⟩, h3⟩ | ⟨f, hf, e, ⟨b1, b2, b3, b3a, b3b⟩, b4, b5, b6, b7, b8, b9, b10⟩
  · have hcj : fc E S (mx_cnt S j) = mx_col E j := by unfold fc; rw [mx_nth_cnt hb hj]
    refine Or.inl ⟨e, by rw [mx_cnt_in hb], sA_step hM (fc_9 h9 S) h9 hj hcj hs g1 g2 g3 g4 h1 h2, fun r hr => ?_⟩
    by_cases hrj : r = j
    · rw [hrj, updN_at, if_pos ⟨Nat.lt_succ_self j, hb⟩]
    · rw [updN_ne hrj, h3 r hr]
      by_cases hx : r < j ∧ S.testBit r = true
      · rw [if_pos hx, if_pos ⟨by omega, hx.2⟩]
      · rw [if_neg hx, if_neg (fun q => hx ⟨by omega, q.2⟩)]
  · have e1 : ∀ r q, q < 8 → K1 (r * 8 + q) = K (mx_sw k i r * 8 + q) := fun r q hq => by rw [h1 r q hq, if_pos hq]
    have hfj : f ≠ j := by omega
    have hz1 : ∀ r, mx_cnt S f ≤ r → r < M → K1 (r * 8 + f) = 0 := by
      intro r q1 q2
      rw [e1 r f hf]
      refine b5 _ ?_ (mx_sw_lt (by omega) g2 q2)
      unfold mx_sw
      split
      · omega
      · split <;> omega
    refine Or.inr ⟨f, hf, e, ⟨by omega, b2, by omega, by omega, ?_⟩, b4, fun r q1 q2 => ?_, fun r q1 q2 => ?_, ?_, fun r q1 => ?_, fun r q1 q2 q3 => ?_, fun q => ?_⟩
    · rw [h2 k j hj, if_neg (by omega), e1 k j hj, mx_sw_l]
      exact g3
    · rw [h2 r f hf]
      split
      · rw [hz1 r q1 q2, hz1 k b3 (by omega), Int64.mul_zero, Int64.mul_zero, Int64.sub_self, qt_z]
      · exact hz1 r q1 q2
    · have : r ≠ j := fun q => by rw [q, hb] at q2; cases q2
      rw [updN_ne this]
      exact b6 r q1 q2
    · rw [updN_ne hfj]; exact b7
    · by_cases hrj : r = j
      · rw [hrj, updN_at]; exact Nat.le_refl _
      · rw [updN_ne hrj]
        have := b8 r q1
        omega
    · by_cases hrj : r = j
      · rw [hrj, updN_at]; omega
      · rw [updN_ne hrj]
        exact b9 r q1 (by omega) q3
    · have h4 := cnt_next b1 b2
      rw [mx_cnt_in hb] at q
      omega
/-! its end -/
theorem sI_none {E : Nat → Int32} {M S R k : Nat} {bf : Int64} {K : Nat → Int64} {ld : Nat → Nat} (hR : R ≤ 8) (hs0 : 0 < S) (hs8 : S < 256) (hSR : S < 2 ^ R) (h : sA E M S R k bf K ld) : ¬ okS E M S := by
  rintro ⟨σ0, hs⟩
  obtain ⟨hk, ⟨σ', h1, -⟩, -⟩ := h
  have hce : mx_cnt S 8 = mx_cnt S R := cnt_hi hSR hR
  have hc1 := nz_cnt S hs8 hs0
  rw [hk, ← hce, show mx_cnt S 8 = (mx_cnt S 8 - 1) + 1 by omega] at h1
  obtain ⟨σ, i, g1, g2, -⟩ := mx_sg_prev h1
  obtain ⟨q1, q2, q3⟩ := mx_first_some g2
  have e : σ0 = σ := Option.some.inj (hs.1.symm.trans g1)
  subst e
  have h5 := hs.2.2 i q1 (by omega)
  rw [h5] at q3
  simp at q3
def fn_I (K : Nat → Int64) (ld : Nat → Nat) (f : Nat) (F0 F : Nat → Int64) (j : Nat) : Prop := ∀ i, i < 8 → F i = if i < j ∧ ld i ≠ 0 then -K ((ld i - 1) * 8 + f) else F0 i
theorem fn_0 (K : Nat → Int64) (ld : Nat → Nat) (f : Nat) (F0 : Nat → Int64) : fn_I K ld f F0 F0 0 := fun i _ => by rw [if_neg (fun q => absurd q.1 (Nat.not_lt_zero i))]
theorem fn_t {K : Nat → Int64} {ld : Nat → Nat} {f : Nat} {F0 F : Nat → Int64} {j : Nat} (hld : ld j ≠ 0) (h : fn_I K ld f F0 F j) : fn_I K ld f F0 (vp_updL F j (-K ((ld j - 1) * 8 + f))) (j + 1) := by
  intro i hi
  by_cases hij : i = j
  · subst hij
    rw [updL_at, if_pos ⟨Nat.lt_succ_self i, hld⟩]
  · rw [updL_ne hij, h i hi]
    by_cases hx : i < j ∧ ld i ≠ 0
    · rw [if_pos hx, if_pos ⟨by omega, hx.2⟩]
    · rw [if_neg hx, if_neg (fun q => hx ⟨by omega, q.2⟩)]
theorem fn_f {K : Nat → Int64} {ld : Nat → Nat} {f : Nat} {F0 F : Nat → Int64} {j : Nat} (hld : ld j = 0) (h : fn_I K ld f F0 F j) : fn_I K ld f F0 F (j + 1) := by
  intro i hi
  rw [h i hi]
  by_cases hx : i < j ∧ ld i ≠ 0
  · rw [if_pos hx, if_pos ⟨by omega, hx.2⟩]
  · have hy : ¬ (i < j + 1 ∧ ld i ≠ 0) := by
      intro q
      have hij : i ≠ j := fun z => q.2 (by rw [z]; exact hld)
      exact hx ⟨by omega, q.2⟩
    rw [if_neg hx, if_neg hy]
theorem cnt_ex {S a : Nat} : ∀ {b : Nat}, a ≤ b → mx_cnt S a < mx_cnt S b → ∃ j, a ≤ j ∧ j < b ∧ S.testBit j = true
  | 0, h1, h2 => by rw [Nat.le_zero.mp h1] at h2; exact absurd h2 (Nat.lt_irrefl _)
  | b + 1, h1, h2 => by
    cases hb : S.testBit b with
    | true =>
      rcases Nat.lt_or_ge b a with h3 | h3
      · rw [show a = b + 1 by omega] at h2; exact absurd h2 (Nat.lt_irrefl _)
      · exact ⟨b, h3, Nat.lt_succ_self b, hb⟩
    | false =>
      rw [mx_cnt_out hb] at h2
      rcases Nat.lt_or_ge b a with h3 | h3
      · rw [show a = b + 1 by omega, mx_cnt_out hb] at h2; exact absurd h2 (Nat.lt_irrefl _)
      · obtain ⟨j, q1, q2, q3⟩ := cnt_ex (b := b) h3 h2
        exact ⟨j, q1, by omega, q3⟩
def st_P (E : Nat → Int32) (M S : Nat) (b : Bool) (F : Nat → Int64) : Prop := (okS E M S → b = true ∧ ∀ j, j < 8 → F j = Int64.ofInt (fvv E M S j)) ∧ (¬ okS E M S → b = false ∨ ∃ j, j < 8 ∧ S.testBit j = true ∧ F j = 0)
theorem st_no {E : Nat → Int32} {M S : Nat} {F : Nat → Int64} (h : ¬ okS E M S) : st_P E M S false F := ⟨fun q => absurd q h, fun _ => Or.inl rfl⟩
theorem neg64_0 : -(0 : Int64) = 0 := by decide
theorem st_fin {E : Nat → Int32} {M S R k f : Nat} {bf : Int64} {K F : Nat → Int64} {ld : Nat → Nat} (hM : M ≤ 6) (h9 : e9 E) (hR : R ≤ 8) (hs0 : 0 < S) (hs8 : S < 256) (hSR : S < 2 ^ R) (hf8 : f < 8) (h : sB E M S R k f bf K ld) (hF : fn_I K ld f (vp_updL (fun _ => 0) f bf) F R) : st_P E M S true F := by
  obtain ⟨⟨b1, b2, b3, b3a, b3b⟩, b4, b5, b6, b7, b8, b9, b10⟩ := h
  have hce : mx_cnt S 8 = mx_cnt S R := cnt_hi hSR hR
  have hmR : ∀ i, i < 8 → S.testBit i = true → i < R := by
    intro i _ hb
    rcases Nat.lt_or_ge i R with h1 | h1
    · exact h1
    · rw [Nat.testBit_lt_two_pow (Nat.lt_of_lt_of_le hSR (Nat.pow_le_pow_right (by decide) h1))] at hb
      cases hb
  have hfR : mx_cnt S f + 1 ≤ mx_cnt S R := cnt_next b1 b2
  by_cases hl : mx_cnt S R = mx_cnt S f + 1
  · -- the free column is the last one
    obtain ⟨⟨σ, a1, a2, a3⟩, hld⟩ := b10 hl
    have hn1 : mx_cnt S 8 - 1 = mx_cnt S f := by omega
    have hs : sgm E M S = some σ := by unfold sgm; rw [hn1]; exact a1
    have hcf : fc E S (mx_cnt S 8 - 1) = mx_col E f := by unfold fc; rw [hn1, mx_nth_cnt b2 hf8]
    have hall : ∀ j, j < 8 → F j = Int64.ofInt (fvv E M S j) := by
      intro j hj
      rw [hF j hj, fvv_some hs]
      cases hb : S.testBit j with
      | false =>
        rw [if_neg (fun q => q.2 (b6 j hj hb)), if_neg (by decide), updL_ne (fun q => by rw [q, b2] at hb; cases hb)]
        rfl
      | true =>
        rw [if_pos rfl]
        by_cases hjf : j = f
        · subst hjf
          rw [if_neg (fun q => q.2 b7), updL_at, a2, hn1]
          unfold mx_fl
          rw [if_neg (Nat.lt_irrefl _)]
        · have hjf2 : j < f := by
            rcases Nat.lt_or_gt_of_ne hjf with q | q
            · exact q
            · have q1 : mx_cnt S f + 1 ≤ mx_cnt S j := cnt_next q b2
              have q2 : mx_cnt S j + 1 ≤ mx_cnt S R := cnt_next (hmR j hj hb) hb
              omega
          have hlt := cnt_next hjf2 hb
          rw [if_pos ⟨hmR j hj hb, by rw [hld j hjf2 hb]; omega⟩, hld j hjf2 hb, show mx_cnt S j + 1 - 1 = mx_cnt S j by omega, a3 _ f (by omega) hf8, hn1]
          unfold mx_fl
          rw [if_pos (by omega), Int64.ofInt_neg, ← hn1, hcf]
    refine ⟨fun _ => ⟨rfl, hall⟩, fun hno => Or.inr ?_⟩
    refine Classical.byContradiction (fun hx => hno ⟨σ, hs, fun t ht q => ?_, fun i q1 q2 => ?_⟩)
    · obtain ⟨g1, g2, g3⟩ := mx_nth_in (S := S) (t := t) (by omega)
      refine hx ⟨mx_nth S t, g1, g2, ?_⟩
      rw [hall _ g1, fvv_some hs, if_pos g2, g3]
      unfold mx_fl
      rw [if_pos ht, q]
      rfl
    · rw [hcf, hn1]
      rw [hn1] at q1
      have := b5 i q1 q2
      rw [a3 i f q2 hf8] at this
      exact (l64_zero (mx_X_abs hM (mx_sg_ok a1).1 q2 (fc_9 h9 S) (col_9 h9 f))).mp this
  · -- a column behind the free one
    obtain ⟨j, q1, q2, q3⟩ := cnt_ex (S := S) (a := f + 1) (b := R) (by omega) (by rw [mx_cnt_in b2]; omega)
    have h1 := b9 j (by omega) q2 q3
    have h2 := b8 j (by omega)
    refine ⟨fun ⟨σ, hs⟩ => ?_, fun _ => Or.inr ⟨j, by omega, q3, ?_⟩⟩
    · have h3 := (mx_sg_none_le b4 (show mx_cnt S f + 1 ≤ mx_cnt S 8 - 1 by omega)).symm.trans hs.1
      cases h3
    · rw [hF j (by omega), if_pos ⟨q2, by omega⟩, b5 _ (by omega) (by omega)]
      exact neg64_0
theorem cp_s {K : Nat → Int64} {E : Nat → Int32} {i : Nat} (h : ∀ q, q < i → K q = (E q).toInt64) : ∀ q, q < i + 1 → vp_updL K i (E i).toInt64 q = (E q).toInt64 := by
  intro q hq
  by_cases hqi : q = i
  · rw [hqi]; exact updL_at _ _ _
  · rw [updL_ne hqi]; exact h q (by omega)
theorem fzl_s {F : Nat → Int64} {v : Int64} {i : Nat} (h : ∀ q, q < i → F q = v) : ∀ q, q < i + 1 → vp_updL F i v q = v := by
  intro q hq
  by_cases hqi : q = i
  · rw [hqi]; exact updL_at _ _ _
  · rw [updL_ne hqi]; exact h q (by omega)
theorem pq_s {K : Nat → Int64} {k j i : Nat} (h : ∀ r, k ≤ r → r < i → K (r * 8 + j) = 0) (hz : K (i * 8 + j) = 0) : ∀ r, k ≤ r → r < i + 1 → K (r * 8 + j) = 0 := by
  intro r h1 h2
  by_cases hr : r = i
  · rw [hr]; exact hz
  · exact h r h1 (by omega)
theorem fn_z {K : Nat → Int64} {ld : Nat → Nat} {f R : Nat} {F1 F : Nat → Int64} {bf : Int64} (hz : ∀ q, q < 8 → F1 q = 0) (h : fn_I K ld f (vp_updL F1 f bf) F R) : fn_I K ld f (vp_updL (fun _ => 0) f bf) F R := by
  intro i hi
  rw [h i hi]
  by_cases hx : i < R ∧ ld i ≠ 0
  · rw [if_pos hx, if_pos hx]
  · rw [if_neg hx, if_neg hx]
    by_cases hif : i = f
    · rw [hif, updL_at, updL_at]
    · rw [updL_ne hif, updL_ne hif]; exact hz i hi
