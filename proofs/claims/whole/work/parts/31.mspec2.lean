/-! the reference's elimination and signs -/
theorem qt_ne {v d : Int64} (h : ¬ d = 0) : v / d = qt v d := (if_neg h).symm
def ci_I (K0 K : Nat → Int64) (i row : Nat) (ld f bf : Int64) (j : Nat) : Prop := ∀ r q, q < 8 → K (r * 8 + q) = if r = i ∧ q < j then qt (ld * K0 (i * 8 + q) - f * K0 (row * 8 + q)) bf else K0 (r * 8 + q)
theorem ci_0 (K0 : Nat → Int64) (i row : Nat) (ld f bf : Int64) : ci_I K0 K0 i row ld f bf 0 := fun r q _ => by rw [if_neg (by omega)]
theorem ci_s {K0 K : Nat → Int64} {i row : Nat} {ld f bf : Int64} {j : Nat} (hir : i ≠ row) (hj : j < 8) (h : ci_I K0 K i row ld f bf j) : ci_I K0 (vp_updL K (i * 8 + j) (qt (ld * K (i * 8 + j) - f * K (row * 8 + j)) bf)) i row ld f bf (j + 1) := by
  have e1 : K (i * 8 + j) = K0 (i * 8 + j) := by rw [h i j hj, if_neg (by omega)]
  have e2 : K (row * 8 + j) = K0 (row * 8 + j) := by rw [h row j hj, if_neg (by omega)]
  intro r q hq
  by_cases hx : r = i ∧ q = j
  · obtain ⟨rfl, rfl⟩ := hx
    rw [updL_at, e1, e2, if_pos ⟨rfl, Nat.lt_succ_self q⟩]
  · rw [updL_ne (ix_ne hq hj (by omega)), h r q hq]
    by_cases h1 : r = i ∧ q < j
    · rw [if_pos h1, if_pos ⟨h1.1, by omega⟩]
    · rw [if_neg h1, if_neg (by omega)]
def cm_I (K0 K : Nat → Int64) (row c : Nat) (bf : Int64) (i : Nat) : Prop := ∀ r q, q < 8 → K (r * 8 + q) = if r < i ∧ r ≠ row then qt (K0 (row * 8 + c) * K0 (r * 8 + q) - K0 (r * 8 + c) * K0 (row * 8 + q)) bf else K0 (r * 8 + q)
theorem cm_0 (K0 : Nat → Int64) (row c : Nat) (bf : Int64) : cm_I K0 K0 row c bf 0 := fun r q _ => by rw [if_neg (by omega)]
theorem cm_skip {K0 K : Nat → Int64} {row c : Nat} {bf : Int64} (h : cm_I K0 K row c bf row) : cm_I K0 K row c bf (row + 1) := by
  intro r q hq
  rw [h r q hq]
  by_cases h1 : r < row ∧ r ≠ row
  · rw [if_pos h1, if_pos (by omega)]
  · rw [if_neg h1, if_neg (by omega)]
theorem cm_s {K0 K K' : Nat → Int64} {row c : Nat} {bf : Int64} {i : Nat} (hir : i ≠ row) (hc : c < 8) (h : cm_I K0 K row c bf i) (h2 : ci_I K K' i row (K0 (row * 8 + c)) (K (i * 8 + c)) bf 8) : cm_I K0 K' row c bf (i + 1) := by
  have e1 : ∀ q, q < 8 → K (i * 8 + q) = K0 (i * 8 + q) := fun q hq => by rw [h i q hq, if_neg (by omega)]
  have e2 : ∀ q, q < 8 → K (row * 8 + q) = K0 (row * 8 + q) := fun q hq => by rw [h row q hq, if_neg (by omega)]
  intro r q hq
  rw [h2 r q hq]
  by_cases h1 : r = i
  · subst h1
    rw [if_pos ⟨rfl, hq⟩, if_pos ⟨Nat.lt_succ_self r, hir⟩, e1 q hq, e1 c hc, e2 q hq]
  · rw [if_neg (fun z => h1 z.1), h r q hq]
    by_cases h5 : r < i ∧ r ≠ row
    · rw [if_pos h5, if_pos (by omega)]
    · rw [if_neg h5, if_neg (by omega)]
/-! signs -/
def sgd (S V : Nat) (F : Nat → Int64) : Prop := (∀ i, i < 8 → S.testBit i = true → F i ≠ 0) ∧ dirS S V (fun j => decide (0 < F j)) ≠ 0
def nrs (S V j i : Nat) : Prop := j ≤ i ∧ i < 8 ∧ S.testBit i = true ∧ V.testBit i = false
def sgI (S V : Nat) (F : Nat → Int64) (j : Nat) (sg fi : Int32) : Prop :=
  (∀ i, j ≤ i → i < 8 → S.testBit i = true → F i ≠ 0) ∧
  ((sg = 0 ∧ ∀ i, ¬ nrs S V j i) ∨ (sg = 1 ∧ (∃ i, nrs S V j i) ∧ ∀ i, nrs S V j i → 0 < F i) ∨ (sg = -1 ∧ (∃ i, nrs S V j i) ∧ ∀ i, nrs S V j i → ¬ 0 < F i)) ∧
  ((∀ i, j ≤ i → i < 8 → S.testBit i = false) ∨ ∃ i, j ≤ i ∧ i < 8 ∧ S.testBit i = true ∧ (∀ i', j ≤ i' → i' < i → S.testBit i' = false) ∧ fi = if 0 < F i then 1 else -1)
theorem sg_start {S V R : Nat} {F : Nat → Int64} (hS : S < 2 ^ R) : sgI S V F R 0 0 := by
  have hz : ∀ i, R ≤ i → S.testBit i = false := fun i h => Nat.testBit_lt_two_pow (Nat.lt_of_lt_of_le hS (Nat.pow_le_pow_right (by decide) h))
  refine ⟨fun i h1 _ h2 => ?_, Or.inl ⟨rfl, fun i h => ?_⟩, Or.inl (fun i h1 _ => hz i h1)⟩
  · rw [hz i h1] at h2; cases h2
  · have h2 := h.2.2.1
    rw [hz i h.1] at h2; cases h2
theorem nrs_skip {S V j i : Nat} (h : S.testBit j = false ∨ V.testBit j = true) (hn : nrs S V j i) : nrs S V (j + 1) i := by
  refine ⟨?_, hn.2⟩
  have h1 := hn.1
  by_cases hij : i = j
  · subst hij
    rcases h with h | h
    · rw [hn.2.2.1] at h; cases h
    · rw [hn.2.2.2] at h; cases h
  · omega
theorem nrs_up {S V j i : Nat} (hn : nrs S V (j + 1) i) : nrs S V j i := ⟨by have := hn.1; omega, hn.2⟩
theorem sg_mid {S V j : Nat} {F : Nat → Int64} {sg : Int32} (h : S.testBit j = false ∨ V.testBit j = true) (hI : (sg = 0 ∧ ∀ i, ¬ nrs S V (j + 1) i) ∨ (sg = 1 ∧ (∃ i, nrs S V (j + 1) i) ∧ ∀ i, nrs S V (j + 1) i → 0 < F i) ∨ (sg = -1 ∧ (∃ i, nrs S V (j + 1) i) ∧ ∀ i, nrs S V (j + 1) i → ¬ 0 < F i)) : (sg = 0 ∧ ∀ i, ¬ nrs S V j i) ∨ (sg = 1 ∧ (∃ i, nrs S V j i) ∧ ∀ i, nrs S V j i → 0 < F i) ∨ (sg = -1 ∧ (∃ i, nrs S V j i) ∧ ∀ i, nrs S V j i → ¬ 0 < F i) := by
  rcases hI with ⟨h1, h2⟩ | ⟨h1, ⟨i, hi⟩, h2⟩ | ⟨h1, ⟨i, hi⟩, h2⟩
  · exact Or.inl ⟨h1, fun i hn => h2 i (nrs_skip h hn)⟩
  · exact Or.inr (Or.inl ⟨h1, ⟨i, nrs_up hi⟩, fun i hn => h2 i (nrs_skip h hn)⟩)
  · exact Or.inr (Or.inr ⟨h1, ⟨i, nrs_up hi⟩, fun i hn => h2 i (nrs_skip h hn)⟩)
theorem sg_skip {S V j : Nat} {F : Nat → Int64} {sg fi : Int32} (hb : S.testBit j = false) (h : sgI S V F (j + 1) sg fi) : sgI S V F j sg fi := by
  obtain ⟨h1, h2, h3⟩ := h
  have hne : ∀ {i}, S.testBit i = true → i ≠ j := fun hi q => by rw [q, hb] at hi; cases hi
  refine ⟨fun i a b d => h1 i (by have := hne d; omega) b d, sg_mid (Or.inl hb) h2, ?_⟩
  rcases h3 with h3 | ⟨i, a, b, d, g, k⟩
  · refine Or.inl (fun i a b => ?_)
    by_cases hij : i = j
    · rw [hij]; exact hb
    · exact h3 i (by omega) b
  · refine Or.inr ⟨i, by omega, b, d, fun i' q1 q2 => ?_, k⟩
    by_cases hij : i' = j
    · rw [hij]; exact hb
    · exact g i' (by omega) q2
theorem sg_nz {S V j : Nat} {F : Nat → Int64} {sg fi : Int32} (hz : F j ≠ 0) (h : sgI S V F (j + 1) sg fi) : ∀ i, j ≤ i → i < 8 → S.testBit i = true → F i ≠ 0 := by
  intro i a b d
  by_cases hij : i = j
  · rw [hij]; exact hz
  · exact h.1 i (by omega) b d
theorem sg_fi {S j : Nat} {F : Nat → Int64} {s : Int32} (hj : j < 8) (hb : S.testBit j = true) (hs : s = if 0 < F j then 1 else -1) : (∀ i, j ≤ i → i < 8 → S.testBit i = false) ∨ ∃ i, j ≤ i ∧ i < 8 ∧ S.testBit i = true ∧ (∀ i', j ≤ i' → i' < i → S.testBit i' = false) ∧ s = if 0 < F i then 1 else -1 := Or.inr ⟨j, Nat.le_refl j, hj, hb, fun i' a b => absurd a (by omega), hs⟩
theorem sg_rev {S V j : Nat} {F : Nat → Int64} {sg fi s : Int32} (hj : j < 8) (hb : S.testBit j = true) (hz : F j ≠ 0) (hv : V.testBit j = true) (hs : s = if 0 < F j then 1 else -1) (h : sgI S V F (j + 1) sg fi) : sgI S V F j sg s := ⟨sg_nz hz h, sg_mid (Or.inr hv) h.2.1, sg_fi hj hb hs⟩
theorem sg_pos {S V j : Nat} {F : Nat → Int64} {sg fi : Int32} (hj : j < 8) (hb : S.testBit j = true) (hz : F j ≠ 0) (hv : V.testBit j = false) (hp : 0 < F j) (hc : ¬ sg = -1) (h : sgI S V F (j + 1) sg fi) : sgI S V F j 1 1 := by
  refine ⟨sg_nz hz h, Or.inr (Or.inl ⟨rfl, ⟨j, Nat.le_refl j, hj, hb, hv⟩, fun i hn => ?_⟩), sg_fi hj hb (by rw [if_pos hp])⟩
  by_cases hij : i = j
  · rw [hij]; exact hp
  · have hn' : nrs S V (j + 1) i := ⟨by have := hn.1; omega, hn.2⟩
    rcases h.2.1 with ⟨-, h2⟩ | ⟨-, -, h2⟩ | ⟨h1, -⟩
    · exact absurd hn' (h2 i)
    · exact h2 i hn'
    · exact absurd h1 hc
theorem sg_neg {S V j : Nat} {F : Nat → Int64} {sg fi : Int32} (hj : j < 8) (hb : S.testBit j = true) (hz : F j ≠ 0) (hv : V.testBit j = false) (hp : ¬ 0 < F j) (hc : ¬ sg = 1) (h : sgI S V F (j + 1) sg fi) : sgI S V F j (-1) (-1) := by
  refine ⟨sg_nz hz h, Or.inr (Or.inr ⟨rfl, ⟨j, Nat.le_refl j, hj, hb, hv⟩, fun i hn => ?_⟩), sg_fi hj hb (by rw [if_neg hp])⟩
  by_cases hij : i = j
  · rw [hij]; exact hp
  · have hn' : nrs S V (j + 1) i := ⟨by have := hn.1; omega, hn.2⟩
    rcases h.2.1 with ⟨-, h2⟩ | ⟨h1, -⟩ | ⟨-, -, h2⟩
    · exact absurd hn' (h2 i)
    · exact absurd h1 hc
    · exact h2 i hn'
theorem sgd_zero {S V j : Nat} {F : Nat → Int64} (hj : j < 8) (hb : S.testBit j = true) (hz : F j = 0) : ¬ sgd S V F := fun h => h.1 j hj hb hz
theorem sgd_mix {S V a b : Nat} {F : Nat → Int64} (ha : nrs S V 0 a) (hb : nrs S V 0 b) (hpa : 0 < F a) (hpb : ¬ 0 < F b) : ¬ sgd S V F := by
  intro h
  refine h.2 ?_
  unfold dirS
  rw [if_neg, if_neg, if_neg]
  · intro q
    have := al8_t.mp q a ha.2.1
    rw [ha.2.2.1, ha.2.2.2] at this
    dsimp only at this
    rw [decide_eq_true hpa] at this
    cases this
  · intro q
    have := al8_t.mp q b hb.2.1
    rw [hb.2.2.1, hb.2.2.2] at this
    dsimp only at this
    rw [decide_eq_false hpb] at this
    cases this
  · intro q
    have := al8_t.mp q a ha.2.1
    rw [ha.2.2.1, ha.2.2.2] at this
    cases this
theorem nrs_0 {S V j i : Nat} (h : nrs S V j i) : nrs S V 0 i := ⟨Nat.zero_le i, h.2⟩
theorem sgd_p {S V j : Nat} {F : Nat → Int64} {sg fi : Int32} (hj : j < 8) (hb : S.testBit j = true) (hv : V.testBit j = false) (hp : 0 < F j) (hc : sg = -1) (h : sgI S V F (j + 1) sg fi) : ¬ sgd S V F := by
  rcases h.2.1 with ⟨h1, -⟩ | ⟨h1, -⟩ | ⟨-, ⟨i, hi⟩, h2⟩
  · rw [hc] at h1; exact absurd h1 (by decide)
  · rw [hc] at h1; exact absurd h1 (by decide)
  · exact sgd_mix ⟨Nat.zero_le j, hj, hb, hv⟩ (nrs_0 hi) hp (h2 i hi)
theorem sgd_n {S V j : Nat} {F : Nat → Int64} {sg fi : Int32} (hj : j < 8) (hb : S.testBit j = true) (hv : V.testBit j = false) (hp : ¬ 0 < F j) (hc : sg = 1) (h : sgI S V F (j + 1) sg fi) : ¬ sgd S V F := by
  rcases h.2.1 with ⟨h1, -⟩ | ⟨-, ⟨i, hi⟩, h2⟩ | ⟨h1, -⟩
  · rw [hc] at h1; exact absurd h1 (by decide)
  · exact sgd_mix (nrs_0 hi) ⟨Nat.zero_le j, hj, hb, hv⟩ (h2 i hi) hp
  · rw [hc] at h1; exact absurd h1 (by decide)
theorem rev_all {S V : Nat} (h : ∀ i, ¬ nrs S V 0 i) : al8 (fun j => !(S.testBit j) || V.testBit j) = true := by
  rw [al8_t]
  intro j hj
  cases hs : S.testBit j with
  | false => rfl
  | true =>
    cases hv : V.testBit j with
    | true => rfl
    | false => exact absurd ⟨Nat.zero_le j, hj, hs, hv⟩ (h j)
theorem rev_not {S V i : Nat} (h : nrs S V 0 i) : ¬ al8 (fun j => !(S.testBit j) || V.testBit j) = true := by
  intro q
  have := al8_t.mp q i h.2.1
  rw [h.2.2.1, h.2.2.2] at this
  cases this
theorem least_nth {S i : Nat} (hi : i < 8) (hb : S.testBit i = true) (hl : ∀ i', 0 ≤ i' → i' < i → S.testBit i' = false) : mx_nth S 0 = i := by
  have hc : ∀ k, k ≤ i → mx_cnt S k = 0 := by
    intro k
    induction k with
    | zero => intro _; rfl
    | succ k ih => intro hk; rw [mx_cnt_out (hl k (Nat.zero_le k) (by omega))]; exact ih (by omega)
  rw [← hc i (Nat.le_refl i)]
  exact mx_nth_cnt hb hi
theorem sg_d0 {S V : Nat} {F : Nat → Int64} {sg fi : Int32} (hS : S < 256) (h0 : 0 < S) (hz : sg = 0) (h : sgI S V F 0 sg fi) : fi = dirS S V (fun j => decide (0 < F j)) := by
  obtain ⟨h1, h2, h3⟩ := h
  have hr : ∀ i, ¬ nrs S V 0 i := by
    rcases h2 with ⟨-, h2⟩ | ⟨q, -⟩ | ⟨q, -⟩
    · exact h2
    · rw [hz] at q; exact absurd q (by decide)
    · rw [hz] at q; exact absurd q (by decide)
  rcases h3 with h3 | ⟨i, -, b, d, g, k⟩
  · have hn := mx_nth_in (S := S) (t := 0) (nz_cnt S hS h0)
    rw [h3 _ (Nat.zero_le _) hn.1] at hn
    cases hn.2.1
  · unfold dirS
    rw [if_pos (rev_all hr), least_nth b d g, k]
    by_cases hp : 0 < F i
    · rw [if_pos hp, if_pos (decide_eq_true hp)]
    · rw [if_neg hp, if_neg (fun q => hp (of_decide_eq_true q))]
theorem sg_d1 {S V : Nat} {F : Nat → Int64} {sg fi : Int32} (hz : ¬ sg = 0) (h : sgI S V F 0 sg fi) : sg = dirS S V (fun j => decide (0 < F j)) := by
  rcases h.2.1 with ⟨q, -⟩ | ⟨q, ⟨i, hi⟩, h2⟩ | ⟨q, ⟨i, hi⟩, h2⟩
  · exact absurd q hz
  · unfold dirS
    rw [if_neg (rev_not hi), if_pos, q]
    rw [al8_t]
    intro j hj
    cases hs : S.testBit j with
    | false => rfl
    | true =>
      cases hv : V.testBit j with
      | true => rfl
      | false => exact decide_eq_true (h2 j ⟨Nat.zero_le j, hj, hs, hv⟩)
  · unfold dirS
    rw [if_neg (rev_not hi), if_neg, if_pos, q]
    · rw [al8_t]
      intro j hj
      cases hs : S.testBit j with
      | false => rfl
      | true =>
        cases hv : V.testBit j with
        | true => rfl
        | false =>
          have h4 := h2 j ⟨Nat.zero_le j, hj, hs, hv⟩
          show (!decide (0 < F j)) = true
          rw [decide_eq_false h4]
          rfl
    · intro q2
      have := al8_t.mp q2 i hi.2.1
      rw [hi.2.2.1, hi.2.2.2] at this
      dsimp only at this
      rw [decide_eq_false (h2 i hi)] at this
      cases this
theorem dirS_ne0 {S V : Nat} {F : Nat → Int64} {sg fi d : Int32} (hd : d = dirS S V (fun j => decide (0 < F j))) (h : sgI S V F 0 sg fi) (hd2 : d = sg ∧ ¬ sg = 0 ∨ sg = 0 ∧ d = fi) (hS : S < 256) (h0 : 0 < S) : sgd S V F := by
  refine ⟨fun i hi hb => h.1 i (Nat.zero_le i) hi hb, ?_⟩
  rw [← hd]
  rcases hd2 with ⟨e, hn⟩ | ⟨-, e⟩
  · rw [e]; exact hn
  · rcases h.2.2 with h3 | ⟨i, -, b, dd, g, k⟩
    · have hn := mx_nth_in (S := S) (t := 0) (nz_cnt S hS h0)
      rw [h3 _ (Nat.zero_le _) hn.1] at hn
      cases hn.2.1
    · rw [e, k]
      split <;> decide
def ml_I (F0 F : Nat → Int64) (d : Int32) (j : Nat) : Prop := ∀ i, i < 8 → F i = if i < j then d.toInt64 * F0 i else F0 i
theorem ml_0 (F0 : Nat → Int64) (d : Int32) : ml_I F0 F0 d 0 := fun i _ => by rw [if_neg (Nat.not_lt_zero i)]
theorem ml_s {F0 F : Nat → Int64} {d : Int32} {j : Nat} (hj : j < 8) (h : ml_I F0 F d j) : ml_I F0 (vp_updL F j (d.toInt64 * F j)) d (j + 1) := by
  intro i hi
  by_cases hij : i = j
  · subst hij
    rw [updL_at, if_pos (Nat.lt_succ_self i), h i hi, if_neg (Nat.lt_irrefl i)]
  · rw [updL_ne hij, h i hi]
    by_cases h1 : i < j
    · rw [if_pos h1, if_pos (by omega)]
    · rw [if_neg h1, if_neg (by omega)]
theorem ab_p {x : Int} (hx : x.natAbs ≤ 382637520) (h : ¬ Int64.ofInt x < 0) : Int64.ofInt x = lN x.natAbs := by
  rw [Int64.lt_iff_toInt_lt, l64_toInt hx] at h
  have h0 : (0 : Int64).toInt = 0 := by decide
  rw [lN_ofInt, show ((x.natAbs : Nat) : Int) = x by omega]
theorem ab_m {x : Int} (hx : x.natAbs ≤ 382637520) (h : Int64.ofInt x < 0) : -Int64.ofInt x = lN x.natAbs := by
  rw [Int64.lt_iff_toInt_lt, l64_toInt hx] at h
  have h0 : (0 : Int64).toInt = 0 := by decide
  rw [lN_ofInt, ← Int64.ofInt_neg, show ((x.natAbs : Nat) : Int) = -x by omega]
theorem gdv_0 {x : Nat → Nat} : ∀ {j : Nat}, gdv x j = 0 → ∀ i, i < j → x i = 0
  | 0, _, i, h => absurd h (Nat.not_lt_zero i)
  | j + 1, h, i, hi => by
    have h1 : Nat.gcd (gdv x j) (x j) = 0 := h
    rw [Nat.gcd_eq_zero_iff] at h1
    by_cases hij : i = j
    · rw [hij]; exact h1.2
    · exact gdv_0 h1.1 i (by omega)
theorem gdv_congr {x y : Nat → Nat} : ∀ {j : Nat}, (∀ i, i < j → x i = y i) → gdv x j = gdv y j
  | 0, _ => rfl
  | j + 1, h => by
    show Nat.gcd (gdv x j) (x j) = Nat.gcd (gdv y j) (y j)
    rw [gdv_congr (j := j) (fun i hi => h i (by omega)), h j (by omega)]
