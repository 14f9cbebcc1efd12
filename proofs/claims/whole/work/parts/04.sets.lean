/-! sets of at most eight reactions, as numbers below 256 -/
def mx_cnt (S : Nat) : Nat → Nat
  | 0 => 0
  | j + 1 => if S.testBit j = true then mx_cnt S j + 1 else mx_cnt S j
def mx_nthF (S t : Nat) : Nat → Nat → Nat
  | _, 0 => 0
  | j, n + 1 => if S.testBit j = true ∧ mx_cnt S j = t then j else mx_nthF S t (j + 1) n
/-- the t-th reaction of the set -/
def mx_nth (S t : Nat) : Nat := mx_nthF S t 0 8
theorem mx_cnt_in {S j : Nat} (h : S.testBit j = true) : mx_cnt S (j + 1) = mx_cnt S j + 1 := if_pos h
theorem mx_cnt_out {S j : Nat} (h : S.testBit j = false) : mx_cnt S (j + 1) = mx_cnt S j := if_neg (by rw [h]; decide)
theorem mx_cnt_mono (S : Nat) : ∀ {a b : Nat}, a ≤ b → mx_cnt S a ≤ mx_cnt S b := by
  intro a b h
  induction b with
  | zero => rw [Nat.le_zero.mp h]; exact Nat.le_refl _
  | succ b ih =>
    rcases Nat.lt_or_ge a (b + 1) with h1 | h1
    · refine Nat.le_trans (ih (by omega)) ?_
      cases hb : S.testBit b with
      | true => rw [mx_cnt_in hb]; omega
      | false => rw [mx_cnt_out hb]; exact Nat.le_refl _
    · rw [show a = b + 1 by omega]; exact Nat.le_refl _
theorem mx_cnt_lt {S a b : Nat} (h : a < b) (ha : S.testBit a = true) : mx_cnt S a < mx_cnt S b := by
  have h1 := mx_cnt_mono S (show a + 1 ≤ b from h)
  rw [mx_cnt_in ha] at h1
  exact h1
theorem mx_cnt_le (S : Nat) : ∀ j, mx_cnt S j ≤ j
  | 0 => Nat.le_refl 0
  | j + 1 => by
    have := mx_cnt_le S j
    unfold mx_cnt
    split <;> omega
theorem mx_cnt_inj {S a b : Nat} (ha : S.testBit a = true) (hb : S.testBit b = true) (h : mx_cnt S a = mx_cnt S b) : a = b := by
  rcases Nat.lt_trichotomy a b with h1 | h1 | h1
  · have := mx_cnt_lt h1 ha; omega
  · exact h1
  · have := mx_cnt_lt h1 hb; omega
theorem mx_nthF_at {S j : Nat} (hj : S.testBit j = true) : ∀ {n i : Nat}, i ≤ j → j < i + n → mx_nthF S (mx_cnt S j) i n = j
  | 0, i, h1, h2 => absurd h2 (by omega)
  | n + 1, i, h1, h2 => by
    unfold mx_nthF
    by_cases hi : S.testBit i = true ∧ mx_cnt S i = mx_cnt S j
    · rw [if_pos hi]; exact mx_cnt_inj hi.1 hj hi.2
    · rw [if_neg hi]
      have : i ≠ j := fun q => hi (by rw [q]; exact ⟨hj, rfl⟩)
      exact mx_nthF_at hj (by omega) (by omega)
theorem mx_nth_cnt {S j : Nat} (hj : S.testBit j = true) (h8 : j < 8) : mx_nth S (mx_cnt S j) = j := mx_nthF_at hj (Nat.zero_le j) (by omega)
theorem mx_nthF_in {S t : Nat} : ∀ {n i : Nat}, mx_cnt S i ≤ t → t < mx_cnt S (i + n) → i ≤ mx_nthF S t i n ∧ mx_nthF S t i n < i + n ∧ S.testBit (mx_nthF S t i n) = true ∧ mx_cnt S (mx_nthF S t i n) = t
  | 0, i, h1, h2 => absurd h2 (by rw [Nat.add_zero]; omega)
  | n + 1, i, h1, h2 => by
    unfold mx_nthF
    by_cases hi : S.testBit i = true ∧ mx_cnt S i = t
    · rw [if_pos hi]; exact ⟨Nat.le_refl _, by omega, hi.1, hi.2⟩
    · rw [if_neg hi]
      have h3 : mx_cnt S (i + 1) ≤ t := by
        cases hb : S.testBit i with
        | true =>
          have : mx_cnt S i ≠ t := fun q => hi ⟨hb, q⟩
          rw [mx_cnt_in hb]; omega
        | false => rw [mx_cnt_out hb]; exact h1
      obtain ⟨q1, q2, q3, q4⟩ := mx_nthF_in (n := n) (i := i + 1) h3 (by rw [show i + 1 + n = i + (n + 1) by omega]; exact h2)
      exact ⟨by omega, by omega, q3, q4⟩
theorem mx_nth_in {S t : Nat} (h : t < mx_cnt S 8) : mx_nth S t < 8 ∧ S.testBit (mx_nth S t) = true ∧ mx_cnt S (mx_nth S t) = t := by
  obtain ⟨-, q2, q3, q4⟩ := mx_nthF_in (S := S) (t := t) (n := 8) (i := 0) (Nat.zero_le t) h
  exact ⟨by unfold mx_nth; omega, q3, q4⟩
/-- a sum over the set, by reactions and by places -/
theorem mx_sm_set {S : Nat} (g : Nat → Nat → Int) : ∀ {J : Nat}, J ≤ 8 → mx_sm (fun j => if S.testBit j = true then g (mx_cnt S j) j else 0) J = mx_sm (fun t => g t (mx_nth S t)) (mx_cnt S J)
  | 0, _ => rfl
  | J + 1, h => by
    show mx_sm _ J + (if S.testBit J = true then g (mx_cnt S J) J else 0) = _
    rw [mx_sm_set g (J := J) (by omega)]
    cases hb : S.testBit J with
    | true =>
      rw [mx_cnt_in hb, if_pos rfl]
      show _ = mx_sm _ (mx_cnt S J) + g (mx_cnt S J) (mx_nth S (mx_cnt S J))
      rw [mx_nth_cnt hb (by omega)]
    | false =>
      rw [mx_cnt_out hb, if_neg (by decide)]
      omega
/-! no listed set lies inside another one -/
theorem mx_antichain {A : Nat → Nat → Int} {M S T : Nat} {σ τ : Nat → Nat} {kS kT : Nat} (hS : mx_cnt S 8 = kS + 1) (hT : mx_cnt T 8 = kT + 1) (oS : mx_ok (fun t => A (mx_nth S t)) M kS σ) (oT : mx_ok (fun t => A (mx_nth T t)) M kT τ) (hsub : ∀ j, j < 8 → S.testBit j = true → T.testBit j = true) : ∀ j, j < 8 → T.testBit j = true → S.testBit j = true := by
  intro j hj hTj
  cases hSj : S.testBit j with
  | true => rfl
  | false =>
    exfalso
    -- the flow of S as rates of all reactions
    obtain ⟨f, hf⟩ : ∃ f : Nat → Int, f = fun i => if S.testBit i = true then mx_fl (fun t => A (mx_nth S t)) kS σ (mx_cnt S i) else 0 := ⟨_, rfl⟩
    have hker : ∀ s, s < M → mx_sm (fun t => f (mx_nth T t) * A (mx_nth T t) s) (kT + 1) = 0 := by
      intro s hs
      have h1 := mx_fl_ker oS hs
      rw [← hS, ← mx_sm_set (S := S) (fun t i => mx_fl (fun t => A (mx_nth S t)) kS σ t * A i s) (Nat.le_refl 8)] at h1
      have h2 := mx_sm_set (S := T) (fun _ i => f i * A i s) (Nat.le_refl 8)
      rw [hT] at h2
      refine h2.symm.trans (Eq.trans (mx_sm_congr (fun i hi => ?_)) h1)
      rw [hf]
      dsimp only
      cases hSi : S.testBit i with
      | true => rw [if_pos (hsub i hi hSi), if_pos rfl, if_pos rfl]
      | false => simp
    have hlast := mx_nth_in (S := T) (t := kT) (by omega)
    have hone : ∀ i, i < kT → mx_p (fun t => A (mx_nth T t)) kT τ * f (mx_nth T i) = - mx_X (fun t => A (mx_nth T t)) kT τ i (A (mx_nth T kT)) * f (mx_nth T kT) := fun i hi => mx_ker_one oT.1 (fun t => f (mx_nth T t)) hker hi
    have hplace : ∀ i, i < 8 → T.testBit i = true → i ≠ mx_nth T kT → mx_cnt T i < kT := by
      intro i hi hTi hne
      have h1 : mx_cnt T i < mx_cnt T 8 := mx_cnt_lt hi hTi
      have h2 : mx_cnt T i ≠ kT := fun q => hne (by rw [← q, mx_nth_cnt hTi hi])
      omega
    cases hL : S.testBit (mx_nth T kT) with
    | true =>
      have hne : j ≠ mx_nth T kT := fun q => by rw [← q, hSj] at hL; cases hL
      have hi := hplace j hj hTj hne
      have h1 := hone _ hi
      rw [mx_nth_cnt hTj hj] at h1
      have f1 : f j = 0 := by rw [hf]; exact if_neg (by rw [hSj]; decide)
      have f2 : f (mx_nth T kT) ≠ 0 := by
        rw [hf]
        dsimp only
        rw [if_pos hL]
        exact mx_fl_ne oS _
      have h2 := oT.2.1 _ hi
      rw [f1, Int.mul_zero] at h1
      rcases Int.mul_eq_zero.mp h1.symm with h3 | h3
      · exact h2 (by dsimp only; omega)
      · exact f2 h3
    | false =>
      have h0 : 0 < mx_cnt S 8 := by omega
      obtain ⟨g1, g2, g3⟩ := mx_nth_in (S := S) (t := 0) h0
      have hTi := hsub _ g1 g2
      have hne : mx_nth S 0 ≠ mx_nth T kT := fun q => by rw [← q, g2] at hL; cases hL
      have hi := hplace _ g1 hTi hne
      have h1 := hone _ hi
      rw [mx_nth_cnt hTi g1] at h1
      have f1 : f (mx_nth S 0) ≠ 0 := by
        rw [hf]
        dsimp only
        rw [if_pos g2]
        exact mx_fl_ne oS _
      have f2 : f (mx_nth T kT) = 0 := by rw [hf]; exact if_neg (by rw [hL]; decide)
      rw [f2, Int.mul_zero] at h1
      rcases Int.mul_eq_zero.mp h1 with h3 | h3
      · exact (mx_sg_ok oT.1).2.1 h3
      · exact f1 h3
/-! at most seventy sets, none inside another: seventy chains -/
def mx_chn (a : Nat) : Nat := (497008576694217909142786290506938064733481783537163052020855532834726596292965013181160860998499427102866352178431674422071844072475131367617191024377109090417196259252069396843480610668534718531742058204907438560226855487521260384375017051108940291486626591390449819691387235572291709384687457222646712582799692663517400672165871876356147810563515346000535070678617808523968356828923898184475483874735159341798346982402602570731565720487742891041323881681142736679647398405089416666693930412221078578838567803168688392932113663920076163276537775571405268579772637079832710215404635913932464610709206643693912064 >>> (8 * a)) % 256
theorem mx_chn_lt : ∀ a, a < 256 → mx_chn a < 70 := by
  have h : (List.range 256).all (fun a => decide (mx_chn a < 70)) = true := by decide +kernel
  intro a ha
  exact of_decide_eq_true (List.all_eq_true.mp h a (List.mem_range.mpr ha))
theorem mx_chn_in : ∀ a, a < 256 → ∀ b, b < 256 → mx_chn a = mx_chn b → a &&& b = a ∨ a &&& b = b := by
  have h : (List.range 256).all (fun a => (List.range 256).all (fun b => !(mx_chn a == mx_chn b) || ((a &&& b) == a || (a &&& b) == b))) = true := by decide +kernel
  intro a ha b hb he
  have h1 := List.all_eq_true.mp (List.all_eq_true.mp h a (List.mem_range.mpr ha)) b (List.mem_range.mpr hb)
  rw [he] at h1
  simpa using h1
def mx_ns (f : Nat → Nat) : Nat → Nat
  | 0 => 0
  | n + 1 => mx_ns f n + f n
theorem mx_ns_le {f g : Nat → Nat} : ∀ {n : Nat}, (∀ t, t < n → f t ≤ g t) → mx_ns f n ≤ mx_ns g n
  | 0, _ => Nat.le_refl 0
  | n + 1, h => by
    show mx_ns f n + f n ≤ mx_ns g n + g n
    have h1 := mx_ns_le (n := n) (fun t ht => h t (Nat.lt_succ_of_lt ht))
    have h2 := h n (Nat.lt_succ_self n)
    omega
theorem mx_ns_add (f g : Nat → Nat) : ∀ n, mx_ns (fun t => f t + g t) n = mx_ns f n + mx_ns g n
  | 0 => rfl
  | n + 1 => by
    show mx_ns _ n + (f n + g n) = (mx_ns f n + f n) + (mx_ns g n + g n)
    rw [mx_ns_add f g n]; omega
theorem mx_ns_zero : ∀ n, mx_ns (fun _ => 0) n = 0
  | 0 => rfl
  | n + 1 => by show mx_ns _ n + 0 = 0; rw [mx_ns_zero n]
theorem mx_ns_swap (F : Nat → Nat → Nat) (n : Nat) : ∀ m, mx_ns (fun t => mx_ns (F t) n) m = mx_ns (fun u => mx_ns (fun t => F t u) m) n
  | 0 => (mx_ns_zero n).symm
  | m + 1 => by
    show mx_ns (fun t => mx_ns (F t) n) m + mx_ns (F m) n = mx_ns (fun u => mx_ns (fun t => F t u) m + F m u) n
    rw [mx_ns_swap F n m, mx_ns_add]
theorem mx_ns_hit {c : Nat} : ∀ {n : Nat}, c < n → mx_ns (fun u => if u = c then 1 else 0) n = 1
  | 0, h => absurd h (Nat.not_lt_zero c)
  | n + 1, h => by
    show mx_ns _ n + (if n = c then 1 else 0) = 1
    by_cases hn : n = c
    · subst hn
      rw [if_pos rfl]
      have : mx_ns (fun u => if u = n then 1 else 0) n = 0 := by
        have h1 : mx_ns (fun u => if u = n then 1 else 0) n ≤ mx_ns (fun _ => 0) n := mx_ns_le (fun t ht => by rw [if_neg (Nat.ne_of_lt ht)]; exact Nat.le_refl 0)
        rw [mx_ns_zero] at h1; omega
      omega
    · rw [if_neg hn, mx_ns_hit (n := n) (by omega)]
/-- one at most where any two are the same -/
theorem mx_ns_one {q : Nat → Bool} : ∀ {n : Nat}, (∀ a b, a < n → b < n → q a = true → q b = true → a = b) → mx_ns (fun a => if q a = true then 1 else 0) n ≤ 1
  | 0, _ => Nat.zero_le 1
  | n + 1, h => by
    show mx_ns _ n + (if q n = true then 1 else 0) ≤ 1
    by_cases hq : q n = true
    · rw [if_pos hq]
      have : mx_ns (fun a => if q a = true then 1 else 0) n = 0 := by
        have h1 : mx_ns (fun a => if q a = true then 1 else 0) n ≤ mx_ns (fun _ => 0) n := mx_ns_le (fun t ht => by
          rw [if_neg (fun hx => by have := h t n (by omega) (by omega) hx hq; omega)]; exact Nat.le_refl 0)
        rw [mx_ns_zero] at h1; omega
      omega
    · rw [if_neg hq]
      exact mx_ns_one (n := n) (fun a b ha hb => h a b (by omega) (by omega))
def mx_count (q : Nat → Bool) (n : Nat) : Nat := mx_ns (fun a => if q a = true then 1 else 0) n
theorem mx_sperner {q : Nat → Bool} {n : Nat} (hn : n ≤ 256) (h : ∀ a b, a < n → b < n → q a = true → q b = true → a &&& b = a → a = b) : mx_count q n ≤ 70 := by
  have h1 : ∀ a, a < n → (if q a = true then 1 else 0) ≤ mx_ns (fun c => if (q a && (mx_chn a == c)) = true then 1 else 0) 70 := by
    intro a ha
    by_cases hq : q a = true
    · rw [if_pos hq]
      refine Nat.le_trans (Nat.le_of_eq (mx_ns_hit (c := mx_chn a) (mx_chn_lt a (by omega))).symm) (mx_ns_le (fun c _ => ?_))
      by_cases hc : c = mx_chn a
      · rw [if_pos hc, if_pos (by rw [hq, hc]; simp)]; exact Nat.le_refl 1
      · rw [if_neg hc]; exact Nat.zero_le _
    · rw [if_neg hq]; exact Nat.zero_le _
  refine Nat.le_trans (mx_ns_le h1) ?_
  rw [mx_ns_swap]
  have h2 : ∀ c, c < 70 → mx_ns (fun a => if (q a && (mx_chn a == c)) = true then 1 else 0) n ≤ 1 := by
    intro c _
    refine mx_ns_one (q := fun a => q a && (mx_chn a == c)) (fun a b ha hb qa qb => ?_)
    rw [Bool.and_eq_true] at qa qb
    have ea : mx_chn a = c := by simpa using qa.2
    have eb : mx_chn b = c := by simpa using qb.2
    rcases mx_chn_in a (by omega) b (by omega) (by rw [ea, eb]) with h3 | h3
    · exact h a b ha hb qa.1 qb.1 h3
    · exact (h b a hb ha qb.1 qa.1 (by rw [Nat.and_comm]; exact h3)).symm
  refine Nat.le_trans (mx_ns_le (g := fun _ => 1) h2) ?_
  decide +kernel
