set_option maxHeartbeats 4000000 in
set_option maxRecDepth 100000 in
theorem whole_start {p : Program} {e : Env} {s : State} {m : MethodId} {below : List Frame} {meth : Method} {c : Code} (l : Launch) {b L : Nat} {xs : Nat → Int32} (hL : L ≤ 2048) (C0 : lw_At p s m meth c b L xs) : W p l e room_1 s m #[Value.ref b] below meth c s.heap [] 0 0 (lw_Z below #[Value.ref b] s) (entryFrame m ([Value.ref b] : List Value).toArray 4) := by
  obtain ⟨hx, hb, hr, hml, hown, hts0, hX, hbl, hlocks, hgv⟩ := id C0
  obtain ⟨b_, rfl⟩ : ∃ z, z = b := ⟨_, rfl⟩
  have hN : gx_N s := va_Nw.of rfl (hts0 (.methodLinkNest RX0 51 yX1_quotient "FluxModes") (by decide +kernel))
  have hts : ∀ w ∈ wsL_law, w.before #[Value.ref b_] s = true := fun w h => hts0 w (wsL_law_in w h)
  have hown : s.vm.findClass RL = some m.cls := hown
  have C0 : CallFix p m c cL_law 4 s #[Value.ref b_] wsL_law RL := ⟨hx, hb, hml, hown, hts⟩
  obtain ⟨A, hAe⟩ : ∃ A : Nat → Prop, A = fun q : Nat => s.heap.size ≤ q := ⟨_, rfl⟩
  have hA : ∀ q : Nat, s.heap.size ≤ q → A q := fun q h => by rw [hAe]; exact h
  have hA2 : ∀ q : Nat, A q → s.heap.size ≤ q := fun q h => by rw [hAe] at h; exact h
  have hbA : ¬ A b_ := fun h => Nat.not_le.mpr hbl (hA2 _ h)
  obtain ⟨c0, iS0, hKn0⟩ := u_known (C := RX0) (T := TX0) (N := 4) (n := 4) hts iwL_X0 (hts _ (show Cond.instantiable RX0 4 ∈ wsL_law by decide +kernel))
  obtain ⟨c1, iS1, hKn1⟩ := u_known (C := RX1) (T := TX1) (N := 9) (n := 9) hts iwL_X1 (hts _ (show Cond.instantiable RX1 9 ∈ wsL_law by decide +kernel))
  obtain ⟨c2, iS2, hKn2⟩ := u_known (C := RX2) (T := TX2) (N := 10) (n := 10) hts iwL_X2 (hts _ (show Cond.instantiable RX2 10 ∈ wsL_law by decide +kernel))
  obtain ⟨D, hKc⟩ : ∃ D : va_G, ∀ (k : Nat) (q : vw_C), vwCl[k]? = some q → u_Kn s q.1 q.2.1 q.2.2 (D.1 k) (D.2 k) := by
    refine ⟨(fun k => if k = 0 then c0 else if k = 1 then c1 else c2, fun k => if k = 0 then iS0 else if k = 1 then iS1 else iS2), ?_⟩
    intro k q hq
    match k, hq with
    | 0, hq => cases hq; exact hKn0
    | 1, hq => cases hq; exact hKn1
    | 2, hq => cases hq; exact hKn2
    | k + 3, hq => simp [vwCl] at hq
  have hS : va_S A s.heap s.heap [] := va_S.rf
  have hK : va_K D vwCl [] s := ⟨hKc, fun k q h => by simp at h⟩
  have hP : va_P D vwCl [] s.heap := fun k q h => by simp at h
  have hD : va_D A [] := ⟨fun i j p q h => by simp at h, fun k q h => by simp at h⟩
  have hl := lv_entry ([.ref b_]) (n := 4) (Nat.le_of_ble_eq_true rfl)
  rw [lg_entry_eq]
  generalize (lg_sl ([.ref b_]) ++ List.replicate (4 - (lg_sl ([.ref b_])).length) Slot.unset).toArray = ls at hl ⊢
  have hl : lv_has ls 4 [(0, .ref b_)] := hl
  refine va_new (ci := 1) (fs := [.null, .int 0, .int 0, .int 0, .null, .null, .int 0, .null, .null]) (C := RX1) (T := TX1) (N := 9) hx hb hts iwL_X1 tyX1 tyX1_ok hown (hts _ (show Cond.classLink RL 7 RX1 ∈ wsL_law by decide +kernel)) (hts _ (show Cond.instantiable RX1 9 ∈ wsL_law by decide +kernel)) (hts _ (show Cond.initialized RX1 ∈ wsL_law by decide +kernel)) hK hP hD hS hA rfl (fun j hj => by rcases (show j = 0 ∨ j = 1 ∨ j = 2 ∨ j = 3 ∨ j = 4 ∨ j = 5 ∨ j = 6 ∨ j = 7 ∨ j = 8 by omega) with rfl | rfl | rfl | rfl | rfl | rfl | rfl | rfl | rfl <;> rfl) (Nat.le_of_ble_eq_true rfl) (Nat.le_of_ble_eq_true rfl) dL_law_0 (fun h0 H hP hD hS => ?_)
  have hP : va_P D vwCl [(h0, .inr (1, [.null, .int 0, .int 0, .int 0, .null, .null, .int 0, .null, .null]))] H := hP
  have hD : va_D A [(h0, .inr (1, [.null, .int 0, .int 0, .int 0, .null, .null, .int 0, .null, .null]))] := hD
  refine lv_dup hx hb dL_law_3 rfl ?_
  have hPc := hP.sub (ws' := [(h0, .inr (1, [.null, .int 0, .int 0, .int 0, .null, .null, .int 0, .null, .null]))]) [0] rfl
  have hDc := hD.sub (ws' := [(h0, .inr (1, [.null, .int 0, .int 0, .int 0, .null, .null, .int 0, .null, .null]))]) [0] (by decide) rfl
  have hKc := hK.sub (tys' := []) [] rfl
  have hFc := va_free (wc := [(h0, .inr (1, [.null, .int 0, .int 0, .int 0, .null, .null, .int 0, .null, .null]))]) hD hS hA [0] rfl
  refine va_callv (va_runI (As := []) (rest := [.ref h0]) C0 (kX1_init l D h0 H.size) (cwI 0 hts gL_law_X1_init rfl rfl rfl (hts _ (show Cond.initialized RX1 ∈ wsL_law by decide +kernel)) (hts _ (show Cond.methodLink RL 9 yX1_init ∈ wsL_law by decide +kernel)) (hts _ (show Cond.instanceMethod yX1_init ∈ wsL_law by decide +kernel)) rfl (by decide +kernel) ⟨Nat.le_of_ble_eq_true rfl, Nat.le_of_ble_eq_true rfl⟩) ⟨gx_blind, gx_pre hN hKc hPc hDc⟩ rfl rfl hl.1 rfl (lv_room (Nat.le_of_ble_eq_true rfl)) dL_law_4 ⟨Nat.le_of_ble_eq_true rfl, Nat.le_of_ble_eq_true rfl⟩) hS (fun q _ h => hFc q h) hFc (fun u t_ H1 locs ht hvm hw hB hz1 hk1 hS => ?_)
  obtain ⟨e1, s1, r1, d1, k1, w1, cE, cS, cR, cK, cW, hP1, hK1, hD1⟩ := hB
  rw [ht] at hP1
  have hK1 := va_K.moved hvm.symm hK1
  obtain ⟨hP, hD⟩ := va_join (wr := []) (w1 := [(h0, .inr (1, [.ref e1, .int (nI 0), .int (nI 1), .int (nI 0), .ref s1, .ref r1, .int (nI 0), .ref d1, .ref w1])), (e1, .inl (cE, 48, .inl (fun _ => 0))), (s1, .inl (cS, 70, .inl (fun _ => 0))), (r1, .inl (cR, 560, .inl (fun _ => 0))), (d1, .inr (0, [.ref k1, .int (nI 0), .int (nI 0), .long 1])), (k1, .inl (cK, 48, .inr (.inl (fun _ => 0)))), (w1, .inl (cW, 8, .inr (.inl (fun _ => 0))))]) hP hD [0] [] rfl rfl (by decide) (by decide) hk1 hFc hP1 hD1
  have hK := (hK.sub (tys' := []) [] rfl).app hK1
  generalize H1 = H at hP hS ⊢
  have hP : va_P D vwCl [(h0, .inr (1, [.ref e1, .int (nI 0), .int (nI 1), .int (nI 0), .ref s1, .ref r1, .int (nI 0), .ref d1, .ref w1])), (e1, .inl (cE, 48, .inl (fun _ => 0))), (s1, .inl (cS, 70, .inl (fun _ => 0))), (r1, .inl (cR, 560, .inl (fun _ => 0))), (d1, .inr (0, [.ref k1, .int (nI 0), .int (nI 0), .long 1])), (k1, .inl (cK, 48, .inr (.inl (fun _ => 0)))), (w1, .inl (cW, 8, .inr (.inl (fun _ => 0))))] H := hP
  have hD : va_D A [(h0, .inr (1, [.ref e1, .int (nI 0), .int (nI 1), .int (nI 0), .ref s1, .ref r1, .int (nI 0), .ref d1, .ref w1])), (e1, .inl (cE, 48, .inl (fun _ => 0))), (s1, .inl (cS, 70, .inl (fun _ => 0))), (r1, .inl (cR, 560, .inl (fun _ => 0))), (d1, .inr (0, [.ref k1, .int (nI 0), .int (nI 0), .long 1])), (k1, .inl (cK, 48, .inr (.inl (fun _ => 0)))), (w1, .inl (cW, 8, .inr (.inl (fun _ => 0))))] := hD
  have hK : va_K D vwCl [(cE, .int), (cS, .int), (cR, .int), (cK, .long), (cW, .long)] s := hK
  refine lv_astore_n (lv' := [(1, .ref h0), (0, .ref b_)]) hx hb dL_law_7 rfl hl (by decide) rfl (fun ls hl => ?_)
  refine va_new (ci := 2) (fs := [.null, .null, .int 0, .int 0, .int 0, .null, .null, .null, .null, .null]) (C := RX2) (T := TX2) (N := 10) hx hb hts iwL_X2 tyX2 tyX2_ok hown (hts _ (show Cond.classLink RL 10 RX2 ∈ wsL_law by decide +kernel)) (hts _ (show Cond.instantiable RX2 10 ∈ wsL_law by decide +kernel)) (hts _ (show Cond.initialized RX2 ∈ wsL_law by decide +kernel)) hK hP hD hS hA rfl (fun j hj => by rcases (show j = 0 ∨ j = 1 ∨ j = 2 ∨ j = 3 ∨ j = 4 ∨ j = 5 ∨ j = 6 ∨ j = 7 ∨ j = 8 ∨ j = 9 by omega) with rfl | rfl | rfl | rfl | rfl | rfl | rfl | rfl | rfl | rfl <;> rfl) (Nat.le_of_ble_eq_true rfl) (Nat.le_of_ble_eq_true rfl) dL_law_8 (fun g0 H hP hD hS => ?_)
  have hP : va_P D vwCl [(h0, .inr (1, [.ref e1, .int (nI 0), .int (nI 1), .int (nI 0), .ref s1, .ref r1, .int (nI 0), .ref d1, .ref w1])), (e1, .inl (cE, 48, .inl (fun _ => 0))), (s1, .inl (cS, 70, .inl (fun _ => 0))), (r1, .inl (cR, 560, .inl (fun _ => 0))), (d1, .inr (0, [.ref k1, .int (nI 0), .int (nI 0), .long 1])), (k1, .inl (cK, 48, .inr (.inl (fun _ => 0)))), (w1, .inl (cW, 8, .inr (.inl (fun _ => 0)))), (g0, .inr (2, [.null, .null, .int 0, .int 0, .int 0, .null, .null, .null, .null, .null]))] H := hP
  have hD : va_D A [(h0, .inr (1, [.ref e1, .int (nI 0), .int (nI 1), .int (nI 0), .ref s1, .ref r1, .int (nI 0), .ref d1, .ref w1])), (e1, .inl (cE, 48, .inl (fun _ => 0))), (s1, .inl (cS, 70, .inl (fun _ => 0))), (r1, .inl (cR, 560, .inl (fun _ => 0))), (d1, .inr (0, [.ref k1, .int (nI 0), .int (nI 0), .long 1])), (k1, .inl (cK, 48, .inr (.inl (fun _ => 0)))), (w1, .inl (cW, 8, .inr (.inl (fun _ => 0)))), (g0, .inr (2, [.null, .null, .int 0, .int 0, .int 0, .null, .null, .null, .null, .null]))] := hD
  refine lv_dup hx hb dL_law_11 rfl ?_
  have hPc := hP.sub (ws' := [(g0, .inr (2, [.null, .null, .int 0, .int 0, .int 0, .null, .null, .null, .null, .null]))]) [7] rfl
  have hDc := hD.sub (ws' := [(g0, .inr (2, [.null, .null, .int 0, .int 0, .int 0, .null, .null, .null, .null, .null]))]) [7] (by decide) rfl
  have hKc := hK.sub (tys' := []) [] rfl
  have hFc := va_free (wc := [(g0, .inr (2, [.null, .null, .int 0, .int 0, .int 0, .null, .null, .null, .null, .null]))]) hD hS hA [7] rfl
  refine va_callv (va_runI (As := []) (rest := [.ref g0]) C0 (kX2_init l D g0 H.size) (cwI 0 hts gL_law_X2_init rfl rfl rfl (hts _ (show Cond.initialized RX2 ∈ wsL_law by decide +kernel)) (hts _ (show Cond.methodLink RL 12 yX2_init ∈ wsL_law by decide +kernel)) (hts _ (show Cond.instanceMethod yX2_init ∈ wsL_law by decide +kernel)) rfl (by decide +kernel) ⟨Nat.le_of_ble_eq_true rfl, Nat.le_of_ble_eq_true rfl⟩) ⟨gx_blind, gx_pre hN hKc hPc hDc⟩ rfl rfl hl.1 rfl (lv_room (Nat.le_of_ble_eq_true rfl)) dL_law_12 ⟨Nat.le_of_ble_eq_true rfl, Nat.le_of_ble_eq_true rfl⟩) hS (fun q _ h => hFc q h) hFc (fun u t_ H1 locs ht hvm hw hB hz1 hk1 hS => ?_)
  obtain ⟨p1, b1, q1, t1, a1, l1, v1, dE, dB, dS, dR, dA, dL, dV, hP1, hK1, hD1⟩ := hB
  rw [ht] at hP1
  have hK1 := va_K.moved hvm.symm hK1
  obtain ⟨hP, hD⟩ := va_join (wr := [(h0, .inr (1, [.ref e1, .int (nI 0), .int (nI 1), .int (nI 0), .ref s1, .ref r1, .int (nI 0), .ref d1, .ref w1])), (e1, .inl (cE, 48, .inl (fun _ => 0))), (s1, .inl (cS, 70, .inl (fun _ => 0))), (r1, .inl (cR, 560, .inl (fun _ => 0))), (d1, .inr (0, [.ref k1, .int (nI 0), .int (nI 0), .long 1])), (k1, .inl (cK, 48, .inr (.inl (fun _ => 0)))), (w1, .inl (cW, 8, .inr (.inl (fun _ => 0))))]) (w1 := [(g0, .inr (2, [.ref p1, .ref b1, .int 0, .int (nI 1), .int 0, .ref q1, .ref t1, .ref a1, .ref l1, .ref v1])), (p1, .inl (dE, 48, .inl (fun _ => 0))), (b1, .inl (dB, 8, .inl (fun _ => 0))), (q1, .inl (dS, 70, .inl (fun _ => 0))), (t1, .inl (dR, 560, .inl (fun _ => 0))), (a1, .inl (dA, 48, .inr (.inl (fun _ => 0)))), (l1, .inl (dL, 8, .inl (fun _ => 0))), (v1, .inl (dV, 8, .inr (.inl (fun _ => 0))))]) hP hD [7] [0, 1, 2, 3, 4, 5, 6] rfl rfl (by decide) (by decide) hk1 hFc hP1 hD1
  have hK := (hK.sub (tys' := [(cE, .int), (cS, .int), (cR, .int), (cK, .long), (cW, .long)]) [0, 1, 2, 3, 4] rfl).app hK1
  generalize H1 = H at hP hS ⊢
  have hP : va_P D vwCl [(h0, .inr (1, [.ref e1, .int (nI 0), .int (nI 1), .int (nI 0), .ref s1, .ref r1, .int (nI 0), .ref d1, .ref w1])), (e1, .inl (cE, 48, .inl (fun _ => 0))), (s1, .inl (cS, 70, .inl (fun _ => 0))), (r1, .inl (cR, 560, .inl (fun _ => 0))), (d1, .inr (0, [.ref k1, .int (nI 0), .int (nI 0), .long 1])), (k1, .inl (cK, 48, .inr (.inl (fun _ => 0)))), (w1, .inl (cW, 8, .inr (.inl (fun _ => 0)))), (g0, .inr (2, [.ref p1, .ref b1, .int 0, .int (nI 1), .int 0, .ref q1, .ref t1, .ref a1, .ref l1, .ref v1])), (p1, .inl (dE, 48, .inl (fun _ => 0))), (b1, .inl (dB, 8, .inl (fun _ => 0))), (q1, .inl (dS, 70, .inl (fun _ => 0))), (t1, .inl (dR, 560, .inl (fun _ => 0))), (a1, .inl (dA, 48, .inr (.inl (fun _ => 0)))), (l1, .inl (dL, 8, .inl (fun _ => 0))), (v1, .inl (dV, 8, .inr (.inl (fun _ => 0))))] H := hP
  have hD : va_D A [(h0, .inr (1, [.ref e1, .int (nI 0), .int (nI 1), .int (nI 0), .ref s1, .ref r1, .int (nI 0), .ref d1, .ref w1])), (e1, .inl (cE, 48, .inl (fun _ => 0))), (s1, .inl (cS, 70, .inl (fun _ => 0))), (r1, .inl (cR, 560, .inl (fun _ => 0))), (d1, .inr (0, [.ref k1, .int (nI 0), .int (nI 0), .long 1])), (k1, .inl (cK, 48, .inr (.inl (fun _ => 0)))), (w1, .inl (cW, 8, .inr (.inl (fun _ => 0)))), (g0, .inr (2, [.ref p1, .ref b1, .int 0, .int (nI 1), .int 0, .ref q1, .ref t1, .ref a1, .ref l1, .ref v1])), (p1, .inl (dE, 48, .inl (fun _ => 0))), (b1, .inl (dB, 8, .inl (fun _ => 0))), (q1, .inl (dS, 70, .inl (fun _ => 0))), (t1, .inl (dR, 560, .inl (fun _ => 0))), (a1, .inl (dA, 48, .inr (.inl (fun _ => 0)))), (l1, .inl (dL, 8, .inl (fun _ => 0))), (v1, .inl (dV, 8, .inr (.inl (fun _ => 0))))] := hD
  have hK : va_K D vwCl [(cE, .int), (cS, .int), (cR, .int), (cK, .long), (cW, .long), (dE, .int), (dB, .boolean), (dS, .int), (dR, .int), (dA, .long), (dL, .int), (dV, .long)] s := hK
  refine lv_astore_n (lv' := [(2, .ref g0), (1, .ref h0), (0, .ref b_)]) hx hb dL_law_15 rfl hl (by decide) rfl (fun ls hl => ?_)
  refine lv_iconst (v := nI 0) hx hb dL_law_16 (by decide) ?_
  refine lv_istore_n (lv' := [(3, .int (nI 0)), (2, .ref g0), (1, .ref h0), (0, .ref b_)]) hx hb dL_law_17 rfl hl (by decide) rfl (fun ls hl => ?_)
  refine W.widen (k := 15) (n := 1507) (by decide) (by decide) ?_
  exact law_loop C0 hN (hK.sub [0, 1, 2, 3, 4, 5, 6, 7, 8, 9, 10, 11] rfl) hA hX hbl hbA hL hr hlocks hA2 4097 0 (by omega) 0 1 0 0 0 0 1 _ _ _ _ _ _ _ _ _ _ _ _ _ _ _ LI_0 (hP.sub [0, 1, 2, 3, 4, 5, 6, 7, 8, 9, 10, 11, 12, 13, 14] rfl) (hD.sub [0, 1, 2, 3, 4, 5, 6, 7, 8, 9, 10, 11, 12, 13, 14] (by decide) rfl) hS (lv_sub hl [3, 2, 1, 0] rfl)
-- ===== YOUR PART ENDS =====
set_option maxHeartbeats 4000000 in
theorem lw_walk (l : Launch) (b : Addr) (xs : List Int32) : MetFree l x (headSpec (Jvm.Cond.code x code maxLocals ret :: tables_1) room_1) (lw_P b xs) (fun _ _ _ _ _ => True) lw_Q := by
  refine MetFree.of_bodyS (code := code) (maxLocals := maxLocals) (ret := ret) (by decide) ?_ ?_
  · intro args s m h hn
    obtain ⟨meth, c, h1, h2, h3, h4, h5, h6, -, -⟩ := Cond.code_spec hn (atoms_spec (ws := Jvm.Cond.code x code maxLocals ret :: tables_1) h _ List.mem_cons_self)
    exact ⟨meth, c, h1, h2, h3, h4, h5, h6⟩
  · intro p e s m args below meth c s₁ B hml0 hP _
    obtain ⟨rfl, hx, hbd, hgv⟩ := hP
    obtain ⟨scr, harrAt, hlist, hof, hsmall⟩ := hx
    obtain ⟨hcb, hkn, -, -⟩ := State.arrayAt?_spec harrAt
    have hown : s.vm.findClass R_law = some m.cls := findClass_of_methodNamed B.named
    have hts0 : ∀ c ∈ (Jvm.Cond.code x code maxLocals ret :: tables_1), c.before #[Value.ref b] s = true := atoms_spec (ws := Jvm.Cond.code x code maxLocals ret :: tables_1) B.pre
    have hts : ∀ w ∈ lw_tbl, w.before #[Value.ref b] s = true := k2_hts_sels lw_privs (fun w hw => hts0 w (List.mem_cons_of_mem _ hw)) lw_privs_ok
    have hml : c.maxLocals = 4 := B.maxLocals_eq (hts0 _ List.mem_cons_self)
    have X₀ : Stand p l e room_1 s m #[Value.ref b] below meth c s₁ [] 0 0 := Stand.of_body B
    have hh0 : s₁.heap = s.heap := by rw [B.state]; rfl
    have hsz : scr.slots.size = xs.length := by rw [← Array.length_toList, hlist, List.length_map]
    have hval : ∀ j : Nat, j < xs.length → scr.slots[j]? = some (.int (xs.getD j 0)) := fun j hj => by
      rw [← Array.getElem?_toList, hlist]
      simp [hj]
    have hbl : b < s.heap.size := (Array.getElem?_eq_some_iff.mp hcb).1
    have hX : va_X b xs.length (fun j => xs.getD j 0) s s.heap := ⟨scr, hcb, hof, hkn, hsz, hval⟩
    have K : W p l e room_1 s m #[Value.ref b] below meth c s₁.heap [] 0 0 (lw_Z below #[Value.ref b] s) (entryFrame m ([Value.ref b] : List Value).toArray 4) := by
      rw [hh0]
      exact whole_start l hbd ⟨B.exec, B.bytes, B.returns, hml, hown, hts, hX, hbl, B.notSynchronized, hgv⟩
    obtain ⟨t, a1, o, b1, b2, b3⟩ := K s₁ rfl X₀
    exact ⟨t, o, a1, b1, b2, b3⟩
theorem lw_pre_spec {args : Array Value} {s : State} (h : (Jvm.Cond.and given_1 narrow_1).before args s = true) (hr : rest_1_c.before args s = true) : ∃ (b : Addr) (xs : List Int32), lw_P b xs args s := by
  have hs := flat_of_before _ h
  have hq := flat_of_before _ hr
  have hc : (Cond.count 1).before args s = true := hs _ (by decide +kernel)
  have harr : (Cond.arrayOf (.arg 0) .int).before args s = true := hs _ (by decide +kernel)
  have hle : (Cond.le (.length (.arg 0)) (.int 2048)).before args s = true := hs _ (by decide +kernel)
  have hlen : (Cond.isInt (.length (.arg 0))).before args s = true := hq _ (by decide +kernel)
  have hall : (Cond.all (.arg 0) (.isInt (.elem (.arg 0) (.index 0)))).before args s = true := hq _ (by decide +kernel)
  obtain ⟨b, xs, hb, hx⟩ := State.ints_of_pre rfl harr hlen hall
  have hsm : xs.length < 2 ^ 31 := hx.choose_spec.2.2.2
  have hev : (Term.length (.arg 0)).eval args s none [] s = some (.int xs.length.toInt32) := hx.length_eval hb
  have hv := Cond.le_ints hev (show (Term.int 2048).eval args s none [] s = some (.int 2048) from rfl)
  have hd : xs.length.toInt32 ≤ 2048 := by
    simpa [Cond.before, Cond.holds, hv] using hle
  have hN : xs.length ≤ 2048 := (Int32.ofNat_le_ofNat hsm (by decide)).mp (show Int32.ofNat xs.length ≤ Int32.ofNat 2048 from hd)
  exact ⟨b, xs, Cond.one_arg hc (show args[0]? = some (.ref b) from hb), hx, hN, h⟩
theorem lw_comes (l : Launch) : Comes l x (Jvm.Cond.code x code maxLocals ret :: tables_1) room_1 (fun tb e args s => Calls_1 tb e args s ∧ rest_1 tb e args s ∧ Pre_1 tb e args s)
    (fun _ _ args s o t => lw_Q args s o t) := by
  intro p e ha hc hk s m args below hf hfit hheap happ hpre
  obtain ⟨b, xs, hP⟩ := lw_pre_spec hpre.2.2 hpre.2.1
  obtain ⟨k, o, h1, h2, h3, hQ⟩ := lw_walk l b xs p e ha hc hk s m args below hf ((Spec.applies_iff_loose hf).mp happ).1 hP trivial
  exact ⟨k, o, h1, h2, h3, hQ⟩
theorem lw_frame {s t : State} {o : Outcome} {args : Array Value} (h : Framed s o t [] 15 1507) :
    Framed s o t (fieldLocs frame_1_writes args s ++ arrayLocs frame_1_arrays args s ++ staticLocs frame_1_statics s) 15 1507 := h
theorem lw_limb (L : Cond) (hL : ∀ (args : Array Value) (s t : State), L.after args s (.returned (some (.int 1))) t = true) :
    ArmFor flags0 classFile x code maxLocals ret World_1 tables_1 room_1 Calls_1 rest_1 Pre_1
      (fun tb e a s o t => postC L tb e a s o t ∧ Framed s o t (fieldLocs frame_1_writes a s ++ arrayLocs frame_1_arrays a s ++ staticLocs frame_1_statics s) 15 1507) := by
  intro l _ _ _ p e ha hc hk s m args below hf hfit hheap happ hpre
  obtain ⟨k, o, h1, h2, h3, rfl, hF⟩ := lw_comes l p e ha hc hk s m args below hf hfit hheap happ hpre
  exact ⟨k, _, h1, h2, h3, hL args s _, lw_frame hF⟩
theorem i_vc : Claimed_1_1 ∧ Claimed_1_2 := ⟨lw_limb limb_1_1 (fun args s t => by simp [limb_1_1, Cond.after, Cond.holds, Cond.value]), lw_limb limb_1_2 (fun args s t => Cond.after_iff.mpr (by
  first | (rw [show limb_1_2 = Cond.eq .result (.int 1) from rfl, Cond.eq_ints (x := 1) (y := 1) rfl rfl]; simp; done) | (simp [limb_1_2, Cond.value, Term.eval]; done)))⟩
