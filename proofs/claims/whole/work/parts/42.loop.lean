set_option maxHeartbeats 4000000 in
set_option maxRecDepth 100000 in
theorem law_loop {p : Program} {l : Launch} {e : Env} {s : State} {m : MethodId} {below : List Frame} {meth : Method} {c : Code} {D : va_G} {A : Nat → Prop} {b_ h0 e1 s1 r1 d1 w1 k1 g0 p1 b1 q1 t1 a1 l1 v1 L : Nat} {cE cS cR cK cW dE dB dS dR dA dL dV : ClassId} {xs : Nat → Int32} (C0 : CallFix p m c cL_law 4 s #[Value.ref b_] wsL_law RL) (hN : gx_N s) (hK : va_K D vwCl [(cE, .int), (cS, .int), (cR, .int), (cK, .long), (cW, .long), (dE, .int), (dB, .boolean), (dS, .int), (dR, .int), (dA, .long), (dL, .int), (dV, .long)] s) (hA : ∀ q : Nat, s.heap.size ≤ q → A q) (hX : va_X b_ L xs s s.heap) (hbl : b_ < s.heap.size) (hbA : ¬ A b_) (hL : L ≤ 2048) (hr : meth.sig.returnType = ret) (hlocks : meth.locks = false) (hA2 : ∀ q : Nat, A q → s.heap.size ≤ q) : ∀ (n_ i : Nat), i ≤ 4096 ∧ 4096 < i + n_ → LG p l e s m below meth c D A b_ h0 e1 s1 r1 d1 w1 k1 g0 p1 b1 q1 t1 a1 l1 v1 cE cS cR cK cW dE dB dS dR dA dL dV i 18 := by
  obtain ⟨hx, hb, hml, hown, hts⟩ := id C0
  intro n_
  induction n_ with
  | zero =>
    intro i hm
    exact absurd hm (by omega)
  | succ n_ ih =>
    intro i hm
    intro M R V n w t pv E U T E2 Bt U2 T2 Ld K F K2 F2 H locs ls hI hP hD hS hl
    refine lv_iload_n hx hb dL_law_18 rfl (lv_at hl 3 rfl) ?_
    refine lv_aload_n hx hb dL_law_19 rfl (lv_at hl 0 rfl) ?_
    refine va_slen hx hb hX hbl hbA hS dL_law_20 ?_
    refine gx_i (y := nI L) rfl ?_
    refine lv_iconst (v := nI 4) hx hb dL_law_21 (by decide) ?_
    refine lv_isub hx hb dL_law_22 ?_
    refine gx_i (y := nI L - nI 4) (rfl) ?_
    refine lv_icmp_gt (tgt := 434) hx hb dL_law_23 (by decide) (fun c_23 => ?_) (fun c_23 => ?_)
    · refine lv_iconst (v := 1) hx hb dL_law_434 (by decide) ?_
      refine va_forget (fun q hq => hA2 _ (hS.2.2 q hq)) ?_
      exact lw_ret hx hb hr hlocks dL_law_435
    · have hi4 : i + 4 ≤ L := lw_more (by omega) (by omega) c_23
      refine lv_aload_n hx hb dL_law_26 rfl (lv_at hl 0 rfl) ?_
      refine lv_iload_n hx hb dL_law_27 rfl (lv_at hl 3 rfl) ?_
      refine gx_sld (q := i) hx hb hX hbl hbA hS rfl (by omega) (by omega) dL_law_28 ?_
      refine lv_bipush (v := nI 15) hx hb dL_law_29 (by decide) ?_
      refine lv_iand hx hb dL_law_31 ?_
      refine gx_i (y := xs i &&& nI 15) (rfl) ?_
      obtain ⟨j, hj, ej⟩ := pk_andE (xs i) (m := nI 15) 4 (by decide)
      rw [ej]
      have hkk : LG p l e s m below meth c D A b_ h0 e1 s1 r1 d1 w1 k1 g0 p1 b1 q1 t1 a1 l1 v1 cE cS cR cK cW dE dB dS dR dA dL dV i 428 := by
        intro M R V n w t pv E U T E2 Bt U2 T2 Ld K F K2 F2 H locs ls hI hP hD hS hl
        refine lv_iinc (v := nI (i + 4)) (lv' := [(3, .int (nI (i + 4))), (0, .ref b_), (1, .ref h0), (2, .ref g0)]) hx hb dL_law_428 hl (k := 3) rfl (nI_add i 4) (by decide) rfl (fun ls hl => ?_)
        refine lv_goto (tgt := 18) hx hb dL_law_431 (by decide) ?_
        exact ih (i + 4) (by omega) _ _ _ _ _ _ _ _ _ _ _ _ _ _ _ _ _ _ _ _ _ _ hI hP hD hS (lv_sub hl [1, 2, 3, 0] rfl)
      rcases (show j = 0 ∨ j = 1 ∨ j = 2 ∨ j = 3 ∨ j = 4 ∨ j = 5 ∨ j = 6 ∨ j = 7 ∨ j = 8 ∨ j = 9 ∨ j = 10 ∨ j = 11 ∨ j = 12 ∨ j = 13 ∨ j = 14 ∨ j = 15 by omega) with rfl | rfl | rfl | rfl | rfl | rfl | rfl | rfl | rfl | rfl | rfl | rfl | rfl | rfl | rfl | rfl
      · refine lv_tableIn (off := 64) (tgt := 96) hx hb dL_law_32 (by decide) (by decide) (by decide) (by decide) ?_
        exact law_c0 C0 hN hK hA hX hbl hbA hL hi4 hkk _ _ _ _ _ _ _ _ _ _ _ _ _ _ _ _ _ _ _ _ _ _ hI hP hD hS (lv_sub hl [0, 1, 2, 3] rfl)
      · refine lv_tableIn (off := 97) (tgt := 129) hx hb dL_law_32 (by decide) (by decide) (by decide) (by decide) ?_
        exact law_c1 C0 hN hK hA hX hbl hbA hL hi4 hkk _ _ _ _ _ _ _ _ _ _ _ _ _ _ _ _ _ _ _ _ _ _ hI hP hD hS (lv_sub hl [0, 1, 2, 3] rfl)
      · refine lv_tableIn (off := 140) (tgt := 172) hx hb dL_law_32 (by decide) (by decide) (by decide) (by decide) ?_
        exact law_c2 C0 hN hK hA hX hbl hbA hL hi4 hkk _ _ _ _ _ _ _ _ _ _ _ _ _ _ _ _ _ _ _ _ _ _ hI hP hD hS (lv_sub hl [0, 1, 2, 3] rfl)
      · refine lv_tableIn (off := 173) (tgt := 205) hx hb dL_law_32 (by decide) (by decide) (by decide) (by decide) ?_
        exact law_c3 C0 hN hK hA hX hbl hbA hL hi4 hkk _ _ _ _ _ _ _ _ _ _ _ _ _ _ _ _ _ _ _ _ _ _ hI hP hD hS (lv_sub hl [0, 1, 2, 3] rfl)
      · refine lv_tableIn (off := 222) (tgt := 254) hx hb dL_law_32 (by decide) (by decide) (by decide) (by decide) ?_
        exact law_c4 C0 hN hK hA hX hbl hbA hL hi4 hkk _ _ _ _ _ _ _ _ _ _ _ _ _ _ _ _ _ _ _ _ _ _ hI hP hD hS (lv_sub hl [0, 1, 2, 3] rfl)
      · refine lv_tableIn (off := 235) (tgt := 267) hx hb dL_law_32 (by decide) (by decide) (by decide) (by decide) ?_
        exact law_c5 C0 hN hK hA hX hbl hbA hL hi4 hkk _ _ _ _ _ _ _ _ _ _ _ _ _ _ _ _ _ _ _ _ _ _ hI hP hD hS (lv_sub hl [0, 1, 2, 3] rfl)
      · refine lv_tableIn (off := 248) (tgt := 280) hx hb dL_law_32 (by decide) (by decide) (by decide) (by decide) ?_
        exact law_c6 C0 hN hK hA hX hbl hbA hL hi4 hkk _ _ _ _ _ _ _ _ _ _ _ _ _ _ _ _ _ _ _ _ _ _ hI hP hD hS (lv_sub hl [0, 1, 2, 3] rfl)
      · refine lv_tableIn (off := 261) (tgt := 293) hx hb dL_law_32 (by decide) (by decide) (by decide) (by decide) ?_
        exact law_c7 C0 hN hK hA hX hbl hbA hL hi4 hkk _ _ _ _ _ _ _ _ _ _ _ _ _ _ _ _ _ _ _ _ _ _ hI hP hD hS (lv_sub hl [0, 1, 2, 3] rfl)
      · refine lv_tableIn (off := 284) (tgt := 316) hx hb dL_law_32 (by decide) (by decide) (by decide) (by decide) ?_
        exact law_c8 C0 hN hK hA hX hbl hbA hL hi4 hkk _ _ _ _ _ _ _ _ _ _ _ _ _ _ _ _ _ _ _ _ _ _ hI hP hD hS (lv_sub hl [0, 1, 2, 3] rfl)
      · refine lv_tableIn (off := 317) (tgt := 349) hx hb dL_law_32 (by decide) (by decide) (by decide) (by decide) ?_
        exact law_c9 C0 hN hK hA hX hbl hbA hL hi4 hkk _ _ _ _ _ _ _ _ _ _ _ _ _ _ _ _ _ _ _ _ _ _ hI hP hD hS (lv_sub hl [0, 1, 2, 3] rfl)
      · refine lv_tableIn (off := 340) (tgt := 372) hx hb dL_law_32 (by decide) (by decide) (by decide) (by decide) ?_
        exact law_c10 C0 hN hK hA hX hbl hbA hL hi4 hkk _ _ _ _ _ _ _ _ _ _ _ _ _ _ _ _ _ _ _ _ _ _ hI hP hD hS (lv_sub hl [0, 1, 2, 3] rfl)
      · refine lv_tableIn (off := 373) (tgt := 405) hx hb dL_law_32 (by decide) (by decide) (by decide) (by decide) ?_
        exact law_c11 C0 hN hK hA hX hbl hbA hL hi4 hkk _ _ _ _ _ _ _ _ _ _ _ _ _ _ _ _ _ _ _ _ _ _ hI hP hD hS (lv_sub hl [0, 1, 2, 3] rfl)
      · refine lv_tableOut (tgt := 428) hx hb dL_law_32 (by decide) (by decide) ?_
        exact hkk _ _ _ _ _ _ _ _ _ _ _ _ _ _ _ _ _ _ _ _ _ _ hI hP hD hS (lv_sub hl [0, 1, 2, 3] rfl)
      · refine lv_tableOut (tgt := 428) hx hb dL_law_32 (by decide) (by decide) ?_
        exact hkk _ _ _ _ _ _ _ _ _ _ _ _ _ _ _ _ _ _ _ _ _ _ hI hP hD hS (lv_sub hl [0, 1, 2, 3] rfl)
      · refine lv_tableOut (tgt := 428) hx hb dL_law_32 (by decide) (by decide) ?_
        exact hkk _ _ _ _ _ _ _ _ _ _ _ _ _ _ _ _ _ _ _ _ _ _ hI hP hD hS (lv_sub hl [0, 1, 2, 3] rfl)
      · refine lv_tableOut (tgt := 428) hx hb dL_law_32 (by decide) (by decide) ?_
        exact hkk _ _ _ _ _ _ _ _ _ _ _ _ _ _ _ _ _ _ _ _ _ _ hI hP hD hS (lv_sub hl [0, 1, 2, 3] rfl)
