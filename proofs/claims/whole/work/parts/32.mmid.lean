abbrev rmX2_exchange : Room := { frames := 0, cells := 0, slots := 0, locals := 0 }
theorem iw_X2_exchange_X2 : ∀ w ∈ wsX20, w ∈ wsX2_exchange := by decide +kernel
theorem kw_X2_exchange_23 : Cond.fieldLink RX2 23 "FluxModesModel" "a" "[J" ∈ wsX2_exchange := by decide +kernel
set_option maxHeartbeats 4000000 in
set_option maxRecDepth 100000 in
theorem lpX2_exchange {p : Program} {l : Launch} {e : Env} {s : State} {m : MethodId} {args : Array Value} {below : List Frame} {meth : Method} {c : Code} {Q : State → Prop} {D : va_G} {A : Nat → Prop} {H0 : Heap} (C0 : CallFix p m c cX2_exchange 6 s args wsX2_exchange RX2) (hN : gx_N s) (hA : ∀ q : Nat, H0.size ≤ q → A q) {g0 p1 b1 q1 t1 a1 l1 v1 M R n : Nat} {a b : Nat} {dA : ClassId} {K0 : Nat → Int64} (ha6 : a < 6) (hb6 : b < 6) (hK : va_K D vwCl [(dA, .long)] s) (kk : ∀ (K : Nat → Int64) (H : Heap) (locs : List Loc) (ls : Array Slot), (sw_I K0 K a b 8) → va_P D vwCl [(g0, .inr (2, [.ref p1, .ref b1, .int (nI M), .int (nI R), .int (nI n), .ref q1, .ref t1, .ref a1, .ref l1, .ref v1])), (a1, .inl (dA, 48, .inr (.inl K)))] H → va_D A [(g0, .inr (2, [.ref p1, .ref b1, .int (nI M), .int (nI R), .int (nI n), .ref q1, .ref t1, .ref a1, .ref l1, .ref v1])), (a1, .inl (dA, 48, .inr (.inl K)))] → va_S A H0 H locs → lv_has ls 6 [(0, .ref g0), (1, .int (nI a)), (2, .int (nI b)), (3, .int (nI 8))] → W p l e rmX2_exchange s m args below meth c H locs 0 0 Q (F0 m 62 ls [])) : ∀ (n_ : Nat) (i : Nat) (K : Nat → Int64) (H : Heap) (locs : List Loc) (ls : Array Slot), (i ≤ 8 ∧ 8 < i + n_) → (sw_I K0 K a b i) → va_P D vwCl [(g0, .inr (2, [.ref p1, .ref b1, .int (nI M), .int (nI R), .int (nI n), .ref q1, .ref t1, .ref a1, .ref l1, .ref v1])), (a1, .inl (dA, 48, .inr (.inl K)))] H → va_D A [(g0, .inr (2, [.ref p1, .ref b1, .int (nI M), .int (nI R), .int (nI n), .ref q1, .ref t1, .ref a1, .ref l1, .ref v1])), (a1, .inl (dA, 48, .inr (.inl K)))] → va_S A H0 H locs → lv_has ls 6 [(0, .ref g0), (1, .int (nI a)), (2, .int (nI b)), (3, .int (nI i))] → W p l e rmX2_exchange s m args below meth c H locs 0 0 Q (F0 m 2 ls []) := by
  obtain ⟨hx, hb, hml, hown, hts⟩ := id C0
  intro n_
  induction n_ with
  | zero =>
    intro i K H locs ls hm
    exact absurd hm (by omega)
  | succ n_ ih =>
    intro i K H locs ls hm hI hP hD hS hl
    refine lv_iload_n hx hb dX2_exchange_2 rfl (lv_at hl 3 rfl) ?_
    refine lv_bipush (v := nI 8) hx hb dX2_exchange_3 (by decide) ?_
    refine gx_ge (tgt := 62) hx hb dX2_exchange_5 (by decide) (by omega) (by omega) (fun c_5 => ?_) (fun c_5 => ?_)
    · have hi8 : i = 8 := by omega
      subst hi8
      exact kk _ _ _ _ hI (hP.sub [0, 1] rfl) (hD.sub [0, 1] (by decide) rfl) hS (lv_sub hl [0, 1, 2, 3] rfl)
    · refine lv_aload_n hx hb dX2_exchange_8 rfl (lv_at hl 0 rfl) ?_
      refine va_get (D := D) (ci := 2) (v := .ref a1) (C := RX2) (T := TX2) (N := 10) hx hb hts iw_X2_exchange_X2 hown hK hP 0 rfl rfl 7 (by decide) (hts _ kw_X2_exchange_23) (fun _ h9 => h9) rfl dX2_exchange_9 ?_
      refine lv_bipush (v := nI 8) hx hb dX2_exchange_12 (by decide) ?_
      refine lv_iload_n hx hb dX2_exchange_14 rfl (lv_at hl 1 rfl) ?_
      refine lv_imul hx hb dX2_exchange_15 ?_
      refine gx_i (y := nI (a * 8)) ((pk_mul 8 a).trans (by rw [Nat.mul_comm])) ?_
      refine lv_iload_n hx hb dX2_exchange_16 rfl (lv_at hl 3 rfl) ?_
      refine lv_iadd hx hb dX2_exchange_17 ?_
      refine gx_i (y := nI (a * 8 + i)) (nI_add (a * 8) i) ?_
      refine gx_lald (q := a * 8 + i) hx hb hK hP 1 0 rfl rfl (rfl) (by omega) (by decide) dX2_exchange_18 ?_
      refine lv_lstore (lv' := [(4, .long (K (a * 8 + i))), (0, .ref g0), (1, .int (nI a)), (2, .int (nI b)), (3, .int (nI i))]) hx hb dX2_exchange_19 hl (by decide) rfl (fun ls hl => ?_)
      refine lv_aload_n hx hb dX2_exchange_21 rfl (lv_at hl 1 rfl) ?_
      refine va_get (D := D) (ci := 2) (v := .ref a1) (C := RX2) (T := TX2) (N := 10) hx hb hts iw_X2_exchange_X2 hown hK hP 0 rfl rfl 7 (by decide) (hts _ kw_X2_exchange_23) (fun _ h9 => h9) rfl dX2_exchange_22 ?_
      refine lv_bipush (v := nI 8) hx hb dX2_exchange_25 (by decide) ?_
      refine lv_iload_n hx hb dX2_exchange_27 rfl (lv_at hl 2 rfl) ?_
      refine lv_imul hx hb dX2_exchange_28 ?_
      refine gx_i (y := nI (a * 8)) ((pk_mul 8 a).trans (by rw [Nat.mul_comm])) ?_
      refine lv_iload_n hx hb dX2_exchange_29 rfl (lv_at hl 4 rfl) ?_
      refine lv_iadd hx hb dX2_exchange_30 ?_
      refine gx_i (y := nI (a * 8 + i)) (nI_add (a * 8) i) ?_
      refine lv_aload_n hx hb dX2_exchange_31 rfl (lv_at hl 1 rfl) ?_
      refine va_get (D := D) (ci := 2) (v := .ref a1) (C := RX2) (T := TX2) (N := 10) hx hb hts iw_X2_exchange_X2 hown hK hP 0 rfl rfl 7 (by decide) (hts _ kw_X2_exchange_23) (fun _ h9 => h9) rfl dX2_exchange_32 ?_
      refine lv_bipush (v := nI 8) hx hb dX2_exchange_35 (by decide) ?_
      refine lv_iload_n hx hb dX2_exchange_37 rfl (lv_at hl 3 rfl) ?_
      refine lv_imul hx hb dX2_exchange_38 ?_
      refine gx_i (y := nI (b * 8)) ((pk_mul 8 b).trans (by rw [Nat.mul_comm])) ?_
      refine lv_iload_n hx hb dX2_exchange_39 rfl (lv_at hl 4 rfl) ?_
      refine lv_iadd hx hb dX2_exchange_40 ?_
      refine gx_i (y := nI (b * 8 + i)) (nI_add (b * 8) i) ?_
      refine gx_lald (q := b * 8 + i) hx hb hK hP 1 0 rfl rfl (rfl) (by omega) (by decide) dX2_exchange_41 ?_
      refine gx_last (q := a * 8 + i) hx hb hK hP hD hS 1 0 rfl rfl (rfl) (by omega) (by decide) dX2_exchange_42 (fun H locs hP hD hS => ?_)
      have hP : va_P D vwCl [(g0, .inr (2, [.ref p1, .ref b1, .int (nI M), .int (nI R), .int (nI n), .ref q1, .ref t1, .ref a1, .ref l1, .ref v1])), (a1, .inl (dA, 48, .inr (.inl (vp_updL K (a * 8 + i) (K (b * 8 + i))))))] H := hP
      have hD : va_D A [(g0, .inr (2, [.ref p1, .ref b1, .int (nI M), .int (nI R), .int (nI n), .ref q1, .ref t1, .ref a1, .ref l1, .ref v1])), (a1, .inl (dA, 48, .inr (.inl (vp_updL K (a * 8 + i) (K (b * 8 + i))))))] := hD
      refine lv_aload_n hx hb dX2_exchange_43 rfl (lv_at hl 1 rfl) ?_
      refine va_get (D := D) (ci := 2) (v := .ref a1) (C := RX2) (T := TX2) (N := 10) hx hb hts iw_X2_exchange_X2 hown hK hP 0 rfl rfl 7 (by decide) (hts _ kw_X2_exchange_23) (fun _ h9 => h9) rfl dX2_exchange_44 ?_
      refine lv_bipush (v := nI 8) hx hb dX2_exchange_47 (by decide) ?_
      refine lv_iload_n hx hb dX2_exchange_49 rfl (lv_at hl 3 rfl) ?_
      refine lv_imul hx hb dX2_exchange_50 ?_
      refine gx_i (y := nI (b * 8)) ((pk_mul 8 b).trans (by rw [Nat.mul_comm])) ?_
      refine lv_iload_n hx hb dX2_exchange_51 rfl (lv_at hl 4 rfl) ?_
      refine lv_iadd hx hb dX2_exchange_52 ?_
      refine gx_i (y := nI (b * 8 + i)) (nI_add (b * 8) i) ?_
      refine lv_lload hx hb dX2_exchange_53 (lv_at hl 0 rfl) ?_
      refine gx_last (q := b * 8 + i) hx hb hK hP hD hS 1 0 rfl rfl (rfl) (by omega) (by decide) dX2_exchange_55 (fun H locs hP hD hS => ?_)
      have hP : va_P D vwCl [(g0, .inr (2, [.ref p1, .ref b1, .int (nI M), .int (nI R), .int (nI n), .ref q1, .ref t1, .ref a1, .ref l1, .ref v1])), (a1, .inl (dA, 48, .inr (.inl (vp_updL (vp_updL K (a * 8 + i) (K (b * 8 + i))) (b * 8 + i) (K (a * 8 + i))))))] H := hP
      have hD : va_D A [(g0, .inr (2, [.ref p1, .ref b1, .int (nI M), .int (nI R), .int (nI n), .ref q1, .ref t1, .ref a1, .ref l1, .ref v1])), (a1, .inl (dA, 48, .inr (.inl (vp_updL (vp_updL K (a * 8 + i) (K (b * 8 + i))) (b * 8 + i) (K (a * 8 + i))))))] := hD
      refine lv_iinc (v := nI (i + 1)) (lv' := [(3, .int (nI (i + 1))), (4, .long (K (a * 8 + i))), (0, .ref g0), (1, .int (nI a)), (2, .int (nI b))]) hx hb dX2_exchange_56 hl (k := 4) rfl ((nI_succ i).symm) (by decide) rfl (fun ls hl => ?_)
      refine lv_goto (tgt := 2) hx hb dX2_exchange_59 (by decide) ?_
      exact ih (i + 1) _ _ _ _ (by omega) (sw_s (by omega) hI) (hP.sub [0, 1] rfl) (hD.sub [0, 1] (by decide) rfl) hS (lv_sub hl [2, 3, 4, 0] rfl)
set_option maxHeartbeats 4000000 in
set_option maxRecDepth 100000 in
theorem kX2_exchange (l : Launch) (D : va_G) (g0 p1 b1 q1 t1 a1 l1 v1 M R n : Nat) (a b : Nat) (dA : ClassId) (K : Nat → Int64) (ha6 : a < 6) (hb6 : b < 6) : gx_Mv l D yX2_exchange wsX2_exchange rmX2_exchange [.ref g0, .int (nI a), .int (nI b)] [(dA, .long)] [(g0, .inr (2, [.ref p1, .ref b1, .int (nI M), .int (nI R), .int (nI n), .ref q1, .ref t1, .ref a1, .ref l1, .ref v1])), (a1, .inl (dA, 48, .inr (.inl K)))] (S := Nat → Int64) (fun (u : Nat → Int64) => sw_I K u a b 8) (fun (u : Nat → Int64) => [(g0, .inr (2, [.ref p1, .ref b1, .int (nI M), .int (nI R), .int (nI n), .ref q1, .ref t1, .ref a1, .ref l1, .ref v1])), (a1, .inl (dA, 48, .inr (.inl u)))]) := by
  intro sz
  refine gx_start (cc := cX2_exchange) (maxL := 6) (ret := none) (Qc := fun A => va_Qv (fun (u : Nat → Int64) => sw_I K u a b 8) (gx_B D [(dA, .long)] A (fun (u : Nat → Int64) => [(g0, .inr (2, [.ref p1, .ref b1, .int (nI M), .int (nI R), .int (nI n), .ref q1, .ref t1, .ref a1, .ref l1, .ref v1])), (a1, .inl (dA, 48, .inr (.inl u)))])) A) (by decide) rfl (Nat.le_of_ble_eq_true rfl) ?_ sz
  intro p e s m below meth c A hbody ls hl
  obtain ⟨C0, hr, hlocks, hN, hK, hP, hD, hA⟩ := hbody
  have C0 : CallFix p m c cX2_exchange 6 s ([.ref g0, .int (nI a), .int (nI b)] : List Value).toArray wsX2_exchange RX2 := C0
  obtain ⟨hx, hb, hml, hown, hts⟩ := id C0
  have hS : va_S A s.heap s.heap [] := va_S.rf
  have hl : lv_has ls 6 [(0, .ref g0), (1, .int (nI a)), (2, .int (nI b))] := hl
  refine lv_iconst (v := nI 0) hx hb dX2_exchange_0 (by decide) ?_
  refine lv_istore_n (lv' := [(3, .int (nI 0)), (0, .ref g0), (1, .int (nI a)), (2, .int (nI b))]) hx hb dX2_exchange_1 rfl hl (by decide) rfl (fun ls hl => ?_)
  refine lpX2_exchange C0 hN hA ha6 hb6 hK (fun K1 H locs ls hI hP hD hS hl => ?_) 9 0 K _ _ _ (by omega) (sw_0 K a b) (hP.sub [0, 1] rfl) (hD.sub [0, 1] (by decide) rfl) hS (lv_sub hl [1, 2, 3, 0] rfl)
  exact gx_retv hx hb hr hlocks K1 (hI) hK (hP.sub [0, 1] rfl) (hD.sub [0, 1] (by decide) rfl) hS dX2_exchange_62
abbrev rmX2_clear : Room := { frames := 0, cells := 0, slots := 0, locals := 0 }
theorem iw_X2_clear_X2 : ∀ w ∈ wsX20, w ∈ wsX2_clear := by decide +kernel
theorem kw_X2_clear_23 : Cond.fieldLink RX2 23 "FluxModesModel" "a" "[J" ∈ wsX2_clear := by decide +kernel
theorem kw_X2_clear_37 : Cond.fieldLink RX2 37 "FluxModesModel" "m" "I" ∈ wsX2_clear := by decide +kernel
set_option maxHeartbeats 4000000 in
set_option maxRecDepth 100000 in
theorem lpX2_clear1 {p : Program} {l : Launch} {e : Env} {s : State} {m : MethodId} {args : Array Value} {below : List Frame} {meth : Method} {c : Code} {Q : State → Prop} {D : va_G} {A : Nat → Prop} {H0 : Heap} (C0 : CallFix p m c cX2_clear 11 s args wsX2_clear RX2) (hN : gx_N s) (hA : ∀ q : Nat, H0.size ≤ q → A q) {g0 p1 b1 q1 t1 a1 l1 v1 M R n : Nat} {row col : Nat} {bf ld : Int64} {dA : ClassId} {K0 : Nat → Int64} {i : Nat} {f : Int64} (hM6 : M ≤ 6) (hr6 : row < 6) (hc8 : col < 8) (hbf : ¬ bf = 0) (hi : i < M) (hir : i ≠ row) (hK : va_K D vwCl [(dA, .long)] s) (kk : ∀ (K : Nat → Int64) (H : Heap) (locs : List Loc) (ls : Array Slot), (ci_I K0 K i row ld f bf 8) → va_P D vwCl [(g0, .inr (2, [.ref p1, .ref b1, .int (nI M), .int (nI R), .int (nI n), .ref q1, .ref t1, .ref a1, .ref l1, .ref v1])), (a1, .inl (dA, 48, .inr (.inl K)))] H → va_D A [(g0, .inr (2, [.ref p1, .ref b1, .int (nI M), .int (nI R), .int (nI n), .ref q1, .ref t1, .ref a1, .ref l1, .ref v1])), (a1, .inl (dA, 48, .inr (.inl K)))] → va_S A H0 H locs → lv_has ls 11 [(0, .ref g0), (1, .int (nI row)), (2, .int (nI col)), (3, .long bf), (5, .long ld), (7, .int (nI i)), (8, .long f), (10, .int (nI 8))] → W p l e rmX2_clear s m args below meth c H locs 0 0 Q (F0 m 111 ls [])) : ∀ (n_ : Nat) (j : Nat) (K : Nat → Int64) (H : Heap) (locs : List Loc) (ls : Array Slot), (j ≤ 8 ∧ 8 < j + n_) → (ci_I K0 K i row ld f bf j) → va_P D vwCl [(g0, .inr (2, [.ref p1, .ref b1, .int (nI M), .int (nI R), .int (nI n), .ref q1, .ref t1, .ref a1, .ref l1, .ref v1])), (a1, .inl (dA, 48, .inr (.inl K)))] H → va_D A [(g0, .inr (2, [.ref p1, .ref b1, .int (nI M), .int (nI R), .int (nI n), .ref q1, .ref t1, .ref a1, .ref l1, .ref v1])), (a1, .inl (dA, 48, .inr (.inl K)))] → va_S A H0 H locs → lv_has ls 11 [(0, .ref g0), (1, .int (nI row)), (2, .int (nI col)), (3, .long bf), (5, .long ld), (7, .int (nI i)), (8, .long f), (10, .int (nI j))] → W p l e rmX2_clear s m args below meth c H locs 0 0 Q (F0 m 51 ls []) := by
  obtain ⟨hx, hb, hml, hown, hts⟩ := id C0
  intro n_
  induction n_ with
  | zero =>
    intro j K H locs ls hm
    exact absurd hm (by omega)
  | succ n_ ih =>
    intro j K H locs ls hm hI hP hD hS hl
    refine lv_iload hx hb dX2_clear_51 (lv_at hl 7 rfl) ?_
    refine lv_bipush (v := nI 8) hx hb dX2_clear_53 (by decide) ?_
    refine gx_ge (tgt := 111) hx hb dX2_clear_55 (by decide) (by omega) (by omega) (fun c_55 => ?_) (fun c_55 => ?_)
    · have hj8 : j = 8 := by omega
      subst hj8
      exact kk _ _ _ _ hI (hP.sub [0, 1] rfl) (hD.sub [0, 1] (by decide) rfl) hS (lv_sub hl [0, 1, 2, 3, 4, 5, 6, 7] rfl)
    · refine lv_aload_n hx hb dX2_clear_58 rfl (lv_at hl 0 rfl) ?_
      refine va_get (D := D) (ci := 2) (v := .ref a1) (C := RX2) (T := TX2) (N := 10) hx hb hts iw_X2_clear_X2 hown hK hP 0 rfl rfl 7 (by decide) (hts _ kw_X2_clear_23) (fun _ h9 => h9) rfl dX2_clear_59 ?_
      refine lv_bipush (v := nI 8) hx hb dX2_clear_62 (by decide) ?_
      refine lv_iload hx hb dX2_clear_64 (lv_at hl 5 rfl) ?_
      refine lv_imul hx hb dX2_clear_66 ?_
      refine gx_i (y := nI (i * 8)) ((pk_mul 8 i).trans (by rw [Nat.mul_comm])) ?_
      refine lv_iload hx hb dX2_clear_67 (lv_at hl 7 rfl) ?_
      refine lv_iadd hx hb dX2_clear_69 ?_
      refine gx_i (y := nI (i * 8 + j)) (nI_add (i * 8) j) ?_
      refine lv_lload hx hb dX2_clear_70 (lv_at hl 4 rfl) ?_
      refine lv_aload_n hx hb dX2_clear_72 rfl (lv_at hl 0 rfl) ?_
      refine va_get (D := D) (ci := 2) (v := .ref a1) (C := RX2) (T := TX2) (N := 10) hx hb hts iw_X2_clear_X2 hown hK hP 0 rfl rfl 7 (by decide) (hts _ kw_X2_clear_23) (fun _ h9 => h9) rfl dX2_clear_73 ?_
      refine lv_bipush (v := nI 8) hx hb dX2_clear_76 (by decide) ?_
      refine lv_iload hx hb dX2_clear_78 (lv_at hl 5 rfl) ?_
      refine lv_imul hx hb dX2_clear_80 ?_
      refine gx_i (y := nI (i * 8)) ((pk_mul 8 i).trans (by rw [Nat.mul_comm])) ?_
      refine lv_iload hx hb dX2_clear_81 (lv_at hl 7 rfl) ?_
      refine lv_iadd hx hb dX2_clear_83 ?_
      refine gx_i (y := nI (i * 8 + j)) (nI_add (i * 8) j) ?_
      refine gx_lald (q := i * 8 + j) hx hb hK hP 1 0 rfl rfl (rfl) (by omega) (by decide) dX2_clear_84 ?_
      refine lv_lmul hx hb dX2_clear_85 ?_
      refine lv_lload hx hb dX2_clear_86 (lv_at hl 6 rfl) ?_
      refine lv_aload_n hx hb dX2_clear_88 rfl (lv_at hl 0 rfl) ?_
      refine va_get (D := D) (ci := 2) (v := .ref a1) (C := RX2) (T := TX2) (N := 10) hx hb hts iw_X2_clear_X2 hown hK hP 0 rfl rfl 7 (by decide) (hts _ kw_X2_clear_23) (fun _ h9 => h9) rfl dX2_clear_89 ?_
      refine lv_bipush (v := nI 8) hx hb dX2_clear_92 (by decide) ?_
      refine lv_iload_n hx hb dX2_clear_94 rfl (lv_at hl 1 rfl) ?_
      refine lv_imul hx hb dX2_clear_95 ?_
      refine gx_i (y := nI (row * 8)) ((pk_mul 8 row).trans (by rw [Nat.mul_comm])) ?_
      refine lv_iload hx hb dX2_clear_96 (lv_at hl 7 rfl) ?_
      refine lv_iadd hx hb dX2_clear_98 ?_
      refine gx_i (y := nI (row * 8 + j)) (nI_add (row * 8) j) ?_
      refine gx_lald (q := row * 8 + j) hx hb hK hP 1 0 rfl rfl (rfl) (by omega) (by decide) dX2_clear_99 ?_
      refine lv_lmul hx hb dX2_clear_100 ?_
      refine lv_lsub hx hb dX2_clear_101 ?_
      refine lv_lload_n hx hb dX2_clear_102 rfl (lv_at hl 3 rfl) ?_
      refine lv_ldiv hx hb dX2_clear_103 hbf ?_
      refine gx_l (y := qt (ld * K (i * 8 + j) - f * K (row * 8 + j)) bf) (qt_ne hbf) ?_
      refine gx_last (q := i * 8 + j) hx hb hK hP hD hS 1 0 rfl rfl (rfl) (by omega) (by decide) dX2_clear_104 (fun H locs hP hD hS => ?_)
      have hP : va_P D vwCl [(g0, .inr (2, [.ref p1, .ref b1, .int (nI M), .int (nI R), .int (nI n), .ref q1, .ref t1, .ref a1, .ref l1, .ref v1])), (a1, .inl (dA, 48, .inr (.inl (vp_updL K (i * 8 + j) (qt (ld * K (i * 8 + j) - f * K (row * 8 + j)) bf)))))] H := hP
      have hD : va_D A [(g0, .inr (2, [.ref p1, .ref b1, .int (nI M), .int (nI R), .int (nI n), .ref q1, .ref t1, .ref a1, .ref l1, .ref v1])), (a1, .inl (dA, 48, .inr (.inl (vp_updL K (i * 8 + j) (qt (ld * K (i * 8 + j) - f * K (row * 8 + j)) bf)))))] := hD
      refine lv_iinc (v := nI (j + 1)) (lv' := [(10, .int (nI (j + 1))), (0, .ref g0), (1, .int (nI row)), (2, .int (nI col)), (3, .long bf), (5, .long ld), (7, .int (nI i)), (8, .long f)]) hx hb dX2_clear_105 hl (k := 7) rfl ((nI_succ j).symm) (by decide) rfl (fun ls hl => ?_)
      refine lv_goto (tgt := 51) hx hb dX2_clear_108 (by decide) ?_
      exact ih (j + 1) _ _ _ _ (by omega) (ci_s hir (by omega) hI) (hP.sub [0, 1] rfl) (hD.sub [0, 1] (by decide) rfl) hS (lv_sub hl [1, 2, 3, 4, 5, 6, 7, 0] rfl)
set_option maxHeartbeats 4000000 in
set_option maxRecDepth 100000 in
theorem lpX2_clear {p : Program} {l : Launch} {e : Env} {s : State} {m : MethodId} {args : Array Value} {below : List Frame} {meth : Method} {c : Code} {Q : State → Prop} {D : va_G} {A : Nat → Prop} {H0 : Heap} (C0 : CallFix p m c cX2_clear 11 s args wsX2_clear RX2) (hN : gx_N s) (hA : ∀ q : Nat, H0.size ≤ q → A q) {g0 p1 b1 q1 t1 a1 l1 v1 M R n : Nat} {row col : Nat} {bf ld : Int64} {dA : ClassId} {K0 : Nat → Int64} (hM6 : M ≤ 6) (hr6 : row < 6) (hc8 : col < 8) (hbf : ¬ bf = 0) (hld : ld = K0 (row * 8 + col)) (hK : va_K D vwCl [(dA, .long)] s) (kk : ∀ (K : Nat → Int64) (H : Heap) (locs : List Loc) (ls : Array Slot), (cm_I K0 K row col bf M) → va_P D vwCl [(g0, .inr (2, [.ref p1, .ref b1, .int (nI M), .int (nI R), .int (nI n), .ref q1, .ref t1, .ref a1, .ref l1, .ref v1])), (a1, .inl (dA, 48, .inr (.inl K)))] H → va_D A [(g0, .inr (2, [.ref p1, .ref b1, .int (nI M), .int (nI R), .int (nI n), .ref q1, .ref t1, .ref a1, .ref l1, .ref v1])), (a1, .inl (dA, 48, .inr (.inl K)))] → va_S A H0 H locs → lv_has ls 11 [(0, .ref g0), (1, .int (nI row)), (2, .int (nI col)), (3, .long bf), (5, .long ld), (7, .int (nI M))] → W p l e rmX2_clear s m args below meth c H locs 0 0 Q (F0 m 117 ls [])) : ∀ (n_ : Nat) (i : Nat) (K : Nat → Int64) (H : Heap) (locs : List Loc) (ls : Array Slot), (i ≤ M ∧ M < i + n_) → (cm_I K0 K row col bf i) → va_P D vwCl [(g0, .inr (2, [.ref p1, .ref b1, .int (nI M), .int (nI R), .int (nI n), .ref q1, .ref t1, .ref a1, .ref l1, .ref v1])), (a1, .inl (dA, 48, .inr (.inl K)))] H → va_D A [(g0, .inr (2, [.ref p1, .ref b1, .int (nI M), .int (nI R), .int (nI n), .ref q1, .ref t1, .ref a1, .ref l1, .ref v1])), (a1, .inl (dA, 48, .inr (.inl K)))] → va_S A H0 H locs → lv_has ls 11 [(0, .ref g0), (1, .int (nI row)), (2, .int (nI col)), (3, .long bf), (5, .long ld), (7, .int (nI i))] → W p l e rmX2_clear s m args below meth c H locs 0 0 Q (F0 m 16 ls []) := by
  obtain ⟨hx, hb, hml, hown, hts⟩ := id C0
  intro n_
  induction n_ with
  | zero =>
    intro i K H locs ls hm
    exact absurd hm (by omega)
  | succ n_ ih =>
    intro i K H locs ls hm hI hP hD hS hl
    refine lv_iload hx hb dX2_clear_16 (lv_at hl 5 rfl) ?_
    refine lv_aload_n hx hb dX2_clear_18 rfl (lv_at hl 0 rfl) ?_
    refine va_get (D := D) (ci := 2) (v := .int (nI M)) (C := RX2) (T := TX2) (N := 10) hx hb hts iw_X2_clear_X2 hown hK hP 0 rfl rfl 2 (by decide) (hts _ kw_X2_clear_37) (fun _ h9 => h9) rfl dX2_clear_19 ?_
    refine gx_ge (tgt := 117) hx hb dX2_clear_22 (by decide) (by omega) (by omega) (fun c_22 => ?_) (fun c_22 => ?_)
    · have hiM : i = M := by omega
      subst hiM
      exact kk _ _ _ _ hI (hP.sub [0, 1] rfl) (hD.sub [0, 1] (by decide) rfl) hS (lv_sub hl [0, 1, 2, 3, 4, 5] rfl)
    · refine lv_iload hx hb dX2_clear_25 (lv_at hl 5 rfl) ?_
      refine lv_iload_n hx hb dX2_clear_27 rfl (lv_at hl 1 rfl) ?_
      refine gx_ne (tgt := 34) hx hb dX2_clear_28 (by decide) (by omega) (by omega) (fun c_28 => ?_) (fun c_28 => ?_)
      · refine lv_aload_n hx hb dX2_clear_34 rfl (lv_at hl 0 rfl) ?_
        refine va_get (D := D) (ci := 2) (v := .ref a1) (C := RX2) (T := TX2) (N := 10) hx hb hts iw_X2_clear_X2 hown hK hP 0 rfl rfl 7 (by decide) (hts _ kw_X2_clear_23) (fun _ h9 => h9) rfl dX2_clear_35 ?_
        refine lv_bipush (v := nI 8) hx hb dX2_clear_38 (by decide) ?_
        refine lv_iload hx hb dX2_clear_40 (lv_at hl 5 rfl) ?_
        refine lv_imul hx hb dX2_clear_42 ?_
        refine gx_i (y := nI (i * 8)) ((pk_mul 8 i).trans (by rw [Nat.mul_comm])) ?_
        refine lv_iload_n hx hb dX2_clear_43 rfl (lv_at hl 2 rfl) ?_
        refine lv_iadd hx hb dX2_clear_44 ?_
        refine gx_i (y := nI (i * 8 + col)) (nI_add (i * 8) col) ?_
        refine gx_lald (q := i * 8 + col) hx hb hK hP 1 0 rfl rfl (rfl) (by omega) (by decide) dX2_clear_45 ?_
        refine lv_lstore (lv' := [(8, .long (K (i * 8 + col))), (0, .ref g0), (1, .int (nI row)), (2, .int (nI col)), (3, .long bf), (5, .long ld), (7, .int (nI i))]) hx hb dX2_clear_46 hl (by decide) rfl (fun ls hl => ?_)
        refine lv_iconst (v := nI 0) hx hb dX2_clear_48 (by decide) ?_
        refine lv_istore (lv' := [(10, .int (nI 0)), (8, .long (K (i * 8 + col))), (0, .ref g0), (1, .int (nI row)), (2, .int (nI col)), (3, .long bf), (5, .long ld), (7, .int (nI i))]) hx hb dX2_clear_49 hl (by decide) rfl (fun ls hl => ?_)
        refine lpX2_clear1 (K0 := K) C0 hN hA hM6 hr6 hc8 hbf (by omega) c_28 hK (fun K1 H locs ls hJ hP hD hS hl => ?_) 9 0 K _ _ _ (by omega) (ci_0 K i row ld _ bf) (hP.sub [0, 1] rfl) (hD.sub [0, 1] (by decide) rfl) hS (lv_sub hl [2, 3, 4, 5, 6, 7, 1, 0] rfl)
        refine lv_iinc (v := nI (i + 1)) (lv' := [(7, .int (nI (i + 1))), (0, .ref g0), (1, .int (nI row)), (2, .int (nI col)), (3, .long bf), (5, .long ld), (8, .long (K (i * 8 + col))), (10, .int (nI 8))]) hx hb dX2_clear_111 hl (k := 5) rfl ((nI_succ i).symm) (by decide) rfl (fun ls hl => ?_)
        refine lv_goto (tgt := 16) hx hb dX2_clear_114 (by decide) ?_
        exact ih (i + 1) _ _ _ _ (by omega) (cm_s c_28 hc8 hI (hld ▸ hJ)) (hP.sub [0, 1] rfl) (hD.sub [0, 1] (by decide) rfl) hS (lv_sub hl [1, 2, 3, 4, 5, 0] rfl)
      · refine lv_goto (tgt := 111) hx hb dX2_clear_31 (by decide) ?_
        refine lv_iinc (v := nI (i + 1)) (lv' := [(7, .int (nI (i + 1))), (0, .ref g0), (1, .int (nI row)), (2, .int (nI col)), (3, .long bf), (5, .long ld)]) hx hb dX2_clear_111 hl (k := 5) rfl ((nI_succ i).symm) (by decide) rfl (fun ls hl => ?_)
        refine lv_goto (tgt := 16) hx hb dX2_clear_114 (by decide) ?_
        exact ih (i + 1) _ _ _ _ (by omega) (by rw [c_28]; rw [c_28] at hI; exact cm_skip hI) (hP.sub [0, 1] rfl) (hD.sub [0, 1] (by decide) rfl) hS (lv_sub hl [1, 2, 3, 4, 5, 0] rfl)
set_option maxHeartbeats 4000000 in
set_option maxRecDepth 100000 in
theorem kX2_clear (l : Launch) (D : va_G) (g0 p1 b1 q1 t1 a1 l1 v1 M R n : Nat) (row col : Nat) (bf : Int64) (dA : ClassId) (K : Nat → Int64) (hM6 : M ≤ 6) (hr6 : row < 6) (hc8 : col < 8) (hbf : ¬ bf = 0) : gx_Mv l D yX2_clear wsX2_clear rmX2_clear [.ref g0, .int (nI row), .int (nI col), .long bf] [(dA, .long)] [(g0, .inr (2, [.ref p1, .ref b1, .int (nI M), .int (nI R), .int (nI n), .ref q1, .ref t1, .ref a1, .ref l1, .ref v1])), (a1, .inl (dA, 48, .inr (.inl K)))] (S := Nat → Int64) (fun (u : Nat → Int64) => cm_I K u row col bf M) (fun (u : Nat → Int64) => [(g0, .inr (2, [.ref p1, .ref b1, .int (nI M), .int (nI R), .int (nI n), .ref q1, .ref t1, .ref a1, .ref l1, .ref v1])), (a1, .inl (dA, 48, .inr (.inl u)))]) := by
  intro sz
  refine gx_start (cc := cX2_clear) (maxL := 11) (ret := none) (Qc := fun A => va_Qv (fun (u : Nat → Int64) => cm_I K u row col bf M) (gx_B D [(dA, .long)] A (fun (u : Nat → Int64) => [(g0, .inr (2, [.ref p1, .ref b1, .int (nI M), .int (nI R), .int (nI n), .ref q1, .ref t1, .ref a1, .ref l1, .ref v1])), (a1, .inl (dA, 48, .inr (.inl u)))])) A) (by decide) rfl (Nat.le_of_ble_eq_true rfl) ?_ sz
  intro p e s m below meth c A hbody ls hl
  obtain ⟨C0, hr, hlocks, hN, hK, hP, hD, hA⟩ := hbody
  have C0 : CallFix p m c cX2_clear 11 s ([.ref g0, .int (nI row), .int (nI col), .long bf] : List Value).toArray wsX2_clear RX2 := C0
  obtain ⟨hx, hb, hml, hown, hts⟩ := id C0
  have hS : va_S A s.heap s.heap [] := va_S.rf
  have hl : lv_has ls 11 [(0, .ref g0), (1, .int (nI row)), (2, .int (nI col)), (3, .long bf)] := hl
  refine lv_aload_n hx hb dX2_clear_0 rfl (lv_at hl 0 rfl) ?_
  refine va_get (D := D) (ci := 2) (v := .ref a1) (C := RX2) (T := TX2) (N := 10) hx hb hts iw_X2_clear_X2 hown hK hP 0 rfl rfl 7 (by decide) (hts _ kw_X2_clear_23) (fun _ h9 => h9) rfl dX2_clear_1 ?_
  refine lv_bipush (v := nI 8) hx hb dX2_clear_4 (by decide) ?_
  refine lv_iload_n hx hb dX2_clear_6 rfl (lv_at hl 1 rfl) ?_
  refine lv_imul hx hb dX2_clear_7 ?_
  refine gx_i (y := nI (row * 8)) ((pk_mul 8 row).trans (by rw [Nat.mul_comm])) ?_
  refine lv_iload_n hx hb dX2_clear_8 rfl (lv_at hl 2 rfl) ?_
  refine lv_iadd hx hb dX2_clear_9 ?_
  refine gx_i (y := nI (row * 8 + col)) (nI_add (row * 8) col) ?_
  refine gx_lald (q := row * 8 + col) hx hb hK hP 1 0 rfl rfl (rfl) (by omega) (by decide) dX2_clear_10 ?_
  refine lv_lstore (lv' := [(5, .long (K (row * 8 + col))), (0, .ref g0), (1, .int (nI row)), (2, .int (nI col)), (3, .long bf)]) hx hb dX2_clear_11 hl (by decide) rfl (fun ls hl => ?_)
  refine lv_iconst (v := nI 0) hx hb dX2_clear_13 (by decide) ?_
  refine lv_istore (lv' := [(7, .int (nI 0)), (5, .long (K (row * 8 + col))), (0, .ref g0), (1, .int (nI row)), (2, .int (nI col)), (3, .long bf)]) hx hb dX2_clear_14 hl (by decide) rfl (fun ls hl => ?_)
  refine lpX2_clear (ld := K (row * 8 + col)) C0 hN hA hM6 hr6 hc8 hbf rfl hK (fun K1 H locs ls hI hP hD hS hl => ?_) (M + 1) 0 K _ _ _ (by omega) (cm_0 K row col bf) (hP.sub [0, 1] rfl) (hD.sub [0, 1] (by decide) rfl) hS (lv_sub hl [2, 3, 4, 5, 1, 0] rfl)
  exact gx_retv hx hb hr hlocks K1 (hI) hK (hP.sub [0, 1] rfl) (hD.sub [0, 1] (by decide) rfl) hS dX2_clear_117
abbrev rmX2_signed : Room := { frames := 0, cells := 0, slots := 0, locals := 0 }
theorem iw_X2_signed_X2 : ∀ w ∈ wsX20, w ∈ wsX2_signed := by decide +kernel
theorem kw_X2_signed_13 : Cond.fieldLink RX2 13 "FluxModesModel" "both" "[Z" ∈ wsX2_signed := by decide +kernel
theorem kw_X2_signed_30 : Cond.fieldLink RX2 30 "FluxModesModel" "line" "[J" ∈ wsX2_signed := by decide +kernel
theorem kw_X2_signed_33 : Cond.fieldLink RX2 33 "FluxModesModel" "\x72" "I" ∈ wsX2_signed := by decide +kernel
set_option maxHeartbeats 4000000 in
set_option maxRecDepth 100000 in
theorem lpX2_signed1 {p : Program} {l : Launch} {e : Env} {s : State} {m : MethodId} {args : Array Value} {below : List Frame} {meth : Method} {c : Code} {Q : State → Prop} {D : va_G} {A : Nat → Prop} {H0 : Heap} (C0 : CallFix p m c cX2_signed 6 s args wsX2_signed RX2) (hN : gx_N s) (hA : ∀ q : Nat, H0.size ≤ q → A q) {g0 p1 b1 q1 t1 a1 l1 v1 M R n : Nat} {S V : Nat} {dB dV : ClassId} {Bt : Nat → Int32} {F : Nat → Int64} (hR8 : R ≤ 8) (hs8 : S < 256) (hB : bts Bt V) (hK : va_K D vwCl [(dB, .boolean), (dV, .long)] s) (kk : ∀ (sg fi x4 : Int32) (H : Heap) (locs : List Loc) (ls : Array Slot), (sgI S V F 0 sg fi) → va_P D vwCl [(g0, .inr (2, [.ref p1, .ref b1, .int (nI M), .int (nI R), .int (nI n), .ref q1, .ref t1, .ref a1, .ref l1, .ref v1])), (b1, .inl (dB, 8, .inl Bt)), (v1, .inl (dV, 8, .inr (.inl F)))] H → va_D A [(g0, .inr (2, [.ref p1, .ref b1, .int (nI M), .int (nI R), .int (nI n), .ref q1, .ref t1, .ref a1, .ref l1, .ref v1])), (b1, .inl (dB, 8, .inl Bt)), (v1, .inl (dV, 8, .inr (.inl F)))] → va_S A H0 H locs → lv_has ls 6 [(0, .ref g0), (1, .int (nI S)), (2, .int sg), (3, .int fi), (4, .int x4)] → W p l e rmX2_signed s m args below meth c H locs 0 0 Q (F0 m 103 ls [])) (kr : ∀ (sg fi x4 : Int32) (H : Heap) (locs : List Loc) (ls : Array Slot), (¬ sgd S V F) → va_P D vwCl [(g0, .inr (2, [.ref p1, .ref b1, .int (nI M), .int (nI R), .int (nI n), .ref q1, .ref t1, .ref a1, .ref l1, .ref v1])), (b1, .inl (dB, 8, .inl Bt)), (v1, .inl (dV, 8, .inr (.inl F)))] H → va_D A [(g0, .inr (2, [.ref p1, .ref b1, .int (nI M), .int (nI R), .int (nI n), .ref q1, .ref t1, .ref a1, .ref l1, .ref v1])), (b1, .inl (dB, 8, .inl Bt)), (v1, .inl (dV, 8, .inr (.inl F)))] → va_S A H0 H locs → lv_has ls 6 [(0, .ref g0), (1, .int (nI S)), (2, .int sg), (3, .int fi), (4, .int x4)] → W p l e rmX2_signed s m args below meth c H locs 0 0 Q (F0 m 41 ls [])) (kt : ∀ (sg fi x4 s5 : Int32) (H : Heap) (locs : List Loc) (ls : Array Slot), (¬ sgd S V F) → va_P D vwCl [(g0, .inr (2, [.ref p1, .ref b1, .int (nI M), .int (nI R), .int (nI n), .ref q1, .ref t1, .ref a1, .ref l1, .ref v1])), (b1, .inl (dB, 8, .inl Bt)), (v1, .inl (dV, 8, .inr (.inl F)))] H → va_D A [(g0, .inr (2, [.ref p1, .ref b1, .int (nI M), .int (nI R), .int (nI n), .ref q1, .ref t1, .ref a1, .ref l1, .ref v1])), (b1, .inl (dB, 8, .inl Bt)), (v1, .inl (dV, 8, .inr (.inl F)))] → va_S A H0 H locs → lv_has ls 6 [(0, .ref g0), (1, .int (nI S)), (2, .int sg), (3, .int fi), (4, .int x4), (5, .int s5)] → W p l e rmX2_signed s m args below meth c H locs 0 0 Q (F0 m 82 ls [])) : ∀ (n_ : Nat) (J : Nat) (x4 sg fi : Int32) (H : Heap) (locs : List Loc) (ls : Array Slot), (J ≤ R ∧ J < n_) → (x4 = nI J + (-1) ∧ sgI S V F J sg fi) → va_P D vwCl [(g0, .inr (2, [.ref p1, .ref b1, .int (nI M), .int (nI R), .int (nI n), .ref q1, .ref t1, .ref a1, .ref l1, .ref v1])), (b1, .inl (dB, 8, .inl Bt)), (v1, .inl (dV, 8, .inr (.inl F)))] H → va_D A [(g0, .inr (2, [.ref p1, .ref b1, .int (nI M), .int (nI R), .int (nI n), .ref q1, .ref t1, .ref a1, .ref l1, .ref v1])), (b1, .inl (dB, 8, .inl Bt)), (v1, .inl (dV, 8, .inr (.inl F)))] → va_S A H0 H locs → lv_has ls 6 [(0, .ref g0), (1, .int (nI S)), (2, .int sg), (3, .int fi), (4, .int x4)] → W p l e rmX2_signed s m args below meth c H locs 0 0 Q (F0 m 12 ls []) := by
  obtain ⟨hx, hb, hml, hown, hts⟩ := id C0
  intro n_
  induction n_ with
  | zero =>
    intro J x4 sg fi H locs ls hm
    exact absurd hm (by omega)
  | succ n_ ih =>
    intro J x4 sg fi H locs ls hm hI hP hD hS hl
    refine lv_iload hx hb dX2_signed_12 (lv_at hl 4 rfl) ?_
    refine lv_if_lt (tgt := 103) hx hb dX2_signed_14 (by decide) (fun c_14 => ?_) (fun c_14 => ?_)
    · have hJ0 : J = 0 := by rcases Nat.eq_zero_or_pos J with h | h; exact h; exact absurd c_14 (by rw [hI.1, show J = (J - 1) + 1 by omega, pk_m1]; exact nI_pos (by omega))
      have hI2 := hI.2
      rw [hJ0] at hI2
      exact kk sg fi x4 _ _ _ hI2 (hP.sub [0, 1, 2] rfl) (hD.sub [0, 1, 2] (by decide) rfl) hS (lv_sub hl [0, 1, 2, 3, 4] rfl)
    · obtain ⟨j, rfl⟩ : ∃ j, J = j + 1 := ⟨J - 1, by rcases Nat.eq_zero_or_pos J with h | h; exact absurd (show x4 < 0 by rw [hI.1, h]; decide) c_14; omega⟩
      have hx4 : x4 = nI j := by rw [hI.1]; exact pk_m1 j
      subst hx4
      refine lv_iload_n hx hb dX2_signed_17 rfl (lv_at hl 1 rfl) ?_
      refine lv_iload hx hb dX2_signed_18 (lv_at hl 4 rfl) ?_
      refine lv_ishr hx hb dX2_signed_20 ?_
      refine lv_iconst (v := nI 1) hx hb dX2_signed_21 (by decide) ?_
      refine lv_iand hx hb dX2_signed_22 ?_
      refine gx_i (y := bI (S.testBit j)) (sp_has S hs8 j (by omega)) ?_
      refine gx_bne (tgt := 29) hx hb dX2_signed_23 (by decide) (fun c_23 => ?_) (fun c_23 => ?_)
      · refine lv_aload_n hx hb dX2_signed_29 rfl (lv_at hl 0 rfl) ?_
        refine va_get (D := D) (ci := 2) (v := .ref v1) (C := RX2) (T := TX2) (N := 10) hx hb hts iw_X2_signed_X2 hown hK hP 0 rfl rfl 9 (by decide) (hts _ kw_X2_signed_30) (fun _ h9 => h9) rfl dX2_signed_30 ?_
        refine lv_iload hx hb dX2_signed_33 (lv_at hl 4 rfl) ?_
        refine gx_lald (q := j) hx hb hK hP 2 1 rfl rfl (rfl) (by omega) (by decide) dX2_signed_35 ?_
        refine lv_lconst (v := 0) hx hb dX2_signed_36 (by decide) ?_
        refine W.lcmp hx hb dX2_signed_37 ?_
        refine lv_if_ne (tgt := 43) hx hb dX2_signed_38 (by decide) (fun c_38 => ?_) (fun c_38 => ?_)
        · have hz : F j ≠ 0 := fun q => c_38 ((gx_cmp0 _ _).mpr q)
          refine lv_aload_n hx hb dX2_signed_43 rfl (lv_at hl 0 rfl) ?_
          refine va_get (D := D) (ci := 2) (v := .ref v1) (C := RX2) (T := TX2) (N := 10) hx hb hts iw_X2_signed_X2 hown hK hP 0 rfl rfl 9 (by decide) (hts _ kw_X2_signed_30) (fun _ h9 => h9) rfl dX2_signed_44 ?_
          refine lv_iload hx hb dX2_signed_47 (lv_at hl 4 rfl) ?_
          refine gx_lald (q := j) hx hb hK hP 2 1 rfl rfl (rfl) (by omega) (by decide) dX2_signed_49 ?_
          refine lv_lconst (v := 0) hx hb dX2_signed_50 (by decide) ?_
          refine W.lcmp hx hb dX2_signed_51 ?_
          refine lv_if_le (tgt := 59) hx hb dX2_signed_52 (by decide) (fun c_52 => ?_) (fun c_52 => ?_)
          · have hp : ¬ 0 < F j := (gx_cmp_le _ _).mp c_52
            refine lv_iconst (v := (-1)) hx hb dX2_signed_59 (by decide) ?_
            refine lv_istore (lv' := [(5, .int ((-1))), (0, .ref g0), (1, .int (nI S)), (2, .int sg), (3, .int fi), (4, .int (nI j))]) hx hb dX2_signed_60 hl (by decide) rfl (fun ls hl => ?_)
            refine lv_iload hx hb dX2_signed_62 (lv_at hl 0 rfl) ?_
            refine lv_istore_n (lv' := [(3, .int ((-1))), (5, .int ((-1))), (0, .ref g0), (1, .int (nI S)), (2, .int sg), (4, .int (nI j))]) hx hb dX2_signed_64 rfl hl (by decide) rfl (fun ls hl => ?_)
            refine lv_aload_n hx hb dX2_signed_65 rfl (lv_at hl 2 rfl) ?_
            refine va_get (D := D) (ci := 2) (v := .ref b1) (C := RX2) (T := TX2) (N := 10) hx hb hts iw_X2_signed_X2 hown hK hP 0 rfl rfl 1 (by decide) (hts _ kw_X2_signed_13) (fun _ h9 => h9) rfl dX2_signed_66 ?_
            refine lv_iload hx hb dX2_signed_69 (lv_at hl 5 rfl) ?_
            refine gx_zald (q := j) hx hb hK hP 1 0 rfl rfl (rfl) (by omega) (by decide) dX2_signed_71 ?_
            refine gx_i (y := bI (V.testBit j)) (hB j (by omega)) ?_
            refine gx_bne (tgt := 84) hx hb dX2_signed_72 (by decide) (fun c_72 => ?_) (fun c_72 => ?_)
            · have hv72 := c_72
              refine lv_aload_n hx hb dX2_signed_84 rfl (lv_at hl 2 rfl) ?_
              refine va_get (D := D) (ci := 2) (v := .ref b1) (C := RX2) (T := TX2) (N := 10) hx hb hts iw_X2_signed_X2 hown hK hP 0 rfl rfl 1 (by decide) (hts _ kw_X2_signed_13) (fun _ h9 => h9) rfl dX2_signed_85 ?_
              refine lv_iload hx hb dX2_signed_88 (lv_at hl 5 rfl) ?_
              refine gx_zald (q := j) hx hb hK hP 1 0 rfl rfl (rfl) (by omega) (by decide) dX2_signed_90 ?_
              refine gx_i (y := bI (V.testBit j)) (hB j (by omega)) ?_
              refine gx_bne (tgt := 97) hx hb dX2_signed_91 (by decide) (fun c_91 => ?_) (fun c_91 => ?_)
              · refine lv_iinc (v := nI j + (-1)) (lv' := [(4, .int (nI j + (-1))), (3, .int ((-1))), (5, .int ((-1))), (0, .ref g0), (1, .int (nI S)), (2, .int sg)]) hx hb dX2_signed_97 hl (k := 5) rfl (rfl) (by decide) rfl (fun ls hl => ?_)
                refine lv_goto (tgt := 12) hx hb dX2_signed_100 (by decide) ?_
                exact ih j (nI j + (-1)) sg ((-1)) _ _ _ (by omega) ⟨rfl, sg_rev (by omega) c_23 hz c_72 (by rw [if_neg hp]) hI.2⟩ (hP.sub [0, 1, 2] rfl) (hD.sub [0, 1, 2] (by decide) rfl) hS (lv_sub hl [3, 4, 5, 1, 0] rfl)
              · exact absurd (hv72.symm.trans c_91) (by decide)
            · have hv72 := c_72
              refine lv_iload_n hx hb dX2_signed_75 rfl (lv_at hl 4 rfl) ?_
              refine lv_iload hx hb dX2_signed_76 (lv_at hl 1 rfl) ?_
              refine lv_ineg hx hb dX2_signed_78 ?_
              refine lv_icmp_ne (tgt := 84) hx hb dX2_signed_79 (by decide) (fun c_79 => ?_) (fun c_79 => ?_)
              · have c_79 : ¬ sg = 1 := c_79
                refine lv_aload_n hx hb dX2_signed_84 rfl (lv_at hl 2 rfl) ?_
                refine va_get (D := D) (ci := 2) (v := .ref b1) (C := RX2) (T := TX2) (N := 10) hx hb hts iw_X2_signed_X2 hown hK hP 0 rfl rfl 1 (by decide) (hts _ kw_X2_signed_13) (fun _ h9 => h9) rfl dX2_signed_85 ?_
                refine lv_iload hx hb dX2_signed_88 (lv_at hl 5 rfl) ?_
                refine gx_zald (q := j) hx hb hK hP 1 0 rfl rfl (rfl) (by omega) (by decide) dX2_signed_90 ?_
                refine gx_i (y := bI (V.testBit j)) (hB j (by omega)) ?_
                refine gx_bne (tgt := 97) hx hb dX2_signed_91 (by decide) (fun c_91 => ?_) (fun c_91 => ?_)
                · exact absurd (c_91.symm.trans hv72) (by decide)
                · refine lv_iload hx hb dX2_signed_94 (lv_at hl 1 rfl) ?_
                  refine lv_istore_n (lv' := [(2, .int ((-1))), (3, .int ((-1))), (5, .int ((-1))), (0, .ref g0), (1, .int (nI S)), (4, .int (nI j))]) hx hb dX2_signed_96 rfl hl (by decide) rfl (fun ls hl => ?_)
                  refine lv_iinc (v := nI j + (-1)) (lv' := [(4, .int (nI j + (-1))), (2, .int ((-1))), (3, .int ((-1))), (5, .int ((-1))), (0, .ref g0), (1, .int (nI S))]) hx hb dX2_signed_97 hl (k := 5) rfl (rfl) (by decide) rfl (fun ls hl => ?_)
                  refine lv_goto (tgt := 12) hx hb dX2_signed_100 (by decide) ?_
                  exact ih j (nI j + (-1)) (-1) (-1) _ _ _ (by omega) ⟨rfl, sg_neg (by omega) c_23 hz c_72 hp c_79 hI.2⟩ (hP.sub [0, 1, 2] rfl) (hD.sub [0, 1, 2] (by decide) rfl) hS (lv_sub hl [4, 5, 1, 2, 0] rfl)
              · have c_79 : sg = 1 := c_79
                exact kt sg ((-1)) (nI j) ((-1)) _ _ _ (sgd_n (by omega) c_23 c_72 hp c_79 hI.2) (hP.sub [0, 1, 2] rfl) (hD.sub [0, 1, 2] (by decide) rfl) hS (lv_sub hl [2, 3, 4, 0, 5, 1] rfl)
          · have hp : 0 < F j := Classical.byContradiction (fun q => c_52 ((gx_cmp_le _ _).mpr q))
            refine lv_iconst (v := 1) hx hb dX2_signed_55 (by decide) ?_
            refine lv_goto (tgt := 60) hx hb dX2_signed_56 (by decide) ?_
            refine lv_istore (lv' := [(5, .int 1), (0, .ref g0), (1, .int (nI S)), (2, .int sg), (3, .int fi), (4, .int (nI j))]) hx hb dX2_signed_60 hl (by decide) rfl (fun ls hl => ?_)
            refine lv_iload hx hb dX2_signed_62 (lv_at hl 0 rfl) ?_
            refine lv_istore_n (lv' := [(3, .int 1), (5, .int 1), (0, .ref g0), (1, .int (nI S)), (2, .int sg), (4, .int (nI j))]) hx hb dX2_signed_64 rfl hl (by decide) rfl (fun ls hl => ?_)
            refine lv_aload_n hx hb dX2_signed_65 rfl (lv_at hl 2 rfl) ?_
            refine va_get (D := D) (ci := 2) (v := .ref b1) (C := RX2) (T := TX2) (N := 10) hx hb hts iw_X2_signed_X2 hown hK hP 0 rfl rfl 1 (by decide) (hts _ kw_X2_signed_13) (fun _ h9 => h9) rfl dX2_signed_66 ?_
            refine lv_iload hx hb dX2_signed_69 (lv_at hl 5 rfl) ?_
            refine gx_zald (q := j) hx hb hK hP 1 0 rfl rfl (rfl) (by omega) (by decide) dX2_signed_71 ?_
            refine gx_i (y := bI (V.testBit j)) (hB j (by omega)) ?_
            refine gx_bne (tgt := 84) hx hb dX2_signed_72 (by decide) (fun c_72 => ?_) (fun c_72 => ?_)
            · have hv72 := c_72
              refine lv_aload_n hx hb dX2_signed_84 rfl (lv_at hl 2 rfl) ?_
              refine va_get (D := D) (ci := 2) (v := .ref b1) (C := RX2) (T := TX2) (N := 10) hx hb hts iw_X2_signed_X2 hown hK hP 0 rfl rfl 1 (by decide) (hts _ kw_X2_signed_13) (fun _ h9 => h9) rfl dX2_signed_85 ?_
              refine lv_iload hx hb dX2_signed_88 (lv_at hl 5 rfl) ?_
              refine gx_zald (q := j) hx hb hK hP 1 0 rfl rfl (rfl) (by omega) (by decide) dX2_signed_90 ?_
              refine gx_i (y := bI (V.testBit j)) (hB j (by omega)) ?_
              refine gx_bne (tgt := 97) hx hb dX2_signed_91 (by decide) (fun c_91 => ?_) (fun c_91 => ?_)
              · refine lv_iinc (v := nI j + (-1)) (lv' := [(4, .int (nI j + (-1))), (3, .int 1), (5, .int 1), (0, .ref g0), (1, .int (nI S)), (2, .int sg)]) hx hb dX2_signed_97 hl (k := 5) rfl (rfl) (by decide) rfl (fun ls hl => ?_)
                refine lv_goto (tgt := 12) hx hb dX2_signed_100 (by decide) ?_
                exact ih j (nI j + (-1)) sg 1 _ _ _ (by omega) ⟨rfl, sg_rev (by omega) c_23 hz c_72 (by rw [if_pos hp]) hI.2⟩ (hP.sub [0, 1, 2] rfl) (hD.sub [0, 1, 2] (by decide) rfl) hS (lv_sub hl [3, 4, 5, 1, 0] rfl)
              · exact absurd (hv72.symm.trans c_91) (by decide)
            · have hv72 := c_72
              refine lv_iload_n hx hb dX2_signed_75 rfl (lv_at hl 4 rfl) ?_
              refine lv_iload hx hb dX2_signed_76 (lv_at hl 1 rfl) ?_
              refine lv_ineg hx hb dX2_signed_78 ?_
              refine lv_icmp_ne (tgt := 84) hx hb dX2_signed_79 (by decide) (fun c_79 => ?_) (fun c_79 => ?_)
              · have c_79 : ¬ sg = -1 := c_79
                refine lv_aload_n hx hb dX2_signed_84 rfl (lv_at hl 2 rfl) ?_
                refine va_get (D := D) (ci := 2) (v := .ref b1) (C := RX2) (T := TX2) (N := 10) hx hb hts iw_X2_signed_X2 hown hK hP 0 rfl rfl 1 (by decide) (hts _ kw_X2_signed_13) (fun _ h9 => h9) rfl dX2_signed_85 ?_
                refine lv_iload hx hb dX2_signed_88 (lv_at hl 5 rfl) ?_
                refine gx_zald (q := j) hx hb hK hP 1 0 rfl rfl (rfl) (by omega) (by decide) dX2_signed_90 ?_
                refine gx_i (y := bI (V.testBit j)) (hB j (by omega)) ?_
                refine gx_bne (tgt := 97) hx hb dX2_signed_91 (by decide) (fun c_91 => ?_) (fun c_91 => ?_)
                · exact absurd (c_91.symm.trans hv72) (by decide)
                · refine lv_iload hx hb dX2_signed_94 (lv_at hl 1 rfl) ?_
                  refine lv_istore_n (lv' := [(2, .int 1), (3, .int 1), (5, .int 1), (0, .ref g0), (1, .int (nI S)), (4, .int (nI j))]) hx hb dX2_signed_96 rfl hl (by decide) rfl (fun ls hl => ?_)
                  refine lv_iinc (v := nI j + (-1)) (lv' := [(4, .int (nI j + (-1))), (2, .int 1), (3, .int 1), (5, .int 1), (0, .ref g0), (1, .int (nI S))]) hx hb dX2_signed_97 hl (k := 5) rfl (rfl) (by decide) rfl (fun ls hl => ?_)
                  refine lv_goto (tgt := 12) hx hb dX2_signed_100 (by decide) ?_
                  exact ih j (nI j + (-1)) 1 1 _ _ _ (by omega) ⟨rfl, sg_pos (by omega) c_23 hz c_72 hp c_79 hI.2⟩ (hP.sub [0, 1, 2] rfl) (hD.sub [0, 1, 2] (by decide) rfl) hS (lv_sub hl [4, 5, 1, 2, 0] rfl)
              · have c_79 : sg = -1 := c_79
                exact kt sg 1 (nI j) 1 _ _ _ (sgd_p (by omega) c_23 c_72 hp c_79 hI.2) (hP.sub [0, 1, 2] rfl) (hD.sub [0, 1, 2] (by decide) rfl) hS (lv_sub hl [2, 3, 4, 0, 5, 1] rfl)
        · have hz : F j = 0 := (gx_cmp0 _ _).mp c_38
          exact kr sg fi (nI j) _ _ _ (sgd_zero (by omega) c_23 hz) (hP.sub [0, 1, 2] rfl) (hD.sub [0, 1, 2] (by decide) rfl) hS (lv_sub hl [0, 1, 2, 3, 4] rfl)
      · refine lv_goto (tgt := 97) hx hb dX2_signed_26 (by decide) ?_
        refine lv_iinc (v := nI j + (-1)) (lv' := [(4, .int (nI j + (-1))), (0, .ref g0), (1, .int (nI S)), (2, .int sg), (3, .int fi)]) hx hb dX2_signed_97 hl (k := 4) rfl (rfl) (by decide) rfl (fun ls hl => ?_)
        refine lv_goto (tgt := 12) hx hb dX2_signed_100 (by decide) ?_
        exact ih j (nI j + (-1)) sg fi _ _ _ (by omega) ⟨rfl, sg_skip c_23 hI.2⟩ (hP.sub [0, 1, 2] rfl) (hD.sub [0, 1, 2] (by decide) rfl) hS (lv_sub hl [1, 2, 3, 4, 0] rfl)
set_option maxHeartbeats 4000000 in
set_option maxRecDepth 100000 in
theorem lpX2_signed2 {p : Program} {l : Launch} {e : Env} {s : State} {m : MethodId} {args : Array Value} {below : List Frame} {meth : Method} {c : Code} {Q : State → Prop} {D : va_G} {A : Nat → Prop} {H0 : Heap} (C0 : CallFix p m c cX2_signed 6 s args wsX2_signed RX2) (hN : gx_N s) (hA : ∀ q : Nat, H0.size ≤ q → A q) {g0 p1 b1 q1 t1 a1 l1 v1 M R n : Nat} {d : Int32} {dB dV : ClassId} {Bt : Nat → Int32} {F : Nat → Int64}  (hK : va_K D vwCl [(dB, .boolean), (dV, .long)] s) (kk : ∀ (Fn : Nat → Int64) (H : Heap) (locs : List Loc) (ls : Array Slot), (ml_I F Fn d 8) → va_P D vwCl [(g0, .inr (2, [.ref p1, .ref b1, .int (nI M), .int (nI R), .int (nI n), .ref q1, .ref t1, .ref a1, .ref l1, .ref v1])), (b1, .inl (dB, 8, .inl Bt)), (v1, .inl (dV, 8, .inr (.inl Fn)))] H → va_D A [(g0, .inr (2, [.ref p1, .ref b1, .int (nI M), .int (nI R), .int (nI n), .ref q1, .ref t1, .ref a1, .ref l1, .ref v1])), (b1, .inl (dB, 8, .inl Bt)), (v1, .inl (dV, 8, .inr (.inl Fn)))] → va_S A H0 H locs → lv_has ls 6 [(0, .ref g0), (2, .int d), (4, .int (nI 8))] → W p l e rmX2_signed s m args below meth c H locs 0 0 Q (F0 m 142 ls [])) : ∀ (n_ : Nat) (j : Nat) (Fn : Nat → Int64) (H : Heap) (locs : List Loc) (ls : Array Slot), (j ≤ 8 ∧ 8 < j + n_) → (ml_I F Fn d j) → va_P D vwCl [(g0, .inr (2, [.ref p1, .ref b1, .int (nI M), .int (nI R), .int (nI n), .ref q1, .ref t1, .ref a1, .ref l1, .ref v1])), (b1, .inl (dB, 8, .inl Bt)), (v1, .inl (dV, 8, .inr (.inl Fn)))] H → va_D A [(g0, .inr (2, [.ref p1, .ref b1, .int (nI M), .int (nI R), .int (nI n), .ref q1, .ref t1, .ref a1, .ref l1, .ref v1])), (b1, .inl (dB, 8, .inl Bt)), (v1, .inl (dV, 8, .inr (.inl Fn)))] → va_S A H0 H locs → lv_has ls 6 [(0, .ref g0), (2, .int d), (4, .int (nI j))] → W p l e rmX2_signed s m args below meth c H locs 0 0 Q (F0 m 112 ls []) := by
  obtain ⟨hx, hb, hml, hown, hts⟩ := id C0
  intro n_
  induction n_ with
  | zero =>
    intro j Fn H locs ls hm
    exact absurd hm (by omega)
  | succ n_ ih =>
    intro j Fn H locs ls hm hI hP hD hS hl
    refine lv_iload hx hb dX2_signed_112 (lv_at hl 2 rfl) ?_
    refine lv_bipush (v := nI 8) hx hb dX2_signed_114 (by decide) ?_
    refine gx_ge (tgt := 142) hx hb dX2_signed_116 (by decide) (by omega) (by omega) (fun c_116 => ?_) (fun c_116 => ?_)
    · have hj8 : j = 8 := by omega
      subst hj8
      exact kk _ _ _ _ hI (hP.sub [0, 1, 2] rfl) (hD.sub [0, 1, 2] (by decide) rfl) hS (lv_sub hl [0, 1, 2] rfl)
    · refine lv_aload_n hx hb dX2_signed_119 rfl (lv_at hl 0 rfl) ?_
      refine va_get (D := D) (ci := 2) (v := .ref v1) (C := RX2) (T := TX2) (N := 10) hx hb hts iw_X2_signed_X2 hown hK hP 0 rfl rfl 9 (by decide) (hts _ kw_X2_signed_30) (fun _ h9 => h9) rfl dX2_signed_120 ?_
      refine lv_iload hx hb dX2_signed_123 (lv_at hl 2 rfl) ?_
      refine lv_iload_n hx hb dX2_signed_125 rfl (lv_at hl 1 rfl) ?_
      refine lv_i2l (v := d.toInt64) hx hb dX2_signed_126 rfl ?_
      refine lv_aload_n hx hb dX2_signed_127 rfl (lv_at hl 0 rfl) ?_
      refine va_get (D := D) (ci := 2) (v := .ref v1) (C := RX2) (T := TX2) (N := 10) hx hb hts iw_X2_signed_X2 hown hK hP 0 rfl rfl 9 (by decide) (hts _ kw_X2_signed_30) (fun _ h9 => h9) rfl dX2_signed_128 ?_
      refine lv_iload hx hb dX2_signed_131 (lv_at hl 2 rfl) ?_
      refine gx_lald (q := j) hx hb hK hP 2 1 rfl rfl (rfl) (by omega) (by decide) dX2_signed_133 ?_
      refine lv_lmul hx hb dX2_signed_134 ?_
      refine gx_last (q := j) hx hb hK hP hD hS 2 1 rfl rfl (rfl) (by omega) (by decide) dX2_signed_135 (fun H locs hP hD hS => ?_)
      have hP : va_P D vwCl [(g0, .inr (2, [.ref p1, .ref b1, .int (nI M), .int (nI R), .int (nI n), .ref q1, .ref t1, .ref a1, .ref l1, .ref v1])), (b1, .inl (dB, 8, .inl Bt)), (v1, .inl (dV, 8, .inr (.inl (vp_updL Fn j (d.toInt64 * (Fn j))))))] H := hP
      have hD : va_D A [(g0, .inr (2, [.ref p1, .ref b1, .int (nI M), .int (nI R), .int (nI n), .ref q1, .ref t1, .ref a1, .ref l1, .ref v1])), (b1, .inl (dB, 8, .inl Bt)), (v1, .inl (dV, 8, .inr (.inl (vp_updL Fn j (d.toInt64 * (Fn j))))))] := hD
      refine lv_iinc (v := nI (j + 1)) (lv' := [(4, .int (nI (j + 1))), (0, .ref g0), (2, .int d)]) hx hb dX2_signed_136 hl (k := 2) rfl ((nI_succ j).symm) (by decide) rfl (fun ls hl => ?_)
      refine lv_goto (tgt := 112) hx hb dX2_signed_139 (by decide) ?_
      exact ih (j + 1) _ _ _ _ (by omega) (ml_s (by omega) hI) (hP.sub [0, 1, 2] rfl) (hD.sub [0, 1, 2] (by decide) rfl) hS (lv_sub hl [1, 2, 0] rfl)
set_option maxHeartbeats 4000000 in
set_option maxRecDepth 100000 in
theorem kX2_signed (l : Launch) (D : va_G) (g0 p1 b1 q1 t1 a1 l1 v1 M R n : Nat) (S V : Nat) (dB dV : ClassId) (Bt : Nat → Int32) (F : Nat → Int64) (hR8 : R ≤ 8) (hs8 : S < 256) (hB : bts Bt V) (hR1 : 1 ≤ R) (hSR : S < 2 ^ R) (hs0 : 0 < S) : gx_Mi l D yX2_signed wsX2_signed rmX2_signed [.ref g0, .int (nI S)] [(dB, .boolean), (dV, .long)] [(g0, .inr (2, [.ref p1, .ref b1, .int (nI M), .int (nI R), .int (nI n), .ref q1, .ref t1, .ref a1, .ref l1, .ref v1])), (b1, .inl (dB, 8, .inl Bt)), (v1, .inl (dV, 8, .inr (.inl F)))] (S := Nat → Int64) (fun r (u : Nat → Int64) => ∃ b, r = bI b ∧ (b = true → sgd S V F ∧ ∀ j, j < 8 → u j = (dirS S V (fun j => decide (0 < F j))).toInt64 * F j) ∧ (b = false → ¬ sgd S V F)) (fun (u : Nat → Int64) => [(g0, .inr (2, [.ref p1, .ref b1, .int (nI M), .int (nI R), .int (nI n), .ref q1, .ref t1, .ref a1, .ref l1, .ref v1])), (b1, .inl (dB, 8, .inl Bt)), (v1, .inl (dV, 8, .inr (.inl u)))]) := by
  intro sz
  refine gx_start (cc := cX2_signed) (maxL := 6) (ret := (some .boolean)) (Qc := fun A => va_Qi (fun r (u : Nat → Int64) => ∃ b, r = bI b ∧ (b = true → sgd S V F ∧ ∀ j, j < 8 → u j = (dirS S V (fun j => decide (0 < F j))).toInt64 * F j) ∧ (b = false → ¬ sgd S V F)) (gx_B D [(dB, .boolean), (dV, .long)] A (fun (u : Nat → Int64) => [(g0, .inr (2, [.ref p1, .ref b1, .int (nI M), .int (nI R), .int (nI n), .ref q1, .ref t1, .ref a1, .ref l1, .ref v1])), (b1, .inl (dB, 8, .inl Bt)), (v1, .inl (dV, 8, .inr (.inl u)))])) A) (by decide) rfl (Nat.le_of_ble_eq_true rfl) ?_ sz
  intro p e s m below meth c A hbody ls hl
  obtain ⟨C0, hr, hlocks, hN, hK, hP, hD, hA⟩ := hbody
  have C0 : CallFix p m c cX2_signed 6 s ([.ref g0, .int (nI S)] : List Value).toArray wsX2_signed RX2 := C0
  obtain ⟨hx, hb, hml, hown, hts⟩ := id C0
  have hS : va_S A s.heap s.heap [] := va_S.rf
  have hl : lv_has ls 6 [(0, .ref g0), (1, .int (nI S))] := hl
  refine lv_iconst (v := nI 0) hx hb dX2_signed_0 (by decide) ?_
  refine lv_istore_n (lv' := [(2, .int (nI 0)), (0, .ref g0), (1, .int (nI S))]) hx hb dX2_signed_1 rfl hl (by decide) rfl (fun ls hl => ?_)
  refine lv_iconst (v := nI 0) hx hb dX2_signed_2 (by decide) ?_
  refine lv_istore_n (lv' := [(3, .int (nI 0)), (2, .int (nI 0)), (0, .ref g0), (1, .int (nI S))]) hx hb dX2_signed_3 rfl hl (by decide) rfl (fun ls hl => ?_)
  refine lv_aload_n hx hb dX2_signed_4 rfl (lv_at hl 2 rfl) ?_
  refine va_get (D := D) (ci := 2) (v := .int (nI R)) (C := RX2) (T := TX2) (N := 10) hx hb hts iw_X2_signed_X2 hown hK hP 0 rfl rfl 3 (by decide) (hts _ kw_X2_signed_33) (fun _ h9 => h9) rfl dX2_signed_5 ?_
  refine lv_iconst (v := nI 1) hx hb dX2_signed_8 (by decide) ?_
  refine lv_isub hx hb dX2_signed_9 ?_
  refine gx_i (y := nI (R - 1)) (pk_sub (by omega)) ?_
  refine lv_istore (lv' := [(4, .int (nI (R - 1))), (3, .int (nI 0)), (2, .int (nI 0)), (0, .ref g0), (1, .int (nI S))]) hx hb dX2_signed_10 hl (by decide) rfl (fun ls hl => ?_)
  refine lpX2_signed1 (V := V) C0 hN hA hR8 hs8 hB hK (fun sg fi x4 H locs ls hI hP hD hS hl => ?_) (fun sg fi x4 H locs ls hF hP hD hS hl => ?_) (fun sg fi x4 s5 H locs ls hF hP hD hS hl => ?_) (R + 1) R (nI (R - 1)) (nI 0) (nI 0) _ _ _ (by omega) ⟨by rw [show R = (R - 1) + 1 by omega, pk_m1]; rfl, sg_start hSR⟩ (hP.sub [0, 1, 2] rfl) (hD.sub [0, 1, 2] (by decide) rfl) hS (lv_sub hl [3, 4, 2, 1, 0] rfl)
  · refine lv_iload_n hx hb dX2_signed_103 rfl (lv_at hl 2 rfl) ?_
    refine lv_if_ne (tgt := 109) hx hb dX2_signed_104 (by decide) (fun c_104 => ?_) (fun c_104 => ?_)
    · have hd : sg = dirS S V (fun j => decide (0 < F j)) := sg_d1 c_104 hI
      have hd2 : sg = sg ∧ ¬ sg = 0 ∨ sg = 0 ∧ sg = fi := Or.inl ⟨rfl, c_104⟩
      refine lv_iconst (v := nI 0) hx hb dX2_signed_109 (by decide) ?_
      refine lv_istore (lv' := [(4, .int (nI 0)), (0, .ref g0), (1, .int (nI S)), (2, .int sg), (3, .int fi)]) hx hb dX2_signed_110 hl (by decide) rfl (fun ls hl => ?_)
      refine lpX2_signed2 (d := sg) (F := F) C0 hN hA hK (fun F1 H locs ls hM hP hD hS hl => ?_) 9 0 F _ _ _ (by omega) (ml_0 F _) (hP.sub [0, 1, 2] rfl) (hD.sub [0, 1, 2] (by decide) rfl) hS (lv_sub hl [1, 3, 0] rfl)
      refine lv_iconst (v := nI 1) hx hb dX2_signed_142 (by decide) ?_
      exact gx_retz hx hb hr hlocks true (by decide) F1 (⟨true, rfl, (fun _ => ⟨dirS_ne0 hd hI hd2 hs8 hs0, fun j hj => by rw [hM j hj, if_pos hj, hd]⟩), fun h => absurd h (by decide)⟩) hK (hP.sub [0, 1, 2] rfl) (hD.sub [0, 1, 2] (by decide) rfl) hS dX2_signed_143
    · have hd : fi = dirS S V (fun j => decide (0 < F j)) := sg_d0 hs8 hs0 c_104 hI
      have hd2 : fi = sg ∧ ¬ sg = 0 ∨ sg = 0 ∧ fi = fi := Or.inr ⟨c_104, rfl⟩
      refine lv_iload_n hx hb dX2_signed_107 rfl (lv_at hl 3 rfl) ?_
      refine lv_istore_n (lv' := [(2, .int fi), (0, .ref g0), (1, .int (nI S)), (3, .int fi), (4, .int x4)]) hx hb dX2_signed_108 rfl hl (by decide) rfl (fun ls hl => ?_)
      refine lv_iconst (v := nI 0) hx hb dX2_signed_109 (by decide) ?_
      refine lv_istore (lv' := [(4, .int (nI 0)), (2, .int fi), (0, .ref g0), (1, .int (nI S)), (3, .int fi)]) hx hb dX2_signed_110 hl (by decide) rfl (fun ls hl => ?_)
      refine lpX2_signed2 (d := fi) (F := F) C0 hN hA hK (fun F1 H locs ls hM hP hD hS hl => ?_) 9 0 F _ _ _ (by omega) (ml_0 F _) (hP.sub [0, 1, 2] rfl) (hD.sub [0, 1, 2] (by decide) rfl) hS (lv_sub hl [2, 1, 0] rfl)
      refine lv_iconst (v := nI 1) hx hb dX2_signed_142 (by decide) ?_
      exact gx_retz hx hb hr hlocks true (by decide) F1 (⟨true, rfl, (fun _ => ⟨dirS_ne0 hd hI hd2 hs8 hs0, fun j hj => by rw [hM j hj, if_pos hj, hd]⟩), fun h => absurd h (by decide)⟩) hK (hP.sub [0, 1, 2] rfl) (hD.sub [0, 1, 2] (by decide) rfl) hS dX2_signed_143
  · refine lv_iconst (v := nI 0) hx hb dX2_signed_41 (by decide) ?_
    exact gx_retz hx hb hr hlocks false (by decide) F (⟨false, rfl, (fun h => absurd h (by decide)), fun _ => hF⟩) hK (hP.sub [0, 1, 2] rfl) (hD.sub [0, 1, 2] (by decide) rfl) hS dX2_signed_42
  · refine lv_iconst (v := nI 0) hx hb dX2_signed_82 (by decide) ?_
    exact gx_retz hx hb hr hlocks false (by decide) F (⟨false, rfl, (fun h => absurd h (by decide)), fun _ => hF⟩) hK (hP.sub [0, 1, 2] rfl) (hD.sub [0, 1, 2] (by decide) rfl) hS dX2_signed_83
abbrev rmX2_list : Room := { frames := 0, cells := 0, slots := 0, locals := 0 }
theorem iw_X2_list_X2 : ∀ w ∈ wsX20, w ∈ wsX2_list := by decide +kernel
theorem kw_X2_list_30 : Cond.fieldLink RX2 30 "FluxModesModel" "line" "[J" ∈ wsX2_list := by decide +kernel
theorem kw_X2_list_20 : Cond.fieldLink RX2 20 "FluxModesModel" "rates" "[I" ∈ wsX2_list := by decide +kernel
theorem kw_X2_list_40 : Cond.fieldLink RX2 40 "FluxModesModel" "listed" "I" ∈ wsX2_list := by decide +kernel
theorem kw_X2_list_17 : Cond.fieldLink RX2 17 "FluxModesModel" "supports" "[I" ∈ wsX2_list := by decide +kernel
set_option maxHeartbeats 4000000 in
set_option maxRecDepth 100000 in
theorem lpX2_list0 {p : Program} {l : Launch} {e : Env} {s : State} {m : MethodId} {args : Array Value} {below : List Frame} {meth : Method} {c : Code} {Q : State → Prop} {D : va_G} {A : Nat → Prop} {H0 : Heap} (C0 : CallFix p m c cX2_list 9 s args wsX2_list RX2) (hN : gx_N s) (hA : ∀ q : Nat, H0.size ≤ q → A q) {g0 p1 b1 q1 t1 a1 l1 v1 M R n : Nat} {S : Nat} {dS dR dV : ClassId} {U T0 : Nat → Int32} {F : Nat → Int64} {f : Nat → Int} {G j : Nat} (hn : n < 70) (hF : ∀ j, j < 8 → F j = Int64.ofInt (f j)) (hf : ∀ j, j < 8 → (f j).natAbs ≤ 382637520) (hK : va_K D vwCl [(dS, .int), (dR, .int), (dV, .long)] s) (kk : ∀ (r : Nat) (H : Heap) (locs : List Loc) (ls : Array Slot), va_P D vwCl [(g0, .inr (2, [.ref p1, .ref b1, .int (nI M), .int (nI R), .int (nI n), .ref q1, .ref t1, .ref a1, .ref l1, .ref v1])), (q1, .inl (dS, 70, .inl U)), (t1, .inl (dR, 560, .inl T0)), (v1, .inl (dV, 8, .inr (.inl F)))] H → va_D A [(g0, .inr (2, [.ref p1, .ref b1, .int (nI M), .int (nI R), .int (nI n), .ref q1, .ref t1, .ref a1, .ref l1, .ref v1])), (q1, .inl (dS, 70, .inl U)), (t1, .inl (dR, 560, .inl T0)), (v1, .inl (dV, 8, .inr (.inl F)))] → va_S A H0 H locs → lv_has ls 9 [(0, .ref g0), (1, .int (nI S)), (2, .long (lN G)), (4, .int (nI j)), (5, .long (lN r))] → W p l e rmX2_list s m args below meth c H locs 0 0 Q (F0 m 67 ls [])) : ∀ (n_ : Nat) (g r : Nat) (H : Heap) (locs : List Loc) (ls : Array Slot), (r < n_) → (Nat.gcd g r = G ∧ g ≤ 382637520 ∧ r ≤ 382637520) → va_P D vwCl [(g0, .inr (2, [.ref p1, .ref b1, .int (nI M), .int (nI R), .int (nI n), .ref q1, .ref t1, .ref a1, .ref l1, .ref v1])), (q1, .inl (dS, 70, .inl U)), (t1, .inl (dR, 560, .inl T0)), (v1, .inl (dV, 8, .inr (.inl F)))] H → va_D A [(g0, .inr (2, [.ref p1, .ref b1, .int (nI M), .int (nI R), .int (nI n), .ref q1, .ref t1, .ref a1, .ref l1, .ref v1])), (q1, .inl (dS, 70, .inl U)), (t1, .inl (dR, 560, .inl T0)), (v1, .inl (dV, 8, .inr (.inl F)))] → va_S A H0 H locs → lv_has ls 9 [(0, .ref g0), (1, .int (nI S)), (2, .long (lN g)), (4, .int (nI j)), (5, .long (lN r))] → W p l e rmX2_list s m args below meth c H locs 0 0 Q (F0 m 44 ls []) := by
  obtain ⟨hx, hb, hml, hown, hts⟩ := id C0
  intro n_
  induction n_ with
  | zero =>
    intro g r H locs ls hm
    exact absurd hm (by omega)
  | succ n_ ih =>
    intro g r H locs ls hm hI hP hD hS hl
    refine lv_lload hx hb dX2_list_44 (lv_at hl 4 rfl) ?_
    refine lv_lconst (v := 0) hx hb dX2_list_46 (by decide) ?_
    refine W.lcmp hx hb dX2_list_47 ?_
    refine lv_if_eq (tgt := 67) hx hb dX2_list_48 (by decide) (fun c_48 => ?_) (fun c_48 => ?_)
    · have hr0 : r = 0 := (lN_z hI.2.2).mp ((gx_cmp0 _ _).mp c_48)
      subst hr0
      have hg0 : g = G := by have h1 := hI.1; rw [Nat.gcd_zero_right] at h1; exact h1
      subst hg0
      exact kk 0 _ _ _ (hP.sub [0, 1, 2, 3] rfl) (hD.sub [0, 1, 2, 3] (by decide) rfl) hS (lv_sub hl [0, 1, 2, 3, 4] rfl)
    · have hz : ¬ lN r = 0 := fun q => c_48 ((gx_cmp0 _ _).mpr q)
      have hr0 : r ≠ 0 := fun q => hz ((lN_z hI.2.2).mpr q)
      have hb1 := hI.2.1
      have hb2 := hI.2.2
      refine lv_lload_n hx hb dX2_list_51 rfl (lv_at hl 2 rfl) ?_
      refine lv_lload hx hb dX2_list_52 (lv_at hl 4 rfl) ?_
      refine lv_lrem hx hb dX2_list_54 hz ?_
      refine gx_l (y := lN (g % r)) (pk_lRem (by omega) (by omega) (by omega)) ?_
      refine lv_lstore (lv' := [(7, .long (lN (g % r))), (0, .ref g0), (1, .int (nI S)), (2, .long (lN g)), (4, .int (nI j)), (5, .long (lN r))]) hx hb dX2_list_55 hl (by decide) rfl (fun ls hl => ?_)
      refine lv_lload hx hb dX2_list_57 (lv_at hl 5 rfl) ?_
      refine lv_lstore_n (lv' := [(2, .long (lN r)), (7, .long (lN (g % r))), (0, .ref g0), (1, .int (nI S)), (4, .int (nI j)), (5, .long (lN r))]) hx hb dX2_list_59 rfl hl (by decide) rfl (fun ls hl => ?_)
      refine lv_lload hx hb dX2_list_60 (lv_at hl 1 rfl) ?_
      refine lv_lstore (lv' := [(5, .long (lN (g % r))), (2, .long (lN r)), (7, .long (lN (g % r))), (0, .ref g0), (1, .int (nI S)), (4, .int (nI j))]) hx hb dX2_list_62 hl (by decide) rfl (fun ls hl => ?_)
      refine lv_goto (tgt := 44) hx hb dX2_list_64 (by decide) ?_
      have hlt : g % r < r := Nat.mod_lt g (by omega)
      exact ih r (g % r) _ _ _ (by omega) ⟨by rw [← hI.1, Nat.gcd_comm g r, Nat.gcd_rec r g, Nat.gcd_comm], hI.2.2, by omega⟩ (hP.sub [0, 1, 2, 3] rfl) (hD.sub [0, 1, 2, 3] (by decide) rfl) hS (lv_sub hl [3, 4, 1, 5, 0] rfl)
set_option maxHeartbeats 4000000 in
set_option maxRecDepth 100000 in
theorem lpX2_list1 {p : Program} {l : Launch} {e : Env} {s : State} {m : MethodId} {args : Array Value} {below : List Frame} {meth : Method} {c : Code} {Q : State → Prop} {D : va_G} {A : Nat → Prop} {H0 : Heap} (C0 : CallFix p m c cX2_list 9 s args wsX2_list RX2) (hN : gx_N s) (hA : ∀ q : Nat, H0.size ≤ q → A q) {g0 p1 b1 q1 t1 a1 l1 v1 M R n : Nat} {S : Nat} {dS dR dV : ClassId} {U T0 : Nat → Int32} {F : Nat → Int64} {f : Nat → Int} (hn : n < 70) (hF : ∀ j, j < 8 → F j = Int64.ofInt (f j)) (hf : ∀ j, j < 8 → (f j).natAbs ≤ 382637520) (hK : va_K D vwCl [(dS, .int), (dR, .int), (dV, .long)] s) (kk : ∀ (H : Heap) (locs : List Loc) (ls : Array Slot), va_P D vwCl [(g0, .inr (2, [.ref p1, .ref b1, .int (nI M), .int (nI R), .int (nI n), .ref q1, .ref t1, .ref a1, .ref l1, .ref v1])), (q1, .inl (dS, 70, .inl U)), (t1, .inl (dR, 560, .inl T0)), (v1, .inl (dV, 8, .inr (.inl F)))] H → va_D A [(g0, .inr (2, [.ref p1, .ref b1, .int (nI M), .int (nI R), .int (nI n), .ref q1, .ref t1, .ref a1, .ref l1, .ref v1])), (q1, .inl (dS, 70, .inl U)), (t1, .inl (dR, 560, .inl T0)), (v1, .inl (dV, 8, .inr (.inl F)))] → va_S A H0 H locs → lv_has ls 9 [(0, .ref g0), (1, .int (nI S)), (2, .long (lN (gdv (fun j => (f j).natAbs) 8))), (4, .int (nI 8))] → W p l e rmX2_list s m args below meth c H locs 0 0 Q (F0 m 73 ls [])) : ∀ (n_ : Nat) (j g : Nat) (H : Heap) (locs : List Loc) (ls : Array Slot), (j ≤ 8 ∧ 8 < j + n_) → (g = gdv (fun j => (f j).natAbs) j) → va_P D vwCl [(g0, .inr (2, [.ref p1, .ref b1, .int (nI M), .int (nI R), .int (nI n), .ref q1, .ref t1, .ref a1, .ref l1, .ref v1])), (q1, .inl (dS, 70, .inl U)), (t1, .inl (dR, 560, .inl T0)), (v1, .inl (dV, 8, .inr (.inl F)))] H → va_D A [(g0, .inr (2, [.ref p1, .ref b1, .int (nI M), .int (nI R), .int (nI n), .ref q1, .ref t1, .ref a1, .ref l1, .ref v1])), (q1, .inl (dS, 70, .inl U)), (t1, .inl (dR, 560, .inl T0)), (v1, .inl (dV, 8, .inr (.inl F)))] → va_S A H0 H locs → lv_has ls 9 [(0, .ref g0), (1, .int (nI S)), (2, .long (lN g)), (4, .int (nI j))] → W p l e rmX2_list s m args below meth c H locs 0 0 Q (F0 m 5 ls []) := by
  obtain ⟨hx, hb, hml, hown, hts⟩ := id C0
  intro n_
  induction n_ with
  | zero =>
    intro j g H locs ls hm
    exact absurd hm (by omega)
  | succ n_ ih =>
    intro j g H locs ls hm hI hP hD hS hl
    refine lv_iload hx hb dX2_list_5 (lv_at hl 3 rfl) ?_
    refine lv_bipush (v := nI 8) hx hb dX2_list_7 (by decide) ?_
    refine gx_ge (tgt := 73) hx hb dX2_list_9 (by decide) (by omega) (by omega) (fun c_9 => ?_) (fun c_9 => ?_)
    · have hj8 : j = 8 := by omega
      subst hj8
      subst hI
      exact kk _ _ _ (hP.sub [0, 1, 2, 3] rfl) (hD.sub [0, 1, 2, 3] (by decide) rfl) hS (lv_sub hl [0, 1, 2, 3] rfl)
    · refine lv_aload_n hx hb dX2_list_12 rfl (lv_at hl 0 rfl) ?_
      refine va_get (D := D) (ci := 2) (v := .ref v1) (C := RX2) (T := TX2) (N := 10) hx hb hts iw_X2_list_X2 hown hK hP 0 rfl rfl 9 (by decide) (hts _ kw_X2_list_30) (fun _ h9 => h9) rfl dX2_list_13 ?_
      refine lv_iload hx hb dX2_list_16 (lv_at hl 3 rfl) ?_
      refine gx_lald (q := j) hx hb hK hP 3 2 rfl rfl (rfl) (by omega) (by decide) dX2_list_18 ?_
      refine gx_l (y := Int64.ofInt (f j)) (hF j (by omega)) ?_
      refine lv_lconst (v := 0) hx hb dX2_list_19 (by decide) ?_
      refine W.lcmp hx hb dX2_list_20 ?_
      refine lv_if_ge (tgt := 35) hx hb dX2_list_21 (by decide) (fun c_21 => ?_) (fun c_21 => ?_)
      · refine lv_aload_n hx hb dX2_list_35 rfl (lv_at hl 0 rfl) ?_
        refine va_get (D := D) (ci := 2) (v := .ref v1) (C := RX2) (T := TX2) (N := 10) hx hb hts iw_X2_list_X2 hown hK hP 0 rfl rfl 9 (by decide) (hts _ kw_X2_list_30) (fun _ h9 => h9) rfl dX2_list_36 ?_
        refine lv_iload hx hb dX2_list_39 (lv_at hl 3 rfl) ?_
        refine gx_lald (q := j) hx hb hK hP 3 2 rfl rfl (rfl) (by omega) (by decide) dX2_list_41 ?_
        refine gx_l (y := lN (f j).natAbs) (by rw [hF j (by omega)]; exact ab_p (hf j (by omega)) ((gx_cmp_ge _ _).mp c_21)) ?_
        refine lv_lstore (lv' := [(5, .long (lN (f j).natAbs)), (0, .ref g0), (1, .int (nI S)), (2, .long (lN g)), (4, .int (nI j))]) hx hb dX2_list_42 hl (by decide) rfl (fun ls hl => ?_)
        refine lpX2_list0 (U := U) (T0 := T0) (G := Nat.gcd g (f j).natAbs) C0 hN hA hn hF hf hK (fun r H locs ls hP hD hS hl => ?_) ((f j).natAbs + 1) g (f j).natAbs _ _ _ (by omega) ⟨rfl, hI ▸ gdv_le hf (by omega), hf j (by omega)⟩ (hP.sub [0, 1, 2, 3] rfl) (hD.sub [0, 1, 2, 3] (by decide) rfl) hS (lv_sub hl [1, 2, 3, 4, 0] rfl)
        refine lv_iinc (v := nI (j + 1)) (lv' := [(4, .int (nI (j + 1))), (0, .ref g0), (1, .int (nI S)), (2, .long (lN (Nat.gcd g (f j).natAbs))), (5, .long (lN r))]) hx hb dX2_list_67 hl (k := 3) rfl ((nI_succ j).symm) (by decide) rfl (fun ls hl => ?_)
        refine lv_goto (tgt := 5) hx hb dX2_list_70 (by decide) ?_
        exact ih (j + 1) (Nat.gcd g (f j).natAbs) _ _ _ (by omega) (by rw [hI]; rfl) (hP.sub [0, 1, 2, 3] rfl) (hD.sub [0, 1, 2, 3] (by decide) rfl) hS (lv_sub hl [1, 2, 3, 0] rfl)
      · refine lv_aload_n hx hb dX2_list_24 rfl (lv_at hl 0 rfl) ?_
        refine va_get (D := D) (ci := 2) (v := .ref v1) (C := RX2) (T := TX2) (N := 10) hx hb hts iw_X2_list_X2 hown hK hP 0 rfl rfl 9 (by decide) (hts _ kw_X2_list_30) (fun _ h9 => h9) rfl dX2_list_25 ?_
        refine lv_iload hx hb dX2_list_28 (lv_at hl 3 rfl) ?_
        refine gx_lald (q := j) hx hb hK hP 3 2 rfl rfl (rfl) (by omega) (by decide) dX2_list_30 ?_
        refine gx_l (y := Int64.ofInt (f j)) (hF j (by omega)) ?_
        refine lv_lneg hx hb dX2_list_31 ?_
        refine gx_l (y := lN (f j).natAbs) (ab_m (hf j (by omega)) (Classical.byContradiction (fun q => c_21 ((gx_cmp_ge _ _).mpr q)))) ?_
        refine lv_goto (tgt := 42) hx hb dX2_list_32 (by decide) ?_
        refine lv_lstore (lv' := [(5, .long (lN (f j).natAbs)), (0, .ref g0), (1, .int (nI S)), (2, .long (lN g)), (4, .int (nI j))]) hx hb dX2_list_42 hl (by decide) rfl (fun ls hl => ?_)
        refine lpX2_list0 (U := U) (T0 := T0) (G := Nat.gcd g (f j).natAbs) C0 hN hA hn hF hf hK (fun r H locs ls hP hD hS hl => ?_) ((f j).natAbs + 1) g (f j).natAbs _ _ _ (by omega) ⟨rfl, hI ▸ gdv_le hf (by omega), hf j (by omega)⟩ (hP.sub [0, 1, 2, 3] rfl) (hD.sub [0, 1, 2, 3] (by decide) rfl) hS (lv_sub hl [1, 2, 3, 4, 0] rfl)
        refine lv_iinc (v := nI (j + 1)) (lv' := [(4, .int (nI (j + 1))), (0, .ref g0), (1, .int (nI S)), (2, .long (lN (Nat.gcd g (f j).natAbs))), (5, .long (lN r))]) hx hb dX2_list_67 hl (k := 3) rfl ((nI_succ j).symm) (by decide) rfl (fun ls hl => ?_)
        refine lv_goto (tgt := 5) hx hb dX2_list_70 (by decide) ?_
        exact ih (j + 1) (Nat.gcd g (f j).natAbs) _ _ _ (by omega) (by rw [hI]; rfl) (hP.sub [0, 1, 2, 3] rfl) (hD.sub [0, 1, 2, 3] (by decide) rfl) hS (lv_sub hl [1, 2, 3, 0] rfl)
set_option maxHeartbeats 4000000 in
set_option maxRecDepth 100000 in
theorem lpX2_list2 {p : Program} {l : Launch} {e : Env} {s : State} {m : MethodId} {args : Array Value} {below : List Frame} {meth : Method} {c : Code} {Q : State → Prop} {D : va_G} {A : Nat → Prop} {H0 : Heap} (C0 : CallFix p m c cX2_list 9 s args wsX2_list RX2) (hN : gx_N s) (hA : ∀ q : Nat, H0.size ≤ q → A q) {g0 p1 b1 q1 t1 a1 l1 v1 M R n : Nat} {S : Nat} {dS dR dV : ClassId} {U T0 : Nat → Int32} {F : Nat → Int64} {f : Nat → Int} {G : Nat} (hn : n < 70) (hF : ∀ j, j < 8 → F j = Int64.ofInt (f j)) (hf : ∀ j, j < 8 → (f j).natAbs ≤ 382637520) (hG : ¬ lN G = 0) (hK : va_K D vwCl [(dS, .int), (dR, .int), (dV, .long)] s) (kk : ∀ (T : Nat → Int32) (H : Heap) (locs : List Loc) (ls : Array Slot), (rl_I T0 T n (fun j => (qt (Int64.ofInt (f j)) (lN G)).toInt32) 8) → va_P D vwCl [(g0, .inr (2, [.ref p1, .ref b1, .int (nI M), .int (nI R), .int (nI n), .ref q1, .ref t1, .ref a1, .ref l1, .ref v1])), (q1, .inl (dS, 70, .inl U)), (t1, .inl (dR, 560, .inl T)), (v1, .inl (dV, 8, .inr (.inl F)))] H → va_D A [(g0, .inr (2, [.ref p1, .ref b1, .int (nI M), .int (nI R), .int (nI n), .ref q1, .ref t1, .ref a1, .ref l1, .ref v1])), (q1, .inl (dS, 70, .inl U)), (t1, .inl (dR, 560, .inl T)), (v1, .inl (dV, 8, .inr (.inl F)))] → va_S A H0 H locs → lv_has ls 9 [(0, .ref g0), (1, .int (nI S)), (2, .long (lN G)), (4, .int (nI 8))] → W p l e rmX2_list s m args below meth c H locs 0 0 Q (F0 m 124 ls [])) : ∀ (n_ : Nat) (j : Nat) (T : Nat → Int32) (H : Heap) (locs : List Loc) (ls : Array Slot), (j ≤ 8 ∧ 8 < j + n_) → (rl_I T0 T n (fun j => (qt (Int64.ofInt (f j)) (lN G)).toInt32) j) → va_P D vwCl [(g0, .inr (2, [.ref p1, .ref b1, .int (nI M), .int (nI R), .int (nI n), .ref q1, .ref t1, .ref a1, .ref l1, .ref v1])), (q1, .inl (dS, 70, .inl U)), (t1, .inl (dR, 560, .inl T)), (v1, .inl (dV, 8, .inr (.inl F)))] H → va_D A [(g0, .inr (2, [.ref p1, .ref b1, .int (nI M), .int (nI R), .int (nI n), .ref q1, .ref t1, .ref a1, .ref l1, .ref v1])), (q1, .inl (dS, 70, .inl U)), (t1, .inl (dR, 560, .inl T)), (v1, .inl (dV, 8, .inr (.inl F)))] → va_S A H0 H locs → lv_has ls 9 [(0, .ref g0), (1, .int (nI S)), (2, .long (lN G)), (4, .int (nI j))] → W p l e rmX2_list s m args below meth c H locs 0 0 Q (F0 m 86 ls []) := by
  obtain ⟨hx, hb, hml, hown, hts⟩ := id C0
  intro n_
  induction n_ with
  | zero =>
    intro j T H locs ls hm
    exact absurd hm (by omega)
  | succ n_ ih =>
    intro j T H locs ls hm hI hP hD hS hl
    refine lv_iload hx hb dX2_list_86 (lv_at hl 3 rfl) ?_
    refine lv_bipush (v := nI 8) hx hb dX2_list_88 (by decide) ?_
    refine gx_ge (tgt := 124) hx hb dX2_list_90 (by decide) (by omega) (by omega) (fun c_90 => ?_) (fun c_90 => ?_)
    · have hj8 : j = 8 := by omega
      subst hj8
      exact kk _ _ _ _ hI (hP.sub [0, 1, 2, 3] rfl) (hD.sub [0, 1, 2, 3] (by decide) rfl) hS (lv_sub hl [0, 1, 2, 3] rfl)
    · refine lv_aload_n hx hb dX2_list_93 rfl (lv_at hl 0 rfl) ?_
      refine va_get (D := D) (ci := 2) (v := .ref t1) (C := RX2) (T := TX2) (N := 10) hx hb hts iw_X2_list_X2 hown hK hP 0 rfl rfl 6 (by decide) (hts _ kw_X2_list_20) (fun _ h9 => h9) rfl dX2_list_94 ?_
      refine lv_bipush (v := nI 8) hx hb dX2_list_97 (by decide) ?_
      refine lv_aload_n hx hb dX2_list_99 rfl (lv_at hl 0 rfl) ?_
      refine va_get (D := D) (ci := 2) (v := .int (nI n)) (C := RX2) (T := TX2) (N := 10) hx hb hts iw_X2_list_X2 hown hK hP 0 rfl rfl 4 (by decide) (hts _ kw_X2_list_40) (fun _ h9 => h9) rfl dX2_list_100 ?_
      refine lv_imul hx hb dX2_list_103 ?_
      refine gx_i (y := nI (n * 8)) ((pk_mul 8 n).trans (by rw [Nat.mul_comm])) ?_
      refine lv_iload hx hb dX2_list_104 (lv_at hl 3 rfl) ?_
      refine lv_iadd hx hb dX2_list_106 ?_
      refine gx_i (y := nI (n * 8 + j)) (nI_add (n * 8) j) ?_
      refine lv_aload_n hx hb dX2_list_107 rfl (lv_at hl 0 rfl) ?_
      refine va_get (D := D) (ci := 2) (v := .ref v1) (C := RX2) (T := TX2) (N := 10) hx hb hts iw_X2_list_X2 hown hK hP 0 rfl rfl 9 (by decide) (hts _ kw_X2_list_30) (fun _ h9 => h9) rfl dX2_list_108 ?_
      refine lv_iload hx hb dX2_list_111 (lv_at hl 3 rfl) ?_
      refine gx_lald (q := j) hx hb hK hP 3 2 rfl rfl (rfl) (by omega) (by decide) dX2_list_113 ?_
      refine gx_l (y := Int64.ofInt (f j)) (hF j (by omega)) ?_
      refine lv_lload_n hx hb dX2_list_114 rfl (lv_at hl 2 rfl) ?_
      refine lv_ldiv hx hb dX2_list_115 hG ?_
      refine gx_l (y := qt (Int64.ofInt (f j)) (lN G)) (qt_ne hG) ?_
      refine lv_l2i (v := (qt (Int64.ofInt (f j)) (lN G)).toInt32) hx hb dX2_list_116 rfl ?_
      refine gx_iast (q := n * 8 + j) hx hb hK hP hD hS 2 1 rfl rfl (rfl) (by omega) (by decide) dX2_list_117 (fun H locs hP hD hS => ?_)
      have hP : va_P D vwCl [(g0, .inr (2, [.ref p1, .ref b1, .int (nI M), .int (nI R), .int (nI n), .ref q1, .ref t1, .ref a1, .ref l1, .ref v1])), (q1, .inl (dS, 70, .inl U)), (t1, .inl (dR, 560, .inl (upd T (n * 8 + j) ((qt (Int64.ofInt (f j)) (lN G)).toInt32)))), (v1, .inl (dV, 8, .inr (.inl F)))] H := hP
      have hD : va_D A [(g0, .inr (2, [.ref p1, .ref b1, .int (nI M), .int (nI R), .int (nI n), .ref q1, .ref t1, .ref a1, .ref l1, .ref v1])), (q1, .inl (dS, 70, .inl U)), (t1, .inl (dR, 560, .inl (upd T (n * 8 + j) ((qt (Int64.ofInt (f j)) (lN G)).toInt32)))), (v1, .inl (dV, 8, .inr (.inl F)))] := hD
      refine lv_iinc (v := nI (j + 1)) (lv' := [(4, .int (nI (j + 1))), (0, .ref g0), (1, .int (nI S)), (2, .long (lN G))]) hx hb dX2_list_118 hl (k := 3) rfl ((nI_succ j).symm) (by decide) rfl (fun ls hl => ?_)
      refine lv_goto (tgt := 86) hx hb dX2_list_121 (by decide) ?_
      exact ih (j + 1) _ _ _ _ (by omega) (rl_s (by omega) hI) (hP.sub [0, 1, 2, 3] rfl) (hD.sub [0, 1, 2, 3] (by decide) rfl) hS (lv_sub hl [1, 2, 3, 0] rfl)
set_option maxHeartbeats 4000000 in
set_option maxRecDepth 100000 in
theorem kX2_list (l : Launch) (D : va_G) (g0 p1 b1 q1 t1 a1 l1 v1 M R n : Nat) (S : Nat) (dS dR dV : ClassId) (U T : Nat → Int32) (F : Nat → Int64) (f : Nat → Int) (hn : n < 70) (hF : ∀ j, j < 8 → F j = Int64.ofInt (f j)) (hf : ∀ j, j < 8 → (f j).natAbs ≤ 382637520) (hG : ¬ lN (gdv (fun j => (f j).natAbs) 8) = 0) : gx_Mv l D yX2_list wsX2_list rmX2_list [.ref g0, .int (nI S)] [(dS, .int), (dR, .int), (dV, .long)] [(g0, .inr (2, [.ref p1, .ref b1, .int (nI M), .int (nI R), .int (nI n), .ref q1, .ref t1, .ref a1, .ref l1, .ref v1])), (q1, .inl (dS, 70, .inl U)), (t1, .inl (dR, 560, .inl T)), (v1, .inl (dV, 8, .inr (.inl F)))] (S := Nat → Int32) (fun (u : Nat → Int32) => rl_I T u n (fun j => (qt (Int64.ofInt (f j)) (lN (gdv (fun j => (f j).natAbs) 8))).toInt32) 8) (fun (u : Nat → Int32) => [(g0, .inr (2, [.ref p1, .ref b1, .int (nI M), .int (nI R), .int (nI (n + 1)), .ref q1, .ref t1, .ref a1, .ref l1, .ref v1])), (q1, .inl (dS, 70, .inl (upd U n (nI S)))), (t1, .inl (dR, 560, .inl u)), (v1, .inl (dV, 8, .inr (.inl F)))]) := by
  intro sz
  refine gx_start (cc := cX2_list) (maxL := 9) (ret := none) (Qc := fun A => va_Qv (fun (u : Nat → Int32) => rl_I T u n (fun j => (qt (Int64.ofInt (f j)) (lN (gdv (fun j => (f j).natAbs) 8))).toInt32) 8) (gx_B D [(dS, .int), (dR, .int), (dV, .long)] A (fun (u : Nat → Int32) => [(g0, .inr (2, [.ref p1, .ref b1, .int (nI M), .int (nI R), .int (nI (n + 1)), .ref q1, .ref t1, .ref a1, .ref l1, .ref v1])), (q1, .inl (dS, 70, .inl (upd U n (nI S)))), (t1, .inl (dR, 560, .inl u)), (v1, .inl (dV, 8, .inr (.inl F)))])) A) (by decide) rfl (Nat.le_of_ble_eq_true rfl) ?_ sz
  intro p e s m below meth c A hbody ls hl
  obtain ⟨C0, hr, hlocks, hN, hK, hP, hD, hA⟩ := hbody
  have C0 : CallFix p m c cX2_list 9 s ([.ref g0, .int (nI S)] : List Value).toArray wsX2_list RX2 := C0
  obtain ⟨hx, hb, hml, hown, hts⟩ := id C0
  have hS : va_S A s.heap s.heap [] := va_S.rf
  have hl : lv_has ls 9 [(0, .ref g0), (1, .int (nI S))] := hl
  refine lv_lconst (v := 0) hx hb dX2_list_0 (by decide) ?_
  refine lv_lstore_n (lv' := [(2, .long 0), (0, .ref g0), (1, .int (nI S))]) hx hb dX2_list_1 rfl hl (by decide) rfl (fun ls hl => ?_)
  refine lv_iconst (v := nI 0) hx hb dX2_list_2 (by decide) ?_
  refine lv_istore (lv' := [(4, .int (nI 0)), (2, .long 0), (0, .ref g0), (1, .int (nI S))]) hx hb dX2_list_3 hl (by decide) rfl (fun ls hl => ?_)
  refine lpX2_list1 (U := U) C0 hN hA hn hF hf hK (fun H locs ls hP hD hS hl => ?_) 9 0 0 _ _ _ (by omega) rfl (hP.sub [0, 1, 2, 3] rfl) (hD.sub [0, 1, 2, 3] (by decide) rfl) hS (lv_sub hl [2, 3, 1, 0] rfl)
  generalize hGe : gdv (fun j => (f j).natAbs) 8 = G at hl ⊢ hG
  refine lv_aload_n hx hb dX2_list_73 rfl (lv_at hl 0 rfl) ?_
  refine va_get (D := D) (ci := 2) (v := .ref q1) (C := RX2) (T := TX2) (N := 10) hx hb hts iw_X2_list_X2 hown hK hP 0 rfl rfl 5 (by decide) (hts _ kw_X2_list_17) (fun _ h9 => h9) rfl dX2_list_74 ?_
  refine lv_aload_n hx hb dX2_list_77 rfl (lv_at hl 0 rfl) ?_
  refine va_get (D := D) (ci := 2) (v := .int (nI n)) (C := RX2) (T := TX2) (N := 10) hx hb hts iw_X2_list_X2 hown hK hP 0 rfl rfl 4 (by decide) (hts _ kw_X2_list_40) (fun _ h9 => h9) rfl dX2_list_78 ?_
  refine lv_iload_n hx hb dX2_list_81 rfl (lv_at hl 1 rfl) ?_
  refine gx_iast (q := n) hx hb hK hP hD hS 1 0 rfl rfl (rfl) (by omega) (by decide) dX2_list_82 (fun H locs hP hD hS => ?_)
  have hP : va_P D vwCl [(g0, .inr (2, [.ref p1, .ref b1, .int (nI M), .int (nI R), .int (nI n), .ref q1, .ref t1, .ref a1, .ref l1, .ref v1])), (q1, .inl (dS, 70, .inl (upd U n (nI S)))), (t1, .inl (dR, 560, .inl T)), (v1, .inl (dV, 8, .inr (.inl F)))] H := hP
  have hD : va_D A [(g0, .inr (2, [.ref p1, .ref b1, .int (nI M), .int (nI R), .int (nI n), .ref q1, .ref t1, .ref a1, .ref l1, .ref v1])), (q1, .inl (dS, 70, .inl (upd U n (nI S)))), (t1, .inl (dR, 560, .inl T)), (v1, .inl (dV, 8, .inr (.inl F)))] := hD
  refine lv_iconst (v := nI 0) hx hb dX2_list_83 (by decide) ?_
  refine lv_istore (lv' := [(4, .int (nI 0)), (0, .ref g0), (1, .int (nI S)), (2, .long (lN G))]) hx hb dX2_list_84 hl (by decide) rfl (fun ls hl => ?_)
  refine lpX2_list2 (T0 := T) (G := G) C0 hN hA hn hF hf hG hK (fun T1 H locs ls hI hP hD hS hl => ?_) 9 0 T _ _ _ (by omega) (rl_0 T n _) (hP.sub [0, 1, 2, 3] rfl) (hD.sub [0, 1, 2, 3] (by decide) rfl) hS (lv_sub hl [1, 2, 3, 0] rfl)
  refine lv_aload_n hx hb dX2_list_124 rfl (lv_at hl 0 rfl) ?_
  refine lv_dup hx hb dX2_list_125 rfl ?_
  refine va_get (D := D) (ci := 2) (v := .int (nI n)) (C := RX2) (T := TX2) (N := 10) hx hb hts iw_X2_list_X2 hown hK hP 0 rfl rfl 4 (by decide) (hts _ kw_X2_list_40) (fun _ h9 => h9) rfl dX2_list_126 ?_
  refine lv_iconst (v := nI 1) hx hb dX2_list_129 (by decide) ?_
  refine lv_iadd hx hb dX2_list_130 ?_
  refine gx_i (y := nI (n + 1)) (nI_add n 1) ?_
  refine va_put (D := D) (ci := 2) (v := .int (nI (n + 1))) (ty := .int) (C := RX2) (T := TX2) (N := 10) hx hb hts iw_X2_list_X2 tyX2 tyX2_ok nmX2 hown hK hP hD hS 0 rfl rfl 4 (by decide) (hts _ kw_X2_list_40) (fun _ h9 => h9) rfl (by decide +kernel) rfl rfl (Nat.le_of_ble_eq_true rfl) dX2_list_131 (fun H locs hP hD hS => ?_)
  have hP : va_P D vwCl [(g0, .inr (2, [.ref p1, .ref b1, .int (nI M), .int (nI R), .int (nI (n + 1)), .ref q1, .ref t1, .ref a1, .ref l1, .ref v1])), (q1, .inl (dS, 70, .inl (upd U n (nI S)))), (t1, .inl (dR, 560, .inl T1)), (v1, .inl (dV, 8, .inr (.inl F)))] H := hP
  have hD : va_D A [(g0, .inr (2, [.ref p1, .ref b1, .int (nI M), .int (nI R), .int (nI (n + 1)), .ref q1, .ref t1, .ref a1, .ref l1, .ref v1])), (q1, .inl (dS, 70, .inl (upd U n (nI S)))), (t1, .inl (dR, 560, .inl T1)), (v1, .inl (dV, 8, .inr (.inl F)))] := hD
  exact gx_retv hx hb hr hlocks T1 (hI) hK (hP.sub [0, 1, 2, 3] rfl) (hD.sub [0, 1, 2, 3] (by decide) rfl) hS dX2_list_134
