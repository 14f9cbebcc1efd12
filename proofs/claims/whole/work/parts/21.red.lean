abbrev rmX0_begin : Room := { frames := 1, cells := 0, slots := 0, locals := 30 }
theorem iw_X0_begin_X0 : ∀ w ∈ wsX00, w ∈ wsX0_begin := by decide +kernel
theorem kw_X0_begin_15 : Cond.fieldLink RX0 15 "FluxModes$Reduction" "rows" "I" ∈ wsX0_begin := by decide +kernel
theorem kw_X0_begin_19 : Cond.fieldLink RX0 19 "FluxModes$Reduction" "columns" "I" ∈ wsX0_begin := by decide +kernel
theorem kw_X0_begin_22 : Cond.fieldLink RX0 22 "FluxModes$Reduction" "pivot" "J" ∈ wsX0_begin := by decide +kernel
set_option maxHeartbeats 4000000 in
set_option maxRecDepth 100000 in
theorem kX0_begin (l : Launch) (D : va_G) (d1 k1 w t : Nat) (pv : Int64) (M : Nat) (hM : M ≤ 6) : gx_Mv l D yX0_begin wsX0_begin rmX0_begin [.ref d1, .int (nI M)] [] [(d1, .inr (0, [.ref k1, .int (nI w), .int (nI t), .long pv]))] (S := Unit) (fun (_ : Unit) => True) (fun (_ : Unit) => [(d1, .inr (0, [.ref k1, .int (nI M), .int (nI 0), .long 1]))]) := by
  intro sz
  refine gx_start (cc := cX0_begin) (maxL := 2) (ret := none) (Qc := fun A => va_Qv (fun (_ : Unit) => True) (gx_B D [] A (fun (_ : Unit) => [(d1, .inr (0, [.ref k1, .int (nI M), .int (nI 0), .long 1]))])) A) (by decide) rfl (Nat.le_of_ble_eq_true rfl) ?_ sz
  intro p e s m below meth c A hbody ls hl
  obtain ⟨C0, hr, hlocks, hN, hK, hP, hD, hA⟩ := hbody
  have C0 : CallFix p m c cX0_begin 2 s ([.ref d1, .int (nI M)] : List Value).toArray wsX0_begin RX0 := C0
  obtain ⟨hx, hb, hml, hown, hts⟩ := id C0
  have hS : va_S A s.heap s.heap [] := va_S.rf
  have hl : lv_has ls 2 [(0, .ref d1), (1, .int (nI M))] := hl
  refine lv_aload_n hx hb dX0_begin_0 rfl (lv_at hl 0 rfl) ?_
  refine lv_iconst (v := nI 0) hx hb dX0_begin_1 (by decide) ?_
  refine lv_iload_n hx hb dX0_begin_2 rfl (lv_at hl 1 rfl) ?_
  refine lv_bipush (v := nI 6) hx hb dX0_begin_3 (by decide) ?_
  refine va_mmin hx hb (by rw [hml]; exact hl.1.symm) hown (hts _ (show Cond.methodLink RX0 26 Lib.Math.min.name ∈ wsX0_begin by decide +kernel)) (hts _ (show Cond.static Lib.Math.min.name ∈ wsX0_begin by decide +kernel)) (hts _ (show Cond.initialized "java/lang/Math" ∈ wsX0_begin by decide +kernel)) (hts _ (show Cond.code Lib.Math.min.name Lib.Math.min.code 2 (some .int) ∈ wsX0_begin by decide +kernel)) (Nat.le_of_ble_eq_true rfl) (Nat.le_of_ble_eq_true rfl) (Nat.zero_le _) (Nat.zero_le _) dX0_begin_5 ?_
  refine gx_i (y := nI M) (if_neg (nI_nlt (by omega) (by omega))) ?_
  refine va_mmax hx hb (by rw [hml]; exact hl.1.symm) hown (hts _ (show Cond.methodLink RX0 32 Lib.Math.max.name ∈ wsX0_begin by decide +kernel)) (hts _ (show Cond.static Lib.Math.max.name ∈ wsX0_begin by decide +kernel)) (hts _ (show Cond.initialized "java/lang/Math" ∈ wsX0_begin by decide +kernel)) (hts _ (show Cond.code Lib.Math.max.name Lib.Math.max.code 2 (some .int) ∈ wsX0_begin by decide +kernel)) (Nat.le_of_ble_eq_true rfl) (Nat.le_of_ble_eq_true rfl) (Nat.zero_le _) (Nat.zero_le _) dX0_begin_8 ?_
  refine gx_i (y := nI M) (sp_max0 (by omega)) ?_
  refine va_put (D := D) (ci := 0) (v := .int (nI M)) (ty := .int) (C := RX0) (T := TX0) (N := 4) hx hb hts iw_X0_begin_X0 tyX0 tyX0_ok nmX0 hown hK hP hD hS 0 rfl rfl 1 (by decide) (hts _ kw_X0_begin_15) (fun _ h9 => h9) rfl (by decide +kernel) rfl rfl (Nat.le_of_ble_eq_true rfl) dX0_begin_11 (fun H locs hP hD hS => ?_)
  have hP : va_P D vwCl [(d1, .inr (0, [.ref k1, .int (nI M), .int (nI t), .long pv]))] H := hP
  have hD : va_D A [(d1, .inr (0, [.ref k1, .int (nI M), .int (nI t), .long pv]))] := hD
  refine lv_aload_n hx hb dX0_begin_14 rfl (lv_at hl 0 rfl) ?_
  refine lv_iconst (v := nI 0) hx hb dX0_begin_15 (by decide) ?_
  refine va_put (D := D) (ci := 0) (v := .int (nI 0)) (ty := .int) (C := RX0) (T := TX0) (N := 4) hx hb hts iw_X0_begin_X0 tyX0 tyX0_ok nmX0 hown hK hP hD hS 0 rfl rfl 2 (by decide) (hts _ kw_X0_begin_19) (fun _ h9 => h9) rfl (by decide +kernel) rfl rfl (Nat.le_of_ble_eq_true rfl) dX0_begin_16 (fun H locs hP hD hS => ?_)
  have hP : va_P D vwCl [(d1, .inr (0, [.ref k1, .int (nI M), .int (nI 0), .long pv]))] H := hP
  have hD : va_D A [(d1, .inr (0, [.ref k1, .int (nI M), .int (nI 0), .long pv]))] := hD
  refine lv_aload_n hx hb dX0_begin_19 rfl (lv_at hl 0 rfl) ?_
  refine lv_lconst (v := 1) hx hb dX0_begin_20 (by decide) ?_
  refine va_put (D := D) (ci := 0) (v := .long 1) (ty := .long) (C := RX0) (T := TX0) (N := 4) hx hb hts iw_X0_begin_X0 tyX0 tyX0_ok nmX0 hown hK hP hD hS 0 rfl rfl 3 (by decide) (hts _ kw_X0_begin_22) (fun _ h9 => h9) rfl (by decide +kernel) rfl rfl (Nat.le_of_ble_eq_true rfl) dX0_begin_21 (fun H locs hP hD hS => ?_)
  have hP : va_P D vwCl [(d1, .inr (0, [.ref k1, .int (nI M), .int (nI 0), .long 1]))] H := hP
  have hD : va_D A [(d1, .inr (0, [.ref k1, .int (nI M), .int (nI 0), .long 1]))] := hD
  exact gx_retv hx hb hr hlocks () (trivial) hK (hP.sub [0] rfl) (hD.sub [0] (by decide) rfl) hS dX0_begin_24
theorem iw_X0_addColumn_X0 : ∀ w ∈ wsX00, w ∈ wsX0_addColumn := by decide +kernel
theorem kw_X0_addColumn_9 : Cond.fieldLink RX0 9 "FluxModes$Reduction" "cells" "[J" ∈ wsX0_addColumn := by decide +kernel
theorem kw_X0_addColumn_15 : Cond.fieldLink RX0 15 "FluxModes$Reduction" "rows" "I" ∈ wsX0_addColumn := by decide +kernel
theorem kw_X0_addColumn_19 : Cond.fieldLink RX0 19 "FluxModes$Reduction" "columns" "I" ∈ wsX0_addColumn := by decide +kernel
abbrev rmX0_addColumn : Room := { frames := 0, cells := 0, slots := 0, locals := 0 }
set_option maxHeartbeats 4000000 in
set_option maxRecDepth 100000 in
theorem lpX0_addColumn {p : Program} {l : Launch} {e : Env} {s : State} {m : MethodId} {args : Array Value} {below : List Frame} {meth : Method} {c : Code} {Q : State → Prop} {D : va_G} {A : Nat → Prop} {H0 : Heap} (C0 : CallFix p m c cX0_addColumn 4 s args wsX0_addColumn RX0) (hN : gx_N s) (hA : ∀ q : Nat, H0.size ≤ q → A q) {d1 k1 e1 w t j : Nat} {pv : Int64} {cK cE : ClassId} {E : Nat → Int32} {K0 : Nat → Int64} (hw6 : w ≤ 6) (ht : t < 8) (hj : j < 8) (hK : va_K D vwCl [(cK, .long), (cE, .int)] s) (kk : ∀ (K : Nat → Int64) (H : Heap) (locs : List Loc) (ls : Array Slot), (ac_I K0 K E t j w) → va_P D vwCl [(d1, .inr (0, [.ref k1, .int (nI w), .int (nI t), .long pv])), (k1, .inl (cK, 48, .inr (.inl K))), (e1, .inl (cE, 48, .inl E))] H → va_D A [(d1, .inr (0, [.ref k1, .int (nI w), .int (nI t), .long pv])), (k1, .inl (cK, 48, .inr (.inl K))), (e1, .inl (cE, 48, .inl E))] → va_S A H0 H locs → lv_has ls 4 [(0, .ref d1), (1, .ref e1), (2, .int (nI j)), (3, .int (nI w))] → W p l e rmX0_addColumn s m args below meth c H locs 0 0 Q (F0 m 49 ls [])) : ∀ (n_ : Nat) (i : Nat) (K : Nat → Int64) (H : Heap) (locs : List Loc) (ls : Array Slot), (i ≤ w ∧ w < i + n_) → (ac_I K0 K E t j i) → va_P D vwCl [(d1, .inr (0, [.ref k1, .int (nI w), .int (nI t), .long pv])), (k1, .inl (cK, 48, .inr (.inl K))), (e1, .inl (cE, 48, .inl E))] H → va_D A [(d1, .inr (0, [.ref k1, .int (nI w), .int (nI t), .long pv])), (k1, .inl (cK, 48, .inr (.inl K))), (e1, .inl (cE, 48, .inl E))] → va_S A H0 H locs → lv_has ls 4 [(0, .ref d1), (1, .ref e1), (2, .int (nI j)), (3, .int (nI i))] → W p l e rmX0_addColumn s m args below meth c H locs 0 0 Q (F0 m 12 ls []) := by
  obtain ⟨hx, hb, hml, hown, hts⟩ := id C0
  intro n_
  induction n_ with
  | zero =>
    intro i K H locs ls hm
    exact absurd hm (by omega)
  | succ n_ ih =>
    intro i K H locs ls hm hI hP hD hS hl
    refine lv_iload_n hx hb dX0_addColumn_12 rfl (lv_at hl 3 rfl) ?_
    refine lv_aload_n hx hb dX0_addColumn_13 rfl (lv_at hl 0 rfl) ?_
    refine va_get (D := D) (ci := 0) (v := .int (nI w)) (C := RX0) (T := TX0) (N := 4) hx hb hts iw_X0_addColumn_X0 hown hK hP 0 rfl rfl 1 (by decide) (hts _ kw_X0_addColumn_15) (fun _ h9 => h9) rfl dX0_addColumn_14 ?_
    refine gx_ge (tgt := 49) hx hb dX0_addColumn_17 (by decide) (by omega) (by omega) (fun c_17 => ?_) (fun c_17 => ?_)
    · have hiw : i = w := by omega
      subst hiw
      exact kk _ _ _ _ hI (hP.sub [0, 1, 2] rfl) (hD.sub [0, 1, 2] (by decide) rfl) hS (lv_sub hl [0, 1, 2, 3] rfl)
    · refine lv_aload_n hx hb dX0_addColumn_20 rfl (lv_at hl 0 rfl) ?_
      refine va_get (D := D) (ci := 0) (v := .ref k1) (C := RX0) (T := TX0) (N := 4) hx hb hts iw_X0_addColumn_X0 hown hK hP 0 rfl rfl 0 (by decide) (hts _ kw_X0_addColumn_9) (fun _ h9 => h9) rfl dX0_addColumn_21 ?_
      refine lv_iload_n hx hb dX0_addColumn_24 rfl (lv_at hl 3 rfl) ?_
      refine lv_bipush (v := nI 8) hx hb dX0_addColumn_25 (by decide) ?_
      refine lv_imul hx hb dX0_addColumn_27 ?_
      refine gx_i (y := nI (i * 8)) (pk_mul i 8) ?_
      refine lv_aload_n hx hb dX0_addColumn_28 rfl (lv_at hl 0 rfl) ?_
      refine va_get (D := D) (ci := 0) (v := .int (nI t)) (C := RX0) (T := TX0) (N := 4) hx hb hts iw_X0_addColumn_X0 hown hK hP 0 rfl rfl 2 (by decide) (hts _ kw_X0_addColumn_19) (fun _ h9 => h9) rfl dX0_addColumn_29 ?_
      refine lv_iadd hx hb dX0_addColumn_32 ?_
      refine gx_i (y := nI (i * 8 + t)) (nI_add (i * 8) t) ?_
      refine lv_aload_n hx hb dX0_addColumn_33 rfl (lv_at hl 1 rfl) ?_
      refine lv_iload_n hx hb dX0_addColumn_34 rfl (lv_at hl 3 rfl) ?_
      refine lv_bipush (v := nI 8) hx hb dX0_addColumn_35 (by decide) ?_
      refine lv_imul hx hb dX0_addColumn_37 ?_
      refine gx_i (y := nI (i * 8)) (pk_mul i 8) ?_
      refine lv_iload_n hx hb dX0_addColumn_38 rfl (lv_at hl 2 rfl) ?_
      refine lv_iadd hx hb dX0_addColumn_39 ?_
      refine gx_i (y := nI (i * 8 + j)) (nI_add (i * 8) j) ?_
      refine gx_iald (q := i * 8 + j) hx hb hK hP 2 1 rfl rfl (rfl) (by omega) (by decide) dX0_addColumn_40 ?_
      refine lv_i2l (v := (E (i * 8 + j)).toInt64) hx hb dX0_addColumn_41 rfl ?_
      refine gx_last (q := i * 8 + t) hx hb hK hP hD hS 1 0 rfl rfl (rfl) (by omega) (by decide) dX0_addColumn_42 (fun H locs hP hD hS => ?_)
      have hP : va_P D vwCl [(d1, .inr (0, [.ref k1, .int (nI w), .int (nI t), .long pv])), (k1, .inl (cK, 48, .inr (.inl (vp_updL K (i * 8 + t) ((E (i * 8 + j)).toInt64))))), (e1, .inl (cE, 48, .inl E))] H := hP
      have hD : va_D A [(d1, .inr (0, [.ref k1, .int (nI w), .int (nI t), .long pv])), (k1, .inl (cK, 48, .inr (.inl (vp_updL K (i * 8 + t) ((E (i * 8 + j)).toInt64))))), (e1, .inl (cE, 48, .inl E))] := hD
      refine lv_iinc (v := nI (i + 1)) (lv' := [(3, .int (nI (i + 1))), (0, .ref d1), (1, .ref e1), (2, .int (nI j))]) hx hb dX0_addColumn_43 hl (k := 3) rfl ((nI_succ i).symm) (by decide) rfl (fun ls hl => ?_)
      refine lv_goto (tgt := 12) hx hb dX0_addColumn_46 (by decide) ?_
      exact ih (i + 1) _ _ _ _ (by omega) (ac_s ht hI) (hP.sub [0, 1, 2] rfl) (hD.sub [0, 1, 2] (by decide) rfl) hS (lv_sub hl [1, 2, 3, 0] rfl)
set_option maxHeartbeats 4000000 in
set_option maxRecDepth 100000 in
theorem kX0_addColumn (l : Launch) (D : va_G) (d1 k1 e1 w t j : Nat) (pv : Int64) (cK cE : ClassId) (E : Nat → Int32) (K : Nat → Int64) (hw6 : w ≤ 6) (ht : t < 8) (hj : j < 8) : gx_Mv l D yX0_addColumn wsX0_addColumn rmX0_addColumn [.ref d1, .ref e1, .int (nI j)] [(cK, .long), (cE, .int)] [(d1, .inr (0, [.ref k1, .int (nI w), .int (nI t), .long pv])), (k1, .inl (cK, 48, .inr (.inl K))), (e1, .inl (cE, 48, .inl E))] (S := Nat → Int64) (fun (K1 : Nat → Int64) => ac_I K K1 E t j w) (fun (K1 : Nat → Int64) => [(d1, .inr (0, [.ref k1, .int (nI w), .int (nI (t + 1)), .long pv])), (k1, .inl (cK, 48, .inr (.inl K1))), (e1, .inl (cE, 48, .inl E))]) := by
  intro sz
  refine gx_start (cc := cX0_addColumn) (maxL := 4) (ret := none) (Qc := fun A => va_Qv (fun (K1 : Nat → Int64) => ac_I K K1 E t j w) (gx_B D [(cK, .long), (cE, .int)] A (fun (K1 : Nat → Int64) => [(d1, .inr (0, [.ref k1, .int (nI w), .int (nI (t + 1)), .long pv])), (k1, .inl (cK, 48, .inr (.inl K1))), (e1, .inl (cE, 48, .inl E))])) A) (by decide) rfl (Nat.le_of_ble_eq_true rfl) ?_ sz
  intro p e s m below meth c A hbody ls hl
  obtain ⟨C0, hr, hlocks, hN, hK, hP, hD, hA⟩ := hbody
  have C0 : CallFix p m c cX0_addColumn 4 s ([.ref d1, .ref e1, .int (nI j)] : List Value).toArray wsX0_addColumn RX0 := C0
  obtain ⟨hx, hb, hml, hown, hts⟩ := id C0
  have hS : va_S A s.heap s.heap [] := va_S.rf
  have hl : lv_has ls 4 [(0, .ref d1), (1, .ref e1), (2, .int (nI j))] := hl
  refine lv_aload_n hx hb dX0_addColumn_0 rfl (lv_at hl 0 rfl) ?_
  refine va_get (D := D) (ci := 0) (v := .int (nI t)) (C := RX0) (T := TX0) (N := 4) hx hb hts iw_X0_addColumn_X0 hown hK hP 0 rfl rfl 2 (by decide) (hts _ kw_X0_addColumn_19) (fun _ h9 => h9) rfl dX0_addColumn_1 ?_
  refine lv_bipush (v := nI 8) hx hb dX0_addColumn_4 (by decide) ?_
  refine gx_lt (tgt := 10) hx hb dX0_addColumn_6 (by decide) (by omega) (by omega) (fun c_6 => ?_) (fun c_6 => ?_)
  · refine lv_iconst (v := nI 0) hx hb dX0_addColumn_10 (by decide) ?_
    refine lv_istore_n (lv' := [(3, .int (nI 0)), (0, .ref d1), (1, .ref e1), (2, .int (nI j))]) hx hb dX0_addColumn_11 rfl hl (by decide) rfl (fun ls hl => ?_)
    refine lpX0_addColumn C0 hN hA hw6 ht hj hK (fun K1 H locs ls hI hP hD hS hl => ?_) (w + 1) 0 K _ _ _ (by omega) (ac_0 K E t j) (hP.sub [0, 1, 2] rfl) (hD.sub [0, 1, 2] (by decide) rfl) hS (lv_sub hl [1, 2, 3, 0] rfl)
    refine lv_aload_n hx hb dX0_addColumn_49 rfl (lv_at hl 0 rfl) ?_
    refine lv_dup hx hb dX0_addColumn_50 rfl ?_
    refine va_get (D := D) (ci := 0) (v := .int (nI t)) (C := RX0) (T := TX0) (N := 4) hx hb hts iw_X0_addColumn_X0 hown hK hP 0 rfl rfl 2 (by decide) (hts _ kw_X0_addColumn_19) (fun _ h9 => h9) rfl dX0_addColumn_51 ?_
    refine lv_iconst (v := nI 1) hx hb dX0_addColumn_54 (by decide) ?_
    refine lv_iadd hx hb dX0_addColumn_55 ?_
    refine gx_i (y := nI (t + 1)) (nI_add t 1) ?_
    refine va_put (D := D) (ci := 0) (v := .int (nI (t + 1))) (ty := .int) (C := RX0) (T := TX0) (N := 4) hx hb hts iw_X0_addColumn_X0 tyX0 tyX0_ok nmX0 hown hK hP hD hS 0 rfl rfl 2 (by decide) (hts _ kw_X0_addColumn_19) (fun _ h9 => h9) rfl (by decide +kernel) rfl rfl (Nat.le_of_ble_eq_true rfl) dX0_addColumn_56 (fun H locs hP hD hS => ?_)
    have hP : va_P D vwCl [(d1, .inr (0, [.ref k1, .int (nI w), .int (nI (t + 1)), .long pv])), (k1, .inl (cK, 48, .inr (.inl K1))), (e1, .inl (cE, 48, .inl E))] H := hP
    have hD : va_D A [(d1, .inr (0, [.ref k1, .int (nI w), .int (nI (t + 1)), .long pv])), (k1, .inl (cK, 48, .inr (.inl K1))), (e1, .inl (cE, 48, .inl E))] := hD
    exact gx_retv hx hb hr hlocks K1 (hI) hK (hP.sub [0, 1, 2] rfl) (hD.sub [0, 1, 2] (by decide) rfl) hS dX0_addColumn_59
  · exact absurd c_6 (by omega)
abbrev rmX0_pivotRow : Room := { frames := 0, cells := 0, slots := 0, locals := 0 }
theorem iw_X0_pivotRow_X0 : ∀ w ∈ wsX00, w ∈ wsX0_pivotRow := by decide +kernel
theorem kw_X0_pivotRow_9 : Cond.fieldLink RX0 9 "FluxModes$Reduction" "cells" "[J" ∈ wsX0_pivotRow := by decide +kernel
theorem kw_X0_pivotRow_15 : Cond.fieldLink RX0 15 "FluxModes$Reduction" "rows" "I" ∈ wsX0_pivotRow := by decide +kernel
set_option maxHeartbeats 4000000 in
set_option maxRecDepth 100000 in
theorem lpX0_pivotRow {p : Program} {l : Launch} {e : Env} {s : State} {m : MethodId} {args : Array Value} {below : List Frame} {meth : Method} {c : Code} {Q : State → Prop} {D : va_G} {A : Nat → Prop} {H0 : Heap} (C0 : CallFix p m c cX0_pivotRow 3 s args wsX0_pivotRow RX0) (hN : gx_N s) (hA : ∀ q : Nat, H0.size ≤ q → A q) {d1 k1 w t col : Nat} {pv : Int64} {cK : ClassId} {K : Nat → Int64} (hw6 : w ≤ 6) (hc : col < 8) (hK : va_K D vwCl [(cK, .long)] s) (kf : ∀ (i : Nat) (H : Heap) (locs : List Loc) (ls : Array Slot), (col ≤ i) → (i < w) → (K (i * 8 + col) ≠ 0) → (∀ j, col ≤ j → j < i → K (j * 8 + col) = 0) → va_P D vwCl [(d1, .inr (0, [.ref k1, .int (nI w), .int (nI t), .long pv])), (k1, .inl (cK, 48, .inr (.inl K)))] H → va_D A [(d1, .inr (0, [.ref k1, .int (nI w), .int (nI t), .long pv])), (k1, .inl (cK, 48, .inr (.inl K)))] → va_S A H0 H locs → lv_has ls 3 [(0, .ref d1), (1, .int (nI col)), (2, .int (nI i))] → W p l e rmX0_pivotRow s m args below meth c H locs 0 0 Q (F0 m 27 ls [.int (nI i)])) (kn : ∀ (i : Nat) (H : Heap) (locs : List Loc) (ls : Array Slot), (∀ j, col ≤ j → j < w → K (j * 8 + col) = 0) → va_P D vwCl [(d1, .inr (0, [.ref k1, .int (nI w), .int (nI t), .long pv])), (k1, .inl (cK, 48, .inr (.inl K)))] H → va_D A [(d1, .inr (0, [.ref k1, .int (nI w), .int (nI t), .long pv])), (k1, .inl (cK, 48, .inr (.inl K)))] → va_S A H0 H locs → lv_has ls 3 [(0, .ref d1), (1, .int (nI col)), (2, .int (nI i))] → W p l e rmX0_pivotRow s m args below meth c H locs 0 0 Q (F0 m 34 ls [])) : ∀ (n_ : Nat) (i : Nat) (H : Heap) (locs : List Loc) (ls : Array Slot), (col ≤ i ∧ i ≤ w ∧ w < i + n_) → (∀ j, col ≤ j → j < i → K (j * 8 + col) = 0) → va_P D vwCl [(d1, .inr (0, [.ref k1, .int (nI w), .int (nI t), .long pv])), (k1, .inl (cK, 48, .inr (.inl K)))] H → va_D A [(d1, .inr (0, [.ref k1, .int (nI w), .int (nI t), .long pv])), (k1, .inl (cK, 48, .inr (.inl K)))] → va_S A H0 H locs → lv_has ls 3 [(0, .ref d1), (1, .int (nI col)), (2, .int (nI i))] → W p l e rmX0_pivotRow s m args below meth c H locs 0 0 Q (F0 m 2 ls []) := by
  obtain ⟨hx, hb, hml, hown, hts⟩ := id C0
  intro n_
  induction n_ with
  | zero =>
    intro i H locs ls hm
    exact absurd hm (by omega)
  | succ n_ ih =>
    intro i H locs ls hm hI hP hD hS hl
    refine lv_iload_n hx hb dX0_pivotRow_2 rfl (lv_at hl 2 rfl) ?_
    refine lv_aload_n hx hb dX0_pivotRow_3 rfl (lv_at hl 0 rfl) ?_
    refine va_get (D := D) (ci := 0) (v := .int (nI w)) (C := RX0) (T := TX0) (N := 4) hx hb hts iw_X0_pivotRow_X0 hown hK hP 0 rfl rfl 1 (by decide) (hts _ kw_X0_pivotRow_15) (fun _ h9 => h9) rfl dX0_pivotRow_4 ?_
    refine gx_ge (tgt := 34) hx hb dX0_pivotRow_7 (by decide) (by omega) (by omega) (fun c_7 => ?_) (fun c_7 => ?_)
    · exact kn i _ _ _ (fun j h1 h2 => hI j h1 (by omega)) (hP.sub [0, 1] rfl) (hD.sub [0, 1] (by decide) rfl) hS (lv_sub hl [0, 1, 2] rfl)
    · refine lv_aload_n hx hb dX0_pivotRow_10 rfl (lv_at hl 0 rfl) ?_
      refine va_get (D := D) (ci := 0) (v := .ref k1) (C := RX0) (T := TX0) (N := 4) hx hb hts iw_X0_pivotRow_X0 hown hK hP 0 rfl rfl 0 (by decide) (hts _ kw_X0_pivotRow_9) (fun _ h9 => h9) rfl dX0_pivotRow_11 ?_
      refine lv_iload_n hx hb dX0_pivotRow_14 rfl (lv_at hl 2 rfl) ?_
      refine lv_bipush (v := nI 8) hx hb dX0_pivotRow_15 (by decide) ?_
      refine lv_imul hx hb dX0_pivotRow_17 ?_
      refine gx_i (y := nI (i * 8)) (pk_mul i 8) ?_
      refine lv_iload_n hx hb dX0_pivotRow_18 rfl (lv_at hl 1 rfl) ?_
      refine lv_iadd hx hb dX0_pivotRow_19 ?_
      refine gx_i (y := nI (i * 8 + col)) (nI_add (i * 8) col) ?_
      refine gx_lald (q := i * 8 + col) hx hb hK hP 1 0 rfl rfl (rfl) (by omega) (by decide) dX0_pivotRow_20 ?_
      refine lv_lconst (v := 0) hx hb dX0_pivotRow_21 (by decide) ?_
      refine W.lcmp hx hb dX0_pivotRow_22 ?_
      refine lv_if_eq (tgt := 28) hx hb dX0_pivotRow_23 (by decide) (fun c_23 => ?_) (fun c_23 => ?_)
      · refine lv_iinc (v := nI (i + 1)) (lv' := [(2, .int (nI (i + 1))), (0, .ref d1), (1, .int (nI col))]) hx hb dX0_pivotRow_28 hl (k := 2) rfl ((nI_succ i).symm) (by decide) rfl (fun ls hl => ?_)
        refine lv_goto (tgt := 2) hx hb dX0_pivotRow_31 (by decide) ?_
        have hz : K (i * 8 + col) = 0 := (gx_cmp0 _ _).mp c_23
        exact ih (i + 1) _ _ _ (by omega) (pr_s hI hz) (hP.sub [0, 1] rfl) (hD.sub [0, 1] (by decide) rfl) hS (lv_sub hl [1, 2, 0] rfl)
      · refine lv_iload_n hx hb dX0_pivotRow_26 rfl (lv_at hl 2 rfl) ?_
        have hz : K (i * 8 + col) ≠ 0 := fun q => c_23 ((gx_cmp0 _ _).mpr q)
        exact kf i _ _ _ hm.1 (by omega) hz hI (hP.sub [0, 1] rfl) (hD.sub [0, 1] (by decide) rfl) hS (lv_sub hl [0, 1, 2] rfl)
set_option maxHeartbeats 4000000 in
set_option maxRecDepth 100000 in
theorem kX0_pivotRow (l : Launch) (D : va_G) (d1 k1 w t col : Nat) (pv : Int64) (cK : ClassId) (K : Nat → Int64) (hw6 : w ≤ 6) (hc : col < 8) (hcw : col ≤ w) : gx_Mi l D yX0_pivotRow wsX0_pivotRow rmX0_pivotRow [.ref d1, .int (nI col)] [(cK, .long)] [(d1, .inr (0, [.ref k1, .int (nI w), .int (nI t), .long pv])), (k1, .inl (cK, 48, .inr (.inl K)))] (S := Unit) (fun r (_ : Unit) => (∃ i, r = nI i ∧ col ≤ i ∧ i < w ∧ K (i * 8 + col) ≠ 0 ∧ ∀ j, col ≤ j → j < i → K (j * 8 + col) = 0) ∨ (r = (-1) ∧ ∀ j, col ≤ j → j < w → K (j * 8 + col) = 0)) (fun (_ : Unit) => [(d1, .inr (0, [.ref k1, .int (nI w), .int (nI t), .long pv])), (k1, .inl (cK, 48, .inr (.inl K)))]) := by
  intro sz
  refine gx_start (cc := cX0_pivotRow) (maxL := 3) (ret := (some .int)) (Qc := fun A => va_Qi (fun r (_ : Unit) => (∃ i, r = nI i ∧ col ≤ i ∧ i < w ∧ K (i * 8 + col) ≠ 0 ∧ ∀ j, col ≤ j → j < i → K (j * 8 + col) = 0) ∨ (r = (-1) ∧ ∀ j, col ≤ j → j < w → K (j * 8 + col) = 0)) (gx_B D [(cK, .long)] A (fun (_ : Unit) => [(d1, .inr (0, [.ref k1, .int (nI w), .int (nI t), .long pv])), (k1, .inl (cK, 48, .inr (.inl K)))])) A) (by decide) rfl (Nat.le_of_ble_eq_true rfl) ?_ sz
  intro p e s m below meth c A hbody ls hl
  obtain ⟨C0, hr, hlocks, hN, hK, hP, hD, hA⟩ := hbody
  have C0 : CallFix p m c cX0_pivotRow 3 s ([.ref d1, .int (nI col)] : List Value).toArray wsX0_pivotRow RX0 := C0
  obtain ⟨hx, hb, hml, hown, hts⟩ := id C0
  have hS : va_S A s.heap s.heap [] := va_S.rf
  have hl : lv_has ls 3 [(0, .ref d1), (1, .int (nI col))] := hl
  refine lv_iload_n hx hb dX0_pivotRow_0 rfl (lv_at hl 1 rfl) ?_
  refine lv_istore_n (lv' := [(2, .int (nI col)), (0, .ref d1), (1, .int (nI col))]) hx hb dX0_pivotRow_1 rfl hl (by decide) rfl (fun ls hl => ?_)
  refine lpX0_pivotRow C0 hN hA hw6 hc hK (fun i H locs ls h1 h2 h3 h4 hP hD hS hl => ?_) (fun i H locs ls h1 hP hD hS hl => ?_) (w + 1) col _ _ _ (by omega) (fun j h1 h2 => absurd h1 (by omega)) (hP.sub [0, 1] rfl) (hD.sub [0, 1] (by decide) rfl) hS (lv_sub hl [1, 2, 0] rfl)
  · exact gx_reti hx hb hr hlocks () (Or.inl ⟨i, rfl, h1, h2, h3, h4⟩) hK (hP.sub [0, 1] rfl) (hD.sub [0, 1] (by decide) rfl) hS dX0_pivotRow_27
  · refine lv_iconst (v := (-1)) hx hb dX0_pivotRow_34 (by decide) ?_
    exact gx_reti hx hb hr hlocks () (Or.inr ⟨rfl, h1⟩) hK (hP.sub [0, 1] rfl) (hD.sub [0, 1] (by decide) rfl) hS dX0_pivotRow_35
abbrev rmX0_swapRows : Room := { frames := 0, cells := 0, slots := 0, locals := 0 }
theorem iw_X0_swapRows_X0 : ∀ w ∈ wsX00, w ∈ wsX0_swapRows := by decide +kernel
theorem kw_X0_swapRows_9 : Cond.fieldLink RX0 9 "FluxModes$Reduction" "cells" "[J" ∈ wsX0_swapRows := by decide +kernel
theorem kw_X0_swapRows_19 : Cond.fieldLink RX0 19 "FluxModes$Reduction" "columns" "I" ∈ wsX0_swapRows := by decide +kernel
set_option maxHeartbeats 4000000 in
set_option maxRecDepth 100000 in
theorem lpX0_swapRows {p : Program} {l : Launch} {e : Env} {s : State} {m : MethodId} {args : Array Value} {below : List Frame} {meth : Method} {c : Code} {Q : State → Prop} {D : va_G} {A : Nat → Prop} {H0 : Heap} (C0 : CallFix p m c cX0_swapRows 6 s args wsX0_swapRows RX0) (hN : gx_N s) (hA : ∀ q : Nat, H0.size ≤ q → A q) {d1 k1 w t a b : Nat} {pv : Int64} {cK : ClassId} {K0 : Nat → Int64} (ht : t ≤ 8) (ha6 : a < 6) (hb6 : b < 6) (hK : va_K D vwCl [(cK, .long)] s) (kk : ∀ (K : Nat → Int64) (H : Heap) (locs : List Loc) (ls : Array Slot), (sw_I K0 K a b t) → va_P D vwCl [(d1, .inr (0, [.ref k1, .int (nI w), .int (nI t), .long pv])), (k1, .inl (cK, 48, .inr (.inl K)))] H → va_D A [(d1, .inr (0, [.ref k1, .int (nI w), .int (nI t), .long pv])), (k1, .inl (cK, 48, .inr (.inl K)))] → va_S A H0 H locs → lv_has ls 6 [(0, .ref d1), (1, .int (nI a)), (2, .int (nI b)), (3, .int (nI t))] → W p l e rmX0_swapRows s m args below meth c H locs 0 0 Q (F0 m 64 ls [])) : ∀ (n_ : Nat) (i : Nat) (K : Nat → Int64) (H : Heap) (locs : List Loc) (ls : Array Slot), (i ≤ t ∧ t < i + n_) → (sw_I K0 K a b i) → va_P D vwCl [(d1, .inr (0, [.ref k1, .int (nI w), .int (nI t), .long pv])), (k1, .inl (cK, 48, .inr (.inl K)))] H → va_D A [(d1, .inr (0, [.ref k1, .int (nI w), .int (nI t), .long pv])), (k1, .inl (cK, 48, .inr (.inl K)))] → va_S A H0 H locs → lv_has ls 6 [(0, .ref d1), (1, .int (nI a)), (2, .int (nI b)), (3, .int (nI i))] → W p l e rmX0_swapRows s m args below meth c H locs 0 0 Q (F0 m 2 ls []) := by
  obtain ⟨hx, hb, hml, hown, hts⟩ := id C0
  intro n_
  induction n_ with
  | zero =>
    intro i K H locs ls hm
    exact absurd hm (by omega)
  | succ n_ ih =>
    intro i K H locs ls hm hI hP hD hS hl
    refine lv_iload_n hx hb dX0_swapRows_2 rfl (lv_at hl 3 rfl) ?_
    refine lv_aload_n hx hb dX0_swapRows_3 rfl (lv_at hl 0 rfl) ?_
    refine va_get (D := D) (ci := 0) (v := .int (nI t)) (C := RX0) (T := TX0) (N := 4) hx hb hts iw_X0_swapRows_X0 hown hK hP 0 rfl rfl 2 (by decide) (hts _ kw_X0_swapRows_19) (fun _ h9 => h9) rfl dX0_swapRows_4 ?_
    refine gx_ge (tgt := 64) hx hb dX0_swapRows_7 (by decide) (by omega) (by omega) (fun c_7 => ?_) (fun c_7 => ?_)
    · have hit : i = t := by omega
      subst hit
      exact kk _ _ _ _ hI (hP.sub [0, 1] rfl) (hD.sub [0, 1] (by decide) rfl) hS (lv_sub hl [0, 1, 2, 3] rfl)
    · refine lv_aload_n hx hb dX0_swapRows_10 rfl (lv_at hl 0 rfl) ?_
      refine va_get (D := D) (ci := 0) (v := .ref k1) (C := RX0) (T := TX0) (N := 4) hx hb hts iw_X0_swapRows_X0 hown hK hP 0 rfl rfl 0 (by decide) (hts _ kw_X0_swapRows_9) (fun _ h9 => h9) rfl dX0_swapRows_11 ?_
      refine lv_iload_n hx hb dX0_swapRows_14 rfl (lv_at hl 1 rfl) ?_
      refine lv_bipush (v := nI 8) hx hb dX0_swapRows_15 (by decide) ?_
      refine lv_imul hx hb dX0_swapRows_17 ?_
      refine gx_i (y := nI (a * 8)) (pk_mul a 8) ?_
      refine lv_iload_n hx hb dX0_swapRows_18 rfl (lv_at hl 3 rfl) ?_
      refine lv_iadd hx hb dX0_swapRows_19 ?_
      refine gx_i (y := nI (a * 8 + i)) (nI_add (a * 8) i) ?_
      refine gx_lald (q := a * 8 + i) hx hb hK hP 1 0 rfl rfl (rfl) (by omega) (by decide) dX0_swapRows_20 ?_
      refine lv_lstore (lv' := [(4, .long (K (a * 8 + i))), (0, .ref d1), (1, .int (nI a)), (2, .int (nI b)), (3, .int (nI i))]) hx hb dX0_swapRows_21 hl (by decide) rfl (fun ls hl => ?_)
      refine lv_aload_n hx hb dX0_swapRows_23 rfl (lv_at hl 1 rfl) ?_
      refine va_get (D := D) (ci := 0) (v := .ref k1) (C := RX0) (T := TX0) (N := 4) hx hb hts iw_X0_swapRows_X0 hown hK hP 0 rfl rfl 0 (by decide) (hts _ kw_X0_swapRows_9) (fun _ h9 => h9) rfl dX0_swapRows_24 ?_
      refine lv_iload_n hx hb dX0_swapRows_27 rfl (lv_at hl 2 rfl) ?_
      refine lv_bipush (v := nI 8) hx hb dX0_swapRows_28 (by decide) ?_
      refine lv_imul hx hb dX0_swapRows_30 ?_
      refine gx_i (y := nI (a * 8)) (pk_mul a 8) ?_
      refine lv_iload_n hx hb dX0_swapRows_31 rfl (lv_at hl 4 rfl) ?_
      refine lv_iadd hx hb dX0_swapRows_32 ?_
      refine gx_i (y := nI (a * 8 + i)) (nI_add (a * 8) i) ?_
      refine lv_aload_n hx hb dX0_swapRows_33 rfl (lv_at hl 1 rfl) ?_
      refine va_get (D := D) (ci := 0) (v := .ref k1) (C := RX0) (T := TX0) (N := 4) hx hb hts iw_X0_swapRows_X0 hown hK hP 0 rfl rfl 0 (by decide) (hts _ kw_X0_swapRows_9) (fun _ h9 => h9) rfl dX0_swapRows_34 ?_
      refine lv_iload_n hx hb dX0_swapRows_37 rfl (lv_at hl 3 rfl) ?_
      refine lv_bipush (v := nI 8) hx hb dX0_swapRows_38 (by decide) ?_
      refine lv_imul hx hb dX0_swapRows_40 ?_
      refine gx_i (y := nI (b * 8)) (pk_mul b 8) ?_
      refine lv_iload_n hx hb dX0_swapRows_41 rfl (lv_at hl 4 rfl) ?_
      refine lv_iadd hx hb dX0_swapRows_42 ?_
      refine gx_i (y := nI (b * 8 + i)) (nI_add (b * 8) i) ?_
      refine gx_lald (q := b * 8 + i) hx hb hK hP 1 0 rfl rfl (rfl) (by omega) (by decide) dX0_swapRows_43 ?_
      refine gx_last (q := a * 8 + i) hx hb hK hP hD hS 1 0 rfl rfl (rfl) (by omega) (by decide) dX0_swapRows_44 (fun H locs hP hD hS => ?_)
      have hP : va_P D vwCl [(d1, .inr (0, [.ref k1, .int (nI w), .int (nI t), .long pv])), (k1, .inl (cK, 48, .inr (.inl (vp_updL K (a * 8 + i) (K (b * 8 + i))))))] H := hP
      have hD : va_D A [(d1, .inr (0, [.ref k1, .int (nI w), .int (nI t), .long pv])), (k1, .inl (cK, 48, .inr (.inl (vp_updL K (a * 8 + i) (K (b * 8 + i))))))] := hD
      refine lv_aload_n hx hb dX0_swapRows_45 rfl (lv_at hl 1 rfl) ?_
      refine va_get (D := D) (ci := 0) (v := .ref k1) (C := RX0) (T := TX0) (N := 4) hx hb hts iw_X0_swapRows_X0 hown hK hP 0 rfl rfl 0 (by decide) (hts _ kw_X0_swapRows_9) (fun _ h9 => h9) rfl dX0_swapRows_46 ?_
      refine lv_iload_n hx hb dX0_swapRows_49 rfl (lv_at hl 3 rfl) ?_
      refine lv_bipush (v := nI 8) hx hb dX0_swapRows_50 (by decide) ?_
      refine lv_imul hx hb dX0_swapRows_52 ?_
      refine gx_i (y := nI (b * 8)) (pk_mul b 8) ?_
      refine lv_iload_n hx hb dX0_swapRows_53 rfl (lv_at hl 4 rfl) ?_
      refine lv_iadd hx hb dX0_swapRows_54 ?_
      refine gx_i (y := nI (b * 8 + i)) (nI_add (b * 8) i) ?_
      refine lv_lload hx hb dX0_swapRows_55 (lv_at hl 0 rfl) ?_
      refine gx_last (q := b * 8 + i) hx hb hK hP hD hS 1 0 rfl rfl (rfl) (by omega) (by decide) dX0_swapRows_57 (fun H locs hP hD hS => ?_)
      have hP : va_P D vwCl [(d1, .inr (0, [.ref k1, .int (nI w), .int (nI t), .long pv])), (k1, .inl (cK, 48, .inr (.inl (vp_updL (vp_updL K (a * 8 + i) (K (b * 8 + i))) (b * 8 + i) (K (a * 8 + i))))))] H := hP
      have hD : va_D A [(d1, .inr (0, [.ref k1, .int (nI w), .int (nI t), .long pv])), (k1, .inl (cK, 48, .inr (.inl (vp_updL (vp_updL K (a * 8 + i) (K (b * 8 + i))) (b * 8 + i) (K (a * 8 + i))))))] := hD
      refine lv_iinc (v := nI (i + 1)) (lv' := [(3, .int (nI (i + 1))), (4, .long (K (a * 8 + i))), (0, .ref d1), (1, .int (nI a)), (2, .int (nI b))]) hx hb dX0_swapRows_58 hl (k := 4) rfl ((nI_succ i).symm) (by decide) rfl (fun ls hl => ?_)
      refine lv_goto (tgt := 2) hx hb dX0_swapRows_61 (by decide) ?_
      exact ih (i + 1) _ _ _ _ (by omega) (sw_s (by omega) hI) (hP.sub [0, 1] rfl) (hD.sub [0, 1] (by decide) rfl) hS (lv_sub hl [2, 3, 4, 0] rfl)
set_option maxHeartbeats 4000000 in
set_option maxRecDepth 100000 in
theorem kX0_swapRows (l : Launch) (D : va_G) (d1 k1 w t a b : Nat) (pv : Int64) (cK : ClassId) (K : Nat → Int64) (ht : t ≤ 8) (ha6 : a < 6) (hb6 : b < 6) : gx_Mv l D yX0_swapRows wsX0_swapRows rmX0_swapRows [.ref d1, .int (nI a), .int (nI b)] [(cK, .long)] [(d1, .inr (0, [.ref k1, .int (nI w), .int (nI t), .long pv])), (k1, .inl (cK, 48, .inr (.inl K)))] (S := Nat → Int64) (fun (K1 : Nat → Int64) => sw_I K K1 a b t) (fun (K1 : Nat → Int64) => [(d1, .inr (0, [.ref k1, .int (nI w), .int (nI t), .long pv])), (k1, .inl (cK, 48, .inr (.inl K1)))]) := by
  intro sz
  refine gx_start (cc := cX0_swapRows) (maxL := 6) (ret := none) (Qc := fun A => va_Qv (fun (K1 : Nat → Int64) => sw_I K K1 a b t) (gx_B D [(cK, .long)] A (fun (K1 : Nat → Int64) => [(d1, .inr (0, [.ref k1, .int (nI w), .int (nI t), .long pv])), (k1, .inl (cK, 48, .inr (.inl K1)))])) A) (by decide) rfl (Nat.le_of_ble_eq_true rfl) ?_ sz
  intro p e s m below meth c A hbody ls hl
  obtain ⟨C0, hr, hlocks, hN, hK, hP, hD, hA⟩ := hbody
  have C0 : CallFix p m c cX0_swapRows 6 s ([.ref d1, .int (nI a), .int (nI b)] : List Value).toArray wsX0_swapRows RX0 := C0
  obtain ⟨hx, hb, hml, hown, hts⟩ := id C0
  have hS : va_S A s.heap s.heap [] := va_S.rf
  have hl : lv_has ls 6 [(0, .ref d1), (1, .int (nI a)), (2, .int (nI b))] := hl
  refine lv_iconst (v := nI 0) hx hb dX0_swapRows_0 (by decide) ?_
  refine lv_istore_n (lv' := [(3, .int (nI 0)), (0, .ref d1), (1, .int (nI a)), (2, .int (nI b))]) hx hb dX0_swapRows_1 rfl hl (by decide) rfl (fun ls hl => ?_)
  refine lpX0_swapRows C0 hN hA ht ha6 hb6 hK (fun K1 H locs ls hI hP hD hS hl => ?_) (t + 1) 0 K _ _ _ (by omega) (sw_0 K a b) (hP.sub [0, 1] rfl) (hD.sub [0, 1] (by decide) rfl) hS (lv_sub hl [1, 2, 3, 0] rfl)
  exact gx_retv hx hb hr hlocks K1 (hI) hK (hP.sub [0, 1] rfl) (hD.sub [0, 1] (by decide) rfl) hS dX0_swapRows_64
abbrev rmX0_clearRow : Room := { frames := 1, cells := 0, slots := 0, locals := 23 }
theorem iw_X0_clearRow_X0 : ∀ w ∈ wsX00, w ∈ wsX0_clearRow := by decide +kernel
theorem kw_X0_clearRow_9 : Cond.fieldLink RX0 9 "FluxModes$Reduction" "cells" "[J" ∈ wsX0_clearRow := by decide +kernel
theorem kw_X0_clearRow_19 : Cond.fieldLink RX0 19 "FluxModes$Reduction" "columns" "I" ∈ wsX0_clearRow := by decide +kernel
theorem kw_X0_clearRow_22 : Cond.fieldLink RX0 22 "FluxModes$Reduction" "pivot" "J" ∈ wsX0_clearRow := by decide +kernel
set_option maxHeartbeats 4000000 in
set_option maxRecDepth 100000 in
theorem lpX0_clearRow {p : Program} {l : Launch} {e : Env} {s : State} {m : MethodId} {args : Array Value} {below : List Frame} {meth : Method} {c : Code} {Q : State → Prop} {D : va_G} {A : Nat → Prop} {H0 : Heap} (C0 : CallFix p m c cX0_clearRow 12 s args wsX0_clearRow RX0) (hN : gx_N s) (hA : ∀ q : Nat, H0.size ≤ q → A q) {d1 k1 w t row col : Nat} {pv nx fa : Int64} {cK : ClassId} {K0 : Nat → Int64} (ht : t ≤ 8) (hr6 : row < 6) (hc6 : col < 6) (hrc : row ≠ col) (hfa : fa = K0 (row * 8 + col)) (hK : va_K D vwCl [(cK, .long)] s) (kk : ∀ (K : Nat → Int64) (H : Heap) (locs : List Loc) (ls : Array Slot), (cr_I K0 K row col nx pv t) → va_P D vwCl [(d1, .inr (0, [.ref k1, .int (nI w), .int (nI t), .long pv])), (k1, .inl (cK, 48, .inr (.inl K)))] H → va_D A [(d1, .inr (0, [.ref k1, .int (nI w), .int (nI t), .long pv])), (k1, .inl (cK, 48, .inr (.inl K)))] → va_S A H0 H locs → lv_has ls 12 [(0, .ref d1), (1, .int (nI row)), (2, .int (nI col)), (3, .long nx), (5, .int (nI (row * 8))), (6, .int (nI (col * 8))), (7, .long fa), (9, .int (nI t))] → W p l e rmX0_clearRow s m args below meth c H locs 0 0 Q (F0 m 90 ls [])) : ∀ (n_ : Nat) (i : Nat) (K : Nat → Int64) (H : Heap) (locs : List Loc) (ls : Array Slot), (col < i ∧ i ≤ t ∧ t < i + n_) → (cr_I K0 K row col nx pv i) → va_P D vwCl [(d1, .inr (0, [.ref k1, .int (nI w), .int (nI t), .long pv])), (k1, .inl (cK, 48, .inr (.inl K)))] H → va_D A [(d1, .inr (0, [.ref k1, .int (nI w), .int (nI t), .long pv])), (k1, .inl (cK, 48, .inr (.inl K)))] → va_S A H0 H locs → lv_has ls 12 [(0, .ref d1), (1, .int (nI row)), (2, .int (nI col)), (3, .long nx), (5, .int (nI (row * 8))), (6, .int (nI (col * 8))), (7, .long fa), (9, .int (nI i))] → W p l e rmX0_clearRow s m args below meth c H locs 0 0 Q (F0 m 28 ls []) := by
  obtain ⟨hx, hb, hml, hown, hts⟩ := id C0
  intro n_
  induction n_ with
  | zero =>
    intro i K H locs ls hm
    exact absurd hm (by omega)
  | succ n_ ih =>
    intro i K H locs ls hm hI hP hD hS hl
    refine lv_iload hx hb dX0_clearRow_28 (lv_at hl 7 rfl) ?_
    refine lv_aload_n hx hb dX0_clearRow_30 rfl (lv_at hl 0 rfl) ?_
    refine va_get (D := D) (ci := 0) (v := .int (nI t)) (C := RX0) (T := TX0) (N := 4) hx hb hts iw_X0_clearRow_X0 hown hK hP 0 rfl rfl 2 (by decide) (hts _ kw_X0_clearRow_19) (fun _ h9 => h9) rfl dX0_clearRow_31 ?_
    refine gx_ge (tgt := 90) hx hb dX0_clearRow_34 (by decide) (by omega) (by omega) (fun c_34 => ?_) (fun c_34 => ?_)
    · have hit : i = t := by omega
      subst hit
      exact kk _ _ _ _ hI (hP.sub [0, 1] rfl) (hD.sub [0, 1] (by decide) rfl) hS (lv_sub hl [0, 1, 2, 3, 4, 5, 6, 7] rfl)
    · refine lv_lload_n hx hb dX0_clearRow_37 rfl (lv_at hl 3 rfl) ?_
      refine lv_aload_n hx hb dX0_clearRow_38 rfl (lv_at hl 0 rfl) ?_
      refine va_get (D := D) (ci := 0) (v := .ref k1) (C := RX0) (T := TX0) (N := 4) hx hb hts iw_X0_clearRow_X0 hown hK hP 0 rfl rfl 0 (by decide) (hts _ kw_X0_clearRow_9) (fun _ h9 => h9) rfl dX0_clearRow_39 ?_
      refine lv_iload hx hb dX0_clearRow_42 (lv_at hl 4 rfl) ?_
      refine lv_iload hx hb dX0_clearRow_44 (lv_at hl 7 rfl) ?_
      refine lv_iadd hx hb dX0_clearRow_46 ?_
      refine gx_i (y := nI (row * 8 + i)) (nI_add (row * 8) i) ?_
      refine gx_lald (q := row * 8 + i) hx hb hK hP 1 0 rfl rfl (rfl) (by omega) (by decide) dX0_clearRow_47 ?_
      refine lv_lmul hx hb dX0_clearRow_48 ?_
      refine lv_lload hx hb dX0_clearRow_49 (lv_at hl 6 rfl) ?_
      refine lv_aload_n hx hb dX0_clearRow_51 rfl (lv_at hl 0 rfl) ?_
      refine va_get (D := D) (ci := 0) (v := .ref k1) (C := RX0) (T := TX0) (N := 4) hx hb hts iw_X0_clearRow_X0 hown hK hP 0 rfl rfl 0 (by decide) (hts _ kw_X0_clearRow_9) (fun _ h9 => h9) rfl dX0_clearRow_52 ?_
      refine lv_iload hx hb dX0_clearRow_55 (lv_at hl 5 rfl) ?_
      refine lv_iload hx hb dX0_clearRow_57 (lv_at hl 7 rfl) ?_
      refine lv_iadd hx hb dX0_clearRow_59 ?_
      refine gx_i (y := nI (col * 8 + i)) (nI_add (col * 8) i) ?_
      refine gx_lald (q := col * 8 + i) hx hb hK hP 1 0 rfl rfl (rfl) (by omega) (by decide) dX0_clearRow_60 ?_
      refine lv_lmul hx hb dX0_clearRow_61 ?_
      refine lv_lsub hx hb dX0_clearRow_62 ?_
      refine lv_lstore (lv' := [(10, .long ((nx * (K (row * 8 + i))) - (fa * (K (col * 8 + i))))), (0, .ref d1), (1, .int (nI row)), (2, .int (nI col)), (3, .long nx), (5, .int (nI (row * 8))), (6, .int (nI (col * 8))), (7, .long fa), (9, .int (nI i))]) hx hb dX0_clearRow_63 hl (by decide) rfl (fun ls hl => ?_)
      refine lv_aload_n hx hb dX0_clearRow_65 rfl (lv_at hl 1 rfl) ?_
      refine va_get (D := D) (ci := 0) (v := .ref k1) (C := RX0) (T := TX0) (N := 4) hx hb hts iw_X0_clearRow_X0 hown hK hP 0 rfl rfl 0 (by decide) (hts _ kw_X0_clearRow_9) (fun _ h9 => h9) rfl dX0_clearRow_66 ?_
      refine lv_iload hx hb dX0_clearRow_69 (lv_at hl 5 rfl) ?_
      refine lv_iload hx hb dX0_clearRow_71 (lv_at hl 8 rfl) ?_
      refine lv_iadd hx hb dX0_clearRow_73 ?_
      refine gx_i (y := nI (row * 8 + i)) (nI_add (row * 8) i) ?_
      refine lv_lload hx hb dX0_clearRow_74 (lv_at hl 0 rfl) ?_
      refine lv_aload_n hx hb dX0_clearRow_76 rfl (lv_at hl 1 rfl) ?_
      refine va_get (D := D) (ci := 0) (v := .long pv) (C := RX0) (T := TX0) (N := 4) hx hb hts iw_X0_clearRow_X0 hown hK hP 0 rfl rfl 3 (by decide) (hts _ kw_X0_clearRow_22) (fun _ h9 => h9) rfl dX0_clearRow_77 ?_
      refine gx_jl (wr := [(d1, .inr (0, [.ref k1, .int (nI w), .int (nI t), .long pv])), (k1, .inl (cK, 48, .inr (.inl K)))]) (gx_rSN (As := [.long ((nx * (K (row * 8 + i))) - (fa * (K (col * 8 + i)))), .long pv]) (rest := [.int (nI (row * 8 + i)), .ref k1]) C0 (kX1_quotient l D ((nx * (K (row * 8 + i))) - (fa * (K (col * 8 + i)))) pv _) ⟨va_cnB 2 hts gX0_clearRow_X1_quotient_n51 rfl rfl rfl hN (hts _ (show Cond.initialized RX1 ∈ wsX0_clearRow by decide +kernel)) (by decide +kernel) ⟨Nat.le_of_ble_eq_true rfl, Nat.le_of_ble_eq_true rfl⟩, hts _ (show Cond.static yX1_quotient ∈ wsX0_clearRow by decide +kernel), trivial⟩ hN hK hP hD [] [] rfl rfl (by decide) rfl rfl hl.1 rfl (Nat.le_of_ble_eq_true rfl) dX0_clearRow_80 ⟨Nat.zero_le _, Nat.zero_le _⟩) hP hD hS hA [] [0, 1] rfl rfl (by decide) (by decide) (fun rq u H locs hw hP hD hS => ?_)
      have hw : rq = qt ((nx * (K (row * 8 + i))) - (fa * (K (col * 8 + i)))) (pv) := hw
      subst hw
      have hP : va_P D vwCl [(d1, .inr (0, [.ref k1, .int (nI w), .int (nI t), .long pv])), (k1, .inl (cK, 48, .inr (.inl K)))] H := hP
      have hD : va_D A [(d1, .inr (0, [.ref k1, .int (nI w), .int (nI t), .long pv])), (k1, .inl (cK, 48, .inr (.inl K)))] := hD
      refine gx_last (q := row * 8 + i) hx hb hK hP hD hS 1 0 rfl rfl (rfl) (by omega) (by decide) dX0_clearRow_83 (fun H locs hP hD hS => ?_)
      have hP : va_P D vwCl [(d1, .inr (0, [.ref k1, .int (nI w), .int (nI t), .long pv])), (k1, .inl (cK, 48, .inr (.inl (vp_updL K (row * 8 + i) (qt ((nx * (K (row * 8 + i))) - (fa * (K (col * 8 + i)))) (pv))))))] H := hP
      have hD : va_D A [(d1, .inr (0, [.ref k1, .int (nI w), .int (nI t), .long pv])), (k1, .inl (cK, 48, .inr (.inl (vp_updL K (row * 8 + i) (qt ((nx * (K (row * 8 + i))) - (fa * (K (col * 8 + i)))) (pv))))))] := hD
      refine lv_iinc (v := nI (i + 1)) (lv' := [(9, .int (nI (i + 1))), (10, .long ((nx * (K (row * 8 + i))) - (fa * (K (col * 8 + i))))), (0, .ref d1), (1, .int (nI row)), (2, .int (nI col)), (3, .long nx), (5, .int (nI (row * 8))), (6, .int (nI (col * 8))), (7, .long fa)]) hx hb dX0_clearRow_84 hl (k := 8) rfl ((nI_succ i).symm) (by decide) rfl (fun ls hl => ?_)
      refine lv_goto (tgt := 28) hx hb dX0_clearRow_87 (by decide) ?_
      exact ih (i + 1) _ _ _ _ (by omega) (by rw [hfa]; exact cr_s hrc (by omega) (by omega) hI) (hP.sub [0, 1] rfl) (hD.sub [0, 1] (by decide) rfl) hS (lv_sub hl [2, 3, 4, 5, 6, 7, 8, 0] rfl)
set_option maxHeartbeats 4000000 in
set_option maxRecDepth 100000 in
theorem kX0_clearRow (l : Launch) (D : va_G) (d1 k1 w t row col : Nat) (pv nx : Int64) (cK : ClassId) (K : Nat → Int64) (ht : t ≤ 8) (hr6 : row < 6) (hc6 : col < 6) (hrc : row ≠ col) (hct : col < t) : gx_Mv l D yX0_clearRow wsX0_clearRow rmX0_clearRow [.ref d1, .int (nI row), .int (nI col), .long nx] [(cK, .long)] [(d1, .inr (0, [.ref k1, .int (nI w), .int (nI t), .long pv])), (k1, .inl (cK, 48, .inr (.inl K)))] (S := Nat → Int64) (fun (K1 : Nat → Int64) => cr_I K K1 row col nx pv t) (fun (K1 : Nat → Int64) => [(d1, .inr (0, [.ref k1, .int (nI w), .int (nI t), .long pv])), (k1, .inl (cK, 48, .inr (.inl K1)))]) := by
  intro sz
  refine gx_start (cc := cX0_clearRow) (maxL := 12) (ret := none) (Qc := fun A => va_Qv (fun (K1 : Nat → Int64) => cr_I K K1 row col nx pv t) (gx_B D [(cK, .long)] A (fun (K1 : Nat → Int64) => [(d1, .inr (0, [.ref k1, .int (nI w), .int (nI t), .long pv])), (k1, .inl (cK, 48, .inr (.inl K1)))])) A) (by decide) rfl (Nat.le_of_ble_eq_true rfl) ?_ sz
  intro p e s m below meth c A hbody ls hl
  obtain ⟨C0, hr, hlocks, hN, hK, hP, hD, hA⟩ := hbody
  have C0 : CallFix p m c cX0_clearRow 12 s ([.ref d1, .int (nI row), .int (nI col), .long nx] : List Value).toArray wsX0_clearRow RX0 := C0
  obtain ⟨hx, hb, hml, hown, hts⟩ := id C0
  have hS : va_S A s.heap s.heap [] := va_S.rf
  have hl : lv_has ls 12 [(0, .ref d1), (1, .int (nI row)), (2, .int (nI col)), (3, .long nx)] := hl
  refine lv_iload_n hx hb dX0_clearRow_0 rfl (lv_at hl 1 rfl) ?_
  refine lv_bipush (v := nI 8) hx hb dX0_clearRow_1 (by decide) ?_
  refine lv_imul hx hb dX0_clearRow_3 ?_
  refine gx_i (y := nI (row * 8)) (pk_mul row 8) ?_
  refine lv_istore (lv' := [(5, .int (nI (row * 8))), (0, .ref d1), (1, .int (nI row)), (2, .int (nI col)), (3, .long nx)]) hx hb dX0_clearRow_4 hl (by decide) rfl (fun ls hl => ?_)
  refine lv_iload_n hx hb dX0_clearRow_6 rfl (lv_at hl 3 rfl) ?_
  refine lv_bipush (v := nI 8) hx hb dX0_clearRow_7 (by decide) ?_
  refine lv_imul hx hb dX0_clearRow_9 ?_
  refine gx_i (y := nI (col * 8)) (pk_mul col 8) ?_
  refine lv_istore (lv' := [(6, .int (nI (col * 8))), (5, .int (nI (row * 8))), (0, .ref d1), (1, .int (nI row)), (2, .int (nI col)), (3, .long nx)]) hx hb dX0_clearRow_10 hl (by decide) rfl (fun ls hl => ?_)
  refine lv_aload_n hx hb dX0_clearRow_12 rfl (lv_at hl 2 rfl) ?_
  refine va_get (D := D) (ci := 0) (v := .ref k1) (C := RX0) (T := TX0) (N := 4) hx hb hts iw_X0_clearRow_X0 hown hK hP 0 rfl rfl 0 (by decide) (hts _ kw_X0_clearRow_9) (fun _ h9 => h9) rfl dX0_clearRow_13 ?_
  refine lv_iload hx hb dX0_clearRow_16 (lv_at hl 1 rfl) ?_
  refine lv_iload_n hx hb dX0_clearRow_18 rfl (lv_at hl 4 rfl) ?_
  refine lv_iadd hx hb dX0_clearRow_19 ?_
  refine gx_i (y := nI (row * 8 + col)) (nI_add (row * 8) col) ?_
  refine gx_lald (q := row * 8 + col) hx hb hK hP 1 0 rfl rfl (rfl) (by omega) (by decide) dX0_clearRow_20 ?_
  refine lv_lstore (lv' := [(7, .long (K (row * 8 + col))), (6, .int (nI (col * 8))), (5, .int (nI (row * 8))), (0, .ref d1), (1, .int (nI row)), (2, .int (nI col)), (3, .long nx)]) hx hb dX0_clearRow_21 hl (by decide) rfl (fun ls hl => ?_)
  refine lv_iload_n hx hb dX0_clearRow_23 rfl (lv_at hl 5 rfl) ?_
  refine lv_iconst (v := nI 1) hx hb dX0_clearRow_24 (by decide) ?_
  refine lv_iadd hx hb dX0_clearRow_25 ?_
  refine gx_i (y := nI (col + 1)) (nI_add col 1) ?_
  refine lv_istore (lv' := [(9, .int (nI (col + 1))), (7, .long (K (row * 8 + col))), (6, .int (nI (col * 8))), (5, .int (nI (row * 8))), (0, .ref d1), (1, .int (nI row)), (2, .int (nI col)), (3, .long nx)]) hx hb dX0_clearRow_26 hl (by decide) rfl (fun ls hl => ?_)
  refine lpX0_clearRow (fa := K (row * 8 + col)) C0 hN hA ht hr6 hc6 hrc rfl hK (fun K1 H locs ls hI hP hD hS hl => ?_) (t + 1) (col + 1) K _ _ _ (by omega) (cr_0 K row col nx pv) (hP.sub [0, 1] rfl) (hD.sub [0, 1] (by decide) rfl) hS (lv_sub hl [4, 5, 6, 7, 3, 2, 1, 0] rfl)
  exact gx_retv hx hb hr hlocks K1 (hI) hK (hP.sub [0, 1] rfl) (hD.sub [0, 1] (by decide) rfl) hS dX0_clearRow_90
abbrev rmX0_flowAt : Room := { frames := 0, cells := 0, slots := 0, locals := 0 }
theorem iw_X0_flowAt_X0 : ∀ w ∈ wsX00, w ∈ wsX0_flowAt := by decide +kernel
theorem kw_X0_flowAt_9 : Cond.fieldLink RX0 9 "FluxModes$Reduction" "cells" "[J" ∈ wsX0_flowAt := by decide +kernel
theorem kw_X0_flowAt_15 : Cond.fieldLink RX0 15 "FluxModes$Reduction" "rows" "I" ∈ wsX0_flowAt := by decide +kernel
theorem kw_X0_flowAt_19 : Cond.fieldLink RX0 19 "FluxModes$Reduction" "columns" "I" ∈ wsX0_flowAt := by decide +kernel
theorem kw_X0_flowAt_22 : Cond.fieldLink RX0 22 "FluxModes$Reduction" "pivot" "J" ∈ wsX0_flowAt := by decide +kernel
set_option maxHeartbeats 4000000 in
set_option maxRecDepth 100000 in
theorem kX0_flowAt (l : Launch) (D : va_G) (d1 k1 w t i : Nat) (pv : Int64) (cK : ClassId) (K : Nat → Int64) (hw6 : w ≤ 6) (ht : t ≤ 8) (ht1 : 1 ≤ t) (hi : i < 8) : gx_Ml l D yX0_flowAt wsX0_flowAt rmX0_flowAt [.ref d1, .int (nI i)] [(cK, .long)] [(d1, .inr (0, [.ref k1, .int (nI w), .int (nI t), .long pv])), (k1, .inl (cK, 48, .inr (.inl K)))] (S := Unit) (fun r (_ : Unit) => r = if i < t - 1 ∧ i < w then -K (i * 8 + (t - 1)) else pv) (fun (_ : Unit) => [(d1, .inr (0, [.ref k1, .int (nI w), .int (nI t), .long pv])), (k1, .inl (cK, 48, .inr (.inl K)))]) := by
  intro sz
  refine gx_start (cc := cX0_flowAt) (maxL := 3) (ret := (some .long)) (Qc := fun A => va_Ql (fun r (_ : Unit) => r = if i < t - 1 ∧ i < w then -K (i * 8 + (t - 1)) else pv) (gx_B D [(cK, .long)] A (fun (_ : Unit) => [(d1, .inr (0, [.ref k1, .int (nI w), .int (nI t), .long pv])), (k1, .inl (cK, 48, .inr (.inl K)))])) A) (by decide) rfl (Nat.le_of_ble_eq_true rfl) ?_ sz
  intro p e s m below meth c A hbody ls hl
  obtain ⟨C0, hr, hlocks, hN, hK, hP, hD, hA⟩ := hbody
  have C0 : CallFix p m c cX0_flowAt 3 s ([.ref d1, .int (nI i)] : List Value).toArray wsX0_flowAt RX0 := C0
  obtain ⟨hx, hb, hml, hown, hts⟩ := id C0
  have hS : va_S A s.heap s.heap [] := va_S.rf
  have hl : lv_has ls 3 [(0, .ref d1), (1, .int (nI i))] := hl
  refine lv_aload_n hx hb dX0_flowAt_0 rfl (lv_at hl 0 rfl) ?_
  refine va_get (D := D) (ci := 0) (v := .int (nI t)) (C := RX0) (T := TX0) (N := 4) hx hb hts iw_X0_flowAt_X0 hown hK hP 0 rfl rfl 2 (by decide) (hts _ kw_X0_flowAt_19) (fun _ h9 => h9) rfl dX0_flowAt_1 ?_
  refine lv_iconst (v := nI 1) hx hb dX0_flowAt_4 (by decide) ?_
  refine lv_isub hx hb dX0_flowAt_5 ?_
  refine gx_i (y := nI (t - 1)) (pk_sub (by omega)) ?_
  refine lv_istore_n (lv' := [(2, .int (nI (t - 1))), (0, .ref d1), (1, .int (nI i))]) hx hb dX0_flowAt_6 rfl hl (by decide) rfl (fun ls hl => ?_)
  refine lv_iload_n hx hb dX0_flowAt_7 rfl (lv_at hl 2 rfl) ?_
  refine lv_if_lt (tgt := 24) hx hb dX0_flowAt_8 (by decide) (fun c_8 => ?_) (fun c_8 => ?_)
  · exact absurd c_8 (nI_pos (by omega))
  · refine lv_iload_n hx hb dX0_flowAt_11 rfl (lv_at hl 2 rfl) ?_
    refine lv_iload_n hx hb dX0_flowAt_12 rfl (lv_at hl 0 rfl) ?_
    refine gx_ge (tgt := 24) hx hb dX0_flowAt_13 (by decide) (by omega) (by omega) (fun c_13 => ?_) (fun c_13 => ?_)
    · have hz : ¬ (i < t - 1 ∧ i < w) := by omega
      refine lv_aload_n hx hb dX0_flowAt_24 rfl (lv_at hl 1 rfl) ?_
      refine va_get (D := D) (ci := 0) (v := .long pv) (C := RX0) (T := TX0) (N := 4) hx hb hts iw_X0_flowAt_X0 hown hK hP 0 rfl rfl 3 (by decide) (hts _ kw_X0_flowAt_22) (fun _ h9 => h9) rfl dX0_flowAt_25 ?_
      exact gx_retl hx hb hr hlocks () ((if_neg hz).symm) hK (hP.sub [0, 1] rfl) (hD.sub [0, 1] (by decide) rfl) hS dX0_flowAt_28
    · refine lv_iload_n hx hb dX0_flowAt_16 rfl (lv_at hl 2 rfl) ?_
      refine lv_aload_n hx hb dX0_flowAt_17 rfl (lv_at hl 1 rfl) ?_
      refine va_get (D := D) (ci := 0) (v := .int (nI w)) (C := RX0) (T := TX0) (N := 4) hx hb hts iw_X0_flowAt_X0 hown hK hP 0 rfl rfl 1 (by decide) (hts _ kw_X0_flowAt_15) (fun _ h9 => h9) rfl dX0_flowAt_18 ?_
      refine gx_lt (tgt := 29) hx hb dX0_flowAt_21 (by decide) (by omega) (by omega) (fun c_21 => ?_) (fun c_21 => ?_)
      · have hz : i < t - 1 ∧ i < w := by omega
        refine lv_aload_n hx hb dX0_flowAt_29 rfl (lv_at hl 1 rfl) ?_
        refine va_get (D := D) (ci := 0) (v := .ref k1) (C := RX0) (T := TX0) (N := 4) hx hb hts iw_X0_flowAt_X0 hown hK hP 0 rfl rfl 0 (by decide) (hts _ kw_X0_flowAt_9) (fun _ h9 => h9) rfl dX0_flowAt_30 ?_
        refine lv_iload_n hx hb dX0_flowAt_33 rfl (lv_at hl 2 rfl) ?_
        refine lv_bipush (v := nI 8) hx hb dX0_flowAt_34 (by decide) ?_
        refine lv_imul hx hb dX0_flowAt_36 ?_
        refine gx_i (y := nI (i * 8)) (pk_mul i 8) ?_
        refine lv_iload_n hx hb dX0_flowAt_37 rfl (lv_at hl 0 rfl) ?_
        refine lv_iadd hx hb dX0_flowAt_38 ?_
        refine gx_i (y := nI (i * 8 + (t - 1))) (nI_add (i * 8) (t - 1)) ?_
        refine gx_lald (q := i * 8 + (t - 1)) hx hb hK hP 1 0 rfl rfl (rfl) (by omega) (by decide) dX0_flowAt_39 ?_
        refine lv_lneg hx hb dX0_flowAt_40 ?_
        exact gx_retl hx hb hr hlocks () ((if_pos hz).symm) hK (hP.sub [0, 1] rfl) (hD.sub [0, 1] (by decide) rfl) hS dX0_flowAt_41
      · have hz : ¬ (i < t - 1 ∧ i < w) := by omega
        refine lv_aload_n hx hb dX0_flowAt_24 rfl (lv_at hl 1 rfl) ?_
        refine va_get (D := D) (ci := 0) (v := .long pv) (C := RX0) (T := TX0) (N := 4) hx hb hts iw_X0_flowAt_X0 hown hK hP 0 rfl rfl 3 (by decide) (hts _ kw_X0_flowAt_22) (fun _ h9 => h9) rfl dX0_flowAt_25 ?_
        exact gx_retl hx hb hr hlocks () ((if_neg hz).symm) hK (hP.sub [0, 1] rfl) (hD.sub [0, 1] (by decide) rfl) hS dX0_flowAt_28
abbrev rmX0_clearColumn : Room := { frames := 2, cells := 0, slots := 0, locals := 54 }
theorem iw_X0_clearColumn_X0 : ∀ w ∈ wsX00, w ∈ wsX0_clearColumn := by decide +kernel
theorem kw_X0_clearColumn_15 : Cond.fieldLink RX0 15 "FluxModes$Reduction" "rows" "I" ∈ wsX0_clearColumn := by decide +kernel
theorem kw_X0_clearColumn_9 : Cond.fieldLink RX0 9 "FluxModes$Reduction" "cells" "[J" ∈ wsX0_clearColumn := by decide +kernel
theorem kw_X0_clearColumn_22 : Cond.fieldLink RX0 22 "FluxModes$Reduction" "pivot" "J" ∈ wsX0_clearColumn := by decide +kernel
set_option maxHeartbeats 4000000 in
set_option maxRecDepth 100000 in
theorem lpX0_clearColumn {p : Program} {l : Launch} {e : Env} {s : State} {m : MethodId} {args : Array Value} {below : List Frame} {meth : Method} {c : Code} {Q : State → Prop} {D : va_G} {A : Nat → Prop} {H0 : Heap} (C0 : CallFix p m c cX0_clearColumn 6 s args wsX0_clearColumn RX0) (hN : gx_N s) (hA : ∀ q : Nat, H0.size ≤ q → A q) {d1 k1 w t col f : Nat} {pv nx : Int64} {cK : ClassId} {K1 : Nat → Int64} (hw6 : w ≤ 6) (ht : t ≤ 8) (hcw : col < w) (hct : col < t) (hnx : nx = K1 (col * 8 + col)) (hK : va_K D vwCl [(cK, .long)] s) (kk : ∀ (K : Nat → Int64) (H : Heap) (locs : List Loc) (ls : Array Slot), (cl_I K1 K t col pv w) → va_P D vwCl [(d1, .inr (0, [.ref k1, .int (nI w), .int (nI t), .long pv])), (k1, .inl (cK, 48, .inr (.inl K)))] H → va_D A [(d1, .inr (0, [.ref k1, .int (nI w), .int (nI t), .long pv])), (k1, .inl (cK, 48, .inr (.inl K)))] → va_S A H0 H locs → lv_has ls 6 [(0, .ref d1), (1, .int (nI col)), (2, .int (nI f)), (3, .long nx), (5, .int (nI w))] → W p l e rmX0_clearColumn s m args below meth c H locs 0 0 Q (F0 m 62 ls [])) : ∀ (n_ : Nat) (i : Nat) (K : Nat → Int64) (H : Heap) (locs : List Loc) (ls : Array Slot), (i ≤ w ∧ w < i + n_) → (cl_I K1 K t col pv i) → va_P D vwCl [(d1, .inr (0, [.ref k1, .int (nI w), .int (nI t), .long pv])), (k1, .inl (cK, 48, .inr (.inl K)))] H → va_D A [(d1, .inr (0, [.ref k1, .int (nI w), .int (nI t), .long pv])), (k1, .inl (cK, 48, .inr (.inl K)))] → va_S A H0 H locs → lv_has ls 6 [(0, .ref d1), (1, .int (nI col)), (2, .int (nI f)), (3, .long nx), (5, .int (nI i))] → W p l e rmX0_clearColumn s m args below meth c H locs 0 0 Q (F0 m 33 ls []) := by
  obtain ⟨hx, hb, hml, hown, hts⟩ := id C0
  intro n_
  induction n_ with
  | zero =>
    intro i K H locs ls hm
    exact absurd hm (by omega)
  | succ n_ ih =>
    intro i K H locs ls hm hI hP hD hS hl
    refine lv_iload hx hb dX0_clearColumn_33 (lv_at hl 4 rfl) ?_
    refine lv_aload_n hx hb dX0_clearColumn_35 rfl (lv_at hl 0 rfl) ?_
    refine va_get (D := D) (ci := 0) (v := .int (nI w)) (C := RX0) (T := TX0) (N := 4) hx hb hts iw_X0_clearColumn_X0 hown hK hP 0 rfl rfl 1 (by decide) (hts _ kw_X0_clearColumn_15) (fun _ h9 => h9) rfl dX0_clearColumn_36 ?_
    refine gx_ge (tgt := 62) hx hb dX0_clearColumn_39 (by decide) (by omega) (by omega) (fun c_39 => ?_) (fun c_39 => ?_)
    · have hiw : i = w := by omega
      subst hiw
      exact kk _ _ _ _ hI (hP.sub [0, 1] rfl) (hD.sub [0, 1] (by decide) rfl) hS (lv_sub hl [0, 1, 2, 3, 4] rfl)
    · refine lv_iload hx hb dX0_clearColumn_42 (lv_at hl 4 rfl) ?_
      refine lv_iload_n hx hb dX0_clearColumn_44 rfl (lv_at hl 1 rfl) ?_
      refine gx_eq (tgt := 56) hx hb dX0_clearColumn_45 (by decide) (by omega) (by omega) (fun c_45 => ?_) (fun c_45 => ?_)
      · refine lv_iinc (v := nI (i + 1)) (lv' := [(5, .int (nI (i + 1))), (0, .ref d1), (1, .int (nI col)), (2, .int (nI f)), (3, .long nx)]) hx hb dX0_clearColumn_56 hl (k := 4) rfl ((nI_succ i).symm) (by decide) rfl (fun ls hl => ?_)
        refine lv_goto (tgt := 33) hx hb dX0_clearColumn_59 (by decide) ?_
        exact ih (i + 1) _ _ _ _ (by omega) (by rw [c_45]; rw [c_45] at hI; exact cl_skip hI) (hP.sub [0, 1] rfl) (hD.sub [0, 1] (by decide) rfl) hS (lv_sub hl [1, 2, 3, 4, 0] rfl)
      · refine lv_aload_n hx hb dX0_clearColumn_48 rfl (lv_at hl 0 rfl) ?_
        refine lv_iload hx hb dX0_clearColumn_49 (lv_at hl 4 rfl) ?_
        refine lv_iload_n hx hb dX0_clearColumn_51 rfl (lv_at hl 1 rfl) ?_
        refine lv_lload_n hx hb dX0_clearColumn_52 rfl (lv_at hl 3 rfl) ?_
        refine gx_jv (wr := []) (gx_rV (As := [.int (nI i), .int (nI col), .long nx]) (rest := []) C0 (kX0_clearRow l D d1 k1 w t i col pv nx cK K ht (by omega) (by omega) c_45 hct _) (cwV 3 hts gX0_clearColumn_X0_clearRow rfl rfl rfl (by decide +kernel) ⟨Nat.le_of_ble_eq_true rfl, Nat.le_of_ble_eq_true rfl⟩) hN hK hP hD [0, 1] [0] rfl rfl (by decide) rfl 0 rfl rfl rfl rfl hl.1 rfl (Nat.le_of_ble_eq_true rfl) dX0_clearColumn_53 ⟨Nat.zero_le _, Nat.zero_le _⟩) hP hD hS hA [0, 1] [] rfl rfl (by decide) (by decide) (fun u H locs hw hP hD hS => ?_)
        have hP : va_P D vwCl [(d1, .inr (0, [.ref k1, .int (nI w), .int (nI t), .long pv])), (k1, .inl (cK, 48, .inr (.inl u)))] H := hP
        have hD : va_D A [(d1, .inr (0, [.ref k1, .int (nI w), .int (nI t), .long pv])), (k1, .inl (cK, 48, .inr (.inl u)))] := hD
        refine lv_iinc (v := nI (i + 1)) (lv' := [(5, .int (nI (i + 1))), (0, .ref d1), (1, .int (nI col)), (2, .int (nI f)), (3, .long nx)]) hx hb dX0_clearColumn_56 hl (k := 4) rfl ((nI_succ i).symm) (by decide) rfl (fun ls hl => ?_)
        refine lv_goto (tgt := 33) hx hb dX0_clearColumn_59 (by decide) ?_
        exact ih (i + 1) _ _ _ _ (by omega) (cl_s c_45 ht hct hI (hnx ▸ hw)) (hP.sub [0, 1] rfl) (hD.sub [0, 1] (by decide) rfl) hS (lv_sub hl [1, 2, 3, 4, 0] rfl)
set_option maxHeartbeats 4000000 in
set_option maxRecDepth 100000 in
theorem kX0_clearColumn (l : Launch) (D : va_G) (d1 k1 w t col : Nat) (pv : Int64) (cK : ClassId) (K : Nat → Int64) (hw6 : w ≤ 6) (ht : t ≤ 8) (hcw : col < w) (hct : col < t) : gx_Mi l D yX0_clearColumn wsX0_clearColumn rmX0_clearColumn [.ref d1, .int (nI col)] [(cK, .long)] [(d1, .inr (0, [.ref k1, .int (nI w), .int (nI t), .long pv])), (k1, .inl (cK, 48, .inr (.inl K)))] (S := (Nat → Int64) × Int64) (fun r (u : (Nat → Int64) × Int64) => ∃ b, r = bI b ∧ (b = true → cc_ok w t col pv K u.1 u.2) ∧ (b = false → ∀ j, col ≤ j → j < w → K (j * 8 + col) = 0)) (fun (u : (Nat → Int64) × Int64) => [(d1, .inr (0, [.ref k1, .int (nI w), .int (nI t), .long u.2])), (k1, .inl (cK, 48, .inr (.inl u.1)))]) := by
  intro sz
  refine gx_start (cc := cX0_clearColumn) (maxL := 6) (ret := (some .boolean)) (Qc := fun A => va_Qi (fun r (u : (Nat → Int64) × Int64) => ∃ b, r = bI b ∧ (b = true → cc_ok w t col pv K u.1 u.2) ∧ (b = false → ∀ j, col ≤ j → j < w → K (j * 8 + col) = 0)) (gx_B D [(cK, .long)] A (fun (u : (Nat → Int64) × Int64) => [(d1, .inr (0, [.ref k1, .int (nI w), .int (nI t), .long u.2])), (k1, .inl (cK, 48, .inr (.inl u.1)))])) A) (by decide) rfl (Nat.le_of_ble_eq_true rfl) ?_ sz
  intro p e s m below meth c A hbody ls hl
  obtain ⟨C0, hr, hlocks, hN, hK, hP, hD, hA⟩ := hbody
  have C0 : CallFix p m c cX0_clearColumn 6 s ([.ref d1, .int (nI col)] : List Value).toArray wsX0_clearColumn RX0 := C0
  obtain ⟨hx, hb, hml, hown, hts⟩ := id C0
  have hS : va_S A s.heap s.heap [] := va_S.rf
  have hl : lv_has ls 6 [(0, .ref d1), (1, .int (nI col))] := hl
  refine lv_aload_n hx hb dX0_clearColumn_0 rfl (lv_at hl 0 rfl) ?_
  refine lv_iload_n hx hb dX0_clearColumn_1 rfl (lv_at hl 1 rfl) ?_
  refine gx_ji (wr := []) (gx_rV (As := [.int (nI col)]) (rest := []) C0 (kX0_pivotRow l D d1 k1 w t col pv cK K hw6 (by omega) (by omega) _) (cwV 1 hts gX0_clearColumn_X0_pivotRow rfl rfl rfl (by decide +kernel) ⟨Nat.le_of_ble_eq_true rfl, Nat.le_of_ble_eq_true rfl⟩) hN hK hP hD [0, 1] [0] rfl rfl (by decide) rfl 0 rfl rfl rfl rfl hl.1 rfl (Nat.le_of_ble_eq_true rfl) dX0_clearColumn_2 ⟨Nat.zero_le _, Nat.zero_le _⟩) hP hD hS hA [0, 1] [] rfl rfl (by decide) (by decide) (fun r u H locs hw hP hD hS => ?_)
  have hP : va_P D vwCl [(d1, .inr (0, [.ref k1, .int (nI w), .int (nI t), .long pv])), (k1, .inl (cK, 48, .inr (.inl K)))] H := hP
  have hD : va_D A [(d1, .inr (0, [.ref k1, .int (nI w), .int (nI t), .long pv])), (k1, .inl (cK, 48, .inr (.inl K)))] := hD
  rcases hw with ⟨i, rfl, g1, g2, g3, g4⟩ | ⟨rfl, g1⟩
  · refine lv_istore_n (lv' := [(2, .int (nI i)), (0, .ref d1), (1, .int (nI col))]) hx hb dX0_clearColumn_5 rfl hl (by decide) rfl (fun ls hl => ?_)
    refine lv_iload_n hx hb dX0_clearColumn_6 rfl (lv_at hl 0 rfl) ?_
    refine lv_if_ge (tgt := 12) hx hb dX0_clearColumn_7 (by decide) (fun c_7 => ?_) (fun c_7 => ?_)
    · refine lv_aload_n hx hb dX0_clearColumn_12 rfl (lv_at hl 1 rfl) ?_
      refine lv_iload_n hx hb dX0_clearColumn_13 rfl (lv_at hl 2 rfl) ?_
      refine lv_iload_n hx hb dX0_clearColumn_14 rfl (lv_at hl 0 rfl) ?_
      refine gx_jv (wr := []) (gx_rV (As := [.int (nI col), .int (nI i)]) (rest := []) C0 (kX0_swapRows l D d1 k1 w t col i pv cK K ht (by omega) (by omega) _) (cwV 2 hts gX0_clearColumn_X0_swapRows rfl rfl rfl (by decide +kernel) ⟨Nat.le_of_ble_eq_true rfl, Nat.le_of_ble_eq_true rfl⟩) hN hK hP hD [0, 1] [0] rfl rfl (by decide) rfl 0 rfl rfl rfl rfl hl.1 rfl (Nat.le_of_ble_eq_true rfl) dX0_clearColumn_15 ⟨Nat.zero_le _, Nat.zero_le _⟩) hP hD hS hA [0, 1] [] rfl rfl (by decide) (by decide) (fun u H locs hw hP hD hS => ?_)
      obtain ⟨K1, rfl⟩ : ∃ z, z = u := ⟨_, rfl⟩
      have hw9 : sw_I K K1 col i t := hw
      have hP : va_P D vwCl [(d1, .inr (0, [.ref k1, .int (nI w), .int (nI t), .long pv])), (k1, .inl (cK, 48, .inr (.inl K1)))] H := hP
      have hD : va_D A [(d1, .inr (0, [.ref k1, .int (nI w), .int (nI t), .long pv])), (k1, .inl (cK, 48, .inr (.inl K1)))] := hD
      refine lv_aload_n hx hb dX0_clearColumn_18 rfl (lv_at hl 1 rfl) ?_
      refine va_get (D := D) (ci := 0) (v := .ref k1) (C := RX0) (T := TX0) (N := 4) hx hb hts iw_X0_clearColumn_X0 hown hK hP 0 rfl rfl 0 (by decide) (hts _ kw_X0_clearColumn_9) (fun _ h9 => h9) rfl dX0_clearColumn_19 ?_
      refine lv_iload_n hx hb dX0_clearColumn_22 rfl (lv_at hl 2 rfl) ?_
      refine lv_bipush (v := nI 8) hx hb dX0_clearColumn_23 (by decide) ?_
      refine lv_imul hx hb dX0_clearColumn_25 ?_
      refine gx_i (y := nI (col * 8)) (pk_mul col 8) ?_
      refine lv_iload_n hx hb dX0_clearColumn_26 rfl (lv_at hl 2 rfl) ?_
      refine lv_iadd hx hb dX0_clearColumn_27 ?_
      refine gx_i (y := nI (col * 8 + col)) (nI_add (col * 8) col) ?_
      refine gx_lald (q := col * 8 + col) hx hb hK hP 1 0 rfl rfl (rfl) (by omega) (by decide) dX0_clearColumn_28 ?_
      refine lv_lstore_n (lv' := [(3, .long (K1 (col * 8 + col))), (2, .int (nI i)), (0, .ref d1), (1, .int (nI col))]) hx hb dX0_clearColumn_29 rfl hl (by decide) rfl (fun ls hl => ?_)
      refine lv_iconst (v := nI 0) hx hb dX0_clearColumn_30 (by decide) ?_
      refine lv_istore (lv' := [(5, .int (nI 0)), (3, .long (K1 (col * 8 + col))), (2, .int (nI i)), (0, .ref d1), (1, .int (nI col))]) hx hb dX0_clearColumn_31 hl (by decide) rfl (fun ls hl => ?_)
      refine lpX0_clearColumn (f := i) (nx := K1 (col * 8 + col)) C0 hN hA hw6 ht hcw hct rfl hK (fun K2 H locs ls hI hP hD hS hl => ?_) (w + 1) 0 K1 _ _ _ (by omega) (cl_0 K1 t col pv) (hP.sub [0, 1] rfl) (hD.sub [0, 1] (by decide) rfl) hS (lv_sub hl [3, 4, 2, 1, 0] rfl)
      refine lv_aload_n hx hb dX0_clearColumn_62 rfl (lv_at hl 0 rfl) ?_
      refine lv_lload_n hx hb dX0_clearColumn_63 rfl (lv_at hl 3 rfl) ?_
      refine va_put (D := D) (ci := 0) (v := .long (K1 (col * 8 + col))) (ty := .long) (C := RX0) (T := TX0) (N := 4) hx hb hts iw_X0_clearColumn_X0 tyX0 tyX0_ok nmX0 hown hK hP hD hS 0 rfl rfl 3 (by decide) (hts _ kw_X0_clearColumn_22) (fun _ h9 => h9) rfl (by decide +kernel) rfl rfl (Nat.le_of_ble_eq_true rfl) dX0_clearColumn_64 (fun H locs hP hD hS => ?_)
      have hP : va_P D vwCl [(d1, .inr (0, [.ref k1, .int (nI w), .int (nI t), .long (K1 (col * 8 + col))])), (k1, .inl (cK, 48, .inr (.inl K2)))] H := hP
      have hD : va_D A [(d1, .inr (0, [.ref k1, .int (nI w), .int (nI t), .long (K1 (col * 8 + col))])), (k1, .inl (cK, 48, .inr (.inl K2)))] := hD
      refine lv_iconst (v := nI 1) hx hb dX0_clearColumn_67 (by decide) ?_
      exact gx_retz hx hb hr hlocks true (by decide) (K2, K1 (col * 8 + col)) (⟨true, rfl, fun _ => cc_of ht hct g1 g2 g3 g4 hw9 hI, fun h => absurd h (by decide)⟩) hK (hP.sub [0, 1] rfl) (hD.sub [0, 1] (by decide) rfl) hS dX0_clearColumn_68
    · exact absurd (nI_pos' (by omega)) c_7
  · refine lv_istore_n (lv' := [(2, .int ((-1))), (0, .ref d1), (1, .int (nI col))]) hx hb dX0_clearColumn_5 rfl hl (by decide) rfl (fun ls hl => ?_)
    refine lv_iload_n hx hb dX0_clearColumn_6 rfl (lv_at hl 0 rfl) ?_
    refine lv_if_ge (tgt := 12) hx hb dX0_clearColumn_7 (by decide) (fun c_7 => ?_) (fun c_7 => ?_)
    · exact absurd c_7 (by decide)
    · refine lv_iconst (v := nI 0) hx hb dX0_clearColumn_10 (by decide) ?_
      exact gx_retz hx hb hr hlocks false (by decide) (K, pv) (⟨false, rfl, fun h => absurd h (by decide), fun _ => g1⟩) hK (hP.sub [0, 1] rfl) (hD.sub [0, 1] (by decide) rfl) hS dX0_clearColumn_11
