abbrev rmX2_there : Room := { frames := 0, cells := 0, slots := 0, locals := 0 }
theorem iw_X2_there_X2 : ∀ w ∈ wsX20, w ∈ wsX2_there := by decide +kernel
theorem kw_X2_there_33 : Cond.fieldLink RX2 33 "FluxModesModel" "\x72" "I" ∈ wsX2_there := by decide +kernel
theorem kw_X2_there_37 : Cond.fieldLink RX2 37 "FluxModesModel" "m" "I" ∈ wsX2_there := by decide +kernel
set_option maxHeartbeats 4000000 in
set_option maxRecDepth 100000 in
theorem kX2_there (l : Launch) (D : va_G) (g0 p1 b1 q1 t1 a1 l1 v1 M R n : Nat) (x y : Int32) (hM6 : M ≤ 6) (hR8 : R ≤ 8) : gx_Mi l D yX2_there wsX2_there rmX2_there [.ref g0, .int x, .int y] [] [(g0, .inr (2, [.ref p1, .ref b1, .int (nI M), .int (nI R), .int (nI n), .ref q1, .ref t1, .ref a1, .ref l1, .ref v1]))] (S := Unit) (fun r (_ : Unit) => r = bI (sp_in x M && sp_in y R)) (fun (_ : Unit) => [(g0, .inr (2, [.ref p1, .ref b1, .int (nI M), .int (nI R), .int (nI n), .ref q1, .ref t1, .ref a1, .ref l1, .ref v1]))]) := by
  intro sz
  refine gx_start (cc := cX2_there) (maxL := 3) (ret := (some .boolean)) (Qc := fun A => va_Qi (fun r (_ : Unit) => r = bI (sp_in x M && sp_in y R)) (gx_B D [] A (fun (_ : Unit) => [(g0, .inr (2, [.ref p1, .ref b1, .int (nI M), .int (nI R), .int (nI n), .ref q1, .ref t1, .ref a1, .ref l1, .ref v1]))])) A) (by decide) rfl (Nat.le_of_ble_eq_true rfl) ?_ sz
  intro p e s m below meth c A hbody ls hl
  obtain ⟨C0, hr, hlocks, hN, hK, hP, hD, hA⟩ := hbody
  have C0 : CallFix p m c cX2_there 3 s ([.ref g0, .int x, .int y] : List Value).toArray wsX2_there RX2 := C0
  obtain ⟨hx, hb, hml, hown, hts⟩ := id C0
  have hS : va_S A s.heap s.heap [] := va_S.rf
  have hl : lv_has ls 3 [(0, .ref g0), (1, .int x), (2, .int y)] := hl
  refine lv_iload_n hx hb dX2_there_0 rfl (lv_at hl 1 rfl) ?_
  refine lv_if_lt (tgt := 28) hx hb dX2_there_1 (by decide) (fun c_1 => ?_) (fun c_1 => ?_)
  · have hz : (sp_in x M && sp_in y R) = false := by rw [sp_in_lo (n := M) c_1]; rfl
    refine lv_iconst (v := nI 0) hx hb dX2_there_28 (by decide) ?_
    exact gx_retz hx hb hr hlocks false (by decide) () (by rw [hz]; decide) hK (hP.sub [0] rfl) (hD.sub [0] (by decide) rfl) hS dX2_there_29
  · refine lv_iload_n hx hb dX2_there_4 rfl (lv_at hl 1 rfl) ?_
    refine lv_aload_n hx hb dX2_there_5 rfl (lv_at hl 0 rfl) ?_
    refine va_get (D := D) (ci := 2) (v := .int (nI M)) (C := RX2) (T := TX2) (N := 10) hx hb hts iw_X2_there_X2 hown hK hP 0 rfl rfl 2 (by decide) (hts _ kw_X2_there_37) (fun _ h9 => h9) rfl dX2_there_6 ?_
    refine lv_icmp_ge (tgt := 28) hx hb dX2_there_9 (by decide) (fun c_9 => ?_) (fun c_9 => ?_)
    · have hz : (sp_in x M && sp_in y R) = false := by rw [sp_in_hi (n := M) (by omega) c_9]; rfl
      refine lv_iconst (v := nI 0) hx hb dX2_there_28 (by decide) ?_
      exact gx_retz hx hb hr hlocks false (by decide) () (by rw [hz]; decide) hK (hP.sub [0] rfl) (hD.sub [0] (by decide) rfl) hS dX2_there_29
    · refine lv_iload_n hx hb dX2_there_12 rfl (lv_at hl 2 rfl) ?_
      refine lv_if_lt (tgt := 28) hx hb dX2_there_13 (by decide) (fun c_13 => ?_) (fun c_13 => ?_)
      · have hz : (sp_in x M && sp_in y R) = false := by rw [sp_in_lo (n := R) c_13, Bool.and_false]
        refine lv_iconst (v := nI 0) hx hb dX2_there_28 (by decide) ?_
        exact gx_retz hx hb hr hlocks false (by decide) () (by rw [hz]; decide) hK (hP.sub [0] rfl) (hD.sub [0] (by decide) rfl) hS dX2_there_29
      · refine lv_iload_n hx hb dX2_there_16 rfl (lv_at hl 2 rfl) ?_
        refine lv_aload_n hx hb dX2_there_17 rfl (lv_at hl 0 rfl) ?_
        refine va_get (D := D) (ci := 2) (v := .int (nI R)) (C := RX2) (T := TX2) (N := 10) hx hb hts iw_X2_there_X2 hown hK hP 0 rfl rfl 3 (by decide) (hts _ kw_X2_there_33) (fun _ h9 => h9) rfl dX2_there_18 ?_
        refine lv_icmp_ge (tgt := 28) hx hb dX2_there_21 (by decide) (fun c_21 => ?_) (fun c_21 => ?_)
        · have hz : (sp_in x M && sp_in y R) = false := by rw [sp_in_hi (n := R) (by omega) c_21, Bool.and_false]
          refine lv_iconst (v := nI 0) hx hb dX2_there_28 (by decide) ?_
          exact gx_retz hx hb hr hlocks false (by decide) () (by rw [hz]; decide) hK (hP.sub [0] rfl) (hD.sub [0] (by decide) rfl) hS dX2_there_29
        · have hz : (sp_in x M && sp_in y R) = true := by rw [sp_in_ok (n := M) (by omega) c_1 c_9, sp_in_ok (n := R) (by omega) c_13 c_21]; rfl
          refine lv_iconst (v := nI 1) hx hb dX2_there_24 (by decide) ?_
          refine lv_goto (tgt := 29) hx hb dX2_there_25 (by decide) ?_
          exact gx_retz hx hb hr hlocks true (by decide) () (by rw [hz]; decide) hK (hP.sub [0] rfl) (hD.sub [0] (by decide) rfl) hS dX2_there_29
abbrev rmX2_enter : Room := { frames := 1, cells := 0, slots := 0, locals := 22 }
theorem iw_X2_enter_X2 : ∀ w ∈ wsX20, w ∈ wsX2_enter := by decide +kernel
theorem kw_X2_enter_7 : Cond.fieldLink RX2 7 "FluxModesModel" "net" "[I" ∈ wsX2_enter := by decide +kernel
set_option maxHeartbeats 4000000 in
set_option maxRecDepth 100000 in
theorem kX2_enter (l : Launch) (D : va_G) (g0 p1 b1 q1 t1 a1 l1 v1 M R n : Nat) (x y z : Int32) (dE : ClassId) (E : Nat → Int32) (hM6 : M ≤ 6) (hR8 : R ≤ 8) : gx_Mi l D yX2_enter wsX2_enter rmX2_enter [.ref g0, .int x, .int y, .int z] [(dE, .int)] [(g0, .inr (2, [.ref p1, .ref b1, .int (nI M), .int (nI R), .int (nI n), .ref q1, .ref t1, .ref a1, .ref l1, .ref v1])), (p1, .inl (dE, 48, .inl E))] (S := Nat → Int32) (fun r (u : Nat → Int32) => r = bI (enok x y z M R) ∧ u = if enok x y z M R = true then upd E (ixx x y) z else E) (fun (u : Nat → Int32) => [(g0, .inr (2, [.ref p1, .ref b1, .int (nI M), .int (nI R), .int (nI n), .ref q1, .ref t1, .ref a1, .ref l1, .ref v1])), (p1, .inl (dE, 48, .inl u))]) := by
  intro sz
  refine gx_start (cc := cX2_enter) (maxL := 4) (ret := (some .boolean)) (Qc := fun A => va_Qi (fun r (u : Nat → Int32) => r = bI (enok x y z M R) ∧ u = if enok x y z M R = true then upd E (ixx x y) z else E) (gx_B D [(dE, .int)] A (fun (u : Nat → Int32) => [(g0, .inr (2, [.ref p1, .ref b1, .int (nI M), .int (nI R), .int (nI n), .ref q1, .ref t1, .ref a1, .ref l1, .ref v1])), (p1, .inl (dE, 48, .inl u))])) A) (by decide) rfl (Nat.le_of_ble_eq_true rfl) ?_ sz
  intro p e s m below meth c A hbody ls hl
  obtain ⟨C0, hr, hlocks, hN, hK, hP, hD, hA⟩ := hbody
  have C0 : CallFix p m c cX2_enter 4 s ([.ref g0, .int x, .int y, .int z] : List Value).toArray wsX2_enter RX2 := C0
  obtain ⟨hx, hb, hml, hown, hts⟩ := id C0
  have hS : va_S A s.heap s.heap [] := va_S.rf
  have hl : lv_has ls 4 [(0, .ref g0), (1, .int x), (2, .int y), (3, .int z)] := hl
  refine lv_aload_n hx hb dX2_enter_0 rfl (lv_at hl 0 rfl) ?_
  refine lv_iload_n hx hb dX2_enter_1 rfl (lv_at hl 1 rfl) ?_
  refine lv_iload_n hx hb dX2_enter_2 rfl (lv_at hl 2 rfl) ?_
  refine gx_ji (wr := [(p1, .inl (dE, 48, .inl E))]) (gx_rV (As := [.int x, .int y]) (rest := []) C0 (kX2_there l D g0 p1 b1 q1 t1 a1 l1 v1 M R n x y hM6 hR8 _) (cwV 2 hts gX2_enter_X2_there rfl rfl rfl (by decide +kernel) ⟨Nat.le_of_ble_eq_true rfl, Nat.le_of_ble_eq_true rfl⟩) hN hK hP hD [0] [] rfl rfl (by decide) rfl 0 rfl rfl rfl rfl hl.1 rfl (Nat.le_of_ble_eq_true rfl) dX2_enter_3 ⟨Nat.zero_le _, Nat.zero_le _⟩) hP hD hS hA [0] [1] rfl rfl (by decide) (by decide) (fun r u H locs hw hP hD hS => ?_)
  have hw : r = bI (sp_in x M && sp_in y R) := hw
  subst hw
  have hP : va_P D vwCl [(p1, .inl (dE, 48, .inl E)), (g0, .inr (2, [.ref p1, .ref b1, .int (nI M), .int (nI R), .int (nI n), .ref q1, .ref t1, .ref a1, .ref l1, .ref v1]))] H := hP
  have hD : va_D A [(p1, .inl (dE, 48, .inl E)), (g0, .inr (2, [.ref p1, .ref b1, .int (nI M), .int (nI R), .int (nI n), .ref q1, .ref t1, .ref a1, .ref l1, .ref v1]))] := hD
  refine gx_beq (tgt := 21) hx hb dX2_enter_6 (by decide) (fun c_6 => ?_) (fun c_6 => ?_)
  · have hz : enok x y z M R = false := by unfold enok; rw [c_6]; rfl
    refine lv_iconst (v := nI 0) hx hb dX2_enter_21 (by decide) ?_
    exact gx_retz hx hb hr hlocks false (by decide) E (⟨by rw [hz]; decide, by rw [hz]; rfl⟩) hK (hP.sub [1, 0] rfl) (hD.sub [1, 0] (by decide) rfl) hS dX2_enter_22
  · refine lv_iload_n hx hb dX2_enter_9 rfl (lv_at hl 3 rfl) ?_
    refine lv_bipush (v := (-9)) hx hb dX2_enter_10 (by decide) ?_
    refine lv_icmp_lt (tgt := 21) hx hb dX2_enter_12 (by decide) (fun c_12 => ?_) (fun c_12 => ?_)
    · have hz : enok x y z M R = false := by unfold enok; rw [z9_1 c_12, Bool.and_false]
      refine lv_iconst (v := nI 0) hx hb dX2_enter_21 (by decide) ?_
      exact gx_retz hx hb hr hlocks false (by decide) E (⟨by rw [hz]; decide, by rw [hz]; rfl⟩) hK (hP.sub [1, 0] rfl) (hD.sub [1, 0] (by decide) rfl) hS dX2_enter_22
    · refine lv_iload_n hx hb dX2_enter_15 rfl (lv_at hl 3 rfl) ?_
      refine lv_bipush (v := nI 9) hx hb dX2_enter_16 (by decide) ?_
      refine lv_icmp_le (tgt := 23) hx hb dX2_enter_18 (by decide) (fun c_18 => ?_) (fun c_18 => ?_)
      · have hz : enok x y z M R = true := by unfold enok; rw [c_6, z9_t c_12 c_18]; rfl
        obtain ⟨hi1, hi2, hi3⟩ := ix_ok hM6 hR8 c_6
        refine lv_aload_n hx hb dX2_enter_23 rfl (lv_at hl 0 rfl) ?_
        refine va_get (D := D) (ci := 2) (v := .ref p1) (C := RX2) (T := TX2) (N := 10) hx hb hts iw_X2_enter_X2 hown hK hP 1 rfl rfl 0 (by decide) (hts _ kw_X2_enter_7) (fun _ h9 => h9) rfl dX2_enter_24 ?_
        refine lv_bipush (v := nI 8) hx hb dX2_enter_27 (by decide) ?_
        refine lv_iload_n hx hb dX2_enter_29 rfl (lv_at hl 1 rfl) ?_
        refine lv_imul hx hb dX2_enter_30 ?_
        refine lv_iload_n hx hb dX2_enter_31 rfl (lv_at hl 2 rfl) ?_
        refine lv_iadd hx hb dX2_enter_32 ?_
        refine lv_iload_n hx hb dX2_enter_33 rfl (lv_at hl 3 rfl) ?_
        refine gx_iast (q := ixx x y) hx hb hK hP hD hS 0 0 rfl rfl (hi2) (hi3) (by decide) dX2_enter_34 (fun H locs hP hD hS => ?_)
        have hP : va_P D vwCl [(p1, .inl (dE, 48, .inl (upd E (ixx x y) z))), (g0, .inr (2, [.ref p1, .ref b1, .int (nI M), .int (nI R), .int (nI n), .ref q1, .ref t1, .ref a1, .ref l1, .ref v1]))] H := hP
        have hD : va_D A [(p1, .inl (dE, 48, .inl (upd E (ixx x y) z))), (g0, .inr (2, [.ref p1, .ref b1, .int (nI M), .int (nI R), .int (nI n), .ref q1, .ref t1, .ref a1, .ref l1, .ref v1]))] := hD
        refine lv_iconst (v := nI 1) hx hb dX2_enter_35 (by decide) ?_
        exact gx_retz hx hb hr hlocks true (by decide) (upd E (ixx x y) z) (⟨by rw [hz]; decide, by rw [hz]; rfl⟩) hK (hP.sub [1, 0] rfl) (hD.sub [1, 0] (by decide) rfl) hS dX2_enter_36
      · have hz : enok x y z M R = false := by unfold enok; rw [z9_2 c_18, Bool.and_false]
        refine lv_iconst (v := nI 0) hx hb dX2_enter_21 (by decide) ?_
        exact gx_retz hx hb hr hlocks false (by decide) E (⟨by rw [hz]; decide, by rw [hz]; rfl⟩) hK (hP.sub [1, 0] rfl) (hD.sub [1, 0] (by decide) rfl) hS dX2_enter_22
abbrev rmX2_entry : Room := { frames := 1, cells := 0, slots := 0, locals := 22 }
theorem iw_X2_entry_X2 : ∀ w ∈ wsX20, w ∈ wsX2_entry := by decide +kernel
theorem kw_X2_entry_7 : Cond.fieldLink RX2 7 "FluxModesModel" "net" "[I" ∈ wsX2_entry := by decide +kernel
set_option maxHeartbeats 4000000 in
set_option maxRecDepth 100000 in
theorem kX2_entry (l : Launch) (D : va_G) (g0 p1 b1 q1 t1 a1 l1 v1 M R n : Nat) (x y : Int32) (dE : ClassId) (E : Nat → Int32) (hM6 : M ≤ 6) (hR8 : R ≤ 8) : gx_Mi l D yX2_entry wsX2_entry rmX2_entry [.ref g0, .int x, .int y] [(dE, .int)] [(g0, .inr (2, [.ref p1, .ref b1, .int (nI M), .int (nI R), .int (nI n), .ref q1, .ref t1, .ref a1, .ref l1, .ref v1])), (p1, .inl (dE, 48, .inl E))] (S := Unit) (fun r (_ : Unit) => r = if (sp_in x M && sp_in y R) = true then E (ixx x y) else 0) (fun (_ : Unit) => [(g0, .inr (2, [.ref p1, .ref b1, .int (nI M), .int (nI R), .int (nI n), .ref q1, .ref t1, .ref a1, .ref l1, .ref v1])), (p1, .inl (dE, 48, .inl E))]) := by
  intro sz
  refine gx_start (cc := cX2_entry) (maxL := 3) (ret := (some .int)) (Qc := fun A => va_Qi (fun r (_ : Unit) => r = if (sp_in x M && sp_in y R) = true then E (ixx x y) else 0) (gx_B D [(dE, .int)] A (fun (_ : Unit) => [(g0, .inr (2, [.ref p1, .ref b1, .int (nI M), .int (nI R), .int (nI n), .ref q1, .ref t1, .ref a1, .ref l1, .ref v1])), (p1, .inl (dE, 48, .inl E))])) A) (by decide) rfl (Nat.le_of_ble_eq_true rfl) ?_ sz
  intro p e s m below meth c A hbody ls hl
  obtain ⟨C0, hr, hlocks, hN, hK, hP, hD, hA⟩ := hbody
  have C0 : CallFix p m c cX2_entry 3 s ([.ref g0, .int x, .int y] : List Value).toArray wsX2_entry RX2 := C0
  obtain ⟨hx, hb, hml, hown, hts⟩ := id C0
  have hS : va_S A s.heap s.heap [] := va_S.rf
  have hl : lv_has ls 3 [(0, .ref g0), (1, .int x), (2, .int y)] := hl
  refine lv_aload_n hx hb dX2_entry_0 rfl (lv_at hl 0 rfl) ?_
  refine lv_iload_n hx hb dX2_entry_1 rfl (lv_at hl 1 rfl) ?_
  refine lv_iload_n hx hb dX2_entry_2 rfl (lv_at hl 2 rfl) ?_
  refine gx_ji (wr := [(p1, .inl (dE, 48, .inl E))]) (gx_rV (As := [.int x, .int y]) (rest := []) C0 (kX2_there l D g0 p1 b1 q1 t1 a1 l1 v1 M R n x y hM6 hR8 _) (cwV 2 hts gX2_entry_X2_there rfl rfl rfl (by decide +kernel) ⟨Nat.le_of_ble_eq_true rfl, Nat.le_of_ble_eq_true rfl⟩) hN hK hP hD [0] [] rfl rfl (by decide) rfl 0 rfl rfl rfl rfl hl.1 rfl (Nat.le_of_ble_eq_true rfl) dX2_entry_3 ⟨Nat.zero_le _, Nat.zero_le _⟩) hP hD hS hA [0] [1] rfl rfl (by decide) (by decide) (fun r u H locs hw hP hD hS => ?_)
  have hw : r = bI (sp_in x M && sp_in y R) := hw
  subst hw
  have hP : va_P D vwCl [(p1, .inl (dE, 48, .inl E)), (g0, .inr (2, [.ref p1, .ref b1, .int (nI M), .int (nI R), .int (nI n), .ref q1, .ref t1, .ref a1, .ref l1, .ref v1]))] H := hP
  have hD : va_D A [(p1, .inl (dE, 48, .inl E)), (g0, .inr (2, [.ref p1, .ref b1, .int (nI M), .int (nI R), .int (nI n), .ref q1, .ref t1, .ref a1, .ref l1, .ref v1]))] := hD
  refine gx_beq (tgt := 23) hx hb dX2_entry_6 (by decide) (fun c_6 => ?_) (fun c_6 => ?_)
  · refine lv_iconst (v := 0) hx hb dX2_entry_23 (by decide) ?_
    exact gx_reti hx hb hr hlocks () (by rw [c_6]; rfl) hK (hP.sub [1, 0] rfl) (hD.sub [1, 0] (by decide) rfl) hS dX2_entry_24
  · obtain ⟨hi1, hi2, hi3⟩ := ix_ok hM6 hR8 c_6
    refine lv_aload_n hx hb dX2_entry_9 rfl (lv_at hl 0 rfl) ?_
    refine va_get (D := D) (ci := 2) (v := .ref p1) (C := RX2) (T := TX2) (N := 10) hx hb hts iw_X2_entry_X2 hown hK hP 1 rfl rfl 0 (by decide) (hts _ kw_X2_entry_7) (fun _ h9 => h9) rfl dX2_entry_10 ?_
    refine lv_bipush (v := nI 8) hx hb dX2_entry_13 (by decide) ?_
    refine lv_iload_n hx hb dX2_entry_15 rfl (lv_at hl 1 rfl) ?_
    refine lv_imul hx hb dX2_entry_16 ?_
    refine lv_iload_n hx hb dX2_entry_17 rfl (lv_at hl 2 rfl) ?_
    refine lv_iadd hx hb dX2_entry_18 ?_
    refine gx_iald (q := ixx x y) hx hb hK hP 0 0 rfl rfl (hi2) (hi3) (by decide) dX2_entry_19 ?_
    refine lv_goto (tgt := 24) hx hb dX2_entry_20 (by decide) ?_
    exact gx_reti hx hb hr hlocks () (by rw [c_6]; rfl) hK (hP.sub [1, 0] rfl) (hD.sub [1, 0] (by decide) rfl) hS dX2_entry_24
abbrev rmX2_reversible : Room := { frames := 0, cells := 0, slots := 0, locals := 0 }
theorem iw_X2_reversible_X2 : ∀ w ∈ wsX20, w ∈ wsX2_reversible := by decide +kernel
theorem kw_X2_reversible_13 : Cond.fieldLink RX2 13 "FluxModesModel" "both" "[Z" ∈ wsX2_reversible := by decide +kernel
theorem kw_X2_reversible_33 : Cond.fieldLink RX2 33 "FluxModesModel" "\x72" "I" ∈ wsX2_reversible := by decide +kernel
set_option maxHeartbeats 4000000 in
set_option maxRecDepth 100000 in
theorem kX2_reversible (l : Launch) (D : va_G) (g0 p1 b1 q1 t1 a1 l1 v1 M R n : Nat) (x : Int32) (b : Bool) (dB : ClassId) (Bt : Nat → Int32) (hR8 : R ≤ 8) : gx_Mi l D yX2_reversible wsX2_reversible rmX2_reversible [.ref g0, .int x, .int (bI b)] [(dB, .boolean)] [(g0, .inr (2, [.ref p1, .ref b1, .int (nI M), .int (nI R), .int (nI n), .ref q1, .ref t1, .ref a1, .ref l1, .ref v1])), (b1, .inl (dB, 8, .inl Bt))] (S := Nat → Int32) (fun r (u : Nat → Int32) => r = bI (sp_in x R) ∧ u = if sp_in x R = true then upd Bt x.toNatClampNeg (bI b) else Bt) (fun (u : Nat → Int32) => [(g0, .inr (2, [.ref p1, .ref b1, .int (nI M), .int (nI R), .int (nI n), .ref q1, .ref t1, .ref a1, .ref l1, .ref v1])), (b1, .inl (dB, 8, .inl u))]) := by
  intro sz
  refine gx_start (cc := cX2_reversible) (maxL := 3) (ret := (some .boolean)) (Qc := fun A => va_Qi (fun r (u : Nat → Int32) => r = bI (sp_in x R) ∧ u = if sp_in x R = true then upd Bt x.toNatClampNeg (bI b) else Bt) (gx_B D [(dB, .boolean)] A (fun (u : Nat → Int32) => [(g0, .inr (2, [.ref p1, .ref b1, .int (nI M), .int (nI R), .int (nI n), .ref q1, .ref t1, .ref a1, .ref l1, .ref v1])), (b1, .inl (dB, 8, .inl u))])) A) (by decide) rfl (Nat.le_of_ble_eq_true rfl) ?_ sz
  intro p e s m below meth c A hbody ls hl
  obtain ⟨C0, hr, hlocks, hN, hK, hP, hD, hA⟩ := hbody
  have C0 : CallFix p m c cX2_reversible 3 s ([.ref g0, .int x, .int (bI b)] : List Value).toArray wsX2_reversible RX2 := C0
  obtain ⟨hx, hb, hml, hown, hts⟩ := id C0
  have hS : va_S A s.heap s.heap [] := va_S.rf
  have hl : lv_has ls 3 [(0, .ref g0), (1, .int x), (2, .int (bI b))] := hl
  refine lv_iload_n hx hb dX2_reversible_0 rfl (lv_at hl 1 rfl) ?_
  refine lv_if_lt (tgt := 12) hx hb dX2_reversible_1 (by decide) (fun c_1 => ?_) (fun c_1 => ?_)
  · have hz := sp_in_lo (n := R) c_1
    refine lv_iconst (v := nI 0) hx hb dX2_reversible_12 (by decide) ?_
    exact gx_retz hx hb hr hlocks false (by decide) Bt (⟨by rw [hz]; decide, by rw [hz]; rfl⟩) hK (hP.sub [0, 1] rfl) (hD.sub [0, 1] (by decide) rfl) hS dX2_reversible_13
  · refine lv_iload_n hx hb dX2_reversible_4 rfl (lv_at hl 1 rfl) ?_
    refine lv_aload_n hx hb dX2_reversible_5 rfl (lv_at hl 0 rfl) ?_
    refine va_get (D := D) (ci := 2) (v := .int (nI R)) (C := RX2) (T := TX2) (N := 10) hx hb hts iw_X2_reversible_X2 hown hK hP 0 rfl rfl 3 (by decide) (hts _ kw_X2_reversible_33) (fun _ h9 => h9) rfl dX2_reversible_6 ?_
    refine lv_icmp_lt (tgt := 14) hx hb dX2_reversible_9 (by decide) (fun c_9 => ?_) (fun c_9 => ?_)
    · have hz := sp_in_ok' (n := R) (by omega) c_1 c_9
      obtain ⟨hi3, hi1⟩ := sp_in_clamp (by omega) hz
      refine lv_aload_n hx hb dX2_reversible_14 rfl (lv_at hl 0 rfl) ?_
      refine va_get (D := D) (ci := 2) (v := .ref b1) (C := RX2) (T := TX2) (N := 10) hx hb hts iw_X2_reversible_X2 hown hK hP 0 rfl rfl 1 (by decide) (hts _ kw_X2_reversible_13) (fun _ h9 => h9) rfl dX2_reversible_15 ?_
      refine lv_iload_n hx hb dX2_reversible_18 rfl (lv_at hl 1 rfl) ?_
      refine lv_iload_n hx hb dX2_reversible_19 rfl (lv_at hl 2 rfl) ?_
      refine gx_zast (q := x.toNatClampNeg) hx hb hK hP hD hS 1 0 rfl rfl (hi1) (by omega) (by decide) dX2_reversible_20 (fun H locs hP hD hS => ?_)
      have hP : va_P D vwCl [(g0, .inr (2, [.ref p1, .ref b1, .int (nI M), .int (nI R), .int (nI n), .ref q1, .ref t1, .ref a1, .ref l1, .ref v1])), (b1, .inl (dB, 8, .inl (upd Bt x.toNatClampNeg (bI b))))] H := hP
      have hD : va_D A [(g0, .inr (2, [.ref p1, .ref b1, .int (nI M), .int (nI R), .int (nI n), .ref q1, .ref t1, .ref a1, .ref l1, .ref v1])), (b1, .inl (dB, 8, .inl (upd Bt x.toNatClampNeg (bI b))))] := hD
      refine lv_iconst (v := nI 1) hx hb dX2_reversible_21 (by decide) ?_
      exact gx_retz hx hb hr hlocks true (by decide) (upd Bt x.toNatClampNeg (bI b)) (⟨by rw [hz]; decide, by rw [hz]; rfl⟩) hK (hP.sub [0, 1] rfl) (hD.sub [0, 1] (by decide) rfl) hS dX2_reversible_22
    · have hz := sp_in_hi' (n := R) (by omega) c_9
      refine lv_iconst (v := nI 0) hx hb dX2_reversible_12 (by decide) ?_
      exact gx_retz hx hb hr hlocks false (by decide) Bt (⟨by rw [hz]; decide, by rw [hz]; rfl⟩) hK (hP.sub [0, 1] rfl) (hD.sub [0, 1] (by decide) rfl) hS dX2_reversible_13
abbrev rmX2_reversibles : Room := { frames := 0, cells := 0, slots := 0, locals := 0 }
theorem iw_X2_reversibles_X2 : ∀ w ∈ wsX20, w ∈ wsX2_reversibles := by decide +kernel
theorem kw_X2_reversibles_13 : Cond.fieldLink RX2 13 "FluxModesModel" "both" "[Z" ∈ wsX2_reversibles := by decide +kernel
set_option maxHeartbeats 4000000 in
set_option maxRecDepth 100000 in
theorem lpX2_reversibles {p : Program} {l : Launch} {e : Env} {s : State} {m : MethodId} {args : Array Value} {below : List Frame} {meth : Method} {c : Code} {Q : State → Prop} {D : va_G} {A : Nat → Prop} {H0 : Heap} (C0 : CallFix p m c cX2_reversibles 3 s args wsX2_reversibles RX2) (hN : gx_N s) (hA : ∀ q : Nat, H0.size ≤ q → A q) {g0 p1 b1 q1 t1 a1 l1 v1 M R n V : Nat} {dB : ClassId} {Bt : Nat → Int32} (hV : V < 256) (hB : bts Bt V) (hK : va_K D vwCl [(dB, .boolean)] s) (kk : ∀ (H : Heap) (locs : List Loc) (ls : Array Slot), va_P D vwCl [(g0, .inr (2, [.ref p1, .ref b1, .int (nI M), .int (nI R), .int (nI n), .ref q1, .ref t1, .ref a1, .ref l1, .ref v1])), (b1, .inl (dB, 8, .inl Bt))] H → va_D A [(g0, .inr (2, [.ref p1, .ref b1, .int (nI M), .int (nI R), .int (nI n), .ref q1, .ref t1, .ref a1, .ref l1, .ref v1])), (b1, .inl (dB, 8, .inl Bt))] → va_S A H0 H locs → lv_has ls 3 [(0, .ref g0), (1, .int (nI V)), (2, .int (nI 8))] → W p l e rmX2_reversibles s m args below meth c H locs 0 0 Q (F0 m 31 ls [])) : ∀ (n_ : Nat) (j a : Nat) (H : Heap) (locs : List Loc) (ls : Array Slot), (j ≤ 8 ∧ 8 < j + n_) → (a = V % 2 ^ j) → va_P D vwCl [(g0, .inr (2, [.ref p1, .ref b1, .int (nI M), .int (nI R), .int (nI n), .ref q1, .ref t1, .ref a1, .ref l1, .ref v1])), (b1, .inl (dB, 8, .inl Bt))] H → va_D A [(g0, .inr (2, [.ref p1, .ref b1, .int (nI M), .int (nI R), .int (nI n), .ref q1, .ref t1, .ref a1, .ref l1, .ref v1])), (b1, .inl (dB, 8, .inl Bt))] → va_S A H0 H locs → lv_has ls 3 [(0, .ref g0), (1, .int (nI a)), (2, .int (nI j))] → W p l e rmX2_reversibles s m args below meth c H locs 0 0 Q (F0 m 4 ls []) := by
  obtain ⟨hx, hb, hml, hown, hts⟩ := id C0
  intro n_
  induction n_ with
  | zero =>
    intro j a H locs ls hm
    exact absurd hm (by omega)
  | succ n_ ih =>
    intro j a H locs ls hm hI hP hD hS hl
    refine lv_iload_n hx hb dX2_reversibles_4 rfl (lv_at hl 2 rfl) ?_
    refine lv_bipush (v := nI 8) hx hb dX2_reversibles_5 (by decide) ?_
    refine gx_ge (tgt := 31) hx hb dX2_reversibles_7 (by decide) (by omega) (by omega) (fun c_7 => ?_) (fun c_7 => ?_)
    · have hj8 : j = 8 := by omega
      subst hj8
      have hav : a = V := by rw [hI]; exact Nat.mod_eq_of_lt hV
      subst hav
      exact kk _ _ _ (hP.sub [0, 1] rfl) (hD.sub [0, 1] (by decide) rfl) hS (lv_sub hl [0, 1, 2] rfl)
    · refine lv_aload_n hx hb dX2_reversibles_10 rfl (lv_at hl 0 rfl) ?_
      refine va_get (D := D) (ci := 2) (v := .ref b1) (C := RX2) (T := TX2) (N := 10) hx hb hts iw_X2_reversibles_X2 hown hK hP 0 rfl rfl 1 (by decide) (hts _ kw_X2_reversibles_13) (fun _ h9 => h9) rfl dX2_reversibles_11 ?_
      refine lv_iload_n hx hb dX2_reversibles_14 rfl (lv_at hl 2 rfl) ?_
      refine gx_zald (q := j) hx hb hK hP 1 0 rfl rfl (rfl) (by omega) (by decide) dX2_reversibles_15 ?_
      refine gx_i (y := bI (V.testBit j)) (hB j (by omega)) ?_
      refine gx_beq (tgt := 25) hx hb dX2_reversibles_16 (by decide) (fun c_16 => ?_) (fun c_16 => ?_)
      · refine lv_iinc (v := nI (j + 1)) (lv' := [(2, .int (nI (j + 1))), (0, .ref g0), (1, .int (nI a))]) hx hb dX2_reversibles_25 hl (k := 2) rfl ((nI_succ j).symm) (by decide) rfl (fun ls hl => ?_)
        refine lv_goto (tgt := 4) hx hb dX2_reversibles_28 (by decide) ?_
        exact ih (j + 1) a _ _ _ (by omega) (rv_mod_f hV (by omega) c_16 hI) (hP.sub [0, 1] rfl) (hD.sub [0, 1] (by decide) rfl) hS (lv_sub hl [1, 2, 0] rfl)
      · refine lv_iload_n hx hb dX2_reversibles_19 rfl (lv_at hl 1 rfl) ?_
        refine lv_iconst (v := nI 1) hx hb dX2_reversibles_20 (by decide) ?_
        refine lv_iload_n hx hb dX2_reversibles_21 rfl (lv_at hl 2 rfl) ?_
        refine lv_ishl hx hb dX2_reversibles_22 ?_
        refine gx_i (y := nI (2 ^ j)) (nx_shl1 j (by omega)) ?_
        refine lv_iadd hx hb dX2_reversibles_23 ?_
        refine gx_i (y := nI (a + 2 ^ j)) (nI_add _ _) ?_
        refine lv_istore_n (lv' := [(1, .int (nI (a + 2 ^ j))), (0, .ref g0), (2, .int (nI j))]) hx hb dX2_reversibles_24 rfl hl (by decide) rfl (fun ls hl => ?_)
        refine lv_iinc (v := nI (j + 1)) (lv' := [(2, .int (nI (j + 1))), (1, .int (nI (a + 2 ^ j))), (0, .ref g0)]) hx hb dX2_reversibles_25 hl (k := 2) rfl ((nI_succ j).symm) (by decide) rfl (fun ls hl => ?_)
        refine lv_goto (tgt := 4) hx hb dX2_reversibles_28 (by decide) ?_
        exact ih (j + 1) (a + 2 ^ j) _ _ _ (by omega) (rv_mod_t hV (by omega) c_16 hI) (hP.sub [0, 1] rfl) (hD.sub [0, 1] (by decide) rfl) hS (lv_sub hl [2, 1, 0] rfl)
set_option maxHeartbeats 4000000 in
set_option maxRecDepth 100000 in
theorem kX2_reversibles (l : Launch) (D : va_G) (g0 p1 b1 q1 t1 a1 l1 v1 M R n : Nat) (V : Nat) (dB : ClassId) (Bt : Nat → Int32) (hV : V < 256) (hB : bts Bt V) : gx_Mi l D yX2_reversibles wsX2_reversibles rmX2_reversibles [.ref g0] [(dB, .boolean)] [(g0, .inr (2, [.ref p1, .ref b1, .int (nI M), .int (nI R), .int (nI n), .ref q1, .ref t1, .ref a1, .ref l1, .ref v1])), (b1, .inl (dB, 8, .inl Bt))] (S := Unit) (fun r (_ : Unit) => r = nI V) (fun (_ : Unit) => [(g0, .inr (2, [.ref p1, .ref b1, .int (nI M), .int (nI R), .int (nI n), .ref q1, .ref t1, .ref a1, .ref l1, .ref v1])), (b1, .inl (dB, 8, .inl Bt))]) := by
  intro sz
  refine gx_start (cc := cX2_reversibles) (maxL := 3) (ret := (some .int)) (Qc := fun A => va_Qi (fun r (_ : Unit) => r = nI V) (gx_B D [(dB, .boolean)] A (fun (_ : Unit) => [(g0, .inr (2, [.ref p1, .ref b1, .int (nI M), .int (nI R), .int (nI n), .ref q1, .ref t1, .ref a1, .ref l1, .ref v1])), (b1, .inl (dB, 8, .inl Bt))])) A) (by decide) rfl (Nat.le_of_ble_eq_true rfl) ?_ sz
  intro p e s m below meth c A hbody ls hl
  obtain ⟨C0, hr, hlocks, hN, hK, hP, hD, hA⟩ := hbody
  have C0 : CallFix p m c cX2_reversibles 3 s ([.ref g0] : List Value).toArray wsX2_reversibles RX2 := C0
  obtain ⟨hx, hb, hml, hown, hts⟩ := id C0
  have hS : va_S A s.heap s.heap [] := va_S.rf
  have hl : lv_has ls 3 [(0, .ref g0)] := hl
  refine lv_iconst (v := nI 0) hx hb dX2_reversibles_0 (by decide) ?_
  refine lv_istore_n (lv' := [(1, .int (nI 0)), (0, .ref g0)]) hx hb dX2_reversibles_1 rfl hl (by decide) rfl (fun ls hl => ?_)
  refine lv_iconst (v := nI 0) hx hb dX2_reversibles_2 (by decide) ?_
  refine lv_istore_n (lv' := [(2, .int (nI 0)), (1, .int (nI 0)), (0, .ref g0)]) hx hb dX2_reversibles_3 rfl hl (by decide) rfl (fun ls hl => ?_)
  refine lpX2_reversibles (V := V) C0 hN hA hV hB hK (fun H locs ls hP hD hS hl => ?_) 9 0 0 _ _ _ (by omega) (Nat.mod_one V).symm (hP.sub [0, 1] rfl) (hD.sub [0, 1] (by decide) rfl) hS (lv_sub hl [2, 1, 0] rfl)
  refine lv_iload_n hx hb dX2_reversibles_31 rfl (lv_at hl 1 rfl) ?_
  exact gx_reti hx hb hr hlocks () (rfl) hK (hP.sub [0, 1] rfl) (hD.sub [0, 1] (by decide) rfl) hS dX2_reversibles_32
abbrev rmX2_size : Room := { frames := 0, cells := 0, slots := 0, locals := 0 }
theorem iw_X2_size_X2 : ∀ w ∈ wsX20, w ∈ wsX2_size := by decide +kernel
theorem kw_X2_size_7 : Cond.fieldLink RX2 7 "FluxModesModel" "net" "[I" ∈ wsX2_size := by decide +kernel
theorem kw_X2_size_13 : Cond.fieldLink RX2 13 "FluxModesModel" "both" "[Z" ∈ wsX2_size := by decide +kernel
theorem kw_X2_size_33 : Cond.fieldLink RX2 33 "FluxModesModel" "\x72" "I" ∈ wsX2_size := by decide +kernel
theorem kw_X2_size_37 : Cond.fieldLink RX2 37 "FluxModesModel" "m" "I" ∈ wsX2_size := by decide +kernel
theorem kw_X2_size_40 : Cond.fieldLink RX2 40 "FluxModesModel" "listed" "I" ∈ wsX2_size := by decide +kernel
set_option maxHeartbeats 4000000 in
set_option maxRecDepth 100000 in
theorem lpX2_size1 {p : Program} {l : Launch} {e : Env} {s : State} {m : MethodId} {args : Array Value} {below : List Frame} {meth : Method} {c : Code} {Q : State → Prop} {D : va_G} {A : Nat → Prop} {H0 : Heap} (C0 : CallFix p m c cX2_size 4 s args wsX2_size RX2) (hN : gx_N s) (hA : ∀ q : Nat, H0.size ≤ q → A q) {g0 p1 b1 q1 t1 a1 l1 v1 a b n : Nat} {dE dB : ClassId} {Bt : Nat → Int32}  (hK : va_K D vwCl [(dE, .int), (dB, .boolean)] s) (kk : ∀ (E : Nat → Int32) (H : Heap) (locs : List Loc) (ls : Array Slot), (∀ q, q < 48 → E q = nI 0) → va_P D vwCl [(g0, .inr (2, [.ref p1, .ref b1, .int (nI a), .int (nI b), .int (nI n), .ref q1, .ref t1, .ref a1, .ref l1, .ref v1])), (p1, .inl (dE, 48, .inl E)), (b1, .inl (dB, 8, .inl Bt))] H → va_D A [(g0, .inr (2, [.ref p1, .ref b1, .int (nI a), .int (nI b), .int (nI n), .ref q1, .ref t1, .ref a1, .ref l1, .ref v1])), (p1, .inl (dE, 48, .inl E)), (b1, .inl (dB, 8, .inl Bt))] → va_S A H0 H locs → lv_has ls 4 [(0, .ref g0), (1, .int (nI a)), (2, .int (nI b)), (3, .int (nI 48))] → W p l e rmX2_size s m args below meth c H locs 0 0 Q (F0 m 54 ls [])) : ∀ (n_ : Nat) (i : Nat) (E : Nat → Int32) (H : Heap) (locs : List Loc) (ls : Array Slot), (i ≤ 48 ∧ 48 < i + n_) → (∀ q, q < i → E q = nI 0) → va_P D vwCl [(g0, .inr (2, [.ref p1, .ref b1, .int (nI a), .int (nI b), .int (nI n), .ref q1, .ref t1, .ref a1, .ref l1, .ref v1])), (p1, .inl (dE, 48, .inl E)), (b1, .inl (dB, 8, .inl Bt))] H → va_D A [(g0, .inr (2, [.ref p1, .ref b1, .int (nI a), .int (nI b), .int (nI n), .ref q1, .ref t1, .ref a1, .ref l1, .ref v1])), (p1, .inl (dE, 48, .inl E)), (b1, .inl (dB, 8, .inl Bt))] → va_S A H0 H locs → lv_has ls 4 [(0, .ref g0), (1, .int (nI a)), (2, .int (nI b)), (3, .int (nI i))] → W p l e rmX2_size s m args below meth c H locs 0 0 Q (F0 m 35 ls []) := by
  obtain ⟨hx, hb, hml, hown, hts⟩ := id C0
  intro n_
  induction n_ with
  | zero =>
    intro i E H locs ls hm
    exact absurd hm (by omega)
  | succ n_ ih =>
    intro i E H locs ls hm hI hP hD hS hl
    refine lv_iload_n hx hb dX2_size_35 rfl (lv_at hl 3 rfl) ?_
    refine lv_bipush (v := nI 48) hx hb dX2_size_36 (by decide) ?_
    refine gx_ge (tgt := 54) hx hb dX2_size_38 (by decide) (by omega) (by omega) (fun c_38 => ?_) (fun c_38 => ?_)
    · have hi8 : i = 48 := by omega
      subst hi8
      exact kk _ _ _ _ hI (hP.sub [0, 1, 2] rfl) (hD.sub [0, 1, 2] (by decide) rfl) hS (lv_sub hl [0, 1, 2, 3] rfl)
    · refine lv_aload_n hx hb dX2_size_41 rfl (lv_at hl 0 rfl) ?_
      refine va_get (D := D) (ci := 2) (v := .ref p1) (C := RX2) (T := TX2) (N := 10) hx hb hts iw_X2_size_X2 hown hK hP 0 rfl rfl 0 (by decide) (hts _ kw_X2_size_7) (fun _ h9 => h9) rfl dX2_size_42 ?_
      refine lv_iload_n hx hb dX2_size_45 rfl (lv_at hl 3 rfl) ?_
      refine lv_iconst (v := nI 0) hx hb dX2_size_46 (by decide) ?_
      refine gx_iast (q := i) hx hb hK hP hD hS 1 0 rfl rfl (rfl) (by omega) (by decide) dX2_size_47 (fun H locs hP hD hS => ?_)
      have hP : va_P D vwCl [(g0, .inr (2, [.ref p1, .ref b1, .int (nI a), .int (nI b), .int (nI n), .ref q1, .ref t1, .ref a1, .ref l1, .ref v1])), (p1, .inl (dE, 48, .inl (upd E i (nI 0)))), (b1, .inl (dB, 8, .inl Bt))] H := hP
      have hD : va_D A [(g0, .inr (2, [.ref p1, .ref b1, .int (nI a), .int (nI b), .int (nI n), .ref q1, .ref t1, .ref a1, .ref l1, .ref v1])), (p1, .inl (dE, 48, .inl (upd E i (nI 0)))), (b1, .inl (dB, 8, .inl Bt))] := hD
      refine lv_iinc (v := nI (i + 1)) (lv' := [(3, .int (nI (i + 1))), (0, .ref g0), (1, .int (nI a)), (2, .int (nI b))]) hx hb dX2_size_48 hl (k := 3) rfl ((nI_succ i).symm) (by decide) rfl (fun ls hl => ?_)
      refine lv_goto (tgt := 35) hx hb dX2_size_51 (by decide) ?_
      exact ih (i + 1) _ _ _ _ (by omega) (fz_s hI) (hP.sub [0, 1, 2] rfl) (hD.sub [0, 1, 2] (by decide) rfl) hS (lv_sub hl [1, 2, 3, 0] rfl)
set_option maxHeartbeats 4000000 in
set_option maxRecDepth 100000 in
theorem lpX2_size2 {p : Program} {l : Launch} {e : Env} {s : State} {m : MethodId} {args : Array Value} {below : List Frame} {meth : Method} {c : Code} {Q : State → Prop} {D : va_G} {A : Nat → Prop} {H0 : Heap} (C0 : CallFix p m c cX2_size 4 s args wsX2_size RX2) (hN : gx_N s) (hA : ∀ q : Nat, H0.size ≤ q → A q) {g0 p1 b1 q1 t1 a1 l1 v1 a b n : Nat} {dE dB : ClassId} {E : Nat → Int32}  (hK : va_K D vwCl [(dE, .int), (dB, .boolean)] s) (kk : ∀ (Bt : Nat → Int32) (H : Heap) (locs : List Loc) (ls : Array Slot), (∀ q, q < 8 → Bt q = bI false) → va_P D vwCl [(g0, .inr (2, [.ref p1, .ref b1, .int (nI a), .int (nI b), .int (nI n), .ref q1, .ref t1, .ref a1, .ref l1, .ref v1])), (p1, .inl (dE, 48, .inl E)), (b1, .inl (dB, 8, .inl Bt))] H → va_D A [(g0, .inr (2, [.ref p1, .ref b1, .int (nI a), .int (nI b), .int (nI n), .ref q1, .ref t1, .ref a1, .ref l1, .ref v1])), (p1, .inl (dE, 48, .inl E)), (b1, .inl (dB, 8, .inl Bt))] → va_S A H0 H locs → lv_has ls 4 [(0, .ref g0), (1, .int (nI a)), (2, .int (nI b)), (3, .int (nI 8))] → W p l e rmX2_size s m args below meth c H locs 0 0 Q (F0 m 75 ls [])) : ∀ (n_ : Nat) (i : Nat) (Bt : Nat → Int32) (H : Heap) (locs : List Loc) (ls : Array Slot), (i ≤ 8 ∧ 8 < i + n_) → (∀ q, q < i → Bt q = bI false) → va_P D vwCl [(g0, .inr (2, [.ref p1, .ref b1, .int (nI a), .int (nI b), .int (nI n), .ref q1, .ref t1, .ref a1, .ref l1, .ref v1])), (p1, .inl (dE, 48, .inl E)), (b1, .inl (dB, 8, .inl Bt))] H → va_D A [(g0, .inr (2, [.ref p1, .ref b1, .int (nI a), .int (nI b), .int (nI n), .ref q1, .ref t1, .ref a1, .ref l1, .ref v1])), (p1, .inl (dE, 48, .inl E)), (b1, .inl (dB, 8, .inl Bt))] → va_S A H0 H locs → lv_has ls 4 [(0, .ref g0), (1, .int (nI a)), (2, .int (nI b)), (3, .int (nI i))] → W p l e rmX2_size s m args below meth c H locs 0 0 Q (F0 m 56 ls []) := by
  obtain ⟨hx, hb, hml, hown, hts⟩ := id C0
  intro n_
  induction n_ with
  | zero =>
    intro i Bt H locs ls hm
    exact absurd hm (by omega)
  | succ n_ ih =>
    intro i Bt H locs ls hm hI hP hD hS hl
    refine lv_iload_n hx hb dX2_size_56 rfl (lv_at hl 3 rfl) ?_
    refine lv_bipush (v := nI 8) hx hb dX2_size_57 (by decide) ?_
    refine gx_ge (tgt := 75) hx hb dX2_size_59 (by decide) (by omega) (by omega) (fun c_59 => ?_) (fun c_59 => ?_)
    · have hi8 : i = 8 := by omega
      subst hi8
      exact kk _ _ _ _ hI (hP.sub [0, 1, 2] rfl) (hD.sub [0, 1, 2] (by decide) rfl) hS (lv_sub hl [0, 1, 2, 3] rfl)
    · refine lv_aload_n hx hb dX2_size_62 rfl (lv_at hl 0 rfl) ?_
      refine va_get (D := D) (ci := 2) (v := .ref b1) (C := RX2) (T := TX2) (N := 10) hx hb hts iw_X2_size_X2 hown hK hP 0 rfl rfl 1 (by decide) (hts _ kw_X2_size_13) (fun _ h9 => h9) rfl dX2_size_63 ?_
      refine lv_iload_n hx hb dX2_size_66 rfl (lv_at hl 3 rfl) ?_
      refine lv_iconst (v := bI false) hx hb dX2_size_67 (by decide) ?_
      refine gx_zast (q := i) hx hb hK hP hD hS 2 1 rfl rfl (rfl) (by omega) (by decide) dX2_size_68 (fun H locs hP hD hS => ?_)
      have hP : va_P D vwCl [(g0, .inr (2, [.ref p1, .ref b1, .int (nI a), .int (nI b), .int (nI n), .ref q1, .ref t1, .ref a1, .ref l1, .ref v1])), (p1, .inl (dE, 48, .inl E)), (b1, .inl (dB, 8, .inl (upd Bt i (bI false))))] H := hP
      have hD : va_D A [(g0, .inr (2, [.ref p1, .ref b1, .int (nI a), .int (nI b), .int (nI n), .ref q1, .ref t1, .ref a1, .ref l1, .ref v1])), (p1, .inl (dE, 48, .inl E)), (b1, .inl (dB, 8, .inl (upd Bt i (bI false))))] := hD
      refine lv_iinc (v := nI (i + 1)) (lv' := [(3, .int (nI (i + 1))), (0, .ref g0), (1, .int (nI a)), (2, .int (nI b))]) hx hb dX2_size_69 hl (k := 3) rfl ((nI_succ i).symm) (by decide) rfl (fun ls hl => ?_)
      refine lv_goto (tgt := 56) hx hb dX2_size_72 (by decide) ?_
      exact ih (i + 1) _ _ _ _ (by omega) (fz_s hI) (hP.sub [0, 1, 2] rfl) (hD.sub [0, 1, 2] (by decide) rfl) hS (lv_sub hl [1, 2, 3, 0] rfl)
set_option maxHeartbeats 4000000 in
set_option maxRecDepth 100000 in
theorem kX2_size (l : Launch) (D : va_G) (g0 p1 b1 q1 t1 a1 l1 v1 M R n : Nat) (x y : Int32) (dE dB : ClassId) (E Bt : Nat → Int32)  : gx_Mi l D yX2_size wsX2_size rmX2_size [.ref g0, .int x, .int y] [(dE, .int), (dB, .boolean)] [(g0, .inr (2, [.ref p1, .ref b1, .int (nI M), .int (nI R), .int (nI n), .ref q1, .ref t1, .ref a1, .ref l1, .ref v1])), (p1, .inl (dE, 48, .inl E)), (b1, .inl (dB, 8, .inl Bt))] (S := Nat × Nat × Nat × (Nat → Int32) × (Nat → Int32)) (fun r (u : Nat × Nat × Nat × (Nat → Int32) × (Nat → Int32)) => r = bI (szok x y) ∧ (szok x y = true → x = nI u.1 ∧ y = nI u.2.1 ∧ u.1 ≤ 6 ∧ 1 ≤ u.2.1 ∧ u.2.1 ≤ 8 ∧ u.2.2.1 = 0 ∧ (∀ q, q < 48 → u.2.2.2.1 q = nI 0) ∧ ∀ q, q < 8 → u.2.2.2.2 q = bI false) ∧ (szok x y = false → u.1 = M ∧ u.2.1 = R ∧ u.2.2.1 = n ∧ u.2.2.2.1 = E ∧ u.2.2.2.2 = Bt)) (fun (u : Nat × Nat × Nat × (Nat → Int32) × (Nat → Int32)) => [(g0, .inr (2, [.ref p1, .ref b1, .int (nI (u.1)), .int (nI (u.2.1)), .int (nI (u.2.2.1)), .ref q1, .ref t1, .ref a1, .ref l1, .ref v1])), (p1, .inl (dE, 48, .inl u.2.2.2.1)), (b1, .inl (dB, 8, .inl u.2.2.2.2))]) := by
  intro sz
  refine gx_start (cc := cX2_size) (maxL := 4) (ret := (some .boolean)) (Qc := fun A => va_Qi (fun r (u : Nat × Nat × Nat × (Nat → Int32) × (Nat → Int32)) => r = bI (szok x y) ∧ (szok x y = true → x = nI u.1 ∧ y = nI u.2.1 ∧ u.1 ≤ 6 ∧ 1 ≤ u.2.1 ∧ u.2.1 ≤ 8 ∧ u.2.2.1 = 0 ∧ (∀ q, q < 48 → u.2.2.2.1 q = nI 0) ∧ ∀ q, q < 8 → u.2.2.2.2 q = bI false) ∧ (szok x y = false → u.1 = M ∧ u.2.1 = R ∧ u.2.2.1 = n ∧ u.2.2.2.1 = E ∧ u.2.2.2.2 = Bt)) (gx_B D [(dE, .int), (dB, .boolean)] A (fun (u : Nat × Nat × Nat × (Nat → Int32) × (Nat → Int32)) => [(g0, .inr (2, [.ref p1, .ref b1, .int (nI (u.1)), .int (nI (u.2.1)), .int (nI (u.2.2.1)), .ref q1, .ref t1, .ref a1, .ref l1, .ref v1])), (p1, .inl (dE, 48, .inl u.2.2.2.1)), (b1, .inl (dB, 8, .inl u.2.2.2.2))])) A) (by decide) rfl (Nat.le_of_ble_eq_true rfl) ?_ sz
  intro p e s m below meth c A hbody ls hl
  obtain ⟨C0, hr, hlocks, hN, hK, hP, hD, hA⟩ := hbody
  have C0 : CallFix p m c cX2_size 4 s ([.ref g0, .int x, .int y] : List Value).toArray wsX2_size RX2 := C0
  obtain ⟨hx, hb, hml, hown, hts⟩ := id C0
  have hS : va_S A s.heap s.heap [] := va_S.rf
  have hl : lv_has ls 4 [(0, .ref g0), (1, .int x), (2, .int y)] := hl
  refine lv_iload_n hx hb dX2_size_0 rfl (lv_at hl 1 rfl) ?_
  refine lv_if_lt (tgt := 21) hx hb dX2_size_1 (by decide) (fun c_1 => ?_) (fun c_1 => ?_)
  · have hz : szok x y = false := sz_1 c_1
    refine lv_iconst (v := nI 0) hx hb dX2_size_21 (by decide) ?_
    exact gx_retz hx hb hr hlocks false (by decide) (M, R, n, E, Bt) (⟨by rw [hz]; decide, fun h => absurd (h.symm.trans hz) (by decide), fun _ => ⟨rfl, rfl, rfl, rfl, rfl⟩⟩) hK (hP.sub [0, 1, 2] rfl) (hD.sub [0, 1, 2] (by decide) rfl) hS dX2_size_22
  · refine lv_iload_n hx hb dX2_size_4 rfl (lv_at hl 1 rfl) ?_
    refine lv_bipush (v := nI 6) hx hb dX2_size_5 (by decide) ?_
    refine lv_icmp_gt (tgt := 21) hx hb dX2_size_7 (by decide) (fun c_7 => ?_) (fun c_7 => ?_)
    · have hz : szok x y = false := sz_2 c_7
      refine lv_iconst (v := nI 0) hx hb dX2_size_21 (by decide) ?_
      exact gx_retz hx hb hr hlocks false (by decide) (M, R, n, E, Bt) (⟨by rw [hz]; decide, fun h => absurd (h.symm.trans hz) (by decide), fun _ => ⟨rfl, rfl, rfl, rfl, rfl⟩⟩) hK (hP.sub [0, 1, 2] rfl) (hD.sub [0, 1, 2] (by decide) rfl) hS dX2_size_22
    · refine lv_iload_n hx hb dX2_size_10 rfl (lv_at hl 2 rfl) ?_
      refine lv_iconst (v := nI 1) hx hb dX2_size_11 (by decide) ?_
      refine lv_icmp_lt (tgt := 21) hx hb dX2_size_12 (by decide) (fun c_12 => ?_) (fun c_12 => ?_)
      · have hz : szok x y = false := sz_3 c_12
        refine lv_iconst (v := nI 0) hx hb dX2_size_21 (by decide) ?_
        exact gx_retz hx hb hr hlocks false (by decide) (M, R, n, E, Bt) (⟨by rw [hz]; decide, fun h => absurd (h.symm.trans hz) (by decide), fun _ => ⟨rfl, rfl, rfl, rfl, rfl⟩⟩) hK (hP.sub [0, 1, 2] rfl) (hD.sub [0, 1, 2] (by decide) rfl) hS dX2_size_22
      · refine lv_iload_n hx hb dX2_size_15 rfl (lv_at hl 2 rfl) ?_
        refine lv_bipush (v := nI 8) hx hb dX2_size_16 (by decide) ?_
        refine lv_icmp_le (tgt := 23) hx hb dX2_size_18 (by decide) (fun c_18 => ?_) (fun c_18 => ?_)
        · have hz : szok x y = true := sz_t c_1 c_7 c_12 c_18
          obtain ⟨a, b, ha6, hb1, hb8, rfl, rfl⟩ := sz_of hz
          refine lv_aload_n hx hb dX2_size_23 rfl (lv_at hl 0 rfl) ?_
          refine lv_iload_n hx hb dX2_size_24 rfl (lv_at hl 1 rfl) ?_
          refine va_put (D := D) (ci := 2) (v := .int (nI a)) (ty := .int) (C := RX2) (T := TX2) (N := 10) hx hb hts iw_X2_size_X2 tyX2 tyX2_ok nmX2 hown hK hP hD hS 0 rfl rfl 2 (by decide) (hts _ kw_X2_size_37) (fun _ h9 => h9) rfl (by decide +kernel) rfl rfl (Nat.le_of_ble_eq_true rfl) dX2_size_25 (fun H locs hP hD hS => ?_)
          have hP : va_P D vwCl [(g0, .inr (2, [.ref p1, .ref b1, .int (nI a), .int (nI R), .int (nI n), .ref q1, .ref t1, .ref a1, .ref l1, .ref v1])), (p1, .inl (dE, 48, .inl E)), (b1, .inl (dB, 8, .inl Bt))] H := hP
          have hD : va_D A [(g0, .inr (2, [.ref p1, .ref b1, .int (nI a), .int (nI R), .int (nI n), .ref q1, .ref t1, .ref a1, .ref l1, .ref v1])), (p1, .inl (dE, 48, .inl E)), (b1, .inl (dB, 8, .inl Bt))] := hD
          refine lv_aload_n hx hb dX2_size_28 rfl (lv_at hl 0 rfl) ?_
          refine lv_iload_n hx hb dX2_size_29 rfl (lv_at hl 2 rfl) ?_
          refine va_put (D := D) (ci := 2) (v := .int (nI b)) (ty := .int) (C := RX2) (T := TX2) (N := 10) hx hb hts iw_X2_size_X2 tyX2 tyX2_ok nmX2 hown hK hP hD hS 0 rfl rfl 3 (by decide) (hts _ kw_X2_size_33) (fun _ h9 => h9) rfl (by decide +kernel) rfl rfl (Nat.le_of_ble_eq_true rfl) dX2_size_30 (fun H locs hP hD hS => ?_)
          have hP : va_P D vwCl [(g0, .inr (2, [.ref p1, .ref b1, .int (nI a), .int (nI b), .int (nI n), .ref q1, .ref t1, .ref a1, .ref l1, .ref v1])), (p1, .inl (dE, 48, .inl E)), (b1, .inl (dB, 8, .inl Bt))] H := hP
          have hD : va_D A [(g0, .inr (2, [.ref p1, .ref b1, .int (nI a), .int (nI b), .int (nI n), .ref q1, .ref t1, .ref a1, .ref l1, .ref v1])), (p1, .inl (dE, 48, .inl E)), (b1, .inl (dB, 8, .inl Bt))] := hD
          refine lv_iconst (v := nI 0) hx hb dX2_size_33 (by decide) ?_
          refine lv_istore_n (lv' := [(3, .int (nI 0)), (0, .ref g0), (1, .int (nI a)), (2, .int (nI b))]) hx hb dX2_size_34 rfl hl (by decide) rfl (fun ls hl => ?_)
          refine lpX2_size1 C0 hN hA hK (fun E1 H locs ls hI1 hP hD hS hl => ?_) 49 0 E _ _ _ (by omega) (fun q h => absurd h (Nat.not_lt_zero q)) (hP.sub [0, 1, 2] rfl) (hD.sub [0, 1, 2] (by decide) rfl) hS (lv_sub hl [1, 2, 3, 0] rfl)
          refine lv_iconst (v := nI 0) hx hb dX2_size_54 (by decide) ?_
          refine lv_istore_n (lv' := [(3, .int (nI 0)), (0, .ref g0), (1, .int (nI a)), (2, .int (nI b))]) hx hb dX2_size_55 rfl hl (by decide) rfl (fun ls hl => ?_)
          refine lpX2_size2 C0 hN hA hK (fun B1 H locs ls hI2 hP hD hS hl => ?_) 9 0 Bt _ _ _ (by omega) (fun q h => absurd h (Nat.not_lt_zero q)) (hP.sub [0, 1, 2] rfl) (hD.sub [0, 1, 2] (by decide) rfl) hS (lv_sub hl [1, 2, 3, 0] rfl)
          refine lv_aload_n hx hb dX2_size_75 rfl (lv_at hl 0 rfl) ?_
          refine lv_iconst (v := nI 0) hx hb dX2_size_76 (by decide) ?_
          refine va_put (D := D) (ci := 2) (v := .int (nI 0)) (ty := .int) (C := RX2) (T := TX2) (N := 10) hx hb hts iw_X2_size_X2 tyX2 tyX2_ok nmX2 hown hK hP hD hS 0 rfl rfl 4 (by decide) (hts _ kw_X2_size_40) (fun _ h9 => h9) rfl (by decide +kernel) rfl rfl (Nat.le_of_ble_eq_true rfl) dX2_size_77 (fun H locs hP hD hS => ?_)
          have hP : va_P D vwCl [(g0, .inr (2, [.ref p1, .ref b1, .int (nI a), .int (nI b), .int (nI 0), .ref q1, .ref t1, .ref a1, .ref l1, .ref v1])), (p1, .inl (dE, 48, .inl E1)), (b1, .inl (dB, 8, .inl B1))] H := hP
          have hD : va_D A [(g0, .inr (2, [.ref p1, .ref b1, .int (nI a), .int (nI b), .int (nI 0), .ref q1, .ref t1, .ref a1, .ref l1, .ref v1])), (p1, .inl (dE, 48, .inl E1)), (b1, .inl (dB, 8, .inl B1))] := hD
          refine lv_iconst (v := nI 1) hx hb dX2_size_80 (by decide) ?_
          exact gx_retz hx hb hr hlocks true (by decide) (a, b, 0, E1, B1) (⟨by rw [hz]; decide, (fun _ => ⟨rfl, rfl, ha6, hb1, hb8, rfl, hI1, hI2⟩), fun h => absurd (h.symm.trans hz) (by decide)⟩) hK (hP.sub [0, 1, 2] rfl) (hD.sub [0, 1, 2] (by decide) rfl) hS dX2_size_81
        · have hz : szok x y = false := sz_4 c_18
          refine lv_iconst (v := nI 0) hx hb dX2_size_21 (by decide) ?_
          exact gx_retz hx hb hr hlocks false (by decide) (M, R, n, E, Bt) (⟨by rw [hz]; decide, fun h => absurd (h.symm.trans hz) (by decide), fun _ => ⟨rfl, rfl, rfl, rfl, rfl⟩⟩) hK (hP.sub [0, 1, 2] rfl) (hD.sub [0, 1, 2] (by decide) rfl) hS dX2_size_22
abbrev rmX2_modes : Room := { frames := 0, cells := 0, slots := 0, locals := 0 }
theorem iw_X2_modes_X2 : ∀ w ∈ wsX20, w ∈ wsX2_modes := by decide +kernel
theorem kw_X2_modes_40 : Cond.fieldLink RX2 40 "FluxModesModel" "listed" "I" ∈ wsX2_modes := by decide +kernel
set_option maxHeartbeats 4000000 in
set_option maxRecDepth 100000 in
theorem kX2_modes (l : Launch) (D : va_G) (g0 p1 b1 q1 t1 a1 l1 v1 M R n : Nat)  : gx_Mi l D yX2_modes wsX2_modes rmX2_modes [.ref g0] [] [(g0, .inr (2, [.ref p1, .ref b1, .int (nI M), .int (nI R), .int (nI n), .ref q1, .ref t1, .ref a1, .ref l1, .ref v1]))] (S := Unit) (fun r (_ : Unit) => r = nI n) (fun (_ : Unit) => [(g0, .inr (2, [.ref p1, .ref b1, .int (nI M), .int (nI R), .int (nI n), .ref q1, .ref t1, .ref a1, .ref l1, .ref v1]))]) := by
  intro sz
  refine gx_start (cc := cX2_modes) (maxL := 1) (ret := (some .int)) (Qc := fun A => va_Qi (fun r (_ : Unit) => r = nI n) (gx_B D [] A (fun (_ : Unit) => [(g0, .inr (2, [.ref p1, .ref b1, .int (nI M), .int (nI R), .int (nI n), .ref q1, .ref t1, .ref a1, .ref l1, .ref v1]))])) A) (by decide) rfl (Nat.le_of_ble_eq_true rfl) ?_ sz
  intro p e s m below meth c A hbody ls hl
  obtain ⟨C0, hr, hlocks, hN, hK, hP, hD, hA⟩ := hbody
  have C0 : CallFix p m c cX2_modes 1 s ([.ref g0] : List Value).toArray wsX2_modes RX2 := C0
  obtain ⟨hx, hb, hml, hown, hts⟩ := id C0
  have hS : va_S A s.heap s.heap [] := va_S.rf
  have hl : lv_has ls 1 [(0, .ref g0)] := hl
  refine lv_aload_n hx hb dX2_modes_0 rfl (lv_at hl 0 rfl) ?_
  refine va_get (D := D) (ci := 2) (v := .int (nI n)) (C := RX2) (T := TX2) (N := 10) hx hb hts iw_X2_modes_X2 hown hK hP 0 rfl rfl 4 (by decide) (hts _ kw_X2_modes_40) (fun _ h9 => h9) rfl dX2_modes_1 ?_
  exact gx_reti hx hb hr hlocks () (rfl) hK (hP.sub [0] rfl) (hD.sub [0] (by decide) rfl) hS dX2_modes_4
abbrev rmX2_support : Room := { frames := 0, cells := 0, slots := 0, locals := 0 }
theorem iw_X2_support_X2 : ∀ w ∈ wsX20, w ∈ wsX2_support := by decide +kernel
theorem kw_X2_support_17 : Cond.fieldLink RX2 17 "FluxModesModel" "supports" "[I" ∈ wsX2_support := by decide +kernel
theorem kw_X2_support_40 : Cond.fieldLink RX2 40 "FluxModesModel" "listed" "I" ∈ wsX2_support := by decide +kernel
set_option maxHeartbeats 4000000 in
set_option maxRecDepth 100000 in
theorem kX2_support (l : Launch) (D : va_G) (g0 p1 b1 q1 t1 a1 l1 v1 M R n : Nat) (x : Int32) (dS : ClassId) (U : Nat → Int32) (hn : n ≤ 70) : gx_Mi l D yX2_support wsX2_support rmX2_support [.ref g0, .int x] [(dS, .int)] [(g0, .inr (2, [.ref p1, .ref b1, .int (nI M), .int (nI R), .int (nI n), .ref q1, .ref t1, .ref a1, .ref l1, .ref v1])), (q1, .inl (dS, 70, .inl U))] (S := Unit) (fun r (_ : Unit) => r = if sp_in x n = true then U x.toNatClampNeg else 0) (fun (_ : Unit) => [(g0, .inr (2, [.ref p1, .ref b1, .int (nI M), .int (nI R), .int (nI n), .ref q1, .ref t1, .ref a1, .ref l1, .ref v1])), (q1, .inl (dS, 70, .inl U))]) := by
  intro sz
  refine gx_start (cc := cX2_support) (maxL := 2) (ret := (some .int)) (Qc := fun A => va_Qi (fun r (_ : Unit) => r = if sp_in x n = true then U x.toNatClampNeg else 0) (gx_B D [(dS, .int)] A (fun (_ : Unit) => [(g0, .inr (2, [.ref p1, .ref b1, .int (nI M), .int (nI R), .int (nI n), .ref q1, .ref t1, .ref a1, .ref l1, .ref v1])), (q1, .inl (dS, 70, .inl U))])) A) (by decide) rfl (Nat.le_of_ble_eq_true rfl) ?_ sz
  intro p e s m below meth c A hbody ls hl
  obtain ⟨C0, hr, hlocks, hN, hK, hP, hD, hA⟩ := hbody
  have C0 : CallFix p m c cX2_support 2 s ([.ref g0, .int x] : List Value).toArray wsX2_support RX2 := C0
  obtain ⟨hx, hb, hml, hown, hts⟩ := id C0
  have hS : va_S A s.heap s.heap [] := va_S.rf
  have hl : lv_has ls 2 [(0, .ref g0), (1, .int x)] := hl
  refine lv_iload_n hx hb dX2_support_0 rfl (lv_at hl 1 rfl) ?_
  refine lv_if_lt (tgt := 21) hx hb dX2_support_1 (by decide) (fun c_1 => ?_) (fun c_1 => ?_)
  · have hz := sp_in_lo (n := n) c_1
    refine lv_iconst (v := 0) hx hb dX2_support_21 (by decide) ?_
    exact gx_reti hx hb hr hlocks () (by rw [hz]; rfl) hK (hP.sub [0, 1] rfl) (hD.sub [0, 1] (by decide) rfl) hS dX2_support_22
  · refine lv_iload_n hx hb dX2_support_4 rfl (lv_at hl 1 rfl) ?_
    refine lv_aload_n hx hb dX2_support_5 rfl (lv_at hl 0 rfl) ?_
    refine va_get (D := D) (ci := 2) (v := .int (nI n)) (C := RX2) (T := TX2) (N := 10) hx hb hts iw_X2_support_X2 hown hK hP 0 rfl rfl 4 (by decide) (hts _ kw_X2_support_40) (fun _ h9 => h9) rfl dX2_support_6 ?_
    refine lv_icmp_ge (tgt := 21) hx hb dX2_support_9 (by decide) (fun c_9 => ?_) (fun c_9 => ?_)
    · have hz := sp_in_hi (n := n) (by omega) c_9
      refine lv_iconst (v := 0) hx hb dX2_support_21 (by decide) ?_
      exact gx_reti hx hb hr hlocks () (by rw [hz]; rfl) hK (hP.sub [0, 1] rfl) (hD.sub [0, 1] (by decide) rfl) hS dX2_support_22
    · have hz := sp_in_ok (n := n) (by omega) c_1 c_9
      obtain ⟨hi3, hi1⟩ := sp_in_clamp (by omega) hz
      refine lv_aload_n hx hb dX2_support_12 rfl (lv_at hl 0 rfl) ?_
      refine va_get (D := D) (ci := 2) (v := .ref q1) (C := RX2) (T := TX2) (N := 10) hx hb hts iw_X2_support_X2 hown hK hP 0 rfl rfl 5 (by decide) (hts _ kw_X2_support_17) (fun _ h9 => h9) rfl dX2_support_13 ?_
      refine lv_iload_n hx hb dX2_support_16 rfl (lv_at hl 1 rfl) ?_
      refine gx_iald (q := x.toNatClampNeg) hx hb hK hP 1 0 rfl rfl (hi1) (by omega) (by decide) dX2_support_17 ?_
      refine lv_goto (tgt := 22) hx hb dX2_support_18 (by decide) ?_
      exact gx_reti hx hb hr hlocks () (by rw [hz]; rfl) hK (hP.sub [0, 1] rfl) (hD.sub [0, 1] (by decide) rfl) hS dX2_support_22
abbrev rmX2_rate : Room := { frames := 0, cells := 0, slots := 0, locals := 0 }
theorem iw_X2_rate_X2 : ∀ w ∈ wsX20, w ∈ wsX2_rate := by decide +kernel
theorem kw_X2_rate_20 : Cond.fieldLink RX2 20 "FluxModesModel" "rates" "[I" ∈ wsX2_rate := by decide +kernel
theorem kw_X2_rate_40 : Cond.fieldLink RX2 40 "FluxModesModel" "listed" "I" ∈ wsX2_rate := by decide +kernel
set_option maxHeartbeats 4000000 in
set_option maxRecDepth 100000 in
theorem kX2_rate (l : Launch) (D : va_G) (g0 p1 b1 q1 t1 a1 l1 v1 M R n : Nat) (x y : Int32) (dR : ClassId) (T : Nat → Int32) (hn : n ≤ 70) : gx_Mi l D yX2_rate wsX2_rate rmX2_rate [.ref g0, .int x, .int y] [(dR, .int)] [(g0, .inr (2, [.ref p1, .ref b1, .int (nI M), .int (nI R), .int (nI n), .ref q1, .ref t1, .ref a1, .ref l1, .ref v1])), (t1, .inl (dR, 560, .inl T))] (S := Unit) (fun r (_ : Unit) => r = if (sp_in x n && sp_in y 8) = true then T (ixx x y) else 0) (fun (_ : Unit) => [(g0, .inr (2, [.ref p1, .ref b1, .int (nI M), .int (nI R), .int (nI n), .ref q1, .ref t1, .ref a1, .ref l1, .ref v1])), (t1, .inl (dR, 560, .inl T))]) := by
  intro sz
  refine gx_start (cc := cX2_rate) (maxL := 3) (ret := (some .int)) (Qc := fun A => va_Qi (fun r (_ : Unit) => r = if (sp_in x n && sp_in y 8) = true then T (ixx x y) else 0) (gx_B D [(dR, .int)] A (fun (_ : Unit) => [(g0, .inr (2, [.ref p1, .ref b1, .int (nI M), .int (nI R), .int (nI n), .ref q1, .ref t1, .ref a1, .ref l1, .ref v1])), (t1, .inl (dR, 560, .inl T))])) A) (by decide) rfl (Nat.le_of_ble_eq_true rfl) ?_ sz
  intro p e s m below meth c A hbody ls hl
  obtain ⟨C0, hr, hlocks, hN, hK, hP, hD, hA⟩ := hbody
  have C0 : CallFix p m c cX2_rate 3 s ([.ref g0, .int x, .int y] : List Value).toArray wsX2_rate RX2 := C0
  obtain ⟨hx, hb, hml, hown, hts⟩ := id C0
  have hS : va_S A s.heap s.heap [] := va_S.rf
  have hl : lv_has ls 3 [(0, .ref g0), (1, .int x), (2, .int y)] := hl
  refine lv_iload_n hx hb dX2_rate_0 rfl (lv_at hl 1 rfl) ?_
  refine lv_if_lt (tgt := 36) hx hb dX2_rate_1 (by decide) (fun c_1 => ?_) (fun c_1 => ?_)
  · have hz : (sp_in x n && sp_in y 8) = false := by rw [sp_in_lo (n := n) c_1]; rfl
    refine lv_iconst (v := 0) hx hb dX2_rate_36 (by decide) ?_
    exact gx_reti hx hb hr hlocks () (by rw [hz]; rfl) hK (hP.sub [0, 1] rfl) (hD.sub [0, 1] (by decide) rfl) hS dX2_rate_37
  · refine lv_iload_n hx hb dX2_rate_4 rfl (lv_at hl 1 rfl) ?_
    refine lv_aload_n hx hb dX2_rate_5 rfl (lv_at hl 0 rfl) ?_
    refine va_get (D := D) (ci := 2) (v := .int (nI n)) (C := RX2) (T := TX2) (N := 10) hx hb hts iw_X2_rate_X2 hown hK hP 0 rfl rfl 4 (by decide) (hts _ kw_X2_rate_40) (fun _ h9 => h9) rfl dX2_rate_6 ?_
    refine lv_icmp_ge (tgt := 36) hx hb dX2_rate_9 (by decide) (fun c_9 => ?_) (fun c_9 => ?_)
    · have hz : (sp_in x n && sp_in y 8) = false := by rw [sp_in_hi (n := n) (by omega) c_9]; rfl
      refine lv_iconst (v := 0) hx hb dX2_rate_36 (by decide) ?_
      exact gx_reti hx hb hr hlocks () (by rw [hz]; rfl) hK (hP.sub [0, 1] rfl) (hD.sub [0, 1] (by decide) rfl) hS dX2_rate_37
    · refine lv_iload_n hx hb dX2_rate_12 rfl (lv_at hl 2 rfl) ?_
      refine lv_if_lt (tgt := 36) hx hb dX2_rate_13 (by decide) (fun c_13 => ?_) (fun c_13 => ?_)
      · have hz : (sp_in x n && sp_in y 8) = false := by rw [sp_in_lo (n := 8) c_13, Bool.and_false]
        refine lv_iconst (v := 0) hx hb dX2_rate_36 (by decide) ?_
        exact gx_reti hx hb hr hlocks () (by rw [hz]; rfl) hK (hP.sub [0, 1] rfl) (hD.sub [0, 1] (by decide) rfl) hS dX2_rate_37
      · refine lv_iload_n hx hb dX2_rate_16 rfl (lv_at hl 2 rfl) ?_
        refine lv_bipush (v := nI 7) hx hb dX2_rate_17 (by decide) ?_
        refine lv_icmp_gt (tgt := 36) hx hb dX2_rate_19 (by decide) (fun c_19 => ?_) (fun c_19 => ?_)
        · have hz : (sp_in x n && sp_in y 8) = false := by rw [sp_8_hi c_19, Bool.and_false]
          refine lv_iconst (v := 0) hx hb dX2_rate_36 (by decide) ?_
          exact gx_reti hx hb hr hlocks () (by rw [hz]; rfl) hK (hP.sub [0, 1] rfl) (hD.sub [0, 1] (by decide) rfl) hS dX2_rate_37
        · have hz : (sp_in x n && sp_in y 8) = true := by rw [sp_in_ok (n := n) (by omega) c_1 c_9, sp_8_ok c_13 c_19]; rfl
          obtain ⟨hi1, hi2, hi3⟩ := ix_70 hn hz
          refine lv_aload_n hx hb dX2_rate_22 rfl (lv_at hl 0 rfl) ?_
          refine va_get (D := D) (ci := 2) (v := .ref t1) (C := RX2) (T := TX2) (N := 10) hx hb hts iw_X2_rate_X2 hown hK hP 0 rfl rfl 6 (by decide) (hts _ kw_X2_rate_20) (fun _ h9 => h9) rfl dX2_rate_23 ?_
          refine lv_bipush (v := nI 8) hx hb dX2_rate_26 (by decide) ?_
          refine lv_iload_n hx hb dX2_rate_28 rfl (lv_at hl 1 rfl) ?_
          refine lv_imul hx hb dX2_rate_29 ?_
          refine lv_iload_n hx hb dX2_rate_30 rfl (lv_at hl 2 rfl) ?_
          refine lv_iadd hx hb dX2_rate_31 ?_
          refine gx_iald (q := ixx x y) hx hb hK hP 1 0 rfl rfl (hi2) (hi3) (by decide) dX2_rate_32 ?_
          refine lv_goto (tgt := 37) hx hb dX2_rate_33 (by decide) ?_
          exact gx_reti hx hb hr hlocks () (by rw [hz]; rfl) hK (hP.sub [0, 1] rfl) (hD.sub [0, 1] (by decide) rfl) hS dX2_rate_37
abbrev rmX2_within : Room := { frames := 0, cells := 0, slots := 0, locals := 0 }
theorem iw_X2_within_X2 : ∀ w ∈ wsX20, w ∈ wsX2_within := by decide +kernel
theorem kw_X2_within_17 : Cond.fieldLink RX2 17 "FluxModesModel" "supports" "[I" ∈ wsX2_within := by decide +kernel
theorem kw_X2_within_40 : Cond.fieldLink RX2 40 "FluxModesModel" "listed" "I" ∈ wsX2_within := by decide +kernel
set_option maxHeartbeats 4000000 in
set_option maxRecDepth 100000 in
theorem lpX2_within {p : Program} {l : Launch} {e : Env} {s : State} {m : MethodId} {args : Array Value} {below : List Frame} {meth : Method} {c : Code} {Q : State → Prop} {D : va_G} {A : Nat → Prop} {H0 : Heap} (C0 : CallFix p m c cX2_within 4 s args wsX2_within RX2) (hN : gx_N s) (hA : ∀ q : Nat, H0.size ≤ q → A q) {g0 p1 b1 q1 t1 a1 l1 v1 M R n : Nat} {x : Int32} {dS : ClassId} {U : Nat → Int32} (hn : n ≤ 70) (hK : va_K D vwCl [(dS, .int)] s) (kk : ∀ (H : Heap) (locs : List Loc) (ls : Array Slot), va_P D vwCl [(g0, .inr (2, [.ref p1, .ref b1, .int (nI M), .int (nI R), .int (nI n), .ref q1, .ref t1, .ref a1, .ref l1, .ref v1])), (q1, .inl (dS, 70, .inl U))] H → va_D A [(g0, .inr (2, [.ref p1, .ref b1, .int (nI M), .int (nI R), .int (nI n), .ref q1, .ref t1, .ref a1, .ref l1, .ref v1])), (q1, .inl (dS, 70, .inl U))] → va_S A H0 H locs → lv_has ls 4 [(0, .ref g0), (1, .int x), (2, .int (nI (mx_count (wiq U x) n))), (3, .int (nI n))] → W p l e rmX2_within s m args below meth c H locs 0 0 Q (F0 m 34 ls [])) : ∀ (n_ : Nat) (k a : Nat) (H : Heap) (locs : List Loc) (ls : Array Slot), (k ≤ n ∧ n < k + n_) → (a = mx_count (wiq U x) k) → va_P D vwCl [(g0, .inr (2, [.ref p1, .ref b1, .int (nI M), .int (nI R), .int (nI n), .ref q1, .ref t1, .ref a1, .ref l1, .ref v1])), (q1, .inl (dS, 70, .inl U))] H → va_D A [(g0, .inr (2, [.ref p1, .ref b1, .int (nI M), .int (nI R), .int (nI n), .ref q1, .ref t1, .ref a1, .ref l1, .ref v1])), (q1, .inl (dS, 70, .inl U))] → va_S A H0 H locs → lv_has ls 4 [(0, .ref g0), (1, .int x), (2, .int (nI a)), (3, .int (nI k))] → W p l e rmX2_within s m args below meth c H locs 0 0 Q (F0 m 4 ls []) := by
  obtain ⟨hx, hb, hml, hown, hts⟩ := id C0
  intro n_
  induction n_ with
  | zero =>
    intro k a H locs ls hm
    exact absurd hm (by omega)
  | succ n_ ih =>
    intro k a H locs ls hm hI hP hD hS hl
    refine lv_iload_n hx hb dX2_within_4 rfl (lv_at hl 3 rfl) ?_
    refine lv_aload_n hx hb dX2_within_5 rfl (lv_at hl 0 rfl) ?_
    refine va_get (D := D) (ci := 2) (v := .int (nI n)) (C := RX2) (T := TX2) (N := 10) hx hb hts iw_X2_within_X2 hown hK hP 0 rfl rfl 4 (by decide) (hts _ kw_X2_within_40) (fun _ h9 => h9) rfl dX2_within_6 ?_
    refine gx_ge (tgt := 34) hx hb dX2_within_9 (by decide) (by omega) (by omega) (fun c_9 => ?_) (fun c_9 => ?_)
    · have hkn : k = n := by omega
      subst hkn
      subst hI
      exact kk _ _ _ (hP.sub [0, 1] rfl) (hD.sub [0, 1] (by decide) rfl) hS (lv_sub hl [0, 1, 2, 3] rfl)
    · refine lv_aload_n hx hb dX2_within_12 rfl (lv_at hl 0 rfl) ?_
      refine va_get (D := D) (ci := 2) (v := .ref q1) (C := RX2) (T := TX2) (N := 10) hx hb hts iw_X2_within_X2 hown hK hP 0 rfl rfl 5 (by decide) (hts _ kw_X2_within_17) (fun _ h9 => h9) rfl dX2_within_13 ?_
      refine lv_iload_n hx hb dX2_within_16 rfl (lv_at hl 3 rfl) ?_
      refine gx_iald (q := k) hx hb hK hP 1 0 rfl rfl (rfl) (by omega) (by decide) dX2_within_17 ?_
      refine lv_iload_n hx hb dX2_within_18 rfl (lv_at hl 1 rfl) ?_
      refine lv_iconst (v := (-1)) hx hb dX2_within_19 (by decide) ?_
      refine lv_ixor hx hb dX2_within_20 ?_
      refine lv_iand hx hb dX2_within_21 ?_
      refine lv_if_ne (tgt := 28) hx hb dX2_within_22 (by decide) (fun c_22 => ?_) (fun c_22 => ?_)
      · refine lv_iinc (v := nI (k + 1)) (lv' := [(3, .int (nI (k + 1))), (0, .ref g0), (1, .int x), (2, .int (nI a))]) hx hb dX2_within_28 hl (k := 3) rfl ((nI_succ k).symm) (by decide) rfl (fun ls hl => ?_)
        refine lv_goto (tgt := 4) hx hb dX2_within_31 (by decide) ?_
        have hz : wiq U x k = false := decide_eq_false c_22
        exact ih (k + 1) a _ _ _ (by omega) (cnt_step_f hz hI) (hP.sub [0, 1] rfl) (hD.sub [0, 1] (by decide) rfl) hS (lv_sub hl [1, 2, 3, 0] rfl)
      · refine lv_iinc (v := nI (a + 1)) (lv' := [(2, .int (nI (a + 1))), (0, .ref g0), (1, .int x), (3, .int (nI k))]) hx hb dX2_within_25 hl (k := 2) rfl ((nI_succ a).symm) (by decide) rfl (fun ls hl => ?_)
        refine lv_iinc (v := nI (k + 1)) (lv' := [(3, .int (nI (k + 1))), (2, .int (nI (a + 1))), (0, .ref g0), (1, .int x)]) hx hb dX2_within_28 hl (k := 3) rfl ((nI_succ k).symm) (by decide) rfl (fun ls hl => ?_)
        refine lv_goto (tgt := 4) hx hb dX2_within_31 (by decide) ?_
        have hz : wiq U x k = true := decide_eq_true c_22
        exact ih (k + 1) (a + 1) _ _ _ (by omega) (cnt_step_t hz hI) (hP.sub [0, 1] rfl) (hD.sub [0, 1] (by decide) rfl) hS (lv_sub hl [2, 3, 1, 0] rfl)
set_option maxHeartbeats 4000000 in
set_option maxRecDepth 100000 in
theorem kX2_within (l : Launch) (D : va_G) (g0 p1 b1 q1 t1 a1 l1 v1 M R n : Nat) (x : Int32) (dS : ClassId) (U : Nat → Int32) (hn : n ≤ 70) : gx_Mi l D yX2_within wsX2_within rmX2_within [.ref g0, .int x] [(dS, .int)] [(g0, .inr (2, [.ref p1, .ref b1, .int (nI M), .int (nI R), .int (nI n), .ref q1, .ref t1, .ref a1, .ref l1, .ref v1])), (q1, .inl (dS, 70, .inl U))] (S := Unit) (fun r (_ : Unit) => r = nI (mx_count (wiq U x) n)) (fun (_ : Unit) => [(g0, .inr (2, [.ref p1, .ref b1, .int (nI M), .int (nI R), .int (nI n), .ref q1, .ref t1, .ref a1, .ref l1, .ref v1])), (q1, .inl (dS, 70, .inl U))]) := by
  intro sz
  refine gx_start (cc := cX2_within) (maxL := 4) (ret := (some .int)) (Qc := fun A => va_Qi (fun r (_ : Unit) => r = nI (mx_count (wiq U x) n)) (gx_B D [(dS, .int)] A (fun (_ : Unit) => [(g0, .inr (2, [.ref p1, .ref b1, .int (nI M), .int (nI R), .int (nI n), .ref q1, .ref t1, .ref a1, .ref l1, .ref v1])), (q1, .inl (dS, 70, .inl U))])) A) (by decide) rfl (Nat.le_of_ble_eq_true rfl) ?_ sz
  intro p e s m below meth c A hbody ls hl
  obtain ⟨C0, hr, hlocks, hN, hK, hP, hD, hA⟩ := hbody
  have C0 : CallFix p m c cX2_within 4 s ([.ref g0, .int x] : List Value).toArray wsX2_within RX2 := C0
  obtain ⟨hx, hb, hml, hown, hts⟩ := id C0
  have hS : va_S A s.heap s.heap [] := va_S.rf
  have hl : lv_has ls 4 [(0, .ref g0), (1, .int x)] := hl
  refine lv_iconst (v := nI 0) hx hb dX2_within_0 (by decide) ?_
  refine lv_istore_n (lv' := [(2, .int (nI 0)), (0, .ref g0), (1, .int x)]) hx hb dX2_within_1 rfl hl (by decide) rfl (fun ls hl => ?_)
  refine lv_iconst (v := nI 0) hx hb dX2_within_2 (by decide) ?_
  refine lv_istore_n (lv' := [(3, .int (nI 0)), (2, .int (nI 0)), (0, .ref g0), (1, .int x)]) hx hb dX2_within_3 rfl hl (by decide) rfl (fun ls hl => ?_)
  refine lpX2_within C0 hN hA hn hK (fun H locs ls hP hD hS hl => ?_) (n + 1) 0 0 _ _ _ (by omega) rfl (hP.sub [0, 1] rfl) (hD.sub [0, 1] (by decide) rfl) hS (lv_sub hl [2, 3, 1, 0] rfl)
  refine lv_iload_n hx hb dX2_within_34 rfl (lv_at hl 2 rfl) ?_
  exact gx_reti hx hb hr hlocks () (rfl) hK (hP.sub [0, 1] rfl) (hD.sub [0, 1] (by decide) rfl) hS dX2_within_35
abbrev rmX2_running : Room := { frames := 1, cells := 0, slots := 0, locals := 22 }
theorem iw_X2_running_X2 : ∀ w ∈ wsX20, w ∈ wsX2_running := by decide +kernel
theorem kw_X2_running_40 : Cond.fieldLink RX2 40 "FluxModesModel" "listed" "I" ∈ wsX2_running := by decide +kernel
set_option maxHeartbeats 4000000 in
set_option maxRecDepth 100000 in
theorem lpX2_running {p : Program} {l : Launch} {e : Env} {s : State} {m : MethodId} {args : Array Value} {below : List Frame} {meth : Method} {c : Code} {Q : State → Prop} {D : va_G} {A : Nat → Prop} {H0 : Heap} (C0 : CallFix p m c cX2_running 6 s args wsX2_running RX2) (hN : gx_N s) (hA : ∀ q : Nat, H0.size ≤ q → A q) {g0 p1 b1 q1 t1 a1 l1 v1 M R n : Nat} {x y : Int32} {dR : ClassId} {T : Nat → Int32} (hn : n ≤ 70) (hK : va_K D vwCl [(dR, .int)] s) (kk : ∀ (H : Heap) (locs : List Loc) (ls : Array Slot), va_P D vwCl [(g0, .inr (2, [.ref p1, .ref b1, .int (nI M), .int (nI R), .int (nI n), .ref q1, .ref t1, .ref a1, .ref l1, .ref v1])), (t1, .inl (dR, 560, .inl T))] H → va_D A [(g0, .inr (2, [.ref p1, .ref b1, .int (nI M), .int (nI R), .int (nI n), .ref q1, .ref t1, .ref a1, .ref l1, .ref v1])), (t1, .inl (dR, 560, .inl T))] → va_S A H0 H locs → lv_has ls 6 [(0, .ref g0), (1, .int x), (2, .int y), (3, .int (nI (mx_count (ruv T x y) n))), (4, .int (nI n))] → W p l e rmX2_running s m args below meth c H locs 0 0 Q (F0 m 63 ls [])) : ∀ (n_ : Nat) (k a : Nat) (H : Heap) (locs : List Loc) (ls : Array Slot), (k ≤ n ∧ n < k + n_) → (a = mx_count (ruv T x y) k) → va_P D vwCl [(g0, .inr (2, [.ref p1, .ref b1, .int (nI M), .int (nI R), .int (nI n), .ref q1, .ref t1, .ref a1, .ref l1, .ref v1])), (t1, .inl (dR, 560, .inl T))] H → va_D A [(g0, .inr (2, [.ref p1, .ref b1, .int (nI M), .int (nI R), .int (nI n), .ref q1, .ref t1, .ref a1, .ref l1, .ref v1])), (t1, .inl (dR, 560, .inl T))] → va_S A H0 H locs → lv_has ls 6 [(0, .ref g0), (1, .int x), (2, .int y), (3, .int (nI a)), (4, .int (nI k))] → W p l e rmX2_running s m args below meth c H locs 0 0 Q (F0 m 5 ls []) := by
  obtain ⟨hx, hb, hml, hown, hts⟩ := id C0
  intro n_
  induction n_ with
  | zero =>
    intro k a H locs ls hm
    exact absurd hm (by omega)
  | succ n_ ih =>
    intro k a H locs ls hm hI hP hD hS hl
    refine lv_iload hx hb dX2_running_5 (lv_at hl 4 rfl) ?_
    refine lv_aload_n hx hb dX2_running_7 rfl (lv_at hl 0 rfl) ?_
    refine va_get (D := D) (ci := 2) (v := .int (nI n)) (C := RX2) (T := TX2) (N := 10) hx hb hts iw_X2_running_X2 hown hK hP 0 rfl rfl 4 (by decide) (hts _ kw_X2_running_40) (fun _ h9 => h9) rfl dX2_running_8 ?_
    refine gx_ge (tgt := 63) hx hb dX2_running_11 (by decide) (by omega) (by omega) (fun c_11 => ?_) (fun c_11 => ?_)
    · have hkn : k = n := by omega
      subst hkn
      subst hI
      exact kk _ _ _ (hP.sub [0, 1] rfl) (hD.sub [0, 1] (by decide) rfl) hS (lv_sub hl [0, 1, 2, 3, 4] rfl)
    · refine lv_aload_n hx hb dX2_running_14 rfl (lv_at hl 0 rfl) ?_
      refine lv_iload hx hb dX2_running_15 (lv_at hl 4 rfl) ?_
      refine lv_iload_n hx hb dX2_running_17 rfl (lv_at hl 1 rfl) ?_
      refine gx_ji (wr := []) (gx_rV (As := [.int (nI k), .int x]) (rest := []) C0 (kX2_rate l D g0 p1 b1 q1 t1 a1 l1 v1 M R n (nI k) x dR T hn _) (cwV 2 hts gX2_running_X2_rate rfl rfl rfl (by decide +kernel) ⟨Nat.le_of_ble_eq_true rfl, Nat.le_of_ble_eq_true rfl⟩) hN hK hP hD [0, 1] [0] rfl rfl (by decide) rfl 0 rfl rfl rfl rfl hl.1 rfl (Nat.le_of_ble_eq_true rfl) dX2_running_18 ⟨Nat.zero_le _, Nat.zero_le _⟩) hP hD hS hA [0, 1] [] rfl rfl (by decide) (by decide) (fun r u H locs hw hP hD hS => ?_)
      have hw : r = rvl T x k := Eq.trans hw (rvl_eq hn c_11)
      subst hw
      have hP : va_P D vwCl [(g0, .inr (2, [.ref p1, .ref b1, .int (nI M), .int (nI R), .int (nI n), .ref q1, .ref t1, .ref a1, .ref l1, .ref v1])), (t1, .inl (dR, 560, .inl T))] H := hP
      have hD : va_D A [(g0, .inr (2, [.ref p1, .ref b1, .int (nI M), .int (nI R), .int (nI n), .ref q1, .ref t1, .ref a1, .ref l1, .ref v1])), (t1, .inl (dR, 560, .inl T))] := hD
      refine lv_istore (lv' := [(5, .int (rvl T x k)), (0, .ref g0), (1, .int x), (2, .int y), (3, .int (nI a)), (4, .int (nI k))]) hx hb dX2_running_21 hl (by decide) rfl (fun ls hl => ?_)
      refine lv_iload_n hx hb dX2_running_23 rfl (lv_at hl 3 rfl) ?_
      refine lv_iconst (v := 1) hx hb dX2_running_24 (by decide) ?_
      refine lv_icmp_ne (tgt := 36) hx hb dX2_running_25 (by decide) (fun c_25 => ?_) (fun c_25 => ?_)
      · refine lv_iload_n hx hb dX2_running_36 rfl (lv_at hl 3 rfl) ?_
        refine lv_iconst (v := (-1)) hx hb dX2_running_37 (by decide) ?_
        refine lv_icmp_ne (tgt := 49) hx hb dX2_running_38 (by decide) (fun c_38 => ?_) (fun c_38 => ?_)
        · refine lv_iload hx hb dX2_running_49 (lv_at hl 0 rfl) ?_
          refine lv_if_eq (tgt := 57) hx hb dX2_running_51 (by decide) (fun c_51 => ?_) (fun c_51 => ?_)
          · have hz : ruv T x y k = false := ru_5 c_25 c_38 c_51
            refine lv_iinc (v := nI (k + 1)) (lv' := [(4, .int (nI (k + 1))), (5, .int (rvl T x k)), (0, .ref g0), (1, .int x), (2, .int y), (3, .int (nI a))]) hx hb dX2_running_57 hl (k := 5) rfl ((nI_succ k).symm) (by decide) rfl (fun ls hl => ?_)
            refine lv_goto (tgt := 5) hx hb dX2_running_60 (by decide) ?_
            exact ih (k + 1) a _ _ _ (by omega) (cnt_step_f (q := ruv T x y) hz hI) (hP.sub [0, 1] rfl) (hD.sub [0, 1] (by decide) rfl) hS (lv_sub hl [2, 3, 4, 5, 0] rfl)
          · have hz : ruv T x y k = true := ru_6 c_25 c_38 c_51
            refine lv_iinc (v := nI (a + 1)) (lv' := [(3, .int (nI (a + 1))), (5, .int (rvl T x k)), (0, .ref g0), (1, .int x), (2, .int y), (4, .int (nI k))]) hx hb dX2_running_54 hl (k := 4) rfl ((nI_succ a).symm) (by decide) rfl (fun ls hl => ?_)
            refine lv_iinc (v := nI (k + 1)) (lv' := [(4, .int (nI (k + 1))), (3, .int (nI (a + 1))), (5, .int (rvl T x k)), (0, .ref g0), (1, .int x), (2, .int y)]) hx hb dX2_running_57 hl (k := 5) rfl ((nI_succ k).symm) (by decide) rfl (fun ls hl => ?_)
            refine lv_goto (tgt := 5) hx hb dX2_running_60 (by decide) ?_
            exact ih (k + 1) (a + 1) _ _ _ (by omega) (cnt_step_t (q := ruv T x y) hz hI) (hP.sub [0, 1] rfl) (hD.sub [0, 1] (by decide) rfl) hS (lv_sub hl [3, 4, 5, 1, 0] rfl)
        · refine lv_iload hx hb dX2_running_41 (lv_at hl 0 rfl) ?_
          refine lv_if_ge (tgt := 57) hx hb dX2_running_43 (by decide) (fun c_43 => ?_) (fun c_43 => ?_)
          · have hz : ruv T x y k = false := ru_3 c_25 c_38 c_43
            refine lv_iinc (v := nI (k + 1)) (lv' := [(4, .int (nI (k + 1))), (5, .int (rvl T x k)), (0, .ref g0), (1, .int x), (2, .int y), (3, .int (nI a))]) hx hb dX2_running_57 hl (k := 5) rfl ((nI_succ k).symm) (by decide) rfl (fun ls hl => ?_)
            refine lv_goto (tgt := 5) hx hb dX2_running_60 (by decide) ?_
            exact ih (k + 1) a _ _ _ (by omega) (cnt_step_f (q := ruv T x y) hz hI) (hP.sub [0, 1] rfl) (hD.sub [0, 1] (by decide) rfl) hS (lv_sub hl [2, 3, 4, 5, 0] rfl)
          · have hz : ruv T x y k = true := ru_4 c_25 c_38 c_43
            refine lv_goto (tgt := 54) hx hb dX2_running_46 (by decide) ?_
            refine lv_iinc (v := nI (a + 1)) (lv' := [(3, .int (nI (a + 1))), (5, .int (rvl T x k)), (0, .ref g0), (1, .int x), (2, .int y), (4, .int (nI k))]) hx hb dX2_running_54 hl (k := 4) rfl ((nI_succ a).symm) (by decide) rfl (fun ls hl => ?_)
            refine lv_iinc (v := nI (k + 1)) (lv' := [(4, .int (nI (k + 1))), (3, .int (nI (a + 1))), (5, .int (rvl T x k)), (0, .ref g0), (1, .int x), (2, .int y)]) hx hb dX2_running_57 hl (k := 5) rfl ((nI_succ k).symm) (by decide) rfl (fun ls hl => ?_)
            refine lv_goto (tgt := 5) hx hb dX2_running_60 (by decide) ?_
            exact ih (k + 1) (a + 1) _ _ _ (by omega) (cnt_step_t (q := ruv T x y) hz hI) (hP.sub [0, 1] rfl) (hD.sub [0, 1] (by decide) rfl) hS (lv_sub hl [3, 4, 5, 1, 0] rfl)
      · refine lv_iload hx hb dX2_running_28 (lv_at hl 0 rfl) ?_
        refine lv_if_le (tgt := 57) hx hb dX2_running_30 (by decide) (fun c_30 => ?_) (fun c_30 => ?_)
        · have hz : ruv T x y k = false := ru_1 c_25 c_30
          refine lv_iinc (v := nI (k + 1)) (lv' := [(4, .int (nI (k + 1))), (5, .int (rvl T x k)), (0, .ref g0), (1, .int x), (2, .int y), (3, .int (nI a))]) hx hb dX2_running_57 hl (k := 5) rfl ((nI_succ k).symm) (by decide) rfl (fun ls hl => ?_)
          refine lv_goto (tgt := 5) hx hb dX2_running_60 (by decide) ?_
          exact ih (k + 1) a _ _ _ (by omega) (cnt_step_f (q := ruv T x y) hz hI) (hP.sub [0, 1] rfl) (hD.sub [0, 1] (by decide) rfl) hS (lv_sub hl [2, 3, 4, 5, 0] rfl)
        · have hz : ruv T x y k = true := ru_2 c_25 c_30
          refine lv_goto (tgt := 54) hx hb dX2_running_33 (by decide) ?_
          refine lv_iinc (v := nI (a + 1)) (lv' := [(3, .int (nI (a + 1))), (5, .int (rvl T x k)), (0, .ref g0), (1, .int x), (2, .int y), (4, .int (nI k))]) hx hb dX2_running_54 hl (k := 4) rfl ((nI_succ a).symm) (by decide) rfl (fun ls hl => ?_)
          refine lv_iinc (v := nI (k + 1)) (lv' := [(4, .int (nI (k + 1))), (3, .int (nI (a + 1))), (5, .int (rvl T x k)), (0, .ref g0), (1, .int x), (2, .int y)]) hx hb dX2_running_57 hl (k := 5) rfl ((nI_succ k).symm) (by decide) rfl (fun ls hl => ?_)
          refine lv_goto (tgt := 5) hx hb dX2_running_60 (by decide) ?_
          exact ih (k + 1) (a + 1) _ _ _ (by omega) (cnt_step_t (q := ruv T x y) hz hI) (hP.sub [0, 1] rfl) (hD.sub [0, 1] (by decide) rfl) hS (lv_sub hl [3, 4, 5, 1, 0] rfl)
set_option maxHeartbeats 4000000 in
set_option maxRecDepth 100000 in
theorem kX2_running (l : Launch) (D : va_G) (g0 p1 b1 q1 t1 a1 l1 v1 M R n : Nat) (x y : Int32) (dR : ClassId) (T : Nat → Int32) (hn : n ≤ 70) : gx_Mi l D yX2_running wsX2_running rmX2_running [.ref g0, .int x, .int y] [(dR, .int)] [(g0, .inr (2, [.ref p1, .ref b1, .int (nI M), .int (nI R), .int (nI n), .ref q1, .ref t1, .ref a1, .ref l1, .ref v1])), (t1, .inl (dR, 560, .inl T))] (S := Unit) (fun r (_ : Unit) => r = if sp_in x 8 = true then nI (mx_count (ruq T x.toNatClampNeg y) n) else 0) (fun (_ : Unit) => [(g0, .inr (2, [.ref p1, .ref b1, .int (nI M), .int (nI R), .int (nI n), .ref q1, .ref t1, .ref a1, .ref l1, .ref v1])), (t1, .inl (dR, 560, .inl T))]) := by
  intro sz
  refine gx_start (cc := cX2_running) (maxL := 6) (ret := (some .int)) (Qc := fun A => va_Qi (fun r (_ : Unit) => r = if sp_in x 8 = true then nI (mx_count (ruq T x.toNatClampNeg y) n) else 0) (gx_B D [(dR, .int)] A (fun (_ : Unit) => [(g0, .inr (2, [.ref p1, .ref b1, .int (nI M), .int (nI R), .int (nI n), .ref q1, .ref t1, .ref a1, .ref l1, .ref v1])), (t1, .inl (dR, 560, .inl T))])) A) (by decide) rfl (Nat.le_of_ble_eq_true rfl) ?_ sz
  intro p e s m below meth c A hbody ls hl
  obtain ⟨C0, hr, hlocks, hN, hK, hP, hD, hA⟩ := hbody
  have C0 : CallFix p m c cX2_running 6 s ([.ref g0, .int x, .int y] : List Value).toArray wsX2_running RX2 := C0
  obtain ⟨hx, hb, hml, hown, hts⟩ := id C0
  have hS : va_S A s.heap s.heap [] := va_S.rf
  have hl : lv_has ls 6 [(0, .ref g0), (1, .int x), (2, .int y)] := hl
  refine lv_iconst (v := nI 0) hx hb dX2_running_0 (by decide) ?_
  refine lv_istore_n (lv' := [(3, .int (nI 0)), (0, .ref g0), (1, .int x), (2, .int y)]) hx hb dX2_running_1 rfl hl (by decide) rfl (fun ls hl => ?_)
  refine lv_iconst (v := nI 0) hx hb dX2_running_2 (by decide) ?_
  refine lv_istore (lv' := [(4, .int (nI 0)), (3, .int (nI 0)), (0, .ref g0), (1, .int x), (2, .int y)]) hx hb dX2_running_3 hl (by decide) rfl (fun ls hl => ?_)
  refine lpX2_running C0 hN hA hn hK (fun H locs ls hP hD hS hl => ?_) (n + 1) 0 0 _ _ _ (by omega) rfl (hP.sub [0, 1] rfl) (hD.sub [0, 1] (by decide) rfl) hS (lv_sub hl [2, 3, 4, 1, 0] rfl)
  refine lv_iload_n hx hb dX2_running_63 rfl (lv_at hl 3 rfl) ?_
  exact gx_reti hx hb hr hlocks () (ruv_eq n) hK (hP.sub [0, 1] rfl) (hD.sub [0, 1] (by decide) rfl) hS dX2_running_64
abbrev rmX2_shortest : Room := { frames := 0, cells := 0, slots := 0, locals := 0 }
theorem iw_X2_shortest_X2 : ∀ w ∈ wsX20, w ∈ wsX2_shortest := by decide +kernel
theorem kw_X2_shortest_17 : Cond.fieldLink RX2 17 "FluxModesModel" "supports" "[I" ∈ wsX2_shortest := by decide +kernel
theorem kw_X2_shortest_40 : Cond.fieldLink RX2 40 "FluxModesModel" "listed" "I" ∈ wsX2_shortest := by decide +kernel
set_option maxHeartbeats 4000000 in
set_option maxRecDepth 100000 in
theorem lpX2_shortest1 {p : Program} {l : Launch} {e : Env} {s : State} {m : MethodId} {args : Array Value} {below : List Frame} {meth : Method} {c : Code} {Q : State → Prop} {D : va_G} {A : Nat → Prop} {H0 : Heap} (C0 : CallFix p m c cX2_shortest 6 s args wsX2_shortest RX2) (hN : gx_N s) (hA : ∀ q : Nat, H0.size ≤ q → A q) {g0 p1 b1 q1 t1 a1 l1 v1 M R n j : Nat} {dS : ClassId} {U : Nat → Int32} {sf : Nat → Nat} {a k : Nat} (hn : n ≤ 70) (hU : ∀ k, k < n → sf k < 256 ∧ U k = nI (sf k)) (hk : k < n) (hK : va_K D vwCl [(dS, .int)] s) (kk : ∀ (H : Heap) (locs : List Loc) (ls : Array Slot), va_P D vwCl [(g0, .inr (2, [.ref p1, .ref b1, .int (nI M), .int (nI R), .int (nI n), .ref q1, .ref t1, .ref a1, .ref l1, .ref v1])), (q1, .inl (dS, 70, .inl U))] H → va_D A [(g0, .inr (2, [.ref p1, .ref b1, .int (nI M), .int (nI R), .int (nI n), .ref q1, .ref t1, .ref a1, .ref l1, .ref v1])), (q1, .inl (dS, 70, .inl U))] → va_S A H0 H locs → lv_has ls 6 [(0, .ref g0), (1, .int (nI j)), (2, .int (nI a)), (3, .int (nI k)), (4, .int (nI (mx_cnt (sf k) 8))), (5, .int (nI 8))] → W p l e rmX2_shortest s m args below meth c H locs 0 0 Q (F0 m 75 ls [])) : ∀ (n_ : Nat) (i : Nat) (H : Heap) (locs : List Loc) (ls : Array Slot), (i ≤ 8 ∧ 8 < i + n_) → va_P D vwCl [(g0, .inr (2, [.ref p1, .ref b1, .int (nI M), .int (nI R), .int (nI n), .ref q1, .ref t1, .ref a1, .ref l1, .ref v1])), (q1, .inl (dS, 70, .inl U))] H → va_D A [(g0, .inr (2, [.ref p1, .ref b1, .int (nI M), .int (nI R), .int (nI n), .ref q1, .ref t1, .ref a1, .ref l1, .ref v1])), (q1, .inl (dS, 70, .inl U))] → va_S A H0 H locs → lv_has ls 6 [(0, .ref g0), (1, .int (nI j)), (2, .int (nI a)), (3, .int (nI k)), (4, .int (nI (mx_cnt (sf k) i))), (5, .int (nI i))] → W p l e rmX2_shortest s m args below meth c H locs 0 0 Q (F0 m 46 ls []) := by
  obtain ⟨hx, hb, hml, hown, hts⟩ := id C0
  intro n_
  induction n_ with
  | zero =>
    intro i H locs ls hm
    exact absurd hm (by omega)
  | succ n_ ih =>
    intro i H locs ls hm  hP hD hS hl
    refine lv_iload hx hb dX2_shortest_46 (lv_at hl 5 rfl) ?_
    refine lv_bipush (v := nI 8) hx hb dX2_shortest_48 (by decide) ?_
    refine gx_ge (tgt := 75) hx hb dX2_shortest_50 (by decide) (by omega) (by omega) (fun c_50 => ?_) (fun c_50 => ?_)
    · have hi8 : i = 8 := by omega
      subst hi8
      exact kk _ _ _ (hP.sub [0, 1] rfl) (hD.sub [0, 1] (by decide) rfl) hS (lv_sub hl [0, 1, 2, 3, 4, 5] rfl)
    · refine lv_iload hx hb dX2_shortest_53 (lv_at hl 4 rfl) ?_
      refine lv_aload_n hx hb dX2_shortest_55 rfl (lv_at hl 0 rfl) ?_
      refine va_get (D := D) (ci := 2) (v := .ref q1) (C := RX2) (T := TX2) (N := 10) hx hb hts iw_X2_shortest_X2 hown hK hP 0 rfl rfl 5 (by decide) (hts _ kw_X2_shortest_17) (fun _ h9 => h9) rfl dX2_shortest_56 ?_
      refine lv_iload_n hx hb dX2_shortest_59 rfl (lv_at hl 3 rfl) ?_
      refine gx_iald (q := k) hx hb hK hP 1 0 rfl rfl (rfl) (by omega) (by decide) dX2_shortest_60 ?_
      refine gx_i (y := nI (sf k)) ((hU k hk).2) ?_
      refine lv_iload hx hb dX2_shortest_61 (lv_at hl 5 rfl) ?_
      refine lv_ishr hx hb dX2_shortest_63 ?_
      refine lv_iconst (v := nI 1) hx hb dX2_shortest_64 (by decide) ?_
      refine lv_iand hx hb dX2_shortest_65 ?_
      refine gx_i (y := bI ((sf k).testBit i)) (sp_has (sf k) (hU k hk).1 i (by omega)) ?_
      refine lv_iadd hx hb dX2_shortest_66 ?_
      refine gx_i (y := nI (mx_cnt (sf k) (i + 1))) (cnt_bI (sf k) i) ?_
      refine lv_istore (lv' := [(4, .int (nI (mx_cnt (sf k) (i + 1)))), (0, .ref g0), (1, .int (nI j)), (2, .int (nI a)), (3, .int (nI k)), (5, .int (nI i))]) hx hb dX2_shortest_67 hl (by decide) rfl (fun ls hl => ?_)
      refine lv_iinc (v := nI (i + 1)) (lv' := [(5, .int (nI (i + 1))), (4, .int (nI (mx_cnt (sf k) (i + 1)))), (0, .ref g0), (1, .int (nI j)), (2, .int (nI a)), (3, .int (nI k))]) hx hb dX2_shortest_69 hl (k := 5) rfl ((nI_succ i).symm) (by decide) rfl (fun ls hl => ?_)
      refine lv_goto (tgt := 46) hx hb dX2_shortest_72 (by decide) ?_
      exact ih (i + 1) _ _ _ (by omega) (hP.sub [0, 1] rfl) (hD.sub [0, 1] (by decide) rfl) hS (lv_sub hl [2, 3, 4, 5, 1, 0] rfl)
set_option maxHeartbeats 4000000 in
set_option maxRecDepth 100000 in
theorem lpX2_shortest {p : Program} {l : Launch} {e : Env} {s : State} {m : MethodId} {args : Array Value} {below : List Frame} {meth : Method} {c : Code} {Q : State → Prop} {D : va_G} {A : Nat → Prop} {H0 : Heap} (C0 : CallFix p m c cX2_shortest 6 s args wsX2_shortest RX2) (hN : gx_N s) (hA : ∀ q : Nat, H0.size ≤ q → A q) {g0 p1 b1 q1 t1 a1 l1 v1 M R n j : Nat} {dS : ClassId} {U : Nat → Int32} {sf : Nat → Nat} (hn : n ≤ 70) (hU : ∀ k, k < n → sf k < 256 ∧ U k = nI (sf k)) (hj : j < 8) (hK : va_K D vwCl [(dS, .int)] s) (kk : ∀ (H : Heap) (locs : List Loc) (ls : Array Slot), va_P D vwCl [(g0, .inr (2, [.ref p1, .ref b1, .int (nI M), .int (nI R), .int (nI n), .ref q1, .ref t1, .ref a1, .ref l1, .ref v1])), (q1, .inl (dS, 70, .inl U))] H → va_D A [(g0, .inr (2, [.ref p1, .ref b1, .int (nI M), .int (nI R), .int (nI n), .ref q1, .ref t1, .ref a1, .ref l1, .ref v1])), (q1, .inl (dS, 70, .inl U))] → va_S A H0 H locs → lv_has ls 6 [(0, .ref g0), (1, .int (nI j)), (2, .int (nI (shs sf j n))), (3, .int (nI n))] → W p l e rmX2_shortest s m args below meth c H locs 0 0 Q (F0 m 94 ls [])) : ∀ (n_ : Nat) (k a : Nat) (H : Heap) (locs : List Loc) (ls : Array Slot), (k ≤ n ∧ n < k + n_) → (a = shs sf j k) → va_P D vwCl [(g0, .inr (2, [.ref p1, .ref b1, .int (nI M), .int (nI R), .int (nI n), .ref q1, .ref t1, .ref a1, .ref l1, .ref v1])), (q1, .inl (dS, 70, .inl U))] H → va_D A [(g0, .inr (2, [.ref p1, .ref b1, .int (nI M), .int (nI R), .int (nI n), .ref q1, .ref t1, .ref a1, .ref l1, .ref v1])), (q1, .inl (dS, 70, .inl U))] → va_S A H0 H locs → lv_has ls 6 [(0, .ref g0), (1, .int (nI j)), (2, .int (nI a)), (3, .int (nI k))] → W p l e rmX2_shortest s m args below meth c H locs 0 0 Q (F0 m 16 ls []) := by
  obtain ⟨hx, hb, hml, hown, hts⟩ := id C0
  intro n_
  induction n_ with
  | zero =>
    intro k a H locs ls hm
    exact absurd hm (by omega)
  | succ n_ ih =>
    intro k a H locs ls hm hI hP hD hS hl
    refine lv_iload_n hx hb dX2_shortest_16 rfl (lv_at hl 3 rfl) ?_
    refine lv_aload_n hx hb dX2_shortest_17 rfl (lv_at hl 0 rfl) ?_
    refine va_get (D := D) (ci := 2) (v := .int (nI n)) (C := RX2) (T := TX2) (N := 10) hx hb hts iw_X2_shortest_X2 hown hK hP 0 rfl rfl 4 (by decide) (hts _ kw_X2_shortest_40) (fun _ h9 => h9) rfl dX2_shortest_18 ?_
    refine gx_ge (tgt := 94) hx hb dX2_shortest_21 (by decide) (by omega) (by omega) (fun c_21 => ?_) (fun c_21 => ?_)
    · have hkn : k = n := by omega
      subst hkn
      subst hI
      exact kk _ _ _ (hP.sub [0, 1] rfl) (hD.sub [0, 1] (by decide) rfl) hS (lv_sub hl [0, 1, 2, 3] rfl)
    · obtain ⟨hs8, hs9⟩ := hU k c_21
      have ha8 := shs_le sf j k
      rw [← hI] at ha8
      have hc8 := mx_cnt_le (sf k) 8
      refine lv_aload_n hx hb dX2_shortest_24 rfl (lv_at hl 0 rfl) ?_
      refine va_get (D := D) (ci := 2) (v := .ref q1) (C := RX2) (T := TX2) (N := 10) hx hb hts iw_X2_shortest_X2 hown hK hP 0 rfl rfl 5 (by decide) (hts _ kw_X2_shortest_17) (fun _ h9 => h9) rfl dX2_shortest_25 ?_
      refine lv_iload_n hx hb dX2_shortest_28 rfl (lv_at hl 3 rfl) ?_
      refine gx_iald (q := k) hx hb hK hP 1 0 rfl rfl (rfl) (by omega) (by decide) dX2_shortest_29 ?_
      refine gx_i (y := nI (sf k)) (hs9) ?_
      refine lv_iload_n hx hb dX2_shortest_30 rfl (lv_at hl 1 rfl) ?_
      refine lv_ishr hx hb dX2_shortest_31 ?_
      refine lv_iconst (v := nI 1) hx hb dX2_shortest_32 (by decide) ?_
      refine lv_iand hx hb dX2_shortest_33 ?_
      refine gx_i (y := bI ((sf k).testBit j)) (sp_has (sf k) hs8 j hj) ?_
      refine gx_bne (tgt := 40) hx hb dX2_shortest_34 (by decide) (fun c_34 => ?_) (fun c_34 => ?_)
      · refine lv_iconst (v := nI 0) hx hb dX2_shortest_40 (by decide) ?_
        refine lv_istore (lv' := [(4, .int (nI 0)), (0, .ref g0), (1, .int (nI j)), (2, .int (nI a)), (3, .int (nI k))]) hx hb dX2_shortest_41 hl (by decide) rfl (fun ls hl => ?_)
        refine lv_iconst (v := nI 0) hx hb dX2_shortest_43 (by decide) ?_
        refine lv_istore (lv' := [(5, .int (nI 0)), (4, .int (nI 0)), (0, .ref g0), (1, .int (nI j)), (2, .int (nI a)), (3, .int (nI k))]) hx hb dX2_shortest_44 hl (by decide) rfl (fun ls hl => ?_)
        refine lpX2_shortest1 C0 hN hA hn hU c_21 hK (fun H locs ls hP hD hS hl => ?_) 9 0 _ _ _ (by omega) (hP.sub [0, 1] rfl) (hD.sub [0, 1] (by decide) rfl) hS (lv_sub hl [2, 3, 4, 5, 1, 0] rfl)
        refine lv_iload_n hx hb dX2_shortest_75 rfl (lv_at hl 2 rfl) ?_
        refine lv_if_eq (tgt := 85) hx hb dX2_shortest_76 (by decide) (fun c_76 => ?_) (fun c_76 => ?_)
        · have hq1 : shs sf j k = 0 ∨ mx_cnt (sf k) 8 < shs sf j k := Or.inl (by rw [← hI]; exact (nI_eq (by omega) (by omega)).mp (c_76.trans nI_0.symm))
          refine lv_iload hx hb dX2_shortest_85 (lv_at hl 4 rfl) ?_
          refine lv_istore_n (lv' := [(2, .int (nI (mx_cnt (sf k) 8))), (0, .ref g0), (1, .int (nI j)), (3, .int (nI k)), (4, .int (nI (mx_cnt (sf k) 8))), (5, .int (nI 8))]) hx hb dX2_shortest_87 rfl hl (by decide) rfl (fun ls hl => ?_)
          refine lv_iinc (v := nI (k + 1)) (lv' := [(3, .int (nI (k + 1))), (2, .int (nI (mx_cnt (sf k) 8))), (0, .ref g0), (1, .int (nI j)), (4, .int (nI (mx_cnt (sf k) 8))), (5, .int (nI 8))]) hx hb dX2_shortest_88 hl (k := 3) rfl ((nI_succ k).symm) (by decide) rfl (fun ls hl => ?_)
          refine lv_goto (tgt := 16) hx hb dX2_shortest_91 (by decide) ?_
          exact ih (k + 1) (mx_cnt (sf k) 8) _ _ _ (by omega) (shs_1 c_34 hq1) (hP.sub [0, 1] rfl) (hD.sub [0, 1] (by decide) rfl) hS (lv_sub hl [2, 3, 1, 0] rfl)
        · have hq0 : ¬ shs sf j k = 0 := fun q => c_76 (by rw [hI, q]; exact nI_0)
          refine lv_iload hx hb dX2_shortest_79 (lv_at hl 4 rfl) ?_
          refine lv_iload_n hx hb dX2_shortest_81 rfl (lv_at hl 2 rfl) ?_
          refine gx_ge (tgt := 88) hx hb dX2_shortest_82 (by decide) (by omega) (by omega) (fun c_82 => ?_) (fun c_82 => ?_)
          · refine lv_iinc (v := nI (k + 1)) (lv' := [(3, .int (nI (k + 1))), (0, .ref g0), (1, .int (nI j)), (2, .int (nI a)), (4, .int (nI (mx_cnt (sf k) 8))), (5, .int (nI 8))]) hx hb dX2_shortest_88 hl (k := 3) rfl ((nI_succ k).symm) (by decide) rfl (fun ls hl => ?_)
            refine lv_goto (tgt := 16) hx hb dX2_shortest_91 (by decide) ?_
            exact ih (k + 1) a _ _ _ (by omega) (hI.trans (shs_2 c_34 (fun q => q.elim hq0 (fun z => absurd (hI ▸ c_82) (by omega))))) (hP.sub [0, 1] rfl) (hD.sub [0, 1] (by decide) rfl) hS (lv_sub hl [1, 2, 3, 0] rfl)
          · have hq1 : shs sf j k = 0 ∨ mx_cnt (sf k) 8 < shs sf j k := Or.inr (hI ▸ c_82)
            refine lv_iload hx hb dX2_shortest_85 (lv_at hl 4 rfl) ?_
            refine lv_istore_n (lv' := [(2, .int (nI (mx_cnt (sf k) 8))), (0, .ref g0), (1, .int (nI j)), (3, .int (nI k)), (4, .int (nI (mx_cnt (sf k) 8))), (5, .int (nI 8))]) hx hb dX2_shortest_87 rfl hl (by decide) rfl (fun ls hl => ?_)
            refine lv_iinc (v := nI (k + 1)) (lv' := [(3, .int (nI (k + 1))), (2, .int (nI (mx_cnt (sf k) 8))), (0, .ref g0), (1, .int (nI j)), (4, .int (nI (mx_cnt (sf k) 8))), (5, .int (nI 8))]) hx hb dX2_shortest_88 hl (k := 3) rfl ((nI_succ k).symm) (by decide) rfl (fun ls hl => ?_)
            refine lv_goto (tgt := 16) hx hb dX2_shortest_91 (by decide) ?_
            exact ih (k + 1) (mx_cnt (sf k) 8) _ _ _ (by omega) (shs_1 c_34 hq1) (hP.sub [0, 1] rfl) (hD.sub [0, 1] (by decide) rfl) hS (lv_sub hl [2, 3, 1, 0] rfl)
      · refine lv_goto (tgt := 88) hx hb dX2_shortest_37 (by decide) ?_
        refine lv_iinc (v := nI (k + 1)) (lv' := [(3, .int (nI (k + 1))), (0, .ref g0), (1, .int (nI j)), (2, .int (nI a))]) hx hb dX2_shortest_88 hl (k := 3) rfl ((nI_succ k).symm) (by decide) rfl (fun ls hl => ?_)
        refine lv_goto (tgt := 16) hx hb dX2_shortest_91 (by decide) ?_
        exact ih (k + 1) a _ _ _ (by omega) (by rw [shs_out c_34]; exact hI) (hP.sub [0, 1] rfl) (hD.sub [0, 1] (by decide) rfl) hS (lv_sub hl [1, 2, 3, 0] rfl)
set_option maxHeartbeats 4000000 in
set_option maxRecDepth 100000 in
theorem kX2_shortest (l : Launch) (D : va_G) (g0 p1 b1 q1 t1 a1 l1 v1 M R n : Nat) (x : Int32) (dS : ClassId) (U : Nat → Int32) (sf : Nat → Nat) (hn : n ≤ 70) (hU : ∀ k, k < n → sf k < 256 ∧ U k = nI (sf k)) : gx_Mi l D yX2_shortest wsX2_shortest rmX2_shortest [.ref g0, .int x] [(dS, .int)] [(g0, .inr (2, [.ref p1, .ref b1, .int (nI M), .int (nI R), .int (nI n), .ref q1, .ref t1, .ref a1, .ref l1, .ref v1])), (q1, .inl (dS, 70, .inl U))] (S := Unit) (fun r (_ : Unit) => r = if sp_in x 8 = true then nI (shs sf x.toNatClampNeg n) else 0) (fun (_ : Unit) => [(g0, .inr (2, [.ref p1, .ref b1, .int (nI M), .int (nI R), .int (nI n), .ref q1, .ref t1, .ref a1, .ref l1, .ref v1])), (q1, .inl (dS, 70, .inl U))]) := by
  intro sz
  refine gx_start (cc := cX2_shortest) (maxL := 6) (ret := (some .int)) (Qc := fun A => va_Qi (fun r (_ : Unit) => r = if sp_in x 8 = true then nI (shs sf x.toNatClampNeg n) else 0) (gx_B D [(dS, .int)] A (fun (_ : Unit) => [(g0, .inr (2, [.ref p1, .ref b1, .int (nI M), .int (nI R), .int (nI n), .ref q1, .ref t1, .ref a1, .ref l1, .ref v1])), (q1, .inl (dS, 70, .inl U))])) A) (by decide) rfl (Nat.le_of_ble_eq_true rfl) ?_ sz
  intro p e s m below meth c A hbody ls hl
  obtain ⟨C0, hr, hlocks, hN, hK, hP, hD, hA⟩ := hbody
  have C0 : CallFix p m c cX2_shortest 6 s ([.ref g0, .int x] : List Value).toArray wsX2_shortest RX2 := C0
  obtain ⟨hx, hb, hml, hown, hts⟩ := id C0
  have hS : va_S A s.heap s.heap [] := va_S.rf
  have hl : lv_has ls 6 [(0, .ref g0), (1, .int x)] := hl
  refine lv_iload_n hx hb dX2_shortest_0 rfl (lv_at hl 1 rfl) ?_
  refine lv_if_lt (tgt := 10) hx hb dX2_shortest_1 (by decide) (fun c_1 => ?_) (fun c_1 => ?_)
  · have hz := sp_in_lo (n := 8) c_1
    refine lv_iconst (v := 0) hx hb dX2_shortest_10 (by decide) ?_
    exact gx_reti hx hb hr hlocks () (by rw [hz]; rfl) hK (hP.sub [0, 1] rfl) (hD.sub [0, 1] (by decide) rfl) hS dX2_shortest_11
  · refine lv_iload_n hx hb dX2_shortest_4 rfl (lv_at hl 1 rfl) ?_
    refine lv_bipush (v := nI 7) hx hb dX2_shortest_5 (by decide) ?_
    refine lv_icmp_le (tgt := 12) hx hb dX2_shortest_7 (by decide) (fun c_7 => ?_) (fun c_7 => ?_)
    · have hz := sp_8_ok c_1 (Int32.not_lt.mpr c_7)
      obtain ⟨j, hj, rfl⟩ := sp_in_t (by decide) hz
      refine lv_iconst (v := nI 0) hx hb dX2_shortest_12 (by decide) ?_
      refine lv_istore_n (lv' := [(2, .int (nI 0)), (0, .ref g0), (1, .int (nI j))]) hx hb dX2_shortest_13 rfl hl (by decide) rfl (fun ls hl => ?_)
      refine lv_iconst (v := nI 0) hx hb dX2_shortest_14 (by decide) ?_
      refine lv_istore_n (lv' := [(3, .int (nI 0)), (2, .int (nI 0)), (0, .ref g0), (1, .int (nI j))]) hx hb dX2_shortest_15 rfl hl (by decide) rfl (fun ls hl => ?_)
      refine lpX2_shortest C0 hN hA hn hU hj hK (fun H locs ls hP hD hS hl => ?_) (n + 1) 0 0 _ _ _ (by omega) rfl (hP.sub [0, 1] rfl) (hD.sub [0, 1] (by decide) rfl) hS (lv_sub hl [2, 3, 1, 0] rfl)
      refine lv_iload_n hx hb dX2_shortest_94 rfl (lv_at hl 2 rfl) ?_
      exact gx_reti hx hb hr hlocks () (by rw [hz, nI_clamp (by omega)]; rfl) hK (hP.sub [0, 1] rfl) (hD.sub [0, 1] (by decide) rfl) hS dX2_shortest_95
    · have hz := sp_8_hi (Int32.not_le.mp c_7)
      refine lv_iconst (v := 0) hx hb dX2_shortest_10 (by decide) ?_
      exact gx_reti hx hb hr hlocks () (by rw [hz]; rfl) hK (hP.sub [0, 1] rfl) (hD.sub [0, 1] (by decide) rfl) hS dX2_shortest_11
