abbrev rmX1_listIfSupport : Room := { frames := 4, cells := 0, slots := 0, locals := 103 }
theorem iw_X1_listIfSupport_X1 : ∀ w ∈ wsX10, w ∈ wsX1_listIfSupport := by decide +kernel
theorem kw_X1_listIfSupport_22 : Cond.fieldLink RX1 22 "FluxModes" "reduction" "LFluxModes$Reduction;" ∈ wsX1_listIfSupport := by decide +kernel
theorem kw_X1_listIfSupport_40 : Cond.fieldLink RX1 40 "FluxModes" "listed" "I" ∈ wsX1_listIfSupport := by decide +kernel
set_option maxHeartbeats 4000000 in
set_option maxRecDepth 100000 in
theorem kX1_listIfSupport (l : Launch) (D : va_G) (h0 e1 s1 r1 d1 w1 k1 M R V n S w t : Nat) (pv : Int64) (cE cS cR cK cW : ClassId) (E U T : Nat → Int32) (K F : Nat → Int64) (hM6 : M ≤ 6) (hR8 : R ≤ 8) (h9 : e9 E) (hs0 : 0 < S) (hSR : S < 2 ^ R) (hn : n ≤ 70) : gx_Mv l D yX1_listIfSupport wsX1_listIfSupport rmX1_listIfSupport [.ref h0, .int (nI S)] [(cE, .int), (cS, .int), (cR, .int), (cK, .long), (cW, .long)] [(h0, .inr (1, [.ref e1, .int (nI M), .int (nI R), .int (nI V), .ref s1, .ref r1, .int (nI n), .ref d1, .ref w1])), (e1, .inl (cE, 48, .inl E)), (s1, .inl (cS, 70, .inl U)), (r1, .inl (cR, 560, .inl T)), (d1, .inr (0, [.ref k1, .int (nI w), .int (nI t), .long pv])), (k1, .inl (cK, 48, .inr (.inl K))), (w1, .inl (cW, 8, .inr (.inl F)))] (S := Nat × (Nat → Int32) × (Nat → Int32) × Nat × Nat × Int64 × (Nat → Int64) × (Nat → Int64)) (fun (u : Nat × (Nat → Int32) × (Nat → Int32) × Nat × Nat × Int64 × (Nat → Int64) × (Nat → Int64)) => li_P E M V S n U T u.1 u.2.1 u.2.2.1) (fun (u : Nat × (Nat → Int32) × (Nat → Int32) × Nat × Nat × Int64 × (Nat → Int64) × (Nat → Int64)) => [(h0, .inr (1, [.ref e1, .int (nI M), .int (nI R), .int (nI V), .ref s1, .ref r1, .int (nI (u.1)), .ref d1, .ref w1])), (e1, .inl (cE, 48, .inl E)), (s1, .inl (cS, 70, .inl u.2.1)), (r1, .inl (cR, 560, .inl u.2.2.1)), (d1, .inr (0, [.ref k1, .int (nI (u.2.2.2.1)), .int (nI (u.2.2.2.2.1)), .long u.2.2.2.2.2.1])), (k1, .inl (cK, 48, .inr (.inl u.2.2.2.2.2.2.1))), (w1, .inl (cW, 8, .inr (.inl u.2.2.2.2.2.2.2)))]) := by
  intro sz
  refine gx_start (cc := cX1_listIfSupport) (maxL := 3) (ret := none) (Qc := fun A => va_Qv (fun (u : Nat × (Nat → Int32) × (Nat → Int32) × Nat × Nat × Int64 × (Nat → Int64) × (Nat → Int64)) => li_P E M V S n U T u.1 u.2.1 u.2.2.1) (gx_B D [(cE, .int), (cS, .int), (cR, .int), (cK, .long), (cW, .long)] A (fun (u : Nat × (Nat → Int32) × (Nat → Int32) × Nat × Nat × Int64 × (Nat → Int64) × (Nat → Int64)) => [(h0, .inr (1, [.ref e1, .int (nI M), .int (nI R), .int (nI V), .ref s1, .ref r1, .int (nI (u.1)), .ref d1, .ref w1])), (e1, .inl (cE, 48, .inl E)), (s1, .inl (cS, 70, .inl u.2.1)), (r1, .inl (cR, 560, .inl u.2.2.1)), (d1, .inr (0, [.ref k1, .int (nI (u.2.2.2.1)), .int (nI (u.2.2.2.2.1)), .long u.2.2.2.2.2.1])), (k1, .inl (cK, 48, .inr (.inl u.2.2.2.2.2.2.1))), (w1, .inl (cW, 8, .inr (.inl u.2.2.2.2.2.2.2)))])) A) (by decide) rfl (Nat.le_of_ble_eq_true rfl) ?_ sz
  intro p e s m below meth c A hbody ls hl
  obtain ⟨C0, hr, hlocks, hN, hK, hP, hD, hA⟩ := hbody
  have C0 : CallFix p m c cX1_listIfSupport 3 s ([.ref h0, .int (nI S)] : List Value).toArray wsX1_listIfSupport RX1 := C0
  obtain ⟨hx, hb, hml, hown, hts⟩ := id C0
  have hS : va_S A s.heap s.heap [] := va_S.rf
  have hl : lv_has ls 3 [(0, .ref h0), (1, .int (nI S))] := hl
  have hs8 : S < 256 := Nat.lt_of_lt_of_le hSR (pow_256 hR8)
  have hce : mx_cnt S 8 = mx_cnt S R := cnt_hi hSR hR8
  have hc8 : mx_cnt S 8 ≤ 8 := mx_cnt_le S 8
  have hc1 : 1 ≤ mx_cnt S 8 := nz_cnt S hs8 hs0
  refine lv_aload_n hx hb dX1_listIfSupport_0 rfl (lv_at hl 0 rfl) ?_
  refine va_get (D := D) (ci := 1) (v := .int (nI n)) (C := RX1) (T := TX1) (N := 9) hx hb hts iw_X1_listIfSupport_X1 hown hK hP 0 rfl rfl 6 (by decide) (hts _ kw_X1_listIfSupport_40) (fun _ h9 => h9) rfl dX1_listIfSupport_1 ?_
  refine lv_bipush (v := nI 70) hx hb dX1_listIfSupport_4 (by decide) ?_
  refine gx_lt (tgt := 10) hx hb dX1_listIfSupport_6 (by decide) (by omega) (by omega) (fun c_6 => ?_) (fun c_6 => ?_)
  · refine lv_aload_n hx hb dX1_listIfSupport_10 rfl (lv_at hl 0 rfl) ?_
    refine lv_iload_n hx hb dX1_listIfSupport_11 rfl (lv_at hl 1 rfl) ?_
    refine gx_jv (wr := [(s1, .inl (cS, 70, .inl U)), (r1, .inl (cR, 560, .inl T)), (w1, .inl (cW, 8, .inr (.inl F)))]) (gx_rV (As := [.int (nI S)]) (rest := []) C0 (kX1_loadColumns l D h0 e1 s1 r1 d1 w1 k1 M R V n S w t pv cE cK E K hM6 hR8 hs8 _) (cwV 1 hts gX1_listIfSupport_X1_loadColumns rfl rfl rfl (by decide +kernel) ⟨Nat.le_of_ble_eq_true rfl, Nat.le_of_ble_eq_true rfl⟩) hN hK hP hD [0, 1, 4, 5] [0, 3] rfl rfl (by decide) rfl 0 rfl rfl rfl rfl hl.1 rfl (Nat.le_of_ble_eq_true rfl) dX1_listIfSupport_12 ⟨Nat.zero_le _, Nat.zero_le _⟩) hP hD hS hA [0, 1, 4, 5] [2, 3, 6] rfl rfl (by decide) (by decide) (fun u H locs hw hP hD hS => ?_)
    obtain ⟨t1, K1⟩ := u
    have hw1 : t1 = mx_cnt S R := hw.1
    have hw2 : lc_I E S 8 M K1 := lc_8 hw.2 hce
    rw [← hce] at hw1
    subst hw1
    have hP : va_P D vwCl [(s1, .inl (cS, 70, .inl U)), (r1, .inl (cR, 560, .inl T)), (w1, .inl (cW, 8, .inr (.inl F))), (h0, .inr (1, [.ref e1, .int (nI M), .int (nI R), .int (nI V), .ref s1, .ref r1, .int (nI n), .ref d1, .ref w1])), (e1, .inl (cE, 48, .inl E)), (d1, .inr (0, [.ref k1, .int (nI M), .int (nI (mx_cnt S 8)), .long 1])), (k1, .inl (cK, 48, .inr (.inl K1)))] H := hP
    have hD : va_D A [(s1, .inl (cS, 70, .inl U)), (r1, .inl (cR, 560, .inl T)), (w1, .inl (cW, 8, .inr (.inl F))), (h0, .inr (1, [.ref e1, .int (nI M), .int (nI R), .int (nI V), .ref s1, .ref r1, .int (nI n), .ref d1, .ref w1])), (e1, .inl (cE, 48, .inl E)), (d1, .inr (0, [.ref k1, .int (nI M), .int (nI (mx_cnt S 8)), .long 1])), (k1, .inl (cK, 48, .inr (.inl K1)))] := hD
    refine lv_aload_n hx hb dX1_listIfSupport_15 rfl (lv_at hl 0 rfl) ?_
    refine va_get (D := D) (ci := 1) (v := .ref d1) (C := RX1) (T := TX1) (N := 9) hx hb hts iw_X1_listIfSupport_X1 hown hK hP 3 rfl rfl 7 (by decide) (hts _ kw_X1_listIfSupport_22) (fun _ h9 => h9) rfl dX1_listIfSupport_16 ?_
    refine gx_ji (wr := [(s1, .inl (cS, 70, .inl U)), (r1, .inl (cR, 560, .inl T)), (w1, .inl (cW, 8, .inr (.inl F))), (h0, .inr (1, [.ref e1, .int (nI M), .int (nI R), .int (nI V), .ref s1, .ref r1, .int (nI n), .ref d1, .ref w1])), (e1, .inl (cE, 48, .inl E))]) (gx_rV (As := []) (rest := []) C0 (kX0_leavesOneFullFlow l D d1 k1 M (mx_cnt S 8) cK (fc E S) K1 hM6 hc8 hc1 (fc_9 h9 S) (fc_K hM6 hw2) _) (cwV 0 hts gX1_listIfSupport_X0_leavesOneFullFlow rfl rfl rfl (by decide +kernel) ⟨Nat.le_of_ble_eq_true rfl, Nat.le_of_ble_eq_true rfl⟩) hN hK hP hD [5, 6] [3] rfl rfl (by decide) rfl 0 rfl rfl rfl rfl hl.1 rfl (Nat.le_of_ble_eq_true rfl) dX1_listIfSupport_19 ⟨Nat.zero_le _, Nat.zero_le _⟩) hP hD hS hA [5, 6] [0, 1, 2, 3, 4] rfl rfl (by decide) (by decide) (fun r u H locs hw hP hD hS => ?_)
    obtain ⟨K2, pv2⟩ := u
    obtain ⟨b, hb9, hq1, hq2⟩ := hw
    subst hb9
    have hP : va_P D vwCl [(s1, .inl (cS, 70, .inl U)), (r1, .inl (cR, 560, .inl T)), (w1, .inl (cW, 8, .inr (.inl F))), (h0, .inr (1, [.ref e1, .int (nI M), .int (nI R), .int (nI V), .ref s1, .ref r1, .int (nI n), .ref d1, .ref w1])), (e1, .inl (cE, 48, .inl E)), (d1, .inr (0, [.ref k1, .int (nI M), .int (nI (mx_cnt S 8)), .long pv2])), (k1, .inl (cK, 48, .inr (.inl K2)))] H := hP
    have hD : va_D A [(s1, .inl (cS, 70, .inl U)), (r1, .inl (cR, 560, .inl T)), (w1, .inl (cW, 8, .inr (.inl F))), (h0, .inr (1, [.ref e1, .int (nI M), .int (nI R), .int (nI V), .ref s1, .ref r1, .int (nI n), .ref d1, .ref w1])), (e1, .inl (cE, 48, .inl E)), (d1, .inr (0, [.ref k1, .int (nI M), .int (nI (mx_cnt S 8)), .long pv2])), (k1, .inl (cK, 48, .inr (.inl K2)))] := hD
    refine gx_bne (tgt := 26) hx hb dX1_listIfSupport_22 (by decide) (fun c_22 => ?_) (fun c_22 => ?_)
    · refine lv_aload_n hx hb dX1_listIfSupport_26 rfl (lv_at hl 0 rfl) ?_
      refine lv_iload_n hx hb dX1_listIfSupport_27 rfl (lv_at hl 1 rfl) ?_
      refine gx_jv (wr := [(s1, .inl (cS, 70, .inl U)), (r1, .inl (cR, 560, .inl T)), (e1, .inl (cE, 48, .inl E))]) (gx_rV (As := [.int (nI S)]) (rest := []) C0 (kX1_readFlow l D h0 e1 s1 r1 d1 w1 k1 M R V n S M (mx_cnt S 8) pv2 cK cW K2 F hM6 hc8 hc1 hs8 _) (cwV 1 hts gX1_listIfSupport_X1_readFlow rfl rfl rfl (by decide +kernel) ⟨Nat.le_of_ble_eq_true rfl, Nat.le_of_ble_eq_true rfl⟩) hN hK hP hD [3, 5, 6, 2] [3, 4] rfl rfl (by decide) rfl 0 rfl rfl rfl rfl hl.1 rfl (Nat.le_of_ble_eq_true rfl) dX1_listIfSupport_28 ⟨Nat.zero_le _, Nat.zero_le _⟩) hP hD hS hA [3, 5, 6, 2] [0, 1, 4] rfl rfl (by decide) (by decide) (fun u H locs hw hP hD hS => ?_)
      obtain ⟨F1, rfl⟩ : ∃ z, z = u := ⟨_, rfl⟩
      have hF : ∀ j, j < 8 → F1 j = Int64.ofInt (fvv E M S j) := fl_read (hq1 c_22) hw
      have hP : va_P D vwCl [(s1, .inl (cS, 70, .inl U)), (r1, .inl (cR, 560, .inl T)), (e1, .inl (cE, 48, .inl E)), (h0, .inr (1, [.ref e1, .int (nI M), .int (nI R), .int (nI V), .ref s1, .ref r1, .int (nI n), .ref d1, .ref w1])), (d1, .inr (0, [.ref k1, .int (nI M), .int (nI (mx_cnt S 8)), .long pv2])), (k1, .inl (cK, 48, .inr (.inl K2))), (w1, .inl (cW, 8, .inr (.inl F1)))] H := hP
      have hD : va_D A [(s1, .inl (cS, 70, .inl U)), (r1, .inl (cR, 560, .inl T)), (e1, .inl (cE, 48, .inl E)), (h0, .inr (1, [.ref e1, .int (nI M), .int (nI R), .int (nI V), .ref s1, .ref r1, .int (nI n), .ref d1, .ref w1])), (d1, .inr (0, [.ref k1, .int (nI M), .int (nI (mx_cnt S 8)), .long pv2])), (k1, .inl (cK, 48, .inr (.inl K2))), (w1, .inl (cW, 8, .inr (.inl F1)))] := hD
      refine lv_aload_n hx hb dX1_listIfSupport_31 rfl (lv_at hl 0 rfl) ?_
      refine lv_iload_n hx hb dX1_listIfSupport_32 rfl (lv_at hl 1 rfl) ?_
      refine gx_ji (wr := [(s1, .inl (cS, 70, .inl U)), (r1, .inl (cR, 560, .inl T)), (e1, .inl (cE, 48, .inl E)), (d1, .inr (0, [.ref k1, .int (nI M), .int (nI (mx_cnt S 8)), .long pv2])), (k1, .inl (cK, 48, .inr (.inl K2)))]) (gx_rV (As := [.int (nI S)]) (rest := []) C0 (kX1_allowedDirection l D h0 e1 s1 r1 d1 w1 M R V n S cW F1 hs8 hs0 _) (cwV 1 hts gX1_listIfSupport_X1_allowedDirection rfl rfl rfl (by decide +kernel) ⟨Nat.le_of_ble_eq_true rfl, Nat.le_of_ble_eq_true rfl⟩) hN hK hP hD [3, 6] [4] rfl rfl (by decide) rfl 0 rfl rfl rfl rfl hl.1 rfl (Nat.le_of_ble_eq_true rfl) dX1_listIfSupport_33 ⟨Nat.zero_le _, Nat.zero_le _⟩) hP hD hS hA [3, 6] [0, 1, 2, 4, 5] rfl rfl (by decide) (by decide) (fun r u H locs hw hP hD hS => ?_)
      have hw : r = dirv E M V S := Eq.trans hw (dir_eq hM6 h9 hs8 hs0 hF)
      subst hw
      have hP : va_P D vwCl [(s1, .inl (cS, 70, .inl U)), (r1, .inl (cR, 560, .inl T)), (e1, .inl (cE, 48, .inl E)), (d1, .inr (0, [.ref k1, .int (nI M), .int (nI (mx_cnt S 8)), .long pv2])), (k1, .inl (cK, 48, .inr (.inl K2))), (h0, .inr (1, [.ref e1, .int (nI M), .int (nI R), .int (nI V), .ref s1, .ref r1, .int (nI n), .ref d1, .ref w1])), (w1, .inl (cW, 8, .inr (.inl F1)))] H := hP
      have hD : va_D A [(s1, .inl (cS, 70, .inl U)), (r1, .inl (cR, 560, .inl T)), (e1, .inl (cE, 48, .inl E)), (d1, .inr (0, [.ref k1, .int (nI M), .int (nI (mx_cnt S 8)), .long pv2])), (k1, .inl (cK, 48, .inr (.inl K2))), (h0, .inr (1, [.ref e1, .int (nI M), .int (nI R), .int (nI V), .ref s1, .ref r1, .int (nI n), .ref d1, .ref w1])), (w1, .inl (cW, 8, .inr (.inl F1)))] := hD
      refine lv_istore_n (lv' := [(2, .int (dirv E M V S)), (0, .ref h0), (1, .int (nI S))]) hx hb dX1_listIfSupport_36 rfl hl (by decide) rfl (fun ls hl => ?_)
      refine lv_iload_n hx hb dX1_listIfSupport_37 rfl (lv_at hl 0 rfl) ?_
      refine lv_if_eq (tgt := 47) hx hb dX1_listIfSupport_38 (by decide) (fun c_38 => ?_) (fun c_38 => ?_)
      · exact gx_retv hx hb hr hlocks (n, U, T, M, mx_cnt S 8, pv2, K2, F1) (li_no (fun q => q.2.2 c_38)) hK (hP.sub [5, 2, 0, 1, 3, 4, 6] rfl) (hD.sub [5, 2, 0, 1, 3, 4, 6] (by decide) rfl) hS dX1_listIfSupport_47
      · refine lv_aload_n hx hb dX1_listIfSupport_41 rfl (lv_at hl 1 rfl) ?_
        refine lv_iload_n hx hb dX1_listIfSupport_42 rfl (lv_at hl 2 rfl) ?_
        refine lv_iload_n hx hb dX1_listIfSupport_43 rfl (lv_at hl 0 rfl) ?_
        refine gx_jv (wr := [(e1, .inl (cE, 48, .inl E)), (d1, .inr (0, [.ref k1, .int (nI M), .int (nI (mx_cnt S 8)), .long pv2])), (k1, .inl (cK, 48, .inr (.inl K2)))]) (gx_rV (As := [.int (nI S), .int (dirv E M V S)]) (rest := []) C0 (kX1_list l D h0 e1 s1 r1 d1 w1 M R V n S (dirv E M V S) cS cR cW U T F1 (fvv E M S) (by omega) hF (fun j hj => fvv_abs hM6 h9 S j hj) _) (cwV 2 hts gX1_listIfSupport_X1_list rfl rfl rfl (by decide +kernel) ⟨Nat.le_of_ble_eq_true rfl, Nat.le_of_ble_eq_true rfl⟩) hN hK hP hD [5, 0, 1, 6] [1, 2, 4] rfl rfl (by decide) rfl 0 rfl rfl rfl rfl hl.1 rfl (Nat.le_of_ble_eq_true rfl) dX1_listIfSupport_44 ⟨Nat.zero_le _, Nat.zero_le _⟩) hP hD hS hA [5, 0, 1, 6] [2, 3, 4] rfl rfl (by decide) (by decide) (fun u H locs hw hP hD hS => ?_)
        obtain ⟨T1, rfl⟩ : ∃ z, z = u := ⟨_, rfl⟩
        have hr9 : rl_I T T1 n (ratv E M V S) 8 := hw
        have hP : va_P D vwCl [(e1, .inl (cE, 48, .inl E)), (d1, .inr (0, [.ref k1, .int (nI M), .int (nI (mx_cnt S 8)), .long pv2])), (k1, .inl (cK, 48, .inr (.inl K2))), (h0, .inr (1, [.ref e1, .int (nI M), .int (nI R), .int (nI V), .ref s1, .ref r1, .int (nI (n + 1)), .ref d1, .ref w1])), (s1, .inl (cS, 70, .inl (upd U n (nI S)))), (r1, .inl (cR, 560, .inl T1)), (w1, .inl (cW, 8, .inr (.inl F1)))] H := hP
        have hD : va_D A [(e1, .inl (cE, 48, .inl E)), (d1, .inr (0, [.ref k1, .int (nI M), .int (nI (mx_cnt S 8)), .long pv2])), (k1, .inl (cK, 48, .inr (.inl K2))), (h0, .inr (1, [.ref e1, .int (nI M), .int (nI R), .int (nI V), .ref s1, .ref r1, .int (nI (n + 1)), .ref d1, .ref w1])), (s1, .inl (cS, 70, .inl (upd U n (nI S)))), (r1, .inl (cR, 560, .inl T1)), (w1, .inl (cW, 8, .inr (.inl F1)))] := hD
        exact gx_retv hx hb hr hlocks (n + 1, upd U n (nI S), T1, M, mx_cnt S 8, pv2, K2, F1) (li_yes ⟨by omega, lf_T_ok (hq1 c_22), c_38⟩ hr9) hK (hP.sub [3, 0, 4, 5, 1, 2, 6] rfl) (hD.sub [3, 0, 4, 5, 1, 2, 6] (by decide) rfl) hS dX1_listIfSupport_47
    · exact gx_retv hx hb hr hlocks (n, U, T, M, mx_cnt S 8, pv2, K2, F) (li_no (fun q => lf_F_ok (hq2 c_22) q.2.1)) hK (hP.sub [3, 4, 0, 1, 5, 6, 2] rfl) (hD.sub [3, 4, 0, 1, 5, 6, 2] (by decide) rfl) hS dX1_listIfSupport_25
  · exact gx_retv hx hb hr hlocks (n, U, T, w, t, pv, K, F) (li_no (fun q => absurd q.1 (by omega))) hK (hP.sub [0, 1, 2, 3, 4, 5, 6] rfl) (hD.sub [0, 1, 2, 3, 4, 5, 6] (by decide) rfl) hS dX1_listIfSupport_9
abbrev rmX1_solve : Room := { frames := 5, cells := 0, slots := 0, locals := 125 }
theorem iw_X1_solve_X1 : ∀ w ∈ wsX10, w ∈ wsX1_solve := by decide +kernel
theorem kw_X1_solve_34 : Cond.fieldLink RX1 34 "FluxModes" "reactions" "I" ∈ wsX1_solve := by decide +kernel
theorem kw_X1_solve_40 : Cond.fieldLink RX1 40 "FluxModes" "listed" "I" ∈ wsX1_solve := by decide +kernel
set_option maxHeartbeats 4000000 in
set_option maxRecDepth 100000 in
theorem lpX1_solve {p : Program} {l : Launch} {e : Env} {s : State} {m : MethodId} {args : Array Value} {below : List Frame} {meth : Method} {c : Code} {Q : State → Prop} {D : va_G} {A : Nat → Prop} {H0 : Heap} (C0 : CallFix p m c cX1_solve 3 s args wsX1_solve RX1) (hN : gx_N s) (hA : ∀ q : Nat, H0.size ≤ q → A q) {h0 e1 s1 r1 d1 w1 k1 M R V Z : Nat} {cE cS cR cK cW : ClassId} {E : Nat → Int32} (hM6 : M ≤ 6) (hR8 : R ≤ 8) (h9 : e9 E) (hZ : Z = 2 ^ R) (hZ8 : Z ≤ 256) (hK : va_K D vwCl [(cE, .int), (cS, .int), (cR, .int), (cK, .long), (cW, .long)] s) (kk : ∀ (n : Nat) (U T : Nat → Int32) (w t : Nat) (pv : Int64) (K F : Nat → Int64) (H : Heap) (locs : List Loc) (ls : Array Slot), (LsM E M R V Z n U T) → va_P D vwCl [(h0, .inr (1, [.ref e1, .int (nI M), .int (nI R), .int (nI V), .ref s1, .ref r1, .int (nI n), .ref d1, .ref w1])), (e1, .inl (cE, 48, .inl E)), (s1, .inl (cS, 70, .inl U)), (r1, .inl (cR, 560, .inl T)), (d1, .inr (0, [.ref k1, .int (nI w), .int (nI t), .long pv])), (k1, .inl (cK, 48, .inr (.inl K))), (w1, .inl (cW, 8, .inr (.inl F)))] H → va_D A [(h0, .inr (1, [.ref e1, .int (nI M), .int (nI R), .int (nI V), .ref s1, .ref r1, .int (nI n), .ref d1, .ref w1])), (e1, .inl (cE, 48, .inl E)), (s1, .inl (cS, 70, .inl U)), (r1, .inl (cR, 560, .inl T)), (d1, .inr (0, [.ref k1, .int (nI w), .int (nI t), .long pv])), (k1, .inl (cK, 48, .inr (.inl K))), (w1, .inl (cW, 8, .inr (.inl F)))] → va_S A H0 H locs → lv_has ls 3 [(0, .ref h0), (1, .int (nI Z)), (2, .int (nI Z))] → W p l e rmX1_solve s m args below meth c H locs 0 0 Q (F0 m 30 ls [])) : ∀ (n_ : Nat) (N : Nat) (n : Nat) (U T : Nat → Int32) (w t : Nat) (pv : Int64) (K F : Nat → Int64) (H : Heap) (locs : List Loc) (ls : Array Slot), (N ≤ Z ∧ Z < N + n_) → (0 < N ∧ LsM E M R V N n U T) → va_P D vwCl [(h0, .inr (1, [.ref e1, .int (nI M), .int (nI R), .int (nI V), .ref s1, .ref r1, .int (nI n), .ref d1, .ref w1])), (e1, .inl (cE, 48, .inl E)), (s1, .inl (cS, 70, .inl U)), (r1, .inl (cR, 560, .inl T)), (d1, .inr (0, [.ref k1, .int (nI w), .int (nI t), .long pv])), (k1, .inl (cK, 48, .inr (.inl K))), (w1, .inl (cW, 8, .inr (.inl F)))] H → va_D A [(h0, .inr (1, [.ref e1, .int (nI M), .int (nI R), .int (nI V), .ref s1, .ref r1, .int (nI n), .ref d1, .ref w1])), (e1, .inl (cE, 48, .inl E)), (s1, .inl (cS, 70, .inl U)), (r1, .inl (cR, 560, .inl T)), (d1, .inr (0, [.ref k1, .int (nI w), .int (nI t), .long pv])), (k1, .inl (cK, 48, .inr (.inl K))), (w1, .inl (cW, 8, .inr (.inl F)))] → va_S A H0 H locs → lv_has ls 3 [(0, .ref h0), (1, .int (nI Z)), (2, .int (nI N))] → W p l e rmX1_solve s m args below meth c H locs 0 0 Q (F0 m 14 ls []) := by
  obtain ⟨hx, hb, hml, hown, hts⟩ := id C0
  intro n_
  induction n_ with
  | zero =>
    intro N n U T w t pv K F H locs ls hm
    exact absurd hm (by omega)
  | succ n_ ih =>
    intro N n U T w t pv K F H locs ls hm hI hP hD hS hl
    refine lv_iload_n hx hb dX1_solve_14 rfl (lv_at hl 2 rfl) ?_
    refine lv_iload_n hx hb dX1_solve_15 rfl (lv_at hl 1 rfl) ?_
    refine gx_ge (tgt := 30) hx hb dX1_solve_16 (by decide) (by omega) (by omega) (fun c_16 => ?_) (fun c_16 => ?_)
    · have hNZ : N = Z := by omega
      subst hNZ
      exact kk _ _ _ _ _ _ _ _ _ _ _ hI.2 (hP.sub [0, 1, 2, 3, 4, 5, 6] rfl) (hD.sub [0, 1, 2, 3, 4, 5, 6] (by decide) rfl) hS (lv_sub hl [0, 1, 2] rfl)
    · have hn70 : n ≤ 70 := LsM_70 hR8 (by omega) hI.2
      refine lv_aload_n hx hb dX1_solve_19 rfl (lv_at hl 0 rfl) ?_
      refine lv_iload_n hx hb dX1_solve_20 rfl (lv_at hl 2 rfl) ?_
      refine gx_jv (wr := []) (gx_rV (As := [.int (nI N)]) (rest := []) C0 (kX1_listIfSupport l D h0 e1 s1 r1 d1 w1 k1 M R V n N w t pv cE cS cR cK cW E U T K F hM6 hR8 h9 hI.1 (by rw [← hZ]; exact c_16) hn70 _) (cwV 1 hts gX1_solve_X1_listIfSupport rfl rfl rfl (by decide +kernel) ⟨Nat.le_of_ble_eq_true rfl, Nat.le_of_ble_eq_true rfl⟩) hN hK hP hD [0, 1, 2, 3, 4, 5, 6] [0, 1, 2, 3, 4] rfl rfl (by decide) rfl 0 rfl rfl rfl rfl hl.1 rfl (Nat.le_of_ble_eq_true rfl) dX1_solve_21 ⟨Nat.zero_le _, Nat.zero_le _⟩) hP hD hS hA [0, 1, 2, 3, 4, 5, 6] [] rfl rfl (by decide) (by decide) (fun u H locs hw hP hD hS => ?_)
      have hw : li_P E M V N n U T u.1 u.2.1 u.2.2.1 := hw
      have hP : va_P D vwCl [(h0, .inr (1, [.ref e1, .int (nI M), .int (nI R), .int (nI V), .ref s1, .ref r1, .int (nI (u.1)), .ref d1, .ref w1])), (e1, .inl (cE, 48, .inl E)), (s1, .inl (cS, 70, .inl u.2.1)), (r1, .inl (cR, 560, .inl u.2.2.1)), (d1, .inr (0, [.ref k1, .int (nI (u.2.2.2.1)), .int (nI (u.2.2.2.2.1)), .long u.2.2.2.2.2.1])), (k1, .inl (cK, 48, .inr (.inl u.2.2.2.2.2.2.1))), (w1, .inl (cW, 8, .inr (.inl u.2.2.2.2.2.2.2)))] H := hP
      have hD : va_D A [(h0, .inr (1, [.ref e1, .int (nI M), .int (nI R), .int (nI V), .ref s1, .ref r1, .int (nI (u.1)), .ref d1, .ref w1])), (e1, .inl (cE, 48, .inl E)), (s1, .inl (cS, 70, .inl u.2.1)), (r1, .inl (cR, 560, .inl u.2.2.1)), (d1, .inr (0, [.ref k1, .int (nI (u.2.2.2.1)), .int (nI (u.2.2.2.2.1)), .long u.2.2.2.2.2.1])), (k1, .inl (cK, 48, .inr (.inl u.2.2.2.2.2.2.1))), (w1, .inl (cW, 8, .inr (.inl u.2.2.2.2.2.2.2)))] := hD
      refine lv_iinc (v := nI (N + 1)) (lv' := [(2, .int (nI (N + 1))), (0, .ref h0), (1, .int (nI Z))]) hx hb dX1_solve_24 hl (k := 2) rfl ((nI_succ N).symm) (by decide) rfl (fun ls hl => ?_)
      refine lv_goto (tgt := 14) hx hb dX1_solve_27 (by decide) ?_
      exact ih (N + 1) _ _ _ _ _ _ _ _ _ _ _ (by omega) ⟨Nat.succ_pos N, LsM_s hR8 hI.1 (by rw [← hZ]; exact c_16) hI.2 hw⟩ (hP.sub [0, 1, 2, 3, 4, 5, 6] rfl) (hD.sub [0, 1, 2, 3, 4, 5, 6] (by decide) rfl) hS (lv_sub hl [1, 2, 0] rfl)
set_option maxHeartbeats 4000000 in
set_option maxRecDepth 100000 in
theorem kX1_solve (l : Launch) (D : va_G) (h0 e1 s1 r1 d1 w1 k1 M R V n w t : Nat) (pv : Int64) (cE cS cR cK cW : ClassId) (E U T : Nat → Int32) (K F : Nat → Int64) (hM6 : M ≤ 6) (hR8 : R ≤ 8) (h9 : e9 E) : gx_Mi l D yX1_solve wsX1_solve rmX1_solve [.ref h0] [(cE, .int), (cS, .int), (cR, .int), (cK, .long), (cW, .long)] [(h0, .inr (1, [.ref e1, .int (nI M), .int (nI R), .int (nI V), .ref s1, .ref r1, .int (nI n), .ref d1, .ref w1])), (e1, .inl (cE, 48, .inl E)), (s1, .inl (cS, 70, .inl U)), (r1, .inl (cR, 560, .inl T)), (d1, .inr (0, [.ref k1, .int (nI w), .int (nI t), .long pv])), (k1, .inl (cK, 48, .inr (.inl K))), (w1, .inl (cW, 8, .inr (.inl F)))] (S := Nat × (Nat → Int32) × (Nat → Int32) × Nat × Nat × Int64 × (Nat → Int64) × (Nat → Int64)) (fun r (u : Nat × (Nat → Int32) × (Nat → Int32) × Nat × Nat × Int64 × (Nat → Int64) × (Nat → Int64)) => r = nI u.1 ∧ LsM E M R V 256 u.1 u.2.1 u.2.2.1) (fun (u : Nat × (Nat → Int32) × (Nat → Int32) × Nat × Nat × Int64 × (Nat → Int64) × (Nat → Int64)) => [(h0, .inr (1, [.ref e1, .int (nI M), .int (nI R), .int (nI V), .ref s1, .ref r1, .int (nI (u.1)), .ref d1, .ref w1])), (e1, .inl (cE, 48, .inl E)), (s1, .inl (cS, 70, .inl u.2.1)), (r1, .inl (cR, 560, .inl u.2.2.1)), (d1, .inr (0, [.ref k1, .int (nI (u.2.2.2.1)), .int (nI (u.2.2.2.2.1)), .long u.2.2.2.2.2.1])), (k1, .inl (cK, 48, .inr (.inl u.2.2.2.2.2.2.1))), (w1, .inl (cW, 8, .inr (.inl u.2.2.2.2.2.2.2)))]) := by
  intro sz
  refine gx_start (cc := cX1_solve) (maxL := 3) (ret := (some .int)) (Qc := fun A => va_Qi (fun r (u : Nat × (Nat → Int32) × (Nat → Int32) × Nat × Nat × Int64 × (Nat → Int64) × (Nat → Int64)) => r = nI u.1 ∧ LsM E M R V 256 u.1 u.2.1 u.2.2.1) (gx_B D [(cE, .int), (cS, .int), (cR, .int), (cK, .long), (cW, .long)] A (fun (u : Nat × (Nat → Int32) × (Nat → Int32) × Nat × Nat × Int64 × (Nat → Int64) × (Nat → Int64)) => [(h0, .inr (1, [.ref e1, .int (nI M), .int (nI R), .int (nI V), .ref s1, .ref r1, .int (nI (u.1)), .ref d1, .ref w1])), (e1, .inl (cE, 48, .inl E)), (s1, .inl (cS, 70, .inl u.2.1)), (r1, .inl (cR, 560, .inl u.2.2.1)), (d1, .inr (0, [.ref k1, .int (nI (u.2.2.2.1)), .int (nI (u.2.2.2.2.1)), .long u.2.2.2.2.2.1])), (k1, .inl (cK, 48, .inr (.inl u.2.2.2.2.2.2.1))), (w1, .inl (cW, 8, .inr (.inl u.2.2.2.2.2.2.2)))])) A) (by decide) rfl (Nat.le_of_ble_eq_true rfl) ?_ sz
  intro p e s m below meth c A hbody ls hl
  obtain ⟨C0, hr, hlocks, hN, hK, hP, hD, hA⟩ := hbody
  have C0 : CallFix p m c cX1_solve 3 s ([.ref h0] : List Value).toArray wsX1_solve RX1 := C0
  obtain ⟨hx, hb, hml, hown, hts⟩ := id C0
  have hS : va_S A s.heap s.heap [] := va_S.rf
  have hl : lv_has ls 3 [(0, .ref h0)] := hl
  refine lv_aload_n hx hb dX1_solve_0 rfl (lv_at hl 0 rfl) ?_
  refine lv_iconst (v := nI 0) hx hb dX1_solve_1 (by decide) ?_
  refine va_put (D := D) (ci := 1) (v := .int (nI 0)) (ty := .int) (C := RX1) (T := TX1) (N := 9) hx hb hts iw_X1_solve_X1 tyX1 tyX1_ok nmX1 hown hK hP hD hS 0 rfl rfl 6 (by decide) (hts _ kw_X1_solve_40) (fun _ h9 => h9) rfl (by decide +kernel) rfl rfl (Nat.le_of_ble_eq_true rfl) dX1_solve_2 (fun H locs hP hD hS => ?_)
  have hP : va_P D vwCl [(h0, .inr (1, [.ref e1, .int (nI M), .int (nI R), .int (nI V), .ref s1, .ref r1, .int (nI 0), .ref d1, .ref w1])), (e1, .inl (cE, 48, .inl E)), (s1, .inl (cS, 70, .inl U)), (r1, .inl (cR, 560, .inl T)), (d1, .inr (0, [.ref k1, .int (nI w), .int (nI t), .long pv])), (k1, .inl (cK, 48, .inr (.inl K))), (w1, .inl (cW, 8, .inr (.inl F)))] H := hP
  have hD : va_D A [(h0, .inr (1, [.ref e1, .int (nI M), .int (nI R), .int (nI V), .ref s1, .ref r1, .int (nI 0), .ref d1, .ref w1])), (e1, .inl (cE, 48, .inl E)), (s1, .inl (cS, 70, .inl U)), (r1, .inl (cR, 560, .inl T)), (d1, .inr (0, [.ref k1, .int (nI w), .int (nI t), .long pv])), (k1, .inl (cK, 48, .inr (.inl K))), (w1, .inl (cW, 8, .inr (.inl F)))] := hD
  refine lv_iconst (v := nI 1) hx hb dX1_solve_5 (by decide) ?_
  refine lv_aload_n hx hb dX1_solve_6 rfl (lv_at hl 0 rfl) ?_
  refine va_get (D := D) (ci := 1) (v := .int (nI R)) (C := RX1) (T := TX1) (N := 9) hx hb hts iw_X1_solve_X1 hown hK hP 0 rfl rfl 2 (by decide) (hts _ kw_X1_solve_34) (fun _ h9 => h9) rfl dX1_solve_7 ?_
  refine lv_ishl hx hb dX1_solve_10 ?_
  refine gx_i (y := nI (2 ^ R)) (nx_shl1 R (by omega)) ?_
  refine lv_istore_n (lv' := [(1, .int (nI (2 ^ R))), (0, .ref h0)]) hx hb dX1_solve_11 rfl hl (by decide) rfl (fun ls hl => ?_)
  refine lv_iconst (v := nI 1) hx hb dX1_solve_12 (by decide) ?_
  refine lv_istore_n (lv' := [(2, .int (nI 1)), (1, .int (nI (2 ^ R))), (0, .ref h0)]) hx hb dX1_solve_13 rfl hl (by decide) rfl (fun ls hl => ?_)
  refine lpX1_solve C0 hN hA hM6 hR8 h9 rfl (pow_256 hR8) hK (fun n1 U1 T1 w1_ t1 pv1 K1 F1 H locs ls hI hP hD hS hl => ?_) (2 ^ R + 1) 1 0 U T w t pv K F _ _ _ (by have h1 := Nat.pow_pos (n := R) (show 0 < 2 by decide); omega) ⟨Nat.zero_lt_one, LsM_0 E M R V U T⟩ (hP.sub [0, 1, 2, 3, 4, 5, 6] rfl) (hD.sub [0, 1, 2, 3, 4, 5, 6] (by decide) rfl) hS (lv_sub hl [2, 1, 0] rfl)
  refine lv_aload_n hx hb dX1_solve_30 rfl (lv_at hl 0 rfl) ?_
  refine va_get (D := D) (ci := 1) (v := .int (nI n1)) (C := RX1) (T := TX1) (N := 9) hx hb hts iw_X1_solve_X1 hown hK hP 0 rfl rfl 6 (by decide) (hts _ kw_X1_solve_40) (fun _ h9 => h9) rfl dX1_solve_31 ?_
  exact gx_reti hx hb hr hlocks (n1, U1, T1, w1_, t1, pv1, K1, F1) (⟨rfl, LsM_up (pow_256 hR8) hI⟩) hK (hP.sub [0, 1, 2, 3, 4, 5, 6] rfl) (hD.sub [0, 1, 2, 3, 4, 5, 6] (by decide) rfl) hS dX1_solve_34
