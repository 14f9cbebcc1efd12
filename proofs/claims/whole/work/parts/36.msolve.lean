abbrev rmX2_solve : Room := { frames := 2, cells := 0, slots := 0, locals := 57 }
theorem iw_X2_solve_X2 : ∀ w ∈ wsX20, w ∈ wsX2_solve := by decide +kernel
theorem kw_X2_solve_33 : Cond.fieldLink RX2 33 "FluxModesModel" "\x72" "I" ∈ wsX2_solve := by decide +kernel
theorem kw_X2_solve_40 : Cond.fieldLink RX2 40 "FluxModesModel" "listed" "I" ∈ wsX2_solve := by decide +kernel
set_option maxHeartbeats 4000000 in
set_option maxRecDepth 100000 in
theorem lpX2_solve {p : Program} {l : Launch} {e : Env} {s : State} {m : MethodId} {args : Array Value} {below : List Frame} {meth : Method} {c : Code} {Q : State → Prop} {D : va_G} {A : Nat → Prop} {H0 : Heap} (C0 : CallFix p m c cX2_solve 2 s args wsX2_solve RX2) (hN : gx_N s) (hA : ∀ q : Nat, H0.size ≤ q → A q) {g0 p1 b1 q1 t1 a1 l1 v1 M R V : Nat} {dE dB dS dR dA dL dV : ClassId} {E Bt : Nat → Int32} (hM6 : M ≤ 6) (hR8 : R ≤ 8) (hR1 : 1 ≤ R) (h9 : e9 E) (hB : bts Bt V) (hK : va_K D vwCl [(dE, .int), (dB, .boolean), (dS, .int), (dR, .int), (dA, .long), (dL, .int), (dV, .long)] s) (kk : ∀ (n : Nat) (U T : Nat → Int32) (K : Nat → Int64) (Ld : Nat → Int32) (F : Nat → Int64) (H : Heap) (locs : List Loc) (ls : Array Slot), (LsM E M R V 256 n U T) → va_P D vwCl [(g0, .inr (2, [.ref p1, .ref b1, .int (nI M), .int (nI R), .int (nI n), .ref q1, .ref t1, .ref a1, .ref l1, .ref v1])), (p1, .inl (dE, 48, .inl E)), (b1, .inl (dB, 8, .inl Bt)), (q1, .inl (dS, 70, .inl U)), (t1, .inl (dR, 560, .inl T)), (a1, .inl (dA, 48, .inr (.inl K))), (l1, .inl (dL, 8, .inl Ld)), (v1, .inl (dV, 8, .inr (.inl F)))] H → va_D A [(g0, .inr (2, [.ref p1, .ref b1, .int (nI M), .int (nI R), .int (nI n), .ref q1, .ref t1, .ref a1, .ref l1, .ref v1])), (p1, .inl (dE, 48, .inl E)), (b1, .inl (dB, 8, .inl Bt)), (q1, .inl (dS, 70, .inl U)), (t1, .inl (dR, 560, .inl T)), (a1, .inl (dA, 48, .inr (.inl K))), (l1, .inl (dL, 8, .inl Ld)), (v1, .inl (dV, 8, .inr (.inl F)))] → va_S A H0 H locs → lv_has ls 2 [(0, .ref g0), (1, .int (nI 256))] → W p l e rmX2_solve s m args below meth c H locs 0 0 Q (F0 m 50 ls [])) : ∀ (n_ : Nat) (N : Nat) (n : Nat) (U T : Nat → Int32) (K : Nat → Int64) (Ld : Nat → Int32) (F : Nat → Int64) (H : Heap) (locs : List Loc) (ls : Array Slot), (N ≤ 256 ∧ 256 < N + n_) → (0 < N ∧ LsM E M R V N n U T) → va_P D vwCl [(g0, .inr (2, [.ref p1, .ref b1, .int (nI M), .int (nI R), .int (nI n), .ref q1, .ref t1, .ref a1, .ref l1, .ref v1])), (p1, .inl (dE, 48, .inl E)), (b1, .inl (dB, 8, .inl Bt)), (q1, .inl (dS, 70, .inl U)), (t1, .inl (dR, 560, .inl T)), (a1, .inl (dA, 48, .inr (.inl K))), (l1, .inl (dL, 8, .inl Ld)), (v1, .inl (dV, 8, .inr (.inl F)))] H → va_D A [(g0, .inr (2, [.ref p1, .ref b1, .int (nI M), .int (nI R), .int (nI n), .ref q1, .ref t1, .ref a1, .ref l1, .ref v1])), (p1, .inl (dE, 48, .inl E)), (b1, .inl (dB, 8, .inl Bt)), (q1, .inl (dS, 70, .inl U)), (t1, .inl (dR, 560, .inl T)), (a1, .inl (dA, 48, .inr (.inl K))), (l1, .inl (dL, 8, .inl Ld)), (v1, .inl (dV, 8, .inr (.inl F)))] → va_S A H0 H locs → lv_has ls 2 [(0, .ref g0), (1, .int (nI N))] → W p l e rmX2_solve s m args below meth c H locs 0 0 Q (F0 m 7 ls []) := by
  obtain ⟨hx, hb, hml, hown, hts⟩ := id C0
  intro n_
  induction n_ with
  | zero =>
    intro N n U T K Ld F H locs ls hm
    exact absurd hm (by omega)
  | succ n_ ih =>
    intro N n U T K Ld F H locs ls hm hI hP hD hS hl
    refine lv_iload_n hx hb dX2_solve_7 rfl (lv_at hl 1 rfl) ?_
    refine lv_sipush (v := nI 256) hx hb dX2_solve_8 (by decide) ?_
    refine gx_ge (tgt := 50) hx hb dX2_solve_11 (by decide) (by omega) (by omega) (fun c_11 => ?_) (fun c_11 => ?_)
    · have hN8 : N = 256 := by omega
      subst hN8
      exact kk _ _ _ _ _ _ _ _ _ hI.2 (hP.sub [0, 1, 2, 3, 4, 5, 6, 7] rfl) (hD.sub [0, 1, 2, 3, 4, 5, 6, 7] (by decide) rfl) hS (lv_sub hl [0, 1] rfl)
    · refine lv_iload_n hx hb dX2_solve_14 rfl (lv_at hl 1 rfl) ?_
      refine lv_aload_n hx hb dX2_solve_15 rfl (lv_at hl 0 rfl) ?_
      refine va_get (D := D) (ci := 2) (v := .int (nI R)) (C := RX2) (T := TX2) (N := 10) hx hb hts iw_X2_solve_X2 hown hK hP 0 rfl rfl 3 (by decide) (hts _ kw_X2_solve_33) (fun _ h9 => h9) rfl dX2_solve_16 ?_
      refine lv_ishr hx hb dX2_solve_19 ?_
      refine gx_i (y := nI (N / 2 ^ R)) (shr_R (by omega) hR8) ?_
      refine lv_if_ne (tgt := 44) hx hb dX2_solve_20 (by decide) (fun c_20 => ?_) (fun c_20 => ?_)
      · refine lv_iinc (v := nI (N + 1)) (lv' := [(1, .int (nI (N + 1))), (0, .ref g0)]) hx hb dX2_solve_44 hl (k := 1) rfl ((nI_succ N).symm) (by decide) rfl (fun ls hl => ?_)
        refine lv_goto (tgt := 7) hx hb dX2_solve_47 (by decide) ?_
        exact ih (N + 1) _ _ _ _ _ _ _ _ _ (by omega) ⟨Nat.succ_pos N, LsM_skip (fun q => shr_nz c_20 (lb_t.mp q).2.1) hI.2⟩ (hP.sub [0, 1, 2, 3, 4, 5, 6, 7] rfl) (hD.sub [0, 1, 2, 3, 4, 5, 6, 7] (by decide) rfl) hS (lv_sub hl [1, 0] rfl)
      · have hNR : N < 2 ^ R := shr_z (by omega) c_20
        have hs8 : N < 256 := c_11
        have hs0 := hI.1
        refine lv_aload_n hx hb dX2_solve_23 rfl (lv_at hl 0 rfl) ?_
        refine lv_iload_n hx hb dX2_solve_24 rfl (lv_at hl 1 rfl) ?_
        refine gx_ji (wr := [(b1, .inl (dB, 8, .inl Bt)), (q1, .inl (dS, 70, .inl U)), (t1, .inl (dR, 560, .inl T))]) (gx_rV (As := [.int (nI N)]) (rest := []) C0 (kX2_straight l D g0 p1 b1 q1 t1 a1 l1 v1 M R n N dE dA dL dV E Ld K F hM6 hR8 h9 hs8 hs0 hNR _) (cwV 1 hts gX2_solve_X2_straight rfl rfl rfl (by decide +kernel) ⟨Nat.le_of_ble_eq_true rfl, Nat.le_of_ble_eq_true rfl⟩) hN hK hP hD [0, 1, 5, 6, 7] [0, 4, 5, 6] rfl rfl (by decide) rfl 0 rfl rfl rfl rfl hl.1 rfl (Nat.le_of_ble_eq_true rfl) dX2_solve_25 ⟨Nat.zero_le _, Nat.zero_le _⟩) hP hD hS hA [0, 1, 5, 6, 7] [2, 3, 4] rfl rfl (by decide) (by decide) (fun r u H locs hw hP hD hS => ?_)
        obtain ⟨K1, Ld1, F1⟩ := u
        obtain ⟨b, hb9, hst⟩ := hw
        subst hb9
        have hst : st_P E M N b F1 := hst
        have hP : va_P D vwCl [(b1, .inl (dB, 8, .inl Bt)), (q1, .inl (dS, 70, .inl U)), (t1, .inl (dR, 560, .inl T)), (g0, .inr (2, [.ref p1, .ref b1, .int (nI M), .int (nI R), .int (nI n), .ref q1, .ref t1, .ref a1, .ref l1, .ref v1])), (p1, .inl (dE, 48, .inl E)), (a1, .inl (dA, 48, .inr (.inl K1))), (l1, .inl (dL, 8, .inl Ld1)), (v1, .inl (dV, 8, .inr (.inl F1)))] H := hP
        have hD : va_D A [(b1, .inl (dB, 8, .inl Bt)), (q1, .inl (dS, 70, .inl U)), (t1, .inl (dR, 560, .inl T)), (g0, .inr (2, [.ref p1, .ref b1, .int (nI M), .int (nI R), .int (nI n), .ref q1, .ref t1, .ref a1, .ref l1, .ref v1])), (p1, .inl (dE, 48, .inl E)), (a1, .inl (dA, 48, .inr (.inl K1))), (l1, .inl (dL, 8, .inl Ld1)), (v1, .inl (dV, 8, .inr (.inl F1)))] := hD
        refine gx_beq (tgt := 44) hx hb dX2_solve_28 (by decide) (fun c_28 => ?_) (fun c_28 => ?_)
        · have hno : ¬ lstd E M V N := ms_1 (c_28 ▸ hst)
          refine lv_iinc (v := nI (N + 1)) (lv' := [(1, .int (nI (N + 1))), (0, .ref g0)]) hx hb dX2_solve_44 hl (k := 1) rfl ((nI_succ N).symm) (by decide) rfl (fun ls hl => ?_)
          refine lv_goto (tgt := 7) hx hb dX2_solve_47 (by decide) ?_
          exact ih (N + 1) _ _ _ _ _ _ _ _ _ (by omega) ⟨Nat.succ_pos N, LsM_s hR8 hI.1 hNR hI.2 (li_no (fun q => hno q.2))⟩ (hP.sub [3, 4, 0, 1, 2, 5, 6, 7] rfl) (hD.sub [3, 4, 0, 1, 2, 5, 6, 7] (by decide) rfl) hS (lv_sub hl [1, 0] rfl)
        · have hst : st_P E M N true F1 := c_28 ▸ hst
          refine lv_aload_n hx hb dX2_solve_31 rfl (lv_at hl 0 rfl) ?_
          refine lv_iload_n hx hb dX2_solve_32 rfl (lv_at hl 1 rfl) ?_
          refine gx_ji (wr := [(q1, .inl (dS, 70, .inl U)), (t1, .inl (dR, 560, .inl T)), (p1, .inl (dE, 48, .inl E)), (a1, .inl (dA, 48, .inr (.inl K1))), (l1, .inl (dL, 8, .inl Ld1))]) (gx_rV (As := [.int (nI N)]) (rest := []) C0 (kX2_signed l D g0 p1 b1 q1 t1 a1 l1 v1 M R n N V dB dV Bt F1 hR8 hs8 hB hR1 hNR hs0 _) (cwV 1 hts gX2_solve_X2_signed rfl rfl rfl (by decide +kernel) ⟨Nat.le_of_ble_eq_true rfl, Nat.le_of_ble_eq_true rfl⟩) hN hK hP hD [3, 0, 7] [1, 6] rfl rfl (by decide) rfl 0 rfl rfl rfl rfl hl.1 rfl (Nat.le_of_ble_eq_true rfl) dX2_solve_33 ⟨Nat.zero_le _, Nat.zero_le _⟩) hP hD hS hA [3, 0, 7] [1, 2, 4, 5, 6] rfl rfl (by decide) (by decide) (fun r u H locs hw hP hD hS => ?_)
          obtain ⟨F2, rfl⟩ : ∃ z, z = u := ⟨_, rfl⟩
          obtain ⟨b2, hb8, hq1, hq2⟩ := hw
          subst hb8
          have hP : va_P D vwCl [(q1, .inl (dS, 70, .inl U)), (t1, .inl (dR, 560, .inl T)), (p1, .inl (dE, 48, .inl E)), (a1, .inl (dA, 48, .inr (.inl K1))), (l1, .inl (dL, 8, .inl Ld1)), (g0, .inr (2, [.ref p1, .ref b1, .int (nI M), .int (nI R), .int (nI n), .ref q1, .ref t1, .ref a1, .ref l1, .ref v1])), (b1, .inl (dB, 8, .inl Bt)), (v1, .inl (dV, 8, .inr (.inl F2)))] H := hP
          have hD : va_D A [(q1, .inl (dS, 70, .inl U)), (t1, .inl (dR, 560, .inl T)), (p1, .inl (dE, 48, .inl E)), (a1, .inl (dA, 48, .inr (.inl K1))), (l1, .inl (dL, 8, .inl Ld1)), (g0, .inr (2, [.ref p1, .ref b1, .int (nI M), .int (nI R), .int (nI n), .ref q1, .ref t1, .ref a1, .ref l1, .ref v1])), (b1, .inl (dB, 8, .inl Bt)), (v1, .inl (dV, 8, .inr (.inl F2)))] := hD
          refine gx_beq (tgt := 44) hx hb dX2_solve_36 (by decide) (fun c_36 => ?_) (fun c_36 => ?_)
          · have hno : ¬ lstd E M V N := ms_2 hM6 h9 hs8 hs0 hst (hq2 c_36)
            refine lv_iinc (v := nI (N + 1)) (lv' := [(1, .int (nI (N + 1))), (0, .ref g0)]) hx hb dX2_solve_44 hl (k := 1) rfl ((nI_succ N).symm) (by decide) rfl (fun ls hl => ?_)
            refine lv_goto (tgt := 7) hx hb dX2_solve_47 (by decide) ?_
            exact ih (N + 1) _ _ _ _ _ _ _ _ _ (by omega) ⟨Nat.succ_pos N, LsM_s hR8 hI.1 hNR hI.2 (li_no (fun q => hno q.2))⟩ (hP.sub [5, 2, 6, 0, 1, 3, 4, 7] rfl) (hD.sub [5, 2, 6, 0, 1, 3, 4, 7] (by decide) rfl) hS (lv_sub hl [1, 0] rfl)
          · obtain ⟨hsg, hF2⟩ := hq1 c_36
            obtain ⟨hlst, hF1⟩ := ms_3 hM6 h9 hs8 hs0 hst hsg
            have hF := ms_F hM6 h9 hs8 hs0 hlst hF1 hF2
            have hn70 := ms_70 hR8 hNR hs0 hI.2 hlst
            refine lv_aload_n hx hb dX2_solve_39 rfl (lv_at hl 0 rfl) ?_
            refine lv_iload_n hx hb dX2_solve_40 rfl (lv_at hl 1 rfl) ?_
            refine gx_jv (wr := [(p1, .inl (dE, 48, .inl E)), (a1, .inl (dA, 48, .inr (.inl K1))), (l1, .inl (dL, 8, .inl Ld1)), (b1, .inl (dB, 8, .inl Bt))]) (gx_rV (As := [.int (nI N)]) (rest := []) C0 (kX2_list l D g0 p1 b1 q1 t1 a1 l1 v1 M R n N dS dR dV U T F2 (sgf E M V N) hn70 hF (fun j hj => by rw [sgf_abs]; exact fvv_abs hM6 h9 N j hj) (by rw [gcv_sg]; exact gcv_ne hM6 h9 hs8 hs0 hlst.1) _) (cwV 1 hts gX2_solve_X2_list rfl rfl rfl (by decide +kernel) ⟨Nat.le_of_ble_eq_true rfl, Nat.le_of_ble_eq_true rfl⟩) hN hK hP hD [5, 0, 1, 7] [2, 3, 6] rfl rfl (by decide) rfl 0 rfl rfl rfl rfl hl.1 rfl (Nat.le_of_ble_eq_true rfl) dX2_solve_41 ⟨Nat.zero_le _, Nat.zero_le _⟩) hP hD hS hA [5, 0, 1, 7] [2, 3, 4, 6] rfl rfl (by decide) (by decide) (fun u H locs hw hP hD hS => ?_)
            obtain ⟨T1, rfl⟩ : ∃ z, z = u := ⟨_, rfl⟩
            have hr9 : rl_I T T1 n (ratv E M V N) 8 := ms_rate hM6 h9 hs8 hs0 hlst hw
            have hP : va_P D vwCl [(p1, .inl (dE, 48, .inl E)), (a1, .inl (dA, 48, .inr (.inl K1))), (l1, .inl (dL, 8, .inl Ld1)), (b1, .inl (dB, 8, .inl Bt)), (g0, .inr (2, [.ref p1, .ref b1, .int (nI M), .int (nI R), .int (nI (n + 1)), .ref q1, .ref t1, .ref a1, .ref l1, .ref v1])), (q1, .inl (dS, 70, .inl (upd U n (nI N)))), (t1, .inl (dR, 560, .inl T1)), (v1, .inl (dV, 8, .inr (.inl F2)))] H := hP
            have hD : va_D A [(p1, .inl (dE, 48, .inl E)), (a1, .inl (dA, 48, .inr (.inl K1))), (l1, .inl (dL, 8, .inl Ld1)), (b1, .inl (dB, 8, .inl Bt)), (g0, .inr (2, [.ref p1, .ref b1, .int (nI M), .int (nI R), .int (nI (n + 1)), .ref q1, .ref t1, .ref a1, .ref l1, .ref v1])), (q1, .inl (dS, 70, .inl (upd U n (nI N)))), (t1, .inl (dR, 560, .inl T1)), (v1, .inl (dV, 8, .inr (.inl F2)))] := hD
            refine lv_iinc (v := nI (N + 1)) (lv' := [(1, .int (nI (N + 1))), (0, .ref g0)]) hx hb dX2_solve_44 hl (k := 1) rfl ((nI_succ N).symm) (by decide) rfl (fun ls hl => ?_)
            refine lv_goto (tgt := 7) hx hb dX2_solve_47 (by decide) ?_
            exact ih (N + 1) _ _ _ _ _ _ _ _ _ (by omega) ⟨Nat.succ_pos N, LsM_s hR8 hI.1 hNR hI.2 (li_yes ⟨ms_70 hR8 hNR hI.1 hI.2 hlst, hlst⟩ hr9)⟩ (hP.sub [4, 0, 3, 5, 6, 1, 2, 7] rfl) (hD.sub [4, 0, 3, 5, 6, 1, 2, 7] (by decide) rfl) hS (lv_sub hl [1, 0] rfl)
set_option maxHeartbeats 4000000 in
set_option maxRecDepth 100000 in
theorem kX2_solve (l : Launch) (D : va_G) (g0 p1 b1 q1 t1 a1 l1 v1 M R n : Nat) (V : Nat) (dE dB dS dR dA dL dV : ClassId) (E Bt U T Ld : Nat → Int32) (K F : Nat → Int64) (hM6 : M ≤ 6) (hR8 : R ≤ 8) (hR1 : 1 ≤ R) (h9 : e9 E) (hB : bts Bt V) : gx_Mi l D yX2_solve wsX2_solve rmX2_solve [.ref g0] [(dE, .int), (dB, .boolean), (dS, .int), (dR, .int), (dA, .long), (dL, .int), (dV, .long)] [(g0, .inr (2, [.ref p1, .ref b1, .int (nI M), .int (nI R), .int (nI n), .ref q1, .ref t1, .ref a1, .ref l1, .ref v1])), (p1, .inl (dE, 48, .inl E)), (b1, .inl (dB, 8, .inl Bt)), (q1, .inl (dS, 70, .inl U)), (t1, .inl (dR, 560, .inl T)), (a1, .inl (dA, 48, .inr (.inl K))), (l1, .inl (dL, 8, .inl Ld)), (v1, .inl (dV, 8, .inr (.inl F)))] (S := Nat × (Nat → Int32) × (Nat → Int32) × (Nat → Int64) × (Nat → Int32) × (Nat → Int64)) (fun r (u : Nat × (Nat → Int32) × (Nat → Int32) × (Nat → Int64) × (Nat → Int32) × (Nat → Int64)) => r = nI u.1 ∧ LsM E M R V 256 u.1 u.2.1 u.2.2.1) (fun (u : Nat × (Nat → Int32) × (Nat → Int32) × (Nat → Int64) × (Nat → Int32) × (Nat → Int64)) => [(g0, .inr (2, [.ref p1, .ref b1, .int (nI M), .int (nI R), .int (nI (u.1)), .ref q1, .ref t1, .ref a1, .ref l1, .ref v1])), (p1, .inl (dE, 48, .inl E)), (b1, .inl (dB, 8, .inl Bt)), (q1, .inl (dS, 70, .inl u.2.1)), (t1, .inl (dR, 560, .inl u.2.2.1)), (a1, .inl (dA, 48, .inr (.inl u.2.2.2.1))), (l1, .inl (dL, 8, .inl u.2.2.2.2.1)), (v1, .inl (dV, 8, .inr (.inl u.2.2.2.2.2)))]) := by
  intro sz
  refine gx_start (cc := cX2_solve) (maxL := 2) (ret := (some .int)) (Qc := fun A => va_Qi (fun r (u : Nat × (Nat → Int32) × (Nat → Int32) × (Nat → Int64) × (Nat → Int32) × (Nat → Int64)) => r = nI u.1 ∧ LsM E M R V 256 u.1 u.2.1 u.2.2.1) (gx_B D [(dE, .int), (dB, .boolean), (dS, .int), (dR, .int), (dA, .long), (dL, .int), (dV, .long)] A (fun (u : Nat × (Nat → Int32) × (Nat → Int32) × (Nat → Int64) × (Nat → Int32) × (Nat → Int64)) => [(g0, .inr (2, [.ref p1, .ref b1, .int (nI M), .int (nI R), .int (nI (u.1)), .ref q1, .ref t1, .ref a1, .ref l1, .ref v1])), (p1, .inl (dE, 48, .inl E)), (b1, .inl (dB, 8, .inl Bt)), (q1, .inl (dS, 70, .inl u.2.1)), (t1, .inl (dR, 560, .inl u.2.2.1)), (a1, .inl (dA, 48, .inr (.inl u.2.2.2.1))), (l1, .inl (dL, 8, .inl u.2.2.2.2.1)), (v1, .inl (dV, 8, .inr (.inl u.2.2.2.2.2)))])) A) (by decide) rfl (Nat.le_of_ble_eq_true rfl) ?_ sz
  intro p e s m below meth c A hbody ls hl
  obtain ⟨C0, hr, hlocks, hN, hK, hP, hD, hA⟩ := hbody
  have C0 : CallFix p m c cX2_solve 2 s ([.ref g0] : List Value).toArray wsX2_solve RX2 := C0
  obtain ⟨hx, hb, hml, hown, hts⟩ := id C0
  have hS : va_S A s.heap s.heap [] := va_S.rf
  have hl : lv_has ls 2 [(0, .ref g0)] := hl
  refine lv_aload_n hx hb dX2_solve_0 rfl (lv_at hl 0 rfl) ?_
  refine lv_iconst (v := nI 0) hx hb dX2_solve_1 (by decide) ?_
  refine va_put (D := D) (ci := 2) (v := .int (nI 0)) (ty := .int) (C := RX2) (T := TX2) (N := 10) hx hb hts iw_X2_solve_X2 tyX2 tyX2_ok nmX2 hown hK hP hD hS 0 rfl rfl 4 (by decide) (hts _ kw_X2_solve_40) (fun _ h9 => h9) rfl (by decide +kernel) rfl rfl (Nat.le_of_ble_eq_true rfl) dX2_solve_2 (fun H locs hP hD hS => ?_)
  have hP : va_P D vwCl [(g0, .inr (2, [.ref p1, .ref b1, .int (nI M), .int (nI R), .int (nI 0), .ref q1, .ref t1, .ref a1, .ref l1, .ref v1])), (p1, .inl (dE, 48, .inl E)), (b1, .inl (dB, 8, .inl Bt)), (q1, .inl (dS, 70, .inl U)), (t1, .inl (dR, 560, .inl T)), (a1, .inl (dA, 48, .inr (.inl K))), (l1, .inl (dL, 8, .inl Ld)), (v1, .inl (dV, 8, .inr (.inl F)))] H := hP
  have hD : va_D A [(g0, .inr (2, [.ref p1, .ref b1, .int (nI M), .int (nI R), .int (nI 0), .ref q1, .ref t1, .ref a1, .ref l1, .ref v1])), (p1, .inl (dE, 48, .inl E)), (b1, .inl (dB, 8, .inl Bt)), (q1, .inl (dS, 70, .inl U)), (t1, .inl (dR, 560, .inl T)), (a1, .inl (dA, 48, .inr (.inl K))), (l1, .inl (dL, 8, .inl Ld)), (v1, .inl (dV, 8, .inr (.inl F)))] := hD
  refine lv_iconst (v := nI 1) hx hb dX2_solve_5 (by decide) ?_
  refine lv_istore_n (lv' := [(1, .int (nI 1)), (0, .ref g0)]) hx hb dX2_solve_6 rfl hl (by decide) rfl (fun ls hl => ?_)
  refine lpX2_solve (V := V) C0 hN hA hM6 hR8 hR1 h9 hB hK (fun n1 U1 T1 K1 Ld1 F1 H locs ls hI hP hD hS hl => ?_) 257 1 0 U T K Ld F _ _ _ (by omega) ⟨Nat.zero_lt_one, LsM_0 E M R V U T⟩ (hP.sub [0, 1, 2, 3, 4, 5, 6, 7] rfl) (hD.sub [0, 1, 2, 3, 4, 5, 6, 7] (by decide) rfl) hS (lv_sub hl [1, 0] rfl)
  refine lv_aload_n hx hb dX2_solve_50 rfl (lv_at hl 0 rfl) ?_
  refine va_get (D := D) (ci := 2) (v := .int (nI n1)) (C := RX2) (T := TX2) (N := 10) hx hb hts iw_X2_solve_X2 hown hK hP 0 rfl rfl 4 (by decide) (hts _ kw_X2_solve_40) (fun _ h9 => h9) rfl dX2_solve_51 ?_
  exact gx_reti hx hb hr hlocks (n1, U1, T1, K1, Ld1, F1) (⟨rfl, hI⟩) hK (hP.sub [0, 1, 2, 3, 4, 5, 6, 7] rfl) (hD.sub [0, 1, 2, 3, 4, 5, 6, 7] (by decide) rfl) hS dX2_solve_54
