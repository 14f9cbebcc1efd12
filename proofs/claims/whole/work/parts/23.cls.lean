abbrev rmX1_commonDivisor : Room := { frames := 1, cells := 0, slots := 0, locals := 30 }
set_option maxHeartbeats 4000000 in
set_option maxRecDepth 100000 in
theorem lpX1_commonDivisor {p : Program} {l : Launch} {e : Env} {s : State} {m : MethodId} {args : Array Value} {below : List Frame} {meth : Method} {c : Code} {Q : State → Prop} {D : va_G} {A : Nat → Prop} {H0 : Heap} (C0 : CallFix p m c cX1_commonDivisor 11 s args wsX1_commonDivisor RX1) (hN : gx_N s) (hA : ∀ q : Nat, H0.size ≤ q → A q) {G : Nat}  (hK : va_K D vwCl [] s) (kk : ∀ (i r : Nat) (H : Heap) (locs : List Loc) (ls : Array Slot), va_P D vwCl [] H → va_D A [] → va_S A H0 H locs → lv_has ls 11 [(4, .long (lN G)), (6, .long (lN r)), (8, .int (nI i))] → W p l e rmX1_commonDivisor s m args below meth c H locs 0 0 Q (F0 m 50 ls [])) : ∀ (n_ : Nat) (i g r : Nat) (H : Heap) (locs : List Loc) (ls : Array Slot), (i ≤ 100 ∧ 100 < i + n_) → (cd_I G i g r) → va_P D vwCl [] H → va_D A [] → va_S A H0 H locs → lv_has ls 11 [(4, .long (lN g)), (6, .long (lN r)), (8, .int (nI i))] → W p l e rmX1_commonDivisor s m args below meth c H locs 0 0 Q (F0 m 15 ls []) := by
  obtain ⟨hx, hb, hml, hown, hts⟩ := id C0
  intro n_
  induction n_ with
  | zero =>
    intro i g r H locs ls hm
    exact absurd hm (by omega)
  | succ n_ ih =>
    intro i g r H locs ls hm hI hP hD hS hl
    refine lv_iload hx hb dX1_commonDivisor_15 (lv_at hl 2 rfl) ?_
    refine lv_bipush (v := nI 100) hx hb dX1_commonDivisor_17 (by decide) ?_
    refine gx_ge (tgt := 50) hx hb dX1_commonDivisor_19 (by decide) (by omega) (by omega) (fun c_19 => ?_) (fun c_19 => ?_)
    · have hr0 : r = 0 := cd_end (by omega) hI
      subst hr0
      have hg0 : g = G := by have h1 := hI.1; rw [Nat.gcd_zero_right] at h1; exact h1
      subst hg0
      exact kk _ _ _ _ _ (hP.sub [] rfl) (hD.sub [] (by decide) rfl) hS (lv_sub hl [0, 1, 2] rfl)
    · refine lv_lload hx hb dX1_commonDivisor_22 (lv_at hl 1 rfl) ?_
      refine lv_lconst (v := 0) hx hb dX1_commonDivisor_24 (by decide) ?_
      refine W.lcmp hx hb dX1_commonDivisor_25 ?_
      refine lv_if_eq (tgt := 50) hx hb dX1_commonDivisor_26 (by decide) (fun c_26 => ?_) (fun c_26 => ?_)
      · have hr0 : r = 0 := (lN_z hI.2.2.1).mp ((gx_cmp0 _ _).mp c_26)
        subst hr0
        have hg0 : g = G := by have h1 := hI.1; rw [Nat.gcd_zero_right] at h1; exact h1
        subst hg0
        exact kk _ _ _ _ _ (hP.sub [] rfl) (hD.sub [] (by decide) rfl) hS (lv_sub hl [0, 1, 2] rfl)
      · have hz : ¬ lN r = 0 := fun q => c_26 ((gx_cmp0 _ _).mpr q)
        have hr0 : r ≠ 0 := fun q => hz ((lN_z hI.2.2.1).mpr q)
        have hb1 := hI.2.1
        have hb2 := hI.2.2.1
        refine lv_lload hx hb dX1_commonDivisor_29 (lv_at hl 0 rfl) ?_
        refine lv_lload hx hb dX1_commonDivisor_31 (lv_at hl 1 rfl) ?_
        refine lv_lrem hx hb dX1_commonDivisor_33 hz ?_
        refine gx_l (y := lN (g % r)) (pk_lRem (by omega) (by omega) (by omega)) ?_
        refine lv_lstore (lv' := [(9, .long (lN (g % r))), (4, .long (lN g)), (6, .long (lN r)), (8, .int (nI i))]) hx hb dX1_commonDivisor_34 hl (by decide) rfl (fun ls hl => ?_)
        refine lv_lload hx hb dX1_commonDivisor_36 (lv_at hl 2 rfl) ?_
        refine lv_lstore (lv' := [(4, .long (lN r)), (9, .long (lN (g % r))), (6, .long (lN r)), (8, .int (nI i))]) hx hb dX1_commonDivisor_38 hl (by decide) rfl (fun ls hl => ?_)
        refine lv_lload hx hb dX1_commonDivisor_40 (lv_at hl 1 rfl) ?_
        refine lv_lstore (lv' := [(6, .long (lN (g % r))), (4, .long (lN r)), (9, .long (lN (g % r))), (8, .int (nI i))]) hx hb dX1_commonDivisor_42 hl (by decide) rfl (fun ls hl => ?_)
        refine lv_iinc (v := nI (i + 1)) (lv' := [(8, .int (nI (i + 1))), (6, .long (lN (g % r))), (4, .long (lN r)), (9, .long (lN (g % r)))]) hx hb dX1_commonDivisor_44 hl (k := 3) rfl ((nI_succ i).symm) (by decide) rfl (fun ls hl => ?_)
        refine lv_goto (tgt := 15) hx hb dX1_commonDivisor_47 (by decide) ?_
        exact ih (i + 1) r (g % r) _ _ _ (by omega) (cd_s hr0 hI) (hP.sub [] rfl) (hD.sub [] (by decide) rfl) hS (lv_sub hl [2, 1, 0] rfl)
set_option maxHeartbeats 4000000 in
set_option maxRecDepth 100000 in
theorem kX1_commonDivisor (l : Launch) (D : va_G) (g : Nat) (x : Int) (hg : g ≤ 382637520) (hx9 : x.natAbs ≤ 382637520) : gx_Ml l D yX1_commonDivisor wsX1_commonDivisor rmX1_commonDivisor [.long (lN g), .long (Int64.ofInt x)] [] [] (S := Unit) (fun r (_ : Unit) => r = lN (Nat.gcd g x.natAbs)) (fun (_ : Unit) => []) := by
  intro sz
  refine gx_start (cc := cX1_commonDivisor) (maxL := 11) (ret := (some .long)) (Qc := fun A => va_Ql (fun r (_ : Unit) => r = lN (Nat.gcd g x.natAbs)) (gx_B D [] A (fun (_ : Unit) => [])) A) (by decide) rfl (Nat.le_of_ble_eq_true rfl) ?_ sz
  intro p e s m below meth c A hbody ls hl
  obtain ⟨C0, hr, hlocks, hN, hK, hP, hD, hA⟩ := hbody
  have C0 : CallFix p m c cX1_commonDivisor 11 s ([.long (lN g), .long (Int64.ofInt x)] : List Value).toArray wsX1_commonDivisor RX1 := C0
  obtain ⟨hx, hb, hml, hown, hts⟩ := id C0
  have hS : va_S A s.heap s.heap [] := va_S.rf
  have hl : lv_has ls 11 [(0, .long (lN g)), (2, .long (Int64.ofInt x))] := hl
  refine lv_lload_n hx hb dX1_commonDivisor_0 rfl (lv_at hl 0 rfl) ?_
  refine va_mabs_long hx hb (by rw [hml]; exact hl.1.symm) hown (hts _ (show Cond.methodLink RX1 119 Lib.MathLoose.abs_long.x ∈ wsX1_commonDivisor by decide +kernel)) (hts _ (show Cond.static Lib.MathLoose.abs_long.x ∈ wsX1_commonDivisor by decide +kernel)) (hts _ (show Cond.initialized "java/lang/Math" ∈ wsX1_commonDivisor by decide +kernel)) (hts _ (show Cond.code Lib.MathLoose.abs_long.x Lib.MathLoose.abs_long.code 2 (some .long) ∈ wsX1_commonDivisor by decide +kernel)) (Nat.le_of_ble_eq_true rfl) (Nat.le_of_ble_eq_true rfl) (Nat.zero_le _) (Nat.zero_le _) dX1_commonDivisor_1 ?_
  refine gx_l (y := lN g) (ab_n hg) ?_
  refine lv_lstore (lv' := [(4, .long (lN g)), (0, .long (lN g)), (2, .long (Int64.ofInt x))]) hx hb dX1_commonDivisor_4 hl (by decide) rfl (fun ls hl => ?_)
  refine lv_lload_n hx hb dX1_commonDivisor_6 rfl (lv_at hl 2 rfl) ?_
  refine va_mabs_long hx hb (by rw [hml]; exact hl.1.symm) hown (hts _ (show Cond.methodLink RX1 119 Lib.MathLoose.abs_long.x ∈ wsX1_commonDivisor by decide +kernel)) (hts _ (show Cond.static Lib.MathLoose.abs_long.x ∈ wsX1_commonDivisor by decide +kernel)) (hts _ (show Cond.initialized "java/lang/Math" ∈ wsX1_commonDivisor by decide +kernel)) (hts _ (show Cond.code Lib.MathLoose.abs_long.x Lib.MathLoose.abs_long.code 2 (some .long) ∈ wsX1_commonDivisor by decide +kernel)) (Nat.le_of_ble_eq_true rfl) (Nat.le_of_ble_eq_true rfl) (Nat.zero_le _) (Nat.zero_le _) dX1_commonDivisor_7 ?_
  refine gx_l (y := lN x.natAbs) (ab_x hx9) ?_
  refine lv_lstore (lv' := [(6, .long (lN x.natAbs)), (4, .long (lN g)), (0, .long (lN g)), (2, .long (Int64.ofInt x))]) hx hb dX1_commonDivisor_10 hl (by decide) rfl (fun ls hl => ?_)
  refine lv_iconst (v := nI 0) hx hb dX1_commonDivisor_12 (by decide) ?_
  refine lv_istore (lv' := [(8, .int (nI 0)), (6, .long (lN x.natAbs)), (4, .long (lN g)), (0, .long (lN g)), (2, .long (Int64.ofInt x))]) hx hb dX1_commonDivisor_13 hl (by decide) rfl (fun ls hl => ?_)
  refine lpX1_commonDivisor (G := Nat.gcd g x.natAbs) C0 hN hA hK (fun i r H locs ls hP hD hS hl => ?_) 101 0 g x.natAbs _ _ _ (by omega) ⟨rfl, hg, hx9, Or.inl rfl⟩ (hP.sub [] rfl) (hD.sub [] (by decide) rfl) hS (lv_sub hl [2, 1, 0] rfl)
  refine lv_lload hx hb dX1_commonDivisor_50 (lv_at hl 0 rfl) ?_
  exact gx_retl hx hb hr hlocks () (rfl) hK (hP.sub [] rfl) (hD.sub [] (by decide) rfl) hS dX1_commonDivisor_52
abbrev rmX1_loadColumns : Room := { frames := 2, cells := 0, slots := 0, locals := 51 }
theorem iw_X1_loadColumns_X1 : ∀ w ∈ wsX10, w ∈ wsX1_loadColumns := by decide +kernel
theorem kw_X1_loadColumns_9 : Cond.fieldLink RX1 9 "FluxModes" "entries" "[I" ∈ wsX1_loadColumns := by decide +kernel
theorem kw_X1_loadColumns_22 : Cond.fieldLink RX1 22 "FluxModes" "reduction" "LFluxModes$Reduction;" ∈ wsX1_loadColumns := by decide +kernel
theorem kw_X1_loadColumns_34 : Cond.fieldLink RX1 34 "FluxModes" "reactions" "I" ∈ wsX1_loadColumns := by decide +kernel
theorem kw_X1_loadColumns_30 : Cond.fieldLink RX1 30 "FluxModes" "metabolites" "I" ∈ wsX1_loadColumns := by decide +kernel
set_option maxHeartbeats 4000000 in
set_option maxRecDepth 100000 in
theorem lpX1_loadColumns {p : Program} {l : Launch} {e : Env} {s : State} {m : MethodId} {args : Array Value} {below : List Frame} {meth : Method} {c : Code} {Q : State → Prop} {D : va_G} {A : Nat → Prop} {H0 : Heap} (C0 : CallFix p m c cX1_loadColumns 3 s args wsX1_loadColumns RX1) (hN : gx_N s) (hA : ∀ q : Nat, H0.size ≤ q → A q) {h0 e1 s1 r1 d1 w1 k1 M R V n S : Nat} {cE cK : ClassId} {E : Nat → Int32} (hM6 : M ≤ 6) (hR8 : R ≤ 8) (hs8 : S < 256) (hK : va_K D vwCl [(cE, .int), (cK, .long)] s) (kk : ∀ (t : Nat) (K : Nat → Int64) (H : Heap) (locs : List Loc) (ls : Array Slot), (t = mx_cnt S R) → (lc_I E S R M K) → va_P D vwCl [(h0, .inr (1, [.ref e1, .int (nI M), .int (nI R), .int (nI V), .ref s1, .ref r1, .int (nI n), .ref d1, .ref w1])), (e1, .inl (cE, 48, .inl E)), (d1, .inr (0, [.ref k1, .int (nI M), .int (nI t), .long 1])), (k1, .inl (cK, 48, .inr (.inl K)))] H → va_D A [(h0, .inr (1, [.ref e1, .int (nI M), .int (nI R), .int (nI V), .ref s1, .ref r1, .int (nI n), .ref d1, .ref w1])), (e1, .inl (cE, 48, .inl E)), (d1, .inr (0, [.ref k1, .int (nI M), .int (nI t), .long 1])), (k1, .inl (cK, 48, .inr (.inl K)))] → va_S A H0 H locs → lv_has ls 3 [(0, .ref h0), (1, .int (nI S)), (2, .int (nI R))] → W p l e rmX1_loadColumns s m args below meth c H locs 0 0 Q (F0 m 47 ls [])) : ∀ (n_ : Nat) (j t : Nat) (K : Nat → Int64) (H : Heap) (locs : List Loc) (ls : Array Slot), (j ≤ R ∧ R < j + n_) → (t = mx_cnt S j ∧ lc_I E S j M K) → va_P D vwCl [(h0, .inr (1, [.ref e1, .int (nI M), .int (nI R), .int (nI V), .ref s1, .ref r1, .int (nI n), .ref d1, .ref w1])), (e1, .inl (cE, 48, .inl E)), (d1, .inr (0, [.ref k1, .int (nI M), .int (nI t), .long 1])), (k1, .inl (cK, 48, .inr (.inl K)))] H → va_D A [(h0, .inr (1, [.ref e1, .int (nI M), .int (nI R), .int (nI V), .ref s1, .ref r1, .int (nI n), .ref d1, .ref w1])), (e1, .inl (cE, 48, .inl E)), (d1, .inr (0, [.ref k1, .int (nI M), .int (nI t), .long 1])), (k1, .inl (cK, 48, .inr (.inl K)))] → va_S A H0 H locs → lv_has ls 3 [(0, .ref h0), (1, .int (nI S)), (2, .int (nI j))] → W p l e rmX1_loadColumns s m args below meth c H locs 0 0 Q (F0 m 13 ls []) := by
  obtain ⟨hx, hb, hml, hown, hts⟩ := id C0
  intro n_
  induction n_ with
  | zero =>
    intro j t K H locs ls hm
    exact absurd hm (by omega)
  | succ n_ ih =>
    intro j t K H locs ls hm ht hP hD hS hl
    refine lv_iload_n hx hb dX1_loadColumns_13 rfl (lv_at hl 2 rfl) ?_
    refine lv_aload_n hx hb dX1_loadColumns_14 rfl (lv_at hl 0 rfl) ?_
    refine va_get (D := D) (ci := 1) (v := .int (nI R)) (C := RX1) (T := TX1) (N := 9) hx hb hts iw_X1_loadColumns_X1 hown hK hP 0 rfl rfl 2 (by decide) (hts _ kw_X1_loadColumns_34) (fun _ h9 => h9) rfl dX1_loadColumns_15 ?_
    refine gx_ge (tgt := 47) hx hb dX1_loadColumns_18 (by decide) (by omega) (by omega) (fun c_18 => ?_) (fun c_18 => ?_)
    · have hjR : j = R := by omega
      subst hjR
      exact kk t K _ _ _ ht.1 ht.2 (hP.sub [0, 1, 2, 3] rfl) (hD.sub [0, 1, 2, 3] (by decide) rfl) hS (lv_sub hl [0, 1, 2] rfl)
    · refine lv_iload_n hx hb dX1_loadColumns_21 rfl (lv_at hl 1 rfl) ?_
      refine lv_iload_n hx hb dX1_loadColumns_22 rfl (lv_at hl 2 rfl) ?_
      refine gx_ji (wr := [(h0, .inr (1, [.ref e1, .int (nI M), .int (nI R), .int (nI V), .ref s1, .ref r1, .int (nI n), .ref d1, .ref w1])), (e1, .inl (cE, 48, .inl E)), (d1, .inr (0, [.ref k1, .int (nI M), .int (nI t), .long 1])), (k1, .inl (cK, 48, .inr (.inl K)))]) (gx_rS (As := [.int (nI S), .int (nI j)]) (rest := []) C0 (kX1_has l D S j hs8 (by omega) _) (va_cwS 2 hts gX1_loadColumns_X1_has rfl rfl rfl (by decide +kernel) ⟨Nat.le_of_ble_eq_true rfl, Nat.le_of_ble_eq_true rfl⟩) hN hK hP hD [] [] rfl rfl (by decide) rfl rfl hl.1 rfl (Nat.le_of_ble_eq_true rfl) dX1_loadColumns_23 ⟨Nat.zero_le _, Nat.zero_le _⟩) hP hD hS hA [] [0, 1, 2, 3] rfl rfl (by decide) (by decide) (fun r u H locs hw hP hD hS => ?_)
      have hw : r = bI (S.testBit j) := hw
      subst hw
      have htj := mx_cnt_le S j
      have hP : va_P D vwCl [(h0, .inr (1, [.ref e1, .int (nI M), .int (nI R), .int (nI V), .ref s1, .ref r1, .int (nI n), .ref d1, .ref w1])), (e1, .inl (cE, 48, .inl E)), (d1, .inr (0, [.ref k1, .int (nI M), .int (nI t), .long 1])), (k1, .inl (cK, 48, .inr (.inl K)))] H := hP
      have hD : va_D A [(h0, .inr (1, [.ref e1, .int (nI M), .int (nI R), .int (nI V), .ref s1, .ref r1, .int (nI n), .ref d1, .ref w1])), (e1, .inl (cE, 48, .inl E)), (d1, .inr (0, [.ref k1, .int (nI M), .int (nI t), .long 1])), (k1, .inl (cK, 48, .inr (.inl K)))] := hD
      refine gx_beq (tgt := 41) hx hb dX1_loadColumns_26 (by decide) (fun c_26 => ?_) (fun c_26 => ?_)
      · refine lv_iinc (v := nI (j + 1)) (lv' := [(2, .int (nI (j + 1))), (0, .ref h0), (1, .int (nI S))]) hx hb dX1_loadColumns_41 hl (k := 2) rfl ((nI_succ j).symm) (by decide) rfl (fun ls hl => ?_)
        refine lv_goto (tgt := 13) hx hb dX1_loadColumns_44 (by decide) ?_
        exact ih (j + 1) t K _ _ _ (by omega) ⟨by rw [ht.1, mx_cnt_out c_26], lc_out c_26 ht.2⟩ (hP.sub [0, 1, 2, 3] rfl) (hD.sub [0, 1, 2, 3] (by decide) rfl) hS (lv_sub hl [1, 2, 0] rfl)
      · refine lv_aload_n hx hb dX1_loadColumns_29 rfl (lv_at hl 0 rfl) ?_
        refine va_get (D := D) (ci := 1) (v := .ref d1) (C := RX1) (T := TX1) (N := 9) hx hb hts iw_X1_loadColumns_X1 hown hK hP 0 rfl rfl 7 (by decide) (hts _ kw_X1_loadColumns_22) (fun _ h9 => h9) rfl dX1_loadColumns_30 ?_
        refine lv_aload_n hx hb dX1_loadColumns_33 rfl (lv_at hl 0 rfl) ?_
        refine va_get (D := D) (ci := 1) (v := .ref e1) (C := RX1) (T := TX1) (N := 9) hx hb hts iw_X1_loadColumns_X1 hown hK hP 0 rfl rfl 0 (by decide) (hts _ kw_X1_loadColumns_9) (fun _ h9 => h9) rfl dX1_loadColumns_34 ?_
        refine lv_iload_n hx hb dX1_loadColumns_37 rfl (lv_at hl 2 rfl) ?_
        refine gx_jv (wr := [(h0, .inr (1, [.ref e1, .int (nI M), .int (nI R), .int (nI V), .ref s1, .ref r1, .int (nI n), .ref d1, .ref w1]))]) (gx_rV (As := [.ref e1, .int (nI j)]) (rest := []) C0 (kX0_addColumn l D d1 k1 e1 M t j 1 cK cE E K hM6 (by omega) (by omega) _) (cwV 2 hts gX1_loadColumns_X0_addColumn rfl rfl rfl (by decide +kernel) ⟨Nat.le_of_ble_eq_true rfl, Nat.le_of_ble_eq_true rfl⟩) hN hK hP hD [2, 3, 1] [1, 0] rfl rfl (by decide) rfl 0 rfl rfl rfl rfl hl.1 rfl (Nat.le_of_ble_eq_true rfl) dX1_loadColumns_38 ⟨Nat.zero_le _, Nat.zero_le _⟩) hP hD hS hA [2, 3, 1] [0] rfl rfl (by decide) (by decide) (fun u H locs hw hP hD hS => ?_)
        have hw : ac_I K u E t j M := hw
        have hP : va_P D vwCl [(h0, .inr (1, [.ref e1, .int (nI M), .int (nI R), .int (nI V), .ref s1, .ref r1, .int (nI n), .ref d1, .ref w1])), (d1, .inr (0, [.ref k1, .int (nI M), .int (nI (t + 1)), .long 1])), (k1, .inl (cK, 48, .inr (.inl u))), (e1, .inl (cE, 48, .inl E))] H := hP
        have hD : va_D A [(h0, .inr (1, [.ref e1, .int (nI M), .int (nI R), .int (nI V), .ref s1, .ref r1, .int (nI n), .ref d1, .ref w1])), (d1, .inr (0, [.ref k1, .int (nI M), .int (nI (t + 1)), .long 1])), (k1, .inl (cK, 48, .inr (.inl u))), (e1, .inl (cE, 48, .inl E))] := hD
        refine lv_iinc (v := nI (j + 1)) (lv' := [(2, .int (nI (j + 1))), (0, .ref h0), (1, .int (nI S))]) hx hb dX1_loadColumns_41 hl (k := 2) rfl ((nI_succ j).symm) (by decide) rfl (fun ls hl => ?_)
        refine lv_goto (tgt := 13) hx hb dX1_loadColumns_44 (by decide) ?_
        exact ih (j + 1) (t + 1) u _ _ _ (by omega) ⟨by rw [ht.1, mx_cnt_in c_26], lc_in (by omega) c_26 ht.2 (ht.1 ▸ hw)⟩ (hP.sub [0, 3, 1, 2] rfl) (hD.sub [0, 3, 1, 2] (by decide) rfl) hS (lv_sub hl [1, 2, 0] rfl)
set_option maxHeartbeats 4000000 in
set_option maxRecDepth 100000 in
theorem kX1_loadColumns (l : Launch) (D : va_G) (h0 e1 s1 r1 d1 w1 k1 M R V n S w t : Nat) (pv : Int64) (cE cK : ClassId) (E : Nat → Int32) (K : Nat → Int64) (hM6 : M ≤ 6) (hR8 : R ≤ 8) (hs8 : S < 256) : gx_Mv l D yX1_loadColumns wsX1_loadColumns rmX1_loadColumns [.ref h0, .int (nI S)] [(cE, .int), (cK, .long)] [(h0, .inr (1, [.ref e1, .int (nI M), .int (nI R), .int (nI V), .ref s1, .ref r1, .int (nI n), .ref d1, .ref w1])), (e1, .inl (cE, 48, .inl E)), (d1, .inr (0, [.ref k1, .int (nI w), .int (nI t), .long pv])), (k1, .inl (cK, 48, .inr (.inl K)))] (S := Nat × (Nat → Int64)) (fun (u : Nat × (Nat → Int64)) => u.1 = mx_cnt S R ∧ lc_I E S R M u.2) (fun (u : Nat × (Nat → Int64)) => [(h0, .inr (1, [.ref e1, .int (nI M), .int (nI R), .int (nI V), .ref s1, .ref r1, .int (nI n), .ref d1, .ref w1])), (e1, .inl (cE, 48, .inl E)), (d1, .inr (0, [.ref k1, .int (nI M), .int (nI (u.1)), .long 1])), (k1, .inl (cK, 48, .inr (.inl u.2)))]) := by
  intro sz
  refine gx_start (cc := cX1_loadColumns) (maxL := 3) (ret := none) (Qc := fun A => va_Qv (fun (u : Nat × (Nat → Int64)) => u.1 = mx_cnt S R ∧ lc_I E S R M u.2) (gx_B D [(cE, .int), (cK, .long)] A (fun (u : Nat × (Nat → Int64)) => [(h0, .inr (1, [.ref e1, .int (nI M), .int (nI R), .int (nI V), .ref s1, .ref r1, .int (nI n), .ref d1, .ref w1])), (e1, .inl (cE, 48, .inl E)), (d1, .inr (0, [.ref k1, .int (nI M), .int (nI (u.1)), .long 1])), (k1, .inl (cK, 48, .inr (.inl u.2)))])) A) (by decide) rfl (Nat.le_of_ble_eq_true rfl) ?_ sz
  intro p e s m below meth c A hbody ls hl
  obtain ⟨C0, hr, hlocks, hN, hK, hP, hD, hA⟩ := hbody
  have C0 : CallFix p m c cX1_loadColumns 3 s ([.ref h0, .int (nI S)] : List Value).toArray wsX1_loadColumns RX1 := C0
  obtain ⟨hx, hb, hml, hown, hts⟩ := id C0
  have hS : va_S A s.heap s.heap [] := va_S.rf
  have hl : lv_has ls 3 [(0, .ref h0), (1, .int (nI S))] := hl
  refine lv_aload_n hx hb dX1_loadColumns_0 rfl (lv_at hl 0 rfl) ?_
  refine va_get (D := D) (ci := 1) (v := .ref d1) (C := RX1) (T := TX1) (N := 9) hx hb hts iw_X1_loadColumns_X1 hown hK hP 0 rfl rfl 7 (by decide) (hts _ kw_X1_loadColumns_22) (fun _ h9 => h9) rfl dX1_loadColumns_1 ?_
  refine lv_aload_n hx hb dX1_loadColumns_4 rfl (lv_at hl 0 rfl) ?_
  refine va_get (D := D) (ci := 1) (v := .int (nI M)) (C := RX1) (T := TX1) (N := 9) hx hb hts iw_X1_loadColumns_X1 hown hK hP 0 rfl rfl 1 (by decide) (hts _ kw_X1_loadColumns_30) (fun _ h9 => h9) rfl dX1_loadColumns_5 ?_
  refine gx_jv (wr := [(h0, .inr (1, [.ref e1, .int (nI M), .int (nI R), .int (nI V), .ref s1, .ref r1, .int (nI n), .ref d1, .ref w1])), (e1, .inl (cE, 48, .inl E)), (k1, .inl (cK, 48, .inr (.inl K)))]) (gx_rV (As := [.int (nI M)]) (rest := []) C0 (kX0_begin l D d1 k1 w t pv M hM6 _) (cwV 1 hts gX1_loadColumns_X0_begin rfl rfl rfl (by decide +kernel) ⟨Nat.le_of_ble_eq_true rfl, Nat.le_of_ble_eq_true rfl⟩) hN hK hP hD [2] [] rfl rfl (by decide) rfl 0 rfl rfl rfl rfl hl.1 rfl (Nat.le_of_ble_eq_true rfl) dX1_loadColumns_8 ⟨Nat.zero_le _, Nat.zero_le _⟩) hP hD hS hA [2] [0, 1, 3] rfl rfl (by decide) (by decide) (fun u H locs hw hP hD hS => ?_)
  have hP : va_P D vwCl [(h0, .inr (1, [.ref e1, .int (nI M), .int (nI R), .int (nI V), .ref s1, .ref r1, .int (nI n), .ref d1, .ref w1])), (e1, .inl (cE, 48, .inl E)), (k1, .inl (cK, 48, .inr (.inl K))), (d1, .inr (0, [.ref k1, .int (nI M), .int (nI 0), .long 1]))] H := hP
  have hD : va_D A [(h0, .inr (1, [.ref e1, .int (nI M), .int (nI R), .int (nI V), .ref s1, .ref r1, .int (nI n), .ref d1, .ref w1])), (e1, .inl (cE, 48, .inl E)), (k1, .inl (cK, 48, .inr (.inl K))), (d1, .inr (0, [.ref k1, .int (nI M), .int (nI 0), .long 1]))] := hD
  refine lv_iconst (v := nI 0) hx hb dX1_loadColumns_11 (by decide) ?_
  refine lv_istore_n (lv' := [(2, .int (nI 0)), (0, .ref h0), (1, .int (nI S))]) hx hb dX1_loadColumns_12 rfl hl (by decide) rfl (fun ls hl => ?_)
  refine lpX1_loadColumns C0 hN hA hM6 hR8 hs8 hK (fun t1 K1 H locs ls g1 g2 hP hD hS hl => ?_) (R + 1) 0 0 K _ _ _ (by omega) ⟨rfl, lc_0 E S M K⟩ (hP.sub [0, 1, 3, 2] rfl) (hD.sub [0, 1, 3, 2] (by decide) rfl) hS (lv_sub hl [1, 2, 0] rfl)
  exact gx_retv hx hb hr hlocks (t1, K1) (⟨g1, g2⟩) hK (hP.sub [0, 1, 2, 3] rfl) (hD.sub [0, 1, 2, 3] (by decide) rfl) hS dX1_loadColumns_47
abbrev rmX1_readFlow : Room := { frames := 1, cells := 0, slots := 0, locals := 22 }
theorem iw_X1_readFlow_X1 : ∀ w ∈ wsX10, w ∈ wsX1_readFlow := by decide +kernel
theorem kw_X1_readFlow_22 : Cond.fieldLink RX1 22 "FluxModes" "reduction" "LFluxModes$Reduction;" ∈ wsX1_readFlow := by decide +kernel
theorem kw_X1_readFlow_26 : Cond.fieldLink RX1 26 "FluxModes" "flow" "[J" ∈ wsX1_readFlow := by decide +kernel
set_option maxHeartbeats 4000000 in
set_option maxRecDepth 100000 in
theorem lpX1_readFlow {p : Program} {l : Launch} {e : Env} {s : State} {m : MethodId} {args : Array Value} {below : List Frame} {meth : Method} {c : Code} {Q : State → Prop} {D : va_G} {A : Nat → Prop} {H0 : Heap} (C0 : CallFix p m c cX1_readFlow 4 s args wsX1_readFlow RX1) (hN : gx_N s) (hA : ∀ q : Nat, H0.size ≤ q → A q) {h0 e1 s1 r1 d1 w1 k1 M R V n S w T : Nat} {pv : Int64} {cK cW : ClassId} {K : Nat → Int64} (hw6 : w ≤ 6) (hT8 : T ≤ 8) (hT1 : 1 ≤ T) (hs8 : S < 256) (hK : va_K D vwCl [(cK, .long), (cW, .long)] s) (kk : ∀ (t : Nat) (F : Nat → Int64) (H : Heap) (locs : List Loc) (ls : Array Slot), (fs_I S (fa K pv w T) F 8) → va_P D vwCl [(h0, .inr (1, [.ref e1, .int (nI M), .int (nI R), .int (nI V), .ref s1, .ref r1, .int (nI n), .ref d1, .ref w1])), (d1, .inr (0, [.ref k1, .int (nI w), .int (nI T), .long pv])), (k1, .inl (cK, 48, .inr (.inl K))), (w1, .inl (cW, 8, .inr (.inl F)))] H → va_D A [(h0, .inr (1, [.ref e1, .int (nI M), .int (nI R), .int (nI V), .ref s1, .ref r1, .int (nI n), .ref d1, .ref w1])), (d1, .inr (0, [.ref k1, .int (nI w), .int (nI T), .long pv])), (k1, .inl (cK, 48, .inr (.inl K))), (w1, .inl (cW, 8, .inr (.inl F)))] → va_S A H0 H locs → lv_has ls 4 [(0, .ref h0), (1, .int (nI S)), (2, .int (nI t)), (3, .int (nI 8))] → W p l e rmX1_readFlow s m args below meth c H locs 0 0 Q (F0 m 51 ls [])) : ∀ (n_ : Nat) (j t : Nat) (F : Nat → Int64) (H : Heap) (locs : List Loc) (ls : Array Slot), (j ≤ 8 ∧ 8 < j + n_) → (t = mx_cnt S j ∧ fs_I S (fa K pv w T) F j) → va_P D vwCl [(h0, .inr (1, [.ref e1, .int (nI M), .int (nI R), .int (nI V), .ref s1, .ref r1, .int (nI n), .ref d1, .ref w1])), (d1, .inr (0, [.ref k1, .int (nI w), .int (nI T), .long pv])), (k1, .inl (cK, 48, .inr (.inl K))), (w1, .inl (cW, 8, .inr (.inl F)))] H → va_D A [(h0, .inr (1, [.ref e1, .int (nI M), .int (nI R), .int (nI V), .ref s1, .ref r1, .int (nI n), .ref d1, .ref w1])), (d1, .inr (0, [.ref k1, .int (nI w), .int (nI T), .long pv])), (k1, .inl (cK, 48, .inr (.inl K))), (w1, .inl (cW, 8, .inr (.inl F)))] → va_S A H0 H locs → lv_has ls 4 [(0, .ref h0), (1, .int (nI S)), (2, .int (nI t)), (3, .int (nI j))] → W p l e rmX1_readFlow s m args below meth c H locs 0 0 Q (F0 m 4 ls []) := by
  obtain ⟨hx, hb, hml, hown, hts⟩ := id C0
  intro n_
  induction n_ with
  | zero =>
    intro j t F H locs ls hm
    exact absurd hm (by omega)
  | succ n_ ih =>
    intro j t F H locs ls hm ht hP hD hS hl
    refine lv_iload_n hx hb dX1_readFlow_4 rfl (lv_at hl 3 rfl) ?_
    refine lv_bipush (v := nI 8) hx hb dX1_readFlow_5 (by decide) ?_
    refine gx_ge (tgt := 51) hx hb dX1_readFlow_7 (by decide) (by omega) (by omega) (fun c_7 => ?_) (fun c_7 => ?_)
    · have hj8 : j = 8 := by omega
      subst hj8
      exact kk t F _ _ _ ht.2 (hP.sub [0, 1, 2, 3] rfl) (hD.sub [0, 1, 2, 3] (by decide) rfl) hS (lv_sub hl [0, 1, 2, 3] rfl)
    · refine lv_iload_n hx hb dX1_readFlow_10 rfl (lv_at hl 1 rfl) ?_
      refine lv_iload_n hx hb dX1_readFlow_11 rfl (lv_at hl 3 rfl) ?_
      refine gx_ji (wr := [(h0, .inr (1, [.ref e1, .int (nI M), .int (nI R), .int (nI V), .ref s1, .ref r1, .int (nI n), .ref d1, .ref w1])), (d1, .inr (0, [.ref k1, .int (nI w), .int (nI T), .long pv])), (k1, .inl (cK, 48, .inr (.inl K))), (w1, .inl (cW, 8, .inr (.inl F)))]) (gx_rS (As := [.int (nI S), .int (nI j)]) (rest := []) C0 (kX1_has l D S j hs8 (by omega) _) (va_cwS 2 hts gX1_readFlow_X1_has rfl rfl rfl (by decide +kernel) ⟨Nat.le_of_ble_eq_true rfl, Nat.le_of_ble_eq_true rfl⟩) hN hK hP hD [] [] rfl rfl (by decide) rfl rfl hl.1 rfl (Nat.le_of_ble_eq_true rfl) dX1_readFlow_12 ⟨Nat.zero_le _, Nat.zero_le _⟩) hP hD hS hA [] [0, 1, 2, 3] rfl rfl (by decide) (by decide) (fun r u H locs hw hP hD hS => ?_)
      have hw : r = bI (S.testBit j) := hw
      subst hw
      have htj := mx_cnt_le S j
      have hP : va_P D vwCl [(h0, .inr (1, [.ref e1, .int (nI M), .int (nI R), .int (nI V), .ref s1, .ref r1, .int (nI n), .ref d1, .ref w1])), (d1, .inr (0, [.ref k1, .int (nI w), .int (nI T), .long pv])), (k1, .inl (cK, 48, .inr (.inl K))), (w1, .inl (cW, 8, .inr (.inl F)))] H := hP
      have hD : va_D A [(h0, .inr (1, [.ref e1, .int (nI M), .int (nI R), .int (nI V), .ref s1, .ref r1, .int (nI n), .ref d1, .ref w1])), (d1, .inr (0, [.ref k1, .int (nI w), .int (nI T), .long pv])), (k1, .inl (cK, 48, .inr (.inl K))), (w1, .inl (cW, 8, .inr (.inl F)))] := hD
      refine gx_beq (tgt := 38) hx hb dX1_readFlow_15 (by decide) (fun c_15 => ?_) (fun c_15 => ?_)
      · refine lv_aload_n hx hb dX1_readFlow_38 rfl (lv_at hl 0 rfl) ?_
        refine va_get (D := D) (ci := 1) (v := .ref w1) (C := RX1) (T := TX1) (N := 9) hx hb hts iw_X1_readFlow_X1 hown hK hP 0 rfl rfl 8 (by decide) (hts _ kw_X1_readFlow_26) (fun _ h9 => h9) rfl dX1_readFlow_39 ?_
        refine lv_iload_n hx hb dX1_readFlow_42 rfl (lv_at hl 3 rfl) ?_
        refine lv_lconst (v := 0) hx hb dX1_readFlow_43 (by decide) ?_
        refine gx_last (q := j) hx hb hK hP hD hS 3 1 rfl rfl (rfl) (by omega) (by decide) dX1_readFlow_44 (fun H locs hP hD hS => ?_)
        have hP : va_P D vwCl [(h0, .inr (1, [.ref e1, .int (nI M), .int (nI R), .int (nI V), .ref s1, .ref r1, .int (nI n), .ref d1, .ref w1])), (d1, .inr (0, [.ref k1, .int (nI w), .int (nI T), .long pv])), (k1, .inl (cK, 48, .inr (.inl K))), (w1, .inl (cW, 8, .inr (.inl (vp_updL F j 0))))] H := hP
        have hD : va_D A [(h0, .inr (1, [.ref e1, .int (nI M), .int (nI R), .int (nI V), .ref s1, .ref r1, .int (nI n), .ref d1, .ref w1])), (d1, .inr (0, [.ref k1, .int (nI w), .int (nI T), .long pv])), (k1, .inl (cK, 48, .inr (.inl K))), (w1, .inl (cW, 8, .inr (.inl (vp_updL F j 0))))] := hD
        refine lv_iinc (v := nI (j + 1)) (lv' := [(3, .int (nI (j + 1))), (0, .ref h0), (1, .int (nI S)), (2, .int (nI t))]) hx hb dX1_readFlow_45 hl (k := 3) rfl ((nI_succ j).symm) (by decide) rfl (fun ls hl => ?_)
        refine lv_goto (tgt := 4) hx hb dX1_readFlow_48 (by decide) ?_
        exact ih (j + 1) t _ _ _ _ (by omega) ⟨by rw [ht.1, mx_cnt_out c_15], fs_out c_15 ht.2⟩ (hP.sub [0, 1, 2, 3] rfl) (hD.sub [0, 1, 2, 3] (by decide) rfl) hS (lv_sub hl [1, 2, 3, 0] rfl)
      · refine lv_aload_n hx hb dX1_readFlow_18 rfl (lv_at hl 0 rfl) ?_
        refine va_get (D := D) (ci := 1) (v := .ref w1) (C := RX1) (T := TX1) (N := 9) hx hb hts iw_X1_readFlow_X1 hown hK hP 0 rfl rfl 8 (by decide) (hts _ kw_X1_readFlow_26) (fun _ h9 => h9) rfl dX1_readFlow_19 ?_
        refine lv_iload_n hx hb dX1_readFlow_22 rfl (lv_at hl 3 rfl) ?_
        refine lv_aload_n hx hb dX1_readFlow_23 rfl (lv_at hl 0 rfl) ?_
        refine va_get (D := D) (ci := 1) (v := .ref d1) (C := RX1) (T := TX1) (N := 9) hx hb hts iw_X1_readFlow_X1 hown hK hP 0 rfl rfl 7 (by decide) (hts _ kw_X1_readFlow_22) (fun _ h9 => h9) rfl dX1_readFlow_24 ?_
        refine lv_iload_n hx hb dX1_readFlow_27 rfl (lv_at hl 2 rfl) ?_
        refine gx_jl (wr := [(h0, .inr (1, [.ref e1, .int (nI M), .int (nI R), .int (nI V), .ref s1, .ref r1, .int (nI n), .ref d1, .ref w1])), (w1, .inl (cW, 8, .inr (.inl F)))]) (gx_rV (As := [.int (nI t)]) (rest := [.int (nI j), .ref w1]) C0 (kX0_flowAt l D d1 k1 w T t pv cK K hw6 hT8 hT1 (by omega) _) (cwV 1 hts gX1_readFlow_X0_flowAt rfl rfl rfl (by decide +kernel) ⟨Nat.le_of_ble_eq_true rfl, Nat.le_of_ble_eq_true rfl⟩) hN hK hP hD [1, 2] [0] rfl rfl (by decide) rfl 0 rfl rfl rfl rfl hl.1 rfl (Nat.le_of_ble_eq_true rfl) dX1_readFlow_28 ⟨Nat.zero_le _, Nat.zero_le _⟩) hP hD hS hA [1, 2] [0, 3] rfl rfl (by decide) (by decide) (fun rq u H locs hw hP hD hS => ?_)
        have hw : rq = fa K pv w T t := hw
        subst hw
        have hP : va_P D vwCl [(h0, .inr (1, [.ref e1, .int (nI M), .int (nI R), .int (nI V), .ref s1, .ref r1, .int (nI n), .ref d1, .ref w1])), (w1, .inl (cW, 8, .inr (.inl F))), (d1, .inr (0, [.ref k1, .int (nI w), .int (nI T), .long pv])), (k1, .inl (cK, 48, .inr (.inl K)))] H := hP
        have hD : va_D A [(h0, .inr (1, [.ref e1, .int (nI M), .int (nI R), .int (nI V), .ref s1, .ref r1, .int (nI n), .ref d1, .ref w1])), (w1, .inl (cW, 8, .inr (.inl F))), (d1, .inr (0, [.ref k1, .int (nI w), .int (nI T), .long pv])), (k1, .inl (cK, 48, .inr (.inl K)))] := hD
        refine gx_last (q := j) hx hb hK hP hD hS 1 1 rfl rfl (rfl) (by omega) (by decide) dX1_readFlow_31 (fun H locs hP hD hS => ?_)
        have hP : va_P D vwCl [(h0, .inr (1, [.ref e1, .int (nI M), .int (nI R), .int (nI V), .ref s1, .ref r1, .int (nI n), .ref d1, .ref w1])), (w1, .inl (cW, 8, .inr (.inl (vp_updL F j (fa K pv w T t))))), (d1, .inr (0, [.ref k1, .int (nI w), .int (nI T), .long pv])), (k1, .inl (cK, 48, .inr (.inl K)))] H := hP
        have hD : va_D A [(h0, .inr (1, [.ref e1, .int (nI M), .int (nI R), .int (nI V), .ref s1, .ref r1, .int (nI n), .ref d1, .ref w1])), (w1, .inl (cW, 8, .inr (.inl (vp_updL F j (fa K pv w T t))))), (d1, .inr (0, [.ref k1, .int (nI w), .int (nI T), .long pv])), (k1, .inl (cK, 48, .inr (.inl K)))] := hD
        refine lv_iinc (v := nI (t + 1)) (lv' := [(2, .int (nI (t + 1))), (0, .ref h0), (1, .int (nI S)), (3, .int (nI j))]) hx hb dX1_readFlow_32 hl (k := 2) rfl ((nI_succ t).symm) (by decide) rfl (fun ls hl => ?_)
        refine lv_goto (tgt := 45) hx hb dX1_readFlow_35 (by decide) ?_
        refine lv_iinc (v := nI (j + 1)) (lv' := [(3, .int (nI (j + 1))), (2, .int (nI (t + 1))), (0, .ref h0), (1, .int (nI S))]) hx hb dX1_readFlow_45 hl (k := 3) rfl ((nI_succ j).symm) (by decide) rfl (fun ls hl => ?_)
        refine lv_goto (tgt := 4) hx hb dX1_readFlow_48 (by decide) ?_
        exact ih (j + 1) (t + 1) _ _ _ _ (by omega) ⟨by rw [ht.1, mx_cnt_in c_15], ht.1 ▸ fs_in c_15 ht.2⟩ (hP.sub [0, 2, 3, 1] rfl) (hD.sub [0, 2, 3, 1] (by decide) rfl) hS (lv_sub hl [2, 3, 1, 0] rfl)
set_option maxHeartbeats 4000000 in
set_option maxRecDepth 100000 in
theorem kX1_readFlow (l : Launch) (D : va_G) (h0 e1 s1 r1 d1 w1 k1 M R V n S w T : Nat) (pv : Int64) (cK cW : ClassId) (K F : Nat → Int64) (hw6 : w ≤ 6) (hT8 : T ≤ 8) (hT1 : 1 ≤ T) (hs8 : S < 256) : gx_Mv l D yX1_readFlow wsX1_readFlow rmX1_readFlow [.ref h0, .int (nI S)] [(cK, .long), (cW, .long)] [(h0, .inr (1, [.ref e1, .int (nI M), .int (nI R), .int (nI V), .ref s1, .ref r1, .int (nI n), .ref d1, .ref w1])), (d1, .inr (0, [.ref k1, .int (nI w), .int (nI T), .long pv])), (k1, .inl (cK, 48, .inr (.inl K))), (w1, .inl (cW, 8, .inr (.inl F)))] (S := Nat → Int64) (fun (u : Nat → Int64) => fs_I S (fa K pv w T) u 8) (fun (u : Nat → Int64) => [(h0, .inr (1, [.ref e1, .int (nI M), .int (nI R), .int (nI V), .ref s1, .ref r1, .int (nI n), .ref d1, .ref w1])), (d1, .inr (0, [.ref k1, .int (nI w), .int (nI T), .long pv])), (k1, .inl (cK, 48, .inr (.inl K))), (w1, .inl (cW, 8, .inr (.inl u)))]) := by
  intro sz
  refine gx_start (cc := cX1_readFlow) (maxL := 4) (ret := none) (Qc := fun A => va_Qv (fun (u : Nat → Int64) => fs_I S (fa K pv w T) u 8) (gx_B D [(cK, .long), (cW, .long)] A (fun (u : Nat → Int64) => [(h0, .inr (1, [.ref e1, .int (nI M), .int (nI R), .int (nI V), .ref s1, .ref r1, .int (nI n), .ref d1, .ref w1])), (d1, .inr (0, [.ref k1, .int (nI w), .int (nI T), .long pv])), (k1, .inl (cK, 48, .inr (.inl K))), (w1, .inl (cW, 8, .inr (.inl u)))])) A) (by decide) rfl (Nat.le_of_ble_eq_true rfl) ?_ sz
  intro p e s m below meth c A hbody ls hl
  obtain ⟨C0, hr, hlocks, hN, hK, hP, hD, hA⟩ := hbody
  have C0 : CallFix p m c cX1_readFlow 4 s ([.ref h0, .int (nI S)] : List Value).toArray wsX1_readFlow RX1 := C0
  obtain ⟨hx, hb, hml, hown, hts⟩ := id C0
  have hS : va_S A s.heap s.heap [] := va_S.rf
  have hl : lv_has ls 4 [(0, .ref h0), (1, .int (nI S))] := hl
  refine lv_iconst (v := nI 0) hx hb dX1_readFlow_0 (by decide) ?_
  refine lv_istore_n (lv' := [(2, .int (nI 0)), (0, .ref h0), (1, .int (nI S))]) hx hb dX1_readFlow_1 rfl hl (by decide) rfl (fun ls hl => ?_)
  refine lv_iconst (v := nI 0) hx hb dX1_readFlow_2 (by decide) ?_
  refine lv_istore_n (lv' := [(3, .int (nI 0)), (2, .int (nI 0)), (0, .ref h0), (1, .int (nI S))]) hx hb dX1_readFlow_3 rfl hl (by decide) rfl (fun ls hl => ?_)
  refine lpX1_readFlow C0 hN hA hw6 hT8 hT1 hs8 hK (fun t1 F1 H locs ls g1 hP hD hS hl => ?_) 9 0 0 F _ _ _ (by omega) ⟨rfl, fs_0 _ _ _⟩ (hP.sub [0, 1, 2, 3] rfl) (hD.sub [0, 1, 2, 3] (by decide) rfl) hS (lv_sub hl [2, 3, 1, 0] rfl)
  exact gx_retv hx hb hr hlocks F1 (g1) hK (hP.sub [0, 1, 2, 3] rfl) (hD.sub [0, 1, 2, 3] (by decide) rfl) hS dX1_readFlow_51
abbrev rmX1_allowedDirection : Room := { frames := 0, cells := 0, slots := 0, locals := 0 }
theorem iw_X1_allowedDirection_X1 : ∀ w ∈ wsX10, w ∈ wsX1_allowedDirection := by decide +kernel
theorem kw_X1_allowedDirection_26 : Cond.fieldLink RX1 26 "FluxModes" "flow" "[J" ∈ wsX1_allowedDirection := by decide +kernel
theorem kw_X1_allowedDirection_37 : Cond.fieldLink RX1 37 "FluxModes" "reversibleSet" "I" ∈ wsX1_allowedDirection := by decide +kernel
set_option maxHeartbeats 4000000 in
set_option maxRecDepth 100000 in
theorem lpX1_allowedDirection {p : Program} {l : Launch} {e : Env} {s : State} {m : MethodId} {args : Array Value} {below : List Frame} {meth : Method} {c : Code} {Q : State → Prop} {D : va_G} {A : Nat → Prop} {H0 : Heap} (C0 : CallFix p m c cX1_allowedDirection 6 s args wsX1_allowedDirection RX1) (hN : gx_N s) (hA : ∀ q : Nat, H0.size ≤ q → A q) {h0 e1 s1 r1 d1 w1 M R V n S : Nat} {cW : ClassId} {F : Nat → Int64} (hs8 : S < 256) (hK : va_K D vwCl [(cW, .long)] s) (kk : ∀ (H : Heap) (locs : List Loc) (ls : Array Slot), va_P D vwCl [(h0, .inr (1, [.ref e1, .int (nI M), .int (nI R), .int (nI V), .ref s1, .ref r1, .int (nI n), .ref d1, .ref w1])), (w1, .inl (cW, 8, .inr (.inl F)))] H → va_D A [(h0, .inr (1, [.ref e1, .int (nI M), .int (nI R), .int (nI V), .ref s1, .ref r1, .int (nI n), .ref d1, .ref w1])), (w1, .inl (cW, 8, .inr (.inl F)))] → va_S A H0 H locs → lv_has ls 6 [(0, .ref h0), (1, .int (nI S)), (2, .int (nI (fwm (fun j => decide (0 < F j)) 8))), (3, .int (nI 8))] → W p l e rmX1_allowedDirection s m args below meth c H locs 0 0 Q (F0 m 33 ls [])) : ∀ (n_ : Nat) (j fw : Nat) (H : Heap) (locs : List Loc) (ls : Array Slot), (j ≤ 8 ∧ 8 < j + n_) → (fw = fwm (fun j => decide (0 < F j)) j) → va_P D vwCl [(h0, .inr (1, [.ref e1, .int (nI M), .int (nI R), .int (nI V), .ref s1, .ref r1, .int (nI n), .ref d1, .ref w1])), (w1, .inl (cW, 8, .inr (.inl F)))] H → va_D A [(h0, .inr (1, [.ref e1, .int (nI M), .int (nI R), .int (nI V), .ref s1, .ref r1, .int (nI n), .ref d1, .ref w1])), (w1, .inl (cW, 8, .inr (.inl F)))] → va_S A H0 H locs → lv_has ls 6 [(0, .ref h0), (1, .int (nI S)), (2, .int (nI fw)), (3, .int (nI j))] → W p l e rmX1_allowedDirection s m args below meth c H locs 0 0 Q (F0 m 4 ls []) := by
  obtain ⟨hx, hb, hml, hown, hts⟩ := id C0
  intro n_
  induction n_ with
  | zero =>
    intro j fw H locs ls hm
    exact absurd hm (by omega)
  | succ n_ ih =>
    intro j fw H locs ls hm hI hP hD hS hl
    refine lv_iload_n hx hb dX1_allowedDirection_4 rfl (lv_at hl 3 rfl) ?_
    refine lv_bipush (v := nI 8) hx hb dX1_allowedDirection_5 (by decide) ?_
    refine gx_ge (tgt := 33) hx hb dX1_allowedDirection_7 (by decide) (by omega) (by omega) (fun c_7 => ?_) (fun c_7 => ?_)
    · have hj8 : j = 8 := by omega
      subst hj8
      subst hI
      exact kk _ _ _ (hP.sub [0, 1] rfl) (hD.sub [0, 1] (by decide) rfl) hS (lv_sub hl [0, 1, 2, 3] rfl)
    · refine lv_aload_n hx hb dX1_allowedDirection_10 rfl (lv_at hl 0 rfl) ?_
      refine va_get (D := D) (ci := 1) (v := .ref w1) (C := RX1) (T := TX1) (N := 9) hx hb hts iw_X1_allowedDirection_X1 hown hK hP 0 rfl rfl 8 (by decide) (hts _ kw_X1_allowedDirection_26) (fun _ h9 => h9) rfl dX1_allowedDirection_11 ?_
      refine lv_iload_n hx hb dX1_allowedDirection_14 rfl (lv_at hl 3 rfl) ?_
      refine gx_lald (q := j) hx hb hK hP 1 0 rfl rfl (rfl) (by omega) (by decide) dX1_allowedDirection_15 ?_
      refine lv_lconst (v := 0) hx hb dX1_allowedDirection_16 (by decide) ?_
      refine W.lcmp hx hb dX1_allowedDirection_17 ?_
      refine lv_if_le (tgt := 27) hx hb dX1_allowedDirection_18 (by decide) (fun c_18 => ?_) (fun c_18 => ?_)
      · refine lv_iinc (v := nI (j + 1)) (lv' := [(3, .int (nI (j + 1))), (0, .ref h0), (1, .int (nI S)), (2, .int (nI fw))]) hx hb dX1_allowedDirection_27 hl (k := 3) rfl ((nI_succ j).symm) (by decide) rfl (fun ls hl => ?_)
        refine lv_goto (tgt := 4) hx hb dX1_allowedDirection_30 (by decide) ?_
        have hz : decide (0 < F j) = false := decide_eq_false ((gx_cmp_le _ _).mp c_18)
        exact ih (j + 1) fw _ _ _ (by omega) (by rw [fwm_out (P := (fun j => decide (0 < F j))) hz]; exact hI) (hP.sub [0, 1] rfl) (hD.sub [0, 1] (by decide) rfl) hS (lv_sub hl [1, 2, 3, 0] rfl)
      · refine lv_iload_n hx hb dX1_allowedDirection_21 rfl (lv_at hl 2 rfl) ?_
        refine lv_iconst (v := nI 1) hx hb dX1_allowedDirection_22 (by decide) ?_
        refine lv_iload_n hx hb dX1_allowedDirection_23 rfl (lv_at hl 3 rfl) ?_
        refine lv_ishl hx hb dX1_allowedDirection_24 ?_
        refine gx_i (y := nI (2 ^ j)) (nx_shl1 j (by omega)) ?_
        refine lv_ior hx hb dX1_allowedDirection_25 ?_
        refine gx_i (y := nI (fw ||| 2 ^ j)) (nx_or fw (2 ^ j)) ?_
        refine lv_istore_n (lv' := [(2, .int (nI (fw ||| 2 ^ j))), (0, .ref h0), (1, .int (nI S)), (3, .int (nI j))]) hx hb dX1_allowedDirection_26 rfl hl (by decide) rfl (fun ls hl => ?_)
        refine lv_iinc (v := nI (j + 1)) (lv' := [(3, .int (nI (j + 1))), (2, .int (nI (fw ||| 2 ^ j))), (0, .ref h0), (1, .int (nI S))]) hx hb dX1_allowedDirection_27 hl (k := 3) rfl ((nI_succ j).symm) (by decide) rfl (fun ls hl => ?_)
        refine lv_goto (tgt := 4) hx hb dX1_allowedDirection_30 (by decide) ?_
        have hz : decide (0 < F j) = true := decide_eq_true (Classical.byContradiction (fun q => c_18 ((gx_cmp_le _ _).mpr q)))
        exact ih (j + 1) (fw ||| 2 ^ j) _ _ _ (by omega) (by rw [fwm_in (P := (fun j => decide (0 < F j))) hz, hI]) (hP.sub [0, 1] rfl) (hD.sub [0, 1] (by decide) rfl) hS (lv_sub hl [2, 3, 1, 0] rfl)
set_option maxHeartbeats 4000000 in
set_option maxRecDepth 100000 in
theorem kX1_allowedDirection (l : Launch) (D : va_G) (h0 e1 s1 r1 d1 w1 M R V n S : Nat) (cW : ClassId) (F : Nat → Int64) (hs8 : S < 256) (hs0 : 0 < S) : gx_Mi l D yX1_allowedDirection wsX1_allowedDirection rmX1_allowedDirection [.ref h0, .int (nI S)] [(cW, .long)] [(h0, .inr (1, [.ref e1, .int (nI M), .int (nI R), .int (nI V), .ref s1, .ref r1, .int (nI n), .ref d1, .ref w1])), (w1, .inl (cW, 8, .inr (.inl F)))] (S := Unit) (fun r (_ : Unit) => r = dirS S V (fun j => decide (0 < F j))) (fun (_ : Unit) => [(h0, .inr (1, [.ref e1, .int (nI M), .int (nI R), .int (nI V), .ref s1, .ref r1, .int (nI n), .ref d1, .ref w1])), (w1, .inl (cW, 8, .inr (.inl F)))]) := by
  intro sz
  refine gx_start (cc := cX1_allowedDirection) (maxL := 6) (ret := (some .int)) (Qc := fun A => va_Qi (fun r (_ : Unit) => r = dirS S V (fun j => decide (0 < F j))) (gx_B D [(cW, .long)] A (fun (_ : Unit) => [(h0, .inr (1, [.ref e1, .int (nI M), .int (nI R), .int (nI V), .ref s1, .ref r1, .int (nI n), .ref d1, .ref w1])), (w1, .inl (cW, 8, .inr (.inl F)))])) A) (by decide) rfl (Nat.le_of_ble_eq_true rfl) ?_ sz
  intro p e s m below meth c A hbody ls hl
  obtain ⟨C0, hr, hlocks, hN, hK, hP, hD, hA⟩ := hbody
  have C0 : CallFix p m c cX1_allowedDirection 6 s ([.ref h0, .int (nI S)] : List Value).toArray wsX1_allowedDirection RX1 := C0
  obtain ⟨hx, hb, hml, hown, hts⟩ := id C0
  have hS : va_S A s.heap s.heap [] := va_S.rf
  have hl : lv_has ls 6 [(0, .ref h0), (1, .int (nI S))] := hl
  refine lv_iconst (v := nI 0) hx hb dX1_allowedDirection_0 (by decide) ?_
  refine lv_istore_n (lv' := [(2, .int (nI 0)), (0, .ref h0), (1, .int (nI S))]) hx hb dX1_allowedDirection_1 rfl hl (by decide) rfl (fun ls hl => ?_)
  refine lv_iconst (v := nI 0) hx hb dX1_allowedDirection_2 (by decide) ?_
  refine lv_istore_n (lv' := [(3, .int (nI 0)), (2, .int (nI 0)), (0, .ref h0), (1, .int (nI S))]) hx hb dX1_allowedDirection_3 rfl hl (by decide) rfl (fun ls hl => ?_)
  refine lpX1_allowedDirection C0 hN hA hs8 hK (fun H locs ls hP hD hS hl => ?_) 9 0 0 _ _ _ (by omega) rfl (hP.sub [0, 1] rfl) (hD.sub [0, 1] (by decide) rfl) hS (lv_sub hl [2, 3, 1, 0] rfl)
  generalize hPe : (fun j => decide (0 < F j)) = P at hl ⊢
  refine lv_iload_n hx hb dX1_allowedDirection_33 rfl (lv_at hl 1 rfl) ?_
  refine lv_iload_n hx hb dX1_allowedDirection_34 rfl (lv_at hl 2 rfl) ?_
  refine lv_iconst (v := (-1)) hx hb dX1_allowedDirection_35 (by decide) ?_
  refine lv_ixor hx hb dX1_allowedDirection_36 ?_
  refine lv_iand hx hb dX1_allowedDirection_37 ?_
  refine gx_i (y := nI (S &&& (255 ^^^ fwm P 8))) (nx_andn hs8) ?_
  refine lv_istore_n (lv' := [(3, .int (nI (S &&& (255 ^^^ fwm P 8)))), (0, .ref h0), (1, .int (nI S)), (2, .int (nI (fwm P 8)))]) hx hb dX1_allowedDirection_38 rfl hl (by decide) rfl (fun ls hl => ?_)
  refine lv_iload_n hx hb dX1_allowedDirection_39 rfl (lv_at hl 2 rfl) ?_
  refine lv_aload_n hx hb dX1_allowedDirection_40 rfl (lv_at hl 1 rfl) ?_
  refine va_get (D := D) (ci := 1) (v := .int (nI V)) (C := RX1) (T := TX1) (N := 9) hx hb hts iw_X1_allowedDirection_X1 hown hK hP 0 rfl rfl 3 (by decide) (hts _ kw_X1_allowedDirection_37) (fun _ h9 => h9) rfl dX1_allowedDirection_41 ?_
  refine lv_iconst (v := (-1)) hx hb dX1_allowedDirection_44 (by decide) ?_
  refine lv_ixor hx hb dX1_allowedDirection_45 ?_
  refine lv_iand hx hb dX1_allowedDirection_46 ?_
  refine gx_i (y := nI (S &&& (255 ^^^ V))) (nx_andn hs8) ?_
  refine lv_istore (lv' := [(4, .int (nI (S &&& (255 ^^^ V)))), (3, .int (nI (S &&& (255 ^^^ fwm P 8)))), (0, .ref h0), (1, .int (nI S)), (2, .int (nI (fwm P 8)))]) hx hb dX1_allowedDirection_47 hl (by decide) rfl (fun ls hl => ?_)
  refine lv_iload hx hb dX1_allowedDirection_49 (lv_at hl 0 rfl) ?_
  refine lv_if_ne (tgt := 73) hx hb dX1_allowedDirection_51 (by decide) (fun c_51 => ?_) (fun c_51 => ?_)
  · refine lv_iload hx hb dX1_allowedDirection_73 (lv_at hl 0 rfl) ?_
    refine lv_iload_n hx hb dX1_allowedDirection_75 rfl (lv_at hl 1 rfl) ?_
    refine lv_iand hx hb dX1_allowedDirection_76 ?_
    refine gx_i (y := nI ((S &&& (255 ^^^ V)) &&& (S &&& (255 ^^^ fwm P 8)))) (nx_and _ _) ?_
    refine lv_if_ne (tgt := 82) hx hb dX1_allowedDirection_77 (by decide) (fun c_77 => ?_) (fun c_77 => ?_)
    · refine lv_iload hx hb dX1_allowedDirection_82 (lv_at hl 0 rfl) ?_
      refine lv_iload_n hx hb dX1_allowedDirection_84 rfl (lv_at hl 4 rfl) ?_
      refine lv_iand hx hb dX1_allowedDirection_85 ?_
      refine gx_i (y := nI ((S &&& (255 ^^^ V)) &&& fwm P 8)) (nx_and _ _) ?_
      refine lv_if_ne (tgt := 93) hx hb dX1_allowedDirection_86 (by decide) (fun c_86 => ?_) (fun c_86 => ?_)
      · refine lv_iconst (v := 0) hx hb dX1_allowedDirection_93 (by decide) ?_
        exact gx_reti hx hb hr hlocks () (dir_5 hs8 c_51 c_77 c_86) hK (hP.sub [0, 1] rfl) (hD.sub [0, 1] (by decide) rfl) hS dX1_allowedDirection_94
      · refine lv_iconst (v := (-1)) hx hb dX1_allowedDirection_89 (by decide) ?_
        refine lv_goto (tgt := 94) hx hb dX1_allowedDirection_90 (by decide) ?_
        exact gx_reti hx hb hr hlocks () (dir_4 hs8 c_51 c_77 c_86) hK (hP.sub [0, 1] rfl) (hD.sub [0, 1] (by decide) rfl) hS dX1_allowedDirection_94
    · refine lv_iconst (v := 1) hx hb dX1_allowedDirection_80 (by decide) ?_
      exact gx_reti hx hb hr hlocks () (dir_3 hs8 c_51 c_77) hK (hP.sub [0, 1] rfl) (hD.sub [0, 1] (by decide) rfl) hS dX1_allowedDirection_81
  · refine lv_iload_n hx hb dX1_allowedDirection_54 rfl (lv_at hl 3 rfl) ?_
    refine lv_iload_n hx hb dX1_allowedDirection_55 rfl (lv_at hl 3 rfl) ?_
    refine lv_ineg hx hb dX1_allowedDirection_56 ?_
    refine lv_iand hx hb dX1_allowedDirection_57 ?_
    refine gx_i (y := nI (2 ^ mx_nth S 0)) (nx_least S hs8 hs0) ?_
    refine lv_istore (lv' := [(5, .int (nI (2 ^ mx_nth S 0))), (4, .int (nI (S &&& (255 ^^^ V)))), (3, .int (nI (S &&& (255 ^^^ fwm P 8)))), (0, .ref h0), (1, .int (nI S)), (2, .int (nI (fwm P 8)))]) hx hb dX1_allowedDirection_58 hl (by decide) rfl (fun ls hl => ?_)
    refine lv_iload_n hx hb dX1_allowedDirection_60 rfl (lv_at hl 5 rfl) ?_
    refine lv_iload hx hb dX1_allowedDirection_61 (lv_at hl 0 rfl) ?_
    refine lv_iand hx hb dX1_allowedDirection_63 ?_
    refine gx_i (y := nI (fwm P 8 &&& 2 ^ mx_nth S 0)) (nx_and _ _) ?_
    refine lv_if_eq (tgt := 71) hx hb dX1_allowedDirection_64 (by decide) (fun c_64 => ?_) (fun c_64 => ?_)
    · refine lv_iconst (v := (-1)) hx hb dX1_allowedDirection_71 (by decide) ?_
      exact gx_reti hx hb hr hlocks () (dir_2 hs8 hs0 c_51 c_64) hK (hP.sub [0, 1] rfl) (hD.sub [0, 1] (by decide) rfl) hS dX1_allowedDirection_72
    · refine lv_iconst (v := 1) hx hb dX1_allowedDirection_67 (by decide) ?_
      refine lv_goto (tgt := 72) hx hb dX1_allowedDirection_68 (by decide) ?_
      exact gx_reti hx hb hr hlocks () (dir_1 hs8 hs0 c_51 c_64) hK (hP.sub [0, 1] rfl) (hD.sub [0, 1] (by decide) rfl) hS dX1_allowedDirection_72
abbrev rmX1_list : Room := { frames := 2, cells := 0, slots := 0, locals := 60 }
theorem iw_X1_list_X1 : ∀ w ∈ wsX10, w ∈ wsX1_list := by decide +kernel
theorem kw_X1_list_26 : Cond.fieldLink RX1 26 "FluxModes" "flow" "[J" ∈ wsX1_list := by decide +kernel
theorem kw_X1_list_16 : Cond.fieldLink RX1 16 "FluxModes" "listedRates" "[I" ∈ wsX1_list := by decide +kernel
theorem kw_X1_list_40 : Cond.fieldLink RX1 40 "FluxModes" "listed" "I" ∈ wsX1_list := by decide +kernel
theorem kw_X1_list_13 : Cond.fieldLink RX1 13 "FluxModes" "listedSupports" "[I" ∈ wsX1_list := by decide +kernel
set_option maxHeartbeats 4000000 in
set_option maxRecDepth 100000 in
theorem lpX1_list1 {p : Program} {l : Launch} {e : Env} {s : State} {m : MethodId} {args : Array Value} {below : List Frame} {meth : Method} {c : Code} {Q : State → Prop} {D : va_G} {A : Nat → Prop} {H0 : Heap} (C0 : CallFix p m c cX1_list 8 s args wsX1_list RX1) (hN : gx_N s) (hA : ∀ q : Nat, H0.size ≤ q → A q) {h0 e1 s1 r1 d1 w1 M R V n S : Nat} {d : Int32} {cS cR cW : ClassId} {U : Nat → Int32} {F : Nat → Int64} {f : Nat → Int} {T0 : Nat → Int32} (hn : n < 70) (hF : ∀ j, j < 8 → F j = Int64.ofInt (f j)) (hf : ∀ j, j < 8 → (f j).natAbs ≤ 382637520) (hK : va_K D vwCl [(cS, .int), (cR, .int), (cW, .long)] s) (kk : ∀ (H : Heap) (locs : List Loc) (ls : Array Slot), va_P D vwCl [(h0, .inr (1, [.ref e1, .int (nI M), .int (nI R), .int (nI V), .ref s1, .ref r1, .int (nI n), .ref d1, .ref w1])), (s1, .inl (cS, 70, .inl U)), (r1, .inl (cR, 560, .inl T0)), (w1, .inl (cW, 8, .inr (.inl F)))] H → va_D A [(h0, .inr (1, [.ref e1, .int (nI M), .int (nI R), .int (nI V), .ref s1, .ref r1, .int (nI n), .ref d1, .ref w1])), (s1, .inl (cS, 70, .inl U)), (r1, .inl (cR, 560, .inl T0)), (w1, .inl (cW, 8, .inr (.inl F)))] → va_S A H0 H locs → lv_has ls 8 [(0, .ref h0), (1, .int (nI S)), (2, .int d), (3, .long (lN (gdv (fun j => (f j).natAbs) 8))), (5, .int (nI 8))] → W p l e rmX1_list s m args below meth c H locs 0 0 Q (F0 m 30 ls [])) : ∀ (n_ : Nat) (j g : Nat) (H : Heap) (locs : List Loc) (ls : Array Slot), (j ≤ 8 ∧ 8 < j + n_) → (g = gdv (fun j => (f j).natAbs) j) → va_P D vwCl [(h0, .inr (1, [.ref e1, .int (nI M), .int (nI R), .int (nI V), .ref s1, .ref r1, .int (nI n), .ref d1, .ref w1])), (s1, .inl (cS, 70, .inl U)), (r1, .inl (cR, 560, .inl T0)), (w1, .inl (cW, 8, .inr (.inl F)))] H → va_D A [(h0, .inr (1, [.ref e1, .int (nI M), .int (nI R), .int (nI V), .ref s1, .ref r1, .int (nI n), .ref d1, .ref w1])), (s1, .inl (cS, 70, .inl U)), (r1, .inl (cR, 560, .inl T0)), (w1, .inl (cW, 8, .inr (.inl F)))] → va_S A H0 H locs → lv_has ls 8 [(0, .ref h0), (1, .int (nI S)), (2, .int d), (3, .long (lN g)), (5, .int (nI j))] → W p l e rmX1_list s m args below meth c H locs 0 0 Q (F0 m 5 ls []) := by
  obtain ⟨hx, hb, hml, hown, hts⟩ := id C0
  intro n_
  induction n_ with
  | zero =>
    intro j g H locs ls hm
    exact absurd hm (by omega)
  | succ n_ ih =>
    intro j g H locs ls hm hI hP hD hS hl
    refine lv_iload hx hb dX1_list_5 (lv_at hl 4 rfl) ?_
    refine lv_bipush (v := nI 8) hx hb dX1_list_7 (by decide) ?_
    refine gx_ge (tgt := 30) hx hb dX1_list_9 (by decide) (by omega) (by omega) (fun c_9 => ?_) (fun c_9 => ?_)
    · have hj8 : j = 8 := by omega
      subst hj8
      subst hI
      exact kk _ _ _ (hP.sub [0, 1, 2, 3] rfl) (hD.sub [0, 1, 2, 3] (by decide) rfl) hS (lv_sub hl [0, 1, 2, 3, 4] rfl)
    · refine lv_lload_n hx hb dX1_list_12 rfl (lv_at hl 3 rfl) ?_
      refine lv_aload_n hx hb dX1_list_13 rfl (lv_at hl 0 rfl) ?_
      refine va_get (D := D) (ci := 1) (v := .ref w1) (C := RX1) (T := TX1) (N := 9) hx hb hts iw_X1_list_X1 hown hK hP 0 rfl rfl 8 (by decide) (hts _ kw_X1_list_26) (fun _ h9 => h9) rfl dX1_list_14 ?_
      refine lv_iload hx hb dX1_list_17 (lv_at hl 4 rfl) ?_
      refine gx_lald (q := j) hx hb hK hP 3 2 rfl rfl (rfl) (by omega) (by decide) dX1_list_19 ?_
      refine gx_l (y := Int64.ofInt (f j)) (hF j (by omega)) ?_
      refine gx_jl (wr := [(h0, .inr (1, [.ref e1, .int (nI M), .int (nI R), .int (nI V), .ref s1, .ref r1, .int (nI n), .ref d1, .ref w1])), (s1, .inl (cS, 70, .inl U)), (r1, .inl (cR, 560, .inl T0)), (w1, .inl (cW, 8, .inr (.inl F)))]) (gx_rS (As := [.long (lN g), .long (Int64.ofInt (f j))]) (rest := []) C0 (kX1_commonDivisor l D g (f j) (hI ▸ gdv_le hf (by omega)) (hf j (by omega)) _) (va_cwS 2 hts gX1_list_X1_commonDivisor rfl rfl rfl (by decide +kernel) ⟨Nat.le_of_ble_eq_true rfl, Nat.le_of_ble_eq_true rfl⟩) hN hK hP hD [] [] rfl rfl (by decide) rfl rfl hl.1 rfl (Nat.le_of_ble_eq_true rfl) dX1_list_20 ⟨Nat.zero_le _, Nat.zero_le _⟩) hP hD hS hA [] [0, 1, 2, 3] rfl rfl (by decide) (by decide) (fun rq u H locs hw hP hD hS => ?_)
      have hw : rq = lN (Nat.gcd g (f j).natAbs) := hw
      subst hw
      have hP : va_P D vwCl [(h0, .inr (1, [.ref e1, .int (nI M), .int (nI R), .int (nI V), .ref s1, .ref r1, .int (nI n), .ref d1, .ref w1])), (s1, .inl (cS, 70, .inl U)), (r1, .inl (cR, 560, .inl T0)), (w1, .inl (cW, 8, .inr (.inl F)))] H := hP
      have hD : va_D A [(h0, .inr (1, [.ref e1, .int (nI M), .int (nI R), .int (nI V), .ref s1, .ref r1, .int (nI n), .ref d1, .ref w1])), (s1, .inl (cS, 70, .inl U)), (r1, .inl (cR, 560, .inl T0)), (w1, .inl (cW, 8, .inr (.inl F)))] := hD
      refine lv_lstore_n (lv' := [(3, .long (lN (Nat.gcd g (f j).natAbs))), (0, .ref h0), (1, .int (nI S)), (2, .int d), (5, .int (nI j))]) hx hb dX1_list_23 rfl hl (by decide) rfl (fun ls hl => ?_)
      refine lv_iinc (v := nI (j + 1)) (lv' := [(5, .int (nI (j + 1))), (3, .long (lN (Nat.gcd g (f j).natAbs))), (0, .ref h0), (1, .int (nI S)), (2, .int d)]) hx hb dX1_list_24 hl (k := 4) rfl ((nI_succ j).symm) (by decide) rfl (fun ls hl => ?_)
      refine lv_goto (tgt := 5) hx hb dX1_list_27 (by decide) ?_
      exact ih (j + 1) (Nat.gcd g (f j).natAbs) _ _ _ (by omega) (by rw [hI]; rfl) (hP.sub [0, 1, 2, 3] rfl) (hD.sub [0, 1, 2, 3] (by decide) rfl) hS (lv_sub hl [2, 3, 4, 1, 0] rfl)
set_option maxHeartbeats 4000000 in
set_option maxRecDepth 100000 in
theorem lpX1_list2 {p : Program} {l : Launch} {e : Env} {s : State} {m : MethodId} {args : Array Value} {below : List Frame} {meth : Method} {c : Code} {Q : State → Prop} {D : va_G} {A : Nat → Prop} {H0 : Heap} (C0 : CallFix p m c cX1_list 8 s args wsX1_list RX1) (hN : gx_N s) (hA : ∀ q : Nat, H0.size ≤ q → A q) {h0 e1 s1 r1 d1 w1 M R V n S : Nat} {d : Int32} {cS cR cW : ClassId} {U : Nat → Int32} {F : Nat → Int64} {f : Nat → Int} {T0 : Nat → Int32} {G : Nat} (hn : n < 70) (hF : ∀ j, j < 8 → F j = Int64.ofInt (f j)) (hf : ∀ j, j < 8 → (f j).natAbs ≤ 382637520) (hK : va_K D vwCl [(cS, .int), (cR, .int), (cW, .long)] s) (kk : ∀ (T : Nat → Int32) (H : Heap) (locs : List Loc) (ls : Array Slot), (rl_I T0 T n (fun j => rtv d (f j) G) 8) → va_P D vwCl [(h0, .inr (1, [.ref e1, .int (nI M), .int (nI R), .int (nI V), .ref s1, .ref r1, .int (nI n), .ref d1, .ref w1])), (s1, .inl (cS, 70, .inl U)), (r1, .inl (cR, 560, .inl T)), (w1, .inl (cW, 8, .inr (.inl F)))] H → va_D A [(h0, .inr (1, [.ref e1, .int (nI M), .int (nI R), .int (nI V), .ref s1, .ref r1, .int (nI n), .ref d1, .ref w1])), (s1, .inl (cS, 70, .inl U)), (r1, .inl (cR, 560, .inl T)), (w1, .inl (cW, 8, .inr (.inl F)))] → va_S A H0 H locs → lv_has ls 8 [(0, .ref h0), (1, .int (nI S)), (2, .int d), (3, .long (lN G)), (5, .int (nI 8))] → W p l e rmX1_list s m args below meth c H locs 0 0 Q (F0 m 80 ls [])) : ∀ (n_ : Nat) (j : Nat) (T : Nat → Int32) (H : Heap) (locs : List Loc) (ls : Array Slot), (j ≤ 8 ∧ 8 < j + n_) → (rl_I T0 T n (fun j => rtv d (f j) G) j) → va_P D vwCl [(h0, .inr (1, [.ref e1, .int (nI M), .int (nI R), .int (nI V), .ref s1, .ref r1, .int (nI n), .ref d1, .ref w1])), (s1, .inl (cS, 70, .inl U)), (r1, .inl (cR, 560, .inl T)), (w1, .inl (cW, 8, .inr (.inl F)))] H → va_D A [(h0, .inr (1, [.ref e1, .int (nI M), .int (nI R), .int (nI V), .ref s1, .ref r1, .int (nI n), .ref d1, .ref w1])), (s1, .inl (cS, 70, .inl U)), (r1, .inl (cR, 560, .inl T)), (w1, .inl (cW, 8, .inr (.inl F)))] → va_S A H0 H locs → lv_has ls 8 [(0, .ref h0), (1, .int (nI S)), (2, .int d), (3, .long (lN G)), (5, .int (nI j))] → W p l e rmX1_list s m args below meth c H locs 0 0 Q (F0 m 33 ls []) := by
  obtain ⟨hx, hb, hml, hown, hts⟩ := id C0
  intro n_
  induction n_ with
  | zero =>
    intro j T H locs ls hm
    exact absurd hm (by omega)
  | succ n_ ih =>
    intro j T H locs ls hm hI hP hD hS hl
    refine lv_iload hx hb dX1_list_33 (lv_at hl 4 rfl) ?_
    refine lv_bipush (v := nI 8) hx hb dX1_list_35 (by decide) ?_
    refine gx_ge (tgt := 80) hx hb dX1_list_37 (by decide) (by omega) (by omega) (fun c_37 => ?_) (fun c_37 => ?_)
    · have hj8 : j = 8 := by omega
      subst hj8
      exact kk _ _ _ _ hI (hP.sub [0, 1, 2, 3] rfl) (hD.sub [0, 1, 2, 3] (by decide) rfl) hS (lv_sub hl [0, 1, 2, 3, 4] rfl)
    · refine lv_iload_n hx hb dX1_list_40 rfl (lv_at hl 2 rfl) ?_
      refine lv_i2l (v := d.toInt64) hx hb dX1_list_41 rfl ?_
      refine lv_aload_n hx hb dX1_list_42 rfl (lv_at hl 0 rfl) ?_
      refine va_get (D := D) (ci := 1) (v := .ref w1) (C := RX1) (T := TX1) (N := 9) hx hb hts iw_X1_list_X1 hown hK hP 0 rfl rfl 8 (by decide) (hts _ kw_X1_list_26) (fun _ h9 => h9) rfl dX1_list_43 ?_
      refine lv_iload hx hb dX1_list_46 (lv_at hl 4 rfl) ?_
      refine gx_lald (q := j) hx hb hK hP 3 2 rfl rfl (rfl) (by omega) (by decide) dX1_list_48 ?_
      refine gx_l (y := Int64.ofInt (f j)) (hF j (by omega)) ?_
      refine lv_lload_n hx hb dX1_list_49 rfl (lv_at hl 3 rfl) ?_
      refine gx_jl (wr := [(h0, .inr (1, [.ref e1, .int (nI M), .int (nI R), .int (nI V), .ref s1, .ref r1, .int (nI n), .ref d1, .ref w1])), (s1, .inl (cS, 70, .inl U)), (r1, .inl (cR, 560, .inl T)), (w1, .inl (cW, 8, .inr (.inl F)))]) (gx_rS (As := [.long (Int64.ofInt (f j)), .long (lN G)]) (rest := [.long d.toInt64]) C0 (kX1_quotient l D (Int64.ofInt (f j)) (lN G) _) (va_cwS 2 hts gX1_list_X1_quotient rfl rfl rfl (by decide +kernel) ⟨Nat.le_of_ble_eq_true rfl, Nat.le_of_ble_eq_true rfl⟩) hN hK hP hD [] [] rfl rfl (by decide) rfl rfl hl.1 rfl (Nat.le_of_ble_eq_true rfl) dX1_list_50 ⟨Nat.zero_le _, Nat.zero_le _⟩) hP hD hS hA [] [0, 1, 2, 3] rfl rfl (by decide) (by decide) (fun rq u H locs hw hP hD hS => ?_)
      have hw : rq = qt (Int64.ofInt (f j)) (lN G) := hw
      subst hw
      have hP : va_P D vwCl [(h0, .inr (1, [.ref e1, .int (nI M), .int (nI R), .int (nI V), .ref s1, .ref r1, .int (nI n), .ref d1, .ref w1])), (s1, .inl (cS, 70, .inl U)), (r1, .inl (cR, 560, .inl T)), (w1, .inl (cW, 8, .inr (.inl F)))] H := hP
      have hD : va_D A [(h0, .inr (1, [.ref e1, .int (nI M), .int (nI R), .int (nI V), .ref s1, .ref r1, .int (nI n), .ref d1, .ref w1])), (s1, .inl (cS, 70, .inl U)), (r1, .inl (cR, 560, .inl T)), (w1, .inl (cW, 8, .inr (.inl F)))] := hD
      refine lv_lmul hx hb dX1_list_53 ?_
      refine lv_lstore (lv' := [(6, .long (d.toInt64 * (qt (Int64.ofInt (f j)) (lN G)))), (0, .ref h0), (1, .int (nI S)), (2, .int d), (3, .long (lN G)), (5, .int (nI j))]) hx hb dX1_list_54 hl (by decide) rfl (fun ls hl => ?_)
      refine lv_aload_n hx hb dX1_list_56 rfl (lv_at hl 1 rfl) ?_
      refine va_get (D := D) (ci := 1) (v := .ref r1) (C := RX1) (T := TX1) (N := 9) hx hb hts iw_X1_list_X1 hown hK hP 0 rfl rfl 5 (by decide) (hts _ kw_X1_list_16) (fun _ h9 => h9) rfl dX1_list_57 ?_
      refine lv_aload_n hx hb dX1_list_60 rfl (lv_at hl 1 rfl) ?_
      refine va_get (D := D) (ci := 1) (v := .int (nI n)) (C := RX1) (T := TX1) (N := 9) hx hb hts iw_X1_list_X1 hown hK hP 0 rfl rfl 6 (by decide) (hts _ kw_X1_list_40) (fun _ h9 => h9) rfl dX1_list_61 ?_
      refine lv_bipush (v := nI 8) hx hb dX1_list_64 (by decide) ?_
      refine lv_imul hx hb dX1_list_66 ?_
      refine gx_i (y := nI (n * 8)) (pk_mul n 8) ?_
      refine lv_iload hx hb dX1_list_67 (lv_at hl 5 rfl) ?_
      refine lv_iadd hx hb dX1_list_69 ?_
      refine gx_i (y := nI (n * 8 + j)) (nI_add (n * 8) j) ?_
      refine lv_lload hx hb dX1_list_70 (lv_at hl 0 rfl) ?_
      refine lv_l2i (v := (d.toInt64 * (qt (Int64.ofInt (f j)) (lN G))).toInt32) hx hb dX1_list_72 rfl ?_
      refine gx_i (y := rtv d (f j) G) (rfl) ?_
      refine gx_iast (q := n * 8 + j) hx hb hK hP hD hS 2 1 rfl rfl (rfl) (by omega) (by decide) dX1_list_73 (fun H locs hP hD hS => ?_)
      have hP : va_P D vwCl [(h0, .inr (1, [.ref e1, .int (nI M), .int (nI R), .int (nI V), .ref s1, .ref r1, .int (nI n), .ref d1, .ref w1])), (s1, .inl (cS, 70, .inl U)), (r1, .inl (cR, 560, .inl (upd T (n * 8 + j) (rtv d (f j) G)))), (w1, .inl (cW, 8, .inr (.inl F)))] H := hP
      have hD : va_D A [(h0, .inr (1, [.ref e1, .int (nI M), .int (nI R), .int (nI V), .ref s1, .ref r1, .int (nI n), .ref d1, .ref w1])), (s1, .inl (cS, 70, .inl U)), (r1, .inl (cR, 560, .inl (upd T (n * 8 + j) (rtv d (f j) G)))), (w1, .inl (cW, 8, .inr (.inl F)))] := hD
      refine lv_iinc (v := nI (j + 1)) (lv' := [(5, .int (nI (j + 1))), (6, .long (d.toInt64 * (qt (Int64.ofInt (f j)) (lN G)))), (0, .ref h0), (1, .int (nI S)), (2, .int d), (3, .long (lN G))]) hx hb dX1_list_74 hl (k := 5) rfl ((nI_succ j).symm) (by decide) rfl (fun ls hl => ?_)
      refine lv_goto (tgt := 33) hx hb dX1_list_77 (by decide) ?_
      exact ih (j + 1) _ _ _ _ (by omega) (rl_s (by omega) hI) (hP.sub [0, 1, 2, 3] rfl) (hD.sub [0, 1, 2, 3] (by decide) rfl) hS (lv_sub hl [2, 3, 4, 5, 0] rfl)
set_option maxHeartbeats 4000000 in
set_option maxRecDepth 100000 in
theorem kX1_list (l : Launch) (D : va_G) (h0 e1 s1 r1 d1 w1 M R V n S : Nat) (d : Int32) (cS cR cW : ClassId) (U T : Nat → Int32) (F : Nat → Int64) (f : Nat → Int) (hn : n < 70) (hF : ∀ j, j < 8 → F j = Int64.ofInt (f j)) (hf : ∀ j, j < 8 → (f j).natAbs ≤ 382637520) : gx_Mv l D yX1_list wsX1_list rmX1_list [.ref h0, .int (nI S), .int d] [(cS, .int), (cR, .int), (cW, .long)] [(h0, .inr (1, [.ref e1, .int (nI M), .int (nI R), .int (nI V), .ref s1, .ref r1, .int (nI n), .ref d1, .ref w1])), (s1, .inl (cS, 70, .inl U)), (r1, .inl (cR, 560, .inl T)), (w1, .inl (cW, 8, .inr (.inl F)))] (S := Nat → Int32) (fun (u : Nat → Int32) => rl_I T u n (fun j => rtv d (f j) (gdv (fun j => (f j).natAbs) 8)) 8) (fun (u : Nat → Int32) => [(h0, .inr (1, [.ref e1, .int (nI M), .int (nI R), .int (nI V), .ref s1, .ref r1, .int (nI (n + 1)), .ref d1, .ref w1])), (s1, .inl (cS, 70, .inl (upd U n (nI S)))), (r1, .inl (cR, 560, .inl u)), (w1, .inl (cW, 8, .inr (.inl F)))]) := by
  intro sz
  refine gx_start (cc := cX1_list) (maxL := 8) (ret := none) (Qc := fun A => va_Qv (fun (u : Nat → Int32) => rl_I T u n (fun j => rtv d (f j) (gdv (fun j => (f j).natAbs) 8)) 8) (gx_B D [(cS, .int), (cR, .int), (cW, .long)] A (fun (u : Nat → Int32) => [(h0, .inr (1, [.ref e1, .int (nI M), .int (nI R), .int (nI V), .ref s1, .ref r1, .int (nI (n + 1)), .ref d1, .ref w1])), (s1, .inl (cS, 70, .inl (upd U n (nI S)))), (r1, .inl (cR, 560, .inl u)), (w1, .inl (cW, 8, .inr (.inl F)))])) A) (by decide) rfl (Nat.le_of_ble_eq_true rfl) ?_ sz
  intro p e s m below meth c A hbody ls hl
  obtain ⟨C0, hr, hlocks, hN, hK, hP, hD, hA⟩ := hbody
  have C0 : CallFix p m c cX1_list 8 s ([.ref h0, .int (nI S), .int d] : List Value).toArray wsX1_list RX1 := C0
  obtain ⟨hx, hb, hml, hown, hts⟩ := id C0
  have hS : va_S A s.heap s.heap [] := va_S.rf
  have hl : lv_has ls 8 [(0, .ref h0), (1, .int (nI S)), (2, .int d)] := hl
  refine lv_lconst (v := 0) hx hb dX1_list_0 (by decide) ?_
  refine lv_lstore_n (lv' := [(3, .long 0), (0, .ref h0), (1, .int (nI S)), (2, .int d)]) hx hb dX1_list_1 rfl hl (by decide) rfl (fun ls hl => ?_)
  refine lv_iconst (v := nI 0) hx hb dX1_list_2 (by decide) ?_
  refine lv_istore (lv' := [(5, .int (nI 0)), (3, .long 0), (0, .ref h0), (1, .int (nI S)), (2, .int d)]) hx hb dX1_list_3 hl (by decide) rfl (fun ls hl => ?_)
  refine lpX1_list1 (d := d) (U := U) C0 hN hA hn hF hf hK (fun H locs ls hP hD hS hl => ?_) 9 0 0 _ _ _ (by omega) rfl (hP.sub [0, 1, 2, 3] rfl) (hD.sub [0, 1, 2, 3] (by decide) rfl) hS (lv_sub hl [2, 3, 4, 1, 0] rfl)
  generalize hGe : gdv (fun j => (f j).natAbs) 8 = G at hl ⊢
  refine lv_iconst (v := nI 0) hx hb dX1_list_30 (by decide) ?_
  refine lv_istore (lv' := [(5, .int (nI 0)), (0, .ref h0), (1, .int (nI S)), (2, .int d), (3, .long (lN G))]) hx hb dX1_list_31 hl (by decide) rfl (fun ls hl => ?_)
  refine lpX1_list2 (U := U) (T0 := T) (G := G) C0 hN hA hn hF hf hK (fun T1 H locs ls hI hP hD hS hl => ?_) 9 0 T _ _ _ (by omega) (rl_0 T n _) (hP.sub [0, 1, 2, 3] rfl) (hD.sub [0, 1, 2, 3] (by decide) rfl) hS (lv_sub hl [1, 2, 3, 4, 0] rfl)
  refine lv_aload_n hx hb dX1_list_80 rfl (lv_at hl 0 rfl) ?_
  refine va_get (D := D) (ci := 1) (v := .ref s1) (C := RX1) (T := TX1) (N := 9) hx hb hts iw_X1_list_X1 hown hK hP 0 rfl rfl 4 (by decide) (hts _ kw_X1_list_13) (fun _ h9 => h9) rfl dX1_list_81 ?_
  refine lv_aload_n hx hb dX1_list_84 rfl (lv_at hl 0 rfl) ?_
  refine va_get (D := D) (ci := 1) (v := .int (nI n)) (C := RX1) (T := TX1) (N := 9) hx hb hts iw_X1_list_X1 hown hK hP 0 rfl rfl 6 (by decide) (hts _ kw_X1_list_40) (fun _ h9 => h9) rfl dX1_list_85 ?_
  refine lv_iload_n hx hb dX1_list_88 rfl (lv_at hl 1 rfl) ?_
  refine gx_iast (q := n) hx hb hK hP hD hS 1 0 rfl rfl (rfl) (by omega) (by decide) dX1_list_89 (fun H locs hP hD hS => ?_)
  have hP : va_P D vwCl [(h0, .inr (1, [.ref e1, .int (nI M), .int (nI R), .int (nI V), .ref s1, .ref r1, .int (nI n), .ref d1, .ref w1])), (s1, .inl (cS, 70, .inl (upd U n (nI S)))), (r1, .inl (cR, 560, .inl T1)), (w1, .inl (cW, 8, .inr (.inl F)))] H := hP
  have hD : va_D A [(h0, .inr (1, [.ref e1, .int (nI M), .int (nI R), .int (nI V), .ref s1, .ref r1, .int (nI n), .ref d1, .ref w1])), (s1, .inl (cS, 70, .inl (upd U n (nI S)))), (r1, .inl (cR, 560, .inl T1)), (w1, .inl (cW, 8, .inr (.inl F)))] := hD
  refine lv_aload_n hx hb dX1_list_90 rfl (lv_at hl 0 rfl) ?_
  refine lv_dup hx hb dX1_list_91 rfl ?_
  refine va_get (D := D) (ci := 1) (v := .int (nI n)) (C := RX1) (T := TX1) (N := 9) hx hb hts iw_X1_list_X1 hown hK hP 0 rfl rfl 6 (by decide) (hts _ kw_X1_list_40) (fun _ h9 => h9) rfl dX1_list_92 ?_
  refine lv_iconst (v := nI 1) hx hb dX1_list_95 (by decide) ?_
  refine lv_iadd hx hb dX1_list_96 ?_
  refine gx_i (y := nI (n + 1)) (nI_add n 1) ?_
  refine va_put (D := D) (ci := 1) (v := .int (nI (n + 1))) (ty := .int) (C := RX1) (T := TX1) (N := 9) hx hb hts iw_X1_list_X1 tyX1 tyX1_ok nmX1 hown hK hP hD hS 0 rfl rfl 6 (by decide) (hts _ kw_X1_list_40) (fun _ h9 => h9) rfl (by decide +kernel) rfl rfl (Nat.le_of_ble_eq_true rfl) dX1_list_97 (fun H locs hP hD hS => ?_)
  have hP : va_P D vwCl [(h0, .inr (1, [.ref e1, .int (nI M), .int (nI R), .int (nI V), .ref s1, .ref r1, .int (nI (n + 1)), .ref d1, .ref w1])), (s1, .inl (cS, 70, .inl (upd U n (nI S)))), (r1, .inl (cR, 560, .inl T1)), (w1, .inl (cW, 8, .inr (.inl F)))] H := hP
  have hD : va_D A [(h0, .inr (1, [.ref e1, .int (nI M), .int (nI R), .int (nI V), .ref s1, .ref r1, .int (nI (n + 1)), .ref d1, .ref w1])), (s1, .inl (cS, 70, .inl (upd U n (nI S)))), (r1, .inl (cR, 560, .inl T1)), (w1, .inl (cW, 8, .inr (.inl F)))] := hD
  exact gx_retv hx hb hr hlocks T1 (hGe ▸ hI) hK (hP.sub [0, 1, 2, 3] rfl) (hD.sub [0, 1, 2, 3] (by decide) rfl) hS dX1_list_100
