abbrev rmX2_straight : Room := { frames := 1, cells := 0, slots := 0, locals := 30 }
theorem iw_X2_straight_X2 : ∀ w ∈ wsX20, w ∈ wsX2_straight := by decide +kernel
theorem kw_X2_straight_7 : Cond.fieldLink RX2 7 "FluxModesModel" "net" "[I" ∈ wsX2_straight := by decide +kernel
theorem kw_X2_straight_23 : Cond.fieldLink RX2 23 "FluxModesModel" "a" "[J" ∈ wsX2_straight := by decide +kernel
theorem kw_X2_straight_27 : Cond.fieldLink RX2 27 "FluxModesModel" "leads" "[I" ∈ wsX2_straight := by decide +kernel
theorem kw_X2_straight_30 : Cond.fieldLink RX2 30 "FluxModesModel" "line" "[J" ∈ wsX2_straight := by decide +kernel
theorem kw_X2_straight_37 : Cond.fieldLink RX2 37 "FluxModesModel" "m" "I" ∈ wsX2_straight := by decide +kernel
theorem kw_X2_straight_33 : Cond.fieldLink RX2 33 "FluxModesModel" "\x72" "I" ∈ wsX2_straight := by decide +kernel
set_option maxHeartbeats 4000000 in
set_option maxRecDepth 100000 in
theorem lpX2_straight1 {p : Program} {l : Launch} {e : Env} {s : State} {m : MethodId} {args : Array Value} {below : List Frame} {meth : Method} {c : Code} {Q : State → Prop} {D : va_G} {A : Nat → Prop} {H0 : Heap} (C0 : CallFix p m c cX2_straight 8 s args wsX2_straight RX2) (hN : gx_N s) (hA : ∀ q : Nat, H0.size ≤ q → A q) {g0 p1 b1 q1 t1 a1 l1 v1 M R n S : Nat} {dE dA dL dV : ClassId} {E : Nat → Int32} {Ld : Nat → Int32} {F : Nat → Int64}  (hK : va_K D vwCl [(dE, .int), (dA, .long), (dL, .int), (dV, .long)] s) (kk : ∀ (K : Nat → Int64) (H : Heap) (locs : List Loc) (ls : Array Slot), (∀ q, q < 48 → K q = (E q).toInt64) → va_P D vwCl [(g0, .inr (2, [.ref p1, .ref b1, .int (nI M), .int (nI R), .int (nI n), .ref q1, .ref t1, .ref a1, .ref l1, .ref v1])), (p1, .inl (dE, 48, .inl E)), (a1, .inl (dA, 48, .inr (.inl K))), (l1, .inl (dL, 8, .inl Ld)), (v1, .inl (dV, 8, .inr (.inl F)))] H → va_D A [(g0, .inr (2, [.ref p1, .ref b1, .int (nI M), .int (nI R), .int (nI n), .ref q1, .ref t1, .ref a1, .ref l1, .ref v1])), (p1, .inl (dE, 48, .inl E)), (a1, .inl (dA, 48, .inr (.inl K))), (l1, .inl (dL, 8, .inl Ld)), (v1, .inl (dV, 8, .inr (.inl F)))] → va_S A H0 H locs → lv_has ls 8 [(0, .ref g0), (1, .int (nI S)), (2, .int (nI 48))] → W p l e rmX2_straight s m args below meth c H locs 0 0 Q (F0 m 27 ls [])) : ∀ (n_ : Nat) (i : Nat) (K : Nat → Int64) (H : Heap) (locs : List Loc) (ls : Array Slot), (i ≤ 48 ∧ 48 < i + n_) → (∀ q, q < i → K q = (E q).toInt64) → va_P D vwCl [(g0, .inr (2, [.ref p1, .ref b1, .int (nI M), .int (nI R), .int (nI n), .ref q1, .ref t1, .ref a1, .ref l1, .ref v1])), (p1, .inl (dE, 48, .inl E)), (a1, .inl (dA, 48, .inr (.inl K))), (l1, .inl (dL, 8, .inl Ld)), (v1, .inl (dV, 8, .inr (.inl F)))] H → va_D A [(g0, .inr (2, [.ref p1, .ref b1, .int (nI M), .int (nI R), .int (nI n), .ref q1, .ref t1, .ref a1, .ref l1, .ref v1])), (p1, .inl (dE, 48, .inl E)), (a1, .inl (dA, 48, .inr (.inl K))), (l1, .inl (dL, 8, .inl Ld)), (v1, .inl (dV, 8, .inr (.inl F)))] → va_S A H0 H locs → lv_has ls 8 [(0, .ref g0), (1, .int (nI S)), (2, .int (nI i))] → W p l e rmX2_straight s m args below meth c H locs 0 0 Q (F0 m 2 ls []) := by
  obtain ⟨hx, hb, hml, hown, hts⟩ := id C0
  intro n_
  induction n_ with
  | zero =>
    intro i K H locs ls hm
    exact absurd hm (by omega)
  | succ n_ ih =>
    intro i K H locs ls hm hI hP hD hS hl
    refine lv_iload_n hx hb dX2_straight_2 rfl (lv_at hl 2 rfl) ?_
    refine lv_bipush (v := nI 48) hx hb dX2_straight_3 (by decide) ?_
    refine gx_ge (tgt := 27) hx hb dX2_straight_5 (by decide) (by omega) (by omega) (fun c_5 => ?_) (fun c_5 => ?_)
    · have hi8 : i = 48 := by omega
      subst hi8
      exact kk _ _ _ _ hI (hP.sub [0, 1, 2, 3, 4] rfl) (hD.sub [0, 1, 2, 3, 4] (by decide) rfl) hS (lv_sub hl [0, 1, 2] rfl)
    · refine lv_aload_n hx hb dX2_straight_8 rfl (lv_at hl 0 rfl) ?_
      refine va_get (D := D) (ci := 2) (v := .ref a1) (C := RX2) (T := TX2) (N := 10) hx hb hts iw_X2_straight_X2 hown hK hP 0 rfl rfl 7 (by decide) (hts _ kw_X2_straight_23) (fun _ h9 => h9) rfl dX2_straight_9 ?_
      refine lv_iload_n hx hb dX2_straight_12 rfl (lv_at hl 2 rfl) ?_
      refine lv_aload_n hx hb dX2_straight_13 rfl (lv_at hl 0 rfl) ?_
      refine va_get (D := D) (ci := 2) (v := .ref p1) (C := RX2) (T := TX2) (N := 10) hx hb hts iw_X2_straight_X2 hown hK hP 0 rfl rfl 0 (by decide) (hts _ kw_X2_straight_7) (fun _ h9 => h9) rfl dX2_straight_14 ?_
      refine lv_iload_n hx hb dX2_straight_17 rfl (lv_at hl 2 rfl) ?_
      refine gx_iald (q := i) hx hb hK hP 1 0 rfl rfl (rfl) (by omega) (by decide) dX2_straight_18 ?_
      refine lv_i2l (v := (E i).toInt64) hx hb dX2_straight_19 rfl ?_
      refine gx_last (q := i) hx hb hK hP hD hS 2 1 rfl rfl (rfl) (by omega) (by decide) dX2_straight_20 (fun H locs hP hD hS => ?_)
      have hP : va_P D vwCl [(g0, .inr (2, [.ref p1, .ref b1, .int (nI M), .int (nI R), .int (nI n), .ref q1, .ref t1, .ref a1, .ref l1, .ref v1])), (p1, .inl (dE, 48, .inl E)), (a1, .inl (dA, 48, .inr (.inl (vp_updL K i ((E i).toInt64))))), (l1, .inl (dL, 8, .inl Ld)), (v1, .inl (dV, 8, .inr (.inl F)))] H := hP
      have hD : va_D A [(g0, .inr (2, [.ref p1, .ref b1, .int (nI M), .int (nI R), .int (nI n), .ref q1, .ref t1, .ref a1, .ref l1, .ref v1])), (p1, .inl (dE, 48, .inl E)), (a1, .inl (dA, 48, .inr (.inl (vp_updL K i ((E i).toInt64))))), (l1, .inl (dL, 8, .inl Ld)), (v1, .inl (dV, 8, .inr (.inl F)))] := hD
      refine lv_iinc (v := nI (i + 1)) (lv' := [(2, .int (nI (i + 1))), (0, .ref g0), (1, .int (nI S))]) hx hb dX2_straight_21 hl (k := 2) rfl ((nI_succ i).symm) (by decide) rfl (fun ls hl => ?_)
      refine lv_goto (tgt := 2) hx hb dX2_straight_24 (by decide) ?_
      exact ih (i + 1) _ _ _ _ (by omega) (cp_s hI) (hP.sub [0, 1, 2, 3, 4] rfl) (hD.sub [0, 1, 2, 3, 4] (by decide) rfl) hS (lv_sub hl [1, 2, 0] rfl)
set_option maxHeartbeats 4000000 in
set_option maxRecDepth 100000 in
theorem lpX2_straight2 {p : Program} {l : Launch} {e : Env} {s : State} {m : MethodId} {args : Array Value} {below : List Frame} {meth : Method} {c : Code} {Q : State → Prop} {D : va_G} {A : Nat → Prop} {H0 : Heap} (C0 : CallFix p m c cX2_straight 8 s args wsX2_straight RX2) (hN : gx_N s) (hA : ∀ q : Nat, H0.size ≤ q → A q) {g0 p1 b1 q1 t1 a1 l1 v1 M R n S : Nat} {dE dA dL dV : ClassId} {E : Nat → Int32} {K : Nat → Int64}  (hK : va_K D vwCl [(dE, .int), (dA, .long), (dL, .int), (dV, .long)] s) (kk : ∀ (Ld : Nat → Int32) (F : Nat → Int64) (H : Heap) (locs : List Loc) (ls : Array Slot), (∀ q, q < 8 → Ld q = nI 0) → (∀ q, q < 8 → F q = 0) → va_P D vwCl [(g0, .inr (2, [.ref p1, .ref b1, .int (nI M), .int (nI R), .int (nI n), .ref q1, .ref t1, .ref a1, .ref l1, .ref v1])), (p1, .inl (dE, 48, .inl E)), (a1, .inl (dA, 48, .inr (.inl K))), (l1, .inl (dL, 8, .inl Ld)), (v1, .inl (dV, 8, .inr (.inl F)))] H → va_D A [(g0, .inr (2, [.ref p1, .ref b1, .int (nI M), .int (nI R), .int (nI n), .ref q1, .ref t1, .ref a1, .ref l1, .ref v1])), (p1, .inl (dE, 48, .inl E)), (a1, .inl (dA, 48, .inr (.inl K))), (l1, .inl (dL, 8, .inl Ld)), (v1, .inl (dV, 8, .inr (.inl F)))] → va_S A H0 H locs → lv_has ls 8 [(0, .ref g0), (1, .int (nI S)), (2, .int (nI 8))] → W p l e rmX2_straight s m args below meth c H locs 0 0 Q (F0 m 55 ls [])) : ∀ (n_ : Nat) (i : Nat) (Ld : Nat → Int32) (F : Nat → Int64) (H : Heap) (locs : List Loc) (ls : Array Slot), (i ≤ 8 ∧ 8 < i + n_) → ((∀ q, q < i → Ld q = nI 0) ∧ ∀ q, q < i → F q = 0) → va_P D vwCl [(g0, .inr (2, [.ref p1, .ref b1, .int (nI M), .int (nI R), .int (nI n), .ref q1, .ref t1, .ref a1, .ref l1, .ref v1])), (p1, .inl (dE, 48, .inl E)), (a1, .inl (dA, 48, .inr (.inl K))), (l1, .inl (dL, 8, .inl Ld)), (v1, .inl (dV, 8, .inr (.inl F)))] H → va_D A [(g0, .inr (2, [.ref p1, .ref b1, .int (nI M), .int (nI R), .int (nI n), .ref q1, .ref t1, .ref a1, .ref l1, .ref v1])), (p1, .inl (dE, 48, .inl E)), (a1, .inl (dA, 48, .inr (.inl K))), (l1, .inl (dL, 8, .inl Ld)), (v1, .inl (dV, 8, .inr (.inl F)))] → va_S A H0 H locs → lv_has ls 8 [(0, .ref g0), (1, .int (nI S)), (2, .int (nI i))] → W p l e rmX2_straight s m args below meth c H locs 0 0 Q (F0 m 29 ls []) := by
  obtain ⟨hx, hb, hml, hown, hts⟩ := id C0
  intro n_
  induction n_ with
  | zero =>
    intro i Ld F H locs ls hm
    exact absurd hm (by omega)
  | succ n_ ih =>
    intro i Ld F H locs ls hm hI hP hD hS hl
    refine lv_iload_n hx hb dX2_straight_29 rfl (lv_at hl 2 rfl) ?_
    refine lv_bipush (v := nI 8) hx hb dX2_straight_30 (by decide) ?_
    refine gx_ge (tgt := 55) hx hb dX2_straight_32 (by decide) (by omega) (by omega) (fun c_32 => ?_) (fun c_32 => ?_)
    · have hi8 : i = 8 := by omega
      subst hi8
      exact kk _ _ _ _ _ hI.1 hI.2 (hP.sub [0, 1, 2, 3, 4] rfl) (hD.sub [0, 1, 2, 3, 4] (by decide) rfl) hS (lv_sub hl [0, 1, 2] rfl)
    · refine lv_aload_n hx hb dX2_straight_35 rfl (lv_at hl 0 rfl) ?_
      refine va_get (D := D) (ci := 2) (v := .ref l1) (C := RX2) (T := TX2) (N := 10) hx hb hts iw_X2_straight_X2 hown hK hP 0 rfl rfl 8 (by decide) (hts _ kw_X2_straight_27) (fun _ h9 => h9) rfl dX2_straight_36 ?_
      refine lv_iload_n hx hb dX2_straight_39 rfl (lv_at hl 2 rfl) ?_
      refine lv_iconst (v := nI 0) hx hb dX2_straight_40 (by decide) ?_
      refine gx_iast (q := i) hx hb hK hP hD hS 3 2 rfl rfl (rfl) (by omega) (by decide) dX2_straight_41 (fun H locs hP hD hS => ?_)
      have hP : va_P D vwCl [(g0, .inr (2, [.ref p1, .ref b1, .int (nI M), .int (nI R), .int (nI n), .ref q1, .ref t1, .ref a1, .ref l1, .ref v1])), (p1, .inl (dE, 48, .inl E)), (a1, .inl (dA, 48, .inr (.inl K))), (l1, .inl (dL, 8, .inl (upd Ld i (nI 0)))), (v1, .inl (dV, 8, .inr (.inl F)))] H := hP
      have hD : va_D A [(g0, .inr (2, [.ref p1, .ref b1, .int (nI M), .int (nI R), .int (nI n), .ref q1, .ref t1, .ref a1, .ref l1, .ref v1])), (p1, .inl (dE, 48, .inl E)), (a1, .inl (dA, 48, .inr (.inl K))), (l1, .inl (dL, 8, .inl (upd Ld i (nI 0)))), (v1, .inl (dV, 8, .inr (.inl F)))] := hD
      refine lv_aload_n hx hb dX2_straight_42 rfl (lv_at hl 0 rfl) ?_
      refine va_get (D := D) (ci := 2) (v := .ref v1) (C := RX2) (T := TX2) (N := 10) hx hb hts iw_X2_straight_X2 hown hK hP 0 rfl rfl 9 (by decide) (hts _ kw_X2_straight_30) (fun _ h9 => h9) rfl dX2_straight_43 ?_
      refine lv_iload_n hx hb dX2_straight_46 rfl (lv_at hl 2 rfl) ?_
      refine lv_lconst (v := 0) hx hb dX2_straight_47 (by decide) ?_
      refine gx_last (q := i) hx hb hK hP hD hS 4 3 rfl rfl (rfl) (by omega) (by decide) dX2_straight_48 (fun H locs hP hD hS => ?_)
      have hP : va_P D vwCl [(g0, .inr (2, [.ref p1, .ref b1, .int (nI M), .int (nI R), .int (nI n), .ref q1, .ref t1, .ref a1, .ref l1, .ref v1])), (p1, .inl (dE, 48, .inl E)), (a1, .inl (dA, 48, .inr (.inl K))), (l1, .inl (dL, 8, .inl (upd Ld i (nI 0)))), (v1, .inl (dV, 8, .inr (.inl (vp_updL F i 0))))] H := hP
      have hD : va_D A [(g0, .inr (2, [.ref p1, .ref b1, .int (nI M), .int (nI R), .int (nI n), .ref q1, .ref t1, .ref a1, .ref l1, .ref v1])), (p1, .inl (dE, 48, .inl E)), (a1, .inl (dA, 48, .inr (.inl K))), (l1, .inl (dL, 8, .inl (upd Ld i (nI 0)))), (v1, .inl (dV, 8, .inr (.inl (vp_updL F i 0))))] := hD
      refine lv_iinc (v := nI (i + 1)) (lv' := [(2, .int (nI (i + 1))), (0, .ref g0), (1, .int (nI S))]) hx hb dX2_straight_49 hl (k := 2) rfl ((nI_succ i).symm) (by decide) rfl (fun ls hl => ?_)
      refine lv_goto (tgt := 29) hx hb dX2_straight_52 (by decide) ?_
      exact ih (i + 1) _ _ _ _ _ (by omega) ⟨fz_s hI.1, fzl_s hI.2⟩ (hP.sub [0, 1, 2, 3, 4] rfl) (hD.sub [0, 1, 2, 3, 4] (by decide) rfl) hS (lv_sub hl [1, 2, 0] rfl)
set_option maxHeartbeats 4000000 in
set_option maxRecDepth 100000 in
theorem lpX2_straightW {p : Program} {l : Launch} {e : Env} {s : State} {m : MethodId} {args : Array Value} {below : List Frame} {meth : Method} {c : Code} {Q : State → Prop} {D : va_G} {A : Nat → Prop} {H0 : Heap} (C0 : CallFix p m c cX2_straight 8 s args wsX2_straight RX2) (hN : gx_N s) (hA : ∀ q : Nat, H0.size ≤ q → A q) {g0 p1 b1 q1 t1 a1 l1 v1 M R n S : Nat} {dE dA dL dV : ClassId} {E : Nat → Int32} {k j : Nat} {fr : Int32} {bf : Int64} {K : Nat → Int64} {Ld : Nat → Int32} {F : Nat → Int64} (hM6 : M ≤ 6) (hj8 : j < 8) (hK : va_K D vwCl [(dE, .int), (dA, .long), (dL, .int), (dV, .long)] s) (kk : ∀ (i : Nat) (H : Heap) (locs : List Loc) (ls : Array Slot), (k ≤ i) → (i ≤ M) → (∀ r, k ≤ r → r < i → K (r * 8 + j) = 0) → (i < M → K (i * 8 + j) ≠ 0) → va_P D vwCl [(g0, .inr (2, [.ref p1, .ref b1, .int (nI M), .int (nI R), .int (nI n), .ref q1, .ref t1, .ref a1, .ref l1, .ref v1])), (p1, .inl (dE, 48, .inl E)), (a1, .inl (dA, 48, .inr (.inl K))), (l1, .inl (dL, 8, .inl Ld)), (v1, .inl (dV, 8, .inr (.inl F)))] H → va_D A [(g0, .inr (2, [.ref p1, .ref b1, .int (nI M), .int (nI R), .int (nI n), .ref q1, .ref t1, .ref a1, .ref l1, .ref v1])), (p1, .inl (dE, 48, .inl E)), (a1, .inl (dA, 48, .inr (.inl K))), (l1, .inl (dL, 8, .inl Ld)), (v1, .inl (dV, 8, .inr (.inl F)))] → va_S A H0 H locs → lv_has ls 8 [(0, .ref g0), (1, .int (nI S)), (2, .int fr), (3, .int (nI k)), (4, .long bf), (6, .int (nI j)), (7, .int (nI i))] → W p l e rmX2_straight s m args below meth c H locs 0 0 Q (F0 m 122 ls [])) : ∀ (n_ : Nat) (i : Nat) (H : Heap) (locs : List Loc) (ls : Array Slot), (k ≤ i ∧ i ≤ M ∧ M < i + n_) → (∀ r, k ≤ r → r < i → K (r * 8 + j) = 0) → va_P D vwCl [(g0, .inr (2, [.ref p1, .ref b1, .int (nI M), .int (nI R), .int (nI n), .ref q1, .ref t1, .ref a1, .ref l1, .ref v1])), (p1, .inl (dE, 48, .inl E)), (a1, .inl (dA, 48, .inr (.inl K))), (l1, .inl (dL, 8, .inl Ld)), (v1, .inl (dV, 8, .inr (.inl F)))] H → va_D A [(g0, .inr (2, [.ref p1, .ref b1, .int (nI M), .int (nI R), .int (nI n), .ref q1, .ref t1, .ref a1, .ref l1, .ref v1])), (p1, .inl (dE, 48, .inl E)), (a1, .inl (dA, 48, .inr (.inl K))), (l1, .inl (dL, 8, .inl Ld)), (v1, .inl (dV, 8, .inr (.inl F)))] → va_S A H0 H locs → lv_has ls 8 [(0, .ref g0), (1, .int (nI S)), (2, .int fr), (3, .int (nI k)), (4, .long bf), (6, .int (nI j)), (7, .int (nI i))] → W p l e rmX2_straight s m args below meth c H locs 0 0 Q (F0 m 89 ls []) := by
  obtain ⟨hx, hb, hml, hown, hts⟩ := id C0
  intro n_
  induction n_ with
  | zero =>
    intro i H locs ls hm
    exact absurd hm (by omega)
  | succ n_ ih =>
    intro i H locs ls hm hI hP hD hS hl
    refine lv_iload hx hb dX2_straight_89 (lv_at hl 6 rfl) ?_
    refine lv_aload_n hx hb dX2_straight_91 rfl (lv_at hl 0 rfl) ?_
    refine va_get (D := D) (ci := 2) (v := .int (nI M)) (C := RX2) (T := TX2) (N := 10) hx hb hts iw_X2_straight_X2 hown hK hP 0 rfl rfl 2 (by decide) (hts _ kw_X2_straight_37) (fun _ h9 => h9) rfl dX2_straight_92 ?_
    refine gx_ge (tgt := 122) hx hb dX2_straight_95 (by decide) (by omega) (by omega) (fun c_95 => ?_) (fun c_95 => ?_)
    · exact kk i _ _ _ hm.1 (by omega) hI (fun h => absurd h (by omega)) (hP.sub [0, 1, 2, 3, 4] rfl) (hD.sub [0, 1, 2, 3, 4] (by decide) rfl) hS (lv_sub hl [0, 1, 2, 3, 4, 5, 6] rfl)
    · refine lv_aload_n hx hb dX2_straight_98 rfl (lv_at hl 0 rfl) ?_
      refine va_get (D := D) (ci := 2) (v := .ref a1) (C := RX2) (T := TX2) (N := 10) hx hb hts iw_X2_straight_X2 hown hK hP 0 rfl rfl 7 (by decide) (hts _ kw_X2_straight_23) (fun _ h9 => h9) rfl dX2_straight_99 ?_
      refine lv_bipush (v := nI 8) hx hb dX2_straight_102 (by decide) ?_
      refine lv_iload hx hb dX2_straight_104 (lv_at hl 6 rfl) ?_
      refine lv_imul hx hb dX2_straight_106 ?_
      refine gx_i (y := nI (i * 8)) ((pk_mul 8 i).trans (by rw [Nat.mul_comm])) ?_
      refine lv_iload hx hb dX2_straight_107 (lv_at hl 5 rfl) ?_
      refine lv_iadd hx hb dX2_straight_109 ?_
      refine gx_i (y := nI (i * 8 + j)) (nI_add (i * 8) j) ?_
      refine gx_lald (q := i * 8 + j) hx hb hK hP 2 1 rfl rfl (rfl) (by omega) (by decide) dX2_straight_110 ?_
      refine lv_lconst (v := 0) hx hb dX2_straight_111 (by decide) ?_
      refine W.lcmp hx hb dX2_straight_112 ?_
      refine lv_if_ne (tgt := 122) hx hb dX2_straight_113 (by decide) (fun c_113 => ?_) (fun c_113 => ?_)
      · have hz : K (i * 8 + j) ≠ 0 := fun q => c_113 ((gx_cmp0 _ _).mpr q)
        exact kk i _ _ _ hm.1 (by omega) hI (fun _ => hz) (hP.sub [0, 1, 2, 3, 4] rfl) (hD.sub [0, 1, 2, 3, 4] (by decide) rfl) hS (lv_sub hl [0, 1, 2, 3, 4, 5, 6] rfl)
      · refine lv_iinc (v := nI (i + 1)) (lv' := [(7, .int (nI (i + 1))), (0, .ref g0), (1, .int (nI S)), (2, .int fr), (3, .int (nI k)), (4, .long bf), (6, .int (nI j))]) hx hb dX2_straight_116 hl (k := 6) rfl ((nI_succ i).symm) (by decide) rfl (fun ls hl => ?_)
        refine lv_goto (tgt := 89) hx hb dX2_straight_119 (by decide) ?_
        have hz : K (i * 8 + j) = 0 := (gx_cmp0 _ _).mp c_113
        exact ih (i + 1) _ _ _ (by omega) (pq_s hI hz) (hP.sub [0, 1, 2, 3, 4] rfl) (hD.sub [0, 1, 2, 3, 4] (by decide) rfl) hS (lv_sub hl [1, 2, 3, 4, 5, 6, 0] rfl)
set_option maxHeartbeats 4000000 in
set_option maxRecDepth 100000 in
theorem lpX2_straight {p : Program} {l : Launch} {e : Env} {s : State} {m : MethodId} {args : Array Value} {below : List Frame} {meth : Method} {c : Code} {Q : State → Prop} {D : va_G} {A : Nat → Prop} {H0 : Heap} (C0 : CallFix p m c cX2_straight 8 s args wsX2_straight RX2) (hN : gx_N s) (hA : ∀ q : Nat, H0.size ≤ q → A q) {g0 p1 b1 q1 t1 a1 l1 v1 M R n S : Nat} {dE dA dL dV : ClassId} {E : Nat → Int32} {F : Nat → Int64} (hM6 : M ≤ 6) (hR8 : R ≤ 8) (h9 : e9 E) (hs8 : S < 256) (hK : va_K D vwCl [(dE, .int), (dA, .long), (dL, .int), (dV, .long)] s) (kk : ∀ (k : Nat) (fr : Int32) (bf : Int64) (K : Nat → Int64) (Ld : Nat → Int32) (ld : Nat → Nat) (H : Heap) (locs : List Loc) (ls : Array Slot), (sI E M S R k fr bf K ld) → (lds Ld ld) → va_P D vwCl [(g0, .inr (2, [.ref p1, .ref b1, .int (nI M), .int (nI R), .int (nI n), .ref q1, .ref t1, .ref a1, .ref l1, .ref v1])), (p1, .inl (dE, 48, .inl E)), (a1, .inl (dA, 48, .inr (.inl K))), (l1, .inl (dL, 8, .inl Ld)), (v1, .inl (dV, 8, .inr (.inl F)))] H → va_D A [(g0, .inr (2, [.ref p1, .ref b1, .int (nI M), .int (nI R), .int (nI n), .ref q1, .ref t1, .ref a1, .ref l1, .ref v1])), (p1, .inl (dE, 48, .inl E)), (a1, .inl (dA, 48, .inr (.inl K))), (l1, .inl (dL, 8, .inl Ld)), (v1, .inl (dV, 8, .inr (.inl F)))] → va_S A H0 H locs → lv_has ls 8 [(0, .ref g0), (1, .int (nI S)), (2, .int fr), (3, .int (nI k)), (4, .long bf), (6, .int (nI R))] → W p l e rmX2_straight s m args below meth c H locs 0 0 Q (F0 m 190 ls [])) (kr : ∀ (k j i : Nat) (fr : Int32) (bf : Int64) (K : Nat → Int64) (Ld : Nat → Int32) (H : Heap) (locs : List Loc) (ls : Array Slot), (¬ okS E M S) → va_P D vwCl [(g0, .inr (2, [.ref p1, .ref b1, .int (nI M), .int (nI R), .int (nI n), .ref q1, .ref t1, .ref a1, .ref l1, .ref v1])), (p1, .inl (dE, 48, .inl E)), (a1, .inl (dA, 48, .inr (.inl K))), (l1, .inl (dL, 8, .inl Ld)), (v1, .inl (dV, 8, .inr (.inl F)))] H → va_D A [(g0, .inr (2, [.ref p1, .ref b1, .int (nI M), .int (nI R), .int (nI n), .ref q1, .ref t1, .ref a1, .ref l1, .ref v1])), (p1, .inl (dE, 48, .inl E)), (a1, .inl (dA, 48, .inr (.inl K))), (l1, .inl (dL, 8, .inl Ld)), (v1, .inl (dV, 8, .inr (.inl F)))] → va_S A H0 H locs → lv_has ls 8 [(0, .ref g0), (1, .int (nI S)), (2, .int fr), (3, .int (nI k)), (4, .long bf), (6, .int (nI j)), (7, .int (nI i))] → W p l e rmX2_straight s m args below meth c H locs 0 0 Q (F0 m 135 ls [])) : ∀ (n_ : Nat) (j : Nat) (k : Nat) (fr : Int32) (bf : Int64) (K : Nat → Int64) (Ld : Nat → Int32) (ld : Nat → Nat) (H : Heap) (locs : List Loc) (ls : Array Slot), (j ≤ R ∧ R < j + n_) → (sI E M S j k fr bf K ld ∧ lds Ld ld) → va_P D vwCl [(g0, .inr (2, [.ref p1, .ref b1, .int (nI M), .int (nI R), .int (nI n), .ref q1, .ref t1, .ref a1, .ref l1, .ref v1])), (p1, .inl (dE, 48, .inl E)), (a1, .inl (dA, 48, .inr (.inl K))), (l1, .inl (dL, 8, .inl Ld)), (v1, .inl (dV, 8, .inr (.inl F)))] H → va_D A [(g0, .inr (2, [.ref p1, .ref b1, .int (nI M), .int (nI R), .int (nI n), .ref q1, .ref t1, .ref a1, .ref l1, .ref v1])), (p1, .inl (dE, 48, .inl E)), (a1, .inl (dA, 48, .inr (.inl K))), (l1, .inl (dL, 8, .inl Ld)), (v1, .inl (dV, 8, .inr (.inl F)))] → va_S A H0 H locs → lv_has ls 8 [(0, .ref g0), (1, .int (nI S)), (2, .int fr), (3, .int (nI k)), (4, .long bf), (6, .int (nI j))] → W p l e rmX2_straight s m args below meth c H locs 0 0 Q (F0 m 65 ls []) := by
  obtain ⟨hx, hb, hml, hown, hts⟩ := id C0
  intro n_
  induction n_ with
  | zero =>
    intro j k fr bf K Ld ld H locs ls hm
    exact absurd hm (by omega)
  | succ n_ ih =>
    intro j k fr bf K Ld ld H locs ls hm hI hP hD hS hl
    refine lv_iload hx hb dX2_straight_65 (lv_at hl 5 rfl) ?_
    refine lv_aload_n hx hb dX2_straight_67 rfl (lv_at hl 0 rfl) ?_
    refine va_get (D := D) (ci := 2) (v := .int (nI R)) (C := RX2) (T := TX2) (N := 10) hx hb hts iw_X2_straight_X2 hown hK hP 0 rfl rfl 3 (by decide) (hts _ kw_X2_straight_33) (fun _ h9 => h9) rfl dX2_straight_68 ?_
    refine gx_ge (tgt := 190) hx hb dX2_straight_71 (by decide) (by omega) (by omega) (fun c_71 => ?_) (fun c_71 => ?_)
    · have hjR : j = R := by omega
      subst hjR
      exact kk k fr bf K Ld ld _ _ _ hI.1 hI.2 (hP.sub [0, 1, 2, 3, 4] rfl) (hD.sub [0, 1, 2, 3, 4] (by decide) rfl) hS (lv_sub hl [0, 1, 2, 3, 4, 5] rfl)
    · refine lv_iload_n hx hb dX2_straight_74 rfl (lv_at hl 1 rfl) ?_
      refine lv_iload hx hb dX2_straight_75 (lv_at hl 5 rfl) ?_
      refine lv_ishr hx hb dX2_straight_77 ?_
      refine lv_iconst (v := nI 1) hx hb dX2_straight_78 (by decide) ?_
      refine lv_iand hx hb dX2_straight_79 ?_
      refine gx_i (y := bI (S.testBit j)) (sp_has S hs8 j (by omega)) ?_
      refine gx_bne (tgt := 86) hx hb dX2_straight_80 (by decide) (fun c_80 => ?_) (fun c_80 => ?_)
      · refine lv_iload_n hx hb dX2_straight_86 rfl (lv_at hl 3 rfl) ?_
        refine lv_istore (lv' := [(7, .int (nI k)), (0, .ref g0), (1, .int (nI S)), (2, .int fr), (3, .int (nI k)), (4, .long bf), (6, .int (nI j))]) hx hb dX2_straight_87 hl (by decide) rfl (fun ls hl => ?_)
        obtain ⟨hbf, hkM⟩ := sI_bf hM6 h9 hI.1
        refine lpX2_straightW C0 hN hA hM6 (by omega) hK (fun i H locs ls g1 g2 g3 g4 hP hD hS hl => ?_) (M + 1) k _ _ _ (by omega) (fun r h1 h2 => absurd h1 (by omega)) (hP.sub [0, 1, 2, 3, 4] rfl) (hD.sub [0, 1, 2, 3, 4] (by decide) rfl) hS (lv_sub hl [1, 2, 3, 4, 5, 6, 0] rfl)
        refine lv_iload hx hb dX2_straight_122 (lv_at hl 6 rfl) ?_
        refine lv_aload_n hx hb dX2_straight_124 rfl (lv_at hl 0 rfl) ?_
        refine va_get (D := D) (ci := 2) (v := .int (nI M)) (C := RX2) (T := TX2) (N := 10) hx hb hts iw_X2_straight_X2 hown hK hP 0 rfl rfl 2 (by decide) (hts _ kw_X2_straight_37) (fun _ h9 => h9) rfl dX2_straight_125 ?_
        refine gx_ne (tgt := 143) hx hb dX2_straight_128 (by decide) (by omega) (by omega) (fun c_128 => ?_) (fun c_128 => ?_)
        · refine lv_aload_n hx hb dX2_straight_143 rfl (lv_at hl 0 rfl) ?_
          refine lv_iload_n hx hb dX2_straight_144 rfl (lv_at hl 3 rfl) ?_
          refine lv_iload hx hb dX2_straight_145 (lv_at hl 6 rfl) ?_
          refine gx_jv (wr := [(p1, .inl (dE, 48, .inl E)), (l1, .inl (dL, 8, .inl Ld)), (v1, .inl (dV, 8, .inr (.inl F)))]) (gx_rV (As := [.int (nI k), .int (nI i)]) (rest := []) C0 (kX2_exchange l D g0 p1 b1 q1 t1 a1 l1 v1 M R n k i dA K (by omega) (by omega) _) (cwV 2 hts gX2_straight_X2_exchange rfl rfl rfl (by decide +kernel) ⟨Nat.le_of_ble_eq_true rfl, Nat.le_of_ble_eq_true rfl⟩) hN hK hP hD [0, 2] [1] rfl rfl (by decide) rfl 0 rfl rfl rfl rfl hl.1 rfl (Nat.le_of_ble_eq_true rfl) dX2_straight_147 ⟨Nat.zero_le _, Nat.zero_le _⟩) hP hD hS hA [0, 2] [1, 3, 4] rfl rfl (by decide) (by decide) (fun u H locs hw hP hD hS => ?_)
          obtain ⟨K1, rfl⟩ : ∃ z, z = u := ⟨_, rfl⟩
          have hw1 : sw_I K K1 k i 8 := hw
          have hP : va_P D vwCl [(p1, .inl (dE, 48, .inl E)), (l1, .inl (dL, 8, .inl Ld)), (v1, .inl (dV, 8, .inr (.inl F))), (g0, .inr (2, [.ref p1, .ref b1, .int (nI M), .int (nI R), .int (nI n), .ref q1, .ref t1, .ref a1, .ref l1, .ref v1])), (a1, .inl (dA, 48, .inr (.inl K1)))] H := hP
          have hD : va_D A [(p1, .inl (dE, 48, .inl E)), (l1, .inl (dL, 8, .inl Ld)), (v1, .inl (dV, 8, .inr (.inl F))), (g0, .inr (2, [.ref p1, .ref b1, .int (nI M), .int (nI R), .int (nI n), .ref q1, .ref t1, .ref a1, .ref l1, .ref v1])), (a1, .inl (dA, 48, .inr (.inl K1)))] := hD
          refine lv_aload_n hx hb dX2_straight_150 rfl (lv_at hl 0 rfl) ?_
          refine lv_iload_n hx hb dX2_straight_151 rfl (lv_at hl 3 rfl) ?_
          refine lv_iload hx hb dX2_straight_152 (lv_at hl 5 rfl) ?_
          refine lv_lload hx hb dX2_straight_154 (lv_at hl 4 rfl) ?_
          refine gx_jv (wr := [(p1, .inl (dE, 48, .inl E)), (l1, .inl (dL, 8, .inl Ld)), (v1, .inl (dV, 8, .inr (.inl F)))]) (gx_rV (As := [.int (nI k), .int (nI j), .long bf]) (rest := []) C0 (kX2_clear l D g0 p1 b1 q1 t1 a1 l1 v1 M R n k j bf dA K1 hM6 (by omega) (by omega) hbf _) (cwV 3 hts gX2_straight_X2_clear rfl rfl rfl (by decide +kernel) ⟨Nat.le_of_ble_eq_true rfl, Nat.le_of_ble_eq_true rfl⟩) hN hK hP hD [3, 4] [1] rfl rfl (by decide) rfl 0 rfl rfl rfl rfl hl.1 rfl (Nat.le_of_ble_eq_true rfl) dX2_straight_156 ⟨Nat.zero_le _, Nat.zero_le _⟩) hP hD hS hA [3, 4] [0, 1, 2] rfl rfl (by decide) (by decide) (fun u H locs hw hP hD hS => ?_)
          obtain ⟨K2, rfl⟩ : ∃ z, z = u := ⟨_, rfl⟩
          have hw2 : cm_I K1 K2 k j bf M := hw
          have hP : va_P D vwCl [(p1, .inl (dE, 48, .inl E)), (l1, .inl (dL, 8, .inl Ld)), (v1, .inl (dV, 8, .inr (.inl F))), (g0, .inr (2, [.ref p1, .ref b1, .int (nI M), .int (nI R), .int (nI n), .ref q1, .ref t1, .ref a1, .ref l1, .ref v1])), (a1, .inl (dA, 48, .inr (.inl K2)))] H := hP
          have hD : va_D A [(p1, .inl (dE, 48, .inl E)), (l1, .inl (dL, 8, .inl Ld)), (v1, .inl (dV, 8, .inr (.inl F))), (g0, .inr (2, [.ref p1, .ref b1, .int (nI M), .int (nI R), .int (nI n), .ref q1, .ref t1, .ref a1, .ref l1, .ref v1])), (a1, .inl (dA, 48, .inr (.inl K2)))] := hD
          refine lv_aload_n hx hb dX2_straight_159 rfl (lv_at hl 0 rfl) ?_
          refine va_get (D := D) (ci := 2) (v := .ref a1) (C := RX2) (T := TX2) (N := 10) hx hb hts iw_X2_straight_X2 hown hK hP 3 rfl rfl 7 (by decide) (hts _ kw_X2_straight_23) (fun _ h9 => h9) rfl dX2_straight_160 ?_
          refine lv_bipush (v := nI 8) hx hb dX2_straight_163 (by decide) ?_
          refine lv_iload_n hx hb dX2_straight_165 rfl (lv_at hl 3 rfl) ?_
          refine lv_imul hx hb dX2_straight_166 ?_
          refine gx_i (y := nI (k * 8)) ((pk_mul 8 k).trans (by rw [Nat.mul_comm])) ?_
          refine lv_iload hx hb dX2_straight_167 (lv_at hl 5 rfl) ?_
          refine lv_iadd hx hb dX2_straight_169 ?_
          refine gx_i (y := nI (k * 8 + j)) (nI_add (k * 8) j) ?_
          refine gx_lald (q := k * 8 + j) hx hb hK hP 4 1 rfl rfl (rfl) (by omega) (by decide) dX2_straight_170 ?_
          refine lv_lstore (lv' := [(4, .long (K2 (k * 8 + j))), (0, .ref g0), (1, .int (nI S)), (2, .int fr), (3, .int (nI k)), (6, .int (nI j)), (7, .int (nI i))]) hx hb dX2_straight_171 hl (by decide) rfl (fun ls hl => ?_)
          refine lv_iinc (v := nI (k + 1)) (lv' := [(3, .int (nI (k + 1))), (4, .long (K2 (k * 8 + j))), (0, .ref g0), (1, .int (nI S)), (2, .int fr), (6, .int (nI j)), (7, .int (nI i))]) hx hb dX2_straight_173 hl (k := 4) rfl ((nI_succ k).symm) (by decide) rfl (fun ls hl => ?_)
          refine lv_aload_n hx hb dX2_straight_176 rfl (lv_at hl 2 rfl) ?_
          refine va_get (D := D) (ci := 2) (v := .ref l1) (C := RX2) (T := TX2) (N := 10) hx hb hts iw_X2_straight_X2 hown hK hP 3 rfl rfl 8 (by decide) (hts _ kw_X2_straight_27) (fun _ h9 => h9) rfl dX2_straight_177 ?_
          refine lv_iload hx hb dX2_straight_180 (lv_at hl 5 rfl) ?_
          refine lv_iload_n hx hb dX2_straight_182 rfl (lv_at hl 0 rfl) ?_
          refine gx_iast (q := j) hx hb hK hP hD hS 1 2 rfl rfl (rfl) (by omega) (by decide) dX2_straight_183 (fun H locs hP hD hS => ?_)
          have hP : va_P D vwCl [(p1, .inl (dE, 48, .inl E)), (l1, .inl (dL, 8, .inl (upd Ld j (nI (k + 1))))), (v1, .inl (dV, 8, .inr (.inl F))), (g0, .inr (2, [.ref p1, .ref b1, .int (nI M), .int (nI R), .int (nI n), .ref q1, .ref t1, .ref a1, .ref l1, .ref v1])), (a1, .inl (dA, 48, .inr (.inl K2)))] H := hP
          have hD : va_D A [(p1, .inl (dE, 48, .inl E)), (l1, .inl (dL, 8, .inl (upd Ld j (nI (k + 1))))), (v1, .inl (dV, 8, .inr (.inl F))), (g0, .inr (2, [.ref p1, .ref b1, .int (nI M), .int (nI R), .int (nI n), .ref q1, .ref t1, .ref a1, .ref l1, .ref v1])), (a1, .inl (dA, 48, .inr (.inl K2)))] := hD
          refine lv_iinc (v := nI (j + 1)) (lv' := [(6, .int (nI (j + 1))), (3, .int (nI (k + 1))), (4, .long (K2 (k * 8 + j))), (0, .ref g0), (1, .int (nI S)), (2, .int fr), (7, .int (nI i))]) hx hb dX2_straight_184 hl (k := 5) rfl ((nI_succ j).symm) (by decide) rfl (fun ls hl => ?_)
          refine lv_goto (tgt := 65) hx hb dX2_straight_187 (by decide) ?_
          exact ih (j + 1) (k + 1) fr _ _ _ (updN ld j (k + 1)) _ _ _ (by omega) ⟨sI_piv hM6 h9 (by omega) c_80 hI.1 g1 (by omega) (g4 (by omega)) g3 hw1 hw2, lds_s hI.2⟩ (hP.sub [3, 0, 4, 1, 2] rfl) (hD.sub [3, 0, 4, 1, 2] (by decide) rfl) hS (lv_sub hl [3, 4, 5, 1, 2, 0] rfl)
        · refine lv_iload_n hx hb dX2_straight_131 rfl (lv_at hl 2 rfl) ?_
          refine lv_if_lt (tgt := 137) hx hb dX2_straight_132 (by decide) (fun c_132 => ?_) (fun c_132 => ?_)
          · refine lv_iload hx hb dX2_straight_137 (lv_at hl 5 rfl) ?_
            refine lv_istore_n (lv' := [(2, .int (nI j)), (0, .ref g0), (1, .int (nI S)), (3, .int (nI k)), (4, .long bf), (6, .int (nI j)), (7, .int (nI i))]) hx hb dX2_straight_139 rfl hl (by decide) rfl (fun ls hl => ?_)
            refine lv_goto (tgt := 184) hx hb dX2_straight_140 (by decide) ?_
            refine lv_iinc (v := nI (j + 1)) (lv' := [(6, .int (nI (j + 1))), (2, .int (nI j)), (0, .ref g0), (1, .int (nI S)), (3, .int (nI k)), (4, .long bf), (7, .int (nI i))]) hx hb dX2_straight_184 hl (k := 5) rfl ((nI_succ j).symm) (by decide) rfl (fun ls hl => ?_)
            refine lv_goto (tgt := 65) hx hb dX2_straight_187 (by decide) ?_
            exact ih (j + 1) k (nI j) bf K Ld ld _ _ _ (by omega) ⟨sI_free hM6 h9 (by omega) c_80 (sI_lt hI.1 c_132) (c_128 ▸ g3), hI.2⟩ (hP.sub [0, 1, 2, 3, 4] rfl) (hD.sub [0, 1, 2, 3, 4] (by decide) rfl) hS (lv_sub hl [2, 3, 1, 4, 5, 0] rfl)
          · obtain ⟨f, hf8, hfr, hB⟩ := sI_nlt hI.1 c_132
            exact kr k j i fr bf K Ld _ _ _ (sI_bad (by omega) c_80 hB) (hP.sub [0, 1, 2, 3, 4] rfl) (hD.sub [0, 1, 2, 3, 4] (by decide) rfl) hS (lv_sub hl [0, 1, 2, 3, 4, 5, 6] rfl)
      · refine lv_goto (tgt := 184) hx hb dX2_straight_83 (by decide) ?_
        refine lv_iinc (v := nI (j + 1)) (lv' := [(6, .int (nI (j + 1))), (0, .ref g0), (1, .int (nI S)), (2, .int fr), (3, .int (nI k)), (4, .long bf)]) hx hb dX2_straight_184 hl (k := 5) rfl ((nI_succ j).symm) (by decide) rfl (fun ls hl => ?_)
        refine lv_goto (tgt := 65) hx hb dX2_straight_187 (by decide) ?_
        exact ih (j + 1) k fr bf K Ld ld _ _ _ (by omega) ⟨sI_skip c_80 hI.1, hI.2⟩ (hP.sub [0, 1, 2, 3, 4] rfl) (hD.sub [0, 1, 2, 3, 4] (by decide) rfl) hS (lv_sub hl [1, 2, 3, 4, 5, 0] rfl)
set_option maxHeartbeats 4000000 in
set_option maxRecDepth 100000 in
theorem lpX2_straight4 {p : Program} {l : Launch} {e : Env} {s : State} {m : MethodId} {args : Array Value} {below : List Frame} {meth : Method} {c : Code} {Q : State → Prop} {D : va_G} {A : Nat → Prop} {H0 : Heap} (C0 : CallFix p m c cX2_straight 8 s args wsX2_straight RX2) (hN : gx_N s) (hA : ∀ q : Nat, H0.size ≤ q → A q) {g0 p1 b1 q1 t1 a1 l1 v1 M R n S : Nat} {dE dA dL dV : ClassId} {E : Nat → Int32} {f : Nat} {K Fz : Nat → Int64} {Ld : Nat → Int32} {ld : Nat → Nat} (hR8 : R ≤ 8) (hf8 : f < 8) (hld : lds Ld ld) (hld6 : ∀ i, i < 8 → ld i ≤ 6) (hK : va_K D vwCl [(dE, .int), (dA, .long), (dL, .int), (dV, .long)] s) (kk : ∀ (F : Nat → Int64) (H : Heap) (locs : List Loc) (ls : Array Slot), (fn_I K ld f Fz F R) → va_P D vwCl [(g0, .inr (2, [.ref p1, .ref b1, .int (nI M), .int (nI R), .int (nI n), .ref q1, .ref t1, .ref a1, .ref l1, .ref v1])), (p1, .inl (dE, 48, .inl E)), (a1, .inl (dA, 48, .inr (.inl K))), (l1, .inl (dL, 8, .inl Ld)), (v1, .inl (dV, 8, .inr (.inl F)))] H → va_D A [(g0, .inr (2, [.ref p1, .ref b1, .int (nI M), .int (nI R), .int (nI n), .ref q1, .ref t1, .ref a1, .ref l1, .ref v1])), (p1, .inl (dE, 48, .inl E)), (a1, .inl (dA, 48, .inr (.inl K))), (l1, .inl (dL, 8, .inl Ld)), (v1, .inl (dV, 8, .inr (.inl F)))] → va_S A H0 H locs → lv_has ls 8 [(0, .ref g0), (2, .int (nI f)), (6, .int (nI R))] → W p l e rmX2_straight s m args below meth c H locs 0 0 Q (F0 m 259 ls [])) : ∀ (n_ : Nat) (j : Nat) (F : Nat → Int64) (H : Heap) (locs : List Loc) (ls : Array Slot), (j ≤ R ∧ R < j + n_) → (fn_I K ld f Fz F j) → va_P D vwCl [(g0, .inr (2, [.ref p1, .ref b1, .int (nI M), .int (nI R), .int (nI n), .ref q1, .ref t1, .ref a1, .ref l1, .ref v1])), (p1, .inl (dE, 48, .inl E)), (a1, .inl (dA, 48, .inr (.inl K))), (l1, .inl (dL, 8, .inl Ld)), (v1, .inl (dV, 8, .inr (.inl F)))] H → va_D A [(g0, .inr (2, [.ref p1, .ref b1, .int (nI M), .int (nI R), .int (nI n), .ref q1, .ref t1, .ref a1, .ref l1, .ref v1])), (p1, .inl (dE, 48, .inl E)), (a1, .inl (dA, 48, .inr (.inl K))), (l1, .inl (dL, 8, .inl Ld)), (v1, .inl (dV, 8, .inr (.inl F)))] → va_S A H0 H locs → lv_has ls 8 [(0, .ref g0), (2, .int (nI f)), (6, .int (nI j))] → W p l e rmX2_straight s m args below meth c H locs 0 0 Q (F0 m 207 ls []) := by
  obtain ⟨hx, hb, hml, hown, hts⟩ := id C0
  intro n_
  induction n_ with
  | zero =>
    intro j F H locs ls hm
    exact absurd hm (by omega)
  | succ n_ ih =>
    intro j F H locs ls hm hI hP hD hS hl
    refine lv_iload hx hb dX2_straight_207 (lv_at hl 2 rfl) ?_
    refine lv_aload_n hx hb dX2_straight_209 rfl (lv_at hl 0 rfl) ?_
    refine va_get (D := D) (ci := 2) (v := .int (nI R)) (C := RX2) (T := TX2) (N := 10) hx hb hts iw_X2_straight_X2 hown hK hP 0 rfl rfl 3 (by decide) (hts _ kw_X2_straight_33) (fun _ h9 => h9) rfl dX2_straight_210 ?_
    refine gx_ge (tgt := 259) hx hb dX2_straight_213 (by decide) (by omega) (by omega) (fun c_213 => ?_) (fun c_213 => ?_)
    · have hjR : j = R := by omega
      subst hjR
      exact kk _ _ _ _ hI (hP.sub [0, 1, 2, 3, 4] rfl) (hD.sub [0, 1, 2, 3, 4] (by decide) rfl) hS (lv_sub hl [0, 1, 2] rfl)
    · have hl6 := hld6 j (by omega)
      refine lv_aload_n hx hb dX2_straight_216 rfl (lv_at hl 0 rfl) ?_
      refine va_get (D := D) (ci := 2) (v := .ref l1) (C := RX2) (T := TX2) (N := 10) hx hb hts iw_X2_straight_X2 hown hK hP 0 rfl rfl 8 (by decide) (hts _ kw_X2_straight_27) (fun _ h9 => h9) rfl dX2_straight_217 ?_
      refine lv_iload hx hb dX2_straight_220 (lv_at hl 2 rfl) ?_
      refine gx_iald (q := j) hx hb hK hP 3 2 rfl rfl (rfl) (by omega) (by decide) dX2_straight_222 ?_
      refine gx_i (y := nI (ld j)) (hld j (by omega)) ?_
      refine lv_if_le (tgt := 253) hx hb dX2_straight_223 (by decide) (fun c_223 => ?_) (fun c_223 => ?_)
      · have hz : ld j = 0 := by rcases Nat.eq_zero_or_pos (ld j) with h | h; exact h; exact absurd c_223 (nI_nle h (by omega))
        refine lv_iinc (v := nI (j + 1)) (lv' := [(6, .int (nI (j + 1))), (0, .ref g0), (2, .int (nI f))]) hx hb dX2_straight_253 hl (k := 2) rfl ((nI_succ j).symm) (by decide) rfl (fun ls hl => ?_)
        refine lv_goto (tgt := 207) hx hb dX2_straight_256 (by decide) ?_
        exact ih (j + 1) _ _ _ _ (by omega) (fn_f hz hI) (hP.sub [0, 1, 2, 3, 4] rfl) (hD.sub [0, 1, 2, 3, 4] (by decide) rfl) hS (lv_sub hl [1, 2, 0] rfl)
      · have hz : ld j ≠ 0 := fun q => c_223 (by rw [q]; decide)
        refine lv_aload_n hx hb dX2_straight_226 rfl (lv_at hl 0 rfl) ?_
        refine va_get (D := D) (ci := 2) (v := .ref v1) (C := RX2) (T := TX2) (N := 10) hx hb hts iw_X2_straight_X2 hown hK hP 0 rfl rfl 9 (by decide) (hts _ kw_X2_straight_30) (fun _ h9 => h9) rfl dX2_straight_227 ?_
        refine lv_iload hx hb dX2_straight_230 (lv_at hl 2 rfl) ?_
        refine lv_aload_n hx hb dX2_straight_232 rfl (lv_at hl 0 rfl) ?_
        refine va_get (D := D) (ci := 2) (v := .ref a1) (C := RX2) (T := TX2) (N := 10) hx hb hts iw_X2_straight_X2 hown hK hP 0 rfl rfl 7 (by decide) (hts _ kw_X2_straight_23) (fun _ h9 => h9) rfl dX2_straight_233 ?_
        refine lv_bipush (v := nI 8) hx hb dX2_straight_236 (by decide) ?_
        refine lv_aload_n hx hb dX2_straight_238 rfl (lv_at hl 0 rfl) ?_
        refine va_get (D := D) (ci := 2) (v := .ref l1) (C := RX2) (T := TX2) (N := 10) hx hb hts iw_X2_straight_X2 hown hK hP 0 rfl rfl 8 (by decide) (hts _ kw_X2_straight_27) (fun _ h9 => h9) rfl dX2_straight_239 ?_
        refine lv_iload hx hb dX2_straight_242 (lv_at hl 2 rfl) ?_
        refine gx_iald (q := j) hx hb hK hP 3 2 rfl rfl (rfl) (by omega) (by decide) dX2_straight_244 ?_
        refine gx_i (y := nI (ld j)) (hld j (by omega)) ?_
        refine lv_iconst (v := nI 1) hx hb dX2_straight_245 (by decide) ?_
        refine lv_isub hx hb dX2_straight_246 ?_
        refine gx_i (y := nI (ld j - 1)) (pk_sub (by omega)) ?_
        refine lv_imul hx hb dX2_straight_247 ?_
        refine gx_i (y := nI ((ld j - 1) * 8)) ((pk_mul 8 (ld j - 1)).trans (by rw [Nat.mul_comm])) ?_
        refine lv_iload_n hx hb dX2_straight_248 rfl (lv_at hl 1 rfl) ?_
        refine lv_iadd hx hb dX2_straight_249 ?_
        refine gx_i (y := nI ((ld j - 1) * 8 + f)) (nI_add ((ld j - 1) * 8) f) ?_
        refine gx_lald (q := (ld j - 1) * 8 + f) hx hb hK hP 2 1 rfl rfl (rfl) (by omega) (by decide) dX2_straight_250 ?_
        refine lv_lneg hx hb dX2_straight_251 ?_
        refine gx_last (q := j) hx hb hK hP hD hS 4 3 rfl rfl (rfl) (by omega) (by decide) dX2_straight_252 (fun H locs hP hD hS => ?_)
        have hP : va_P D vwCl [(g0, .inr (2, [.ref p1, .ref b1, .int (nI M), .int (nI R), .int (nI n), .ref q1, .ref t1, .ref a1, .ref l1, .ref v1])), (p1, .inl (dE, 48, .inl E)), (a1, .inl (dA, 48, .inr (.inl K))), (l1, .inl (dL, 8, .inl Ld)), (v1, .inl (dV, 8, .inr (.inl (vp_updL F j (-(K ((ld j - 1) * 8 + f)))))))] H := hP
        have hD : va_D A [(g0, .inr (2, [.ref p1, .ref b1, .int (nI M), .int (nI R), .int (nI n), .ref q1, .ref t1, .ref a1, .ref l1, .ref v1])), (p1, .inl (dE, 48, .inl E)), (a1, .inl (dA, 48, .inr (.inl K))), (l1, .inl (dL, 8, .inl Ld)), (v1, .inl (dV, 8, .inr (.inl (vp_updL F j (-(K ((ld j - 1) * 8 + f)))))))] := hD
        refine lv_iinc (v := nI (j + 1)) (lv' := [(6, .int (nI (j + 1))), (0, .ref g0), (2, .int (nI f))]) hx hb dX2_straight_253 hl (k := 2) rfl ((nI_succ j).symm) (by decide) rfl (fun ls hl => ?_)
        refine lv_goto (tgt := 207) hx hb dX2_straight_256 (by decide) ?_
        exact ih (j + 1) _ _ _ _ (by omega) (fn_t hz hI) (hP.sub [0, 1, 2, 3, 4] rfl) (hD.sub [0, 1, 2, 3, 4] (by decide) rfl) hS (lv_sub hl [1, 2, 0] rfl)
set_option maxHeartbeats 4000000 in
set_option maxRecDepth 100000 in
theorem kX2_straight (l : Launch) (D : va_G) (g0 p1 b1 q1 t1 a1 l1 v1 M R n : Nat) (S : Nat) (dE dA dL dV : ClassId) (E Ld : Nat → Int32) (K F : Nat → Int64) (hM6 : M ≤ 6) (hR8 : R ≤ 8) (h9 : e9 E) (hs8 : S < 256) (hs0 : 0 < S) (hSR : S < 2 ^ R) : gx_Mi l D yX2_straight wsX2_straight rmX2_straight [.ref g0, .int (nI S)] [(dE, .int), (dA, .long), (dL, .int), (dV, .long)] [(g0, .inr (2, [.ref p1, .ref b1, .int (nI M), .int (nI R), .int (nI n), .ref q1, .ref t1, .ref a1, .ref l1, .ref v1])), (p1, .inl (dE, 48, .inl E)), (a1, .inl (dA, 48, .inr (.inl K))), (l1, .inl (dL, 8, .inl Ld)), (v1, .inl (dV, 8, .inr (.inl F)))] (S := (Nat → Int64) × (Nat → Int32) × (Nat → Int64)) (fun r (u : (Nat → Int64) × (Nat → Int32) × (Nat → Int64)) => ∃ b, r = bI b ∧ st_P E M S b u.2.2) (fun (u : (Nat → Int64) × (Nat → Int32) × (Nat → Int64)) => [(g0, .inr (2, [.ref p1, .ref b1, .int (nI M), .int (nI R), .int (nI n), .ref q1, .ref t1, .ref a1, .ref l1, .ref v1])), (p1, .inl (dE, 48, .inl E)), (a1, .inl (dA, 48, .inr (.inl u.1))), (l1, .inl (dL, 8, .inl u.2.1)), (v1, .inl (dV, 8, .inr (.inl u.2.2)))]) := by
  intro sz
  refine gx_start (cc := cX2_straight) (maxL := 8) (ret := (some .boolean)) (Qc := fun A => va_Qi (fun r (u : (Nat → Int64) × (Nat → Int32) × (Nat → Int64)) => ∃ b, r = bI b ∧ st_P E M S b u.2.2) (gx_B D [(dE, .int), (dA, .long), (dL, .int), (dV, .long)] A (fun (u : (Nat → Int64) × (Nat → Int32) × (Nat → Int64)) => [(g0, .inr (2, [.ref p1, .ref b1, .int (nI M), .int (nI R), .int (nI n), .ref q1, .ref t1, .ref a1, .ref l1, .ref v1])), (p1, .inl (dE, 48, .inl E)), (a1, .inl (dA, 48, .inr (.inl u.1))), (l1, .inl (dL, 8, .inl u.2.1)), (v1, .inl (dV, 8, .inr (.inl u.2.2)))])) A) (by decide) rfl (Nat.le_of_ble_eq_true rfl) ?_ sz
  intro p e s m below meth c A hbody ls hl
  obtain ⟨C0, hr, hlocks, hN, hK, hP, hD, hA⟩ := hbody
  have C0 : CallFix p m c cX2_straight 8 s ([.ref g0, .int (nI S)] : List Value).toArray wsX2_straight RX2 := C0
  obtain ⟨hx, hb, hml, hown, hts⟩ := id C0
  have hS : va_S A s.heap s.heap [] := va_S.rf
  have hl : lv_has ls 8 [(0, .ref g0), (1, .int (nI S))] := hl
  refine lv_iconst (v := nI 0) hx hb dX2_straight_0 (by decide) ?_
  refine lv_istore_n (lv' := [(2, .int (nI 0)), (0, .ref g0), (1, .int (nI S))]) hx hb dX2_straight_1 rfl hl (by decide) rfl (fun ls hl => ?_)
  refine lpX2_straight1 C0 hN hA hK (fun K1 H locs ls hI1 hP hD hS hl => ?_) 49 0 K _ _ _ (by omega) (fun q h => absurd h (Nat.not_lt_zero q)) (hP.sub [0, 1, 2, 3, 4] rfl) (hD.sub [0, 1, 2, 3, 4] (by decide) rfl) hS (lv_sub hl [1, 2, 0] rfl)
  refine lv_iconst (v := nI 0) hx hb dX2_straight_27 (by decide) ?_
  refine lv_istore_n (lv' := [(2, .int (nI 0)), (0, .ref g0), (1, .int (nI S))]) hx hb dX2_straight_28 rfl hl (by decide) rfl (fun ls hl => ?_)
  refine lpX2_straight2 C0 hN hA hK (fun Ld1 F1 H locs ls hI2 hI3 hP hD hS hl => ?_) 9 0 Ld F _ _ _ (by omega) ⟨fun q h => absurd h (Nat.not_lt_zero q), fun q h => absurd h (Nat.not_lt_zero q)⟩ (hP.sub [0, 1, 2, 3, 4] rfl) (hD.sub [0, 1, 2, 3, 4] (by decide) rfl) hS (lv_sub hl [1, 2, 0] rfl)
  refine lv_iconst (v := (-1)) hx hb dX2_straight_55 (by decide) ?_
  refine lv_istore_n (lv' := [(2, .int ((-1))), (0, .ref g0), (1, .int (nI S))]) hx hb dX2_straight_56 rfl hl (by decide) rfl (fun ls hl => ?_)
  refine lv_iconst (v := nI 0) hx hb dX2_straight_57 (by decide) ?_
  refine lv_istore_n (lv' := [(3, .int (nI 0)), (2, .int ((-1))), (0, .ref g0), (1, .int (nI S))]) hx hb dX2_straight_58 rfl hl (by decide) rfl (fun ls hl => ?_)
  refine lv_lconst (v := 1) hx hb dX2_straight_59 (by decide) ?_
  refine lv_lstore (lv' := [(4, .long 1), (3, .int (nI 0)), (2, .int ((-1))), (0, .ref g0), (1, .int (nI S))]) hx hb dX2_straight_60 hl (by decide) rfl (fun ls hl => ?_)
  refine lv_iconst (v := nI 0) hx hb dX2_straight_62 (by decide) ?_
  refine lv_istore (lv' := [(6, .int (nI 0)), (4, .long 1), (3, .int (nI 0)), (2, .int ((-1))), (0, .ref g0), (1, .int (nI S))]) hx hb dX2_straight_63 hl (by decide) rfl (fun ls hl => ?_)
  refine lpX2_straight (S := S) C0 hN hA hM6 hR8 h9 hs8 hK (fun k fr bf K2 Ld2 ld H locs ls hI hL hP hD hS hl => ?_) (fun k j i fr bf K2 Ld2 H locs ls hF hP hD hS hl => ?_) (R + 1) 0 0 (-1) 1 K1 Ld1 (fun _ => 0) _ _ _ (by omega) ⟨sI_0 hM6 hI1, hI2⟩ (hP.sub [0, 1, 2, 3, 4] rfl) (hD.sub [0, 1, 2, 3, 4] (by decide) rfl) hS (lv_sub hl [4, 5, 3, 2, 1, 0] rfl)
  · refine lv_iload_n hx hb dX2_straight_190 rfl (lv_at hl 2 rfl) ?_
    refine lv_if_ge (tgt := 196) hx hb dX2_straight_191 (by decide) (fun c_191 => ?_) (fun c_191 => ?_)
    · obtain ⟨f, hf8, hfr, hB⟩ := sI_nlt hI (Int32.not_lt.mpr c_191)
      subst hfr
      refine lv_aload_n hx hb dX2_straight_196 rfl (lv_at hl 0 rfl) ?_
      refine va_get (D := D) (ci := 2) (v := .ref v1) (C := RX2) (T := TX2) (N := 10) hx hb hts iw_X2_straight_X2 hown hK hP 0 rfl rfl 9 (by decide) (hts _ kw_X2_straight_30) (fun _ h9 => h9) rfl dX2_straight_197 ?_
      refine lv_iload_n hx hb dX2_straight_200 rfl (lv_at hl 2 rfl) ?_
      refine lv_lload hx hb dX2_straight_201 (lv_at hl 4 rfl) ?_
      refine gx_last (q := f) hx hb hK hP hD hS 4 3 rfl rfl (rfl) (by omega) (by decide) dX2_straight_203 (fun H locs hP hD hS => ?_)
      have hP : va_P D vwCl [(g0, .inr (2, [.ref p1, .ref b1, .int (nI M), .int (nI R), .int (nI n), .ref q1, .ref t1, .ref a1, .ref l1, .ref v1])), (p1, .inl (dE, 48, .inl E)), (a1, .inl (dA, 48, .inr (.inl K2))), (l1, .inl (dL, 8, .inl Ld2)), (v1, .inl (dV, 8, .inr (.inl (vp_updL F1 f bf))))] H := hP
      have hD : va_D A [(g0, .inr (2, [.ref p1, .ref b1, .int (nI M), .int (nI R), .int (nI n), .ref q1, .ref t1, .ref a1, .ref l1, .ref v1])), (p1, .inl (dE, 48, .inl E)), (a1, .inl (dA, 48, .inr (.inl K2))), (l1, .inl (dL, 8, .inl Ld2)), (v1, .inl (dV, 8, .inr (.inl (vp_updL F1 f bf))))] := hD
      refine lv_iconst (v := nI 0) hx hb dX2_straight_204 (by decide) ?_
      refine lv_istore (lv' := [(6, .int (nI 0)), (0, .ref g0), (1, .int (nI S)), (2, .int (nI f)), (3, .int (nI k)), (4, .long bf)]) hx hb dX2_straight_205 hl (by decide) rfl (fun ls hl => ?_)
      have hl6 := sI_ld hM6 h9 hI
      refine lpX2_straight4 (S := S) (f := f) (Fz := vp_updL F1 f bf) (ld := ld) C0 hN hA hR8 hf8 hL (fun i hi => Nat.le_trans (hl6 i hi) hM6) hK (fun F2 H locs ls hI4 hP hD hS hl => ?_) (R + 1) 0 _ _ _ _ (by omega) (fn_0 K2 ld f _) (hP.sub [0, 1, 2, 3, 4] rfl) (hD.sub [0, 1, 2, 3, 4] (by decide) rfl) hS (lv_sub hl [1, 3, 0] rfl)
      refine lv_iconst (v := nI 1) hx hb dX2_straight_259 (by decide) ?_
      exact gx_retz hx hb hr hlocks true (by decide) (K2, Ld2, F2) (⟨true, rfl, st_fin hM6 h9 hR8 hs0 hs8 hSR hf8 hB (fn_z hI3 hI4)⟩) hK (hP.sub [0, 1, 2, 3, 4] rfl) (hD.sub [0, 1, 2, 3, 4] (by decide) rfl) hS dX2_straight_260
    · have hno := sI_none hR8 hs0 hs8 hSR (sI_lt hI (Int32.not_le.mp c_191))
      refine lv_iconst (v := nI 0) hx hb dX2_straight_194 (by decide) ?_
      exact gx_retz hx hb hr hlocks false (by decide) (K2, Ld2, F1) (⟨false, rfl, st_no (hno)⟩) hK (hP.sub [0, 1, 2, 3, 4] rfl) (hD.sub [0, 1, 2, 3, 4] (by decide) rfl) hS dX2_straight_195
  · refine lv_iconst (v := nI 0) hx hb dX2_straight_135 (by decide) ?_
    exact gx_retz hx hb hr hlocks false (by decide) (K2, Ld2, F1) (⟨false, rfl, st_no (hF)⟩) hK (hP.sub [0, 1, 2, 3, 4] rfl) (hD.sub [0, 1, 2, 3, 4] (by decide) rfl) hS dX2_straight_136
