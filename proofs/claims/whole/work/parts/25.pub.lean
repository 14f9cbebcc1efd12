theorem fl_s {E : Nat → Int32} {v : Int32} {i : Nat} (h : ∀ q, q < i → E q = v) : ∀ q, q < i + 1 → upd E i v q = v := by
  intro q hq
  by_cases hqi : q = i
  · rw [hqi]; exact upd_at _ _ _
  · rw [upd_ne hqi]; exact h q (by omega)
abbrev rmJ7_fill_53178 : Room := { frames := 0, cells := 0, slots := 0, locals := 0 }
set_option maxHeartbeats 4000000 in
set_option maxRecDepth 100000 in
theorem lpJ7_fill {p : Program} {l : Launch} {e : Env} {s : State} {m : MethodId} {args : Array Value} {below : List Frame} {meth : Method} {c : Code} {Q : State → Prop} {D : va_G} {A : Nat → Prop} {H0 : Heap} (C0 : CallFix p m c cJ7_fill_53178 4 s args wsJ7_fill_53178 RJ7) (hN : gx_N s) (hA : ∀ q : Nat, H0.size ≤ q → A q) {e1 : Nat} {v : Int32} {cE : ClassId}  (hK : va_K D vwCl [(cE, .int)] s) (kk : ∀ (E : Nat → Int32) (H : Heap) (locs : List Loc) (ls : Array Slot), (∀ q, q < 48 → E q = v) → va_P D vwCl [(e1, .inl (cE, 48, .inl E))] H → va_D A [(e1, .inl (cE, 48, .inl E))] → va_S A H0 H locs → lv_has ls 4 [(0, .ref e1), (1, .int v), (2, .int (nI 48)), (3, .int (nI 48))] → W p l e rmJ7_fill_53178 s m args below meth c H locs 0 0 Q (F0 m 20 ls [])) : ∀ (n_ : Nat) (i : Nat) (E : Nat → Int32) (H : Heap) (locs : List Loc) (ls : Array Slot), (i ≤ 48 ∧ 48 < i + n_) → (∀ q, q < i → E q = v) → va_P D vwCl [(e1, .inl (cE, 48, .inl E))] H → va_D A [(e1, .inl (cE, 48, .inl E))] → va_S A H0 H locs → lv_has ls 4 [(0, .ref e1), (1, .int v), (2, .int (nI i)), (3, .int (nI 48))] → W p l e rmJ7_fill_53178 s m args below meth c H locs 0 0 Q (F0 m 5 ls []) := by
  obtain ⟨hx, hb, hml, hown, hts⟩ := id C0
  intro n_
  induction n_ with
  | zero =>
    intro i E H locs ls hm
    exact absurd hm (by omega)
  | succ n_ ih =>
    intro i E H locs ls hm hI hP hD hS hl
    refine lv_iload_n hx hb dJ7_fill_53178_5 rfl (lv_at hl 2 rfl) ?_
    refine lv_iload_n hx hb dJ7_fill_53178_6 rfl (lv_at hl 3 rfl) ?_
    refine gx_ge (tgt := 20) hx hb dJ7_fill_53178_7 (by decide) (by omega) (by omega) (fun c_7 => ?_) (fun c_7 => ?_)
    · have hi8 : i = 48 := by omega
      subst hi8
      exact kk _ _ _ _ hI (hP.sub [0] rfl) (hD.sub [0] (by decide) rfl) hS (lv_sub hl [0, 1, 2, 3] rfl)
    · refine lv_aload_n hx hb dJ7_fill_53178_10 rfl (lv_at hl 0 rfl) ?_
      refine lv_iload_n hx hb dJ7_fill_53178_11 rfl (lv_at hl 2 rfl) ?_
      refine lv_iload_n hx hb dJ7_fill_53178_12 rfl (lv_at hl 1 rfl) ?_
      refine gx_iast (q := i) hx hb hK hP hD hS 0 0 rfl rfl (rfl) (by omega) (by decide) dJ7_fill_53178_13 (fun H locs hP hD hS => ?_)
      have hP : va_P D vwCl [(e1, .inl (cE, 48, .inl (upd E i v)))] H := hP
      have hD : va_D A [(e1, .inl (cE, 48, .inl (upd E i v)))] := hD
      refine lv_iinc (v := nI (i + 1)) (lv' := [(2, .int (nI (i + 1))), (0, .ref e1), (1, .int v), (3, .int (nI 48))]) hx hb dJ7_fill_53178_14 hl (k := 2) rfl ((nI_succ i).symm) (by decide) rfl (fun ls hl => ?_)
      refine lv_goto (tgt := 5) hx hb dJ7_fill_53178_17 (by decide) ?_
      exact ih (i + 1) _ _ _ _ (by omega) (fl_s hI) (hP.sub [0] rfl) (hD.sub [0] (by decide) rfl) hS (lv_sub hl [1, 2, 0, 3] rfl)
set_option maxHeartbeats 4000000 in
set_option maxRecDepth 100000 in
theorem kJ7_fill_53178 (l : Launch) (D : va_G) (e1 : Nat) (v : Int32) (cE : ClassId) (E : Nat → Int32)  : gx_Mv l D yJ7_fill_53178 wsJ7_fill_53178 rmJ7_fill_53178 [.ref e1, .int v] [(cE, .int)] [(e1, .inl (cE, 48, .inl E))] (S := Nat → Int32) (fun (u : Nat → Int32) => ∀ q, q < 48 → u q = v) (fun (u : Nat → Int32) => [(e1, .inl (cE, 48, .inl u))]) := by
  intro sz
  refine gx_start (cc := cJ7_fill_53178) (maxL := 4) (ret := none) (Qc := fun A => va_Qv (fun (u : Nat → Int32) => ∀ q, q < 48 → u q = v) (gx_B D [(cE, .int)] A (fun (u : Nat → Int32) => [(e1, .inl (cE, 48, .inl u))])) A) (by decide) rfl (Nat.le_of_ble_eq_true rfl) ?_ sz
  intro p e s m below meth c A hbody ls hl
  obtain ⟨C0, hr, hlocks, hN, hK, hP, hD, hA⟩ := hbody
  have C0 : CallFix p m c cJ7_fill_53178 4 s ([.ref e1, .int v] : List Value).toArray wsJ7_fill_53178 RJ7 := C0
  obtain ⟨hx, hb, hml, hown, hts⟩ := id C0
  have hS : va_S A s.heap s.heap [] := va_S.rf
  have hl : lv_has ls 4 [(0, .ref e1), (1, .int v)] := hl
  refine lv_iconst (v := nI 0) hx hb dJ7_fill_53178_0 (by decide) ?_
  refine lv_istore_n (lv' := [(2, .int (nI 0)), (0, .ref e1), (1, .int v)]) hx hb dJ7_fill_53178_1 rfl hl (by decide) rfl (fun ls hl => ?_)
  refine lv_aload_n hx hb dJ7_fill_53178_2 rfl (lv_at hl 1 rfl) ?_
  refine va_alen (v := nI 48) hx hb hK hP 0 0 rfl rfl rfl dJ7_fill_53178_3 ?_
  refine lv_istore_n (lv' := [(3, .int (nI 48)), (2, .int (nI 0)), (0, .ref e1), (1, .int v)]) hx hb dJ7_fill_53178_4 rfl hl (by decide) rfl (fun ls hl => ?_)
  refine lpJ7_fill C0 hN hA hK (fun E1 H locs ls hI hP hD hS hl => ?_) 49 0 E _ _ _ (by omega) (fun q h => absurd h (Nat.not_lt_zero q)) (hP.sub [0] rfl) (hD.sub [0] (by decide) rfl) hS (lv_sub hl [2, 3, 1, 0] rfl)
  exact gx_retv hx hb hr hlocks E1 (hI) hK (hP.sub [0] rfl) (hD.sub [0] (by decide) rfl) hS dJ7_fill_53178_20
abbrev rmX1_size : Room := { frames := 1, cells := 0, slots := 0, locals := 23 }
theorem iw_X1_size_X1 : ∀ w ∈ wsX10, w ∈ wsX1_size := by decide +kernel
theorem kw_X1_size_9 : Cond.fieldLink RX1 9 "FluxModes" "entries" "[I" ∈ wsX1_size := by decide +kernel
theorem kw_X1_size_30 : Cond.fieldLink RX1 30 "FluxModes" "metabolites" "I" ∈ wsX1_size := by decide +kernel
theorem kw_X1_size_34 : Cond.fieldLink RX1 34 "FluxModes" "reactions" "I" ∈ wsX1_size := by decide +kernel
theorem kw_X1_size_37 : Cond.fieldLink RX1 37 "FluxModes" "reversibleSet" "I" ∈ wsX1_size := by decide +kernel
theorem kw_X1_size_40 : Cond.fieldLink RX1 40 "FluxModes" "listed" "I" ∈ wsX1_size := by decide +kernel
set_option maxHeartbeats 4000000 in
set_option maxRecDepth 100000 in
theorem kX1_size (l : Launch) (D : va_G) (h0 e1 s1 r1 d1 w1 M R V n : Nat) (x y : Int32) (cE : ClassId) (E : Nat → Int32)  : gx_Mi l D yX1_size wsX1_size rmX1_size [.ref h0, .int x, .int y] [(cE, .int)] [(h0, .inr (1, [.ref e1, .int (nI M), .int (nI R), .int (nI V), .ref s1, .ref r1, .int (nI n), .ref d1, .ref w1])), (e1, .inl (cE, 48, .inl E))] (S := Nat × Nat × Nat × Nat × (Nat → Int32)) (fun r (u : Nat × Nat × Nat × Nat × (Nat → Int32)) => r = bI (szok x y) ∧ (szok x y = true → x = nI u.1 ∧ y = nI u.2.1 ∧ u.1 ≤ 6 ∧ 1 ≤ u.2.1 ∧ u.2.1 ≤ 8 ∧ u.2.2.1 = 0 ∧ u.2.2.2.1 = 0 ∧ ∀ q, q < 48 → u.2.2.2.2 q = nI 0) ∧ (szok x y = false → u.1 = M ∧ u.2.1 = R ∧ u.2.2.1 = V ∧ u.2.2.2.1 = n ∧ u.2.2.2.2 = E)) (fun (u : Nat × Nat × Nat × Nat × (Nat → Int32)) => [(h0, .inr (1, [.ref e1, .int (nI (u.1)), .int (nI (u.2.1)), .int (nI (u.2.2.1)), .ref s1, .ref r1, .int (nI (u.2.2.2.1)), .ref d1, .ref w1])), (e1, .inl (cE, 48, .inl u.2.2.2.2))]) := by
  intro sz
  refine gx_start (cc := cX1_size) (maxL := 3) (ret := (some .boolean)) (Qc := fun A => va_Qi (fun r (u : Nat × Nat × Nat × Nat × (Nat → Int32)) => r = bI (szok x y) ∧ (szok x y = true → x = nI u.1 ∧ y = nI u.2.1 ∧ u.1 ≤ 6 ∧ 1 ≤ u.2.1 ∧ u.2.1 ≤ 8 ∧ u.2.2.1 = 0 ∧ u.2.2.2.1 = 0 ∧ ∀ q, q < 48 → u.2.2.2.2 q = nI 0) ∧ (szok x y = false → u.1 = M ∧ u.2.1 = R ∧ u.2.2.1 = V ∧ u.2.2.2.1 = n ∧ u.2.2.2.2 = E)) (gx_B D [(cE, .int)] A (fun (u : Nat × Nat × Nat × Nat × (Nat → Int32)) => [(h0, .inr (1, [.ref e1, .int (nI (u.1)), .int (nI (u.2.1)), .int (nI (u.2.2.1)), .ref s1, .ref r1, .int (nI (u.2.2.2.1)), .ref d1, .ref w1])), (e1, .inl (cE, 48, .inl u.2.2.2.2))])) A) (by decide) rfl (Nat.le_of_ble_eq_true rfl) ?_ sz
  intro p e s m below meth c A hbody ls hl
  obtain ⟨C0, hr, hlocks, hN, hK, hP, hD, hA⟩ := hbody
  have C0 : CallFix p m c cX1_size 3 s ([.ref h0, .int x, .int y] : List Value).toArray wsX1_size RX1 := C0
  obtain ⟨hx, hb, hml, hown, hts⟩ := id C0
  have hS : va_S A s.heap s.heap [] := va_S.rf
  have hl : lv_has ls 3 [(0, .ref h0), (1, .int x), (2, .int y)] := hl
  refine lv_iload_n hx hb dX1_size_0 rfl (lv_at hl 1 rfl) ?_
  refine lv_if_lt (tgt := 21) hx hb dX1_size_1 (by decide) (fun c_1 => ?_) (fun c_1 => ?_)
  · have hz : szok x y = false := sz_1 c_1
    refine lv_iconst (v := nI 0) hx hb dX1_size_21 (by decide) ?_
    exact gx_retz hx hb hr hlocks false (by decide) (M, R, V, n, E) (⟨by rw [hz]; decide, fun h => absurd (h.symm.trans hz) (by decide), fun _ => ⟨rfl, rfl, rfl, rfl, rfl⟩⟩) hK (hP.sub [0, 1] rfl) (hD.sub [0, 1] (by decide) rfl) hS dX1_size_22
  · refine lv_iload_n hx hb dX1_size_4 rfl (lv_at hl 1 rfl) ?_
    refine lv_bipush (v := nI 6) hx hb dX1_size_5 (by decide) ?_
    refine lv_icmp_gt (tgt := 21) hx hb dX1_size_7 (by decide) (fun c_7 => ?_) (fun c_7 => ?_)
    · have hz : szok x y = false := sz_2 c_7
      refine lv_iconst (v := nI 0) hx hb dX1_size_21 (by decide) ?_
      exact gx_retz hx hb hr hlocks false (by decide) (M, R, V, n, E) (⟨by rw [hz]; decide, fun h => absurd (h.symm.trans hz) (by decide), fun _ => ⟨rfl, rfl, rfl, rfl, rfl⟩⟩) hK (hP.sub [0, 1] rfl) (hD.sub [0, 1] (by decide) rfl) hS dX1_size_22
    · refine lv_iload_n hx hb dX1_size_10 rfl (lv_at hl 2 rfl) ?_
      refine lv_iconst (v := nI 1) hx hb dX1_size_11 (by decide) ?_
      refine lv_icmp_lt (tgt := 21) hx hb dX1_size_12 (by decide) (fun c_12 => ?_) (fun c_12 => ?_)
      · have hz : szok x y = false := sz_3 c_12
        refine lv_iconst (v := nI 0) hx hb dX1_size_21 (by decide) ?_
        exact gx_retz hx hb hr hlocks false (by decide) (M, R, V, n, E) (⟨by rw [hz]; decide, fun h => absurd (h.symm.trans hz) (by decide), fun _ => ⟨rfl, rfl, rfl, rfl, rfl⟩⟩) hK (hP.sub [0, 1] rfl) (hD.sub [0, 1] (by decide) rfl) hS dX1_size_22
      · refine lv_iload_n hx hb dX1_size_15 rfl (lv_at hl 2 rfl) ?_
        refine lv_bipush (v := nI 8) hx hb dX1_size_16 (by decide) ?_
        refine lv_icmp_le (tgt := 23) hx hb dX1_size_18 (by decide) (fun c_18 => ?_) (fun c_18 => ?_)
        · have hz : szok x y = true := sz_t c_1 c_7 c_12 c_18
          obtain ⟨a, b, ha6, hb1, hb8, rfl, rfl⟩ := sz_of hz
          refine lv_aload_n hx hb dX1_size_23 rfl (lv_at hl 0 rfl) ?_
          refine lv_iload_n hx hb dX1_size_24 rfl (lv_at hl 1 rfl) ?_
          refine va_put (D := D) (ci := 1) (v := .int (nI a)) (ty := .int) (C := RX1) (T := TX1) (N := 9) hx hb hts iw_X1_size_X1 tyX1 tyX1_ok nmX1 hown hK hP hD hS 0 rfl rfl 1 (by decide) (hts _ kw_X1_size_30) (fun _ h9 => h9) rfl (by decide +kernel) rfl rfl (Nat.le_of_ble_eq_true rfl) dX1_size_25 (fun H locs hP hD hS => ?_)
          have hP : va_P D vwCl [(h0, .inr (1, [.ref e1, .int (nI a), .int (nI R), .int (nI V), .ref s1, .ref r1, .int (nI n), .ref d1, .ref w1])), (e1, .inl (cE, 48, .inl E))] H := hP
          have hD : va_D A [(h0, .inr (1, [.ref e1, .int (nI a), .int (nI R), .int (nI V), .ref s1, .ref r1, .int (nI n), .ref d1, .ref w1])), (e1, .inl (cE, 48, .inl E))] := hD
          refine lv_aload_n hx hb dX1_size_28 rfl (lv_at hl 0 rfl) ?_
          refine lv_iload_n hx hb dX1_size_29 rfl (lv_at hl 2 rfl) ?_
          refine va_put (D := D) (ci := 1) (v := .int (nI b)) (ty := .int) (C := RX1) (T := TX1) (N := 9) hx hb hts iw_X1_size_X1 tyX1 tyX1_ok nmX1 hown hK hP hD hS 0 rfl rfl 2 (by decide) (hts _ kw_X1_size_34) (fun _ h9 => h9) rfl (by decide +kernel) rfl rfl (Nat.le_of_ble_eq_true rfl) dX1_size_30 (fun H locs hP hD hS => ?_)
          have hP : va_P D vwCl [(h0, .inr (1, [.ref e1, .int (nI a), .int (nI b), .int (nI V), .ref s1, .ref r1, .int (nI n), .ref d1, .ref w1])), (e1, .inl (cE, 48, .inl E))] H := hP
          have hD : va_D A [(h0, .inr (1, [.ref e1, .int (nI a), .int (nI b), .int (nI V), .ref s1, .ref r1, .int (nI n), .ref d1, .ref w1])), (e1, .inl (cE, 48, .inl E))] := hD
          refine lv_aload_n hx hb dX1_size_33 rfl (lv_at hl 0 rfl) ?_
          refine va_get (D := D) (ci := 1) (v := .ref e1) (C := RX1) (T := TX1) (N := 9) hx hb hts iw_X1_size_X1 hown hK hP 0 rfl rfl 0 (by decide) (hts _ kw_X1_size_9) (fun _ h9 => h9) rfl dX1_size_34 ?_
          refine lv_iconst (v := nI 0) hx hb dX1_size_37 (by decide) ?_
          refine gx_jv (wr := [(h0, .inr (1, [.ref e1, .int (nI a), .int (nI b), .int (nI V), .ref s1, .ref r1, .int (nI n), .ref d1, .ref w1]))]) (gx_rS (As := [.ref e1, .int (nI 0)]) (rest := []) C0 (kJ7_fill_53178 l D e1 (nI 0) cE E _) (va_cwS 2 hts gX1_size_J7_fill_53178 rfl rfl rfl (by decide +kernel) ⟨Nat.le_of_ble_eq_true rfl, Nat.le_of_ble_eq_true rfl⟩) hN hK hP hD [1] [0] rfl rfl (by decide) rfl rfl hl.1 rfl (Nat.le_of_ble_eq_true rfl) dX1_size_38 ⟨Nat.zero_le _, Nat.zero_le _⟩) hP hD hS hA [1] [0] rfl rfl (by decide) (by decide) (fun u H locs hw hP hD hS => ?_)
          obtain ⟨E1, rfl⟩ : ∃ z, z = u := ⟨_, rfl⟩
          have hw9 : ∀ q, q < 48 → E1 q = nI 0 := hw
          have hP : va_P D vwCl [(h0, .inr (1, [.ref e1, .int (nI a), .int (nI b), .int (nI V), .ref s1, .ref r1, .int (nI n), .ref d1, .ref w1])), (e1, .inl (cE, 48, .inl E1))] H := hP
          have hD : va_D A [(h0, .inr (1, [.ref e1, .int (nI a), .int (nI b), .int (nI V), .ref s1, .ref r1, .int (nI n), .ref d1, .ref w1])), (e1, .inl (cE, 48, .inl E1))] := hD
          refine lv_aload_n hx hb dX1_size_41 rfl (lv_at hl 0 rfl) ?_
          refine lv_iconst (v := nI 0) hx hb dX1_size_42 (by decide) ?_
          refine va_put (D := D) (ci := 1) (v := .int (nI 0)) (ty := .int) (C := RX1) (T := TX1) (N := 9) hx hb hts iw_X1_size_X1 tyX1 tyX1_ok nmX1 hown hK hP hD hS 0 rfl rfl 3 (by decide) (hts _ kw_X1_size_37) (fun _ h9 => h9) rfl (by decide +kernel) rfl rfl (Nat.le_of_ble_eq_true rfl) dX1_size_43 (fun H locs hP hD hS => ?_)
          have hP : va_P D vwCl [(h0, .inr (1, [.ref e1, .int (nI a), .int (nI b), .int (nI 0), .ref s1, .ref r1, .int (nI n), .ref d1, .ref w1])), (e1, .inl (cE, 48, .inl E1))] H := hP
          have hD : va_D A [(h0, .inr (1, [.ref e1, .int (nI a), .int (nI b), .int (nI 0), .ref s1, .ref r1, .int (nI n), .ref d1, .ref w1])), (e1, .inl (cE, 48, .inl E1))] := hD
          refine lv_aload_n hx hb dX1_size_46 rfl (lv_at hl 0 rfl) ?_
          refine lv_iconst (v := nI 0) hx hb dX1_size_47 (by decide) ?_
          refine va_put (D := D) (ci := 1) (v := .int (nI 0)) (ty := .int) (C := RX1) (T := TX1) (N := 9) hx hb hts iw_X1_size_X1 tyX1 tyX1_ok nmX1 hown hK hP hD hS 0 rfl rfl 6 (by decide) (hts _ kw_X1_size_40) (fun _ h9 => h9) rfl (by decide +kernel) rfl rfl (Nat.le_of_ble_eq_true rfl) dX1_size_48 (fun H locs hP hD hS => ?_)
          have hP : va_P D vwCl [(h0, .inr (1, [.ref e1, .int (nI a), .int (nI b), .int (nI 0), .ref s1, .ref r1, .int (nI 0), .ref d1, .ref w1])), (e1, .inl (cE, 48, .inl E1))] H := hP
          have hD : va_D A [(h0, .inr (1, [.ref e1, .int (nI a), .int (nI b), .int (nI 0), .ref s1, .ref r1, .int (nI 0), .ref d1, .ref w1])), (e1, .inl (cE, 48, .inl E1))] := hD
          refine lv_iconst (v := nI 1) hx hb dX1_size_51 (by decide) ?_
          exact gx_retz hx hb hr hlocks true (by decide) (a, b, 0, 0, E1) (⟨by rw [hz]; decide, (fun _ => ⟨rfl, rfl, ha6, hb1, hb8, rfl, rfl, hw9⟩), fun h => absurd (h.symm.trans hz) (by decide)⟩) hK (hP.sub [0, 1] rfl) (hD.sub [0, 1] (by decide) rfl) hS dX1_size_52
        · have hz : szok x y = false := sz_4 c_18
          refine lv_iconst (v := nI 0) hx hb dX1_size_21 (by decide) ?_
          exact gx_retz hx hb hr hlocks false (by decide) (M, R, V, n, E) (⟨by rw [hz]; decide, fun h => absurd (h.symm.trans hz) (by decide), fun _ => ⟨rfl, rfl, rfl, rfl, rfl⟩⟩) hK (hP.sub [0, 1] rfl) (hD.sub [0, 1] (by decide) rfl) hS dX1_size_22
abbrev rmX1_enter : Room := { frames := 2, cells := 0, slots := 0, locals := 43 }
theorem iw_X1_enter_X1 : ∀ w ∈ wsX10, w ∈ wsX1_enter := by decide +kernel
theorem kw_X1_enter_9 : Cond.fieldLink RX1 9 "FluxModes" "entries" "[I" ∈ wsX1_enter := by decide +kernel
set_option maxHeartbeats 4000000 in
set_option maxRecDepth 100000 in
theorem kX1_enter (l : Launch) (D : va_G) (h0 e1 s1 r1 d1 w1 M R V n : Nat) (x y z : Int32) (cE : ClassId) (E : Nat → Int32) (hM6 : M ≤ 6) (hR8 : R ≤ 8) : gx_Mi l D yX1_enter wsX1_enter rmX1_enter [.ref h0, .int x, .int y, .int z] [(cE, .int)] [(h0, .inr (1, [.ref e1, .int (nI M), .int (nI R), .int (nI V), .ref s1, .ref r1, .int (nI n), .ref d1, .ref w1])), (e1, .inl (cE, 48, .inl E))] (S := Nat → Int32) (fun r (u : Nat → Int32) => r = bI (enok x y z M R) ∧ u = if enok x y z M R = true then upd E (ixx x y) z else E) (fun (u : Nat → Int32) => [(h0, .inr (1, [.ref e1, .int (nI M), .int (nI R), .int (nI V), .ref s1, .ref r1, .int (nI n), .ref d1, .ref w1])), (e1, .inl (cE, 48, .inl u))]) := by
  intro sz
  refine gx_start (cc := cX1_enter) (maxL := 4) (ret := (some .boolean)) (Qc := fun A => va_Qi (fun r (u : Nat → Int32) => r = bI (enok x y z M R) ∧ u = if enok x y z M R = true then upd E (ixx x y) z else E) (gx_B D [(cE, .int)] A (fun (u : Nat → Int32) => [(h0, .inr (1, [.ref e1, .int (nI M), .int (nI R), .int (nI V), .ref s1, .ref r1, .int (nI n), .ref d1, .ref w1])), (e1, .inl (cE, 48, .inl u))])) A) (by decide) rfl (Nat.le_of_ble_eq_true rfl) ?_ sz
  intro p e s m below meth c A hbody ls hl
  obtain ⟨C0, hr, hlocks, hN, hK, hP, hD, hA⟩ := hbody
  have C0 : CallFix p m c cX1_enter 4 s ([.ref h0, .int x, .int y, .int z] : List Value).toArray wsX1_enter RX1 := C0
  obtain ⟨hx, hb, hml, hown, hts⟩ := id C0
  have hS : va_S A s.heap s.heap [] := va_S.rf
  have hl : lv_has ls 4 [(0, .ref h0), (1, .int x), (2, .int y), (3, .int z)] := hl
  refine lv_aload_n hx hb dX1_enter_0 rfl (lv_at hl 0 rfl) ?_
  refine lv_iload_n hx hb dX1_enter_1 rfl (lv_at hl 1 rfl) ?_
  refine lv_iload_n hx hb dX1_enter_2 rfl (lv_at hl 2 rfl) ?_
  refine gx_ji (wr := [(e1, .inl (cE, 48, .inl E))]) (gx_rV (As := [.int x, .int y]) (rest := []) C0 (kX1_hasEntry l D h0 e1 s1 r1 d1 w1 M R V n x y (by omega) (by omega) _) (cwV 2 hts gX1_enter_X1_hasEntry rfl rfl rfl (by decide +kernel) ⟨Nat.le_of_ble_eq_true rfl, Nat.le_of_ble_eq_true rfl⟩) hN hK hP hD [0] [] rfl rfl (by decide) rfl 0 rfl rfl rfl rfl hl.1 rfl (Nat.le_of_ble_eq_true rfl) dX1_enter_3 ⟨Nat.zero_le _, Nat.zero_le _⟩) hP hD hS hA [0] [1] rfl rfl (by decide) (by decide) (fun r u H locs hw hP hD hS => ?_)
  have hw : r = bI (sp_in x M && sp_in y R) := hw
  subst hw
  have hP : va_P D vwCl [(e1, .inl (cE, 48, .inl E)), (h0, .inr (1, [.ref e1, .int (nI M), .int (nI R), .int (nI V), .ref s1, .ref r1, .int (nI n), .ref d1, .ref w1]))] H := hP
  have hD : va_D A [(e1, .inl (cE, 48, .inl E)), (h0, .inr (1, [.ref e1, .int (nI M), .int (nI R), .int (nI V), .ref s1, .ref r1, .int (nI n), .ref d1, .ref w1]))] := hD
  refine gx_beq (tgt := 21) hx hb dX1_enter_6 (by decide) (fun c_6 => ?_) (fun c_6 => ?_)
  · have hz : enok x y z M R = false := by unfold enok; rw [c_6]; rfl
    refine lv_iconst (v := nI 0) hx hb dX1_enter_21 (by decide) ?_
    exact gx_retz hx hb hr hlocks false (by decide) E (⟨by rw [hz]; decide, by rw [hz]; rfl⟩) hK (hP.sub [1, 0] rfl) (hD.sub [1, 0] (by decide) rfl) hS dX1_enter_22
  · refine lv_iload_n hx hb dX1_enter_9 rfl (lv_at hl 3 rfl) ?_
    refine lv_bipush (v := (-9)) hx hb dX1_enter_10 (by decide) ?_
    refine lv_icmp_lt (tgt := 21) hx hb dX1_enter_12 (by decide) (fun c_12 => ?_) (fun c_12 => ?_)
    · have hz : enok x y z M R = false := by unfold enok; rw [z9_1 c_12, Bool.and_false]
      refine lv_iconst (v := nI 0) hx hb dX1_enter_21 (by decide) ?_
      exact gx_retz hx hb hr hlocks false (by decide) E (⟨by rw [hz]; decide, by rw [hz]; rfl⟩) hK (hP.sub [1, 0] rfl) (hD.sub [1, 0] (by decide) rfl) hS dX1_enter_22
    · refine lv_iload_n hx hb dX1_enter_15 rfl (lv_at hl 3 rfl) ?_
      refine lv_bipush (v := nI 9) hx hb dX1_enter_16 (by decide) ?_
      refine lv_icmp_le (tgt := 23) hx hb dX1_enter_18 (by decide) (fun c_18 => ?_) (fun c_18 => ?_)
      · have hz : enok x y z M R = true := by unfold enok; rw [c_6, z9_t c_12 c_18]; rfl
        obtain ⟨hi1, hi2, hi3⟩ := ix_ok hM6 hR8 c_6
        refine lv_aload_n hx hb dX1_enter_23 rfl (lv_at hl 0 rfl) ?_
        refine va_get (D := D) (ci := 1) (v := .ref e1) (C := RX1) (T := TX1) (N := 9) hx hb hts iw_X1_enter_X1 hown hK hP 1 rfl rfl 0 (by decide) (hts _ kw_X1_enter_9) (fun _ h9 => h9) rfl dX1_enter_24 ?_
        refine lv_iload_n hx hb dX1_enter_27 rfl (lv_at hl 1 rfl) ?_
        refine lv_bipush (v := nI 8) hx hb dX1_enter_28 (by decide) ?_
        refine lv_imul hx hb dX1_enter_30 ?_
        refine lv_iload_n hx hb dX1_enter_31 rfl (lv_at hl 2 rfl) ?_
        refine lv_iadd hx hb dX1_enter_32 ?_
        refine lv_iload_n hx hb dX1_enter_33 rfl (lv_at hl 3 rfl) ?_
        refine gx_iast (q := ixx x y) hx hb hK hP hD hS 0 0 rfl rfl (hi1) (hi3) (by decide) dX1_enter_34 (fun H locs hP hD hS => ?_)
        have hP : va_P D vwCl [(e1, .inl (cE, 48, .inl (upd E (ixx x y) z))), (h0, .inr (1, [.ref e1, .int (nI M), .int (nI R), .int (nI V), .ref s1, .ref r1, .int (nI n), .ref d1, .ref w1]))] H := hP
        have hD : va_D A [(e1, .inl (cE, 48, .inl (upd E (ixx x y) z))), (h0, .inr (1, [.ref e1, .int (nI M), .int (nI R), .int (nI V), .ref s1, .ref r1, .int (nI n), .ref d1, .ref w1]))] := hD
        refine lv_iconst (v := nI 1) hx hb dX1_enter_35 (by decide) ?_
        exact gx_retz hx hb hr hlocks true (by decide) (upd E (ixx x y) z) (⟨by rw [hz]; decide, by rw [hz]; rfl⟩) hK (hP.sub [1, 0] rfl) (hD.sub [1, 0] (by decide) rfl) hS dX1_enter_36
      · have hz : enok x y z M R = false := by unfold enok; rw [z9_2 c_18, Bool.and_false]
        refine lv_iconst (v := nI 0) hx hb dX1_enter_21 (by decide) ?_
        exact gx_retz hx hb hr hlocks false (by decide) E (⟨by rw [hz]; decide, by rw [hz]; rfl⟩) hK (hP.sub [1, 0] rfl) (hD.sub [1, 0] (by decide) rfl) hS dX1_enter_22
abbrev rmX1_entry : Room := { frames := 2, cells := 0, slots := 0, locals := 43 }
theorem iw_X1_entry_X1 : ∀ w ∈ wsX10, w ∈ wsX1_entry := by decide +kernel
theorem kw_X1_entry_9 : Cond.fieldLink RX1 9 "FluxModes" "entries" "[I" ∈ wsX1_entry := by decide +kernel
set_option maxHeartbeats 4000000 in
set_option maxRecDepth 100000 in
theorem kX1_entry (l : Launch) (D : va_G) (h0 e1 s1 r1 d1 w1 M R V n : Nat) (x y : Int32) (cE : ClassId) (E : Nat → Int32) (hM6 : M ≤ 6) (hR8 : R ≤ 8) : gx_Mi l D yX1_entry wsX1_entry rmX1_entry [.ref h0, .int x, .int y] [(cE, .int)] [(h0, .inr (1, [.ref e1, .int (nI M), .int (nI R), .int (nI V), .ref s1, .ref r1, .int (nI n), .ref d1, .ref w1])), (e1, .inl (cE, 48, .inl E))] (S := Unit) (fun r (_ : Unit) => r = if (sp_in x M && sp_in y R) = true then E (ixx x y) else 0) (fun (_ : Unit) => [(h0, .inr (1, [.ref e1, .int (nI M), .int (nI R), .int (nI V), .ref s1, .ref r1, .int (nI n), .ref d1, .ref w1])), (e1, .inl (cE, 48, .inl E))]) := by
  intro sz
  refine gx_start (cc := cX1_entry) (maxL := 3) (ret := (some .int)) (Qc := fun A => va_Qi (fun r (_ : Unit) => r = if (sp_in x M && sp_in y R) = true then E (ixx x y) else 0) (gx_B D [(cE, .int)] A (fun (_ : Unit) => [(h0, .inr (1, [.ref e1, .int (nI M), .int (nI R), .int (nI V), .ref s1, .ref r1, .int (nI n), .ref d1, .ref w1])), (e1, .inl (cE, 48, .inl E))])) A) (by decide) rfl (Nat.le_of_ble_eq_true rfl) ?_ sz
  intro p e s m below meth c A hbody ls hl
  obtain ⟨C0, hr, hlocks, hN, hK, hP, hD, hA⟩ := hbody
  have C0 : CallFix p m c cX1_entry 3 s ([.ref h0, .int x, .int y] : List Value).toArray wsX1_entry RX1 := C0
  obtain ⟨hx, hb, hml, hown, hts⟩ := id C0
  have hS : va_S A s.heap s.heap [] := va_S.rf
  have hl : lv_has ls 3 [(0, .ref h0), (1, .int x), (2, .int y)] := hl
  refine lv_aload_n hx hb dX1_entry_0 rfl (lv_at hl 0 rfl) ?_
  refine lv_iload_n hx hb dX1_entry_1 rfl (lv_at hl 1 rfl) ?_
  refine lv_iload_n hx hb dX1_entry_2 rfl (lv_at hl 2 rfl) ?_
  refine gx_ji (wr := [(e1, .inl (cE, 48, .inl E))]) (gx_rV (As := [.int x, .int y]) (rest := []) C0 (kX1_hasEntry l D h0 e1 s1 r1 d1 w1 M R V n x y (by omega) (by omega) _) (cwV 2 hts gX1_entry_X1_hasEntry rfl rfl rfl (by decide +kernel) ⟨Nat.le_of_ble_eq_true rfl, Nat.le_of_ble_eq_true rfl⟩) hN hK hP hD [0] [] rfl rfl (by decide) rfl 0 rfl rfl rfl rfl hl.1 rfl (Nat.le_of_ble_eq_true rfl) dX1_entry_3 ⟨Nat.zero_le _, Nat.zero_le _⟩) hP hD hS hA [0] [1] rfl rfl (by decide) (by decide) (fun r u H locs hw hP hD hS => ?_)
  have hw : r = bI (sp_in x M && sp_in y R) := hw
  subst hw
  have hP : va_P D vwCl [(e1, .inl (cE, 48, .inl E)), (h0, .inr (1, [.ref e1, .int (nI M), .int (nI R), .int (nI V), .ref s1, .ref r1, .int (nI n), .ref d1, .ref w1]))] H := hP
  have hD : va_D A [(e1, .inl (cE, 48, .inl E)), (h0, .inr (1, [.ref e1, .int (nI M), .int (nI R), .int (nI V), .ref s1, .ref r1, .int (nI n), .ref d1, .ref w1]))] := hD
  refine gx_beq (tgt := 23) hx hb dX1_entry_6 (by decide) (fun c_6 => ?_) (fun c_6 => ?_)
  · refine lv_iconst (v := 0) hx hb dX1_entry_23 (by decide) ?_
    exact gx_reti hx hb hr hlocks () (by rw [c_6]; rfl) hK (hP.sub [1, 0] rfl) (hD.sub [1, 0] (by decide) rfl) hS dX1_entry_24
  · obtain ⟨hi1, hi2, hi3⟩ := ix_ok hM6 hR8 c_6
    refine lv_aload_n hx hb dX1_entry_9 rfl (lv_at hl 0 rfl) ?_
    refine va_get (D := D) (ci := 1) (v := .ref e1) (C := RX1) (T := TX1) (N := 9) hx hb hts iw_X1_entry_X1 hown hK hP 1 rfl rfl 0 (by decide) (hts _ kw_X1_entry_9) (fun _ h9 => h9) rfl dX1_entry_10 ?_
    refine lv_iload_n hx hb dX1_entry_13 rfl (lv_at hl 1 rfl) ?_
    refine lv_bipush (v := nI 8) hx hb dX1_entry_14 (by decide) ?_
    refine lv_imul hx hb dX1_entry_16 ?_
    refine lv_iload_n hx hb dX1_entry_17 rfl (lv_at hl 2 rfl) ?_
    refine lv_iadd hx hb dX1_entry_18 ?_
    refine gx_iald (q := ixx x y) hx hb hK hP 0 0 rfl rfl (hi1) (hi3) (by decide) dX1_entry_19 ?_
    refine lv_goto (tgt := 24) hx hb dX1_entry_20 (by decide) ?_
    exact gx_reti hx hb hr hlocks () (by rw [c_6]; rfl) hK (hP.sub [1, 0] rfl) (hD.sub [1, 0] (by decide) rfl) hS dX1_entry_24
abbrev rmX1_reversible : Room := { frames := 1, cells := 0, slots := 0, locals := 21 }
theorem iw_X1_reversible_X1 : ∀ w ∈ wsX10, w ∈ wsX1_reversible := by decide +kernel
theorem kw_X1_reversible_37 : Cond.fieldLink RX1 37 "FluxModes" "reversibleSet" "I" ∈ wsX1_reversible := by decide +kernel
set_option maxHeartbeats 4000000 in
set_option maxRecDepth 100000 in
theorem kX1_reversible (l : Launch) (D : va_G) (h0 e1 s1 r1 d1 w1 M R V n : Nat) (x : Int32) (b : Bool) (hR8 : R ≤ 8) (hV : V < 256) : gx_Mi l D yX1_reversible wsX1_reversible rmX1_reversible [.ref h0, .int x, .int (bI b)] [] [(h0, .inr (1, [.ref e1, .int (nI M), .int (nI R), .int (nI V), .ref s1, .ref r1, .int (nI n), .ref d1, .ref w1]))] (S := Nat) (fun r (u : Nat) => r = bI (sp_in x R) ∧ u = rvs V R x b) (fun (u : Nat) => [(h0, .inr (1, [.ref e1, .int (nI M), .int (nI R), .int (nI u), .ref s1, .ref r1, .int (nI n), .ref d1, .ref w1]))]) := by
  intro sz
  refine gx_start (cc := cX1_reversible) (maxL := 4) (ret := (some .boolean)) (Qc := fun A => va_Qi (fun r (u : Nat) => r = bI (sp_in x R) ∧ u = rvs V R x b) (gx_B D [] A (fun (u : Nat) => [(h0, .inr (1, [.ref e1, .int (nI M), .int (nI R), .int (nI u), .ref s1, .ref r1, .int (nI n), .ref d1, .ref w1]))])) A) (by decide) rfl (Nat.le_of_ble_eq_true rfl) ?_ sz
  intro p e s m below meth c A hbody ls hl
  obtain ⟨C0, hr, hlocks, hN, hK, hP, hD, hA⟩ := hbody
  have C0 : CallFix p m c cX1_reversible 4 s ([.ref h0, .int x, .int (bI b)] : List Value).toArray wsX1_reversible RX1 := C0
  obtain ⟨hx, hb, hml, hown, hts⟩ := id C0
  have hS : va_S A s.heap s.heap [] := va_S.rf
  have hl : lv_has ls 4 [(0, .ref h0), (1, .int x), (2, .int (bI b))] := hl
  refine lv_aload_n hx hb dX1_reversible_0 rfl (lv_at hl 0 rfl) ?_
  refine lv_iload_n hx hb dX1_reversible_1 rfl (lv_at hl 1 rfl) ?_
  refine gx_ji (wr := []) (gx_rV (As := [.int x]) (rest := []) C0 (kX1_hasReaction l D h0 e1 s1 r1 d1 w1 M R V n x (by omega) _) (cwV 1 hts gX1_reversible_X1_hasReaction rfl rfl rfl (by decide +kernel) ⟨Nat.le_of_ble_eq_true rfl, Nat.le_of_ble_eq_true rfl⟩) hN hK hP hD [0] [] rfl rfl (by decide) rfl 0 rfl rfl rfl rfl hl.1 rfl (Nat.le_of_ble_eq_true rfl) dX1_reversible_2 ⟨Nat.zero_le _, Nat.zero_le _⟩) hP hD hS hA [0] [] rfl rfl (by decide) (by decide) (fun r u H locs hw hP hD hS => ?_)
  have hw : r = bI (sp_in x R) := hw
  subst hw
  have hP : va_P D vwCl [(h0, .inr (1, [.ref e1, .int (nI M), .int (nI R), .int (nI V), .ref s1, .ref r1, .int (nI n), .ref d1, .ref w1]))] H := hP
  have hD : va_D A [(h0, .inr (1, [.ref e1, .int (nI M), .int (nI R), .int (nI V), .ref s1, .ref r1, .int (nI n), .ref d1, .ref w1]))] := hD
  refine gx_bne (tgt := 10) hx hb dX1_reversible_5 (by decide) (fun c_5 => ?_) (fun c_5 => ?_)
  · refine lv_iconst (v := nI 1) hx hb dX1_reversible_10 (by decide) ?_
    refine lv_iload_n hx hb dX1_reversible_11 rfl (lv_at hl 1 rfl) ?_
    refine lv_ishl hx hb dX1_reversible_12 ?_
    refine gx_i (y := nI (2 ^ x.toNatClampNeg)) (rv_bit hR8 c_5) ?_
    refine lv_istore_n (lv' := [(3, .int (nI (2 ^ x.toNatClampNeg))), (0, .ref h0), (1, .int x), (2, .int (bI b))]) hx hb dX1_reversible_13 rfl hl (by decide) rfl (fun ls hl => ?_)
    refine lv_aload_n hx hb dX1_reversible_14 rfl (lv_at hl 1 rfl) ?_
    refine lv_iload_n hx hb dX1_reversible_15 rfl (lv_at hl 3 rfl) ?_
    refine gx_beq (tgt := 28) hx hb dX1_reversible_16 (by decide) (fun c_16 => ?_) (fun c_16 => ?_)
    · refine lv_aload_n hx hb dX1_reversible_28 rfl (lv_at hl 1 rfl) ?_
      refine va_get (D := D) (ci := 1) (v := .int (nI V)) (C := RX1) (T := TX1) (N := 9) hx hb hts iw_X1_reversible_X1 hown hK hP 0 rfl rfl 3 (by decide) (hts _ kw_X1_reversible_37) (fun _ h9 => h9) rfl dX1_reversible_29 ?_
      refine lv_iload_n hx hb dX1_reversible_32 rfl (lv_at hl 0 rfl) ?_
      refine lv_iconst (v := (-1)) hx hb dX1_reversible_33 (by decide) ?_
      refine lv_ixor hx hb dX1_reversible_34 ?_
      refine lv_iand hx hb dX1_reversible_35 ?_
      refine gx_i (y := nI (V &&& (255 ^^^ 2 ^ x.toNatClampNeg))) (nx_andn hV) ?_
      refine va_put (D := D) (ci := 1) (v := .int (nI (V &&& (255 ^^^ 2 ^ x.toNatClampNeg)))) (ty := .int) (C := RX1) (T := TX1) (N := 9) hx hb hts iw_X1_reversible_X1 tyX1 tyX1_ok nmX1 hown hK hP hD hS 0 rfl rfl 3 (by decide) (hts _ kw_X1_reversible_37) (fun _ h9 => h9) rfl (by decide +kernel) rfl rfl (Nat.le_of_ble_eq_true rfl) dX1_reversible_36 (fun H locs hP hD hS => ?_)
      have hP : va_P D vwCl [(h0, .inr (1, [.ref e1, .int (nI M), .int (nI R), .int (nI (V &&& (255 ^^^ 2 ^ x.toNatClampNeg))), .ref s1, .ref r1, .int (nI n), .ref d1, .ref w1]))] H := hP
      have hD : va_D A [(h0, .inr (1, [.ref e1, .int (nI M), .int (nI R), .int (nI (V &&& (255 ^^^ 2 ^ x.toNatClampNeg))), .ref s1, .ref r1, .int (nI n), .ref d1, .ref w1]))] := hD
      refine lv_iconst (v := nI 1) hx hb dX1_reversible_39 (by decide) ?_
      exact gx_retz hx hb hr hlocks true (by decide) (V &&& (255 ^^^ 2 ^ x.toNatClampNeg)) (⟨by rw [c_5]; decide, by unfold rvs; rw [if_pos c_5, c_16]; rfl⟩) hK (hP.sub [0] rfl) (hD.sub [0] (by decide) rfl) hS dX1_reversible_40
    · refine lv_aload_n hx hb dX1_reversible_19 rfl (lv_at hl 1 rfl) ?_
      refine va_get (D := D) (ci := 1) (v := .int (nI V)) (C := RX1) (T := TX1) (N := 9) hx hb hts iw_X1_reversible_X1 hown hK hP 0 rfl rfl 3 (by decide) (hts _ kw_X1_reversible_37) (fun _ h9 => h9) rfl dX1_reversible_20 ?_
      refine lv_iload_n hx hb dX1_reversible_23 rfl (lv_at hl 0 rfl) ?_
      refine lv_ior hx hb dX1_reversible_24 ?_
      refine gx_i (y := nI (V ||| 2 ^ x.toNatClampNeg)) (nx_or _ _) ?_
      refine lv_goto (tgt := 36) hx hb dX1_reversible_25 (by decide) ?_
      refine va_put (D := D) (ci := 1) (v := .int (nI (V ||| 2 ^ x.toNatClampNeg))) (ty := .int) (C := RX1) (T := TX1) (N := 9) hx hb hts iw_X1_reversible_X1 tyX1 tyX1_ok nmX1 hown hK hP hD hS 0 rfl rfl 3 (by decide) (hts _ kw_X1_reversible_37) (fun _ h9 => h9) rfl (by decide +kernel) rfl rfl (Nat.le_of_ble_eq_true rfl) dX1_reversible_36 (fun H locs hP hD hS => ?_)
      have hP : va_P D vwCl [(h0, .inr (1, [.ref e1, .int (nI M), .int (nI R), .int (nI (V ||| 2 ^ x.toNatClampNeg)), .ref s1, .ref r1, .int (nI n), .ref d1, .ref w1]))] H := hP
      have hD : va_D A [(h0, .inr (1, [.ref e1, .int (nI M), .int (nI R), .int (nI (V ||| 2 ^ x.toNatClampNeg)), .ref s1, .ref r1, .int (nI n), .ref d1, .ref w1]))] := hD
      refine lv_iconst (v := nI 1) hx hb dX1_reversible_39 (by decide) ?_
      exact gx_retz hx hb hr hlocks true (by decide) (V ||| 2 ^ x.toNatClampNeg) (⟨by rw [c_5]; decide, by unfold rvs; rw [if_pos c_5, c_16]; rfl⟩) hK (hP.sub [0] rfl) (hD.sub [0] (by decide) rfl) hS dX1_reversible_40
  · refine lv_iconst (v := nI 0) hx hb dX1_reversible_8 (by decide) ?_
    exact gx_retz hx hb hr hlocks false (by decide) V (⟨by rw [c_5]; decide, by unfold rvs; rw [if_neg (by rw [c_5]; decide)]⟩) hK (hP.sub [0] rfl) (hD.sub [0] (by decide) rfl) hS dX1_reversible_9
abbrev rmX1_reversibles : Room := { frames := 0, cells := 0, slots := 0, locals := 0 }
theorem iw_X1_reversibles_X1 : ∀ w ∈ wsX10, w ∈ wsX1_reversibles := by decide +kernel
theorem kw_X1_reversibles_37 : Cond.fieldLink RX1 37 "FluxModes" "reversibleSet" "I" ∈ wsX1_reversibles := by decide +kernel
set_option maxHeartbeats 4000000 in
set_option maxRecDepth 100000 in
theorem kX1_reversibles (l : Launch) (D : va_G) (h0 e1 s1 r1 d1 w1 M R V n : Nat)  : gx_Mi l D yX1_reversibles wsX1_reversibles rmX1_reversibles [.ref h0] [] [(h0, .inr (1, [.ref e1, .int (nI M), .int (nI R), .int (nI V), .ref s1, .ref r1, .int (nI n), .ref d1, .ref w1]))] (S := Unit) (fun r (_ : Unit) => r = nI V) (fun (_ : Unit) => [(h0, .inr (1, [.ref e1, .int (nI M), .int (nI R), .int (nI V), .ref s1, .ref r1, .int (nI n), .ref d1, .ref w1]))]) := by
  intro sz
  refine gx_start (cc := cX1_reversibles) (maxL := 1) (ret := (some .int)) (Qc := fun A => va_Qi (fun r (_ : Unit) => r = nI V) (gx_B D [] A (fun (_ : Unit) => [(h0, .inr (1, [.ref e1, .int (nI M), .int (nI R), .int (nI V), .ref s1, .ref r1, .int (nI n), .ref d1, .ref w1]))])) A) (by decide) rfl (Nat.le_of_ble_eq_true rfl) ?_ sz
  intro p e s m below meth c A hbody ls hl
  obtain ⟨C0, hr, hlocks, hN, hK, hP, hD, hA⟩ := hbody
  have C0 : CallFix p m c cX1_reversibles 1 s ([.ref h0] : List Value).toArray wsX1_reversibles RX1 := C0
  obtain ⟨hx, hb, hml, hown, hts⟩ := id C0
  have hS : va_S A s.heap s.heap [] := va_S.rf
  have hl : lv_has ls 1 [(0, .ref h0)] := hl
  refine lv_aload_n hx hb dX1_reversibles_0 rfl (lv_at hl 0 rfl) ?_
  refine va_get (D := D) (ci := 1) (v := .int (nI V)) (C := RX1) (T := TX1) (N := 9) hx hb hts iw_X1_reversibles_X1 hown hK hP 0 rfl rfl 3 (by decide) (hts _ kw_X1_reversibles_37) (fun _ h9 => h9) rfl dX1_reversibles_1 ?_
  exact gx_reti hx hb hr hlocks () (rfl) hK (hP.sub [0] rfl) (hD.sub [0] (by decide) rfl) hS dX1_reversibles_4
abbrev rmX1_modes : Room := { frames := 0, cells := 0, slots := 0, locals := 0 }
theorem iw_X1_modes_X1 : ∀ w ∈ wsX10, w ∈ wsX1_modes := by decide +kernel
theorem kw_X1_modes_40 : Cond.fieldLink RX1 40 "FluxModes" "listed" "I" ∈ wsX1_modes := by decide +kernel
set_option maxHeartbeats 4000000 in
set_option maxRecDepth 100000 in
theorem kX1_modes (l : Launch) (D : va_G) (h0 e1 s1 r1 d1 w1 M R V n : Nat)  : gx_Mi l D yX1_modes wsX1_modes rmX1_modes [.ref h0] [] [(h0, .inr (1, [.ref e1, .int (nI M), .int (nI R), .int (nI V), .ref s1, .ref r1, .int (nI n), .ref d1, .ref w1]))] (S := Unit) (fun r (_ : Unit) => r = nI n) (fun (_ : Unit) => [(h0, .inr (1, [.ref e1, .int (nI M), .int (nI R), .int (nI V), .ref s1, .ref r1, .int (nI n), .ref d1, .ref w1]))]) := by
  intro sz
  refine gx_start (cc := cX1_modes) (maxL := 1) (ret := (some .int)) (Qc := fun A => va_Qi (fun r (_ : Unit) => r = nI n) (gx_B D [] A (fun (_ : Unit) => [(h0, .inr (1, [.ref e1, .int (nI M), .int (nI R), .int (nI V), .ref s1, .ref r1, .int (nI n), .ref d1, .ref w1]))])) A) (by decide) rfl (Nat.le_of_ble_eq_true rfl) ?_ sz
  intro p e s m below meth c A hbody ls hl
  obtain ⟨C0, hr, hlocks, hN, hK, hP, hD, hA⟩ := hbody
  have C0 : CallFix p m c cX1_modes 1 s ([.ref h0] : List Value).toArray wsX1_modes RX1 := C0
  obtain ⟨hx, hb, hml, hown, hts⟩ := id C0
  have hS : va_S A s.heap s.heap [] := va_S.rf
  have hl : lv_has ls 1 [(0, .ref h0)] := hl
  refine lv_aload_n hx hb dX1_modes_0 rfl (lv_at hl 0 rfl) ?_
  refine va_get (D := D) (ci := 1) (v := .int (nI n)) (C := RX1) (T := TX1) (N := 9) hx hb hts iw_X1_modes_X1 hown hK hP 0 rfl rfl 6 (by decide) (hts _ kw_X1_modes_40) (fun _ h9 => h9) rfl dX1_modes_1 ?_
  exact gx_reti hx hb hr hlocks () (rfl) hK (hP.sub [0] rfl) (hD.sub [0] (by decide) rfl) hS dX1_modes_4
abbrev rmX1_support : Room := { frames := 1, cells := 0, slots := 0, locals := 21 }
theorem iw_X1_support_X1 : ∀ w ∈ wsX10, w ∈ wsX1_support := by decide +kernel
theorem kw_X1_support_13 : Cond.fieldLink RX1 13 "FluxModes" "listedSupports" "[I" ∈ wsX1_support := by decide +kernel
set_option maxHeartbeats 4000000 in
set_option maxRecDepth 100000 in
theorem kX1_support (l : Launch) (D : va_G) (h0 e1 s1 r1 d1 w1 M R V n : Nat) (x : Int32) (cS : ClassId) (U : Nat → Int32) (hn : n ≤ 70) : gx_Mi l D yX1_support wsX1_support rmX1_support [.ref h0, .int x] [(cS, .int)] [(h0, .inr (1, [.ref e1, .int (nI M), .int (nI R), .int (nI V), .ref s1, .ref r1, .int (nI n), .ref d1, .ref w1])), (s1, .inl (cS, 70, .inl U))] (S := Unit) (fun r (_ : Unit) => r = if sp_in x n = true then U x.toNatClampNeg else 0) (fun (_ : Unit) => [(h0, .inr (1, [.ref e1, .int (nI M), .int (nI R), .int (nI V), .ref s1, .ref r1, .int (nI n), .ref d1, .ref w1])), (s1, .inl (cS, 70, .inl U))]) := by
  intro sz
  refine gx_start (cc := cX1_support) (maxL := 2) (ret := (some .int)) (Qc := fun A => va_Qi (fun r (_ : Unit) => r = if sp_in x n = true then U x.toNatClampNeg else 0) (gx_B D [(cS, .int)] A (fun (_ : Unit) => [(h0, .inr (1, [.ref e1, .int (nI M), .int (nI R), .int (nI V), .ref s1, .ref r1, .int (nI n), .ref d1, .ref w1])), (s1, .inl (cS, 70, .inl U))])) A) (by decide) rfl (Nat.le_of_ble_eq_true rfl) ?_ sz
  intro p e s m below meth c A hbody ls hl
  obtain ⟨C0, hr, hlocks, hN, hK, hP, hD, hA⟩ := hbody
  have C0 : CallFix p m c cX1_support 2 s ([.ref h0, .int x] : List Value).toArray wsX1_support RX1 := C0
  obtain ⟨hx, hb, hml, hown, hts⟩ := id C0
  have hS : va_S A s.heap s.heap [] := va_S.rf
  have hl : lv_has ls 2 [(0, .ref h0), (1, .int x)] := hl
  refine lv_aload_n hx hb dX1_support_0 rfl (lv_at hl 0 rfl) ?_
  refine lv_iload_n hx hb dX1_support_1 rfl (lv_at hl 1 rfl) ?_
  refine gx_ji (wr := [(s1, .inl (cS, 70, .inl U))]) (gx_rV (As := [.int x]) (rest := []) C0 (kX1_isListed l D h0 e1 s1 r1 d1 w1 M R V n x (by omega) _) (cwV 1 hts gX1_support_X1_isListed rfl rfl rfl (by decide +kernel) ⟨Nat.le_of_ble_eq_true rfl, Nat.le_of_ble_eq_true rfl⟩) hN hK hP hD [0] [] rfl rfl (by decide) rfl 0 rfl rfl rfl rfl hl.1 rfl (Nat.le_of_ble_eq_true rfl) dX1_support_2 ⟨Nat.zero_le _, Nat.zero_le _⟩) hP hD hS hA [0] [1] rfl rfl (by decide) (by decide) (fun r u H locs hw hP hD hS => ?_)
  have hw : r = bI (sp_in x n) := hw
  subst hw
  have hP : va_P D vwCl [(s1, .inl (cS, 70, .inl U)), (h0, .inr (1, [.ref e1, .int (nI M), .int (nI R), .int (nI V), .ref s1, .ref r1, .int (nI n), .ref d1, .ref w1]))] H := hP
  have hD : va_D A [(s1, .inl (cS, 70, .inl U)), (h0, .inr (1, [.ref e1, .int (nI M), .int (nI R), .int (nI V), .ref s1, .ref r1, .int (nI n), .ref d1, .ref w1]))] := hD
  refine gx_beq (tgt := 17) hx hb dX1_support_5 (by decide) (fun c_5 => ?_) (fun c_5 => ?_)
  · refine lv_iconst (v := 0) hx hb dX1_support_17 (by decide) ?_
    exact gx_reti hx hb hr hlocks () (by rw [c_5]; rfl) hK (hP.sub [1, 0] rfl) (hD.sub [1, 0] (by decide) rfl) hS dX1_support_18
  · obtain ⟨hi3, hi1⟩ := sp_in_clamp (by omega) c_5
    refine lv_aload_n hx hb dX1_support_8 rfl (lv_at hl 0 rfl) ?_
    refine va_get (D := D) (ci := 1) (v := .ref s1) (C := RX1) (T := TX1) (N := 9) hx hb hts iw_X1_support_X1 hown hK hP 1 rfl rfl 4 (by decide) (hts _ kw_X1_support_13) (fun _ h9 => h9) rfl dX1_support_9 ?_
    refine lv_iload_n hx hb dX1_support_12 rfl (lv_at hl 1 rfl) ?_
    refine gx_iald (q := x.toNatClampNeg) hx hb hK hP 0 0 rfl rfl (hi1) (by omega) (by decide) dX1_support_13 ?_
    refine lv_goto (tgt := 18) hx hb dX1_support_14 (by decide) ?_
    exact gx_reti hx hb hr hlocks () (by rw [c_5]; rfl) hK (hP.sub [1, 0] rfl) (hD.sub [1, 0] (by decide) rfl) hS dX1_support_18
abbrev rmX1_rate : Room := { frames := 1, cells := 0, slots := 0, locals := 21 }
theorem iw_X1_rate_X1 : ∀ w ∈ wsX10, w ∈ wsX1_rate := by decide +kernel
theorem kw_X1_rate_16 : Cond.fieldLink RX1 16 "FluxModes" "listedRates" "[I" ∈ wsX1_rate := by decide +kernel
set_option maxHeartbeats 4000000 in
set_option maxRecDepth 100000 in
theorem kX1_rate (l : Launch) (D : va_G) (h0 e1 s1 r1 d1 w1 M R V n : Nat) (x y : Int32) (cR : ClassId) (T : Nat → Int32) (hn : n ≤ 70) : gx_Mi l D yX1_rate wsX1_rate rmX1_rate [.ref h0, .int x, .int y] [(cR, .int)] [(h0, .inr (1, [.ref e1, .int (nI M), .int (nI R), .int (nI V), .ref s1, .ref r1, .int (nI n), .ref d1, .ref w1])), (r1, .inl (cR, 560, .inl T))] (S := Unit) (fun r (_ : Unit) => r = if (sp_in x n && sp_in y 8) = true then T (ixx x y) else 0) (fun (_ : Unit) => [(h0, .inr (1, [.ref e1, .int (nI M), .int (nI R), .int (nI V), .ref s1, .ref r1, .int (nI n), .ref d1, .ref w1])), (r1, .inl (cR, 560, .inl T))]) := by
  intro sz
  refine gx_start (cc := cX1_rate) (maxL := 3) (ret := (some .int)) (Qc := fun A => va_Qi (fun r (_ : Unit) => r = if (sp_in x n && sp_in y 8) = true then T (ixx x y) else 0) (gx_B D [(cR, .int)] A (fun (_ : Unit) => [(h0, .inr (1, [.ref e1, .int (nI M), .int (nI R), .int (nI V), .ref s1, .ref r1, .int (nI n), .ref d1, .ref w1])), (r1, .inl (cR, 560, .inl T))])) A) (by decide) rfl (Nat.le_of_ble_eq_true rfl) ?_ sz
  intro p e s m below meth c A hbody ls hl
  obtain ⟨C0, hr, hlocks, hN, hK, hP, hD, hA⟩ := hbody
  have C0 : CallFix p m c cX1_rate 3 s ([.ref h0, .int x, .int y] : List Value).toArray wsX1_rate RX1 := C0
  obtain ⟨hx, hb, hml, hown, hts⟩ := id C0
  have hS : va_S A s.heap s.heap [] := va_S.rf
  have hl : lv_has ls 3 [(0, .ref h0), (1, .int x), (2, .int y)] := hl
  refine lv_aload_n hx hb dX1_rate_0 rfl (lv_at hl 0 rfl) ?_
  refine lv_iload_n hx hb dX1_rate_1 rfl (lv_at hl 1 rfl) ?_
  refine gx_ji (wr := [(r1, .inl (cR, 560, .inl T))]) (gx_rV (As := [.int x]) (rest := []) C0 (kX1_isListed l D h0 e1 s1 r1 d1 w1 M R V n x (by omega) _) (cwV 1 hts gX1_rate_X1_isListed rfl rfl rfl (by decide +kernel) ⟨Nat.le_of_ble_eq_true rfl, Nat.le_of_ble_eq_true rfl⟩) hN hK hP hD [0] [] rfl rfl (by decide) rfl 0 rfl rfl rfl rfl hl.1 rfl (Nat.le_of_ble_eq_true rfl) dX1_rate_2 ⟨Nat.zero_le _, Nat.zero_le _⟩) hP hD hS hA [0] [1] rfl rfl (by decide) (by decide) (fun r u H locs hw hP hD hS => ?_)
  have hw : r = bI (sp_in x n) := hw
  subst hw
  have hP : va_P D vwCl [(r1, .inl (cR, 560, .inl T)), (h0, .inr (1, [.ref e1, .int (nI M), .int (nI R), .int (nI V), .ref s1, .ref r1, .int (nI n), .ref d1, .ref w1]))] H := hP
  have hD : va_D A [(r1, .inl (cR, 560, .inl T)), (h0, .inr (1, [.ref e1, .int (nI M), .int (nI R), .int (nI V), .ref s1, .ref r1, .int (nI n), .ref d1, .ref w1]))] := hD
  refine gx_beq (tgt := 29) hx hb dX1_rate_5 (by decide) (fun c_5 => ?_) (fun c_5 => ?_)
  · have hz : (sp_in x n && sp_in y 8) = false := by rw [c_5]; rfl
    refine lv_iconst (v := 0) hx hb dX1_rate_29 (by decide) ?_
    exact gx_reti hx hb hr hlocks () (by rw [hz]; rfl) hK (hP.sub [1, 0] rfl) (hD.sub [1, 0] (by decide) rfl) hS dX1_rate_30
  · refine lv_iload_n hx hb dX1_rate_8 rfl (lv_at hl 2 rfl) ?_
    refine gx_ji (wr := [(r1, .inl (cR, 560, .inl T)), (h0, .inr (1, [.ref e1, .int (nI M), .int (nI R), .int (nI V), .ref s1, .ref r1, .int (nI n), .ref d1, .ref w1]))]) (gx_rS (As := [.int y]) (rest := []) C0 (kX1_isColumn l D y _) (va_cwS 1 hts gX1_rate_X1_isColumn rfl rfl rfl (by decide +kernel) ⟨Nat.le_of_ble_eq_true rfl, Nat.le_of_ble_eq_true rfl⟩) hN hK hP hD [] [] rfl rfl (by decide) rfl rfl hl.1 rfl (Nat.le_of_ble_eq_true rfl) dX1_rate_9 ⟨Nat.zero_le _, Nat.zero_le _⟩) hP hD hS hA [] [0, 1] rfl rfl (by decide) (by decide) (fun r u H locs hw hP hD hS => ?_)
    have hw : r = bI (sp_in y 8) := hw
    subst hw
    have hP : va_P D vwCl [(r1, .inl (cR, 560, .inl T)), (h0, .inr (1, [.ref e1, .int (nI M), .int (nI R), .int (nI V), .ref s1, .ref r1, .int (nI n), .ref d1, .ref w1]))] H := hP
    have hD : va_D A [(r1, .inl (cR, 560, .inl T)), (h0, .inr (1, [.ref e1, .int (nI M), .int (nI R), .int (nI V), .ref s1, .ref r1, .int (nI n), .ref d1, .ref w1]))] := hD
    refine gx_beq (tgt := 29) hx hb dX1_rate_12 (by decide) (fun c_12 => ?_) (fun c_12 => ?_)
    · have hz : (sp_in x n && sp_in y 8) = false := by rw [c_12, Bool.and_false]
      refine lv_iconst (v := 0) hx hb dX1_rate_29 (by decide) ?_
      exact gx_reti hx hb hr hlocks () (by rw [hz]; rfl) hK (hP.sub [1, 0] rfl) (hD.sub [1, 0] (by decide) rfl) hS dX1_rate_30
    · have hz : (sp_in x n && sp_in y 8) = true := by rw [c_5, c_12]; rfl
      obtain ⟨hi1, hi2, hi3⟩ := ix_70 hn hz
      refine lv_aload_n hx hb dX1_rate_15 rfl (lv_at hl 0 rfl) ?_
      refine va_get (D := D) (ci := 1) (v := .ref r1) (C := RX1) (T := TX1) (N := 9) hx hb hts iw_X1_rate_X1 hown hK hP 1 rfl rfl 5 (by decide) (hts _ kw_X1_rate_16) (fun _ h9 => h9) rfl dX1_rate_16 ?_
      refine lv_iload_n hx hb dX1_rate_19 rfl (lv_at hl 1 rfl) ?_
      refine lv_bipush (v := nI 8) hx hb dX1_rate_20 (by decide) ?_
      refine lv_imul hx hb dX1_rate_22 ?_
      refine lv_iload_n hx hb dX1_rate_23 rfl (lv_at hl 2 rfl) ?_
      refine lv_iadd hx hb dX1_rate_24 ?_
      refine gx_iald (q := ixx x y) hx hb hK hP 0 0 rfl rfl (hi1) (hi3) (by decide) dX1_rate_25 ?_
      refine lv_goto (tgt := 30) hx hb dX1_rate_26 (by decide) ?_
      exact gx_reti hx hb hr hlocks () (by rw [hz]; rfl) hK (hP.sub [1, 0] rfl) (hD.sub [1, 0] (by decide) rfl) hS dX1_rate_30
abbrev rmX1_within : Room := { frames := 0, cells := 0, slots := 0, locals := 0 }
theorem iw_X1_within_X1 : ∀ w ∈ wsX10, w ∈ wsX1_within := by decide +kernel
theorem kw_X1_within_13 : Cond.fieldLink RX1 13 "FluxModes" "listedSupports" "[I" ∈ wsX1_within := by decide +kernel
theorem kw_X1_within_40 : Cond.fieldLink RX1 40 "FluxModes" "listed" "I" ∈ wsX1_within := by decide +kernel
set_option maxHeartbeats 4000000 in
set_option maxRecDepth 100000 in
theorem lpX1_within {p : Program} {l : Launch} {e : Env} {s : State} {m : MethodId} {args : Array Value} {below : List Frame} {meth : Method} {c : Code} {Q : State → Prop} {D : va_G} {A : Nat → Prop} {H0 : Heap} (C0 : CallFix p m c cX1_within 4 s args wsX1_within RX1) (hN : gx_N s) (hA : ∀ q : Nat, H0.size ≤ q → A q) {h0 e1 s1 r1 d1 w1 M R V n : Nat} {x : Int32} {cS : ClassId} {U : Nat → Int32} (hn : n ≤ 70) (hK : va_K D vwCl [(cS, .int)] s) (kk : ∀ (H : Heap) (locs : List Loc) (ls : Array Slot), va_P D vwCl [(h0, .inr (1, [.ref e1, .int (nI M), .int (nI R), .int (nI V), .ref s1, .ref r1, .int (nI n), .ref d1, .ref w1])), (s1, .inl (cS, 70, .inl U))] H → va_D A [(h0, .inr (1, [.ref e1, .int (nI M), .int (nI R), .int (nI V), .ref s1, .ref r1, .int (nI n), .ref d1, .ref w1])), (s1, .inl (cS, 70, .inl U))] → va_S A H0 H locs → lv_has ls 4 [(0, .ref h0), (1, .int x), (2, .int (nI (mx_count (wiq U x) n))), (3, .int (nI n))] → W p l e rmX1_within s m args below meth c H locs 0 0 Q (F0 m 34 ls [])) : ∀ (n_ : Nat) (k a : Nat) (H : Heap) (locs : List Loc) (ls : Array Slot), (k ≤ n ∧ n < k + n_) → (a = mx_count (wiq U x) k) → va_P D vwCl [(h0, .inr (1, [.ref e1, .int (nI M), .int (nI R), .int (nI V), .ref s1, .ref r1, .int (nI n), .ref d1, .ref w1])), (s1, .inl (cS, 70, .inl U))] H → va_D A [(h0, .inr (1, [.ref e1, .int (nI M), .int (nI R), .int (nI V), .ref s1, .ref r1, .int (nI n), .ref d1, .ref w1])), (s1, .inl (cS, 70, .inl U))] → va_S A H0 H locs → lv_has ls 4 [(0, .ref h0), (1, .int x), (2, .int (nI a)), (3, .int (nI k))] → W p l e rmX1_within s m args below meth c H locs 0 0 Q (F0 m 4 ls []) := by
  obtain ⟨hx, hb, hml, hown, hts⟩ := id C0
  intro n_
  induction n_ with
  | zero =>
    intro k a H locs ls hm
    exact absurd hm (by omega)
  | succ n_ ih =>
    intro k a H locs ls hm hI hP hD hS hl
    refine lv_iload_n hx hb dX1_within_4 rfl (lv_at hl 3 rfl) ?_
    refine lv_aload_n hx hb dX1_within_5 rfl (lv_at hl 0 rfl) ?_
    refine va_get (D := D) (ci := 1) (v := .int (nI n)) (C := RX1) (T := TX1) (N := 9) hx hb hts iw_X1_within_X1 hown hK hP 0 rfl rfl 6 (by decide) (hts _ kw_X1_within_40) (fun _ h9 => h9) rfl dX1_within_6 ?_
    refine gx_ge (tgt := 34) hx hb dX1_within_9 (by decide) (by omega) (by omega) (fun c_9 => ?_) (fun c_9 => ?_)
    · have hkn : k = n := by omega
      subst hkn
      subst hI
      exact kk _ _ _ (hP.sub [0, 1] rfl) (hD.sub [0, 1] (by decide) rfl) hS (lv_sub hl [0, 1, 2, 3] rfl)
    · refine lv_aload_n hx hb dX1_within_12 rfl (lv_at hl 0 rfl) ?_
      refine va_get (D := D) (ci := 1) (v := .ref s1) (C := RX1) (T := TX1) (N := 9) hx hb hts iw_X1_within_X1 hown hK hP 0 rfl rfl 4 (by decide) (hts _ kw_X1_within_13) (fun _ h9 => h9) rfl dX1_within_13 ?_
      refine lv_iload_n hx hb dX1_within_16 rfl (lv_at hl 3 rfl) ?_
      refine gx_iald (q := k) hx hb hK hP 1 0 rfl rfl (rfl) (by omega) (by decide) dX1_within_17 ?_
      refine lv_iload_n hx hb dX1_within_18 rfl (lv_at hl 1 rfl) ?_
      refine lv_iconst (v := (-1)) hx hb dX1_within_19 (by decide) ?_
      refine lv_ixor hx hb dX1_within_20 ?_
      refine lv_iand hx hb dX1_within_21 ?_
      refine lv_if_ne (tgt := 28) hx hb dX1_within_22 (by decide) (fun c_22 => ?_) (fun c_22 => ?_)
      · refine lv_iinc (v := nI (k + 1)) (lv' := [(3, .int (nI (k + 1))), (0, .ref h0), (1, .int x), (2, .int (nI a))]) hx hb dX1_within_28 hl (k := 3) rfl ((nI_succ k).symm) (by decide) rfl (fun ls hl => ?_)
        refine lv_goto (tgt := 4) hx hb dX1_within_31 (by decide) ?_
        have hz : wiq U x k = false := decide_eq_false c_22
        exact ih (k + 1) a _ _ _ (by omega) (cnt_step_f hz hI) (hP.sub [0, 1] rfl) (hD.sub [0, 1] (by decide) rfl) hS (lv_sub hl [1, 2, 3, 0] rfl)
      · refine lv_iinc (v := nI (a + 1)) (lv' := [(2, .int (nI (a + 1))), (0, .ref h0), (1, .int x), (3, .int (nI k))]) hx hb dX1_within_25 hl (k := 2) rfl ((nI_succ a).symm) (by decide) rfl (fun ls hl => ?_)
        refine lv_iinc (v := nI (k + 1)) (lv' := [(3, .int (nI (k + 1))), (2, .int (nI (a + 1))), (0, .ref h0), (1, .int x)]) hx hb dX1_within_28 hl (k := 3) rfl ((nI_succ k).symm) (by decide) rfl (fun ls hl => ?_)
        refine lv_goto (tgt := 4) hx hb dX1_within_31 (by decide) ?_
        have hz : wiq U x k = true := decide_eq_true c_22
        exact ih (k + 1) (a + 1) _ _ _ (by omega) (cnt_step_t hz hI) (hP.sub [0, 1] rfl) (hD.sub [0, 1] (by decide) rfl) hS (lv_sub hl [2, 3, 1, 0] rfl)
set_option maxHeartbeats 4000000 in
set_option maxRecDepth 100000 in
theorem kX1_within (l : Launch) (D : va_G) (h0 e1 s1 r1 d1 w1 M R V n : Nat) (x : Int32) (cS : ClassId) (U : Nat → Int32) (hn : n ≤ 70) : gx_Mi l D yX1_within wsX1_within rmX1_within [.ref h0, .int x] [(cS, .int)] [(h0, .inr (1, [.ref e1, .int (nI M), .int (nI R), .int (nI V), .ref s1, .ref r1, .int (nI n), .ref d1, .ref w1])), (s1, .inl (cS, 70, .inl U))] (S := Unit) (fun r (_ : Unit) => r = nI (mx_count (wiq U x) n)) (fun (_ : Unit) => [(h0, .inr (1, [.ref e1, .int (nI M), .int (nI R), .int (nI V), .ref s1, .ref r1, .int (nI n), .ref d1, .ref w1])), (s1, .inl (cS, 70, .inl U))]) := by
  intro sz
  refine gx_start (cc := cX1_within) (maxL := 4) (ret := (some .int)) (Qc := fun A => va_Qi (fun r (_ : Unit) => r = nI (mx_count (wiq U x) n)) (gx_B D [(cS, .int)] A (fun (_ : Unit) => [(h0, .inr (1, [.ref e1, .int (nI M), .int (nI R), .int (nI V), .ref s1, .ref r1, .int (nI n), .ref d1, .ref w1])), (s1, .inl (cS, 70, .inl U))])) A) (by decide) rfl (Nat.le_of_ble_eq_true rfl) ?_ sz
  intro p e s m below meth c A hbody ls hl
  obtain ⟨C0, hr, hlocks, hN, hK, hP, hD, hA⟩ := hbody
  have C0 : CallFix p m c cX1_within 4 s ([.ref h0, .int x] : List Value).toArray wsX1_within RX1 := C0
  obtain ⟨hx, hb, hml, hown, hts⟩ := id C0
  have hS : va_S A s.heap s.heap [] := va_S.rf
  have hl : lv_has ls 4 [(0, .ref h0), (1, .int x)] := hl
  refine lv_iconst (v := nI 0) hx hb dX1_within_0 (by decide) ?_
  refine lv_istore_n (lv' := [(2, .int (nI 0)), (0, .ref h0), (1, .int x)]) hx hb dX1_within_1 rfl hl (by decide) rfl (fun ls hl => ?_)
  refine lv_iconst (v := nI 0) hx hb dX1_within_2 (by decide) ?_
  refine lv_istore_n (lv' := [(3, .int (nI 0)), (2, .int (nI 0)), (0, .ref h0), (1, .int x)]) hx hb dX1_within_3 rfl hl (by decide) rfl (fun ls hl => ?_)
  refine lpX1_within C0 hN hA hn hK (fun H locs ls hP hD hS hl => ?_) (n + 1) 0 0 _ _ _ (by omega) rfl (hP.sub [0, 1] rfl) (hD.sub [0, 1] (by decide) rfl) hS (lv_sub hl [2, 3, 1, 0] rfl)
  refine lv_iload_n hx hb dX1_within_34 rfl (lv_at hl 2 rfl) ?_
  exact gx_reti hx hb hr hlocks () (rfl) hK (hP.sub [0, 1] rfl) (hD.sub [0, 1] (by decide) rfl) hS dX1_within_35
abbrev rmX1_running : Room := { frames := 1, cells := 0, slots := 0, locals := 21 }
theorem iw_X1_running_X1 : ∀ w ∈ wsX10, w ∈ wsX1_running := by decide +kernel
theorem kw_X1_running_16 : Cond.fieldLink RX1 16 "FluxModes" "listedRates" "[I" ∈ wsX1_running := by decide +kernel
theorem kw_X1_running_40 : Cond.fieldLink RX1 40 "FluxModes" "listed" "I" ∈ wsX1_running := by decide +kernel
set_option maxHeartbeats 4000000 in
set_option maxRecDepth 100000 in
theorem lpX1_running {p : Program} {l : Launch} {e : Env} {s : State} {m : MethodId} {args : Array Value} {below : List Frame} {meth : Method} {c : Code} {Q : State → Prop} {D : va_G} {A : Nat → Prop} {H0 : Heap} (C0 : CallFix p m c cX1_running 5 s args wsX1_running RX1) (hN : gx_N s) (hA : ∀ q : Nat, H0.size ≤ q → A q) {h0 e1 s1 r1 d1 w1 M R V n j : Nat} {y : Int32} {cR : ClassId} {T : Nat → Int32} (hn : n ≤ 70) (hj : j < 8) (hK : va_K D vwCl [(cR, .int)] s) (kk : ∀ (H : Heap) (locs : List Loc) (ls : Array Slot), va_P D vwCl [(h0, .inr (1, [.ref e1, .int (nI M), .int (nI R), .int (nI V), .ref s1, .ref r1, .int (nI n), .ref d1, .ref w1])), (r1, .inl (cR, 560, .inl T))] H → va_D A [(h0, .inr (1, [.ref e1, .int (nI M), .int (nI R), .int (nI V), .ref s1, .ref r1, .int (nI n), .ref d1, .ref w1])), (r1, .inl (cR, 560, .inl T))] → va_S A H0 H locs → lv_has ls 5 [(0, .ref h0), (1, .int (nI j)), (2, .int y), (3, .int (nI (mx_count (ruq T j y) n))), (4, .int (nI n))] → W p l e rmX1_running s m args below meth c H locs 0 0 Q (F0 m 51 ls [])) : ∀ (n_ : Nat) (k a : Nat) (H : Heap) (locs : List Loc) (ls : Array Slot), (k ≤ n ∧ n < k + n_) → (a = mx_count (ruq T j y) k) → va_P D vwCl [(h0, .inr (1, [.ref e1, .int (nI M), .int (nI R), .int (nI V), .ref s1, .ref r1, .int (nI n), .ref d1, .ref w1])), (r1, .inl (cR, 560, .inl T))] H → va_D A [(h0, .inr (1, [.ref e1, .int (nI M), .int (nI R), .int (nI V), .ref s1, .ref r1, .int (nI n), .ref d1, .ref w1])), (r1, .inl (cR, 560, .inl T))] → va_S A H0 H locs → lv_has ls 5 [(0, .ref h0), (1, .int (nI j)), (2, .int y), (3, .int (nI a)), (4, .int (nI k))] → W p l e rmX1_running s m args below meth c H locs 0 0 Q (F0 m 14 ls []) := by
  obtain ⟨hx, hb, hml, hown, hts⟩ := id C0
  intro n_
  induction n_ with
  | zero =>
    intro k a H locs ls hm
    exact absurd hm (by omega)
  | succ n_ ih =>
    intro k a H locs ls hm hI hP hD hS hl
    refine lv_iload hx hb dX1_running_14 (lv_at hl 4 rfl) ?_
    refine lv_aload_n hx hb dX1_running_16 rfl (lv_at hl 0 rfl) ?_
    refine va_get (D := D) (ci := 1) (v := .int (nI n)) (C := RX1) (T := TX1) (N := 9) hx hb hts iw_X1_running_X1 hown hK hP 0 rfl rfl 6 (by decide) (hts _ kw_X1_running_40) (fun _ h9 => h9) rfl dX1_running_17 ?_
    refine gx_ge (tgt := 51) hx hb dX1_running_20 (by decide) (by omega) (by omega) (fun c_20 => ?_) (fun c_20 => ?_)
    · have hkn : k = n := by omega
      subst hkn
      subst hI
      exact kk _ _ _ (hP.sub [0, 1] rfl) (hD.sub [0, 1] (by decide) rfl) hS (lv_sub hl [0, 1, 2, 3, 4] rfl)
    · refine lv_aload_n hx hb dX1_running_23 rfl (lv_at hl 0 rfl) ?_
      refine va_get (D := D) (ci := 1) (v := .ref r1) (C := RX1) (T := TX1) (N := 9) hx hb hts iw_X1_running_X1 hown hK hP 0 rfl rfl 5 (by decide) (hts _ kw_X1_running_16) (fun _ h9 => h9) rfl dX1_running_24 ?_
      refine lv_iload hx hb dX1_running_27 (lv_at hl 4 rfl) ?_
      refine lv_bipush (v := nI 8) hx hb dX1_running_29 (by decide) ?_
      refine lv_imul hx hb dX1_running_31 ?_
      refine gx_i (y := nI (k * 8)) (pk_mul k 8) ?_
      refine lv_iload_n hx hb dX1_running_32 rfl (lv_at hl 1 rfl) ?_
      refine lv_iadd hx hb dX1_running_33 ?_
      refine gx_i (y := nI (k * 8 + j)) (nI_add (k * 8) j) ?_
      refine gx_iald (q := k * 8 + j) hx hb hK hP 1 0 rfl rfl (rfl) (by omega) (by decide) dX1_running_34 ?_
      refine lv_iload_n hx hb dX1_running_35 rfl (lv_at hl 2 rfl) ?_
      refine gx_ji (wr := [(h0, .inr (1, [.ref e1, .int (nI M), .int (nI R), .int (nI V), .ref s1, .ref r1, .int (nI n), .ref d1, .ref w1])), (r1, .inl (cR, 560, .inl T))]) (gx_rS (As := [.int (T (k * 8 + j)), .int y]) (rest := []) C0 (kX1_runs l D (T (k * 8 + j)) y _) (va_cwS 2 hts gX1_running_X1_runs rfl rfl rfl (by decide +kernel) ⟨Nat.le_of_ble_eq_true rfl, Nat.le_of_ble_eq_true rfl⟩) hN hK hP hD [] [] rfl rfl (by decide) rfl rfl hl.1 rfl (Nat.le_of_ble_eq_true rfl) dX1_running_36 ⟨Nat.zero_le _, Nat.zero_le _⟩) hP hD hS hA [] [0, 1] rfl rfl (by decide) (by decide) (fun r u H locs hw hP hD hS => ?_)
      have hw : r = bI (sp_runs (T (k * 8 + j)) y) := hw
      subst hw
      have hP : va_P D vwCl [(h0, .inr (1, [.ref e1, .int (nI M), .int (nI R), .int (nI V), .ref s1, .ref r1, .int (nI n), .ref d1, .ref w1])), (r1, .inl (cR, 560, .inl T))] H := hP
      have hD : va_D A [(h0, .inr (1, [.ref e1, .int (nI M), .int (nI R), .int (nI V), .ref s1, .ref r1, .int (nI n), .ref d1, .ref w1])), (r1, .inl (cR, 560, .inl T))] := hD
      refine gx_beq (tgt := 45) hx hb dX1_running_39 (by decide) (fun c_39 => ?_) (fun c_39 => ?_)
      · refine lv_iinc (v := nI (k + 1)) (lv' := [(4, .int (nI (k + 1))), (0, .ref h0), (1, .int (nI j)), (2, .int y), (3, .int (nI a))]) hx hb dX1_running_45 hl (k := 4) rfl ((nI_succ k).symm) (by decide) rfl (fun ls hl => ?_)
        refine lv_goto (tgt := 14) hx hb dX1_running_48 (by decide) ?_
        exact ih (k + 1) a _ _ _ (by omega) (cnt_step_f (q := ruq T j y) c_39 hI) (hP.sub [0, 1] rfl) (hD.sub [0, 1] (by decide) rfl) hS (lv_sub hl [1, 2, 3, 4, 0] rfl)
      · refine lv_iinc (v := nI (a + 1)) (lv' := [(3, .int (nI (a + 1))), (0, .ref h0), (1, .int (nI j)), (2, .int y), (4, .int (nI k))]) hx hb dX1_running_42 hl (k := 3) rfl ((nI_succ a).symm) (by decide) rfl (fun ls hl => ?_)
        refine lv_iinc (v := nI (k + 1)) (lv' := [(4, .int (nI (k + 1))), (3, .int (nI (a + 1))), (0, .ref h0), (1, .int (nI j)), (2, .int y)]) hx hb dX1_running_45 hl (k := 4) rfl ((nI_succ k).symm) (by decide) rfl (fun ls hl => ?_)
        refine lv_goto (tgt := 14) hx hb dX1_running_48 (by decide) ?_
        exact ih (k + 1) (a + 1) _ _ _ (by omega) (cnt_step_t (q := ruq T j y) c_39 hI) (hP.sub [0, 1] rfl) (hD.sub [0, 1] (by decide) rfl) hS (lv_sub hl [2, 3, 4, 1, 0] rfl)
set_option maxHeartbeats 4000000 in
set_option maxRecDepth 100000 in
theorem kX1_running (l : Launch) (D : va_G) (h0 e1 s1 r1 d1 w1 M R V n : Nat) (x y : Int32) (cR : ClassId) (T : Nat → Int32) (hn : n ≤ 70) : gx_Mi l D yX1_running wsX1_running rmX1_running [.ref h0, .int x, .int y] [(cR, .int)] [(h0, .inr (1, [.ref e1, .int (nI M), .int (nI R), .int (nI V), .ref s1, .ref r1, .int (nI n), .ref d1, .ref w1])), (r1, .inl (cR, 560, .inl T))] (S := Unit) (fun r (_ : Unit) => r = if sp_in x 8 = true then nI (mx_count (ruq T x.toNatClampNeg y) n) else 0) (fun (_ : Unit) => [(h0, .inr (1, [.ref e1, .int (nI M), .int (nI R), .int (nI V), .ref s1, .ref r1, .int (nI n), .ref d1, .ref w1])), (r1, .inl (cR, 560, .inl T))]) := by
  intro sz
  refine gx_start (cc := cX1_running) (maxL := 5) (ret := (some .int)) (Qc := fun A => va_Qi (fun r (_ : Unit) => r = if sp_in x 8 = true then nI (mx_count (ruq T x.toNatClampNeg y) n) else 0) (gx_B D [(cR, .int)] A (fun (_ : Unit) => [(h0, .inr (1, [.ref e1, .int (nI M), .int (nI R), .int (nI V), .ref s1, .ref r1, .int (nI n), .ref d1, .ref w1])), (r1, .inl (cR, 560, .inl T))])) A) (by decide) rfl (Nat.le_of_ble_eq_true rfl) ?_ sz
  intro p e s m below meth c A hbody ls hl
  obtain ⟨C0, hr, hlocks, hN, hK, hP, hD, hA⟩ := hbody
  have C0 : CallFix p m c cX1_running 5 s ([.ref h0, .int x, .int y] : List Value).toArray wsX1_running RX1 := C0
  obtain ⟨hx, hb, hml, hown, hts⟩ := id C0
  have hS : va_S A s.heap s.heap [] := va_S.rf
  have hl : lv_has ls 5 [(0, .ref h0), (1, .int x), (2, .int y)] := hl
  refine lv_iload_n hx hb dX1_running_0 rfl (lv_at hl 1 rfl) ?_
  refine gx_ji (wr := [(h0, .inr (1, [.ref e1, .int (nI M), .int (nI R), .int (nI V), .ref s1, .ref r1, .int (nI n), .ref d1, .ref w1])), (r1, .inl (cR, 560, .inl T))]) (gx_rS (As := [.int x]) (rest := []) C0 (kX1_isColumn l D x _) (va_cwS 1 hts gX1_running_X1_isColumn rfl rfl rfl (by decide +kernel) ⟨Nat.le_of_ble_eq_true rfl, Nat.le_of_ble_eq_true rfl⟩) hN hK hP hD [] [] rfl rfl (by decide) rfl rfl hl.1 rfl (Nat.le_of_ble_eq_true rfl) dX1_running_1 ⟨Nat.zero_le _, Nat.zero_le _⟩) hP hD hS hA [] [0, 1] rfl rfl (by decide) (by decide) (fun r u H locs hw hP hD hS => ?_)
  have hw : r = bI (sp_in x 8) := hw
  subst hw
  have hP : va_P D vwCl [(h0, .inr (1, [.ref e1, .int (nI M), .int (nI R), .int (nI V), .ref s1, .ref r1, .int (nI n), .ref d1, .ref w1])), (r1, .inl (cR, 560, .inl T))] H := hP
  have hD : va_D A [(h0, .inr (1, [.ref e1, .int (nI M), .int (nI R), .int (nI V), .ref s1, .ref r1, .int (nI n), .ref d1, .ref w1])), (r1, .inl (cR, 560, .inl T))] := hD
  refine gx_bne (tgt := 9) hx hb dX1_running_4 (by decide) (fun c_4 => ?_) (fun c_4 => ?_)
  · have hz := c_4
    obtain ⟨j, hj, rfl⟩ := sp_in_t (by decide) c_4
    refine lv_iconst (v := nI 0) hx hb dX1_running_9 (by decide) ?_
    refine lv_istore_n (lv' := [(3, .int (nI 0)), (0, .ref h0), (1, .int (nI j)), (2, .int y)]) hx hb dX1_running_10 rfl hl (by decide) rfl (fun ls hl => ?_)
    refine lv_iconst (v := nI 0) hx hb dX1_running_11 (by decide) ?_
    refine lv_istore (lv' := [(4, .int (nI 0)), (3, .int (nI 0)), (0, .ref h0), (1, .int (nI j)), (2, .int y)]) hx hb dX1_running_12 hl (by decide) rfl (fun ls hl => ?_)
    refine lpX1_running C0 hN hA hn hj hK (fun H locs ls hP hD hS hl => ?_) (n + 1) 0 0 _ _ _ (by omega) rfl (hP.sub [0, 1] rfl) (hD.sub [0, 1] (by decide) rfl) hS (lv_sub hl [2, 3, 4, 1, 0] rfl)
    refine lv_iload_n hx hb dX1_running_51 rfl (lv_at hl 3 rfl) ?_
    exact gx_reti hx hb hr hlocks () (by rw [hz, nI_clamp (by omega)]; rfl) hK (hP.sub [0, 1] rfl) (hD.sub [0, 1] (by decide) rfl) hS dX1_running_52
  · refine lv_iconst (v := 0) hx hb dX1_running_7 (by decide) ?_
    exact gx_reti hx hb hr hlocks () (by rw [c_4]; rfl) hK (hP.sub [0, 1] rfl) (hD.sub [0, 1] (by decide) rfl) hS dX1_running_8
abbrev rmJ6_bitCount_0f7a4 : Room := { frames := 0, cells := 0, slots := 0, locals := 0 }
set_option maxHeartbeats 4000000 in
set_option maxRecDepth 100000 in
theorem kJ6_bitCount_0f7a4 (l : Launch) (D : va_G) (sv : Nat) (hsv : sv < 256) : gx_Mi l D yJ6_bitCount_0f7a4 wsJ6_bitCount_0f7a4 rmJ6_bitCount_0f7a4 [.int (nI sv)] [] [] (S := Unit) (fun r (_ : Unit) => r = nI (mx_cnt sv 8)) (fun (_ : Unit) => []) := by
  intro sz
  refine gx_start (cc := cJ6_bitCount_0f7a4) (maxL := 1) (ret := (some .int)) (Qc := fun A => va_Qi (fun r (_ : Unit) => r = nI (mx_cnt sv 8)) (gx_B D [] A (fun (_ : Unit) => [])) A) (by decide) rfl (Nat.le_of_ble_eq_true rfl) ?_ sz
  intro p e s m below meth c A hbody ls hl
  obtain ⟨C0, hr, hlocks, hN, hK, hP, hD, hA⟩ := hbody
  have C0 : CallFix p m c cJ6_bitCount_0f7a4 1 s ([.int (nI sv)] : List Value).toArray wsJ6_bitCount_0f7a4 RJ6 := C0
  obtain ⟨hx, hb, hml, hown, hts⟩ := id C0
  have hS : va_S A s.heap s.heap [] := va_S.rf
  have hl : lv_has ls 1 [(0, .int (nI sv))] := hl
  refine lv_iload_n hx hb dJ6_bitCount_0f7a4_0 rfl (lv_at hl 0 rfl) ?_
  refine lv_iload_n hx hb dJ6_bitCount_0f7a4_1 rfl (lv_at hl 0 rfl) ?_
  refine lv_iconst (v := nI 1) hx hb dJ6_bitCount_0f7a4_2 (by decide) ?_
  refine lv_iushr (v := ((nI sv).toUInt32 >>> ((nI 1).toUInt32 &&& Int32.toUInt32 31)).toInt32) hx hb dJ6_bitCount_0f7a4_3 rfl ?_
  refine lv_ldcw (v := 1431655765) hx hb hown (hts _ (show Cond.constant RJ6 265 (1431655765) ∈ wsJ6_bitCount_0f7a4 by decide +kernel)) dJ6_bitCount_0f7a4_4 ?_
  refine lv_iand hx hb dJ6_bitCount_0f7a4_7 ?_
  refine lv_isub hx hb dJ6_bitCount_0f7a4_8 ?_
  refine lv_topi (fun y1 e_y1 => ?_)
  refine lv_istore_n (lv' := [(0, .int y1)]) hx hb dJ6_bitCount_0f7a4_9 rfl hl (by decide) rfl (fun ls hl => ?_)
  refine lv_iload_n hx hb dJ6_bitCount_0f7a4_10 rfl (lv_at hl 0 rfl) ?_
  refine lv_ldcw (v := 858993459) hx hb hown (hts _ (show Cond.constant RJ6 266 (858993459) ∈ wsJ6_bitCount_0f7a4 by decide +kernel)) dJ6_bitCount_0f7a4_11 ?_
  refine lv_iand hx hb dJ6_bitCount_0f7a4_14 ?_
  refine lv_iload_n hx hb dJ6_bitCount_0f7a4_15 rfl (lv_at hl 0 rfl) ?_
  refine lv_iconst (v := nI 2) hx hb dJ6_bitCount_0f7a4_16 (by decide) ?_
  refine lv_iushr (v := (y1.toUInt32 >>> ((nI 2).toUInt32 &&& Int32.toUInt32 31)).toInt32) hx hb dJ6_bitCount_0f7a4_17 rfl ?_
  refine lv_ldcw (v := 858993459) hx hb hown (hts _ (show Cond.constant RJ6 266 (858993459) ∈ wsJ6_bitCount_0f7a4 by decide +kernel)) dJ6_bitCount_0f7a4_18 ?_
  refine lv_iand hx hb dJ6_bitCount_0f7a4_21 ?_
  refine lv_iadd hx hb dJ6_bitCount_0f7a4_22 ?_
  refine lv_topi (fun y2 e_y2 => ?_)
  refine lv_istore_n (lv' := [(0, .int y2)]) hx hb dJ6_bitCount_0f7a4_23 rfl hl (by decide) rfl (fun ls hl => ?_)
  refine lv_iload_n hx hb dJ6_bitCount_0f7a4_24 rfl (lv_at hl 0 rfl) ?_
  refine lv_iload_n hx hb dJ6_bitCount_0f7a4_25 rfl (lv_at hl 0 rfl) ?_
  refine lv_iconst (v := nI 4) hx hb dJ6_bitCount_0f7a4_26 (by decide) ?_
  refine lv_iushr (v := (y2.toUInt32 >>> ((nI 4).toUInt32 &&& Int32.toUInt32 31)).toInt32) hx hb dJ6_bitCount_0f7a4_27 rfl ?_
  refine lv_iadd hx hb dJ6_bitCount_0f7a4_28 ?_
  refine lv_ldcw (v := 252645135) hx hb hown (hts _ (show Cond.constant RJ6 267 (252645135) ∈ wsJ6_bitCount_0f7a4 by decide +kernel)) dJ6_bitCount_0f7a4_29 ?_
  refine lv_iand hx hb dJ6_bitCount_0f7a4_32 ?_
  refine lv_topi (fun y3 e_y3 => ?_)
  refine lv_istore_n (lv' := [(0, .int y3)]) hx hb dJ6_bitCount_0f7a4_33 rfl hl (by decide) rfl (fun ls hl => ?_)
  refine lv_iload_n hx hb dJ6_bitCount_0f7a4_34 rfl (lv_at hl 0 rfl) ?_
  refine lv_iload_n hx hb dJ6_bitCount_0f7a4_35 rfl (lv_at hl 0 rfl) ?_
  refine lv_bipush (v := nI 8) hx hb dJ6_bitCount_0f7a4_36 (by decide) ?_
  refine lv_iushr (v := (y3.toUInt32 >>> ((nI 8).toUInt32 &&& Int32.toUInt32 31)).toInt32) hx hb dJ6_bitCount_0f7a4_38 rfl ?_
  refine lv_iadd hx hb dJ6_bitCount_0f7a4_39 ?_
  refine lv_topi (fun y4 e_y4 => ?_)
  refine lv_istore_n (lv' := [(0, .int y4)]) hx hb dJ6_bitCount_0f7a4_40 rfl hl (by decide) rfl (fun ls hl => ?_)
  refine lv_iload_n hx hb dJ6_bitCount_0f7a4_41 rfl (lv_at hl 0 rfl) ?_
  refine lv_iload_n hx hb dJ6_bitCount_0f7a4_42 rfl (lv_at hl 0 rfl) ?_
  refine lv_bipush (v := nI 16) hx hb dJ6_bitCount_0f7a4_43 (by decide) ?_
  refine lv_iushr (v := (y4.toUInt32 >>> ((nI 16).toUInt32 &&& Int32.toUInt32 31)).toInt32) hx hb dJ6_bitCount_0f7a4_45 rfl ?_
  refine lv_iadd hx hb dJ6_bitCount_0f7a4_46 ?_
  refine lv_topi (fun y5 e_y5 => ?_)
  refine lv_istore_n (lv' := [(0, .int y5)]) hx hb dJ6_bitCount_0f7a4_47 rfl hl (by decide) rfl (fun ls hl => ?_)
  refine lv_iload_n hx hb dJ6_bitCount_0f7a4_48 rfl (lv_at hl 0 rfl) ?_
  refine lv_bipush (v := nI 63) hx hb dJ6_bitCount_0f7a4_49 (by decide) ?_
  refine lv_iand hx hb dJ6_bitCount_0f7a4_51 ?_
  exact gx_reti hx hb hr hlocks () (by rw [e_y5, e_y4, e_y3, e_y2, e_y1]; exact bc_ok sv hsv) hK (hP.sub [] rfl) (hD.sub [] (by decide) rfl) hS dJ6_bitCount_0f7a4_52
abbrev rmX1_shortest : Room := { frames := 1, cells := 0, slots := 0, locals := 40 }
theorem iw_X1_shortest_X1 : ∀ w ∈ wsX10, w ∈ wsX1_shortest := by decide +kernel
theorem kw_X1_shortest_13 : Cond.fieldLink RX1 13 "FluxModes" "listedSupports" "[I" ∈ wsX1_shortest := by decide +kernel
theorem kw_X1_shortest_40 : Cond.fieldLink RX1 40 "FluxModes" "listed" "I" ∈ wsX1_shortest := by decide +kernel
set_option maxHeartbeats 4000000 in
set_option maxRecDepth 100000 in
theorem lpX1_shortest {p : Program} {l : Launch} {e : Env} {s : State} {m : MethodId} {args : Array Value} {below : List Frame} {meth : Method} {c : Code} {Q : State → Prop} {D : va_G} {A : Nat → Prop} {H0 : Heap} (C0 : CallFix p m c cX1_shortest 5 s args wsX1_shortest RX1) (hN : gx_N s) (hA : ∀ q : Nat, H0.size ≤ q → A q) {h0 e1 s1 r1 d1 w1 M R V n j : Nat} {cS : ClassId} {U : Nat → Int32} {sf : Nat → Nat} (hn : n ≤ 70) (hU : ∀ k, k < n → sf k < 256 ∧ U k = nI (sf k)) (hj : j < 8) (hK : va_K D vwCl [(cS, .int)] s) (kk : ∀ (H : Heap) (locs : List Loc) (ls : Array Slot), va_P D vwCl [(h0, .inr (1, [.ref e1, .int (nI M), .int (nI R), .int (nI V), .ref s1, .ref r1, .int (nI n), .ref d1, .ref w1])), (s1, .inl (cS, 70, .inl U))] H → va_D A [(h0, .inr (1, [.ref e1, .int (nI M), .int (nI R), .int (nI V), .ref s1, .ref r1, .int (nI n), .ref d1, .ref w1])), (s1, .inl (cS, 70, .inl U))] → va_S A H0 H locs → lv_has ls 5 [(0, .ref h0), (1, .int (nI j)), (2, .int (nI (shs sf j n))), (3, .int (nI n))] → W p l e rmX1_shortest s m args below meth c H locs 0 0 Q (F0 m 67 ls [])) : ∀ (n_ : Nat) (k a : Nat) (H : Heap) (locs : List Loc) (ls : Array Slot), (k ≤ n ∧ n < k + n_) → (a = shs sf j k) → va_P D vwCl [(h0, .inr (1, [.ref e1, .int (nI M), .int (nI R), .int (nI V), .ref s1, .ref r1, .int (nI n), .ref d1, .ref w1])), (s1, .inl (cS, 70, .inl U))] H → va_D A [(h0, .inr (1, [.ref e1, .int (nI M), .int (nI R), .int (nI V), .ref s1, .ref r1, .int (nI n), .ref d1, .ref w1])), (s1, .inl (cS, 70, .inl U))] → va_S A H0 H locs → lv_has ls 5 [(0, .ref h0), (1, .int (nI j)), (2, .int (nI a)), (3, .int (nI k))] → W p l e rmX1_shortest s m args below meth c H locs 0 0 Q (F0 m 13 ls []) := by
  obtain ⟨hx, hb, hml, hown, hts⟩ := id C0
  intro n_
  induction n_ with
  | zero =>
    intro k a H locs ls hm
    exact absurd hm (by omega)
  | succ n_ ih =>
    intro k a H locs ls hm hI hP hD hS hl
    refine lv_iload_n hx hb dX1_shortest_13 rfl (lv_at hl 3 rfl) ?_
    refine lv_aload_n hx hb dX1_shortest_14 rfl (lv_at hl 0 rfl) ?_
    refine va_get (D := D) (ci := 1) (v := .int (nI n)) (C := RX1) (T := TX1) (N := 9) hx hb hts iw_X1_shortest_X1 hown hK hP 0 rfl rfl 6 (by decide) (hts _ kw_X1_shortest_40) (fun _ h9 => h9) rfl dX1_shortest_15 ?_
    refine gx_ge (tgt := 67) hx hb dX1_shortest_18 (by decide) (by omega) (by omega) (fun c_18 => ?_) (fun c_18 => ?_)
    · have hkn : k = n := by omega
      subst hkn
      subst hI
      exact kk _ _ _ (hP.sub [0, 1] rfl) (hD.sub [0, 1] (by decide) rfl) hS (lv_sub hl [0, 1, 2, 3] rfl)
    · obtain ⟨hs8, hs9⟩ := hU k c_18
      have ha8 := shs_le sf j k
      rw [← hI] at ha8
      refine lv_aload_n hx hb dX1_shortest_21 rfl (lv_at hl 0 rfl) ?_
      refine va_get (D := D) (ci := 1) (v := .ref s1) (C := RX1) (T := TX1) (N := 9) hx hb hts iw_X1_shortest_X1 hown hK hP 0 rfl rfl 4 (by decide) (hts _ kw_X1_shortest_13) (fun _ h9 => h9) rfl dX1_shortest_22 ?_
      refine lv_iload_n hx hb dX1_shortest_25 rfl (lv_at hl 3 rfl) ?_
      refine gx_iald (q := k) hx hb hK hP 1 0 rfl rfl (rfl) (by omega) (by decide) dX1_shortest_26 ?_
      refine gx_i (y := nI (sf k)) (hs9) ?_
      refine lv_iload_n hx hb dX1_shortest_27 rfl (lv_at hl 1 rfl) ?_
      refine gx_ji (wr := [(h0, .inr (1, [.ref e1, .int (nI M), .int (nI R), .int (nI V), .ref s1, .ref r1, .int (nI n), .ref d1, .ref w1])), (s1, .inl (cS, 70, .inl U))]) (gx_rS (As := [.int (nI (sf k)), .int (nI j)]) (rest := []) C0 (kX1_has l D (sf k) j hs8 hj _) (va_cwS 2 hts gX1_shortest_X1_has rfl rfl rfl (by decide +kernel) ⟨Nat.le_of_ble_eq_true rfl, Nat.le_of_ble_eq_true rfl⟩) hN hK hP hD [] [] rfl rfl (by decide) rfl rfl hl.1 rfl (Nat.le_of_ble_eq_true rfl) dX1_shortest_28 ⟨Nat.zero_le _, Nat.zero_le _⟩) hP hD hS hA [] [0, 1] rfl rfl (by decide) (by decide) (fun r u H locs hw hP hD hS => ?_)
      have hw : r = bI ((sf k).testBit j) := hw
      subst hw
      have hP : va_P D vwCl [(h0, .inr (1, [.ref e1, .int (nI M), .int (nI R), .int (nI V), .ref s1, .ref r1, .int (nI n), .ref d1, .ref w1])), (s1, .inl (cS, 70, .inl U))] H := hP
      have hD : va_D A [(h0, .inr (1, [.ref e1, .int (nI M), .int (nI R), .int (nI V), .ref s1, .ref r1, .int (nI n), .ref d1, .ref w1])), (s1, .inl (cS, 70, .inl U))] := hD
      refine gx_beq (tgt := 61) hx hb dX1_shortest_31 (by decide) (fun c_31 => ?_) (fun c_31 => ?_)
      · refine lv_iinc (v := nI (k + 1)) (lv' := [(3, .int (nI (k + 1))), (0, .ref h0), (1, .int (nI j)), (2, .int (nI a))]) hx hb dX1_shortest_61 hl (k := 3) rfl ((nI_succ k).symm) (by decide) rfl (fun ls hl => ?_)
        refine lv_goto (tgt := 13) hx hb dX1_shortest_64 (by decide) ?_
        exact ih (k + 1) a _ _ _ (by omega) (by rw [shs_out c_31]; exact hI) (hP.sub [0, 1] rfl) (hD.sub [0, 1] (by decide) rfl) hS (lv_sub hl [1, 2, 3, 0] rfl)
      · refine lv_aload_n hx hb dX1_shortest_34 rfl (lv_at hl 0 rfl) ?_
        refine va_get (D := D) (ci := 1) (v := .ref s1) (C := RX1) (T := TX1) (N := 9) hx hb hts iw_X1_shortest_X1 hown hK hP 0 rfl rfl 4 (by decide) (hts _ kw_X1_shortest_13) (fun _ h9 => h9) rfl dX1_shortest_35 ?_
        refine lv_iload_n hx hb dX1_shortest_38 rfl (lv_at hl 3 rfl) ?_
        refine gx_iald (q := k) hx hb hK hP 1 0 rfl rfl (rfl) (by omega) (by decide) dX1_shortest_39 ?_
        refine gx_i (y := nI (sf k)) (hs9) ?_
        refine gx_ji (wr := [(h0, .inr (1, [.ref e1, .int (nI M), .int (nI R), .int (nI V), .ref s1, .ref r1, .int (nI n), .ref d1, .ref w1])), (s1, .inl (cS, 70, .inl U))]) (gx_rS (As := [.int (nI (sf k))]) (rest := []) C0 (kJ6_bitCount_0f7a4 l D (sf k) hs8 _) (va_cwS 1 hts gX1_shortest_J6_bitCount_0f7a4 rfl rfl rfl (by decide +kernel) ⟨Nat.le_of_ble_eq_true rfl, Nat.le_of_ble_eq_true rfl⟩) hN hK hP hD [] [] rfl rfl (by decide) rfl rfl hl.1 rfl (Nat.le_of_ble_eq_true rfl) dX1_shortest_40 ⟨Nat.zero_le _, Nat.zero_le _⟩) hP hD hS hA [] [0, 1] rfl rfl (by decide) (by decide) (fun r u H locs hw hP hD hS => ?_)
        have hw : r = nI (mx_cnt (sf k) 8) := hw
        subst hw
        have hP : va_P D vwCl [(h0, .inr (1, [.ref e1, .int (nI M), .int (nI R), .int (nI V), .ref s1, .ref r1, .int (nI n), .ref d1, .ref w1])), (s1, .inl (cS, 70, .inl U))] H := hP
        have hD : va_D A [(h0, .inr (1, [.ref e1, .int (nI M), .int (nI R), .int (nI V), .ref s1, .ref r1, .int (nI n), .ref d1, .ref w1])), (s1, .inl (cS, 70, .inl U))] := hD
        refine lv_istore (lv' := [(4, .int (nI (mx_cnt (sf k) 8))), (0, .ref h0), (1, .int (nI j)), (2, .int (nI a)), (3, .int (nI k))]) hx hb dX1_shortest_43 hl (by decide) rfl (fun ls hl => ?_)
        refine lv_iload_n hx hb dX1_shortest_45 rfl (lv_at hl 3 rfl) ?_
        refine lv_if_ne (tgt := 54) hx hb dX1_shortest_46 (by decide) (fun c_46 => ?_) (fun c_46 => ?_)
        · have hq0 : ¬ shs sf j k = 0 := fun q => c_46 (by rw [hI, q]; exact nI_0)
          refine lv_iload_n hx hb dX1_shortest_54 rfl (lv_at hl 3 rfl) ?_
          refine lv_iload hx hb dX1_shortest_55 (lv_at hl 0 rfl) ?_
          refine va_mmin hx hb (by rw [hml]; exact hl.1.symm) hown (hts _ (show Cond.methodLink RX1 79 Lib.Math.min.name ∈ wsX1_shortest by decide +kernel)) (hts _ (show Cond.static Lib.Math.min.name ∈ wsX1_shortest by decide +kernel)) (hts _ (show Cond.initialized "java/lang/Math" ∈ wsX1_shortest by decide +kernel)) (hts _ (show Cond.code Lib.Math.min.name Lib.Math.min.code 2 (some .int) ∈ wsX1_shortest by decide +kernel)) (Nat.le_of_ble_eq_true rfl) (Nat.le_of_ble_eq_true rfl) (Nat.zero_le _) (Nat.zero_le _) dX1_shortest_57 ?_
          refine gx_i (y := nI (shs sf j (k + 1))) (by rw [hI]; exact shs_m c_31 hq0) ?_
          refine lv_istore_n (lv' := [(2, .int (nI (shs sf j (k + 1)))), (4, .int (nI (mx_cnt (sf k) 8))), (0, .ref h0), (1, .int (nI j)), (3, .int (nI k))]) hx hb dX1_shortest_60 rfl hl (by decide) rfl (fun ls hl => ?_)
          refine lv_iinc (v := nI (k + 1)) (lv' := [(3, .int (nI (k + 1))), (2, .int (nI (shs sf j (k + 1)))), (4, .int (nI (mx_cnt (sf k) 8))), (0, .ref h0), (1, .int (nI j))]) hx hb dX1_shortest_61 hl (k := 4) rfl ((nI_succ k).symm) (by decide) rfl (fun ls hl => ?_)
          refine lv_goto (tgt := 13) hx hb dX1_shortest_64 (by decide) ?_
          exact ih (k + 1) (shs sf j (k + 1)) _ _ _ (by omega) rfl (hP.sub [0, 1] rfl) (hD.sub [0, 1] (by decide) rfl) hS (lv_sub hl [3, 4, 1, 0] rfl)
        · have hq0 : shs sf j k = 0 := by rw [← hI]; exact (nI_eq (by omega) (by omega)).mp (c_46.trans nI_0.symm)
          refine lv_iload hx hb dX1_shortest_49 (lv_at hl 0 rfl) ?_
          refine lv_goto (tgt := 60) hx hb dX1_shortest_51 (by decide) ?_
          refine lv_istore_n (lv' := [(2, .int (nI (mx_cnt (sf k) 8))), (4, .int (nI (mx_cnt (sf k) 8))), (0, .ref h0), (1, .int (nI j)), (3, .int (nI k))]) hx hb dX1_shortest_60 rfl hl (by decide) rfl (fun ls hl => ?_)
          refine lv_iinc (v := nI (k + 1)) (lv' := [(3, .int (nI (k + 1))), (2, .int (nI (mx_cnt (sf k) 8))), (4, .int (nI (mx_cnt (sf k) 8))), (0, .ref h0), (1, .int (nI j))]) hx hb dX1_shortest_61 hl (k := 4) rfl ((nI_succ k).symm) (by decide) rfl (fun ls hl => ?_)
          refine lv_goto (tgt := 13) hx hb dX1_shortest_64 (by decide) ?_
          exact ih (k + 1) (mx_cnt (sf k) 8) _ _ _ (by omega) (shs_0 c_31 hq0).symm (hP.sub [0, 1] rfl) (hD.sub [0, 1] (by decide) rfl) hS (lv_sub hl [3, 4, 1, 0] rfl)
set_option maxHeartbeats 4000000 in
set_option maxRecDepth 100000 in
theorem kX1_shortest (l : Launch) (D : va_G) (h0 e1 s1 r1 d1 w1 M R V n : Nat) (x : Int32) (cS : ClassId) (U : Nat → Int32) (sf : Nat → Nat) (hn : n ≤ 70) (hU : ∀ k, k < n → sf k < 256 ∧ U k = nI (sf k)) : gx_Mi l D yX1_shortest wsX1_shortest rmX1_shortest [.ref h0, .int x] [(cS, .int)] [(h0, .inr (1, [.ref e1, .int (nI M), .int (nI R), .int (nI V), .ref s1, .ref r1, .int (nI n), .ref d1, .ref w1])), (s1, .inl (cS, 70, .inl U))] (S := Unit) (fun r (_ : Unit) => r = if sp_in x 8 = true then nI (shs sf x.toNatClampNeg n) else 0) (fun (_ : Unit) => [(h0, .inr (1, [.ref e1, .int (nI M), .int (nI R), .int (nI V), .ref s1, .ref r1, .int (nI n), .ref d1, .ref w1])), (s1, .inl (cS, 70, .inl U))]) := by
  intro sz
  refine gx_start (cc := cX1_shortest) (maxL := 5) (ret := (some .int)) (Qc := fun A => va_Qi (fun r (_ : Unit) => r = if sp_in x 8 = true then nI (shs sf x.toNatClampNeg n) else 0) (gx_B D [(cS, .int)] A (fun (_ : Unit) => [(h0, .inr (1, [.ref e1, .int (nI M), .int (nI R), .int (nI V), .ref s1, .ref r1, .int (nI n), .ref d1, .ref w1])), (s1, .inl (cS, 70, .inl U))])) A) (by decide) rfl (Nat.le_of_ble_eq_true rfl) ?_ sz
  intro p e s m below meth c A hbody ls hl
  obtain ⟨C0, hr, hlocks, hN, hK, hP, hD, hA⟩ := hbody
  have C0 : CallFix p m c cX1_shortest 5 s ([.ref h0, .int x] : List Value).toArray wsX1_shortest RX1 := C0
  obtain ⟨hx, hb, hml, hown, hts⟩ := id C0
  have hS : va_S A s.heap s.heap [] := va_S.rf
  have hl : lv_has ls 5 [(0, .ref h0), (1, .int x)] := hl
  refine lv_iload_n hx hb dX1_shortest_0 rfl (lv_at hl 1 rfl) ?_
  refine gx_ji (wr := [(h0, .inr (1, [.ref e1, .int (nI M), .int (nI R), .int (nI V), .ref s1, .ref r1, .int (nI n), .ref d1, .ref w1])), (s1, .inl (cS, 70, .inl U))]) (gx_rS (As := [.int x]) (rest := []) C0 (kX1_isColumn l D x _) (va_cwS 1 hts gX1_shortest_X1_isColumn rfl rfl rfl (by decide +kernel) ⟨Nat.le_of_ble_eq_true rfl, Nat.le_of_ble_eq_true rfl⟩) hN hK hP hD [] [] rfl rfl (by decide) rfl rfl hl.1 rfl (Nat.le_of_ble_eq_true rfl) dX1_shortest_1 ⟨Nat.zero_le _, Nat.zero_le _⟩) hP hD hS hA [] [0, 1] rfl rfl (by decide) (by decide) (fun r u H locs hw hP hD hS => ?_)
  have hw : r = bI (sp_in x 8) := hw
  subst hw
  have hP : va_P D vwCl [(h0, .inr (1, [.ref e1, .int (nI M), .int (nI R), .int (nI V), .ref s1, .ref r1, .int (nI n), .ref d1, .ref w1])), (s1, .inl (cS, 70, .inl U))] H := hP
  have hD : va_D A [(h0, .inr (1, [.ref e1, .int (nI M), .int (nI R), .int (nI V), .ref s1, .ref r1, .int (nI n), .ref d1, .ref w1])), (s1, .inl (cS, 70, .inl U))] := hD
  refine gx_bne (tgt := 9) hx hb dX1_shortest_4 (by decide) (fun c_4 => ?_) (fun c_4 => ?_)
  · have hz := c_4
    obtain ⟨j, hj, rfl⟩ := sp_in_t (by decide) c_4
    refine lv_iconst (v := nI 0) hx hb dX1_shortest_9 (by decide) ?_
    refine lv_istore_n (lv' := [(2, .int (nI 0)), (0, .ref h0), (1, .int (nI j))]) hx hb dX1_shortest_10 rfl hl (by decide) rfl (fun ls hl => ?_)
    refine lv_iconst (v := nI 0) hx hb dX1_shortest_11 (by decide) ?_
    refine lv_istore_n (lv' := [(3, .int (nI 0)), (2, .int (nI 0)), (0, .ref h0), (1, .int (nI j))]) hx hb dX1_shortest_12 rfl hl (by decide) rfl (fun ls hl => ?_)
    refine lpX1_shortest C0 hN hA hn hU hj hK (fun H locs ls hP hD hS hl => ?_) (n + 1) 0 0 _ _ _ (by omega) rfl (hP.sub [0, 1] rfl) (hD.sub [0, 1] (by decide) rfl) hS (lv_sub hl [2, 3, 1, 0] rfl)
    refine lv_iload_n hx hb dX1_shortest_67 rfl (lv_at hl 2 rfl) ?_
    exact gx_reti hx hb hr hlocks () (by rw [hz, nI_clamp (by omega)]; rfl) hK (hP.sub [0, 1] rfl) (hD.sub [0, 1] (by decide) rfl) hS dX1_shortest_68
  · refine lv_iconst (v := 0) hx hb dX1_shortest_7 (by decide) ?_
    exact gx_reti hx hb hr hlocks () (by rw [c_4]; rfl) hK (hP.sub [0, 1] rfl) (hD.sub [0, 1] (by decide) rfl) hS dX1_shortest_8
