abbrev rmX1_isColumn : Room := { frames := 0, cells := 0, slots := 0, locals := 0 }
set_option maxHeartbeats 4000000 in
set_option maxRecDepth 100000 in
theorem kX1_isColumn (l : Launch) (D : va_G) (x : Int32)  : gx_Mi l D yX1_isColumn wsX1_isColumn rmX1_isColumn [.int x] [] [] (S := Unit) (fun r (_ : Unit) => r = bI (sp_in x 8)) (fun (_ : Unit) => []) := by
  intro sz
  refine gx_start (cc := cX1_isColumn) (maxL := 1) (ret := (some .boolean)) (Qc := fun A => va_Qi (fun r (_ : Unit) => r = bI (sp_in x 8)) (gx_B D [] A (fun (_ : Unit) => [])) A) (by decide) rfl (Nat.le_of_ble_eq_true rfl) ?_ sz
  intro p e s m below meth c A hbody ls hl
  obtain ⟨C0, hr, hlocks, hN, hK, hP, hD, hA⟩ := hbody
  have C0 : CallFix p m c cX1_isColumn 1 s ([.int x] : List Value).toArray wsX1_isColumn RX1 := C0
  obtain ⟨hx, hb, hml, hown, hts⟩ := id C0
  have hS : va_S A s.heap s.heap [] := va_S.rf
  have hl : lv_has ls 1 [(0, .int x)] := hl
  refine lv_iload_n hx hb dX1_isColumn_0 rfl (lv_at hl 0 rfl) ?_
  refine lv_if_lt (tgt := 14) hx hb dX1_isColumn_1 (by decide) (fun c_1 => ?_) (fun c_1 => ?_)
  · have hz := sp_in_lo (n := 8) c_1
    refine lv_iconst (v := nI 0) hx hb dX1_isColumn_14 (by decide) ?_
    exact gx_retz hx hb hr hlocks false (by decide) () (by rw [hz]; decide) hK (hP.sub [] rfl) (hD.sub [] (by decide) rfl) hS dX1_isColumn_15
  · refine lv_iload_n hx hb dX1_isColumn_4 rfl (lv_at hl 0 rfl) ?_
    refine lv_bipush (v := nI 8) hx hb dX1_isColumn_5 (by decide) ?_
    refine lv_icmp_ge (tgt := 14) hx hb dX1_isColumn_7 (by decide) (fun c_7 => ?_) (fun c_7 => ?_)
    · have hz := sp_in_hi (n := 8) (by decide) c_7
      refine lv_iconst (v := nI 0) hx hb dX1_isColumn_14 (by decide) ?_
      exact gx_retz hx hb hr hlocks false (by decide) () (by rw [hz]; decide) hK (hP.sub [] rfl) (hD.sub [] (by decide) rfl) hS dX1_isColumn_15
    · refine lv_iconst (v := nI 1) hx hb dX1_isColumn_10 (by decide) ?_
      refine lv_goto (tgt := 15) hx hb dX1_isColumn_11 (by decide) ?_
      exact gx_retz hx hb hr hlocks true (by decide) () (by rw [sp_in_ok (n := 8) (by decide) c_1 c_7]; decide) hK (hP.sub [] rfl) (hD.sub [] (by decide) rfl) hS dX1_isColumn_15
abbrev rmX1_has : Room := { frames := 0, cells := 0, slots := 0, locals := 0 }
set_option maxHeartbeats 4000000 in
set_option maxRecDepth 100000 in
theorem kX1_has (l : Launch) (D : va_G) (S j : Nat) (hs8 : S < 256) (hj : j < 8) : gx_Mi l D yX1_has wsX1_has rmX1_has [.int (nI S), .int (nI j)] [] [] (S := Unit) (fun r (_ : Unit) => r = bI (S.testBit j)) (fun (_ : Unit) => []) := by
  intro sz
  refine gx_start (cc := cX1_has) (maxL := 2) (ret := (some .boolean)) (Qc := fun A => va_Qi (fun r (_ : Unit) => r = bI (S.testBit j)) (gx_B D [] A (fun (_ : Unit) => [])) A) (by decide) rfl (Nat.le_of_ble_eq_true rfl) ?_ sz
  intro p e s m below meth c A hbody ls hl
  obtain ⟨C0, hr, hlocks, hN, hK, hP, hD, hA⟩ := hbody
  have C0 : CallFix p m c cX1_has 2 s ([.int (nI S), .int (nI j)] : List Value).toArray wsX1_has RX1 := C0
  obtain ⟨hx, hb, hml, hown, hts⟩ := id C0
  have hS : va_S A s.heap s.heap [] := va_S.rf
  have hl : lv_has ls 2 [(0, .int (nI S)), (1, .int (nI j))] := hl
  refine lv_iload_n hx hb dX1_has_0 rfl (lv_at hl 0 rfl) ?_
  refine lv_iload_n hx hb dX1_has_1 rfl (lv_at hl 1 rfl) ?_
  refine lv_ishr hx hb dX1_has_2 ?_
  refine lv_iconst (v := nI 1) hx hb dX1_has_3 (by decide) ?_
  refine lv_iand hx hb dX1_has_4 ?_
  refine gx_i (y := bI (S.testBit j)) (sp_has S hs8 j hj) ?_
  refine gx_beq (tgt := 12) hx hb dX1_has_5 (by decide) (fun c_5 => ?_) (fun c_5 => ?_)
  · have hz := c_5
    refine lv_iconst (v := nI 0) hx hb dX1_has_12 (by decide) ?_
    exact gx_retz hx hb hr hlocks false (by decide) () (by rw [hz]; decide) hK (hP.sub [] rfl) (hD.sub [] (by decide) rfl) hS dX1_has_13
  · have hz := c_5
    refine lv_iconst (v := nI 1) hx hb dX1_has_8 (by decide) ?_
    refine lv_goto (tgt := 13) hx hb dX1_has_9 (by decide) ?_
    exact gx_retz hx hb hr hlocks true (by decide) () (by rw [hz]; decide) hK (hP.sub [] rfl) (hD.sub [] (by decide) rfl) hS dX1_has_13
abbrev rmX1_runs : Room := { frames := 0, cells := 0, slots := 0, locals := 0 }
set_option maxHeartbeats 4000000 in
set_option maxRecDepth 100000 in
theorem kX1_runs (l : Launch) (D : va_G) (x y : Int32)  : gx_Mi l D yX1_runs wsX1_runs rmX1_runs [.int x, .int y] [] [] (S := Unit) (fun r (_ : Unit) => r = bI (sp_runs x y)) (fun (_ : Unit) => []) := by
  intro sz
  refine gx_start (cc := cX1_runs) (maxL := 2) (ret := (some .boolean)) (Qc := fun A => va_Qi (fun r (_ : Unit) => r = bI (sp_runs x y)) (gx_B D [] A (fun (_ : Unit) => [])) A) (by decide) rfl (Nat.le_of_ble_eq_true rfl) ?_ sz
  intro p e s m below meth c A hbody ls hl
  obtain ⟨C0, hr, hlocks, hN, hK, hP, hD, hA⟩ := hbody
  have C0 : CallFix p m c cX1_runs 2 s ([.int x, .int y] : List Value).toArray wsX1_runs RX1 := C0
  obtain ⟨hx, hb, hml, hown, hts⟩ := id C0
  have hS : va_S A s.heap s.heap [] := va_S.rf
  have hl : lv_has ls 2 [(0, .int x), (1, .int y)] := hl
  refine lv_iload_n hx hb dX1_runs_0 rfl (lv_at hl 1 rfl) ?_
  refine lv_iconst (v := 1) hx hb dX1_runs_1 (by decide) ?_
  refine lv_icmp_ne (tgt := 15) hx hb dX1_runs_2 (by decide) (fun c_2 => ?_) (fun c_2 => ?_)
  · refine lv_iload_n hx hb dX1_runs_15 rfl (lv_at hl 1 rfl) ?_
    refine lv_iconst (v := (-1)) hx hb dX1_runs_16 (by decide) ?_
    refine lv_icmp_ne (tgt := 32) hx hb dX1_runs_17 (by decide) (fun c_17 => ?_) (fun c_17 => ?_)
    · refine lv_iload_n hx hb dX1_runs_32 rfl (lv_at hl 0 rfl) ?_
      refine lv_if_eq (tgt := 40) hx hb dX1_runs_33 (by decide) (fun c_33 => ?_) (fun c_33 => ?_)
      · have hz : sp_runs x y = false := by unfold sp_runs; rw [if_neg c_2, if_neg c_17]; exact decide_eq_false (fun q => q c_33)
        refine lv_iconst (v := nI 0) hx hb dX1_runs_40 (by decide) ?_
        exact gx_retz hx hb hr hlocks false (by decide) () (by rw [hz]; decide) hK (hP.sub [] rfl) (hD.sub [] (by decide) rfl) hS dX1_runs_41
      · have hz : sp_runs x y = true := by unfold sp_runs; rw [if_neg c_2, if_neg c_17]; exact decide_eq_true c_33
        refine lv_iconst (v := nI 1) hx hb dX1_runs_36 (by decide) ?_
        refine lv_goto (tgt := 41) hx hb dX1_runs_37 (by decide) ?_
        exact gx_retz hx hb hr hlocks true (by decide) () (by rw [hz]; decide) hK (hP.sub [] rfl) (hD.sub [] (by decide) rfl) hS dX1_runs_41
    · refine lv_iload_n hx hb dX1_runs_20 rfl (lv_at hl 0 rfl) ?_
      refine lv_if_ge (tgt := 28) hx hb dX1_runs_21 (by decide) (fun c_21 => ?_) (fun c_21 => ?_)
      · have hz : sp_runs x y = false := by unfold sp_runs; rw [if_neg c_2, if_pos c_17]; exact decide_eq_false (by rw [Int32.not_lt]; exact c_21)
        refine lv_iconst (v := nI 0) hx hb dX1_runs_28 (by decide) ?_
        refine lv_goto (tgt := 41) hx hb dX1_runs_29 (by decide) ?_
        exact gx_retz hx hb hr hlocks false (by decide) () (by rw [hz]; decide) hK (hP.sub [] rfl) (hD.sub [] (by decide) rfl) hS dX1_runs_41
      · have hz : sp_runs x y = true := by unfold sp_runs; rw [if_neg c_2, if_pos c_17]; exact decide_eq_true (by rw [← Int32.not_le]; exact c_21)
        refine lv_iconst (v := nI 1) hx hb dX1_runs_24 (by decide) ?_
        refine lv_goto (tgt := 41) hx hb dX1_runs_25 (by decide) ?_
        exact gx_retz hx hb hr hlocks true (by decide) () (by rw [hz]; decide) hK (hP.sub [] rfl) (hD.sub [] (by decide) rfl) hS dX1_runs_41
  · refine lv_iload_n hx hb dX1_runs_5 rfl (lv_at hl 0 rfl) ?_
    refine lv_if_le (tgt := 13) hx hb dX1_runs_6 (by decide) (fun c_6 => ?_) (fun c_6 => ?_)
    · have hz : sp_runs x y = false := by unfold sp_runs; rw [if_pos c_2]; exact decide_eq_false (by rw [Int32.not_lt]; exact c_6)
      refine lv_iconst (v := nI 0) hx hb dX1_runs_13 (by decide) ?_
      exact gx_retz hx hb hr hlocks false (by decide) () (by rw [hz]; decide) hK (hP.sub [] rfl) (hD.sub [] (by decide) rfl) hS dX1_runs_14
    · have hz : sp_runs x y = true := by unfold sp_runs; rw [if_pos c_2]; exact decide_eq_true (by rw [← Int32.not_le]; exact c_6)
      refine lv_iconst (v := nI 1) hx hb dX1_runs_9 (by decide) ?_
      refine lv_goto (tgt := 14) hx hb dX1_runs_10 (by decide) ?_
      exact gx_retz hx hb hr hlocks true (by decide) () (by rw [hz]; decide) hK (hP.sub [] rfl) (hD.sub [] (by decide) rfl) hS dX1_runs_14
abbrev rmX1_quotient : Room := { frames := 0, cells := 0, slots := 0, locals := 0 }
set_option maxHeartbeats 4000000 in
set_option maxRecDepth 100000 in
theorem kX1_quotient (l : Launch) (D : va_G) (v d : Int64)  : gx_Ml l D yX1_quotient wsX1_quotient rmX1_quotient [.long v, .long d] [] [] (S := Unit) (fun r (_ : Unit) => r = if d = 0 then 0 else v / d) (fun (_ : Unit) => []) := by
  intro sz
  refine gx_start (cc := cX1_quotient) (maxL := 4) (ret := (some .long)) (Qc := fun A => va_Ql (fun r (_ : Unit) => r = if d = 0 then 0 else v / d) (gx_B D [] A (fun (_ : Unit) => [])) A) (by decide) rfl (Nat.le_of_ble_eq_true rfl) ?_ sz
  intro p e s m below meth c A hbody ls hl
  obtain ⟨C0, hr, hlocks, hN, hK, hP, hD, hA⟩ := hbody
  have C0 : CallFix p m c cX1_quotient 4 s ([.long v, .long d] : List Value).toArray wsX1_quotient RX1 := C0
  obtain ⟨hx, hb, hml, hown, hts⟩ := id C0
  have hS : va_S A s.heap s.heap [] := va_S.rf
  have hl : lv_has ls 4 [(0, .long v), (2, .long d)] := hl
  refine lv_lload_n hx hb dX1_quotient_0 rfl (lv_at hl 1 rfl) ?_
  refine lv_lconst (v := 0) hx hb dX1_quotient_1 (by decide) ?_
  refine W.lcmp hx hb dX1_quotient_2 ?_
  refine lv_if_ne (tgt := 10) hx hb dX1_quotient_3 (by decide) (fun c_3 => ?_) (fun c_3 => ?_)
  · have hz : ¬ d = 0 := fun q => c_3 ((gx_cmp0 _ _).mpr q)
    refine lv_lload_n hx hb dX1_quotient_10 rfl (lv_at hl 0 rfl) ?_
    refine lv_lload_n hx hb dX1_quotient_11 rfl (lv_at hl 1 rfl) ?_
    refine lv_ldiv hx hb dX1_quotient_12 hz ?_
    exact gx_retl hx hb hr hlocks () (by rw [if_neg hz]) hK (hP.sub [] rfl) (hD.sub [] (by decide) rfl) hS dX1_quotient_13
  · have hz : d = 0 := (gx_cmp0 _ _).mp c_3
    refine lv_lconst (v := 0) hx hb dX1_quotient_6 (by decide) ?_
    refine lv_goto (tgt := 13) hx hb dX1_quotient_7 (by decide) ?_
    exact gx_retl hx hb hr hlocks () (by rw [if_pos hz]) hK (hP.sub [] rfl) (hD.sub [] (by decide) rfl) hS dX1_quotient_13
abbrev rmX1_hasReaction : Room := { frames := 0, cells := 0, slots := 0, locals := 0 }
theorem iw_X1_hasReaction_X1 : ∀ w ∈ wsX10, w ∈ wsX1_hasReaction := by decide +kernel
theorem kw_X1_hasReaction_34 : Cond.fieldLink RX1 34 "FluxModes" "reactions" "I" ∈ wsX1_hasReaction := by decide +kernel
set_option maxHeartbeats 4000000 in
set_option maxRecDepth 100000 in
theorem kX1_hasReaction (l : Launch) (D : va_G) (h0 e1 s1 r1 d1 w1 M R V n : Nat) (x : Int32) (hn : R < 256) : gx_Mi l D yX1_hasReaction wsX1_hasReaction rmX1_hasReaction [.ref h0, .int x] [] [(h0, .inr (1, [.ref e1, .int (nI M), .int (nI R), .int (nI V), .ref s1, .ref r1, .int (nI n), .ref d1, .ref w1]))] (S := Unit) (fun r (_ : Unit) => r = bI (sp_in x R)) (fun (_ : Unit) => [(h0, .inr (1, [.ref e1, .int (nI M), .int (nI R), .int (nI V), .ref s1, .ref r1, .int (nI n), .ref d1, .ref w1]))]) := by
  intro sz
  refine gx_start (cc := cX1_hasReaction) (maxL := 2) (ret := (some .boolean)) (Qc := fun A => va_Qi (fun r (_ : Unit) => r = bI (sp_in x R)) (gx_B D [] A (fun (_ : Unit) => [(h0, .inr (1, [.ref e1, .int (nI M), .int (nI R), .int (nI V), .ref s1, .ref r1, .int (nI n), .ref d1, .ref w1]))])) A) (by decide) rfl (Nat.le_of_ble_eq_true rfl) ?_ sz
  intro p e s m below meth c A hbody ls hl
  obtain ⟨C0, hr, hlocks, hN, hK, hP, hD, hA⟩ := hbody
  have C0 : CallFix p m c cX1_hasReaction 2 s ([.ref h0, .int x] : List Value).toArray wsX1_hasReaction RX1 := C0
  obtain ⟨hx, hb, hml, hown, hts⟩ := id C0
  have hS : va_S A s.heap s.heap [] := va_S.rf
  have hl : lv_has ls 2 [(0, .ref h0), (1, .int x)] := hl
  refine lv_iload_n hx hb dX1_hasReaction_0 rfl (lv_at hl 1 rfl) ?_
  refine lv_if_lt (tgt := 16) hx hb dX1_hasReaction_1 (by decide) (fun c_1 => ?_) (fun c_1 => ?_)
  · have hz := sp_in_lo (n := R) c_1
    refine lv_iconst (v := nI 0) hx hb dX1_hasReaction_16 (by decide) ?_
    exact gx_retz hx hb hr hlocks false (by decide) () (by rw [hz]; decide) hK (hP.sub [0] rfl) (hD.sub [0] (by decide) rfl) hS dX1_hasReaction_17
  · refine lv_iload_n hx hb dX1_hasReaction_4 rfl (lv_at hl 1 rfl) ?_
    refine lv_aload_n hx hb dX1_hasReaction_5 rfl (lv_at hl 0 rfl) ?_
    refine va_get (D := D) (ci := 1) (v := .int (nI R)) (C := RX1) (T := TX1) (N := 9) hx hb hts iw_X1_hasReaction_X1 hown hK hP 0 rfl rfl 2 (by decide) (hts _ kw_X1_hasReaction_34) (fun _ h9 => h9) rfl dX1_hasReaction_6 ?_
    refine lv_icmp_ge (tgt := 16) hx hb dX1_hasReaction_9 (by decide) (fun c_9 => ?_) (fun c_9 => ?_)
    · have hz := sp_in_hi (n := R) (by omega) c_9
      refine lv_iconst (v := nI 0) hx hb dX1_hasReaction_16 (by decide) ?_
      exact gx_retz hx hb hr hlocks false (by decide) () (by rw [hz]; decide) hK (hP.sub [0] rfl) (hD.sub [0] (by decide) rfl) hS dX1_hasReaction_17
    · have hz := sp_in_ok (n := R) (by omega) c_1 c_9
      refine lv_iconst (v := nI 1) hx hb dX1_hasReaction_12 (by decide) ?_
      refine lv_goto (tgt := 17) hx hb dX1_hasReaction_13 (by decide) ?_
      exact gx_retz hx hb hr hlocks true (by decide) () (by rw [hz]; decide) hK (hP.sub [0] rfl) (hD.sub [0] (by decide) rfl) hS dX1_hasReaction_17
abbrev rmX1_isListed : Room := { frames := 0, cells := 0, slots := 0, locals := 0 }
theorem iw_X1_isListed_X1 : ∀ w ∈ wsX10, w ∈ wsX1_isListed := by decide +kernel
theorem kw_X1_isListed_40 : Cond.fieldLink RX1 40 "FluxModes" "listed" "I" ∈ wsX1_isListed := by decide +kernel
set_option maxHeartbeats 4000000 in
set_option maxRecDepth 100000 in
theorem kX1_isListed (l : Launch) (D : va_G) (h0 e1 s1 r1 d1 w1 M R V n : Nat) (x : Int32) (hn : n < 256) : gx_Mi l D yX1_isListed wsX1_isListed rmX1_isListed [.ref h0, .int x] [] [(h0, .inr (1, [.ref e1, .int (nI M), .int (nI R), .int (nI V), .ref s1, .ref r1, .int (nI n), .ref d1, .ref w1]))] (S := Unit) (fun r (_ : Unit) => r = bI (sp_in x n)) (fun (_ : Unit) => [(h0, .inr (1, [.ref e1, .int (nI M), .int (nI R), .int (nI V), .ref s1, .ref r1, .int (nI n), .ref d1, .ref w1]))]) := by
  intro sz
  refine gx_start (cc := cX1_isListed) (maxL := 2) (ret := (some .boolean)) (Qc := fun A => va_Qi (fun r (_ : Unit) => r = bI (sp_in x n)) (gx_B D [] A (fun (_ : Unit) => [(h0, .inr (1, [.ref e1, .int (nI M), .int (nI R), .int (nI V), .ref s1, .ref r1, .int (nI n), .ref d1, .ref w1]))])) A) (by decide) rfl (Nat.le_of_ble_eq_true rfl) ?_ sz
  intro p e s m below meth c A hbody ls hl
  obtain ⟨C0, hr, hlocks, hN, hK, hP, hD, hA⟩ := hbody
  have C0 : CallFix p m c cX1_isListed 2 s ([.ref h0, .int x] : List Value).toArray wsX1_isListed RX1 := C0
  obtain ⟨hx, hb, hml, hown, hts⟩ := id C0
  have hS : va_S A s.heap s.heap [] := va_S.rf
  have hl : lv_has ls 2 [(0, .ref h0), (1, .int x)] := hl
  refine lv_iload_n hx hb dX1_isListed_0 rfl (lv_at hl 1 rfl) ?_
  refine lv_if_lt (tgt := 16) hx hb dX1_isListed_1 (by decide) (fun c_1 => ?_) (fun c_1 => ?_)
  · have hz := sp_in_lo (n := n) c_1
    refine lv_iconst (v := nI 0) hx hb dX1_isListed_16 (by decide) ?_
    exact gx_retz hx hb hr hlocks false (by decide) () (by rw [hz]; decide) hK (hP.sub [0] rfl) (hD.sub [0] (by decide) rfl) hS dX1_isListed_17
  · refine lv_iload_n hx hb dX1_isListed_4 rfl (lv_at hl 1 rfl) ?_
    refine lv_aload_n hx hb dX1_isListed_5 rfl (lv_at hl 0 rfl) ?_
    refine va_get (D := D) (ci := 1) (v := .int (nI n)) (C := RX1) (T := TX1) (N := 9) hx hb hts iw_X1_isListed_X1 hown hK hP 0 rfl rfl 6 (by decide) (hts _ kw_X1_isListed_40) (fun _ h9 => h9) rfl dX1_isListed_6 ?_
    refine lv_icmp_ge (tgt := 16) hx hb dX1_isListed_9 (by decide) (fun c_9 => ?_) (fun c_9 => ?_)
    · have hz := sp_in_hi (n := n) (by omega) c_9
      refine lv_iconst (v := nI 0) hx hb dX1_isListed_16 (by decide) ?_
      exact gx_retz hx hb hr hlocks false (by decide) () (by rw [hz]; decide) hK (hP.sub [0] rfl) (hD.sub [0] (by decide) rfl) hS dX1_isListed_17
    · have hz := sp_in_ok (n := n) (by omega) c_1 c_9
      refine lv_iconst (v := nI 1) hx hb dX1_isListed_12 (by decide) ?_
      refine lv_goto (tgt := 17) hx hb dX1_isListed_13 (by decide) ?_
      exact gx_retz hx hb hr hlocks true (by decide) () (by rw [hz]; decide) hK (hP.sub [0] rfl) (hD.sub [0] (by decide) rfl) hS dX1_isListed_17
abbrev rmX1_hasEntry : Room := { frames := 1, cells := 0, slots := 0, locals := 21 }
theorem iw_X1_hasEntry_X1 : ∀ w ∈ wsX10, w ∈ wsX1_hasEntry := by decide +kernel
theorem kw_X1_hasEntry_30 : Cond.fieldLink RX1 30 "FluxModes" "metabolites" "I" ∈ wsX1_hasEntry := by decide +kernel
set_option maxHeartbeats 4000000 in
set_option maxRecDepth 100000 in
theorem kX1_hasEntry (l : Launch) (D : va_G) (h0 e1 s1 r1 d1 w1 M R V n : Nat) (x y : Int32) (hM : M < 256) (hR : R < 256) : gx_Mi l D yX1_hasEntry wsX1_hasEntry rmX1_hasEntry [.ref h0, .int x, .int y] [] [(h0, .inr (1, [.ref e1, .int (nI M), .int (nI R), .int (nI V), .ref s1, .ref r1, .int (nI n), .ref d1, .ref w1]))] (S := Unit) (fun r (_ : Unit) => r = bI (sp_in x M && sp_in y R)) (fun (_ : Unit) => [(h0, .inr (1, [.ref e1, .int (nI M), .int (nI R), .int (nI V), .ref s1, .ref r1, .int (nI n), .ref d1, .ref w1]))]) := by
  intro sz
  refine gx_start (cc := cX1_hasEntry) (maxL := 3) (ret := (some .boolean)) (Qc := fun A => va_Qi (fun r (_ : Unit) => r = bI (sp_in x M && sp_in y R)) (gx_B D [] A (fun (_ : Unit) => [(h0, .inr (1, [.ref e1, .int (nI M), .int (nI R), .int (nI V), .ref s1, .ref r1, .int (nI n), .ref d1, .ref w1]))])) A) (by decide) rfl (Nat.le_of_ble_eq_true rfl) ?_ sz
  intro p e s m below meth c A hbody ls hl
  obtain ⟨C0, hr, hlocks, hN, hK, hP, hD, hA⟩ := hbody
  have C0 : CallFix p m c cX1_hasEntry 3 s ([.ref h0, .int x, .int y] : List Value).toArray wsX1_hasEntry RX1 := C0
  obtain ⟨hx, hb, hml, hown, hts⟩ := id C0
  have hS : va_S A s.heap s.heap [] := va_S.rf
  have hl : lv_has ls 3 [(0, .ref h0), (1, .int x), (2, .int y)] := hl
  refine lv_iload_n hx hb dX1_hasEntry_0 rfl (lv_at hl 1 rfl) ?_
  refine lv_if_lt (tgt := 24) hx hb dX1_hasEntry_1 (by decide) (fun c_1 => ?_) (fun c_1 => ?_)
  · have hz : (sp_in x M && sp_in y R) = false := by rw [sp_in_lo (n := M) c_1]; rfl
    refine lv_iconst (v := nI 0) hx hb dX1_hasEntry_24 (by decide) ?_
    exact gx_retz hx hb hr hlocks false (by decide) () (by rw [hz]; decide) hK (hP.sub [0] rfl) (hD.sub [0] (by decide) rfl) hS dX1_hasEntry_25
  · refine lv_iload_n hx hb dX1_hasEntry_4 rfl (lv_at hl 1 rfl) ?_
    refine lv_aload_n hx hb dX1_hasEntry_5 rfl (lv_at hl 0 rfl) ?_
    refine va_get (D := D) (ci := 1) (v := .int (nI M)) (C := RX1) (T := TX1) (N := 9) hx hb hts iw_X1_hasEntry_X1 hown hK hP 0 rfl rfl 1 (by decide) (hts _ kw_X1_hasEntry_30) (fun _ h9 => h9) rfl dX1_hasEntry_6 ?_
    refine lv_icmp_ge (tgt := 24) hx hb dX1_hasEntry_9 (by decide) (fun c_9 => ?_) (fun c_9 => ?_)
    · have hz : (sp_in x M && sp_in y R) = false := by rw [sp_in_hi (n := M) (by omega) c_9]; rfl
      refine lv_iconst (v := nI 0) hx hb dX1_hasEntry_24 (by decide) ?_
      exact gx_retz hx hb hr hlocks false (by decide) () (by rw [hz]; decide) hK (hP.sub [0] rfl) (hD.sub [0] (by decide) rfl) hS dX1_hasEntry_25
    · refine lv_aload_n hx hb dX1_hasEntry_12 rfl (lv_at hl 0 rfl) ?_
      refine lv_iload_n hx hb dX1_hasEntry_13 rfl (lv_at hl 2 rfl) ?_
      refine gx_ji (wr := []) (gx_rV (As := [.int y]) (rest := []) C0 (kX1_hasReaction l D h0 e1 s1 r1 d1 w1 M R V n y hR _) (cwV 1 hts gX1_hasEntry_X1_hasReaction rfl rfl rfl (by decide +kernel) ⟨Nat.le_of_ble_eq_true rfl, Nat.le_of_ble_eq_true rfl⟩) hN hK hP hD [0] [] rfl rfl (by decide) rfl 0 rfl rfl rfl rfl hl.1 rfl (Nat.le_of_ble_eq_true rfl) dX1_hasEntry_14 ⟨Nat.zero_le _, Nat.zero_le _⟩) hP hD hS hA [0] [] rfl rfl (by decide) (by decide) (fun r u H locs hw hP hD hS => ?_)
      have hw : r = bI (sp_in y R) := hw
      subst hw
      have hP : va_P D vwCl [(h0, .inr (1, [.ref e1, .int (nI M), .int (nI R), .int (nI V), .ref s1, .ref r1, .int (nI n), .ref d1, .ref w1]))] H := hP
      have hD : va_D A [(h0, .inr (1, [.ref e1, .int (nI M), .int (nI R), .int (nI V), .ref s1, .ref r1, .int (nI n), .ref d1, .ref w1]))] := hD
      refine gx_beq (tgt := 24) hx hb dX1_hasEntry_17 (by decide) (fun c_17 => ?_) (fun c_17 => ?_)
      · have hz : (sp_in x M && sp_in y R) = false := by rw [c_17, Bool.and_false]
        refine lv_iconst (v := nI 0) hx hb dX1_hasEntry_24 (by decide) ?_
        exact gx_retz hx hb hr hlocks false (by decide) () (by rw [hz]; decide) hK (hP.sub [0] rfl) (hD.sub [0] (by decide) rfl) hS dX1_hasEntry_25
      · have hz : (sp_in x M && sp_in y R) = true := by rw [c_17, sp_in_ok (n := M) (by omega) c_1 c_9]; rfl
        refine lv_iconst (v := nI 1) hx hb dX1_hasEntry_20 (by decide) ?_
        refine lv_goto (tgt := 25) hx hb dX1_hasEntry_21 (by decide) ?_
        exact gx_retz hx hb hr hlocks true (by decide) () (by rw [hz]; decide) hK (hP.sub [0] rfl) (hD.sub [0] (by decide) rfl) hS dX1_hasEntry_25
