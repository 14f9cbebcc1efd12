abbrev rmX0_leavesOneFullFlow : Room := { frames := 3, cells := 0, slots := 0, locals := 79 }
theorem iw_X0_leavesOneFullFlow_X0 : ∀ w ∈ wsX00, w ∈ wsX0_leavesOneFullFlow := by decide +kernel
theorem kw_X0_leavesOneFullFlow_9 : Cond.fieldLink RX0 9 "FluxModes$Reduction" "cells" "[J" ∈ wsX0_leavesOneFullFlow := by decide +kernel
theorem kw_X0_leavesOneFullFlow_15 : Cond.fieldLink RX0 15 "FluxModes$Reduction" "rows" "I" ∈ wsX0_leavesOneFullFlow := by decide +kernel
theorem kw_X0_leavesOneFullFlow_19 : Cond.fieldLink RX0 19 "FluxModes$Reduction" "columns" "I" ∈ wsX0_leavesOneFullFlow := by decide +kernel
set_option maxHeartbeats 4000000 in
set_option maxRecDepth 100000 in
theorem lpX0_leaves1 {p : Program} {l : Launch} {e : Env} {s : State} {m : MethodId} {args : Array Value} {below : List Frame} {meth : Method} {c : Code} {Q : State → Prop} {D : va_G} {A : Nat → Prop} {H0 : Heap} (C0 : CallFix p m c cX0_leavesOneFullFlow 5 s args wsX0_leavesOneFullFlow RX0) (hN : gx_N s) (hA : ∀ q : Nat, H0.size ≤ q → A q) {d1 k1 w t : Nat} {cK : ClassId} {c0 : Nat → Nat → Int} (hw6 : w ≤ 6) (ht8 : t ≤ 8) (ht1 : 1 ≤ t) (hc9 : ∀ q s, (c0 q s).natAbs ≤ 9) (htw : t - 1 ≤ w) (hK : va_K D vwCl [(cK, .long)] s) (kk : ∀ (K : Nat → Int64) (pv : Int64) (H : Heap) (locs : List Loc) (ls : Array Slot), (∃ σ, lf_I c0 w t (t - 1) σ K pv) → va_P D vwCl [(d1, .inr (0, [.ref k1, .int (nI w), .int (nI t), .long pv])), (k1, .inl (cK, 48, .inr (.inl K)))] H → va_D A [(d1, .inr (0, [.ref k1, .int (nI w), .int (nI t), .long pv])), (k1, .inl (cK, 48, .inr (.inl K)))] → va_S A H0 H locs → lv_has ls 5 [(0, .ref d1), (1, .int (nI (t - 1))), (2, .int (nI (t - 1)))] → W p l e rmX0_leavesOneFullFlow s m args below meth c H locs 0 0 Q (F0 m 44 ls [])) (kr : ∀ (k : Nat) (K : Nat → Int64) (pv : Int64) (H : Heap) (locs : List Loc) (ls : Array Slot), (lf_F c0 w t) → va_P D vwCl [(d1, .inr (0, [.ref k1, .int (nI w), .int (nI t), .long pv])), (k1, .inl (cK, 48, .inr (.inl K)))] H → va_D A [(d1, .inr (0, [.ref k1, .int (nI w), .int (nI t), .long pv])), (k1, .inl (cK, 48, .inr (.inl K)))] → va_S A H0 H locs → lv_has ls 5 [(0, .ref d1), (1, .int (nI (t - 1))), (2, .int (nI k))] → W p l e rmX0_leavesOneFullFlow s m args below meth c H locs 0 0 Q (F0 m 36 ls [])) : ∀ (n_ : Nat) (k : Nat) (K : Nat → Int64) (pv : Int64) (H : Heap) (locs : List Loc) (ls : Array Slot), (k ≤ t - 1 ∧ t - 1 < k + n_) → (∃ σ, lf_I c0 w t k σ K pv) → va_P D vwCl [(d1, .inr (0, [.ref k1, .int (nI w), .int (nI t), .long pv])), (k1, .inl (cK, 48, .inr (.inl K)))] H → va_D A [(d1, .inr (0, [.ref k1, .int (nI w), .int (nI t), .long pv])), (k1, .inl (cK, 48, .inr (.inl K)))] → va_S A H0 H locs → lv_has ls 5 [(0, .ref d1), (1, .int (nI (t - 1))), (2, .int (nI k))] → W p l e rmX0_leavesOneFullFlow s m args below meth c H locs 0 0 Q (F0 m 23 ls []) := by
  obtain ⟨hx, hb, hml, hown, hts⟩ := id C0
  intro n_
  induction n_ with
  | zero =>
    intro k K pv H locs ls hm
    exact absurd hm (by omega)
  | succ n_ ih =>
    intro k K pv H locs ls hm hI hP hD hS hl
    refine lv_iload_n hx hb dX0_leavesOneFullFlow_23 rfl (lv_at hl 2 rfl) ?_
    refine lv_iload_n hx hb dX0_leavesOneFullFlow_24 rfl (lv_at hl 1 rfl) ?_
    refine gx_ge (tgt := 44) hx hb dX0_leavesOneFullFlow_25 (by decide) (by omega) (by omega) (fun c_25 => ?_) (fun c_25 => ?_)
    · have hkt : k = t - 1 := by omega
      subst hkt
      exact kk _ _ _ _ _ hI (hP.sub [0, 1] rfl) (hD.sub [0, 1] (by decide) rfl) hS (lv_sub hl [0, 1, 2] rfl)
    · refine lv_aload_n hx hb dX0_leavesOneFullFlow_28 rfl (lv_at hl 0 rfl) ?_
      refine lv_iload_n hx hb dX0_leavesOneFullFlow_29 rfl (lv_at hl 2 rfl) ?_
      refine gx_ji (wr := []) (gx_rV (As := [.int (nI k)]) (rest := []) C0 (kX0_clearColumn l D d1 k1 w t k pv cK K hw6 ht8 (by omega) (by omega) _) (cwV 1 hts gX0_leavesOneFullFlow_X0_clearColumn rfl rfl rfl (by decide +kernel) ⟨Nat.le_of_ble_eq_true rfl, Nat.le_of_ble_eq_true rfl⟩) hN hK hP hD [0, 1] [0] rfl rfl (by decide) rfl 0 rfl rfl rfl rfl hl.1 rfl (Nat.le_of_ble_eq_true rfl) dX0_leavesOneFullFlow_30 ⟨Nat.zero_le _, Nat.zero_le _⟩) hP hD hS hA [0, 1] [] rfl rfl (by decide) (by decide) (fun r u H locs hw hP hD hS => ?_)
      obtain ⟨b, hb9, hq1, hq2⟩ := hw
      subst hb9
      have hP : va_P D vwCl [(d1, .inr (0, [.ref k1, .int (nI w), .int (nI t), .long u.2])), (k1, .inl (cK, 48, .inr (.inl u.1)))] H := hP
      have hD : va_D A [(d1, .inr (0, [.ref k1, .int (nI w), .int (nI t), .long u.2])), (k1, .inl (cK, 48, .inr (.inl u.1)))] := hD
      refine gx_bne (tgt := 38) hx hb dX0_leavesOneFullFlow_33 (by decide) (fun c_33 => ?_) (fun c_33 => ?_)
      · refine lv_iinc (v := nI (k + 1)) (lv' := [(2, .int (nI (k + 1))), (0, .ref d1), (1, .int (nI (t - 1)))]) hx hb dX0_leavesOneFullFlow_38 hl (k := 2) rfl ((nI_succ k).symm) (by decide) rfl (fun ls hl => ?_)
        refine lv_goto (tgt := 23) hx hb dX0_leavesOneFullFlow_41 (by decide) ?_
        obtain ⟨σ, hσ⟩ := hI
        have hn := lf_step hw6 hc9 (by omega) hσ (hq1 c_33)
        exact ih (k + 1) _ _ _ _ _ (by omega) hn (hP.sub [0, 1] rfl) (hD.sub [0, 1] (by decide) rfl) hS (lv_sub hl [1, 2, 0] rfl)
      · obtain ⟨σ, hσ⟩ := hI
        exact kr k u.1 u.2 _ _ _ (lf_F_none (by omega) (lf_fail hw6 hc9 (by omega) hσ (hq2 c_33))) (hP.sub [0, 1] rfl) (hD.sub [0, 1] (by decide) rfl) hS (lv_sub hl [0, 1, 2] rfl)
set_option maxHeartbeats 4000000 in
set_option maxRecDepth 100000 in
theorem lpX0_leaves2 {p : Program} {l : Launch} {e : Env} {s : State} {m : MethodId} {args : Array Value} {below : List Frame} {meth : Method} {c : Code} {Q : State → Prop} {D : va_G} {A : Nat → Prop} {H0 : Heap} (C0 : CallFix p m c cX0_leavesOneFullFlow 5 s args wsX0_leavesOneFullFlow RX0) (hN : gx_N s) (hA : ∀ q : Nat, H0.size ≤ q → A q) {d1 k1 w t : Nat} {cK : ClassId} {K : Nat → Int64} {pv : Int64} (hw6 : w ≤ 6) (ht8 : t ≤ 8) (ht1 : 1 ≤ t) (hK : va_K D vwCl [(cK, .long)] s) (kk : ∀ (H : Heap) (locs : List Loc) (ls : Array Slot), (ltI t K w) → va_P D vwCl [(d1, .inr (0, [.ref k1, .int (nI w), .int (nI t), .long pv])), (k1, .inl (cK, 48, .inr (.inl K)))] H → va_D A [(d1, .inr (0, [.ref k1, .int (nI w), .int (nI t), .long pv])), (k1, .inl (cK, 48, .inr (.inl K)))] → va_S A H0 H locs → lv_has ls 5 [(0, .ref d1), (1, .int (nI (t - 1))), (2, .int (nI w))] → W p l e rmX0_leavesOneFullFlow s m args below meth c H locs 0 0 Q (F0 m 102 ls [])) (kr : ∀ (i : Nat) (H : Heap) (locs : List Loc) (ls : Array Slot), (¬ ltI t K w) → va_P D vwCl [(d1, .inr (0, [.ref k1, .int (nI w), .int (nI t), .long pv])), (k1, .inl (cK, 48, .inr (.inl K)))] H → va_D A [(d1, .inr (0, [.ref k1, .int (nI w), .int (nI t), .long pv])), (k1, .inl (cK, 48, .inr (.inl K)))] → va_S A H0 H locs → lv_has ls 5 [(0, .ref d1), (1, .int (nI (t - 1))), (2, .int (nI i))] → W p l e rmX0_leavesOneFullFlow s m args below meth c H locs 0 0 Q (F0 m 94 ls [])) : ∀ (n_ : Nat) (i : Nat) (H : Heap) (locs : List Loc) (ls : Array Slot), (i ≤ w ∧ w < i + n_) → (ltI t K i) → va_P D vwCl [(d1, .inr (0, [.ref k1, .int (nI w), .int (nI t), .long pv])), (k1, .inl (cK, 48, .inr (.inl K)))] H → va_D A [(d1, .inr (0, [.ref k1, .int (nI w), .int (nI t), .long pv])), (k1, .inl (cK, 48, .inr (.inl K)))] → va_S A H0 H locs → lv_has ls 5 [(0, .ref d1), (1, .int (nI (t - 1))), (2, .int (nI i))] → W p l e rmX0_leavesOneFullFlow s m args below meth c H locs 0 0 Q (F0 m 46 ls []) := by
  obtain ⟨hx, hb, hml, hown, hts⟩ := id C0
  intro n_
  induction n_ with
  | zero =>
    intro i H locs ls hm
    exact absurd hm (by omega)
  | succ n_ ih =>
    intro i H locs ls hm hI hP hD hS hl
    refine lv_iload_n hx hb dX0_leavesOneFullFlow_46 rfl (lv_at hl 2 rfl) ?_
    refine lv_aload_n hx hb dX0_leavesOneFullFlow_47 rfl (lv_at hl 0 rfl) ?_
    refine va_get (D := D) (ci := 0) (v := .int (nI w)) (C := RX0) (T := TX0) (N := 4) hx hb hts iw_X0_leavesOneFullFlow_X0 hown hK hP 0 rfl rfl 1 (by decide) (hts _ kw_X0_leavesOneFullFlow_15) (fun _ h9 => h9) rfl dX0_leavesOneFullFlow_48 ?_
    refine gx_ge (tgt := 102) hx hb dX0_leavesOneFullFlow_51 (by decide) (by omega) (by omega) (fun c_51 => ?_) (fun c_51 => ?_)
    · have hiw : i = w := by omega
      subst hiw
      exact kk _ _ _ hI (hP.sub [0, 1] rfl) (hD.sub [0, 1] (by decide) rfl) hS (lv_sub hl [0, 1, 2] rfl)
    · refine lv_aload_n hx hb dX0_leavesOneFullFlow_54 rfl (lv_at hl 0 rfl) ?_
      refine va_get (D := D) (ci := 0) (v := .ref k1) (C := RX0) (T := TX0) (N := 4) hx hb hts iw_X0_leavesOneFullFlow_X0 hown hK hP 0 rfl rfl 0 (by decide) (hts _ kw_X0_leavesOneFullFlow_9) (fun _ h9 => h9) rfl dX0_leavesOneFullFlow_55 ?_
      refine lv_iload_n hx hb dX0_leavesOneFullFlow_58 rfl (lv_at hl 2 rfl) ?_
      refine lv_bipush (v := nI 8) hx hb dX0_leavesOneFullFlow_59 (by decide) ?_
      refine lv_imul hx hb dX0_leavesOneFullFlow_61 ?_
      refine gx_i (y := nI (i * 8)) (pk_mul i 8) ?_
      refine lv_iload_n hx hb dX0_leavesOneFullFlow_62 rfl (lv_at hl 1 rfl) ?_
      refine lv_iadd hx hb dX0_leavesOneFullFlow_63 ?_
      refine gx_i (y := nI (i * 8 + (t - 1))) (nI_add (i * 8) (t - 1)) ?_
      refine gx_lald (q := i * 8 + (t - 1)) hx hb hK hP 1 0 rfl rfl (rfl) (by omega) (by decide) dX0_leavesOneFullFlow_64 ?_
      refine lv_lconst (v := 0) hx hb dX0_leavesOneFullFlow_65 (by decide) ?_
      refine W.lcmp hx hb dX0_leavesOneFullFlow_66 ?_
      refine lv_if_ne (tgt := 74) hx hb dX0_leavesOneFullFlow_67 (by decide) (fun c_67 => ?_) (fun c_67 => ?_)
      · refine lv_iconst (v := nI 0) hx hb dX0_leavesOneFullFlow_74 (by decide) ?_
        refine lv_istore_n (lv' := [(3, .int (nI 0)), (0, .ref d1), (1, .int (nI (t - 1))), (2, .int (nI i))]) hx hb dX0_leavesOneFullFlow_75 rfl hl (by decide) rfl (fun ls hl => ?_)
        refine lv_iload_n hx hb dX0_leavesOneFullFlow_76 rfl (lv_at hl 3 rfl) ?_
        refine lv_iload_n hx hb dX0_leavesOneFullFlow_77 rfl (lv_at hl 2 rfl) ?_
        refine gx_ge (tgt := 85) hx hb dX0_leavesOneFullFlow_78 (by decide) (by omega) (by omega) (fun c_78 => ?_) (fun c_78 => ?_)
        · refine lv_iconst (v := nI 0) hx hb dX0_leavesOneFullFlow_85 (by decide) ?_
          refine lv_istore (lv' := [(4, .int (nI 0)), (3, .int (nI 0)), (0, .ref d1), (1, .int (nI (t - 1))), (2, .int (nI i))]) hx hb dX0_leavesOneFullFlow_86 hl (by decide) rfl (fun ls hl => ?_)
          refine lv_iload_n hx hb dX0_leavesOneFullFlow_88 rfl (lv_at hl 1 rfl) ?_
          refine lv_iload hx hb dX0_leavesOneFullFlow_89 (lv_at hl 0 rfl) ?_
          refine gx_ne (tgt := 96) hx hb dX0_leavesOneFullFlow_91 (by decide) (by omega) (by omega) (fun c_91 => ?_) (fun c_91 => ?_)
          · exact absurd rfl c_91
          · have hz : K (i * 8 + (t - 1)) ≠ 0 := fun q => c_67 ((gx_cmp0 _ _).mpr q)
            exact kr i _ _ _ (fun h => hz ((h i (by omega)).2 (by omega))) (hP.sub [0, 1] rfl) (hD.sub [0, 1] (by decide) rfl) hS (lv_sub hl [2, 3, 4] rfl)
        · refine lv_iconst (v := nI 1) hx hb dX0_leavesOneFullFlow_81 (by decide) ?_
          refine lv_goto (tgt := 86) hx hb dX0_leavesOneFullFlow_82 (by decide) ?_
          refine lv_istore (lv' := [(4, .int (nI 1)), (3, .int (nI 0)), (0, .ref d1), (1, .int (nI (t - 1))), (2, .int (nI i))]) hx hb dX0_leavesOneFullFlow_86 hl (by decide) rfl (fun ls hl => ?_)
          refine lv_iload_n hx hb dX0_leavesOneFullFlow_88 rfl (lv_at hl 1 rfl) ?_
          refine lv_iload hx hb dX0_leavesOneFullFlow_89 (lv_at hl 0 rfl) ?_
          refine gx_ne (tgt := 96) hx hb dX0_leavesOneFullFlow_91 (by decide) (by omega) (by omega) (fun c_91 => ?_) (fun c_91 => ?_)
          · refine lv_iinc (v := nI (i + 1)) (lv' := [(2, .int (nI (i + 1))), (4, .int (nI 1)), (3, .int (nI 0)), (0, .ref d1), (1, .int (nI (t - 1)))]) hx hb dX0_leavesOneFullFlow_96 hl (k := 4) rfl ((nI_succ i).symm) (by decide) rfl (fun ls hl => ?_)
            refine lv_goto (tgt := 46) hx hb dX0_leavesOneFullFlow_99 (by decide) ?_
            have hz : K (i * 8 + (t - 1)) ≠ 0 := fun q => c_67 ((gx_cmp0 _ _).mpr q)
            exact ih (i + 1) _ _ _ (by omega) (ltI_s hI (fun _ => hz) (fun h => absurd h (by omega))) (hP.sub [0, 1] rfl) (hD.sub [0, 1] (by decide) rfl) hS (lv_sub hl [3, 4, 0] rfl)
          · exact absurd c_91 (by decide)
      · refine lv_iconst (v := nI 1) hx hb dX0_leavesOneFullFlow_70 (by decide) ?_
        refine lv_goto (tgt := 75) hx hb dX0_leavesOneFullFlow_71 (by decide) ?_
        refine lv_istore_n (lv' := [(3, .int (nI 1)), (0, .ref d1), (1, .int (nI (t - 1))), (2, .int (nI i))]) hx hb dX0_leavesOneFullFlow_75 rfl hl (by decide) rfl (fun ls hl => ?_)
        refine lv_iload_n hx hb dX0_leavesOneFullFlow_76 rfl (lv_at hl 3 rfl) ?_
        refine lv_iload_n hx hb dX0_leavesOneFullFlow_77 rfl (lv_at hl 2 rfl) ?_
        refine gx_ge (tgt := 85) hx hb dX0_leavesOneFullFlow_78 (by decide) (by omega) (by omega) (fun c_78 => ?_) (fun c_78 => ?_)
        · refine lv_iconst (v := nI 0) hx hb dX0_leavesOneFullFlow_85 (by decide) ?_
          refine lv_istore (lv' := [(4, .int (nI 0)), (3, .int (nI 1)), (0, .ref d1), (1, .int (nI (t - 1))), (2, .int (nI i))]) hx hb dX0_leavesOneFullFlow_86 hl (by decide) rfl (fun ls hl => ?_)
          refine lv_iload_n hx hb dX0_leavesOneFullFlow_88 rfl (lv_at hl 1 rfl) ?_
          refine lv_iload hx hb dX0_leavesOneFullFlow_89 (lv_at hl 0 rfl) ?_
          refine gx_ne (tgt := 96) hx hb dX0_leavesOneFullFlow_91 (by decide) (by omega) (by omega) (fun c_91 => ?_) (fun c_91 => ?_)
          · refine lv_iinc (v := nI (i + 1)) (lv' := [(2, .int (nI (i + 1))), (4, .int (nI 0)), (3, .int (nI 1)), (0, .ref d1), (1, .int (nI (t - 1)))]) hx hb dX0_leavesOneFullFlow_96 hl (k := 4) rfl ((nI_succ i).symm) (by decide) rfl (fun ls hl => ?_)
            refine lv_goto (tgt := 46) hx hb dX0_leavesOneFullFlow_99 (by decide) ?_
            have hz : K (i * 8 + (t - 1)) = 0 := (gx_cmp0 _ _).mp c_67
            exact ih (i + 1) _ _ _ (by omega) (ltI_s hI (fun h => absurd h (by omega)) (fun _ => hz)) (hP.sub [0, 1] rfl) (hD.sub [0, 1] (by decide) rfl) hS (lv_sub hl [3, 4, 0] rfl)
          · exact absurd c_91 (by decide)
        · refine lv_iconst (v := nI 1) hx hb dX0_leavesOneFullFlow_81 (by decide) ?_
          refine lv_goto (tgt := 86) hx hb dX0_leavesOneFullFlow_82 (by decide) ?_
          refine lv_istore (lv' := [(4, .int (nI 1)), (3, .int (nI 1)), (0, .ref d1), (1, .int (nI (t - 1))), (2, .int (nI i))]) hx hb dX0_leavesOneFullFlow_86 hl (by decide) rfl (fun ls hl => ?_)
          refine lv_iload_n hx hb dX0_leavesOneFullFlow_88 rfl (lv_at hl 1 rfl) ?_
          refine lv_iload hx hb dX0_leavesOneFullFlow_89 (lv_at hl 0 rfl) ?_
          refine gx_ne (tgt := 96) hx hb dX0_leavesOneFullFlow_91 (by decide) (by omega) (by omega) (fun c_91 => ?_) (fun c_91 => ?_)
          · exact absurd rfl c_91
          · have hz : K (i * 8 + (t - 1)) = 0 := (gx_cmp0 _ _).mp c_67
            exact kr i _ _ _ (fun h => (h i (by omega)).1 (by omega) hz) (hP.sub [0, 1] rfl) (hD.sub [0, 1] (by decide) rfl) hS (lv_sub hl [2, 3, 4] rfl)
set_option maxHeartbeats 4000000 in
set_option maxRecDepth 100000 in
theorem kX0_leavesOneFullFlow (l : Launch) (D : va_G) (d1 k1 w t : Nat) (cK : ClassId) (c0 : Nat → Nat → Int) (K : Nat → Int64) (hw6 : w ≤ 6) (ht8 : t ≤ 8) (ht1 : 1 ≤ t) (hc9 : ∀ q s, (c0 q s).natAbs ≤ 9) (hK0 : ∀ r q, r < w → q < t → K (r * 8 + q) = Int64.ofInt (c0 q r)) : gx_Mi l D yX0_leavesOneFullFlow wsX0_leavesOneFullFlow rmX0_leavesOneFullFlow [.ref d1] [(cK, .long)] [(d1, .inr (0, [.ref k1, .int (nI w), .int (nI t), .long 1])), (k1, .inl (cK, 48, .inr (.inl K)))] (S := (Nat → Int64) × Int64) (fun r (u : (Nat → Int64) × Int64) => ∃ b, r = bI b ∧ (b = true → lf_T c0 w t u.1 u.2) ∧ (b = false → lf_F c0 w t)) (fun (u : (Nat → Int64) × Int64) => [(d1, .inr (0, [.ref k1, .int (nI w), .int (nI t), .long u.2])), (k1, .inl (cK, 48, .inr (.inl u.1)))]) := by
  intro sz
  refine gx_start (cc := cX0_leavesOneFullFlow) (maxL := 5) (ret := (some .boolean)) (Qc := fun A => va_Qi (fun r (u : (Nat → Int64) × Int64) => ∃ b, r = bI b ∧ (b = true → lf_T c0 w t u.1 u.2) ∧ (b = false → lf_F c0 w t)) (gx_B D [(cK, .long)] A (fun (u : (Nat → Int64) × Int64) => [(d1, .inr (0, [.ref k1, .int (nI w), .int (nI t), .long u.2])), (k1, .inl (cK, 48, .inr (.inl u.1)))])) A) (by decide) rfl (Nat.le_of_ble_eq_true rfl) ?_ sz
  intro p e s m below meth c A hbody ls hl
  obtain ⟨C0, hr, hlocks, hN, hK, hP, hD, hA⟩ := hbody
  have C0 : CallFix p m c cX0_leavesOneFullFlow 5 s ([.ref d1] : List Value).toArray wsX0_leavesOneFullFlow RX0 := C0
  obtain ⟨hx, hb, hml, hown, hts⟩ := id C0
  have hS : va_S A s.heap s.heap [] := va_S.rf
  have hl : lv_has ls 5 [(0, .ref d1)] := hl
  refine lv_aload_n hx hb dX0_leavesOneFullFlow_0 rfl (lv_at hl 0 rfl) ?_
  refine va_get (D := D) (ci := 0) (v := .int (nI t)) (C := RX0) (T := TX0) (N := 4) hx hb hts iw_X0_leavesOneFullFlow_X0 hown hK hP 0 rfl rfl 2 (by decide) (hts _ kw_X0_leavesOneFullFlow_19) (fun _ h9 => h9) rfl dX0_leavesOneFullFlow_1 ?_
  refine lv_iconst (v := nI 1) hx hb dX0_leavesOneFullFlow_4 (by decide) ?_
  refine lv_isub hx hb dX0_leavesOneFullFlow_5 ?_
  refine gx_i (y := nI (t - 1)) (pk_sub (by omega)) ?_
  refine lv_istore_n (lv' := [(1, .int (nI (t - 1))), (0, .ref d1)]) hx hb dX0_leavesOneFullFlow_6 rfl hl (by decide) rfl (fun ls hl => ?_)
  refine lv_iload_n hx hb dX0_leavesOneFullFlow_7 rfl (lv_at hl 0 rfl) ?_
  refine lv_if_lt (tgt := 19) hx hb dX0_leavesOneFullFlow_8 (by decide) (fun c_8 => ?_) (fun c_8 => ?_)
  · exact absurd c_8 (nI_pos (by omega))
  · refine lv_iload_n hx hb dX0_leavesOneFullFlow_11 rfl (lv_at hl 0 rfl) ?_
    refine lv_aload_n hx hb dX0_leavesOneFullFlow_12 rfl (lv_at hl 1 rfl) ?_
    refine va_get (D := D) (ci := 0) (v := .int (nI w)) (C := RX0) (T := TX0) (N := 4) hx hb hts iw_X0_leavesOneFullFlow_X0 hown hK hP 0 rfl rfl 1 (by decide) (hts _ kw_X0_leavesOneFullFlow_15) (fun _ h9 => h9) rfl dX0_leavesOneFullFlow_13 ?_
    refine gx_le (tgt := 21) hx hb dX0_leavesOneFullFlow_16 (by decide) (by omega) (by omega) (fun c_16 => ?_) (fun c_16 => ?_)
    · refine lv_iconst (v := nI 0) hx hb dX0_leavesOneFullFlow_21 (by decide) ?_
      refine lv_istore_n (lv' := [(2, .int (nI 0)), (1, .int (nI (t - 1))), (0, .ref d1)]) hx hb dX0_leavesOneFullFlow_22 rfl hl (by decide) rfl (fun ls hl => ?_)
      refine lpX0_leaves1 C0 hN hA hw6 ht8 ht1 hc9 (by omega) hK (fun K1 pv1 H locs ls hI hP hD hS hl => ?_) (fun k K1 pv1 H locs ls hF hP hD hS hl => ?_) (t - 1 + 1) 0 K 1 _ _ _ (by omega) ⟨_, lf_0 hK0⟩ (hP.sub [0, 1] rfl) (hD.sub [0, 1] (by decide) rfl) hS (lv_sub hl [2, 1, 0] rfl)
      · refine lv_iconst (v := nI 0) hx hb dX0_leavesOneFullFlow_44 (by decide) ?_
        refine lv_istore_n (lv' := [(2, .int (nI 0)), (0, .ref d1), (1, .int (nI (t - 1)))]) hx hb dX0_leavesOneFullFlow_45 rfl hl (by decide) rfl (fun ls hl => ?_)
        obtain ⟨σ, hσ⟩ := hI
        refine lpX0_leaves2 C0 hN hA hw6 ht8 ht1 hK (fun H locs ls hL hP hD hS hl => ?_) (fun i H locs ls hF hP hD hS hl => ?_) (w + 1) 0 _ _ _ (by omega) (fun j h => absurd h (Nat.not_lt_zero j)) (hP.sub [0, 1] rfl) (hD.sub [0, 1] (by decide) rfl) hS (lv_sub hl [1, 2, 0] rfl)
        · refine lv_iconst (v := nI 1) hx hb dX0_leavesOneFullFlow_102 (by decide) ?_
          exact gx_retz hx hb hr hlocks true (by decide) (K1, pv1) (⟨true, rfl, (fun _ => lf_T_of hw6 ht1 hc9 hσ hL), fun h => absurd h (by decide)⟩) hK (hP.sub [0, 1] rfl) (hD.sub [0, 1] (by decide) rfl) hS dX0_leavesOneFullFlow_103
        · refine lv_iconst (v := nI 0) hx hb dX0_leavesOneFullFlow_94 (by decide) ?_
          exact gx_retz hx hb hr hlocks false (by decide) (K1, pv1) (⟨false, rfl, (fun h => absurd h (by decide)), fun _ => lf_F_last hw6 ht1 hc9 hσ hF⟩) hK (hP.sub [0, 1] rfl) (hD.sub [0, 1] (by decide) rfl) hS dX0_leavesOneFullFlow_95
      · refine lv_iconst (v := nI 0) hx hb dX0_leavesOneFullFlow_36 (by decide) ?_
        exact gx_retz hx hb hr hlocks false (by decide) (K1, pv1) (⟨false, rfl, (fun h => absurd h (by decide)), fun _ => hF⟩) hK (hP.sub [0, 1] rfl) (hD.sub [0, 1] (by decide) rfl) hS dX0_leavesOneFullFlow_37
    · refine lv_iconst (v := nI 0) hx hb dX0_leavesOneFullFlow_19 (by decide) ?_
      exact gx_retz hx hb hr hlocks false (by decide) (K, 1) (⟨false, rfl, (fun h => absurd h (by decide)), fun _ => lf_F_small (by omega)⟩) hK (hP.sub [0, 1] rfl) (hD.sub [0, 1] (by decide) rfl) hS dX0_leavesOneFullFlow_20
