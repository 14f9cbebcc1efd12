/-! contracts that make no cell: what is given, what comes back -/
def gx_P (D : va_G) (av : List Value) (tys : List (ClassId × FieldType)) (win : va_W) (sz : Nat) : Array Value → State → Prop := fun v U => v = av.toArray ∧ U.heap.size = sz ∧ va_P D vwCl win U.heap ∧ va_K D vwCl tys U ∧ va_D (fun _ => True) win ∧ gx_N U
def gx_B (D : va_G) (tys : List (ClassId × FieldType)) (A : Nat → Prop) {S : Type} (wout : S → va_W) : S → State → Prop := fun u t => va_P D vwCl (wout u) t.heap ∧ va_K D vwCl tys t ∧ va_D A (wout u)
def gx_Mi (l : Launch) (D : va_G) (y : MethodName) (ws : List Cond) (rm : Room) (av : List Value) (tys : List (ClassId × FieldType)) (win : va_W) {S : Type} (post : Int32 → S → Prop) (wout : S → va_W) : Prop := ∀ sz : Nat, Met l y ws rm (gx_P D av tys win sz) (va_Qi post (gx_B D tys (va_A win sz) wout) (va_A win sz)) 0 0 (va_A win sz)
def gx_Ml (l : Launch) (D : va_G) (y : MethodName) (ws : List Cond) (rm : Room) (av : List Value) (tys : List (ClassId × FieldType)) (win : va_W) {S : Type} (post : Int64 → S → Prop) (wout : S → va_W) : Prop := ∀ sz : Nat, Met l y ws rm (gx_P D av tys win sz) (va_Ql post (gx_B D tys (va_A win sz) wout) (va_A win sz)) 0 0 (va_A win sz)
def gx_Mv (l : Launch) (D : va_G) (y : MethodName) (ws : List Cond) (rm : Room) (av : List Value) (tys : List (ClassId × FieldType)) (win : va_W) {S : Type} (post : S → Prop) (wout : S → va_W) : Prop := ∀ sz : Nat, Met l y ws rm (gx_P D av tys win sz) (va_Qv post (gx_B D tys (va_A win sz) wout) (va_A win sz)) 0 0 (va_A win sz)
/-- what holds at a body's start -/
def gx_Body (p : Program) (l : Launch) (e : Env) (s : State) (m : MethodId) (below : List Frame) (meth : Method) (c : Code) (D : va_G) (y : MethodName) (ws : List Cond) (cc : ByteArray) (maxL : Nat) (ret : Option FieldType) (av : List Value) (tys : List (ClassId × FieldType)) (win : va_W) (A : Nat → Prop) : Prop :=
  CallFix p m c cc maxL s av.toArray ws y.cls ∧ meth.sig.returnType = ret ∧ meth.locks = false ∧ gx_N s ∧ va_K D vwCl tys s ∧ va_P D vwCl win s.heap ∧ va_D A win ∧ ∀ q : Nat, s.heap.size ≤ q → A q
theorem gx_start {l : Launch} {D : va_G} {y : MethodName} {ws ws' : List Cond} {rm : Room} {av : List Value} {tys : List (ClassId × FieldType)} {win : va_W} {cc : ByteArray} {maxL : Nat} {ret : Option FieldType} {Qc : (Nat → Prop) → Array Value → State → Outcome → State → Prop}
    (hy : plainName y.cls = true) (hw : ws = Cond.code y cc maxL ret :: ws') (hlen : (lg_sl av).length ≤ maxL)
    (body : ∀ (p : Program) (e : Env) (s : State) (m : MethodId) (below : List Frame) (meth : Method) (c : Code) (A : Nat → Prop), gx_Body p l e s m below meth c D y ws cc maxL ret av tys win A → ∀ ls : Array Slot, lv_has ls maxL (lv_args 0 av) → W p l e rm s m av.toArray below meth c s.heap [] 0 0 (MQ below (Qc A) av.toArray s 0 0 A) (F0 m 0 ls [])) (sz : Nat) :
    Met l y ws rm (gx_P D av tys win sz) (Qc (va_A win sz)) 0 0 (va_A win sz) := by
  refine Met.ofW (cc := cc) (maxL := maxL) (ret := ret) hy hw ?_
  intro p e s m args below meth c s₁ B hml hv
  obtain ⟨rfl, hsz, hP, hK, hD0, hN⟩ := hv
  have hts := atoms_spec (ws := ws) B.pre
  have hown : s.vm.findClass y.cls = some m.cls := findClass_of_methodNamed B.named
  subst hsz
  have hl := lv_entry av (n := maxL) hlen
  rw [lg_entry_eq]
  exact body p e s m below meth c _ ⟨⟨B.exec, B.bytes, hml, hown, hts⟩, B.returns, B.notSynchronized, hN, hK, hP, hD0.self, fun q h => Or.inr h⟩ _ hl
section GR
variable {p : Program} {l : Launch} {e : Env} {R : Room} {s : State} {m : MethodId} {args : Array Value} {below : List Frame} {meth : Method} {c : Code} {H : Heap} {locs : List Loc}
variable {cc : ByteArray} {pc : Nat} {ls : Array Slot} {D : va_G} {A : Nat → Prop} {tys : List (ClassId × FieldType)} {S : Type} {wout : S → va_W}
theorem gx_reti {post : Int32 → S → Prop} (hexec : p.tables.exec = Jvm.exec) (hb : c.code = cc) (hr : meth.sig.returnType = some .int) (hlocks : meth.locks = false) {v : Int32} (u : S) (hp : post v u) (hK : va_K D vwCl tys s) (hP : va_P D vwCl (wout u) H) (hD : va_D A (wout u)) (hS : va_S A s.heap H locs) (hdg : decode cc pc = .ok (.ireturn, 1)) :
    W p l e R s m args below meth c H locs 0 0 (MQ below (va_Qi post (gx_B D tys A wout) A) args s 0 0 A) (F0 m pc ls [.int v]) :=
  W.iret hexec hb hr (fun t ht hW => ⟨⟨v, u, rfl, hp, by rw [ht]; exact hP, va_K.moved hW.alike hK, hD⟩, hS.F ht⟩) hS.2.2 hdg hlocks
theorem gx_retz {post : Int32 → S → Prop} (hexec : p.tables.exec = Jvm.exec) (hb : c.code = cc) (hr : meth.sig.returnType = some .boolean) (hlocks : meth.locks = false) {v : Int32} (b : Bool) (hv : v = bI b) (u : S) (hp : post v u) (hK : va_K D vwCl tys s) (hP : va_P D vwCl (wout u) H) (hD : va_D A (wout u)) (hS : va_S A s.heap H locs) (hdg : decode cc pc = .ok (.ireturn, 1)) :
    W p l e R s m args below meth c H locs 0 0 (MQ below (va_Qi post (gx_B D tys A wout) A) args s 0 0 A) (F0 m pc ls [.int v]) :=
  W.zret hexec hb hr (by rw [hv]; exact bI_nar b) (fun t ht hW => ⟨⟨v, u, rfl, hp, by rw [ht]; exact hP, va_K.moved hW.alike hK, hD⟩, hS.F ht⟩) hS.2.2 hdg hlocks
theorem gx_retl {post : Int64 → S → Prop} (hexec : p.tables.exec = Jvm.exec) (hb : c.code = cc) (hr : meth.sig.returnType = some .long) (hlocks : meth.locks = false) {v : Int64} (u : S) (hp : post v u) (hK : va_K D vwCl tys s) (hP : va_P D vwCl (wout u) H) (hD : va_D A (wout u)) (hS : va_S A s.heap H locs) (hdg : decode cc pc = .ok (.lreturn, 1)) :
    W p l e R s m args below meth c H locs 0 0 (MQ below (va_Ql post (gx_B D tys A wout) A) args s 0 0 A) (F0 m pc ls [.long v]) :=
  W.lret hexec hb hr (fun t ht hW => ⟨⟨v, u, rfl, hp, by rw [ht]; exact hP, va_K.moved hW.alike hK, hD⟩, hS.F ht⟩) hS.2.2 hdg hlocks
theorem gx_retv {post : S → Prop} (hexec : p.tables.exec = Jvm.exec) (hb : c.code = cc) (hr : meth.sig.returnType = none) (hlocks : meth.locks = false) (u : S) (hp : post u) (hK : va_K D vwCl tys s) (hP : va_P D vwCl (wout u) H) (hD : va_D A (wout u)) (hS : va_S A s.heap H locs) (hdg : decode cc pc = .ok (.return_, 1)) :
    W p l e R s m args below meth c H locs 0 0 (MQ below (va_Qv post (gx_B D tys A wout) A) args s 0 0 A) (F0 m pc ls []) :=
  W.vret hexec hb hr (fun t ht hW => ⟨⟨u, rfl, hp, by rw [ht]; exact hP, va_K.moved hW.alike hK, hD⟩, hS.F ht⟩) hS.2.2 hdg hlocks
end GR
theorem gx_blind {D : va_G} {av : List Value} {tys : List (ClassId × FieldType)} {win : va_W} {sz : Nat} : FrameBlind (gx_P D av tys win sz) := by
  intro a U g mk q
  obtain ⟨q0, q1, qP, qK, qD, qN⟩ := q
  exact ⟨q0, q1, qP, va_K.moved (u := U) (U := U.calling g mk a) (Vm.Alike.refl U.vm) qK, qD, va_Nw.same rfl (u := U) (U := U.calling g mk a) rfl qN⟩
theorem gx_pre {s : State} {H : Heap} {D : va_G} {av : List Value} {tys : List (ClassId × FieldType)} {win : va_W} {A : Nat → Prop} (hN : gx_N s) (hK : va_K D vwCl tys s) (hP : va_P D vwCl win H) (hD : va_D A win) : ∀ U : State, U.heap = H → s.WarmedH U.vm → gx_P D av tys win H.size av.toArray U :=
  fun U hU hW => ⟨rfl, by rw [hU], by rw [hU]; exact hP, va_K.moved hW.alike hK, hD.weaken (fun _ _ _ _ => trivial), va_Nw.warmM hW hN⟩
section GC
variable {p : Program} {l : Launch} {e : Env} {R : Room} {s : State} {m : MethodId} {args : Array Value} {below : List Frame} {meth : Method} {c : Code} {H : Heap} {locs : List Loc} {cells slots : Nat} {Q : State → Prop}
variable {cc : ByteArray} {pc : Nat} {ls : Array Slot} {st rest : List Value} {D : va_G} {A : Nat → Prop} {tys tysC : List (ClassId × FieldType)} {ws0 win wr : va_W} {H0 : Heap} {S : Type} {wout : S → va_W} {a : Array Value}
/-- the world behind a call that made no cell -/
theorem gx_ji {post : Int32 → S → Prop} (hr : va_Run p l e R s m args below meth c H locs cells slots 0 0 (F0 m pc ls st) rest (va_Qi post (gx_B D tysC (va_A win H.size) wout) (va_A win H.size) a) (va_A win H.size)) (hP : va_P D vwCl ws0 H) (hD : va_D A ws0) (hS : va_S A H0 H locs) (hA : ∀ q : Nat, H0.size ≤ q → A q) (isC isR : List Nat) (hC : isC.map (fun i => ws0[i]?) = win.map some) (hR : isR.map (fun i => ws0[i]?) = wr.map some) (hn : va_nd isR = true) (hdis : ∀ i ∈ isR, i ∉ isC)
    (kk : ∀ (r : Int32) (u : S) (H1 : Heap) (locs1 : List Loc), post r u → va_P D vwCl (wr ++ wout u) H1 → va_D A (wr ++ wout u) → va_S A H0 H1 locs1 → W p l e R s m args below meth c H1 locs1 cells slots Q (F0 m (pc + 3) ls (.int r :: rest))) : W p l e R s m args below meth c H locs cells slots Q (F0 m pc ls st) := by
  have hFc := va_free (wc := win) hD hS hA isC hC
  refine va_calli hr hS (fun q _ h => hFc q h) hFc (fun r u t H1 locs1 ht hvm hw hB hz1 hk1 hS1 => ?_)
  obtain ⟨hP1, hK1, hD1⟩ := hB
  rw [ht] at hP1
  obtain ⟨hP2, hD2⟩ := va_join (wr := wr) (w1 := wout u) hP hD isC isR hC hR hn hdis hk1 hFc hP1 hD1
  exact kk r u H1 locs1 hw hP2 hD2 hS1
theorem gx_jl {post : Int64 → S → Prop} (hr : va_Run p l e R s m args below meth c H locs cells slots 0 0 (F0 m pc ls st) rest (va_Ql post (gx_B D tysC (va_A win H.size) wout) (va_A win H.size) a) (va_A win H.size)) (hP : va_P D vwCl ws0 H) (hD : va_D A ws0) (hS : va_S A H0 H locs) (hA : ∀ q : Nat, H0.size ≤ q → A q) (isC isR : List Nat) (hC : isC.map (fun i => ws0[i]?) = win.map some) (hR : isR.map (fun i => ws0[i]?) = wr.map some) (hn : va_nd isR = true) (hdis : ∀ i ∈ isR, i ∉ isC)
    (kk : ∀ (r : Int64) (u : S) (H1 : Heap) (locs1 : List Loc), post r u → va_P D vwCl (wr ++ wout u) H1 → va_D A (wr ++ wout u) → va_S A H0 H1 locs1 → W p l e R s m args below meth c H1 locs1 cells slots Q (F0 m (pc + 3) ls (.long r :: rest))) : W p l e R s m args below meth c H locs cells slots Q (F0 m pc ls st) := by
  have hFc := va_free (wc := win) hD hS hA isC hC
  refine va_calll hr hS (fun q _ h => hFc q h) hFc (fun r u t H1 locs1 ht hvm hw hB hz1 hk1 hS1 => ?_)
  obtain ⟨hP1, hK1, hD1⟩ := hB
  rw [ht] at hP1
  obtain ⟨hP2, hD2⟩ := va_join (wr := wr) (w1 := wout u) hP hD isC isR hC hR hn hdis hk1 hFc hP1 hD1
  exact kk r u H1 locs1 hw hP2 hD2 hS1
theorem gx_jv {post : S → Prop} (hr : va_Run p l e R s m args below meth c H locs cells slots 0 0 (F0 m pc ls st) rest (va_Qv post (gx_B D tysC (va_A win H.size) wout) (va_A win H.size) a) (va_A win H.size)) (hP : va_P D vwCl ws0 H) (hD : va_D A ws0) (hS : va_S A H0 H locs) (hA : ∀ q : Nat, H0.size ≤ q → A q) (isC isR : List Nat) (hC : isC.map (fun i => ws0[i]?) = win.map some) (hR : isR.map (fun i => ws0[i]?) = wr.map some) (hn : va_nd isR = true) (hdis : ∀ i ∈ isR, i ∉ isC)
    (kk : ∀ (u : S) (H1 : Heap) (locs1 : List Loc), post u → va_P D vwCl (wr ++ wout u) H1 → va_D A (wr ++ wout u) → va_S A H0 H1 locs1 → W p l e R s m args below meth c H1 locs1 cells slots Q (F0 m (pc + 3) ls rest)) : W p l e R s m args below meth c H locs cells slots Q (F0 m pc ls st) := by
  have hFc := va_free (wc := win) hD hS hA isC hC
  refine va_callv hr hS (fun q _ h => hFc q h) hFc (fun u t H1 locs1 ht hvm hw hB hz1 hk1 hS1 => ?_)
  obtain ⟨hP1, hK1, hD1⟩ := hB
  rw [ht] at hP1
  obtain ⟨hP2, hD2⟩ := va_join (wr := wr) (w1 := wout u) hP hD isC isR hC hR hn hdis hk1 hFc hP1 hD1
  exact kk u H1 locs1 hw hP2 hD2 hS1
variable {y : MethodName} {ws : List Cond} {rm : Room} {nL maxL index n : Nat} {Ts : List Cond} {own C : String} {bytes : ByteArray} {ret : Option FieldType} {As : List Value} {b : Nat} {Qc : Array Value → State → Outcome → State → Prop}
/-- a call of an object's method, of a static one, of a nest mate's static one -/
theorem gx_rV (C0 : CallFix p m c cc nL s args Ts own) (hM : Met l y ws rm (gx_P D (.ref b :: As) tysC win H.size) Qc 0 0 (va_A win H.size)) (cw : CallW R s args own C index y bytes maxL ret ws rm 0 0 n) (hN : gx_N s) (hK : va_K D vwCl tys s) (hP : va_P D vwCl ws0 H) (hD : va_D A ws0) (isC isT : List Nat) (hC : isC.map (fun i => ws0[i]?) = win.map some) (hC2 : isC.filterMap (fun i => ws0[i]?) = win) (hnC : va_nd isC = true) (hT : isT.filterMap (fun i => tys[i]?) = tysC) (k0 : Nat) {ci : Nat} {fs : List Value} {q : vw_C} (hr0 : win[k0]? = some (b, .inr (ci, fs))) (hc : vwCl[ci]? = some q) (hq : q.1 = C) (hn : As.length = n) (hsz : ls.size = nL) (hst : st = As.reverse ++ .ref b :: rest) (hW : (rest.map fun v => v.category).sum ≤ 8) (hdg : decode cc pc = .ok (.invokevirtual index, 3)) (hf : cells ≤ R.cells ∧ slots ≤ R.slots) :
    va_Run p l e R s m args below meth c H locs cells slots 0 0 (F0 m pc ls st) rest (Qc (Value.ref b :: As).toArray) (va_A win H.size) := by
  have hPc := hP.sub (ws' := win) isC hC2
  have hDc := hD.sub (ws' := win) isC hnC hC
  have hKc := hK.sub (tys' := tysC) isT hT
  subst hq
  exact va_runV (As := As) (rest := rest) C0 hM cw ⟨gx_blind, va_recv hKc hPc hc hr0, gx_pre hN hKc hPc hDc⟩ rfl hn hsz hst (lv_room hW) hdg hf
theorem gx_rS (C0 : CallFix p m c cc nL s args Ts own) (hM : Met l y ws rm (gx_P D As tysC win H.size) Qc 0 0 (va_A win H.size)) (cw : CallB R s args own index y bytes maxL ret ws rm 0 0 n ∧ (Cond.static y).before args s = true) (hN : gx_N s) (hK : va_K D vwCl tys s) (hP : va_P D vwCl ws0 H) (hD : va_D A ws0) (isC isT : List Nat) (hC : isC.map (fun i => ws0[i]?) = win.map some) (hC2 : isC.filterMap (fun i => ws0[i]?) = win) (hnC : va_nd isC = true) (hT : isT.filterMap (fun i => tys[i]?) = tysC) (hn : As.length = n) (hsz : ls.size = nL) (hst : st = As.reverse ++ rest) (hW : (rest.map fun v => v.category).sum ≤ 8) (hdg : decode cc pc = .ok (.invokestatic index, 3)) (hf : cells ≤ R.cells ∧ slots ≤ R.slots) :
    va_Run p l e R s m args below meth c H locs cells slots 0 0 (F0 m pc ls st) rest (Qc As.toArray) (va_A win H.size) := by
  have hPc := hP.sub (ws' := win) isC hC2
  have hDc := hD.sub (ws' := win) isC hnC hC
  have hKc := hK.sub (tys' := tysC) isT hT
  exact va_runS (As := As) (rest := rest) C0 hM cw ⟨gx_blind, gx_pre hN hKc hPc hDc⟩ rfl hn hsz hst (lv_room hW) hdg hf
theorem gx_rSN {host : String} (C0 : CallFix p m c cc nL s args Ts own) (hM : Met l y ws rm (gx_P D As tysC win H.size) Qc 0 0 (va_A win H.size)) (cw : va_CN R s args own index y host bytes maxL ret ws rm 0 0 n ∧ (Cond.static y).before args s = true ∧ True) (hN : gx_N s) (hK : va_K D vwCl tys s) (hP : va_P D vwCl ws0 H) (hD : va_D A ws0) (isC isT : List Nat) (hC : isC.map (fun i => ws0[i]?) = win.map some) (hC2 : isC.filterMap (fun i => ws0[i]?) = win) (hnC : va_nd isC = true) (hT : isT.filterMap (fun i => tys[i]?) = tysC) (hn : As.length = n) (hsz : ls.size = nL) (hst : st = As.reverse ++ rest) (hW : (rest.map fun v => v.category).sum ≤ 8) (hdg : decode cc pc = .ok (.invokestatic index, 3)) (hf : cells ≤ R.cells ∧ slots ≤ R.slots) :
    va_Run p l e R s m args below meth c H locs cells slots 0 0 (F0 m pc ls st) rest (Qc As.toArray) (va_A win H.size) := by
  have hPc := hP.sub (ws' := win) isC hC2
  have hDc := hD.sub (ws' := win) isC hnC hC
  have hKc := hK.sub (tys' := tysC) isT hT
  exact va_runSN (As := As) (rest := rest) C0 hM cw ⟨gx_blind, gx_pre hN hKc hPc hDc⟩ rfl hn hsz hst (lv_room hW) hdg hf
end GC
