theorem zret_b {v : Int} (h : v = 0 ∨ v = 1) : narrow .boolean (.int (Int32.ofInt v)) = .int (Int32.ofInt v) := by
  rcases h with rfl | rfl <;> rfl
section ZR3
variable {p : Program} {l : Launch} {e : Env} {R : Room} {s : State} {m : MethodId} {args : Array Value} {below : List Frame} {meth : Method} {c : Code} {cells slots : Nat} {Q : State → Prop}
variable {cc : ByteArray} {nL : Nat} {Ts : List Cond} {own : String} {D : va_G} {cl : List vw_C} {tys : List (ClassId × FieldType)} {A : Nat → Prop} {N : Nat} {ad : Nat → Nat} {cel : zSt → Nat → va_E}
variable {pc : Nat} {lv : List (Nat × Value)} {stk : List Value} {σ : zSt}
/-- the entry of a method whose class or whose name has no row among the natives -/
theorem zMet_ofW {y : MethodName} {ws ws' : List Cond} {rm : Room} {Pc : Array Value → State → Prop} {Qc : Array Value → State → Outcome → State → Prop} {mc ms : Nat} {free : Addr → Prop} {maxL : Nat} {ret : Option FieldType}
    (hy : plainFor y = true) (hw : ws = Cond.code y cc maxL ret :: ws')
    (body : ∀ p e s m args below meth c s₁, BodyLoose p l y (headSpec ws rm) cc maxL ret e s m args below meth c s₁ → c.maxLocals = maxL → Pc args s →
      W p l e (headSpec ws rm).room s m args below meth c s.heap [] 0 0 (MQ below Qc args s mc ms free) (entryFrame m args maxL)) : Met l y ws rm Pc Qc mc ms free := by
  refine MetFree.of_bodySF (code := cc) (maxLocals := maxL) (ret := ret) hy ?_ ?_
  · intro args s m h hn
    obtain ⟨meth, c, h1, h2, h3, h4, h5, h6, -, -⟩ := Cond.code_spec hn (atoms_spec (ws := ws) h _ (by rw [hw]; exact List.mem_cons_self))
    exact ⟨meth, c, h1, h2, h3, h4, h5, h6⟩
  · intro p e s m args below meth c s₁ B hml hP _
    have hh0 : s₁.heap = s.heap := by rw [B.state]; rfl
    obtain ⟨t, a1, o, b1, b2, b3⟩ := body p e s m args below meth c s₁ B hml hP s₁ hh0 (Stand.of_body B)
    exact ⟨t, o, a1, b1, b2, ⟨b3.1, b3.2⟩⟩
/-- the entry of a method -/
theorem z_enter {y : MethodName} {ws ws' : List Cond} {rm : Room} {maxL : Nat} {ret : Option FieldType} {vs : List Value} {x : zX} {Qc : Array Value → State → Outcome → State → Prop} {sz mc ms : Nat}
    (hy : plainFor y = true) (hw : ws = Cond.code y cc maxL ret :: ws') (hi : ∀ i j, i < N → j < N → ad i = ad j → i = j) (hlen : (lg_sl vs).length ≤ maxL)
    (body : ∀ (p : Program) (e : Env) (s : State) (m : MethodId) (args : Array Value) (below : List Frame) (meth : Method) (c : Code), zC p m c cc maxL s args ws y.cls meth D cl tys (zA ad N sz) N ad cel → zE x (zA ad N sz) s s.heap → s.heap.size = sz → meth.sig.returnType = ret → meth.name = y.name →
      zAt p l e rm s m args below meth c 0 0 (MQ below Qc args s mc ms (zA ad N sz)) maxL D cl (zA ad N sz) N ad cel 0 (lv_args 0 vs) [] σ) :
    Met l y ws rm (va_Pc vs (zPre D cl tys x N ad cel sz σ)) Qc mc ms (zA ad N sz) := by
  refine zMet_ofW (cc := cc) (maxL := maxL) (ret := ret) hy hw ?_
  intro p e s m args below meth c s₁ B hml hv
  obtain ⟨rfl, hsz, ⟨hP, hK⟩, hE⟩ := hv
  have hl := lv_entry vs (n := maxL) hlen
  rw [lg_entry_eq]
  refine body p e s m _ below meth c ⟨⟨B.exec, B.bytes, hml, findClass_of_methodNamed B.named, atoms_spec (ws := ws) B.pre⟩, hK, fun _ => zW_D hi, B.notSynchronized, by rw [hsz]⟩ hE hsz B.returns (name_of_methodNamed B.named B.method).1 _ _ _ hP va_S.rf hl
/-- an int is answered -/
theorem z_iret (hC : zC p m c cc nL s args Ts own meth D cl tys A N ad cel) {ret : Option FieldType} (hr : meth.sig.returnType = ret) (hri : ret = some .int) {K : Int → zSt → Prop} {v : Int} (hdg : decode cc pc = .ok (.ireturn, 1)) (hq : K v σ) : zAt p l e R s m args below meth c cells slots (MQ below (va_Qi (zPi K) (zB D cl tys N ad cel) A) args s cells slots A) nL D cl A N ad cel pc lv [vI v] σ := by
  intro H locs ls hP hS hl
  exact W.iret hC.1.1 hC.1.2.1 (hr.trans hri) (fun t ht hW => ⟨⟨_, σ, rfl, ⟨v, rfl, hq⟩, by rw [ht]; exact hP, va_K.moved hW.alike hC.2.1⟩, hS.F ht⟩) hS.2.2 hdg (hlocks := hC.2.2.2.1)
/-- a boolean is answered -/
theorem z_bret (hC : zC p m c cc nL s args Ts own meth D cl tys A N ad cel) {ret : Option FieldType} (hr : meth.sig.returnType = ret) (hri : ret = some .boolean) {K : Int → zSt → Prop} {v : Int} (hdg : decode cc pc = .ok (.ireturn, 1)) (hv : v = 0 ∨ v = 1) (hq : K v σ) : zAt p l e R s m args below meth c cells slots (MQ below (va_Qi (zPi K) (zB D cl tys N ad cel) A) args s cells slots A) nL D cl A N ad cel pc lv [vI v] σ := by
  intro H locs ls hP hS hl
  exact W.zret hC.1.1 hC.1.2.1 (hr.trans hri) (zret_b hv) (fun t ht hW => ⟨⟨_, σ, rfl, ⟨v, rfl, hq⟩, by rw [ht]; exact hP, va_K.moved hW.alike hC.2.1⟩, hS.F ht⟩) hS.2.2 hdg (hlocks := hC.2.2.2.1)
/-- nothing is answered -/
theorem z_vret (hC : zC p m c cc nL s args Ts own meth D cl tys A N ad cel) {ret : Option FieldType} (hr : meth.sig.returnType = ret) (hri : ret = none) {K : zSt → Prop} (hdg : decode cc pc = .ok (.return_, 1)) (hq : K σ) : zAt p l e R s m args below meth c cells slots (MQ below (va_Qv K (zB D cl tys N ad cel) A) args s cells slots A) nL D cl A N ad cel pc lv [] σ := by
  intro H locs ls hP hS hl
  exact W.vret hC.1.1 hC.1.2.1 (hr.trans hri) (fun t ht hW => ⟨⟨σ, rfl, hq, by rw [ht]; exact hP, va_K.moved hW.alike hC.2.1⟩, hS.F ht⟩) hS.2.2 hdg (hlocks := hC.2.2.2.1)
/-- a reference is answered -/
def zQr (D : va_G) (cl : List vw_C) (tys : List (ClassId × FieldType)) (N : Nat) (ad : Nat → Nat) (cel : zSt → Nat → va_E) (u : Int × zSt) (a : Nat) (t : State) : Prop := a = ad u.1.toNat ∧ zB D cl tys N ad cel u.2 t
theorem z_aret (hC : zC p m c cc nL s args Ts own meth D cl tys A N ad cel) {ret : Option FieldType} (hr : meth.sig.returnType = ret) {C : String} (hri : ret = some (.object C)) {K : Int → zSt → Prop} {v : Int} (hdg : decode cc pc = .ok (.areturn, 1)) (hq : K v σ) : zAt p l e R s m args below meth c cells slots (MQ below (va_Qr (fun u : Int × zSt => K u.1 u.2) (zQr D cl tys N ad cel) A) args s cells slots A) nL D cl A N ad cel pc lv [vR ad v] σ := by
  intro H locs ls hP hS hl
  exact W.aret hC.1.1 hC.1.2.1 (hr.trans hri) (Or.inl ⟨C, rfl⟩) (Or.inr ⟨_, rfl⟩) (fun t ht hW => ⟨⟨(v, σ), _, rfl, hq, rfl, by rw [ht]; exact hP, va_K.moved hW.alike hC.2.1⟩, hS.F ht⟩) hS.2.2 hdg (hlocks := hC.2.2.2.1)
/-- what a callee needs of the state, in any state that the caller comes to -/
theorem z_pre (hC : zC p m c cc nL s args Ts own meth D cl tys A N ad cel) {x : zX} (hE : zE x A s s.heap) {H : Heap} {locs : List Loc} (hP : va_P D cl (zW N ad (cel σ)) H) (hS : va_S A s.heap H locs) {U : State} (hU : U.heap = H) (hW : s.WarmedH U.vm) : zPre D cl tys x N ad cel H.size σ U := by
  refine ⟨by rw [hU], ⟨by rw [hU]; exact hP, va_K.moved hW.alike hC.2.1⟩, ?_⟩
  rw [hU]
  refine hE.go hW hS (fun q h => ?_)
  rw [hC.2.2.2.2]
  exact zA_le hS.1 h
theorem z_blind {D : va_G} {cl : List vw_C} {tys : List (ClassId × FieldType)} {x : zX} {N : Nat} {ad : Nat → Nat} {cel : zSt → Nat → va_E} {sz : Nat} {σ : zSt} {vs : List Value} : FrameBlind (va_Pc vs (zPre D cl tys x N ad cel sz σ)) := by
  intro a U g mk q
  obtain ⟨q0, q1, ⟨q2, q3⟩, q4⟩ := q
  exact ⟨q0, q1, ⟨q2, va_K.moved (u := U) (U := U.calling g mk a) (Vm.Alike.refl U.vm) q3⟩, q4.same (u := U) (U := U.calling g mk a) rfl⟩
theorem z_recv (hC : zC p m c cc nL s args Ts own meth D cl tys A N ad cel) {H : Heap} (hP : va_P D cl (zW N ad (cel σ)) H) {ci : Nat} {r : vw_C} {fs : zSt → List Value} {kk : Int} (ho : zOb cl N cel ci r fs kk) : ∃ cell : Cell, H[ad kk.toNat]? = some cell ∧ cell.vm.isStatics = false ∧ s.vm.findClass r.1 = some cell.cls :=
  va_recv hC.2.1 hP ho.2.1 (zW_at ho.1 (ho.2.2 σ))
theorem z_callVi (hC : zC p m c cc nL s args Ts own meth D cl tys A N ad cel) {y : MethodName} {bytes : ByteArray} {maxL n index : Nat} {ret : Option FieldType} {ws : List Cond} {rm : Room} {x : zX} {st0 : List Value} {K : Int → zSt → Prop} (hE : zE x A s s.heap) {ci : Nat} {r : vw_C} {fs : zSt → List Value} {kk : Int} (ho : zOb cl N cel ci r fs kk) (As : List Value) (hM : ∀ sz, Met l y ws rm (va_Pc (vR ad kk :: As) (zPre D cl tys x N ad cel sz σ)) (va_Qi (zPi K) (zB D cl tys N ad cel) (zA ad N sz)) 0 0 (zA ad N sz)) (cw : CallW R s args own r.1 index y bytes maxL ret ws rm 0 0 n) (hn : As.length = n) (hst : st0 = As.reverse ++ vR ad kk :: stk) (hWd : (stk.map fun v => v.category).sum ≤ 8) (hcs : cells ≤ R.cells ∧ slots ≤ R.slots) (hdg : decode cc pc = .ok (.invokevirtual index, 3)) (g : ∀ (z : Int) (σ1 : zSt), K z σ1 → zAt p l e R s m args below meth c cells slots Q nL D cl A N ad cel (pc + 3) (lv) (vI z :: stk) (σ1)) : zAt p l e R s m args below meth c cells slots Q nL D cl A N ad cel (pc) lv (st0) σ :=
  by
  intro H locs ls hP hS hl
  subst hst
  have hsub : ∀ q, q < H.size → zA ad N H.size q → A q := fun q _ h => by rw [hC.2.2.2.2]; exact zA_le hS.1 h
  have hsub2 : ∀ q, zA ad N H.size q → A q := fun q h => by rw [hC.2.2.2.2]; exact zA_le hS.1 h
  refine va_calli (va_runV (As := As) (rest := stk) hC.1 (hM H.size) cw ⟨z_blind, z_recv hC hP ho, fun U hU hW => ⟨rfl, z_pre hC hE hP hS hU hW⟩⟩ rfl hn hl.1 rfl (by show 2 * 0 + _ ≤ 8; omega) hdg hcs) hS hsub hsub2 (fun r u t H1 locs1 ht hvm hw hB hz1 hk1 hS1 => ?_)
  obtain ⟨z, rfl, hz⟩ := hw
  exact g z u hz H1 locs1 ls (ht ▸ hB.1) hS1 hl
theorem z_callVv (hC : zC p m c cc nL s args Ts own meth D cl tys A N ad cel) {y : MethodName} {bytes : ByteArray} {maxL n index : Nat} {ret : Option FieldType} {ws : List Cond} {rm : Room} {x : zX} {st0 : List Value} {K : zSt → Prop} (hE : zE x A s s.heap) {ci : Nat} {r : vw_C} {fs : zSt → List Value} {kk : Int} (ho : zOb cl N cel ci r fs kk) (As : List Value) (hM : ∀ sz, Met l y ws rm (va_Pc (vR ad kk :: As) (zPre D cl tys x N ad cel sz σ)) (va_Qv K (zB D cl tys N ad cel) (zA ad N sz)) 0 0 (zA ad N sz)) (cw : CallW R s args own r.1 index y bytes maxL ret ws rm 0 0 n) (hn : As.length = n) (hst : st0 = As.reverse ++ vR ad kk :: stk) (hWd : (stk.map fun v => v.category).sum ≤ 8) (hcs : cells ≤ R.cells ∧ slots ≤ R.slots) (hdg : decode cc pc = .ok (.invokevirtual index, 3)) (g : ∀ σ1 : zSt, K σ1 → zAt p l e R s m args below meth c cells slots Q nL D cl A N ad cel (pc + 3) (lv) (stk) (σ1)) : zAt p l e R s m args below meth c cells slots Q nL D cl A N ad cel (pc) lv (st0) σ :=
  by
  intro H locs ls hP hS hl
  subst hst
  have hsub : ∀ q, q < H.size → zA ad N H.size q → A q := fun q _ h => by rw [hC.2.2.2.2]; exact zA_le hS.1 h
  have hsub2 : ∀ q, zA ad N H.size q → A q := fun q h => by rw [hC.2.2.2.2]; exact zA_le hS.1 h
  refine va_callv (va_runV (As := As) (rest := stk) hC.1 (hM H.size) cw ⟨z_blind, z_recv hC hP ho, fun U hU hW => ⟨rfl, z_pre hC hE hP hS hU hW⟩⟩ rfl hn hl.1 rfl (by show 2 * 0 + _ ≤ 8; omega) hdg hcs) hS hsub hsub2 (fun u t H1 locs1 ht hvm hw hB hz1 hk1 hS1 => ?_)
  exact g u hw H1 locs1 ls (ht ▸ hB.1) hS1 hl
theorem z_callVr (hC : zC p m c cc nL s args Ts own meth D cl tys A N ad cel) {y : MethodName} {bytes : ByteArray} {maxL n index : Nat} {ret : Option FieldType} {ws : List Cond} {rm : Room} {x : zX} {st0 : List Value} {K : Int → zSt → Prop} (hE : zE x A s s.heap) {ci : Nat} {r : vw_C} {fs : zSt → List Value} {kk : Int} (ho : zOb cl N cel ci r fs kk) (As : List Value) (hM : ∀ sz, Met l y ws rm (va_Pc (vR ad kk :: As) (zPre D cl tys x N ad cel sz σ)) (va_Qr (fun u : Int × zSt => K u.1 u.2) (zQr D cl tys N ad cel) (zA ad N sz)) 0 0 (zA ad N sz)) (cw : CallW R s args own r.1 index y bytes maxL ret ws rm 0 0 n) (hn : As.length = n) (hst : st0 = As.reverse ++ vR ad kk :: stk) (hWd : (stk.map fun v => v.category).sum ≤ 8) (hcs : cells ≤ R.cells ∧ slots ≤ R.slots) (hdg : decode cc pc = .ok (.invokevirtual index, 3)) (g : ∀ (z : Int) (σ1 : zSt), K z σ1 → zAt p l e R s m args below meth c cells slots Q nL D cl A N ad cel (pc + 3) (lv) (vR ad z :: stk) (σ1)) : zAt p l e R s m args below meth c cells slots Q nL D cl A N ad cel (pc) lv (st0) σ :=
  by
  intro H locs ls hP hS hl
  subst hst
  have hsub : ∀ q, q < H.size → zA ad N H.size q → A q := fun q _ h => by rw [hC.2.2.2.2]; exact zA_le hS.1 h
  have hsub2 : ∀ q, zA ad N H.size q → A q := fun q h => by rw [hC.2.2.2.2]; exact zA_le hS.1 h
  refine va_callr (va_runV (As := As) (rest := stk) hC.1 (hM H.size) cw ⟨z_blind, z_recv hC hP ho, fun U hU hW => ⟨rfl, z_pre hC hE hP hS hU hW⟩⟩ rfl hn hl.1 rfl (by show 2 * 0 + _ ≤ 8; omega) hdg hcs) hS hsub hsub2 (fun u ra t H1 locs1 ht hvm hw hB hz1 hk1 hS1 => ?_)
  obtain ⟨rfl, hB⟩ := hB
  exact g u.1 u.2 hw H1 locs1 ls (ht ▸ hB.1) hS1 hl
theorem z_callVNi (hC : zC p m c cc nL s args Ts own meth D cl tys A N ad cel) {y : MethodName} {bytes : ByteArray} {maxL n index : Nat} {ret : Option FieldType} {ws : List Cond} {rm : Room} {x : zX} {host : String} {st0 : List Value} {K : Int → zSt → Prop} (hE : zE x A s s.heap) {ci : Nat} {r : vw_C} {fs : zSt → List Value} {kk : Int} (ho : zOb cl N cel ci r fs kk) (As : List Value) (hM : ∀ sz, Met l y ws rm (va_Pc (vR ad kk :: As) (zPre D cl tys x N ad cel sz σ)) (va_Qi (zPi K) (zB D cl tys N ad cel) (zA ad N sz)) 0 0 (zA ad N sz)) (cw : va_CN R s args own index y host bytes maxL ret ws rm 0 0 n ∧ (Cond.instanceMethod y).before args s = true ∧ (Cond.selects r.1 y y).before args s = true) (hn : As.length = n) (hst : st0 = As.reverse ++ vR ad kk :: stk) (hWd : (stk.map fun v => v.category).sum ≤ 8) (hcs : cells ≤ R.cells ∧ slots ≤ R.slots) (hdg : decode cc pc = .ok (.invokevirtual index, 3)) (g : ∀ (z : Int) (σ1 : zSt), K z σ1 → zAt p l e R s m args below meth c cells slots Q nL D cl A N ad cel (pc + 3) (lv) (vI z :: stk) (σ1)) : zAt p l e R s m args below meth c cells slots Q nL D cl A N ad cel (pc) lv (st0) σ :=
  by
  intro H locs ls hP hS hl
  subst hst
  have hsub : ∀ q, q < H.size → zA ad N H.size q → A q := fun q _ h => by rw [hC.2.2.2.2]; exact zA_le hS.1 h
  have hsub2 : ∀ q, zA ad N H.size q → A q := fun q h => by rw [hC.2.2.2.2]; exact zA_le hS.1 h
  refine va_calli (va_runVN (As := As) (rest := stk) hC.1 (hM H.size) cw ⟨z_blind, z_recv hC hP ho, fun U hU hW => ⟨rfl, z_pre hC hE hP hS hU hW⟩⟩ rfl hn hl.1 rfl (by show 2 * 0 + _ ≤ 8; omega) hdg hcs) hS hsub hsub2 (fun r u t H1 locs1 ht hvm hw hB hz1 hk1 hS1 => ?_)
  obtain ⟨z, rfl, hz⟩ := hw
  exact g z u hz H1 locs1 ls (ht ▸ hB.1) hS1 hl
theorem z_callVNv (hC : zC p m c cc nL s args Ts own meth D cl tys A N ad cel) {y : MethodName} {bytes : ByteArray} {maxL n index : Nat} {ret : Option FieldType} {ws : List Cond} {rm : Room} {x : zX} {host : String} {st0 : List Value} {K : zSt → Prop} (hE : zE x A s s.heap) {ci : Nat} {r : vw_C} {fs : zSt → List Value} {kk : Int} (ho : zOb cl N cel ci r fs kk) (As : List Value) (hM : ∀ sz, Met l y ws rm (va_Pc (vR ad kk :: As) (zPre D cl tys x N ad cel sz σ)) (va_Qv K (zB D cl tys N ad cel) (zA ad N sz)) 0 0 (zA ad N sz)) (cw : va_CN R s args own index y host bytes maxL ret ws rm 0 0 n ∧ (Cond.instanceMethod y).before args s = true ∧ (Cond.selects r.1 y y).before args s = true) (hn : As.length = n) (hst : st0 = As.reverse ++ vR ad kk :: stk) (hWd : (stk.map fun v => v.category).sum ≤ 8) (hcs : cells ≤ R.cells ∧ slots ≤ R.slots) (hdg : decode cc pc = .ok (.invokevirtual index, 3)) (g : ∀ σ1 : zSt, K σ1 → zAt p l e R s m args below meth c cells slots Q nL D cl A N ad cel (pc + 3) (lv) (stk) (σ1)) : zAt p l e R s m args below meth c cells slots Q nL D cl A N ad cel (pc) lv (st0) σ :=
  by
  intro H locs ls hP hS hl
  subst hst
  have hsub : ∀ q, q < H.size → zA ad N H.size q → A q := fun q _ h => by rw [hC.2.2.2.2]; exact zA_le hS.1 h
  have hsub2 : ∀ q, zA ad N H.size q → A q := fun q h => by rw [hC.2.2.2.2]; exact zA_le hS.1 h
  refine va_callv (va_runVN (As := As) (rest := stk) hC.1 (hM H.size) cw ⟨z_blind, z_recv hC hP ho, fun U hU hW => ⟨rfl, z_pre hC hE hP hS hU hW⟩⟩ rfl hn hl.1 rfl (by show 2 * 0 + _ ≤ 8; omega) hdg hcs) hS hsub hsub2 (fun u t H1 locs1 ht hvm hw hB hz1 hk1 hS1 => ?_)
  exact g u hw H1 locs1 ls (ht ▸ hB.1) hS1 hl
theorem z_callVNr (hC : zC p m c cc nL s args Ts own meth D cl tys A N ad cel) {y : MethodName} {bytes : ByteArray} {maxL n index : Nat} {ret : Option FieldType} {ws : List Cond} {rm : Room} {x : zX} {host : String} {st0 : List Value} {K : Int → zSt → Prop} (hE : zE x A s s.heap) {ci : Nat} {r : vw_C} {fs : zSt → List Value} {kk : Int} (ho : zOb cl N cel ci r fs kk) (As : List Value) (hM : ∀ sz, Met l y ws rm (va_Pc (vR ad kk :: As) (zPre D cl tys x N ad cel sz σ)) (va_Qr (fun u : Int × zSt => K u.1 u.2) (zQr D cl tys N ad cel) (zA ad N sz)) 0 0 (zA ad N sz)) (cw : va_CN R s args own index y host bytes maxL ret ws rm 0 0 n ∧ (Cond.instanceMethod y).before args s = true ∧ (Cond.selects r.1 y y).before args s = true) (hn : As.length = n) (hst : st0 = As.reverse ++ vR ad kk :: stk) (hWd : (stk.map fun v => v.category).sum ≤ 8) (hcs : cells ≤ R.cells ∧ slots ≤ R.slots) (hdg : decode cc pc = .ok (.invokevirtual index, 3)) (g : ∀ (z : Int) (σ1 : zSt), K z σ1 → zAt p l e R s m args below meth c cells slots Q nL D cl A N ad cel (pc + 3) (lv) (vR ad z :: stk) (σ1)) : zAt p l e R s m args below meth c cells slots Q nL D cl A N ad cel (pc) lv (st0) σ :=
  by
  intro H locs ls hP hS hl
  subst hst
  have hsub : ∀ q, q < H.size → zA ad N H.size q → A q := fun q _ h => by rw [hC.2.2.2.2]; exact zA_le hS.1 h
  have hsub2 : ∀ q, zA ad N H.size q → A q := fun q h => by rw [hC.2.2.2.2]; exact zA_le hS.1 h
  refine va_callr (va_runVN (As := As) (rest := stk) hC.1 (hM H.size) cw ⟨z_blind, z_recv hC hP ho, fun U hU hW => ⟨rfl, z_pre hC hE hP hS hU hW⟩⟩ rfl hn hl.1 rfl (by show 2 * 0 + _ ≤ 8; omega) hdg hcs) hS hsub hsub2 (fun u ra t H1 locs1 ht hvm hw hB hz1 hk1 hS1 => ?_)
  obtain ⟨rfl, hB⟩ := hB
  exact g u.1 u.2 hw H1 locs1 ls (ht ▸ hB.1) hS1 hl
theorem z_callSi (hC : zC p m c cc nL s args Ts own meth D cl tys A N ad cel) {y : MethodName} {bytes : ByteArray} {maxL n index : Nat} {ret : Option FieldType} {ws : List Cond} {rm : Room} {x : zX} {st0 : List Value} {K : Int → zSt → Prop} (hE : zE x A s s.heap) (As : List Value) (hM : ∀ sz, Met l y ws rm (va_Pc As (zPre D cl tys x N ad cel sz σ)) (va_Qi (zPi K) (zB D cl tys N ad cel) (zA ad N sz)) 0 0 (zA ad N sz)) (cw : CallB R s args own index y bytes maxL ret ws rm 0 0 n ∧ (Cond.static y).before args s = true) (hn : As.length = n) (hst : st0 = As.reverse ++ stk) (hWd : (stk.map fun v => v.category).sum ≤ 8) (hcs : cells ≤ R.cells ∧ slots ≤ R.slots) (hdg : decode cc pc = .ok (.invokestatic index, 3)) (g : ∀ (z : Int) (σ1 : zSt), K z σ1 → zAt p l e R s m args below meth c cells slots Q nL D cl A N ad cel (pc + 3) (lv) (vI z :: stk) (σ1)) : zAt p l e R s m args below meth c cells slots Q nL D cl A N ad cel (pc) lv (st0) σ :=
  by
  intro H locs ls hP hS hl
  subst hst
  have hsub : ∀ q, q < H.size → zA ad N H.size q → A q := fun q _ h => by rw [hC.2.2.2.2]; exact zA_le hS.1 h
  have hsub2 : ∀ q, zA ad N H.size q → A q := fun q h => by rw [hC.2.2.2.2]; exact zA_le hS.1 h
  refine va_calli (va_runS (As := As) (rest := stk) hC.1 (hM H.size) cw ⟨z_blind, fun U hU hW => ⟨rfl, z_pre hC hE hP hS hU hW⟩⟩ rfl hn hl.1 rfl (by show 2 * 0 + _ ≤ 8; omega) hdg hcs) hS hsub hsub2 (fun r u t H1 locs1 ht hvm hw hB hz1 hk1 hS1 => ?_)
  obtain ⟨z, rfl, hz⟩ := hw
  exact g z u hz H1 locs1 ls (ht ▸ hB.1) hS1 hl
theorem z_callSv (hC : zC p m c cc nL s args Ts own meth D cl tys A N ad cel) {y : MethodName} {bytes : ByteArray} {maxL n index : Nat} {ret : Option FieldType} {ws : List Cond} {rm : Room} {x : zX} {st0 : List Value} {K : zSt → Prop} (hE : zE x A s s.heap) (As : List Value) (hM : ∀ sz, Met l y ws rm (va_Pc As (zPre D cl tys x N ad cel sz σ)) (va_Qv K (zB D cl tys N ad cel) (zA ad N sz)) 0 0 (zA ad N sz)) (cw : CallB R s args own index y bytes maxL ret ws rm 0 0 n ∧ (Cond.static y).before args s = true) (hn : As.length = n) (hst : st0 = As.reverse ++ stk) (hWd : (stk.map fun v => v.category).sum ≤ 8) (hcs : cells ≤ R.cells ∧ slots ≤ R.slots) (hdg : decode cc pc = .ok (.invokestatic index, 3)) (g : ∀ σ1 : zSt, K σ1 → zAt p l e R s m args below meth c cells slots Q nL D cl A N ad cel (pc + 3) (lv) (stk) (σ1)) : zAt p l e R s m args below meth c cells slots Q nL D cl A N ad cel (pc) lv (st0) σ :=
  by
  intro H locs ls hP hS hl
  subst hst
  have hsub : ∀ q, q < H.size → zA ad N H.size q → A q := fun q _ h => by rw [hC.2.2.2.2]; exact zA_le hS.1 h
  have hsub2 : ∀ q, zA ad N H.size q → A q := fun q h => by rw [hC.2.2.2.2]; exact zA_le hS.1 h
  refine va_callv (va_runS (As := As) (rest := stk) hC.1 (hM H.size) cw ⟨z_blind, fun U hU hW => ⟨rfl, z_pre hC hE hP hS hU hW⟩⟩ rfl hn hl.1 rfl (by show 2 * 0 + _ ≤ 8; omega) hdg hcs) hS hsub hsub2 (fun u t H1 locs1 ht hvm hw hB hz1 hk1 hS1 => ?_)
  exact g u hw H1 locs1 ls (ht ▸ hB.1) hS1 hl
theorem z_callSr (hC : zC p m c cc nL s args Ts own meth D cl tys A N ad cel) {y : MethodName} {bytes : ByteArray} {maxL n index : Nat} {ret : Option FieldType} {ws : List Cond} {rm : Room} {x : zX} {st0 : List Value} {K : Int → zSt → Prop} (hE : zE x A s s.heap) (As : List Value) (hM : ∀ sz, Met l y ws rm (va_Pc As (zPre D cl tys x N ad cel sz σ)) (va_Qr (fun u : Int × zSt => K u.1 u.2) (zQr D cl tys N ad cel) (zA ad N sz)) 0 0 (zA ad N sz)) (cw : CallB R s args own index y bytes maxL ret ws rm 0 0 n ∧ (Cond.static y).before args s = true) (hn : As.length = n) (hst : st0 = As.reverse ++ stk) (hWd : (stk.map fun v => v.category).sum ≤ 8) (hcs : cells ≤ R.cells ∧ slots ≤ R.slots) (hdg : decode cc pc = .ok (.invokestatic index, 3)) (g : ∀ (z : Int) (σ1 : zSt), K z σ1 → zAt p l e R s m args below meth c cells slots Q nL D cl A N ad cel (pc + 3) (lv) (vR ad z :: stk) (σ1)) : zAt p l e R s m args below meth c cells slots Q nL D cl A N ad cel (pc) lv (st0) σ :=
  by
  intro H locs ls hP hS hl
  subst hst
  have hsub : ∀ q, q < H.size → zA ad N H.size q → A q := fun q _ h => by rw [hC.2.2.2.2]; exact zA_le hS.1 h
  have hsub2 : ∀ q, zA ad N H.size q → A q := fun q h => by rw [hC.2.2.2.2]; exact zA_le hS.1 h
  refine va_callr (va_runS (As := As) (rest := stk) hC.1 (hM H.size) cw ⟨z_blind, fun U hU hW => ⟨rfl, z_pre hC hE hP hS hU hW⟩⟩ rfl hn hl.1 rfl (by show 2 * 0 + _ ≤ 8; omega) hdg hcs) hS hsub hsub2 (fun u ra t H1 locs1 ht hvm hw hB hz1 hk1 hS1 => ?_)
  obtain ⟨rfl, hB⟩ := hB
  exact g u.1 u.2 hw H1 locs1 ls (ht ▸ hB.1) hS1 hl
theorem z_callSNi (hC : zC p m c cc nL s args Ts own meth D cl tys A N ad cel) {y : MethodName} {bytes : ByteArray} {maxL n index : Nat} {ret : Option FieldType} {ws : List Cond} {rm : Room} {x : zX} {host : String} {st0 : List Value} {K : Int → zSt → Prop} (hE : zE x A s s.heap) (As : List Value) (hM : ∀ sz, Met l y ws rm (va_Pc As (zPre D cl tys x N ad cel sz σ)) (va_Qi (zPi K) (zB D cl tys N ad cel) (zA ad N sz)) 0 0 (zA ad N sz)) (cw : va_CN R s args own index y host bytes maxL ret ws rm 0 0 n ∧ (Cond.static y).before args s = true ∧ True) (hn : As.length = n) (hst : st0 = As.reverse ++ stk) (hWd : (stk.map fun v => v.category).sum ≤ 8) (hcs : cells ≤ R.cells ∧ slots ≤ R.slots) (hdg : decode cc pc = .ok (.invokestatic index, 3)) (g : ∀ (z : Int) (σ1 : zSt), K z σ1 → zAt p l e R s m args below meth c cells slots Q nL D cl A N ad cel (pc + 3) (lv) (vI z :: stk) (σ1)) : zAt p l e R s m args below meth c cells slots Q nL D cl A N ad cel (pc) lv (st0) σ :=
  by
  intro H locs ls hP hS hl
  subst hst
  have hsub : ∀ q, q < H.size → zA ad N H.size q → A q := fun q _ h => by rw [hC.2.2.2.2]; exact zA_le hS.1 h
  have hsub2 : ∀ q, zA ad N H.size q → A q := fun q h => by rw [hC.2.2.2.2]; exact zA_le hS.1 h
  refine va_calli (va_runSN (As := As) (rest := stk) hC.1 (hM H.size) cw ⟨z_blind, fun U hU hW => ⟨rfl, z_pre hC hE hP hS hU hW⟩⟩ rfl hn hl.1 rfl (by show 2 * 0 + _ ≤ 8; omega) hdg hcs) hS hsub hsub2 (fun r u t H1 locs1 ht hvm hw hB hz1 hk1 hS1 => ?_)
  obtain ⟨z, rfl, hz⟩ := hw
  exact g z u hz H1 locs1 ls (ht ▸ hB.1) hS1 hl
theorem z_callSNv (hC : zC p m c cc nL s args Ts own meth D cl tys A N ad cel) {y : MethodName} {bytes : ByteArray} {maxL n index : Nat} {ret : Option FieldType} {ws : List Cond} {rm : Room} {x : zX} {host : String} {st0 : List Value} {K : zSt → Prop} (hE : zE x A s s.heap) (As : List Value) (hM : ∀ sz, Met l y ws rm (va_Pc As (zPre D cl tys x N ad cel sz σ)) (va_Qv K (zB D cl tys N ad cel) (zA ad N sz)) 0 0 (zA ad N sz)) (cw : va_CN R s args own index y host bytes maxL ret ws rm 0 0 n ∧ (Cond.static y).before args s = true ∧ True) (hn : As.length = n) (hst : st0 = As.reverse ++ stk) (hWd : (stk.map fun v => v.category).sum ≤ 8) (hcs : cells ≤ R.cells ∧ slots ≤ R.slots) (hdg : decode cc pc = .ok (.invokestatic index, 3)) (g : ∀ σ1 : zSt, K σ1 → zAt p l e R s m args below meth c cells slots Q nL D cl A N ad cel (pc + 3) (lv) (stk) (σ1)) : zAt p l e R s m args below meth c cells slots Q nL D cl A N ad cel (pc) lv (st0) σ :=
  by
  intro H locs ls hP hS hl
  subst hst
  have hsub : ∀ q, q < H.size → zA ad N H.size q → A q := fun q _ h => by rw [hC.2.2.2.2]; exact zA_le hS.1 h
  have hsub2 : ∀ q, zA ad N H.size q → A q := fun q h => by rw [hC.2.2.2.2]; exact zA_le hS.1 h
  refine va_callv (va_runSN (As := As) (rest := stk) hC.1 (hM H.size) cw ⟨z_blind, fun U hU hW => ⟨rfl, z_pre hC hE hP hS hU hW⟩⟩ rfl hn hl.1 rfl (by show 2 * 0 + _ ≤ 8; omega) hdg hcs) hS hsub hsub2 (fun u t H1 locs1 ht hvm hw hB hz1 hk1 hS1 => ?_)
  exact g u hw H1 locs1 ls (ht ▸ hB.1) hS1 hl
theorem z_callSNr (hC : zC p m c cc nL s args Ts own meth D cl tys A N ad cel) {y : MethodName} {bytes : ByteArray} {maxL n index : Nat} {ret : Option FieldType} {ws : List Cond} {rm : Room} {x : zX} {host : String} {st0 : List Value} {K : Int → zSt → Prop} (hE : zE x A s s.heap) (As : List Value) (hM : ∀ sz, Met l y ws rm (va_Pc As (zPre D cl tys x N ad cel sz σ)) (va_Qr (fun u : Int × zSt => K u.1 u.2) (zQr D cl tys N ad cel) (zA ad N sz)) 0 0 (zA ad N sz)) (cw : va_CN R s args own index y host bytes maxL ret ws rm 0 0 n ∧ (Cond.static y).before args s = true ∧ True) (hn : As.length = n) (hst : st0 = As.reverse ++ stk) (hWd : (stk.map fun v => v.category).sum ≤ 8) (hcs : cells ≤ R.cells ∧ slots ≤ R.slots) (hdg : decode cc pc = .ok (.invokestatic index, 3)) (g : ∀ (z : Int) (σ1 : zSt), K z σ1 → zAt p l e R s m args below meth c cells slots Q nL D cl A N ad cel (pc + 3) (lv) (vR ad z :: stk) (σ1)) : zAt p l e R s m args below meth c cells slots Q nL D cl A N ad cel (pc) lv (st0) σ :=
  by
  intro H locs ls hP hS hl
  subst hst
  have hsub : ∀ q, q < H.size → zA ad N H.size q → A q := fun q _ h => by rw [hC.2.2.2.2]; exact zA_le hS.1 h
  have hsub2 : ∀ q, zA ad N H.size q → A q := fun q h => by rw [hC.2.2.2.2]; exact zA_le hS.1 h
  refine va_callr (va_runSN (As := As) (rest := stk) hC.1 (hM H.size) cw ⟨z_blind, fun U hU hW => ⟨rfl, z_pre hC hE hP hS hU hW⟩⟩ rfl hn hl.1 rfl (by show 2 * 0 + _ ≤ 8; omega) hdg hcs) hS hsub hsub2 (fun u ra t H1 locs1 ht hvm hw hB hz1 hk1 hS1 => ?_)
  obtain ⟨rfl, hB⟩ := hB
  exact g u.1 u.2 hw H1 locs1 ls (ht ▸ hB.1) hS1 hl
end ZR3
