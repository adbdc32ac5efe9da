section ZR2
variable {p : Program} {l : Launch} {e : Env} {R : Room} {s : State} {m : MethodId} {args : Array Value} {below : List Frame} {meth : Method} {c : Code} {cells slots : Nat} {Q : State → Prop}
variable {cc : ByteArray} {nL : Nat} {Ts : List Cond} {own : String} {D : va_G} {cl : List vw_C} {tys : List (ClassId × FieldType)} {A : Nat → Prop} {N : Nat} {ad : Nat → Nat} {cel : zSt → Nat → va_E}
variable {pc : Nat} {lv : List (Nat × Value)} {stk : List Value} {σ : zSt}
theorem z_get (hC : zC p m c cc nL s args Ts own meth D cl tys A N ad cel) {ref C : String} {T : u_T} {Nf ci index : Nat} {fs : zSt → List Value} {kk : Int} (hin : ∀ w ∈ u_ws C T Nf, w ∈ Ts) (ho : zOb cl N cel ci (C, T, Nf) fs kk) (j : Nat) (hj : j < Nf) (hlink : (Cond.fieldLink own index ref (T j).2.1 (T j).2.2.1) ∈ Ts) (href : (T j).1 = ref) {v : Value} (hv : (fs σ)[j]? = some v) (hdg : decode cc pc = .ok (.getfield index, 3)) (g : zAt p l e R s m args below meth c cells slots Q nL D cl A N ad cel (pc + 3) (lv) (v :: stk) (σ)) : zAt p l e R s m args below meth c cells slots Q nL D cl A N ad cel (pc) lv (vR ad kk :: stk) σ :=
  fun H locs ls hP hS hl => va_get hC.1.1 hC.1.2.1 hC.1.2.2.2.2 hin hC.1.2.2.2.1 hC.2.1 hP kk.toNat (zW_at ho.1 (ho.2.2 σ)) ho.2.1 j hj (hC.1.2.2.2.2 _ hlink) (fun _ h => href ▸ h) hv hdg (g H locs ls hP hS hl)
theorem z_put (hC : zC p m c cc nL s args Ts own meth D cl tys A N ad cel) {ref C : String} {T : u_T} {Nf ci index : Nat} {fs : zSt → List Value} {kk : Int} (ty0 : Nat → FieldType) (hty : ∀ k, k < Nf → parseFieldDescriptor (T k).2.2.1 = some (ty0 k)) (hnm : ∀ a, a < Nf → ∀ b, b < Nf → a ≠ b → (T a).2.1 ≠ (T b).2.1) (hin : ∀ w ∈ u_ws C T Nf, w ∈ Ts) (ho : zOb cl N cel ci (C, T, Nf) fs kk) (hlo : zLo cel kk) (j : Nat) (hj : j < Nf) (hlink : (Cond.fieldLink own index ref (T j).2.1 (T j).2.2.1) ∈ Ts) (href : (T j).1 = ref) (hfin : (T j).2.2.2 = false) (i x : Int) {v : Value} (hv : (fs σ).set j v = fs (zu σ kk i x)) {ty : FieldType} (hd : parseFieldDescriptor (T j).2.2.1 = some ty) (hn : narrow ty v = v) (hfit : fits ty v = true) (hlen : j < (fs σ).length) (hdg : decode cc pc = .ok (.putfield index, 3)) (g : zAt p l e R s m args below meth c cells slots Q nL D cl A N ad cel (pc + 3) (lv) (stk) (zu σ kk i x)) : zAt p l e R s m args below meth c cells slots Q nL D cl A N ad cel (pc) lv (v :: vR ad kk :: stk) σ :=
  by
  intro H locs ls hP hS hl
  refine va_put hC.1.1 hC.1.2.1 hC.1.2.2.2.2 hin ty0 hty hnm hC.1.2.2.2.1 hC.2.1 hP (hC.2.2.1 σ) hS kk.toNat (zW_at ho.1 (ho.2.2 σ)) ho.2.1 j hj (hC.1.2.2.2.2 _ hlink) (fun _ h => href ▸ h) hfin hd hn hfit hlen hdg (fun H1 locs1 hP1 _ hS1 => ?_)
  rw [hv, zW_set (g := cel (zu σ kk i x)) (ho.2.2 _) (fun n hn => hlo σ i x n hn)] at hP1
  exact g H1 locs1 ls hP1 hS1 hl
theorem z_iaload (hC : zC p m c cc nL s args Ts own meth D cl tys A N ad cel) {kk i : Int} {len : Nat} (ha : zIA tys N cel .int len kk) (hi : 0 ≤ i ∧ i < len) (hdg : decode cc pc = .ok (.iaload, 1)) (g : zAt p l e R s m args below meth c cells slots Q nL D cl A N ad cel (pc + 1) (lv) (vI (σ kk i) :: stk) (σ)) : zAt p l e R s m args below meth c cells slots Q nL D cl A N ad cel (pc) lv (vI i :: vR ad kk :: stk) σ :=
  by
  intro H locs ls hP hS hl
  obtain ⟨h1, h2, t0, cA, ht, hc⟩ := ha
  have hr : zrg i := ⟨by omega, by omega⟩
  refine va_iald hC.1.1 hC.1.2.1 hC.2.1 hP kk.toNat t0 (zW_at h1 (hc σ)) ht (zi_in h2 hi) hdg ?_
  have e : (((Int32.ofInt i).toNatClampNeg : Nat) : Int) = i := by rw [zi_cl hr hi.1]; omega
  show W p l _ R s m args below meth c H locs cells slots Q (F0 m (pc + 1) ls (.int (Int32.ofInt (σ kk (((Int32.ofInt i).toNatClampNeg : Nat) : Int))) :: stk))
  rw [e]
  exact g H locs ls hP hS hl
theorem z_baload (hC : zC p m c cc nL s args Ts own meth D cl tys A N ad cel) {kk i : Int} {len : Nat} (ha : zIA tys N cel .byte len kk) (hi : 0 ≤ i ∧ i < len) (hdg : decode cc pc = .ok (.baload, 1)) (g : zAt p l e R s m args below meth c cells slots Q nL D cl A N ad cel (pc + 1) (lv) (vI (σ kk i) :: stk) (σ)) : zAt p l e R s m args below meth c cells slots Q nL D cl A N ad cel (pc) lv (vI i :: vR ad kk :: stk) σ :=
  by
  intro H locs ls hP hS hl
  obtain ⟨h1, h2, t0, cA, ht, hc⟩ := ha
  have hr : zrg i := ⟨by omega, by omega⟩
  refine va_bald hC.1.1 hC.1.2.1 hC.2.1 hP kk.toNat t0 (zW_at h1 (hc σ)) ht (zi_in h2 hi) hdg ?_
  have e : (((Int32.ofInt i).toNatClampNeg : Nat) : Int) = i := by rw [zi_cl hr hi.1]; omega
  show W p l _ R s m args below meth c H locs cells slots Q (F0 m (pc + 1) ls (.int (Int32.ofInt (σ kk (((Int32.ofInt i).toNatClampNeg : Nat) : Int))) :: stk))
  rw [e]
  exact g H locs ls hP hS hl
theorem z_zaload (hC : zC p m c cc nL s args Ts own meth D cl tys A N ad cel) {kk i : Int} {len : Nat} (ha : zIA tys N cel .boolean len kk) (hi : 0 ≤ i ∧ i < len) (hdg : decode cc pc = .ok (.baload, 1)) (g : zAt p l e R s m args below meth c cells slots Q nL D cl A N ad cel (pc + 1) (lv) (vI (σ kk i) :: stk) (σ)) : zAt p l e R s m args below meth c cells slots Q nL D cl A N ad cel (pc) lv (vI i :: vR ad kk :: stk) σ :=
  by
  intro H locs ls hP hS hl
  obtain ⟨h1, h2, t0, cA, ht, hc⟩ := ha
  have hr : zrg i := ⟨by omega, by omega⟩
  refine va_zald hC.1.1 hC.1.2.1 hC.2.1 hP kk.toNat t0 (zW_at h1 (hc σ)) ht (zi_in h2 hi) hdg ?_
  have e : (((Int32.ofInt i).toNatClampNeg : Nat) : Int) = i := by rw [zi_cl hr hi.1]; omega
  show W p l _ R s m args below meth c H locs cells slots Q (F0 m (pc + 1) ls (.int (Int32.ofInt (σ kk (((Int32.ofInt i).toNatClampNeg : Nat) : Int))) :: stk))
  rw [e]
  exact g H locs ls hP hS hl
theorem zu_fun {σ : zSt} {kk i x : Int} {n : Nat} (hr : zrg i) (h0 : 0 ≤ i) : (fun j : Nat => Int32.ofInt (zu σ kk i x kk (j : Int))) = upd (fun j : Nat => Int32.ofInt (σ kk (j : Int))) (Int32.ofInt i).toNatClampNeg (Int32.ofInt x) := by
  funext j
  rw [zi_cl hr h0]
  by_cases hj : j = i.toNat
  · subst hj
    rw [show ((i.toNat : Nat) : Int) = i by omega]
    simp [zu, upd]
  · have : ¬ ((j : Int) = i) := by omega
    simp [zu, upd, hj, this]
theorem z_iastore (hC : zC p m c cc nL s args Ts own meth D cl tys A N ad cel) {kk i x : Int} {len : Nat} (ha : zIA tys N cel .int len kk) (hlo : zLo cel kk) (hi : 0 ≤ i ∧ i < len) (hdg : decode cc pc = .ok (.iastore, 1)) (g : zAt p l e R s m args below meth c cells slots Q nL D cl A N ad cel (pc + 1) (lv) (stk) (zu σ kk i x)) : zAt p l e R s m args below meth c cells slots Q nL D cl A N ad cel (pc) lv (vI x :: vI i :: vR ad kk :: stk) σ :=
  by
  intro H locs ls hP hS hl
  obtain ⟨h1, h2, t0, cA, ht, hc⟩ := ha
  have hr : zrg i := ⟨by omega, by omega⟩
  refine va_iast hC.1.1 hC.1.2.1 hC.2.1 hP (hC.2.2.1 σ) hS kk.toNat t0 (zW_at h1 (hc σ)) ht (zi_in h2 hi) hdg (fun H1 locs1 hP1 _ hS1 => ?_)
  rw [← zu_fun (n := len) hr hi.1, zW_set (g := cel (zu σ kk i x)) (hc _) (fun n hn => hlo σ i x n hn)] at hP1
  exact g H1 locs1 ls hP1 hS1 hl
theorem zbool {x : Int} (h : x = 0 ∨ x = 1) : vp_nar .boolean (Int32.ofInt x) = Int32.ofInt x := by
  rcases h with rfl | rfl <;> decide +kernel
theorem z_bastore (hC : zC p m c cc nL s args Ts own meth D cl tys A N ad cel) {kk i x : Int} {len : Nat} (ha : zIA tys N cel .byte len kk) (hlo : zLo cel kk) (hi : 0 ≤ i ∧ i < len) (hx : vp_nar .byte (Int32.ofInt x) = Int32.ofInt x) (hdg : decode cc pc = .ok (.bastore, 1)) (g : zAt p l e R s m args below meth c cells slots Q nL D cl A N ad cel (pc + 1) (lv) (stk) (zu σ kk i x)) : zAt p l e R s m args below meth c cells slots Q nL D cl A N ad cel (pc) lv (vI x :: vI i :: vR ad kk :: stk) σ :=
  by
  intro H locs ls hP hS hl
  obtain ⟨h1, h2, t0, cA, ht, hc⟩ := ha
  have hr : zrg i := ⟨by omega, by omega⟩
  refine va_bast hC.1.1 hC.1.2.1 hC.2.1 hP (hC.2.2.1 σ) hS kk.toNat t0 (zW_at h1 (hc σ)) ht (zi_in h2 hi) hdg (fun H1 locs1 hP1 _ hS1 => ?_)
  rw [hx] at hP1
  rw [← zu_fun (n := len) hr hi.1, zW_set (g := cel (zu σ kk i x)) (hc _) (fun n hn => hlo σ i x n hn)] at hP1
  exact g H1 locs1 ls hP1 hS1 hl
theorem z_zastore (hC : zC p m c cc nL s args Ts own meth D cl tys A N ad cel) {kk i x : Int} {len : Nat} (ha : zIA tys N cel .boolean len kk) (hlo : zLo cel kk) (hi : 0 ≤ i ∧ i < len) (hx : x = 0 ∨ x = 1) (hdg : decode cc pc = .ok (.bastore, 1)) (g : zAt p l e R s m args below meth c cells slots Q nL D cl A N ad cel (pc + 1) (lv) (stk) (zu σ kk i x)) : zAt p l e R s m args below meth c cells slots Q nL D cl A N ad cel (pc) lv (vI x :: vI i :: vR ad kk :: stk) σ :=
  by
  intro H locs ls hP hS hl
  obtain ⟨h1, h2, t0, cA, ht, hc⟩ := ha
  have hr : zrg i := ⟨by omega, by omega⟩
  refine va_zast hC.1.1 hC.1.2.1 hC.2.1 hP (hC.2.2.1 σ) hS kk.toNat t0 (zW_at h1 (hc σ)) ht (zi_in h2 hi) hdg (fun H1 locs1 hP1 _ hS1 => ?_)
  rw [zbool hx] at hP1
  rw [← zu_fun (n := len) hr hi.1, zW_set (g := cel (zu σ kk i x)) (hc _) (fun n hn => hlo σ i x n hn)] at hP1
  exact g H1 locs1 ls hP1 hS1 hl
theorem z_aaload (hC : zC p m c cc nL s args Ts own meth D cl tys A N ad cel) {kk i : Int} {len : Nat} {C : String} {f : zSt → Int → Int} (ha : zRA tys N ad cel C len f kk) (hi : 0 ≤ i ∧ i < len) (hdg : decode cc pc = .ok (.aaload, 1)) (g : zAt p l e R s m args below meth c cells slots Q nL D cl A N ad cel (pc + 1) (lv) (vR ad (f σ i) :: stk) (σ)) : zAt p l e R s m args below meth c cells slots Q nL D cl A N ad cel (pc) lv (vI i :: vR ad kk :: stk) σ :=
  by
  intro H locs ls hP hS hl
  obtain ⟨h1, h2, t0, cA, ht, hc⟩ := ha
  have hr : zrg i := ⟨by omega, by omega⟩
  refine va_aldq hC.1.1 hC.1.2.1 hC.2.1 hP kk.toNat t0 (zW_at h1 (hc σ)) ht (zi_in h2 hi) hdg ?_
  have e : (((Int32.ofInt i).toNatClampNeg : Nat) : Int) = i := by rw [zi_cl hr hi.1]; omega
  show W p l _ R s m args below meth c H locs cells slots Q (F0 m (pc + 1) ls (.ref (ad (f σ (((Int32.ofInt i).toNatClampNeg : Nat) : Int)).toNat) :: stk))
  rw [e]
  exact g H locs ls hP hS hl
theorem z_aastore (hC : zC p m c cc nL s args Ts own meth D cl tys A N ad cel) {kk i x : Int} {len ci : Nat} {r : vw_C} {fs : zSt → List Value} (ha : zRA tys N ad cel r.1 len (fun σ i => σ kk i) kk) (hlo : zLo cel kk) (ho : zOb cl N cel ci r fs x) (hi : 0 ≤ i ∧ i < len) (hdg : decode cc pc = .ok (.aastore, 1)) (g : zAt p l e R s m args below meth c cells slots Q nL D cl A N ad cel (pc + 1) (lv) (stk) (zu σ kk i x)) : zAt p l e R s m args below meth c cells slots Q nL D cl A N ad cel (pc) lv (vR ad x :: vI i :: vR ad kk :: stk) σ :=
  by
  intro H locs ls hP hS hl
  obtain ⟨h1, h2, t0, cA, ht, hc⟩ := ha
  have hr : zrg i := ⟨by omega, by omega⟩
  refine va_astq hC.1.1 hC.1.2.1 hC.2.1 hP (hC.2.2.1 σ) hS kk.toNat t0 x.toNat ci (zW_at h1 (hc σ)) ht (zW_at ho.1 (ho.2.2 σ)) ho.2.1 (zi_in h2 hi) hdg (fun H1 locs1 hP1 _ hS1 => ?_)
  have e : (fun j : Nat => some (ad (zu σ kk i x kk (j : Int)).toNat)) = va_up (fun j : Nat => some (ad (σ kk (j : Int)).toNat)) (Int32.ofInt i).toNatClampNeg (some (ad x.toNat)) := by
    funext j
    rw [zi_cl hr hi.1]
    by_cases hj : j = i.toNat
    · subst hj
      rw [show ((i.toNat : Nat) : Int) = i by omega]
      simp [zu, va_up]
    · have : ¬ ((j : Int) = i) := by omega
      simp [zu, va_up, hj, this]
  rw [← e, zW_set (g := cel (zu σ kk i x)) (hc _) (fun n hn => hlo σ i x n hn)] at hP1
  exact g H1 locs1 ls hP1 hS1 hl
theorem z_gets (hC : zC p m c cc nL s args Ts own meth D cl tys A N ad cel) {x : zX} (hE : zE x A s s.heap) {n : String} {q : Nat} {f : Nat → Int32} (hq : (n, q, f) ∈ x.2.1) {index : Nat} (hlink : (Cond.fieldLink own index "GlacierCamera" n "[I") ∈ Ts) (hdg : decode cc pc = .ok (.getstatic index, 3)) (g : zAt p l e R s m args below meth c cells slots Q nL D cl A N ad cel (pc + 3) (lv) (.ref q :: stk) (σ)) : zAt p l e R s m args below meth c cells slots Q nL D cl A N ad cel (pc) lv (stk) σ :=
  fun H locs ls hP hS hl => va_gets hC.1.1 hC.1.2.1 ((hE.2.1 _ hq).1) hS hC.1.2.2.2.1 (hC.1.2.2.2.2 _ hlink) (fun _ h => h) hdg (g H locs ls hP hS hl)
theorem z_getsN (hC : zC p m c cc nL s args Ts own meth D cl tys A N ad cel) {x : zX} (hE : zE x A s s.heap) {n : String} {q : Nat} {f : Nat → Int32} (hq : (n, q, f) ∈ x.2.1) {index : Nat} {host : String} (hlink : (Cond.fieldLinkNest own index "GlacierCamera" n "[I" host) ∈ x.1) (hdg : decode cc pc = .ok (.getstatic index, 3)) (g : zAt p l e R s m args below meth c cells slots Q nL D cl A N ad cel (pc + 3) (lv) (.ref q :: stk) (σ)) : zAt p l e R s m args below meth c cells slots Q nL D cl A N ad cel (pc) lv (stk) σ :=
  fun H locs ls hP hS hl => va_getsN hC.1.1 hC.1.2.1 ((hE.2.1 _ hq).1) hS hC.1.2.2.2.1 (va_Nw.use rfl (hE.1 _ hlink).1) (fun _ h => h) hdg (g H locs ls hP hS hl)
theorem z_sald (hC : zC p m c cc nL s args Ts own meth D cl tys A N ad cel) {x : zX} (hE : zE x A s s.heap) {n : String} {q : Nat} {f : Nat → Int32} (hq : (n, q, f) ∈ x.2.1) {F : Int → Int} (hF : ∀ j : Nat, j < 8 → f j = Int32.ofInt (F (j : Int))) {i : Int} (hi : 0 ≤ i ∧ i < 8) (hdg : decode cc pc = .ok (.iaload, 1)) (g : zAt p l e R s m args below meth c cells slots Q nL D cl A N ad cel (pc + 1) (lv) (vI (F i) :: stk) (σ)) : zAt p l e R s m args below meth c cells slots Q nL D cl A N ad cel (pc) lv (vI i :: .ref q :: stk) σ :=
  by
  intro H locs ls hP hS hl
  obtain ⟨-, h2, h3, h4⟩ := hE.2.1 _ hq
  have hr : zrg i := ⟨by omega, by omega⟩
  refine va_sld hC.1.1 hC.1.2.1 h2 h3 h4 hS (zi_in (by omega) (n := 8) hi) hdg ?_
  have e : (((Int32.ofInt i).toNatClampNeg : Nat) : Int) = i := by rw [zi_cl hr hi.1]; omega
  have e2 := hF (Int32.ofInt i).toNatClampNeg (by omega)
  rw [e] at e2
  show W p l _ R s m args below meth c H locs cells slots Q (F0 m (pc + 1) ls (.int (f (Int32.ofInt i).toNatClampNeg) :: stk))
  rw [e2]
  exact g H locs ls hP hS hl
end ZR2
