/-! text constants -/
section ZR7
variable {p : Program} {l : Launch} {e : Env} {R : Room} {s : State} {m : MethodId} {args : Array Value} {below : List Frame} {meth : Method} {c : Code} {cells slots : Nat} {Q : State → Prop}
variable {cc : ByteArray} {nL : Nat} {Ts : List Cond} {own : String} {D : va_G} {cl : List vw_C} {tys : List (ClassId × FieldType)} {A : Nat → Prop} {N : Nat} {ad : Nat → Nat} {cel : zSt → Nat → va_E}
variable {pc : Nat} {lv : List (Nat × Value)} {stk : List Value} {σ : zSt} {aL aG aI : Nat} {aK aV : Nat → Nat}
theorem zSt_ok : ∀ i : Nat, i < 21 → zSlen.getD i 0 = (zSbyt.getD i []).length ∧ ∀ j : Nat, j < zSlen.getD i 0 → 0 ≤ cChr (i : Int) (j : Int) ∧ cChr (i : Int) (j : Int) < 128 := by decide +kernel
theorem z_ldcS (hC : zC p m c cc nL s args Ts own meth D cl tys A N ad cel) {x : zX} (hE : zE x A s s.heap) {index q : Nat} {tx : String} (hq : (own, index, tx, q) ∈ x.2.2.1) (hdg : decode cc pc = .ok (.ldc index, 2)) (g : zAt p l e R s m args below meth c cells slots Q nL D cl A N ad cel (pc + 2) (lv) (.ref q :: stk) (σ)) : zAt p l e R s m args below meth c cells slots Q nL D cl A N ad cel (pc) lv (stk) σ :=
  fun H locs ls hP hS hl => va_ldcS hC.1.1 hC.1.2.1 hC.1.2.2.2.1 (hE.2.2.1 _ hq) hdg (g H locs ls hP hS hl)
theorem z_sval (hC : zC p m c cc nL s args Ts own meth D cl tys A N ad cel) (hE : zE (zXX aL aG aI aK aV) A s s.heap) {i : Int} (hi : 0 ≤ i ∧ i < 21) {index : Nat} (hlink : Cond.fieldLink own index "java/lang/String" "value" "[B" ∈ Ts) (hdg : decode cc pc = .ok (.getfield index, 3)) (g : zAt p l e R s m args below meth c cells slots Q nL D cl A N ad cel (pc + 3) (lv) (.ref (aV i.toNat) :: stk) (σ)) : zAt p l e R s m args below meth c cells slots Q nL D cl A N ad cel (pc) lv (.ref (aK i.toNat) :: stk) σ :=
  fun H locs ls hP hS hl => vk_getf hC.1.1 hC.1.2.1 (hE.2.2.2.1.1 i.toNat (by show i.toNat < 21; omega)).2.2.1 hS hC.1.2.2.2.1 (hC.1.2.2.2.2 _ hlink) (fun _ h => h) hdg (g H locs ls hP hS hl)
theorem z_scod (hC : zC p m c cc nL s args Ts own meth D cl tys A N ad cel) (hE : zE (zXX aL aG aI aK aV) A s s.heap) {i : Int} (hi : 0 ≤ i ∧ i < 21) {index : Nat} (hlink : Cond.fieldLink own index "java/lang/String" "coder" "B" ∈ Ts) (hdg : decode cc pc = .ok (.getfield index, 3)) (g : zAt p l e R s m args below meth c cells slots Q nL D cl A N ad cel (pc + 3) (lv) (vI 0 :: stk) (σ)) : zAt p l e R s m args below meth c cells slots Q nL D cl A N ad cel (pc) lv (.ref (aK i.toNat) :: stk) σ :=
  fun H locs ls hP hS hl => vk_getf (v := .int 0) hC.1.1 hC.1.2.1 (hE.2.2.2.1.1 i.toNat (by show i.toNat < 21; omega)).2.1 hS hC.1.2.2.2.1 (hC.1.2.2.2.2 _ hlink) (fun _ h => h) hdg (g H locs ls hP hS hl)
theorem z_slen (hC : zC p m c cc nL s args Ts own meth D cl tys A N ad cel) (hE : zE (zXX aL aG aI aK aV) A s s.heap) {i : Int} (hi : 0 ≤ i ∧ i < 21) (hdg : decode cc pc = .ok (.arraylength, 1)) (g : zAt p l e R s m args below meth c cells slots Q nL D cl A N ad cel (pc + 1) (lv) (vI (cLen i) :: stk) (σ)) : zAt p l e R s m args below meth c cells slots Q nL D cl A N ad cel (pc) lv (.ref (aV i.toNat) :: stk) σ :=
  fun H locs ls hP hS hl => va_tlen hC.1.1 hC.1.2.1 (hE.2.2.2.1.1 i.toNat (by show i.toNat < 21; omega)).2.2.2 hS (Int32.ofInt_eq_ofNat).symm hdg (g H locs ls hP hS hl)
theorem z_sbld (hC : zC p m c cc nL s args Ts own meth D cl tys A N ad cel) (hE : zE (zXX aL aG aI aK aV) A s s.heap) {i j : Int} (hi : 0 ≤ i ∧ i < 21) (hj : 0 ≤ j ∧ j < cLen i) (hdg : decode cc pc = .ok (.baload, 1)) (g : zAt p l e R s m args below meth c cells slots Q nL D cl A N ad cel (pc + 1) (lv) (vI (cChr i j) :: stk) (σ)) : zAt p l e R s m args below meth c cells slots Q nL D cl A N ad cel (pc) lv (vI j :: .ref (aV i.toNat) :: stk) σ :=
  by
  intro H locs ls hP hS hl
  have hb : ∀ n : Nat, n < 21 → zSlen.getD n 0 < 2147483648 := by decide +kernel
  have hb2 := hb i.toNat (by omega)
  have hj2 : j < (zSlen.getD i.toNat 0 : Nat) := hj.2
  have hr : zrg j := ⟨by omega, by omega⟩
  refine va_tb hC.1.1 hC.1.2.1 (hE.2.2.2.1.1 i.toNat (by show i.toNat < 21; omega)).2.2.2 hS (zi_in hb2 ⟨hj.1, hj2⟩) (v := vI (cChr i j)) ?_ hdg (g H locs ls hP hS hl)
  show Value.int ((zSbyt.getD i.toNat []).getD (Int32.ofInt j).toNatClampNeg 0) = Value.int (Int32.ofInt (((zSbyt.getD i.toNat []).getD j.toNat 0).toInt))
  rw [zi_cl hr hj.1, Int32.ofInt_toInt]
theorem z_comp (hC : zC p m c cc nL s args Ts own meth D cl tys A N ad cel) {x : zX} (hE : zE x A s s.heap) (hfl : x.2.2.2.2 = true) {index : Nat} (hlink : Cond.fieldLink own index "java/lang/String" "COMPACT_STRINGS" "Z" ∈ Ts) (hdg : decode cc pc = .ok (.getstatic index, 3)) (g : zAt p l e R s m args below meth c cells slots Q nL D cl A N ad cel (pc + 3) (lv) (vI 1 :: stk) (σ)) : zAt p l e R s m args below meth c cells slots Q nL D cl A N ad cel (pc) lv (stk) σ :=
  fun H locs ls hP hS hl => va_gets (v := .int 1) hC.1.1 hC.1.2.1 (hE.2.2.2.2 hfl).2.2.1 hS hC.1.2.2.2.1 (hC.1.2.2.2.2 _ hlink) (fun _ h => h) hdg (g H locs ls hP hS hl)
theorem z_sio (hC : zC p m c cc nL s args Ts own meth D cl tys A N ad cel) {x : zX} (hE : zE x A s s.heap) (hfl : x.2.2.2.2 = true) {index : Nat} (hlink : Cond.fieldLink own index "jdk/internal/util/Preconditions" "SIOOBE_FORMATTER" "Ljava/util/function/BiFunction;" ∈ Ts) (hdg : decode cc pc = .ok (.getstatic index, 3)) (g : ∀ v : Value, (v = .null ∨ ∃ t, v = .ref t) → zAt p l e R s m args below meth c cells slots Q nL D cl A N ad cel (pc + 3) (lv) (v :: stk) (σ)) : zAt p l e R s m args below meth c cells slots Q nL D cl A N ad cel (pc) lv (stk) σ :=
  by
  intro H locs ls hP hS hl
  rcases (hE.2.2.2.2 hfl).2.2.2 with h | ⟨t, h⟩
  · exact va_gets hC.1.1 hC.1.2.1 h hS hC.1.2.2.2.1 (hC.1.2.2.2.2 _ hlink) (fun _ h => h) hdg (g _ (Or.inl rfl) H locs ls hP hS hl)
  · exact va_gets hC.1.1 hC.1.2.1 h hS hC.1.2.2.2.1 (hC.1.2.2.2.2 _ hlink) (fun _ h => h) hdg (g _ (Or.inr ⟨t, rfl⟩) H locs ls hP hS hl)
theorem zi_c {x : Int} (h : 0 ≤ x ∧ x < 65536) : ((Int32.ofInt x).toUInt32 % 65536).toInt32 = Int32.ofInt x := by
  obtain ⟨n, rfl⟩ : ∃ n : Nat, x = n := ⟨x.toNat, by omega⟩
  have hn : n < 65536 := by omega
  rw [Int32.ofInt_eq_ofNat]
  exact (pk_char (nI n)).trans (by rw [pk_tn (by omega), Nat.mod_eq_of_lt hn]; rfl)
theorem z_i2c (hC : zC p m c cc nL s args Ts own meth D cl tys A N ad cel) {x : Int} (hx : 0 ≤ x ∧ x < 65536) (hdg : decode cc pc = .ok (.i2c, 1)) (g : zAt p l e R s m args below meth c cells slots Q nL D cl A N ad cel (pc + 1) (lv) (vI x :: stk) (σ)) : zAt p l e R s m args below meth c cells slots Q nL D cl A N ad cel (pc) lv (vI x :: stk) σ :=
  fun H locs ls hP hS hl => lv_i2c hC.1.1 hC.1.2.1 hdg (zi_c hx) (g H locs ls hP hS hl)
theorem z_lcon (hC : zC p m c cc nL s args Ts own meth D cl tys A N ad cel) {n : Fin 2} {z : Int} (hdg : decode cc pc = .ok (.lconst n, 1)) (hv : Int64.ofNat (n : Nat) = Int64.ofInt z) (g : zAt p l e R s m args below meth c cells slots Q nL D cl A N ad cel (pc + 1) (lv) (vL z :: stk) (σ)) : zAt p l e R s m args below meth c cells slots Q nL D cl A N ad cel (pc) lv (stk) σ :=
  fun H locs ls hP hS hl => lv_lconst hC.1.1 hC.1.2.1 hdg hv (g H locs ls hP hS hl)
theorem z_pop (hC : zC p m c cc nL s args Ts own meth D cl tys A N ad cel) {va : Value} (hdg : decode cc pc = .ok (.pop, 1)) (hva : va.category = 1) (g : zAt p l e R s m args below meth c cells slots Q nL D cl A N ad cel (pc + 1) (lv) (stk) (σ)) : zAt p l e R s m args below meth c cells slots Q nL D cl A N ad cel (pc) lv (va :: stk) σ :=
  fun H locs ls hP hS hl => lv_pop hC.1.1 hC.1.2.1 hdg hva (g H locs ls hP hS hl)
theorem znar_c {v : Int} (h : 0 ≤ v ∧ v < 65536) : narrow .char (.int (Int32.ofInt v)) = .int (Int32.ofInt v) := by
  obtain ⟨n, rfl⟩ : ∃ n : Nat, v = n := ⟨v.toNat, by omega⟩
  rw [Int32.ofInt_eq_ofNat]
  exact (pk_charN (q := n) (by omega)).1
theorem z_gret (hC : zC p m c cc nL s args Ts own meth D cl tys A N ad cel) {ret : Option FieldType} (hr : meth.sig.returnType = ret) {ty : FieldType} (hri : ret = some ty) {K : Int → zSt → Prop} {v : Int} (hdg : decode cc pc = .ok (.ireturn, 1)) (hv : narrow ty (.int (Int32.ofInt v)) = .int (Int32.ofInt v)) (hq : K v σ) : zAt p l e R s m args below meth c cells slots (MQ below (va_Qi (zPi K) (zB D cl tys N ad cel) A) args s cells slots A) nL D cl A N ad cel pc lv [vI v] σ := by
  intro H locs ls hP hS hl
  exact W.zret hC.1.1 hC.1.2.1 (hr.trans hri) hv (fun t ht hW => ⟨⟨_, σ, rfl, ⟨v, rfl, hq⟩, by rw [ht]; exact hP, va_K.moved hW.alike hC.2.1⟩, hS.F ht⟩) hS.2.2 hdg (hlocks := hC.2.2.2.1)
theorem z_callT (hC : zC p m c cc nL s args Ts own meth D cl tys A N ad cel) {y : MethodName} {bytes : ByteArray} {maxL n index : Nat} {ret : Option FieldType} {ws : List Cond} {rm : Room} {st0 : List Value} {K : Int → zSt → Prop} (hE : zE (zXX aL aG aI aK aV) A s s.heap) {i : Int} (hi : 0 ≤ i ∧ i < 21) (As : List Value) (hM : ∀ sz, Met l y ws rm (va_Pc (.ref (aK i.toNat) :: As) (zPre D cl tys (zXX aL aG aI aK aV) N ad cel sz σ)) (va_Qi (zPi K) (zB D cl tys N ad cel) (zA ad N sz)) 0 0 (zA ad N sz)) (cw : CallW R s args own "java/lang/String" index y bytes maxL ret ws rm 0 0 n) (hn : As.length = n) (hst : st0 = As.reverse ++ .ref (aK i.toNat) :: stk) (hWd : (stk.map fun v => v.category).sum ≤ 8) (hcs : cells ≤ R.cells ∧ slots ≤ R.slots) (hdg : decode cc pc = .ok (.invokevirtual index, 3)) (g : ∀ (z : Int) (σ1 : zSt), K z σ1 → zAt p l e R s m args below meth c cells slots Q nL D cl A N ad cel (pc + 3) (lv) (vI z :: stk) (σ1)) : zAt p l e R s m args below meth c cells slots Q nL D cl A N ad cel pc lv st0 σ := by
  intro H locs ls hP hS hl
  subst hst
  have hsub : ∀ q, q < H.size → zA ad N H.size q → A q := fun q _ h => by rw [hC.2.2.2.2]; exact zA_le hS.1 h
  have hsub2 : ∀ q, zA ad N H.size q → A q := fun q h => by rw [hC.2.2.2.2]; exact zA_le hS.1 h
  obtain ⟨cell, e1, e2, e3, -⟩ := ((hE.2.2.2.1.1 i.toNat (by show i.toNat < 21; omega)).1).kept hS.2.1
  refine va_calli (va_runV (As := As) (rest := stk) hC.1 (hM H.size) cw ⟨z_blind, ⟨cell, e1, e2, e3⟩, fun U hU hW => ⟨rfl, z_pre hC hE hP hS hU hW⟩⟩ rfl hn hl.1 rfl (by show 2 * 0 + _ ≤ 8; omega) hdg hcs) hS hsub hsub2 (fun r u t H1 locs1 ht hvm hw hB hz1 hk1 hS1 => ?_)
  obtain ⟨z, rfl, hz⟩ := hw
  exact g z u hz H1 locs1 ls (ht ▸ hB.1) hS1 hl
end ZR7
