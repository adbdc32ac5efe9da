/-! the law: rows over listed worlds -/
section ZLw
variable {p : Program} {l : Launch} {e : Env} {R : Room} {s : State} {m : MethodId} {args : Array Value} {below : List Frame} {meth : Method} {c : Code} {cells slots : Nat} {Q : State → Prop}
variable {cc : ByteArray} {nL : Nat} {Ts : List Cond} {own : String} {D : va_G} {dA : Nat → ClassId} {A : Nat → Prop} {x : zX}
variable {pc : Nat} {lv : List (Nat × Value)} {stk : List Value} {ws : va_W}
theorem zn_aload (hC : zIC p m c cc nL s args Ts own meth D dA A x) {i y : Nat} (hdg : decode cc pc = .ok (.aload i, 2)) (q : Nat) (hq : lv[q]? = some (i, .ref y)) (g : zL p l e R s m args below meth c (cells) (slots) Q nL D A (pc + 2) (lv) (.ref y :: stk) (ws)) : zL p l e R s m args below meth c (cells) (slots) Q nL D A (pc) (lv) (stk) (ws) :=
  fun H locs ls hP hD hS hl => lv_aload hC.1.1 hC.1.2.1 hdg (lv_at hl q hq) (g H locs ls hP hD hS hl)
theorem zn_iload (hC : zIC p m c cc nL s args Ts own meth D dA A x) {i : Nat} {y : Int32} (hdg : decode cc pc = .ok (.iload i, 2)) (q : Nat) (hq : lv[q]? = some (i, .int y)) (g : zL p l e R s m args below meth c (cells) (slots) Q nL D A (pc + 2) (lv) (.int y :: stk) (ws)) : zL p l e R s m args below meth c (cells) (slots) Q nL D A (pc) (lv) (stk) (ws) :=
  fun H locs ls hP hD hS hl => lv_iload hC.1.1 hC.1.2.1 hdg (lv_at hl q hq) (g H locs ls hP hD hS hl)
theorem zn_astore_n (hC : zIC p m c cc nL s args Ts own meth D dA A x) {kk : Fin 4} {i y : Nat} (lv' : List (Nat × Value)) (hdg : decode cc pc = .ok (.astore_n kk, 1)) (hi : (kk : Nat) = i) (hn : i < nL) (hq : (i, Value.ref y) :: lv.filter (fun q => !(q.1 == i) && !(q.1 + 1 == i && q.2.category == 2)) = lv') (g : zL p l e R s m args below meth c (cells) (slots) Q nL D A (pc + 1) (lv') (stk) (ws)) : zL p l e R s m args below meth c (cells) (slots) Q nL D A (pc) (lv) (.ref y :: stk) (ws) :=
  fun H locs ls hP hD hS hl => lv_astore_n hC.1.1 hC.1.2.1 hdg hi hl hn hq (fun ls2 hl2 => g H locs ls2 hP hD hS hl2)
theorem zn_astore (hC : zIC p m c cc nL s args Ts own meth D dA A x) {i y : Nat} (lv' : List (Nat × Value)) (hdg : decode cc pc = .ok (.astore i, 2)) (hn : i < nL) (hq : (i, Value.ref y) :: lv.filter (fun q => !(q.1 == i) && !(q.1 + 1 == i && q.2.category == 2)) = lv') (g : zL p l e R s m args below meth c (cells) (slots) Q nL D A (pc + 2) (lv') (stk) (ws)) : zL p l e R s m args below meth c (cells) (slots) Q nL D A (pc) (lv) (.ref y :: stk) (ws) :=
  fun H locs ls hP hD hS hl => lv_astore hC.1.1 hC.1.2.1 hdg hl hn hq (fun ls2 hl2 => g H locs ls2 hP hD hS hl2)
theorem zn_istore (hC : zIC p m c cc nL s args Ts own meth D dA A x) {i : Nat} {y : Int32} (lv' : List (Nat × Value)) (hdg : decode cc pc = .ok (.istore i, 2)) (hn : i < nL) (hq : (i, Value.int y) :: lv.filter (fun q => !(q.1 == i) && !(q.1 + 1 == i && q.2.category == 2)) = lv') (g : zL p l e R s m args below meth c (cells) (slots) Q nL D A (pc + 2) (lv') (stk) (ws)) : zL p l e R s m args below meth c (cells) (slots) Q nL D A (pc) (lv) (.int y :: stk) (ws) :=
  fun H locs ls hP hD hS hl => lv_istore hC.1.1 hC.1.2.1 hdg hl hn hq (fun ls2 hl2 => g H locs ls2 hP hD hS hl2)
theorem zn_iadd (hC : zIC p m c cc nL s args Ts own meth D dA A x) {y z : Int} (hdg : decode cc pc = .ok (.iadd, 1)) (g : zL p l e R s m args below meth c (cells) (slots) Q nL D A (pc + 1) (lv) (vI (y + z) :: stk) (ws)) : zL p l e R s m args below meth c (cells) (slots) Q nL D A (pc) (lv) (vI z :: vI y :: stk) (ws) :=
  fun H locs ls hP hD hS hl => lv_iadd hC.1.1 hC.1.2.1 hdg (Int32.ofInt_add y z ▸ (g H locs ls hP hD hS hl))
theorem zn_isub (hC : zIC p m c cc nL s args Ts own meth D dA A x) {y z : Int} (hdg : decode cc pc = .ok (.isub, 1)) (g : zL p l e R s m args below meth c (cells) (slots) Q nL D A (pc + 1) (lv) (vI (y - z) :: stk) (ws)) : zL p l e R s m args below meth c (cells) (slots) Q nL D A (pc) (lv) (vI z :: vI y :: stk) (ws) :=
  fun H locs ls hP hD hS hl => lv_isub hC.1.1 hC.1.2.1 hdg (Int32.ofInt_sub y z ▸ (g H locs ls hP hD hS hl))
theorem zn_i2l (hC : zIC p m c cc nL s args Ts own meth D dA A x) {y : Int32} (hdg : decode cc pc = .ok (.i2l, 1)) (g : zL p l e R s m args below meth c (cells) (slots) Q nL D A (pc + 1) (lv) (.long y.toInt64 :: stk) (ws)) : zL p l e R s m args below meth c (cells) (slots) Q nL D A (pc) (lv) (.int y :: stk) (ws) :=
  fun H locs ls hP hD hS hl => lv_i2l hC.1.1 hC.1.2.1 hdg rfl (g H locs ls hP hD hS hl)
theorem zn_lconst (hC : zIC p m c cc nL s args Ts own meth D dA A x) {n : Fin 2} (hdg : decode cc pc = .ok (.lconst n, 1)) (g : zL p l e R s m args below meth c (cells) (slots) Q nL D A (pc + 1) (lv) (.long (Int64.ofNat (n : Nat)) :: stk) (ws)) : zL p l e R s m args below meth c (cells) (slots) Q nL D A (pc) (lv) (stk) (ws) :=
  fun H locs ls hP hD hS hl => lv_lconst hC.1.1 hC.1.2.1 hdg rfl (g H locs ls hP hD hS hl)
theorem zn_eq_t (hC : zIC p m c cc nL s args Ts own meth D dA A x) {y : Int32} {off : Int} {tgt : Nat} (hdg : decode cc pc = .ok (.if_icmp .eq off, 3)) (ht : (pc : Int) + off = (tgt : Int)) (g : zL p l e R s m args below meth c (cells) (slots) Q nL D A (tgt) (lv) (stk) (ws)) : zL p l e R s m args below meth c (cells) (slots) Q nL D A (pc) (lv) (.int y :: .int y :: stk) (ws) :=
  fun H locs ls hP hD hS hl => lv_icmp_eq hC.1.1 hC.1.2.1 hdg ht (fun _ => (g H locs ls hP hD hS hl)) (fun h => (h rfl).elim)
theorem zn_ne_t (hC : zIC p m c cc nL s args Ts own meth D dA A x) {y : Int32} {off : Int} {tgt : Nat} (hy : ¬ y = 0) (hdg : decode cc pc = .ok (.ifCond .ne off, 3)) (ht : (pc : Int) + off = (tgt : Int)) (g : zL p l e R s m args below meth c (cells) (slots) Q nL D A (tgt) (lv) (stk) (ws)) : zL p l e R s m args below meth c (cells) (slots) Q nL D A (pc) (lv) (.int y :: stk) (ws) :=
  fun H locs ls hP hD hS hl => lv_if_ne hC.1.1 hC.1.2.1 hdg ht (fun _ => (g H locs ls hP hD hS hl)) (fun h => (hy h).elim)
theorem zn_ne_f (hC : zIC p m c cc nL s args Ts own meth D dA A x) {off : Int} {tgt : Nat} (hdg : decode cc pc = .ok (.ifCond .ne off, 3)) (ht : (pc : Int) + off = (tgt : Int)) (g : zL p l e R s m args below meth c (cells) (slots) Q nL D A (pc + 3) (lv) (stk) (ws)) : zL p l e R s m args below meth c (cells) (slots) Q nL D A (pc) (lv) (.int 0 :: stk) (ws) :=
  fun H locs ls hP hD hS hl => lv_if_ne hC.1.1 hC.1.2.1 hdg ht (fun h => (h rfl).elim) (fun _ => (g H locs ls hP hD hS hl))
theorem zn_z_t (hC : zIC p m c cc nL s args Ts own meth D dA A x) {off : Int} {tgt : Nat} (hdg : decode cc pc = .ok (.ifCond .eq off, 3)) (ht : (pc : Int) + off = (tgt : Int)) (g : zL p l e R s m args below meth c (cells) (slots) Q nL D A (tgt) (lv) (stk) (ws)) : zL p l e R s m args below meth c (cells) (slots) Q nL D A (pc) (lv) (.int 0 :: stk) (ws) :=
  fun H locs ls hP hD hS hl => lv_if_eq hC.1.1 hC.1.2.1 hdg ht (fun _ => (g H locs ls hP hD hS hl)) (fun h => (h rfl).elim)
theorem zn_z (hC : zIC p m c cc nL s args Ts own meth D dA A x) {y : Int32} {off : Int} {tgt : Nat} (hdg : decode cc pc = .ok (.ifCond .eq off, 3)) (ht : (pc : Int) + off = (tgt : Int)) (gt : y = 0 → zL p l e R s m args below meth c (cells) (slots) Q nL D A (tgt) (lv) (stk) (ws)) (gf : ¬ y = 0 → zL p l e R s m args below meth c (cells) (slots) Q nL D A (pc + 3) (lv) (stk) (ws)) : zL p l e R s m args below meth c (cells) (slots) Q nL D A (pc) (lv) (.int y :: stk) (ws) :=
  fun H locs ls hP hD hS hl => lv_if_eq hC.1.1 hC.1.2.1 hdg ht (fun h => gt h H locs ls hP hD hS hl) (fun h => gf h H locs ls hP hD hS hl)
theorem zn_gt (hC : zIC p m c cc nL s args Ts own meth D dA A x) {y z : Int} (hy : zrg y) (hz : zrg z) {off : Int} {tgt : Nat} (hdg : decode cc pc = .ok (.if_icmp .gt off, 3)) (ht : (pc : Int) + off = (tgt : Int)) (gt : z < y → zL p l e R s m args below meth c (cells) (slots) Q nL D A (tgt) (lv) (stk) (ws)) (gf : ¬ z < y → zL p l e R s m args below meth c (cells) (slots) Q nL D A (pc + 3) (lv) (stk) (ws)) : zL p l e R s m args below meth c (cells) (slots) Q nL D A (pc) (lv) (vI z :: vI y :: stk) (ws) :=
  fun H locs ls hP hD hS hl => lv_icmp_gt hC.1.1 hC.1.2.1 hdg ht (fun h => gt ((zi_lt hz hy).mp h) H locs ls hP hD hS hl) (fun h => gf (fun q => h ((zi_lt hz hy).mpr q)) H locs ls hP hD hS hl)
theorem zn_lcmp (hC : zIC p m c cc nL s args Ts own meth D dA A x) {y : Int64} (hdg : decode cc pc = .ok (.lcmp, 1)) (g : zL p l e R s m args below meth c (cells) (slots) Q nL D A (pc + 1) (lv) (.int 0 :: stk) (ws)) : zL p l e R s m args below meth c (cells) (slots) Q nL D A (pc) (lv) (.long y :: .long y :: stk) (ws) :=
  fun H locs ls hP hD hS hl => W.lcmp hC.1.1 hC.1.2.1 hdg (by
    have e : lg_cmp y y = 0 := by
      unfold lg_cmp
      simp
    rw [e]; exact (g H locs ls hP hD hS hl))
theorem zn_sub {lv' : List (Nat × Value)} (ks : List Nat) (h : lv_pick lv ks = lv') (g : zL p l e R s m args below meth c (cells) (slots) Q nL D A (pc) (lv') (stk) (ws)) : zL p l e R s m args below meth c (cells) (slots) Q nL D A (pc) (lv) (stk) (ws) := fun H locs ls hP hD hS hl => g H locs ls hP hD hS (lv_sub hl ks h)
theorem zn_widen {k n : Nat} (h1 : cells ≤ k) (h2 : slots ≤ n) (g : zL p l e R s m args below meth c (k) (n) Q nL D A (pc) (lv) (stk) (ws)) : zL p l e R s m args below meth c (cells) (slots) Q nL D A (pc) (lv) (stk) (ws) := fun H locs ls hP hD hS hl => W.widen h1 h2 (g H locs ls hP hD hS hl)
theorem zn_lald (hC : zIC p m c cc nL s args Ts own meth D dA A x) {od : Nat} {v : Int64} {wr : va_W} (hdg : decode cc pc = .ok (.laload, 1)) (g : zL p l e R s m args below meth c (cells) (slots) Q nL D A (pc + 1) (lv) (.long v :: stk) ((od, .inl (dA 7, 1, .inr (.inl (fun _ => v)))) :: wr)) : zL p l e R s m args below meth c (cells) (slots) Q nL D A (pc) (lv) (vI 0 :: .ref od :: stk) ((od, .inl (dA 7, 1, .inr (.inl (fun _ => v)))) :: wr) :=
  fun H locs ls hP hD hS hl => va_lald hC.1.1 hC.1.2.1 hC.2.1 hP 0 7 rfl rfl (zi_in (n := 1) (by decide) ⟨by decide, by decide⟩) hdg (g H locs ls hP hD hS hl)
theorem zn_last (hC : zIC p m c cc nL s args Ts own meth D dA A x) {od : Nat} {v w : Int64} {wr : va_W} (hdg : decode cc pc = .ok (.lastore, 1)) (g : zL p l e R s m args below meth c (cells) (slots) Q nL D A (pc + 1) (lv) (stk) ((od, .inl (dA 7, 1, .inr (.inl (fun _ => w)))) :: wr)) : zL p l e R s m args below meth c (cells) (slots) Q nL D A (pc) (lv) (.long w :: vI 0 :: .ref od :: stk) ((od, .inl (dA 7, 1, .inr (.inl (fun _ => v)))) :: wr) :=
  fun H locs ls hP hD hS hl => va_last hC.1.1 hC.1.2.1 hC.2.1 hP hD hS 0 7 rfl rfl (zi_in (n := 1) (by decide) ⟨by decide, by decide⟩) hdg (fun H1 locs1 hP1 hD1 hS1 => by
    refine g H1 locs1 ls ?_ ?_ hS1 hl
    · intro k y hy
      cases k with
      | zero =>
        have := hP1 0 _ rfl
        cases hy
        show H1[od]? = some (vp_cell (dA 7) (1, .inr (.inl (fun _ => w))))
        have e : vp_cell (dA 7) (1, .inr (.inl (fun _ => w))) = vp_cell (dA 7) (1, .inr (.inl (vp_updL (fun _ => v) (Int32.ofInt 0).toNatClampNeg w))) := by
          rw [vp_cell_l, vp_cell_l]
          refine arrV_cg (fun j hj => ?_)
          rw [show j = 0 by omega]
          rfl
        rw [e]; exact this
      | succ k => exact hP1 (k + 1) y (by simpa using hy)
    · rw [va_D_iff] at hD1 ⊢
      refine ⟨by simpa using hD1.1, fun y hy => ?_⟩
      rcases List.mem_cons.mp hy with h | h
      · rw [h]; exact hD1.2 (od, .inl (dA 7, 1, .inr (.inl (vp_updL (fun _ => v) (Int32.ofInt 0).toNatClampNeg w)))) (by rw [List.set_cons_zero]; exact List.mem_cons_self)
      · exact hD1.2 y (by rw [List.set_cons_zero]; exact List.mem_cons_of_mem _ h))
theorem va_P.left {cl : List vw_C} {w1 w2 : va_W} {H : Heap} (h : va_P D cl (w1 ++ w2) H) : va_P D cl w1 H := fun k q hq => h k q (by rw [List.getElem?_append_left (List.getElem?_eq_some_iff.mp hq).1]; exact hq)
theorem va_D_fst {w1 w2 : va_W} (e : w1.map Prod.fst = w2.map Prod.fst) (h : va_D A w1) : va_D A w2 := by
  rw [va_D_iff] at h ⊢
  refine ⟨by rw [← e]; exact h.1, fun y hy => ?_⟩
  have : y.1 ∈ w1.map Prod.fst := by rw [e]; exact List.mem_map_of_mem hy
  obtain ⟨z, hz, ez⟩ := List.mem_map.mp this
  rw [← ez]; exact h.2 z hz
theorem zJoin {cl : List vw_C} {wc w1 Y : va_W} {H H1 : Heap} (hP : va_P D cl (wc ++ Y) H) (hD : va_D A (wc ++ Y)) {F : Nat → Prop} (hF : ∀ y, F y → y ∈ wc.map Prod.fst ∨ H.size ≤ y) (hk : ∀ y : Nat, y < H.size → ¬ F y → H1[y]? = H[y]?) (hP1 : va_P D cl w1 H1) (e : w1.map Prod.fst = wc.map Prod.fst) : va_P D cl (w1 ++ Y) H1 ∧ va_D A (w1 ++ Y) := by
  refine ⟨va_P.app hP1 (fun k y hy => ?_), va_D_fst (by rw [List.map_append, List.map_append, e]) hD⟩
  have hy' : (wc ++ Y)[wc.length + k]? = some y := by rw [List.getElem?_append_right (Nat.le_add_right _ _), Nat.add_sub_cancel_left]; exact hy
  have lt := (hP _ y hy').lt
  refine (hP _ y hy').kept (hk y.1 lt (fun z => ?_))
  rcases hF y.1 z with h | h
  · rw [va_D_iff] at hD
    have := hD.1
    rw [List.map_append, List.pairwise_append] at this
    exact this.2.2 y.1 h y.1 (List.mem_map_of_mem (List.mem_of_getElem? hy)) rfl
  · omega
theorem zW_fst {N : Nat} {ad : Nat → Nat} {f g : Nat → va_E} : (zW N ad f).map Prod.fst = (zW N ad g).map Prod.fst := by simp [zW]
theorem zW_mem {N k : Nat} {ad : Nat → Nat} {f : Nat → va_E} (h : k < N) : ad k ∈ (zW N ad f).map Prod.fst := List.mem_map.mpr ⟨(ad k, f k), List.mem_of_getElem? (zW_get h), rfl⟩
theorem zW_inj {N : Nat} {ad : Nat → Nat} {f : Nat → va_E} {Y : va_W} (h : va_D A (zW N ad f ++ Y)) : ∀ i j, i < N → j < N → ad i = ad j → i = j := fun i j hi hj e => h.1 i j (ad i, f i) (ad j, f j) (by rw [List.getElem?_append_left (by rw [zW_len]; exact hi)]; exact zW_get hi) (by rw [List.getElem?_append_left (by rw [zW_len]; exact hj)]; exact zW_get hj) e
theorem zn_callX {aL aG aI : Nat} {aK aV : Nat → Nat} (hC : zIC p m c cc nL s args Ts own meth D dA A (zXX aL aG aI aK aV)) {y : MethodName} {bytes : ByteArray} {maxL n index : Nat} {ret : Option FieldType} {wc : List Cond} {rm : Room} {st0 : List Value} {K : Int → zSt → Prop} {σ : zSt} {ad : Nat → Nat} {Y : va_W} (As : List Value) (hM : (∀ i j, i < NX → j < NX → ad i = ad j → i = j) → ∀ sz, Met l y wc rm (va_Pc (vR ad 0 :: As) (zPre D vwCl (tyA dA) (zXX aL aG aI aK aV) NX ad (celX ad dA) sz σ)) (va_Qi (zPi K) (zB D vwCl (tyA dA) NX ad (celX ad dA)) (zA ad NX sz)) 0 0 (zA ad NX sz)) (cw : CallW R s args own RX11 index y bytes maxL ret wc rm 0 0 n) (hn : As.length = n) (hst : st0 = As.reverse ++ .ref (ad 0) :: stk) (hWd : (stk.map fun v => v.category).sum ≤ 8) (hcs : cells ≤ R.cells ∧ slots ≤ R.slots) (hdg : decode cc pc = .ok (.invokevirtual index, 3)) (g : ∀ (z : Int) (σ1 : zSt), K z σ1 → zL p l e R s m args below meth c (cells) (slots) Q nL D A (pc + 3) (lv) (vI z :: stk) (zW NX ad (celX ad dA σ1) ++ Y)) : zL p l e R s m args below meth c (cells) (slots) Q nL D A (pc) (lv) (st0) (zW NX ad (celX ad dA σ) ++ Y) := by
  intro H locs ls hP hD hS hl
  subst hst
  have hinj := zW_inj hD
  have hsub2 : ∀ y, zA ad NX H.size y → A y := fun y h => by
    rcases h with ⟨k, hk, rfl⟩ | h
    · have := (va_D_iff.mp hD).2
      obtain ⟨z, hz, ez⟩ := List.mem_map.mp (zW_mem (ad := ad) (f := celX ad dA σ) hk)
      rw [← ez]; exact this z (List.mem_append_left _ hz)
    · exact hC.2.2.2.1 y (Nat.le_trans hS.1 h)
  have hP0 : va_P D vwCl (zW NX ad (celX ad dA σ)) H := hP.left
  have hrec : ∃ cell : Cell, H[ad 0]? = some cell ∧ cell.vm.isStatics = false ∧ s.vm.findClass RX11 = some cell.cls := va_recv hC.2.1 hP0 (rfl : vwCl[11]? = some (RX11, TX11, 9)) (zW_at (k := 0) (by decide) (by rfl))
  have hpre : ∀ U : State, U.heap = H → s.WarmedH U.vm → zPre D vwCl (tyA dA) (zXX aL aG aI aK aV) NX ad (celX ad dA) H.size σ U := fun U hU hW => ⟨by rw [hU], ⟨by rw [hU]; exact hP0, va_K.moved hW.alike hC.2.1⟩, by rw [hU]; exact hC.2.2.2.2.1.go hW hS hsub2⟩
  have hF : ∀ y, zA ad NX H.size y → y ∈ (zW NX ad (celX ad dA σ)).map Prod.fst ∨ H.size ≤ y := fun y h => h.imp (fun ⟨k, hk, e⟩ => by rw [e]; exact zW_mem hk) id
  refine va_calli (va_runV (As := As) (rest := stk) hC.1 (hM hinj H.size) cw ⟨z_blind, hrec, fun U hU hW => ⟨rfl, hpre U hU hW⟩⟩ rfl hn hl.1 rfl (by show 2 * 0 + _ ≤ 8; omega) hdg hcs) hS (fun y _ h => hsub2 y h) hsub2 (fun r u t H1 locs1 ht hvm hw hB hz1 hk1 hS1 => ?_)
  obtain ⟨z, rfl, hz⟩ := hw
  obtain ⟨a1, a2⟩ := zJoin hP hD hF hk1 (ht ▸ hB.1) zW_fst
  exact g z u hz H1 locs1 ls a1 a2 hS1 hl
theorem zn_callT {aL aG aI : Nat} {aK aV : Nat → Nat} (hC : zIC p m c cc nL s args Ts own meth D dA A (zXX aL aG aI aK aV)) {y : MethodName} {bytes : ByteArray} {maxL n index : Nat} {ret : Option FieldType} {wc : List Cond} {rm : Room} {st0 : List Value} {mc ms : Nat} {K : Int → zSt → Prop} {KX : String → zSt → Prop} {σ : zSt} {ad : Nat → Nat} {Y : va_W} (As : List Value) (hM : (∀ i j, i < NX → j < NX → ad i = ad j → i = j) → ∀ sz, vx_Met l y wc rm (va_Pc (vR ad 0 :: As) (zPre D vwCl (tyA dA) (zXX aL aG aI aK aV) NX ad (celX ad dA) sz σ)) (va_Qi (zPi K) (zB D vwCl (tyA dA) NX ad (celX ad dA)) (zA ad NX sz)) (zXC D vwCl (tyA dA) NX ad (celX ad dA) KX (zA ad NX sz)) mc ms (zA ad NX sz)) (cw : CallW R s args own RX11 index y bytes maxL ret wc rm mc ms n) (hn : As.length = n) (hst : st0 = As.reverse ++ .ref (ad 0) :: stk) (hWd : (stk.map fun v => v.category).sum ≤ 8) (hcs : cells + mc ≤ R.cells ∧ slots + ms ≤ R.slots) (hdg : decode cc pc = .ok (.invokevirtual index, 3)) (gx : ∀ (E : String) (σ1 : zSt), KX E σ1 → ∀ (H : Heap) (locs : List Loc) (ls : Array Slot) (ce : Cell) (q9 : Addr), va_P D vwCl (zW NX ad (celX ad dA σ1) ++ Y) H → va_D A (zW NX ad (celX ad dA σ1) ++ Y) → va_S A s.heap H locs → lv_has ls nL lv → H[q9]? = some ce → ce.vm = .none → s.vm.findClass E = some ce.cls → vx_W p l e R s m args below meth c H locs (cells + mc) (slots + ms) Q (F0 m pc ls stk) q9) (g : ∀ (z : Int) (σ1 : zSt), K z σ1 → zL p l e R s m args below meth c (cells + mc) (slots + ms) Q nL D A (pc + 3) (lv) (vI z :: stk) (zW NX ad (celX ad dA σ1) ++ Y)) : zL p l e R s m args below meth c (cells) (slots) Q nL D A (pc) (lv) (st0) (zW NX ad (celX ad dA σ) ++ Y) := by
  intro H locs ls hP hD hS hl
  subst hst
  have hinj := zW_inj hD
  have hsub2 : ∀ y, zA ad NX H.size y → A y := fun y h => by
    rcases h with ⟨k, hk, rfl⟩ | h
    · have := (va_D_iff.mp hD).2
      obtain ⟨z, hz, ez⟩ := List.mem_map.mp (zW_mem (ad := ad) (f := celX ad dA σ) hk)
      rw [← ez]; exact this z (List.mem_append_left _ hz)
    · exact hC.2.2.2.1 y (Nat.le_trans hS.1 h)
  have hP0 : va_P D vwCl (zW NX ad (celX ad dA σ)) H := hP.left
  have hrec : ∃ cell : Cell, H[ad 0]? = some cell ∧ cell.vm.isStatics = false ∧ s.vm.findClass RX11 = some cell.cls := va_recv hC.2.1 hP0 (rfl : vwCl[11]? = some (RX11, TX11, 9)) (zW_at (k := 0) (by decide) (by rfl))
  have hpre : ∀ U : State, U.heap = H → s.WarmedH U.vm → zPre D vwCl (tyA dA) (zXX aL aG aI aK aV) NX ad (celX ad dA) H.size σ U := fun U hU hW => ⟨by rw [hU], ⟨by rw [hU]; exact hP0, va_K.moved hW.alike hC.2.1⟩, by rw [hU]; exact hC.2.2.2.2.1.go hW hS hsub2⟩
  have hF : ∀ y, zA ad NX H.size y → y ∈ (zW NX ad (celX ad dA σ)).map Prod.fst ∨ H.size ≤ y := fun y h => h.imp (fun ⟨k, hk, e⟩ => by rw [e]; exact zW_mem hk) id
  refine vx_calli (vx_runV (As := As) (rest := stk) hC.1 (hM hinj H.size) cw ⟨z_blind, hrec, fun U hU hW => ⟨rfl, hpre U hU hW⟩⟩ rfl hn hl.1 rfl (by show 2 * 0 + _ ≤ 8; omega) hdg hcs) hS (fun y _ h => hsub2 y h) hsub2 (fun y _ h => hsub2 y h) (fun E ce q9 u t H1 locs1 ht hvm hw hB hz1 hk1 hS1 hc9 hv9 hf9 => ?_) (fun r u t H1 locs1 ht hvm hw hB hz1 hk1 hS1 => ?_)
  · obtain ⟨rfl, hB⟩ := hB
    obtain ⟨a1, a2⟩ := zJoin hP hD hF hk1 (ht ▸ hB.1) zW_fst
    exact gx u.1 u.2 hw H1 locs1 ls ce q9 a1 a2 hS1 hl hc9 hv9 hf9
  · obtain ⟨z, rfl, hz⟩ := hw
    obtain ⟨a1, a2⟩ := zJoin hP hD hF hk1 (ht ▸ hB.1) zW_fst
    exact g z u hz H1 locs1 ls a1 a2 hS1 hl
theorem zn_callM {aL aG aI : Nat} {aK aV : Nat → Nat} (hC : zIC p m c cc nL s args Ts own meth D dA A (zXX aL aG aI aK aV)) {y : MethodName} {bytes : ByteArray} {maxL n index : Nat} {ret : Option FieldType} {wc : List Cond} {rm : Room} {st0 : List Value} {K : Int → zSt → Prop} {σ : zSt} {ad : Nat → Nat} {Y : va_W} (As : List Value) (hM : (∀ i j, i < NM → j < NM → ad i = ad j → i = j) → ∀ sz, Met l y wc rm (va_Pc (vR ad 0 :: As) (zPre D vwCl (tyA dA) zX0 NM ad (celM ad dA) sz σ)) (va_Qi (zPi K) (zB D vwCl (tyA dA) NM ad (celM ad dA)) (zA ad NM sz)) 0 0 (zA ad NM sz)) (cw : CallW R s args own RX12 index y bytes maxL ret wc rm 0 0 n) (hn : As.length = n) (hst : st0 = As.reverse ++ .ref (ad 0) :: stk) (hWd : (stk.map fun v => v.category).sum ≤ 8) (hcs : cells ≤ R.cells ∧ slots ≤ R.slots) (hdg : decode cc pc = .ok (.invokevirtual index, 3)) (g : ∀ (z : Int) (σ1 : zSt), K z σ1 → zL p l e R s m args below meth c (cells) (slots) Q nL D A (pc + 3) (lv) (vI z :: stk) (zW NM ad (celM ad dA σ1) ++ Y)) : zL p l e R s m args below meth c (cells) (slots) Q nL D A (pc) (lv) (st0) (zW NM ad (celM ad dA σ) ++ Y) := by
  intro H locs ls hP hD hS hl
  subst hst
  have hinj := zW_inj hD
  have hsub2 : ∀ y, zA ad NM H.size y → A y := fun y h => by
    rcases h with ⟨k, hk, rfl⟩ | h
    · have := (va_D_iff.mp hD).2
      obtain ⟨z, hz, ez⟩ := List.mem_map.mp (zW_mem (ad := ad) (f := celM ad dA σ) hk)
      rw [← ez]; exact this z (List.mem_append_left _ hz)
    · exact hC.2.2.2.1 y (Nat.le_trans hS.1 h)
  have hP0 : va_P D vwCl (zW NM ad (celM ad dA σ)) H := hP.left
  have hrec : ∃ cell : Cell, H[ad 0]? = some cell ∧ cell.vm.isStatics = false ∧ s.vm.findClass RX12 = some cell.cls := va_recv hC.2.1 hP0 (rfl : vwCl[12]? = some (RX12, TX12, 42)) (zW_at (k := 0) (by decide) (by rfl))
  have hpre : ∀ U : State, U.heap = H → s.WarmedH U.vm → zPre D vwCl (tyA dA) zX0 NM ad (celM ad dA) H.size σ U := fun U hU hW => ⟨by rw [hU], ⟨by rw [hU]; exact hP0, va_K.moved hW.alike hC.2.1⟩, by rw [hU]; exact zE0⟩
  have hF : ∀ y, zA ad NM H.size y → y ∈ (zW NM ad (celM ad dA σ)).map Prod.fst ∨ H.size ≤ y := fun y h => h.imp (fun ⟨k, hk, e⟩ => by rw [e]; exact zW_mem hk) id
  refine va_calli (va_runV (As := As) (rest := stk) hC.1 (hM hinj H.size) cw ⟨z_blind, hrec, fun U hU hW => ⟨rfl, hpre U hU hW⟩⟩ rfl hn hl.1 rfl (by show 2 * 0 + _ ≤ 8; omega) hdg hcs) hS (fun y _ h => hsub2 y h) hsub2 (fun r u t H1 locs1 ht hvm hw hB hz1 hk1 hS1 => ?_)
  obtain ⟨z, rfl, hz⟩ := hw
  obtain ⟨a1, a2⟩ := zJoin hP hD hF hk1 (ht ▸ hB.1) zW_fst
  exact g z u hz H1 locs1 ls a1 a2 hS1 hl
end ZLw
