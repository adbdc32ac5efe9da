/-! the law: rows of its body -/
abbrev zLW (dA : Nat → ClassId) (ad bd : Nat → Nat) (od : Nat) (o : Int64) (σ τ : zSt) : va_W := ((od, .inl (dA 7, 1, .inr (.inl (fun _ => o)))) :: zW NX ad (celX ad dA σ)) ++ zW NM bd (celM bd dA τ)
theorem uSW {Ts : List Cond} {own : String} {idx n : Nat} {y : MethodName} {b : ByteArray} {r : Option FieldType} {hh : List (Nat × Nat × Nat × Nat)} (hT : ∀ w ∈ UW, w ∈ Ts) (h1 : Cond.methodLink own idx y ∈ UW) (h2 : Cond.static y ∈ UW) (h4 : Cond.initialized y.cls ∈ UW) (h5 : Cond.codeWith y b n r hh ∈ UW) : GoodIn Ts (va_wsS own idx y (Cond.codeWith y b n r hh :: UW)) := uG hT (uC h1 (uC h2 (uC h4 (uC h5 uId))))
def zLC (p : Program) (m : MethodId) (c : Code) (s : State) (args : Array Value) (meth : Method) (D : va_G) (dA : Nat → ClassId) (x : zX) (b L : Nat) (xs : Nat → Int32) : Prop := zIC p m c cL_law 7 s args UW RL meth D dA (fun q => s.heap.size ≤ q) x ∧ va_Nc eIS eIO s ∧ va_X b L xs s s.heap ∧ b < s.heap.size ∧ L ≤ 3072
def sc (xs : Nat → Int32) (j : Nat) : Int := (xs j).toInt
theorem sc_rg (xs : Nat → Int32) (j : Nat) : zrg (sc xs j) := ⟨Int32.le_toInt _, Int32.toInt_lt _⟩
theorem sc_v (xs : Nat → Int32) (j : Nat) : vI (sc xs j) = Value.int (xs j) := congrArg Value.int (Int32.ofInt_toInt _)
abbrev zLV (b : Nat) (ad bd : Nat → Nat) (od : Nat) (n : Nat) : List (Nat × Value) := [(0, .ref b), (1, vR ad 0), (2, vR bd 0), (3, .ref od), (4, vI (6 * (n : Int)))]
theorem zH_blind {D : va_G} {dA : Nat → ClassId} {x : zX} {ad : Nat → Nat} {od sz : Nat} {σ : zSt} {o : Int64} {vs : List Value} : FrameBlind (va_Pc vs (zHP D dA x ad od sz σ o)) := by
  intro b U g mk q
  obtain ⟨q0, q1, q2, q3, q4, q5, q6, q7⟩ := q
  exact ⟨q0, q1, q2, q3, va_K.moved (u := U) (U := U.calling g mk b) (Vm.Alike.refl U.vm) q4, q5.same (u := U) (U := U.calling g mk b) rfl, fun C h => va_AO.moved (u := U) (U := U.calling g mk b) (Vm.Alike.refl U.vm) (q6 C h), va_Nc.moved (u := U) (U := U.calling g mk b) (Vm.Alike.refl U.vm) q7⟩
section ZLB
variable {p : Program} {l : Launch} {e : Env} {s : State} {m : MethodId} {args : Array Value} {below : List Frame} {meth : Method} {c : Code} {cells slots : Nat} {Q : State → Prop}
variable {D : va_G} {dA : Nat → ClassId} {aL aG aI : Nat} {aK aV : Nat → Nat} {b L : Nat} {xs : Nat → Int32} {ad bd : Nat → Nat} {od : Nat} {o : Int64} {σ τ : zSt}
variable {pc : Nat} {lv : List (Nat × Value)} {stk : List Value} {ws : va_W}
theorem zl_ald (hC : zLC p m c s args meth D dA (zXX aL aG aI aK aV) b L xs) {j : Nat} {k : Int} (hn : j < L) (hk : k = (j : Int)) (d : decode cL_law (pc) = .ok (.iaload, 1)) (g : zL p l e room_1 s m args below meth c (cells) (slots) Q 7 D (fun q => s.heap.size ≤ q) (pc + 1) (lv) (vI (sc xs j) :: stk) (ws)) : zL p l e room_1 s m args below meth c (cells) (slots) Q 7 D (fun q => s.heap.size ≤ q) (pc) (lv) (vI k :: .ref b :: stk) (ws) := by
  intro H locs ls hP hD hS hl
  refine va_sld hC.1.1.1 hC.1.1.2.1 hC.2.2.1 hC.2.2.2.1 (Nat.not_le.mpr hC.2.2.2.1) hS (zi_in (n := L) (by have := hC.2.2.2.2; omega) ⟨by omega, by omega⟩) d ?_
  rw [zi_cl ⟨by omega, by have := hC.2.2.2.2; omega⟩ (by omega), show k.toNat = j by omega, ← sc_v]
  exact g H locs ls hP hD hS hl
theorem zl_arg (hC : zLC p m c s args meth D dA (zXX aL aG aI aK aV) b L xs) {n : Nat} (kN : Nat) (hn : 6 * n + kN < L) (q0 q4 : Nat) (h0 : lv[q0]? = some (0, .ref b)) (h4 : lv[q4]? = some (4, vI (6 * (n : Int)))) {k : Int} (hk : k = (kN : Int)) (d1 : decode cL_law (pc) = .ok (.aload_n 0, 1)) (d2 : decode cL_law (pc + 1) = .ok (.iload 4, 2)) (d3 : decode cL_law (pc + 3) = .ok (.iconst k, 1)) (d4 : decode cL_law (pc + 4) = .ok (.iadd, 1)) (d5 : decode cL_law (pc + 5) = .ok (.iaload, 1)) (g : zL p l e room_1 s m args below meth c (cells) (slots) Q 7 D (fun q => s.heap.size ≤ q) (pc + 6) (lv) (vI (sc xs (6 * n + kN)) :: stk) (ws)) : zL p l e room_1 s m args below meth c (cells) (slots) Q 7 D (fun q => s.heap.size ≤ q) (pc) (lv) (stk) (ws) := by
  refine zn_aload_n hC.1 d1 q0 rfl h0 ?_
  refine zn_iload hC.1 d2 q4 h4 ?_
  refine zn_iconst hC.1 d3 ?_
  refine zn_iadd hC.1 d4 ?_
  exact zl_ald hC (j := 6 * n + kN) hn (by omega) d5 g
theorem zl_X (hC : zLC p m c s args meth D dA (zXX aL aG aI aK aV) b L xs) {y : MethodName} {bytes : ByteArray} {maxL n index : Nat} {ret : Option FieldType} {wc : List Cond} {rm : Room} {st0 : List Value} {K : Int → zSt → Prop} (As : List Value) (hM : (∀ i j, i < NX → j < NX → ad i = ad j → i = j) → ∀ sz, Met l y wc rm (va_Pc (vR ad 0 :: As) (zPre D vwCl (tyA dA) (zXX aL aG aI aK aV) NX ad (celX ad dA) sz σ)) (va_Qi (zPi K) (zB D vwCl (tyA dA) NX ad (celX ad dA)) (zA ad NX sz)) 0 0 (zA ad NX sz)) (cw : CallW room_1 s args RL RX11 index y bytes maxL ret wc rm 0 0 n) (hn : As.length = n) (hst : st0 = As.reverse ++ .ref (ad 0) :: stk) (hWd : (stk.map fun v => v.category).sum ≤ 8) (hcs : cells ≤ room_1.cells ∧ slots ≤ room_1.slots) (hdg : decode cL_law (pc) = .ok (.invokevirtual index, 3)) (g : ∀ (z : Int) (σ1 : zSt), K z σ1 → zL p l e room_1 s m args below meth c (cells) (slots) Q 7 D (fun q => s.heap.size ≤ q) (pc + 3) (lv) (vI z :: stk) (zLW dA ad bd od o σ1 τ)) : zL p l e room_1 s m args below meth c (cells) (slots) Q 7 D (fun q => s.heap.size ≤ q) (pc) (lv) (st0) (zLW dA ad bd od o σ τ) := by
  refine zn_perm (ws' := zW NX ad (celX ad dA σ) ++ ((od, .inl (dA 7, 1, .inr (.inl (fun _ => o)))) :: zW NM bd (celM bd dA τ))) List.perm_middle.symm ?_
  refine zn_callX hC.1 As hM cw hn hst hWd hcs hdg (fun z σ1 hk => ?_)
  exact zn_perm (ws' := zLW dA ad bd od o σ1 τ) List.perm_middle (g z σ1 hk)
theorem zl_M (hC : zLC p m c s args meth D dA (zXX aL aG aI aK aV) b L xs) {y : MethodName} {bytes : ByteArray} {maxL n index : Nat} {ret : Option FieldType} {wc : List Cond} {rm : Room} {st0 : List Value} {K : Int → zSt → Prop} (As : List Value) (hM : (∀ i j, i < NM → j < NM → bd i = bd j → i = j) → ∀ sz, Met l y wc rm (va_Pc (vR bd 0 :: As) (zPre D vwCl (tyA dA) zX0 NM bd (celM bd dA) sz τ)) (va_Qi (zPi K) (zB D vwCl (tyA dA) NM bd (celM bd dA)) (zA bd NM sz)) 0 0 (zA bd NM sz)) (cw : CallW room_1 s args RL RX12 index y bytes maxL ret wc rm 0 0 n) (hn : As.length = n) (hst : st0 = As.reverse ++ .ref (bd 0) :: stk) (hWd : (stk.map fun v => v.category).sum ≤ 8) (hcs : cells ≤ room_1.cells ∧ slots ≤ room_1.slots) (hdg : decode cL_law (pc) = .ok (.invokevirtual index, 3)) (g : ∀ (z : Int) (τ1 : zSt), K z τ1 → zL p l e room_1 s m args below meth c (cells) (slots) Q 7 D (fun q => s.heap.size ≤ q) (pc + 3) (lv) (vI z :: stk) (zLW dA ad bd od o σ τ1)) : zL p l e room_1 s m args below meth c (cells) (slots) Q 7 D (fun q => s.heap.size ≤ q) (pc) (lv) (st0) (zLW dA ad bd od o σ τ) := by
  refine zn_perm (ws' := zW NM bd (celM bd dA τ) ++ ((od, .inl (dA 7, 1, .inr (.inl (fun _ => o)))) :: zW NX ad (celX ad dA σ))) List.perm_append_comm ?_
  refine zn_callM hC.1 As hM cw hn hst hWd hcs hdg (fun z τ1 hk => ?_)
  exact zn_perm (ws' := zLW dA ad bd od o σ τ1) List.perm_append_comm (g z τ1 hk)
theorem zl_H (hC : zLC p m c s args meth D dA (zXX aL aG aI aK aV) b L xs) {y : MethodName} {bytes : ByteArray} {maxL n index mc ms : Nat} {ret : Option FieldType} {hh : List (Nat × Nat × Nat × Nat)} {wc : List Cond} {rm : Room} {st0 : List Value} {G : Int → Int64 → zSt → Prop} (As : List Value) (hM : ∀ sz, vx_Met l y wc rm (va_Pc (vR ad 0 :: As) (zHP D dA (zXX aL aG aI aK aV) ad od sz σ o)) (va_Qi (zHG G) (zHB D dA ad od) (zHA ad od sz)) (zHX (zHA ad od sz)) mc ms (zHA ad od sz)) (cw : vx_CSW room_1 s args RL index y bytes maxL ret hh wc rm mc ms n) (hn : (vR ad 0 :: As).length = n) (hst : st0 = (vR ad 0 :: As).reverse ++ stk) (hWd : (stk.map fun v => v.category).sum ≤ 8) (hcs : cells + mc ≤ room_1.cells ∧ slots + ms ≤ room_1.slots) (hdg : decode cL_law (pc) = .ok (.invokestatic index, 3)) (g : ∀ (z : Int) (o1 : Int64) (σ1 : zSt), G z o1 σ1 → zL p l e room_1 s m args below meth c (cells + mc) (slots + ms) Q 7 D (fun q => s.heap.size ≤ q) (pc + 3) (lv) (vI z :: stk) (zLW dA ad bd od o1 σ1 τ)) : zL p l e room_1 s m args below meth c (cells) (slots) Q 7 D (fun q => s.heap.size ≤ q) (pc) (lv) (st0) (zLW dA ad bd od o σ τ) := by
  intro H locs ls hP hD hS hl
  subst hst
  have hfst : ∀ (o1 : Int64) (σ1 : zSt), (((od, .inl (dA 7, 1, .inr (.inl (fun _ => o1)))) :: zW NX ad (celX ad dA σ1) : va_W)).map Prod.fst = (((od, .inl (dA 7, 1, .inr (.inl (fun _ => o)))) :: zW NX ad (celX ad dA σ) : va_W)).map Prod.fst := fun o1 σ1 => by
    rw [List.map_cons, List.map_cons, zW_fst]
  have hsub2 : ∀ y, zHA ad od H.size y → s.heap.size ≤ y := fun y h => by
    have hm := (va_D_iff.mp hD).2
    rcases h with ⟨k, hk, rfl⟩ | h | h
    · obtain ⟨z, hz, ez⟩ := List.mem_map.mp (zW_mem (ad := ad) (f := celX ad dA σ) hk)
      rw [← ez]; exact hm z (List.mem_append_left _ (List.mem_cons_of_mem _ hz))
    · rw [h]; exact hm (od, .inl (dA 7, 1, .inr (.inl (fun _ => o)))) (List.mem_append_left _ List.mem_cons_self)
    · exact Nat.le_trans hS.1 h
  have hP0 : va_P D vwCl ((od, .inl (dA 7, 1, .inr (.inl (fun _ => o)))) :: zW NX ad (celX ad dA σ)) H := hP.left
  have hD0 : va_D (zHA ad od H.size) ((od, .inl (dA 7, 1, .inr (.inl (fun _ => o)))) :: zW NX ad (celX ad dA σ)) := by
    rw [va_D_iff] at hD ⊢
    refine ⟨?_, fun y hy => ?_⟩
    · have := hD.1
      rw [List.map_append, List.pairwise_append] at this
      exact this.1
    · rcases List.mem_cons.mp hy with h | h
      · rw [h]; exact Or.inr (Or.inl rfl)
      · obtain ⟨i, hi⟩ := List.getElem?_of_mem h
        have hlt : i < NX := by
          have := (List.getElem?_eq_some_iff.mp hi).1
          rwa [zW_len] at this
        rw [zW_get hlt] at hi
        rw [← Option.some.inj hi]
        exact Or.inl ⟨i, hlt, rfl⟩
  have hF : ∀ y, zHA ad od H.size y → y ∈ (((od, .inl (dA 7, 1, .inr (.inl (fun _ => o)))) :: zW NX ad (celX ad dA σ) : va_W)).map Prod.fst ∨ H.size ≤ y := fun y h => by
    rcases h with ⟨k, hk, e⟩ | h | h
    · rw [e]; exact Or.inl (by rw [List.map_cons]; exact List.mem_cons_of_mem _ (zW_mem hk))
    · rw [h]; exact Or.inl (by rw [List.map_cons]; exact List.mem_cons_self)
    · exact Or.inr h
  have hpre : ∀ U : State, U.heap = H → s.WarmedH U.vm → zHP D dA (zXX aL aG aI aK aV) ad od H.size σ o U := fun U hU hW => ⟨by rw [hU], by rw [hU]; exact hP0, hD0, va_K.moved hW.alike hC.1.2.1, by rw [hU]; exact hC.1.2.2.2.2.1.go hW hS hsub2, fun C h => va_AO.moved hW.alike (hC.1.2.2.2.2.2 C h), va_Nc.moved hW.alike hC.2.1⟩
  refine vx_calli (vx_runSX (As := vR ad 0 :: As) (rest := stk) hC.1.1 (hM H.size) cw ⟨zH_blind, fun U hU hW => ⟨rfl, hpre U hU hW⟩⟩ rfl hn hl.1 rfl (by show 2 * 0 + _ ≤ 8; omega) hdg hcs) hS (fun y _ h => hsub2 y h) hsub2 (fun y _ h => hsub2 y h) (fun E ce q9 u t H1 locs1 ht hvm hw => hw.elim) (fun r u t H1 locs1 ht hvm hw hB hz1 hk1 hS1 => ?_)
  obtain ⟨z, rfl, hz⟩ := hw
  obtain ⟨a1, a2⟩ := zJoin hP hD hF hk1 (ht ▸ hB) (hfst u.2 u.1)
  exact g z u.2 u.1 hz H1 locs1 ls a1 a2 hS1 hl
theorem zl_nz0 (hC : zLC p m c s args meth D dA (zXX aL aG aI aK aV) b L xs) {off : Int} {tgt : Nat} (hdg : decode cL_law (pc) = .ok (.ifCond .ne off, 3)) (ht : (pc : Int) + off = (tgt : Int)) (g : zL p l e room_1 s m args below meth c (cells) (slots) Q 7 D (fun q => s.heap.size ≤ q) (pc + 3) (lv) (stk) (ws)) : zL p l e room_1 s m args below meth c (cells) (slots) Q 7 D (fun q => s.heap.size ≤ q) (pc) (lv) (vI 0 :: stk) (ws) := zn_ne_f hC.1 hdg ht g
theorem zl_tailI (hC : zLC p m c s args meth D dA (zXX aL aG aI aK aV) b L xs) {n : Nat} {w z : Int} {off : Int} (d : decode cL_law (pc) = .ok (.istore 6, 2)) (d2 : decode cL_law (pc + 2) = .ok (.aload_n 2, 1)) (d3 : decode cL_law (pc + 3) = .ok (.invokevirtual 191, 3)) (d6 : decode cL_law (pc + 6) = .ok (.iload 5, 2)) (d8 : decode cL_law (pc + 8) = .ok (.if_icmp .eq 5, 3)) (d13 : decode cL_law (pc + 13) = .ok (.iload 5, 2)) (d15 : decode cL_law (pc + 15) = .ok (.ifCond .ne 15, 3)) (d18 : decode cL_law (pc + 18) = .ok (.aload_n 3, 1)) (d19 : decode cL_law (pc + 19) = .ok (.iconst 0, 1)) (d20 : decode cL_law (pc + 20) = .ok (.laload, 1)) (d21 : decode cL_law (pc + 21) = .ok (.iload 6, 2)) (d23 : decode cL_law (pc + 23) = .ok (.i2l, 1)) (d24 : decode cL_law (pc + 24) = .ok (.lcmp, 1)) (d25 : decode cL_law (pc + 25) = .ok (.ifCond .eq 5, 3)) (d30 : decode cL_law (pc + 30) = .ok (.goto off, 3)) (he : ((pc + 30 : Nat) : Int) + off = ((3543 : Nat) : Int)) (hcs : cells ≤ room_1.cells ∧ slots ≤ room_1.slots) (hz : τ 0 4 = z) (h0 : (z = 0 ∧ o = (Int32.ofInt w).toInt64) ∨ z = 1 ∨ z = 2) (g : zL p l e room_1 s m args below meth c (cells) (slots) Q 7 D (fun q => s.heap.size ≤ q) (3543) (zLV b ad bd od n) [] (zLW dA ad bd od o σ τ)) : zL p l e room_1 s m args below meth c (cells) (slots) Q 7 D (fun q => s.heap.size ≤ q) (pc) ((5, vI z) :: zLV b ad bd od n) (vI w :: []) (zLW dA ad bd od o σ τ) := by
  have fin : zL p l e room_1 s m args below meth c (cells) (slots) Q 7 D (fun q => s.heap.size ≤ q) (pc + 30) ((6, vI w) :: (5, vI z) :: zLV b ad bd od n) ([]) (zLW dA ad bd od o σ τ) := by
    refine zn_goto (tgt := 3543) hC.1 d30 he ?_
    exact zn_sub [2, 3, 4, 5, 6] rfl g
  refine zn_istore hC.1 ((6, vI w) :: (5, vI z) :: zLV b ad bd od n) d (by decide) rfl ?_
  refine zn_aload_n hC.1 d2 4 rfl rfl ?_
  refine zl_M hC [] (K := fun z1 τ1 => z1 = z ∧ τ1 = τ) (fun hinj sz => mX12_thrown l hinj sz (And.intro hz rfl : τ 0 4 = z ∧ τ = τ)) (cwV 0 hC.1.1.2.2.2.2 (uV uId u1672 u1673 u1674 u118 u1675) rfl rfl rfl (by decide +kernel) ⟨Nat.le_of_ble_eq_true rfl, Nat.le_of_ble_eq_true rfl⟩) rfl rfl (Nat.le_of_ble_eq_true rfl) hcs d3 (fun z1 τ1 hk => ?_)
  obtain ⟨rfl, rfl⟩ := hk
  refine zn_iload hC.1 d6 1 rfl ?_
  refine zn_eq_t (tgt := pc + 13) hC.1 d8 (by omega) ?_
  refine zn_iload hC.1 d13 1 rfl ?_
  rcases h0 with ⟨rfl, h0⟩ | h0
  · refine zl_nz0 (tgt := pc + 30) hC d15 (by omega) ?_
    refine zn_aload_n hC.1 d18 5 rfl rfl ?_
    refine zn_iconst hC.1 d19 ?_
    refine zn_lald hC.1 d20 ?_
    refine zn_iload hC.1 d21 0 rfl ?_
    refine zn_i2l hC.1 d23 ?_
    subst h0
    refine zn_lcmp hC.1 d24 ?_
    refine zn_z_t (tgt := pc + 30) hC.1 d25 (by omega) ?_
    exact fin
  · refine zn_ne_t (tgt := pc + 30) hC.1 (by rcases h0 with rfl | rfl <;> decide) d15 (by omega) ?_
    exact fin
theorem zl_tailB (hC : zLC p m c s args meth D dA (zXX aL aG aI aK aV) b L xs) {n : Nat} {w z : Int} {off : Int} (d : decode cL_law (pc) = .ok (.istore 6, 2)) (d2 : decode cL_law (pc + 2) = .ok (.aload_n 2, 1)) (d3 : decode cL_law (pc + 3) = .ok (.invokevirtual 191, 3)) (d6 : decode cL_law (pc + 6) = .ok (.iload 5, 2)) (d8 : decode cL_law (pc + 8) = .ok (.if_icmp .eq 5, 3)) (d13 : decode cL_law (pc + 13) = .ok (.iload 5, 2)) (d15 : decode cL_law (pc + 15) = .ok (.ifCond .ne 22, 3)) (d18 : decode cL_law (pc + 18) = .ok (.aload_n 3, 1)) (d19 : decode cL_law (pc + 19) = .ok (.iconst 0, 1)) (d20 : decode cL_law (pc + 20) = .ok (.laload, 1)) (d21 : decode cL_law (pc + 21) = .ok (.iload 6, 2)) (d23 : decode cL_law (pc + 23) = .ok (.ifCond .eq 7, 3)) (d26 : decode cL_law (pc + 26) = .ok (.lconst 1, 1)) (d27 : decode cL_law (pc + 27) = .ok (.goto 4, 3)) (d30 : decode cL_law (pc + 30) = .ok (.lconst 0, 1)) (d31 : decode cL_law (pc + 31) = .ok (.lcmp, 1)) (d32 : decode cL_law (pc + 32) = .ok (.ifCond .eq 5, 3)) (d37 : decode cL_law (pc + 37) = .ok (.goto off, 3)) (he : ((pc + 37 : Nat) : Int) + off = ((3543 : Nat) : Int)) (hcs : cells ≤ room_1.cells ∧ slots ≤ room_1.slots) (hz : τ 0 4 = z) (h0 : (z = 0 ∧ o = (if Int32.ofInt w = 0 then 0 else 1 : Int64)) ∨ z = 1 ∨ z = 2) (g : zL p l e room_1 s m args below meth c (cells) (slots) Q 7 D (fun q => s.heap.size ≤ q) (3543) (zLV b ad bd od n) [] (zLW dA ad bd od o σ τ)) : zL p l e room_1 s m args below meth c (cells) (slots) Q 7 D (fun q => s.heap.size ≤ q) (pc) ((5, vI z) :: zLV b ad bd od n) (vI w :: []) (zLW dA ad bd od o σ τ) := by
  have fin : zL p l e room_1 s m args below meth c (cells) (slots) Q 7 D (fun q => s.heap.size ≤ q) (pc + 37) ((6, vI w) :: (5, vI z) :: zLV b ad bd od n) ([]) (zLW dA ad bd od o σ τ) := by
    refine zn_goto (tgt := 3543) hC.1 d37 he ?_
    exact zn_sub [2, 3, 4, 5, 6] rfl g
  refine zn_istore hC.1 ((6, vI w) :: (5, vI z) :: zLV b ad bd od n) d (by decide) rfl ?_
  refine zn_aload_n hC.1 d2 4 rfl rfl ?_
  refine zl_M hC [] (K := fun z1 τ1 => z1 = z ∧ τ1 = τ) (fun hinj sz => mX12_thrown l hinj sz (And.intro hz rfl : τ 0 4 = z ∧ τ = τ)) (cwV 0 hC.1.1.2.2.2.2 (uV uId u1672 u1673 u1674 u118 u1675) rfl rfl rfl (by decide +kernel) ⟨Nat.le_of_ble_eq_true rfl, Nat.le_of_ble_eq_true rfl⟩) rfl rfl (Nat.le_of_ble_eq_true rfl) hcs d3 (fun z1 τ1 hk => ?_)
  obtain ⟨rfl, rfl⟩ := hk
  refine zn_iload hC.1 d6 1 rfl ?_
  refine zn_eq_t (tgt := pc + 13) hC.1 d8 (by omega) ?_
  refine zn_iload hC.1 d13 1 rfl ?_
  rcases h0 with ⟨rfl, h0⟩ | h0
  · refine zl_nz0 (tgt := pc + 37) hC d15 (by omega) ?_
    refine zn_aload_n hC.1 d18 5 rfl rfl ?_
    refine zn_iconst hC.1 d19 ?_
    refine zn_lald hC.1 d20 ?_
    refine zn_iload hC.1 d21 0 rfl ?_
    refine zn_z (tgt := pc + 30) hC.1 d23 (by omega) (fun hw => ?_) (fun hw => ?_)
    · refine zn_lconst hC.1 d30 ?_
      rw [if_pos hw] at h0
      subst h0
      refine zn_lcmp hC.1 d31 ?_
      refine zn_z_t (tgt := pc + 37) hC.1 d32 (by omega) ?_
      exact fin
    · refine zn_lconst hC.1 d26 ?_
      refine zn_goto (tgt := pc + 31) hC.1 d27 (by omega) ?_
      rw [if_neg hw] at h0
      subst h0
      refine zn_lcmp hC.1 d31 ?_
      refine zn_z_t (tgt := pc + 37) hC.1 d32 (by omega) ?_
      exact fin
  · refine zn_ne_t (tgt := pc + 37) hC.1 (by rcases h0 with rfl | rfl <;> decide) d15 (by omega) ?_
    exact fin
end ZLB
