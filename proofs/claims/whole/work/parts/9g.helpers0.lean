/-! the helpers of the law -/
def zHA (ad : Nat → Nat) (od sz : Nat) : Nat → Prop := fun y => (∃ k, k < NX ∧ y = ad k) ∨ y = od ∨ sz ≤ y
def zHP (D : va_G) (dA : Nat → ClassId) (x : zX) (ad : Nat → Nat) (od sz : Nat) (σ : zSt) (o : Int64) (U : State) : Prop := U.heap.size = sz ∧ va_P D vwCl ((od, .inl (dA 7, 1, .inr (.inl (fun _ => o)))) :: zW NX ad (celX ad dA σ)) U.heap ∧ va_D (zHA ad od sz) ((od, .inl (dA 7, 1, .inr (.inl (fun _ => o)))) :: zW NX ad (celX ad dA σ)) ∧ va_K D vwCl (tyA dA) U ∧ zE x (zHA ad od sz) U U.heap ∧ (∀ C ∈ zAO, va_AO C U) ∧ va_Nc eIS eIO U
def zHG (G : Int → Int64 → zSt → Prop) (r : Int32) (w : zSt × Int64) : Prop := ∃ z, r = Int32.ofInt z ∧ G z w.2 w.1
def zHB (D : va_G) (dA : Nat → ClassId) (ad : Nat → Nat) (od : Nat) (w : zSt × Int64) (t : State) : Prop := va_P D vwCl ((od, .inl (dA 7, 1, .inr (.inl (fun _ => w.2)))) :: zW NX ad (celX ad dA w.1)) t.heap
def zHX (A : Nat → Prop) : String → State → State → Prop := vx_X (fun _ : Unit => False) (fun _ _ _ => False) A
theorem zH_enter {l : Launch} {y : MethodName} {wc ws' : List Cond} {rm : Room} {cc : ByteArray} {maxL mc ms : Nat} {hh : List (Nat × Nat × Nat × Nat)} {D : va_G} {dA : Nat → ClassId} {aL aG aI : Nat} {aK aV : Nat → Nat} {ad : Nat → Nat} {od sz : Nat} {σ : zSt} {o : Int64} {G : Int → Int64 → zSt → Prop} {vs : List Value} (hy : plainName y.cls = true) (hw : wc = Cond.codeWith y cc maxL (some .int) hh :: ws') (hlen : (lg_sl vs).length ≤ maxL)
    (body : ∀ (p : Program) (e : Env) (s : State) (m : MethodId) (args : Array Value) (below : List Frame) (meth : Method) (c : Code), zIC p m c cc maxL s args wc y.cls meth D dA (zHA ad od sz) (zXX aL aG aI aK aV) → s.heap.size = sz → meth.sig.returnType = some .int → c.exceptionTable.toList = tableOf hh → va_Nc eIS eIO s →
      zL p l e rm s m args below meth c 0 0 (vx_MQ below (va_Qi (zHG G) (zHB D dA ad od) (zHA ad od sz)) (zHX (zHA ad od sz)) args s mc ms (zHA ad od sz)) maxL D (zHA ad od sz) 0 (lv_args 0 vs) [] ((od, .inl (dA 7, 1, .inr (.inl (fun _ => o)))) :: zW NX ad (celX ad dA σ))) :
    vx_Met l y wc rm (va_Pc vs (zHP D dA (zXX aL aG aI aK aV) ad od sz σ o)) (va_Qi (zHG G) (zHB D dA ad od) (zHA ad od sz)) (zHX (zHA ad od sz)) mc ms (zHA ad od sz) := by
  refine vx_ofWH (cc := cc) (maxL := maxL) (ret := some .int) (hh := hh) hy hw ?_
  intro p e s m args below meth c s₁ B hml hv
  obtain ⟨rfl, hsz, hP, hD, hK, hE, hO, hN⟩ := hv
  have hl := lv_entry vs (n := maxL) hlen
  rw [lg_entry_eq]
  have hts := atoms_spec (ws := wc) B.pre
  exact body p e s m _ below meth c ⟨⟨B.exec, B.bytes, hml, findClass_of_methodNamed B.named, hts⟩, hK, B.notSynchronized, fun q h => Or.inr (Or.inr (by rw [← hsz]; exact h)), hE, hO⟩ hsz B.returns (vx_table (x := y) B (hts _ (by rw [hw]; exact List.mem_cons_self))) hN _ _ _ hP hD va_S.rf hl
theorem zn_hret {p : Program} {l : Launch} {e : Env} {R : Room} {s : State} {m : MethodId} {args : Array Value} {below : List Frame} {meth : Method} {c : Code} {cells slots mc ms : Nat} {cc : ByteArray} {nL : Nat} {Ts : List Cond} {own : String} {D : va_G} {dA : Nat → ClassId} {A : Nat → Prop} {x : zX} {pc : Nat} {lv : List (Nat × Value)} {ad : Nat → Nat} {od : Nat} {G : Int → Int64 → zSt → Prop} {XC : String → State → State → Prop} {v : Int32}
    (hC : zIC p m c cc nL s args Ts own meth D dA A x) {ret : Option FieldType} (hr : meth.sig.returnType = ret) (hri : ret = some .int) (w : zSt × Int64) (hq : zHG G v w) (hm : cells ≤ mc ∧ slots ≤ ms) (hdg : decode cc pc = .ok (.ireturn, 1)) : zL p l e R s m args below meth c cells slots (vx_MQ below (va_Qi (zHG G) (zHB D dA ad od) A) XC args s mc ms A) nL D A pc lv [.int v] ((od, .inl (dA 7, 1, .inr (.inl (fun _ => w.2)))) :: zW NX ad (celX ad dA w.1)) := fun H locs ls hP hD hS hl =>
  vx_ret (W.widen hm.1 hm.2 (W.iret hC.1.1 hC.1.2.1 (hr.trans hri) (fun t ht hW => ⟨⟨_, w, rfl, hq, by show va_P D vwCl _ t.heap; rw [ht]; exact hP⟩, hS.F ht⟩) hS.2.2 hdg (hlocks := hC.2.2.1)))
theorem uh_frameDay : Cond.codeWith yL_frameDay cL_frameDay 4 (some .int) [(0, 9, 12, 13)] ∈ UW := uk4 231 rfl rfl
theorem uh_pixel : Cond.codeWith yL_pixel cL_pixel 6 (some .int) [(0, 12, 15, 13)] ∈ UW := uk5 69 rfl rfl
theorem uh_contrast : Cond.codeWith yL_contrast cL_contrast 4 (some .int) [(0, 9, 12, 13)] ∈ UW := uk5 81 rfl rfl
theorem uh_isUsable : Cond.codeWith yL_isUsable cL_isUsable 4 (some .int) [(0, 16, 19, 13)] ∈ UW := uk5 89 rfl rfl
theorem uh_isOriented : Cond.codeWith yL_isOriented cL_isOriented 4 (some .int) [(0, 16, 19, 13)] ∈ UW := uk5 96 rfl rfl
theorem uh_shiftX : Cond.codeWith yL_shiftX cL_shiftX 4 (some .int) [(0, 9, 12, 13), (0, 9, 15, 32)] ∈ UW := uk5 104 rfl rfl
theorem uh_shiftY : Cond.codeWith yL_shiftY cL_shiftY 4 (some .int) [(0, 9, 12, 13), (0, 9, 15, 32)] ∈ UW := uk5 133 rfl rfl
theorem uh_shiftError : Cond.codeWith yL_shiftError cL_shiftError 4 (some .int) [(0, 9, 12, 13)] ∈ UW := uk5 141 rfl rfl
theorem uh_match : Cond.codeWith yL_match cL_match 7 (some .int) [(0, 14, 17, 13)] ∈ UW := uk5 152 rfl rfl
theorem uh_matchError : Cond.codeWith yL_matchError cL_matchError 7 (some .int) [(0, 14, 17, 13)] ∈ UW := uk5 165 rfl rfl
theorem uh_matchMargin : Cond.codeWith yL_matchMargin cL_matchMargin 7 (some .int) [(0, 14, 17, 13)] ∈ UW := uk5 172 rfl rfl
theorem uh_trackX : Cond.codeWith yL_trackX cL_trackX 5 (some .int) [(0, 10, 13, 13)] ∈ UW := uk5 179 rfl rfl
theorem uh_trackY : Cond.codeWith yL_trackY cL_trackY 5 (some .int) [(0, 10, 13, 13)] ∈ UW := uk5 199 rfl rfl
theorem uh_lostCount : Cond.codeWith yL_lostCount cL_lostCount 4 (some .int) [(0, 9, 12, 13)] ∈ UW := uk5 210 rfl rfl
theorem uh_loopError : Cond.codeWith yL_loopError cL_loopError 6 (some .int) [(0, 12, 15, 13)] ∈ UW := uk5 217 rfl rfl
theorem uh_closedLoops : Cond.codeWith yL_closedLoops cL_closedLoops 4 (some .int) [(0, 9, 12, 13)] ∈ UW := uk5 229 rfl rfl
theorem uh_leastTolerance : Cond.codeWith yL_leastTolerance cL_leastTolerance 4 (some .int) [(0, 9, 12, 13)] ∈ UW := uk5 236 rfl rfl
theorem uh_segmentCount : Cond.codeWith yL_segmentCount cL_segmentCount 4 (some .int) [(0, 9, 12, 13)] ∈ UW := uk6 4 rfl rfl
theorem uh_speed : Cond.codeWith yL_speed cL_speed 5 (some .int) [(0, 10, 13, 13)] ∈ UW := uk6 11 rfl rfl
theorem uh_meanSpeed : Cond.codeWith yL_meanSpeed cL_meanSpeed 4 (some .int) [(0, 9, 12, 13)] ∈ UW := uk6 27 rfl rfl
theorem uh_meanSpeedWithScale : Cond.codeWith yL_meanSpeedWithScale cL_meanSpeedWithScale 5 (some .int) [(0, 10, 13, 13)] ∈ UW := uk6 34 rfl rfl
theorem uh_surgeCount : Cond.codeWith yL_surgeCount cL_surgeCount 4 (some .int) [(0, 9, 12, 13)] ∈ UW := uk6 41 rfl rfl
theorem uh_surgeStart : Cond.codeWith yL_surgeStart cL_surgeStart 5 (some .int) [(0, 10, 13, 13)] ∈ UW := uk6 61 rfl rfl
theorem uh_surgeDays : Cond.codeWith yL_surgeDays cL_surgeDays 5 (some .int) [(0, 10, 13, 13)] ∈ UW := uk6 73 rfl rfl
theorem uh_positionX : Cond.codeWith yL_positionX cL_positionX 5 (some .int) [(0, 10, 13, 13)] ∈ UW := uk6 84 rfl rfl
theorem uh_positionY : Cond.codeWith yL_positionY cL_positionY 5 (some .int) [(0, 10, 13, 13)] ∈ UW := uk6 99 rfl rfl
theorem uh_readingCount : Cond.codeWith yL_readingCount cL_readingCount 4 (some .int) [(0, 9, 12, 13)] ∈ UW := uk6 106 rfl rfl
theorem uh_readingDay : Cond.codeWith yL_readingDay cL_readingDay 5 (some .int) [(0, 10, 13, 13)] ∈ UW := uk6 118 rfl rfl
theorem uh_readingLength : Cond.codeWith yL_readingLength cL_readingLength 5 (some .int) [(0, 10, 13, 13)] ∈ UW := uk6 130 rfl rfl
theorem uh_drillCount : Cond.codeWith yL_drillCount cL_drillCount 4 (some .int) [(0, 9, 12, 13)] ∈ UW := uk6 137 rfl rfl
theorem uh_meltTo : Cond.codeWith yL_meltTo cL_meltTo 5 (some .int) [(0, 10, 13, 13)] ∈ UW := uk6 148 rfl rfl
theorem uh_melt : Cond.codeWith yL_melt cL_melt 6 (some .int) [(0, 12, 15, 13)] ∈ UW := uk6 156 rfl rfl
theorem uh_warmestInterval : Cond.codeWith yL_warmestInterval cL_warmestInterval 4 (some .int) [(0, 9, 12, 13)] ∈ UW := uk6 163 rfl rfl
theorem uh_registered : Cond.codeWith yL_registered cL_registered 6 (some .int) [(0, 12, 15, 13)] ∈ UW := uk6 174 rfl rfl
theorem uh_changedPixels : Cond.codeWith yL_changedPixels cL_changedPixels 6 (some .int) [(0, 12, 15, 13)] ∈ UW := uk6 185 rfl rfl
theorem uh_snowLine : Cond.codeWith yL_snowLine cL_snowLine 5 (some .int) [(0, 10, 13, 13)] ∈ UW := uk6 192 rfl rfl
theorem uh_strain : Cond.codeWith yL_strain cL_strain 5 (some .int) [(0, 10, 13, 13)] ∈ UW := uk6 199 rfl rfl
theorem uh_direction : Cond.codeWith yL_direction cL_direction 4 (some .int) [(0, 9, 12, 13)] ∈ UW := uk6 216 rfl rfl
theorem uh_meltInSegment : Cond.codeWith yL_meltInSegment cL_meltInSegment 5 (some .int) [(0, 10, 13, 13)] ∈ UW := uk6 227 rfl rfl
