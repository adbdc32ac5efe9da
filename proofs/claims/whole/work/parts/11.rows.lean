/-! stores: a world is a list of cells at the addresses ad 0, ad 1, .., and what they hold is read off one store of ints -/
abbrev zSt : Type := Int → Int → Int
def zu (σ : zSt) (k i v : Int) : zSt := fun a b => if a = k ∧ b = i then v else σ a b
abbrev vI (x : Int) : Value := .int (Int32.ofInt x)
abbrev vL (x : Int) : Value := .long (Int64.ofInt x)
abbrev vR (ad : Nat → Nat) (x : Int) : Value := .ref (ad x.toNat)
abbrev zrg (x : Int) : Prop := -2147483648 ≤ x ∧ x < 2147483648
abbrev zrl (x : Int) : Prop := -9223372036854775808 ≤ x ∧ x < 9223372036854775808
theorem zlit {x : Int} (h : decide (-2147483648 ≤ x) = true) (h2 : decide (x < 2147483648) = true) : zrg x := ⟨of_decide_eq_true h, of_decide_eq_true h2⟩
theorem zlil {x : Int} (h : decide (-9223372036854775808 ≤ x) = true) (h2 : decide (x < 9223372036854775808) = true) : zrl x := ⟨of_decide_eq_true h, of_decide_eq_true h2⟩
theorem zi_t {x : Int} (h : zrg x) : (Int32.ofInt x).toInt = x := by
  obtain ⟨h1, h2⟩ := h
  exact Int32.toInt_ofInt_of_le (by simpa using h1) (by simpa using h2)
theorem zl_t {x : Int} (h : zrl x) : (Int64.ofInt x).toInt = x := by
  obtain ⟨h1, h2⟩ := h
  exact Int64.toInt_ofInt_of_le (by simpa using h1) (by simpa using h2)
theorem zi_lt {x y : Int} (hx : zrg x) (hy : zrg y) : Int32.ofInt x < Int32.ofInt y ↔ x < y := by
  rw [Int32.lt_iff_toInt_lt, zi_t hx, zi_t hy]
theorem zi_le {x y : Int} (hx : zrg x) (hy : zrg y) : Int32.ofInt x ≤ Int32.ofInt y ↔ x ≤ y := by
  rw [Int32.le_iff_toInt_le, zi_t hx, zi_t hy]
theorem zi_eq {x y : Int} (hx : zrg x) (hy : zrg y) : Int32.ofInt x = Int32.ofInt y ↔ x = y := by
  rw [← Int32.toInt_inj, zi_t hx, zi_t hy]
theorem zl_lt {x y : Int} (hx : zrl x) (hy : zrl y) : Int64.ofInt x < Int64.ofInt y ↔ x < y := by
  rw [Int64.lt_iff_toInt_lt, zl_t hx, zl_t hy]
theorem zl_eq {x y : Int} (hx : zrl x) (hy : zrl y) : Int64.ofInt x = Int64.ofInt y ↔ x = y := by
  rw [← Int64.toInt_inj, zl_t hx, zl_t hy]
theorem z_0 : zrg 0 := ⟨by decide, by decide⟩
theorem zi_cl {x : Int} (h : zrg x) (h0 : 0 ≤ x) : (Int32.ofInt x).toNatClampNeg = x.toNat := by
  rw [← Int32.toNat_toInt, zi_t h]
theorem zi_in {x : Int} {n : Nat} (hn : n < 2147483648) (h : 0 ≤ x ∧ x < n) : vp_in (Int32.ofInt x) n := by
  have hr : zrg x := ⟨by omega, by omega⟩
  rw [vp_in_iff, zi_t hr]
  exact h
/-! worlds -/
def zW (N : Nat) (ad : Nat → Nat) (f : Nat → va_E) : va_W := (List.range N).map (fun k => (ad k, f k))
theorem zW_get {N k : Nat} {ad : Nat → Nat} {f : Nat → va_E} (h : k < N) : (zW N ad f)[k]? = some (ad k, f k) := by simp [zW, h]
theorem zW_at {N k : Nat} {ad : Nat → Nat} {f : Nat → va_E} {e : va_E} (h : k < N) (he : f k = e) : (zW N ad f)[k]? = some (ad k, e) := by rw [zW_get h, he]
theorem zW_len {N : Nat} {ad : Nat → Nat} {f : Nat → va_E} : (zW N ad f).length = N := by simp [zW]
theorem zW_set {N k : Nat} {ad : Nat → Nat} {f g : Nat → va_E} {e : va_E} (he : g k = e) (hn : ∀ j, j ≠ k → g j = f j) : (zW N ad f).set k (ad k, e) = zW N ad g := by
  apply List.ext_getElem?
  intro j
  by_cases hj : j = k
  · subst hj
    by_cases hN : j < N
    · rw [List.getElem?_set_self (by rw [zW_len]; exact hN), zW_get hN, he]
    · rw [List.getElem?_eq_none (by rw [List.length_set, zW_len]; omega), List.getElem?_eq_none (by rw [zW_len]; omega)]
  · rw [List.getElem?_set_ne (Ne.symm hj)]
    by_cases hN : j < N
    · rw [zW_get hN, zW_get hN, hn j hj]
    · rw [List.getElem?_eq_none (by rw [zW_len]; omega), List.getElem?_eq_none (by rw [zW_len]; omega)]
def zA (ad : Nat → Nat) (N sz : Nat) : Nat → Prop := fun q => (∃ k, k < N ∧ q = ad k) ∨ sz ≤ q
theorem zA_le {ad : Nat → Nat} {N a b q : Nat} (h : a ≤ b) (hq : zA ad N b q) : zA ad N a q := hq.elim Or.inl (fun z => Or.inr (Nat.le_trans h z))
theorem zW_D {ad : Nat → Nat} {N sz : Nat} {f : Nat → va_E} (hi : ∀ i j, i < N → j < N → ad i = ad j → i = j) : va_D (zA ad N sz) (zW N ad f) := by
  refine ⟨fun i j p q hp hq hpq => ?_, fun k q hq => ?_⟩
  · have h1 : i < N := by have := (List.getElem?_eq_some_iff.mp hp).1; rwa [zW_len] at this
    have h2 : j < N := by have := (List.getElem?_eq_some_iff.mp hq).1; rwa [zW_len] at this
    rw [zW_get h1] at hp
    rw [zW_get h2] at hq
    cases hp; cases hq
    exact hi i j h1 h2 hpq
  · have h1 : k < N := by have := (List.getElem?_eq_some_iff.mp hq).1; rwa [zW_len] at this
    rw [zW_get h1] at hq
    cases hq
    exact Or.inl ⟨k, h1, rfl⟩
/-! what a method may read besides: links to private members of a nest mate, constant arrays in static fields -/
/-- nest links, constant arrays, resolved text constants (class, index, text, address), the texts themselves (how many, lengths, bytes, addresses of object and bytes), words of exceptions -/
abbrev zX : Type := List Cond × List (String × Nat × (Nat → Int32)) × List (String × Nat × String × Nat) × (Nat × List Nat × List (List Int32) × (Nat → Nat) × (Nat → Nat)) × Bool
def zNw (w : Cond) : Prop := (∃ a i b n d h, w = .fieldLinkNest a i b n d h) ∨ (∃ a i y h, w = .methodLinkNest a i y h) ∨ (∃ a b, w = .castable a b) ∨ ∃ y, w = .declares y
def zEx (A : Nat → Prop) (U : State) (H : Heap) : Prop := vx_Zq Bundle.tN "UNASSIGNED_STACK" Bundle.steD A U H ∧ vx_Zq Bundle.tN "SUPPRESSED_SENTINEL" Bundle.listD A U H ∧ va_Z "java/lang/String" "COMPACT_STRINGS" "Z" (.int 1) A U H ∧ va_Zq "jdk/internal/util/Preconditions" "SIOOBE_FORMATTER" "Ljava/util/function/BiFunction;" A U H
def zE (x : zX) (A : Nat → Prop) (U : State) (H : Heap) : Prop := (∀ w ∈ x.1, va_Nw w U ∧ zNw w) ∧ (∀ q ∈ x.2.1, va_Z "GlacierCamera" q.1 "[I" (.ref q.2.1) A U H ∧ va_X q.2.1 8 q.2.2 U H ∧ q.2.1 < H.size ∧ ¬ A q.2.1) ∧ (∀ q ∈ x.2.2.1, vk_R q.1 q.2.1 q.2.2.1 q.2.2.2 U) ∧ vk_S x.2.2.2.1.1 x.2.2.2.1.2.1 x.2.2.2.1.2.2.1 x.2.2.2.1.2.2.2.1 x.2.2.2.1.2.2.2.2 A U H ∧ (x.2.2.2.2 = true → zEx A U H)
theorem va_Z.sh {C n d : String} {v : Value} {A B : Nat → Prop} {U : State} {H H1 : Heap} (h : va_Z C n d v A U H) (hq : ∀ a : Nat, a < H.size → ¬ A a → H1[a]? = H[a]?) (hAB : ∀ q, q < H.size → B q → A q) : va_Z C n d v B U H1 := by
  obtain ⟨cf, kf, fi, f, a, cell, h1, h2, h3, h4, h5, h6, h7, h8⟩ := h
  have hl := (Array.getElem?_eq_some_iff.mp h5).1
  exact ⟨cf, kf, fi, f, a, cell, h1, h2, h3, h4, by rw [hq a hl h8]; exact h5, h6, h7, fun z => h8 (hAB a hl z)⟩
/-- A, but for what lies beyond H -/
def zCut (A : Nat → Prop) (n : Nat) : Nat → Prop := fun q => q < n ∧ A q
theorem zE.go {x : zX} {A B : Nat → Prop} {u U : State} {H H1 : Heap} {locs : List Loc} (h : zE x A u H) (hW : u.WarmedH U.vm) (hS : va_S A H H1 locs) (hAB : ∀ q, B q → A q) : zE x B U H1 := by
  obtain ⟨h1, h2, h3, h4, h5⟩ := h
  refine ⟨fun w hw => ⟨?_, (h1 w hw).2⟩, fun q hq => ?_, fun q hq => (h3 q hq).warm hW, ((h4.moved hW.alike).kept hS.2.1).narrow hAB, fun hb => ⟨(((h5 hb).1.moved hW.alike).kept hS.2.1).narrow hAB, (((h5 hb).2.1.moved hW.alike).kept hS.2.1).narrow hAB, (((h5 hb).2.2.1.moved hW.alike).kept hS.2.1).narrow hAB, (((h5 hb).2.2.2.moved hW.alike).kept hS.2.1).narrow hAB⟩⟩
  · rcases (h1 w hw).2 with ⟨a, i, b, n, d, z, rfl⟩ | ⟨a, i, y, z, rfl⟩ | ⟨a, b, rfl⟩ | ⟨y, rfl⟩
    · exact va_Nw.warmF hW (h1 _ hw).1
    · exact va_Nw.warmM hW (h1 _ hw).1
    · exact va_Nw.warmC hW (h1 _ hw).1
    · exact va_Nw.warmD hW (h1 _ hw).1
  · obtain ⟨g1, g2, g3, g4⟩ := h2 q hq
    exact ⟨((g1.moved hW.alike).kept hS.2.1).narrow hAB, (g2.moved hW.alike).kept (hS.2.1 _ g3 g4), Nat.lt_of_lt_of_le g3 hS.1, fun z => g4 (hAB _ z)⟩
theorem zE.same {x : zX} {A : Nat → Prop} {u U : State} {H : Heap} (h : zE x A u H) (hv : u.vm = U.vm) : zE x A U H := by
  have ha : u.vm.Alike U.vm := hv ▸ Vm.Alike.refl u.vm
  obtain ⟨h1, h2, h3, h4, h5⟩ := h
  refine ⟨fun w hw => ⟨?_, (h1 w hw).2⟩, fun q hq => ⟨(h2 q hq).1.moved ha, (h2 q hq).2.1.moved ha, (h2 q hq).2.2⟩, fun q hq => vk_R.same hv.symm (h3 q hq), h4.moved ha, fun hb => ⟨(h5 hb).1.moved ha, (h5 hb).2.1.moved ha, (h5 hb).2.2.1.moved ha, (h5 hb).2.2.2.moved ha⟩⟩
  rcases (h1 w hw).2 with ⟨a, i, b, n, d, z, rfl⟩ | ⟨a, i, y, z, rfl⟩ | ⟨a, b, rfl⟩ | ⟨y, rfl⟩
  · exact va_Nw.same rfl hv (h1 _ hw).1
  · exact va_Nw.same rfl hv (h1 _ hw).1
  · exact va_Nw.same rfl hv (h1 _ hw).1
  · exact va_Nw.same rfl hv (h1 _ hw).1
theorem zN_use {x : zX} {A : Nat → Prop} {U : State} {H : Heap} (h : zE x A U H) {w : Cond} (hw : w ∈ x.1) {a : Array Value} : w.before a U = true := by
  obtain ⟨g, q⟩ := h.1 w hw
  rcases q with ⟨a, i, b, n, d, z, rfl⟩ | ⟨a, i, y, z, rfl⟩ | ⟨a, b, rfl⟩ | ⟨y, rfl⟩
  · exact va_Nw.use rfl g
  · exact va_Nw.use rfl g
  · exact va_Nw.use rfl g
  · exact va_Nw.use rfl g
def zB (D : va_G) (cl : List vw_C) (tys : List (ClassId × FieldType)) (N : Nat) (ad : Nat → Nat) (cel : zSt → Nat → va_E) (σ : zSt) (U : State) : Prop := va_P D cl (zW N ad (cel σ)) U.heap ∧ va_K D cl tys U
/-- where a method begins -/
def zPre (D : va_G) (cl : List vw_C) (tys : List (ClassId × FieldType)) (x : zX) (N : Nat) (ad : Nat → Nat) (cel : zSt → Nat → va_E) (sz : Nat) (σ : zSt) (U : State) : Prop := U.heap.size = sz ∧ zB D cl tys N ad cel σ U ∧ zE x (zA ad N sz) U U.heap
def zPi (K : Int → zSt → Prop) (r : Int32) (u : zSt) : Prop := ∃ z, r = Int32.ofInt z ∧ K z u
def zC (p : Program) (m : MethodId) (c : Code) (cc : ByteArray) (nL : Nat) (s : State) (args : Array Value) (Ts : List Cond) (own : String) (meth : Method) (D : va_G) (cl : List vw_C) (tys : List (ClassId × FieldType)) (A : Nat → Prop) (N : Nat) (ad : Nat → Nat) (cel : zSt → Nat → va_E) : Prop :=
  CallFix p m c cc nL s args Ts own ∧ va_K D cl tys s ∧ (∀ σ, va_D A (zW N ad (cel σ))) ∧ meth.locks = false ∧ A = zA ad N s.heap.size
def zAt (p : Program) (l : Launch) (e : Env) (R : Room) (s : State) (m : MethodId) (args : Array Value) (below : List Frame) (meth : Method) (c : Code) (cells slots : Nat) (Q : State → Prop) (nL : Nat) (D : va_G) (cl : List vw_C) (A : Nat → Prop) (N : Nat) (ad : Nat → Nat) (cel : zSt → Nat → va_E) (pc : Nat) (lv : List (Nat × Value)) (stk : List Value) (σ : zSt) : Prop :=
  ∀ (H : Heap) (locs : List Loc) (ls : Array Slot), va_P D cl (zW N ad (cel σ)) H → va_S A s.heap H locs → lv_has ls nL lv → W p l e R s m args below meth c H locs cells slots Q (F0 m pc ls stk)
/-- cell k is an object of class ci with the fields that fs reads off the store -/
def zOb (cl : List vw_C) (N : Nat) (cel : zSt → Nat → va_E) (ci : Nat) (r : vw_C) (fs : zSt → List Value) (k : Int) : Prop := k.toNat < N ∧ cl[ci]? = some r ∧ ∀ σ, cel σ k.toNat = .inr (ci, fs σ)
/-- a write to cell k changes no other cell -/
def zLo (cel : zSt → Nat → va_E) (k : Int) : Prop := ∀ (σ : zSt) (i v : Int) (j : Nat), j ≠ k.toNat → cel (zu σ k i v) j = cel σ j
/-- cell k is an array of ints (bytes, booleans) of len places -/
def zIA (tys : List (ClassId × FieldType)) (N : Nat) (cel : zSt → Nat → va_E) (ty : FieldType) (len : Nat) (k : Int) : Prop := k.toNat < N ∧ len < 2147483648 ∧ ∃ (t0 : Nat) (cA : ClassId), tys[t0]? = some (cA, ty) ∧ ∀ σ, cel σ k.toNat = .inl (cA, len, .inl (fun j => Int32.ofInt (σ k (j : Int))))
/-- cell k is an array of references of len places -/
def zRA (tys : List (ClassId × FieldType)) (N : Nat) (ad : Nat → Nat) (cel : zSt → Nat → va_E) (C : String) (len : Nat) (f : zSt → Int → Int) (k : Int) : Prop := k.toNat < N ∧ len < 2147483648 ∧ ∃ (t0 : Nat) (cA : ClassId), tys[t0]? = some (cA, .object C) ∧ ∀ σ, cel σ k.toNat = .inl (cA, len, .inr (.inr (.inr (.inr (fun j => some (ad (f σ (j : Int)).toNat))))))
section ZR
variable {p : Program} {l : Launch} {e : Env} {R : Room} {s : State} {m : MethodId} {args : Array Value} {below : List Frame} {meth : Method} {c : Code} {cells slots : Nat} {Q : State → Prop}
variable {cc : ByteArray} {nL : Nat} {Ts : List Cond} {own : String} {D : va_G} {cl : List vw_C} {tys : List (ClassId × FieldType)} {A : Nat → Prop} {N : Nat} {ad : Nat → Nat} {cel : zSt → Nat → va_E}
variable {pc : Nat} {lv : List (Nat × Value)} {stk : List Value} {σ : zSt}
theorem z_iconst (hC : zC p m c cc nL s args Ts own meth D cl tys A N ad cel) {n : Int} (hdg : decode cc pc = .ok (.iconst n, 1)) (g : zAt p l e R s m args below meth c cells slots Q nL D cl A N ad cel (pc + 1) (lv) (vI n :: stk) (σ)) : zAt p l e R s m args below meth c cells slots Q nL D cl A N ad cel (pc) lv (stk) σ :=
  fun H locs ls hP hS hl => lv_iconst hC.1.1 hC.1.2.1 hdg rfl (g H locs ls hP hS hl)
theorem z_bipush (hC : zC p m c cc nL s args Ts own meth D cl tys A N ad cel) {n : Int} (hdg : decode cc pc = .ok (.bipush n, 2)) (hv : (Int8.ofInt n).toInt32 = Int32.ofInt n) (g : zAt p l e R s m args below meth c cells slots Q nL D cl A N ad cel (pc + 2) (lv) (vI n :: stk) (σ)) : zAt p l e R s m args below meth c cells slots Q nL D cl A N ad cel (pc) lv (stk) σ :=
  fun H locs ls hP hS hl => lv_bipush hC.1.1 hC.1.2.1 hdg hv (g H locs ls hP hS hl)
theorem z_sipush (hC : zC p m c cc nL s args Ts own meth D cl tys A N ad cel) {n : Int} (hdg : decode cc pc = .ok (.sipush n, 3)) (hv : (Int16.ofInt n).toInt32 = Int32.ofInt n) (g : zAt p l e R s m args below meth c cells slots Q nL D cl A N ad cel (pc + 3) (lv) (vI n :: stk) (σ)) : zAt p l e R s m args below meth c cells slots Q nL D cl A N ad cel (pc) lv (stk) σ :=
  fun H locs ls hP hS hl => lv_sipush hC.1.1 hC.1.2.1 hdg hv (g H locs ls hP hS hl)
theorem z_lconst (hC : zC p m c cc nL s args Ts own meth D cl tys A N ad cel) {n : Fin 2} (hdg : decode cc pc = .ok (.lconst n, 1)) (hv : Int64.ofNat (n : Nat) = Int64.ofInt ((n : Nat) : Int)) (g : zAt p l e R s m args below meth c cells slots Q nL D cl A N ad cel (pc + 1) (lv) (vL ((n : Nat) : Int) :: stk) (σ)) : zAt p l e R s m args below meth c cells slots Q nL D cl A N ad cel (pc) lv (stk) σ :=
  fun H locs ls hP hS hl => lv_lconst hC.1.1 hC.1.2.1 hdg hv (g H locs ls hP hS hl)
theorem z_ldc (hC : zC p m c cc nL s args Ts own meth D cl tys A N ad cel) {index : Nat} {n : Int} {v : Int32} (hc : Jvm.Cond.constant own index v ∈ Ts) (hv : v = Int32.ofInt n) (hdg : decode cc pc = .ok (.ldc index, 2)) (g : zAt p l e R s m args below meth c cells slots Q nL D cl A N ad cel (pc + 2) (lv) (vI n :: stk) (σ)) : zAt p l e R s m args below meth c cells slots Q nL D cl A N ad cel (pc) lv (stk) σ :=
  fun H locs ls hP hS hl => lv_ldc hC.1.1 hC.1.2.1 hC.1.2.2.2.1 (hC.1.2.2.2.2 _ hc) hdg (hv ▸ g H locs ls hP hS hl)
theorem z_ldcw (hC : zC p m c cc nL s args Ts own meth D cl tys A N ad cel) {index : Nat} {n : Int} {v : Int32} (hc : Jvm.Cond.constant own index v ∈ Ts) (hv : v = Int32.ofInt n) (hdg : decode cc pc = .ok (.ldc_w index, 3)) (g : zAt p l e R s m args below meth c cells slots Q nL D cl A N ad cel (pc + 3) (lv) (vI n :: stk) (σ)) : zAt p l e R s m args below meth c cells slots Q nL D cl A N ad cel (pc) lv (stk) σ :=
  fun H locs ls hP hS hl => lv_ldcw hC.1.1 hC.1.2.1 hC.1.2.2.2.1 (hC.1.2.2.2.2 _ hc) hdg (hv ▸ g H locs ls hP hS hl)
theorem z_ldc2 (hC : zC p m c cc nL s args Ts own meth D cl tys A N ad cel) {index : Nat} {n : Int} {v : Int64} (hc : Jvm.Cond.constantLong own index v ∈ Ts) (hv : v = Int64.ofInt n) (hdg : decode cc pc = .ok (.ldc2_w index, 3)) (g : zAt p l e R s m args below meth c cells slots Q nL D cl A N ad cel (pc + 3) (lv) (vL n :: stk) (σ)) : zAt p l e R s m args below meth c cells slots Q nL D cl A N ad cel (pc) lv (stk) σ :=
  fun H locs ls hP hS hl => lv_ldc2 hC.1.1 hC.1.2.1 hC.1.2.2.2.1 (hC.1.2.2.2.2 _ hc) hdg (hv ▸ g H locs ls hP hS hl)
theorem z_iload_n (hC : zC p m c cc nL s args Ts own meth D cl tys A N ad cel) {kk : Fin 4} {x : Int32} (hdg : decode cc pc = .ok (.iload_n kk, 1)) (q : Nat) {i : Nat} (hi : (kk : Nat) = i) (hq : lv[q]? = some (i, .int x)) (g : zAt p l e R s m args below meth c cells slots Q nL D cl A N ad cel (pc + 1) (lv) (.int x :: stk) (σ)) : zAt p l e R s m args below meth c cells slots Q nL D cl A N ad cel (pc) lv (stk) σ :=
  fun H locs ls hP hS hl => lv_iload_n hC.1.1 hC.1.2.1 hdg hi (lv_at hl q hq) (g H locs ls hP hS hl)
theorem z_iload (hC : zC p m c cc nL s args Ts own meth D cl tys A N ad cel) {i : Nat} {x : Int32} (hdg : decode cc pc = .ok (.iload i, 2)) (q : Nat) (hq : lv[q]? = some (i, .int x)) (g : zAt p l e R s m args below meth c cells slots Q nL D cl A N ad cel (pc + 2) (lv) (.int x :: stk) (σ)) : zAt p l e R s m args below meth c cells slots Q nL D cl A N ad cel (pc) lv (stk) σ :=
  fun H locs ls hP hS hl => lv_iload hC.1.1 hC.1.2.1 hdg (lv_at hl q hq) (g H locs ls hP hS hl)
theorem z_istore_n (hC : zC p m c cc nL s args Ts own meth D cl tys A N ad cel) {kk : Fin 4} {i : Nat} {x : Int32} (lv' : List (Nat × Value)) (hdg : decode cc pc = .ok (.istore_n kk, 1)) (hi : (kk : Nat) = i) (hn : i < nL) (hq : (i, Value.int x) :: lv.filter (fun q => !(q.1 == i) && !(q.1 + 1 == i && q.2.category == 2)) = lv') (g : zAt p l e R s m args below meth c cells slots Q nL D cl A N ad cel (pc + 1) (lv') (stk) (σ)) : zAt p l e R s m args below meth c cells slots Q nL D cl A N ad cel (pc) lv (.int x :: stk) σ :=
  fun H locs ls hP hS hl => lv_istore_n hC.1.1 hC.1.2.1 hdg hi hl hn hq (fun ls2 hl2 => g H locs ls2 hP hS hl2)
theorem z_istore (hC : zC p m c cc nL s args Ts own meth D cl tys A N ad cel) {i : Nat} {x : Int32} (lv' : List (Nat × Value)) (hdg : decode cc pc = .ok (.istore i, 2)) (hn : i < nL) (hq : (i, Value.int x) :: lv.filter (fun q => !(q.1 == i) && !(q.1 + 1 == i && q.2.category == 2)) = lv') (g : zAt p l e R s m args below meth c cells slots Q nL D cl A N ad cel (pc + 2) (lv') (stk) (σ)) : zAt p l e R s m args below meth c cells slots Q nL D cl A N ad cel (pc) lv (.int x :: stk) σ :=
  fun H locs ls hP hS hl => lv_istore hC.1.1 hC.1.2.1 hdg hl hn hq (fun ls2 hl2 => g H locs ls2 hP hS hl2)
theorem z_lload_n (hC : zC p m c cc nL s args Ts own meth D cl tys A N ad cel) {kk : Fin 4} {x : Int64} (hdg : decode cc pc = .ok (.lload_n kk, 1)) (q : Nat) {i : Nat} (hi : (kk : Nat) = i) (hq : lv[q]? = some (i, .long x)) (g : zAt p l e R s m args below meth c cells slots Q nL D cl A N ad cel (pc + 1) (lv) (.long x :: stk) (σ)) : zAt p l e R s m args below meth c cells slots Q nL D cl A N ad cel (pc) lv (stk) σ :=
  fun H locs ls hP hS hl => lv_lload_n hC.1.1 hC.1.2.1 hdg hi (lv_at hl q hq) (g H locs ls hP hS hl)
theorem z_lload (hC : zC p m c cc nL s args Ts own meth D cl tys A N ad cel) {i : Nat} {x : Int64} (hdg : decode cc pc = .ok (.lload i, 2)) (q : Nat) (hq : lv[q]? = some (i, .long x)) (g : zAt p l e R s m args below meth c cells slots Q nL D cl A N ad cel (pc + 2) (lv) (.long x :: stk) (σ)) : zAt p l e R s m args below meth c cells slots Q nL D cl A N ad cel (pc) lv (stk) σ :=
  fun H locs ls hP hS hl => lv_lload hC.1.1 hC.1.2.1 hdg (lv_at hl q hq) (g H locs ls hP hS hl)
theorem z_lstore_n (hC : zC p m c cc nL s args Ts own meth D cl tys A N ad cel) {kk : Fin 4} {i : Nat} {x : Int64} (lv' : List (Nat × Value)) (hdg : decode cc pc = .ok (.lstore_n kk, 1)) (hi : (kk : Nat) = i) (hn : i + 1 < nL) (hq : (i, Value.long x) :: lv.filter (fun q => !(q.1 == i) && (!(q.1 == i + 1) && !(q.1 + 1 == i && q.2.category == 2))) = lv') (g : zAt p l e R s m args below meth c cells slots Q nL D cl A N ad cel (pc + 1) (lv') (stk) (σ)) : zAt p l e R s m args below meth c cells slots Q nL D cl A N ad cel (pc) lv (.long x :: stk) σ :=
  fun H locs ls hP hS hl => lv_lstore_n hC.1.1 hC.1.2.1 hdg hi hl hn hq (fun ls2 hl2 => g H locs ls2 hP hS hl2)
theorem z_lstore (hC : zC p m c cc nL s args Ts own meth D cl tys A N ad cel) {i : Nat} {x : Int64} (lv' : List (Nat × Value)) (hdg : decode cc pc = .ok (.lstore i, 2)) (hn : i + 1 < nL) (hq : (i, Value.long x) :: lv.filter (fun q => !(q.1 == i) && (!(q.1 == i + 1) && !(q.1 + 1 == i && q.2.category == 2))) = lv') (g : zAt p l e R s m args below meth c cells slots Q nL D cl A N ad cel (pc + 2) (lv') (stk) (σ)) : zAt p l e R s m args below meth c cells slots Q nL D cl A N ad cel (pc) lv (.long x :: stk) σ :=
  fun H locs ls hP hS hl => lv_lstore hC.1.1 hC.1.2.1 hdg hl hn hq (fun ls2 hl2 => g H locs ls2 hP hS hl2)
theorem z_aload_n (hC : zC p m c cc nL s args Ts own meth D cl tys A N ad cel) {kk : Fin 4} {x : Nat} (hdg : decode cc pc = .ok (.aload_n kk, 1)) (q : Nat) {i : Nat} (hi : (kk : Nat) = i) (hq : lv[q]? = some (i, .ref x)) (g : zAt p l e R s m args below meth c cells slots Q nL D cl A N ad cel (pc + 1) (lv) (.ref x :: stk) (σ)) : zAt p l e R s m args below meth c cells slots Q nL D cl A N ad cel (pc) lv (stk) σ :=
  fun H locs ls hP hS hl => lv_aload_n hC.1.1 hC.1.2.1 hdg hi (lv_at hl q hq) (g H locs ls hP hS hl)
theorem z_aload (hC : zC p m c cc nL s args Ts own meth D cl tys A N ad cel) {i : Nat} {x : Nat} (hdg : decode cc pc = .ok (.aload i, 2)) (q : Nat) (hq : lv[q]? = some (i, .ref x)) (g : zAt p l e R s m args below meth c cells slots Q nL D cl A N ad cel (pc + 2) (lv) (.ref x :: stk) (σ)) : zAt p l e R s m args below meth c cells slots Q nL D cl A N ad cel (pc) lv (stk) σ :=
  fun H locs ls hP hS hl => lv_aload hC.1.1 hC.1.2.1 hdg (lv_at hl q hq) (g H locs ls hP hS hl)
theorem z_astore_n (hC : zC p m c cc nL s args Ts own meth D cl tys A N ad cel) {kk : Fin 4} {i : Nat} {x : Nat} (lv' : List (Nat × Value)) (hdg : decode cc pc = .ok (.astore_n kk, 1)) (hi : (kk : Nat) = i) (hn : i < nL) (hq : (i, Value.ref x) :: lv.filter (fun q => !(q.1 == i) && !(q.1 + 1 == i && q.2.category == 2)) = lv') (g : zAt p l e R s m args below meth c cells slots Q nL D cl A N ad cel (pc + 1) (lv') (stk) (σ)) : zAt p l e R s m args below meth c cells slots Q nL D cl A N ad cel (pc) lv (.ref x :: stk) σ :=
  fun H locs ls hP hS hl => lv_astore_n hC.1.1 hC.1.2.1 hdg hi hl hn hq (fun ls2 hl2 => g H locs ls2 hP hS hl2)
theorem z_astore (hC : zC p m c cc nL s args Ts own meth D cl tys A N ad cel) {i : Nat} {x : Nat} (lv' : List (Nat × Value)) (hdg : decode cc pc = .ok (.astore i, 2)) (hn : i < nL) (hq : (i, Value.ref x) :: lv.filter (fun q => !(q.1 == i) && !(q.1 + 1 == i && q.2.category == 2)) = lv') (g : zAt p l e R s m args below meth c cells slots Q nL D cl A N ad cel (pc + 2) (lv') (stk) (σ)) : zAt p l e R s m args below meth c cells slots Q nL D cl A N ad cel (pc) lv (.ref x :: stk) σ :=
  fun H locs ls hP hS hl => lv_astore hC.1.1 hC.1.2.1 hdg hl hn hq (fun ls2 hl2 => g H locs ls2 hP hS hl2)
theorem z_iinc (hC : zC p m c cc nL s args Ts own meth D cl tys A N ad cel) {i : Nat} {n x : Int} (lv' : List (Nat × Value)) (hdg : decode cc pc = .ok (.iinc i n, 3)) (q : Nat) (hk : lv[q]? = some (i, vI x)) (hn : i < nL) (hq : (i, vI (x + n)) :: lv.filter (fun q => !(q.1 == i) && !(q.1 + 1 == i && q.2.category == 2)) = lv') (g : zAt p l e R s m args below meth c cells slots Q nL D cl A N ad cel (pc + 3) (lv') (stk) (σ)) : zAt p l e R s m args below meth c cells slots Q nL D cl A N ad cel (pc) lv (stk) σ :=
  fun H locs ls hP hS hl => lv_iinc hC.1.1 hC.1.2.1 hdg hl hk (by rw [Int32.ofInt_add]) hn hq (fun ls2 hl2 => g H locs ls2 hP hS hl2)
/-- fewer locals, in another order -/
theorem z_sub {lv' : List (Nat × Value)} (ks : List Nat) (h : lv_pick lv ks = lv') (g : zAt p l e R s m args below meth c cells slots Q nL D cl A N ad cel (pc) (lv') (stk) (σ)) : zAt p l e R s m args below meth c cells slots Q nL D cl A N ad cel (pc) (lv) (stk) (σ) := fun H locs ls hP hS hl => g H locs ls hP hS (lv_sub hl ks h)
theorem z_iadd (hC : zC p m c cc nL s args Ts own meth D cl tys A N ad cel) {x y : Int} (hdg : decode cc pc = .ok (.iadd, 1)) (g : zAt p l e R s m args below meth c cells slots Q nL D cl A N ad cel (pc + 1) (lv) (vI (x + y) :: stk) (σ)) : zAt p l e R s m args below meth c cells slots Q nL D cl A N ad cel (pc) lv (vI y :: vI x :: stk) σ :=
  fun H locs ls hP hS hl => lv_iadd hC.1.1 hC.1.2.1 hdg (Int32.ofInt_add x y ▸ g H locs ls hP hS hl)
theorem z_isub (hC : zC p m c cc nL s args Ts own meth D cl tys A N ad cel) {x y : Int} (hdg : decode cc pc = .ok (.isub, 1)) (g : zAt p l e R s m args below meth c cells slots Q nL D cl A N ad cel (pc + 1) (lv) (vI (x - y) :: stk) (σ)) : zAt p l e R s m args below meth c cells slots Q nL D cl A N ad cel (pc) lv (vI y :: vI x :: stk) σ :=
  fun H locs ls hP hS hl => lv_isub hC.1.1 hC.1.2.1 hdg (Int32.ofInt_sub x y ▸ g H locs ls hP hS hl)
theorem z_imul (hC : zC p m c cc nL s args Ts own meth D cl tys A N ad cel) {x y : Int} (hdg : decode cc pc = .ok (.imul, 1)) (g : zAt p l e R s m args below meth c cells slots Q nL D cl A N ad cel (pc + 1) (lv) (vI (x * y) :: stk) (σ)) : zAt p l e R s m args below meth c cells slots Q nL D cl A N ad cel (pc) lv (vI y :: vI x :: stk) σ :=
  fun H locs ls hP hS hl => lv_imul hC.1.1 hC.1.2.1 hdg (Int32.ofInt_mul x y ▸ g H locs ls hP hS hl)
theorem z_ladd (hC : zC p m c cc nL s args Ts own meth D cl tys A N ad cel) {x y : Int} (hdg : decode cc pc = .ok (.ladd, 1)) (g : zAt p l e R s m args below meth c cells slots Q nL D cl A N ad cel (pc + 1) (lv) (vL (x + y) :: stk) (σ)) : zAt p l e R s m args below meth c cells slots Q nL D cl A N ad cel (pc) lv (vL y :: vL x :: stk) σ :=
  fun H locs ls hP hS hl => lv_ladd hC.1.1 hC.1.2.1 hdg (Int64.ofInt_add x y ▸ g H locs ls hP hS hl)
theorem z_lsub (hC : zC p m c cc nL s args Ts own meth D cl tys A N ad cel) {x y : Int} (hdg : decode cc pc = .ok (.lsub, 1)) (g : zAt p l e R s m args below meth c cells slots Q nL D cl A N ad cel (pc + 1) (lv) (vL (x - y) :: stk) (σ)) : zAt p l e R s m args below meth c cells slots Q nL D cl A N ad cel (pc) lv (vL y :: vL x :: stk) σ :=
  fun H locs ls hP hS hl => lv_lsub hC.1.1 hC.1.2.1 hdg (Int64.ofInt_sub x y ▸ g H locs ls hP hS hl)
theorem z_lmul (hC : zC p m c cc nL s args Ts own meth D cl tys A N ad cel) {x y : Int} (hdg : decode cc pc = .ok (.lmul, 1)) (g : zAt p l e R s m args below meth c cells slots Q nL D cl A N ad cel (pc + 1) (lv) (vL (x * y) :: stk) (σ)) : zAt p l e R s m args below meth c cells slots Q nL D cl A N ad cel (pc) lv (vL y :: vL x :: stk) σ :=
  fun H locs ls hP hS hl => lv_lmul hC.1.1 hC.1.2.1 hdg (Int64.ofInt_mul x y ▸ g H locs ls hP hS hl)
theorem z_ineg (hC : zC p m c cc nL s args Ts own meth D cl tys A N ad cel) {x : Int} (hdg : decode cc pc = .ok (.ineg, 1)) (g : zAt p l e R s m args below meth c cells slots Q nL D cl A N ad cel (pc + 1) (lv) (vI (-x) :: stk) (σ)) : zAt p l e R s m args below meth c cells slots Q nL D cl A N ad cel (pc) lv (vI x :: stk) σ :=
  fun H locs ls hP hS hl => lv_ineg hC.1.1 hC.1.2.1 hdg (Int32.ofInt_neg x ▸ g H locs ls hP hS hl)
theorem zi_div {x y : Int} (hx : zrg x) (hy : zrg y) : Int32.ofInt x / Int32.ofInt y = Int32.ofInt (x.tdiv y) := by
  exact (Int32.ofInt_tdiv (by have := hx.1; have h2 : Int32.minValue.toInt = -2147483648 := by decide +kernel
                              omega) (by have := hx.2; have h2 : Int32.maxValue.toInt = 2147483647 := by decide +kernel
                                         omega) (by have := hy.1; have h2 : Int32.minValue.toInt = -2147483648 := by decide +kernel
                                                    omega) (by have := hy.2; have h2 : Int32.maxValue.toInt = 2147483647 := by decide +kernel
                                                               omega)).symm
theorem zi_ne0 {y : Int} (hy : zrg y) (h : ¬ y = 0) : ¬ Int32.ofInt y = 0 := fun q => h ((zi_eq hy z_0).mp q)
theorem zl_div {x y : Int} (hx : zrl x) (hy : zrl y) : Int64.ofInt x / Int64.ofInt y = Int64.ofInt (x.tdiv y) := by
  exact (Int64.ofInt_tdiv (by have := hx.1; have h2 : Int64.minValue.toInt = -9223372036854775808 := by decide +kernel
                              omega) (by have := hx.2; have h2 : Int64.maxValue.toInt = 9223372036854775807 := by decide +kernel
                                         omega) (by have := hy.1; have h2 : Int64.minValue.toInt = -9223372036854775808 := by decide +kernel
                                                    omega) (by have := hy.2; have h2 : Int64.maxValue.toInt = 9223372036854775807 := by decide +kernel
                                                               omega)).symm
theorem z_0l : zrl 0 := ⟨by decide, by decide⟩
theorem zl_ne0 {y : Int} (hy : zrl y) (h : ¬ y = 0) : ¬ Int64.ofInt y = 0 := fun q => h ((zl_eq hy z_0l).mp q)
theorem zi_rem {x y : Int} (hx : zrg x) (hy : zrg y) : Int32.ofInt x - Int32.ofInt x / Int32.ofInt y * Int32.ofInt y = Int32.ofInt (x.tmod y) := by
  rw [zi_div hx hy, ← Int32.ofInt_mul, ← Int32.ofInt_sub]
  congr 1
  have := Int.tdiv_mul_add_tmod x y
  omega
theorem z_idiv (hC : zC p m c cc nL s args Ts own meth D cl tys A N ad cel) {x y : Int} (hdg : decode cc pc = .ok (.idiv, 1)) (hx : zrg x) (hy : zrg y) (h0 : ¬ y = 0) (g : zAt p l e R s m args below meth c cells slots Q nL D cl A N ad cel (pc + 1) (lv) (vI (x.tdiv y) :: stk) (σ)) : zAt p l e R s m args below meth c cells slots Q nL D cl A N ad cel (pc) lv (vI y :: vI x :: stk) σ :=
  fun H locs ls hP hS hl => lv_idiv hC.1.1 hC.1.2.1 hdg (zi_ne0 hy h0) (zi_div hx hy ▸ g H locs ls hP hS hl)
theorem z_irem (hC : zC p m c cc nL s args Ts own meth D cl tys A N ad cel) {x y : Int} (hdg : decode cc pc = .ok (.irem, 1)) (hx : zrg x) (hy : zrg y) (h0 : ¬ y = 0) (g : zAt p l e R s m args below meth c cells slots Q nL D cl A N ad cel (pc + 1) (lv) (vI (x.tmod y) :: stk) (σ)) : zAt p l e R s m args below meth c cells slots Q nL D cl A N ad cel (pc) lv (vI y :: vI x :: stk) σ :=
  fun H locs ls hP hS hl => lv_irem hC.1.1 hC.1.2.1 hdg (zi_ne0 hy h0) (zi_rem hx hy ▸ g H locs ls hP hS hl)
theorem z_ldiv (hC : zC p m c cc nL s args Ts own meth D cl tys A N ad cel) {x y : Int} (hdg : decode cc pc = .ok (.ldiv, 1)) (hx : zrl x) (hy : zrl y) (h0 : ¬ y = 0) (g : zAt p l e R s m args below meth c cells slots Q nL D cl A N ad cel (pc + 1) (lv) (vL (x.tdiv y) :: stk) (σ)) : zAt p l e R s m args below meth c cells slots Q nL D cl A N ad cel (pc) lv (vL y :: vL x :: stk) σ :=
  fun H locs ls hP hS hl => lv_ldiv hC.1.1 hC.1.2.1 hdg (zl_ne0 hy h0) (zl_div hx hy ▸ g H locs ls hP hS hl)
theorem zi_l {x : Int} (hx : zrg x) : (Int32.ofInt x).toInt64 = Int64.ofInt x := by
  rw [← Int64.toInt_inj, Int32.toInt_toInt64, zi_t hx, zl_t ⟨by have := hx.1; omega, by have := hx.2; omega⟩]
theorem zl_i (x : Int) : (Int64.ofInt x).toInt32 = Int32.ofInt x := by simp
theorem z_i2l (hC : zC p m c cc nL s args Ts own meth D cl tys A N ad cel) {x : Int} (hdg : decode cc pc = .ok (.i2l, 1)) (hx : zrg x) (g : zAt p l e R s m args below meth c cells slots Q nL D cl A N ad cel (pc + 1) (lv) (vL x :: stk) (σ)) : zAt p l e R s m args below meth c cells slots Q nL D cl A N ad cel (pc) lv (vI x :: stk) σ :=
  fun H locs ls hP hS hl => lv_i2l hC.1.1 hC.1.2.1 hdg (zi_l hx) (g H locs ls hP hS hl)
theorem z_l2i (hC : zC p m c cc nL s args Ts own meth D cl tys A N ad cel) {x : Int} (hdg : decode cc pc = .ok (.l2i, 1)) (g : zAt p l e R s m args below meth c cells slots Q nL D cl A N ad cel (pc + 1) (lv) (vI x :: stk) (σ)) : zAt p l e R s m args below meth c cells slots Q nL D cl A N ad cel (pc) lv (vL x :: stk) σ :=
  fun H locs ls hP hS hl => lv_l2i hC.1.1 hC.1.2.1 hdg (zl_i x) (g H locs ls hP hS hl)
theorem z_dup (hC : zC p m c cc nL s args Ts own meth D cl tys A N ad cel) {va : Value} (hdg : decode cc pc = .ok (.dup, 1)) (hva : va.category = 1) (g : zAt p l e R s m args below meth c cells slots Q nL D cl A N ad cel (pc + 1) (lv) (va :: va :: stk) (σ)) : zAt p l e R s m args below meth c cells slots Q nL D cl A N ad cel (pc) lv (va :: stk) σ :=
  fun H locs ls hP hS hl => lv_dup hC.1.1 hC.1.2.1 hdg hva (g H locs ls hP hS hl)
theorem z_dup2 (hC : zC p m c cc nL s args Ts own meth D cl tys A N ad cel) {va vb : Value} (hdg : decode cc pc = .ok (.dup2, 1)) (hva : va.category = 1) (hvb : vb.category = 1) (g : zAt p l e R s m args below meth c cells slots Q nL D cl A N ad cel (pc + 1) (lv) (va :: vb :: va :: vb :: stk) (σ)) : zAt p l e R s m args below meth c cells slots Q nL D cl A N ad cel (pc) lv (va :: vb :: stk) σ :=
  fun H locs ls hP hS hl => lv_dup2_11 hC.1.1 hC.1.2.1 hdg hva hvb (g H locs ls hP hS hl)
theorem z_goto (hC : zC p m c cc nL s args Ts own meth D cl tys A N ad cel) {off : Int} {tgt : Nat} (hdg : decode cc pc = .ok (.goto off, 3)) (ht : (pc : Int) + off = (tgt : Int)) (g : zAt p l e R s m args below meth c cells slots Q nL D cl A N ad cel (tgt) (lv) (stk) (σ)) : zAt p l e R s m args below meth c cells slots Q nL D cl A N ad cel (pc) lv (stk) σ :=
  fun H locs ls hP hS hl => lv_goto hC.1.1 hC.1.2.1 hdg ht (g H locs ls hP hS hl)
theorem z_if_eq (hC : zC p m c cc nL s args Ts own meth D cl tys A N ad cel) {x : Int} {off : Int} {tgt : Nat} (hdg : decode cc pc = .ok (.ifCond .eq off, 3)) (ht : (pc : Int) + off = (tgt : Int)) (hx : zrg x) (gt : x = 0 → zAt p l e R s m args below meth c cells slots Q nL D cl A N ad cel (tgt) (lv) (stk) (σ)) (gf : ¬ x = 0 → zAt p l e R s m args below meth c cells slots Q nL D cl A N ad cel (pc + 3) (lv) (stk) (σ)) : zAt p l e R s m args below meth c cells slots Q nL D cl A N ad cel (pc) lv (vI x :: stk) σ :=
  fun H locs ls hP hS hl => lv_if_eq hC.1.1 hC.1.2.1 hdg ht (fun q => gt ((zi_eq hx z_0).mp q) H locs ls hP hS hl) (fun q => gf (fun z => q ((zi_eq hx z_0).mpr z)) H locs ls hP hS hl)
theorem z_icmp_eq (hC : zC p m c cc nL s args Ts own meth D cl tys A N ad cel) {x y : Int} {off : Int} {tgt : Nat} (hdg : decode cc pc = .ok (.if_icmp .eq off, 3)) (ht : (pc : Int) + off = (tgt : Int)) (hx : zrg x) (hy : zrg y) (gt : x = y → zAt p l e R s m args below meth c cells slots Q nL D cl A N ad cel (tgt) (lv) (stk) (σ)) (gf : ¬ x = y → zAt p l e R s m args below meth c cells slots Q nL D cl A N ad cel (pc + 3) (lv) (stk) (σ)) : zAt p l e R s m args below meth c cells slots Q nL D cl A N ad cel (pc) lv (vI y :: vI x :: stk) σ :=
  fun H locs ls hP hS hl => lv_icmp_eq hC.1.1 hC.1.2.1 hdg ht (fun q => gt ((zi_eq hx hy).mp q) H locs ls hP hS hl) (fun q => gf (fun z => q ((zi_eq hx hy).mpr z)) H locs ls hP hS hl)
theorem z_if_ne (hC : zC p m c cc nL s args Ts own meth D cl tys A N ad cel) {x : Int} {off : Int} {tgt : Nat} (hdg : decode cc pc = .ok (.ifCond .ne off, 3)) (ht : (pc : Int) + off = (tgt : Int)) (hx : zrg x) (gt : ¬ x = 0 → zAt p l e R s m args below meth c cells slots Q nL D cl A N ad cel (tgt) (lv) (stk) (σ)) (gf : x = 0 → zAt p l e R s m args below meth c cells slots Q nL D cl A N ad cel (pc + 3) (lv) (stk) (σ)) : zAt p l e R s m args below meth c cells slots Q nL D cl A N ad cel (pc) lv (vI x :: stk) σ :=
  fun H locs ls hP hS hl => lv_if_ne hC.1.1 hC.1.2.1 hdg ht (fun q => gt (fun z => q ((zi_eq hx z_0).mpr z)) H locs ls hP hS hl) (fun q => gf ((zi_eq hx z_0).mp q) H locs ls hP hS hl)
theorem z_icmp_ne (hC : zC p m c cc nL s args Ts own meth D cl tys A N ad cel) {x y : Int} {off : Int} {tgt : Nat} (hdg : decode cc pc = .ok (.if_icmp .ne off, 3)) (ht : (pc : Int) + off = (tgt : Int)) (hx : zrg x) (hy : zrg y) (gt : ¬ x = y → zAt p l e R s m args below meth c cells slots Q nL D cl A N ad cel (tgt) (lv) (stk) (σ)) (gf : x = y → zAt p l e R s m args below meth c cells slots Q nL D cl A N ad cel (pc + 3) (lv) (stk) (σ)) : zAt p l e R s m args below meth c cells slots Q nL D cl A N ad cel (pc) lv (vI y :: vI x :: stk) σ :=
  fun H locs ls hP hS hl => lv_icmp_ne hC.1.1 hC.1.2.1 hdg ht (fun q => gt (fun z => q ((zi_eq hx hy).mpr z)) H locs ls hP hS hl) (fun q => gf ((zi_eq hx hy).mp q) H locs ls hP hS hl)
theorem z_if_lt (hC : zC p m c cc nL s args Ts own meth D cl tys A N ad cel) {x : Int} {off : Int} {tgt : Nat} (hdg : decode cc pc = .ok (.ifCond .lt off, 3)) (ht : (pc : Int) + off = (tgt : Int)) (hx : zrg x) (gt : x < 0 → zAt p l e R s m args below meth c cells slots Q nL D cl A N ad cel (tgt) (lv) (stk) (σ)) (gf : ¬ x < 0 → zAt p l e R s m args below meth c cells slots Q nL D cl A N ad cel (pc + 3) (lv) (stk) (σ)) : zAt p l e R s m args below meth c cells slots Q nL D cl A N ad cel (pc) lv (vI x :: stk) σ :=
  fun H locs ls hP hS hl => lv_if_lt hC.1.1 hC.1.2.1 hdg ht (fun q => gt ((zi_lt hx z_0).mp q) H locs ls hP hS hl) (fun q => gf (fun z => q ((zi_lt hx z_0).mpr z)) H locs ls hP hS hl)
theorem z_icmp_lt (hC : zC p m c cc nL s args Ts own meth D cl tys A N ad cel) {x y : Int} {off : Int} {tgt : Nat} (hdg : decode cc pc = .ok (.if_icmp .lt off, 3)) (ht : (pc : Int) + off = (tgt : Int)) (hx : zrg x) (hy : zrg y) (gt : x < y → zAt p l e R s m args below meth c cells slots Q nL D cl A N ad cel (tgt) (lv) (stk) (σ)) (gf : ¬ x < y → zAt p l e R s m args below meth c cells slots Q nL D cl A N ad cel (pc + 3) (lv) (stk) (σ)) : zAt p l e R s m args below meth c cells slots Q nL D cl A N ad cel (pc) lv (vI y :: vI x :: stk) σ :=
  fun H locs ls hP hS hl => lv_icmp_lt hC.1.1 hC.1.2.1 hdg ht (fun q => gt ((zi_lt hx hy).mp q) H locs ls hP hS hl) (fun q => gf (fun z => q ((zi_lt hx hy).mpr z)) H locs ls hP hS hl)
theorem z_if_ge (hC : zC p m c cc nL s args Ts own meth D cl tys A N ad cel) {x : Int} {off : Int} {tgt : Nat} (hdg : decode cc pc = .ok (.ifCond .ge off, 3)) (ht : (pc : Int) + off = (tgt : Int)) (hx : zrg x) (gt : 0 ≤ x → zAt p l e R s m args below meth c cells slots Q nL D cl A N ad cel (tgt) (lv) (stk) (σ)) (gf : ¬ 0 ≤ x → zAt p l e R s m args below meth c cells slots Q nL D cl A N ad cel (pc + 3) (lv) (stk) (σ)) : zAt p l e R s m args below meth c cells slots Q nL D cl A N ad cel (pc) lv (vI x :: stk) σ :=
  fun H locs ls hP hS hl => lv_if_ge hC.1.1 hC.1.2.1 hdg ht (fun q => gt ((zi_le z_0 hx).mp q) H locs ls hP hS hl) (fun q => gf (fun z => q ((zi_le z_0 hx).mpr z)) H locs ls hP hS hl)
theorem z_icmp_ge (hC : zC p m c cc nL s args Ts own meth D cl tys A N ad cel) {x y : Int} {off : Int} {tgt : Nat} (hdg : decode cc pc = .ok (.if_icmp .ge off, 3)) (ht : (pc : Int) + off = (tgt : Int)) (hx : zrg x) (hy : zrg y) (gt : y ≤ x → zAt p l e R s m args below meth c cells slots Q nL D cl A N ad cel (tgt) (lv) (stk) (σ)) (gf : ¬ y ≤ x → zAt p l e R s m args below meth c cells slots Q nL D cl A N ad cel (pc + 3) (lv) (stk) (σ)) : zAt p l e R s m args below meth c cells slots Q nL D cl A N ad cel (pc) lv (vI y :: vI x :: stk) σ :=
  fun H locs ls hP hS hl => lv_icmp_ge hC.1.1 hC.1.2.1 hdg ht (fun q => gt ((zi_le hy hx).mp q) H locs ls hP hS hl) (fun q => gf (fun z => q ((zi_le hy hx).mpr z)) H locs ls hP hS hl)
theorem z_if_gt (hC : zC p m c cc nL s args Ts own meth D cl tys A N ad cel) {x : Int} {off : Int} {tgt : Nat} (hdg : decode cc pc = .ok (.ifCond .gt off, 3)) (ht : (pc : Int) + off = (tgt : Int)) (hx : zrg x) (gt : 0 < x → zAt p l e R s m args below meth c cells slots Q nL D cl A N ad cel (tgt) (lv) (stk) (σ)) (gf : ¬ 0 < x → zAt p l e R s m args below meth c cells slots Q nL D cl A N ad cel (pc + 3) (lv) (stk) (σ)) : zAt p l e R s m args below meth c cells slots Q nL D cl A N ad cel (pc) lv (vI x :: stk) σ :=
  fun H locs ls hP hS hl => lv_if_gt hC.1.1 hC.1.2.1 hdg ht (fun q => gt ((zi_lt z_0 hx).mp q) H locs ls hP hS hl) (fun q => gf (fun z => q ((zi_lt z_0 hx).mpr z)) H locs ls hP hS hl)
theorem z_icmp_gt (hC : zC p m c cc nL s args Ts own meth D cl tys A N ad cel) {x y : Int} {off : Int} {tgt : Nat} (hdg : decode cc pc = .ok (.if_icmp .gt off, 3)) (ht : (pc : Int) + off = (tgt : Int)) (hx : zrg x) (hy : zrg y) (gt : y < x → zAt p l e R s m args below meth c cells slots Q nL D cl A N ad cel (tgt) (lv) (stk) (σ)) (gf : ¬ y < x → zAt p l e R s m args below meth c cells slots Q nL D cl A N ad cel (pc + 3) (lv) (stk) (σ)) : zAt p l e R s m args below meth c cells slots Q nL D cl A N ad cel (pc) lv (vI y :: vI x :: stk) σ :=
  fun H locs ls hP hS hl => lv_icmp_gt hC.1.1 hC.1.2.1 hdg ht (fun q => gt ((zi_lt hy hx).mp q) H locs ls hP hS hl) (fun q => gf (fun z => q ((zi_lt hy hx).mpr z)) H locs ls hP hS hl)
theorem z_if_le (hC : zC p m c cc nL s args Ts own meth D cl tys A N ad cel) {x : Int} {off : Int} {tgt : Nat} (hdg : decode cc pc = .ok (.ifCond .le off, 3)) (ht : (pc : Int) + off = (tgt : Int)) (hx : zrg x) (gt : x ≤ 0 → zAt p l e R s m args below meth c cells slots Q nL D cl A N ad cel (tgt) (lv) (stk) (σ)) (gf : ¬ x ≤ 0 → zAt p l e R s m args below meth c cells slots Q nL D cl A N ad cel (pc + 3) (lv) (stk) (σ)) : zAt p l e R s m args below meth c cells slots Q nL D cl A N ad cel (pc) lv (vI x :: stk) σ :=
  fun H locs ls hP hS hl => lv_if_le hC.1.1 hC.1.2.1 hdg ht (fun q => gt ((zi_le hx z_0).mp q) H locs ls hP hS hl) (fun q => gf (fun z => q ((zi_le hx z_0).mpr z)) H locs ls hP hS hl)
theorem z_icmp_le (hC : zC p m c cc nL s args Ts own meth D cl tys A N ad cel) {x y : Int} {off : Int} {tgt : Nat} (hdg : decode cc pc = .ok (.if_icmp .le off, 3)) (ht : (pc : Int) + off = (tgt : Int)) (hx : zrg x) (hy : zrg y) (gt : x ≤ y → zAt p l e R s m args below meth c cells slots Q nL D cl A N ad cel (tgt) (lv) (stk) (σ)) (gf : ¬ x ≤ y → zAt p l e R s m args below meth c cells slots Q nL D cl A N ad cel (pc + 3) (lv) (stk) (σ)) : zAt p l e R s m args below meth c cells slots Q nL D cl A N ad cel (pc) lv (vI y :: vI x :: stk) σ :=
  fun H locs ls hP hS hl => lv_icmp_le hC.1.1 hC.1.2.1 hdg ht (fun q => gt ((zi_le hx hy).mp q) H locs ls hP hS hl) (fun q => gf (fun z => q ((zi_le hx hy).mpr z)) H locs ls hP hS hl)
end ZR
