/-! constructors: worlds as lists -/
theorem va_P.perm {D : va_G} {cl : List vw_C} {ws ws' : va_W} {H : Heap} (h : va_P D cl ws H) (p : ws.Perm ws') : va_P D cl ws' H := fun k q hq => by
  obtain ⟨i, hi⟩ := List.getElem?_of_mem (p.symm.subset (List.mem_of_getElem? hq))
  exact h i q hi
theorem va_D_iff {A : Nat → Prop} {ws : va_W} : va_D A ws ↔ (ws.map Prod.fst).Pairwise (fun a b => a ≠ b) ∧ ∀ x ∈ ws, A x.1 := by
  constructor
  · intro h
    refine ⟨?_, fun x hx => ?_⟩
    · rw [List.pairwise_iff_getElem]
      intro i j hi hj hij e
      rw [List.length_map] at hi hj
      have := h.1 i j ws[i] ws[j] (List.getElem?_eq_getElem hi) (List.getElem?_eq_getElem hj) (by simpa using e)
      omega
    · obtain ⟨i, hi⟩ := List.getElem?_of_mem hx
      exact h.2 i x hi
  · intro h
    obtain ⟨h1, h2⟩ := h
    rw [List.pairwise_iff_getElem] at h1
    refine ⟨fun i j p q hp hq e => ?_, fun k q hq => h2 q (List.mem_of_getElem? hq)⟩
    obtain ⟨hi, ei⟩ := List.getElem?_eq_some_iff.mp hp
    obtain ⟨hj, ej⟩ := List.getElem?_eq_some_iff.mp hq
    rcases Nat.lt_trichotomy i j with z | z | z
    · exact (h1 i j (by simpa using hi) (by simpa using hj) z (by simp [ei, ej, e])).elim
    · exact z
    · exact (h1 j i (by simpa using hj) (by simpa using hi) z (by simp [ei, ej, e])).elim
theorem va_D.perm {A : Nat → Prop} {ws ws' : va_W} (h : va_D A ws) (p : ws.Perm ws') : va_D A ws' := by
  rw [va_D_iff] at h ⊢
  refine ⟨?_, fun x hx => h.2 x (p.symm.subset hx)⟩
  exact ((p.map Prod.fst).pairwise_iff (fun h => h.symm)).mp h.1
theorem va_D1 {A : Nat → Prop} {a : Nat} {e : va_E} (h : A a) : va_D A [(a, e)] := by
  rw [va_D_iff]
  refine ⟨List.pairwise_singleton .., fun x hx => ?_⟩
  rw [List.mem_singleton] at hx
  rw [hx]; exact h
def zOn (a sz : Nat) : Nat → Prop := fun q => q = a ∨ sz ≤ q
/-- behind a constructor's call: its cells, and the rest -/
theorem zI_join {D : va_G} {cl : List vw_C} {A : Nat → Prop} {q : Nat} {e : va_E} {ws w1 : va_W} {H H1 : Heap} (hP : va_P D cl ((q, e) :: ws) H) (hD : va_D A ((q, e) :: ws)) (hA : ∀ x, zOn q H.size x → A x) (hk : ∀ x : Nat, x < H.size → ¬ zOn q H.size x → H1[x]? = H[x]?) (hP1 : va_P D cl w1 H1) (hD1 : va_D (zOn q H.size) w1) : va_P D cl (w1 ++ ws) H1 ∧ va_D A (w1 ++ ws) := by
  have ap : ∀ x ∈ ws, x.1 < H.size ∧ x.1 ≠ q := fun x hx => by
    obtain ⟨i, hi⟩ := List.getElem?_of_mem hx
    have hi' : ((q, e) :: ws)[i + 1]? = some x := by simpa using hi
    refine ⟨(hP (i + 1) x hi').lt, fun z => ?_⟩
    have := hD.1 (i + 1) 0 x (q, e) hi' rfl z
    omega
  refine ⟨va_P.app hP1 (fun k x hx => ?_), va_D.app (hD1.weaken (fun k x _ z => hA _ z)) ?_ (fun i j x y hx hy z => ?_)⟩
  · have hx' : ((q, e) :: ws)[k + 1]? = some x := by simpa using hx
    have m := ap x (List.mem_of_getElem? hx)
    exact (hP (k + 1) x hx').kept (hk x.1 m.1 (fun z => z.elim m.2 (fun y => by omega)))
  · rw [va_D_iff] at hD ⊢
    refine ⟨?_, fun x hx => hD.2 x (List.mem_cons_of_mem _ hx)⟩
    have := hD.1
    rw [List.map_cons, List.pairwise_cons] at this
    exact this.2
  · have m := ap y (List.mem_of_getElem? hy)
    rcases hD1.2 i x hx with n | n <;> omega
/-- cells alike: arrays as far as they reach -/
def zEq (a b : va_E) : Prop := a = b ∨ (∃ (cA : ClassId) (n : Nat) (f g : Nat → Int32), a = .inl (cA, n, .inl f) ∧ b = .inl (cA, n, .inl g) ∧ ∀ j, j < n → f j = g j) ∨ ∃ (cA : ClassId) (n : Nat) (f g : Nat → Option Nat), a = .inl (cA, n, .inr (.inr (.inr (.inr f)))) ∧ b = .inl (cA, n, .inr (.inr (.inr (.inr g)))) ∧ ∀ j, j < n → f j = g j
theorem arrV_cg {cA : ClassId} {n : Nat} {f g : Nat → Value} (h : ∀ j, j < n → f j = g j) : arrV cA n f = arrV cA n g := by
  unfold arrV
  congr 1
  apply Array.ext
  · simp
  · intro i h1 h2
    simp at h1
    simp [h i h1]
theorem zEq.at {D : va_G} {cl : List vw_C} {q : Nat} {a b : va_E} {H : Heap} (h : zEq a b) (p : va_at D cl (q, a) H) : va_at D cl (q, b) H := by
  rcases h with rfl | ⟨cA, n, f, g, rfl, rfl, e⟩ | ⟨cA, n, f, g, rfl, rfl, e⟩
  · exact p
  · show H[q]? = some (vp_cell cA (n, .inl g))
    rw [vp_cell_i, show arrV cA n (fun j => Value.int (g j)) = arrV cA n (fun j => Value.int (f j)) from arrV_cg (fun j hj => by rw [e j hj])]
    exact p
  · show H[q]? = some (vp_cell cA (n, .inr (.inr (.inr (.inr g)))))
    rw [vp_cell_q, show arrV cA n (fun j => va_rf (g j)) = arrV cA n (fun j => va_rf (f j)) from arrV_cg (fun j hj => by rw [e j hj])]
    exact p
/-- worlds alike, cell by cell -/
def zWq : va_W → va_W → Prop
  | [], [] => True
  | x :: xs, y :: ys => (x.1 = y.1 ∧ zEq x.2 y.2) ∧ zWq xs ys
  | _, _ => False
theorem zWq.get {D : va_G} {cl : List vw_C} {H : Heap} : ∀ {ws ws' : va_W}, zWq ws ws' → va_P D cl ws H → va_P D cl ws' H := by
  intro ws
  induction ws with
  | nil => intro ws' h hP; cases ws' with | nil => exact hP | cons y ys => exact h.elim
  | cons x xs ih =>
    intro ws' h hP
    cases ws' with
    | nil => exact h.elim
    | cons y ys =>
      obtain ⟨⟨h1, h2⟩, h3⟩ := h
      have hP' : va_P D cl xs H := fun k q hq => hP (k + 1) q (by simpa using hq)
      intro k q hq
      cases k with
      | zero =>
        have e : y = q := by simpa using hq
        rw [← e]
        obtain ⟨y1, y2⟩ := y
        obtain ⟨x1, x2⟩ := x
        have h1 : x1 = y1 := h1
        rw [← h1]
        exact h2.at (hP 0 (x1, x2) rfl)
      | succ k => exact ih h3 hP' k q (by simpa using hq)
theorem zWq.fst : ∀ {ws ws' : va_W}, zWq ws ws' → ws.map Prod.fst = ws'.map Prod.fst := by
  intro ws
  induction ws with
  | nil => intro ws' h; cases ws' with | nil => rfl | cons y ys => exact h.elim
  | cons x xs ih =>
    intro ws' h
    cases ws' with
    | nil => exact h.elim
    | cons y ys =>
      obtain ⟨⟨h1, h2⟩, h3⟩ := h
      rw [List.map_cons, List.map_cons, h1, ih h3]
theorem zWq.D {A : Nat → Prop} {ws ws' : va_W} (h : zWq ws ws') (hD : va_D A ws) : va_D A ws' := by
  rw [va_D_iff] at hD ⊢
  refine ⟨by rw [← h.fst]; exact hD.1, fun x hx => ?_⟩
  have : x.1 ∈ ws.map Prod.fst := by rw [h.fst]; exact List.mem_map_of_mem hx
  obtain ⟨y, hy, e⟩ := List.mem_map.mp this
  rw [← e]; exact hD.2 y hy
def zAO : List String := ["GlacierCamera$Change", "GlacierCamera$Frame", "GlacierCamera$Stake", "GlacierCamera$Track"]
def zIP (D : va_G) (dA : Nat → ClassId) (x : zX) (a ci : Nat) (fs0 : List Value) (sz : Nat) (U : State) : Prop := U.heap.size = sz ∧ va_P D vwCl [(a, .inr (ci, fs0))] U.heap ∧ va_K D vwCl (tyA dA) U ∧ zE x (zOn a sz) U U.heap ∧ ∀ C ∈ zAO, va_AO C U
def zIQ (D : va_G) (dA : Nat → ClassId) (T : (Nat → ClassId) → (Nat → Nat) → va_W) (a sz : Nat) (u : Nat → Nat) (t : State) : Prop := va_P D vwCl (T dA u) t.heap ∧ va_D (zOn a sz) (T dA u) ∧ va_K D vwCl (tyA dA) t
/-- a constructor's contract -/
def zIM (l : Launch) (y : MethodName) (ws : List Cond) (rm : Room) (mc ms ci : Nat) (fs0 As : List Value) (T : (Nat → ClassId) → (Nat → Nat) → va_W) : Prop := ∀ (D : va_G) (dA : Nat → ClassId) (aL aG aI : Nat) (aK aV : Nat → Nat) (a sz : Nat), Met l y ws rm (va_Pc (.ref a :: As) (zIP D dA (zXX aL aG aI aK aV) a ci fs0 sz)) (va_Qv (fun u : Nat → Nat => u 0 = a) (zIQ D dA T a sz) (zOn a sz)) mc ms (zOn a sz)
def zIC (p : Program) (m : MethodId) (c : Code) (cc : ByteArray) (nL : Nat) (s : State) (args : Array Value) (Ts : List Cond) (own : String) (meth : Method) (D : va_G) (dA : Nat → ClassId) (A : Nat → Prop) (x : zX) : Prop := CallFix p m c cc nL s args Ts own ∧ va_K D vwCl (tyA dA) s ∧ meth.locks = false ∧ (∀ q, s.heap.size ≤ q → A q) ∧ zE x A s s.heap ∧ ∀ C ∈ zAO, va_AO C s
def zL (p : Program) (l : Launch) (e : Env) (R : Room) (s : State) (m : MethodId) (args : Array Value) (below : List Frame) (meth : Method) (c : Code) (cells slots : Nat) (Q : State → Prop) (nL : Nat) (D : va_G) (A : Nat → Prop) (pc : Nat) (lv : List (Nat × Value)) (stk : List Value) (ws : va_W) : Prop :=
  ∀ (H : Heap) (locs : List Loc) (ls : Array Slot), va_P D vwCl ws H → va_D A ws → va_S A s.heap H locs → lv_has ls nL lv → W p l e R s m args below meth c H locs cells slots Q (F0 m pc ls stk)
section ZN
variable {p : Program} {l : Launch} {e : Env} {R : Room} {s : State} {m : MethodId} {args : Array Value} {below : List Frame} {meth : Method} {c : Code} {cells slots : Nat} {Q : State → Prop}
variable {cc : ByteArray} {nL : Nat} {Ts : List Cond} {own : String} {D : va_G} {dA : Nat → ClassId} {A : Nat → Prop} {x : zX}
variable {pc : Nat} {lv : List (Nat × Value)} {stk : List Value} {ws : va_W}
theorem zn_aload_n (hC : zIC p m c cc nL s args Ts own meth D dA A x) {kk : Fin 4} {y : Nat} (hdg : decode cc pc = .ok (.aload_n kk, 1)) (q : Nat) {i : Nat} (hi : (kk : Nat) = i) (hq : lv[q]? = some (i, .ref y)) (g : zL p l e R s m args below meth c cells slots Q nL D A (pc + 1) (lv) (.ref y :: stk) (ws)) : zL p l e R s m args below meth c cells slots Q nL D A (pc) (lv) (stk) (ws) :=
  fun H locs ls hP hD hS hl => lv_aload_n hC.1.1 hC.1.2.1 hdg hi (lv_at hl q hq) (g H locs ls hP hD hS hl)
theorem zn_iload_n (hC : zIC p m c cc nL s args Ts own meth D dA A x) {kk : Fin 4} {y : Int32} (hdg : decode cc pc = .ok (.iload_n kk, 1)) (q : Nat) {i : Nat} (hi : (kk : Nat) = i) (hq : lv[q]? = some (i, .int y)) (g : zL p l e R s m args below meth c cells slots Q nL D A (pc + 1) (lv) (.int y :: stk) (ws)) : zL p l e R s m args below meth c cells slots Q nL D A (pc) (lv) (stk) (ws) :=
  fun H locs ls hP hD hS hl => lv_iload_n hC.1.1 hC.1.2.1 hdg hi (lv_at hl q hq) (g H locs ls hP hD hS hl)
theorem zn_iconst (hC : zIC p m c cc nL s args Ts own meth D dA A x) {n : Int} (hdg : decode cc pc = .ok (.iconst n, 1)) (g : zL p l e R s m args below meth c cells slots Q nL D A (pc + 1) (lv) (vI n :: stk) (ws)) : zL p l e R s m args below meth c cells slots Q nL D A (pc) (lv) (stk) (ws) :=
  fun H locs ls hP hD hS hl => lv_iconst hC.1.1 hC.1.2.1 hdg rfl (g H locs ls hP hD hS hl)
theorem zn_bipush (hC : zIC p m c cc nL s args Ts own meth D dA A x) {n : Int} (hdg : decode cc pc = .ok (.bipush n, 2)) (hv : (Int8.ofInt n).toInt32 = Int32.ofInt n) (g : zL p l e R s m args below meth c cells slots Q nL D A (pc + 2) (lv) (vI n :: stk) (ws)) : zL p l e R s m args below meth c cells slots Q nL D A (pc) (lv) (stk) (ws) :=
  fun H locs ls hP hD hS hl => lv_bipush hC.1.1 hC.1.2.1 hdg hv (g H locs ls hP hD hS hl)
theorem zn_sipush (hC : zIC p m c cc nL s args Ts own meth D dA A x) {n : Int} (hdg : decode cc pc = .ok (.sipush n, 3)) (hv : (Int16.ofInt n).toInt32 = Int32.ofInt n) (g : zL p l e R s m args below meth c cells slots Q nL D A (pc + 3) (lv) (vI n :: stk) (ws)) : zL p l e R s m args below meth c cells slots Q nL D A (pc) (lv) (stk) (ws) :=
  fun H locs ls hP hD hS hl => lv_sipush hC.1.1 hC.1.2.1 hdg hv (g H locs ls hP hD hS hl)
theorem zn_dup (hC : zIC p m c cc nL s args Ts own meth D dA A x) {va : Value} (hdg : decode cc pc = .ok (.dup, 1)) (hva : va.category = 1) (g : zL p l e R s m args below meth c cells slots Q nL D A (pc + 1) (lv) (va :: va :: stk) (ws)) : zL p l e R s m args below meth c cells slots Q nL D A (pc) (lv) (va :: stk) (ws) :=
  fun H locs ls hP hD hS hl => lv_dup hC.1.1 hC.1.2.1 hdg hva (g H locs ls hP hD hS hl)
theorem zn_istore_n (hC : zIC p m c cc nL s args Ts own meth D dA A x) {kk : Fin 4} {i : Nat} {y : Int32} (lv' : List (Nat × Value)) (hdg : decode cc pc = .ok (.istore_n kk, 1)) (hi : (kk : Nat) = i) (hn : i < nL) (hq : (i, Value.int y) :: lv.filter (fun q => !(q.1 == i) && !(q.1 + 1 == i && q.2.category == 2)) = lv') (g : zL p l e R s m args below meth c cells slots Q nL D A (pc + 1) (lv') (stk) (ws)) : zL p l e R s m args below meth c cells slots Q nL D A (pc) (lv) (.int y :: stk) (ws) :=
  fun H locs ls hP hD hS hl => lv_istore_n hC.1.1 hC.1.2.1 hdg hi hl hn hq (fun ls2 hl2 => g H locs ls2 hP hD hS hl2)
theorem zn_iinc (hC : zIC p m c cc nL s args Ts own meth D dA A x) {i : Nat} {n y : Int} (lv' : List (Nat × Value)) (hdg : decode cc pc = .ok (.iinc i n, 3)) (q : Nat) (hk : lv[q]? = some (i, vI y)) (hn : i < nL) (hq : (i, vI (y + n)) :: lv.filter (fun q => !(q.1 == i) && !(q.1 + 1 == i && q.2.category == 2)) = lv') (g : zL p l e R s m args below meth c cells slots Q nL D A (pc + 3) (lv') (stk) (ws)) : zL p l e R s m args below meth c cells slots Q nL D A (pc) (lv) (stk) (ws) :=
  fun H locs ls hP hD hS hl => lv_iinc hC.1.1 hC.1.2.1 hdg hl hk (by rw [Int32.ofInt_add]) hn hq (fun ls2 hl2 => g H locs ls2 hP hD hS hl2)
theorem zn_goto (hC : zIC p m c cc nL s args Ts own meth D dA A x) {off : Int} {tgt : Nat} (hdg : decode cc pc = .ok (.goto off, 3)) (ht : (pc : Int) + off = (tgt : Int)) (g : zL p l e R s m args below meth c cells slots Q nL D A (tgt) (lv) (stk) (ws)) : zL p l e R s m args below meth c cells slots Q nL D A (pc) (lv) (stk) (ws) :=
  fun H locs ls hP hD hS hl => lv_goto hC.1.1 hC.1.2.1 hdg ht (g H locs ls hP hD hS hl)
theorem zn_ge_t (hC : zIC p m c cc nL s args Ts own meth D dA A x) {y z : Int} {off : Int} {tgt : Nat} (hdg : decode cc pc = .ok (.if_icmp .ge off, 3)) (ht : (pc : Int) + off = (tgt : Int)) (hy : zrg y) (hz : zrg z) (h : z ≤ y) (g : zL p l e R s m args below meth c cells slots Q nL D A (tgt) (lv) (stk) (ws)) : zL p l e R s m args below meth c cells slots Q nL D A (pc) (lv) (vI z :: vI y :: stk) (ws) :=
  fun H locs ls hP hD hS hl => lv_icmp_ge hC.1.1 hC.1.2.1 hdg ht (fun _ => (g H locs ls hP hD hS hl)) (fun q => (q ((zi_le hz hy).mpr h)).elim)
theorem zn_ge_f (hC : zIC p m c cc nL s args Ts own meth D dA A x) {y z : Int} {off : Int} {tgt : Nat} (hdg : decode cc pc = .ok (.if_icmp .ge off, 3)) (ht : (pc : Int) + off = (tgt : Int)) (hy : zrg y) (hz : zrg z) (h : y < z) (g : zL p l e R s m args below meth c cells slots Q nL D A (pc + 3) (lv) (stk) (ws)) : zL p l e R s m args below meth c cells slots Q nL D A (pc) (lv) (vI z :: vI y :: stk) (ws) :=
  fun H locs ls hP hD hS hl => lv_icmp_ge hC.1.1 hC.1.2.1 hdg ht (fun q => absurd ((zi_le hz hy).mp q) (by omega)) (fun _ => (g H locs ls hP hD hS hl))
theorem zn_obj (hC : zIC p m c cc nL s args Ts own meth D dA A x) {idx a : Nat} (h1 : Cond.methodLink own idx ⟨"java/lang/Object", "<init>", "()V"⟩ ∈ Ts) (h2 : Cond.instanceMethod ⟨"java/lang/Object", "<init>", "()V"⟩ ∈ Ts) (h3 : Cond.code ⟨"java/lang/Object", "<init>", "()V"⟩ object_method_1_code 1 none ∈ Ts) (hfr : 1 ≤ R.frames) (hlo : (stk.map fun v => v.category).sum + 12 ≤ R.locals) (hdg : decode cc pc = .ok (.invokespecial idx, 3)) (g : zL p l e R s m args below meth c cells slots Q nL D A (pc + 3) (lv) (stk) (ws)) : zL p l e R s m args below meth c cells slots Q nL D A (pc) (lv) (.ref a :: stk) (ws) :=
  fun H locs ls hP hD hS hl => W.objInit hC.1.1 hC.1.2.1 hC.1.2.2.2.1 (hC.1.2.2.2.2 _ h1) (hC.1.2.2.2.2 _ h2) (hC.1.2.2.2.2 _ h3) rfl (by rw [hC.1.2.2.1]; exact hl.1) rfl hdg hfr (by show 2 * 0 + _ + 12 ≤ _; omega) (g H locs ls hP hD hS hl)
theorem zn_put (hC : zIC p m c cc nL s args Ts own meth D dA A x) {ref C : String} {T : u_T} {N ci index a : Nat} (hin : ∀ w ∈ u_ws C T N, w ∈ Ts) (ty0 : Nat → FieldType) (hty : ∀ k, k < N → parseFieldDescriptor (T k).2.2.1 = some (ty0 k)) (hnm : ∀ a, a < N → ∀ b, b < N → a ≠ b → (T a).2.1 ≠ (T b).2.1) (q0 : Nat) {fs : List Value} (he : ws[q0]? = some (a, .inr (ci, fs))) (hc : vwCl[ci]? = some (C, T, N)) (k : Nat) (hk : k < N) (hlink : Cond.fieldLink own index ref (T k).2.1 (T k).2.2.1 ∈ Ts) (hsame : ∀ x, s.fieldFound? (T k).1 (T k).2.1 (T k).2.2.1 = some x → s.fieldFound? ref (T k).2.1 (T k).2.2.1 = some x) (hfin : (T k).2.2.2 = false) {ty : FieldType} {v : Value} (hd : parseFieldDescriptor (T k).2.2.1 = some ty) (hn : narrow ty v = v) (hfit : fits ty v = true) (hl0 : k < fs.length) (hdg : decode cc pc = .ok (.putfield index, 3)) (g : zL p l e R s m args below meth c cells slots Q nL D A (pc + 3) (lv) (stk) (ws.set q0 (a, .inr (ci, fs.set k v)))) : zL p l e R s m args below meth c cells slots Q nL D A (pc) (lv) (v :: .ref a :: stk) (ws) :=
  fun H locs ls hP hD hS hl => va_put hC.1.1 hC.1.2.1 hC.1.2.2.2.2 hin ty0 hty hnm hC.1.2.2.2.1 hC.2.1 hP hD hS q0 he hc k hk (hC.1.2.2.2.2 _ hlink) hsame hfin hd hn hfit hl0 hdg (fun H1 locs1 hP1 hD1 hS1 => g H1 locs1 ls hP1 hD1 hS1 hl)
theorem zn_putF (hC : zIC p m c cc nL s args Ts own meth D dA A x) {ref C : String} {T : u_T} {N ci index a : Nat} (hin : ∀ w ∈ u_ws C T N, w ∈ Ts) (ty0 : Nat → FieldType) (hty : ∀ k, k < N → parseFieldDescriptor (T k).2.2.1 = some (ty0 k)) (hnm : ∀ a, a < N → ∀ b, b < N → a ≠ b → (T a).2.1 ≠ (T b).2.1) (q0 : Nat) {fs : List Value} (he : ws[q0]? = some (a, .inr (ci, fs))) (hc : vwCl[ci]? = some (C, T, N)) (k : Nat) (hk : k < N) (hlink : Cond.fieldLink own index ref (T k).2.1 (T k).2.2.1 ∈ Ts) (hsame : ∀ x, s.fieldFound? (T k).1 (T k).2.1 (T k).2.2.1 = some x → s.fieldFound? ref (T k).2.1 (T k).2.2.1 = some x) (hfin : (T k).2.2.2 = true) (hin2 : meth.name = "<init>") (hdecl : (T k).1 = own) {ty : FieldType} {v : Value} (hd : parseFieldDescriptor (T k).2.2.1 = some ty) (hn : narrow ty v = v) (hfit : fits ty v = true) (hl0 : k < fs.length) (hdg : decode cc pc = .ok (.putfield index, 3)) (g : zL p l e R s m args below meth c cells slots Q nL D A (pc + 3) (lv) (stk) (ws.set q0 (a, .inr (ci, fs.set k v)))) : zL p l e R s m args below meth c cells slots Q nL D A (pc) (lv) (v :: .ref a :: stk) (ws) :=
  fun H locs ls hP hD hS hl => va_putF hC.1.1 hC.1.2.1 hC.1.2.2.2.2 hin ty0 hty hnm hC.1.2.2.2.1 hC.2.1 hP hD hS q0 he hc k hk (hC.1.2.2.2.2 _ hlink) hsame hfin hin2 hdecl hd hn hfit hl0 hdg (fun H1 locs1 hP1 hD1 hS1 => g H1 locs1 ls hP1 hD1 hS1 hl)
theorem zn_get (hC : zIC p m c cc nL s args Ts own meth D dA A x) {ref C : String} {T : u_T} {N ci index a : Nat} (hin : ∀ w ∈ u_ws C T N, w ∈ Ts) (q0 : Nat) {fs : List Value} (he : ws[q0]? = some (a, .inr (ci, fs))) (hc : vwCl[ci]? = some (C, T, N)) (k : Nat) (hk : k < N) (hlink : Cond.fieldLink own index ref (T k).2.1 (T k).2.2.1 ∈ Ts) (hsame : ∀ x, s.fieldFound? (T k).1 (T k).2.1 (T k).2.2.1 = some x → s.fieldFound? ref (T k).2.1 (T k).2.2.1 = some x) {v : Value} (hv : fs[k]? = some v) (hdg : decode cc pc = .ok (.getfield index, 3)) (g : zL p l e R s m args below meth c cells slots Q nL D A (pc + 3) (lv) (v :: stk) (ws)) : zL p l e R s m args below meth c cells slots Q nL D A (pc) (lv) (.ref a :: stk) (ws) :=
  fun H locs ls hP hD hS hl => va_get hC.1.1 hC.1.2.1 hC.1.2.2.2.2 hin hC.1.2.2.2.1 hC.2.1 hP q0 he hc k hk (hC.1.2.2.2.2 _ hlink) hsame hv hdg (g H locs ls hP hD hS hl)
theorem zn_new (hC : zIC p m c cc nL s args Ts own meth D dA A x) {C : String} {T : u_T} {N ci index : Nat} (hin : ∀ w ∈ u_ws C T N, w ∈ Ts) (ty0 : Nat → FieldType) (hty : ∀ k, k < N → parseFieldDescriptor (T k).2.2.1 = some (ty0 k)) (h1 : Cond.classLink own index C ∈ Ts) (h2 : Cond.instantiable C N ∈ Ts) (h3 : Cond.initialized C ∈ Ts) (hc : vwCl[ci]? = some (C, T, N)) (fs : List Value) (hfs : ∀ j, j < N → defaultValue (ty0 j) = vp_V fs j) (hR : cells + 1 ≤ R.cells ∧ slots + N ≤ R.slots) (hdg : decode cc pc = .ok (.new index, 3)) (g : ∀ q : Nat, zL p l e R s m args below meth c (cells + 1) (slots + N) Q nL D A (pc + 3) (lv) (.ref q :: stk) ((q, .inr (ci, fs)) :: ws)) : zL p l e R s m args below meth c cells slots Q nL D A (pc) (lv) (stk) (ws) :=
  fun H locs ls hP hD hS hl => va_new hC.1.1 hC.1.2.1 hC.1.2.2.2.2 hin ty0 hty hC.1.2.2.2.1 (hC.1.2.2.2.2 _ h1) (hC.1.2.2.2.2 _ h2) (hC.1.2.2.2.2 _ h3) hC.2.1 hP hD hS hC.2.2.2.1 hc hfs hR.1 hR.2 hdg (fun q H1 hP1 hD1 hS1 => g q H1 locs ls (hP1.perm (List.perm_append_singleton _ _)) (hD1.perm (List.perm_append_singleton _ _)) hS1 hl)
theorem zK_arr {s : State} {k : Nat} {cA cB : ClassId} {ty : FieldType} (hK : va_K D vwCl (tyA dA ++ [(cA, ty)]) s) (ht : (tyA dA)[k]? = some (cB, ty)) : cA = cB := by
  have hlt := (List.getElem?_eq_some_iff.mp ht).1
  have h1 := (hK.2 k (cB, ty) (by rw [List.getElem?_append_left hlt]; exact ht)).2
  have h2 := (hK.2 (tyA dA).length (cA, ty) (by rw [List.getElem?_append_right (Nat.le_refl _), Nat.sub_self]; rfl)).2
  have n : ∀ {ty : FieldType} {cA cB : ClassId}, va_RA s cA ty → va_RA s cB ty → cA = cB := by
    intro ty cA cB a b
    cases ty with
    | object C =>
      obtain ⟨_, _, _, _, _, x⟩ := a
      obtain ⟨_, _, _, _, _, y⟩ := b
      exact Option.some.inj (x.symm.trans y)
    | _ =>
      have x : s.vm.findClass _ = some cA := a
      have y : s.vm.findClass _ = some cB := b
      exact Option.some.inj (x.symm.trans y)
  exact n h2 h1
theorem zn_newa (hC : zIC p m c cc nL s args Ts own meth D dA A x) {atype : ArrayType} (harr : Cond.arrayClass (newarray.typeOf atype) ∈ Ts) {ty : FieldType} (hty : newarray.typeOf atype = ty) {k : Nat} {cB : ClassId} (ht : (tyA dA)[k]? = some (cB, ty)) {n : Int} {N' : Nat} (a0 : vp_A) (ha : ∀ cA : ClassId, vp_cell cA a0 = arrV cA N' (fun _ => defaultValue ty)) (hn0 : 0 ≤ n ∧ n < 2147483648) (hN : n.toNat = N') (hb : N' * componentBytes ty ≤ 536870912) (hR : cells + 1 ≤ R.cells ∧ slots + N' ≤ R.slots) (hdg : decode cc pc = .ok (.newarray atype, 2)) (g : ∀ q : Nat, zL p l e R s m args below meth c (cells + 1) (slots + N') Q nL D A (pc + 2) (lv) (.ref q :: stk) ((q, .inl (cB, a0)) :: ws)) : zL p l e R s m args below meth c cells slots Q nL D A (pc) (lv) (vI n :: stk) (ws) :=
  fun H locs ls hP hD hS hl => va_newa hC.1.1 hC.1.2.1 (hC.1.2.2.2.2 _ harr) hty hC.2.1 hP hD hS hC.2.2.2.1 ha (fun z => by have := (zi_lt ⟨by omega, by omega⟩ z_0).mp z; omega) (by rw [zi_cl ⟨by omega, by omega⟩ hn0.1]; exact hN) hb hR.1 hR.2 hdg (fun q cA H1 hK1 hP1 hD1 hS1 => by
    have e := zK_arr hK1 ht
    subst e
    exact g q H1 locs ls (hP1.perm (List.perm_append_singleton _ _)) (hD1.perm (List.perm_append_singleton _ _)) hS1 hl)
theorem zn_newq (hC : zIC p m c cc nL s args Ts own meth D dA A x) {C : String} (hCm : C ∈ zAO) {index : Nat} (h1 : Cond.classLink own index C ∈ Ts) {k : Nat} {cB : ClassId} (ht : (tyA dA)[k]? = some (cB, .object C)) {n : Int} {N' : Nat} (hn0 : 0 ≤ n ∧ n < 2147483648) (hN : n.toNat = N') (hb : N' * 4 ≤ 536870912) (hR : cells + 1 ≤ R.cells ∧ slots + N' ≤ R.slots) (hdg : decode cc pc = .ok (.anewarray index, 3)) (g : ∀ q : Nat, zL p l e R s m args below meth c (cells + 1) (slots + N') Q nL D A (pc + 3) (lv) (.ref q :: stk) ((q, .inl (cB, N', .inr (.inr (.inr (.inr (fun _ => none)))))) :: ws)) : zL p l e R s m args below meth c cells slots Q nL D A (pc) (lv) (vI n :: stk) (ws) :=
  fun H locs ls hP hD hS hl => va_newq hC.1.1 hC.1.2.1 hC.1.2.2.2.1 (hC.1.2.2.2.2 _ h1) (hC.2.2.2.2.2 _ hCm) hC.2.1 hP hD hS hC.2.2.2.1 (fun z => by have := (zi_lt ⟨by omega, by omega⟩ z_0).mp z; omega) (by rw [zi_cl ⟨by omega, by omega⟩ hn0.1]; exact hN) hb hR.1 hR.2 hdg (fun q cA H1 hK1 hP1 hD1 hS1 => by
    have e := zK_arr hK1 ht
    subst e
    exact g q H1 locs ls (hP1.perm (List.perm_append_singleton _ _)) (hD1.perm (List.perm_append_singleton _ _)) hS1 hl)
theorem zn_astq (hC : zIC p m c cc nL s args Ts own meth D dA A x) (q0 t0 qk ci : Nat) {cA : ClassId} {r : vw_C} {n v a : Nat} {vs : List Value} {f : Nat → Option Nat} (ha : ws[q0]? = some (a, .inl (cA, n, .inr (.inr (.inr (.inr f)))))) (ht : (tyA dA)[t0]? = some (cA, .object r.1)) (hv : ws[qk]? = some (v, .inr (ci, vs))) (hc : vwCl[ci]? = some r) {i : Int} {iN : Nat} (hi : 0 ≤ i ∧ i < n) (hn : n < 2147483648) (hiN : i.toNat = iN) (hdg : decode cc pc = .ok (.aastore, 1)) (g : zL p l e R s m args below meth c cells slots Q nL D A (pc + 1) (lv) (stk) (ws.set q0 (a, .inl (cA, n, .inr (.inr (.inr (.inr (va_up f iN (some v))))))))) : zL p l e R s m args below meth c cells slots Q nL D A (pc) (lv) (.ref v :: vI i :: .ref a :: stk) (ws) :=
  fun H locs ls hP hD hS hl => va_astq hC.1.1 hC.1.2.1 hC.2.1 hP hD hS q0 t0 qk ci ha ht hv hc (zi_in hn hi) hdg (fun H1 locs1 hP1 hD1 hS1 => by
    rw [zi_cl ⟨by omega, by omega⟩ hi.1, hiN] at hP1 hD1
    exact g H1 locs1 ls hP1 hD1 hS1 hl)
theorem zn_iast (hC : zIC p m c cc nL s args Ts own meth D dA A x) (q0 t0 : Nat) {cA : ClassId} {n a : Nat} {f : Nat → Int32} (ha : ws[q0]? = some (a, .inl (cA, n, .inl f))) (ht : (tyA dA)[t0]? = some (cA, .int)) {i : Int} {y : Int32} {iN : Nat} (hi : 0 ≤ i ∧ i < n) (hn : n < 2147483648) (hiN : i.toNat = iN) (hdg : decode cc pc = .ok (.iastore, 1)) (g : zL p l e R s m args below meth c cells slots Q nL D A (pc + 1) (lv) (stk) (ws.set q0 (a, .inl (cA, n, .inl (upd f iN y))))) : zL p l e R s m args below meth c cells slots Q nL D A (pc) (lv) (.int y :: vI i :: .ref a :: stk) (ws) :=
  fun H locs ls hP hD hS hl => va_iast hC.1.1 hC.1.2.1 hC.2.1 hP hD hS q0 t0 ha ht (zi_in hn hi) hdg (fun H1 locs1 hP1 hD1 hS1 => by
    rw [zi_cl ⟨by omega, by omega⟩ hi.1, hiN] at hP1 hD1
    exact g H1 locs1 ls hP1 hD1 hS1 hl)
theorem zn_getsN (hC : zIC p m c cc nL s args Ts own meth D dA A x) {n : String} {q : Nat} {f : Nat → Int32} (hq : (n, q, f) ∈ x.2.1) {index : Nat} {host : String} (hlink : (Cond.fieldLinkNest own index "GlacierCamera" n "[I" host) ∈ x.1) (hdg : decode cc pc = .ok (.getstatic index, 3)) (g : zL p l e R s m args below meth c cells slots Q nL D A (pc + 3) (lv) (.ref q :: stk) (ws)) : zL p l e R s m args below meth c cells slots Q nL D A (pc) (lv) (stk) (ws) :=
  fun H locs ls hP hD hS hl => va_getsN hC.1.1 hC.1.2.1 ((hC.2.2.2.2.1.2.1 _ hq).1) hS hC.1.2.2.2.1 (va_Nw.use rfl (hC.2.2.2.2.1.1 _ hlink).1) (fun _ h => h) hdg (g H locs ls hP hD hS hl)
theorem zn_sald (hC : zIC p m c cc nL s args Ts own meth D dA A x) {n : String} {q : Nat} {f : Nat → Int32} (hq : (n, q, f) ∈ x.2.1) {F : Int → Int} (hF : ∀ j : Nat, j < 8 → f j = Int32.ofInt (F (j : Int))) {i : Int} (hi : 0 ≤ i ∧ i < 8) (hdg : decode cc pc = .ok (.iaload, 1)) (g : zL p l e R s m args below meth c cells slots Q nL D A (pc + 1) (lv) (vI (F i) :: stk) (ws)) : zL p l e R s m args below meth c cells slots Q nL D A (pc) (lv) (vI i :: .ref q :: stk) (ws) := fun H locs ls hP hD hS hl => by
  obtain ⟨h1, h2, h3, h4⟩ := hC.2.2.2.2.1.2.1 _ hq
  refine va_sld hC.1.1 hC.1.2.1 h2 h3 h4 hS (zi_in (by omega) (n := 8) hi) hdg ?_
  rw [zi_cl ⟨by omega, by omega⟩ hi.1]
  dsimp only
  rw [hF _ (by omega), show ((i.toNat : Nat) : Int) = i by omega]
  exact g H locs ls hP hD hS hl
theorem zn_min (hC : zIC p m c cc nL s args Ts own meth D dA A x) {index : Nat} {y z : Int} (hy : zrg y) (hz : zrg z) (hin : ∀ w ∈ ([Cond.methodLink own index Lib.Math.min.name, Cond.static Lib.Math.min.name, Cond.initialized "java/lang/Math", Cond.code Lib.Math.min.name Lib.Math.min.code 2 (some .int)] : List Cond), w ∈ Ts) (hfr : 1 ≤ R.frames) (hlo : (stk.map fun v => v.category).sum + 13 ≤ R.locals) (hcs : cells ≤ R.cells ∧ slots ≤ R.slots) (hdg : decode cc pc = .ok (.invokestatic index, 3)) (g : zL p l e R s m args below meth c cells slots Q nL D A (pc + 3) (lv) (vI (min y z) :: stk) (ws)) : zL p l e R s m args below meth c cells slots Q nL D A (pc) (lv) (vI z :: vI y :: stk) (ws) :=
  fun H locs ls hP hD hS hl => va_mmin hC.1.1 hC.1.2.1 (by rw [hC.1.2.2.1]; exact hl.1.symm) hC.1.2.2.2.1 (hC.1.2.2.2.2 _ (hin _ (List.mem_of_getElem? (i := 0) rfl))) (hC.1.2.2.2.2 _ (hin _ (List.mem_of_getElem? (i := 1) rfl))) (hC.1.2.2.2.2 _ (hin _ (List.mem_of_getElem? (i := 2) rfl))) (hC.1.2.2.2.2 _ (hin _ (List.mem_of_getElem? (i := 3) rfl))) hfr hlo hcs.1 hcs.2 hdg (zi_min hy hz ▸ (g H locs ls hP hD hS hl))
theorem zI_blind {D : va_G} {dA : Nat → ClassId} {x : zX} {a ci : Nat} {fs0 : List Value} {sz : Nat} {vs : List Value} : FrameBlind (va_Pc vs (zIP D dA x a ci fs0 sz)) := by
  intro b U g mk q
  obtain ⟨q0, q1, q2, q3, q4, q5⟩ := q
  exact ⟨q0, q1, q2, va_K.moved (u := U) (U := U.calling g mk b) (Vm.Alike.refl U.vm) q3, q4.same (u := U) (U := U.calling g mk b) rfl, fun C h => va_AO.moved (u := U) (U := U.calling g mk b) (Vm.Alike.refl U.vm) (q5 C h)⟩
theorem zI_pre {aL aG aI : Nat} {aK aV : Nat → Nat} (hC : zIC p m c cc nL s args Ts own meth D dA A (zXX aL aG aI aK aV)) {q ci : Nat} {fs : List Value} {H : Heap} {locs : List Loc} (hP : va_P D vwCl ((q, .inr (ci, fs)) :: ws) H) (hD : va_D A ((q, .inr (ci, fs)) :: ws)) (hS : va_S A s.heap H locs) {U : State} (hU : U.heap = H) (hW : s.WarmedH U.vm) : zIP D dA (zXX aL aG aI aK aV) q ci fs H.size U := by
  refine ⟨by rw [hU], ?_, va_K.moved hW.alike hC.2.1, ?_, fun C h => va_AO.moved hW.alike (hC.2.2.2.2.2 C h)⟩
  · rw [hU]
    intro k y hy
    cases k with
    | zero => exact hP 0 y hy
    | succ k => cases k <;> cases hy
  · rw [hU]
    refine hC.2.2.2.2.1.go hW hS (fun y h => ?_)
    rcases h with h | h
    · rw [h]; exact hD.2 0 _ rfl
    · exact hC.2.2.2.1 y (Nat.le_trans hS.1 h)
theorem zn_init {aL aG aI : Nat} {aK aV : Nat → Nat} (hC : zIC p m c cc nL s args Ts own meth D dA A (zXX aL aG aI aK aV)) {y : MethodName} {bytes : ByteArray} {maxL n index mc ms ci q : Nat} {wc : List Cond} {rm : Room} {fs As : List Value} {st0 : List Value} {T : (Nat → ClassId) → (Nat → Nat) → va_W} (hM : zIM l y wc rm mc ms ci fs As T) (cw : CallB R s args own index y bytes maxL none wc rm mc ms n ∧ y.name = "<init>" ∧ (Cond.instanceMethod y).before args s = true) (hn : As.length = n) (hst : st0 = As.reverse ++ .ref q :: stk) (hWd : (stk.map fun v => v.category).sum ≤ 8) (hcs : cells + mc ≤ R.cells ∧ slots + ms ≤ R.slots) (hdg : decode cc pc = .ok (.invokespecial index, 3)) (g : ∀ u : Nat → Nat, u 0 = q → zL p l e R s m args below meth c (cells + mc) (slots + ms) Q nL D A (pc + 3) (lv) (stk) (T dA u ++ ws)) : zL p l e R s m args below meth c cells slots Q nL D A pc lv st0 ((q, .inr (ci, fs)) :: ws) := by
  intro H locs ls hP hD hS hl
  subst hst
  have hsub2 : ∀ y, zOn q H.size y → A y := fun y h => h.elim (fun h => by rw [h]; exact hD.2 0 _ rfl) (fun h => hC.2.2.2.1 y (Nat.le_trans hS.1 h))
  refine va_callv (va_runI (As := As) (rest := stk) hC.1 (hM D dA aL aG aI aK aV q H.size) cw ⟨zI_blind, fun U hU hW => ⟨rfl, zI_pre hC hP hD hS hU hW⟩⟩ rfl hn hl.1 rfl (by show 2 * 0 + _ ≤ 8; omega) hdg hcs) hS (fun y _ h => hsub2 y h) hsub2 (fun u t H1 locs1 ht hvm hw hB hz1 hk1 hS1 => ?_)
  obtain ⟨b1, b2, b3⟩ := hB
  rw [ht] at b1
  obtain ⟨hP2, hD2⟩ := zI_join hP hD hsub2 hk1 b1 b2
  exact g u hw H1 locs1 ls hP2 hD2 hS1 hl
theorem zn_initN {aL aG aI : Nat} {aK aV : Nat → Nat} (hC : zIC p m c cc nL s args Ts own meth D dA A (zXX aL aG aI aK aV)) {y : MethodName} {bytes : ByteArray} {maxL n index mc ms ci q : Nat} {host : String} {wc : List Cond} {rm : Room} {fs As : List Value} {st0 : List Value} {T : (Nat → ClassId) → (Nat → Nat) → va_W} (hM : zIM l y wc rm mc ms ci fs As T) (cw : va_CN R s args own index y host bytes maxL none wc rm mc ms n ∧ y.name = "<init>" ∧ (Cond.instanceMethod y).before args s = true) (hn : As.length = n) (hst : st0 = As.reverse ++ .ref q :: stk) (hWd : (stk.map fun v => v.category).sum ≤ 8) (hcs : cells + mc ≤ R.cells ∧ slots + ms ≤ R.slots) (hdg : decode cc pc = .ok (.invokespecial index, 3)) (g : ∀ u : Nat → Nat, u 0 = q → zL p l e R s m args below meth c (cells + mc) (slots + ms) Q nL D A (pc + 3) (lv) (stk) (T dA u ++ ws)) : zL p l e R s m args below meth c cells slots Q nL D A pc lv st0 ((q, .inr (ci, fs)) :: ws) := by
  intro H locs ls hP hD hS hl
  subst hst
  have hsub2 : ∀ y, zOn q H.size y → A y := fun y h => h.elim (fun h => by rw [h]; exact hD.2 0 _ rfl) (fun h => hC.2.2.2.1 y (Nat.le_trans hS.1 h))
  refine va_callv (va_runIN (As := As) (rest := stk) hC.1 (hM D dA aL aG aI aK aV q H.size) cw ⟨zI_blind, fun U hU hW => ⟨rfl, zI_pre hC hP hD hS hU hW⟩⟩ rfl hn hl.1 rfl (by show 2 * 0 + _ ≤ 8; omega) hdg hcs) hS (fun y _ h => hsub2 y h) hsub2 (fun u t H1 locs1 ht hvm hw hB hz1 hk1 hS1 => ?_)
  obtain ⟨b1, b2, b3⟩ := hB
  rw [ht] at b1
  obtain ⟨hP2, hD2⟩ := zI_join hP hD hsub2 hk1 b1 b2
  exact g u hw H1 locs1 ls hP2 hD2 hS1 hl
theorem zn_ret (hC : zIC p m c cc nL s args Ts own meth D dA A x) (hr : meth.sig.returnType = none) {a sz : Nat} (hA : A = zOn a sz) {T : (Nat → ClassId) → (Nat → Nat) → va_W} (u : Nat → Nat) (hu : u 0 = a) (hdg : decode cc pc = .ok (.return_, 1)) (g : ∀ H : Heap, va_P D vwCl ws H → va_D A ws → va_P D vwCl (T dA u) H ∧ va_D A (T dA u)) : zL p l e R s m args below meth c cells slots (MQ below (va_Qv (fun u : Nat → Nat => u 0 = a) (zIQ D dA T a sz) (zOn a sz)) args s cells slots (zOn a sz)) nL D A pc lv [] ws := by
  subst hA
  intro H locs ls hP hD hS hl
  obtain ⟨h1, h2⟩ := g H hP hD
  exact W.vret hC.1.1 hC.1.2.1 hr (fun t ht hW => ⟨⟨u, rfl, hu, by rw [ht]; exact h1, h2, va_K.moved hW.alike hC.2.1⟩, hS.F ht⟩) hS.2.2 hdg (hlocks := hC.2.2.1)
theorem zI_enter {y : MethodName} {wc ws' : List Cond} {rm : Room} {maxL mc ms ci : Nat} {fs0 As : List Value} {T : (Nat → ClassId) → (Nat → Nat) → va_W} (hy : plainFor y = true) (hw : wc = Cond.code y cc maxL none :: ws') (hlen : ∀ a : Nat, (lg_sl (.ref a :: As)).length ≤ maxL)
    (body : ∀ (p : Program) (e : Env) (s : State) (m : MethodId) (args : Array Value) (below : List Frame) (meth : Method) (c : Code) (D : va_G) (dA : Nat → ClassId) (aL aG aI : Nat) (aK aV : Nat → Nat) (a : Nat), zIC p m c cc maxL s args wc y.cls meth D dA (zOn a s.heap.size) (zXX aL aG aI aK aV) → meth.name = y.name → meth.sig.returnType = none →
      zL p l e rm s m args below meth c 0 0 (MQ below (va_Qv (fun u : Nat → Nat => u 0 = a) (zIQ D dA T a s.heap.size) (zOn a s.heap.size)) args s mc ms (zOn a s.heap.size)) maxL D (zOn a s.heap.size) 0 (lv_args 0 (.ref a :: As)) [] [(a, .inr (ci, fs0))]) :
    zIM l y wc rm mc ms ci fs0 As T := by
  intro D dA aL aG aI aK aV a sz
  refine zMet_ofW (cc := cc) (maxL := maxL) (ret := none) hy hw ?_
  intro p e s m args below meth c s₁ B hml hv
  obtain ⟨rfl, hsz, hP, hK, hE, hO⟩ := hv
  subst hsz
  have hl := lv_entry (.ref a :: As) (n := maxL) (hlen a)
  rw [lg_entry_eq]
  exact body p e s m _ below meth c D dA aL aG aI aK aV a ⟨⟨B.exec, B.bytes, hml, findClass_of_methodNamed B.named, atoms_spec (ws := wc) B.pre⟩, hK, B.notSynchronized, fun q h => Or.inr h, hE, hO⟩ (name_of_methodNamed B.named B.method).1 B.returns _ _ _ hP (va_D1 (Or.inl rfl)) va_S.rf hl
end ZN
theorem ui_RX11 : Cond.instantiable RX11 9 ∈ UW := uk1 25 rfl rfl
theorem ui_RX8 : Cond.instantiable RX8 9 ∈ UW := uk1 33 rfl rfl
theorem ui_RX7 : Cond.instantiable RX7 4 ∈ UW := uk1 43 rfl rfl
theorem ua_int : Cond.arrayClass .int ∈ UW := uk1 72 rfl rfl
theorem ui_RX1 : Cond.instantiable RX1 2 ∈ UW := uk1 73 rfl rfl
theorem ui_RX9 : Cond.instantiable RX9 3 ∈ UW := uk1 87 rfl rfl
theorem ui_RX4 : Cond.instantiable RX4 3 ∈ UW := uk1 161 rfl rfl
theorem ui_RX2 : Cond.instantiable RX2 7 ∈ UW := uk1 167 rfl rfl
theorem ua_byte : Cond.arrayClass .byte ∈ UW := uk1 198 rfl rfl
theorem ua_boolean : Cond.arrayClass .boolean ∈ UW := uk1 212 rfl rfl
theorem ui_RX3 : Cond.instantiable RX3 3 ∈ UW := uk1 214 rfl rfl
theorem ui_RX0 : Cond.instantiable RX0 5 ∈ UW := uk1 221 rfl rfl
theorem ui_RX6 : Cond.instantiable RX6 6 ∈ UW := uk2 19 rfl rfl
theorem ui_RX5 : Cond.instantiable RX5 6 ∈ UW := uk2 47 rfl rfl
theorem ui_RX10 : Cond.instantiable RX10 10 ∈ UW := uk2 81 rfl rfl
theorem ui_RX12 : Cond.instantiable RX12 42 ∈ UW := uk6 233 rfl rfl
theorem ua_long : Cond.arrayClass .long ∈ UW := uk9 206 rfl rfl
