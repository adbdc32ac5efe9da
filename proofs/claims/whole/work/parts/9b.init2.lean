/-! the constructors of the class: small ones -/
def zCv (L : va_W) : va_W → List Nat → Prop
  | [], [] => True
  | x :: xs, i :: is => (∃ e, L[i]? = some (x.1, e) ∧ zEq e x.2) ∧ zCv L xs is
  | _, _ => False
theorem zCv.get {L : va_W} : ∀ {W : va_W} {is : List Nat}, zCv L W is → ∀ (k : Nat) (y : Nat × va_E), W[k]? = some y → ∃ (i : Nat) (e : va_E), is[k]? = some i ∧ L[i]? = some (y.1, e) ∧ zEq e y.2 := by
  intro W
  induction W with
  | nil => intro is _ k y hy; cases hy
  | cons x xs ih =>
    intro is h k y hy
    cases is with
    | nil => exact h.elim
    | cons i is =>
      obtain ⟨⟨e, h1, h2⟩, h3⟩ := h
      cases k with
      | zero =>
        have : x = y := by simpa using hy
        subst this
        exact ⟨i, e, rfl, h1, h2⟩
      | succ k => exact ih h3 k y (by simpa using hy)
theorem zCv.both {D : va_G} {A : Nat → Prop} {L W : va_W} {is : List Nat} {H : Heap} (hn : va_nd is = true) (hP : va_P D vwCl L H) (hD : va_D A L) (h : zCv L W is) : va_P D vwCl W H ∧ va_D A W := by
  have nd : ∀ {is : List Nat}, va_nd is = true → ∀ j k a : Nat, is[j]? = some a → is[k]? = some a → j = k := by
    intro is
    induction is with
    | nil => intro _ j k a hj; cases hj
    | cons b bs ih =>
      intro hn j k a hj hk
      have h2 : decide (b ∉ bs) = true ∧ va_nd bs = true := by simpa [va_nd] using hn
      have nb : b ∉ bs := of_decide_eq_true h2.1
      cases j with
      | zero =>
        cases k with
        | zero => rfl
        | succ k =>
          have e : b = a := by simpa using hj
          exact (nb (e ▸ List.mem_of_getElem? (by simpa using hk))).elim
      | succ j =>
        cases k with
        | zero =>
          have e : b = a := by simpa using hk
          exact (nb (e ▸ List.mem_of_getElem? (by simpa using hj))).elim
        | succ k => rw [ih h2.2 j k a (by simpa using hj) (by simpa using hk)]
  refine ⟨fun k y hy => ?_, fun i j x y hx hy e => ?_, fun k y hy => ?_⟩
  · obtain ⟨i, e, -, h2, h3⟩ := h.get k y hy
    obtain ⟨y1, y2⟩ := y
    exact h3.at (hP i _ h2)
  · obtain ⟨i1, e1, a1, a2, -⟩ := h.get i x hx
    obtain ⟨i2, e2, b1, b2, -⟩ := h.get j y hy
    have := hD.1 i1 i2 _ _ a2 b2 e
    subst this
    exact nd hn i j i1 a1 b1
  · obtain ⟨i, e, -, h2, -⟩ := h.get k y hy
    exact hD.2 i (y.1, e) h2
section ZP
variable {p : Program} {l : Launch} {e : Env} {R : Room} {s : State} {m : MethodId} {args : Array Value} {below : List Frame} {meth : Method} {c : Code} {cells slots : Nat} {Q : State → Prop} {nL : Nat} {D : va_G} {A : Nat → Prop} {pc : Nat} {lv : List (Nat × Value)} {stk : List Value}
theorem zn_perm {ws ws' : va_W} (hp : ws.Perm ws') (g : zL p l e R s m args below meth c cells slots Q nL D A pc lv stk ws') : zL p l e R s m args below meth c cells slots Q nL D A pc lv stk ws := fun H locs ls hP hD hS hl => g H locs ls (hP.perm hp) (hD.perm hp) hS hl
end ZP
def tI0 (dA : Nat → ClassId) (u : Nat → Nat) : va_W := [(u 0, .inr (0, [vI 0, vI 0, vI 0, vI 0, vI 0]))]
def tI1 (dA : Nat → ClassId) (u : Nat → Nat) : va_W := [(u 0, .inr (1, [vI 0, .ref (u 1)])), (u 1, .inl (dA 1, 120, .inl (fun _ => Int32.ofInt 0)))]
def tI2 (dA : Nat → ClassId) (u : Nat → Nat) : va_W := [(u 0, .inr (2, [vI 0, vI 0, vI 0, vI 0, .ref (u 1), vI 0, vI 0])), (u 1, .inl (dA 0, 1400, .inl (fun _ => Int32.ofInt 0)))]
def tI5 (dA : Nat → ClassId) (u : Nat → Nat) : va_W := [(u 0, .inr (5, [vI 0, vI 0, vI 0, vI 0, vI 0, vI 0]))]
def tI6 (dA : Nat → ClassId) (u : Nat → Nat) : va_W := [(u 0, .inr (6, [vI (-1), vI (-1), .ref (u 1), .ref (u 2), .ref (u 3), .ref (u 4)])), (u 1, .inl (dA 2, 6, .inl (fun _ => Int32.ofInt 0))), (u 2, .inl (dA 1, 6, .inl (fun _ => Int32.ofInt 0))), (u 3, .inl (dA 1, 6, .inl (fun _ => Int32.ofInt 0))), (u 4, .inl (dA 1, 6, .inl (fun _ => Int32.ofInt 0)))]
def tI7 (n : Int) (dA : Nat → ClassId) (u : Nat → Nat) : va_W := [(u 0, .inr (7, [vI n, .ref (u 1), .ref (u 2), vI 0])), (u 1, .inl (dA 1, 6, .inl (fun _ => Int32.ofInt 0))), (u 2, .inl (dA 1, 6, .inl (fun _ => Int32.ofInt 0)))]
def tI9 (dA : Nat → ClassId) (u : Nat → Nat) : va_W := [(u 0, .inr (9, [vI 0, .ref (u 1), .ref (u 2)])), (u 1, .inl (dA 1, 8, .inl (fun _ => Int32.ofInt 0))), (u 2, .inl (dA 1, 8, .inl (fun _ => Int32.ofInt 0)))]
def tI10 (dA : Nat → ClassId) (u : Nat → Nat) : va_W := [(u 0, .inr (10, [vI (-1), vI 0, vI 0, vI 0, .ref (u 1), .ref (u 2), .ref (u 3), .ref (u 4), .ref (u 5), .ref (u 6)])), (u 1, .inl (dA 1, 6, .inl (fun _ => Int32.ofInt 0))), (u 2, .inl (dA 1, 6, .inl (fun _ => Int32.ofInt 0))), (u 3, .inl (dA 1, 6, .inl (fun _ => Int32.ofInt 0))), (u 4, .inl (dA 1, 6, .inl (fun _ => Int32.ofInt 0))), (u 5, .inl (dA 1, 6, .inl (fun _ => Int32.ofInt 0))), (u 6, .inl (dA 1, 6, .inl (fun _ => Int32.ofInt 0)))]
def tI3 (dA : Nat → ClassId) (u : Nat → Nat) : va_W := [(u 0, .inr (3, [vI 0, vI 0, .ref (u 1)])), (u 1, .inl (dA 3, 10, .inr (.inr (.inr (.inr (fun j => some (u (2 + j)))))))), (u 2, .inr (0, [vI 0, vI 0, vI 0, vI 0, vI 0])), (u 3, .inr (0, [vI 0, vI 0, vI 0, vI 0, vI 0])), (u 4, .inr (0, [vI 0, vI 0, vI 0, vI 0, vI 0])), (u 5, .inr (0, [vI 0, vI 0, vI 0, vI 0, vI 0])), (u 6, .inr (0, [vI 0, vI 0, vI 0, vI 0, vI 0])), (u 7, .inr (0, [vI 0, vI 0, vI 0, vI 0, vI 0])), (u 8, .inr (0, [vI 0, vI 0, vI 0, vI 0, vI 0])), (u 9, .inr (0, [vI 0, vI 0, vI 0, vI 0, vI 0])), (u 10, .inr (0, [vI 0, vI 0, vI 0, vI 0, vI 0])), (u 11, .inr (0, [vI 0, vI 0, vI 0, vI 0, vI 0]))]
def tI8 (dA : Nat → ClassId) (u : Nat → Nat) : va_W := [(u 0, .inr (8, [vI 12, vI 8, vI 0, vI 0, .ref (u 1), .ref (u 2), .ref (u 3), .ref (u 4), .ref (u 7)])), (u 1, .inl (dA 1, 8, .inl (fun j => Int32.ofInt (cINIT (j : Int))))), (u 2, .inl (dA 4, 6, .inr (.inr (.inr (.inr (fun j => some (u (10 + j)))))))), (u 3, .inl (dA 5, 3, .inr (.inr (.inr (.inr (fun j => some (u (22 + j)))))))), (u 4, .inr (7, [vI 4, .ref (u 5), .ref (u 6), vI 0])), (u 5, .inl (dA 1, 6, .inl (fun _ => Int32.ofInt 0))), (u 6, .inl (dA 1, 6, .inl (fun _ => Int32.ofInt 0))), (u 7, .inr (7, [vI 6, .ref (u 8), .ref (u 9), vI 0])), (u 8, .inl (dA 1, 6, .inl (fun _ => Int32.ofInt 0))), (u 9, .inl (dA 1, 6, .inl (fun _ => Int32.ofInt 0))), (u 10, .inr (1, [vI 0, .ref (u 16)])), (u 11, .inr (1, [vI 0, .ref (u 17)])), (u 12, .inr (1, [vI 0, .ref (u 18)])), (u 13, .inr (1, [vI 0, .ref (u 19)])), (u 14, .inr (1, [vI 0, .ref (u 20)])), (u 15, .inr (1, [vI 0, .ref (u 21)])), (u 16, .inl (dA 1, 120, .inl (fun _ => Int32.ofInt 0))), (u 17, .inl (dA 1, 120, .inl (fun _ => Int32.ofInt 0))), (u 18, .inl (dA 1, 120, .inl (fun _ => Int32.ofInt 0))), (u 19, .inl (dA 1, 120, .inl (fun _ => Int32.ofInt 0))), (u 20, .inl (dA 1, 120, .inl (fun _ => Int32.ofInt 0))), (u 21, .inl (dA 1, 120, .inl (fun _ => Int32.ofInt 0))), (u 22, .inr (9, [vI 0, .ref (u 25), .ref (u 28)])), (u 23, .inr (9, [vI 0, .ref (u 26), .ref (u 29)])), (u 24, .inr (9, [vI 0, .ref (u 27), .ref (u 30)])), (u 25, .inl (dA 1, 8, .inl (fun _ => Int32.ofInt 0))), (u 26, .inl (dA 1, 8, .inl (fun _ => Int32.ofInt 0))), (u 27, .inl (dA 1, 8, .inl (fun _ => Int32.ofInt 0))), (u 28, .inl (dA 1, 8, .inl (fun _ => Int32.ofInt 0))), (u 29, .inl (dA 1, 8, .inl (fun _ => Int32.ofInt 0))), (u 30, .inl (dA 1, 8, .inl (fun _ => Int32.ofInt 0)))]
def tI4 (dA : Nat → ClassId) (u : Nat → Nat) : va_W := [(u 0, .inr (4, [.ref (u 1), .ref (u 4), .ref (u 3)])), (u 1, .inr (2, [vI 0, vI 0, vI 0, vI 0, .ref (u 2), vI 0, vI 0])), (u 2, .inl (dA 0, 1400, .inl (fun _ => Int32.ofInt 0))), (u 3, .inl (dA 2, 8, .inl (fun _ => Int32.ofInt 0)))] ++ tI8 dA (fun i => u (4 + i))
set_option maxHeartbeats 600000 in
set_option maxRecDepth 20000 in
theorem cI0 (l : Launch) : zIM l yX0_init (Cond.code yX0_init cX0_init 1 none :: UW) ({ frames := 1, cells := 0, slots := 0, locals := 13 } : Room) 0 0 0 [vI 0, vI 0, vI 0, vI 0, vI 0] [] (tI0) := by
  refine zI_enter (cc := cX0_init) (maxL := 1) (plainFor_of_name (by decide)) rfl (fun _ => Nat.le_of_ble_eq_true rfl) ?_
  intro p e s m args below meth c D dA aL aG aI aK aV a hC hin hr
  refine zn_aload_n hC dX0_init_0 0 rfl rfl ?_
  refine zn_obj hC (uT _ _ u329) (uT _ _ u134) (uT _ _ u135) (Nat.le_of_ble_eq_true rfl) (Nat.le_of_ble_eq_true rfl) dX0_init_1 ?_
  refine zn_aload_n hC dX0_init_4 0 rfl rfl ?_
  refine zn_iconst hC dX0_init_5 ?_
  refine zn_put (ci := 0) hC (fun w h => uT _ w (uL0 w h)) tyX0 tyX0_ok nmX0 0 rfl rfl 0 (by decide) (uT _ _ u330) (fun _ h => h) rfl rfl rfl rfl (Nat.le_of_ble_eq_true rfl) dX0_init_6 ?_
  show zL p l e _ s m args below meth c 0 0 _ _ D _ 9 [(0, .ref a)] [] ((a, .inr (0, [vI 0, vI 0, vI 0, vI 0, vI 0])) :: [])
  refine zn_aload_n hC dX0_init_9 0 rfl rfl ?_
  refine zn_iconst hC dX0_init_10 ?_
  refine zn_put (ci := 0) hC (fun w h => uT _ w (uL0 w h)) tyX0 tyX0_ok nmX0 0 rfl rfl 1 (by decide) (uT _ _ u332) (fun _ h => h) rfl rfl rfl rfl (Nat.le_of_ble_eq_true rfl) dX0_init_11 ?_
  show zL p l e _ s m args below meth c 0 0 _ _ D _ 14 [(0, .ref a)] [] ((a, .inr (0, [vI 0, vI 0, vI 0, vI 0, vI 0])) :: [])
  refine zn_aload_n hC dX0_init_14 0 rfl rfl ?_
  refine zn_iconst hC dX0_init_15 ?_
  refine zn_put (ci := 0) hC (fun w h => uT _ w (uL0 w h)) tyX0 tyX0_ok nmX0 0 rfl rfl 2 (by decide) (uT _ _ u334) (fun _ h => h) rfl rfl rfl rfl (Nat.le_of_ble_eq_true rfl) dX0_init_16 ?_
  show zL p l e _ s m args below meth c 0 0 _ _ D _ 19 [(0, .ref a)] [] ((a, .inr (0, [vI 0, vI 0, vI 0, vI 0, vI 0])) :: [])
  refine zn_aload_n hC dX0_init_19 0 rfl rfl ?_
  refine zn_iconst hC dX0_init_20 ?_
  refine zn_put (ci := 0) hC (fun w h => uT _ w (uL0 w h)) tyX0 tyX0_ok nmX0 0 rfl rfl 3 (by decide) (uT _ _ u336) (fun _ h => h) rfl rfl rfl rfl (Nat.le_of_ble_eq_true rfl) dX0_init_21 ?_
  show zL p l e _ s m args below meth c 0 0 _ _ D _ 24 [(0, .ref a)] [] ((a, .inr (0, [vI 0, vI 0, vI 0, vI 0, vI 0])) :: [])
  refine zn_aload_n hC dX0_init_24 0 rfl rfl ?_
  refine zn_iconst hC dX0_init_25 ?_
  refine zn_put (ci := 0) hC (fun w h => uT _ w (uL0 w h)) tyX0 tyX0_ok nmX0 0 rfl rfl 4 (by decide) (uT _ _ u338) (fun _ h => h) rfl rfl rfl rfl (Nat.le_of_ble_eq_true rfl) dX0_init_26 ?_
  show zL p l e _ s m args below meth c 0 0 _ _ D _ 29 [(0, .ref a)] [] ((a, .inr (0, [vI 0, vI 0, vI 0, vI 0, vI 0])) :: [])
  refine zn_ret hC hr rfl (T := tI0) (fun k => [a].getD k 0) rfl dX0_init_29 (fun H hP hD => zCv.both (is := [0]) (by decide) hP hD ?_)
  exact ⟨⟨_, rfl, Or.inl rfl⟩, trivial⟩

set_option maxHeartbeats 600000 in
set_option maxRecDepth 20000 in
theorem cI1 (l : Launch) : zIM l yX1_init (Cond.code yX1_init cX1_init 1 none :: UW) ({ frames := 1, cells := 1, slots := 120, locals := 13 } : Room) 1 120 1 [vI 0, .null] [] (tI1) := by
  refine zI_enter (cc := cX1_init) (maxL := 1) (plainFor_of_name (by decide)) rfl (fun _ => Nat.le_of_ble_eq_true rfl) ?_
  intro p e s m args below meth c D dA aL aG aI aK aV a hC hin hr
  refine zn_aload_n hC dX1_init_0 0 rfl rfl ?_
  refine zn_obj hC (uT _ _ u181) (uT _ _ u134) (uT _ _ u135) (Nat.le_of_ble_eq_true rfl) (Nat.le_of_ble_eq_true rfl) dX1_init_1 ?_
  refine zn_aload_n hC dX1_init_4 0 rfl rfl ?_
  refine zn_iconst hC dX1_init_5 ?_
  refine zn_put (ci := 1) hC (fun w h => uT _ w (uL1 w h)) tyX1 tyX1_ok nmX1 0 rfl rfl 0 (by decide) (uT _ _ u182) (fun _ h => h) rfl rfl rfl rfl (Nat.le_of_ble_eq_true rfl) dX1_init_6 ?_
  show zL p l e _ s m args below meth c 0 0 _ _ D _ 9 [(0, .ref a)] [] ((a, .inr (1, [vI 0, .null])) :: [])
  refine zn_aload_n hC dX1_init_9 0 rfl rfl ?_
  refine zn_bipush hC dX1_init_10 (by decide) ?_
  refine zn_newa (atype := .int) (k := 1) (cB := dA 1) (N' := 120) hC (uT _ _ ua_int) rfl rfl (120, .inl (fun _ => Int32.ofInt 0)) (fun _ => rfl) (by decide) rfl (by decide) ⟨Nat.le_of_ble_eq_true rfl, Nat.le_of_ble_eq_true rfl⟩ dX1_init_12 (fun q1 => ?_)
  refine zn_perm (List.Perm.swap _ _ _) ?_
  show zL p l e _ s m args below meth c 1 120 _ _ D _ 14 [(0, .ref a)] [.ref q1, .ref a] ((a, .inr (1, [vI 0, .null])) :: (q1, .inl (dA 1, 120, .inl (fun _ => Int32.ofInt 0))) :: [])
  refine zn_putF (ci := 1) hC (fun w h => uT _ w (uL1 w h)) tyX1 tyX1_ok nmX1 0 rfl rfl 1 (by decide) (uT _ _ u184) (fun _ h => h) rfl hin rfl rfl rfl rfl (Nat.le_of_ble_eq_true rfl) dX1_init_14 ?_
  show zL p l e _ s m args below meth c 1 120 _ _ D _ 17 [(0, .ref a)] [] ((a, .inr (1, [vI 0, .ref q1])) :: (q1, .inl (dA 1, 120, .inl (fun _ => Int32.ofInt 0))) :: [])
  refine zn_ret hC hr rfl (T := tI1) (fun k => [a, q1].getD k 0) rfl dX1_init_17 (fun H hP hD => zCv.both (is := [0, 1]) (by decide) hP hD ?_)
  exact ⟨⟨_, rfl, Or.inl rfl⟩, ⟨_, rfl, Or.inl rfl⟩, trivial⟩

set_option maxHeartbeats 600000 in
set_option maxRecDepth 20000 in
theorem cI2 (l : Launch) : zIM l yX2_init (Cond.code yX2_init cX2_init 1 none :: UW) ({ frames := 1, cells := 1, slots := 1400, locals := 13 } : Room) 1 1400 2 [vI 0, vI 0, vI 0, vI 0, .null, vI 0, vI 0] [] (tI2) := by
  refine zI_enter (cc := cX2_init) (maxL := 1) (plainFor_of_name (by decide)) rfl (fun _ => Nat.le_of_ble_eq_true rfl) ?_
  intro p e s m args below meth c D dA aL aG aI aK aV a hC hin hr
  refine zn_aload_n hC dX2_init_0 0 rfl rfl ?_
  refine zn_obj hC (uT _ _ u275) (uT _ _ u134) (uT _ _ u135) (Nat.le_of_ble_eq_true rfl) (Nat.le_of_ble_eq_true rfl) dX2_init_1 ?_
  refine zn_aload_n hC dX2_init_4 0 rfl rfl ?_
  refine zn_iconst hC dX2_init_5 ?_
  refine zn_put (ci := 2) hC (fun w h => uT _ w (uL2 w h)) tyX2 tyX2_ok nmX2 0 rfl rfl 0 (by decide) (uT _ _ u276) (fun _ h => h) rfl rfl rfl rfl (Nat.le_of_ble_eq_true rfl) dX2_init_6 ?_
  show zL p l e _ s m args below meth c 0 0 _ _ D _ 9 [(0, .ref a)] [] ((a, .inr (2, [vI 0, vI 0, vI 0, vI 0, .null, vI 0, vI 0])) :: [])
  refine zn_aload_n hC dX2_init_9 0 rfl rfl ?_
  refine zn_iconst hC dX2_init_10 ?_
  refine zn_put (ci := 2) hC (fun w h => uT _ w (uL2 w h)) tyX2 tyX2_ok nmX2 0 rfl rfl 1 (by decide) (uT _ _ u278) (fun _ h => h) rfl rfl rfl rfl (Nat.le_of_ble_eq_true rfl) dX2_init_11 ?_
  show zL p l e _ s m args below meth c 0 0 _ _ D _ 14 [(0, .ref a)] [] ((a, .inr (2, [vI 0, vI 0, vI 0, vI 0, .null, vI 0, vI 0])) :: [])
  refine zn_aload_n hC dX2_init_14 0 rfl rfl ?_
  refine zn_iconst hC dX2_init_15 ?_
  refine zn_put (ci := 2) hC (fun w h => uT _ w (uL2 w h)) tyX2 tyX2_ok nmX2 0 rfl rfl 2 (by decide) (uT _ _ u280) (fun _ h => h) rfl rfl rfl rfl (Nat.le_of_ble_eq_true rfl) dX2_init_16 ?_
  show zL p l e _ s m args below meth c 0 0 _ _ D _ 19 [(0, .ref a)] [] ((a, .inr (2, [vI 0, vI 0, vI 0, vI 0, .null, vI 0, vI 0])) :: [])
  refine zn_aload_n hC dX2_init_19 0 rfl rfl ?_
  refine zn_iconst hC dX2_init_20 ?_
  refine zn_put (ci := 2) hC (fun w h => uT _ w (uL2 w h)) tyX2 tyX2_ok nmX2 0 rfl rfl 3 (by decide) (uT _ _ u282) (fun _ h => h) rfl rfl rfl rfl (Nat.le_of_ble_eq_true rfl) dX2_init_21 ?_
  show zL p l e _ s m args below meth c 0 0 _ _ D _ 24 [(0, .ref a)] [] ((a, .inr (2, [vI 0, vI 0, vI 0, vI 0, .null, vI 0, vI 0])) :: [])
  refine zn_aload_n hC dX2_init_24 0 rfl rfl ?_
  refine zn_sipush hC dX2_init_25 (by decide) ?_
  refine zn_newa (atype := .byte) (k := 0) (cB := dA 0) (N' := 1400) hC (uT _ _ ua_byte) rfl rfl (1400, .inl (fun _ => Int32.ofInt 0)) (fun _ => rfl) (by decide) rfl (by decide) ⟨Nat.le_of_ble_eq_true rfl, Nat.le_of_ble_eq_true rfl⟩ dX2_init_28 (fun q1 => ?_)
  refine zn_perm (List.Perm.swap _ _ _) ?_
  show zL p l e _ s m args below meth c 1 1400 _ _ D _ 30 [(0, .ref a)] [.ref q1, .ref a] ((a, .inr (2, [vI 0, vI 0, vI 0, vI 0, .null, vI 0, vI 0])) :: (q1, .inl (dA 0, 1400, .inl (fun _ => Int32.ofInt 0))) :: [])
  refine zn_putF (ci := 2) hC (fun w h => uT _ w (uL2 w h)) tyX2 tyX2_ok nmX2 0 rfl rfl 4 (by decide) (uT _ _ u284) (fun _ h => h) rfl hin rfl rfl rfl rfl (Nat.le_of_ble_eq_true rfl) dX2_init_30 ?_
  show zL p l e _ s m args below meth c 1 1400 _ _ D _ 33 [(0, .ref a)] [] ((a, .inr (2, [vI 0, vI 0, vI 0, vI 0, .ref q1, vI 0, vI 0])) :: (q1, .inl (dA 0, 1400, .inl (fun _ => Int32.ofInt 0))) :: [])
  refine zn_aload_n hC dX2_init_33 0 rfl rfl ?_
  refine zn_iconst hC dX2_init_34 ?_
  refine zn_put (ci := 2) hC (fun w h => uT _ w (uL2 w h)) tyX2 tyX2_ok nmX2 0 rfl rfl 5 (by decide) (uT _ _ u285) (fun _ h => h) rfl rfl rfl rfl (Nat.le_of_ble_eq_true rfl) dX2_init_35 ?_
  show zL p l e _ s m args below meth c 1 1400 _ _ D _ 38 [(0, .ref a)] [] ((a, .inr (2, [vI 0, vI 0, vI 0, vI 0, .ref q1, vI 0, vI 0])) :: (q1, .inl (dA 0, 1400, .inl (fun _ => Int32.ofInt 0))) :: [])
  refine zn_aload_n hC dX2_init_38 0 rfl rfl ?_
  refine zn_iconst hC dX2_init_39 ?_
  refine zn_put (ci := 2) hC (fun w h => uT _ w (uL2 w h)) tyX2 tyX2_ok nmX2 0 rfl rfl 6 (by decide) (uT _ _ u286) (fun _ h => h) rfl rfl rfl rfl (Nat.le_of_ble_eq_true rfl) dX2_init_40 ?_
  show zL p l e _ s m args below meth c 1 1400 _ _ D _ 43 [(0, .ref a)] [] ((a, .inr (2, [vI 0, vI 0, vI 0, vI 0, .ref q1, vI 0, vI 0])) :: (q1, .inl (dA 0, 1400, .inl (fun _ => Int32.ofInt 0))) :: [])
  refine zn_ret hC hr rfl (T := tI2) (fun k => [a, q1].getD k 0) rfl dX2_init_43 (fun H hP hD => zCv.both (is := [0, 1]) (by decide) hP hD ?_)
  exact ⟨⟨_, rfl, Or.inl rfl⟩, ⟨_, rfl, Or.inl rfl⟩, trivial⟩

set_option maxHeartbeats 600000 in
set_option maxRecDepth 20000 in
theorem cI5 (l : Launch) : zIM l yX5_init (Cond.code yX5_init cX5_init 1 none :: UW) ({ frames := 1, cells := 0, slots := 0, locals := 13 } : Room) 0 0 5 [vI 0, vI 0, vI 0, vI 0, vI 0, vI 0] [] (tI5) := by
  refine zI_enter (cc := cX5_init) (maxL := 1) (plainFor_of_name (by decide)) rfl (fun _ => Nat.le_of_ble_eq_true rfl) ?_
  intro p e s m args below meth c D dA aL aG aI aK aV a hC hin hr
  refine zn_aload_n hC dX5_init_0 0 rfl rfl ?_
  refine zn_obj hC (uT _ _ u395) (uT _ _ u134) (uT _ _ u135) (Nat.le_of_ble_eq_true rfl) (Nat.le_of_ble_eq_true rfl) dX5_init_1 ?_
  refine zn_aload_n hC dX5_init_4 0 rfl rfl ?_
  refine zn_iconst hC dX5_init_5 ?_
  refine zn_put (ci := 5) hC (fun w h => uT _ w (uL5 w h)) tyX5 tyX5_ok nmX5 0 rfl rfl 0 (by decide) (uT _ _ u396) (fun _ h => h) rfl rfl rfl rfl (Nat.le_of_ble_eq_true rfl) dX5_init_6 ?_
  show zL p l e _ s m args below meth c 0 0 _ _ D _ 9 [(0, .ref a)] [] ((a, .inr (5, [vI 0, vI 0, vI 0, vI 0, vI 0, vI 0])) :: [])
  refine zn_aload_n hC dX5_init_9 0 rfl rfl ?_
  refine zn_iconst hC dX5_init_10 ?_
  refine zn_put (ci := 5) hC (fun w h => uT _ w (uL5 w h)) tyX5 tyX5_ok nmX5 0 rfl rfl 1 (by decide) (uT _ _ u398) (fun _ h => h) rfl rfl rfl rfl (Nat.le_of_ble_eq_true rfl) dX5_init_11 ?_
  show zL p l e _ s m args below meth c 0 0 _ _ D _ 14 [(0, .ref a)] [] ((a, .inr (5, [vI 0, vI 0, vI 0, vI 0, vI 0, vI 0])) :: [])
  refine zn_aload_n hC dX5_init_14 0 rfl rfl ?_
  refine zn_iconst hC dX5_init_15 ?_
  refine zn_put (ci := 5) hC (fun w h => uT _ w (uL5 w h)) tyX5 tyX5_ok nmX5 0 rfl rfl 2 (by decide) (uT _ _ u401) (fun _ h => h) rfl rfl rfl rfl (Nat.le_of_ble_eq_true rfl) dX5_init_16 ?_
  show zL p l e _ s m args below meth c 0 0 _ _ D _ 19 [(0, .ref a)] [] ((a, .inr (5, [vI 0, vI 0, vI 0, vI 0, vI 0, vI 0])) :: [])
  refine zn_aload_n hC dX5_init_19 0 rfl rfl ?_
  refine zn_iconst hC dX5_init_20 ?_
  refine zn_put (ci := 5) hC (fun w h => uT _ w (uL5 w h)) tyX5 tyX5_ok nmX5 0 rfl rfl 3 (by decide) (uT _ _ u404) (fun _ h => h) rfl rfl rfl rfl (Nat.le_of_ble_eq_true rfl) dX5_init_21 ?_
  show zL p l e _ s m args below meth c 0 0 _ _ D _ 24 [(0, .ref a)] [] ((a, .inr (5, [vI 0, vI 0, vI 0, vI 0, vI 0, vI 0])) :: [])
  refine zn_aload_n hC dX5_init_24 0 rfl rfl ?_
  refine zn_iconst hC dX5_init_25 ?_
  refine zn_put (ci := 5) hC (fun w h => uT _ w (uL5 w h)) tyX5 tyX5_ok nmX5 0 rfl rfl 4 (by decide) (uT _ _ u407) (fun _ h => h) rfl rfl rfl rfl (Nat.le_of_ble_eq_true rfl) dX5_init_26 ?_
  show zL p l e _ s m args below meth c 0 0 _ _ D _ 29 [(0, .ref a)] [] ((a, .inr (5, [vI 0, vI 0, vI 0, vI 0, vI 0, vI 0])) :: [])
  refine zn_aload_n hC dX5_init_29 0 rfl rfl ?_
  refine zn_iconst hC dX5_init_30 ?_
  refine zn_put (ci := 5) hC (fun w h => uT _ w (uL5 w h)) tyX5 tyX5_ok nmX5 0 rfl rfl 5 (by decide) (uT _ _ u409) (fun _ h => h) rfl rfl rfl rfl (Nat.le_of_ble_eq_true rfl) dX5_init_31 ?_
  show zL p l e _ s m args below meth c 0 0 _ _ D _ 34 [(0, .ref a)] [] ((a, .inr (5, [vI 0, vI 0, vI 0, vI 0, vI 0, vI 0])) :: [])
  refine zn_ret hC hr rfl (T := tI5) (fun k => [a].getD k 0) rfl dX5_init_34 (fun H hP hD => zCv.both (is := [0]) (by decide) hP hD ?_)
  exact ⟨⟨_, rfl, Or.inl rfl⟩, trivial⟩

set_option maxHeartbeats 600000 in
set_option maxRecDepth 20000 in
theorem cI6 (l : Launch) : zIM l yX6_init (Cond.code yX6_init cX6_init 1 none :: UW) ({ frames := 1, cells := 4, slots := 24, locals := 13 } : Room) 4 24 6 [vI 0, vI 0, .null, .null, .null, .null] [] (tI6) := by
  refine zI_enter (cc := cX6_init) (maxL := 1) (plainFor_of_name (by decide)) rfl (fun _ => Nat.le_of_ble_eq_true rfl) ?_
  intro p e s m args below meth c D dA aL aG aI aK aV a hC hin hr
  refine zn_aload_n hC dX6_init_0 0 rfl rfl ?_
  refine zn_obj hC (uT _ _ u367) (uT _ _ u134) (uT _ _ u135) (Nat.le_of_ble_eq_true rfl) (Nat.le_of_ble_eq_true rfl) dX6_init_1 ?_
  refine zn_aload_n hC dX6_init_4 0 rfl rfl ?_
  refine zn_iconst hC dX6_init_5 ?_
  refine zn_put (ci := 6) hC (fun w h => uT _ w (uL6 w h)) tyX6 tyX6_ok nmX6 0 rfl rfl 0 (by decide) (uT _ _ u368) (fun _ h => h) rfl rfl rfl rfl (Nat.le_of_ble_eq_true rfl) dX6_init_6 ?_
  show zL p l e _ s m args below meth c 0 0 _ _ D _ 9 [(0, .ref a)] [] ((a, .inr (6, [vI (-1), vI 0, .null, .null, .null, .null])) :: [])
  refine zn_aload_n hC dX6_init_9 0 rfl rfl ?_
  refine zn_iconst hC dX6_init_10 ?_
  refine zn_put (ci := 6) hC (fun w h => uT _ w (uL6 w h)) tyX6 tyX6_ok nmX6 0 rfl rfl 1 (by decide) (uT _ _ u370) (fun _ h => h) rfl rfl rfl rfl (Nat.le_of_ble_eq_true rfl) dX6_init_11 ?_
  show zL p l e _ s m args below meth c 0 0 _ _ D _ 14 [(0, .ref a)] [] ((a, .inr (6, [vI (-1), vI (-1), .null, .null, .null, .null])) :: [])
  refine zn_aload_n hC dX6_init_14 0 rfl rfl ?_
  refine zn_bipush hC dX6_init_15 (by decide) ?_
  refine zn_newa (atype := .boolean) (k := 2) (cB := dA 2) (N' := 6) hC (uT _ _ ua_boolean) rfl rfl (6, .inl (fun _ => Int32.ofInt 0)) (fun _ => rfl) (by decide) rfl (by decide) ⟨Nat.le_of_ble_eq_true rfl, Nat.le_of_ble_eq_true rfl⟩ dX6_init_17 (fun q1 => ?_)
  refine zn_perm (List.Perm.swap _ _ _) ?_
  show zL p l e _ s m args below meth c 1 6 _ _ D _ 19 [(0, .ref a)] [.ref q1, .ref a] ((a, .inr (6, [vI (-1), vI (-1), .null, .null, .null, .null])) :: (q1, .inl (dA 2, 6, .inl (fun _ => Int32.ofInt 0))) :: [])
  refine zn_putF (ci := 6) hC (fun w h => uT _ w (uL6 w h)) tyX6 tyX6_ok nmX6 0 rfl rfl 2 (by decide) (uT _ _ u373) (fun _ h => h) rfl hin rfl rfl rfl rfl (Nat.le_of_ble_eq_true rfl) dX6_init_19 ?_
  show zL p l e _ s m args below meth c 1 6 _ _ D _ 22 [(0, .ref a)] [] ((a, .inr (6, [vI (-1), vI (-1), .ref q1, .null, .null, .null])) :: (q1, .inl (dA 2, 6, .inl (fun _ => Int32.ofInt 0))) :: [])
  refine zn_aload_n hC dX6_init_22 0 rfl rfl ?_
  refine zn_bipush hC dX6_init_23 (by decide) ?_
  refine zn_newa (atype := .int) (k := 1) (cB := dA 1) (N' := 6) hC (uT _ _ ua_int) rfl rfl (6, .inl (fun _ => Int32.ofInt 0)) (fun _ => rfl) (by decide) rfl (by decide) ⟨Nat.le_of_ble_eq_true rfl, Nat.le_of_ble_eq_true rfl⟩ dX6_init_25 (fun q2 => ?_)
  refine zn_perm (List.Perm.swap _ _ _) ?_
  show zL p l e _ s m args below meth c 2 12 _ _ D _ 27 [(0, .ref a)] [.ref q2, .ref a] ((a, .inr (6, [vI (-1), vI (-1), .ref q1, .null, .null, .null])) :: (q2, .inl (dA 1, 6, .inl (fun _ => Int32.ofInt 0))) :: (q1, .inl (dA 2, 6, .inl (fun _ => Int32.ofInt 0))) :: [])
  refine zn_putF (ci := 6) hC (fun w h => uT _ w (uL6 w h)) tyX6 tyX6_ok nmX6 0 rfl rfl 3 (by decide) (uT _ _ u374) (fun _ h => h) rfl hin rfl rfl rfl rfl (Nat.le_of_ble_eq_true rfl) dX6_init_27 ?_
  show zL p l e _ s m args below meth c 2 12 _ _ D _ 30 [(0, .ref a)] [] ((a, .inr (6, [vI (-1), vI (-1), .ref q1, .ref q2, .null, .null])) :: (q2, .inl (dA 1, 6, .inl (fun _ => Int32.ofInt 0))) :: (q1, .inl (dA 2, 6, .inl (fun _ => Int32.ofInt 0))) :: [])
  refine zn_aload_n hC dX6_init_30 0 rfl rfl ?_
  refine zn_bipush hC dX6_init_31 (by decide) ?_
  refine zn_newa (atype := .int) (k := 1) (cB := dA 1) (N' := 6) hC (uT _ _ ua_int) rfl rfl (6, .inl (fun _ => Int32.ofInt 0)) (fun _ => rfl) (by decide) rfl (by decide) ⟨Nat.le_of_ble_eq_true rfl, Nat.le_of_ble_eq_true rfl⟩ dX6_init_33 (fun q3 => ?_)
  refine zn_perm (List.Perm.swap _ _ _) ?_
  show zL p l e _ s m args below meth c 3 18 _ _ D _ 35 [(0, .ref a)] [.ref q3, .ref a] ((a, .inr (6, [vI (-1), vI (-1), .ref q1, .ref q2, .null, .null])) :: (q3, .inl (dA 1, 6, .inl (fun _ => Int32.ofInt 0))) :: (q2, .inl (dA 1, 6, .inl (fun _ => Int32.ofInt 0))) :: (q1, .inl (dA 2, 6, .inl (fun _ => Int32.ofInt 0))) :: [])
  refine zn_putF (ci := 6) hC (fun w h => uT _ w (uL6 w h)) tyX6 tyX6_ok nmX6 0 rfl rfl 4 (by decide) (uT _ _ u375) (fun _ h => h) rfl hin rfl rfl rfl rfl (Nat.le_of_ble_eq_true rfl) dX6_init_35 ?_
  show zL p l e _ s m args below meth c 3 18 _ _ D _ 38 [(0, .ref a)] [] ((a, .inr (6, [vI (-1), vI (-1), .ref q1, .ref q2, .ref q3, .null])) :: (q3, .inl (dA 1, 6, .inl (fun _ => Int32.ofInt 0))) :: (q2, .inl (dA 1, 6, .inl (fun _ => Int32.ofInt 0))) :: (q1, .inl (dA 2, 6, .inl (fun _ => Int32.ofInt 0))) :: [])
  refine zn_aload_n hC dX6_init_38 0 rfl rfl ?_
  refine zn_bipush hC dX6_init_39 (by decide) ?_
  refine zn_newa (atype := .int) (k := 1) (cB := dA 1) (N' := 6) hC (uT _ _ ua_int) rfl rfl (6, .inl (fun _ => Int32.ofInt 0)) (fun _ => rfl) (by decide) rfl (by decide) ⟨Nat.le_of_ble_eq_true rfl, Nat.le_of_ble_eq_true rfl⟩ dX6_init_41 (fun q4 => ?_)
  refine zn_perm (List.Perm.swap _ _ _) ?_
  show zL p l e _ s m args below meth c 4 24 _ _ D _ 43 [(0, .ref a)] [.ref q4, .ref a] ((a, .inr (6, [vI (-1), vI (-1), .ref q1, .ref q2, .ref q3, .null])) :: (q4, .inl (dA 1, 6, .inl (fun _ => Int32.ofInt 0))) :: (q3, .inl (dA 1, 6, .inl (fun _ => Int32.ofInt 0))) :: (q2, .inl (dA 1, 6, .inl (fun _ => Int32.ofInt 0))) :: (q1, .inl (dA 2, 6, .inl (fun _ => Int32.ofInt 0))) :: [])
  refine zn_putF (ci := 6) hC (fun w h => uT _ w (uL6 w h)) tyX6 tyX6_ok nmX6 0 rfl rfl 5 (by decide) (uT _ _ u376) (fun _ h => h) rfl hin rfl rfl rfl rfl (Nat.le_of_ble_eq_true rfl) dX6_init_43 ?_
  show zL p l e _ s m args below meth c 4 24 _ _ D _ 46 [(0, .ref a)] [] ((a, .inr (6, [vI (-1), vI (-1), .ref q1, .ref q2, .ref q3, .ref q4])) :: (q4, .inl (dA 1, 6, .inl (fun _ => Int32.ofInt 0))) :: (q3, .inl (dA 1, 6, .inl (fun _ => Int32.ofInt 0))) :: (q2, .inl (dA 1, 6, .inl (fun _ => Int32.ofInt 0))) :: (q1, .inl (dA 2, 6, .inl (fun _ => Int32.ofInt 0))) :: [])
  refine zn_ret hC hr rfl (T := tI6) (fun k => [a, q1, q2, q3, q4].getD k 0) rfl dX6_init_46 (fun H hP hD => zCv.both (is := [0, 4, 3, 2, 1]) (by decide) hP hD ?_)
  exact ⟨⟨_, rfl, Or.inl rfl⟩, ⟨_, rfl, Or.inl rfl⟩, ⟨_, rfl, Or.inl rfl⟩, ⟨_, rfl, Or.inl rfl⟩, ⟨_, rfl, Or.inl rfl⟩, trivial⟩

set_option maxHeartbeats 600000 in
set_option maxRecDepth 20000 in
theorem cI7 (l : Launch) (n : Int) (hn : zrg n) (h6 : min n 6 = n) : zIM l yX7_init (Cond.code yX7_init cX7_init 2 none :: UW) ({ frames := 1, cells := 2, slots := 12, locals := 14 } : Room) 2 12 7 [vI 0, .null, .null, vI 0] [vI n] (tI7 n) := by
  refine zI_enter (cc := cX7_init) (maxL := 2) (plainFor_of_name (by decide)) rfl (fun _ => Nat.le_of_ble_eq_true rfl) ?_
  intro p e s m args below meth c D dA aL aG aI aK aV a hC hin hr
  refine zn_aload_n hC dX7_init_0 0 rfl rfl ?_
  refine zn_obj hC (uT _ _ u151) (uT _ _ u134) (uT _ _ u135) (Nat.le_of_ble_eq_true rfl) (Nat.le_of_ble_eq_true rfl) dX7_init_1 ?_
  refine zn_aload_n hC dX7_init_4 0 rfl rfl ?_
  refine zn_bipush hC dX7_init_5 (by decide) ?_
  refine zn_newa (atype := .int) (k := 1) (cB := dA 1) (N' := 6) hC (uT _ _ ua_int) rfl rfl (6, .inl (fun _ => Int32.ofInt 0)) (fun _ => rfl) (by decide) rfl (by decide) ⟨Nat.le_of_ble_eq_true rfl, Nat.le_of_ble_eq_true rfl⟩ dX7_init_7 (fun q1 => ?_)
  refine zn_perm (List.Perm.swap _ _ _) ?_
  show zL p l e _ s m args below meth c 1 6 _ _ D _ 9 [(0, .ref a), (1, vI n)] [.ref q1, .ref a] ((a, .inr (7, [vI 0, .null, .null, vI 0])) :: (q1, .inl (dA 1, 6, .inl (fun _ => Int32.ofInt 0))) :: [])
  refine zn_putF (ci := 7) hC (fun w h => uT _ w (uL7 w h)) tyX7 tyX7_ok nmX7 0 rfl rfl 1 (by decide) (uT _ _ u156) (fun _ h => h) rfl hin rfl rfl rfl rfl (Nat.le_of_ble_eq_true rfl) dX7_init_9 ?_
  show zL p l e _ s m args below meth c 1 6 _ _ D _ 12 [(0, .ref a), (1, vI n)] [] ((a, .inr (7, [vI 0, .ref q1, .null, vI 0])) :: (q1, .inl (dA 1, 6, .inl (fun _ => Int32.ofInt 0))) :: [])
  refine zn_aload_n hC dX7_init_12 0 rfl rfl ?_
  refine zn_bipush hC dX7_init_13 (by decide) ?_
  refine zn_newa (atype := .int) (k := 1) (cB := dA 1) (N' := 6) hC (uT _ _ ua_int) rfl rfl (6, .inl (fun _ => Int32.ofInt 0)) (fun _ => rfl) (by decide) rfl (by decide) ⟨Nat.le_of_ble_eq_true rfl, Nat.le_of_ble_eq_true rfl⟩ dX7_init_15 (fun q2 => ?_)
  refine zn_perm (List.Perm.swap _ _ _) ?_
  show zL p l e _ s m args below meth c 2 12 _ _ D _ 17 [(0, .ref a), (1, vI n)] [.ref q2, .ref a] ((a, .inr (7, [vI 0, .ref q1, .null, vI 0])) :: (q2, .inl (dA 1, 6, .inl (fun _ => Int32.ofInt 0))) :: (q1, .inl (dA 1, 6, .inl (fun _ => Int32.ofInt 0))) :: [])
  refine zn_putF (ci := 7) hC (fun w h => uT _ w (uL7 w h)) tyX7 tyX7_ok nmX7 0 rfl rfl 2 (by decide) (uT _ _ u160) (fun _ h => h) rfl hin rfl rfl rfl rfl (Nat.le_of_ble_eq_true rfl) dX7_init_17 ?_
  show zL p l e _ s m args below meth c 2 12 _ _ D _ 20 [(0, .ref a), (1, vI n)] [] ((a, .inr (7, [vI 0, .ref q1, .ref q2, vI 0])) :: (q2, .inl (dA 1, 6, .inl (fun _ => Int32.ofInt 0))) :: (q1, .inl (dA 1, 6, .inl (fun _ => Int32.ofInt 0))) :: [])
  refine zn_aload_n hC dX7_init_20 0 rfl rfl ?_
  refine zn_iconst hC dX7_init_21 ?_
  refine zn_put (ci := 7) hC (fun w h => uT _ w (uL7 w h)) tyX7 tyX7_ok nmX7 0 rfl rfl 3 (by decide) (uT _ _ u164) (fun _ h => h) rfl rfl rfl rfl (Nat.le_of_ble_eq_true rfl) dX7_init_22 ?_
  show zL p l e _ s m args below meth c 2 12 _ _ D _ 25 [(0, .ref a), (1, vI n)] [] ((a, .inr (7, [vI 0, .ref q1, .ref q2, vI 0])) :: (q2, .inl (dA 1, 6, .inl (fun _ => Int32.ofInt 0))) :: (q1, .inl (dA 1, 6, .inl (fun _ => Int32.ofInt 0))) :: [])
  refine zn_aload_n hC dX7_init_25 0 rfl rfl ?_
  refine zn_iload_n hC dX7_init_26 1 rfl rfl ?_
  refine zn_bipush hC dX7_init_27 (by decide) ?_
  refine zn_min hC hn (by decide) (fun w h => uT _ w (uC u152 (uC u153 (uC u108 (uC u154 uN))) w h)) (Nat.le_of_ble_eq_true rfl) (Nat.le_of_ble_eq_true rfl) ⟨Nat.le_of_ble_eq_true rfl, Nat.le_of_ble_eq_true rfl⟩ dX7_init_29 ?_
  refine zn_putF (ci := 7) hC (fun w h => uT _ w (uL7 w h)) tyX7 tyX7_ok nmX7 0 rfl rfl 0 (by decide) (uT _ _ u155) (fun _ h => h) rfl hin rfl rfl rfl rfl (Nat.le_of_ble_eq_true rfl) dX7_init_32 ?_
  show zL p l e _ s m args below meth c 2 12 _ _ D _ 35 [(0, .ref a), (1, vI n)] [] ((a, .inr (7, [vI (min n 6), .ref q1, .ref q2, vI 0])) :: (q2, .inl (dA 1, 6, .inl (fun _ => Int32.ofInt 0))) :: (q1, .inl (dA 1, 6, .inl (fun _ => Int32.ofInt 0))) :: [])
  refine zn_ret hC hr rfl (T := tI7 n) (fun k => [a, q1, q2].getD k 0) rfl dX7_init_35 (fun H hP hD => zCv.both (is := [0, 2, 1]) (by decide) hP hD ?_)
  exact ⟨⟨_, rfl, Or.inl (by rw [h6]; rfl)⟩, ⟨_, rfl, Or.inl rfl⟩, ⟨_, rfl, Or.inl rfl⟩, trivial⟩

set_option maxHeartbeats 600000 in
set_option maxRecDepth 20000 in
theorem cI9 (l : Launch) : zIM l yX9_init (Cond.code yX9_init cX9_init 1 none :: UW) ({ frames := 1, cells := 2, slots := 16, locals := 13 } : Room) 2 16 9 [vI 0, .null, .null] [] (tI9) := by
  refine zI_enter (cc := cX9_init) (maxL := 1) (plainFor_of_name (by decide)) rfl (fun _ => Nat.le_of_ble_eq_true rfl) ?_
  intro p e s m args below meth c D dA aL aG aI aK aV a hC hin hr
  refine zn_aload_n hC dX9_init_0 0 rfl rfl ?_
  refine zn_obj hC (uT _ _ u195) (uT _ _ u134) (uT _ _ u135) (Nat.le_of_ble_eq_true rfl) (Nat.le_of_ble_eq_true rfl) dX9_init_1 ?_
  refine zn_aload_n hC dX9_init_4 0 rfl rfl ?_
  refine zn_iconst hC dX9_init_5 ?_
  refine zn_put (ci := 9) hC (fun w h => uT _ w (uL9 w h)) tyX9 tyX9_ok nmX9 0 rfl rfl 0 (by decide) (uT _ _ u196) (fun _ h => h) rfl rfl rfl rfl (Nat.le_of_ble_eq_true rfl) dX9_init_6 ?_
  show zL p l e _ s m args below meth c 0 0 _ _ D _ 9 [(0, .ref a)] [] ((a, .inr (9, [vI 0, .null, .null])) :: [])
  refine zn_aload_n hC dX9_init_9 0 rfl rfl ?_
  refine zn_bipush hC dX9_init_10 (by decide) ?_
  refine zn_newa (atype := .int) (k := 1) (cB := dA 1) (N' := 8) hC (uT _ _ ua_int) rfl rfl (8, .inl (fun _ => Int32.ofInt 0)) (fun _ => rfl) (by decide) rfl (by decide) ⟨Nat.le_of_ble_eq_true rfl, Nat.le_of_ble_eq_true rfl⟩ dX9_init_12 (fun q1 => ?_)
  refine zn_perm (List.Perm.swap _ _ _) ?_
  show zL p l e _ s m args below meth c 1 8 _ _ D _ 14 [(0, .ref a)] [.ref q1, .ref a] ((a, .inr (9, [vI 0, .null, .null])) :: (q1, .inl (dA 1, 8, .inl (fun _ => Int32.ofInt 0))) :: [])
  refine zn_putF (ci := 9) hC (fun w h => uT _ w (uL9 w h)) tyX9 tyX9_ok nmX9 0 rfl rfl 1 (by decide) (uT _ _ u199) (fun _ h => h) rfl hin rfl rfl rfl rfl (Nat.le_of_ble_eq_true rfl) dX9_init_14 ?_
  show zL p l e _ s m args below meth c 1 8 _ _ D _ 17 [(0, .ref a)] [] ((a, .inr (9, [vI 0, .ref q1, .null])) :: (q1, .inl (dA 1, 8, .inl (fun _ => Int32.ofInt 0))) :: [])
  refine zn_aload_n hC dX9_init_17 0 rfl rfl ?_
  refine zn_bipush hC dX9_init_18 (by decide) ?_
  refine zn_newa (atype := .int) (k := 1) (cB := dA 1) (N' := 8) hC (uT _ _ ua_int) rfl rfl (8, .inl (fun _ => Int32.ofInt 0)) (fun _ => rfl) (by decide) rfl (by decide) ⟨Nat.le_of_ble_eq_true rfl, Nat.le_of_ble_eq_true rfl⟩ dX9_init_20 (fun q2 => ?_)
  refine zn_perm (List.Perm.swap _ _ _) ?_
  show zL p l e _ s m args below meth c 2 16 _ _ D _ 22 [(0, .ref a)] [.ref q2, .ref a] ((a, .inr (9, [vI 0, .ref q1, .null])) :: (q2, .inl (dA 1, 8, .inl (fun _ => Int32.ofInt 0))) :: (q1, .inl (dA 1, 8, .inl (fun _ => Int32.ofInt 0))) :: [])
  refine zn_putF (ci := 9) hC (fun w h => uT _ w (uL9 w h)) tyX9 tyX9_ok nmX9 0 rfl rfl 2 (by decide) (uT _ _ u202) (fun _ h => h) rfl hin rfl rfl rfl rfl (Nat.le_of_ble_eq_true rfl) dX9_init_22 ?_
  show zL p l e _ s m args below meth c 2 16 _ _ D _ 25 [(0, .ref a)] [] ((a, .inr (9, [vI 0, .ref q1, .ref q2])) :: (q2, .inl (dA 1, 8, .inl (fun _ => Int32.ofInt 0))) :: (q1, .inl (dA 1, 8, .inl (fun _ => Int32.ofInt 0))) :: [])
  refine zn_ret hC hr rfl (T := tI9) (fun k => [a, q1, q2].getD k 0) rfl dX9_init_25 (fun H hP hD => zCv.both (is := [0, 2, 1]) (by decide) hP hD ?_)
  exact ⟨⟨_, rfl, Or.inl rfl⟩, ⟨_, rfl, Or.inl rfl⟩, ⟨_, rfl, Or.inl rfl⟩, trivial⟩

set_option maxHeartbeats 600000 in
set_option maxRecDepth 20000 in
theorem cI10 (l : Launch) : zIM l yX10_init (Cond.code yX10_init cX10_init 1 none :: UW) ({ frames := 1, cells := 6, slots := 36, locals := 13 } : Room) 6 36 10 [vI 0, vI 0, vI 0, vI 0, .null, .null, .null, .null, .null, .null] [] (tI10) := by
  refine zI_enter (cc := cX10_init) (maxL := 1) (plainFor_of_name (by decide)) rfl (fun _ => Nat.le_of_ble_eq_true rfl) ?_
  intro p e s m args below meth c D dA aL aG aI aK aV a hC hin hr
  refine zn_aload_n hC dX10_init_0 0 rfl rfl ?_
  refine zn_obj hC (uT _ _ u429) (uT _ _ u134) (uT _ _ u135) (Nat.le_of_ble_eq_true rfl) (Nat.le_of_ble_eq_true rfl) dX10_init_1 ?_
  refine zn_aload_n hC dX10_init_4 0 rfl rfl ?_
  refine zn_iconst hC dX10_init_5 ?_
  refine zn_put (ci := 10) hC (fun w h => uT _ w (uL10 w h)) tyX10 tyX10_ok nmX10 0 rfl rfl 0 (by decide) (uT _ _ u430) (fun _ h => h) rfl rfl rfl rfl (Nat.le_of_ble_eq_true rfl) dX10_init_6 ?_
  show zL p l e _ s m args below meth c 0 0 _ _ D _ 9 [(0, .ref a)] [] ((a, .inr (10, [vI (-1), vI 0, vI 0, vI 0, .null, .null, .null, .null, .null, .null])) :: [])
  refine zn_aload_n hC dX10_init_9 0 rfl rfl ?_
  refine zn_iconst hC dX10_init_10 ?_
  refine zn_put (ci := 10) hC (fun w h => uT _ w (uL10 w h)) tyX10 tyX10_ok nmX10 0 rfl rfl 1 (by decide) (uT _ _ u432) (fun _ h => h) rfl rfl rfl rfl (Nat.le_of_ble_eq_true rfl) dX10_init_11 ?_
  show zL p l e _ s m args below meth c 0 0 _ _ D _ 14 [(0, .ref a)] [] ((a, .inr (10, [vI (-1), vI 0, vI 0, vI 0, .null, .null, .null, .null, .null, .null])) :: [])
  refine zn_aload_n hC dX10_init_14 0 rfl rfl ?_
  refine zn_iconst hC dX10_init_15 ?_
  refine zn_put (ci := 10) hC (fun w h => uT _ w (uL10 w h)) tyX10 tyX10_ok nmX10 0 rfl rfl 2 (by decide) (uT _ _ u434) (fun _ h => h) rfl rfl rfl rfl (Nat.le_of_ble_eq_true rfl) dX10_init_16 ?_
  show zL p l e _ s m args below meth c 0 0 _ _ D _ 19 [(0, .ref a)] [] ((a, .inr (10, [vI (-1), vI 0, vI 0, vI 0, .null, .null, .null, .null, .null, .null])) :: [])
  refine zn_aload_n hC dX10_init_19 0 rfl rfl ?_
  refine zn_iconst hC dX10_init_20 ?_
  refine zn_put (ci := 10) hC (fun w h => uT _ w (uL10 w h)) tyX10 tyX10_ok nmX10 0 rfl rfl 3 (by decide) (uT _ _ u436) (fun _ h => h) rfl rfl rfl rfl (Nat.le_of_ble_eq_true rfl) dX10_init_21 ?_
  show zL p l e _ s m args below meth c 0 0 _ _ D _ 24 [(0, .ref a)] [] ((a, .inr (10, [vI (-1), vI 0, vI 0, vI 0, .null, .null, .null, .null, .null, .null])) :: [])
  refine zn_aload_n hC dX10_init_24 0 rfl rfl ?_
  refine zn_bipush hC dX10_init_25 (by decide) ?_
  refine zn_newa (atype := .int) (k := 1) (cB := dA 1) (N' := 6) hC (uT _ _ ua_int) rfl rfl (6, .inl (fun _ => Int32.ofInt 0)) (fun _ => rfl) (by decide) rfl (by decide) ⟨Nat.le_of_ble_eq_true rfl, Nat.le_of_ble_eq_true rfl⟩ dX10_init_27 (fun q1 => ?_)
  refine zn_perm (List.Perm.swap _ _ _) ?_
  show zL p l e _ s m args below meth c 1 6 _ _ D _ 29 [(0, .ref a)] [.ref q1, .ref a] ((a, .inr (10, [vI (-1), vI 0, vI 0, vI 0, .null, .null, .null, .null, .null, .null])) :: (q1, .inl (dA 1, 6, .inl (fun _ => Int32.ofInt 0))) :: [])
  refine zn_putF (ci := 10) hC (fun w h => uT _ w (uL10 w h)) tyX10 tyX10_ok nmX10 0 rfl rfl 4 (by decide) (uT _ _ u438) (fun _ h => h) rfl hin rfl rfl rfl rfl (Nat.le_of_ble_eq_true rfl) dX10_init_29 ?_
  show zL p l e _ s m args below meth c 1 6 _ _ D _ 32 [(0, .ref a)] [] ((a, .inr (10, [vI (-1), vI 0, vI 0, vI 0, .ref q1, .null, .null, .null, .null, .null])) :: (q1, .inl (dA 1, 6, .inl (fun _ => Int32.ofInt 0))) :: [])
  refine zn_aload_n hC dX10_init_32 0 rfl rfl ?_
  refine zn_bipush hC dX10_init_33 (by decide) ?_
  refine zn_newa (atype := .int) (k := 1) (cB := dA 1) (N' := 6) hC (uT _ _ ua_int) rfl rfl (6, .inl (fun _ => Int32.ofInt 0)) (fun _ => rfl) (by decide) rfl (by decide) ⟨Nat.le_of_ble_eq_true rfl, Nat.le_of_ble_eq_true rfl⟩ dX10_init_35 (fun q2 => ?_)
  refine zn_perm (List.Perm.swap _ _ _) ?_
  show zL p l e _ s m args below meth c 2 12 _ _ D _ 37 [(0, .ref a)] [.ref q2, .ref a] ((a, .inr (10, [vI (-1), vI 0, vI 0, vI 0, .ref q1, .null, .null, .null, .null, .null])) :: (q2, .inl (dA 1, 6, .inl (fun _ => Int32.ofInt 0))) :: (q1, .inl (dA 1, 6, .inl (fun _ => Int32.ofInt 0))) :: [])
  refine zn_putF (ci := 10) hC (fun w h => uT _ w (uL10 w h)) tyX10 tyX10_ok nmX10 0 rfl rfl 5 (by decide) (uT _ _ u440) (fun _ h => h) rfl hin rfl rfl rfl rfl (Nat.le_of_ble_eq_true rfl) dX10_init_37 ?_
  show zL p l e _ s m args below meth c 2 12 _ _ D _ 40 [(0, .ref a)] [] ((a, .inr (10, [vI (-1), vI 0, vI 0, vI 0, .ref q1, .ref q2, .null, .null, .null, .null])) :: (q2, .inl (dA 1, 6, .inl (fun _ => Int32.ofInt 0))) :: (q1, .inl (dA 1, 6, .inl (fun _ => Int32.ofInt 0))) :: [])
  refine zn_aload_n hC dX10_init_40 0 rfl rfl ?_
  refine zn_bipush hC dX10_init_41 (by decide) ?_
  refine zn_newa (atype := .int) (k := 1) (cB := dA 1) (N' := 6) hC (uT _ _ ua_int) rfl rfl (6, .inl (fun _ => Int32.ofInt 0)) (fun _ => rfl) (by decide) rfl (by decide) ⟨Nat.le_of_ble_eq_true rfl, Nat.le_of_ble_eq_true rfl⟩ dX10_init_43 (fun q3 => ?_)
  refine zn_perm (List.Perm.swap _ _ _) ?_
  show zL p l e _ s m args below meth c 3 18 _ _ D _ 45 [(0, .ref a)] [.ref q3, .ref a] ((a, .inr (10, [vI (-1), vI 0, vI 0, vI 0, .ref q1, .ref q2, .null, .null, .null, .null])) :: (q3, .inl (dA 1, 6, .inl (fun _ => Int32.ofInt 0))) :: (q2, .inl (dA 1, 6, .inl (fun _ => Int32.ofInt 0))) :: (q1, .inl (dA 1, 6, .inl (fun _ => Int32.ofInt 0))) :: [])
  refine zn_putF (ci := 10) hC (fun w h => uT _ w (uL10 w h)) tyX10 tyX10_ok nmX10 0 rfl rfl 6 (by decide) (uT _ _ u442) (fun _ h => h) rfl hin rfl rfl rfl rfl (Nat.le_of_ble_eq_true rfl) dX10_init_45 ?_
  show zL p l e _ s m args below meth c 3 18 _ _ D _ 48 [(0, .ref a)] [] ((a, .inr (10, [vI (-1), vI 0, vI 0, vI 0, .ref q1, .ref q2, .ref q3, .null, .null, .null])) :: (q3, .inl (dA 1, 6, .inl (fun _ => Int32.ofInt 0))) :: (q2, .inl (dA 1, 6, .inl (fun _ => Int32.ofInt 0))) :: (q1, .inl (dA 1, 6, .inl (fun _ => Int32.ofInt 0))) :: [])
  refine zn_aload_n hC dX10_init_48 0 rfl rfl ?_
  refine zn_bipush hC dX10_init_49 (by decide) ?_
  refine zn_newa (atype := .int) (k := 1) (cB := dA 1) (N' := 6) hC (uT _ _ ua_int) rfl rfl (6, .inl (fun _ => Int32.ofInt 0)) (fun _ => rfl) (by decide) rfl (by decide) ⟨Nat.le_of_ble_eq_true rfl, Nat.le_of_ble_eq_true rfl⟩ dX10_init_51 (fun q4 => ?_)
  refine zn_perm (List.Perm.swap _ _ _) ?_
  show zL p l e _ s m args below meth c 4 24 _ _ D _ 53 [(0, .ref a)] [.ref q4, .ref a] ((a, .inr (10, [vI (-1), vI 0, vI 0, vI 0, .ref q1, .ref q2, .ref q3, .null, .null, .null])) :: (q4, .inl (dA 1, 6, .inl (fun _ => Int32.ofInt 0))) :: (q3, .inl (dA 1, 6, .inl (fun _ => Int32.ofInt 0))) :: (q2, .inl (dA 1, 6, .inl (fun _ => Int32.ofInt 0))) :: (q1, .inl (dA 1, 6, .inl (fun _ => Int32.ofInt 0))) :: [])
  refine zn_putF (ci := 10) hC (fun w h => uT _ w (uL10 w h)) tyX10 tyX10_ok nmX10 0 rfl rfl 7 (by decide) (uT _ _ u443) (fun _ h => h) rfl hin rfl rfl rfl rfl (Nat.le_of_ble_eq_true rfl) dX10_init_53 ?_
  show zL p l e _ s m args below meth c 4 24 _ _ D _ 56 [(0, .ref a)] [] ((a, .inr (10, [vI (-1), vI 0, vI 0, vI 0, .ref q1, .ref q2, .ref q3, .ref q4, .null, .null])) :: (q4, .inl (dA 1, 6, .inl (fun _ => Int32.ofInt 0))) :: (q3, .inl (dA 1, 6, .inl (fun _ => Int32.ofInt 0))) :: (q2, .inl (dA 1, 6, .inl (fun _ => Int32.ofInt 0))) :: (q1, .inl (dA 1, 6, .inl (fun _ => Int32.ofInt 0))) :: [])
  refine zn_aload_n hC dX10_init_56 0 rfl rfl ?_
  refine zn_bipush hC dX10_init_57 (by decide) ?_
  refine zn_newa (atype := .int) (k := 1) (cB := dA 1) (N' := 6) hC (uT _ _ ua_int) rfl rfl (6, .inl (fun _ => Int32.ofInt 0)) (fun _ => rfl) (by decide) rfl (by decide) ⟨Nat.le_of_ble_eq_true rfl, Nat.le_of_ble_eq_true rfl⟩ dX10_init_59 (fun q5 => ?_)
  refine zn_perm (List.Perm.swap _ _ _) ?_
  show zL p l e _ s m args below meth c 5 30 _ _ D _ 61 [(0, .ref a)] [.ref q5, .ref a] ((a, .inr (10, [vI (-1), vI 0, vI 0, vI 0, .ref q1, .ref q2, .ref q3, .ref q4, .null, .null])) :: (q5, .inl (dA 1, 6, .inl (fun _ => Int32.ofInt 0))) :: (q4, .inl (dA 1, 6, .inl (fun _ => Int32.ofInt 0))) :: (q3, .inl (dA 1, 6, .inl (fun _ => Int32.ofInt 0))) :: (q2, .inl (dA 1, 6, .inl (fun _ => Int32.ofInt 0))) :: (q1, .inl (dA 1, 6, .inl (fun _ => Int32.ofInt 0))) :: [])
  refine zn_putF (ci := 10) hC (fun w h => uT _ w (uL10 w h)) tyX10 tyX10_ok nmX10 0 rfl rfl 8 (by decide) (uT _ _ u444) (fun _ h => h) rfl hin rfl rfl rfl rfl (Nat.le_of_ble_eq_true rfl) dX10_init_61 ?_
  show zL p l e _ s m args below meth c 5 30 _ _ D _ 64 [(0, .ref a)] [] ((a, .inr (10, [vI (-1), vI 0, vI 0, vI 0, .ref q1, .ref q2, .ref q3, .ref q4, .ref q5, .null])) :: (q5, .inl (dA 1, 6, .inl (fun _ => Int32.ofInt 0))) :: (q4, .inl (dA 1, 6, .inl (fun _ => Int32.ofInt 0))) :: (q3, .inl (dA 1, 6, .inl (fun _ => Int32.ofInt 0))) :: (q2, .inl (dA 1, 6, .inl (fun _ => Int32.ofInt 0))) :: (q1, .inl (dA 1, 6, .inl (fun _ => Int32.ofInt 0))) :: [])
  refine zn_aload_n hC dX10_init_64 0 rfl rfl ?_
  refine zn_bipush hC dX10_init_65 (by decide) ?_
  refine zn_newa (atype := .int) (k := 1) (cB := dA 1) (N' := 6) hC (uT _ _ ua_int) rfl rfl (6, .inl (fun _ => Int32.ofInt 0)) (fun _ => rfl) (by decide) rfl (by decide) ⟨Nat.le_of_ble_eq_true rfl, Nat.le_of_ble_eq_true rfl⟩ dX10_init_67 (fun q6 => ?_)
  refine zn_perm (List.Perm.swap _ _ _) ?_
  show zL p l e _ s m args below meth c 6 36 _ _ D _ 69 [(0, .ref a)] [.ref q6, .ref a] ((a, .inr (10, [vI (-1), vI 0, vI 0, vI 0, .ref q1, .ref q2, .ref q3, .ref q4, .ref q5, .null])) :: (q6, .inl (dA 1, 6, .inl (fun _ => Int32.ofInt 0))) :: (q5, .inl (dA 1, 6, .inl (fun _ => Int32.ofInt 0))) :: (q4, .inl (dA 1, 6, .inl (fun _ => Int32.ofInt 0))) :: (q3, .inl (dA 1, 6, .inl (fun _ => Int32.ofInt 0))) :: (q2, .inl (dA 1, 6, .inl (fun _ => Int32.ofInt 0))) :: (q1, .inl (dA 1, 6, .inl (fun _ => Int32.ofInt 0))) :: [])
  refine zn_putF (ci := 10) hC (fun w h => uT _ w (uL10 w h)) tyX10 tyX10_ok nmX10 0 rfl rfl 9 (by decide) (uT _ _ u445) (fun _ h => h) rfl hin rfl rfl rfl rfl (Nat.le_of_ble_eq_true rfl) dX10_init_69 ?_
  show zL p l e _ s m args below meth c 6 36 _ _ D _ 72 [(0, .ref a)] [] ((a, .inr (10, [vI (-1), vI 0, vI 0, vI 0, .ref q1, .ref q2, .ref q3, .ref q4, .ref q5, .ref q6])) :: (q6, .inl (dA 1, 6, .inl (fun _ => Int32.ofInt 0))) :: (q5, .inl (dA 1, 6, .inl (fun _ => Int32.ofInt 0))) :: (q4, .inl (dA 1, 6, .inl (fun _ => Int32.ofInt 0))) :: (q3, .inl (dA 1, 6, .inl (fun _ => Int32.ofInt 0))) :: (q2, .inl (dA 1, 6, .inl (fun _ => Int32.ofInt 0))) :: (q1, .inl (dA 1, 6, .inl (fun _ => Int32.ofInt 0))) :: [])
  refine zn_ret hC hr rfl (T := tI10) (fun k => [a, q1, q2, q3, q4, q5, q6].getD k 0) rfl dX10_init_72 (fun H hP hD => zCv.both (is := [0, 6, 5, 4, 3, 2, 1]) (by decide) hP hD ?_)
  exact ⟨⟨_, rfl, Or.inl rfl⟩, ⟨_, rfl, Or.inl rfl⟩, ⟨_, rfl, Or.inl rfl⟩, ⟨_, rfl, Or.inl rfl⟩, ⟨_, rfl, Or.inl rfl⟩, ⟨_, rfl, Or.inl rfl⟩, ⟨_, rfl, Or.inl rfl⟩, trivial⟩

