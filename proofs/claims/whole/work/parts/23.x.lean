
-- ===== X8_reset
noncomputable def fX8_reset_B40 (K : zSt → Prop) (n : Nat) : zSt → Int → Int → Prop :=
  Nat.rec (motive := fun _ => zSt → Int → Int → Prop) (fun _ _ _ => False) (fun _ ih σ x0 x1 => zrg x1 ∧ ((8 ≤ x1 → K σ) ∧ (¬ 8 ≤ x1 → (0 ≤ x1 ∧ x1 < 8) ∧ ∀ σ9, σ9 = zu σ (x0 + 1) x1 (cINIT x1) → ih σ9 x0 (x1 + 1)))) n
theorem uX8_reset_B40 (K : zSt → Prop) (n0 : Nat) (σ : zSt) (x0 : Int) (x1 : Int) : fX8_reset_B40 K (n0 + 1) σ x0 x1 = (zrg x1 ∧ ((8 ≤ x1 → K σ) ∧ (¬ 8 ≤ x1 → (0 ≤ x1 ∧ x1 < 8) ∧ ∀ σ9, σ9 = zu σ (x0 + 1) x1 (cINIT x1) → (fX8_reset_B40 K n0) σ9 x0 (x1 + 1)))) := rfl
def fX8_reset (K : zSt → Prop) (σ : zSt) (x0 : Int) : Prop :=
  kX x0 = 8 ∧ ∀ σ1, σ1 = zu σ x0 0 12 → ∀ σ2, σ2 = zu σ1 x0 1 8 → ∀ σ3, σ3 = zu σ2 x0 2 0 → ∀ σ4, σ4 = zu σ3 x0 3 0 → ∀ σ5, σ5 = zu σ4 (x0 + 4) 3 0 → ∀ σ6, σ6 = zu σ5 (x0 + 7) 3 0 → (∃ n, fX8_reset_B40 K n σ6 x0 0)
set_option maxHeartbeats 4000000 in
set_option maxRecDepth 100000 in
theorem wX8_reset_B40 {p : Program} {l : Launch} {e : Env} {s : State} {m : MethodId} {args : Array Value} {below : List Frame} {meth : Method} {c : Code} {D : va_G} {dA : Nat → ClassId} {ad : Nat → Nat} {sz : Nat} {aL aG aI : Nat} {aK aV : Nat → Nat} {K : zSt → Prop} (hC : zC p m c cX8_reset 2 s args (Cond.code yX8_reset cX8_reset 2 none :: UW) RX8 meth D vwCl (tyA dA) (zA ad NX sz) NX ad (celX ad dA)) (hE : zE (zXX aL aG aI aK aV) (zA ad NX sz) s s.heap) (hr : meth.sig.returnType = none) (hinj : ∀ i j, i < NX → j < NX → ad i = ad j → i = j) : ∀ (n : Nat) (σ : zSt) (x0 : Int) (x1 : Int) (qx0 : kX x0 = 8), fX8_reset_B40 K n σ x0 x1 → zAt p l e ({ frames := 0, cells := 0, slots := 0, locals := 0 } : Room) s m args below meth c 0 0 (MQ below (va_Qv K (zB D vwCl (tyA dA) NX ad (celX ad dA)) (zA ad NX sz)) args s 0 0 (zA ad NX sz)) 2 D vwCl (zA ad NX sz) NX ad (celX ad dA) 40 [(0, vR ad x0), (1, vI x1)] [] σ := by
  intro n
  induction n with
  | zero => intro σ x0 x1 qx0 hf; exact False.elim hf
  | succ n ih =>
    intro σ x0 x1 qx0 hf
    rw [uX8_reset_B40] at hf
    refine z_iload_n hC dX8_reset_40 1 rfl rfl ?_
    refine z_bipush hC dX8_reset_41 (by decide) ?_
    obtain ⟨g7, hf⟩ := hf
    refine z_icmp_ge (tgt := 63) hC dX8_reset_43 (by decide) g7 (zlit rfl rfl) (fun hc => ?_) (fun hc => ?_)
    · replace hf := hf.1 hc
      exact z_vret hC hr rfl dX8_reset_63 hf
    · replace hf := hf.2 hc
      refine z_aload_n hC dX8_reset_46 0 rfl rfl ?_
      refine z_get hC (fun w h => uT _ w (uL8 w h)) (oX_8 qx0) 4 (by decide) (uT _ _ u226) rfl rfl dX8_reset_47 ?_
      refine z_iload_n hC dX8_reset_50 1 rfl rfl ?_
      refine z_getsN hC hE (n := "INITIAL_VALUE") (q := aI) (List.mem_of_getElem? (i := 2) rfl) (host := "GlacierCamera") ((by decide +kernel : (Cond.fieldLinkNest RX8 54 "GlacierCamera" "INITIAL_VALUE" "[I" "GlacierCamera") ∈ zNest)) dX8_reset_51 ?_
      refine z_iload_n hC dX8_reset_54 1 rfl rfl ?_
      obtain ⟨g8, hf⟩ := hf
      refine z_sald hC hE (List.mem_of_getElem? (i := 2) rfl) (F := cINIT) (fun _ _ => rfl) g8 dX8_reset_55 ?_
      refine z_iastore hC (aX_17 (kf_8_4 qx0)) (loX' (kf_8_4 qx0) (by decide)) g8 dX8_reset_56 ?_
      obtain ⟨σ9, eσ9⟩ : ∃ z : zSt, z = zu σ (x0 + 1) x1 (cINIT x1) := ⟨_, rfl⟩
      rw [← eσ9]
      replace hf := hf σ9 eσ9
      refine z_iinc hC ([(1, vI (x1 + 1)), (0, vR ad x0)]) dX8_reset_57 1 rfl (by decide) rfl ?_
      refine z_goto (tgt := 40) hC dX8_reset_60 (by decide) ?_
      refine z_sub (lv' := [(0, vR ad x0), (1, vI (x1 + 1))]) [1, 0] rfl ?_
      exact ih _ _ _ qx0 hf
set_option maxHeartbeats 4000000 in
set_option maxRecDepth 100000 in
theorem mX8_reset {D : va_G} {dA : Nat → ClassId} {ad : Nat → Nat} {aL aG aI : Nat} {aK aV : Nat → Nat} (l : Launch) (hinj : ∀ i j, i < NX → j < NX → ad i = ad j → i = j) (sz : Nat) {K : zSt → Prop} {σ : zSt} {x0 : Int} (hf : fX8_reset K σ x0) : Met l yX8_reset (Cond.code yX8_reset cX8_reset 2 none :: UW) ({ frames := 0, cells := 0, slots := 0, locals := 0 } : Room) (va_Pc [vR ad x0] (zPre D vwCl (tyA dA) (zXX aL aG aI aK aV) NX ad (celX ad dA) sz σ)) (va_Qv K (zB D vwCl (tyA dA) NX ad (celX ad dA)) (zA ad NX sz)) 0 0 (zA ad NX sz) := by
  refine z_enter (cc := cX8_reset) (maxL := 2) (ret := none) (vs := [vR ad x0]) (plainFor_of_name (by decide)) rfl hinj (Nat.le_of_ble_eq_true rfl) ?_
  intro p e s m args below meth c hC hE hsz hr hnm
  obtain ⟨qx0, hf⟩ := hf
  show zAt p l e ({ frames := 0, cells := 0, slots := 0, locals := 0 } : Room) s m args below meth c 0 0 (MQ below (va_Qv K (zB D vwCl (tyA dA) NX ad (celX ad dA)) (zA ad NX sz)) args s 0 0 (zA ad NX sz)) 2 D vwCl (zA ad NX sz) NX ad (celX ad dA) 0 [(0, vR ad x0)] [] σ
  refine z_aload_n hC dX8_reset_0 0 rfl rfl ?_
  refine z_bipush hC dX8_reset_1 (by decide) ?_
  refine z_put hC (ty := .int) tyX8 tyX8_ok nmX8 (fun w h => uT _ w (uL8 w h)) (oX_8 qx0) (loX' qx0 (by decide)) 0 (by decide) (uT _ _ u213) rfl rfl (0) (12) (by simp [zu]) (by decide +kernel) rfl rfl (Nat.le_of_ble_eq_true rfl) dX8_reset_3 ?_
  obtain ⟨σ1, eσ1⟩ : ∃ z : zSt, z = zu σ x0 0 12 := ⟨_, rfl⟩
  rw [← eσ1]
  replace hf := hf σ1 eσ1
  refine z_aload_n hC dX8_reset_6 0 rfl rfl ?_
  refine z_bipush hC dX8_reset_7 (by decide) ?_
  refine z_put hC (ty := .int) tyX8 tyX8_ok nmX8 (fun w h => uT _ w (uL8 w h)) (oX_8 qx0) (loX' qx0 (by decide)) 1 (by decide) (uT _ _ u216) rfl rfl (1) (8) (by simp [zu]) (by decide +kernel) rfl rfl (Nat.le_of_ble_eq_true rfl) dX8_reset_9 ?_
  obtain ⟨σ2, eσ2⟩ : ∃ z : zSt, z = zu σ1 x0 1 8 := ⟨_, rfl⟩
  rw [← eσ2]
  replace hf := hf σ2 eσ2
  refine z_aload_n hC dX8_reset_12 0 rfl rfl ?_
  refine z_iconst hC dX8_reset_13 ?_
  refine z_put hC (ty := .int) tyX8 tyX8_ok nmX8 (fun w h => uT _ w (uL8 w h)) (oX_8 qx0) (loX' qx0 (by decide)) 2 (by decide) (uT _ _ u219) rfl rfl (2) (0) (by simp [zu]) (by decide +kernel) rfl rfl (Nat.le_of_ble_eq_true rfl) dX8_reset_14 ?_
  obtain ⟨σ3, eσ3⟩ : ∃ z : zSt, z = zu σ2 x0 2 0 := ⟨_, rfl⟩
  rw [← eσ3]
  replace hf := hf σ3 eσ3
  refine z_aload_n hC dX8_reset_17 0 rfl rfl ?_
  refine z_iconst hC dX8_reset_18 ?_
  refine z_put hC (ty := .int) tyX8 tyX8_ok nmX8 (fun w h => uT _ w (uL8 w h)) (oX_8 qx0) (loX' qx0 (by decide)) 3 (by decide) (uT _ _ u223) rfl rfl (3) (0) (by simp [zu]) (by decide +kernel) rfl rfl (Nat.le_of_ble_eq_true rfl) dX8_reset_19 ?_
  obtain ⟨σ4, eσ4⟩ : ∃ z : zSt, z = zu σ3 x0 3 0 := ⟨_, rfl⟩
  rw [← eσ4]
  replace hf := hf σ4 eσ4
  refine z_aload_n hC dX8_reset_22 0 rfl rfl ?_
  refine z_get hC (fun w h => uT _ w (uL8 w h)) (oX_8 qx0) 7 (by decide) (uT _ _ u237) rfl rfl dX8_reset_23 ?_
  refine z_iconst hC dX8_reset_26 ?_
  refine z_put hC (ty := .int) tyX7 tyX7_ok nmX7 (fun w h => uT _ w (uL7 w h)) (oX_7 (kf_8_7 qx0)) (loX' (kf_8_7 qx0) (by decide)) 3 (by decide) (uT _ _ u165) rfl rfl (3) (0) (by simp [zu]) (by decide +kernel) rfl rfl (Nat.le_of_ble_eq_true rfl) dX8_reset_27 ?_
  obtain ⟨σ5, eσ5⟩ : ∃ z : zSt, z = zu σ4 (x0 + 4) 3 0 := ⟨_, rfl⟩
  rw [← eσ5]
  replace hf := hf σ5 eσ5
  refine z_aload_n hC dX8_reset_30 0 rfl rfl ?_
  refine z_get hC (fun w h => uT _ w (uL8 w h)) (oX_8 qx0) 8 (by decide) (uT _ _ u240) rfl rfl dX8_reset_31 ?_
  refine z_iconst hC dX8_reset_34 ?_
  refine z_put hC (ty := .int) tyX7 tyX7_ok nmX7 (fun w h => uT _ w (uL7 w h)) (oX_7 (kf_8_8 qx0)) (loX' (kf_8_8 qx0) (by decide)) 3 (by decide) (uT _ _ u165) rfl rfl (3) (0) (by simp [zu]) (by decide +kernel) rfl rfl (Nat.le_of_ble_eq_true rfl) dX8_reset_35 ?_
  obtain ⟨σ6, eσ6⟩ : ∃ z : zSt, z = zu σ5 (x0 + 7) 3 0 := ⟨_, rfl⟩
  rw [← eσ6]
  replace hf := hf σ6 eσ6
  refine z_iconst hC dX8_reset_38 ?_
  refine z_istore_n hC ([(1, vI 0), (0, vR ad x0)]) dX8_reset_39 rfl (by decide) rfl ?_
  refine z_sub (lv' := [(0, vR ad x0), (1, vI 0)]) [1, 0] rfl ?_
  obtain ⟨n, hf⟩ := hf
  exact wX8_reset_B40 hC hE hr hinj n _ _ _ qx0 hf

-- ===== X8_brightnessAt
def fX8_brightnessAt (K : Int → zSt → Prop) (σ : zSt) (x0 : Int) (x1 : Int) (x2 : Int) (x3 : Int) : Prop :=
  kX x0 = 8 ∧ fX8_hasFrame (fun r1 σ1 => zrg r1 ∧ ((r1 = 0 → K (-1) σ1) ∧ (¬ r1 = 0 → fX8_hasPixel (fun r3 σ3 => zrg r3 ∧ ((r3 = 0 → K (-1) σ3) ∧ (¬ r3 = 0 → (0 ≤ x1 ∧ x1 < 6) ∧ kX (σ3 (x0 + 2) x1) = 1 ∧ (0 ≤ (12 * x3) + x2 ∧ (12 * x3) + x2 < 120) ∧ K (σ3 ((σ3 (x0 + 2) x1) + 6) ((12 * x3) + x2)) σ3))) σ1 x0 x2 x3))) σ x0 x1
set_option maxHeartbeats 4000000 in
set_option maxRecDepth 100000 in
theorem mX8_brightnessAt {D : va_G} {dA : Nat → ClassId} {ad : Nat → Nat} {aL aG aI : Nat} {aK aV : Nat → Nat} (l : Launch) (hinj : ∀ i j, i < NX → j < NX → ad i = ad j → i = j) (sz : Nat) {K : Int → zSt → Prop} {σ : zSt} {x0 : Int} {x1 : Int} {x2 : Int} {x3 : Int} (hf : fX8_brightnessAt K σ x0 x1 x2 x3) : Met l yX8_brightnessAt (Cond.code yX8_brightnessAt cX8_brightnessAt 4 (some .int) :: UW) ({ frames := 1, cells := 0, slots := 0, locals := 22 } : Room) (va_Pc [vR ad x0, vI x1, vI x2, vI x3] (zPre D vwCl (tyA dA) (zXX aL aG aI aK aV) NX ad (celX ad dA) sz σ)) (va_Qi (zPi K) (zB D vwCl (tyA dA) NX ad (celX ad dA)) (zA ad NX sz)) 0 0 (zA ad NX sz) := by
  refine z_enter (cc := cX8_brightnessAt) (maxL := 4) (ret := (some .int)) (vs := [vR ad x0, vI x1, vI x2, vI x3]) (plainFor_of_name (by decide)) rfl hinj (Nat.le_of_ble_eq_true rfl) ?_
  intro p e s m args below meth c hC hE hsz hr hnm
  obtain ⟨qx0, hf⟩ := hf
  show zAt p l e ({ frames := 1, cells := 0, slots := 0, locals := 22 } : Room) s m args below meth c 0 0 (MQ below (va_Qi (zPi K) (zB D vwCl (tyA dA) NX ad (celX ad dA)) (zA ad NX sz)) args s 0 0 (zA ad NX sz)) 4 D vwCl (zA ad NX sz) NX ad (celX ad dA) 0 [(0, vR ad x0), (1, vI x1), (2, vI x2), (3, vI x3)] [] σ
  refine z_aload_n hC dX8_brightnessAt_0 0 rfl rfl ?_
  refine z_iload_n hC dX8_brightnessAt_1 1 rfl rfl ?_
  refine z_callVi hC hE (oX_8 qx0) [vI x1] (fun sz2 => mX8_hasFrame l hinj sz2 hf) (cwV 1 hC.1.2.2.2.2 (uV (uT _) u620 u621 u622 u106 u623) rfl rfl rfl (by decide +kernel) ⟨Nat.le_of_ble_eq_true rfl, Nat.le_of_ble_eq_true rfl⟩) rfl rfl (Nat.le_of_ble_eq_true rfl) ⟨Nat.le_of_ble_eq_true rfl, Nat.le_of_ble_eq_true rfl⟩ dX8_brightnessAt_2 (fun r1 σ1 hf => ?_)
  obtain ⟨g2, hf⟩ := hf
  refine z_if_eq (tgt := 36) hC dX8_brightnessAt_5 (by decide) g2 (fun hc => ?_) (fun hc => ?_)
  · replace hf := hf.1 hc
    refine z_iconst hC dX8_brightnessAt_36 ?_
    exact z_iret hC hr rfl dX8_brightnessAt_37 hf
  · replace hf := hf.2 hc
    refine z_aload_n hC dX8_brightnessAt_8 0 rfl rfl ?_
    refine z_iload_n hC dX8_brightnessAt_9 2 rfl rfl ?_
    refine z_iload_n hC dX8_brightnessAt_10 3 rfl rfl ?_
    refine z_callVi hC hE (oX_8 qx0) [vI x2, vI x3] (fun sz2 => mX8_hasPixel l hinj sz2 hf) (cwV 2 hC.1.2.2.2.2 (uV (uT _) u641 u642 u643 u106 u644) rfl rfl rfl (by decide +kernel) ⟨Nat.le_of_ble_eq_true rfl, Nat.le_of_ble_eq_true rfl⟩) rfl rfl (Nat.le_of_ble_eq_true rfl) ⟨Nat.le_of_ble_eq_true rfl, Nat.le_of_ble_eq_true rfl⟩ dX8_brightnessAt_11 (fun r3 σ3 hf => ?_)
    obtain ⟨g4, hf⟩ := hf
    refine z_if_eq (tgt := 36) hC dX8_brightnessAt_14 (by decide) g4 (fun hc => ?_) (fun hc => ?_)
    · replace hf := hf.1 hc
      refine z_iconst hC dX8_brightnessAt_36 ?_
      exact z_iret hC hr rfl dX8_brightnessAt_37 hf
    · replace hf := hf.2 hc
      refine z_aload_n hC dX8_brightnessAt_17 0 rfl rfl ?_
      refine z_get hC (fun w h => uT _ w (uL8 w h)) (oX_8 qx0) 5 (by decide) (uT _ _ u232) rfl rfl dX8_brightnessAt_18 ?_
      refine z_iload_n hC dX8_brightnessAt_21 1 rfl rfl ?_
      obtain ⟨g5, hf⟩ := hf
      refine z_aaload hC (aX_21 (kf_8_5 qx0)) g5 dX8_brightnessAt_22 ?_
      obtain ⟨g6, hf⟩ := hf
      refine z_get hC (fun w h => uT _ w (uL1 w h)) (oX_1 g6) 1 (by decide) (uT _ _ u185) rfl rfl dX8_brightnessAt_23 ?_
      refine z_bipush hC dX8_brightnessAt_26 (by decide) ?_
      refine z_iload_n hC dX8_brightnessAt_28 3 rfl rfl ?_
      refine z_imul hC dX8_brightnessAt_29 ?_
      refine z_iload_n hC dX8_brightnessAt_30 2 rfl rfl ?_
      refine z_iadd hC dX8_brightnessAt_31 ?_
      obtain ⟨g7, hf⟩ := hf
      refine z_iaload hC (aX_18 (kf_1_1 g6)) g7 dX8_brightnessAt_32 ?_
      refine z_goto (tgt := 37) hC dX8_brightnessAt_33 (by decide) ?_
      exact z_iret hC hr rfl dX8_brightnessAt_37 hf

-- ===== X8_takeOut
noncomputable def fX8_takeOut_B18 (K : zSt → Prop) (n : Nat) : zSt → Int → Int → Int → Prop :=
  Nat.rec (motive := fun _ => zSt → Int → Int → Int → Prop) (fun _ _ _ _ => False) (fun _ ih σ x0 x2 x3 => zrg (x3 + 1) ∧ zrg (σ x0 2) ∧ ((σ x0 2 ≤ x3 + 1 → ∀ σ7, σ7 = zu σ x0 2 ((σ x0 2) - 1) → (0 ≤ σ7 x0 2 ∧ σ7 x0 2 < 6) ∧ ∀ σ9, σ9 = zu σ7 (x0 + 2) (σ7 x0 2) x2 → K σ9) ∧ (¬ σ x0 2 ≤ x3 + 1 → (0 ≤ x3 + 1 ∧ x3 + 1 < 6) ∧ kX (σ (x0 + 2) (x3 + 1)) = 1 ∧ (0 ≤ x3 ∧ x3 < 6) ∧ ∀ σ13, σ13 = zu σ (x0 + 2) x3 (σ (x0 + 2) (x3 + 1)) → ih σ13 x0 x2 (x3 + 1)))) n
theorem uX8_takeOut_B18 (K : zSt → Prop) (n0 : Nat) (σ : zSt) (x0 : Int) (x2 : Int) (x3 : Int) : fX8_takeOut_B18 K (n0 + 1) σ x0 x2 x3 = (zrg (x3 + 1) ∧ zrg (σ x0 2) ∧ ((σ x0 2 ≤ x3 + 1 → ∀ σ7, σ7 = zu σ x0 2 ((σ x0 2) - 1) → (0 ≤ σ7 x0 2 ∧ σ7 x0 2 < 6) ∧ ∀ σ9, σ9 = zu σ7 (x0 + 2) (σ7 x0 2) x2 → K σ9) ∧ (¬ σ x0 2 ≤ x3 + 1 → (0 ≤ x3 + 1 ∧ x3 + 1 < 6) ∧ kX (σ (x0 + 2) (x3 + 1)) = 1 ∧ (0 ≤ x3 ∧ x3 < 6) ∧ ∀ σ13, σ13 = zu σ (x0 + 2) x3 (σ (x0 + 2) (x3 + 1)) → (fX8_takeOut_B18 K n0) σ13 x0 x2 (x3 + 1)))) := rfl
def fX8_takeOut (K : zSt → Prop) (σ : zSt) (x0 : Int) (x1 : Int) : Prop :=
  kX x0 = 8 ∧ fX8_hasFrame (fun r1 σ1 => zrg r1 ∧ ((r1 = 0 → K σ1) ∧ (¬ r1 = 0 → (0 ≤ x1 ∧ x1 < 6) ∧ kX (σ1 (x0 + 2) x1) = 1 ∧ (∃ n, fX8_takeOut_B18 K n σ1 x0 (σ1 (x0 + 2) x1) x1)))) σ x0 x1
set_option maxHeartbeats 4000000 in
set_option maxRecDepth 100000 in
theorem wX8_takeOut_B18 {p : Program} {l : Launch} {e : Env} {s : State} {m : MethodId} {args : Array Value} {below : List Frame} {meth : Method} {c : Code} {D : va_G} {dA : Nat → ClassId} {ad : Nat → Nat} {sz : Nat} {aL aG aI : Nat} {aK aV : Nat → Nat} {K : zSt → Prop} (hC : zC p m c cX8_takeOut 4 s args (Cond.code yX8_takeOut cX8_takeOut 4 none :: UW) RX8 meth D vwCl (tyA dA) (zA ad NX sz) NX ad (celX ad dA)) (hE : zE (zXX aL aG aI aK aV) (zA ad NX sz) s s.heap) (hr : meth.sig.returnType = none) (hinj : ∀ i j, i < NX → j < NX → ad i = ad j → i = j) : ∀ (n : Nat) (σ : zSt) (x0 : Int) (x2 : Int) (x3 : Int) (qx0 : kX x0 = 8) (qx2 : kX x2 = 1), fX8_takeOut_B18 K n σ x0 x2 x3 → zAt p l e ({ frames := 1, cells := 0, slots := 0, locals := 21 } : Room) s m args below meth c 0 0 (MQ below (va_Qv K (zB D vwCl (tyA dA) NX ad (celX ad dA)) (zA ad NX sz)) args s 0 0 (zA ad NX sz)) 4 D vwCl (zA ad NX sz) NX ad (celX ad dA) 18 [(0, vR ad x0), (2, vR ad x2), (3, vI x3)] [] σ := by
  intro n
  induction n with
  | zero => intro σ x0 x2 x3 qx0 qx2 hf; exact False.elim hf
  | succ n ih =>
    intro σ x0 x2 x3 qx0 qx2 hf
    rw [uX8_takeOut_B18] at hf
    refine z_iload_n hC dX8_takeOut_18 2 rfl rfl ?_
    refine z_iconst hC dX8_takeOut_19 ?_
    refine z_iadd hC dX8_takeOut_20 ?_
    refine z_aload_n hC dX8_takeOut_21 0 rfl rfl ?_
    refine z_get hC (fun w h => uT _ w (uL8 w h)) (oX_8 qx0) 2 (by decide) (uT _ _ u219) rfl rfl dX8_takeOut_22 ?_
    obtain ⟨g5, hf⟩ := hf
    obtain ⟨g6, hf⟩ := hf
    refine z_icmp_ge (tgt := 48) hC dX8_takeOut_25 (by decide) g5 g6 (fun hc => ?_) (fun hc => ?_)
    · replace hf := hf.1 hc
      refine z_aload_n hC dX8_takeOut_48 0 rfl rfl ?_
      refine z_dup hC dX8_takeOut_49 rfl ?_
      refine z_get hC (fun w h => uT _ w (uL8 w h)) (oX_8 qx0) 2 (by decide) (uT _ _ u219) rfl rfl dX8_takeOut_50 ?_
      refine z_iconst hC dX8_takeOut_53 ?_
      refine z_isub hC dX8_takeOut_54 ?_
      refine z_put hC (ty := .int) tyX8 tyX8_ok nmX8 (fun w h => uT _ w (uL8 w h)) (oX_8 qx0) (loX' qx0 (by decide)) 2 (by decide) (uT _ _ u219) rfl rfl (2) ((σ x0 2) - 1) (by simp [zu]) (by decide +kernel) rfl rfl (Nat.le_of_ble_eq_true rfl) dX8_takeOut_55 ?_
      obtain ⟨σ7, eσ7⟩ : ∃ z : zSt, z = zu σ x0 2 ((σ x0 2) - 1) := ⟨_, rfl⟩
      rw [← eσ7]
      replace hf := hf σ7 eσ7
      refine z_aload_n hC dX8_takeOut_58 0 rfl rfl ?_
      refine z_get hC (fun w h => uT _ w (uL8 w h)) (oX_8 qx0) 5 (by decide) (uT _ _ u232) rfl rfl dX8_takeOut_59 ?_
      refine z_aload_n hC dX8_takeOut_62 0 rfl rfl ?_
      refine z_get hC (fun w h => uT _ w (uL8 w h)) (oX_8 qx0) 2 (by decide) (uT _ _ u219) rfl rfl dX8_takeOut_63 ?_
      refine z_aload_n hC dX8_takeOut_66 1 rfl rfl ?_
      obtain ⟨g8, hf⟩ := hf
      refine z_aastore hC (aX_21 (kf_8_5 qx0)) (loX' (kf_8_5 qx0) (by decide)) (oX_1 qx2) g8 dX8_takeOut_67 ?_
      obtain ⟨σ9, eσ9⟩ : ∃ z : zSt, z = zu σ7 (x0 + 2) (σ7 x0 2) x2 := ⟨_, rfl⟩
      rw [← eσ9]
      replace hf := hf σ9 eσ9
      exact z_vret hC hr rfl dX8_takeOut_68 hf
    · replace hf := hf.2 hc
      refine z_aload_n hC dX8_takeOut_28 0 rfl rfl ?_
      refine z_get hC (fun w h => uT _ w (uL8 w h)) (oX_8 qx0) 5 (by decide) (uT _ _ u232) rfl rfl dX8_takeOut_29 ?_
      refine z_iload_n hC dX8_takeOut_32 2 rfl rfl ?_
      refine z_aload_n hC dX8_takeOut_33 0 rfl rfl ?_
      refine z_get hC (fun w h => uT _ w (uL8 w h)) (oX_8 qx0) 5 (by decide) (uT _ _ u232) rfl rfl dX8_takeOut_34 ?_
      refine z_iload_n hC dX8_takeOut_37 2 rfl rfl ?_
      refine z_iconst hC dX8_takeOut_38 ?_
      refine z_iadd hC dX8_takeOut_39 ?_
      obtain ⟨g10, hf⟩ := hf
      refine z_aaload hC (aX_21 (kf_8_5 qx0)) g10 dX8_takeOut_40 ?_
      obtain ⟨g11, hf⟩ := hf
      obtain ⟨g12, hf⟩ := hf
      refine z_aastore hC (aX_21 (kf_8_5 qx0)) (loX' (kf_8_5 qx0) (by decide)) (oX_1 g11) g12 dX8_takeOut_41 ?_
      obtain ⟨σ13, eσ13⟩ : ∃ z : zSt, z = zu σ (x0 + 2) x3 (σ (x0 + 2) (x3 + 1)) := ⟨_, rfl⟩
      rw [← eσ13]
      replace hf := hf σ13 eσ13
      refine z_iinc hC ([(3, vI (x3 + 1)), (0, vR ad x0), (2, vR ad x2)]) dX8_takeOut_42 2 rfl (by decide) rfl ?_
      refine z_goto (tgt := 18) hC dX8_takeOut_45 (by decide) ?_
      refine z_sub (lv' := [(0, vR ad x0), (2, vR ad x2), (3, vI (x3 + 1))]) [1, 2, 0] rfl ?_
      exact ih _ _ _ _ qx0 qx2 hf
set_option maxHeartbeats 4000000 in
set_option maxRecDepth 100000 in
theorem mX8_takeOut {D : va_G} {dA : Nat → ClassId} {ad : Nat → Nat} {aL aG aI : Nat} {aK aV : Nat → Nat} (l : Launch) (hinj : ∀ i j, i < NX → j < NX → ad i = ad j → i = j) (sz : Nat) {K : zSt → Prop} {σ : zSt} {x0 : Int} {x1 : Int} (hf : fX8_takeOut K σ x0 x1) : Met l yX8_takeOut (Cond.code yX8_takeOut cX8_takeOut 4 none :: UW) ({ frames := 1, cells := 0, slots := 0, locals := 21 } : Room) (va_Pc [vR ad x0, vI x1] (zPre D vwCl (tyA dA) (zXX aL aG aI aK aV) NX ad (celX ad dA) sz σ)) (va_Qv K (zB D vwCl (tyA dA) NX ad (celX ad dA)) (zA ad NX sz)) 0 0 (zA ad NX sz) := by
  refine z_enter (cc := cX8_takeOut) (maxL := 4) (ret := none) (vs := [vR ad x0, vI x1]) (plainFor_of_name (by decide)) rfl hinj (Nat.le_of_ble_eq_true rfl) ?_
  intro p e s m args below meth c hC hE hsz hr hnm
  obtain ⟨qx0, hf⟩ := hf
  show zAt p l e ({ frames := 1, cells := 0, slots := 0, locals := 21 } : Room) s m args below meth c 0 0 (MQ below (va_Qv K (zB D vwCl (tyA dA) NX ad (celX ad dA)) (zA ad NX sz)) args s 0 0 (zA ad NX sz)) 4 D vwCl (zA ad NX sz) NX ad (celX ad dA) 0 [(0, vR ad x0), (1, vI x1)] [] σ
  refine z_aload_n hC dX8_takeOut_0 0 rfl rfl ?_
  refine z_iload_n hC dX8_takeOut_1 1 rfl rfl ?_
  refine z_callVi hC hE (oX_8 qx0) [vI x1] (fun sz2 => mX8_hasFrame l hinj sz2 hf) (cwV 1 hC.1.2.2.2.2 (uV (uT _) u620 u621 u622 u106 u623) rfl rfl rfl (by decide +kernel) ⟨Nat.le_of_ble_eq_true rfl, Nat.le_of_ble_eq_true rfl⟩) rfl rfl (Nat.le_of_ble_eq_true rfl) ⟨Nat.le_of_ble_eq_true rfl, Nat.le_of_ble_eq_true rfl⟩ dX8_takeOut_2 (fun r1 σ1 hf => ?_)
  obtain ⟨g2, hf⟩ := hf
  refine z_if_ne (tgt := 9) hC dX8_takeOut_5 (by decide) g2 (fun hc => ?_) (fun hc => ?_)
  · replace hf := hf.2 hc
    refine z_aload_n hC dX8_takeOut_9 0 rfl rfl ?_
    refine z_get hC (fun w h => uT _ w (uL8 w h)) (oX_8 qx0) 5 (by decide) (uT _ _ u232) rfl rfl dX8_takeOut_10 ?_
    refine z_iload_n hC dX8_takeOut_13 1 rfl rfl ?_
    obtain ⟨g3, hf⟩ := hf
    refine z_aaload hC (aX_21 (kf_8_5 qx0)) g3 dX8_takeOut_14 ?_
    obtain ⟨g4, hf⟩ := hf
    refine z_astore_n hC ([(2, vR ad (σ1 (x0 + 2) x1)), (0, vR ad x0), (1, vI x1)]) dX8_takeOut_15 rfl (by decide) rfl ?_
    refine z_iload_n hC dX8_takeOut_16 2 rfl rfl ?_
    refine z_istore_n hC ([(3, vI x1), (2, vR ad (σ1 (x0 + 2) x1)), (0, vR ad x0), (1, vI x1)]) dX8_takeOut_17 rfl (by decide) rfl ?_
    refine z_sub (lv' := [(0, vR ad x0), (2, vR ad (σ1 (x0 + 2) x1)), (3, vI x1)]) [2, 1, 0] rfl ?_
    obtain ⟨n, hf⟩ := hf
    exact wX8_takeOut_B18 hC hE hr hinj n _ _ _ _ qx0 g4 hf
  · replace hf := hf.1 hc
    exact z_vret hC hr rfl dX8_takeOut_8 hf

-- ===== X8_contrastOf
noncomputable def fX8_contrastOf_B48 (K : Int → zSt → Prop) (k29 : zSt → Int → Int → Int → Int → Int → Prop) (n : Nat) : zSt → Int → Int → Int → Int → Int → Int → Prop :=
  Nat.rec (motive := fun _ => zSt → Int → Int → Int → Int → Int → Int → Prop) (fun _ _ _ _ _ _ _ => False) (fun _ ih σ x0 x2 x3 x4 x5 x6 => zrg x6 ∧ zrg (σ x0 0) ∧ ((σ x0 0 ≤ x6 → k29 σ x0 x2 x3 x4 (x5 + 1)) ∧ (¬ σ x0 0 ≤ x6 → ((12 ≤ x6 → k29 σ x0 x2 x3 x4 (x5 + 1)) ∧ (¬ 12 ≤ x6 → (0 ≤ (12 * x5) + x6 ∧ (12 * x5) + x6 < 120) ∧ zrg x3 ∧ zrg (σ x2 ((12 * x5) + x6)) ∧ zrg x4 ∧ ih σ x0 x2 (min x3 (σ x2 ((12 * x5) + x6))) (max x4 (σ x2 ((12 * x5) + x6))) x5 (x6 + 1)))))) n
theorem uX8_contrastOf_B48 (K : Int → zSt → Prop) (k29 : zSt → Int → Int → Int → Int → Int → Prop) (n0 : Nat) (σ : zSt) (x0 : Int) (x2 : Int) (x3 : Int) (x4 : Int) (x5 : Int) (x6 : Int) : fX8_contrastOf_B48 K k29 (n0 + 1) σ x0 x2 x3 x4 x5 x6 = (zrg x6 ∧ zrg (σ x0 0) ∧ ((σ x0 0 ≤ x6 → k29 σ x0 x2 x3 x4 (x5 + 1)) ∧ (¬ σ x0 0 ≤ x6 → ((12 ≤ x6 → k29 σ x0 x2 x3 x4 (x5 + 1)) ∧ (¬ 12 ≤ x6 → (0 ≤ (12 * x5) + x6 ∧ (12 * x5) + x6 < 120) ∧ zrg x3 ∧ zrg (σ x2 ((12 * x5) + x6)) ∧ zrg x4 ∧ (fX8_contrastOf_B48 K k29 n0) σ x0 x2 (min x3 (σ x2 ((12 * x5) + x6))) (max x4 (σ x2 ((12 * x5) + x6))) x5 (x6 + 1)))))) := rfl
noncomputable def fX8_contrastOf_B29 (K : Int → zSt → Prop) (n : Nat) : zSt → Int → Int → Int → Int → Int → Prop :=
  Nat.rec (motive := fun _ => zSt → Int → Int → Int → Int → Int → Prop) (fun _ _ _ _ _ _ => False) (fun _ ih σ x0 x2 x3 x4 x5 => zrg x5 ∧ zrg (σ x0 1) ∧ ((σ x0 1 ≤ x5 → K (x4 - x3) σ) ∧ (¬ σ x0 1 ≤ x5 → ((10 ≤ x5 → K (x4 - x3) σ) ∧ (¬ 10 ≤ x5 → (∃ n, fX8_contrastOf_B48 K ih n σ x0 x2 x3 x4 x5 0)))))) n
theorem uX8_contrastOf_B29 (K : Int → zSt → Prop) (n0 : Nat) (σ : zSt) (x0 : Int) (x2 : Int) (x3 : Int) (x4 : Int) (x5 : Int) : fX8_contrastOf_B29 K (n0 + 1) σ x0 x2 x3 x4 x5 = (zrg x5 ∧ zrg (σ x0 1) ∧ ((σ x0 1 ≤ x5 → K (x4 - x3) σ) ∧ (¬ σ x0 1 ≤ x5 → ((10 ≤ x5 → K (x4 - x3) σ) ∧ (¬ 10 ≤ x5 → (∃ n, fX8_contrastOf_B48 K (fX8_contrastOf_B29 K n0) n σ x0 x2 x3 x4 x5 0)))))) := rfl
def fX8_contrastOf (K : Int → zSt → Prop) (σ : zSt) (x0 : Int) (x1 : Int) : Prop :=
  kX x0 = 8 ∧ fX8_hasFrame (fun r1 σ1 => zrg r1 ∧ ((r1 = 0 → K 0 σ1) ∧ (¬ r1 = 0 → (0 ≤ x1 ∧ x1 < 6) ∧ kX (σ1 (x0 + 2) x1) = 1 ∧ (∃ n, fX8_contrastOf_B29 K n σ1 x0 ((σ1 (x0 + 2) x1) + 6) 9 0 0)))) σ x0 x1
set_option maxHeartbeats 4000000 in
set_option maxRecDepth 100000 in
theorem wX8_contrastOf_B48 {p : Program} {l : Launch} {e : Env} {s : State} {m : MethodId} {args : Array Value} {below : List Frame} {meth : Method} {c : Code} {D : va_G} {dA : Nat → ClassId} {ad : Nat → Nat} {sz : Nat} {aL aG aI : Nat} {aK aV : Nat → Nat} {K : Int → zSt → Prop} {k29 : zSt → Int → Int → Int → Int → Int → Prop} (hC : zC p m c cX8_contrastOf 7 s args (Cond.code yX8_contrastOf cX8_contrastOf 7 (some .int) :: UW) RX8 meth D vwCl (tyA dA) (zA ad NX sz) NX ad (celX ad dA)) (hE : zE (zXX aL aG aI aK aV) (zA ad NX sz) s s.heap) (hr : meth.sig.returnType = (some .int)) (hinj : ∀ i j, i < NX → j < NX → ad i = ad j → i = j) (hk29 : ∀ (σ : zSt) (x0 : Int) (x2 : Int) (x3 : Int) (x4 : Int) (x5 : Int) (_ : kX x0 = 8) (_ : kX x2 = 18), k29 σ x0 x2 x3 x4 x5 → zAt p l e ({ frames := 1, cells := 0, slots := 0, locals := 21 } : Room) s m args below meth c 0 0 (MQ below (va_Qi (zPi K) (zB D vwCl (tyA dA) NX ad (celX ad dA)) (zA ad NX sz)) args s 0 0 (zA ad NX sz)) 7 D vwCl (zA ad NX sz) NX ad (celX ad dA) 29 [(0, vR ad x0), (2, vR ad x2), (3, vI x3), (4, vI x4), (5, vI x5)] [] σ) : ∀ (n : Nat) (σ : zSt) (x0 : Int) (x2 : Int) (x3 : Int) (x4 : Int) (x5 : Int) (x6 : Int) (qx0 : kX x0 = 8) (qx2 : kX x2 = 18), fX8_contrastOf_B48 K k29 n σ x0 x2 x3 x4 x5 x6 → zAt p l e ({ frames := 1, cells := 0, slots := 0, locals := 21 } : Room) s m args below meth c 0 0 (MQ below (va_Qi (zPi K) (zB D vwCl (tyA dA) NX ad (celX ad dA)) (zA ad NX sz)) args s 0 0 (zA ad NX sz)) 7 D vwCl (zA ad NX sz) NX ad (celX ad dA) 48 [(0, vR ad x0), (2, vR ad x2), (3, vI x3), (4, vI x4), (5, vI x5), (6, vI x6)] [] σ := by
  intro n
  induction n with
  | zero => intro σ x0 x2 x3 x4 x5 x6 qx0 qx2 hf; exact False.elim hf
  | succ n ih =>
    intro σ x0 x2 x3 x4 x5 x6 qx0 qx2 hf
    rw [uX8_contrastOf_B48] at hf
    refine z_iload hC dX8_contrastOf_48 5 rfl ?_
    refine z_aload_n hC dX8_contrastOf_50 0 rfl rfl ?_
    refine z_get hC (fun w h => uT _ w (uL8 w h)) (oX_8 qx0) 0 (by decide) (uT _ _ u213) rfl rfl dX8_contrastOf_51 ?_
    obtain ⟨g7, hf⟩ := hf
    obtain ⟨g8, hf⟩ := hf
    refine z_icmp_ge (tgt := 102) hC dX8_contrastOf_54 (by decide) g7 g8 (fun hc => ?_) (fun hc => ?_)
    · replace hf := hf.1 hc
      refine z_iinc hC ([(5, vI (x5 + 1)), (0, vR ad x0), (2, vR ad x2), (3, vI x3), (4, vI x4), (6, vI x6)]) dX8_contrastOf_102 4 rfl (by decide) rfl ?_
      refine z_goto (tgt := 29) hC dX8_contrastOf_105 (by decide) ?_
      refine z_sub (lv' := [(0, vR ad x0), (2, vR ad x2), (3, vI x3), (4, vI x4), (5, vI (x5 + 1))]) [1, 2, 3, 4, 0] rfl ?_
      exact hk29 _ _ _ _ _ _ qx0 qx2 hf
    · replace hf := hf.2 hc
      refine z_iload hC dX8_contrastOf_57 5 rfl ?_
      refine z_bipush hC dX8_contrastOf_59 (by decide) ?_
      refine z_icmp_ge (tgt := 102) hC dX8_contrastOf_61 (by decide) g7 (zlit rfl rfl) (fun hc => ?_) (fun hc => ?_)
      · replace hf := hf.1 hc
        refine z_iinc hC ([(5, vI (x5 + 1)), (0, vR ad x0), (2, vR ad x2), (3, vI x3), (4, vI x4), (6, vI x6)]) dX8_contrastOf_102 4 rfl (by decide) rfl ?_
        refine z_goto (tgt := 29) hC dX8_contrastOf_105 (by decide) ?_
        refine z_sub (lv' := [(0, vR ad x0), (2, vR ad x2), (3, vI x3), (4, vI x4), (5, vI (x5 + 1))]) [1, 2, 3, 4, 0] rfl ?_
        exact hk29 _ _ _ _ _ _ qx0 qx2 hf
      · replace hf := hf.2 hc
        refine z_iload_n hC dX8_contrastOf_64 2 rfl rfl ?_
        refine z_aload_n hC dX8_contrastOf_65 1 rfl rfl ?_
        refine z_bipush hC dX8_contrastOf_66 (by decide) ?_
        refine z_iload hC dX8_contrastOf_68 4 rfl ?_
        refine z_imul hC dX8_contrastOf_70 ?_
        refine z_iload hC dX8_contrastOf_71 5 rfl ?_
        refine z_iadd hC dX8_contrastOf_73 ?_
        obtain ⟨g9, hf⟩ := hf
        refine z_iaload hC (aX_18 qx2) g9 dX8_contrastOf_74 ?_
        obtain ⟨g10, hf⟩ := hf
        obtain ⟨g11, hf⟩ := hf
        refine z_mmin hC g10 g11 (fun w h => uT _ w (uC u806 (uC u153 (uC u108 (uC u154 uN))) w h)) (Nat.le_of_ble_eq_true rfl) (Nat.le_of_ble_eq_true rfl) ⟨Nat.le_of_ble_eq_true rfl, Nat.le_of_ble_eq_true rfl⟩ dX8_contrastOf_75 ?_
        refine z_istore_n hC ([(3, vI (min x3 (σ x2 ((12 * x5) + x6)))), (0, vR ad x0), (2, vR ad x2), (4, vI x4), (5, vI x5), (6, vI x6)]) dX8_contrastOf_78 rfl (by decide) rfl ?_
        refine z_iload hC dX8_contrastOf_79 3 rfl ?_
        refine z_aload_n hC dX8_contrastOf_81 2 rfl rfl ?_
        refine z_bipush hC dX8_contrastOf_82 (by decide) ?_
        refine z_iload hC dX8_contrastOf_84 4 rfl ?_
        refine z_imul hC dX8_contrastOf_86 ?_
        refine z_iload hC dX8_contrastOf_87 5 rfl ?_
        refine z_iadd hC dX8_contrastOf_89 ?_
        refine z_iaload hC (aX_18 qx2) g9 dX8_contrastOf_90 ?_
        obtain ⟨g12, hf⟩ := hf
        refine z_mmax hC g12 g11 (fun w h => uT _ w (uC u795 (uC u796 (uC u108 (uC u797 uN))) w h)) (Nat.le_of_ble_eq_true rfl) (Nat.le_of_ble_eq_true rfl) ⟨Nat.le_of_ble_eq_true rfl, Nat.le_of_ble_eq_true rfl⟩ dX8_contrastOf_91 ?_
        refine z_istore hC ([(4, vI (max x4 (σ x2 ((12 * x5) + x6)))), (3, vI (min x3 (σ x2 ((12 * x5) + x6)))), (0, vR ad x0), (2, vR ad x2), (5, vI x5), (6, vI x6)]) dX8_contrastOf_94 (by decide) rfl ?_
        refine z_iinc hC ([(6, vI (x6 + 1)), (4, vI (max x4 (σ x2 ((12 * x5) + x6)))), (3, vI (min x3 (σ x2 ((12 * x5) + x6)))), (0, vR ad x0), (2, vR ad x2), (5, vI x5)]) dX8_contrastOf_96 5 rfl (by decide) rfl ?_
        refine z_goto (tgt := 48) hC dX8_contrastOf_99 (by decide) ?_
        refine z_sub (lv' := [(0, vR ad x0), (2, vR ad x2), (3, vI (min x3 (σ x2 ((12 * x5) + x6)))), (4, vI (max x4 (σ x2 ((12 * x5) + x6)))), (5, vI x5), (6, vI (x6 + 1))]) [3, 4, 2, 1, 5, 0] rfl ?_
        exact ih _ _ _ _ _ _ _ qx0 qx2 hf
set_option maxHeartbeats 4000000 in
set_option maxRecDepth 100000 in
theorem wX8_contrastOf_B29 {p : Program} {l : Launch} {e : Env} {s : State} {m : MethodId} {args : Array Value} {below : List Frame} {meth : Method} {c : Code} {D : va_G} {dA : Nat → ClassId} {ad : Nat → Nat} {sz : Nat} {aL aG aI : Nat} {aK aV : Nat → Nat} {K : Int → zSt → Prop} (hC : zC p m c cX8_contrastOf 7 s args (Cond.code yX8_contrastOf cX8_contrastOf 7 (some .int) :: UW) RX8 meth D vwCl (tyA dA) (zA ad NX sz) NX ad (celX ad dA)) (hE : zE (zXX aL aG aI aK aV) (zA ad NX sz) s s.heap) (hr : meth.sig.returnType = (some .int)) (hinj : ∀ i j, i < NX → j < NX → ad i = ad j → i = j) : ∀ (n : Nat) (σ : zSt) (x0 : Int) (x2 : Int) (x3 : Int) (x4 : Int) (x5 : Int) (qx0 : kX x0 = 8) (qx2 : kX x2 = 18), fX8_contrastOf_B29 K n σ x0 x2 x3 x4 x5 → zAt p l e ({ frames := 1, cells := 0, slots := 0, locals := 21 } : Room) s m args below meth c 0 0 (MQ below (va_Qi (zPi K) (zB D vwCl (tyA dA) NX ad (celX ad dA)) (zA ad NX sz)) args s 0 0 (zA ad NX sz)) 7 D vwCl (zA ad NX sz) NX ad (celX ad dA) 29 [(0, vR ad x0), (2, vR ad x2), (3, vI x3), (4, vI x4), (5, vI x5)] [] σ := by
  intro n
  induction n with
  | zero => intro σ x0 x2 x3 x4 x5 qx0 qx2 hf; exact False.elim hf
  | succ n ih =>
    intro σ x0 x2 x3 x4 x5 qx0 qx2 hf
    rw [uX8_contrastOf_B29] at hf
    refine z_iload hC dX8_contrastOf_29 4 rfl ?_
    refine z_aload_n hC dX8_contrastOf_31 0 rfl rfl ?_
    refine z_get hC (fun w h => uT _ w (uL8 w h)) (oX_8 qx0) 1 (by decide) (uT _ _ u216) rfl rfl dX8_contrastOf_32 ?_
    obtain ⟨g5, hf⟩ := hf
    obtain ⟨g6, hf⟩ := hf
    refine z_icmp_ge (tgt := 108) hC dX8_contrastOf_35 (by decide) g5 g6 (fun hc => ?_) (fun hc => ?_)
    · replace hf := hf.1 hc
      refine z_iload hC dX8_contrastOf_108 3 rfl ?_
      refine z_iload_n hC dX8_contrastOf_110 2 rfl rfl ?_
      refine z_isub hC dX8_contrastOf_111 ?_
      exact z_iret hC hr rfl dX8_contrastOf_112 hf
    · replace hf := hf.2 hc
      refine z_iload hC dX8_contrastOf_38 4 rfl ?_
      refine z_bipush hC dX8_contrastOf_40 (by decide) ?_
      refine z_icmp_ge (tgt := 108) hC dX8_contrastOf_42 (by decide) g5 (zlit rfl rfl) (fun hc => ?_) (fun hc => ?_)
      · replace hf := hf.1 hc
        refine z_iload hC dX8_contrastOf_108 3 rfl ?_
        refine z_iload_n hC dX8_contrastOf_110 2 rfl rfl ?_
        refine z_isub hC dX8_contrastOf_111 ?_
        exact z_iret hC hr rfl dX8_contrastOf_112 hf
      · replace hf := hf.2 hc
        refine z_iconst hC dX8_contrastOf_45 ?_
        refine z_istore hC ([(6, vI 0), (0, vR ad x0), (2, vR ad x2), (3, vI x3), (4, vI x4), (5, vI x5)]) dX8_contrastOf_46 (by decide) rfl ?_
        refine z_sub (lv' := [(0, vR ad x0), (2, vR ad x2), (3, vI x3), (4, vI x4), (5, vI x5), (6, vI 0)]) [1, 2, 3, 4, 5, 0] rfl ?_
        obtain ⟨n, hf⟩ := hf
        exact wX8_contrastOf_B48 hC hE hr hinj ih n _ _ _ _ _ _ _ qx0 qx2 hf
set_option maxHeartbeats 4000000 in
set_option maxRecDepth 100000 in
theorem mX8_contrastOf {D : va_G} {dA : Nat → ClassId} {ad : Nat → Nat} {aL aG aI : Nat} {aK aV : Nat → Nat} (l : Launch) (hinj : ∀ i j, i < NX → j < NX → ad i = ad j → i = j) (sz : Nat) {K : Int → zSt → Prop} {σ : zSt} {x0 : Int} {x1 : Int} (hf : fX8_contrastOf K σ x0 x1) : Met l yX8_contrastOf (Cond.code yX8_contrastOf cX8_contrastOf 7 (some .int) :: UW) ({ frames := 1, cells := 0, slots := 0, locals := 21 } : Room) (va_Pc [vR ad x0, vI x1] (zPre D vwCl (tyA dA) (zXX aL aG aI aK aV) NX ad (celX ad dA) sz σ)) (va_Qi (zPi K) (zB D vwCl (tyA dA) NX ad (celX ad dA)) (zA ad NX sz)) 0 0 (zA ad NX sz) := by
  refine z_enter (cc := cX8_contrastOf) (maxL := 7) (ret := (some .int)) (vs := [vR ad x0, vI x1]) (plainFor_of_name (by decide)) rfl hinj (Nat.le_of_ble_eq_true rfl) ?_
  intro p e s m args below meth c hC hE hsz hr hnm
  obtain ⟨qx0, hf⟩ := hf
  show zAt p l e ({ frames := 1, cells := 0, slots := 0, locals := 21 } : Room) s m args below meth c 0 0 (MQ below (va_Qi (zPi K) (zB D vwCl (tyA dA) NX ad (celX ad dA)) (zA ad NX sz)) args s 0 0 (zA ad NX sz)) 7 D vwCl (zA ad NX sz) NX ad (celX ad dA) 0 [(0, vR ad x0), (1, vI x1)] [] σ
  refine z_aload_n hC dX8_contrastOf_0 0 rfl rfl ?_
  refine z_iload_n hC dX8_contrastOf_1 1 rfl rfl ?_
  refine z_callVi hC hE (oX_8 qx0) [vI x1] (fun sz2 => mX8_hasFrame l hinj sz2 hf) (cwV 1 hC.1.2.2.2.2 (uV (uT _) u620 u621 u622 u106 u623) rfl rfl rfl (by decide +kernel) ⟨Nat.le_of_ble_eq_true rfl, Nat.le_of_ble_eq_true rfl⟩) rfl rfl (Nat.le_of_ble_eq_true rfl) ⟨Nat.le_of_ble_eq_true rfl, Nat.le_of_ble_eq_true rfl⟩ dX8_contrastOf_2 (fun r1 σ1 hf => ?_)
  obtain ⟨g2, hf⟩ := hf
  refine z_if_ne (tgt := 10) hC dX8_contrastOf_5 (by decide) g2 (fun hc => ?_) (fun hc => ?_)
  · replace hf := hf.2 hc
    refine z_aload_n hC dX8_contrastOf_10 0 rfl rfl ?_
    refine z_get hC (fun w h => uT _ w (uL8 w h)) (oX_8 qx0) 5 (by decide) (uT _ _ u232) rfl rfl dX8_contrastOf_11 ?_
    refine z_iload_n hC dX8_contrastOf_14 1 rfl rfl ?_
    obtain ⟨g3, hf⟩ := hf
    refine z_aaload hC (aX_21 (kf_8_5 qx0)) g3 dX8_contrastOf_15 ?_
    obtain ⟨g4, hf⟩ := hf
    refine z_get hC (fun w h => uT _ w (uL1 w h)) (oX_1 g4) 1 (by decide) (uT _ _ u185) rfl rfl dX8_contrastOf_16 ?_
    refine z_astore_n hC ([(2, vR ad ((σ1 (x0 + 2) x1) + 6)), (0, vR ad x0), (1, vI x1)]) dX8_contrastOf_19 rfl (by decide) rfl ?_
    refine z_bipush hC dX8_contrastOf_20 (by decide) ?_
    refine z_istore_n hC ([(3, vI 9), (2, vR ad ((σ1 (x0 + 2) x1) + 6)), (0, vR ad x0), (1, vI x1)]) dX8_contrastOf_22 rfl (by decide) rfl ?_
    refine z_iconst hC dX8_contrastOf_23 ?_
    refine z_istore hC ([(4, vI 0), (3, vI 9), (2, vR ad ((σ1 (x0 + 2) x1) + 6)), (0, vR ad x0), (1, vI x1)]) dX8_contrastOf_24 (by decide) rfl ?_
    refine z_iconst hC dX8_contrastOf_26 ?_
    refine z_istore hC ([(5, vI 0), (4, vI 0), (3, vI 9), (2, vR ad ((σ1 (x0 + 2) x1) + 6)), (0, vR ad x0), (1, vI x1)]) dX8_contrastOf_27 (by decide) rfl ?_
    refine z_sub (lv' := [(0, vR ad x0), (2, vR ad ((σ1 (x0 + 2) x1) + 6)), (3, vI 9), (4, vI 0), (5, vI 0)]) [4, 3, 2, 1, 0] rfl ?_
    obtain ⟨n, hf⟩ := hf
    exact wX8_contrastOf_B29 hC hE hr hinj n _ _ _ _ _ _ qx0 (kf_1_1 g4) hf
  · replace hf := hf.1 hc
    refine z_iconst hC dX8_contrastOf_8 ?_
    exact z_iret hC hr rfl dX8_contrastOf_9 hf

-- ===== X8_usable
def fX8_usable (K : Int → zSt → Prop) (σ : zSt) (x0 : Int) (x1 : Int) : Prop :=
  kX x0 = 8 ∧ fX8_hasFrame (fun r1 σ1 => zrg r1 ∧ ((r1 = 0 → K 0 σ1) ∧ (¬ r1 = 0 → fX8_contrastOf (fun r3 σ3 => zrg r3 ∧ zrg (σ3 (x0 + 1) 3) ∧ ((r3 < σ3 (x0 + 1) 3 → K 0 σ3) ∧ (¬ r3 < σ3 (x0 + 1) 3 → K 1 σ3))) σ1 x0 x1))) σ x0 x1
set_option maxHeartbeats 4000000 in
set_option maxRecDepth 100000 in
theorem mX8_usable {D : va_G} {dA : Nat → ClassId} {ad : Nat → Nat} {aL aG aI : Nat} {aK aV : Nat → Nat} (l : Launch) (hinj : ∀ i j, i < NX → j < NX → ad i = ad j → i = j) (sz : Nat) {K : Int → zSt → Prop} {σ : zSt} {x0 : Int} {x1 : Int} (hf : fX8_usable K σ x0 x1) : Met l yX8_usable (Cond.code yX8_usable cX8_usable 2 (some .boolean) :: UW) ({ frames := 2, cells := 0, slots := 0, locals := 47 } : Room) (va_Pc [vR ad x0, vI x1] (zPre D vwCl (tyA dA) (zXX aL aG aI aK aV) NX ad (celX ad dA) sz σ)) (va_Qi (zPi K) (zB D vwCl (tyA dA) NX ad (celX ad dA)) (zA ad NX sz)) 0 0 (zA ad NX sz) := by
  refine z_enter (cc := cX8_usable) (maxL := 2) (ret := (some .boolean)) (vs := [vR ad x0, vI x1]) (plainFor_of_name (by decide)) rfl hinj (Nat.le_of_ble_eq_true rfl) ?_
  intro p e s m args below meth c hC hE hsz hr hnm
  obtain ⟨qx0, hf⟩ := hf
  show zAt p l e ({ frames := 2, cells := 0, slots := 0, locals := 47 } : Room) s m args below meth c 0 0 (MQ below (va_Qi (zPi K) (zB D vwCl (tyA dA) NX ad (celX ad dA)) (zA ad NX sz)) args s 0 0 (zA ad NX sz)) 2 D vwCl (zA ad NX sz) NX ad (celX ad dA) 0 [(0, vR ad x0), (1, vI x1)] [] σ
  refine z_aload_n hC dX8_usable_0 0 rfl rfl ?_
  refine z_iload_n hC dX8_usable_1 1 rfl rfl ?_
  refine z_callVi hC hE (oX_8 qx0) [vI x1] (fun sz2 => mX8_hasFrame l hinj sz2 hf) (cwV 1 hC.1.2.2.2.2 (uV (uT _) u620 u621 u622 u106 u623) rfl rfl rfl (by decide +kernel) ⟨Nat.le_of_ble_eq_true rfl, Nat.le_of_ble_eq_true rfl⟩) rfl rfl (Nat.le_of_ble_eq_true rfl) ⟨Nat.le_of_ble_eq_true rfl, Nat.le_of_ble_eq_true rfl⟩ dX8_usable_2 (fun r1 σ1 hf => ?_)
  obtain ⟨g2, hf⟩ := hf
  refine z_if_eq (tgt := 26) hC dX8_usable_5 (by decide) g2 (fun hc => ?_) (fun hc => ?_)
  · replace hf := hf.1 hc
    refine z_iconst hC dX8_usable_26 ?_
    exact z_bret hC hr rfl dX8_usable_27 (Or.inl rfl) hf
  · replace hf := hf.2 hc
    refine z_aload_n hC dX8_usable_8 0 rfl rfl ?_
    refine z_iload_n hC dX8_usable_9 1 rfl rfl ?_
    refine z_callVi hC hE (oX_8 qx0) [vI x1] (fun sz2 => mX8_contrastOf l hinj sz2 hf) (cwV 1 hC.1.2.2.2.2 (uV (uT _) u802 u803 u804 u106 u805) rfl rfl rfl (by decide +kernel) ⟨Nat.le_of_ble_eq_true rfl, Nat.le_of_ble_eq_true rfl⟩) rfl rfl (Nat.le_of_ble_eq_true rfl) ⟨Nat.le_of_ble_eq_true rfl, Nat.le_of_ble_eq_true rfl⟩ dX8_usable_10 (fun r3 σ3 hf => ?_)
    refine z_aload_n hC dX8_usable_13 0 rfl rfl ?_
    refine z_get hC (fun w h => uT _ w (uL8 w h)) (oX_8 qx0) 4 (by decide) (uT _ _ u226) rfl rfl dX8_usable_14 ?_
    refine z_iconst hC dX8_usable_17 ?_
    refine z_iaload hC (aX_17 (kf_8_4 qx0)) ⟨by decide, by decide⟩ dX8_usable_18 ?_
    obtain ⟨g4, hf⟩ := hf
    obtain ⟨g5, hf⟩ := hf
    refine z_icmp_lt (tgt := 26) hC dX8_usable_19 (by decide) g4 g5 (fun hc => ?_) (fun hc => ?_)
    · replace hf := hf.1 hc
      refine z_iconst hC dX8_usable_26 ?_
      exact z_bret hC hr rfl dX8_usable_27 (Or.inl rfl) hf
    · replace hf := hf.2 hc
      refine z_iconst hC dX8_usable_22 ?_
      refine z_goto (tgt := 27) hC dX8_usable_23 (by decide) ?_
      exact z_bret hC hr rfl dX8_usable_27 (Or.inr rfl) hf

-- ===== X8_usableFrom
noncomputable def fX8_usableFrom_B6 (K : Int → zSt → Prop) (n : Nat) : zSt → Int → Int → Prop :=
  Nat.rec (motive := fun _ => zSt → Int → Int → Prop) (fun _ _ _ => False) (fun _ ih σ x0 x2 => zrg x2 ∧ zrg (σ x0 2) ∧ ((σ x0 2 ≤ x2 → K (-1) σ) ∧ (¬ σ x0 2 ≤ x2 → fX8_usable (fun r4 σ4 => zrg r4 ∧ ((r4 = 0 → ih σ4 x0 (x2 + 1)) ∧ (¬ r4 = 0 → K x2 σ4))) σ x0 x2))) n
theorem uX8_usableFrom_B6 (K : Int → zSt → Prop) (n0 : Nat) (σ : zSt) (x0 : Int) (x2 : Int) : fX8_usableFrom_B6 K (n0 + 1) σ x0 x2 = (zrg x2 ∧ zrg (σ x0 2) ∧ ((σ x0 2 ≤ x2 → K (-1) σ) ∧ (¬ σ x0 2 ≤ x2 → fX8_usable (fun r4 σ4 => zrg r4 ∧ ((r4 = 0 → (fX8_usableFrom_B6 K n0) σ4 x0 (x2 + 1)) ∧ (¬ r4 = 0 → K x2 σ4))) σ x0 x2))) := rfl
def fX8_usableFrom (K : Int → zSt → Prop) (σ : zSt) (x0 : Int) (x1 : Int) : Prop :=
  kX x0 = 8 ∧ zrg x1 ∧ (∃ n, fX8_usableFrom_B6 K n σ x0 (max x1 0))
set_option maxHeartbeats 4000000 in
set_option maxRecDepth 100000 in
theorem wX8_usableFrom_B6 {p : Program} {l : Launch} {e : Env} {s : State} {m : MethodId} {args : Array Value} {below : List Frame} {meth : Method} {c : Code} {D : va_G} {dA : Nat → ClassId} {ad : Nat → Nat} {sz : Nat} {aL aG aI : Nat} {aK aV : Nat → Nat} {K : Int → zSt → Prop} (hC : zC p m c cX8_usableFrom 3 s args (Cond.code yX8_usableFrom cX8_usableFrom 3 (some .int) :: UW) RX8 meth D vwCl (tyA dA) (zA ad NX sz) NX ad (celX ad dA)) (hE : zE (zXX aL aG aI aK aV) (zA ad NX sz) s s.heap) (hr : meth.sig.returnType = (some .int)) (hinj : ∀ i j, i < NX → j < NX → ad i = ad j → i = j) : ∀ (n : Nat) (σ : zSt) (x0 : Int) (x2 : Int) (qx0 : kX x0 = 8), fX8_usableFrom_B6 K n σ x0 x2 → zAt p l e ({ frames := 3, cells := 0, slots := 0, locals := 68 } : Room) s m args below meth c 0 0 (MQ below (va_Qi (zPi K) (zB D vwCl (tyA dA) NX ad (celX ad dA)) (zA ad NX sz)) args s 0 0 (zA ad NX sz)) 3 D vwCl (zA ad NX sz) NX ad (celX ad dA) 6 [(0, vR ad x0), (2, vI x2)] [] σ := by
  intro n
  induction n with
  | zero => intro σ x0 x2 qx0 hf; exact False.elim hf
  | succ n ih =>
    intro σ x0 x2 qx0 hf
    rw [uX8_usableFrom_B6] at hf
    refine z_iload_n hC dX8_usableFrom_6 1 rfl rfl ?_
    refine z_aload_n hC dX8_usableFrom_7 0 rfl rfl ?_
    refine z_get hC (fun w h => uT _ w (uL8 w h)) (oX_8 qx0) 2 (by decide) (uT _ _ u219) rfl rfl dX8_usableFrom_8 ?_
    obtain ⟨g2, hf⟩ := hf
    obtain ⟨g3, hf⟩ := hf
    refine z_icmp_ge (tgt := 30) hC dX8_usableFrom_11 (by decide) g2 g3 (fun hc => ?_) (fun hc => ?_)
    · replace hf := hf.1 hc
      refine z_iconst hC dX8_usableFrom_30 ?_
      exact z_iret hC hr rfl dX8_usableFrom_31 hf
    · replace hf := hf.2 hc
      refine z_aload_n hC dX8_usableFrom_14 0 rfl rfl ?_
      refine z_iload_n hC dX8_usableFrom_15 1 rfl rfl ?_
      refine z_callVi hC hE (oX_8 qx0) [vI x2] (fun sz2 => mX8_usable l hinj sz2 hf) (cwV 1 hC.1.2.2.2.2 (uV (uT _) u798 u799 u800 u106 u801) rfl rfl rfl (by decide +kernel) ⟨Nat.le_of_ble_eq_true rfl, Nat.le_of_ble_eq_true rfl⟩) rfl rfl (Nat.le_of_ble_eq_true rfl) ⟨Nat.le_of_ble_eq_true rfl, Nat.le_of_ble_eq_true rfl⟩ dX8_usableFrom_16 (fun r4 σ4 hf => ?_)
      obtain ⟨g5, hf⟩ := hf
      refine z_if_eq (tgt := 24) hC dX8_usableFrom_19 (by decide) g5 (fun hc => ?_) (fun hc => ?_)
      · replace hf := hf.1 hc
        refine z_iinc hC ([(2, vI (x2 + 1)), (0, vR ad x0)]) dX8_usableFrom_24 1 rfl (by decide) rfl ?_
        refine z_goto (tgt := 6) hC dX8_usableFrom_27 (by decide) ?_
        refine z_sub (lv' := [(0, vR ad x0), (2, vI (x2 + 1))]) [1, 0] rfl ?_
        exact ih _ _ _ qx0 hf
      · replace hf := hf.2 hc
        refine z_iload_n hC dX8_usableFrom_22 1 rfl rfl ?_
        exact z_iret hC hr rfl dX8_usableFrom_23 hf
set_option maxHeartbeats 4000000 in
set_option maxRecDepth 100000 in
theorem mX8_usableFrom {D : va_G} {dA : Nat → ClassId} {ad : Nat → Nat} {aL aG aI : Nat} {aK aV : Nat → Nat} (l : Launch) (hinj : ∀ i j, i < NX → j < NX → ad i = ad j → i = j) (sz : Nat) {K : Int → zSt → Prop} {σ : zSt} {x0 : Int} {x1 : Int} (hf : fX8_usableFrom K σ x0 x1) : Met l yX8_usableFrom (Cond.code yX8_usableFrom cX8_usableFrom 3 (some .int) :: UW) ({ frames := 3, cells := 0, slots := 0, locals := 68 } : Room) (va_Pc [vR ad x0, vI x1] (zPre D vwCl (tyA dA) (zXX aL aG aI aK aV) NX ad (celX ad dA) sz σ)) (va_Qi (zPi K) (zB D vwCl (tyA dA) NX ad (celX ad dA)) (zA ad NX sz)) 0 0 (zA ad NX sz) := by
  refine z_enter (cc := cX8_usableFrom) (maxL := 3) (ret := (some .int)) (vs := [vR ad x0, vI x1]) (plainFor_of_name (by decide)) rfl hinj (Nat.le_of_ble_eq_true rfl) ?_
  intro p e s m args below meth c hC hE hsz hr hnm
  obtain ⟨qx0, hf⟩ := hf
  show zAt p l e ({ frames := 3, cells := 0, slots := 0, locals := 68 } : Room) s m args below meth c 0 0 (MQ below (va_Qi (zPi K) (zB D vwCl (tyA dA) NX ad (celX ad dA)) (zA ad NX sz)) args s 0 0 (zA ad NX sz)) 3 D vwCl (zA ad NX sz) NX ad (celX ad dA) 0 [(0, vR ad x0), (1, vI x1)] [] σ
  refine z_iload_n hC dX8_usableFrom_0 1 rfl rfl ?_
  refine z_iconst hC dX8_usableFrom_1 ?_
  obtain ⟨g1, hf⟩ := hf
  refine z_mmax hC g1 (zlit rfl rfl) (fun w h => uT _ w (uC u795 (uC u796 (uC u108 (uC u797 uN))) w h)) (Nat.le_of_ble_eq_true rfl) (Nat.le_of_ble_eq_true rfl) ⟨Nat.le_of_ble_eq_true rfl, Nat.le_of_ble_eq_true rfl⟩ dX8_usableFrom_2 ?_
  refine z_istore_n hC ([(2, vI (max x1 0)), (0, vR ad x0), (1, vI x1)]) dX8_usableFrom_5 rfl (by decide) rfl ?_
  refine z_sub (lv' := [(0, vR ad x0), (2, vI (max x1 0))]) [1, 0] rfl ?_
  obtain ⟨n, hf⟩ := hf
  exact wX8_usableFrom_B6 hC hE hr hinj n _ _ _ qx0 hf

-- ===== X8_gapAfter
def fX8_gapAfter_B40 (K : Int → zSt → Prop) (σ : zSt) (x0 : Int) (s0 : Int) : Prop :=
  zrg s0 ∧ zrg (σ (x0 + 1) 6) ∧ ((s0 ≤ σ (x0 + 1) 6 → K 0 σ) ∧ (¬ s0 ≤ σ (x0 + 1) 6 → K s0 σ))
def fX8_gapAfter_B19 (K : Int → zSt → Prop) (σ : zSt) (x0 : Int) (x1 : Int) (s0 : Int) : Prop :=
  zrg s0 ∧ ((s0 = (-1) → fX8_gapAfter_B40 K σ x0 0) ∧ (¬ s0 = (-1) → fX8_dayOf (fun r5 σ5 => fX8_dayOf (fun r6 σ6 => fX8_gapAfter_B40 K σ6 x0 (r5 - r6)) σ5 x0 x1) σ x0 s0))
def fX8_gapAfter (K : Int → zSt → Prop) (σ : zSt) (x0 : Int) (x1 : Int) : Prop :=
  kX x0 = 8 ∧ fX8_usable (fun r1 σ1 => zrg r1 ∧ ((r1 = 0 → fX8_gapAfter_B19 K σ1 x0 x1 (-1)) ∧ (¬ r1 = 0 → fX8_usableFrom (fun r3 σ3 => fX8_gapAfter_B19 K σ3 x0 x1 r3) σ1 x0 (x1 + 1)))) σ x0 x1
set_option maxHeartbeats 4000000 in
set_option maxRecDepth 100000 in
theorem wX8_gapAfter_B40 {p : Program} {l : Launch} {e : Env} {s : State} {m : MethodId} {args : Array Value} {below : List Frame} {meth : Method} {c : Code} {D : va_G} {dA : Nat → ClassId} {ad : Nat → Nat} {sz : Nat} {aL aG aI : Nat} {aK aV : Nat → Nat} {K : Int → zSt → Prop} (hC : zC p m c cX8_gapAfter 4 s args (Cond.code yX8_gapAfter cX8_gapAfter 4 (some .int) :: UW) RX8 meth D vwCl (tyA dA) (zA ad NX sz) NX ad (celX ad dA)) (hE : zE (zXX aL aG aI aK aV) (zA ad NX sz) s s.heap) (hr : meth.sig.returnType = (some .int)) (hinj : ∀ i j, i < NX → j < NX → ad i = ad j → i = j) {σ : zSt} {x0 : Int} {s0 : Int} (qx0 : kX x0 = 8) (hf : fX8_gapAfter_B40 K σ x0 s0) : zAt p l e ({ frames := 4, cells := 0, slots := 0, locals := 90 } : Room) s m args below meth c 0 0 (MQ below (va_Qi (zPi K) (zB D vwCl (tyA dA) NX ad (celX ad dA)) (zA ad NX sz)) args s 0 0 (zA ad NX sz)) 4 D vwCl (zA ad NX sz) NX ad (celX ad dA) 40 [(0, vR ad x0)] [vI s0] σ := by
  refine z_istore_n hC ([(3, vI s0), (0, vR ad x0)]) dX8_gapAfter_40 rfl (by decide) rfl ?_
  refine z_iload_n hC dX8_gapAfter_41 0 rfl rfl ?_
  refine z_aload_n hC dX8_gapAfter_42 1 rfl rfl ?_
  refine z_get hC (fun w h => uT _ w (uL8 w h)) (oX_8 qx0) 4 (by decide) (uT _ _ u226) rfl rfl dX8_gapAfter_43 ?_
  refine z_bipush hC dX8_gapAfter_46 (by decide) ?_
  refine z_iaload hC (aX_17 (kf_8_4 qx0)) ⟨by decide, by decide⟩ dX8_gapAfter_48 ?_
  obtain ⟨g7, hf⟩ := hf
  obtain ⟨g8, hf⟩ := hf
  refine z_icmp_le (tgt := 56) hC dX8_gapAfter_49 (by decide) g7 g8 (fun hc => ?_) (fun hc => ?_)
  · replace hf := hf.1 hc
    refine z_iconst hC dX8_gapAfter_56 ?_
    exact z_iret hC hr rfl dX8_gapAfter_57 hf
  · replace hf := hf.2 hc
    refine z_iload_n hC dX8_gapAfter_52 0 rfl rfl ?_
    refine z_goto (tgt := 57) hC dX8_gapAfter_53 (by decide) ?_
    exact z_iret hC hr rfl dX8_gapAfter_57 hf
set_option maxHeartbeats 4000000 in
set_option maxRecDepth 100000 in
theorem wX8_gapAfter_B19 {p : Program} {l : Launch} {e : Env} {s : State} {m : MethodId} {args : Array Value} {below : List Frame} {meth : Method} {c : Code} {D : va_G} {dA : Nat → ClassId} {ad : Nat → Nat} {sz : Nat} {aL aG aI : Nat} {aK aV : Nat → Nat} {K : Int → zSt → Prop} (hC : zC p m c cX8_gapAfter 4 s args (Cond.code yX8_gapAfter cX8_gapAfter 4 (some .int) :: UW) RX8 meth D vwCl (tyA dA) (zA ad NX sz) NX ad (celX ad dA)) (hE : zE (zXX aL aG aI aK aV) (zA ad NX sz) s s.heap) (hr : meth.sig.returnType = (some .int)) (hinj : ∀ i j, i < NX → j < NX → ad i = ad j → i = j) {σ : zSt} {x0 : Int} {x1 : Int} {s0 : Int} (qx0 : kX x0 = 8) (hf : fX8_gapAfter_B19 K σ x0 x1 s0) : zAt p l e ({ frames := 4, cells := 0, slots := 0, locals := 90 } : Room) s m args below meth c 0 0 (MQ below (va_Qi (zPi K) (zB D vwCl (tyA dA) NX ad (celX ad dA)) (zA ad NX sz)) args s 0 0 (zA ad NX sz)) 4 D vwCl (zA ad NX sz) NX ad (celX ad dA) 19 [(0, vR ad x0), (1, vI x1)] [vI s0] σ := by
  refine z_istore_n hC ([(2, vI s0), (0, vR ad x0), (1, vI x1)]) dX8_gapAfter_19 rfl (by decide) rfl ?_
  refine z_iload_n hC dX8_gapAfter_20 0 rfl rfl ?_
  refine z_iconst hC dX8_gapAfter_21 ?_
  obtain ⟨g4, hf⟩ := hf
  refine z_icmp_ne (tgt := 29) hC dX8_gapAfter_22 (by decide) g4 (zlit rfl rfl) (fun hc => ?_) (fun hc => ?_)
  · replace hf := hf.2 hc
    refine z_aload_n hC dX8_gapAfter_29 1 rfl rfl ?_
    refine z_iload_n hC dX8_gapAfter_30 0 rfl rfl ?_
    refine z_callVi hC hE (oX_8 qx0) [vI s0] (fun sz2 => mX8_dayOf l hinj sz2 hf) (cwV 1 hC.1.2.2.2.2 (uV (uT _) u950 u617 u618 u106 u619) rfl rfl rfl (by decide +kernel) ⟨Nat.le_of_ble_eq_true rfl, Nat.le_of_ble_eq_true rfl⟩) rfl rfl (Nat.le_of_ble_eq_true rfl) ⟨Nat.le_of_ble_eq_true rfl, Nat.le_of_ble_eq_true rfl⟩ dX8_gapAfter_31 (fun r5 σ5 hf => ?_)
    refine z_aload_n hC dX8_gapAfter_34 1 rfl rfl ?_
    refine z_iload_n hC dX8_gapAfter_35 2 rfl rfl ?_
    refine z_callVi hC hE (oX_8 qx0) [vI x1] (fun sz2 => mX8_dayOf l hinj sz2 hf) (cwV 1 hC.1.2.2.2.2 (uV (uT _) u950 u617 u618 u106 u619) rfl rfl rfl (by decide +kernel) ⟨Nat.le_of_ble_eq_true rfl, Nat.le_of_ble_eq_true rfl⟩) rfl rfl (Nat.le_of_ble_eq_true rfl) ⟨Nat.le_of_ble_eq_true rfl, Nat.le_of_ble_eq_true rfl⟩ dX8_gapAfter_36 (fun r6 σ6 hf => ?_)
    refine z_isub hC dX8_gapAfter_39 ?_
    refine z_sub (lv' := [(0, vR ad x0)]) [1] rfl ?_
    exact wX8_gapAfter_B40 hC hE hr hinj qx0 hf
  · replace hf := hf.1 hc
    refine z_iconst hC dX8_gapAfter_25 ?_
    refine z_goto (tgt := 40) hC dX8_gapAfter_26 (by decide) ?_
    refine z_sub (lv' := [(0, vR ad x0)]) [1] rfl ?_
    exact wX8_gapAfter_B40 hC hE hr hinj qx0 hf
set_option maxHeartbeats 4000000 in
set_option maxRecDepth 100000 in
theorem mX8_gapAfter {D : va_G} {dA : Nat → ClassId} {ad : Nat → Nat} {aL aG aI : Nat} {aK aV : Nat → Nat} (l : Launch) (hinj : ∀ i j, i < NX → j < NX → ad i = ad j → i = j) (sz : Nat) {K : Int → zSt → Prop} {σ : zSt} {x0 : Int} {x1 : Int} (hf : fX8_gapAfter K σ x0 x1) : Met l yX8_gapAfter (Cond.code yX8_gapAfter cX8_gapAfter 4 (some .int) :: UW) ({ frames := 4, cells := 0, slots := 0, locals := 90 } : Room) (va_Pc [vR ad x0, vI x1] (zPre D vwCl (tyA dA) (zXX aL aG aI aK aV) NX ad (celX ad dA) sz σ)) (va_Qi (zPi K) (zB D vwCl (tyA dA) NX ad (celX ad dA)) (zA ad NX sz)) 0 0 (zA ad NX sz) := by
  refine z_enter (cc := cX8_gapAfter) (maxL := 4) (ret := (some .int)) (vs := [vR ad x0, vI x1]) (plainFor_of_name (by decide)) rfl hinj (Nat.le_of_ble_eq_true rfl) ?_
  intro p e s m args below meth c hC hE hsz hr hnm
  obtain ⟨qx0, hf⟩ := hf
  show zAt p l e ({ frames := 4, cells := 0, slots := 0, locals := 90 } : Room) s m args below meth c 0 0 (MQ below (va_Qi (zPi K) (zB D vwCl (tyA dA) NX ad (celX ad dA)) (zA ad NX sz)) args s 0 0 (zA ad NX sz)) 4 D vwCl (zA ad NX sz) NX ad (celX ad dA) 0 [(0, vR ad x0), (1, vI x1)] [] σ
  refine z_aload_n hC dX8_gapAfter_0 0 rfl rfl ?_
  refine z_iload_n hC dX8_gapAfter_1 1 rfl rfl ?_
  refine z_callVi hC hE (oX_8 qx0) [vI x1] (fun sz2 => mX8_usable l hinj sz2 hf) (cwV 1 hC.1.2.2.2.2 (uV (uT _) u798 u799 u800 u106 u801) rfl rfl rfl (by decide +kernel) ⟨Nat.le_of_ble_eq_true rfl, Nat.le_of_ble_eq_true rfl⟩) rfl rfl (Nat.le_of_ble_eq_true rfl) ⟨Nat.le_of_ble_eq_true rfl, Nat.le_of_ble_eq_true rfl⟩ dX8_gapAfter_2 (fun r1 σ1 hf => ?_)
  obtain ⟨g2, hf⟩ := hf
  refine z_if_eq (tgt := 18) hC dX8_gapAfter_5 (by decide) g2 (fun hc => ?_) (fun hc => ?_)
  · replace hf := hf.1 hc
    refine z_iconst hC dX8_gapAfter_18 ?_
    exact wX8_gapAfter_B19 hC hE hr hinj qx0 hf
  · replace hf := hf.2 hc
    refine z_aload_n hC dX8_gapAfter_8 0 rfl rfl ?_
    refine z_iload_n hC dX8_gapAfter_9 1 rfl rfl ?_
    refine z_iconst hC dX8_gapAfter_10 ?_
    refine z_iadd hC dX8_gapAfter_11 ?_
    refine z_callVi hC hE (oX_8 qx0) [vI (x1 + 1)] (fun sz2 => mX8_usableFrom l hinj sz2 hf) (cwV 1 hC.1.2.2.2.2 (uV (uT _) u949 u792 u793 u106 u794) rfl rfl rfl (by decide +kernel) ⟨Nat.le_of_ble_eq_true rfl, Nat.le_of_ble_eq_true rfl⟩) rfl rfl (Nat.le_of_ble_eq_true rfl) ⟨Nat.le_of_ble_eq_true rfl, Nat.le_of_ble_eq_true rfl⟩ dX8_gapAfter_12 (fun r3 σ3 hf => ?_)
    refine z_goto (tgt := 19) hC dX8_gapAfter_15 (by decide) ?_
    exact wX8_gapAfter_B19 hC hE hr hinj qx0 hf

-- ===== X8_windowPixels
def fX8_windowPixels (K : Int → zSt → Prop) (σ : zSt) (x0 : Int) : Prop :=
  kX x0 = 8 ∧ K (((2 * (σ (x0 + 1) 0)) + 1) * ((2 * (σ (x0 + 1) 0)) + 1)) σ
set_option maxHeartbeats 4000000 in
set_option maxRecDepth 100000 in
theorem mX8_windowPixels {D : va_G} {dA : Nat → ClassId} {ad : Nat → Nat} {aL aG aI : Nat} {aK aV : Nat → Nat} (l : Launch) (hinj : ∀ i j, i < NX → j < NX → ad i = ad j → i = j) (sz : Nat) {K : Int → zSt → Prop} {σ : zSt} {x0 : Int} (hf : fX8_windowPixels K σ x0) : Met l yX8_windowPixels (Cond.code yX8_windowPixels cX8_windowPixels 2 (some .int) :: UW) ({ frames := 0, cells := 0, slots := 0, locals := 0 } : Room) (va_Pc [vR ad x0] (zPre D vwCl (tyA dA) (zXX aL aG aI aK aV) NX ad (celX ad dA) sz σ)) (va_Qi (zPi K) (zB D vwCl (tyA dA) NX ad (celX ad dA)) (zA ad NX sz)) 0 0 (zA ad NX sz) := by
  refine z_enter (cc := cX8_windowPixels) (maxL := 2) (ret := (some .int)) (vs := [vR ad x0]) (plainFor_of_name (by decide)) rfl hinj (Nat.le_of_ble_eq_true rfl) ?_
  intro p e s m args below meth c hC hE hsz hr hnm
  obtain ⟨qx0, hf⟩ := hf
  show zAt p l e ({ frames := 0, cells := 0, slots := 0, locals := 0 } : Room) s m args below meth c 0 0 (MQ below (va_Qi (zPi K) (zB D vwCl (tyA dA) NX ad (celX ad dA)) (zA ad NX sz)) args s 0 0 (zA ad NX sz)) 2 D vwCl (zA ad NX sz) NX ad (celX ad dA) 0 [(0, vR ad x0)] [] σ
  refine z_iconst hC dX8_windowPixels_0 ?_
  refine z_aload_n hC dX8_windowPixels_1 0 rfl rfl ?_
  refine z_get hC (fun w h => uT _ w (uL8 w h)) (oX_8 qx0) 4 (by decide) (uT _ _ u226) rfl rfl dX8_windowPixels_2 ?_
  refine z_iconst hC dX8_windowPixels_5 ?_
  refine z_iaload hC (aX_17 (kf_8_4 qx0)) ⟨by decide, by decide⟩ dX8_windowPixels_6 ?_
  refine z_imul hC dX8_windowPixels_7 ?_
  refine z_iconst hC dX8_windowPixels_8 ?_
  refine z_iadd hC dX8_windowPixels_9 ?_
  refine z_istore_n hC ([(1, vI ((2 * (σ (x0 + 1) 0)) + 1)), (0, vR ad x0)]) dX8_windowPixels_10 rfl (by decide) rfl ?_
  refine z_iload_n hC dX8_windowPixels_11 0 rfl rfl ?_
  refine z_iload_n hC dX8_windowPixels_12 0 rfl rfl ?_
  refine z_imul hC dX8_windowPixels_13 ?_
  exact z_iret hC hr rfl dX8_windowPixels_14 hf

-- ===== X9_hasInterval
def fX9_hasInterval (K : Int → zSt → Prop) (σ : zSt) (x0 : Int) (x1 : Int) : Prop :=
  kX x0 = 9 ∧ zrg x1 ∧ ((x1 < 0 → K 0 σ) ∧ (¬ x1 < 0 → zrg ((σ x0 0) - 1) ∧ (((σ x0 0) - 1 ≤ x1 → K 0 σ) ∧ (¬ (σ x0 0) - 1 ≤ x1 → K 1 σ))))
set_option maxHeartbeats 4000000 in
set_option maxRecDepth 100000 in
theorem mX9_hasInterval {D : va_G} {dA : Nat → ClassId} {ad : Nat → Nat} {aL aG aI : Nat} {aK aV : Nat → Nat} (l : Launch) (hinj : ∀ i j, i < NX → j < NX → ad i = ad j → i = j) (sz : Nat) {K : Int → zSt → Prop} {σ : zSt} {x0 : Int} {x1 : Int} (hf : fX9_hasInterval K σ x0 x1) : Met l yX9_hasInterval (Cond.code yX9_hasInterval cX9_hasInterval 2 (some .boolean) :: UW) ({ frames := 0, cells := 0, slots := 0, locals := 0 } : Room) (va_Pc [vR ad x0, vI x1] (zPre D vwCl (tyA dA) (zXX aL aG aI aK aV) NX ad (celX ad dA) sz σ)) (va_Qi (zPi K) (zB D vwCl (tyA dA) NX ad (celX ad dA)) (zA ad NX sz)) 0 0 (zA ad NX sz) := by
  refine z_enter (cc := cX9_hasInterval) (maxL := 2) (ret := (some .boolean)) (vs := [vR ad x0, vI x1]) (plainFor_of_name (by decide)) rfl hinj (Nat.le_of_ble_eq_true rfl) ?_
  intro p e s m args below meth c hC hE hsz hr hnm
  obtain ⟨qx0, hf⟩ := hf
  show zAt p l e ({ frames := 0, cells := 0, slots := 0, locals := 0 } : Room) s m args below meth c 0 0 (MQ below (va_Qi (zPi K) (zB D vwCl (tyA dA) NX ad (celX ad dA)) (zA ad NX sz)) args s 0 0 (zA ad NX sz)) 2 D vwCl (zA ad NX sz) NX ad (celX ad dA) 0 [(0, vR ad x0), (1, vI x1)] [] σ
  refine z_iload_n hC dX9_hasInterval_0 1 rfl rfl ?_
  obtain ⟨g1, hf⟩ := hf
  refine z_if_lt (tgt := 18) hC dX9_hasInterval_1 (by decide) g1 (fun hc => ?_) (fun hc => ?_)
  · replace hf := hf.1 hc
    refine z_iconst hC dX9_hasInterval_18 ?_
    exact z_bret hC hr rfl dX9_hasInterval_19 (Or.inl rfl) hf
  · replace hf := hf.2 hc
    refine z_iload_n hC dX9_hasInterval_4 1 rfl rfl ?_
    refine z_aload_n hC dX9_hasInterval_5 0 rfl rfl ?_
    refine z_get hC (fun w h => uT _ w (uL9 w h)) (oX_9 qx0) 0 (by decide) (uT _ _ u196) rfl rfl dX9_hasInterval_6 ?_
    refine z_iconst hC dX9_hasInterval_9 ?_
    refine z_isub hC dX9_hasInterval_10 ?_
    obtain ⟨g2, hf⟩ := hf
    refine z_icmp_ge (tgt := 18) hC dX9_hasInterval_11 (by decide) g1 g2 (fun hc => ?_) (fun hc => ?_)
    · replace hf := hf.1 hc
      refine z_iconst hC dX9_hasInterval_18 ?_
      exact z_bret hC hr rfl dX9_hasInterval_19 (Or.inl rfl) hf
    · replace hf := hf.2 hc
      refine z_iconst hC dX9_hasInterval_14 ?_
      refine z_goto (tgt := 19) hC dX9_hasInterval_15 (by decide) ?_
      exact z_bret hC hr rfl dX9_hasInterval_19 (Or.inr rfl) hf

-- ===== X9_drilledIn
def fX9_drilledIn (K : Int → zSt → Prop) (σ : zSt) (x0 : Int) (x1 : Int) : Prop :=
  kX x0 = 9 ∧ fX9_hasInterval (fun r1 σ1 => zrg r1 ∧ ((r1 = 0 → K 0 σ1) ∧ (¬ r1 = 0 → (0 ≤ x1 + 1 ∧ x1 + 1 < 8) ∧ (0 ≤ x1 ∧ x1 < 8) ∧ zrg (σ1 (x0 + 6) (x1 + 1)) ∧ zrg (σ1 (x0 + 6) x1) ∧ ((σ1 (x0 + 6) x1 ≤ σ1 (x0 + 6) (x1 + 1) → K 0 σ1) ∧ (¬ σ1 (x0 + 6) x1 ≤ σ1 (x0 + 6) (x1 + 1) → K 1 σ1))))) σ x0 x1
set_option maxHeartbeats 4000000 in
set_option maxRecDepth 100000 in
theorem mX9_drilledIn {D : va_G} {dA : Nat → ClassId} {ad : Nat → Nat} {aL aG aI : Nat} {aK aV : Nat → Nat} (l : Launch) (hinj : ∀ i j, i < NX → j < NX → ad i = ad j → i = j) (sz : Nat) {K : Int → zSt → Prop} {σ : zSt} {x0 : Int} {x1 : Int} (hf : fX9_drilledIn K σ x0 x1) : Met l yX9_drilledIn (Cond.code yX9_drilledIn cX9_drilledIn 2 (some .boolean) :: UW) ({ frames := 1, cells := 0, slots := 0, locals := 21 } : Room) (va_Pc [vR ad x0, vI x1] (zPre D vwCl (tyA dA) (zXX aL aG aI aK aV) NX ad (celX ad dA) sz σ)) (va_Qi (zPi K) (zB D vwCl (tyA dA) NX ad (celX ad dA)) (zA ad NX sz)) 0 0 (zA ad NX sz) := by
  refine z_enter (cc := cX9_drilledIn) (maxL := 2) (ret := (some .boolean)) (vs := [vR ad x0, vI x1]) (plainFor_of_name (by decide)) rfl hinj (Nat.le_of_ble_eq_true rfl) ?_
  intro p e s m args below meth c hC hE hsz hr hnm
  obtain ⟨qx0, hf⟩ := hf
  show zAt p l e ({ frames := 1, cells := 0, slots := 0, locals := 21 } : Room) s m args below meth c 0 0 (MQ below (va_Qi (zPi K) (zB D vwCl (tyA dA) NX ad (celX ad dA)) (zA ad NX sz)) args s 0 0 (zA ad NX sz)) 2 D vwCl (zA ad NX sz) NX ad (celX ad dA) 0 [(0, vR ad x0), (1, vI x1)] [] σ
  refine z_aload_n hC dX9_drilledIn_0 0 rfl rfl ?_
  refine z_iload_n hC dX9_drilledIn_1 1 rfl rfl ?_
  refine z_callVi hC hE (oX_9 qx0) [vI x1] (fun sz2 => mX9_hasInterval l hinj sz2 hf) (cwV 1 hC.1.2.2.2.2 (uV (uT _) u1011 u1012 u1013 u110 u1014) rfl rfl rfl (by decide +kernel) ⟨Nat.le_of_ble_eq_true rfl, Nat.le_of_ble_eq_true rfl⟩) rfl rfl (Nat.le_of_ble_eq_true rfl) ⟨Nat.le_of_ble_eq_true rfl, Nat.le_of_ble_eq_true rfl⟩ dX9_drilledIn_2 (fun r1 σ1 hf => ?_)
  obtain ⟨g2, hf⟩ := hf
  refine z_if_eq (tgt := 29) hC dX9_drilledIn_5 (by decide) g2 (fun hc => ?_) (fun hc => ?_)
  · replace hf := hf.1 hc
    refine z_iconst hC dX9_drilledIn_29 ?_
    exact z_bret hC hr rfl dX9_drilledIn_30 (Or.inl rfl) hf
  · replace hf := hf.2 hc
    refine z_aload_n hC dX9_drilledIn_8 0 rfl rfl ?_
    refine z_get hC (fun w h => uT _ w (uL9 w h)) (oX_9 qx0) 2 (by decide) (uT _ _ u202) rfl rfl dX9_drilledIn_9 ?_
    refine z_iload_n hC dX9_drilledIn_12 1 rfl rfl ?_
    refine z_iconst hC dX9_drilledIn_13 ?_
    refine z_iadd hC dX9_drilledIn_14 ?_
    obtain ⟨g3, hf⟩ := hf
    refine z_iaload hC (aX_17 (kf_9_2 qx0)) g3 dX9_drilledIn_15 ?_
    refine z_aload_n hC dX9_drilledIn_16 0 rfl rfl ?_
    refine z_get hC (fun w h => uT _ w (uL9 w h)) (oX_9 qx0) 2 (by decide) (uT _ _ u202) rfl rfl dX9_drilledIn_17 ?_
    refine z_iload_n hC dX9_drilledIn_20 1 rfl rfl ?_
    obtain ⟨g4, hf⟩ := hf
    refine z_iaload hC (aX_17 (kf_9_2 qx0)) g4 dX9_drilledIn_21 ?_
    obtain ⟨g5, hf⟩ := hf
    obtain ⟨g6, hf⟩ := hf
    refine z_icmp_ge (tgt := 29) hC dX9_drilledIn_22 (by decide) g5 g6 (fun hc => ?_) (fun hc => ?_)
    · replace hf := hf.1 hc
      refine z_iconst hC dX9_drilledIn_29 ?_
      exact z_bret hC hr rfl dX9_drilledIn_30 (Or.inl rfl) hf
    · replace hf := hf.2 hc
      refine z_iconst hC dX9_drilledIn_25 ?_
      refine z_goto (tgt := 30) hC dX9_drilledIn_26 (by decide) ?_
      exact z_bret hC hr rfl dX9_drilledIn_30 (Or.inr rfl) hf

-- ===== X9_meltIn
def fX9_meltIn (K : Int → zSt → Prop) (σ : zSt) (x0 : Int) (x1 : Int) : Prop :=
  kX x0 = 9 ∧ fX9_hasInterval (fun r1 σ1 => zrg r1 ∧ ((r1 = 0 → K 0 σ1) ∧ (¬ r1 = 0 → (0 ≤ x1 ∧ x1 < 8) ∧ (0 ≤ x1 + 1 ∧ x1 + 1 < 8) ∧ zrg (σ1 (x0 + 6) (x1 + 1)) ∧ zrg (σ1 (x0 + 6) x1) ∧ ((σ1 (x0 + 6) x1 ≤ σ1 (x0 + 6) (x1 + 1) → K ((σ1 (x0 + 6) (x1 + 1)) - (σ1 (x0 + 6) x1)) σ1) ∧ (¬ σ1 (x0 + 6) x1 ≤ σ1 (x0 + 6) (x1 + 1) → K (σ1 (x0 + 6) (x1 + 1)) σ1))))) σ x0 x1
set_option maxHeartbeats 4000000 in
set_option maxRecDepth 100000 in
theorem mX9_meltIn {D : va_G} {dA : Nat → ClassId} {ad : Nat → Nat} {aL aG aI : Nat} {aK aV : Nat → Nat} (l : Launch) (hinj : ∀ i j, i < NX → j < NX → ad i = ad j → i = j) (sz : Nat) {K : Int → zSt → Prop} {σ : zSt} {x0 : Int} {x1 : Int} (hf : fX9_meltIn K σ x0 x1) : Met l yX9_meltIn (Cond.code yX9_meltIn cX9_meltIn 4 (some .int) :: UW) ({ frames := 1, cells := 0, slots := 0, locals := 21 } : Room) (va_Pc [vR ad x0, vI x1] (zPre D vwCl (tyA dA) (zXX aL aG aI aK aV) NX ad (celX ad dA) sz σ)) (va_Qi (zPi K) (zB D vwCl (tyA dA) NX ad (celX ad dA)) (zA ad NX sz)) 0 0 (zA ad NX sz) := by
  refine z_enter (cc := cX9_meltIn) (maxL := 4) (ret := (some .int)) (vs := [vR ad x0, vI x1]) (plainFor_of_name (by decide)) rfl hinj (Nat.le_of_ble_eq_true rfl) ?_
  intro p e s m args below meth c hC hE hsz hr hnm
  obtain ⟨qx0, hf⟩ := hf
  show zAt p l e ({ frames := 1, cells := 0, slots := 0, locals := 21 } : Room) s m args below meth c 0 0 (MQ below (va_Qi (zPi K) (zB D vwCl (tyA dA) NX ad (celX ad dA)) (zA ad NX sz)) args s 0 0 (zA ad NX sz)) 4 D vwCl (zA ad NX sz) NX ad (celX ad dA) 0 [(0, vR ad x0), (1, vI x1)] [] σ
  refine z_aload_n hC dX9_meltIn_0 0 rfl rfl ?_
  refine z_iload_n hC dX9_meltIn_1 1 rfl rfl ?_
  refine z_callVi hC hE (oX_9 qx0) [vI x1] (fun sz2 => mX9_hasInterval l hinj sz2 hf) (cwV 1 hC.1.2.2.2.2 (uV (uT _) u1011 u1012 u1013 u110 u1014) rfl rfl rfl (by decide +kernel) ⟨Nat.le_of_ble_eq_true rfl, Nat.le_of_ble_eq_true rfl⟩) rfl rfl (Nat.le_of_ble_eq_true rfl) ⟨Nat.le_of_ble_eq_true rfl, Nat.le_of_ble_eq_true rfl⟩ dX9_meltIn_2 (fun r1 σ1 hf => ?_)
  obtain ⟨g2, hf⟩ := hf
  refine z_if_ne (tgt := 10) hC dX9_meltIn_5 (by decide) g2 (fun hc => ?_) (fun hc => ?_)
  · replace hf := hf.2 hc
    refine z_aload_n hC dX9_meltIn_10 0 rfl rfl ?_
    refine z_get hC (fun w h => uT _ w (uL9 w h)) (oX_9 qx0) 2 (by decide) (uT _ _ u202) rfl rfl dX9_meltIn_11 ?_
    refine z_iload_n hC dX9_meltIn_14 1 rfl rfl ?_
    obtain ⟨g3, hf⟩ := hf
    refine z_iaload hC (aX_17 (kf_9_2 qx0)) g3 dX9_meltIn_15 ?_
    refine z_istore_n hC ([(2, vI (σ1 (x0 + 6) x1)), (0, vR ad x0), (1, vI x1)]) dX9_meltIn_16 rfl (by decide) rfl ?_
    refine z_aload_n hC dX9_meltIn_17 1 rfl rfl ?_
    refine z_get hC (fun w h => uT _ w (uL9 w h)) (oX_9 qx0) 2 (by decide) (uT _ _ u202) rfl rfl dX9_meltIn_18 ?_
    refine z_iload_n hC dX9_meltIn_21 2 rfl rfl ?_
    refine z_iconst hC dX9_meltIn_22 ?_
    refine z_iadd hC dX9_meltIn_23 ?_
    obtain ⟨g4, hf⟩ := hf
    refine z_iaload hC (aX_17 (kf_9_2 qx0)) g4 dX9_meltIn_24 ?_
    refine z_istore_n hC ([(3, vI (σ1 (x0 + 6) (x1 + 1))), (2, vI (σ1 (x0 + 6) x1)), (0, vR ad x0), (1, vI x1)]) dX9_meltIn_25 rfl (by decide) rfl ?_
    refine z_iload_n hC dX9_meltIn_26 0 rfl rfl ?_
    refine z_iload_n hC dX9_meltIn_27 1 rfl rfl ?_
    obtain ⟨g5, hf⟩ := hf
    obtain ⟨g6, hf⟩ := hf
    refine z_icmp_ge (tgt := 35) hC dX9_meltIn_28 (by decide) g5 g6 (fun hc => ?_) (fun hc => ?_)
    · replace hf := hf.1 hc
      refine z_iload_n hC dX9_meltIn_35 0 rfl rfl ?_
      refine z_iload_n hC dX9_meltIn_36 1 rfl rfl ?_
      refine z_isub hC dX9_meltIn_37 ?_
      exact z_iret hC hr rfl dX9_meltIn_38 hf
    · replace hf := hf.2 hc
      refine z_iload_n hC dX9_meltIn_31 0 rfl rfl ?_
      refine z_goto (tgt := 38) hC dX9_meltIn_32 (by decide) ?_
      exact z_iret hC hr rfl dX9_meltIn_38 hf
  · replace hf := hf.1 hc
    refine z_iconst hC dX9_meltIn_8 ?_
    exact z_iret hC hr rfl dX9_meltIn_9 hf

-- ===== X9_daysOf
def fX9_daysOf (K : Int → zSt → Prop) (σ : zSt) (x0 : Int) (x1 : Int) : Prop :=
  kX x0 = 9 ∧ fX9_hasInterval (fun r1 σ1 => zrg r1 ∧ ((r1 = 0 → K 0 σ1) ∧ (¬ r1 = 0 → (0 ≤ x1 + 1 ∧ x1 + 1 < 8) ∧ (0 ≤ x1 ∧ x1 < 8) ∧ K ((σ1 (x0 + 3) (x1 + 1)) - (σ1 (x0 + 3) x1)) σ1))) σ x0 x1
set_option maxHeartbeats 4000000 in
set_option maxRecDepth 100000 in
theorem mX9_daysOf {D : va_G} {dA : Nat → ClassId} {ad : Nat → Nat} {aL aG aI : Nat} {aK aV : Nat → Nat} (l : Launch) (hinj : ∀ i j, i < NX → j < NX → ad i = ad j → i = j) (sz : Nat) {K : Int → zSt → Prop} {σ : zSt} {x0 : Int} {x1 : Int} (hf : fX9_daysOf K σ x0 x1) : Met l yX9_daysOf (Cond.code yX9_daysOf cX9_daysOf 2 (some .int) :: UW) ({ frames := 1, cells := 0, slots := 0, locals := 21 } : Room) (va_Pc [vR ad x0, vI x1] (zPre D vwCl (tyA dA) (zXX aL aG aI aK aV) NX ad (celX ad dA) sz σ)) (va_Qi (zPi K) (zB D vwCl (tyA dA) NX ad (celX ad dA)) (zA ad NX sz)) 0 0 (zA ad NX sz) := by
  refine z_enter (cc := cX9_daysOf) (maxL := 2) (ret := (some .int)) (vs := [vR ad x0, vI x1]) (plainFor_of_name (by decide)) rfl hinj (Nat.le_of_ble_eq_true rfl) ?_
  intro p e s m args below meth c hC hE hsz hr hnm
  obtain ⟨qx0, hf⟩ := hf
  show zAt p l e ({ frames := 1, cells := 0, slots := 0, locals := 21 } : Room) s m args below meth c 0 0 (MQ below (va_Qi (zPi K) (zB D vwCl (tyA dA) NX ad (celX ad dA)) (zA ad NX sz)) args s 0 0 (zA ad NX sz)) 2 D vwCl (zA ad NX sz) NX ad (celX ad dA) 0 [(0, vR ad x0), (1, vI x1)] [] σ
  refine z_aload_n hC dX9_daysOf_0 0 rfl rfl ?_
  refine z_iload_n hC dX9_daysOf_1 1 rfl rfl ?_
  refine z_callVi hC hE (oX_9 qx0) [vI x1] (fun sz2 => mX9_hasInterval l hinj sz2 hf) (cwV 1 hC.1.2.2.2.2 (uV (uT _) u1011 u1012 u1013 u110 u1014) rfl rfl rfl (by decide +kernel) ⟨Nat.le_of_ble_eq_true rfl, Nat.le_of_ble_eq_true rfl⟩) rfl rfl (Nat.le_of_ble_eq_true rfl) ⟨Nat.le_of_ble_eq_true rfl, Nat.le_of_ble_eq_true rfl⟩ dX9_daysOf_2 (fun r1 σ1 hf => ?_)
  obtain ⟨g2, hf⟩ := hf
  refine z_if_eq (tgt := 26) hC dX9_daysOf_5 (by decide) g2 (fun hc => ?_) (fun hc => ?_)
  · replace hf := hf.1 hc
    refine z_iconst hC dX9_daysOf_26 ?_
    exact z_iret hC hr rfl dX9_daysOf_27 hf
  · replace hf := hf.2 hc
    refine z_aload_n hC dX9_daysOf_8 0 rfl rfl ?_
    refine z_get hC (fun w h => uT _ w (uL9 w h)) (oX_9 qx0) 1 (by decide) (uT _ _ u199) rfl rfl dX9_daysOf_9 ?_
    refine z_iload_n hC dX9_daysOf_12 1 rfl rfl ?_
    refine z_iconst hC dX9_daysOf_13 ?_
    refine z_iadd hC dX9_daysOf_14 ?_
    obtain ⟨g3, hf⟩ := hf
    refine z_iaload hC (aX_17 (kf_9_1 qx0)) g3 dX9_daysOf_15 ?_
    refine z_aload_n hC dX9_daysOf_16 0 rfl rfl ?_
    refine z_get hC (fun w h => uT _ w (uL9 w h)) (oX_9 qx0) 1 (by decide) (uT _ _ u199) rfl rfl dX9_daysOf_17 ?_
    refine z_iload_n hC dX9_daysOf_20 1 rfl rfl ?_
    obtain ⟨g4, hf⟩ := hf
    refine z_iaload hC (aX_17 (kf_9_1 qx0)) g4 dX9_daysOf_21 ?_
    refine z_isub hC dX9_daysOf_22 ?_
    refine z_goto (tgt := 27) hC dX9_daysOf_23 (by decide) ?_
    exact z_iret hC hr rfl dX9_daysOf_27 hf

-- ===== X9_meltsFaster
def fX9_meltsFaster (K : Int → zSt → Prop) (σ : zSt) (x0 : Int) (x1 : Int) (x2 : Int) : Prop :=
  kX x0 = 9 ∧ fX9_meltIn (fun r1 σ1 => zrg r1 ∧ fX9_daysOf (fun r3 σ3 => zrg r3 ∧ fX9_meltIn (fun r5 σ5 => zrg r5 ∧ fX9_daysOf (fun r7 σ7 => zrg r7 ∧ zrl (r1 * r3) ∧ zrl (r5 * r7) ∧ ((zcmp (r1 * r3) (r5 * r7) ≤ 0 → K 0 σ7) ∧ (¬ zcmp (r1 * r3) (r5 * r7) ≤ 0 → K 1 σ7))) σ5 x0 x1) σ3 x0 x2) σ1 x0 x2) σ x0 x1
set_option maxHeartbeats 4000000 in
set_option maxRecDepth 100000 in
theorem mX9_meltsFaster {D : va_G} {dA : Nat → ClassId} {ad : Nat → Nat} {aL aG aI : Nat} {aK aV : Nat → Nat} (l : Launch) (hinj : ∀ i j, i < NX → j < NX → ad i = ad j → i = j) (sz : Nat) {K : Int → zSt → Prop} {σ : zSt} {x0 : Int} {x1 : Int} {x2 : Int} (hf : fX9_meltsFaster K σ x0 x1 x2) : Met l yX9_meltsFaster (Cond.code yX9_meltsFaster cX9_meltsFaster 3 (some .boolean) :: UW) ({ frames := 2, cells := 0, slots := 0, locals := 44 } : Room) (va_Pc [vR ad x0, vI x1, vI x2] (zPre D vwCl (tyA dA) (zXX aL aG aI aK aV) NX ad (celX ad dA) sz σ)) (va_Qi (zPi K) (zB D vwCl (tyA dA) NX ad (celX ad dA)) (zA ad NX sz)) 0 0 (zA ad NX sz) := by
  refine z_enter (cc := cX9_meltsFaster) (maxL := 3) (ret := (some .boolean)) (vs := [vR ad x0, vI x1, vI x2]) (plainFor_of_name (by decide)) rfl hinj (Nat.le_of_ble_eq_true rfl) ?_
  intro p e s m args below meth c hC hE hsz hr hnm
  obtain ⟨qx0, hf⟩ := hf
  show zAt p l e ({ frames := 2, cells := 0, slots := 0, locals := 44 } : Room) s m args below meth c 0 0 (MQ below (va_Qi (zPi K) (zB D vwCl (tyA dA) NX ad (celX ad dA)) (zA ad NX sz)) args s 0 0 (zA ad NX sz)) 3 D vwCl (zA ad NX sz) NX ad (celX ad dA) 0 [(0, vR ad x0), (1, vI x1), (2, vI x2)] [] σ
  refine z_aload_n hC dX9_meltsFaster_0 0 rfl rfl ?_
  refine z_iload_n hC dX9_meltsFaster_1 1 rfl rfl ?_
  refine z_callVi hC hE (oX_9 qx0) [vI x1] (fun sz2 => mX9_meltIn l hinj sz2 hf) (cwV 1 hC.1.2.2.2.2 (uV (uT _) u1017 u1018 u1019 u110 u1020) rfl rfl rfl (by decide +kernel) ⟨Nat.le_of_ble_eq_true rfl, Nat.le_of_ble_eq_true rfl⟩) rfl rfl (Nat.le_of_ble_eq_true rfl) ⟨Nat.le_of_ble_eq_true rfl, Nat.le_of_ble_eq_true rfl⟩ dX9_meltsFaster_2 (fun r1 σ1 hf => ?_)
  obtain ⟨g2, hf⟩ := hf
  refine z_i2l hC dX9_meltsFaster_5 g2 ?_
  refine z_aload_n hC dX9_meltsFaster_6 0 rfl rfl ?_
  refine z_iload_n hC dX9_meltsFaster_7 2 rfl rfl ?_
  refine z_callVi hC hE (oX_9 qx0) [vI x2] (fun sz2 => mX9_daysOf l hinj sz2 hf) (cwV 1 hC.1.2.2.2.2 (uV (uT _) u1007 u1008 u1009 u110 u1010) rfl rfl rfl (by decide +kernel) ⟨Nat.le_of_ble_eq_true rfl, Nat.le_of_ble_eq_true rfl⟩) rfl rfl (Nat.le_of_ble_eq_true rfl) ⟨Nat.le_of_ble_eq_true rfl, Nat.le_of_ble_eq_true rfl⟩ dX9_meltsFaster_8 (fun r3 σ3 hf => ?_)
  obtain ⟨g4, hf⟩ := hf
  refine z_i2l hC dX9_meltsFaster_11 g4 ?_
  refine z_lmul hC dX9_meltsFaster_12 ?_
  refine z_aload_n hC dX9_meltsFaster_13 0 rfl rfl ?_
  refine z_iload_n hC dX9_meltsFaster_14 2 rfl rfl ?_
  refine z_callVi hC hE (oX_9 qx0) [vI x2] (fun sz2 => mX9_meltIn l hinj sz2 hf) (cwV 1 hC.1.2.2.2.2 (uV (uT _) u1017 u1018 u1019 u110 u1020) rfl rfl rfl (by decide +kernel) ⟨Nat.le_of_ble_eq_true rfl, Nat.le_of_ble_eq_true rfl⟩) rfl rfl (Nat.le_of_ble_eq_true rfl) ⟨Nat.le_of_ble_eq_true rfl, Nat.le_of_ble_eq_true rfl⟩ dX9_meltsFaster_15 (fun r5 σ5 hf => ?_)
  obtain ⟨g6, hf⟩ := hf
  refine z_i2l hC dX9_meltsFaster_18 g6 ?_
  refine z_aload_n hC dX9_meltsFaster_19 0 rfl rfl ?_
  refine z_iload_n hC dX9_meltsFaster_20 1 rfl rfl ?_
  refine z_callVi hC hE (oX_9 qx0) [vI x1] (fun sz2 => mX9_daysOf l hinj sz2 hf) (cwV 1 hC.1.2.2.2.2 (uV (uT _) u1007 u1008 u1009 u110 u1010) rfl rfl rfl (by decide +kernel) ⟨Nat.le_of_ble_eq_true rfl, Nat.le_of_ble_eq_true rfl⟩) rfl rfl (Nat.le_of_ble_eq_true rfl) ⟨Nat.le_of_ble_eq_true rfl, Nat.le_of_ble_eq_true rfl⟩ dX9_meltsFaster_21 (fun r7 σ7 hf => ?_)
  obtain ⟨g8, hf⟩ := hf
  refine z_i2l hC dX9_meltsFaster_24 g8 ?_
  refine z_lmul hC dX9_meltsFaster_25 ?_
  obtain ⟨g9, hf⟩ := hf
  obtain ⟨g10, hf⟩ := hf
  refine z_lcmp hC g9 g10 dX9_meltsFaster_26 ?_
  refine z_if_le (tgt := 34) hC dX9_meltsFaster_27 (by decide) (zcmp_rg _ _) (fun hc => ?_) (fun hc => ?_)
  · replace hf := hf.1 hc
    refine z_iconst hC dX9_meltsFaster_34 ?_
    exact z_bret hC hr rfl dX9_meltsFaster_35 (Or.inl rfl) hf
  · replace hf := hf.2 hc
    refine z_iconst hC dX9_meltsFaster_30 ?_
    refine z_goto (tgt := 35) hC dX9_meltsFaster_31 (by decide) ?_
    exact z_bret hC hr rfl dX9_meltsFaster_35 (Or.inr rfl) hf

-- ===== X9_totalTo
noncomputable def fX9_totalTo_B38 (K : Int → zSt → Prop) (n : Nat) : zSt → Int → Int → Int → Int → Prop :=
  Nat.rec (motive := fun _ => zSt → Int → Int → Int → Int → Prop) (fun _ _ _ _ _ => False) (fun _ ih σ x0 x1 x2 x3 => zrg x3 ∧ zrg ((σ x0 0) - 1) ∧ (((σ x0 0) - 1 ≤ x3 → K x2 σ) ∧ (¬ (σ x0 0) - 1 ≤ x3 → (0 ≤ x3 ∧ x3 < 8) ∧ zrg (σ (x0 + 3) x3) ∧ zrg x1 ∧ ((x1 ≤ σ (x0 + 3) x3 → K x2 σ) ∧ (¬ x1 ≤ σ (x0 + 3) x3 → fX9_daysOf (fun r11 σ11 => zrg (x1 - (σ11 (x0 + 3) x3)) ∧ zrg r11 ∧ ((r11 ≤ 0 → ih σ11 x0 x1 (x2 + 0) (x3 + 1)) ∧ (¬ r11 ≤ 0 → fX9_meltIn (fun r14 σ14 => zrg r14 ∧ zrg (min (x1 - (σ11 (x0 + 3) x3)) r11) ∧ zrl ((100 * r14) * (min (x1 - (σ11 (x0 + 3) x3)) r11)) ∧ zrl r11 ∧ ¬ r11 = 0 ∧ ∀ y20, y20 = x2 + (((100 * r14) * (min (x1 - (σ11 (x0 + 3) x3)) r11)).tdiv r11) → ih σ14 x0 x1 y20 (x3 + 1)) σ11 x0 x3))) σ x0 x3))))) n
theorem uX9_totalTo_B38 (K : Int → zSt → Prop) (n0 : Nat) (σ : zSt) (x0 : Int) (x1 : Int) (x2 : Int) (x3 : Int) : fX9_totalTo_B38 K (n0 + 1) σ x0 x1 x2 x3 = (zrg x3 ∧ zrg ((σ x0 0) - 1) ∧ (((σ x0 0) - 1 ≤ x3 → K x2 σ) ∧ (¬ (σ x0 0) - 1 ≤ x3 → (0 ≤ x3 ∧ x3 < 8) ∧ zrg (σ (x0 + 3) x3) ∧ zrg x1 ∧ ((x1 ≤ σ (x0 + 3) x3 → K x2 σ) ∧ (¬ x1 ≤ σ (x0 + 3) x3 → fX9_daysOf (fun r11 σ11 => zrg (x1 - (σ11 (x0 + 3) x3)) ∧ zrg r11 ∧ ((r11 ≤ 0 → (fX9_totalTo_B38 K n0) σ11 x0 x1 (x2 + 0) (x3 + 1)) ∧ (¬ r11 ≤ 0 → fX9_meltIn (fun r14 σ14 => zrg r14 ∧ zrg (min (x1 - (σ11 (x0 + 3) x3)) r11) ∧ zrl ((100 * r14) * (min (x1 - (σ11 (x0 + 3) x3)) r11)) ∧ zrl r11 ∧ ¬ r11 = 0 ∧ ∀ y20, y20 = x2 + (((100 * r14) * (min (x1 - (σ11 (x0 + 3) x3)) r11)).tdiv r11) → (fX9_totalTo_B38 K n0) σ14 x0 x1 y20 (x3 + 1)) σ11 x0 x3))) σ x0 x3))))) := rfl
def fX9_totalTo (K : Int → zSt → Prop) (σ : zSt) (x0 : Int) (x1 : Int) : Prop :=
  kX x0 = 9 ∧ zrg (σ x0 0) ∧ ((σ x0 0 = 0 → K (-1) σ) ∧ (¬ σ x0 0 = 0 → zrg x1 ∧ zrg (σ (x0 + 3) 0) ∧ ((x1 < σ (x0 + 3) 0 → K (-1) σ) ∧ (¬ x1 < σ (x0 + 3) 0 → (0 ≤ (σ x0 0) - 1 ∧ (σ x0 0) - 1 < 8) ∧ zrg (σ (x0 + 3) ((σ x0 0) - 1)) ∧ ((x1 ≤ σ (x0 + 3) ((σ x0 0) - 1) → (∃ n, fX9_totalTo_B38 K n σ x0 x1 0 0)) ∧ (¬ x1 ≤ σ (x0 + 3) ((σ x0 0) - 1) → K (-1) σ))))))
set_option maxHeartbeats 4000000 in
set_option maxRecDepth 100000 in
theorem wX9_totalTo_B38 {p : Program} {l : Launch} {e : Env} {s : State} {m : MethodId} {args : Array Value} {below : List Frame} {meth : Method} {c : Code} {D : va_G} {dA : Nat → ClassId} {ad : Nat → Nat} {sz : Nat} {aL aG aI : Nat} {aK aV : Nat → Nat} {K : Int → zSt → Prop} (hC : zC p m c cX9_totalTo 6 s args (Cond.code yX9_totalTo cX9_totalTo 6 (some .int) :: UW) RX9 meth D vwCl (tyA dA) (zA ad NX sz) NX ad (celX ad dA)) (hE : zE (zXX aL aG aI aK aV) (zA ad NX sz) s s.heap) (hr : meth.sig.returnType = (some .int)) (hinj : ∀ i j, i < NX → j < NX → ad i = ad j → i = j) : ∀ (n : Nat) (σ : zSt) (x0 : Int) (x1 : Int) (x2 : Int) (x3 : Int) (qx0 : kX x0 = 9), fX9_totalTo_B38 K n σ x0 x1 x2 x3 → zAt p l e ({ frames := 2, cells := 0, slots := 0, locals := 44 } : Room) s m args below meth c 0 0 (MQ below (va_Qi (zPi K) (zB D vwCl (tyA dA) NX ad (celX ad dA)) (zA ad NX sz)) args s 0 0 (zA ad NX sz)) 6 D vwCl (zA ad NX sz) NX ad (celX ad dA) 38 [(0, vR ad x0), (1, vI x1), (2, vI x2), (3, vI x3)] [] σ := by
  intro n
  induction n with
  | zero => intro σ x0 x1 x2 x3 qx0 hf; exact False.elim hf
  | succ n ih =>
    intro σ x0 x1 x2 x3 qx0 hf
    rw [uX9_totalTo_B38] at hf
    refine z_iload_n hC dX9_totalTo_38 3 rfl rfl ?_
    refine z_aload_n hC dX9_totalTo_39 0 rfl rfl ?_
    refine z_get hC (fun w h => uT _ w (uL9 w h)) (oX_9 qx0) 0 (by decide) (uT _ _ u196) rfl rfl dX9_totalTo_40 ?_
    refine z_iconst hC dX9_totalTo_43 ?_
    refine z_isub hC dX9_totalTo_44 ?_
    obtain ⟨g6, hf⟩ := hf
    obtain ⟨g7, hf⟩ := hf
    refine z_icmp_ge (tgt := 117) hC dX9_totalTo_45 (by decide) g6 g7 (fun hc => ?_) (fun hc => ?_)
    · replace hf := hf.1 hc
      refine z_iload_n hC dX9_totalTo_117 2 rfl rfl ?_
      exact z_iret hC hr rfl dX9_totalTo_118 hf
    · replace hf := hf.2 hc
      refine z_aload_n hC dX9_totalTo_48 0 rfl rfl ?_
      refine z_get hC (fun w h => uT _ w (uL9 w h)) (oX_9 qx0) 1 (by decide) (uT _ _ u199) rfl rfl dX9_totalTo_49 ?_
      refine z_iload_n hC dX9_totalTo_52 3 rfl rfl ?_
      obtain ⟨g8, hf⟩ := hf
      refine z_iaload hC (aX_17 (kf_9_1 qx0)) g8 dX9_totalTo_53 ?_
      refine z_iload_n hC dX9_totalTo_54 1 rfl rfl ?_
      obtain ⟨g9, hf⟩ := hf
      obtain ⟨g10, hf⟩ := hf
      refine z_icmp_ge (tgt := 117) hC dX9_totalTo_55 (by decide) g9 g10 (fun hc => ?_) (fun hc => ?_)
      · replace hf := hf.1 hc
        refine z_iload_n hC dX9_totalTo_117 2 rfl rfl ?_
        exact z_iret hC hr rfl dX9_totalTo_118 hf
      · replace hf := hf.2 hc
        refine z_aload_n hC dX9_totalTo_58 0 rfl rfl ?_
        refine z_iload_n hC dX9_totalTo_59 3 rfl rfl ?_
        refine z_callVi hC hE (oX_9 qx0) [vI x3] (fun sz2 => mX9_daysOf l hinj sz2 hf) (cwV 1 hC.1.2.2.2.2 (uV (uT _) u1007 u1008 u1009 u110 u1010) rfl rfl rfl (by decide +kernel) ⟨Nat.le_of_ble_eq_true rfl, Nat.le_of_ble_eq_true rfl⟩) rfl rfl (Nat.le_of_ble_eq_true rfl) ⟨Nat.le_of_ble_eq_true rfl, Nat.le_of_ble_eq_true rfl⟩ dX9_totalTo_60 (fun r11 σ11 hf => ?_)
        refine z_istore hC ([(4, vI r11), (0, vR ad x0), (1, vI x1), (2, vI x2), (3, vI x3)]) dX9_totalTo_63 (by decide) rfl ?_
        refine z_iload_n hC dX9_totalTo_65 2 rfl rfl ?_
        refine z_aload_n hC dX9_totalTo_66 1 rfl rfl ?_
        refine z_get hC (fun w h => uT _ w (uL9 w h)) (oX_9 qx0) 1 (by decide) (uT _ _ u199) rfl rfl dX9_totalTo_67 ?_
        refine z_iload_n hC dX9_totalTo_70 4 rfl rfl ?_
        refine z_iaload hC (aX_17 (kf_9_1 qx0)) g8 dX9_totalTo_71 ?_
        refine z_isub hC dX9_totalTo_72 ?_
        refine z_iload hC dX9_totalTo_73 0 rfl ?_
        obtain ⟨g12, hf⟩ := hf
        obtain ⟨g13, hf⟩ := hf
        refine z_mmin hC g12 g13 (fun w h => uT _ w (uC u1015 (uC u153 (uC u108 (uC u154 uN))) w h)) (Nat.le_of_ble_eq_true rfl) (Nat.le_of_ble_eq_true rfl) ⟨Nat.le_of_ble_eq_true rfl, Nat.le_of_ble_eq_true rfl⟩ dX9_totalTo_75 ?_
        refine z_istore hC ([(5, vI (min (x1 - (σ11 (x0 + 3) x3)) r11)), (4, vI r11), (0, vR ad x0), (1, vI x1), (2, vI x2), (3, vI x3)]) dX9_totalTo_78 (by decide) rfl ?_
        refine z_iload_n hC dX9_totalTo_80 4 rfl rfl ?_
        refine z_iload hC dX9_totalTo_81 1 rfl ?_
        refine z_if_le (tgt := 108) hC dX9_totalTo_83 (by decide) g13 (fun hc => ?_) (fun hc => ?_)
        · replace hf := hf.1 hc
          refine z_iconst hC dX9_totalTo_108 ?_
          refine z_iadd hC dX9_totalTo_109 ?_
          refine z_istore_n hC ([(2, vI (x2 + 0)), (5, vI (min (x1 - (σ11 (x0 + 3) x3)) r11)), (4, vI r11), (0, vR ad x0), (1, vI x1), (3, vI x3)]) dX9_totalTo_110 rfl (by decide) rfl ?_
          refine z_iinc hC ([(3, vI (x3 + 1)), (2, vI (x2 + 0)), (5, vI (min (x1 - (σ11 (x0 + 3) x3)) r11)), (4, vI r11), (0, vR ad x0), (1, vI x1)]) dX9_totalTo_111 5 rfl (by decide) rfl ?_
          refine z_goto (tgt := 38) hC dX9_totalTo_114 (by decide) ?_
          refine z_sub (lv' := [(0, vR ad x0), (1, vI x1), (2, vI (x2 + 0)), (3, vI (x3 + 1))]) [4, 5, 1, 0] rfl ?_
          exact ih _ _ _ _ _ qx0 hf
        · replace hf := hf.2 hc
          refine z_ldc2 hC (n := 100) (uT _ _ u1016) (by decide) dX9_totalTo_86 ?_
          refine z_aload_n hC dX9_totalTo_89 2 rfl rfl ?_
          refine z_iload_n hC dX9_totalTo_90 5 rfl rfl ?_
          refine z_callVi hC hE (oX_9 qx0) [vI x3] (fun sz2 => mX9_meltIn l hinj sz2 hf) (cwV 1 hC.1.2.2.2.2 (uV (uT _) u1017 u1018 u1019 u110 u1020) rfl rfl rfl (by decide +kernel) ⟨Nat.le_of_ble_eq_true rfl, Nat.le_of_ble_eq_true rfl⟩) rfl rfl (Nat.le_of_ble_eq_true rfl) ⟨Nat.le_of_ble_eq_true rfl, Nat.le_of_ble_eq_true rfl⟩ dX9_totalTo_91 (fun r14 σ14 hf => ?_)
          obtain ⟨g15, hf⟩ := hf
          refine z_i2l hC dX9_totalTo_94 g15 ?_
          refine z_lmul hC dX9_totalTo_95 ?_
          refine z_iload hC dX9_totalTo_96 0 rfl ?_
          obtain ⟨g16, hf⟩ := hf
          refine z_i2l hC dX9_totalTo_98 g16 ?_
          refine z_lmul hC dX9_totalTo_99 ?_
          refine z_iload hC dX9_totalTo_100 1 rfl ?_
          refine z_i2l hC dX9_totalTo_102 g13 ?_
          obtain ⟨g17, hf⟩ := hf
          obtain ⟨g18, hf⟩ := hf
          obtain ⟨g19, hf⟩ := hf
          refine z_ldiv hC dX9_totalTo_103 g17 g18 g19 ?_
          refine z_l2i hC dX9_totalTo_104 ?_
          refine z_goto (tgt := 109) hC dX9_totalTo_105 (by decide) ?_
          refine z_iadd hC dX9_totalTo_109 ?_
          obtain ⟨y20, ey20⟩ : ∃ z : Int, z = x2 + (((100 * r14) * (min (x1 - (σ11 (x0 + 3) x3)) r11)).tdiv r11) := ⟨_, rfl⟩
          rw [← ey20]
          replace hf := hf y20 ey20
          refine z_istore_n hC ([(2, vI y20), (5, vI (min (x1 - (σ11 (x0 + 3) x3)) r11)), (4, vI r11), (0, vR ad x0), (1, vI x1), (3, vI x3)]) dX9_totalTo_110 rfl (by decide) rfl ?_
          refine z_iinc hC ([(3, vI (x3 + 1)), (2, vI y20), (5, vI (min (x1 - (σ11 (x0 + 3) x3)) r11)), (4, vI r11), (0, vR ad x0), (1, vI x1)]) dX9_totalTo_111 5 rfl (by decide) rfl ?_
          refine z_goto (tgt := 38) hC dX9_totalTo_114 (by decide) ?_
          refine z_sub (lv' := [(0, vR ad x0), (1, vI x1), (2, vI y20), (3, vI (x3 + 1))]) [4, 5, 1, 0] rfl ?_
          exact ih _ _ _ _ _ qx0 hf
set_option maxHeartbeats 4000000 in
set_option maxRecDepth 100000 in
theorem mX9_totalTo {D : va_G} {dA : Nat → ClassId} {ad : Nat → Nat} {aL aG aI : Nat} {aK aV : Nat → Nat} (l : Launch) (hinj : ∀ i j, i < NX → j < NX → ad i = ad j → i = j) (sz : Nat) {K : Int → zSt → Prop} {σ : zSt} {x0 : Int} {x1 : Int} (hf : fX9_totalTo K σ x0 x1) : Met l yX9_totalTo (Cond.code yX9_totalTo cX9_totalTo 6 (some .int) :: UW) ({ frames := 2, cells := 0, slots := 0, locals := 44 } : Room) (va_Pc [vR ad x0, vI x1] (zPre D vwCl (tyA dA) (zXX aL aG aI aK aV) NX ad (celX ad dA) sz σ)) (va_Qi (zPi K) (zB D vwCl (tyA dA) NX ad (celX ad dA)) (zA ad NX sz)) 0 0 (zA ad NX sz) := by
  refine z_enter (cc := cX9_totalTo) (maxL := 6) (ret := (some .int)) (vs := [vR ad x0, vI x1]) (plainFor_of_name (by decide)) rfl hinj (Nat.le_of_ble_eq_true rfl) ?_
  intro p e s m args below meth c hC hE hsz hr hnm
  obtain ⟨qx0, hf⟩ := hf
  show zAt p l e ({ frames := 2, cells := 0, slots := 0, locals := 44 } : Room) s m args below meth c 0 0 (MQ below (va_Qi (zPi K) (zB D vwCl (tyA dA) NX ad (celX ad dA)) (zA ad NX sz)) args s 0 0 (zA ad NX sz)) 6 D vwCl (zA ad NX sz) NX ad (celX ad dA) 0 [(0, vR ad x0), (1, vI x1)] [] σ
  refine z_aload_n hC dX9_totalTo_0 0 rfl rfl ?_
  refine z_get hC (fun w h => uT _ w (uL9 w h)) (oX_9 qx0) 0 (by decide) (uT _ _ u196) rfl rfl dX9_totalTo_1 ?_
  obtain ⟨g1, hf⟩ := hf
  refine z_if_eq (tgt := 32) hC dX9_totalTo_4 (by decide) g1 (fun hc => ?_) (fun hc => ?_)
  · replace hf := hf.1 hc
    refine z_iconst hC dX9_totalTo_32 ?_
    exact z_iret hC hr rfl dX9_totalTo_33 hf
  · replace hf := hf.2 hc
    refine z_iload_n hC dX9_totalTo_7 1 rfl rfl ?_
    refine z_aload_n hC dX9_totalTo_8 0 rfl rfl ?_
    refine z_get hC (fun w h => uT _ w (uL9 w h)) (oX_9 qx0) 1 (by decide) (uT _ _ u199) rfl rfl dX9_totalTo_9 ?_
    refine z_iconst hC dX9_totalTo_12 ?_
    refine z_iaload hC (aX_17 (kf_9_1 qx0)) ⟨by decide, by decide⟩ dX9_totalTo_13 ?_
    obtain ⟨g2, hf⟩ := hf
    obtain ⟨g3, hf⟩ := hf
    refine z_icmp_lt (tgt := 32) hC dX9_totalTo_14 (by decide) g2 g3 (fun hc => ?_) (fun hc => ?_)
    · replace hf := hf.1 hc
      refine z_iconst hC dX9_totalTo_32 ?_
      exact z_iret hC hr rfl dX9_totalTo_33 hf
    · replace hf := hf.2 hc
      refine z_iload_n hC dX9_totalTo_17 1 rfl rfl ?_
      refine z_aload_n hC dX9_totalTo_18 0 rfl rfl ?_
      refine z_get hC (fun w h => uT _ w (uL9 w h)) (oX_9 qx0) 1 (by decide) (uT _ _ u199) rfl rfl dX9_totalTo_19 ?_
      refine z_aload_n hC dX9_totalTo_22 0 rfl rfl ?_
      refine z_get hC (fun w h => uT _ w (uL9 w h)) (oX_9 qx0) 0 (by decide) (uT _ _ u196) rfl rfl dX9_totalTo_23 ?_
      refine z_iconst hC dX9_totalTo_26 ?_
      refine z_isub hC dX9_totalTo_27 ?_
      obtain ⟨g4, hf⟩ := hf
      refine z_iaload hC (aX_17 (kf_9_1 qx0)) g4 dX9_totalTo_28 ?_
      obtain ⟨g5, hf⟩ := hf
      refine z_icmp_le (tgt := 34) hC dX9_totalTo_29 (by decide) g2 g5 (fun hc => ?_) (fun hc => ?_)
      · replace hf := hf.1 hc
        refine z_iconst hC dX9_totalTo_34 ?_
        refine z_istore_n hC ([(2, vI 0), (0, vR ad x0), (1, vI x1)]) dX9_totalTo_35 rfl (by decide) rfl ?_
        refine z_iconst hC dX9_totalTo_36 ?_
        refine z_istore_n hC ([(3, vI 0), (2, vI 0), (0, vR ad x0), (1, vI x1)]) dX9_totalTo_37 rfl (by decide) rfl ?_
        refine z_sub (lv' := [(0, vR ad x0), (1, vI x1), (2, vI 0), (3, vI 0)]) [2, 3, 1, 0] rfl ?_
        obtain ⟨n, hf⟩ := hf
        exact wX9_totalTo_B38 hC hE hr hinj n _ _ _ _ _ qx0 hf
      · replace hf := hf.2 hc
        refine z_iconst hC dX9_totalTo_32 ?_
        exact z_iret hC hr rfl dX9_totalTo_33 hf

-- ===== X9_meltBetween
def fX9_meltBetween (K : Int → zSt → Prop) (σ : zSt) (x0 : Int) (x1 : Int) (x2 : Int) : Prop :=
  kX x0 = 9 ∧ zrg x1 ∧ zrg x2 ∧ ((x1 ≤ x2 → fX9_totalTo (fun r3 σ3 => fX9_totalTo (fun r4 σ4 => zrg r3 ∧ ((r3 = (-1) → K (-1) σ4) ∧ (¬ r3 = (-1) → zrg r4 ∧ ((r4 = (-1) → K (-1) σ4) ∧ (¬ r4 = (-1) → K (r4 - r3) σ4))))) σ3 x0 x2) σ x0 x1) ∧ (¬ x1 ≤ x2 → K (-2) σ))
set_option maxHeartbeats 4000000 in
set_option maxRecDepth 100000 in
theorem mX9_meltBetween {D : va_G} {dA : Nat → ClassId} {ad : Nat → Nat} {aL aG aI : Nat} {aK aV : Nat → Nat} (l : Launch) (hinj : ∀ i j, i < NX → j < NX → ad i = ad j → i = j) (sz : Nat) {K : Int → zSt → Prop} {σ : zSt} {x0 : Int} {x1 : Int} {x2 : Int} (hf : fX9_meltBetween K σ x0 x1 x2) : Met l yX9_meltBetween (Cond.code yX9_meltBetween cX9_meltBetween 5 (some .int) :: UW) ({ frames := 3, cells := 0, slots := 0, locals := 69 } : Room) (va_Pc [vR ad x0, vI x1, vI x2] (zPre D vwCl (tyA dA) (zXX aL aG aI aK aV) NX ad (celX ad dA) sz σ)) (va_Qi (zPi K) (zB D vwCl (tyA dA) NX ad (celX ad dA)) (zA ad NX sz)) 0 0 (zA ad NX sz) := by
  refine z_enter (cc := cX9_meltBetween) (maxL := 5) (ret := (some .int)) (vs := [vR ad x0, vI x1, vI x2]) (plainFor_of_name (by decide)) rfl hinj (Nat.le_of_ble_eq_true rfl) ?_
  intro p e s m args below meth c hC hE hsz hr hnm
  obtain ⟨qx0, hf⟩ := hf
  show zAt p l e ({ frames := 3, cells := 0, slots := 0, locals := 69 } : Room) s m args below meth c 0 0 (MQ below (va_Qi (zPi K) (zB D vwCl (tyA dA) NX ad (celX ad dA)) (zA ad NX sz)) args s 0 0 (zA ad NX sz)) 5 D vwCl (zA ad NX sz) NX ad (celX ad dA) 0 [(0, vR ad x0), (1, vI x1), (2, vI x2)] [] σ
  refine z_iload_n hC dX9_meltBetween_0 1 rfl rfl ?_
  refine z_iload_n hC dX9_meltBetween_1 2 rfl rfl ?_
  obtain ⟨g1, hf⟩ := hf
  obtain ⟨g2, hf⟩ := hf
  refine z_icmp_le (tgt := 8) hC dX9_meltBetween_2 (by decide) g1 g2 (fun hc => ?_) (fun hc => ?_)
  · replace hf := hf.1 hc
    refine z_aload_n hC dX9_meltBetween_8 0 rfl rfl ?_
    refine z_iload_n hC dX9_meltBetween_9 1 rfl rfl ?_
    refine z_callVi hC hE (oX_9 qx0) [vI x1] (fun sz2 => mX9_totalTo l hinj sz2 hf) (cwV 1 hC.1.2.2.2.2 (uV (uT _) u1003 u1004 u1005 u110 u1006) rfl rfl rfl (by decide +kernel) ⟨Nat.le_of_ble_eq_true rfl, Nat.le_of_ble_eq_true rfl⟩) rfl rfl (Nat.le_of_ble_eq_true rfl) ⟨Nat.le_of_ble_eq_true rfl, Nat.le_of_ble_eq_true rfl⟩ dX9_meltBetween_10 (fun r3 σ3 hf => ?_)
    refine z_istore_n hC ([(3, vI r3), (0, vR ad x0), (1, vI x1), (2, vI x2)]) dX9_meltBetween_13 rfl (by decide) rfl ?_
    refine z_aload_n hC dX9_meltBetween_14 1 rfl rfl ?_
    refine z_iload_n hC dX9_meltBetween_15 3 rfl rfl ?_
    refine z_callVi hC hE (oX_9 qx0) [vI x2] (fun sz2 => mX9_totalTo l hinj sz2 hf) (cwV 1 hC.1.2.2.2.2 (uV (uT _) u1003 u1004 u1005 u110 u1006) rfl rfl rfl (by decide +kernel) ⟨Nat.le_of_ble_eq_true rfl, Nat.le_of_ble_eq_true rfl⟩) rfl rfl (Nat.le_of_ble_eq_true rfl) ⟨Nat.le_of_ble_eq_true rfl, Nat.le_of_ble_eq_true rfl⟩ dX9_meltBetween_16 (fun r4 σ4 hf => ?_)
    refine z_istore hC ([(4, vI r4), (3, vI r3), (0, vR ad x0), (1, vI x1), (2, vI x2)]) dX9_meltBetween_19 (by decide) rfl ?_
    refine z_iload_n hC dX9_meltBetween_21 1 rfl rfl ?_
    refine z_iconst hC dX9_meltBetween_22 ?_
    obtain ⟨g5, hf⟩ := hf
    refine z_icmp_eq (tgt := 32) hC dX9_meltBetween_23 (by decide) g5 (zlit rfl rfl) (fun hc => ?_) (fun hc => ?_)
    · replace hf := hf.1 hc
      refine z_iconst hC dX9_meltBetween_32 ?_
      refine z_goto (tgt := 40) hC dX9_meltBetween_33 (by decide) ?_
      exact z_iret hC hr rfl dX9_meltBetween_40 hf
    · replace hf := hf.2 hc
      refine z_iload hC dX9_meltBetween_26 0 rfl ?_
      refine z_iconst hC dX9_meltBetween_28 ?_
      obtain ⟨g6, hf⟩ := hf
      refine z_icmp_ne (tgt := 36) hC dX9_meltBetween_29 (by decide) g6 (zlit rfl rfl) (fun hc => ?_) (fun hc => ?_)
      · replace hf := hf.2 hc
        refine z_iload hC dX9_meltBetween_36 0 rfl ?_
        refine z_iload_n hC dX9_meltBetween_38 1 rfl rfl ?_
        refine z_isub hC dX9_meltBetween_39 ?_
        exact z_iret hC hr rfl dX9_meltBetween_40 hf
      · replace hf := hf.1 hc
        refine z_iconst hC dX9_meltBetween_32 ?_
        refine z_goto (tgt := 40) hC dX9_meltBetween_33 (by decide) ?_
        exact z_iret hC hr rfl dX9_meltBetween_40 hf
  · replace hf := hf.2 hc
    refine z_bipush hC dX9_meltBetween_5 (by decide) ?_
    exact z_iret hC hr rfl dX9_meltBetween_7 hf

-- ===== X10_add
def fX10_add (K : zSt → Prop) (σ : zSt) (x0 : Int) (x1 : Int) (x3 : Int) (x4 : Int) (x5 : Int) : Prop :=
  kX x0 = 10 ∧ kX x1 = 8 ∧ zrg (σ x0 1) ∧ ((σ x0 1 < 6 → (0 ≤ σ x0 1 ∧ σ x0 1 < 6) ∧ ∀ σ3, σ3 = zu σ (31 + 6 * (x0 - 24) + 2) (σ x0 1) x3 → fX8_dayOf (fun r4 σ4 => (0 ≤ σ3 x0 1 ∧ σ3 x0 1 < 6) ∧ ∀ σ6, σ6 = zu σ4 (31 + 6 * (x0 - 24) + 3) (σ3 x0 1) r4 → (0 ≤ σ6 x0 1 ∧ σ6 x0 1 < 6) ∧ ∀ σ8, σ8 = zu σ6 (31 + 6 * (x0 - 24) + 4) (σ6 x0 1) x4 → (0 ≤ σ8 x0 1 ∧ σ8 x0 1 < 6) ∧ ∀ σ10, σ10 = zu σ8 (31 + 6 * (x0 - 24) + 5) (σ8 x0 1) x5 → fX6_xShiftOf (fun r11 σ11 => (0 ≤ σ10 x0 1 ∧ σ10 x0 1 < 6) ∧ ∀ σ13, σ13 = zu σ11 (31 + 6 * (x0 - 24) + 0) (σ10 x0 1) (x4 - r11) → fX6_yShiftOf (fun r14 σ14 => (0 ≤ σ13 x0 1 ∧ σ13 x0 1 < 6) ∧ ∀ σ16, σ16 = zu σ14 (31 + 6 * (x0 - 24) + 1) (σ13 x0 1) (x5 - r14) → ∀ σ17, σ17 = zu σ16 x0 1 ((σ16 x0 1) + 1) → K σ17) σ13 x3) σ10 x3) σ3 x1 x3) ∧ (¬ σ x0 1 < 6 → K σ))
set_option maxHeartbeats 4000000 in
set_option maxRecDepth 100000 in
theorem mX10_add {D : va_G} {dA : Nat → ClassId} {ad : Nat → Nat} {aL aG aI : Nat} {aK aV : Nat → Nat} (l : Launch) (hinj : ∀ i j, i < NX → j < NX → ad i = ad j → i = j) (sz : Nat) {K : zSt → Prop} {σ : zSt} {x0 : Int} {x1 : Int} {x3 : Int} {x4 : Int} {x5 : Int} (hf : fX10_add K σ x0 x1 x3 x4 x5) : Met l yX10_add (Cond.code yX10_add cX10_add 6 none :: UW) ({ frames := 2, cells := 0, slots := 0, locals := 42 } : Room) (va_Pc [vR ad x0, vR ad x1, vR ad 17, vI x3, vI x4, vI x5] (zPre D vwCl (tyA dA) (zXX aL aG aI aK aV) NX ad (celX ad dA) sz σ)) (va_Qv K (zB D vwCl (tyA dA) NX ad (celX ad dA)) (zA ad NX sz)) 0 0 (zA ad NX sz) := by
  refine z_enter (cc := cX10_add) (maxL := 6) (ret := none) (vs := [vR ad x0, vR ad x1, vR ad 17, vI x3, vI x4, vI x5]) (plainFor_of_name (by decide)) rfl hinj (Nat.le_of_ble_eq_true rfl) ?_
  intro p e s m args below meth c hC hE hsz hr hnm
  obtain ⟨qx0, hf⟩ := hf
  obtain ⟨qx1, hf⟩ := hf
  show zAt p l e ({ frames := 2, cells := 0, slots := 0, locals := 42 } : Room) s m args below meth c 0 0 (MQ below (va_Qv K (zB D vwCl (tyA dA) NX ad (celX ad dA)) (zA ad NX sz)) args s 0 0 (zA ad NX sz)) 6 D vwCl (zA ad NX sz) NX ad (celX ad dA) 0 [(0, vR ad x0), (1, vR ad x1), (2, vR ad 17), (3, vI x3), (4, vI x4), (5, vI x5)] [] σ
  refine z_aload_n hC dX10_add_0 0 rfl rfl ?_
  refine z_get hC (fun w h => uT _ w (uL10 w h)) (oX_10 qx0) 1 (by decide) (uT _ _ u432) rfl rfl dX10_add_1 ?_
  refine z_bipush hC dX10_add_4 (by decide) ?_
  obtain ⟨g1, hf⟩ := hf
  refine z_icmp_lt (tgt := 10) hC dX10_add_6 (by decide) g1 (zlit rfl rfl) (fun hc => ?_) (fun hc => ?_)
  · replace hf := hf.1 hc
    refine z_aload_n hC dX10_add_10 0 rfl rfl ?_
    refine z_get hC (fun w h => uT _ w (uL10 w h)) (oX_10 qx0) 6 (by decide) (uT _ _ u442) rfl rfl dX10_add_11 ?_
    refine z_aload_n hC dX10_add_14 0 rfl rfl ?_
    refine z_get hC (fun w h => uT _ w (uL10 w h)) (oX_10 qx0) 1 (by decide) (uT _ _ u432) rfl rfl dX10_add_15 ?_
    refine z_iload_n hC dX10_add_18 3 rfl rfl ?_
    obtain ⟨g2, hf⟩ := hf
    refine z_iastore hC (aX_14 (kf_10_6 qx0)) (loX' (kf_10_6 qx0) (by decide)) g2 dX10_add_19 ?_
    obtain ⟨σ3, eσ3⟩ : ∃ z : zSt, z = zu σ (31 + 6 * (x0 - 24) + 2) (σ x0 1) x3 := ⟨_, rfl⟩
    rw [← eσ3]
    replace hf := hf σ3 eσ3
    refine z_aload_n hC dX10_add_20 0 rfl rfl ?_
    refine z_get hC (fun w h => uT _ w (uL10 w h)) (oX_10 qx0) 7 (by decide) (uT _ _ u443) rfl rfl dX10_add_21 ?_
    refine z_aload_n hC dX10_add_24 0 rfl rfl ?_
    refine z_get hC (fun w h => uT _ w (uL10 w h)) (oX_10 qx0) 1 (by decide) (uT _ _ u432) rfl rfl dX10_add_25 ?_
    refine z_aload_n hC dX10_add_28 1 rfl rfl ?_
    refine z_iload_n hC dX10_add_29 3 rfl rfl ?_
    refine z_callVi hC hE (oX_8 qx1) [vI x3] (fun sz2 => mX8_dayOf l hinj sz2 hf) (cwV 1 hC.1.2.2.2.2 (uV (uT _) u865 u617 u618 u106 u619) rfl rfl rfl (by decide +kernel) ⟨Nat.le_of_ble_eq_true rfl, Nat.le_of_ble_eq_true rfl⟩) rfl rfl (Nat.le_of_ble_eq_true rfl) ⟨Nat.le_of_ble_eq_true rfl, Nat.le_of_ble_eq_true rfl⟩ dX10_add_30 (fun r4 σ4 hf => ?_)
    obtain ⟨g5, hf⟩ := hf
    refine z_iastore hC (aX_14 (kf_10_7 qx0)) (loX' (kf_10_7 qx0) (by decide)) g5 dX10_add_33 ?_
    obtain ⟨σ6, eσ6⟩ : ∃ z : zSt, z = zu σ4 (31 + 6 * (x0 - 24) + 3) (σ3 x0 1) r4 := ⟨_, rfl⟩
    rw [← eσ6]
    replace hf := hf σ6 eσ6
    refine z_aload_n hC dX10_add_34 0 rfl rfl ?_
    refine z_get hC (fun w h => uT _ w (uL10 w h)) (oX_10 qx0) 8 (by decide) (uT _ _ u444) rfl rfl dX10_add_35 ?_
    refine z_aload_n hC dX10_add_38 0 rfl rfl ?_
    refine z_get hC (fun w h => uT _ w (uL10 w h)) (oX_10 qx0) 1 (by decide) (uT _ _ u432) rfl rfl dX10_add_39 ?_
    refine z_iload hC dX10_add_42 4 rfl ?_
    obtain ⟨g7, hf⟩ := hf
    refine z_iastore hC (aX_14 (kf_10_8 qx0)) (loX' (kf_10_8 qx0) (by decide)) g7 dX10_add_44 ?_
    obtain ⟨σ8, eσ8⟩ : ∃ z : zSt, z = zu σ6 (31 + 6 * (x0 - 24) + 4) (σ6 x0 1) x4 := ⟨_, rfl⟩
    rw [← eσ8]
    replace hf := hf σ8 eσ8
    refine z_aload_n hC dX10_add_45 0 rfl rfl ?_
    refine z_get hC (fun w h => uT _ w (uL10 w h)) (oX_10 qx0) 9 (by decide) (uT _ _ u445) rfl rfl dX10_add_46 ?_
    refine z_aload_n hC dX10_add_49 0 rfl rfl ?_
    refine z_get hC (fun w h => uT _ w (uL10 w h)) (oX_10 qx0) 1 (by decide) (uT _ _ u432) rfl rfl dX10_add_50 ?_
    refine z_iload hC dX10_add_53 5 rfl ?_
    obtain ⟨g9, hf⟩ := hf
    refine z_iastore hC (aX_14 (kf_10_9 qx0)) (loX' (kf_10_9 qx0) (by decide)) g9 dX10_add_55 ?_
    obtain ⟨σ10, eσ10⟩ : ∃ z : zSt, z = zu σ8 (31 + 6 * (x0 - 24) + 5) (σ8 x0 1) x5 := ⟨_, rfl⟩
    rw [← eσ10]
    replace hf := hf σ10 eσ10
    refine z_aload_n hC dX10_add_56 0 rfl rfl ?_
    refine z_get hC (fun w h => uT _ w (uL10 w h)) (oX_10 qx0) 4 (by decide) (uT _ _ u438) rfl rfl dX10_add_57 ?_
    refine z_aload_n hC dX10_add_60 0 rfl rfl ?_
    refine z_get hC (fun w h => uT _ w (uL10 w h)) (oX_10 qx0) 1 (by decide) (uT _ _ u432) rfl rfl dX10_add_61 ?_
    refine z_iload hC dX10_add_64 4 rfl ?_
    refine z_aload_n hC dX10_add_66 2 rfl rfl ?_
    refine z_iload_n hC dX10_add_67 3 rfl rfl ?_
    refine z_callVi hC hE (oX_6 (show kX 17 = 6 by decide)) [vI x3] (fun sz2 => mX6_xShiftOf l hinj sz2 hf) (cwV 1 hC.1.2.2.2.2 (uV (uT _) u866 u867 u868 u115 u869) rfl rfl rfl (by decide +kernel) ⟨Nat.le_of_ble_eq_true rfl, Nat.le_of_ble_eq_true rfl⟩) rfl rfl (Nat.le_of_ble_eq_true rfl) ⟨Nat.le_of_ble_eq_true rfl, Nat.le_of_ble_eq_true rfl⟩ dX10_add_68 (fun r11 σ11 hf => ?_)
    refine z_isub hC dX10_add_71 ?_
    obtain ⟨g12, hf⟩ := hf
    refine z_iastore hC (aX_14 (kf_10_4 qx0)) (loX' (kf_10_4 qx0) (by decide)) g12 dX10_add_72 ?_
    obtain ⟨σ13, eσ13⟩ : ∃ z : zSt, z = zu σ11 (31 + 6 * (x0 - 24) + 0) (σ10 x0 1) (x4 - r11) := ⟨_, rfl⟩
    rw [← eσ13]
    replace hf := hf σ13 eσ13
    refine z_aload_n hC dX10_add_73 0 rfl rfl ?_
    refine z_get hC (fun w h => uT _ w (uL10 w h)) (oX_10 qx0) 5 (by decide) (uT _ _ u440) rfl rfl dX10_add_74 ?_
    refine z_aload_n hC dX10_add_77 0 rfl rfl ?_
    refine z_get hC (fun w h => uT _ w (uL10 w h)) (oX_10 qx0) 1 (by decide) (uT _ _ u432) rfl rfl dX10_add_78 ?_
    refine z_iload hC dX10_add_81 5 rfl ?_
    refine z_aload_n hC dX10_add_83 2 rfl rfl ?_
    refine z_iload_n hC dX10_add_84 3 rfl rfl ?_
    refine z_callVi hC hE (oX_6 (show kX 17 = 6 by decide)) [vI x3] (fun sz2 => mX6_yShiftOf l hinj sz2 hf) (cwV 1 hC.1.2.2.2.2 (uV (uT _) u870 u871 u872 u115 u873) rfl rfl rfl (by decide +kernel) ⟨Nat.le_of_ble_eq_true rfl, Nat.le_of_ble_eq_true rfl⟩) rfl rfl (Nat.le_of_ble_eq_true rfl) ⟨Nat.le_of_ble_eq_true rfl, Nat.le_of_ble_eq_true rfl⟩ dX10_add_85 (fun r14 σ14 hf => ?_)
    refine z_isub hC dX10_add_88 ?_
    obtain ⟨g15, hf⟩ := hf
    refine z_iastore hC (aX_14 (kf_10_5 qx0)) (loX' (kf_10_5 qx0) (by decide)) g15 dX10_add_89 ?_
    obtain ⟨σ16, eσ16⟩ : ∃ z : zSt, z = zu σ14 (31 + 6 * (x0 - 24) + 1) (σ13 x0 1) (x5 - r14) := ⟨_, rfl⟩
    rw [← eσ16]
    replace hf := hf σ16 eσ16
    refine z_aload_n hC dX10_add_90 0 rfl rfl ?_
    refine z_dup hC dX10_add_91 rfl ?_
    refine z_get hC (fun w h => uT _ w (uL10 w h)) (oX_10 qx0) 1 (by decide) (uT _ _ u432) rfl rfl dX10_add_92 ?_
    refine z_iconst hC dX10_add_95 ?_
    refine z_iadd hC dX10_add_96 ?_
    refine z_put hC (ty := .int) tyX10 tyX10_ok nmX10 (fun w h => uT _ w (uL10 w h)) (oX_10 qx0) (loX' qx0 (by decide)) 1 (by decide) (uT _ _ u432) rfl rfl (1) ((σ16 x0 1) + 1) (by simp [zu]) (by decide +kernel) rfl rfl (Nat.le_of_ble_eq_true rfl) dX10_add_97 ?_
    obtain ⟨σ17, eσ17⟩ : ∃ z : zSt, z = zu σ16 x0 1 ((σ16 x0 1) + 1) := ⟨_, rfl⟩
    rw [← eσ17]
    replace hf := hf σ17 eσ17
    exact z_vret hC hr rfl dX10_add_100 hf
  · replace hf := hf.2 hc
    exact z_vret hC hr rfl dX10_add_9 hf

-- ===== X10_hasEntry
def fX10_hasEntry (K : Int → zSt → Prop) (σ : zSt) (x0 : Int) (x1 : Int) : Prop :=
  kX x0 = 10 ∧ zrg x1 ∧ ((x1 < 0 → K 0 σ) ∧ (¬ x1 < 0 → zrg (σ x0 1) ∧ ((σ x0 1 ≤ x1 → K 0 σ) ∧ (¬ σ x0 1 ≤ x1 → K 1 σ))))
set_option maxHeartbeats 4000000 in
set_option maxRecDepth 100000 in
theorem mX10_hasEntry {D : va_G} {dA : Nat → ClassId} {ad : Nat → Nat} {aL aG aI : Nat} {aK aV : Nat → Nat} (l : Launch) (hinj : ∀ i j, i < NX → j < NX → ad i = ad j → i = j) (sz : Nat) {K : Int → zSt → Prop} {σ : zSt} {x0 : Int} {x1 : Int} (hf : fX10_hasEntry K σ x0 x1) : Met l yX10_hasEntry (Cond.code yX10_hasEntry cX10_hasEntry 2 (some .boolean) :: UW) ({ frames := 0, cells := 0, slots := 0, locals := 0 } : Room) (va_Pc [vR ad x0, vI x1] (zPre D vwCl (tyA dA) (zXX aL aG aI aK aV) NX ad (celX ad dA) sz σ)) (va_Qi (zPi K) (zB D vwCl (tyA dA) NX ad (celX ad dA)) (zA ad NX sz)) 0 0 (zA ad NX sz) := by
  refine z_enter (cc := cX10_hasEntry) (maxL := 2) (ret := (some .boolean)) (vs := [vR ad x0, vI x1]) (plainFor_of_name (by decide)) rfl hinj (Nat.le_of_ble_eq_true rfl) ?_
  intro p e s m args below meth c hC hE hsz hr hnm
  obtain ⟨qx0, hf⟩ := hf
  show zAt p l e ({ frames := 0, cells := 0, slots := 0, locals := 0 } : Room) s m args below meth c 0 0 (MQ below (va_Qi (zPi K) (zB D vwCl (tyA dA) NX ad (celX ad dA)) (zA ad NX sz)) args s 0 0 (zA ad NX sz)) 2 D vwCl (zA ad NX sz) NX ad (celX ad dA) 0 [(0, vR ad x0), (1, vI x1)] [] σ
  refine z_iload_n hC dX10_hasEntry_0 1 rfl rfl ?_
  obtain ⟨g1, hf⟩ := hf
  refine z_if_lt (tgt := 16) hC dX10_hasEntry_1 (by decide) g1 (fun hc => ?_) (fun hc => ?_)
  · replace hf := hf.1 hc
    refine z_iconst hC dX10_hasEntry_16 ?_
    exact z_bret hC hr rfl dX10_hasEntry_17 (Or.inl rfl) hf
  · replace hf := hf.2 hc
    refine z_iload_n hC dX10_hasEntry_4 1 rfl rfl ?_
    refine z_aload_n hC dX10_hasEntry_5 0 rfl rfl ?_
    refine z_get hC (fun w h => uT _ w (uL10 w h)) (oX_10 qx0) 1 (by decide) (uT _ _ u432) rfl rfl dX10_hasEntry_6 ?_
    obtain ⟨g2, hf⟩ := hf
    refine z_icmp_ge (tgt := 16) hC dX10_hasEntry_9 (by decide) g1 g2 (fun hc => ?_) (fun hc => ?_)
    · replace hf := hf.1 hc
      refine z_iconst hC dX10_hasEntry_16 ?_
      exact z_bret hC hr rfl dX10_hasEntry_17 (Or.inl rfl) hf
    · replace hf := hf.2 hc
      refine z_iconst hC dX10_hasEntry_12 ?_
      refine z_goto (tgt := 17) hC dX10_hasEntry_13 (by decide) ?_
      exact z_bret hC hr rfl dX10_hasEntry_17 (Or.inr rfl) hf

-- ===== X10_findIn
def fX10_findIn (K : Int → zSt → Prop) (σ : zSt) (x0 : Int) (x1 : Int) (x2 : Int) (x5 : Int) : Prop :=
  kX x0 = 10 ∧ kX x2 = 8 ∧ fX10_hasEntry (fun r1 σ1 => zrg r1 ∧ ((r1 = 0 → K 0 σ1) ∧ (¬ r1 = 0 → (0 ≤ (σ x0 1) - 1 ∧ (σ x0 1) - 1 < 6) ∧ fX5_search (fun σ4 => fX5_exists (fun r5 σ5 => zrg r5 ∧ ((r5 = 0 → K 0 σ5) ∧ (¬ r5 = 0 → zrg (σ5 22 3) ∧ zrg x5 ∧ ((σ5 22 3 ≤ x5 → fX5_search (fun σ9 => fX5_exists (fun r10 σ10 => zrg r10 ∧ ((r10 = 0 → K 0 σ10) ∧ (¬ r10 = 0 → zrg ((σ10 22 1) - (σ10 (31 + 6 * (x0 - 24) + 4) ((σ x0 1) - 1))) ∧ zrg (((σ10 22 1) - (σ10 (31 + 6 * (x0 - 24) + 4) ((σ x0 1) - 1))).natAbs : Int) ∧ ((1 < (((σ10 22 1) - (σ10 (31 + 6 * (x0 - 24) + 4) ((σ x0 1) - 1))).natAbs : Int) → K 0 σ10) ∧ (¬ 1 < (((σ10 22 1) - (σ10 (31 + 6 * (x0 - 24) + 4) ((σ x0 1) - 1))).natAbs : Int) → zrg ((σ10 22 2) - (σ10 (31 + 6 * (x0 - 24) + 5) ((σ x0 1) - 1))) ∧ zrg (((σ10 22 2) - (σ10 (31 + 6 * (x0 - 24) + 5) ((σ x0 1) - 1))).natAbs : Int) ∧ (((((σ10 22 2) - (σ10 (31 + 6 * (x0 - 24) + 5) ((σ x0 1) - 1))).natAbs : Int) ≤ 1 → zrg (σ10 x0 3) ∧ ∀ σ17, σ17 = zu σ10 x0 3 (max (σ10 x0 3) (σ5 22 3)) → fX10_add (fun σ18 => K 1 σ18) σ17 x0 x2 x1 (σ5 22 1) (σ5 22 2)) ∧ (¬ (((σ10 22 2) - (σ10 (31 + 6 * (x0 - 24) + 5) ((σ x0 1) - 1))).natAbs : Int) ≤ 1 → K 0 σ10))))))) σ9 ) σ5 x2 x1 (σ5 22 1) (σ5 22 2) (σ5 (31 + 6 * (x0 - 24) + 2) ((σ x0 1) - 1))) ∧ (¬ σ5 22 3 ≤ x5 → K 0 σ5))))) σ4 ) σ1 x2 (σ1 (31 + 6 * (x0 - 24) + 2) ((σ x0 1) - 1)) (σ1 (31 + 6 * (x0 - 24) + 4) ((σ x0 1) - 1)) (σ1 (31 + 6 * (x0 - 24) + 5) ((σ x0 1) - 1)) x1))) σ x0 ((σ x0 1) - 1)
set_option maxHeartbeats 4000000 in
set_option maxRecDepth 100000 in
theorem mX10_findIn {D : va_G} {dA : Nat → ClassId} {ad : Nat → Nat} {aL aG aI : Nat} {aK aV : Nat → Nat} (l : Launch) (hinj : ∀ i j, i < NX → j < NX → ad i = ad j → i = j) (sz : Nat) {K : Int → zSt → Prop} {σ : zSt} {x0 : Int} {x1 : Int} {x2 : Int} {x5 : Int} (hf : fX10_findIn K σ x0 x1 x2 x5) : Met l yX10_findIn (Cond.code yX10_findIn cX10_findIn 10 (some .boolean) :: UW) ({ frames := 3, cells := 0, slots := 0, locals := 91 } : Room) (va_Pc [vR ad x0, vI x1, vR ad x2, vR ad 17, vR ad 22, vI x5] (zPre D vwCl (tyA dA) (zXX aL aG aI aK aV) NX ad (celX ad dA) sz σ)) (va_Qi (zPi K) (zB D vwCl (tyA dA) NX ad (celX ad dA)) (zA ad NX sz)) 0 0 (zA ad NX sz) := by
  refine z_enter (cc := cX10_findIn) (maxL := 10) (ret := (some .boolean)) (vs := [vR ad x0, vI x1, vR ad x2, vR ad 17, vR ad 22, vI x5]) (plainFor_of_name (by decide)) rfl hinj (Nat.le_of_ble_eq_true rfl) ?_
  intro p e s m args below meth c hC hE hsz hr hnm
  obtain ⟨qx0, hf⟩ := hf
  obtain ⟨qx2, hf⟩ := hf
  show zAt p l e ({ frames := 3, cells := 0, slots := 0, locals := 91 } : Room) s m args below meth c 0 0 (MQ below (va_Qi (zPi K) (zB D vwCl (tyA dA) NX ad (celX ad dA)) (zA ad NX sz)) args s 0 0 (zA ad NX sz)) 10 D vwCl (zA ad NX sz) NX ad (celX ad dA) 0 [(0, vR ad x0), (1, vI x1), (2, vR ad x2), (3, vR ad 17), (4, vR ad 22), (5, vI x5)] [] σ
  refine z_aload_n hC dX10_findIn_0 0 rfl rfl ?_
  refine z_get hC (fun w h => uT _ w (uL10 w h)) (oX_10 qx0) 1 (by decide) (uT _ _ u432) rfl rfl dX10_findIn_1 ?_
  refine z_iconst hC dX10_findIn_4 ?_
  refine z_isub hC dX10_findIn_5 ?_
  refine z_istore hC ([(6, vI ((σ x0 1) - 1)), (0, vR ad x0), (1, vI x1), (2, vR ad x2), (3, vR ad 17), (4, vR ad 22), (5, vI x5)]) dX10_findIn_6 (by decide) rfl ?_
  refine z_aload_n hC dX10_findIn_8 1 rfl rfl ?_
  refine z_iload hC dX10_findIn_9 0 rfl ?_
  refine z_callVi hC hE (oX_10 qx0) [vI ((σ x0 1) - 1)] (fun sz2 => mX10_hasEntry l hinj sz2 hf) (cwV 1 hC.1.2.2.2.2 (uV (uT _) u883 u885 u20 u117 u886) rfl rfl rfl (by decide +kernel) ⟨Nat.le_of_ble_eq_true rfl, Nat.le_of_ble_eq_true rfl⟩) rfl rfl (Nat.le_of_ble_eq_true rfl) ⟨Nat.le_of_ble_eq_true rfl, Nat.le_of_ble_eq_true rfl⟩ dX10_findIn_11 (fun r1 σ1 hf => ?_)
  obtain ⟨g2, hf⟩ := hf
  refine z_if_ne (tgt := 19) hC dX10_findIn_14 (by decide) g2 (fun hc => ?_) (fun hc => ?_)
  · replace hf := hf.2 hc
    refine z_aload hC dX10_findIn_19 5 rfl ?_
    refine z_aload_n hC dX10_findIn_21 3 rfl rfl ?_
    refine z_aload_n hC dX10_findIn_22 4 rfl rfl ?_
    refine z_aload_n hC dX10_findIn_23 1 rfl rfl ?_
    refine z_get hC (fun w h => uT _ w (uL10 w h)) (oX_10 qx0) 6 (by decide) (uT _ _ u442) rfl rfl dX10_findIn_24 ?_
    refine z_iload hC dX10_findIn_27 0 rfl ?_
    obtain ⟨g3, hf⟩ := hf
    refine z_iaload hC (aX_14 (kf_10_6 qx0)) g3 dX10_findIn_29 ?_
    refine z_aload_n hC dX10_findIn_30 1 rfl rfl ?_
    refine z_get hC (fun w h => uT _ w (uL10 w h)) (oX_10 qx0) 8 (by decide) (uT _ _ u444) rfl rfl dX10_findIn_31 ?_
    refine z_iload hC dX10_findIn_34 0 rfl ?_
    refine z_iaload hC (aX_14 (kf_10_8 qx0)) g3 dX10_findIn_36 ?_
    refine z_aload_n hC dX10_findIn_37 1 rfl rfl ?_
    refine z_get hC (fun w h => uT _ w (uL10 w h)) (oX_10 qx0) 9 (by decide) (uT _ _ u445) rfl rfl dX10_findIn_38 ?_
    refine z_iload hC dX10_findIn_41 0 rfl ?_
    refine z_iaload hC (aX_14 (kf_10_9 qx0)) g3 dX10_findIn_43 ?_
    refine z_iload_n hC dX10_findIn_44 2 rfl rfl ?_
    refine z_callVv hC hE (oX_5 (show kX 22 = 5 by decide)) [vR ad x2, vR ad 17, vI (σ1 (31 + 6 * (x0 - 24) + 2) ((σ x0 1) - 1)), vI (σ1 (31 + 6 * (x0 - 24) + 4) ((σ x0 1) - 1)), vI (σ1 (31 + 6 * (x0 - 24) + 5) ((σ x0 1) - 1)), vI x1] (fun sz2 => mX5_search l hinj sz2 hf) (cwV 6 hC.1.2.2.2.2 (uV (uT _) u887 u888 u889 u116 u890) rfl rfl rfl (by decide +kernel) ⟨Nat.le_of_ble_eq_true rfl, Nat.le_of_ble_eq_true rfl⟩) rfl rfl (Nat.le_of_ble_eq_true rfl) ⟨Nat.le_of_ble_eq_true rfl, Nat.le_of_ble_eq_true rfl⟩ dX10_findIn_45 (fun σ4 hf => ?_)
    refine z_aload hC dX10_findIn_48 5 rfl ?_
    refine z_callVi hC hE (oX_5 (show kX 22 = 5 by decide)) [] (fun sz2 => mX5_exists l hinj sz2 hf) (cwV 0 hC.1.2.2.2.2 (uV (uT _) u901 u902 u903 u116 u904) rfl rfl rfl (by decide +kernel) ⟨Nat.le_of_ble_eq_true rfl, Nat.le_of_ble_eq_true rfl⟩) rfl rfl (Nat.le_of_ble_eq_true rfl) ⟨Nat.le_of_ble_eq_true rfl, Nat.le_of_ble_eq_true rfl⟩ dX10_findIn_50 (fun r5 σ5 hf => ?_)
    obtain ⟨g6, hf⟩ := hf
    refine z_if_eq (tgt := 66) hC dX10_findIn_53 (by decide) g6 (fun hc => ?_) (fun hc => ?_)
    · replace hf := hf.1 hc
      refine z_iconst hC dX10_findIn_66 ?_
      exact z_bret hC hr rfl dX10_findIn_67 (Or.inl rfl) hf
    · replace hf := hf.2 hc
      refine z_aload hC dX10_findIn_56 5 rfl ?_
      refine z_get hC (fun w h => uT _ w (uL5 w h)) (oX_5 (show kX 22 = 5 by decide)) 3 (by decide) (uT _ _ u405) rfl rfl dX10_findIn_58 ?_
      refine z_iload hC dX10_findIn_61 6 rfl ?_
      obtain ⟨g7, hf⟩ := hf
      obtain ⟨g8, hf⟩ := hf
      refine z_icmp_le (tgt := 68) hC dX10_findIn_63 (by decide) g7 g8 (fun hc => ?_) (fun hc => ?_)
      · replace hf := hf.1 hc
        refine z_aload hC dX10_findIn_68 5 rfl ?_
        refine z_get hC (fun w h => uT _ w (uL5 w h)) (oX_5 (show kX 22 = 5 by decide)) 1 (by decide) (uT _ _ u399) rfl rfl dX10_findIn_70 ?_
        refine z_istore hC ([(7, vI (σ5 22 1)), (6, vI ((σ x0 1) - 1)), (0, vR ad x0), (1, vI x1), (2, vR ad x2), (3, vR ad 17), (4, vR ad 22), (5, vI x5)]) dX10_findIn_73 (by decide) rfl ?_
        refine z_aload hC dX10_findIn_75 6 rfl ?_
        refine z_get hC (fun w h => uT _ w (uL5 w h)) (oX_5 (show kX 22 = 5 by decide)) 2 (by decide) (uT _ _ u402) rfl rfl dX10_findIn_77 ?_
        refine z_istore hC ([(8, vI (σ5 22 2)), (7, vI (σ5 22 1)), (6, vI ((σ x0 1) - 1)), (0, vR ad x0), (1, vI x1), (2, vR ad x2), (3, vR ad 17), (4, vR ad 22), (5, vI x5)]) dX10_findIn_80 (by decide) rfl ?_
        refine z_aload hC dX10_findIn_82 7 rfl ?_
        refine z_get hC (fun w h => uT _ w (uL5 w h)) (oX_5 (show kX 22 = 5 by decide)) 3 (by decide) (uT _ _ u405) rfl rfl dX10_findIn_84 ?_
        refine z_istore hC ([(9, vI (σ5 22 3)), (8, vI (σ5 22 2)), (7, vI (σ5 22 1)), (6, vI ((σ x0 1) - 1)), (0, vR ad x0), (1, vI x1), (2, vR ad x2), (3, vR ad 17), (4, vR ad 22), (5, vI x5)]) dX10_findIn_87 (by decide) rfl ?_
        refine z_aload hC dX10_findIn_89 8 rfl ?_
        refine z_aload_n hC dX10_findIn_91 6 rfl rfl ?_
        refine z_aload_n hC dX10_findIn_92 7 rfl rfl ?_
        refine z_iload_n hC dX10_findIn_93 5 rfl rfl ?_
        refine z_iload hC dX10_findIn_94 2 rfl ?_
        refine z_iload hC dX10_findIn_96 1 rfl ?_
        refine z_aload_n hC dX10_findIn_98 4 rfl rfl ?_
        refine z_get hC (fun w h => uT _ w (uL10 w h)) (oX_10 qx0) 6 (by decide) (uT _ _ u442) rfl rfl dX10_findIn_99 ?_
        refine z_iload hC dX10_findIn_102 3 rfl ?_
        refine z_iaload hC (aX_14 (kf_10_6 qx0)) g3 dX10_findIn_104 ?_
        refine z_callVv hC hE (oX_5 (show kX 22 = 5 by decide)) [vR ad x2, vR ad 17, vI x1, vI (σ5 22 1), vI (σ5 22 2), vI (σ5 (31 + 6 * (x0 - 24) + 2) ((σ x0 1) - 1))] (fun sz2 => mX5_search l hinj sz2 hf) (cwV 6 hC.1.2.2.2.2 (uV (uT _) u887 u888 u889 u116 u890) rfl rfl rfl (by decide +kernel) ⟨Nat.le_of_ble_eq_true rfl, Nat.le_of_ble_eq_true rfl⟩) rfl rfl (Nat.le_of_ble_eq_true rfl) ⟨Nat.le_of_ble_eq_true rfl, Nat.le_of_ble_eq_true rfl⟩ dX10_findIn_105 (fun σ9 hf => ?_)
        refine z_aload hC dX10_findIn_108 8 rfl ?_
        refine z_callVi hC hE (oX_5 (show kX 22 = 5 by decide)) [] (fun sz2 => mX5_exists l hinj sz2 hf) (cwV 0 hC.1.2.2.2.2 (uV (uT _) u901 u902 u903 u116 u904) rfl rfl rfl (by decide +kernel) ⟨Nat.le_of_ble_eq_true rfl, Nat.le_of_ble_eq_true rfl⟩) rfl rfl (Nat.le_of_ble_eq_true rfl) ⟨Nat.le_of_ble_eq_true rfl, Nat.le_of_ble_eq_true rfl⟩ dX10_findIn_110 (fun r10 σ10 hf => ?_)
        obtain ⟨g11, hf⟩ := hf
        refine z_if_eq (tgt := 156) hC dX10_findIn_113 (by decide) g11 (fun hc => ?_) (fun hc => ?_)
        · replace hf := hf.1 hc
          refine z_iconst hC dX10_findIn_156 ?_
          exact z_bret hC hr rfl dX10_findIn_157 (Or.inl rfl) hf
        · replace hf := hf.2 hc
          refine z_aload hC dX10_findIn_116 8 rfl ?_
          refine z_get hC (fun w h => uT _ w (uL5 w h)) (oX_5 (show kX 22 = 5 by decide)) 1 (by decide) (uT _ _ u399) rfl rfl dX10_findIn_118 ?_
          refine z_aload_n hC dX10_findIn_121 4 rfl rfl ?_
          refine z_get hC (fun w h => uT _ w (uL10 w h)) (oX_10 qx0) 8 (by decide) (uT _ _ u444) rfl rfl dX10_findIn_122 ?_
          refine z_iload hC dX10_findIn_125 3 rfl ?_
          refine z_iaload hC (aX_14 (kf_10_8 qx0)) g3 dX10_findIn_127 ?_
          refine z_isub hC dX10_findIn_128 ?_
          obtain ⟨g12, hf⟩ := hf
          refine z_mabs hC g12 (fun w h => uT _ w (uC u905 (uC u845 (uC u108 (uC u846 uN))) w h)) (Nat.le_of_ble_eq_true rfl) (Nat.le_of_ble_eq_true rfl) ⟨Nat.le_of_ble_eq_true rfl, Nat.le_of_ble_eq_true rfl⟩ dX10_findIn_129 ?_
          refine z_iconst hC dX10_findIn_132 ?_
          obtain ⟨g13, hf⟩ := hf
          refine z_icmp_gt (tgt := 156) hC dX10_findIn_133 (by decide) g13 (zlit rfl rfl) (fun hc => ?_) (fun hc => ?_)
          · replace hf := hf.1 hc
            refine z_iconst hC dX10_findIn_156 ?_
            exact z_bret hC hr rfl dX10_findIn_157 (Or.inl rfl) hf
          · replace hf := hf.2 hc
            refine z_aload hC dX10_findIn_136 8 rfl ?_
            refine z_get hC (fun w h => uT _ w (uL5 w h)) (oX_5 (show kX 22 = 5 by decide)) 2 (by decide) (uT _ _ u402) rfl rfl dX10_findIn_138 ?_
            refine z_aload_n hC dX10_findIn_141 4 rfl rfl ?_
            refine z_get hC (fun w h => uT _ w (uL10 w h)) (oX_10 qx0) 9 (by decide) (uT _ _ u445) rfl rfl dX10_findIn_142 ?_
            refine z_iload hC dX10_findIn_145 3 rfl ?_
            refine z_iaload hC (aX_14 (kf_10_9 qx0)) g3 dX10_findIn_147 ?_
            refine z_isub hC dX10_findIn_148 ?_
            obtain ⟨g14, hf⟩ := hf
            refine z_mabs hC g14 (fun w h => uT _ w (uC u905 (uC u845 (uC u108 (uC u846 uN))) w h)) (Nat.le_of_ble_eq_true rfl) (Nat.le_of_ble_eq_true rfl) ⟨Nat.le_of_ble_eq_true rfl, Nat.le_of_ble_eq_true rfl⟩ dX10_findIn_149 ?_
            refine z_iconst hC dX10_findIn_152 ?_
            obtain ⟨g15, hf⟩ := hf
            refine z_icmp_le (tgt := 158) hC dX10_findIn_153 (by decide) g15 (zlit rfl rfl) (fun hc => ?_) (fun hc => ?_)
            · replace hf := hf.1 hc
              refine z_aload_n hC dX10_findIn_158 4 rfl rfl ?_
              refine z_aload_n hC dX10_findIn_159 4 rfl rfl ?_
              refine z_get hC (fun w h => uT _ w (uL10 w h)) (oX_10 qx0) 3 (by decide) (uT _ _ u436) rfl rfl dX10_findIn_160 ?_
              refine z_iload hC dX10_findIn_163 0 rfl ?_
              obtain ⟨g16, hf⟩ := hf
              refine z_mmax hC g16 g7 (fun w h => uT _ w (uC u906 (uC u796 (uC u108 (uC u797 uN))) w h)) (Nat.le_of_ble_eq_true rfl) (Nat.le_of_ble_eq_true rfl) ⟨Nat.le_of_ble_eq_true rfl, Nat.le_of_ble_eq_true rfl⟩ dX10_findIn_165 ?_
              refine z_put hC (ty := .int) tyX10 tyX10_ok nmX10 (fun w h => uT _ w (uL10 w h)) (oX_10 qx0) (loX' qx0 (by decide)) 3 (by decide) (uT _ _ u436) rfl rfl (3) (max (σ10 x0 3) (σ5 22 3)) (by simp [zu]) (by decide +kernel) rfl rfl (Nat.le_of_ble_eq_true rfl) dX10_findIn_168 ?_
              obtain ⟨σ17, eσ17⟩ : ∃ z : zSt, z = zu σ10 x0 3 (max (σ10 x0 3) (σ5 22 3)) := ⟨_, rfl⟩
              rw [← eσ17]
              replace hf := hf σ17 eσ17
              refine z_aload_n hC dX10_findIn_171 4 rfl rfl ?_
              refine z_aload_n hC dX10_findIn_172 6 rfl rfl ?_
              refine z_aload_n hC dX10_findIn_173 7 rfl rfl ?_
              refine z_iload_n hC dX10_findIn_174 5 rfl rfl ?_
              refine z_iload hC dX10_findIn_175 2 rfl ?_
              refine z_iload hC dX10_findIn_177 1 rfl ?_
              refine z_callVv hC hE (oX_10 qx0) [vR ad x2, vR ad 17, vI x1, vI (σ5 22 1), vI (σ5 22 2)] (fun sz2 => mX10_add l hinj sz2 hf) (cwV 5 hC.1.2.2.2.2 (uV (uT _) u861 u863 u18 u117 u864) rfl rfl rfl (by decide +kernel) ⟨Nat.le_of_ble_eq_true rfl, Nat.le_of_ble_eq_true rfl⟩) rfl rfl (Nat.le_of_ble_eq_true rfl) ⟨Nat.le_of_ble_eq_true rfl, Nat.le_of_ble_eq_true rfl⟩ dX10_findIn_179 (fun σ18 hf => ?_)
              refine z_iconst hC dX10_findIn_182 ?_
              exact z_bret hC hr rfl dX10_findIn_183 (Or.inr rfl) hf
            · replace hf := hf.2 hc
              refine z_iconst hC dX10_findIn_156 ?_
              exact z_bret hC hr rfl dX10_findIn_157 (Or.inl rfl) hf
      · replace hf := hf.2 hc
        refine z_iconst hC dX10_findIn_66 ?_
        exact z_bret hC hr rfl dX10_findIn_67 (Or.inl rfl) hf
  · replace hf := hf.1 hc
    refine z_iconst hC dX10_findIn_17 ?_
    exact z_bret hC hr rfl dX10_findIn_18 (Or.inl rfl) hf

-- ===== X10_trace
noncomputable def fX10_trace_B83 (K : zSt → Prop) (n : Nat) : zSt → Int → Int → Int → Int → Prop :=
  Nat.rec (motive := fun _ => zSt → Int → Int → Int → Int → Prop) (fun _ _ _ _ _ => False) (fun _ ih σ x0 x1 x7 x8 => zrg x8 ∧ zrg (σ x1 2) ∧ ((σ x1 2 ≤ x8 → K σ) ∧ (¬ σ x1 2 ≤ x8 → fX6_covers (fun r12 σ12 => zrg r12 ∧ ((r12 = 0 → ih σ12 x0 x1 x7 (x8 + 1)) ∧ (¬ r12 = 0 → fX10_findIn (fun r14 σ14 => zrg r14 ∧ ((r14 = 0 → ∀ σ16, σ16 = zu σ14 x0 2 ((σ14 x0 2) + 1) → ih σ16 x0 x1 x7 (x8 + 1)) ∧ (¬ r14 = 0 → ih σ14 x0 x1 x7 (x8 + 1)))) σ12 x0 x8 x1 x7))) σ x8))) n
theorem uX10_trace_B83 (K : zSt → Prop) (n0 : Nat) (σ : zSt) (x0 : Int) (x1 : Int) (x7 : Int) (x8 : Int) : fX10_trace_B83 K (n0 + 1) σ x0 x1 x7 x8 = (zrg x8 ∧ zrg (σ x1 2) ∧ ((σ x1 2 ≤ x8 → K σ) ∧ (¬ σ x1 2 ≤ x8 → fX6_covers (fun r12 σ12 => zrg r12 ∧ ((r12 = 0 → (fX10_trace_B83 K n0) σ12 x0 x1 x7 (x8 + 1)) ∧ (¬ r12 = 0 → fX10_findIn (fun r14 σ14 => zrg r14 ∧ ((r14 = 0 → ∀ σ16, σ16 = zu σ14 x0 2 ((σ14 x0 2) + 1) → (fX10_trace_B83 K n0) σ16 x0 x1 x7 (x8 + 1)) ∧ (¬ r14 = 0 → (fX10_trace_B83 K n0) σ14 x0 x1 x7 (x8 + 1)))) σ12 x0 x8 x1 x7))) σ x8))) := rfl
def fX10_trace (K : zSt → Prop) (σ : zSt) (x0 : Int) (x1 : Int) (x4 : Int) (x5 : Int) : Prop :=
  kX x0 = 10 ∧ kX x1 = 8 ∧ ∀ σ1, σ1 = zu σ x0 1 0 → ∀ σ2, σ2 = zu σ1 x0 2 0 → ∀ σ3, σ3 = zu σ2 x0 3 0 → zrg (σ3 17 1) ∧ ((σ3 17 1 = (-1) → K σ3) ∧ (¬ σ3 17 1 = (-1) → fX7_has (fun r5 σ5 => zrg r5 ∧ ((r5 = 0 → K σ5) ∧ (¬ r5 = 0 → (0 ≤ x4 ∧ x4 < 6) ∧ fX10_add (fun σ8 => fX8_windowPixels (fun r9 σ9 => (∃ n, fX10_trace_B83 K n σ9 x0 x1 (x5 * r9) ((σ3 17 1) + 1))) σ8 x1) σ5 x0 x1 (σ3 17 1) (σ5 ((x1 + 7) + 1) x4) (σ5 ((x1 + 7) + 2) x4)))) σ3 (x1 + 7) x4))
set_option maxHeartbeats 4000000 in
set_option maxRecDepth 100000 in
theorem wX10_trace_B83 {p : Program} {l : Launch} {e : Env} {s : State} {m : MethodId} {args : Array Value} {below : List Frame} {meth : Method} {c : Code} {D : va_G} {dA : Nat → ClassId} {ad : Nat → Nat} {sz : Nat} {aL aG aI : Nat} {aK aV : Nat → Nat} {K : zSt → Prop} (hC : zC p m c cX10_trace 9 s args (Cond.code yX10_trace cX10_trace 9 none :: UW) RX10 meth D vwCl (tyA dA) (zA ad NX sz) NX ad (celX ad dA)) (hE : zE (zXX aL aG aI aK aV) (zA ad NX sz) s s.heap) (hr : meth.sig.returnType = none) (hinj : ∀ i j, i < NX → j < NX → ad i = ad j → i = j) : ∀ (n : Nat) (σ : zSt) (x0 : Int) (x1 : Int) (x7 : Int) (x8 : Int) (qx0 : kX x0 = 10) (qx1 : kX x1 = 8), fX10_trace_B83 K n σ x0 x1 x7 x8 → zAt p l e ({ frames := 4, cells := 0, slots := 0, locals := 120 } : Room) s m args below meth c 0 0 (MQ below (va_Qv K (zB D vwCl (tyA dA) NX ad (celX ad dA)) (zA ad NX sz)) args s 0 0 (zA ad NX sz)) 9 D vwCl (zA ad NX sz) NX ad (celX ad dA) 83 [(0, vR ad x0), (1, vR ad x1), (2, vR ad 17), (3, vR ad 22), (7, vI x7), (8, vI x8)] [] σ := by
  intro n
  induction n with
  | zero => intro σ x0 x1 x7 x8 qx0 qx1 hf; exact False.elim hf
  | succ n ih =>
    intro σ x0 x1 x7 x8 qx0 qx1 hf
    rw [uX10_trace_B83] at hf
    refine z_iload hC dX10_trace_83 5 rfl ?_
    refine z_aload_n hC dX10_trace_85 1 rfl rfl ?_
    refine z_get hC (fun w h => uT _ w (uL8 w h)) (oX_8 qx1) 2 (by decide) (uT _ _ u220) rfl rfl dX10_trace_86 ?_
    obtain ⟨g10, hf⟩ := hf
    obtain ⟨g11, hf⟩ := hf
    refine z_icmp_ge (tgt := 131) hC dX10_trace_89 (by decide) g10 g11 (fun hc => ?_) (fun hc => ?_)
    · replace hf := hf.1 hc
      exact z_vret hC hr rfl dX10_trace_131 hf
    · replace hf := hf.2 hc
      refine z_aload_n hC dX10_trace_92 2 rfl rfl ?_
      refine z_iload hC dX10_trace_93 5 rfl ?_
      refine z_callVi hC hE (oX_6 (show kX 17 = 6 by decide)) [vI x8] (fun sz2 => mX6_covers l hinj sz2 hf) (cwV 1 hC.1.2.2.2.2 (uV (uT _) u878 u852 u853 u115 u854) rfl rfl rfl (by decide +kernel) ⟨Nat.le_of_ble_eq_true rfl, Nat.le_of_ble_eq_true rfl⟩) rfl rfl (Nat.le_of_ble_eq_true rfl) ⟨Nat.le_of_ble_eq_true rfl, Nat.le_of_ble_eq_true rfl⟩ dX10_trace_95 (fun r12 σ12 hf => ?_)
      obtain ⟨g13, hf⟩ := hf
      refine z_if_eq (tgt := 125) hC dX10_trace_98 (by decide) g13 (fun hc => ?_) (fun hc => ?_)
      · replace hf := hf.1 hc
        refine z_iinc hC ([(8, vI (x8 + 1)), (0, vR ad x0), (1, vR ad x1), (2, vR ad 17), (3, vR ad 22), (7, vI x7)]) dX10_trace_125 5 rfl (by decide) rfl ?_
        refine z_goto (tgt := 83) hC dX10_trace_128 (by decide) ?_
        refine z_sub (lv' := [(0, vR ad x0), (1, vR ad x1), (2, vR ad 17), (3, vR ad 22), (7, vI x7), (8, vI (x8 + 1))]) [1, 2, 3, 4, 5, 0] rfl ?_
        exact ih _ _ _ _ _ qx0 qx1 hf
      · replace hf := hf.2 hc
        refine z_aload_n hC dX10_trace_101 0 rfl rfl ?_
        refine z_iload hC dX10_trace_102 5 rfl ?_
        refine z_aload_n hC dX10_trace_104 1 rfl rfl ?_
        refine z_aload_n hC dX10_trace_105 2 rfl rfl ?_
        refine z_aload_n hC dX10_trace_106 3 rfl rfl ?_
        refine z_iload hC dX10_trace_107 4 rfl ?_
        refine z_callVi hC hE (oX_10 qx0) [vI x8, vR ad x1, vR ad 17, vR ad 22, vI x7] (fun sz2 => mX10_findIn l hinj sz2 hf) (cwV 5 hC.1.2.2.2.2 (uV (uT _) u879 u881 u19 u117 u882) rfl rfl rfl (by decide +kernel) ⟨Nat.le_of_ble_eq_true rfl, Nat.le_of_ble_eq_true rfl⟩) rfl rfl (Nat.le_of_ble_eq_true rfl) ⟨Nat.le_of_ble_eq_true rfl, Nat.le_of_ble_eq_true rfl⟩ dX10_trace_109 (fun r14 σ14 hf => ?_)
        obtain ⟨g15, hf⟩ := hf
        refine z_if_ne (tgt := 125) hC dX10_trace_112 (by decide) g15 (fun hc => ?_) (fun hc => ?_)
        · replace hf := hf.2 hc
          refine z_iinc hC ([(8, vI (x8 + 1)), (0, vR ad x0), (1, vR ad x1), (2, vR ad 17), (3, vR ad 22), (7, vI x7)]) dX10_trace_125 5 rfl (by decide) rfl ?_
          refine z_goto (tgt := 83) hC dX10_trace_128 (by decide) ?_
          refine z_sub (lv' := [(0, vR ad x0), (1, vR ad x1), (2, vR ad 17), (3, vR ad 22), (7, vI x7), (8, vI (x8 + 1))]) [1, 2, 3, 4, 5, 0] rfl ?_
          exact ih _ _ _ _ _ qx0 qx1 hf
        · replace hf := hf.1 hc
          refine z_aload_n hC dX10_trace_115 0 rfl rfl ?_
          refine z_dup hC dX10_trace_116 rfl ?_
          refine z_get hC (fun w h => uT _ w (uL10 w h)) (oX_10 qx0) 2 (by decide) (uT _ _ u434) rfl rfl dX10_trace_117 ?_
          refine z_iconst hC dX10_trace_120 ?_
          refine z_iadd hC dX10_trace_121 ?_
          refine z_put hC (ty := .int) tyX10 tyX10_ok nmX10 (fun w h => uT _ w (uL10 w h)) (oX_10 qx0) (loX' qx0 (by decide)) 2 (by decide) (uT _ _ u434) rfl rfl (2) ((σ14 x0 2) + 1) (by simp [zu]) (by decide +kernel) rfl rfl (Nat.le_of_ble_eq_true rfl) dX10_trace_122 ?_
          obtain ⟨σ16, eσ16⟩ : ∃ z : zSt, z = zu σ14 x0 2 ((σ14 x0 2) + 1) := ⟨_, rfl⟩
          rw [← eσ16]
          replace hf := hf σ16 eσ16
          refine z_iinc hC ([(8, vI (x8 + 1)), (0, vR ad x0), (1, vR ad x1), (2, vR ad 17), (3, vR ad 22), (7, vI x7)]) dX10_trace_125 5 rfl (by decide) rfl ?_
          refine z_goto (tgt := 83) hC dX10_trace_128 (by decide) ?_
          refine z_sub (lv' := [(0, vR ad x0), (1, vR ad x1), (2, vR ad 17), (3, vR ad 22), (7, vI x7), (8, vI (x8 + 1))]) [1, 2, 3, 4, 5, 0] rfl ?_
          exact ih _ _ _ _ _ qx0 qx1 hf
set_option maxHeartbeats 4000000 in
set_option maxRecDepth 100000 in
theorem mX10_trace {D : va_G} {dA : Nat → ClassId} {ad : Nat → Nat} {aL aG aI : Nat} {aK aV : Nat → Nat} (l : Launch) (hinj : ∀ i j, i < NX → j < NX → ad i = ad j → i = j) (sz : Nat) {K : zSt → Prop} {σ : zSt} {x0 : Int} {x1 : Int} {x4 : Int} {x5 : Int} (hf : fX10_trace K σ x0 x1 x4 x5) : Met l yX10_trace (Cond.code yX10_trace cX10_trace 9 none :: UW) ({ frames := 4, cells := 0, slots := 0, locals := 120 } : Room) (va_Pc [vR ad x0, vR ad x1, vR ad 17, vR ad 22, vI x4, vI x5] (zPre D vwCl (tyA dA) (zXX aL aG aI aK aV) NX ad (celX ad dA) sz σ)) (va_Qv K (zB D vwCl (tyA dA) NX ad (celX ad dA)) (zA ad NX sz)) 0 0 (zA ad NX sz) := by
  refine z_enter (cc := cX10_trace) (maxL := 9) (ret := none) (vs := [vR ad x0, vR ad x1, vR ad 17, vR ad 22, vI x4, vI x5]) (plainFor_of_name (by decide)) rfl hinj (Nat.le_of_ble_eq_true rfl) ?_
  intro p e s m args below meth c hC hE hsz hr hnm
  obtain ⟨qx0, hf⟩ := hf
  obtain ⟨qx1, hf⟩ := hf
  show zAt p l e ({ frames := 4, cells := 0, slots := 0, locals := 120 } : Room) s m args below meth c 0 0 (MQ below (va_Qv K (zB D vwCl (tyA dA) NX ad (celX ad dA)) (zA ad NX sz)) args s 0 0 (zA ad NX sz)) 9 D vwCl (zA ad NX sz) NX ad (celX ad dA) 0 [(0, vR ad x0), (1, vR ad x1), (2, vR ad 17), (3, vR ad 22), (4, vI x4), (5, vI x5)] [] σ
  refine z_aload_n hC dX10_trace_0 0 rfl rfl ?_
  refine z_iconst hC dX10_trace_1 ?_
  refine z_put hC (ty := .int) tyX10 tyX10_ok nmX10 (fun w h => uT _ w (uL10 w h)) (oX_10 qx0) (loX' qx0 (by decide)) 1 (by decide) (uT _ _ u432) rfl rfl (1) (0) (by simp [zu]) (by decide +kernel) rfl rfl (Nat.le_of_ble_eq_true rfl) dX10_trace_2 ?_
  obtain ⟨σ1, eσ1⟩ : ∃ z : zSt, z = zu σ x0 1 0 := ⟨_, rfl⟩
  rw [← eσ1]
  replace hf := hf σ1 eσ1
  refine z_aload_n hC dX10_trace_5 0 rfl rfl ?_
  refine z_iconst hC dX10_trace_6 ?_
  refine z_put hC (ty := .int) tyX10 tyX10_ok nmX10 (fun w h => uT _ w (uL10 w h)) (oX_10 qx0) (loX' qx0 (by decide)) 2 (by decide) (uT _ _ u434) rfl rfl (2) (0) (by simp [zu]) (by decide +kernel) rfl rfl (Nat.le_of_ble_eq_true rfl) dX10_trace_7 ?_
  obtain ⟨σ2, eσ2⟩ : ∃ z : zSt, z = zu σ1 x0 2 0 := ⟨_, rfl⟩
  rw [← eσ2]
  replace hf := hf σ2 eσ2
  refine z_aload_n hC dX10_trace_10 0 rfl rfl ?_
  refine z_iconst hC dX10_trace_11 ?_
  refine z_put hC (ty := .int) tyX10 tyX10_ok nmX10 (fun w h => uT _ w (uL10 w h)) (oX_10 qx0) (loX' qx0 (by decide)) 3 (by decide) (uT _ _ u436) rfl rfl (3) (0) (by simp [zu]) (by decide +kernel) rfl rfl (Nat.le_of_ble_eq_true rfl) dX10_trace_12 ?_
  obtain ⟨σ3, eσ3⟩ : ∃ z : zSt, z = zu σ2 x0 3 0 := ⟨_, rfl⟩
  rw [← eσ3]
  replace hf := hf σ3 eσ3
  refine z_aload_n hC dX10_trace_15 2 rfl rfl ?_
  refine z_get hC (fun w h => uT _ w (uL6 w h)) (oX_6 (show kX 17 = 6 by decide)) 1 (by decide) (uT _ _ u371) rfl rfl dX10_trace_16 ?_
  refine z_istore hC ([(6, vI (σ3 17 1)), (0, vR ad x0), (1, vR ad x1), (2, vR ad 17), (3, vR ad 22), (4, vI x4), (5, vI x5)]) dX10_trace_19 (by decide) rfl ?_
  refine z_iload hC dX10_trace_21 0 rfl ?_
  refine z_iconst hC dX10_trace_23 ?_
  obtain ⟨g4, hf⟩ := hf
  refine z_icmp_eq (tgt := 39) hC dX10_trace_24 (by decide) g4 (zlit rfl rfl) (fun hc => ?_) (fun hc => ?_)
  · replace hf := hf.1 hc
    exact z_vret hC hr rfl dX10_trace_39 hf
  · replace hf := hf.2 hc
    refine z_aload_n hC dX10_trace_27 2 rfl rfl ?_
    refine z_get hC (fun w h => uT _ w (uL8 w h)) (oX_8 qx1) 8 (by decide) (uT _ _ u241) rfl rfl dX10_trace_28 ?_
    refine z_iload hC dX10_trace_31 5 rfl ?_
    refine z_callVi hC hE (oX_7 (kf_8_8 qx1)) [vI x4] (fun sz2 => mX7_has l hinj sz2 hf) (cwV 1 hC.1.2.2.2.2 (uV (uT _) u860 u664 u665 u107 u666) rfl rfl rfl (by decide +kernel) ⟨Nat.le_of_ble_eq_true rfl, Nat.le_of_ble_eq_true rfl⟩) rfl rfl (Nat.le_of_ble_eq_true rfl) ⟨Nat.le_of_ble_eq_true rfl, Nat.le_of_ble_eq_true rfl⟩ dX10_trace_33 (fun r5 σ5 hf => ?_)
    obtain ⟨g6, hf⟩ := hf
    refine z_if_ne (tgt := 40) hC dX10_trace_36 (by decide) g6 (fun hc => ?_) (fun hc => ?_)
    · replace hf := hf.2 hc
      refine z_aload_n hC dX10_trace_40 1 rfl rfl ?_
      refine z_aload_n hC dX10_trace_41 2 rfl rfl ?_
      refine z_aload_n hC dX10_trace_42 3 rfl rfl ?_
      refine z_iload hC dX10_trace_43 0 rfl ?_
      refine z_aload_n hC dX10_trace_45 2 rfl rfl ?_
      refine z_get hC (fun w h => uT _ w (uL8 w h)) (oX_8 qx1) 8 (by decide) (uT _ _ u241) rfl rfl dX10_trace_46 ?_
      refine z_get hC (fun w h => uT _ w (uL7 w h)) (oX_7 (kf_8_8 qx1)) 1 (by decide) (uT _ _ u157) rfl rfl dX10_trace_49 ?_
      refine z_iload hC dX10_trace_52 5 rfl ?_
      obtain ⟨g7, hf⟩ := hf
      refine z_iaload hC (aX_14 (kf_7_1 (kf_8_8 qx1))) g7 dX10_trace_54 ?_
      refine z_aload_n hC dX10_trace_55 2 rfl rfl ?_
      refine z_get hC (fun w h => uT _ w (uL8 w h)) (oX_8 qx1) 8 (by decide) (uT _ _ u241) rfl rfl dX10_trace_56 ?_
      refine z_get hC (fun w h => uT _ w (uL7 w h)) (oX_7 (kf_8_8 qx1)) 2 (by decide) (uT _ _ u161) rfl rfl dX10_trace_59 ?_
      refine z_iload hC dX10_trace_62 5 rfl ?_
      refine z_iaload hC (aX_14 (kf_7_2 (kf_8_8 qx1))) g7 dX10_trace_64 ?_
      refine z_callVv hC hE (oX_10 qx0) [vR ad x1, vR ad 17, vI (σ3 17 1), vI (σ5 ((x1 + 7) + 1) x4), vI (σ5 ((x1 + 7) + 2) x4)] (fun sz2 => mX10_add l hinj sz2 hf) (cwV 5 hC.1.2.2.2.2 (uV (uT _) u861 u863 u18 u117 u864) rfl rfl rfl (by decide +kernel) ⟨Nat.le_of_ble_eq_true rfl, Nat.le_of_ble_eq_true rfl⟩) rfl rfl (Nat.le_of_ble_eq_true rfl) ⟨Nat.le_of_ble_eq_true rfl, Nat.le_of_ble_eq_true rfl⟩ dX10_trace_65 (fun σ8 hf => ?_)
      refine z_iload hC dX10_trace_68 6 rfl ?_
      refine z_aload_n hC dX10_trace_70 2 rfl rfl ?_
      refine z_callVi hC hE (oX_8 qx1) [] (fun sz2 => mX8_windowPixels l hinj sz2 hf) (cwV 0 hC.1.2.2.2.2 (uV (uT _) u874 u875 u876 u106 u877) rfl rfl rfl (by decide +kernel) ⟨Nat.le_of_ble_eq_true rfl, Nat.le_of_ble_eq_true rfl⟩) rfl rfl (Nat.le_of_ble_eq_true rfl) ⟨Nat.le_of_ble_eq_true rfl, Nat.le_of_ble_eq_true rfl⟩ dX10_trace_71 (fun r9 σ9 hf => ?_)
      refine z_imul hC dX10_trace_74 ?_
      refine z_istore hC ([(7, vI (x5 * r9)), (6, vI (σ3 17 1)), (0, vR ad x0), (1, vR ad x1), (2, vR ad 17), (3, vR ad 22), (4, vI x4), (5, vI x5)]) dX10_trace_75 (by decide) rfl ?_
      refine z_iload hC dX10_trace_77 1 rfl ?_
      refine z_iconst hC dX10_trace_79 ?_
      refine z_iadd hC dX10_trace_80 ?_
      refine z_istore hC ([(8, vI ((σ3 17 1) + 1)), (7, vI (x5 * r9)), (6, vI (σ3 17 1)), (0, vR ad x0), (1, vR ad x1), (2, vR ad 17), (3, vR ad 22), (4, vI x4), (5, vI x5)]) dX10_trace_81 (by decide) rfl ?_
      refine z_sub (lv' := [(0, vR ad x0), (1, vR ad x1), (2, vR ad 17), (3, vR ad 22), (7, vI (x5 * r9)), (8, vI ((σ3 17 1) + 1))]) [3, 4, 5, 6, 1, 0] rfl ?_
      obtain ⟨n, hf⟩ := hf
      exact wX10_trace_B83 hC hE hr hinj n _ _ _ _ _ qx0 qx1 hf
    · replace hf := hf.1 hc
      exact z_vret hC hr rfl dX10_trace_39 hf

-- ===== X10_entryOf
noncomputable def fX10_entryOf_B2 (K : Int → zSt → Prop) (n : Nat) : zSt → Int → Int → Int → Prop :=
  Nat.rec (motive := fun _ => zSt → Int → Int → Int → Prop) (fun _ _ _ _ => False) (fun _ ih σ x0 x1 x2 => zrg x2 ∧ zrg (σ x0 1) ∧ ((σ x0 1 ≤ x2 → K (-1) σ) ∧ (¬ σ x0 1 ≤ x2 → (0 ≤ x2 ∧ x2 < 6) ∧ zrg (σ (31 + 6 * (x0 - 24) + 2) x2) ∧ zrg x1 ∧ ((σ (31 + 6 * (x0 - 24) + 2) x2 = x1 → K x2 σ) ∧ (¬ σ (31 + 6 * (x0 - 24) + 2) x2 = x1 → ih σ x0 x1 (x2 + 1)))))) n
theorem uX10_entryOf_B2 (K : Int → zSt → Prop) (n0 : Nat) (σ : zSt) (x0 : Int) (x1 : Int) (x2 : Int) : fX10_entryOf_B2 K (n0 + 1) σ x0 x1 x2 = (zrg x2 ∧ zrg (σ x0 1) ∧ ((σ x0 1 ≤ x2 → K (-1) σ) ∧ (¬ σ x0 1 ≤ x2 → (0 ≤ x2 ∧ x2 < 6) ∧ zrg (σ (31 + 6 * (x0 - 24) + 2) x2) ∧ zrg x1 ∧ ((σ (31 + 6 * (x0 - 24) + 2) x2 = x1 → K x2 σ) ∧ (¬ σ (31 + 6 * (x0 - 24) + 2) x2 = x1 → (fX10_entryOf_B2 K n0) σ x0 x1 (x2 + 1)))))) := rfl
def fX10_entryOf (K : Int → zSt → Prop) (σ : zSt) (x0 : Int) (x1 : Int) : Prop :=
  kX x0 = 10 ∧ (∃ n, fX10_entryOf_B2 K n σ x0 x1 0)
set_option maxHeartbeats 4000000 in
set_option maxRecDepth 100000 in
theorem wX10_entryOf_B2 {p : Program} {l : Launch} {e : Env} {s : State} {m : MethodId} {args : Array Value} {below : List Frame} {meth : Method} {c : Code} {D : va_G} {dA : Nat → ClassId} {ad : Nat → Nat} {sz : Nat} {aL aG aI : Nat} {aK aV : Nat → Nat} {K : Int → zSt → Prop} (hC : zC p m c cX10_entryOf 3 s args (Cond.code yX10_entryOf cX10_entryOf 3 (some .int) :: UW) RX10 meth D vwCl (tyA dA) (zA ad NX sz) NX ad (celX ad dA)) (hE : zE (zXX aL aG aI aK aV) (zA ad NX sz) s s.heap) (hr : meth.sig.returnType = (some .int)) (hinj : ∀ i j, i < NX → j < NX → ad i = ad j → i = j) : ∀ (n : Nat) (σ : zSt) (x0 : Int) (x1 : Int) (x2 : Int) (qx0 : kX x0 = 10), fX10_entryOf_B2 K n σ x0 x1 x2 → zAt p l e ({ frames := 0, cells := 0, slots := 0, locals := 0 } : Room) s m args below meth c 0 0 (MQ below (va_Qi (zPi K) (zB D vwCl (tyA dA) NX ad (celX ad dA)) (zA ad NX sz)) args s 0 0 (zA ad NX sz)) 3 D vwCl (zA ad NX sz) NX ad (celX ad dA) 2 [(0, vR ad x0), (1, vI x1), (2, vI x2)] [] σ := by
  intro n
  induction n with
  | zero => intro σ x0 x1 x2 qx0 hf; exact False.elim hf
  | succ n ih =>
    intro σ x0 x1 x2 qx0 hf
    rw [uX10_entryOf_B2] at hf
    refine z_iload_n hC dX10_entryOf_2 2 rfl rfl ?_
    refine z_aload_n hC dX10_entryOf_3 0 rfl rfl ?_
    refine z_get hC (fun w h => uT _ w (uL10 w h)) (oX_10 qx0) 1 (by decide) (uT _ _ u432) rfl rfl dX10_entryOf_4 ?_
    obtain ⟨g1, hf⟩ := hf
    obtain ⟨g2, hf⟩ := hf
    refine z_icmp_ge (tgt := 28) hC dX10_entryOf_7 (by decide) g1 g2 (fun hc => ?_) (fun hc => ?_)
    · replace hf := hf.1 hc
      refine z_iconst hC dX10_entryOf_28 ?_
      exact z_iret hC hr rfl dX10_entryOf_29 hf
    · replace hf := hf.2 hc
      refine z_aload_n hC dX10_entryOf_10 0 rfl rfl ?_
      refine z_get hC (fun w h => uT _ w (uL10 w h)) (oX_10 qx0) 6 (by decide) (uT _ _ u442) rfl rfl dX10_entryOf_11 ?_
      refine z_iload_n hC dX10_entryOf_14 2 rfl rfl ?_
      obtain ⟨g3, hf⟩ := hf
      refine z_iaload hC (aX_14 (kf_10_6 qx0)) g3 dX10_entryOf_15 ?_
      refine z_iload_n hC dX10_entryOf_16 1 rfl rfl ?_
      obtain ⟨g4, hf⟩ := hf
      obtain ⟨g5, hf⟩ := hf
      refine z_icmp_ne (tgt := 22) hC dX10_entryOf_17 (by decide) g4 g5 (fun hc => ?_) (fun hc => ?_)
      · replace hf := hf.2 hc
        refine z_iinc hC ([(2, vI (x2 + 1)), (0, vR ad x0), (1, vI x1)]) dX10_entryOf_22 2 rfl (by decide) rfl ?_
        refine z_goto (tgt := 2) hC dX10_entryOf_25 (by decide) ?_
        refine z_sub (lv' := [(0, vR ad x0), (1, vI x1), (2, vI (x2 + 1))]) [1, 2, 0] rfl ?_
        exact ih _ _ _ _ qx0 hf
      · replace hf := hf.1 hc
        refine z_iload_n hC dX10_entryOf_20 2 rfl rfl ?_
        exact z_iret hC hr rfl dX10_entryOf_21 hf
set_option maxHeartbeats 4000000 in
set_option maxRecDepth 100000 in
theorem mX10_entryOf {D : va_G} {dA : Nat → ClassId} {ad : Nat → Nat} {aL aG aI : Nat} {aK aV : Nat → Nat} (l : Launch) (hinj : ∀ i j, i < NX → j < NX → ad i = ad j → i = j) (sz : Nat) {K : Int → zSt → Prop} {σ : zSt} {x0 : Int} {x1 : Int} (hf : fX10_entryOf K σ x0 x1) : Met l yX10_entryOf (Cond.code yX10_entryOf cX10_entryOf 3 (some .int) :: UW) ({ frames := 0, cells := 0, slots := 0, locals := 0 } : Room) (va_Pc [vR ad x0, vI x1] (zPre D vwCl (tyA dA) (zXX aL aG aI aK aV) NX ad (celX ad dA) sz σ)) (va_Qi (zPi K) (zB D vwCl (tyA dA) NX ad (celX ad dA)) (zA ad NX sz)) 0 0 (zA ad NX sz) := by
  refine z_enter (cc := cX10_entryOf) (maxL := 3) (ret := (some .int)) (vs := [vR ad x0, vI x1]) (plainFor_of_name (by decide)) rfl hinj (Nat.le_of_ble_eq_true rfl) ?_
  intro p e s m args below meth c hC hE hsz hr hnm
  obtain ⟨qx0, hf⟩ := hf
  show zAt p l e ({ frames := 0, cells := 0, slots := 0, locals := 0 } : Room) s m args below meth c 0 0 (MQ below (va_Qi (zPi K) (zB D vwCl (tyA dA) NX ad (celX ad dA)) (zA ad NX sz)) args s 0 0 (zA ad NX sz)) 3 D vwCl (zA ad NX sz) NX ad (celX ad dA) 0 [(0, vR ad x0), (1, vI x1)] [] σ
  refine z_iconst hC dX10_entryOf_0 ?_
  refine z_istore_n hC ([(2, vI 0), (0, vR ad x0), (1, vI x1)]) dX10_entryOf_1 rfl (by decide) rfl ?_
  refine z_sub (lv' := [(0, vR ad x0), (1, vI x1), (2, vI 0)]) [1, 2, 0] rfl ?_
  obtain ⟨n, hf⟩ := hf
  exact wX10_entryOf_B2 hC hE hr hinj n _ _ _ _ qx0 hf

-- ===== X10_isTrackedIn
def fX10_isTrackedIn (K : Int → zSt → Prop) (σ : zSt) (x0 : Int) (x1 : Int) : Prop :=
  kX x0 = 10 ∧ fX10_entryOf (fun r1 σ1 => zrg r1 ∧ ((r1 = (-1) → K 0 σ1) ∧ (¬ r1 = (-1) → K 1 σ1))) σ x0 x1
set_option maxHeartbeats 4000000 in
set_option maxRecDepth 100000 in
theorem mX10_isTrackedIn {D : va_G} {dA : Nat → ClassId} {ad : Nat → Nat} {aL aG aI : Nat} {aK aV : Nat → Nat} (l : Launch) (hinj : ∀ i j, i < NX → j < NX → ad i = ad j → i = j) (sz : Nat) {K : Int → zSt → Prop} {σ : zSt} {x0 : Int} {x1 : Int} (hf : fX10_isTrackedIn K σ x0 x1) : Met l yX10_isTrackedIn (Cond.code yX10_isTrackedIn cX10_isTrackedIn 2 (some .boolean) :: UW) ({ frames := 1, cells := 0, slots := 0, locals := 22 } : Room) (va_Pc [vR ad x0, vI x1] (zPre D vwCl (tyA dA) (zXX aL aG aI aK aV) NX ad (celX ad dA) sz σ)) (va_Qi (zPi K) (zB D vwCl (tyA dA) NX ad (celX ad dA)) (zA ad NX sz)) 0 0 (zA ad NX sz) := by
  refine z_enter (cc := cX10_isTrackedIn) (maxL := 2) (ret := (some .boolean)) (vs := [vR ad x0, vI x1]) (plainFor_of_name (by decide)) rfl hinj (Nat.le_of_ble_eq_true rfl) ?_
  intro p e s m args below meth c hC hE hsz hr hnm
  obtain ⟨qx0, hf⟩ := hf
  show zAt p l e ({ frames := 1, cells := 0, slots := 0, locals := 22 } : Room) s m args below meth c 0 0 (MQ below (va_Qi (zPi K) (zB D vwCl (tyA dA) NX ad (celX ad dA)) (zA ad NX sz)) args s 0 0 (zA ad NX sz)) 2 D vwCl (zA ad NX sz) NX ad (celX ad dA) 0 [(0, vR ad x0), (1, vI x1)] [] σ
  refine z_aload_n hC dX10_isTrackedIn_0 0 rfl rfl ?_
  refine z_iload_n hC dX10_isTrackedIn_1 1 rfl rfl ?_
  refine z_callVi hC hE (oX_10 qx0) [vI x1] (fun sz2 => mX10_entryOf l hinj sz2 hf) (cwV 1 hC.1.2.2.2.2 (uV (uT _) u1257 u1259 u32 u117 u1260) rfl rfl rfl (by decide +kernel) ⟨Nat.le_of_ble_eq_true rfl, Nat.le_of_ble_eq_true rfl⟩) rfl rfl (Nat.le_of_ble_eq_true rfl) ⟨Nat.le_of_ble_eq_true rfl, Nat.le_of_ble_eq_true rfl⟩ dX10_isTrackedIn_2 (fun r1 σ1 hf => ?_)
  refine z_iconst hC dX10_isTrackedIn_5 ?_
  obtain ⟨g2, hf⟩ := hf
  refine z_icmp_eq (tgt := 13) hC dX10_isTrackedIn_6 (by decide) g2 (zlit rfl rfl) (fun hc => ?_) (fun hc => ?_)
  · replace hf := hf.1 hc
    refine z_iconst hC dX10_isTrackedIn_13 ?_
    exact z_bret hC hr rfl dX10_isTrackedIn_14 (Or.inl rfl) hf
  · replace hf := hf.2 hc
    refine z_iconst hC dX10_isTrackedIn_9 ?_
    refine z_goto (tgt := 14) hC dX10_isTrackedIn_10 (by decide) ?_
    exact z_bret hC hr rfl dX10_isTrackedIn_14 (Or.inr rfl) hf

-- ===== X10_columnIn
def fX10_columnIn (K : Int → zSt → Prop) (σ : zSt) (x0 : Int) (x1 : Int) : Prop :=
  kX x0 = 10 ∧ fX10_entryOf (fun r1 σ1 => zrg r1 ∧ ((r1 = (-1) → K (-1) σ1) ∧ (¬ r1 = (-1) → (0 ≤ r1 ∧ r1 < 6) ∧ K (σ1 (31 + 6 * (x0 - 24) + 4) r1) σ1))) σ x0 x1
set_option maxHeartbeats 4000000 in
set_option maxRecDepth 100000 in
theorem mX10_columnIn {D : va_G} {dA : Nat → ClassId} {ad : Nat → Nat} {aL aG aI : Nat} {aK aV : Nat → Nat} (l : Launch) (hinj : ∀ i j, i < NX → j < NX → ad i = ad j → i = j) (sz : Nat) {K : Int → zSt → Prop} {σ : zSt} {x0 : Int} {x1 : Int} (hf : fX10_columnIn K σ x0 x1) : Met l yX10_columnIn (Cond.code yX10_columnIn cX10_columnIn 3 (some .int) :: UW) ({ frames := 1, cells := 0, slots := 0, locals := 22 } : Room) (va_Pc [vR ad x0, vI x1] (zPre D vwCl (tyA dA) (zXX aL aG aI aK aV) NX ad (celX ad dA) sz σ)) (va_Qi (zPi K) (zB D vwCl (tyA dA) NX ad (celX ad dA)) (zA ad NX sz)) 0 0 (zA ad NX sz) := by
  refine z_enter (cc := cX10_columnIn) (maxL := 3) (ret := (some .int)) (vs := [vR ad x0, vI x1]) (plainFor_of_name (by decide)) rfl hinj (Nat.le_of_ble_eq_true rfl) ?_
  intro p e s m args below meth c hC hE hsz hr hnm
  obtain ⟨qx0, hf⟩ := hf
  show zAt p l e ({ frames := 1, cells := 0, slots := 0, locals := 22 } : Room) s m args below meth c 0 0 (MQ below (va_Qi (zPi K) (zB D vwCl (tyA dA) NX ad (celX ad dA)) (zA ad NX sz)) args s 0 0 (zA ad NX sz)) 3 D vwCl (zA ad NX sz) NX ad (celX ad dA) 0 [(0, vR ad x0), (1, vI x1)] [] σ
  refine z_aload_n hC dX10_columnIn_0 0 rfl rfl ?_
  refine z_iload_n hC dX10_columnIn_1 1 rfl rfl ?_
  refine z_callVi hC hE (oX_10 qx0) [vI x1] (fun sz2 => mX10_entryOf l hinj sz2 hf) (cwV 1 hC.1.2.2.2.2 (uV (uT _) u1257 u1259 u32 u117 u1260) rfl rfl rfl (by decide +kernel) ⟨Nat.le_of_ble_eq_true rfl, Nat.le_of_ble_eq_true rfl⟩) rfl rfl (Nat.le_of_ble_eq_true rfl) ⟨Nat.le_of_ble_eq_true rfl, Nat.le_of_ble_eq_true rfl⟩ dX10_columnIn_2 (fun r1 σ1 hf => ?_)
  refine z_istore_n hC ([(2, vI r1), (0, vR ad x0), (1, vI x1)]) dX10_columnIn_5 rfl (by decide) rfl ?_
  refine z_iload_n hC dX10_columnIn_6 0 rfl rfl ?_
  refine z_iconst hC dX10_columnIn_7 ?_
  obtain ⟨g2, hf⟩ := hf
  refine z_icmp_ne (tgt := 15) hC dX10_columnIn_8 (by decide) g2 (zlit rfl rfl) (fun hc => ?_) (fun hc => ?_)
  · replace hf := hf.2 hc
    refine z_aload_n hC dX10_columnIn_15 1 rfl rfl ?_
    refine z_get hC (fun w h => uT _ w (uL10 w h)) (oX_10 qx0) 8 (by decide) (uT _ _ u444) rfl rfl dX10_columnIn_16 ?_
    refine z_iload_n hC dX10_columnIn_19 0 rfl rfl ?_
    obtain ⟨g3, hf⟩ := hf
    refine z_iaload hC (aX_14 (kf_10_8 qx0)) g3 dX10_columnIn_20 ?_
    exact z_iret hC hr rfl dX10_columnIn_21 hf
  · replace hf := hf.1 hc
    refine z_iconst hC dX10_columnIn_11 ?_
    refine z_goto (tgt := 21) hC dX10_columnIn_12 (by decide) ?_
    exact z_iret hC hr rfl dX10_columnIn_21 hf

-- ===== X10_rowIn
def fX10_rowIn (K : Int → zSt → Prop) (σ : zSt) (x0 : Int) (x1 : Int) : Prop :=
  kX x0 = 10 ∧ fX10_entryOf (fun r1 σ1 => zrg r1 ∧ ((r1 = (-1) → K (-1) σ1) ∧ (¬ r1 = (-1) → (0 ≤ r1 ∧ r1 < 6) ∧ K (σ1 (31 + 6 * (x0 - 24) + 5) r1) σ1))) σ x0 x1
set_option maxHeartbeats 4000000 in
set_option maxRecDepth 100000 in
theorem mX10_rowIn {D : va_G} {dA : Nat → ClassId} {ad : Nat → Nat} {aL aG aI : Nat} {aK aV : Nat → Nat} (l : Launch) (hinj : ∀ i j, i < NX → j < NX → ad i = ad j → i = j) (sz : Nat) {K : Int → zSt → Prop} {σ : zSt} {x0 : Int} {x1 : Int} (hf : fX10_rowIn K σ x0 x1) : Met l yX10_rowIn (Cond.code yX10_rowIn cX10_rowIn 3 (some .int) :: UW) ({ frames := 1, cells := 0, slots := 0, locals := 22 } : Room) (va_Pc [vR ad x0, vI x1] (zPre D vwCl (tyA dA) (zXX aL aG aI aK aV) NX ad (celX ad dA) sz σ)) (va_Qi (zPi K) (zB D vwCl (tyA dA) NX ad (celX ad dA)) (zA ad NX sz)) 0 0 (zA ad NX sz) := by
  refine z_enter (cc := cX10_rowIn) (maxL := 3) (ret := (some .int)) (vs := [vR ad x0, vI x1]) (plainFor_of_name (by decide)) rfl hinj (Nat.le_of_ble_eq_true rfl) ?_
  intro p e s m args below meth c hC hE hsz hr hnm
  obtain ⟨qx0, hf⟩ := hf
  show zAt p l e ({ frames := 1, cells := 0, slots := 0, locals := 22 } : Room) s m args below meth c 0 0 (MQ below (va_Qi (zPi K) (zB D vwCl (tyA dA) NX ad (celX ad dA)) (zA ad NX sz)) args s 0 0 (zA ad NX sz)) 3 D vwCl (zA ad NX sz) NX ad (celX ad dA) 0 [(0, vR ad x0), (1, vI x1)] [] σ
  refine z_aload_n hC dX10_rowIn_0 0 rfl rfl ?_
  refine z_iload_n hC dX10_rowIn_1 1 rfl rfl ?_
  refine z_callVi hC hE (oX_10 qx0) [vI x1] (fun sz2 => mX10_entryOf l hinj sz2 hf) (cwV 1 hC.1.2.2.2.2 (uV (uT _) u1257 u1259 u32 u117 u1260) rfl rfl rfl (by decide +kernel) ⟨Nat.le_of_ble_eq_true rfl, Nat.le_of_ble_eq_true rfl⟩) rfl rfl (Nat.le_of_ble_eq_true rfl) ⟨Nat.le_of_ble_eq_true rfl, Nat.le_of_ble_eq_true rfl⟩ dX10_rowIn_2 (fun r1 σ1 hf => ?_)
  refine z_istore_n hC ([(2, vI r1), (0, vR ad x0), (1, vI x1)]) dX10_rowIn_5 rfl (by decide) rfl ?_
  refine z_iload_n hC dX10_rowIn_6 0 rfl rfl ?_
  refine z_iconst hC dX10_rowIn_7 ?_
  obtain ⟨g2, hf⟩ := hf
  refine z_icmp_ne (tgt := 15) hC dX10_rowIn_8 (by decide) g2 (zlit rfl rfl) (fun hc => ?_) (fun hc => ?_)
  · replace hf := hf.2 hc
    refine z_aload_n hC dX10_rowIn_15 1 rfl rfl ?_
    refine z_get hC (fun w h => uT _ w (uL10 w h)) (oX_10 qx0) 9 (by decide) (uT _ _ u445) rfl rfl dX10_rowIn_16 ?_
    refine z_iload_n hC dX10_rowIn_19 0 rfl rfl ?_
    obtain ⟨g3, hf⟩ := hf
    refine z_iaload hC (aX_14 (kf_10_9 qx0)) g3 dX10_rowIn_20 ?_
    exact z_iret hC hr rfl dX10_rowIn_21 hf
  · replace hf := hf.1 hc
    refine z_iconst hC dX10_rowIn_11 ?_
    refine z_goto (tgt := 21) hC dX10_rowIn_12 (by decide) ?_
    exact z_iret hC hr rfl dX10_rowIn_21 hf

-- ===== X10_dayOf
def fX10_dayOf (K : Int → zSt → Prop) (σ : zSt) (x0 : Int) (x1 : Int) : Prop :=
  kX x0 = 10 ∧ fX10_hasEntry (fun r1 σ1 => zrg r1 ∧ ((r1 = 0 → K (-1) σ1) ∧ (¬ r1 = 0 → (0 ≤ x1 ∧ x1 < 6) ∧ K (σ1 (31 + 6 * (x0 - 24) + 3) x1) σ1))) σ x0 x1
set_option maxHeartbeats 4000000 in
set_option maxRecDepth 100000 in
theorem mX10_dayOf {D : va_G} {dA : Nat → ClassId} {ad : Nat → Nat} {aL aG aI : Nat} {aK aV : Nat → Nat} (l : Launch) (hinj : ∀ i j, i < NX → j < NX → ad i = ad j → i = j) (sz : Nat) {K : Int → zSt → Prop} {σ : zSt} {x0 : Int} {x1 : Int} (hf : fX10_dayOf K σ x0 x1) : Met l yX10_dayOf (Cond.code yX10_dayOf cX10_dayOf 2 (some .int) :: UW) ({ frames := 1, cells := 0, slots := 0, locals := 21 } : Room) (va_Pc [vR ad x0, vI x1] (zPre D vwCl (tyA dA) (zXX aL aG aI aK aV) NX ad (celX ad dA) sz σ)) (va_Qi (zPi K) (zB D vwCl (tyA dA) NX ad (celX ad dA)) (zA ad NX sz)) 0 0 (zA ad NX sz) := by
  refine z_enter (cc := cX10_dayOf) (maxL := 2) (ret := (some .int)) (vs := [vR ad x0, vI x1]) (plainFor_of_name (by decide)) rfl hinj (Nat.le_of_ble_eq_true rfl) ?_
  intro p e s m args below meth c hC hE hsz hr hnm
  obtain ⟨qx0, hf⟩ := hf
  show zAt p l e ({ frames := 1, cells := 0, slots := 0, locals := 21 } : Room) s m args below meth c 0 0 (MQ below (va_Qi (zPi K) (zB D vwCl (tyA dA) NX ad (celX ad dA)) (zA ad NX sz)) args s 0 0 (zA ad NX sz)) 2 D vwCl (zA ad NX sz) NX ad (celX ad dA) 0 [(0, vR ad x0), (1, vI x1)] [] σ
  refine z_aload_n hC dX10_dayOf_0 0 rfl rfl ?_
  refine z_iload_n hC dX10_dayOf_1 1 rfl rfl ?_
  refine z_callVi hC hE (oX_10 qx0) [vI x1] (fun sz2 => mX10_hasEntry l hinj sz2 hf) (cwV 1 hC.1.2.2.2.2 (uV (uT _) u883 u885 u20 u117 u886) rfl rfl rfl (by decide +kernel) ⟨Nat.le_of_ble_eq_true rfl, Nat.le_of_ble_eq_true rfl⟩) rfl rfl (Nat.le_of_ble_eq_true rfl) ⟨Nat.le_of_ble_eq_true rfl, Nat.le_of_ble_eq_true rfl⟩ dX10_dayOf_2 (fun r1 σ1 hf => ?_)
  obtain ⟨g2, hf⟩ := hf
  refine z_if_eq (tgt := 17) hC dX10_dayOf_5 (by decide) g2 (fun hc => ?_) (fun hc => ?_)
  · replace hf := hf.1 hc
    refine z_iconst hC dX10_dayOf_17 ?_
    exact z_iret hC hr rfl dX10_dayOf_18 hf
  · replace hf := hf.2 hc
    refine z_aload_n hC dX10_dayOf_8 0 rfl rfl ?_
    refine z_get hC (fun w h => uT _ w (uL10 w h)) (oX_10 qx0) 7 (by decide) (uT _ _ u443) rfl rfl dX10_dayOf_9 ?_
    refine z_iload_n hC dX10_dayOf_12 1 rfl rfl ?_
    obtain ⟨g3, hf⟩ := hf
    refine z_iaload hC (aX_14 (kf_10_7 qx0)) g3 dX10_dayOf_13 ?_
    refine z_goto (tgt := 18) hC dX10_dayOf_14 (by decide) ?_
    exact z_iret hC hr rfl dX10_dayOf_18 hf

-- ===== X10_segments
def fX10_segments (K : Int → zSt → Prop) (σ : zSt) (x0 : Int) : Prop :=
  kX x0 = 10 ∧ zrg ((σ x0 1) - 1) ∧ K (max ((σ x0 1) - 1) 0) σ
set_option maxHeartbeats 4000000 in
set_option maxRecDepth 100000 in
theorem mX10_segments {D : va_G} {dA : Nat → ClassId} {ad : Nat → Nat} {aL aG aI : Nat} {aK aV : Nat → Nat} (l : Launch) (hinj : ∀ i j, i < NX → j < NX → ad i = ad j → i = j) (sz : Nat) {K : Int → zSt → Prop} {σ : zSt} {x0 : Int} (hf : fX10_segments K σ x0) : Met l yX10_segments (Cond.code yX10_segments cX10_segments 1 (some .int) :: UW) ({ frames := 1, cells := 0, slots := 0, locals := 13 } : Room) (va_Pc [vR ad x0] (zPre D vwCl (tyA dA) (zXX aL aG aI aK aV) NX ad (celX ad dA) sz σ)) (va_Qi (zPi K) (zB D vwCl (tyA dA) NX ad (celX ad dA)) (zA ad NX sz)) 0 0 (zA ad NX sz) := by
  refine z_enter (cc := cX10_segments) (maxL := 1) (ret := (some .int)) (vs := [vR ad x0]) (plainFor_of_name (by decide)) rfl hinj (Nat.le_of_ble_eq_true rfl) ?_
  intro p e s m args below meth c hC hE hsz hr hnm
  obtain ⟨qx0, hf⟩ := hf
  show zAt p l e ({ frames := 1, cells := 0, slots := 0, locals := 13 } : Room) s m args below meth c 0 0 (MQ below (va_Qi (zPi K) (zB D vwCl (tyA dA) NX ad (celX ad dA)) (zA ad NX sz)) args s 0 0 (zA ad NX sz)) 1 D vwCl (zA ad NX sz) NX ad (celX ad dA) 0 [(0, vR ad x0)] [] σ
  refine z_aload_n hC dX10_segments_0 0 rfl rfl ?_
  refine z_get hC (fun w h => uT _ w (uL10 w h)) (oX_10 qx0) 1 (by decide) (uT _ _ u432) rfl rfl dX10_segments_1 ?_
  refine z_iconst hC dX10_segments_4 ?_
  refine z_isub hC dX10_segments_5 ?_
  refine z_iconst hC dX10_segments_6 ?_
  obtain ⟨g1, hf⟩ := hf
  refine z_mmax hC g1 (zlit rfl rfl) (fun w h => uT _ w (uC u906 (uC u796 (uC u108 (uC u797 uN))) w h)) (Nat.le_of_ble_eq_true rfl) (Nat.le_of_ble_eq_true rfl) ⟨Nat.le_of_ble_eq_true rfl, Nat.le_of_ble_eq_true rfl⟩ dX10_segments_7 ?_
  exact z_iret hC hr rfl dX10_segments_10 hf

-- ===== X10_hasSegment
def fX10_hasSegment (K : Int → zSt → Prop) (σ : zSt) (x0 : Int) (x1 : Int) : Prop :=
  kX x0 = 10 ∧ zrg x1 ∧ ((x1 < 0 → K 0 σ) ∧ (¬ x1 < 0 → zrg ((σ x0 1) - 1) ∧ (((σ x0 1) - 1 ≤ x1 → K 0 σ) ∧ (¬ (σ x0 1) - 1 ≤ x1 → K 1 σ))))
set_option maxHeartbeats 4000000 in
set_option maxRecDepth 100000 in
theorem mX10_hasSegment {D : va_G} {dA : Nat → ClassId} {ad : Nat → Nat} {aL aG aI : Nat} {aK aV : Nat → Nat} (l : Launch) (hinj : ∀ i j, i < NX → j < NX → ad i = ad j → i = j) (sz : Nat) {K : Int → zSt → Prop} {σ : zSt} {x0 : Int} {x1 : Int} (hf : fX10_hasSegment K σ x0 x1) : Met l yX10_hasSegment (Cond.code yX10_hasSegment cX10_hasSegment 2 (some .boolean) :: UW) ({ frames := 0, cells := 0, slots := 0, locals := 0 } : Room) (va_Pc [vR ad x0, vI x1] (zPre D vwCl (tyA dA) (zXX aL aG aI aK aV) NX ad (celX ad dA) sz σ)) (va_Qi (zPi K) (zB D vwCl (tyA dA) NX ad (celX ad dA)) (zA ad NX sz)) 0 0 (zA ad NX sz) := by
  refine z_enter (cc := cX10_hasSegment) (maxL := 2) (ret := (some .boolean)) (vs := [vR ad x0, vI x1]) (plainFor_of_name (by decide)) rfl hinj (Nat.le_of_ble_eq_true rfl) ?_
  intro p e s m args below meth c hC hE hsz hr hnm
  obtain ⟨qx0, hf⟩ := hf
  show zAt p l e ({ frames := 0, cells := 0, slots := 0, locals := 0 } : Room) s m args below meth c 0 0 (MQ below (va_Qi (zPi K) (zB D vwCl (tyA dA) NX ad (celX ad dA)) (zA ad NX sz)) args s 0 0 (zA ad NX sz)) 2 D vwCl (zA ad NX sz) NX ad (celX ad dA) 0 [(0, vR ad x0), (1, vI x1)] [] σ
  refine z_iload_n hC dX10_hasSegment_0 1 rfl rfl ?_
  obtain ⟨g1, hf⟩ := hf
  refine z_if_lt (tgt := 18) hC dX10_hasSegment_1 (by decide) g1 (fun hc => ?_) (fun hc => ?_)
  · replace hf := hf.1 hc
    refine z_iconst hC dX10_hasSegment_18 ?_
    exact z_bret hC hr rfl dX10_hasSegment_19 (Or.inl rfl) hf
  · replace hf := hf.2 hc
    refine z_iload_n hC dX10_hasSegment_4 1 rfl rfl ?_
    refine z_aload_n hC dX10_hasSegment_5 0 rfl rfl ?_
    refine z_get hC (fun w h => uT _ w (uL10 w h)) (oX_10 qx0) 1 (by decide) (uT _ _ u432) rfl rfl dX10_hasSegment_6 ?_
    refine z_iconst hC dX10_hasSegment_9 ?_
    refine z_isub hC dX10_hasSegment_10 ?_
    obtain ⟨g2, hf⟩ := hf
    refine z_icmp_ge (tgt := 18) hC dX10_hasSegment_11 (by decide) g1 g2 (fun hc => ?_) (fun hc => ?_)
    · replace hf := hf.1 hc
      refine z_iconst hC dX10_hasSegment_18 ?_
      exact z_bret hC hr rfl dX10_hasSegment_19 (Or.inl rfl) hf
    · replace hf := hf.2 hc
      refine z_iconst hC dX10_hasSegment_14 ?_
      refine z_goto (tgt := 19) hC dX10_hasSegment_15 (by decide) ?_
      exact z_bret hC hr rfl dX10_hasSegment_19 (Or.inr rfl) hf

-- ===== X11_squareRoot
noncomputable def fX11_squareRoot_B7 (K : Int → zSt → Prop) (n : Nat) : zSt → Int → Int → Int → Prop :=
  Nat.rec (motive := fun _ => zSt → Int → Int → Int → Prop) (fun _ _ _ _ => False) (fun _ ih σ x0 x2 x4 => zrl x4 ∧ ((zcmp x4 0 ≤ 0 → K x2 σ) ∧ (¬ zcmp x4 0 ≤ 0 → zrl ((x2 + x4) * (x2 + x4)) ∧ zrl x0 ∧ ((0 < zcmp ((x2 + x4) * (x2 + x4)) x0 → ih σ x0 x2 (x4 / 2 ^ (1 : Int).toNat)) ∧ (¬ 0 < zcmp ((x2 + x4) * (x2 + x4)) x0 → ih σ x0 (x2 + x4) (x4 / 2 ^ (1 : Int).toNat)))))) n
theorem uX11_squareRoot_B7 (K : Int → zSt → Prop) (n0 : Nat) (σ : zSt) (x0 : Int) (x2 : Int) (x4 : Int) : fX11_squareRoot_B7 K (n0 + 1) σ x0 x2 x4 = (zrl x4 ∧ ((zcmp x4 0 ≤ 0 → K x2 σ) ∧ (¬ zcmp x4 0 ≤ 0 → zrl ((x2 + x4) * (x2 + x4)) ∧ zrl x0 ∧ ((0 < zcmp ((x2 + x4) * (x2 + x4)) x0 → (fX11_squareRoot_B7 K n0) σ x0 x2 (x4 / 2 ^ (1 : Int).toNat)) ∧ (¬ 0 < zcmp ((x2 + x4) * (x2 + x4)) x0 → (fX11_squareRoot_B7 K n0) σ x0 (x2 + x4) (x4 / 2 ^ (1 : Int).toNat)))))) := rfl
def fX11_squareRoot (K : Int → zSt → Prop) (σ : zSt) (x0 : Int) : Prop :=
  (∃ n, fX11_squareRoot_B7 K n σ x0 0 1073741824)
set_option maxHeartbeats 4000000 in
set_option maxRecDepth 100000 in
theorem wX11_squareRoot_B7 {p : Program} {l : Launch} {e : Env} {s : State} {m : MethodId} {args : Array Value} {below : List Frame} {meth : Method} {c : Code} {D : va_G} {dA : Nat → ClassId} {ad : Nat → Nat} {sz : Nat} {aL aG aI : Nat} {aK aV : Nat → Nat} {K : Int → zSt → Prop} (hC : zC p m c cX11_squareRoot 8 s args (Cond.code yX11_squareRoot cX11_squareRoot 8 (some .int) :: UW) RX11 meth D vwCl (tyA dA) (zA ad NX sz) NX ad (celX ad dA)) (hE : zE (zXX aL aG aI aK aV) (zA ad NX sz) s s.heap) (hr : meth.sig.returnType = (some .int)) (hinj : ∀ i j, i < NX → j < NX → ad i = ad j → i = j) : ∀ (n : Nat) (σ : zSt) (x0 : Int) (x2 : Int) (x4 : Int), fX11_squareRoot_B7 K n σ x0 x2 x4 → zAt p l e ({ frames := 0, cells := 0, slots := 0, locals := 0 } : Room) s m args below meth c 0 0 (MQ below (va_Qi (zPi K) (zB D vwCl (tyA dA) NX ad (celX ad dA)) (zA ad NX sz)) args s 0 0 (zA ad NX sz)) 8 D vwCl (zA ad NX sz) NX ad (celX ad dA) 7 [(0, vL x0), (2, vL x2), (4, vL x4)] [] σ := by
  intro n
  induction n with
  | zero => intro σ x0 x2 x4  hf; exact False.elim hf
  | succ n ih =>
    intro σ x0 x2 x4  hf
    rw [uX11_squareRoot_B7] at hf
    refine z_lload hC dX11_squareRoot_7 2 rfl ?_
    refine z_lcon (z := 0) hC dX11_squareRoot_9 (by decide) ?_
    obtain ⟨g1, hf⟩ := hf
    refine z_lcmp hC g1 (zlil rfl rfl) dX11_squareRoot_10 ?_
    refine z_if_le (tgt := 42) hC dX11_squareRoot_11 (by decide) (zcmp_rg _ _) (fun hc => ?_) (fun hc => ?_)
    · replace hf := hf.1 hc
      refine z_lload_n hC dX11_squareRoot_42 1 rfl rfl ?_
      refine z_l2i hC dX11_squareRoot_43 ?_
      exact z_iret hC hr rfl dX11_squareRoot_44 hf
    · replace hf := hf.2 hc
      refine z_lload_n hC dX11_squareRoot_14 1 rfl rfl ?_
      refine z_lload hC dX11_squareRoot_15 2 rfl ?_
      refine z_ladd hC dX11_squareRoot_17 ?_
      refine z_lstore hC ([(6, vL (x2 + x4)), (0, vL x0), (2, vL x2), (4, vL x4)]) dX11_squareRoot_18 (by decide) rfl ?_
      refine z_lload hC dX11_squareRoot_20 0 rfl ?_
      refine z_lload hC dX11_squareRoot_22 0 rfl ?_
      refine z_lmul hC dX11_squareRoot_24 ?_
      refine z_lload_n hC dX11_squareRoot_25 1 rfl rfl ?_
      obtain ⟨g2, hf⟩ := hf
      obtain ⟨g3, hf⟩ := hf
      refine z_lcmp hC g2 g3 dX11_squareRoot_26 ?_
      refine z_if_gt (tgt := 33) hC dX11_squareRoot_27 (by decide) (zcmp_rg _ _) (fun hc => ?_) (fun hc => ?_)
      · replace hf := hf.1 hc
        refine z_lload hC dX11_squareRoot_33 3 rfl ?_
        refine z_iconst hC dX11_squareRoot_35 ?_
        refine z_lshr hC g1 ⟨by decide, by decide⟩ dX11_squareRoot_36 ?_
        refine z_lstore hC ([(4, vL (x4 / 2 ^ (1 : Int).toNat)), (6, vL (x2 + x4)), (0, vL x0), (2, vL x2)]) dX11_squareRoot_37 (by decide) rfl ?_
        refine z_goto (tgt := 7) hC dX11_squareRoot_39 (by decide) ?_
        refine z_sub (lv' := [(0, vL x0), (2, vL x2), (4, vL (x4 / 2 ^ (1 : Int).toNat))]) [2, 3, 0] rfl ?_
        exact ih _ _ _ _ hf
      · replace hf := hf.2 hc
        refine z_lload hC dX11_squareRoot_30 0 rfl ?_
        refine z_lstore_n hC ([(2, vL (x2 + x4)), (6, vL (x2 + x4)), (0, vL x0), (4, vL x4)]) dX11_squareRoot_32 rfl (by decide) rfl ?_
        refine z_lload hC dX11_squareRoot_33 3 rfl ?_
        refine z_iconst hC dX11_squareRoot_35 ?_
        refine z_lshr hC g1 ⟨by decide, by decide⟩ dX11_squareRoot_36 ?_
        refine z_lstore hC ([(4, vL (x4 / 2 ^ (1 : Int).toNat)), (2, vL (x2 + x4)), (6, vL (x2 + x4)), (0, vL x0)]) dX11_squareRoot_37 (by decide) rfl ?_
        refine z_goto (tgt := 7) hC dX11_squareRoot_39 (by decide) ?_
        refine z_sub (lv' := [(0, vL x0), (2, vL (x2 + x4)), (4, vL (x4 / 2 ^ (1 : Int).toNat))]) [3, 1, 0] rfl ?_
        exact ih _ _ _ _ hf
set_option maxHeartbeats 4000000 in
set_option maxRecDepth 100000 in
theorem mX11_squareRoot {D : va_G} {dA : Nat → ClassId} {ad : Nat → Nat} {aL aG aI : Nat} {aK aV : Nat → Nat} (l : Launch) (hinj : ∀ i j, i < NX → j < NX → ad i = ad j → i = j) (sz : Nat) {K : Int → zSt → Prop} {σ : zSt} {x0 : Int} (hf : fX11_squareRoot K σ x0) : Met l yX11_squareRoot (Cond.code yX11_squareRoot cX11_squareRoot 8 (some .int) :: UW) ({ frames := 0, cells := 0, slots := 0, locals := 0 } : Room) (va_Pc [vL x0] (zPre D vwCl (tyA dA) (zXX aL aG aI aK aV) NX ad (celX ad dA) sz σ)) (va_Qi (zPi K) (zB D vwCl (tyA dA) NX ad (celX ad dA)) (zA ad NX sz)) 0 0 (zA ad NX sz) := by
  refine z_enter (cc := cX11_squareRoot) (maxL := 8) (ret := (some .int)) (vs := [vL x0]) (plainFor_of_name (by decide)) rfl hinj (Nat.le_of_ble_eq_true rfl) ?_
  intro p e s m args below meth c hC hE hsz hr hnm
  show zAt p l e ({ frames := 0, cells := 0, slots := 0, locals := 0 } : Room) s m args below meth c 0 0 (MQ below (va_Qi (zPi K) (zB D vwCl (tyA dA) NX ad (celX ad dA)) (zA ad NX sz)) args s 0 0 (zA ad NX sz)) 8 D vwCl (zA ad NX sz) NX ad (celX ad dA) 0 [(0, vL x0)] [] σ
  refine z_lcon (z := 0) hC dX11_squareRoot_0 (by decide) ?_
  refine z_lstore_n hC ([(2, vL 0), (0, vL x0)]) dX11_squareRoot_1 rfl (by decide) rfl ?_
  refine z_ldc2 hC (n := 1073741824) (uT _ _ u926) (by decide) dX11_squareRoot_2 ?_
  refine z_lstore hC ([(4, vL 1073741824), (2, vL 0), (0, vL x0)]) dX11_squareRoot_5 (by decide) rfl ?_
  refine z_sub (lv' := [(0, vL x0), (2, vL 0), (4, vL 1073741824)]) [2, 1, 0] rfl ?_
  obtain ⟨n, hf⟩ := hf
  exact wX11_squareRoot_B7 hC hE hr hinj n _ _ _ _ hf

-- ===== X10_lengthOf
def fX10_lengthOf (K : Int → zSt → Prop) (σ : zSt) (x0 : Int) (x1 : Int) (x2 : Int) : Prop :=
  kX x0 = 10 ∧ fX10_hasSegment (fun r1 σ1 => zrg r1 ∧ ((r1 = 0 → K 0 σ1) ∧ (¬ r1 = 0 → (0 ≤ x1 + 1 ∧ x1 + 1 < 6) ∧ (0 ≤ x1 ∧ x1 < 6) ∧ zrg ((σ1 (31 + 6 * (x0 - 24) + 0) (x1 + 1)) - (σ1 (31 + 6 * (x0 - 24) + 0) x1)) ∧ zrg ((σ1 (31 + 6 * (x0 - 24) + 1) (x1 + 1)) - (σ1 (31 + 6 * (x0 - 24) + 1) x1)) ∧ zrg x2 ∧ fX11_squareRoot (fun r8 σ8 => K r8 σ8) σ1 ((((((σ1 (31 + 6 * (x0 - 24) + 0) (x1 + 1)) - (σ1 (31 + 6 * (x0 - 24) + 0) x1)) * ((σ1 (31 + 6 * (x0 - 24) + 0) (x1 + 1)) - (σ1 (31 + 6 * (x0 - 24) + 0) x1))) + (((σ1 (31 + 6 * (x0 - 24) + 1) (x1 + 1)) - (σ1 (31 + 6 * (x0 - 24) + 1) x1)) * ((σ1 (31 + 6 * (x0 - 24) + 1) (x1 + 1)) - (σ1 (31 + 6 * (x0 - 24) + 1) x1)))) * x2) * x2)))) σ x0 x1
set_option maxHeartbeats 4000000 in
set_option maxRecDepth 100000 in
theorem mX10_lengthOf {D : va_G} {dA : Nat → ClassId} {ad : Nat → Nat} {aL aG aI : Nat} {aK aV : Nat → Nat} (l : Launch) (hinj : ∀ i j, i < NX → j < NX → ad i = ad j → i = j) (sz : Nat) {K : Int → zSt → Prop} {σ : zSt} {x0 : Int} {x1 : Int} {x2 : Int} (hf : fX10_lengthOf K σ x0 x1 x2) : Met l yX10_lengthOf (Cond.code yX10_lengthOf cX10_lengthOf 7 (some .int) :: UW) ({ frames := 1, cells := 0, slots := 0, locals := 27 } : Room) (va_Pc [vR ad x0, vI x1, vI x2] (zPre D vwCl (tyA dA) (zXX aL aG aI aK aV) NX ad (celX ad dA) sz σ)) (va_Qi (zPi K) (zB D vwCl (tyA dA) NX ad (celX ad dA)) (zA ad NX sz)) 0 0 (zA ad NX sz) := by
  refine z_enter (cc := cX10_lengthOf) (maxL := 7) (ret := (some .int)) (vs := [vR ad x0, vI x1, vI x2]) (plainFor_of_name (by decide)) rfl hinj (Nat.le_of_ble_eq_true rfl) ?_
  intro p e s m args below meth c hC hE hsz hr hnm
  obtain ⟨qx0, hf⟩ := hf
  show zAt p l e ({ frames := 1, cells := 0, slots := 0, locals := 27 } : Room) s m args below meth c 0 0 (MQ below (va_Qi (zPi K) (zB D vwCl (tyA dA) NX ad (celX ad dA)) (zA ad NX sz)) args s 0 0 (zA ad NX sz)) 7 D vwCl (zA ad NX sz) NX ad (celX ad dA) 0 [(0, vR ad x0), (1, vI x1), (2, vI x2)] [] σ
  refine z_aload_n hC dX10_lengthOf_0 0 rfl rfl ?_
  refine z_iload_n hC dX10_lengthOf_1 1 rfl rfl ?_
  refine z_callVi hC hE (oX_10 qx0) [vI x1] (fun sz2 => mX10_hasSegment l hinj sz2 hf) (cwV 1 hC.1.2.2.2.2 (uV (uT _) u919 u920 u921 u117 u922) rfl rfl rfl (by decide +kernel) ⟨Nat.le_of_ble_eq_true rfl, Nat.le_of_ble_eq_true rfl⟩) rfl rfl (Nat.le_of_ble_eq_true rfl) ⟨Nat.le_of_ble_eq_true rfl, Nat.le_of_ble_eq_true rfl⟩ dX10_lengthOf_2 (fun r1 σ1 hf => ?_)
  obtain ⟨g2, hf⟩ := hf
  refine z_if_ne (tgt := 10) hC dX10_lengthOf_5 (by decide) g2 (fun hc => ?_) (fun hc => ?_)
  · replace hf := hf.2 hc
    refine z_aload_n hC dX10_lengthOf_10 0 rfl rfl ?_
    refine z_get hC (fun w h => uT _ w (uL10 w h)) (oX_10 qx0) 4 (by decide) (uT _ _ u438) rfl rfl dX10_lengthOf_11 ?_
    refine z_iload_n hC dX10_lengthOf_14 1 rfl rfl ?_
    refine z_iconst hC dX10_lengthOf_15 ?_
    refine z_iadd hC dX10_lengthOf_16 ?_
    obtain ⟨g3, hf⟩ := hf
    refine z_iaload hC (aX_14 (kf_10_4 qx0)) g3 dX10_lengthOf_17 ?_
    refine z_aload_n hC dX10_lengthOf_18 0 rfl rfl ?_
    refine z_get hC (fun w h => uT _ w (uL10 w h)) (oX_10 qx0) 4 (by decide) (uT _ _ u438) rfl rfl dX10_lengthOf_19 ?_
    refine z_iload_n hC dX10_lengthOf_22 1 rfl rfl ?_
    obtain ⟨g4, hf⟩ := hf
    refine z_iaload hC (aX_14 (kf_10_4 qx0)) g4 dX10_lengthOf_23 ?_
    refine z_isub hC dX10_lengthOf_24 ?_
    obtain ⟨g5, hf⟩ := hf
    refine z_i2l hC dX10_lengthOf_25 g5 ?_
    refine z_lstore_n hC ([(3, vL ((σ1 (31 + 6 * (x0 - 24) + 0) (x1 + 1)) - (σ1 (31 + 6 * (x0 - 24) + 0) x1))), (0, vR ad x0), (1, vI x1), (2, vI x2)]) dX10_lengthOf_26 rfl (by decide) rfl ?_
    refine z_aload_n hC dX10_lengthOf_27 1 rfl rfl ?_
    refine z_get hC (fun w h => uT _ w (uL10 w h)) (oX_10 qx0) 5 (by decide) (uT _ _ u440) rfl rfl dX10_lengthOf_28 ?_
    refine z_iload_n hC dX10_lengthOf_31 2 rfl rfl ?_
    refine z_iconst hC dX10_lengthOf_32 ?_
    refine z_iadd hC dX10_lengthOf_33 ?_
    refine z_iaload hC (aX_14 (kf_10_5 qx0)) g3 dX10_lengthOf_34 ?_
    refine z_aload_n hC dX10_lengthOf_35 1 rfl rfl ?_
    refine z_get hC (fun w h => uT _ w (uL10 w h)) (oX_10 qx0) 5 (by decide) (uT _ _ u440) rfl rfl dX10_lengthOf_36 ?_
    refine z_iload_n hC dX10_lengthOf_39 2 rfl rfl ?_
    refine z_iaload hC (aX_14 (kf_10_5 qx0)) g4 dX10_lengthOf_40 ?_
    refine z_isub hC dX10_lengthOf_41 ?_
    obtain ⟨g6, hf⟩ := hf
    refine z_i2l hC dX10_lengthOf_42 g6 ?_
    refine z_lstore hC ([(5, vL ((σ1 (31 + 6 * (x0 - 24) + 1) (x1 + 1)) - (σ1 (31 + 6 * (x0 - 24) + 1) x1))), (3, vL ((σ1 (31 + 6 * (x0 - 24) + 0) (x1 + 1)) - (σ1 (31 + 6 * (x0 - 24) + 0) x1))), (0, vR ad x0), (1, vI x1), (2, vI x2)]) dX10_lengthOf_43 (by decide) rfl ?_
    refine z_lload_n hC dX10_lengthOf_45 1 rfl rfl ?_
    refine z_lload_n hC dX10_lengthOf_46 1 rfl rfl ?_
    refine z_lmul hC dX10_lengthOf_47 ?_
    refine z_lload hC dX10_lengthOf_48 0 rfl ?_
    refine z_lload hC dX10_lengthOf_50 0 rfl ?_
    refine z_lmul hC dX10_lengthOf_52 ?_
    refine z_ladd hC dX10_lengthOf_53 ?_
    refine z_iload_n hC dX10_lengthOf_54 4 rfl rfl ?_
    obtain ⟨g7, hf⟩ := hf
    refine z_i2l hC dX10_lengthOf_55 g7 ?_
    refine z_lmul hC dX10_lengthOf_56 ?_
    refine z_iload_n hC dX10_lengthOf_57 4 rfl rfl ?_
    refine z_i2l hC dX10_lengthOf_58 g7 ?_
    refine z_lmul hC dX10_lengthOf_59 ?_
    refine z_callSNi hC hE [vL ((((((σ1 (31 + 6 * (x0 - 24) + 0) (x1 + 1)) - (σ1 (31 + 6 * (x0 - 24) + 0) x1)) * ((σ1 (31 + 6 * (x0 - 24) + 0) (x1 + 1)) - (σ1 (31 + 6 * (x0 - 24) + 0) x1))) + (((σ1 (31 + 6 * (x0 - 24) + 1) (x1 + 1)) - (σ1 (31 + 6 * (x0 - 24) + 1) x1)) * ((σ1 (31 + 6 * (x0 - 24) + 1) (x1 + 1)) - (σ1 (31 + 6 * (x0 - 24) + 1) x1)))) * x2) * x2)] (fun sz2 => mX11_squareRoot l hinj sz2 hf) ⟨va_cnB (host := "GlacierCamera") 1 hC.1.2.2.2.2 (uP (uT _) u925) rfl rfl rfl ((hE.1 (.methodLinkNest RX10 129 yX11_squareRoot "GlacierCamera") ((by decide +kernel : (Cond.methodLinkNest RX10 129 yX11_squareRoot "GlacierCamera") ∈ zNest))).1) (hC.1.2.2.2.2 _ (uT _ _ u105)) (by decide +kernel) ⟨Nat.le_of_ble_eq_true rfl, Nat.le_of_ble_eq_true rfl⟩, hC.1.2.2.2.2 _ (uT _ _ u924), trivial⟩ rfl rfl (Nat.le_of_ble_eq_true rfl) ⟨Nat.le_of_ble_eq_true rfl, Nat.le_of_ble_eq_true rfl⟩ dX10_lengthOf_60 (fun r8 σ8 hf => ?_)
    exact z_iret hC hr rfl dX10_lengthOf_63 hf
  · replace hf := hf.1 hc
    refine z_iconst hC dX10_lengthOf_8 ?_
    exact z_iret hC hr rfl dX10_lengthOf_9 hf
