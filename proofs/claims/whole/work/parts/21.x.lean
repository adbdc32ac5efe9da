
-- ===== X9_readingOn
noncomputable def fX9_readingOn_B2 (K : Int → zSt → Prop) (n : Nat) : zSt → Int → Int → Int → Prop :=
  Nat.rec (motive := fun _ => zSt → Int → Int → Int → Prop) (fun _ _ _ _ => False) (fun _ ih σ x0 x1 x2 => zrg x2 ∧ zrg (σ x0 0) ∧ ((σ x0 0 ≤ x2 → K (-1) σ) ∧ (¬ σ x0 0 ≤ x2 → (0 ≤ x2 ∧ x2 < 8) ∧ zrg (σ (x0 + 3) x2) ∧ zrg x1 ∧ ((σ (x0 + 3) x2 = x1 → K x2 σ) ∧ (¬ σ (x0 + 3) x2 = x1 → ih σ x0 x1 (x2 + 1)))))) n
theorem uX9_readingOn_B2 (K : Int → zSt → Prop) (n0 : Nat) (σ : zSt) (x0 : Int) (x1 : Int) (x2 : Int) : fX9_readingOn_B2 K (n0 + 1) σ x0 x1 x2 = (zrg x2 ∧ zrg (σ x0 0) ∧ ((σ x0 0 ≤ x2 → K (-1) σ) ∧ (¬ σ x0 0 ≤ x2 → (0 ≤ x2 ∧ x2 < 8) ∧ zrg (σ (x0 + 3) x2) ∧ zrg x1 ∧ ((σ (x0 + 3) x2 = x1 → K x2 σ) ∧ (¬ σ (x0 + 3) x2 = x1 → (fX9_readingOn_B2 K n0) σ x0 x1 (x2 + 1)))))) := rfl
def fX9_readingOn (K : Int → zSt → Prop) (σ : zSt) (x0 : Int) (x1 : Int) : Prop :=
  kX x0 = 9 ∧ (∃ n, fX9_readingOn_B2 K n σ x0 x1 0)
set_option maxHeartbeats 4000000 in
set_option maxRecDepth 100000 in
theorem wX9_readingOn_B2 {p : Program} {l : Launch} {e : Env} {s : State} {m : MethodId} {args : Array Value} {below : List Frame} {meth : Method} {c : Code} {D : va_G} {dA : Nat → ClassId} {ad : Nat → Nat} {sz : Nat} {aL aG aI : Nat} {aK aV : Nat → Nat} {K : Int → zSt → Prop} (hC : zC p m c cX9_readingOn 3 s args (Cond.code yX9_readingOn cX9_readingOn 3 (some .int) :: UW) RX9 meth D vwCl (tyA dA) (zA ad NX sz) NX ad (celX ad dA)) (hE : zE (zXX aL aG aI aK aV) (zA ad NX sz) s s.heap) (hr : meth.sig.returnType = (some .int)) (hinj : ∀ i j, i < NX → j < NX → ad i = ad j → i = j) : ∀ (n : Nat) (σ : zSt) (x0 : Int) (x1 : Int) (x2 : Int) (qx0 : kX x0 = 9), fX9_readingOn_B2 K n σ x0 x1 x2 → zAt p l e ({ frames := 0, cells := 0, slots := 0, locals := 0 } : Room) s m args below meth c 0 0 (MQ below (va_Qi (zPi K) (zB D vwCl (tyA dA) NX ad (celX ad dA)) (zA ad NX sz)) args s 0 0 (zA ad NX sz)) 3 D vwCl (zA ad NX sz) NX ad (celX ad dA) 2 [(0, vR ad x0), (1, vI x1), (2, vI x2)] [] σ := by
  intro n
  induction n with
  | zero => intro σ x0 x1 x2 qx0 hf; exact False.elim hf
  | succ n ih =>
    intro σ x0 x1 x2 qx0 hf
    rw [uX9_readingOn_B2] at hf
    refine z_iload_n hC dX9_readingOn_2 2 rfl rfl ?_
    refine z_aload_n hC dX9_readingOn_3 0 rfl rfl ?_
    refine z_get hC (fun w h => uT _ w (uL9 w h)) (oX_9 qx0) 0 (by decide) (uT _ _ u196) rfl rfl dX9_readingOn_4 ?_
    obtain ⟨g1, hf⟩ := hf
    obtain ⟨g2, hf⟩ := hf
    refine z_icmp_ge (tgt := 28) hC dX9_readingOn_7 (by decide) g1 g2 (fun hc => ?_) (fun hc => ?_)
    · replace hf := hf.1 hc
      refine z_iconst hC dX9_readingOn_28 ?_
      exact z_iret hC hr rfl dX9_readingOn_29 hf
    · replace hf := hf.2 hc
      refine z_aload_n hC dX9_readingOn_10 0 rfl rfl ?_
      refine z_get hC (fun w h => uT _ w (uL9 w h)) (oX_9 qx0) 1 (by decide) (uT _ _ u199) rfl rfl dX9_readingOn_11 ?_
      refine z_iload_n hC dX9_readingOn_14 2 rfl rfl ?_
      obtain ⟨g3, hf⟩ := hf
      refine z_iaload hC (aX_17 (kf_9_1 qx0)) g3 dX9_readingOn_15 ?_
      refine z_iload_n hC dX9_readingOn_16 1 rfl rfl ?_
      obtain ⟨g4, hf⟩ := hf
      obtain ⟨g5, hf⟩ := hf
      refine z_icmp_ne (tgt := 22) hC dX9_readingOn_17 (by decide) g4 g5 (fun hc => ?_) (fun hc => ?_)
      · replace hf := hf.2 hc
        refine z_iinc hC ([(2, vI (x2 + 1)), (0, vR ad x0), (1, vI x1)]) dX9_readingOn_22 2 rfl (by decide) rfl ?_
        refine z_goto (tgt := 2) hC dX9_readingOn_25 (by decide) ?_
        refine z_sub (lv' := [(0, vR ad x0), (1, vI x1), (2, vI (x2 + 1))]) [1, 2, 0] rfl ?_
        exact ih _ _ _ _ qx0 hf
      · replace hf := hf.1 hc
        refine z_iload_n hC dX9_readingOn_20 2 rfl rfl ?_
        exact z_iret hC hr rfl dX9_readingOn_21 hf
set_option maxHeartbeats 4000000 in
set_option maxRecDepth 100000 in
theorem mX9_readingOn {D : va_G} {dA : Nat → ClassId} {ad : Nat → Nat} {aL aG aI : Nat} {aK aV : Nat → Nat} (l : Launch) (hinj : ∀ i j, i < NX → j < NX → ad i = ad j → i = j) (sz : Nat) {K : Int → zSt → Prop} {σ : zSt} {x0 : Int} {x1 : Int} (hf : fX9_readingOn K σ x0 x1) : Met l yX9_readingOn (Cond.code yX9_readingOn cX9_readingOn 3 (some .int) :: UW) ({ frames := 0, cells := 0, slots := 0, locals := 0 } : Room) (va_Pc [vR ad x0, vI x1] (zPre D vwCl (tyA dA) (zXX aL aG aI aK aV) NX ad (celX ad dA) sz σ)) (va_Qi (zPi K) (zB D vwCl (tyA dA) NX ad (celX ad dA)) (zA ad NX sz)) 0 0 (zA ad NX sz) := by
  refine z_enter (cc := cX9_readingOn) (maxL := 3) (ret := (some .int)) (vs := [vR ad x0, vI x1]) (plainFor_of_name (by decide)) rfl hinj (Nat.le_of_ble_eq_true rfl) ?_
  intro p e s m args below meth c hC hE hsz hr hnm
  obtain ⟨qx0, hf⟩ := hf
  show zAt p l e ({ frames := 0, cells := 0, slots := 0, locals := 0 } : Room) s m args below meth c 0 0 (MQ below (va_Qi (zPi K) (zB D vwCl (tyA dA) NX ad (celX ad dA)) (zA ad NX sz)) args s 0 0 (zA ad NX sz)) 3 D vwCl (zA ad NX sz) NX ad (celX ad dA) 0 [(0, vR ad x0), (1, vI x1)] [] σ
  refine z_iconst hC dX9_readingOn_0 ?_
  refine z_istore_n hC ([(2, vI 0), (0, vR ad x0), (1, vI x1)]) dX9_readingOn_1 rfl (by decide) rfl ?_
  refine z_sub (lv' := [(0, vR ad x0), (1, vI x1), (2, vI 0)]) [1, 2, 0] rfl ?_
  obtain ⟨n, hf⟩ := hf
  exact wX9_readingOn_B2 hC hE hr hinj n _ _ _ _ qx0 hf

-- ===== X9_delete
noncomputable def fX9_delete_B14 (K : zSt → Prop) (n : Nat) : zSt → Int → Int → Prop :=
  Nat.rec (motive := fun _ => zSt → Int → Int → Prop) (fun _ _ _ => False) (fun _ ih σ x0 x3 => zrg (x3 + 1) ∧ zrg (σ x0 0) ∧ ((σ x0 0 ≤ x3 + 1 → ∀ σ5, σ5 = zu σ x0 0 ((σ x0 0) - 1) → K σ5) ∧ (¬ σ x0 0 ≤ x3 + 1 → (0 ≤ x3 + 1 ∧ x3 + 1 < 8) ∧ (0 ≤ x3 ∧ x3 < 8) ∧ ∀ σ8, σ8 = zu σ (x0 + 3) x3 (σ (x0 + 3) (x3 + 1)) → ∀ σ9, σ9 = zu σ8 (x0 + 6) x3 (σ8 (x0 + 6) (x3 + 1)) → ih σ9 x0 (x3 + 1)))) n
theorem uX9_delete_B14 (K : zSt → Prop) (n0 : Nat) (σ : zSt) (x0 : Int) (x3 : Int) : fX9_delete_B14 K (n0 + 1) σ x0 x3 = (zrg (x3 + 1) ∧ zrg (σ x0 0) ∧ ((σ x0 0 ≤ x3 + 1 → ∀ σ5, σ5 = zu σ x0 0 ((σ x0 0) - 1) → K σ5) ∧ (¬ σ x0 0 ≤ x3 + 1 → (0 ≤ x3 + 1 ∧ x3 + 1 < 8) ∧ (0 ≤ x3 ∧ x3 < 8) ∧ ∀ σ8, σ8 = zu σ (x0 + 3) x3 (σ (x0 + 3) (x3 + 1)) → ∀ σ9, σ9 = zu σ8 (x0 + 6) x3 (σ8 (x0 + 6) (x3 + 1)) → (fX9_delete_B14 K n0) σ9 x0 (x3 + 1)))) := rfl
def fX9_delete (K : zSt → Prop) (σ : zSt) (x0 : Int) (x1 : Int) : Prop :=
  kX x0 = 9 ∧ fX9_readingOn (fun r1 σ1 => zrg r1 ∧ ((r1 = (-1) → K σ1) ∧ (¬ r1 = (-1) → (∃ n, fX9_delete_B14 K n σ1 x0 r1)))) σ x0 x1
set_option maxHeartbeats 4000000 in
set_option maxRecDepth 100000 in
theorem wX9_delete_B14 {p : Program} {l : Launch} {e : Env} {s : State} {m : MethodId} {args : Array Value} {below : List Frame} {meth : Method} {c : Code} {D : va_G} {dA : Nat → ClassId} {ad : Nat → Nat} {sz : Nat} {aL aG aI : Nat} {aK aV : Nat → Nat} {K : zSt → Prop} (hC : zC p m c cX9_delete 4 s args (Cond.code yX9_delete cX9_delete 4 none :: UW) RX9 meth D vwCl (tyA dA) (zA ad NX sz) NX ad (celX ad dA)) (hE : zE (zXX aL aG aI aK aV) (zA ad NX sz) s s.heap) (hr : meth.sig.returnType = none) (hinj : ∀ i j, i < NX → j < NX → ad i = ad j → i = j) : ∀ (n : Nat) (σ : zSt) (x0 : Int) (x3 : Int) (qx0 : kX x0 = 9), fX9_delete_B14 K n σ x0 x3 → zAt p l e ({ frames := 1, cells := 0, slots := 0, locals := 22 } : Room) s m args below meth c 0 0 (MQ below (va_Qv K (zB D vwCl (tyA dA) NX ad (celX ad dA)) (zA ad NX sz)) args s 0 0 (zA ad NX sz)) 4 D vwCl (zA ad NX sz) NX ad (celX ad dA) 14 [(0, vR ad x0), (3, vI x3)] [] σ := by
  intro n
  induction n with
  | zero => intro σ x0 x3 qx0 hf; exact False.elim hf
  | succ n ih =>
    intro σ x0 x3 qx0 hf
    rw [uX9_delete_B14] at hf
    refine z_iload_n hC dX9_delete_14 1 rfl rfl ?_
    refine z_iconst hC dX9_delete_15 ?_
    refine z_iadd hC dX9_delete_16 ?_
    refine z_aload_n hC dX9_delete_17 0 rfl rfl ?_
    refine z_get hC (fun w h => uT _ w (uL9 w h)) (oX_9 qx0) 0 (by decide) (uT _ _ u196) rfl rfl dX9_delete_18 ?_
    obtain ⟨g3, hf⟩ := hf
    obtain ⟨g4, hf⟩ := hf
    refine z_icmp_ge (tgt := 58) hC dX9_delete_21 (by decide) g3 g4 (fun hc => ?_) (fun hc => ?_)
    · replace hf := hf.1 hc
      refine z_aload_n hC dX9_delete_58 0 rfl rfl ?_
      refine z_dup hC dX9_delete_59 rfl ?_
      refine z_get hC (fun w h => uT _ w (uL9 w h)) (oX_9 qx0) 0 (by decide) (uT _ _ u196) rfl rfl dX9_delete_60 ?_
      refine z_iconst hC dX9_delete_63 ?_
      refine z_isub hC dX9_delete_64 ?_
      refine z_put hC (ty := .int) tyX9 tyX9_ok nmX9 (fun w h => uT _ w (uL9 w h)) (oX_9 qx0) (loX' qx0 (by decide)) 0 (by decide) (uT _ _ u196) rfl rfl (0) ((σ x0 0) - 1) (by simp [zu]) (by decide +kernel) rfl rfl (Nat.le_of_ble_eq_true rfl) dX9_delete_65 ?_
      obtain ⟨σ5, eσ5⟩ : ∃ z : zSt, z = zu σ x0 0 ((σ x0 0) - 1) := ⟨_, rfl⟩
      rw [← eσ5]
      replace hf := hf σ5 eσ5
      exact z_vret hC hr rfl dX9_delete_68 hf
    · replace hf := hf.2 hc
      refine z_aload_n hC dX9_delete_24 0 rfl rfl ?_
      refine z_get hC (fun w h => uT _ w (uL9 w h)) (oX_9 qx0) 1 (by decide) (uT _ _ u199) rfl rfl dX9_delete_25 ?_
      refine z_iload_n hC dX9_delete_28 1 rfl rfl ?_
      refine z_aload_n hC dX9_delete_29 0 rfl rfl ?_
      refine z_get hC (fun w h => uT _ w (uL9 w h)) (oX_9 qx0) 1 (by decide) (uT _ _ u199) rfl rfl dX9_delete_30 ?_
      refine z_iload_n hC dX9_delete_33 1 rfl rfl ?_
      refine z_iconst hC dX9_delete_34 ?_
      refine z_iadd hC dX9_delete_35 ?_
      obtain ⟨g6, hf⟩ := hf
      refine z_iaload hC (aX_17 (kf_9_1 qx0)) g6 dX9_delete_36 ?_
      obtain ⟨g7, hf⟩ := hf
      refine z_iastore hC (aX_17 (kf_9_1 qx0)) (loX' (kf_9_1 qx0) (by decide)) g7 dX9_delete_37 ?_
      obtain ⟨σ8, eσ8⟩ : ∃ z : zSt, z = zu σ (x0 + 3) x3 (σ (x0 + 3) (x3 + 1)) := ⟨_, rfl⟩
      rw [← eσ8]
      replace hf := hf σ8 eσ8
      refine z_aload_n hC dX9_delete_38 0 rfl rfl ?_
      refine z_get hC (fun w h => uT _ w (uL9 w h)) (oX_9 qx0) 2 (by decide) (uT _ _ u202) rfl rfl dX9_delete_39 ?_
      refine z_iload_n hC dX9_delete_42 1 rfl rfl ?_
      refine z_aload_n hC dX9_delete_43 0 rfl rfl ?_
      refine z_get hC (fun w h => uT _ w (uL9 w h)) (oX_9 qx0) 2 (by decide) (uT _ _ u202) rfl rfl dX9_delete_44 ?_
      refine z_iload_n hC dX9_delete_47 1 rfl rfl ?_
      refine z_iconst hC dX9_delete_48 ?_
      refine z_iadd hC dX9_delete_49 ?_
      refine z_iaload hC (aX_17 (kf_9_2 qx0)) g6 dX9_delete_50 ?_
      refine z_iastore hC (aX_17 (kf_9_2 qx0)) (loX' (kf_9_2 qx0) (by decide)) g7 dX9_delete_51 ?_
      obtain ⟨σ9, eσ9⟩ : ∃ z : zSt, z = zu σ8 (x0 + 6) x3 (σ8 (x0 + 6) (x3 + 1)) := ⟨_, rfl⟩
      rw [← eσ9]
      replace hf := hf σ9 eσ9
      refine z_iinc hC ([(3, vI (x3 + 1)), (0, vR ad x0)]) dX9_delete_52 1 rfl (by decide) rfl ?_
      refine z_goto (tgt := 14) hC dX9_delete_55 (by decide) ?_
      refine z_sub (lv' := [(0, vR ad x0), (3, vI (x3 + 1))]) [1, 0] rfl ?_
      exact ih _ _ _ qx0 hf
set_option maxHeartbeats 4000000 in
set_option maxRecDepth 100000 in
theorem mX9_delete {D : va_G} {dA : Nat → ClassId} {ad : Nat → Nat} {aL aG aI : Nat} {aK aV : Nat → Nat} (l : Launch) (hinj : ∀ i j, i < NX → j < NX → ad i = ad j → i = j) (sz : Nat) {K : zSt → Prop} {σ : zSt} {x0 : Int} {x1 : Int} (hf : fX9_delete K σ x0 x1) : Met l yX9_delete (Cond.code yX9_delete cX9_delete 4 none :: UW) ({ frames := 1, cells := 0, slots := 0, locals := 22 } : Room) (va_Pc [vR ad x0, vI x1] (zPre D vwCl (tyA dA) (zXX aL aG aI aK aV) NX ad (celX ad dA) sz σ)) (va_Qv K (zB D vwCl (tyA dA) NX ad (celX ad dA)) (zA ad NX sz)) 0 0 (zA ad NX sz) := by
  refine z_enter (cc := cX9_delete) (maxL := 4) (ret := none) (vs := [vR ad x0, vI x1]) (plainFor_of_name (by decide)) rfl hinj (Nat.le_of_ble_eq_true rfl) ?_
  intro p e s m args below meth c hC hE hsz hr hnm
  obtain ⟨qx0, hf⟩ := hf
  show zAt p l e ({ frames := 1, cells := 0, slots := 0, locals := 22 } : Room) s m args below meth c 0 0 (MQ below (va_Qv K (zB D vwCl (tyA dA) NX ad (celX ad dA)) (zA ad NX sz)) args s 0 0 (zA ad NX sz)) 4 D vwCl (zA ad NX sz) NX ad (celX ad dA) 0 [(0, vR ad x0), (1, vI x1)] [] σ
  refine z_aload_n hC dX9_delete_0 0 rfl rfl ?_
  refine z_iload_n hC dX9_delete_1 1 rfl rfl ?_
  refine z_callVi hC hE (oX_9 qx0) [vI x1] (fun sz2 => mX9_readingOn l hinj sz2 hf) (cwV 1 hC.1.2.2.2.2 (uV (uT _) u990 u978 u979 u110 u980) rfl rfl rfl (by decide +kernel) ⟨Nat.le_of_ble_eq_true rfl, Nat.le_of_ble_eq_true rfl⟩) rfl rfl (Nat.le_of_ble_eq_true rfl) ⟨Nat.le_of_ble_eq_true rfl, Nat.le_of_ble_eq_true rfl⟩ dX9_delete_2 (fun r1 σ1 hf => ?_)
  refine z_istore_n hC ([(2, vI r1), (0, vR ad x0), (1, vI x1)]) dX9_delete_5 rfl (by decide) rfl ?_
  refine z_iload_n hC dX9_delete_6 0 rfl rfl ?_
  refine z_iconst hC dX9_delete_7 ?_
  obtain ⟨g2, hf⟩ := hf
  refine z_icmp_ne (tgt := 12) hC dX9_delete_8 (by decide) g2 (zlit rfl rfl) (fun hc => ?_) (fun hc => ?_)
  · replace hf := hf.2 hc
    refine z_iload_n hC dX9_delete_12 0 rfl rfl ?_
    refine z_istore_n hC ([(3, vI r1), (2, vI r1), (0, vR ad x0), (1, vI x1)]) dX9_delete_13 rfl (by decide) rfl ?_
    refine z_sub (lv' := [(0, vR ad x0), (3, vI r1)]) [2, 0] rfl ?_
    obtain ⟨n, hf⟩ := hf
    exact wX9_delete_B14 hC hE hr hinj n _ _ _ qx0 hf
  · replace hf := hf.1 hc
    exact z_vret hC hr rfl dX9_delete_11 hf

-- ===== X9_insert
def fX9_insert_B65 (K : zSt → Prop) (σ : zSt) (x0 : Int) (x1 : Int) (x2 : Int) (x3 : Int) : Prop :=
  (0 ≤ x3 ∧ x3 < 8) ∧ ∀ σ10, σ10 = zu σ (x0 + 3) x3 x1 → ∀ σ11, σ11 = zu σ10 (x0 + 6) x3 x2 → ∀ σ12, σ12 = zu σ11 x0 0 ((σ11 x0 0) + 1) → K σ12
noncomputable def fX9_insert_B15 (K : zSt → Prop) (n : Nat) : zSt → Int → Int → Int → Int → Prop :=
  Nat.rec (motive := fun _ => zSt → Int → Int → Int → Int → Prop) (fun _ _ _ _ _ => False) (fun _ ih σ x0 x1 x2 x3 => zrg x3 ∧ ((x3 ≤ 0 → fX9_insert_B65 K σ x0 x1 x2 x3) ∧ (¬ x3 ≤ 0 → (0 ≤ x3 - 1 ∧ x3 - 1 < 8) ∧ zrg (σ (x0 + 3) (x3 - 1)) ∧ zrg x1 ∧ ((σ (x0 + 3) (x3 - 1) ≤ x1 → fX9_insert_B65 K σ x0 x1 x2 x3) ∧ (¬ σ (x0 + 3) (x3 - 1) ≤ x1 → (0 ≤ x3 ∧ x3 < 8) ∧ ∀ σ7, σ7 = zu σ (x0 + 3) x3 (σ (x0 + 3) (x3 - 1)) → ∀ σ8, σ8 = zu σ7 (x0 + 6) x3 (σ7 (x0 + 6) (x3 - 1)) → ih σ8 x0 x1 x2 (x3 + (-1))))))) n
theorem uX9_insert_B15 (K : zSt → Prop) (n0 : Nat) (σ : zSt) (x0 : Int) (x1 : Int) (x2 : Int) (x3 : Int) : fX9_insert_B15 K (n0 + 1) σ x0 x1 x2 x3 = (zrg x3 ∧ ((x3 ≤ 0 → fX9_insert_B65 K σ x0 x1 x2 x3) ∧ (¬ x3 ≤ 0 → (0 ≤ x3 - 1 ∧ x3 - 1 < 8) ∧ zrg (σ (x0 + 3) (x3 - 1)) ∧ zrg x1 ∧ ((σ (x0 + 3) (x3 - 1) ≤ x1 → fX9_insert_B65 K σ x0 x1 x2 x3) ∧ (¬ σ (x0 + 3) (x3 - 1) ≤ x1 → (0 ≤ x3 ∧ x3 < 8) ∧ ∀ σ7, σ7 = zu σ (x0 + 3) x3 (σ (x0 + 3) (x3 - 1)) → ∀ σ8, σ8 = zu σ7 (x0 + 6) x3 (σ7 (x0 + 6) (x3 - 1)) → (fX9_insert_B15 K n0) σ8 x0 x1 x2 (x3 + (-1))))))) := rfl
def fX9_insert (K : zSt → Prop) (σ : zSt) (x0 : Int) (x1 : Int) (x2 : Int) : Prop :=
  kX x0 = 9 ∧ zrg (σ x0 0) ∧ ((σ x0 0 < 8 → (∃ n, fX9_insert_B15 K n σ x0 x1 x2 (σ x0 0))) ∧ (¬ σ x0 0 < 8 → K σ))
set_option maxHeartbeats 4000000 in
set_option maxRecDepth 100000 in
theorem wX9_insert_B65 {p : Program} {l : Launch} {e : Env} {s : State} {m : MethodId} {args : Array Value} {below : List Frame} {meth : Method} {c : Code} {D : va_G} {dA : Nat → ClassId} {ad : Nat → Nat} {sz : Nat} {aL aG aI : Nat} {aK aV : Nat → Nat} {K : zSt → Prop} (hC : zC p m c cX9_insert 4 s args (Cond.code yX9_insert cX9_insert 4 none :: UW) RX9 meth D vwCl (tyA dA) (zA ad NX sz) NX ad (celX ad dA)) (hE : zE (zXX aL aG aI aK aV) (zA ad NX sz) s s.heap) (hr : meth.sig.returnType = none) (hinj : ∀ i j, i < NX → j < NX → ad i = ad j → i = j) {σ : zSt} {x0 : Int} {x1 : Int} {x2 : Int} {x3 : Int} (qx0 : kX x0 = 9) (hf : fX9_insert_B65 K σ x0 x1 x2 x3) : zAt p l e ({ frames := 0, cells := 0, slots := 0, locals := 0 } : Room) s m args below meth c 0 0 (MQ below (va_Qv K (zB D vwCl (tyA dA) NX ad (celX ad dA)) (zA ad NX sz)) args s 0 0 (zA ad NX sz)) 4 D vwCl (zA ad NX sz) NX ad (celX ad dA) 65 [(0, vR ad x0), (1, vI x1), (2, vI x2), (3, vI x3)] [] σ := by
  refine z_aload_n hC dX9_insert_65 0 rfl rfl ?_
  refine z_get hC (fun w h => uT _ w (uL9 w h)) (oX_9 qx0) 1 (by decide) (uT _ _ u199) rfl rfl dX9_insert_66 ?_
  refine z_iload_n hC dX9_insert_69 3 rfl rfl ?_
  refine z_iload_n hC dX9_insert_70 1 rfl rfl ?_
  obtain ⟨g9, hf⟩ := hf
  refine z_iastore hC (aX_17 (kf_9_1 qx0)) (loX' (kf_9_1 qx0) (by decide)) g9 dX9_insert_71 ?_
  obtain ⟨σ10, eσ10⟩ : ∃ z : zSt, z = zu σ (x0 + 3) x3 x1 := ⟨_, rfl⟩
  rw [← eσ10]
  replace hf := hf σ10 eσ10
  refine z_aload_n hC dX9_insert_72 0 rfl rfl ?_
  refine z_get hC (fun w h => uT _ w (uL9 w h)) (oX_9 qx0) 2 (by decide) (uT _ _ u202) rfl rfl dX9_insert_73 ?_
  refine z_iload_n hC dX9_insert_76 3 rfl rfl ?_
  refine z_iload_n hC dX9_insert_77 2 rfl rfl ?_
  refine z_iastore hC (aX_17 (kf_9_2 qx0)) (loX' (kf_9_2 qx0) (by decide)) g9 dX9_insert_78 ?_
  obtain ⟨σ11, eσ11⟩ : ∃ z : zSt, z = zu σ10 (x0 + 6) x3 x2 := ⟨_, rfl⟩
  rw [← eσ11]
  replace hf := hf σ11 eσ11
  refine z_aload_n hC dX9_insert_79 0 rfl rfl ?_
  refine z_dup hC dX9_insert_80 rfl ?_
  refine z_get hC (fun w h => uT _ w (uL9 w h)) (oX_9 qx0) 0 (by decide) (uT _ _ u196) rfl rfl dX9_insert_81 ?_
  refine z_iconst hC dX9_insert_84 ?_
  refine z_iadd hC dX9_insert_85 ?_
  refine z_put hC (ty := .int) tyX9 tyX9_ok nmX9 (fun w h => uT _ w (uL9 w h)) (oX_9 qx0) (loX' qx0 (by decide)) 0 (by decide) (uT _ _ u196) rfl rfl (0) ((σ11 x0 0) + 1) (by simp [zu]) (by decide +kernel) rfl rfl (Nat.le_of_ble_eq_true rfl) dX9_insert_86 ?_
  obtain ⟨σ12, eσ12⟩ : ∃ z : zSt, z = zu σ11 x0 0 ((σ11 x0 0) + 1) := ⟨_, rfl⟩
  rw [← eσ12]
  replace hf := hf σ12 eσ12
  exact z_vret hC hr rfl dX9_insert_89 hf
set_option maxHeartbeats 4000000 in
set_option maxRecDepth 100000 in
theorem wX9_insert_B15 {p : Program} {l : Launch} {e : Env} {s : State} {m : MethodId} {args : Array Value} {below : List Frame} {meth : Method} {c : Code} {D : va_G} {dA : Nat → ClassId} {ad : Nat → Nat} {sz : Nat} {aL aG aI : Nat} {aK aV : Nat → Nat} {K : zSt → Prop} (hC : zC p m c cX9_insert 4 s args (Cond.code yX9_insert cX9_insert 4 none :: UW) RX9 meth D vwCl (tyA dA) (zA ad NX sz) NX ad (celX ad dA)) (hE : zE (zXX aL aG aI aK aV) (zA ad NX sz) s s.heap) (hr : meth.sig.returnType = none) (hinj : ∀ i j, i < NX → j < NX → ad i = ad j → i = j) : ∀ (n : Nat) (σ : zSt) (x0 : Int) (x1 : Int) (x2 : Int) (x3 : Int) (qx0 : kX x0 = 9), fX9_insert_B15 K n σ x0 x1 x2 x3 → zAt p l e ({ frames := 0, cells := 0, slots := 0, locals := 0 } : Room) s m args below meth c 0 0 (MQ below (va_Qv K (zB D vwCl (tyA dA) NX ad (celX ad dA)) (zA ad NX sz)) args s 0 0 (zA ad NX sz)) 4 D vwCl (zA ad NX sz) NX ad (celX ad dA) 15 [(0, vR ad x0), (1, vI x1), (2, vI x2), (3, vI x3)] [] σ := by
  intro n
  induction n with
  | zero => intro σ x0 x1 x2 x3 qx0 hf; exact False.elim hf
  | succ n ih =>
    intro σ x0 x1 x2 x3 qx0 hf
    rw [uX9_insert_B15] at hf
    refine z_iload_n hC dX9_insert_15 3 rfl rfl ?_
    obtain ⟨g2, hf⟩ := hf
    refine z_if_le (tgt := 65) hC dX9_insert_16 (by decide) g2 (fun hc => ?_) (fun hc => ?_)
    · replace hf := hf.1 hc
      exact wX9_insert_B65 hC hE hr hinj qx0 hf
    · replace hf := hf.2 hc
      refine z_aload_n hC dX9_insert_19 0 rfl rfl ?_
      refine z_get hC (fun w h => uT _ w (uL9 w h)) (oX_9 qx0) 1 (by decide) (uT _ _ u199) rfl rfl dX9_insert_20 ?_
      refine z_iload_n hC dX9_insert_23 3 rfl rfl ?_
      refine z_iconst hC dX9_insert_24 ?_
      refine z_isub hC dX9_insert_25 ?_
      obtain ⟨g3, hf⟩ := hf
      refine z_iaload hC (aX_17 (kf_9_1 qx0)) g3 dX9_insert_26 ?_
      refine z_iload_n hC dX9_insert_27 1 rfl rfl ?_
      obtain ⟨g4, hf⟩ := hf
      obtain ⟨g5, hf⟩ := hf
      refine z_icmp_le (tgt := 65) hC dX9_insert_28 (by decide) g4 g5 (fun hc => ?_) (fun hc => ?_)
      · replace hf := hf.1 hc
        exact wX9_insert_B65 hC hE hr hinj qx0 hf
      · replace hf := hf.2 hc
        refine z_aload_n hC dX9_insert_31 0 rfl rfl ?_
        refine z_get hC (fun w h => uT _ w (uL9 w h)) (oX_9 qx0) 1 (by decide) (uT _ _ u199) rfl rfl dX9_insert_32 ?_
        refine z_iload_n hC dX9_insert_35 3 rfl rfl ?_
        refine z_aload_n hC dX9_insert_36 0 rfl rfl ?_
        refine z_get hC (fun w h => uT _ w (uL9 w h)) (oX_9 qx0) 1 (by decide) (uT _ _ u199) rfl rfl dX9_insert_37 ?_
        refine z_iload_n hC dX9_insert_40 3 rfl rfl ?_
        refine z_iconst hC dX9_insert_41 ?_
        refine z_isub hC dX9_insert_42 ?_
        refine z_iaload hC (aX_17 (kf_9_1 qx0)) g3 dX9_insert_43 ?_
        obtain ⟨g6, hf⟩ := hf
        refine z_iastore hC (aX_17 (kf_9_1 qx0)) (loX' (kf_9_1 qx0) (by decide)) g6 dX9_insert_44 ?_
        obtain ⟨σ7, eσ7⟩ : ∃ z : zSt, z = zu σ (x0 + 3) x3 (σ (x0 + 3) (x3 - 1)) := ⟨_, rfl⟩
        rw [← eσ7]
        replace hf := hf σ7 eσ7
        refine z_aload_n hC dX9_insert_45 0 rfl rfl ?_
        refine z_get hC (fun w h => uT _ w (uL9 w h)) (oX_9 qx0) 2 (by decide) (uT _ _ u202) rfl rfl dX9_insert_46 ?_
        refine z_iload_n hC dX9_insert_49 3 rfl rfl ?_
        refine z_aload_n hC dX9_insert_50 0 rfl rfl ?_
        refine z_get hC (fun w h => uT _ w (uL9 w h)) (oX_9 qx0) 2 (by decide) (uT _ _ u202) rfl rfl dX9_insert_51 ?_
        refine z_iload_n hC dX9_insert_54 3 rfl rfl ?_
        refine z_iconst hC dX9_insert_55 ?_
        refine z_isub hC dX9_insert_56 ?_
        refine z_iaload hC (aX_17 (kf_9_2 qx0)) g3 dX9_insert_57 ?_
        refine z_iastore hC (aX_17 (kf_9_2 qx0)) (loX' (kf_9_2 qx0) (by decide)) g6 dX9_insert_58 ?_
        obtain ⟨σ8, eσ8⟩ : ∃ z : zSt, z = zu σ7 (x0 + 6) x3 (σ7 (x0 + 6) (x3 - 1)) := ⟨_, rfl⟩
        rw [← eσ8]
        replace hf := hf σ8 eσ8
        refine z_iinc hC ([(3, vI (x3 + (-1))), (0, vR ad x0), (1, vI x1), (2, vI x2)]) dX9_insert_59 3 rfl (by decide) rfl ?_
        refine z_goto (tgt := 15) hC dX9_insert_62 (by decide) ?_
        refine z_sub (lv' := [(0, vR ad x0), (1, vI x1), (2, vI x2), (3, vI (x3 + (-1)))]) [1, 2, 3, 0] rfl ?_
        exact ih _ _ _ _ _ qx0 hf
set_option maxHeartbeats 4000000 in
set_option maxRecDepth 100000 in
theorem mX9_insert {D : va_G} {dA : Nat → ClassId} {ad : Nat → Nat} {aL aG aI : Nat} {aK aV : Nat → Nat} (l : Launch) (hinj : ∀ i j, i < NX → j < NX → ad i = ad j → i = j) (sz : Nat) {K : zSt → Prop} {σ : zSt} {x0 : Int} {x1 : Int} {x2 : Int} (hf : fX9_insert K σ x0 x1 x2) : Met l yX9_insert (Cond.code yX9_insert cX9_insert 4 none :: UW) ({ frames := 0, cells := 0, slots := 0, locals := 0 } : Room) (va_Pc [vR ad x0, vI x1, vI x2] (zPre D vwCl (tyA dA) (zXX aL aG aI aK aV) NX ad (celX ad dA) sz σ)) (va_Qv K (zB D vwCl (tyA dA) NX ad (celX ad dA)) (zA ad NX sz)) 0 0 (zA ad NX sz) := by
  refine z_enter (cc := cX9_insert) (maxL := 4) (ret := none) (vs := [vR ad x0, vI x1, vI x2]) (plainFor_of_name (by decide)) rfl hinj (Nat.le_of_ble_eq_true rfl) ?_
  intro p e s m args below meth c hC hE hsz hr hnm
  obtain ⟨qx0, hf⟩ := hf
  show zAt p l e ({ frames := 0, cells := 0, slots := 0, locals := 0 } : Room) s m args below meth c 0 0 (MQ below (va_Qv K (zB D vwCl (tyA dA) NX ad (celX ad dA)) (zA ad NX sz)) args s 0 0 (zA ad NX sz)) 4 D vwCl (zA ad NX sz) NX ad (celX ad dA) 0 [(0, vR ad x0), (1, vI x1), (2, vI x2)] [] σ
  refine z_aload_n hC dX9_insert_0 0 rfl rfl ?_
  refine z_get hC (fun w h => uT _ w (uL9 w h)) (oX_9 qx0) 0 (by decide) (uT _ _ u196) rfl rfl dX9_insert_1 ?_
  refine z_bipush hC dX9_insert_4 (by decide) ?_
  obtain ⟨g1, hf⟩ := hf
  refine z_icmp_lt (tgt := 10) hC dX9_insert_6 (by decide) g1 (zlit rfl rfl) (fun hc => ?_) (fun hc => ?_)
  · replace hf := hf.1 hc
    refine z_aload_n hC dX9_insert_10 0 rfl rfl ?_
    refine z_get hC (fun w h => uT _ w (uL9 w h)) (oX_9 qx0) 0 (by decide) (uT _ _ u196) rfl rfl dX9_insert_11 ?_
    refine z_istore_n hC ([(3, vI (σ x0 0)), (0, vR ad x0), (1, vI x1), (2, vI x2)]) dX9_insert_14 rfl (by decide) rfl ?_
    refine z_sub (lv' := [(0, vR ad x0), (1, vI x1), (2, vI x2), (3, vI (σ x0 0))]) [1, 2, 3, 0] rfl ?_
    obtain ⟨n, hf⟩ := hf
    exact wX9_insert_B15 hC hE hr hinj n _ _ _ _ _ qx0 hf
  · replace hf := hf.2 hc
    exact z_vret hC hr rfl dX9_insert_9 hf

-- ===== X0_revertReading
def fX0_revertReading (K : zSt → Prop) (σ : zSt) (x0 : Int) (x1 : Int) : Prop :=
  kX x0 = 0 ∧ kX x1 = 9 ∧ zrg (σ x0 0) ∧ ((σ x0 0 = 4 → fX9_delete (fun σ3 => K σ3) σ x1 (σ x0 2)) ∧ (¬ σ x0 0 = 4 → fX9_insert (fun σ2 => K σ2) σ x1 (σ x0 2) (σ x0 4)))
set_option maxHeartbeats 4000000 in
set_option maxRecDepth 100000 in
theorem mX0_revertReading {D : va_G} {dA : Nat → ClassId} {ad : Nat → Nat} {aL aG aI : Nat} {aK aV : Nat → Nat} (l : Launch) (hinj : ∀ i j, i < NX → j < NX → ad i = ad j → i = j) (sz : Nat) {K : zSt → Prop} {σ : zSt} {x0 : Int} {x1 : Int} (hf : fX0_revertReading K σ x0 x1) : Met l yX0_revertReading (Cond.code yX0_revertReading cX0_revertReading 2 none :: UW) ({ frames := 2, cells := 0, slots := 0, locals := 45 } : Room) (va_Pc [vR ad x0, vR ad x1] (zPre D vwCl (tyA dA) (zXX aL aG aI aK aV) NX ad (celX ad dA) sz σ)) (va_Qv K (zB D vwCl (tyA dA) NX ad (celX ad dA)) (zA ad NX sz)) 0 0 (zA ad NX sz) := by
  refine z_enter (cc := cX0_revertReading) (maxL := 2) (ret := none) (vs := [vR ad x0, vR ad x1]) (plainFor_of_name (by decide)) rfl hinj (Nat.le_of_ble_eq_true rfl) ?_
  intro p e s m args below meth c hC hE hsz hr hnm
  obtain ⟨qx0, hf⟩ := hf
  obtain ⟨qx1, hf⟩ := hf
  show zAt p l e ({ frames := 2, cells := 0, slots := 0, locals := 45 } : Room) s m args below meth c 0 0 (MQ below (va_Qv K (zB D vwCl (tyA dA) NX ad (celX ad dA)) (zA ad NX sz)) args s 0 0 (zA ad NX sz)) 2 D vwCl (zA ad NX sz) NX ad (celX ad dA) 0 [(0, vR ad x0), (1, vR ad x1)] [] σ
  refine z_aload_n hC dX0_revertReading_0 0 rfl rfl ?_
  refine z_get hC (fun w h => uT _ w (uL0 w h)) (oX_0 qx0) 0 (by decide) (uT _ _ u330) rfl rfl dX0_revertReading_1 ?_
  refine z_iconst hC dX0_revertReading_4 ?_
  obtain ⟨g1, hf⟩ := hf
  refine z_icmp_ne (tgt := 19) hC dX0_revertReading_5 (by decide) g1 (zlit rfl rfl) (fun hc => ?_) (fun hc => ?_)
  · replace hf := hf.2 hc
    refine z_aload_n hC dX0_revertReading_19 1 rfl rfl ?_
    refine z_aload_n hC dX0_revertReading_20 0 rfl rfl ?_
    refine z_get hC (fun w h => uT _ w (uL0 w h)) (oX_0 qx0) 2 (by decide) (uT _ _ u334) rfl rfl dX0_revertReading_21 ?_
    refine z_aload_n hC dX0_revertReading_24 0 rfl rfl ?_
    refine z_get hC (fun w h => uT _ w (uL0 w h)) (oX_0 qx0) 4 (by decide) (uT _ _ u338) rfl rfl dX0_revertReading_25 ?_
    refine z_callVv hC hE (oX_9 qx1) [vI (σ x0 2), vI (σ x0 4)] (fun sz2 => mX9_insert l hinj sz2 hf) (cwV 2 hC.1.2.2.2.2 (uV (uT _) u1048 u678 u679 u110 u680) rfl rfl rfl (by decide +kernel) ⟨Nat.le_of_ble_eq_true rfl, Nat.le_of_ble_eq_true rfl⟩) rfl rfl (Nat.le_of_ble_eq_true rfl) ⟨Nat.le_of_ble_eq_true rfl, Nat.le_of_ble_eq_true rfl⟩ dX0_revertReading_28 (fun σ2 hf => ?_)
    exact z_vret hC hr rfl dX0_revertReading_31 hf
  · replace hf := hf.1 hc
    refine z_aload_n hC dX0_revertReading_8 1 rfl rfl ?_
    refine z_aload_n hC dX0_revertReading_9 0 rfl rfl ?_
    refine z_get hC (fun w h => uT _ w (uL0 w h)) (oX_0 qx0) 2 (by decide) (uT _ _ u334) rfl rfl dX0_revertReading_10 ?_
    refine z_callVv hC hE (oX_9 qx1) [vI (σ x0 2)] (fun sz2 => mX9_delete l hinj sz2 hf) (cwV 1 hC.1.2.2.2.2 (uV (uT _) u1047 u987 u988 u110 u989) rfl rfl rfl (by decide +kernel) ⟨Nat.le_of_ble_eq_true rfl, Nat.le_of_ble_eq_true rfl⟩) rfl rfl (Nat.le_of_ble_eq_true rfl) ⟨Nat.le_of_ble_eq_true rfl, Nat.le_of_ble_eq_true rfl⟩ dX0_revertReading_13 (fun σ3 hf => ?_)
    refine z_goto (tgt := 31) hC dX0_revertReading_16 (by decide) ?_
    exact z_vret hC hr rfl dX0_revertReading_31 hf

-- ===== X11_isSetting
def fX11_isSetting (K : Int → zSt → Prop) (σ : zSt) (x0 : Int) : Prop :=
  zrg x0 ∧ ((x0 < 0 → K 0 σ) ∧ (¬ x0 < 0 → ((8 ≤ x0 → K 0 σ) ∧ (¬ 8 ≤ x0 → K 1 σ))))
set_option maxHeartbeats 4000000 in
set_option maxRecDepth 100000 in
theorem mX11_isSetting {D : va_G} {dA : Nat → ClassId} {ad : Nat → Nat} {aL aG aI : Nat} {aK aV : Nat → Nat} (l : Launch) (hinj : ∀ i j, i < NX → j < NX → ad i = ad j → i = j) (sz : Nat) {K : Int → zSt → Prop} {σ : zSt} {x0 : Int} (hf : fX11_isSetting K σ x0) : Met l yX11_isSetting (Cond.code yX11_isSetting cX11_isSetting 1 (some .boolean) :: UW) ({ frames := 0, cells := 0, slots := 0, locals := 0 } : Room) (va_Pc [vI x0] (zPre D vwCl (tyA dA) (zXX aL aG aI aK aV) NX ad (celX ad dA) sz σ)) (va_Qi (zPi K) (zB D vwCl (tyA dA) NX ad (celX ad dA)) (zA ad NX sz)) 0 0 (zA ad NX sz) := by
  refine z_enter (cc := cX11_isSetting) (maxL := 1) (ret := (some .boolean)) (vs := [vI x0]) (plainFor_of_name (by decide)) rfl hinj (Nat.le_of_ble_eq_true rfl) ?_
  intro p e s m args below meth c hC hE hsz hr hnm
  show zAt p l e ({ frames := 0, cells := 0, slots := 0, locals := 0 } : Room) s m args below meth c 0 0 (MQ below (va_Qi (zPi K) (zB D vwCl (tyA dA) NX ad (celX ad dA)) (zA ad NX sz)) args s 0 0 (zA ad NX sz)) 1 D vwCl (zA ad NX sz) NX ad (celX ad dA) 0 [(0, vI x0)] [] σ
  refine z_iload_n hC dX11_isSetting_0 0 rfl rfl ?_
  obtain ⟨g1, hf⟩ := hf
  refine z_if_lt (tgt := 14) hC dX11_isSetting_1 (by decide) g1 (fun hc => ?_) (fun hc => ?_)
  · replace hf := hf.1 hc
    refine z_iconst hC dX11_isSetting_14 ?_
    exact z_bret hC hr rfl dX11_isSetting_15 (Or.inl rfl) hf
  · replace hf := hf.2 hc
    refine z_iload_n hC dX11_isSetting_4 0 rfl rfl ?_
    refine z_bipush hC dX11_isSetting_5 (by decide) ?_
    refine z_icmp_ge (tgt := 14) hC dX11_isSetting_7 (by decide) g1 (zlit rfl rfl) (fun hc => ?_) (fun hc => ?_)
    · replace hf := hf.1 hc
      refine z_iconst hC dX11_isSetting_14 ?_
      exact z_bret hC hr rfl dX11_isSetting_15 (Or.inl rfl) hf
    · replace hf := hf.2 hc
      refine z_iconst hC dX11_isSetting_10 ?_
      refine z_goto (tgt := 15) hC dX11_isSetting_11 (by decide) ?_
      exact z_bret hC hr rfl dX11_isSetting_15 (Or.inr rfl) hf

-- ===== X7_has
def fX7_has (K : Int → zSt → Prop) (σ : zSt) (x0 : Int) (x1 : Int) : Prop :=
  kX x0 = 7 ∧ zrg x1 ∧ ((x1 < 0 → K 0 σ) ∧ (¬ x1 < 0 → zrg (σ x0 3) ∧ ((σ x0 3 ≤ x1 → K 0 σ) ∧ (¬ σ x0 3 ≤ x1 → K 1 σ))))
set_option maxHeartbeats 4000000 in
set_option maxRecDepth 100000 in
theorem mX7_has {D : va_G} {dA : Nat → ClassId} {ad : Nat → Nat} {aL aG aI : Nat} {aK aV : Nat → Nat} (l : Launch) (hinj : ∀ i j, i < NX → j < NX → ad i = ad j → i = j) (sz : Nat) {K : Int → zSt → Prop} {σ : zSt} {x0 : Int} {x1 : Int} (hf : fX7_has K σ x0 x1) : Met l yX7_has (Cond.code yX7_has cX7_has 2 (some .boolean) :: UW) ({ frames := 0, cells := 0, slots := 0, locals := 0 } : Room) (va_Pc [vR ad x0, vI x1] (zPre D vwCl (tyA dA) (zXX aL aG aI aK aV) NX ad (celX ad dA) sz σ)) (va_Qi (zPi K) (zB D vwCl (tyA dA) NX ad (celX ad dA)) (zA ad NX sz)) 0 0 (zA ad NX sz) := by
  refine z_enter (cc := cX7_has) (maxL := 2) (ret := (some .boolean)) (vs := [vR ad x0, vI x1]) (plainFor_of_name (by decide)) rfl hinj (Nat.le_of_ble_eq_true rfl) ?_
  intro p e s m args below meth c hC hE hsz hr hnm
  obtain ⟨qx0, hf⟩ := hf
  show zAt p l e ({ frames := 0, cells := 0, slots := 0, locals := 0 } : Room) s m args below meth c 0 0 (MQ below (va_Qi (zPi K) (zB D vwCl (tyA dA) NX ad (celX ad dA)) (zA ad NX sz)) args s 0 0 (zA ad NX sz)) 2 D vwCl (zA ad NX sz) NX ad (celX ad dA) 0 [(0, vR ad x0), (1, vI x1)] [] σ
  refine z_iload_n hC dX7_has_0 1 rfl rfl ?_
  obtain ⟨g1, hf⟩ := hf
  refine z_if_lt (tgt := 16) hC dX7_has_1 (by decide) g1 (fun hc => ?_) (fun hc => ?_)
  · replace hf := hf.1 hc
    refine z_iconst hC dX7_has_16 ?_
    exact z_bret hC hr rfl dX7_has_17 (Or.inl rfl) hf
  · replace hf := hf.2 hc
    refine z_iload_n hC dX7_has_4 1 rfl rfl ?_
    refine z_aload_n hC dX7_has_5 0 rfl rfl ?_
    refine z_get hC (fun w h => uT _ w (uL7 w h)) (oX_7 qx0) 3 (by decide) (uT _ _ u164) rfl rfl dX7_has_6 ?_
    obtain ⟨g2, hf⟩ := hf
    refine z_icmp_ge (tgt := 16) hC dX7_has_9 (by decide) g1 g2 (fun hc => ?_) (fun hc => ?_)
    · replace hf := hf.1 hc
      refine z_iconst hC dX7_has_16 ?_
      exact z_bret hC hr rfl dX7_has_17 (Or.inl rfl) hf
    · replace hf := hf.2 hc
      refine z_iconst hC dX7_has_12 ?_
      refine z_goto (tgt := 17) hC dX7_has_13 (by decide) ?_
      exact z_bret hC hr rfl dX7_has_17 (Or.inr rfl) hf

-- ===== X7_place
def fX7_place (K : zSt → Prop) (σ : zSt) (x0 : Int) (x1 : Int) (x2 : Int) (x3 : Int) : Prop :=
  kX x0 = 7 ∧ fX7_has (fun r1 σ1 => zrg r1 ∧ ((r1 = 0 → K σ1) ∧ (¬ r1 = 0 → (0 ≤ x1 ∧ x1 < 6) ∧ ∀ σ4, σ4 = zu σ1 (x0 + 1) x1 x2 → ∀ σ5, σ5 = zu σ4 (x0 + 2) x1 x3 → K σ5))) σ x0 x1
set_option maxHeartbeats 4000000 in
set_option maxRecDepth 100000 in
theorem mX7_place {D : va_G} {dA : Nat → ClassId} {ad : Nat → Nat} {aL aG aI : Nat} {aK aV : Nat → Nat} (l : Launch) (hinj : ∀ i j, i < NX → j < NX → ad i = ad j → i = j) (sz : Nat) {K : zSt → Prop} {σ : zSt} {x0 : Int} {x1 : Int} {x2 : Int} {x3 : Int} (hf : fX7_place K σ x0 x1 x2 x3) : Met l yX7_place (Cond.code yX7_place cX7_place 4 none :: UW) ({ frames := 1, cells := 0, slots := 0, locals := 21 } : Room) (va_Pc [vR ad x0, vI x1, vI x2, vI x3] (zPre D vwCl (tyA dA) (zXX aL aG aI aK aV) NX ad (celX ad dA) sz σ)) (va_Qv K (zB D vwCl (tyA dA) NX ad (celX ad dA)) (zA ad NX sz)) 0 0 (zA ad NX sz) := by
  refine z_enter (cc := cX7_place) (maxL := 4) (ret := none) (vs := [vR ad x0, vI x1, vI x2, vI x3]) (plainFor_of_name (by decide)) rfl hinj (Nat.le_of_ble_eq_true rfl) ?_
  intro p e s m args below meth c hC hE hsz hr hnm
  obtain ⟨qx0, hf⟩ := hf
  show zAt p l e ({ frames := 1, cells := 0, slots := 0, locals := 21 } : Room) s m args below meth c 0 0 (MQ below (va_Qv K (zB D vwCl (tyA dA) NX ad (celX ad dA)) (zA ad NX sz)) args s 0 0 (zA ad NX sz)) 4 D vwCl (zA ad NX sz) NX ad (celX ad dA) 0 [(0, vR ad x0), (1, vI x1), (2, vI x2), (3, vI x3)] [] σ
  refine z_aload_n hC dX7_place_0 0 rfl rfl ?_
  refine z_iload_n hC dX7_place_1 1 rfl rfl ?_
  refine z_callVi hC hE (oX_7 qx0) [vI x1] (fun sz2 => mX7_has l hinj sz2 hf) (cwV 1 hC.1.2.2.2.2 (uV (uT _) u663 u664 u665 u107 u666) rfl rfl rfl (by decide +kernel) ⟨Nat.le_of_ble_eq_true rfl, Nat.le_of_ble_eq_true rfl⟩) rfl rfl (Nat.le_of_ble_eq_true rfl) ⟨Nat.le_of_ble_eq_true rfl, Nat.le_of_ble_eq_true rfl⟩ dX7_place_2 (fun r1 σ1 hf => ?_)
  obtain ⟨g2, hf⟩ := hf
  refine z_if_eq (tgt := 22) hC dX7_place_5 (by decide) g2 (fun hc => ?_) (fun hc => ?_)
  · replace hf := hf.1 hc
    exact z_vret hC hr rfl dX7_place_22 hf
  · replace hf := hf.2 hc
    refine z_aload_n hC dX7_place_8 0 rfl rfl ?_
    refine z_get hC (fun w h => uT _ w (uL7 w h)) (oX_7 qx0) 1 (by decide) (uT _ _ u156) rfl rfl dX7_place_9 ?_
    refine z_iload_n hC dX7_place_12 1 rfl rfl ?_
    refine z_iload_n hC dX7_place_13 2 rfl rfl ?_
    obtain ⟨g3, hf⟩ := hf
    refine z_iastore hC (aX_14 (kf_7_1 qx0)) (loX' (kf_7_1 qx0) (by decide)) g3 dX7_place_14 ?_
    obtain ⟨σ4, eσ4⟩ : ∃ z : zSt, z = zu σ1 (x0 + 1) x1 x2 := ⟨_, rfl⟩
    rw [← eσ4]
    replace hf := hf σ4 eσ4
    refine z_aload_n hC dX7_place_15 0 rfl rfl ?_
    refine z_get hC (fun w h => uT _ w (uL7 w h)) (oX_7 qx0) 2 (by decide) (uT _ _ u160) rfl rfl dX7_place_16 ?_
    refine z_iload_n hC dX7_place_19 1 rfl rfl ?_
    refine z_iload_n hC dX7_place_20 3 rfl rfl ?_
    refine z_iastore hC (aX_14 (kf_7_2 qx0)) (loX' (kf_7_2 qx0) (by decide)) g3 dX7_place_21 ?_
    obtain ⟨σ5, eσ5⟩ : ∃ z : zSt, z = zu σ4 (x0 + 2) x1 x3 := ⟨_, rfl⟩
    rw [← eσ5]
    replace hf := hf σ5 eσ5
    exact z_vret hC hr rfl dX7_place_22 hf

-- ===== X8_hasStake
def fX8_hasStake (K : Int → zSt → Prop) (σ : zSt) (x0 : Int) (x1 : Int) : Prop :=
  kX x0 = 8 ∧ zrg x1 ∧ ((x1 < 0 → K 0 σ) ∧ (¬ x1 < 0 → zrg (σ x0 3) ∧ ((σ x0 3 ≤ x1 → K 0 σ) ∧ (¬ σ x0 3 ≤ x1 → K 1 σ))))
set_option maxHeartbeats 4000000 in
set_option maxRecDepth 100000 in
theorem mX8_hasStake {D : va_G} {dA : Nat → ClassId} {ad : Nat → Nat} {aL aG aI : Nat} {aK aV : Nat → Nat} (l : Launch) (hinj : ∀ i j, i < NX → j < NX → ad i = ad j → i = j) (sz : Nat) {K : Int → zSt → Prop} {σ : zSt} {x0 : Int} {x1 : Int} (hf : fX8_hasStake K σ x0 x1) : Met l yX8_hasStake (Cond.code yX8_hasStake cX8_hasStake 2 (some .boolean) :: UW) ({ frames := 0, cells := 0, slots := 0, locals := 0 } : Room) (va_Pc [vR ad x0, vI x1] (zPre D vwCl (tyA dA) (zXX aL aG aI aK aV) NX ad (celX ad dA) sz σ)) (va_Qi (zPi K) (zB D vwCl (tyA dA) NX ad (celX ad dA)) (zA ad NX sz)) 0 0 (zA ad NX sz) := by
  refine z_enter (cc := cX8_hasStake) (maxL := 2) (ret := (some .boolean)) (vs := [vR ad x0, vI x1]) (plainFor_of_name (by decide)) rfl hinj (Nat.le_of_ble_eq_true rfl) ?_
  intro p e s m args below meth c hC hE hsz hr hnm
  obtain ⟨qx0, hf⟩ := hf
  show zAt p l e ({ frames := 0, cells := 0, slots := 0, locals := 0 } : Room) s m args below meth c 0 0 (MQ below (va_Qi (zPi K) (zB D vwCl (tyA dA) NX ad (celX ad dA)) (zA ad NX sz)) args s 0 0 (zA ad NX sz)) 2 D vwCl (zA ad NX sz) NX ad (celX ad dA) 0 [(0, vR ad x0), (1, vI x1)] [] σ
  refine z_iload_n hC dX8_hasStake_0 1 rfl rfl ?_
  obtain ⟨g1, hf⟩ := hf
  refine z_if_lt (tgt := 16) hC dX8_hasStake_1 (by decide) g1 (fun hc => ?_) (fun hc => ?_)
  · replace hf := hf.1 hc
    refine z_iconst hC dX8_hasStake_16 ?_
    exact z_bret hC hr rfl dX8_hasStake_17 (Or.inl rfl) hf
  · replace hf := hf.2 hc
    refine z_iload_n hC dX8_hasStake_4 1 rfl rfl ?_
    refine z_aload_n hC dX8_hasStake_5 0 rfl rfl ?_
    refine z_get hC (fun w h => uT _ w (uL8 w h)) (oX_8 qx0) 3 (by decide) (uT _ _ u223) rfl rfl dX8_hasStake_6 ?_
    obtain ⟨g2, hf⟩ := hf
    refine z_icmp_ge (tgt := 16) hC dX8_hasStake_9 (by decide) g1 g2 (fun hc => ?_) (fun hc => ?_)
    · replace hf := hf.1 hc
      refine z_iconst hC dX8_hasStake_16 ?_
      exact z_bret hC hr rfl dX8_hasStake_17 (Or.inl rfl) hf
    · replace hf := hf.2 hc
      refine z_iconst hC dX8_hasStake_12 ?_
      refine z_goto (tgt := 17) hC dX8_hasStake_13 (by decide) ?_
      exact z_bret hC hr rfl dX8_hasStake_17 (Or.inr rfl) hf

-- ===== X8_hasFrame
def fX8_hasFrame (K : Int → zSt → Prop) (σ : zSt) (x0 : Int) (x1 : Int) : Prop :=
  kX x0 = 8 ∧ zrg x1 ∧ ((x1 < 0 → K 0 σ) ∧ (¬ x1 < 0 → zrg (σ x0 2) ∧ ((σ x0 2 ≤ x1 → K 0 σ) ∧ (¬ σ x0 2 ≤ x1 → K 1 σ))))
set_option maxHeartbeats 4000000 in
set_option maxRecDepth 100000 in
theorem mX8_hasFrame {D : va_G} {dA : Nat → ClassId} {ad : Nat → Nat} {aL aG aI : Nat} {aK aV : Nat → Nat} (l : Launch) (hinj : ∀ i j, i < NX → j < NX → ad i = ad j → i = j) (sz : Nat) {K : Int → zSt → Prop} {σ : zSt} {x0 : Int} {x1 : Int} (hf : fX8_hasFrame K σ x0 x1) : Met l yX8_hasFrame (Cond.code yX8_hasFrame cX8_hasFrame 2 (some .boolean) :: UW) ({ frames := 0, cells := 0, slots := 0, locals := 0 } : Room) (va_Pc [vR ad x0, vI x1] (zPre D vwCl (tyA dA) (zXX aL aG aI aK aV) NX ad (celX ad dA) sz σ)) (va_Qi (zPi K) (zB D vwCl (tyA dA) NX ad (celX ad dA)) (zA ad NX sz)) 0 0 (zA ad NX sz) := by
  refine z_enter (cc := cX8_hasFrame) (maxL := 2) (ret := (some .boolean)) (vs := [vR ad x0, vI x1]) (plainFor_of_name (by decide)) rfl hinj (Nat.le_of_ble_eq_true rfl) ?_
  intro p e s m args below meth c hC hE hsz hr hnm
  obtain ⟨qx0, hf⟩ := hf
  show zAt p l e ({ frames := 0, cells := 0, slots := 0, locals := 0 } : Room) s m args below meth c 0 0 (MQ below (va_Qi (zPi K) (zB D vwCl (tyA dA) NX ad (celX ad dA)) (zA ad NX sz)) args s 0 0 (zA ad NX sz)) 2 D vwCl (zA ad NX sz) NX ad (celX ad dA) 0 [(0, vR ad x0), (1, vI x1)] [] σ
  refine z_iload_n hC dX8_hasFrame_0 1 rfl rfl ?_
  obtain ⟨g1, hf⟩ := hf
  refine z_if_lt (tgt := 16) hC dX8_hasFrame_1 (by decide) g1 (fun hc => ?_) (fun hc => ?_)
  · replace hf := hf.1 hc
    refine z_iconst hC dX8_hasFrame_16 ?_
    exact z_bret hC hr rfl dX8_hasFrame_17 (Or.inl rfl) hf
  · replace hf := hf.2 hc
    refine z_iload_n hC dX8_hasFrame_4 1 rfl rfl ?_
    refine z_aload_n hC dX8_hasFrame_5 0 rfl rfl ?_
    refine z_get hC (fun w h => uT _ w (uL8 w h)) (oX_8 qx0) 2 (by decide) (uT _ _ u219) rfl rfl dX8_hasFrame_6 ?_
    obtain ⟨g2, hf⟩ := hf
    refine z_icmp_ge (tgt := 16) hC dX8_hasFrame_9 (by decide) g1 g2 (fun hc => ?_) (fun hc => ?_)
    · replace hf := hf.1 hc
      refine z_iconst hC dX8_hasFrame_16 ?_
      exact z_bret hC hr rfl dX8_hasFrame_17 (Or.inl rfl) hf
    · replace hf := hf.2 hc
      refine z_iconst hC dX8_hasFrame_12 ?_
      refine z_goto (tgt := 17) hC dX8_hasFrame_13 (by decide) ?_
      exact z_bret hC hr rfl dX8_hasFrame_17 (Or.inr rfl) hf

-- ===== X8_hasPixel
def fX8_hasPixel (K : Int → zSt → Prop) (σ : zSt) (x0 : Int) (x1 : Int) (x2 : Int) : Prop :=
  kX x0 = 8 ∧ zrg x1 ∧ ((x1 < 0 → K 0 σ) ∧ (¬ x1 < 0 → zrg (σ x0 0) ∧ ((σ x0 0 ≤ x1 → K 0 σ) ∧ (¬ σ x0 0 ≤ x1 → zrg x2 ∧ ((x2 < 0 → K 0 σ) ∧ (¬ x2 < 0 → zrg (σ x0 1) ∧ ((σ x0 1 ≤ x2 → K 0 σ) ∧ (¬ σ x0 1 ≤ x2 → K 1 σ))))))))
set_option maxHeartbeats 4000000 in
set_option maxRecDepth 100000 in
theorem mX8_hasPixel {D : va_G} {dA : Nat → ClassId} {ad : Nat → Nat} {aL aG aI : Nat} {aK aV : Nat → Nat} (l : Launch) (hinj : ∀ i j, i < NX → j < NX → ad i = ad j → i = j) (sz : Nat) {K : Int → zSt → Prop} {σ : zSt} {x0 : Int} {x1 : Int} {x2 : Int} (hf : fX8_hasPixel K σ x0 x1 x2) : Met l yX8_hasPixel (Cond.code yX8_hasPixel cX8_hasPixel 3 (some .boolean) :: UW) ({ frames := 0, cells := 0, slots := 0, locals := 0 } : Room) (va_Pc [vR ad x0, vI x1, vI x2] (zPre D vwCl (tyA dA) (zXX aL aG aI aK aV) NX ad (celX ad dA) sz σ)) (va_Qi (zPi K) (zB D vwCl (tyA dA) NX ad (celX ad dA)) (zA ad NX sz)) 0 0 (zA ad NX sz) := by
  refine z_enter (cc := cX8_hasPixel) (maxL := 3) (ret := (some .boolean)) (vs := [vR ad x0, vI x1, vI x2]) (plainFor_of_name (by decide)) rfl hinj (Nat.le_of_ble_eq_true rfl) ?_
  intro p e s m args below meth c hC hE hsz hr hnm
  obtain ⟨qx0, hf⟩ := hf
  show zAt p l e ({ frames := 0, cells := 0, slots := 0, locals := 0 } : Room) s m args below meth c 0 0 (MQ below (va_Qi (zPi K) (zB D vwCl (tyA dA) NX ad (celX ad dA)) (zA ad NX sz)) args s 0 0 (zA ad NX sz)) 3 D vwCl (zA ad NX sz) NX ad (celX ad dA) 0 [(0, vR ad x0), (1, vI x1), (2, vI x2)] [] σ
  refine z_iload_n hC dX8_hasPixel_0 1 rfl rfl ?_
  obtain ⟨g1, hf⟩ := hf
  refine z_if_lt (tgt := 28) hC dX8_hasPixel_1 (by decide) g1 (fun hc => ?_) (fun hc => ?_)
  · replace hf := hf.1 hc
    refine z_iconst hC dX8_hasPixel_28 ?_
    exact z_bret hC hr rfl dX8_hasPixel_29 (Or.inl rfl) hf
  · replace hf := hf.2 hc
    refine z_iload_n hC dX8_hasPixel_4 1 rfl rfl ?_
    refine z_aload_n hC dX8_hasPixel_5 0 rfl rfl ?_
    refine z_get hC (fun w h => uT _ w (uL8 w h)) (oX_8 qx0) 0 (by decide) (uT _ _ u213) rfl rfl dX8_hasPixel_6 ?_
    obtain ⟨g2, hf⟩ := hf
    refine z_icmp_ge (tgt := 28) hC dX8_hasPixel_9 (by decide) g1 g2 (fun hc => ?_) (fun hc => ?_)
    · replace hf := hf.1 hc
      refine z_iconst hC dX8_hasPixel_28 ?_
      exact z_bret hC hr rfl dX8_hasPixel_29 (Or.inl rfl) hf
    · replace hf := hf.2 hc
      refine z_iload_n hC dX8_hasPixel_12 2 rfl rfl ?_
      obtain ⟨g3, hf⟩ := hf
      refine z_if_lt (tgt := 28) hC dX8_hasPixel_13 (by decide) g3 (fun hc => ?_) (fun hc => ?_)
      · replace hf := hf.1 hc
        refine z_iconst hC dX8_hasPixel_28 ?_
        exact z_bret hC hr rfl dX8_hasPixel_29 (Or.inl rfl) hf
      · replace hf := hf.2 hc
        refine z_iload_n hC dX8_hasPixel_16 2 rfl rfl ?_
        refine z_aload_n hC dX8_hasPixel_17 0 rfl rfl ?_
        refine z_get hC (fun w h => uT _ w (uL8 w h)) (oX_8 qx0) 1 (by decide) (uT _ _ u216) rfl rfl dX8_hasPixel_18 ?_
        obtain ⟨g4, hf⟩ := hf
        refine z_icmp_ge (tgt := 28) hC dX8_hasPixel_21 (by decide) g3 g4 (fun hc => ?_) (fun hc => ?_)
        · replace hf := hf.1 hc
          refine z_iconst hC dX8_hasPixel_28 ?_
          exact z_bret hC hr rfl dX8_hasPixel_29 (Or.inl rfl) hf
        · replace hf := hf.2 hc
          refine z_iconst hC dX8_hasPixel_24 ?_
          refine z_goto (tgt := 29) hC dX8_hasPixel_25 (by decide) ?_
          exact z_bret hC hr rfl dX8_hasPixel_29 (Or.inr rfl) hf

-- ===== X8_paint
def fX8_paint (K : zSt → Prop) (σ : zSt) (x0 : Int) (x1 : Int) (x2 : Int) (x3 : Int) (x4 : Int) : Prop :=
  kX x0 = 8 ∧ fX8_hasFrame (fun r1 σ1 => zrg r1 ∧ ((r1 = 0 → K σ1) ∧ (¬ r1 = 0 → fX8_hasPixel (fun r3 σ3 => zrg r3 ∧ ((r3 = 0 → K σ3) ∧ (¬ r3 = 0 → (0 ≤ x1 ∧ x1 < 6) ∧ kX (σ3 (x0 + 2) x1) = 1 ∧ (0 ≤ (12 * x3) + x2 ∧ (12 * x3) + x2 < 120) ∧ ∀ σ8, σ8 = zu σ3 ((σ3 (x0 + 2) x1) + 6) ((12 * x3) + x2) x4 → K σ8))) σ1 x0 x2 x3))) σ x0 x1
set_option maxHeartbeats 4000000 in
set_option maxRecDepth 100000 in
theorem mX8_paint {D : va_G} {dA : Nat → ClassId} {ad : Nat → Nat} {aL aG aI : Nat} {aK aV : Nat → Nat} (l : Launch) (hinj : ∀ i j, i < NX → j < NX → ad i = ad j → i = j) (sz : Nat) {K : zSt → Prop} {σ : zSt} {x0 : Int} {x1 : Int} {x2 : Int} {x3 : Int} {x4 : Int} (hf : fX8_paint K σ x0 x1 x2 x3 x4) : Met l yX8_paint (Cond.code yX8_paint cX8_paint 5 none :: UW) ({ frames := 1, cells := 0, slots := 0, locals := 22 } : Room) (va_Pc [vR ad x0, vI x1, vI x2, vI x3, vI x4] (zPre D vwCl (tyA dA) (zXX aL aG aI aK aV) NX ad (celX ad dA) sz σ)) (va_Qv K (zB D vwCl (tyA dA) NX ad (celX ad dA)) (zA ad NX sz)) 0 0 (zA ad NX sz) := by
  refine z_enter (cc := cX8_paint) (maxL := 5) (ret := none) (vs := [vR ad x0, vI x1, vI x2, vI x3, vI x4]) (plainFor_of_name (by decide)) rfl hinj (Nat.le_of_ble_eq_true rfl) ?_
  intro p e s m args below meth c hC hE hsz hr hnm
  obtain ⟨qx0, hf⟩ := hf
  show zAt p l e ({ frames := 1, cells := 0, slots := 0, locals := 22 } : Room) s m args below meth c 0 0 (MQ below (va_Qv K (zB D vwCl (tyA dA) NX ad (celX ad dA)) (zA ad NX sz)) args s 0 0 (zA ad NX sz)) 5 D vwCl (zA ad NX sz) NX ad (celX ad dA) 0 [(0, vR ad x0), (1, vI x1), (2, vI x2), (3, vI x3), (4, vI x4)] [] σ
  refine z_aload_n hC dX8_paint_0 0 rfl rfl ?_
  refine z_iload_n hC dX8_paint_1 1 rfl rfl ?_
  refine z_callVi hC hE (oX_8 qx0) [vI x1] (fun sz2 => mX8_hasFrame l hinj sz2 hf) (cwV 1 hC.1.2.2.2.2 (uV (uT _) u620 u621 u622 u106 u623) rfl rfl rfl (by decide +kernel) ⟨Nat.le_of_ble_eq_true rfl, Nat.le_of_ble_eq_true rfl⟩) rfl rfl (Nat.le_of_ble_eq_true rfl) ⟨Nat.le_of_ble_eq_true rfl, Nat.le_of_ble_eq_true rfl⟩ dX8_paint_2 (fun r1 σ1 hf => ?_)
  obtain ⟨g2, hf⟩ := hf
  refine z_if_eq (tgt := 35) hC dX8_paint_5 (by decide) g2 (fun hc => ?_) (fun hc => ?_)
  · replace hf := hf.1 hc
    exact z_vret hC hr rfl dX8_paint_35 hf
  · replace hf := hf.2 hc
    refine z_aload_n hC dX8_paint_8 0 rfl rfl ?_
    refine z_iload_n hC dX8_paint_9 2 rfl rfl ?_
    refine z_iload_n hC dX8_paint_10 3 rfl rfl ?_
    refine z_callVi hC hE (oX_8 qx0) [vI x2, vI x3] (fun sz2 => mX8_hasPixel l hinj sz2 hf) (cwV 2 hC.1.2.2.2.2 (uV (uT _) u641 u642 u643 u106 u644) rfl rfl rfl (by decide +kernel) ⟨Nat.le_of_ble_eq_true rfl, Nat.le_of_ble_eq_true rfl⟩) rfl rfl (Nat.le_of_ble_eq_true rfl) ⟨Nat.le_of_ble_eq_true rfl, Nat.le_of_ble_eq_true rfl⟩ dX8_paint_11 (fun r3 σ3 hf => ?_)
    obtain ⟨g4, hf⟩ := hf
    refine z_if_eq (tgt := 35) hC dX8_paint_14 (by decide) g4 (fun hc => ?_) (fun hc => ?_)
    · replace hf := hf.1 hc
      exact z_vret hC hr rfl dX8_paint_35 hf
    · replace hf := hf.2 hc
      refine z_aload_n hC dX8_paint_17 0 rfl rfl ?_
      refine z_get hC (fun w h => uT _ w (uL8 w h)) (oX_8 qx0) 5 (by decide) (uT _ _ u232) rfl rfl dX8_paint_18 ?_
      refine z_iload_n hC dX8_paint_21 1 rfl rfl ?_
      obtain ⟨g5, hf⟩ := hf
      refine z_aaload hC (aX_21 (kf_8_5 qx0)) g5 dX8_paint_22 ?_
      obtain ⟨g6, hf⟩ := hf
      refine z_get hC (fun w h => uT _ w (uL1 w h)) (oX_1 g6) 1 (by decide) (uT _ _ u185) rfl rfl dX8_paint_23 ?_
      refine z_bipush hC dX8_paint_26 (by decide) ?_
      refine z_iload_n hC dX8_paint_28 3 rfl rfl ?_
      refine z_imul hC dX8_paint_29 ?_
      refine z_iload_n hC dX8_paint_30 2 rfl rfl ?_
      refine z_iadd hC dX8_paint_31 ?_
      refine z_iload hC dX8_paint_32 4 rfl ?_
      obtain ⟨g7, hf⟩ := hf
      refine z_iastore hC (aX_18 (kf_1_1 g6)) (loX' (kf_1_1 g6) (by decide)) g7 dX8_paint_34 ?_
      obtain ⟨σ8, eσ8⟩ : ∃ z : zSt, z = zu σ3 ((σ3 (x0 + 2) x1) + 6) ((12 * x3) + x2) x4 := ⟨_, rfl⟩
      rw [← eσ8]
      replace hf := hf σ8 eσ8
      exact z_vret hC hr rfl dX8_paint_35 hf

-- ===== X8_putBack
noncomputable def fX8_putBack_B37 (K : zSt → Prop) (n : Nat) : zSt → Int → Int → Int → Int → Prop :=
  Nat.rec (motive := fun _ => zSt → Int → Int → Int → Int → Prop) (fun _ _ _ _ _ => False) (fun _ ih σ x0 x1 x2 x3 => zrg x3 ∧ zrg x1 ∧ ((x3 ≤ x1 → (0 ≤ x1 ∧ x1 < 6) ∧ ∀ σ8, σ8 = zu σ (x0 + 2) x1 x2 → ∀ σ9, σ9 = zu σ8 x0 2 ((σ8 x0 2) + 1) → K σ9) ∧ (¬ x3 ≤ x1 → (0 ≤ x3 - 1 ∧ x3 - 1 < 6) ∧ kX (σ (x0 + 2) (x3 - 1)) = 1 ∧ (0 ≤ x3 ∧ x3 < 6) ∧ ∀ σ13, σ13 = zu σ (x0 + 2) x3 (σ (x0 + 2) (x3 - 1)) → ih σ13 x0 x1 x2 (x3 + (-1))))) n
theorem uX8_putBack_B37 (K : zSt → Prop) (n0 : Nat) (σ : zSt) (x0 : Int) (x1 : Int) (x2 : Int) (x3 : Int) : fX8_putBack_B37 K (n0 + 1) σ x0 x1 x2 x3 = (zrg x3 ∧ zrg x1 ∧ ((x3 ≤ x1 → (0 ≤ x1 ∧ x1 < 6) ∧ ∀ σ8, σ8 = zu σ (x0 + 2) x1 x2 → ∀ σ9, σ9 = zu σ8 x0 2 ((σ8 x0 2) + 1) → K σ9) ∧ (¬ x3 ≤ x1 → (0 ≤ x3 - 1 ∧ x3 - 1 < 6) ∧ kX (σ (x0 + 2) (x3 - 1)) = 1 ∧ (0 ≤ x3 ∧ x3 < 6) ∧ ∀ σ13, σ13 = zu σ (x0 + 2) x3 (σ (x0 + 2) (x3 - 1)) → (fX8_putBack_B37 K n0) σ13 x0 x1 x2 (x3 + (-1))))) := rfl
def fX8_putBack (K : zSt → Prop) (σ : zSt) (x0 : Int) (x1 : Int) : Prop :=
  kX x0 = 8 ∧ zrg x1 ∧ ((x1 < 0 → K σ) ∧ (¬ x1 < 0 → zrg (σ x0 2) ∧ ((σ x0 2 < x1 → K σ) ∧ (¬ σ x0 2 < x1 → ((σ x0 2 < 6 → (0 ≤ σ x0 2 ∧ σ x0 2 < 6) ∧ kX (σ (x0 + 2) (σ x0 2)) = 1 ∧ (∃ n, fX8_putBack_B37 K n σ x0 x1 (σ (x0 + 2) (σ x0 2)) (σ x0 2))) ∧ (¬ σ x0 2 < 6 → K σ))))))
set_option maxHeartbeats 4000000 in
set_option maxRecDepth 100000 in
theorem wX8_putBack_B37 {p : Program} {l : Launch} {e : Env} {s : State} {m : MethodId} {args : Array Value} {below : List Frame} {meth : Method} {c : Code} {D : va_G} {dA : Nat → ClassId} {ad : Nat → Nat} {sz : Nat} {aL aG aI : Nat} {aK aV : Nat → Nat} {K : zSt → Prop} (hC : zC p m c cX8_putBack 4 s args (Cond.code yX8_putBack cX8_putBack 4 none :: UW) RX8 meth D vwCl (tyA dA) (zA ad NX sz) NX ad (celX ad dA)) (hE : zE (zXX aL aG aI aK aV) (zA ad NX sz) s s.heap) (hr : meth.sig.returnType = none) (hinj : ∀ i j, i < NX → j < NX → ad i = ad j → i = j) : ∀ (n : Nat) (σ : zSt) (x0 : Int) (x1 : Int) (x2 : Int) (x3 : Int) (qx0 : kX x0 = 8) (qx2 : kX x2 = 1), fX8_putBack_B37 K n σ x0 x1 x2 x3 → zAt p l e ({ frames := 0, cells := 0, slots := 0, locals := 0 } : Room) s m args below meth c 0 0 (MQ below (va_Qv K (zB D vwCl (tyA dA) NX ad (celX ad dA)) (zA ad NX sz)) args s 0 0 (zA ad NX sz)) 4 D vwCl (zA ad NX sz) NX ad (celX ad dA) 37 [(0, vR ad x0), (1, vI x1), (2, vR ad x2), (3, vI x3)] [] σ := by
  intro n
  induction n with
  | zero => intro σ x0 x1 x2 x3 qx0 qx2 hf; exact False.elim hf
  | succ n ih =>
    intro σ x0 x1 x2 x3 qx0 qx2 hf
    rw [uX8_putBack_B37] at hf
    refine z_iload_n hC dX8_putBack_37 3 rfl rfl ?_
    refine z_iload_n hC dX8_putBack_38 1 rfl rfl ?_
    obtain ⟨g5, hf⟩ := hf
    obtain ⟨g6, hf⟩ := hf
    refine z_icmp_le (tgt := 62) hC dX8_putBack_39 (by decide) g5 g6 (fun hc => ?_) (fun hc => ?_)
    · replace hf := hf.1 hc
      refine z_aload_n hC dX8_putBack_62 0 rfl rfl ?_
      refine z_get hC (fun w h => uT _ w (uL8 w h)) (oX_8 qx0) 5 (by decide) (uT _ _ u232) rfl rfl dX8_putBack_63 ?_
      refine z_iload_n hC dX8_putBack_66 1 rfl rfl ?_
      refine z_aload_n hC dX8_putBack_67 2 rfl rfl ?_
      obtain ⟨g7, hf⟩ := hf
      refine z_aastore hC (aX_21 (kf_8_5 qx0)) (loX' (kf_8_5 qx0) (by decide)) (oX_1 qx2) g7 dX8_putBack_68 ?_
      obtain ⟨σ8, eσ8⟩ : ∃ z : zSt, z = zu σ (x0 + 2) x1 x2 := ⟨_, rfl⟩
      rw [← eσ8]
      replace hf := hf σ8 eσ8
      refine z_aload_n hC dX8_putBack_69 0 rfl rfl ?_
      refine z_dup hC dX8_putBack_70 rfl ?_
      refine z_get hC (fun w h => uT _ w (uL8 w h)) (oX_8 qx0) 2 (by decide) (uT _ _ u219) rfl rfl dX8_putBack_71 ?_
      refine z_iconst hC dX8_putBack_74 ?_
      refine z_iadd hC dX8_putBack_75 ?_
      refine z_put hC (ty := .int) tyX8 tyX8_ok nmX8 (fun w h => uT _ w (uL8 w h)) (oX_8 qx0) (loX' qx0 (by decide)) 2 (by decide) (uT _ _ u219) rfl rfl (2) ((σ8 x0 2) + 1) (by simp [zu]) (by decide +kernel) rfl rfl (Nat.le_of_ble_eq_true rfl) dX8_putBack_76 ?_
      obtain ⟨σ9, eσ9⟩ : ∃ z : zSt, z = zu σ8 x0 2 ((σ8 x0 2) + 1) := ⟨_, rfl⟩
      rw [← eσ9]
      replace hf := hf σ9 eσ9
      exact z_vret hC hr rfl dX8_putBack_79 hf
    · replace hf := hf.2 hc
      refine z_aload_n hC dX8_putBack_42 0 rfl rfl ?_
      refine z_get hC (fun w h => uT _ w (uL8 w h)) (oX_8 qx0) 5 (by decide) (uT _ _ u232) rfl rfl dX8_putBack_43 ?_
      refine z_iload_n hC dX8_putBack_46 3 rfl rfl ?_
      refine z_aload_n hC dX8_putBack_47 0 rfl rfl ?_
      refine z_get hC (fun w h => uT _ w (uL8 w h)) (oX_8 qx0) 5 (by decide) (uT _ _ u232) rfl rfl dX8_putBack_48 ?_
      refine z_iload_n hC dX8_putBack_51 3 rfl rfl ?_
      refine z_iconst hC dX8_putBack_52 ?_
      refine z_isub hC dX8_putBack_53 ?_
      obtain ⟨g10, hf⟩ := hf
      refine z_aaload hC (aX_21 (kf_8_5 qx0)) g10 dX8_putBack_54 ?_
      obtain ⟨g11, hf⟩ := hf
      obtain ⟨g12, hf⟩ := hf
      refine z_aastore hC (aX_21 (kf_8_5 qx0)) (loX' (kf_8_5 qx0) (by decide)) (oX_1 g11) g12 dX8_putBack_55 ?_
      obtain ⟨σ13, eσ13⟩ : ∃ z : zSt, z = zu σ (x0 + 2) x3 (σ (x0 + 2) (x3 - 1)) := ⟨_, rfl⟩
      rw [← eσ13]
      replace hf := hf σ13 eσ13
      refine z_iinc hC ([(3, vI (x3 + (-1))), (0, vR ad x0), (1, vI x1), (2, vR ad x2)]) dX8_putBack_56 3 rfl (by decide) rfl ?_
      refine z_goto (tgt := 37) hC dX8_putBack_59 (by decide) ?_
      refine z_sub (lv' := [(0, vR ad x0), (1, vI x1), (2, vR ad x2), (3, vI (x3 + (-1)))]) [1, 2, 3, 0] rfl ?_
      exact ih _ _ _ _ _ qx0 qx2 hf
set_option maxHeartbeats 4000000 in
set_option maxRecDepth 100000 in
theorem mX8_putBack {D : va_G} {dA : Nat → ClassId} {ad : Nat → Nat} {aL aG aI : Nat} {aK aV : Nat → Nat} (l : Launch) (hinj : ∀ i j, i < NX → j < NX → ad i = ad j → i = j) (sz : Nat) {K : zSt → Prop} {σ : zSt} {x0 : Int} {x1 : Int} (hf : fX8_putBack K σ x0 x1) : Met l yX8_putBack (Cond.code yX8_putBack cX8_putBack 4 none :: UW) ({ frames := 0, cells := 0, slots := 0, locals := 0 } : Room) (va_Pc [vR ad x0, vI x1] (zPre D vwCl (tyA dA) (zXX aL aG aI aK aV) NX ad (celX ad dA) sz σ)) (va_Qv K (zB D vwCl (tyA dA) NX ad (celX ad dA)) (zA ad NX sz)) 0 0 (zA ad NX sz) := by
  refine z_enter (cc := cX8_putBack) (maxL := 4) (ret := none) (vs := [vR ad x0, vI x1]) (plainFor_of_name (by decide)) rfl hinj (Nat.le_of_ble_eq_true rfl) ?_
  intro p e s m args below meth c hC hE hsz hr hnm
  obtain ⟨qx0, hf⟩ := hf
  show zAt p l e ({ frames := 0, cells := 0, slots := 0, locals := 0 } : Room) s m args below meth c 0 0 (MQ below (va_Qv K (zB D vwCl (tyA dA) NX ad (celX ad dA)) (zA ad NX sz)) args s 0 0 (zA ad NX sz)) 4 D vwCl (zA ad NX sz) NX ad (celX ad dA) 0 [(0, vR ad x0), (1, vI x1)] [] σ
  refine z_iload_n hC dX8_putBack_0 1 rfl rfl ?_
  obtain ⟨g1, hf⟩ := hf
  refine z_if_lt (tgt := 21) hC dX8_putBack_1 (by decide) g1 (fun hc => ?_) (fun hc => ?_)
  · replace hf := hf.1 hc
    exact z_vret hC hr rfl dX8_putBack_21 hf
  · replace hf := hf.2 hc
    refine z_iload_n hC dX8_putBack_4 1 rfl rfl ?_
    refine z_aload_n hC dX8_putBack_5 0 rfl rfl ?_
    refine z_get hC (fun w h => uT _ w (uL8 w h)) (oX_8 qx0) 2 (by decide) (uT _ _ u219) rfl rfl dX8_putBack_6 ?_
    obtain ⟨g2, hf⟩ := hf
    refine z_icmp_gt (tgt := 21) hC dX8_putBack_9 (by decide) g1 g2 (fun hc => ?_) (fun hc => ?_)
    · replace hf := hf.1 hc
      exact z_vret hC hr rfl dX8_putBack_21 hf
    · replace hf := hf.2 hc
      refine z_aload_n hC dX8_putBack_12 0 rfl rfl ?_
      refine z_get hC (fun w h => uT _ w (uL8 w h)) (oX_8 qx0) 2 (by decide) (uT _ _ u219) rfl rfl dX8_putBack_13 ?_
      refine z_bipush hC dX8_putBack_16 (by decide) ?_
      refine z_icmp_lt (tgt := 22) hC dX8_putBack_18 (by decide) g2 (zlit rfl rfl) (fun hc => ?_) (fun hc => ?_)
      · replace hf := hf.1 hc
        refine z_aload_n hC dX8_putBack_22 0 rfl rfl ?_
        refine z_get hC (fun w h => uT _ w (uL8 w h)) (oX_8 qx0) 5 (by decide) (uT _ _ u232) rfl rfl dX8_putBack_23 ?_
        refine z_aload_n hC dX8_putBack_26 0 rfl rfl ?_
        refine z_get hC (fun w h => uT _ w (uL8 w h)) (oX_8 qx0) 2 (by decide) (uT _ _ u219) rfl rfl dX8_putBack_27 ?_
        obtain ⟨g3, hf⟩ := hf
        refine z_aaload hC (aX_21 (kf_8_5 qx0)) g3 dX8_putBack_30 ?_
        obtain ⟨g4, hf⟩ := hf
        refine z_astore_n hC ([(2, vR ad (σ (x0 + 2) (σ x0 2))), (0, vR ad x0), (1, vI x1)]) dX8_putBack_31 rfl (by decide) rfl ?_
        refine z_aload_n hC dX8_putBack_32 1 rfl rfl ?_
        refine z_get hC (fun w h => uT _ w (uL8 w h)) (oX_8 qx0) 2 (by decide) (uT _ _ u219) rfl rfl dX8_putBack_33 ?_
        refine z_istore_n hC ([(3, vI (σ x0 2)), (2, vR ad (σ (x0 + 2) (σ x0 2))), (0, vR ad x0), (1, vI x1)]) dX8_putBack_36 rfl (by decide) rfl ?_
        refine z_sub (lv' := [(0, vR ad x0), (1, vI x1), (2, vR ad (σ (x0 + 2) (σ x0 2))), (3, vI (σ x0 2))]) [2, 3, 1, 0] rfl ?_
        obtain ⟨n, hf⟩ := hf
        exact wX8_putBack_B37 hC hE hr hinj n _ _ _ _ _ qx0 g4 hf
      · replace hf := hf.2 hc
        exact z_vret hC hr rfl dX8_putBack_21 hf

-- ===== X0_revert
def fX0_revert (K : zSt → Prop) (σ : zSt) (x0 : Int) (x1 : Int) : Prop :=
  kX x0 = 0 ∧ kX x1 = 8 ∧ zrg (σ x0 0) ∧ ((σ x0 0 = 0 → fX11_isSetting (fun r2 σ2 => zrg r2 ∧ ((r2 = 0 → K σ2) ∧ (¬ r2 = 0 → (0 ≤ σ2 x0 1 ∧ σ2 x0 1 < 8) ∧ ∀ σ5, σ5 = zu σ2 (x1 + 1) (σ2 x0 1) (σ2 x0 4) → K σ5))) σ (σ x0 1)) ∧ (σ x0 0 = 1 → fX8_paint (fun σ6 => K σ6) σ x1 (σ x0 1) (σ x0 2) (σ x0 3) (σ x0 4)) ∧ (σ x0 0 = 2 → fX8_putBack (fun σ7 => K σ7) σ x1 (σ x0 1)) ∧ (σ x0 0 = 3 → fX7_place (fun σ8 => K σ8) σ (x1 + 7) (σ x0 1) (σ x0 2) (σ x0 3)) ∧ ((σ x0 0 < 0 ∨ 3 < σ x0 0) → fX8_hasStake (fun r9 σ9 => zrg r9 ∧ ((r9 = 0 → K σ9) ∧ (¬ r9 = 0 → (0 ≤ σ9 x0 1 ∧ σ9 x0 1 < 3) ∧ fX0_revertReading (fun σ12 => K σ12) σ9 x0 ((x1 + 3) + 19 + (σ9 x0 1))))) σ x1 (σ x0 1)))
set_option maxHeartbeats 4000000 in
set_option maxRecDepth 100000 in
theorem mX0_revert {D : va_G} {dA : Nat → ClassId} {ad : Nat → Nat} {aL aG aI : Nat} {aK aV : Nat → Nat} (l : Launch) (hinj : ∀ i j, i < NX → j < NX → ad i = ad j → i = j) (sz : Nat) {K : zSt → Prop} {σ : zSt} {x0 : Int} {x1 : Int} (hf : fX0_revert K σ x0 x1) : Met l yX0_revert (Cond.code yX0_revert cX0_revert 2 none :: UW) ({ frames := 3, cells := 0, slots := 0, locals := 66 } : Room) (va_Pc [vR ad x0, vR ad x1] (zPre D vwCl (tyA dA) (zXX aL aG aI aK aV) NX ad (celX ad dA) sz σ)) (va_Qv K (zB D vwCl (tyA dA) NX ad (celX ad dA)) (zA ad NX sz)) 0 0 (zA ad NX sz) := by
  refine z_enter (cc := cX0_revert) (maxL := 2) (ret := none) (vs := [vR ad x0, vR ad x1]) (plainFor_of_name (by decide)) rfl hinj (Nat.le_of_ble_eq_true rfl) ?_
  intro p e s m args below meth c hC hE hsz hr hnm
  obtain ⟨qx0, hf⟩ := hf
  obtain ⟨qx1, hf⟩ := hf
  show zAt p l e ({ frames := 3, cells := 0, slots := 0, locals := 66 } : Room) s m args below meth c 0 0 (MQ below (va_Qv K (zB D vwCl (tyA dA) NX ad (celX ad dA)) (zA ad NX sz)) args s 0 0 (zA ad NX sz)) 2 D vwCl (zA ad NX sz) NX ad (celX ad dA) 0 [(0, vR ad x0), (1, vR ad x1)] [] σ
  refine z_aload_n hC dX0_revert_0 0 rfl rfl ?_
  refine z_get hC (fun w h => uT _ w (uL0 w h)) (oX_0 qx0) 0 (by decide) (uT _ _ u330) rfl rfl dX0_revert_1 ?_
  obtain ⟨g1, hf⟩ := hf
  have hsw : σ x0 0 = 0 ∨ σ x0 0 = 1 ∨ σ x0 0 = 2 ∨ σ x0 0 = 3 ∨ (σ x0 0 < 0 ∨ 3 < σ x0 0) := by omega
  rcases hsw with hc | hc | hc | hc | hc
  · replace hf := hf.1 hc
    refine z_tsi (tgt := 36) hC dX0_revert_4 g1 (0) hc (by decide) (by decide) rfl (by decide) ?_
    refine z_aload_n hC dX0_revert_36 0 rfl rfl ?_
    refine z_get hC (fun w h => uT _ w (uL0 w h)) (oX_0 qx0) 1 (by decide) (uT _ _ u332) rfl rfl dX0_revert_37 ?_
    refine z_callSNi hC hE [vI (σ x0 1)] (fun sz2 => mX11_isSetting l hinj sz2 hf) ⟨va_cnB (host := "GlacierCamera") 1 hC.1.2.2.2.2 (uP (uT _) u700) rfl rfl rfl ((hE.1 (.methodLinkNest RX0 25 yX11_isSetting "GlacierCamera") ((by decide +kernel : (Cond.methodLinkNest RX0 25 yX11_isSetting "GlacierCamera") ∈ zNest))).1) (hC.1.2.2.2.2 _ (uT _ _ u105)) (by decide +kernel) ⟨Nat.le_of_ble_eq_true rfl, Nat.le_of_ble_eq_true rfl⟩, hC.1.2.2.2.2 _ (uT _ _ u699), trivial⟩ rfl rfl (Nat.le_of_ble_eq_true rfl) ⟨Nat.le_of_ble_eq_true rfl, Nat.le_of_ble_eq_true rfl⟩ dX0_revert_40 (fun r2 σ2 hf => ?_)
    obtain ⟨g3, hf⟩ := hf
    refine z_if_eq (tgt := 142) hC dX0_revert_43 (by decide) g3 (fun hc => ?_) (fun hc => ?_)
    · replace hf := hf.1 hc
      exact z_vret hC hr rfl dX0_revert_142 hf
    · replace hf := hf.2 hc
      refine z_aload_n hC dX0_revert_46 1 rfl rfl ?_
      refine z_get hC (fun w h => uT _ w (uL8 w h)) (oX_8 qx1) 4 (by decide) (uT _ _ u227) rfl rfl dX0_revert_47 ?_
      refine z_aload_n hC dX0_revert_50 0 rfl rfl ?_
      refine z_get hC (fun w h => uT _ w (uL0 w h)) (oX_0 qx0) 1 (by decide) (uT _ _ u332) rfl rfl dX0_revert_51 ?_
      refine z_aload_n hC dX0_revert_54 0 rfl rfl ?_
      refine z_get hC (fun w h => uT _ w (uL0 w h)) (oX_0 qx0) 4 (by decide) (uT _ _ u338) rfl rfl dX0_revert_55 ?_
      obtain ⟨g4, hf⟩ := hf
      refine z_iastore hC (aX_17 (kf_8_4 qx1)) (loX' (kf_8_4 qx1) (by decide)) g4 dX0_revert_58 ?_
      obtain ⟨σ5, eσ5⟩ : ∃ z : zSt, z = zu σ2 (x1 + 1) (σ2 x0 1) (σ2 x0 4) := ⟨_, rfl⟩
      rw [← eσ5]
      replace hf := hf σ5 eσ5
      refine z_goto (tgt := 142) hC dX0_revert_59 (by decide) ?_
      exact z_vret hC hr rfl dX0_revert_142 hf
  · replace hf := hf.2.1 hc
    refine z_tsi (tgt := 62) hC dX0_revert_4 g1 (1) hc (by decide) (by decide) rfl (by decide) ?_
    refine z_aload_n hC dX0_revert_62 1 rfl rfl ?_
    refine z_aload_n hC dX0_revert_63 0 rfl rfl ?_
    refine z_get hC (fun w h => uT _ w (uL0 w h)) (oX_0 qx0) 1 (by decide) (uT _ _ u332) rfl rfl dX0_revert_64 ?_
    refine z_aload_n hC dX0_revert_67 0 rfl rfl ?_
    refine z_get hC (fun w h => uT _ w (uL0 w h)) (oX_0 qx0) 2 (by decide) (uT _ _ u334) rfl rfl dX0_revert_68 ?_
    refine z_aload_n hC dX0_revert_71 0 rfl rfl ?_
    refine z_get hC (fun w h => uT _ w (uL0 w h)) (oX_0 qx0) 3 (by decide) (uT _ _ u336) rfl rfl dX0_revert_72 ?_
    refine z_aload_n hC dX0_revert_75 0 rfl rfl ?_
    refine z_get hC (fun w h => uT _ w (uL0 w h)) (oX_0 qx0) 4 (by decide) (uT _ _ u338) rfl rfl dX0_revert_76 ?_
    refine z_callVv hC hE (oX_8 qx1) [vI (σ x0 1), vI (σ x0 2), vI (σ x0 3), vI (σ x0 4)] (fun sz2 => mX8_paint l hinj sz2 hf) (cwV 4 hC.1.2.2.2.2 (uV (uT _) u1036 u638 u639 u106 u640) rfl rfl rfl (by decide +kernel) ⟨Nat.le_of_ble_eq_true rfl, Nat.le_of_ble_eq_true rfl⟩) rfl rfl (Nat.le_of_ble_eq_true rfl) ⟨Nat.le_of_ble_eq_true rfl, Nat.le_of_ble_eq_true rfl⟩ dX0_revert_79 (fun σ6 hf => ?_)
    refine z_goto (tgt := 142) hC dX0_revert_82 (by decide) ?_
    exact z_vret hC hr rfl dX0_revert_142 hf
  · replace hf := hf.2.2.1 hc
    refine z_tsi (tgt := 85) hC dX0_revert_4 g1 (2) hc (by decide) (by decide) rfl (by decide) ?_
    refine z_aload_n hC dX0_revert_85 1 rfl rfl ?_
    refine z_aload_n hC dX0_revert_86 0 rfl rfl ?_
    refine z_get hC (fun w h => uT _ w (uL0 w h)) (oX_0 qx0) 1 (by decide) (uT _ _ u332) rfl rfl dX0_revert_87 ?_
    refine z_callVv hC hE (oX_8 qx1) [vI (σ x0 1)] (fun sz2 => mX8_putBack l hinj sz2 hf) (cwV 1 hC.1.2.2.2.2 (uV (uT _) u1037 u1038 u1039 u106 u1040) rfl rfl rfl (by decide +kernel) ⟨Nat.le_of_ble_eq_true rfl, Nat.le_of_ble_eq_true rfl⟩) rfl rfl (Nat.le_of_ble_eq_true rfl) ⟨Nat.le_of_ble_eq_true rfl, Nat.le_of_ble_eq_true rfl⟩ dX0_revert_90 (fun σ7 hf => ?_)
    refine z_goto (tgt := 142) hC dX0_revert_93 (by decide) ?_
    exact z_vret hC hr rfl dX0_revert_142 hf
  · replace hf := hf.2.2.2.1 hc
    refine z_tsi (tgt := 96) hC dX0_revert_4 g1 (3) hc (by decide) (by decide) rfl (by decide) ?_
    refine z_aload_n hC dX0_revert_96 1 rfl rfl ?_
    refine z_get hC (fun w h => uT _ w (uL8 w h)) (oX_8 qx1) 8 (by decide) (uT _ _ u242) rfl rfl dX0_revert_97 ?_
    refine z_aload_n hC dX0_revert_100 0 rfl rfl ?_
    refine z_get hC (fun w h => uT _ w (uL0 w h)) (oX_0 qx0) 1 (by decide) (uT _ _ u332) rfl rfl dX0_revert_101 ?_
    refine z_aload_n hC dX0_revert_104 0 rfl rfl ?_
    refine z_get hC (fun w h => uT _ w (uL0 w h)) (oX_0 qx0) 2 (by decide) (uT _ _ u334) rfl rfl dX0_revert_105 ?_
    refine z_aload_n hC dX0_revert_108 0 rfl rfl ?_
    refine z_get hC (fun w h => uT _ w (uL0 w h)) (oX_0 qx0) 3 (by decide) (uT _ _ u336) rfl rfl dX0_revert_109 ?_
    refine z_callVv hC hE (oX_7 (kf_8_8 qx1)) [vI (σ x0 1), vI (σ x0 2), vI (σ x0 3)] (fun sz2 => mX7_place l hinj sz2 hf) (cwV 3 hC.1.2.2.2.2 (uV (uT _) u1041 u660 u661 u107 u662) rfl rfl rfl (by decide +kernel) ⟨Nat.le_of_ble_eq_true rfl, Nat.le_of_ble_eq_true rfl⟩) rfl rfl (Nat.le_of_ble_eq_true rfl) ⟨Nat.le_of_ble_eq_true rfl, Nat.le_of_ble_eq_true rfl⟩ dX0_revert_112 (fun σ8 hf => ?_)
    refine z_goto (tgt := 142) hC dX0_revert_115 (by decide) ?_
    exact z_vret hC hr rfl dX0_revert_142 hf
  · replace hf := hf.2.2.2.2 hc
    refine z_tso (tgt := 118) hC dX0_revert_4 g1 hc (by decide) ?_
    refine z_aload_n hC dX0_revert_118 1 rfl rfl ?_
    refine z_aload_n hC dX0_revert_119 0 rfl rfl ?_
    refine z_get hC (fun w h => uT _ w (uL0 w h)) (oX_0 qx0) 1 (by decide) (uT _ _ u332) rfl rfl dX0_revert_120 ?_
    refine z_callVi hC hE (oX_8 qx1) [vI (σ x0 1)] (fun sz2 => mX8_hasStake l hinj sz2 hf) (cwV 1 hC.1.2.2.2.2 (uV (uT _) u1042 u974 u975 u106 u976) rfl rfl rfl (by decide +kernel) ⟨Nat.le_of_ble_eq_true rfl, Nat.le_of_ble_eq_true rfl⟩) rfl rfl (Nat.le_of_ble_eq_true rfl) ⟨Nat.le_of_ble_eq_true rfl, Nat.le_of_ble_eq_true rfl⟩ dX0_revert_123 (fun r9 σ9 hf => ?_)
    obtain ⟨g10, hf⟩ := hf
    refine z_if_eq (tgt := 142) hC dX0_revert_126 (by decide) g10 (fun hc => ?_) (fun hc => ?_)
    · replace hf := hf.1 hc
      exact z_vret hC hr rfl dX0_revert_142 hf
    · replace hf := hf.2 hc
      refine z_aload_n hC dX0_revert_129 0 rfl rfl ?_
      refine z_aload_n hC dX0_revert_130 1 rfl rfl ?_
      refine z_get hC (fun w h => uT _ w (uL8 w h)) (oX_8 qx1) 6 (by decide) (uT _ _ u234) rfl rfl dX0_revert_131 ?_
      refine z_aload_n hC dX0_revert_134 0 rfl rfl ?_
      refine z_get hC (fun w h => uT _ w (uL0 w h)) (oX_0 qx0) 1 (by decide) (uT _ _ u332) rfl rfl dX0_revert_135 ?_
      obtain ⟨g11, hf⟩ := hf
      refine z_aaload hC (aX_22 (kf_8_6 qx1)) g11 dX0_revert_138 ?_
      refine z_callVv hC hE (oX_0 qx0) [vR ad ((x1 + 3) + 19 + (σ9 x0 1))] (fun sz2 => mX0_revertReading l hinj sz2 hf) (cwV 1 hC.1.2.2.2.2 (uV (uT _) u1043 u1045 u25 u114 u1046) rfl rfl rfl (by decide +kernel) ⟨Nat.le_of_ble_eq_true rfl, Nat.le_of_ble_eq_true rfl⟩) rfl rfl (Nat.le_of_ble_eq_true rfl) ⟨Nat.le_of_ble_eq_true rfl, Nat.le_of_ble_eq_true rfl⟩ dX0_revert_139 (fun σ12 hf => ?_)
      exact z_vret hC hr rfl dX0_revert_142 hf

-- ===== X2_append
noncomputable def fX2_append_B3 (K : zSt → Prop) (n : Nat) : zSt → Int → Int → Prop :=
  Nat.rec (motive := fun _ => zSt → Int → Int → Prop) (fun _ _ _ => False) (fun _ ih σ x1 x2 => zrg x2 ∧ ((x2 < 0 → K σ) ∧ (¬ x2 < 0 → zrg (σ 2 0) ∧ ((1400 ≤ σ 2 0 → K σ) ∧ (¬ 1400 ≤ σ 2 0 → zrg x1 ∧ (0 ≤ x2 ∧ x2 < 32) ∧ (0 ≤ σ 2 0 ∧ σ 2 0 < 1400) ∧ ∀ σ6, σ6 = zu σ 3 (σ 2 0) ((x1 / 2 ^ x2.toNat).bmod 256) → ∀ σ7, σ7 = zu σ6 2 0 ((σ6 2 0) + 1) → ih σ7 x1 (x2 + (-8))))))) n
theorem uX2_append_B3 (K : zSt → Prop) (n0 : Nat) (σ : zSt) (x1 : Int) (x2 : Int) : fX2_append_B3 K (n0 + 1) σ x1 x2 = (zrg x2 ∧ ((x2 < 0 → K σ) ∧ (¬ x2 < 0 → zrg (σ 2 0) ∧ ((1400 ≤ σ 2 0 → K σ) ∧ (¬ 1400 ≤ σ 2 0 → zrg x1 ∧ (0 ≤ x2 ∧ x2 < 32) ∧ (0 ≤ σ 2 0 ∧ σ 2 0 < 1400) ∧ ∀ σ6, σ6 = zu σ 3 (σ 2 0) ((x1 / 2 ^ x2.toNat).bmod 256) → ∀ σ7, σ7 = zu σ6 2 0 ((σ6 2 0) + 1) → (fX2_append_B3 K n0) σ7 x1 (x2 + (-8))))))) := rfl
def fX2_append (K : zSt → Prop) (σ : zSt) (x1 : Int) : Prop :=
  (∃ n, fX2_append_B3 K n σ x1 24)
set_option maxHeartbeats 4000000 in
set_option maxRecDepth 100000 in
theorem wX2_append_B3 {p : Program} {l : Launch} {e : Env} {s : State} {m : MethodId} {args : Array Value} {below : List Frame} {meth : Method} {c : Code} {D : va_G} {dA : Nat → ClassId} {ad : Nat → Nat} {sz : Nat} {aL aG aI : Nat} {aK aV : Nat → Nat} {K : zSt → Prop} (hC : zC p m c cX2_append 3 s args (Cond.code yX2_append cX2_append 3 none :: UW) RX2 meth D vwCl (tyA dA) (zA ad NX sz) NX ad (celX ad dA)) (hE : zE (zXX aL aG aI aK aV) (zA ad NX sz) s s.heap) (hr : meth.sig.returnType = none) (hinj : ∀ i j, i < NX → j < NX → ad i = ad j → i = j) : ∀ (n : Nat) (σ : zSt) (x1 : Int) (x2 : Int), fX2_append_B3 K n σ x1 x2 → zAt p l e ({ frames := 0, cells := 0, slots := 0, locals := 0 } : Room) s m args below meth c 0 0 (MQ below (va_Qv K (zB D vwCl (tyA dA) NX ad (celX ad dA)) (zA ad NX sz)) args s 0 0 (zA ad NX sz)) 3 D vwCl (zA ad NX sz) NX ad (celX ad dA) 3 [(0, vR ad 2), (1, vI x1), (2, vI x2)] [] σ := by
  intro n
  induction n with
  | zero => intro σ x1 x2  hf; exact False.elim hf
  | succ n ih =>
    intro σ x1 x2  hf
    rw [uX2_append_B3] at hf
    refine z_iload_n hC dX2_append_3 2 rfl rfl ?_
    obtain ⟨g1, hf⟩ := hf
    refine z_if_lt (tgt := 46) hC dX2_append_4 (by decide) g1 (fun hc => ?_) (fun hc => ?_)
    · replace hf := hf.1 hc
      exact z_vret hC hr rfl dX2_append_46 hf
    · replace hf := hf.2 hc
      refine z_aload_n hC dX2_append_7 0 rfl rfl ?_
      refine z_get hC (fun w h => uT _ w (uL2 w h)) (oX_2 (show kX 2 = 2 by decide)) 0 (by decide) (uT _ _ u276) rfl rfl dX2_append_8 ?_
      refine z_sipush hC dX2_append_11 (by decide) ?_
      obtain ⟨g2, hf⟩ := hf
      refine z_icmp_ge (tgt := 46) hC dX2_append_14 (by decide) g2 (zlit rfl rfl) (fun hc => ?_) (fun hc => ?_)
      · replace hf := hf.1 hc
        exact z_vret hC hr rfl dX2_append_46 hf
      · replace hf := hf.2 hc
        refine z_aload_n hC dX2_append_17 0 rfl rfl ?_
        refine z_get hC (fun w h => uT _ w (uL2 w h)) (oX_2 (show kX 2 = 2 by decide)) 4 (by decide) (uT _ _ u284) rfl rfl dX2_append_18 ?_
        refine z_aload_n hC dX2_append_21 0 rfl rfl ?_
        refine z_get hC (fun w h => uT _ w (uL2 w h)) (oX_2 (show kX 2 = 2 by decide)) 0 (by decide) (uT _ _ u276) rfl rfl dX2_append_22 ?_
        refine z_iload_n hC dX2_append_25 1 rfl rfl ?_
        refine z_iload_n hC dX2_append_26 2 rfl rfl ?_
        obtain ⟨g3, hf⟩ := hf
        obtain ⟨g4, hf⟩ := hf
        refine z_ishr hC g3 g4 dX2_append_27 ?_
        refine z_i2b hC dX2_append_28 ?_
        obtain ⟨g5, hf⟩ := hf
        refine z_bastore hC (aX_13 (show kX 3 = 13 by decide)) (loX' (show kX 3 = 13 by decide) (by decide)) g5 (zi_bb _) dX2_append_29 ?_
        obtain ⟨σ6, eσ6⟩ : ∃ z : zSt, z = zu σ 3 (σ 2 0) ((x1 / 2 ^ x2.toNat).bmod 256) := ⟨_, rfl⟩
        rw [← eσ6]
        replace hf := hf σ6 eσ6
        refine z_aload_n hC dX2_append_30 0 rfl rfl ?_
        refine z_dup hC dX2_append_31 rfl ?_
        refine z_get hC (fun w h => uT _ w (uL2 w h)) (oX_2 (show kX 2 = 2 by decide)) 0 (by decide) (uT _ _ u276) rfl rfl dX2_append_32 ?_
        refine z_iconst hC dX2_append_35 ?_
        refine z_iadd hC dX2_append_36 ?_
        refine z_put hC (ty := .int) tyX2 tyX2_ok nmX2 (fun w h => uT _ w (uL2 w h)) (oX_2 (show kX 2 = 2 by decide)) (loX' (show kX 2 = 2 by decide) (by decide)) 0 (by decide) (uT _ _ u276) rfl rfl (0) ((σ6 2 0) + 1) (by simp [zu]) (by decide +kernel) rfl rfl (Nat.le_of_ble_eq_true rfl) dX2_append_37 ?_
        obtain ⟨σ7, eσ7⟩ : ∃ z : zSt, z = zu σ6 2 0 ((σ6 2 0) + 1) := ⟨_, rfl⟩
        rw [← eσ7]
        replace hf := hf σ7 eσ7
        refine z_iinc hC ([(2, vI (x2 + (-8))), (0, vR ad 2), (1, vI x1)]) dX2_append_40 2 rfl (by decide) rfl ?_
        refine z_goto (tgt := 3) hC dX2_append_43 (by decide) ?_
        refine z_sub (lv' := [(0, vR ad 2), (1, vI x1), (2, vI (x2 + (-8)))]) [1, 2, 0] rfl ?_
        exact ih _ _ _ hf
set_option maxHeartbeats 4000000 in
set_option maxRecDepth 100000 in
theorem mX2_append {D : va_G} {dA : Nat → ClassId} {ad : Nat → Nat} {aL aG aI : Nat} {aK aV : Nat → Nat} (l : Launch) (hinj : ∀ i j, i < NX → j < NX → ad i = ad j → i = j) (sz : Nat) {K : zSt → Prop} {σ : zSt} {x1 : Int} (hf : fX2_append K σ x1) : Met l yX2_append (Cond.code yX2_append cX2_append 3 none :: UW) ({ frames := 0, cells := 0, slots := 0, locals := 0 } : Room) (va_Pc [vR ad 2, vI x1] (zPre D vwCl (tyA dA) (zXX aL aG aI aK aV) NX ad (celX ad dA) sz σ)) (va_Qv K (zB D vwCl (tyA dA) NX ad (celX ad dA)) (zA ad NX sz)) 0 0 (zA ad NX sz) := by
  refine z_enter (cc := cX2_append) (maxL := 3) (ret := none) (vs := [vR ad 2, vI x1]) (plainFor_of_name (by decide)) rfl hinj (Nat.le_of_ble_eq_true rfl) ?_
  intro p e s m args below meth c hC hE hsz hr hnm
  show zAt p l e ({ frames := 0, cells := 0, slots := 0, locals := 0 } : Room) s m args below meth c 0 0 (MQ below (va_Qv K (zB D vwCl (tyA dA) NX ad (celX ad dA)) (zA ad NX sz)) args s 0 0 (zA ad NX sz)) 3 D vwCl (zA ad NX sz) NX ad (celX ad dA) 0 [(0, vR ad 2), (1, vI x1)] [] σ
  refine z_bipush hC dX2_append_0 (by decide) ?_
  refine z_istore_n hC ([(2, vI 24), (0, vR ad 2), (1, vI x1)]) dX2_append_2 rfl (by decide) rfl ?_
  refine z_sub (lv' := [(0, vR ad 2), (1, vI x1), (2, vI 24)]) [1, 2, 0] rfl ?_
  obtain ⟨n, hf⟩ := hf
  exact wX2_append_B3 hC hE hr hinj n _ _ _ hf

-- ===== X2_isBlank
def fX2_isBlank (K : Int → zSt → Prop) (σ : zSt) (x0 : Int) : Prop :=
  zrg x0 ∧ ((x0 = 32 → K 1 σ) ∧ (¬ x0 = 32 → ((x0 = 10 → K 1 σ) ∧ (¬ x0 = 10 → K 0 σ))))
set_option maxHeartbeats 4000000 in
set_option maxRecDepth 100000 in
theorem mX2_isBlank {D : va_G} {dA : Nat → ClassId} {ad : Nat → Nat} {aL aG aI : Nat} {aK aV : Nat → Nat} (l : Launch) (hinj : ∀ i j, i < NX → j < NX → ad i = ad j → i = j) (sz : Nat) {K : Int → zSt → Prop} {σ : zSt} {x0 : Int} (hf : fX2_isBlank K σ x0) : Met l yX2_isBlank (Cond.code yX2_isBlank cX2_isBlank 1 (some .boolean) :: UW) ({ frames := 0, cells := 0, slots := 0, locals := 0 } : Room) (va_Pc [vI x0] (zPre D vwCl (tyA dA) (zXX aL aG aI aK aV) NX ad (celX ad dA) sz σ)) (va_Qi (zPi K) (zB D vwCl (tyA dA) NX ad (celX ad dA)) (zA ad NX sz)) 0 0 (zA ad NX sz) := by
  refine z_enter (cc := cX2_isBlank) (maxL := 1) (ret := (some .boolean)) (vs := [vI x0]) (plainFor_of_name (by decide)) rfl hinj (Nat.le_of_ble_eq_true rfl) ?_
  intro p e s m args below meth c hC hE hsz hr hnm
  show zAt p l e ({ frames := 0, cells := 0, slots := 0, locals := 0 } : Room) s m args below meth c 0 0 (MQ below (va_Qi (zPi K) (zB D vwCl (tyA dA) NX ad (celX ad dA)) (zA ad NX sz)) args s 0 0 (zA ad NX sz)) 1 D vwCl (zA ad NX sz) NX ad (celX ad dA) 0 [(0, vI x0)] [] σ
  refine z_iload_n hC dX2_isBlank_0 0 rfl rfl ?_
  refine z_bipush hC dX2_isBlank_1 (by decide) ?_
  obtain ⟨g1, hf⟩ := hf
  refine z_icmp_eq (tgt := 12) hC dX2_isBlank_3 (by decide) g1 (zlit rfl rfl) (fun hc => ?_) (fun hc => ?_)
  · replace hf := hf.1 hc
    refine z_iconst hC dX2_isBlank_12 ?_
    refine z_goto (tgt := 17) hC dX2_isBlank_13 (by decide) ?_
    exact z_bret hC hr rfl dX2_isBlank_17 (Or.inr rfl) hf
  · replace hf := hf.2 hc
    refine z_iload_n hC dX2_isBlank_6 0 rfl rfl ?_
    refine z_bipush hC dX2_isBlank_7 (by decide) ?_
    refine z_icmp_ne (tgt := 16) hC dX2_isBlank_9 (by decide) g1 (zlit rfl rfl) (fun hc => ?_) (fun hc => ?_)
    · replace hf := hf.2 hc
      refine z_iconst hC dX2_isBlank_16 ?_
      exact z_bret hC hr rfl dX2_isBlank_17 (Or.inl rfl) hf
    · replace hf := hf.1 hc
      refine z_iconst hC dX2_isBlank_12 ?_
      refine z_goto (tgt := 17) hC dX2_isBlank_13 (by decide) ?_
      exact z_bret hC hr rfl dX2_isBlank_17 (Or.inr rfl) hf

-- ===== X2_kindOf
def fX2_kindOf_B28 (K : Int → zSt → Prop) (σ : zSt) (x0 : Int) : Prop :=
  zrg x0 ∧ ((x0 = (-1) → K 0 σ) ∧ (¬ x0 = (-1) → ((x0 = 59 → K 3 σ) ∧ (¬ x0 = 59 → K 4 σ))))
def fX2_kindOf_B14 (K : Int → zSt → Prop) (σ : zSt) (x0 : Int) : Prop :=
  zrg x0 ∧ ((x0 < 48 → fX2_kindOf_B28 K σ x0) ∧ (¬ x0 < 48 → ((57 < x0 → fX2_kindOf_B28 K σ x0) ∧ (¬ 57 < x0 → K 2 σ))))
def fX2_kindOf (K : Int → zSt → Prop) (σ : zSt) (x0 : Int) : Prop :=
  zrg x0 ∧ ((x0 < 97 → fX2_kindOf_B14 K σ x0) ∧ (¬ x0 < 97 → ((122 < x0 → fX2_kindOf_B14 K σ x0) ∧ (¬ 122 < x0 → K 1 σ))))
set_option maxHeartbeats 4000000 in
set_option maxRecDepth 100000 in
theorem wX2_kindOf_B28 {p : Program} {l : Launch} {e : Env} {s : State} {m : MethodId} {args : Array Value} {below : List Frame} {meth : Method} {c : Code} {D : va_G} {dA : Nat → ClassId} {ad : Nat → Nat} {sz : Nat} {aL aG aI : Nat} {aK aV : Nat → Nat} {K : Int → zSt → Prop} (hC : zC p m c cX2_kindOf 1 s args (Cond.code yX2_kindOf cX2_kindOf 1 (some .int) :: UW) RX2 meth D vwCl (tyA dA) (zA ad NX sz) NX ad (celX ad dA)) (hE : zE (zXX aL aG aI aK aV) (zA ad NX sz) s s.heap) (hr : meth.sig.returnType = (some .int)) (hinj : ∀ i j, i < NX → j < NX → ad i = ad j → i = j) {σ : zSt} {x0 : Int} (hf : fX2_kindOf_B28 K σ x0) : zAt p l e ({ frames := 0, cells := 0, slots := 0, locals := 0 } : Room) s m args below meth c 0 0 (MQ below (va_Qi (zPi K) (zB D vwCl (tyA dA) NX ad (celX ad dA)) (zA ad NX sz)) args s 0 0 (zA ad NX sz)) 1 D vwCl (zA ad NX sz) NX ad (celX ad dA) 28 [(0, vI x0)] [] σ := by
  refine z_iload_n hC dX2_kindOf_28 0 rfl rfl ?_
  refine z_iconst hC dX2_kindOf_29 ?_
  obtain ⟨g3, hf⟩ := hf
  refine z_icmp_ne (tgt := 37) hC dX2_kindOf_30 (by decide) g3 (zlit rfl rfl) (fun hc => ?_) (fun hc => ?_)
  · replace hf := hf.2 hc
    refine z_iload_n hC dX2_kindOf_37 0 rfl rfl ?_
    refine z_bipush hC dX2_kindOf_38 (by decide) ?_
    refine z_icmp_ne (tgt := 47) hC dX2_kindOf_40 (by decide) g3 (zlit rfl rfl) (fun hc => ?_) (fun hc => ?_)
    · replace hf := hf.2 hc
      refine z_iconst hC dX2_kindOf_47 ?_
      exact z_iret hC hr rfl dX2_kindOf_48 hf
    · replace hf := hf.1 hc
      refine z_iconst hC dX2_kindOf_43 ?_
      refine z_goto (tgt := 48) hC dX2_kindOf_44 (by decide) ?_
      exact z_iret hC hr rfl dX2_kindOf_48 hf
  · replace hf := hf.1 hc
    refine z_iconst hC dX2_kindOf_33 ?_
    refine z_goto (tgt := 48) hC dX2_kindOf_34 (by decide) ?_
    exact z_iret hC hr rfl dX2_kindOf_48 hf
set_option maxHeartbeats 4000000 in
set_option maxRecDepth 100000 in
theorem wX2_kindOf_B14 {p : Program} {l : Launch} {e : Env} {s : State} {m : MethodId} {args : Array Value} {below : List Frame} {meth : Method} {c : Code} {D : va_G} {dA : Nat → ClassId} {ad : Nat → Nat} {sz : Nat} {aL aG aI : Nat} {aK aV : Nat → Nat} {K : Int → zSt → Prop} (hC : zC p m c cX2_kindOf 1 s args (Cond.code yX2_kindOf cX2_kindOf 1 (some .int) :: UW) RX2 meth D vwCl (tyA dA) (zA ad NX sz) NX ad (celX ad dA)) (hE : zE (zXX aL aG aI aK aV) (zA ad NX sz) s s.heap) (hr : meth.sig.returnType = (some .int)) (hinj : ∀ i j, i < NX → j < NX → ad i = ad j → i = j) {σ : zSt} {x0 : Int} (hf : fX2_kindOf_B14 K σ x0) : zAt p l e ({ frames := 0, cells := 0, slots := 0, locals := 0 } : Room) s m args below meth c 0 0 (MQ below (va_Qi (zPi K) (zB D vwCl (tyA dA) NX ad (celX ad dA)) (zA ad NX sz)) args s 0 0 (zA ad NX sz)) 1 D vwCl (zA ad NX sz) NX ad (celX ad dA) 14 [(0, vI x0)] [] σ := by
  refine z_iload_n hC dX2_kindOf_14 0 rfl rfl ?_
  refine z_bipush hC dX2_kindOf_15 (by decide) ?_
  obtain ⟨g2, hf⟩ := hf
  refine z_icmp_lt (tgt := 28) hC dX2_kindOf_17 (by decide) g2 (zlit rfl rfl) (fun hc => ?_) (fun hc => ?_)
  · replace hf := hf.1 hc
    exact wX2_kindOf_B28 hC hE hr hinj  hf
  · replace hf := hf.2 hc
    refine z_iload_n hC dX2_kindOf_20 0 rfl rfl ?_
    refine z_bipush hC dX2_kindOf_21 (by decide) ?_
    refine z_icmp_gt (tgt := 28) hC dX2_kindOf_23 (by decide) g2 (zlit rfl rfl) (fun hc => ?_) (fun hc => ?_)
    · replace hf := hf.1 hc
      exact wX2_kindOf_B28 hC hE hr hinj  hf
    · replace hf := hf.2 hc
      refine z_iconst hC dX2_kindOf_26 ?_
      exact z_iret hC hr rfl dX2_kindOf_27 hf
set_option maxHeartbeats 4000000 in
set_option maxRecDepth 100000 in
theorem mX2_kindOf {D : va_G} {dA : Nat → ClassId} {ad : Nat → Nat} {aL aG aI : Nat} {aK aV : Nat → Nat} (l : Launch) (hinj : ∀ i j, i < NX → j < NX → ad i = ad j → i = j) (sz : Nat) {K : Int → zSt → Prop} {σ : zSt} {x0 : Int} (hf : fX2_kindOf K σ x0) : Met l yX2_kindOf (Cond.code yX2_kindOf cX2_kindOf 1 (some .int) :: UW) ({ frames := 0, cells := 0, slots := 0, locals := 0 } : Room) (va_Pc [vI x0] (zPre D vwCl (tyA dA) (zXX aL aG aI aK aV) NX ad (celX ad dA) sz σ)) (va_Qi (zPi K) (zB D vwCl (tyA dA) NX ad (celX ad dA)) (zA ad NX sz)) 0 0 (zA ad NX sz) := by
  refine z_enter (cc := cX2_kindOf) (maxL := 1) (ret := (some .int)) (vs := [vI x0]) (plainFor_of_name (by decide)) rfl hinj (Nat.le_of_ble_eq_true rfl) ?_
  intro p e s m args below meth c hC hE hsz hr hnm
  show zAt p l e ({ frames := 0, cells := 0, slots := 0, locals := 0 } : Room) s m args below meth c 0 0 (MQ below (va_Qi (zPi K) (zB D vwCl (tyA dA) NX ad (celX ad dA)) (zA ad NX sz)) args s 0 0 (zA ad NX sz)) 1 D vwCl (zA ad NX sz) NX ad (celX ad dA) 0 [(0, vI x0)] [] σ
  refine z_iload_n hC dX2_kindOf_0 0 rfl rfl ?_
  refine z_bipush hC dX2_kindOf_1 (by decide) ?_
  obtain ⟨g1, hf⟩ := hf
  refine z_icmp_lt (tgt := 14) hC dX2_kindOf_3 (by decide) g1 (zlit rfl rfl) (fun hc => ?_) (fun hc => ?_)
  · replace hf := hf.1 hc
    exact wX2_kindOf_B14 hC hE hr hinj  hf
  · replace hf := hf.2 hc
    refine z_iload_n hC dX2_kindOf_6 0 rfl rfl ?_
    refine z_bipush hC dX2_kindOf_7 (by decide) ?_
    refine z_icmp_gt (tgt := 14) hC dX2_kindOf_9 (by decide) g1 (zlit rfl rfl) (fun hc => ?_) (fun hc => ?_)
    · replace hf := hf.1 hc
      exact wX2_kindOf_B14 hC hE hr hinj  hf
    · replace hf := hf.2 hc
      refine z_iconst hC dX2_kindOf_12 ?_
      exact z_iret hC hr rfl dX2_kindOf_13 hf

-- ===== X2_signAt
def fX2_signAt_B24 (K : Int → zSt → Prop) (σ : zSt) (x1 : Int) (s0 : Int) : Prop :=
  zrg s0 ∧ ((s0 = 0 → K (-1) σ) ∧ (¬ s0 = 0 → (0 ≤ x1 ∧ x1 < 1400) ∧ K ((σ 3 x1) % 256) σ))
def fX2_signAt_B23 (K : Int → zSt → Prop) (σ : zSt) (x1 : Int) : Prop :=
  fX2_signAt_B24 K σ x1 0
def fX2_signAt (K : Int → zSt → Prop) (σ : zSt) (x1 : Int) : Prop :=
  zrg x1 ∧ ((x1 < 0 → fX2_signAt_B23 K σ x1) ∧ (¬ x1 < 0 → zrg (σ 2 5) ∧ ((σ 2 5 ≤ x1 → fX2_signAt_B23 K σ x1) ∧ (¬ σ 2 5 ≤ x1 → ((1400 ≤ x1 → fX2_signAt_B23 K σ x1) ∧ (¬ 1400 ≤ x1 → fX2_signAt_B24 K σ x1 1))))))
set_option maxHeartbeats 4000000 in
set_option maxRecDepth 100000 in
theorem wX2_signAt_B24 {p : Program} {l : Launch} {e : Env} {s : State} {m : MethodId} {args : Array Value} {below : List Frame} {meth : Method} {c : Code} {D : va_G} {dA : Nat → ClassId} {ad : Nat → Nat} {sz : Nat} {aL aG aI : Nat} {aK aV : Nat → Nat} {K : Int → zSt → Prop} (hC : zC p m c cX2_signAt 3 s args (Cond.code yX2_signAt cX2_signAt 3 (some .int) :: UW) RX2 meth D vwCl (tyA dA) (zA ad NX sz) NX ad (celX ad dA)) (hE : zE (zXX aL aG aI aK aV) (zA ad NX sz) s s.heap) (hr : meth.sig.returnType = (some .int)) (hinj : ∀ i j, i < NX → j < NX → ad i = ad j → i = j) {σ : zSt} {x1 : Int} {s0 : Int} (hf : fX2_signAt_B24 K σ x1 s0) : zAt p l e ({ frames := 0, cells := 0, slots := 0, locals := 0 } : Room) s m args below meth c 0 0 (MQ below (va_Qi (zPi K) (zB D vwCl (tyA dA) NX ad (celX ad dA)) (zA ad NX sz)) args s 0 0 (zA ad NX sz)) 3 D vwCl (zA ad NX sz) NX ad (celX ad dA) 24 [(0, vR ad 2), (1, vI x1)] [vI s0] σ := by
  refine z_istore_n hC ([(2, vI s0), (0, vR ad 2), (1, vI x1)]) dX2_signAt_24 rfl (by decide) rfl ?_
  refine z_iload_n hC dX2_signAt_25 0 rfl rfl ?_
  obtain ⟨g3, hf⟩ := hf
  refine z_if_eq (tgt := 42) hC dX2_signAt_26 (by decide) g3 (fun hc => ?_) (fun hc => ?_)
  · replace hf := hf.1 hc
    refine z_iconst hC dX2_signAt_42 ?_
    exact z_iret hC hr rfl dX2_signAt_43 hf
  · replace hf := hf.2 hc
    refine z_aload_n hC dX2_signAt_29 1 rfl rfl ?_
    refine z_get hC (fun w h => uT _ w (uL2 w h)) (oX_2 (show kX 2 = 2 by decide)) 4 (by decide) (uT _ _ u284) rfl rfl dX2_signAt_30 ?_
    refine z_iload_n hC dX2_signAt_33 2 rfl rfl ?_
    obtain ⟨g4, hf⟩ := hf
    refine z_baload hC (aX_13 (show kX 3 = 13 by decide)) g4 dX2_signAt_34 ?_
    refine z_sipush hC dX2_signAt_35 (by decide) ?_
    refine z_iand255 hC dX2_signAt_38 ?_
    refine z_goto (tgt := 43) hC dX2_signAt_39 (by decide) ?_
    exact z_iret hC hr rfl dX2_signAt_43 hf
set_option maxHeartbeats 4000000 in
set_option maxRecDepth 100000 in
theorem wX2_signAt_B23 {p : Program} {l : Launch} {e : Env} {s : State} {m : MethodId} {args : Array Value} {below : List Frame} {meth : Method} {c : Code} {D : va_G} {dA : Nat → ClassId} {ad : Nat → Nat} {sz : Nat} {aL aG aI : Nat} {aK aV : Nat → Nat} {K : Int → zSt → Prop} (hC : zC p m c cX2_signAt 3 s args (Cond.code yX2_signAt cX2_signAt 3 (some .int) :: UW) RX2 meth D vwCl (tyA dA) (zA ad NX sz) NX ad (celX ad dA)) (hE : zE (zXX aL aG aI aK aV) (zA ad NX sz) s s.heap) (hr : meth.sig.returnType = (some .int)) (hinj : ∀ i j, i < NX → j < NX → ad i = ad j → i = j) {σ : zSt} {x1 : Int} (hf : fX2_signAt_B23 K σ x1) : zAt p l e ({ frames := 0, cells := 0, slots := 0, locals := 0 } : Room) s m args below meth c 0 0 (MQ below (va_Qi (zPi K) (zB D vwCl (tyA dA) NX ad (celX ad dA)) (zA ad NX sz)) args s 0 0 (zA ad NX sz)) 3 D vwCl (zA ad NX sz) NX ad (celX ad dA) 23 [(0, vR ad 2), (1, vI x1)] [] σ := by
  refine z_iconst hC dX2_signAt_23 ?_
  exact wX2_signAt_B24 hC hE hr hinj  hf
set_option maxHeartbeats 4000000 in
set_option maxRecDepth 100000 in
theorem mX2_signAt {D : va_G} {dA : Nat → ClassId} {ad : Nat → Nat} {aL aG aI : Nat} {aK aV : Nat → Nat} (l : Launch) (hinj : ∀ i j, i < NX → j < NX → ad i = ad j → i = j) (sz : Nat) {K : Int → zSt → Prop} {σ : zSt} {x1 : Int} (hf : fX2_signAt K σ x1) : Met l yX2_signAt (Cond.code yX2_signAt cX2_signAt 3 (some .int) :: UW) ({ frames := 0, cells := 0, slots := 0, locals := 0 } : Room) (va_Pc [vR ad 2, vI x1] (zPre D vwCl (tyA dA) (zXX aL aG aI aK aV) NX ad (celX ad dA) sz σ)) (va_Qi (zPi K) (zB D vwCl (tyA dA) NX ad (celX ad dA)) (zA ad NX sz)) 0 0 (zA ad NX sz) := by
  refine z_enter (cc := cX2_signAt) (maxL := 3) (ret := (some .int)) (vs := [vR ad 2, vI x1]) (plainFor_of_name (by decide)) rfl hinj (Nat.le_of_ble_eq_true rfl) ?_
  intro p e s m args below meth c hC hE hsz hr hnm
  show zAt p l e ({ frames := 0, cells := 0, slots := 0, locals := 0 } : Room) s m args below meth c 0 0 (MQ below (va_Qi (zPi K) (zB D vwCl (tyA dA) NX ad (celX ad dA)) (zA ad NX sz)) args s 0 0 (zA ad NX sz)) 3 D vwCl (zA ad NX sz) NX ad (celX ad dA) 0 [(0, vR ad 2), (1, vI x1)] [] σ
  refine z_iload_n hC dX2_signAt_0 1 rfl rfl ?_
  obtain ⟨g1, hf⟩ := hf
  refine z_if_lt (tgt := 23) hC dX2_signAt_1 (by decide) g1 (fun hc => ?_) (fun hc => ?_)
  · replace hf := hf.1 hc
    exact wX2_signAt_B23 hC hE hr hinj  hf
  · replace hf := hf.2 hc
    refine z_iload_n hC dX2_signAt_4 1 rfl rfl ?_
    refine z_aload_n hC dX2_signAt_5 0 rfl rfl ?_
    refine z_get hC (fun w h => uT _ w (uL2 w h)) (oX_2 (show kX 2 = 2 by decide)) 5 (by decide) (uT _ _ u285) rfl rfl dX2_signAt_6 ?_
    obtain ⟨g2, hf⟩ := hf
    refine z_icmp_ge (tgt := 23) hC dX2_signAt_9 (by decide) g1 g2 (fun hc => ?_) (fun hc => ?_)
    · replace hf := hf.1 hc
      exact wX2_signAt_B23 hC hE hr hinj  hf
    · replace hf := hf.2 hc
      refine z_iload_n hC dX2_signAt_12 1 rfl rfl ?_
      refine z_sipush hC dX2_signAt_13 (by decide) ?_
      refine z_icmp_ge (tgt := 23) hC dX2_signAt_16 (by decide) g1 (zlit rfl rfl) (fun hc => ?_) (fun hc => ?_)
      · replace hf := hf.1 hc
        exact wX2_signAt_B23 hC hE hr hinj  hf
      · replace hf := hf.2 hc
        refine z_iconst hC dX2_signAt_19 ?_
        refine z_goto (tgt := 24) hC dX2_signAt_20 (by decide) ?_
        exact wX2_signAt_B24 hC hE hr hinj  hf

-- ===== X2_advance
noncomputable def fX2_advance_B93 (K : zSt → Prop) (n : Nat) : zSt → Prop :=
  Nat.rec (motive := fun _ => zSt → Prop) (fun _  => False) (fun _ ih σ  => zrg (σ 2 6) ∧ zrg (σ 2 5) ∧ ((σ 2 5 ≤ σ 2 6 → K σ) ∧ (¬ σ 2 5 ≤ σ 2 6 → fX2_signAt (fun r17 σ17 => fX2_kindOf (fun r18 σ18 => zrg r18 ∧ zrg (σ18 2 1) ∧ ((r18 = σ18 2 1 → ((σ18 2 1 = 2 → fX2_signAt (fun r23 σ23 => zrg (((10 * (σ18 2 3)) + r23) - 48) ∧ ∀ σ25, σ25 = zu σ23 2 3 (min (((10 * (σ18 2 3)) + r23) - 48) 10000) → ∀ σ26, σ26 = zu σ25 2 6 ((σ25 2 6) + 1) → ih σ26 ) σ18 (σ18 2 6)) ∧ (¬ σ18 2 1 = 2 → ∀ σ21, σ21 = zu σ18 2 3 0 → ∀ σ22, σ22 = zu σ21 2 6 ((σ21 2 6) + 1) → ih σ22 ))) ∧ (¬ r18 = σ18 2 1 → K σ18))) σ17 r17) σ (σ 2 6)))) n
theorem uX2_advance_B93 (K : zSt → Prop) (n0 : Nat) (σ : zSt) : fX2_advance_B93 K (n0 + 1) σ  = (zrg (σ 2 6) ∧ zrg (σ 2 5) ∧ ((σ 2 5 ≤ σ 2 6 → K σ) ∧ (¬ σ 2 5 ≤ σ 2 6 → fX2_signAt (fun r17 σ17 => fX2_kindOf (fun r18 σ18 => zrg r18 ∧ zrg (σ18 2 1) ∧ ((r18 = σ18 2 1 → ((σ18 2 1 = 2 → fX2_signAt (fun r23 σ23 => zrg (((10 * (σ18 2 3)) + r23) - 48) ∧ ∀ σ25, σ25 = zu σ23 2 3 (min (((10 * (σ18 2 3)) + r23) - 48) 10000) → ∀ σ26, σ26 = zu σ25 2 6 ((σ25 2 6) + 1) → (fX2_advance_B93 K n0) σ26 ) σ18 (σ18 2 6)) ∧ (¬ σ18 2 1 = 2 → ∀ σ21, σ21 = zu σ18 2 3 0 → ∀ σ22, σ22 = zu σ21 2 6 ((σ21 2 6) + 1) → (fX2_advance_B93 K n0) σ22 ))) ∧ (¬ r18 = σ18 2 1 → K σ18))) σ17 r17) σ (σ 2 6)))) := rfl
def fX2_advance_B38 (K : zSt → Prop) (σ : zSt) : Prop :=
  ∀ σ7, σ7 = zu σ 2 2 (σ 2 6) → ∀ σ8, σ8 = zu σ7 2 3 0 → fX2_signAt (fun r9 σ9 => fX2_kindOf (fun r10 σ10 => ∀ σ11, σ11 = zu σ10 2 1 r10 → zrg (σ11 2 1) ∧ ((σ11 2 1 = 3 → ∀ σ13, σ13 = zu σ11 2 6 ((σ11 2 6) + 1) → K σ13) ∧ (¬ σ11 2 1 = 3 → ((σ11 2 1 = 4 → ∀ σ14, σ14 = zu σ11 2 6 ((σ11 2 6) + 1) → K σ14) ∧ (¬ σ11 2 1 = 4 → (∃ n, fX2_advance_B93 K n σ11 )))))) σ9 r9) σ8 (σ8 2 2)
noncomputable def fX2_advance_B0 (K : zSt → Prop) (n : Nat) : zSt → Prop :=
  Nat.rec (motive := fun _ => zSt → Prop) (fun _  => False) (fun _ ih σ  => zrg (σ 2 6) ∧ zrg (σ 2 5) ∧ ((σ 2 5 ≤ σ 2 6 → fX2_advance_B38 K σ ) ∧ (¬ σ 2 5 ≤ σ 2 6 → fX2_signAt (fun r3 σ3 => fX2_isBlank (fun r4 σ4 => zrg r4 ∧ ((r4 = 0 → fX2_advance_B38 K σ4 ) ∧ (¬ r4 = 0 → ∀ σ6, σ6 = zu σ4 2 6 ((σ4 2 6) + 1) → ih σ6 ))) σ3 r3) σ (σ 2 6)))) n
theorem uX2_advance_B0 (K : zSt → Prop) (n0 : Nat) (σ : zSt) : fX2_advance_B0 K (n0 + 1) σ  = (zrg (σ 2 6) ∧ zrg (σ 2 5) ∧ ((σ 2 5 ≤ σ 2 6 → fX2_advance_B38 K σ ) ∧ (¬ σ 2 5 ≤ σ 2 6 → fX2_signAt (fun r3 σ3 => fX2_isBlank (fun r4 σ4 => zrg r4 ∧ ((r4 = 0 → fX2_advance_B38 K σ4 ) ∧ (¬ r4 = 0 → ∀ σ6, σ6 = zu σ4 2 6 ((σ4 2 6) + 1) → (fX2_advance_B0 K n0) σ6 ))) σ3 r3) σ (σ 2 6)))) := rfl
def fX2_advance (K : zSt → Prop) (σ : zSt) : Prop :=
  (∃ n, fX2_advance_B0 K n σ )
set_option maxHeartbeats 4000000 in
set_option maxRecDepth 100000 in
theorem wX2_advance_B93 {p : Program} {l : Launch} {e : Env} {s : State} {m : MethodId} {args : Array Value} {below : List Frame} {meth : Method} {c : Code} {D : va_G} {dA : Nat → ClassId} {ad : Nat → Nat} {sz : Nat} {aL aG aI : Nat} {aK aV : Nat → Nat} {K : zSt → Prop} (hC : zC p m c cX2_advance 1 s args (Cond.code yX2_advance cX2_advance 1 none :: UW) RX2 meth D vwCl (tyA dA) (zA ad NX sz) NX ad (celX ad dA)) (hE : zE (zXX aL aG aI aK aV) (zA ad NX sz) s s.heap) (hr : meth.sig.returnType = none) (hinj : ∀ i j, i < NX → j < NX → ad i = ad j → i = j) : ∀ (n : Nat) (σ : zSt), fX2_advance_B93 K n σ  → zAt p l e ({ frames := 1, cells := 0, slots := 0, locals := 22 } : Room) s m args below meth c 0 0 (MQ below (va_Qv K (zB D vwCl (tyA dA) NX ad (celX ad dA)) (zA ad NX sz)) args s 0 0 (zA ad NX sz)) 1 D vwCl (zA ad NX sz) NX ad (celX ad dA) 93 [(0, vR ad 2)] [] σ := by
  intro n
  induction n with
  | zero => intro σ   hf; exact False.elim hf
  | succ n ih =>
    intro σ   hf
    rw [uX2_advance_B93] at hf
    refine z_aload_n hC dX2_advance_93 0 rfl rfl ?_
    refine z_get hC (fun w h => uT _ w (uL2 w h)) (oX_2 (show kX 2 = 2 by decide)) 6 (by decide) (uT _ _ u286) rfl rfl dX2_advance_94 ?_
    refine z_aload_n hC dX2_advance_97 0 rfl rfl ?_
    refine z_get hC (fun w h => uT _ w (uL2 w h)) (oX_2 (show kX 2 = 2 by decide)) 5 (by decide) (uT _ _ u285) rfl rfl dX2_advance_98 ?_
    obtain ⟨g15, hf⟩ := hf
    obtain ⟨g16, hf⟩ := hf
    refine z_icmp_ge (tgt := 176) hC dX2_advance_101 (by decide) g15 g16 (fun hc => ?_) (fun hc => ?_)
    · replace hf := hf.1 hc
      exact z_vret hC hr rfl dX2_advance_176 hf
    · replace hf := hf.2 hc
      refine z_aload_n hC dX2_advance_104 0 rfl rfl ?_
      refine z_aload_n hC dX2_advance_105 0 rfl rfl ?_
      refine z_get hC (fun w h => uT _ w (uL2 w h)) (oX_2 (show kX 2 = 2 by decide)) 6 (by decide) (uT _ _ u286) rfl rfl dX2_advance_106 ?_
      refine z_callVi hC hE (oX_2 (show kX 2 = 2 by decide)) [vI (σ 2 6)] (fun sz2 => mX2_signAt l hinj sz2 hf) (cwV 1 hC.1.2.2.2.2 (uV (uT _) u523 u525 u0 u112 u526) rfl rfl rfl (by decide +kernel) ⟨Nat.le_of_ble_eq_true rfl, Nat.le_of_ble_eq_true rfl⟩) rfl rfl (Nat.le_of_ble_eq_true rfl) ⟨Nat.le_of_ble_eq_true rfl, Nat.le_of_ble_eq_true rfl⟩ dX2_advance_109 (fun r17 σ17 hf => ?_)
      refine z_callSi hC hE [vI r17] (fun sz2 => mX2_kindOf l hinj sz2 hf) (va_cwS 1 hC.1.2.2.2.2 (uS (uT _) u530 u531 u112 u532) rfl rfl rfl (by decide +kernel) ⟨Nat.le_of_ble_eq_true rfl, Nat.le_of_ble_eq_true rfl⟩) rfl rfl (Nat.le_of_ble_eq_true rfl) ⟨Nat.le_of_ble_eq_true rfl, Nat.le_of_ble_eq_true rfl⟩ dX2_advance_112 (fun r18 σ18 hf => ?_)
      refine z_aload_n hC dX2_advance_115 0 rfl rfl ?_
      refine z_get hC (fun w h => uT _ w (uL2 w h)) (oX_2 (show kX 2 = 2 by decide)) 1 (by decide) (uT _ _ u278) rfl rfl dX2_advance_116 ?_
      obtain ⟨g19, hf⟩ := hf
      obtain ⟨g20, hf⟩ := hf
      refine z_icmp_ne (tgt := 176) hC dX2_advance_119 (by decide) g19 g20 (fun hc => ?_) (fun hc => ?_)
      · replace hf := hf.2 hc
        exact z_vret hC hr rfl dX2_advance_176 hf
      · replace hf := hf.1 hc
        refine z_aload_n hC dX2_advance_122 0 rfl rfl ?_
        refine z_aload_n hC dX2_advance_123 0 rfl rfl ?_
        refine z_get hC (fun w h => uT _ w (uL2 w h)) (oX_2 (show kX 2 = 2 by decide)) 1 (by decide) (uT _ _ u278) rfl rfl dX2_advance_124 ?_
        refine z_iconst hC dX2_advance_127 ?_
        refine z_icmp_ne (tgt := 159) hC dX2_advance_128 (by decide) g20 (zlit rfl rfl) (fun hc => ?_) (fun hc => ?_)
        · replace hf := hf.2 hc
          refine z_iconst hC dX2_advance_159 ?_
          refine z_put hC (ty := .int) tyX2 tyX2_ok nmX2 (fun w h => uT _ w (uL2 w h)) (oX_2 (show kX 2 = 2 by decide)) (loX' (show kX 2 = 2 by decide) (by decide)) 3 (by decide) (uT _ _ u282) rfl rfl (3) (0) (by simp [zu]) (by decide +kernel) rfl rfl (Nat.le_of_ble_eq_true rfl) dX2_advance_160 ?_
          obtain ⟨σ21, eσ21⟩ : ∃ z : zSt, z = zu σ18 2 3 0 := ⟨_, rfl⟩
          rw [← eσ21]
          replace hf := hf σ21 eσ21
          refine z_aload_n hC dX2_advance_163 0 rfl rfl ?_
          refine z_dup hC dX2_advance_164 rfl ?_
          refine z_get hC (fun w h => uT _ w (uL2 w h)) (oX_2 (show kX 2 = 2 by decide)) 6 (by decide) (uT _ _ u286) rfl rfl dX2_advance_165 ?_
          refine z_iconst hC dX2_advance_168 ?_
          refine z_iadd hC dX2_advance_169 ?_
          refine z_put hC (ty := .int) tyX2 tyX2_ok nmX2 (fun w h => uT _ w (uL2 w h)) (oX_2 (show kX 2 = 2 by decide)) (loX' (show kX 2 = 2 by decide) (by decide)) 6 (by decide) (uT _ _ u286) rfl rfl (6) ((σ21 2 6) + 1) (by simp [zu]) (by decide +kernel) rfl rfl (Nat.le_of_ble_eq_true rfl) dX2_advance_170 ?_
          obtain ⟨σ22, eσ22⟩ : ∃ z : zSt, z = zu σ21 2 6 ((σ21 2 6) + 1) := ⟨_, rfl⟩
          rw [← eσ22]
          replace hf := hf σ22 eσ22
          refine z_goto (tgt := 93) hC dX2_advance_173 (by decide) ?_
          exact ih _ hf
        · replace hf := hf.1 hc
          refine z_bipush hC dX2_advance_131 (by decide) ?_
          refine z_aload_n hC dX2_advance_133 0 rfl rfl ?_
          refine z_get hC (fun w h => uT _ w (uL2 w h)) (oX_2 (show kX 2 = 2 by decide)) 3 (by decide) (uT _ _ u282) rfl rfl dX2_advance_134 ?_
          refine z_imul hC dX2_advance_137 ?_
          refine z_aload_n hC dX2_advance_138 0 rfl rfl ?_
          refine z_aload_n hC dX2_advance_139 0 rfl rfl ?_
          refine z_get hC (fun w h => uT _ w (uL2 w h)) (oX_2 (show kX 2 = 2 by decide)) 6 (by decide) (uT _ _ u286) rfl rfl dX2_advance_140 ?_
          refine z_callVi hC hE (oX_2 (show kX 2 = 2 by decide)) [vI (σ18 2 6)] (fun sz2 => mX2_signAt l hinj sz2 hf) (cwV 1 hC.1.2.2.2.2 (uV (uT _) u523 u525 u0 u112 u526) rfl rfl rfl (by decide +kernel) ⟨Nat.le_of_ble_eq_true rfl, Nat.le_of_ble_eq_true rfl⟩) rfl rfl (Nat.le_of_ble_eq_true rfl) ⟨Nat.le_of_ble_eq_true rfl, Nat.le_of_ble_eq_true rfl⟩ dX2_advance_143 (fun r23 σ23 hf => ?_)
          refine z_iadd hC dX2_advance_146 ?_
          refine z_bipush hC dX2_advance_147 (by decide) ?_
          refine z_isub hC dX2_advance_149 ?_
          refine z_sipush hC dX2_advance_150 (by decide) ?_
          obtain ⟨g24, hf⟩ := hf
          refine z_mmin hC g24 (zlit rfl rfl) (fun w h => uT _ w (uC u533 (uC u153 (uC u108 (uC u154 uN))) w h)) (Nat.le_of_ble_eq_true rfl) (Nat.le_of_ble_eq_true rfl) ⟨Nat.le_of_ble_eq_true rfl, Nat.le_of_ble_eq_true rfl⟩ dX2_advance_153 ?_
          refine z_goto (tgt := 160) hC dX2_advance_156 (by decide) ?_
          refine z_put hC (ty := .int) tyX2 tyX2_ok nmX2 (fun w h => uT _ w (uL2 w h)) (oX_2 (show kX 2 = 2 by decide)) (loX' (show kX 2 = 2 by decide) (by decide)) 3 (by decide) (uT _ _ u282) rfl rfl (3) (min (((10 * (σ18 2 3)) + r23) - 48) 10000) (by simp [zu]) (by decide +kernel) rfl rfl (Nat.le_of_ble_eq_true rfl) dX2_advance_160 ?_
          obtain ⟨σ25, eσ25⟩ : ∃ z : zSt, z = zu σ23 2 3 (min (((10 * (σ18 2 3)) + r23) - 48) 10000) := ⟨_, rfl⟩
          rw [← eσ25]
          replace hf := hf σ25 eσ25
          refine z_aload_n hC dX2_advance_163 0 rfl rfl ?_
          refine z_dup hC dX2_advance_164 rfl ?_
          refine z_get hC (fun w h => uT _ w (uL2 w h)) (oX_2 (show kX 2 = 2 by decide)) 6 (by decide) (uT _ _ u286) rfl rfl dX2_advance_165 ?_
          refine z_iconst hC dX2_advance_168 ?_
          refine z_iadd hC dX2_advance_169 ?_
          refine z_put hC (ty := .int) tyX2 tyX2_ok nmX2 (fun w h => uT _ w (uL2 w h)) (oX_2 (show kX 2 = 2 by decide)) (loX' (show kX 2 = 2 by decide) (by decide)) 6 (by decide) (uT _ _ u286) rfl rfl (6) ((σ25 2 6) + 1) (by simp [zu]) (by decide +kernel) rfl rfl (Nat.le_of_ble_eq_true rfl) dX2_advance_170 ?_
          obtain ⟨σ26, eσ26⟩ : ∃ z : zSt, z = zu σ25 2 6 ((σ25 2 6) + 1) := ⟨_, rfl⟩
          rw [← eσ26]
          replace hf := hf σ26 eσ26
          refine z_goto (tgt := 93) hC dX2_advance_173 (by decide) ?_
          exact ih _ hf
set_option maxHeartbeats 4000000 in
set_option maxRecDepth 100000 in
theorem wX2_advance_B38 {p : Program} {l : Launch} {e : Env} {s : State} {m : MethodId} {args : Array Value} {below : List Frame} {meth : Method} {c : Code} {D : va_G} {dA : Nat → ClassId} {ad : Nat → Nat} {sz : Nat} {aL aG aI : Nat} {aK aV : Nat → Nat} {K : zSt → Prop} (hC : zC p m c cX2_advance 1 s args (Cond.code yX2_advance cX2_advance 1 none :: UW) RX2 meth D vwCl (tyA dA) (zA ad NX sz) NX ad (celX ad dA)) (hE : zE (zXX aL aG aI aK aV) (zA ad NX sz) s s.heap) (hr : meth.sig.returnType = none) (hinj : ∀ i j, i < NX → j < NX → ad i = ad j → i = j) {σ : zSt} (hf : fX2_advance_B38 K σ ) : zAt p l e ({ frames := 1, cells := 0, slots := 0, locals := 22 } : Room) s m args below meth c 0 0 (MQ below (va_Qv K (zB D vwCl (tyA dA) NX ad (celX ad dA)) (zA ad NX sz)) args s 0 0 (zA ad NX sz)) 1 D vwCl (zA ad NX sz) NX ad (celX ad dA) 38 [(0, vR ad 2)] [] σ := by
  refine z_aload_n hC dX2_advance_38 0 rfl rfl ?_
  refine z_aload_n hC dX2_advance_39 0 rfl rfl ?_
  refine z_get hC (fun w h => uT _ w (uL2 w h)) (oX_2 (show kX 2 = 2 by decide)) 6 (by decide) (uT _ _ u286) rfl rfl dX2_advance_40 ?_
  refine z_put hC (ty := .int) tyX2 tyX2_ok nmX2 (fun w h => uT _ w (uL2 w h)) (oX_2 (show kX 2 = 2 by decide)) (loX' (show kX 2 = 2 by decide) (by decide)) 2 (by decide) (uT _ _ u280) rfl rfl (2) (σ 2 6) (by simp [zu]) (by decide +kernel) rfl rfl (Nat.le_of_ble_eq_true rfl) dX2_advance_43 ?_
  obtain ⟨σ7, eσ7⟩ : ∃ z : zSt, z = zu σ 2 2 (σ 2 6) := ⟨_, rfl⟩
  rw [← eσ7]
  replace hf := hf σ7 eσ7
  refine z_aload_n hC dX2_advance_46 0 rfl rfl ?_
  refine z_iconst hC dX2_advance_47 ?_
  refine z_put hC (ty := .int) tyX2 tyX2_ok nmX2 (fun w h => uT _ w (uL2 w h)) (oX_2 (show kX 2 = 2 by decide)) (loX' (show kX 2 = 2 by decide) (by decide)) 3 (by decide) (uT _ _ u282) rfl rfl (3) (0) (by simp [zu]) (by decide +kernel) rfl rfl (Nat.le_of_ble_eq_true rfl) dX2_advance_48 ?_
  obtain ⟨σ8, eσ8⟩ : ∃ z : zSt, z = zu σ7 2 3 0 := ⟨_, rfl⟩
  rw [← eσ8]
  replace hf := hf σ8 eσ8
  refine z_aload_n hC dX2_advance_51 0 rfl rfl ?_
  refine z_aload_n hC dX2_advance_52 0 rfl rfl ?_
  refine z_aload_n hC dX2_advance_53 0 rfl rfl ?_
  refine z_get hC (fun w h => uT _ w (uL2 w h)) (oX_2 (show kX 2 = 2 by decide)) 2 (by decide) (uT _ _ u280) rfl rfl dX2_advance_54 ?_
  refine z_callVi hC hE (oX_2 (show kX 2 = 2 by decide)) [vI (σ8 2 2)] (fun sz2 => mX2_signAt l hinj sz2 hf) (cwV 1 hC.1.2.2.2.2 (uV (uT _) u523 u525 u0 u112 u526) rfl rfl rfl (by decide +kernel) ⟨Nat.le_of_ble_eq_true rfl, Nat.le_of_ble_eq_true rfl⟩) rfl rfl (Nat.le_of_ble_eq_true rfl) ⟨Nat.le_of_ble_eq_true rfl, Nat.le_of_ble_eq_true rfl⟩ dX2_advance_57 (fun r9 σ9 hf => ?_)
  refine z_callSi hC hE [vI r9] (fun sz2 => mX2_kindOf l hinj sz2 hf) (va_cwS 1 hC.1.2.2.2.2 (uS (uT _) u530 u531 u112 u532) rfl rfl rfl (by decide +kernel) ⟨Nat.le_of_ble_eq_true rfl, Nat.le_of_ble_eq_true rfl⟩) rfl rfl (Nat.le_of_ble_eq_true rfl) ⟨Nat.le_of_ble_eq_true rfl, Nat.le_of_ble_eq_true rfl⟩ dX2_advance_60 (fun r10 σ10 hf => ?_)
  refine z_put hC (ty := .int) tyX2 tyX2_ok nmX2 (fun w h => uT _ w (uL2 w h)) (oX_2 (show kX 2 = 2 by decide)) (loX' (show kX 2 = 2 by decide) (by decide)) 1 (by decide) (uT _ _ u278) rfl rfl (1) (r10) (by simp [zu]) (by decide +kernel) rfl rfl (Nat.le_of_ble_eq_true rfl) dX2_advance_63 ?_
  obtain ⟨σ11, eσ11⟩ : ∃ z : zSt, z = zu σ10 2 1 r10 := ⟨_, rfl⟩
  rw [← eσ11]
  replace hf := hf σ11 eσ11
  refine z_aload_n hC dX2_advance_66 0 rfl rfl ?_
  refine z_get hC (fun w h => uT _ w (uL2 w h)) (oX_2 (show kX 2 = 2 by decide)) 1 (by decide) (uT _ _ u278) rfl rfl dX2_advance_67 ?_
  refine z_iconst hC dX2_advance_70 ?_
  obtain ⟨g12, hf⟩ := hf
  refine z_icmp_eq (tgt := 82) hC dX2_advance_71 (by decide) g12 (zlit rfl rfl) (fun hc => ?_) (fun hc => ?_)
  · replace hf := hf.1 hc
    refine z_aload_n hC dX2_advance_82 0 rfl rfl ?_
    refine z_dup hC dX2_advance_83 rfl ?_
    refine z_get hC (fun w h => uT _ w (uL2 w h)) (oX_2 (show kX 2 = 2 by decide)) 6 (by decide) (uT _ _ u286) rfl rfl dX2_advance_84 ?_
    refine z_iconst hC dX2_advance_87 ?_
    refine z_iadd hC dX2_advance_88 ?_
    refine z_put hC (ty := .int) tyX2 tyX2_ok nmX2 (fun w h => uT _ w (uL2 w h)) (oX_2 (show kX 2 = 2 by decide)) (loX' (show kX 2 = 2 by decide) (by decide)) 6 (by decide) (uT _ _ u286) rfl rfl (6) ((σ11 2 6) + 1) (by simp [zu]) (by decide +kernel) rfl rfl (Nat.le_of_ble_eq_true rfl) dX2_advance_89 ?_
    obtain ⟨σ13, eσ13⟩ : ∃ z : zSt, z = zu σ11 2 6 ((σ11 2 6) + 1) := ⟨_, rfl⟩
    rw [← eσ13]
    replace hf := hf σ13 eσ13
    exact z_vret hC hr rfl dX2_advance_92 hf
  · replace hf := hf.2 hc
    refine z_aload_n hC dX2_advance_74 0 rfl rfl ?_
    refine z_get hC (fun w h => uT _ w (uL2 w h)) (oX_2 (show kX 2 = 2 by decide)) 1 (by decide) (uT _ _ u278) rfl rfl dX2_advance_75 ?_
    refine z_iconst hC dX2_advance_78 ?_
    refine z_icmp_ne (tgt := 93) hC dX2_advance_79 (by decide) g12 (zlit rfl rfl) (fun hc => ?_) (fun hc => ?_)
    · replace hf := hf.2 hc
      obtain ⟨n, hf⟩ := hf
      exact wX2_advance_B93 hC hE hr hinj n _ hf
    · replace hf := hf.1 hc
      refine z_aload_n hC dX2_advance_82 0 rfl rfl ?_
      refine z_dup hC dX2_advance_83 rfl ?_
      refine z_get hC (fun w h => uT _ w (uL2 w h)) (oX_2 (show kX 2 = 2 by decide)) 6 (by decide) (uT _ _ u286) rfl rfl dX2_advance_84 ?_
      refine z_iconst hC dX2_advance_87 ?_
      refine z_iadd hC dX2_advance_88 ?_
      refine z_put hC (ty := .int) tyX2 tyX2_ok nmX2 (fun w h => uT _ w (uL2 w h)) (oX_2 (show kX 2 = 2 by decide)) (loX' (show kX 2 = 2 by decide) (by decide)) 6 (by decide) (uT _ _ u286) rfl rfl (6) ((σ11 2 6) + 1) (by simp [zu]) (by decide +kernel) rfl rfl (Nat.le_of_ble_eq_true rfl) dX2_advance_89 ?_
      obtain ⟨σ14, eσ14⟩ : ∃ z : zSt, z = zu σ11 2 6 ((σ11 2 6) + 1) := ⟨_, rfl⟩
      rw [← eσ14]
      replace hf := hf σ14 eσ14
      exact z_vret hC hr rfl dX2_advance_92 hf
set_option maxHeartbeats 4000000 in
set_option maxRecDepth 100000 in
theorem wX2_advance_B0 {p : Program} {l : Launch} {e : Env} {s : State} {m : MethodId} {args : Array Value} {below : List Frame} {meth : Method} {c : Code} {D : va_G} {dA : Nat → ClassId} {ad : Nat → Nat} {sz : Nat} {aL aG aI : Nat} {aK aV : Nat → Nat} {K : zSt → Prop} (hC : zC p m c cX2_advance 1 s args (Cond.code yX2_advance cX2_advance 1 none :: UW) RX2 meth D vwCl (tyA dA) (zA ad NX sz) NX ad (celX ad dA)) (hE : zE (zXX aL aG aI aK aV) (zA ad NX sz) s s.heap) (hr : meth.sig.returnType = none) (hinj : ∀ i j, i < NX → j < NX → ad i = ad j → i = j) : ∀ (n : Nat) (σ : zSt), fX2_advance_B0 K n σ  → zAt p l e ({ frames := 1, cells := 0, slots := 0, locals := 22 } : Room) s m args below meth c 0 0 (MQ below (va_Qv K (zB D vwCl (tyA dA) NX ad (celX ad dA)) (zA ad NX sz)) args s 0 0 (zA ad NX sz)) 1 D vwCl (zA ad NX sz) NX ad (celX ad dA) 0 [(0, vR ad 2)] [] σ := by
  intro n
  induction n with
  | zero => intro σ   hf; exact False.elim hf
  | succ n ih =>
    intro σ   hf
    rw [uX2_advance_B0] at hf
    refine z_aload_n hC dX2_advance_0 0 rfl rfl ?_
    refine z_get hC (fun w h => uT _ w (uL2 w h)) (oX_2 (show kX 2 = 2 by decide)) 6 (by decide) (uT _ _ u286) rfl rfl dX2_advance_1 ?_
    refine z_aload_n hC dX2_advance_4 0 rfl rfl ?_
    refine z_get hC (fun w h => uT _ w (uL2 w h)) (oX_2 (show kX 2 = 2 by decide)) 5 (by decide) (uT _ _ u285) rfl rfl dX2_advance_5 ?_
    obtain ⟨g1, hf⟩ := hf
    obtain ⟨g2, hf⟩ := hf
    refine z_icmp_ge (tgt := 38) hC dX2_advance_8 (by decide) g1 g2 (fun hc => ?_) (fun hc => ?_)
    · replace hf := hf.1 hc
      exact wX2_advance_B38 hC hE hr hinj  hf
    · replace hf := hf.2 hc
      refine z_aload_n hC dX2_advance_11 0 rfl rfl ?_
      refine z_aload_n hC dX2_advance_12 0 rfl rfl ?_
      refine z_get hC (fun w h => uT _ w (uL2 w h)) (oX_2 (show kX 2 = 2 by decide)) 6 (by decide) (uT _ _ u286) rfl rfl dX2_advance_13 ?_
      refine z_callVi hC hE (oX_2 (show kX 2 = 2 by decide)) [vI (σ 2 6)] (fun sz2 => mX2_signAt l hinj sz2 hf) (cwV 1 hC.1.2.2.2.2 (uV (uT _) u523 u525 u0 u112 u526) rfl rfl rfl (by decide +kernel) ⟨Nat.le_of_ble_eq_true rfl, Nat.le_of_ble_eq_true rfl⟩) rfl rfl (Nat.le_of_ble_eq_true rfl) ⟨Nat.le_of_ble_eq_true rfl, Nat.le_of_ble_eq_true rfl⟩ dX2_advance_16 (fun r3 σ3 hf => ?_)
      refine z_callSi hC hE [vI r3] (fun sz2 => mX2_isBlank l hinj sz2 hf) (va_cwS 1 hC.1.2.2.2.2 (uS (uT _) u527 u528 u112 u529) rfl rfl rfl (by decide +kernel) ⟨Nat.le_of_ble_eq_true rfl, Nat.le_of_ble_eq_true rfl⟩) rfl rfl (Nat.le_of_ble_eq_true rfl) ⟨Nat.le_of_ble_eq_true rfl, Nat.le_of_ble_eq_true rfl⟩ dX2_advance_19 (fun r4 σ4 hf => ?_)
      obtain ⟨g5, hf⟩ := hf
      refine z_if_eq (tgt := 38) hC dX2_advance_22 (by decide) g5 (fun hc => ?_) (fun hc => ?_)
      · replace hf := hf.1 hc
        exact wX2_advance_B38 hC hE hr hinj  hf
      · replace hf := hf.2 hc
        refine z_aload_n hC dX2_advance_25 0 rfl rfl ?_
        refine z_dup hC dX2_advance_26 rfl ?_
        refine z_get hC (fun w h => uT _ w (uL2 w h)) (oX_2 (show kX 2 = 2 by decide)) 6 (by decide) (uT _ _ u286) rfl rfl dX2_advance_27 ?_
        refine z_iconst hC dX2_advance_30 ?_
        refine z_iadd hC dX2_advance_31 ?_
        refine z_put hC (ty := .int) tyX2 tyX2_ok nmX2 (fun w h => uT _ w (uL2 w h)) (oX_2 (show kX 2 = 2 by decide)) (loX' (show kX 2 = 2 by decide) (by decide)) 6 (by decide) (uT _ _ u286) rfl rfl (6) ((σ4 2 6) + 1) (by simp [zu]) (by decide +kernel) rfl rfl (Nat.le_of_ble_eq_true rfl) dX2_advance_32 ?_
        obtain ⟨σ6, eσ6⟩ : ∃ z : zSt, z = zu σ4 2 6 ((σ4 2 6) + 1) := ⟨_, rfl⟩
        rw [← eσ6]
        replace hf := hf σ6 eσ6
        refine z_goto (tgt := 0) hC dX2_advance_35 (by decide) ?_
        exact ih _ hf
set_option maxHeartbeats 4000000 in
set_option maxRecDepth 100000 in
theorem mX2_advance {D : va_G} {dA : Nat → ClassId} {ad : Nat → Nat} {aL aG aI : Nat} {aK aV : Nat → Nat} (l : Launch) (hinj : ∀ i j, i < NX → j < NX → ad i = ad j → i = j) (sz : Nat) {K : zSt → Prop} {σ : zSt} (hf : fX2_advance K σ ) : Met l yX2_advance (Cond.code yX2_advance cX2_advance 1 none :: UW) ({ frames := 1, cells := 0, slots := 0, locals := 22 } : Room) (va_Pc [vR ad 2] (zPre D vwCl (tyA dA) (zXX aL aG aI aK aV) NX ad (celX ad dA) sz σ)) (va_Qv K (zB D vwCl (tyA dA) NX ad (celX ad dA)) (zA ad NX sz)) 0 0 (zA ad NX sz) := by
  refine z_enter (cc := cX2_advance) (maxL := 1) (ret := none) (vs := [vR ad 2]) (plainFor_of_name (by decide)) rfl hinj (Nat.le_of_ble_eq_true rfl) ?_
  intro p e s m args below meth c hC hE hsz hr hnm
  show zAt p l e ({ frames := 1, cells := 0, slots := 0, locals := 22 } : Room) s m args below meth c 0 0 (MQ below (va_Qv K (zB D vwCl (tyA dA) NX ad (celX ad dA)) (zA ad NX sz)) args s 0 0 (zA ad NX sz)) 1 D vwCl (zA ad NX sz) NX ad (celX ad dA) 0 [(0, vR ad 2)] [] σ
  obtain ⟨n, hf⟩ := hf
  exact wX2_advance_B0 hC hE hr hinj n _ hf

-- ===== X2_begin
def fX2_begin (K : zSt → Prop) (σ : zSt) (x1 : Int) : Prop :=
  ∀ σ1, σ1 = zu σ 2 5 x1 → ∀ σ2, σ2 = zu σ1 2 6 0 → fX2_advance (fun σ3 => K σ3) σ2 
set_option maxHeartbeats 4000000 in
set_option maxRecDepth 100000 in
theorem mX2_begin {D : va_G} {dA : Nat → ClassId} {ad : Nat → Nat} {aL aG aI : Nat} {aK aV : Nat → Nat} (l : Launch) (hinj : ∀ i j, i < NX → j < NX → ad i = ad j → i = j) (sz : Nat) {K : zSt → Prop} {σ : zSt} {x1 : Int} (hf : fX2_begin K σ x1) : Met l yX2_begin (Cond.code yX2_begin cX2_begin 2 none :: UW) ({ frames := 2, cells := 0, slots := 0, locals := 42 } : Room) (va_Pc [vR ad 2, vI x1] (zPre D vwCl (tyA dA) (zXX aL aG aI aK aV) NX ad (celX ad dA) sz σ)) (va_Qv K (zB D vwCl (tyA dA) NX ad (celX ad dA)) (zA ad NX sz)) 0 0 (zA ad NX sz) := by
  refine z_enter (cc := cX2_begin) (maxL := 2) (ret := none) (vs := [vR ad 2, vI x1]) (plainFor_of_name (by decide)) rfl hinj (Nat.le_of_ble_eq_true rfl) ?_
  intro p e s m args below meth c hC hE hsz hr hnm
  show zAt p l e ({ frames := 2, cells := 0, slots := 0, locals := 42 } : Room) s m args below meth c 0 0 (MQ below (va_Qv K (zB D vwCl (tyA dA) NX ad (celX ad dA)) (zA ad NX sz)) args s 0 0 (zA ad NX sz)) 2 D vwCl (zA ad NX sz) NX ad (celX ad dA) 0 [(0, vR ad 2), (1, vI x1)] [] σ
  refine z_aload_n hC dX2_begin_0 0 rfl rfl ?_
  refine z_iload_n hC dX2_begin_1 1 rfl rfl ?_
  refine z_put hC (ty := .int) tyX2 tyX2_ok nmX2 (fun w h => uT _ w (uL2 w h)) (oX_2 (show kX 2 = 2 by decide)) (loX' (show kX 2 = 2 by decide) (by decide)) 5 (by decide) (uT _ _ u285) rfl rfl (5) (x1) (by simp [zu]) (by decide +kernel) rfl rfl (Nat.le_of_ble_eq_true rfl) dX2_begin_2 ?_
  obtain ⟨σ1, eσ1⟩ : ∃ z : zSt, z = zu σ 2 5 x1 := ⟨_, rfl⟩
  rw [← eσ1]
  replace hf := hf σ1 eσ1
  refine z_aload_n hC dX2_begin_5 0 rfl rfl ?_
  refine z_iconst hC dX2_begin_6 ?_
  refine z_put hC (ty := .int) tyX2 tyX2_ok nmX2 (fun w h => uT _ w (uL2 w h)) (oX_2 (show kX 2 = 2 by decide)) (loX' (show kX 2 = 2 by decide) (by decide)) 6 (by decide) (uT _ _ u286) rfl rfl (6) (0) (by simp [zu]) (by decide +kernel) rfl rfl (Nat.le_of_ble_eq_true rfl) dX2_begin_7 ?_
  obtain ⟨σ2, eσ2⟩ : ∃ z : zSt, z = zu σ1 2 6 0 := ⟨_, rfl⟩
  rw [← eσ2]
  replace hf := hf σ2 eσ2
  refine z_aload_n hC dX2_begin_10 0 rfl rfl ?_
  refine z_callVv hC hE (oX_2 (show kX 2 = 2 by decide)) [] (fun sz2 => mX2_advance l hinj sz2 hf) (cwV 0 hC.1.2.2.2.2 (uV (uT _) u519 u520 u521 u112 u522) rfl rfl rfl (by decide +kernel) ⟨Nat.le_of_ble_eq_true rfl, Nat.le_of_ble_eq_true rfl⟩) rfl rfl (Nat.le_of_ble_eq_true rfl) ⟨Nat.le_of_ble_eq_true rfl, Nat.le_of_ble_eq_true rfl⟩ dX2_begin_11 (fun σ3 hf => ?_)
  exact z_vret hC hr rfl dX2_begin_14 hf

-- ===== X2_tokenLength
def fX2_tokenLength (K : Int → zSt → Prop) (σ : zSt) : Prop :=
  K ((σ 2 6) - (σ 2 2)) σ
set_option maxHeartbeats 4000000 in
set_option maxRecDepth 100000 in
theorem mX2_tokenLength {D : va_G} {dA : Nat → ClassId} {ad : Nat → Nat} {aL aG aI : Nat} {aK aV : Nat → Nat} (l : Launch) (hinj : ∀ i j, i < NX → j < NX → ad i = ad j → i = j) (sz : Nat) {K : Int → zSt → Prop} {σ : zSt} (hf : fX2_tokenLength K σ ) : Met l yX2_tokenLength (Cond.code yX2_tokenLength cX2_tokenLength 1 (some .int) :: UW) ({ frames := 0, cells := 0, slots := 0, locals := 0 } : Room) (va_Pc [vR ad 2] (zPre D vwCl (tyA dA) (zXX aL aG aI aK aV) NX ad (celX ad dA) sz σ)) (va_Qi (zPi K) (zB D vwCl (tyA dA) NX ad (celX ad dA)) (zA ad NX sz)) 0 0 (zA ad NX sz) := by
  refine z_enter (cc := cX2_tokenLength) (maxL := 1) (ret := (some .int)) (vs := [vR ad 2]) (plainFor_of_name (by decide)) rfl hinj (Nat.le_of_ble_eq_true rfl) ?_
  intro p e s m args below meth c hC hE hsz hr hnm
  show zAt p l e ({ frames := 0, cells := 0, slots := 0, locals := 0 } : Room) s m args below meth c 0 0 (MQ below (va_Qi (zPi K) (zB D vwCl (tyA dA) NX ad (celX ad dA)) (zA ad NX sz)) args s 0 0 (zA ad NX sz)) 1 D vwCl (zA ad NX sz) NX ad (celX ad dA) 0 [(0, vR ad 2)] [] σ
  refine z_aload_n hC dX2_tokenLength_0 0 rfl rfl ?_
  refine z_get hC (fun w h => uT _ w (uL2 w h)) (oX_2 (show kX 2 = 2 by decide)) 6 (by decide) (uT _ _ u286) rfl rfl dX2_tokenLength_1 ?_
  refine z_aload_n hC dX2_tokenLength_4 0 rfl rfl ?_
  refine z_get hC (fun w h => uT _ w (uL2 w h)) (oX_2 (show kX 2 = 2 by decide)) 2 (by decide) (uT _ _ u280) rfl rfl dX2_tokenLength_5 ?_
  refine z_isub hC dX2_tokenLength_8 ?_
  exact z_iret hC hr rfl dX2_tokenLength_9 hf

-- ===== X2_digit
def fX2_digit (K : Int → zSt → Prop) (σ : zSt) (x1 : Int) : Prop :=
  fX2_signAt (fun r1 σ1 => K (r1 - 48) σ1) σ ((σ 2 2) + x1)
set_option maxHeartbeats 4000000 in
set_option maxRecDepth 100000 in
theorem mX2_digit {D : va_G} {dA : Nat → ClassId} {ad : Nat → Nat} {aL aG aI : Nat} {aK aV : Nat → Nat} (l : Launch) (hinj : ∀ i j, i < NX → j < NX → ad i = ad j → i = j) (sz : Nat) {K : Int → zSt → Prop} {σ : zSt} {x1 : Int} (hf : fX2_digit K σ x1) : Met l yX2_digit (Cond.code yX2_digit cX2_digit 2 (some .int) :: UW) ({ frames := 1, cells := 0, slots := 0, locals := 22 } : Room) (va_Pc [vR ad 2, vI x1] (zPre D vwCl (tyA dA) (zXX aL aG aI aK aV) NX ad (celX ad dA) sz σ)) (va_Qi (zPi K) (zB D vwCl (tyA dA) NX ad (celX ad dA)) (zA ad NX sz)) 0 0 (zA ad NX sz) := by
  refine z_enter (cc := cX2_digit) (maxL := 2) (ret := (some .int)) (vs := [vR ad 2, vI x1]) (plainFor_of_name (by decide)) rfl hinj (Nat.le_of_ble_eq_true rfl) ?_
  intro p e s m args below meth c hC hE hsz hr hnm
  show zAt p l e ({ frames := 1, cells := 0, slots := 0, locals := 22 } : Room) s m args below meth c 0 0 (MQ below (va_Qi (zPi K) (zB D vwCl (tyA dA) NX ad (celX ad dA)) (zA ad NX sz)) args s 0 0 (zA ad NX sz)) 2 D vwCl (zA ad NX sz) NX ad (celX ad dA) 0 [(0, vR ad 2), (1, vI x1)] [] σ
  refine z_aload_n hC dX2_digit_0 0 rfl rfl ?_
  refine z_aload_n hC dX2_digit_1 0 rfl rfl ?_
  refine z_get hC (fun w h => uT _ w (uL2 w h)) (oX_2 (show kX 2 = 2 by decide)) 2 (by decide) (uT _ _ u280) rfl rfl dX2_digit_2 ?_
  refine z_iload_n hC dX2_digit_5 1 rfl rfl ?_
  refine z_iadd hC dX2_digit_6 ?_
  refine z_callVi hC hE (oX_2 (show kX 2 = 2 by decide)) [vI ((σ 2 2) + x1)] (fun sz2 => mX2_signAt l hinj sz2 hf) (cwV 1 hC.1.2.2.2.2 (uV (uT _) u523 u525 u0 u112 u526) rfl rfl rfl (by decide +kernel) ⟨Nat.le_of_ble_eq_true rfl, Nat.le_of_ble_eq_true rfl⟩) rfl rfl (Nat.le_of_ble_eq_true rfl) ⟨Nat.le_of_ble_eq_true rfl, Nat.le_of_ble_eq_true rfl⟩ dX2_digit_7 (fun r1 σ1 hf => ?_)
  refine z_bipush hC dX2_digit_10 (by decide) ?_
  refine z_isub hC dX2_digit_12 ?_
  exact z_iret hC hr rfl dX2_digit_13 hf

-- ===== X3_clear
def fX3_clear (K : zSt → Prop) (σ : zSt) : Prop :=
  ∀ σ1, σ1 = zu σ 5 0 0 → K σ1
set_option maxHeartbeats 4000000 in
set_option maxRecDepth 100000 in
theorem mX3_clear {D : va_G} {dA : Nat → ClassId} {ad : Nat → Nat} {aL aG aI : Nat} {aK aV : Nat → Nat} (l : Launch) (hinj : ∀ i j, i < NX → j < NX → ad i = ad j → i = j) (sz : Nat) {K : zSt → Prop} {σ : zSt} (hf : fX3_clear K σ ) : Met l yX3_clear (Cond.code yX3_clear cX3_clear 1 none :: UW) ({ frames := 0, cells := 0, slots := 0, locals := 0 } : Room) (va_Pc [vR ad 5] (zPre D vwCl (tyA dA) (zXX aL aG aI aK aV) NX ad (celX ad dA) sz σ)) (va_Qv K (zB D vwCl (tyA dA) NX ad (celX ad dA)) (zA ad NX sz)) 0 0 (zA ad NX sz) := by
  refine z_enter (cc := cX3_clear) (maxL := 1) (ret := none) (vs := [vR ad 5]) (plainFor_of_name (by decide)) rfl hinj (Nat.le_of_ble_eq_true rfl) ?_
  intro p e s m args below meth c hC hE hsz hr hnm
  show zAt p l e ({ frames := 0, cells := 0, slots := 0, locals := 0 } : Room) s m args below meth c 0 0 (MQ below (va_Qv K (zB D vwCl (tyA dA) NX ad (celX ad dA)) (zA ad NX sz)) args s 0 0 (zA ad NX sz)) 1 D vwCl (zA ad NX sz) NX ad (celX ad dA) 0 [(0, vR ad 5)] [] σ
  refine z_aload_n hC dX3_clear_0 0 rfl rfl ?_
  refine z_iconst hC dX3_clear_1 ?_
  refine z_put hC (ty := .int) tyX3 tyX3_ok nmX3 (fun w h => uT _ w (uL3 w h)) (oX_3 (show kX 5 = 3 by decide)) (loX' (show kX 5 = 3 by decide) (by decide)) 0 (by decide) (uT _ _ u351) rfl rfl (0) (0) (by simp [zu]) (by decide +kernel) rfl rfl (Nat.le_of_ble_eq_true rfl) dX3_clear_2 ?_
  obtain ⟨σ1, eσ1⟩ : ∃ z : zSt, z = zu σ 5 0 0 := ⟨_, rfl⟩
  rw [← eσ1]
  replace hf := hf σ1 eσ1
  exact z_vret hC hr rfl dX3_clear_5 hf

-- ===== J9_floorMod_7cf53
def fJ9_floorMod_7cf53 (K : Int → zSt → Prop) (σ : zSt) (x0 : Int) (x1 : Int) : Prop :=
  zrg x0 ∧ zrg x1 ∧ ¬ x1 = 0 ∧ ((0 ≤ zxor x0 x1 → K (x0.tmod x1) σ) ∧ (¬ 0 ≤ zxor x0 x1 → zrg (x0.tmod x1) ∧ ((x0.tmod x1 = 0 → K (x0.tmod x1) σ) ∧ (¬ x0.tmod x1 = 0 → K ((x0.tmod x1) + x1) σ))))
set_option maxHeartbeats 4000000 in
set_option maxRecDepth 100000 in
theorem mJ9_floorMod_7cf53 {D : va_G} {dA : Nat → ClassId} {ad : Nat → Nat} {aL aG aI : Nat} {aK aV : Nat → Nat} (l : Launch) (hinj : ∀ i j, i < NX → j < NX → ad i = ad j → i = j) (sz : Nat) {K : Int → zSt → Prop} {σ : zSt} {x0 : Int} {x1 : Int} (hf : fJ9_floorMod_7cf53 K σ x0 x1) : Met l yJ9_floorMod_7cf53 (Cond.code yJ9_floorMod_7cf53 cJ9_floorMod_7cf53 3 (some .int) :: UW) ({ frames := 0, cells := 0, slots := 0, locals := 0 } : Room) (va_Pc [vI x0, vI x1] (zPre D vwCl (tyA dA) (zXX aL aG aI aK aV) NX ad (celX ad dA) sz σ)) (va_Qi (zPi K) (zB D vwCl (tyA dA) NX ad (celX ad dA)) (zA ad NX sz)) 0 0 (zA ad NX sz) := by
  refine z_enter (cc := cJ9_floorMod_7cf53) (maxL := 3) (ret := (some .int)) (vs := [vI x0, vI x1]) (by decide +kernel) rfl hinj (Nat.le_of_ble_eq_true rfl) ?_
  intro p e s m args below meth c hC hE hsz hr hnm
  show zAt p l e ({ frames := 0, cells := 0, slots := 0, locals := 0 } : Room) s m args below meth c 0 0 (MQ below (va_Qi (zPi K) (zB D vwCl (tyA dA) NX ad (celX ad dA)) (zA ad NX sz)) args s 0 0 (zA ad NX sz)) 3 D vwCl (zA ad NX sz) NX ad (celX ad dA) 0 [(0, vI x0), (1, vI x1)] [] σ
  refine z_iload_n hC dJ9_floorMod_7cf53_0 0 rfl rfl ?_
  refine z_iload_n hC dJ9_floorMod_7cf53_1 1 rfl rfl ?_
  obtain ⟨g1, hf⟩ := hf
  obtain ⟨g2, hf⟩ := hf
  obtain ⟨g3, hf⟩ := hf
  refine z_irem hC dJ9_floorMod_7cf53_2 g1 g2 g3 ?_
  refine z_istore_n hC ([(2, vI (x0.tmod x1)), (0, vI x0), (1, vI x1)]) dJ9_floorMod_7cf53_3 rfl (by decide) rfl ?_
  refine z_iload_n hC dJ9_floorMod_7cf53_4 1 rfl rfl ?_
  refine z_iload_n hC dJ9_floorMod_7cf53_5 2 rfl rfl ?_
  refine z_ixor hC dJ9_floorMod_7cf53_6 ?_
  refine z_if_ge (tgt := 18) hC dJ9_floorMod_7cf53_7 (by decide) (zxor_rg _ _) (fun hc => ?_) (fun hc => ?_)
  · replace hf := hf.1 hc
    refine z_iload_n hC dJ9_floorMod_7cf53_18 0 rfl rfl ?_
    exact z_iret hC hr rfl dJ9_floorMod_7cf53_19 hf
  · replace hf := hf.2 hc
    refine z_iload_n hC dJ9_floorMod_7cf53_10 0 rfl rfl ?_
    obtain ⟨g4, hf⟩ := hf
    refine z_if_eq (tgt := 18) hC dJ9_floorMod_7cf53_11 (by decide) g4 (fun hc => ?_) (fun hc => ?_)
    · replace hf := hf.1 hc
      refine z_iload_n hC dJ9_floorMod_7cf53_18 0 rfl rfl ?_
      exact z_iret hC hr rfl dJ9_floorMod_7cf53_19 hf
    · replace hf := hf.2 hc
      refine z_iload_n hC dJ9_floorMod_7cf53_14 0 rfl rfl ?_
      refine z_iload_n hC dJ9_floorMod_7cf53_15 2 rfl rfl ?_
      refine z_iadd hC dJ9_floorMod_7cf53_16 ?_
      exact z_iret hC hr rfl dJ9_floorMod_7cf53_17 hf

-- ===== X3_latest
def fX3_latest (K : Int → zSt → Prop) (σ : zSt) : Prop :=
  fJ9_floorMod_7cf53 (fun r1 σ1 => (0 ≤ r1 ∧ r1 < 10) ∧ K (7 + r1) σ1) σ (((σ 5 1) + (σ 5 0)) - 1) 10
set_option maxHeartbeats 4000000 in
set_option maxRecDepth 100000 in
theorem mX3_latest {D : va_G} {dA : Nat → ClassId} {ad : Nat → Nat} {aL aG aI : Nat} {aK aV : Nat → Nat} (l : Launch) (hinj : ∀ i j, i < NX → j < NX → ad i = ad j → i = j) (sz : Nat) {K : Int → zSt → Prop} {σ : zSt} (hf : fX3_latest K σ ) : Met l yX3_latest (Cond.code yX3_latest cX3_latest 1 (some (.object "GlacierCamera$Change")) :: UW) ({ frames := 1, cells := 0, slots := 0, locals := 22 } : Room) (va_Pc [vR ad 5] (zPre D vwCl (tyA dA) (zXX aL aG aI aK aV) NX ad (celX ad dA) sz σ)) (va_Qr (fun u : Int × zSt => K u.1 u.2) (zQr D vwCl (tyA dA) NX ad (celX ad dA)) (zA ad NX sz)) 0 0 (zA ad NX sz) := by
  refine z_enter (cc := cX3_latest) (maxL := 1) (ret := (some (.object "GlacierCamera$Change"))) (vs := [vR ad 5]) (plainFor_of_name (by decide)) rfl hinj (Nat.le_of_ble_eq_true rfl) ?_
  intro p e s m args below meth c hC hE hsz hr hnm
  show zAt p l e ({ frames := 1, cells := 0, slots := 0, locals := 22 } : Room) s m args below meth c 0 0 (MQ below (va_Qr (fun u : Int × zSt => K u.1 u.2) (zQr D vwCl (tyA dA) NX ad (celX ad dA)) (zA ad NX sz)) args s 0 0 (zA ad NX sz)) 1 D vwCl (zA ad NX sz) NX ad (celX ad dA) 0 [(0, vR ad 5)] [] σ
  refine z_aload_n hC dX3_latest_0 0 rfl rfl ?_
  refine z_get hC (fun w h => uT _ w (uL3 w h)) (oX_3 (show kX 5 = 3 by decide)) 2 (by decide) (uT _ _ u354) rfl rfl dX3_latest_1 ?_
  refine z_aload_n hC dX3_latest_4 0 rfl rfl ?_
  refine z_get hC (fun w h => uT _ w (uL3 w h)) (oX_3 (show kX 5 = 3 by decide)) 1 (by decide) (uT _ _ u353) rfl rfl dX3_latest_5 ?_
  refine z_aload_n hC dX3_latest_8 0 rfl rfl ?_
  refine z_get hC (fun w h => uT _ w (uL3 w h)) (oX_3 (show kX 5 = 3 by decide)) 0 (by decide) (uT _ _ u351) rfl rfl dX3_latest_9 ?_
  refine z_iadd hC dX3_latest_12 ?_
  refine z_iconst hC dX3_latest_13 ?_
  refine z_isub hC dX3_latest_14 ?_
  refine z_bipush hC dX3_latest_15 (by decide) ?_
  refine z_callSi hC hE [vI (((σ 5 1) + (σ 5 0)) - 1), vI 10] (fun sz2 => mJ9_floorMod_7cf53 l hinj sz2 hf) (va_cwS 2 hC.1.2.2.2.2 (uS (uT _) u765 u766 u108 u767) rfl rfl rfl (by decide +kernel) ⟨Nat.le_of_ble_eq_true rfl, Nat.le_of_ble_eq_true rfl⟩) rfl rfl (Nat.le_of_ble_eq_true rfl) ⟨Nat.le_of_ble_eq_true rfl, Nat.le_of_ble_eq_true rfl⟩ dX3_latest_17 (fun r1 σ1 hf => ?_)
  obtain ⟨g2, hf⟩ := hf
  refine z_aaload hC (aX_20 (show kX 6 = 20 by decide)) g2 dX3_latest_20 ?_
  exact z_aret hC hr rfl dX3_latest_21 hf

-- ===== X3_add
def fX3_add_B35 (K : zSt → Prop) (σ : zSt) (x1 : Int) (x2 : Int) (x3 : Int) (x4 : Int) (x5 : Int) : Prop :=
  fX3_latest (fun r5 σ5 => kX r5 = 0 ∧ ∀ σ7, σ7 = zu σ5 r5 0 x1 → ∀ σ8, σ8 = zu σ7 r5 1 x2 → ∀ σ9, σ9 = zu σ8 r5 2 x3 → ∀ σ10, σ10 = zu σ9 r5 3 x4 → ∀ σ11, σ11 = zu σ10 r5 4 x5 → K σ11) σ 
def fX3_add (K : zSt → Prop) (σ : zSt) (x1 : Int) (x2 : Int) (x3 : Int) (x4 : Int) (x5 : Int) : Prop :=
  zrg (σ 5 0) ∧ ((σ 5 0 = 10 → zrg ((σ 5 1) + 1) ∧ ∀ σ4, σ4 = zu σ 5 1 (((σ 5 1) + 1).tmod 10) → fX3_add_B35 K σ4 x1 x2 x3 x4 x5) ∧ (¬ σ 5 0 = 10 → ∀ σ2, σ2 = zu σ 5 0 ((σ 5 0) + 1) → fX3_add_B35 K σ2 x1 x2 x3 x4 x5))
set_option maxHeartbeats 4000000 in
set_option maxRecDepth 100000 in
theorem wX3_add_B35 {p : Program} {l : Launch} {e : Env} {s : State} {m : MethodId} {args : Array Value} {below : List Frame} {meth : Method} {c : Code} {D : va_G} {dA : Nat → ClassId} {ad : Nat → Nat} {sz : Nat} {aL aG aI : Nat} {aK aV : Nat → Nat} {K : zSt → Prop} (hC : zC p m c cX3_add 7 s args (Cond.code yX3_add cX3_add 7 none :: UW) RX3 meth D vwCl (tyA dA) (zA ad NX sz) NX ad (celX ad dA)) (hE : zE (zXX aL aG aI aK aV) (zA ad NX sz) s s.heap) (hr : meth.sig.returnType = none) (hinj : ∀ i j, i < NX → j < NX → ad i = ad j → i = j) {σ : zSt} {x1 : Int} {x2 : Int} {x3 : Int} {x4 : Int} {x5 : Int} (hf : fX3_add_B35 K σ x1 x2 x3 x4 x5) : zAt p l e ({ frames := 2, cells := 0, slots := 0, locals := 42 } : Room) s m args below meth c 0 0 (MQ below (va_Qv K (zB D vwCl (tyA dA) NX ad (celX ad dA)) (zA ad NX sz)) args s 0 0 (zA ad NX sz)) 7 D vwCl (zA ad NX sz) NX ad (celX ad dA) 35 [(0, vR ad 5), (1, vI x1), (2, vI x2), (3, vI x3), (4, vI x4), (5, vI x5)] [] σ := by
  refine z_aload_n hC dX3_add_35 0 rfl rfl ?_
  refine z_callVr hC hE (oX_3 (show kX 5 = 3 by decide)) [] (fun sz2 => mX3_latest l hinj sz2 hf) (cwV 0 hC.1.2.2.2.2 (uV (uT _) u761 u763 u13 u113 u764) rfl rfl rfl (by decide +kernel) ⟨Nat.le_of_ble_eq_true rfl, Nat.le_of_ble_eq_true rfl⟩) rfl rfl (Nat.le_of_ble_eq_true rfl) ⟨Nat.le_of_ble_eq_true rfl, Nat.le_of_ble_eq_true rfl⟩ dX3_add_36 (fun r5 σ5 hf => ?_)
  obtain ⟨g6, hf⟩ := hf
  refine z_astore hC ([(6, vR ad r5), (0, vR ad 5), (1, vI x1), (2, vI x2), (3, vI x3), (4, vI x4), (5, vI x5)]) dX3_add_39 (by decide) rfl ?_
  refine z_aload hC dX3_add_41 0 rfl ?_
  refine z_iload_n hC dX3_add_43 2 rfl rfl ?_
  refine z_put hC (ty := .int) tyX0 tyX0_ok nmX0 (fun w h => uT _ w (uL0 w h)) (oX_0 g6) (loX' g6 (by decide)) 0 (by decide) (uT _ _ u331) rfl rfl (0) (x1) (by simp [zu]) (by decide +kernel) rfl rfl (Nat.le_of_ble_eq_true rfl) dX3_add_44 ?_
  obtain ⟨σ7, eσ7⟩ : ∃ z : zSt, z = zu σ5 r5 0 x1 := ⟨_, rfl⟩
  rw [← eσ7]
  replace hf := hf σ7 eσ7
  refine z_aload hC dX3_add_47 0 rfl ?_
  refine z_iload_n hC dX3_add_49 3 rfl rfl ?_
  refine z_put hC (ty := .int) tyX0 tyX0_ok nmX0 (fun w h => uT _ w (uL0 w h)) (oX_0 g6) (loX' g6 (by decide)) 1 (by decide) (uT _ _ u333) rfl rfl (1) (x2) (by simp [zu]) (by decide +kernel) rfl rfl (Nat.le_of_ble_eq_true rfl) dX3_add_50 ?_
  obtain ⟨σ8, eσ8⟩ : ∃ z : zSt, z = zu σ7 r5 1 x2 := ⟨_, rfl⟩
  rw [← eσ8]
  replace hf := hf σ8 eσ8
  refine z_aload hC dX3_add_53 0 rfl ?_
  refine z_iload_n hC dX3_add_55 4 rfl rfl ?_
  refine z_put hC (ty := .int) tyX0 tyX0_ok nmX0 (fun w h => uT _ w (uL0 w h)) (oX_0 g6) (loX' g6 (by decide)) 2 (by decide) (uT _ _ u335) rfl rfl (2) (x3) (by simp [zu]) (by decide +kernel) rfl rfl (Nat.le_of_ble_eq_true rfl) dX3_add_56 ?_
  obtain ⟨σ9, eσ9⟩ : ∃ z : zSt, z = zu σ8 r5 2 x3 := ⟨_, rfl⟩
  rw [← eσ9]
  replace hf := hf σ9 eσ9
  refine z_aload hC dX3_add_59 0 rfl ?_
  refine z_iload hC dX3_add_61 5 rfl ?_
  refine z_put hC (ty := .int) tyX0 tyX0_ok nmX0 (fun w h => uT _ w (uL0 w h)) (oX_0 g6) (loX' g6 (by decide)) 3 (by decide) (uT _ _ u337) rfl rfl (3) (x4) (by simp [zu]) (by decide +kernel) rfl rfl (Nat.le_of_ble_eq_true rfl) dX3_add_63 ?_
  obtain ⟨σ10, eσ10⟩ : ∃ z : zSt, z = zu σ9 r5 3 x4 := ⟨_, rfl⟩
  rw [← eσ10]
  replace hf := hf σ10 eσ10
  refine z_aload hC dX3_add_66 0 rfl ?_
  refine z_iload hC dX3_add_68 6 rfl ?_
  refine z_put hC (ty := .int) tyX0 tyX0_ok nmX0 (fun w h => uT _ w (uL0 w h)) (oX_0 g6) (loX' g6 (by decide)) 4 (by decide) (uT _ _ u339) rfl rfl (4) (x5) (by simp [zu]) (by decide +kernel) rfl rfl (Nat.le_of_ble_eq_true rfl) dX3_add_70 ?_
  obtain ⟨σ11, eσ11⟩ : ∃ z : zSt, z = zu σ10 r5 4 x5 := ⟨_, rfl⟩
  rw [← eσ11]
  replace hf := hf σ11 eσ11
  exact z_vret hC hr rfl dX3_add_73 hf
set_option maxHeartbeats 4000000 in
set_option maxRecDepth 100000 in
theorem mX3_add {D : va_G} {dA : Nat → ClassId} {ad : Nat → Nat} {aL aG aI : Nat} {aK aV : Nat → Nat} (l : Launch) (hinj : ∀ i j, i < NX → j < NX → ad i = ad j → i = j) (sz : Nat) {K : zSt → Prop} {σ : zSt} {x1 : Int} {x2 : Int} {x3 : Int} {x4 : Int} {x5 : Int} (hf : fX3_add K σ x1 x2 x3 x4 x5) : Met l yX3_add (Cond.code yX3_add cX3_add 7 none :: UW) ({ frames := 2, cells := 0, slots := 0, locals := 42 } : Room) (va_Pc [vR ad 5, vI x1, vI x2, vI x3, vI x4, vI x5] (zPre D vwCl (tyA dA) (zXX aL aG aI aK aV) NX ad (celX ad dA) sz σ)) (va_Qv K (zB D vwCl (tyA dA) NX ad (celX ad dA)) (zA ad NX sz)) 0 0 (zA ad NX sz) := by
  refine z_enter (cc := cX3_add) (maxL := 7) (ret := none) (vs := [vR ad 5, vI x1, vI x2, vI x3, vI x4, vI x5]) (plainFor_of_name (by decide)) rfl hinj (Nat.le_of_ble_eq_true rfl) ?_
  intro p e s m args below meth c hC hE hsz hr hnm
  show zAt p l e ({ frames := 2, cells := 0, slots := 0, locals := 42 } : Room) s m args below meth c 0 0 (MQ below (va_Qv K (zB D vwCl (tyA dA) NX ad (celX ad dA)) (zA ad NX sz)) args s 0 0 (zA ad NX sz)) 7 D vwCl (zA ad NX sz) NX ad (celX ad dA) 0 [(0, vR ad 5), (1, vI x1), (2, vI x2), (3, vI x3), (4, vI x4), (5, vI x5)] [] σ
  refine z_aload_n hC dX3_add_0 0 rfl rfl ?_
  refine z_get hC (fun w h => uT _ w (uL3 w h)) (oX_3 (show kX 5 = 3 by decide)) 0 (by decide) (uT _ _ u351) rfl rfl dX3_add_1 ?_
  refine z_bipush hC dX3_add_4 (by decide) ?_
  obtain ⟨g1, hf⟩ := hf
  refine z_icmp_ne (tgt := 25) hC dX3_add_6 (by decide) g1 (zlit rfl rfl) (fun hc => ?_) (fun hc => ?_)
  · replace hf := hf.2 hc
    refine z_aload_n hC dX3_add_25 0 rfl rfl ?_
    refine z_dup hC dX3_add_26 rfl ?_
    refine z_get hC (fun w h => uT _ w (uL3 w h)) (oX_3 (show kX 5 = 3 by decide)) 0 (by decide) (uT _ _ u351) rfl rfl dX3_add_27 ?_
    refine z_iconst hC dX3_add_30 ?_
    refine z_iadd hC dX3_add_31 ?_
    refine z_put hC (ty := .int) tyX3 tyX3_ok nmX3 (fun w h => uT _ w (uL3 w h)) (oX_3 (show kX 5 = 3 by decide)) (loX' (show kX 5 = 3 by decide) (by decide)) 0 (by decide) (uT _ _ u351) rfl rfl (0) ((σ 5 0) + 1) (by simp [zu]) (by decide +kernel) rfl rfl (Nat.le_of_ble_eq_true rfl) dX3_add_32 ?_
    obtain ⟨σ2, eσ2⟩ : ∃ z : zSt, z = zu σ 5 0 ((σ 5 0) + 1) := ⟨_, rfl⟩
    rw [← eσ2]
    replace hf := hf σ2 eσ2
    exact wX3_add_B35 hC hE hr hinj  hf
  · replace hf := hf.1 hc
    refine z_aload_n hC dX3_add_9 0 rfl rfl ?_
    refine z_aload_n hC dX3_add_10 0 rfl rfl ?_
    refine z_get hC (fun w h => uT _ w (uL3 w h)) (oX_3 (show kX 5 = 3 by decide)) 1 (by decide) (uT _ _ u353) rfl rfl dX3_add_11 ?_
    refine z_iconst hC dX3_add_14 ?_
    refine z_iadd hC dX3_add_15 ?_
    refine z_bipush hC dX3_add_16 (by decide) ?_
    obtain ⟨g3, hf⟩ := hf
    refine z_irem hC dX3_add_18 g3 (zlit rfl rfl) (by decide) ?_
    refine z_put hC (ty := .int) tyX3 tyX3_ok nmX3 (fun w h => uT _ w (uL3 w h)) (oX_3 (show kX 5 = 3 by decide)) (loX' (show kX 5 = 3 by decide) (by decide)) 1 (by decide) (uT _ _ u353) rfl rfl (1) (((σ 5 1) + 1).tmod 10) (by simp [zu]) (by decide +kernel) rfl rfl (Nat.le_of_ble_eq_true rfl) dX3_add_19 ?_
    obtain ⟨σ4, eσ4⟩ : ∃ z : zSt, z = zu σ 5 1 (((σ 5 1) + 1).tmod 10) := ⟨_, rfl⟩
    rw [← eσ4]
    replace hf := hf σ4 eσ4
    refine z_goto (tgt := 35) hC dX3_add_22 (by decide) ?_
    exact wX3_add_B35 hC hE hr hinj  hf

-- ===== X3_takeLatest
def fX3_takeLatest (K : Int → zSt → Prop) (σ : zSt) : Prop :=
  fX3_latest (fun r1 σ1 => kX r1 = 0 ∧ zrg ((σ1 5 0) - 1) ∧ ∀ σ4, σ4 = zu σ1 5 0 (max ((σ1 5 0) - 1) 0) → K r1 σ4) σ 
set_option maxHeartbeats 4000000 in
set_option maxRecDepth 100000 in
theorem mX3_takeLatest {D : va_G} {dA : Nat → ClassId} {ad : Nat → Nat} {aL aG aI : Nat} {aK aV : Nat → Nat} (l : Launch) (hinj : ∀ i j, i < NX → j < NX → ad i = ad j → i = j) (sz : Nat) {K : Int → zSt → Prop} {σ : zSt} (hf : fX3_takeLatest K σ ) : Met l yX3_takeLatest (Cond.code yX3_takeLatest cX3_takeLatest 2 (some (.object "GlacierCamera$Change")) :: UW) ({ frames := 2, cells := 0, slots := 0, locals := 42 } : Room) (va_Pc [vR ad 5] (zPre D vwCl (tyA dA) (zXX aL aG aI aK aV) NX ad (celX ad dA) sz σ)) (va_Qr (fun u : Int × zSt => K u.1 u.2) (zQr D vwCl (tyA dA) NX ad (celX ad dA)) (zA ad NX sz)) 0 0 (zA ad NX sz) := by
  refine z_enter (cc := cX3_takeLatest) (maxL := 2) (ret := (some (.object "GlacierCamera$Change"))) (vs := [vR ad 5]) (plainFor_of_name (by decide)) rfl hinj (Nat.le_of_ble_eq_true rfl) ?_
  intro p e s m args below meth c hC hE hsz hr hnm
  show zAt p l e ({ frames := 2, cells := 0, slots := 0, locals := 42 } : Room) s m args below meth c 0 0 (MQ below (va_Qr (fun u : Int × zSt => K u.1 u.2) (zQr D vwCl (tyA dA) NX ad (celX ad dA)) (zA ad NX sz)) args s 0 0 (zA ad NX sz)) 2 D vwCl (zA ad NX sz) NX ad (celX ad dA) 0 [(0, vR ad 5)] [] σ
  refine z_aload_n hC dX3_takeLatest_0 0 rfl rfl ?_
  refine z_callVr hC hE (oX_3 (show kX 5 = 3 by decide)) [] (fun sz2 => mX3_latest l hinj sz2 hf) (cwV 0 hC.1.2.2.2.2 (uV (uT _) u761 u763 u13 u113 u764) rfl rfl rfl (by decide +kernel) ⟨Nat.le_of_ble_eq_true rfl, Nat.le_of_ble_eq_true rfl⟩) rfl rfl (Nat.le_of_ble_eq_true rfl) ⟨Nat.le_of_ble_eq_true rfl, Nat.le_of_ble_eq_true rfl⟩ dX3_takeLatest_1 (fun r1 σ1 hf => ?_)
  obtain ⟨g2, hf⟩ := hf
  refine z_astore_n hC ([(1, vR ad r1), (0, vR ad 5)]) dX3_takeLatest_4 rfl (by decide) rfl ?_
  refine z_aload_n hC dX3_takeLatest_5 1 rfl rfl ?_
  refine z_aload_n hC dX3_takeLatest_6 1 rfl rfl ?_
  refine z_get hC (fun w h => uT _ w (uL3 w h)) (oX_3 (show kX 5 = 3 by decide)) 0 (by decide) (uT _ _ u351) rfl rfl dX3_takeLatest_7 ?_
  refine z_iconst hC dX3_takeLatest_10 ?_
  refine z_isub hC dX3_takeLatest_11 ?_
  refine z_iconst hC dX3_takeLatest_12 ?_
  obtain ⟨g3, hf⟩ := hf
  refine z_mmax hC g3 (zlit rfl rfl) (fun w h => uT _ w (uC u1030 (uC u796 (uC u108 (uC u797 uN))) w h)) (Nat.le_of_ble_eq_true rfl) (Nat.le_of_ble_eq_true rfl) ⟨Nat.le_of_ble_eq_true rfl, Nat.le_of_ble_eq_true rfl⟩ dX3_takeLatest_13 ?_
  refine z_put hC (ty := .int) tyX3 tyX3_ok nmX3 (fun w h => uT _ w (uL3 w h)) (oX_3 (show kX 5 = 3 by decide)) (loX' (show kX 5 = 3 by decide) (by decide)) 0 (by decide) (uT _ _ u351) rfl rfl (0) (max ((σ1 5 0) - 1) 0) (by simp [zu]) (by decide +kernel) rfl rfl (Nat.le_of_ble_eq_true rfl) dX3_takeLatest_16 ?_
  obtain ⟨σ4, eσ4⟩ : ∃ z : zSt, z = zu σ1 5 0 (max ((σ1 5 0) - 1) 0) := ⟨_, rfl⟩
  rw [← eσ4]
  replace hf := hf σ4 eσ4
  refine z_aload_n hC dX3_takeLatest_19 0 rfl rfl ?_
  exact z_aret hC hr rfl dX3_takeLatest_20 hf

-- ===== X4_exchange
def fX4_exchange (K : Int → zSt → Prop) (σ : zSt) (x1 : Int) : Prop :=
  kX x1 = 8 ∧ kX (σ 1 1) = 8 ∧ ∀ σ2, σ2 = zu σ 1 1 x1 → K (σ 1 1) σ2
set_option maxHeartbeats 4000000 in
set_option maxRecDepth 100000 in
theorem mX4_exchange {D : va_G} {dA : Nat → ClassId} {ad : Nat → Nat} {aL aG aI : Nat} {aK aV : Nat → Nat} (l : Launch) (hinj : ∀ i j, i < NX → j < NX → ad i = ad j → i = j) (sz : Nat) {K : Int → zSt → Prop} {σ : zSt} {x1 : Int} (hf : fX4_exchange K σ x1) : Met l yX4_exchange (Cond.code yX4_exchange cX4_exchange 3 (some (.object "GlacierCamera$Scene")) :: UW) ({ frames := 0, cells := 0, slots := 0, locals := 0 } : Room) (va_Pc [vR ad 1, vR ad x1] (zPre D vwCl (tyA dA) (zXX aL aG aI aK aV) NX ad (celX ad dA) sz σ)) (va_Qr (fun u : Int × zSt => K u.1 u.2) (zQr D vwCl (tyA dA) NX ad (celX ad dA)) (zA ad NX sz)) 0 0 (zA ad NX sz) := by
  refine z_enter (cc := cX4_exchange) (maxL := 3) (ret := (some (.object "GlacierCamera$Scene"))) (vs := [vR ad 1, vR ad x1]) (plainFor_of_name (by decide)) rfl hinj (Nat.le_of_ble_eq_true rfl) ?_
  intro p e s m args below meth c hC hE hsz hr hnm
  obtain ⟨qx1, hf⟩ := hf
  show zAt p l e ({ frames := 0, cells := 0, slots := 0, locals := 0 } : Room) s m args below meth c 0 0 (MQ below (va_Qr (fun u : Int × zSt => K u.1 u.2) (zQr D vwCl (tyA dA) NX ad (celX ad dA)) (zA ad NX sz)) args s 0 0 (zA ad NX sz)) 3 D vwCl (zA ad NX sz) NX ad (celX ad dA) 0 [(0, vR ad 1), (1, vR ad x1)] [] σ
  refine z_aload_n hC dX4_exchange_0 0 rfl rfl ?_
  refine z_get hC (fun w h => uT _ w (uL4 w h)) (oX_4 (show kX 1 = 4 by decide)) 1 (by decide) (uT _ _ u307) rfl rfl dX4_exchange_1 ?_
  obtain ⟨g1, hf⟩ := hf
  refine z_astore_n hC ([(2, vR ad (σ 1 1)), (0, vR ad 1), (1, vR ad x1)]) dX4_exchange_4 rfl (by decide) rfl ?_
  refine z_aload_n hC dX4_exchange_5 1 rfl rfl ?_
  refine z_aload_n hC dX4_exchange_6 2 rfl rfl ?_
  refine z_put hC (ty := .object "GlacierCamera$Scene") tyX4 tyX4_ok nmX4 (fun w h => uT _ w (uL4 w h)) (oX_4 (show kX 1 = 4 by decide)) (loX' (show kX 1 = 4 by decide) (by decide)) 1 (by decide) (uT _ _ u307) rfl rfl (1) (x1) (by simp [zu]) (by decide +kernel) rfl rfl (Nat.le_of_ble_eq_true rfl) dX4_exchange_7 ?_
  obtain ⟨σ2, eσ2⟩ : ∃ z : zSt, z = zu σ 1 1 x1 := ⟨_, rfl⟩
  rw [← eσ2]
  replace hf := hf σ2 eσ2
  refine z_aload_n hC dX4_exchange_10 0 rfl rfl ?_
  exact z_aret hC hr rfl dX4_exchange_11 hf

-- ===== X11_isBetween
def fX11_isBetween (K : Int → zSt → Prop) (σ : zSt) (x0 : Int) (x1 : Int) (x2 : Int) : Prop :=
  zrg x0 ∧ zrg x1 ∧ ((x0 < x1 → K 0 σ) ∧ (¬ x0 < x1 → zrg x2 ∧ ((x2 < x0 → K 0 σ) ∧ (¬ x2 < x0 → K 1 σ))))
set_option maxHeartbeats 4000000 in
set_option maxRecDepth 100000 in
theorem mX11_isBetween {D : va_G} {dA : Nat → ClassId} {ad : Nat → Nat} {aL aG aI : Nat} {aK aV : Nat → Nat} (l : Launch) (hinj : ∀ i j, i < NX → j < NX → ad i = ad j → i = j) (sz : Nat) {K : Int → zSt → Prop} {σ : zSt} {x0 : Int} {x1 : Int} {x2 : Int} (hf : fX11_isBetween K σ x0 x1 x2) : Met l yX11_isBetween (Cond.code yX11_isBetween cX11_isBetween 3 (some .boolean) :: UW) ({ frames := 0, cells := 0, slots := 0, locals := 0 } : Room) (va_Pc [vI x0, vI x1, vI x2] (zPre D vwCl (tyA dA) (zXX aL aG aI aK aV) NX ad (celX ad dA) sz σ)) (va_Qi (zPi K) (zB D vwCl (tyA dA) NX ad (celX ad dA)) (zA ad NX sz)) 0 0 (zA ad NX sz) := by
  refine z_enter (cc := cX11_isBetween) (maxL := 3) (ret := (some .boolean)) (vs := [vI x0, vI x1, vI x2]) (plainFor_of_name (by decide)) rfl hinj (Nat.le_of_ble_eq_true rfl) ?_
  intro p e s m args below meth c hC hE hsz hr hnm
  show zAt p l e ({ frames := 0, cells := 0, slots := 0, locals := 0 } : Room) s m args below meth c 0 0 (MQ below (va_Qi (zPi K) (zB D vwCl (tyA dA) NX ad (celX ad dA)) (zA ad NX sz)) args s 0 0 (zA ad NX sz)) 3 D vwCl (zA ad NX sz) NX ad (celX ad dA) 0 [(0, vI x0), (1, vI x1), (2, vI x2)] [] σ
  refine z_iload_n hC dX11_isBetween_0 0 rfl rfl ?_
  refine z_iload_n hC dX11_isBetween_1 1 rfl rfl ?_
  obtain ⟨g1, hf⟩ := hf
  obtain ⟨g2, hf⟩ := hf
  refine z_icmp_lt (tgt := 14) hC dX11_isBetween_2 (by decide) g1 g2 (fun hc => ?_) (fun hc => ?_)
  · replace hf := hf.1 hc
    refine z_iconst hC dX11_isBetween_14 ?_
    exact z_bret hC hr rfl dX11_isBetween_15 (Or.inl rfl) hf
  · replace hf := hf.2 hc
    refine z_iload_n hC dX11_isBetween_5 0 rfl rfl ?_
    refine z_iload_n hC dX11_isBetween_6 2 rfl rfl ?_
    obtain ⟨g3, hf⟩ := hf
    refine z_icmp_gt (tgt := 14) hC dX11_isBetween_7 (by decide) g1 g3 (fun hc => ?_) (fun hc => ?_)
    · replace hf := hf.1 hc
      refine z_iconst hC dX11_isBetween_14 ?_
      exact z_bret hC hr rfl dX11_isBetween_15 (Or.inl rfl) hf
    · replace hf := hf.2 hc
      refine z_iconst hC dX11_isBetween_10 ?_
      refine z_goto (tgt := 15) hC dX11_isBetween_11 (by decide) ?_
      exact z_bret hC hr rfl dX11_isBetween_15 (Or.inr rfl) hf

-- ===== X4_checkNumber
def fX4_checkNumber (K : Int → zSt → Prop) (σ : zSt) (x1 : Int) (x2 : Int) : Prop :=
  zrg (σ 2 1) ∧ ((σ 2 1 = 2 → fX11_isBetween (fun r2 σ2 => zrg r2 ∧ ((r2 = 0 → K (-12) σ2) ∧ (¬ r2 = 0 → K 0 σ2))) σ (σ 2 3) x1 x2) ∧ (¬ σ 2 1 = 2 → K (-11) σ))
set_option maxHeartbeats 4000000 in
set_option maxRecDepth 100000 in
theorem mX4_checkNumber {D : va_G} {dA : Nat → ClassId} {ad : Nat → Nat} {aL aG aI : Nat} {aK aV : Nat → Nat} (l : Launch) (hinj : ∀ i j, i < NX → j < NX → ad i = ad j → i = j) (sz : Nat) {K : Int → zSt → Prop} {σ : zSt} {x1 : Int} {x2 : Int} (hf : fX4_checkNumber K σ x1 x2) : Met l yX4_checkNumber (Cond.code yX4_checkNumber cX4_checkNumber 3 (some .int) :: UW) ({ frames := 1, cells := 0, slots := 0, locals := 22 } : Room) (va_Pc [vR ad 1, vI x1, vI x2] (zPre D vwCl (tyA dA) (zXX aL aG aI aK aV) NX ad (celX ad dA) sz σ)) (va_Qi (zPi K) (zB D vwCl (tyA dA) NX ad (celX ad dA)) (zA ad NX sz)) 0 0 (zA ad NX sz) := by
  refine z_enter (cc := cX4_checkNumber) (maxL := 3) (ret := (some .int)) (vs := [vR ad 1, vI x1, vI x2]) (plainFor_of_name (by decide)) rfl hinj (Nat.le_of_ble_eq_true rfl) ?_
  intro p e s m args below meth c hC hE hsz hr hnm
  show zAt p l e ({ frames := 1, cells := 0, slots := 0, locals := 22 } : Room) s m args below meth c 0 0 (MQ below (va_Qi (zPi K) (zB D vwCl (tyA dA) NX ad (celX ad dA)) (zA ad NX sz)) args s 0 0 (zA ad NX sz)) 3 D vwCl (zA ad NX sz) NX ad (celX ad dA) 0 [(0, vR ad 1), (1, vI x1), (2, vI x2)] [] σ
  refine z_aload_n hC dX4_checkNumber_0 0 rfl rfl ?_
  refine z_get hC (fun w h => uT _ w (uL4 w h)) (oX_4 (show kX 1 = 4 by decide)) 0 (by decide) (uT _ _ u305) rfl rfl dX4_checkNumber_1 ?_
  refine z_get hC (fun w h => uT _ w (uL2 w h)) (oX_2 (show kX 2 = 2 by decide)) 1 (by decide) (uT _ _ u279) rfl rfl dX4_checkNumber_4 ?_
  refine z_iconst hC dX4_checkNumber_7 ?_
  obtain ⟨g1, hf⟩ := hf
  refine z_icmp_eq (tgt := 14) hC dX4_checkNumber_8 (by decide) g1 (zlit rfl rfl) (fun hc => ?_) (fun hc => ?_)
  · replace hf := hf.1 hc
    refine z_aload_n hC dX4_checkNumber_14 0 rfl rfl ?_
    refine z_get hC (fun w h => uT _ w (uL4 w h)) (oX_4 (show kX 1 = 4 by decide)) 0 (by decide) (uT _ _ u305) rfl rfl dX4_checkNumber_15 ?_
    refine z_get hC (fun w h => uT _ w (uL2 w h)) (oX_2 (show kX 2 = 2 by decide)) 3 (by decide) (uT _ _ u283) rfl rfl dX4_checkNumber_18 ?_
    refine z_iload_n hC dX4_checkNumber_21 1 rfl rfl ?_
    refine z_iload_n hC dX4_checkNumber_22 2 rfl rfl ?_
    refine z_callSNi hC hE [vI (σ 2 3), vI x1, vI x2] (fun sz2 => mX11_isBetween l hinj sz2 hf) ⟨va_cnB (host := "GlacierCamera") 3 hC.1.2.2.2.2 (uP (uT _) u610) rfl rfl rfl ((hE.1 (.methodLinkNest RX4 191 yX11_isBetween "GlacierCamera") ((by decide +kernel : (Cond.methodLinkNest RX4 191 yX11_isBetween "GlacierCamera") ∈ zNest))).1) (hC.1.2.2.2.2 _ (uT _ _ u105)) (by decide +kernel) ⟨Nat.le_of_ble_eq_true rfl, Nat.le_of_ble_eq_true rfl⟩, hC.1.2.2.2.2 _ (uT _ _ u609), trivial⟩ rfl rfl (Nat.le_of_ble_eq_true rfl) ⟨Nat.le_of_ble_eq_true rfl, Nat.le_of_ble_eq_true rfl⟩ dX4_checkNumber_23 (fun r2 σ2 hf => ?_)
    obtain ⟨g3, hf⟩ := hf
    refine z_if_eq (tgt := 33) hC dX4_checkNumber_26 (by decide) g3 (fun hc => ?_) (fun hc => ?_)
    · replace hf := hf.1 hc
      refine z_bipush hC dX4_checkNumber_33 (by decide) ?_
      exact z_iret hC hr rfl dX4_checkNumber_35 hf
    · replace hf := hf.2 hc
      refine z_iconst hC dX4_checkNumber_29 ?_
      refine z_goto (tgt := 35) hC dX4_checkNumber_30 (by decide) ?_
      exact z_iret hC hr rfl dX4_checkNumber_35 hf
  · replace hf := hf.2 hc
    refine z_bipush hC dX4_checkNumber_11 (by decide) ?_
    exact z_iret hC hr rfl dX4_checkNumber_13 hf

-- ===== X4_readNumber
def fX4_readNumber (K : Int → zSt → Prop) (σ : zSt) (x1 : Int) (x2 : Int) : Prop :=
  fX2_advance (fun σ1 => fX4_checkNumber (fun r2 σ2 => K r2 σ2) σ1 x1 x2) σ 
set_option maxHeartbeats 4000000 in
set_option maxRecDepth 100000 in
theorem mX4_readNumber {D : va_G} {dA : Nat → ClassId} {ad : Nat → Nat} {aL aG aI : Nat} {aK aV : Nat → Nat} (l : Launch) (hinj : ∀ i j, i < NX → j < NX → ad i = ad j → i = j) (sz : Nat) {K : Int → zSt → Prop} {σ : zSt} {x1 : Int} {x2 : Int} (hf : fX4_readNumber K σ x1 x2) : Met l yX4_readNumber (Cond.code yX4_readNumber cX4_readNumber 3 (some .int) :: UW) ({ frames := 2, cells := 0, slots := 0, locals := 44 } : Room) (va_Pc [vR ad 1, vI x1, vI x2] (zPre D vwCl (tyA dA) (zXX aL aG aI aK aV) NX ad (celX ad dA) sz σ)) (va_Qi (zPi K) (zB D vwCl (tyA dA) NX ad (celX ad dA)) (zA ad NX sz)) 0 0 (zA ad NX sz) := by
  refine z_enter (cc := cX4_readNumber) (maxL := 3) (ret := (some .int)) (vs := [vR ad 1, vI x1, vI x2]) (plainFor_of_name (by decide)) rfl hinj (Nat.le_of_ble_eq_true rfl) ?_
  intro p e s m args below meth c hC hE hsz hr hnm
  show zAt p l e ({ frames := 2, cells := 0, slots := 0, locals := 44 } : Room) s m args below meth c 0 0 (MQ below (va_Qi (zPi K) (zB D vwCl (tyA dA) NX ad (celX ad dA)) (zA ad NX sz)) args s 0 0 (zA ad NX sz)) 3 D vwCl (zA ad NX sz) NX ad (celX ad dA) 0 [(0, vR ad 1), (1, vI x1), (2, vI x2)] [] σ
  refine z_aload_n hC dX4_readNumber_0 0 rfl rfl ?_
  refine z_get hC (fun w h => uT _ w (uL4 w h)) (oX_4 (show kX 1 = 4 by decide)) 0 (by decide) (uT _ _ u305) rfl rfl dX4_readNumber_1 ?_
  refine z_callVv hC hE (oX_2 (show kX 2 = 2 by decide)) [] (fun sz2 => mX2_advance l hinj sz2 hf) (cwV 0 hC.1.2.2.2.2 (uV (uT _) u603 u520 u521 u112 u522) rfl rfl rfl (by decide +kernel) ⟨Nat.le_of_ble_eq_true rfl, Nat.le_of_ble_eq_true rfl⟩) rfl rfl (Nat.le_of_ble_eq_true rfl) ⟨Nat.le_of_ble_eq_true rfl, Nat.le_of_ble_eq_true rfl⟩ dX4_readNumber_4 (fun σ1 hf => ?_)
  refine z_aload_n hC dX4_readNumber_7 0 rfl rfl ?_
  refine z_iload_n hC dX4_readNumber_8 1 rfl rfl ?_
  refine z_iload_n hC dX4_readNumber_9 2 rfl rfl ?_
  refine z_callVi hC hE (oX_4 (show kX 1 = 4 by decide)) [vI x1, vI x2] (fun sz2 => mX4_checkNumber l hinj sz2 hf) (cwV 2 hC.1.2.2.2.2 (uV (uT _) u604 u606 u4 u111 u607) rfl rfl rfl (by decide +kernel) ⟨Nat.le_of_ble_eq_true rfl, Nat.le_of_ble_eq_true rfl⟩) rfl rfl (Nat.le_of_ble_eq_true rfl) ⟨Nat.le_of_ble_eq_true rfl, Nat.le_of_ble_eq_true rfl⟩ dX4_readNumber_10 (fun r2 σ2 hf => ?_)
  exact z_iret hC hr rfl dX4_readNumber_13 hf

-- ===== X4_readSize
def fX4_readSize (K : Int → zSt → Prop) (σ : zSt) : Prop :=
  fX4_readNumber (fun r1 σ1 => zrg r1 ∧ ((r1 = 0 → kX (σ1 1 1) = 8 ∧ ∀ σ4, σ4 = zu σ1 (σ1 1 1) 0 (σ1 2 3) → fX4_readNumber (fun r5 σ5 => zrg r5 ∧ ((r5 = 0 → kX (σ5 1 1) = 8 ∧ ∀ σ8, σ8 = zu σ5 (σ5 1 1) 1 (σ5 2 3) → fX2_advance (fun σ9 => K 0 σ9) σ8 ) ∧ (¬ r5 = 0 → K r5 σ5))) σ4 4 10) ∧ (¬ r1 = 0 → K r1 σ1))) σ 4 12
set_option maxHeartbeats 4000000 in
set_option maxRecDepth 100000 in
theorem mX4_readSize {D : va_G} {dA : Nat → ClassId} {ad : Nat → Nat} {aL aG aI : Nat} {aK aV : Nat → Nat} (l : Launch) (hinj : ∀ i j, i < NX → j < NX → ad i = ad j → i = j) (sz : Nat) {K : Int → zSt → Prop} {σ : zSt} (hf : fX4_readSize K σ ) : Met l yX4_readSize (Cond.code yX4_readSize cX4_readSize 2 (some .int) :: UW) ({ frames := 3, cells := 0, slots := 0, locals := 66 } : Room) (va_Pc [vR ad 1] (zPre D vwCl (tyA dA) (zXX aL aG aI aK aV) NX ad (celX ad dA) sz σ)) (va_Qi (zPi K) (zB D vwCl (tyA dA) NX ad (celX ad dA)) (zA ad NX sz)) 0 0 (zA ad NX sz) := by
  refine z_enter (cc := cX4_readSize) (maxL := 2) (ret := (some .int)) (vs := [vR ad 1]) (plainFor_of_name (by decide)) rfl hinj (Nat.le_of_ble_eq_true rfl) ?_
  intro p e s m args below meth c hC hE hsz hr hnm
  show zAt p l e ({ frames := 3, cells := 0, slots := 0, locals := 66 } : Room) s m args below meth c 0 0 (MQ below (va_Qi (zPi K) (zB D vwCl (tyA dA) NX ad (celX ad dA)) (zA ad NX sz)) args s 0 0 (zA ad NX sz)) 2 D vwCl (zA ad NX sz) NX ad (celX ad dA) 0 [(0, vR ad 1)] [] σ
  refine z_aload_n hC dX4_readSize_0 0 rfl rfl ?_
  refine z_iconst hC dX4_readSize_1 ?_
  refine z_bipush hC dX4_readSize_2 (by decide) ?_
  refine z_callVi hC hE (oX_4 (show kX 1 = 4 by decide)) [vI 4, vI 12] (fun sz2 => mX4_readNumber l hinj sz2 hf) (cwV 2 hC.1.2.2.2.2 (uV (uT _) u599 u601 u3 u111 u602) rfl rfl rfl (by decide +kernel) ⟨Nat.le_of_ble_eq_true rfl, Nat.le_of_ble_eq_true rfl⟩) rfl rfl (Nat.le_of_ble_eq_true rfl) ⟨Nat.le_of_ble_eq_true rfl, Nat.le_of_ble_eq_true rfl⟩ dX4_readSize_4 (fun r1 σ1 hf => ?_)
  refine z_istore_n hC ([(1, vI r1), (0, vR ad 1)]) dX4_readSize_7 rfl (by decide) rfl ?_
  refine z_iload_n hC dX4_readSize_8 0 rfl rfl ?_
  obtain ⟨g2, hf⟩ := hf
  refine z_if_eq (tgt := 14) hC dX4_readSize_9 (by decide) g2 (fun hc => ?_) (fun hc => ?_)
  · replace hf := hf.1 hc
    refine z_aload_n hC dX4_readSize_14 1 rfl rfl ?_
    refine z_get hC (fun w h => uT _ w (uL4 w h)) (oX_4 (show kX 1 = 4 by decide)) 1 (by decide) (uT _ _ u307) rfl rfl dX4_readSize_15 ?_
    obtain ⟨g3, hf⟩ := hf
    refine z_aload_n hC dX4_readSize_18 1 rfl rfl ?_
    refine z_get hC (fun w h => uT _ w (uL4 w h)) (oX_4 (show kX 1 = 4 by decide)) 0 (by decide) (uT _ _ u305) rfl rfl dX4_readSize_19 ?_
    refine z_get hC (fun w h => uT _ w (uL2 w h)) (oX_2 (show kX 2 = 2 by decide)) 3 (by decide) (uT _ _ u283) rfl rfl dX4_readSize_22 ?_
    refine z_put hC (ty := .int) tyX8 tyX8_ok nmX8 (fun w h => uT _ w (uL8 w h)) (oX_8 g3) (loX' g3 (by decide)) 0 (by decide) (uT _ _ u215) rfl rfl (0) (σ1 2 3) (by simp [zu]) (by decide +kernel) rfl rfl (Nat.le_of_ble_eq_true rfl) dX4_readSize_25 ?_
    obtain ⟨σ4, eσ4⟩ : ∃ z : zSt, z = zu σ1 (σ1 1 1) 0 (σ1 2 3) := ⟨_, rfl⟩
    rw [← eσ4]
    replace hf := hf σ4 eσ4
    refine z_aload_n hC dX4_readSize_28 1 rfl rfl ?_
    refine z_iconst hC dX4_readSize_29 ?_
    refine z_bipush hC dX4_readSize_30 (by decide) ?_
    refine z_callVi hC hE (oX_4 (show kX 1 = 4 by decide)) [vI 4, vI 10] (fun sz2 => mX4_readNumber l hinj sz2 hf) (cwV 2 hC.1.2.2.2.2 (uV (uT _) u599 u601 u3 u111 u602) rfl rfl rfl (by decide +kernel) ⟨Nat.le_of_ble_eq_true rfl, Nat.le_of_ble_eq_true rfl⟩) rfl rfl (Nat.le_of_ble_eq_true rfl) ⟨Nat.le_of_ble_eq_true rfl, Nat.le_of_ble_eq_true rfl⟩ dX4_readSize_32 (fun r5 σ5 hf => ?_)
    refine z_istore_n hC ([(1, vI r5), (0, vR ad 1)]) dX4_readSize_35 rfl (by decide) rfl ?_
    refine z_iload_n hC dX4_readSize_36 0 rfl rfl ?_
    obtain ⟨g6, hf⟩ := hf
    refine z_if_eq (tgt := 42) hC dX4_readSize_37 (by decide) g6 (fun hc => ?_) (fun hc => ?_)
    · replace hf := hf.1 hc
      refine z_aload_n hC dX4_readSize_42 1 rfl rfl ?_
      refine z_get hC (fun w h => uT _ w (uL4 w h)) (oX_4 (show kX 1 = 4 by decide)) 1 (by decide) (uT _ _ u307) rfl rfl dX4_readSize_43 ?_
      obtain ⟨g7, hf⟩ := hf
      refine z_aload_n hC dX4_readSize_46 1 rfl rfl ?_
      refine z_get hC (fun w h => uT _ w (uL4 w h)) (oX_4 (show kX 1 = 4 by decide)) 0 (by decide) (uT _ _ u305) rfl rfl dX4_readSize_47 ?_
      refine z_get hC (fun w h => uT _ w (uL2 w h)) (oX_2 (show kX 2 = 2 by decide)) 3 (by decide) (uT _ _ u283) rfl rfl dX4_readSize_50 ?_
      refine z_put hC (ty := .int) tyX8 tyX8_ok nmX8 (fun w h => uT _ w (uL8 w h)) (oX_8 g7) (loX' g7 (by decide)) 1 (by decide) (uT _ _ u217) rfl rfl (1) (σ5 2 3) (by simp [zu]) (by decide +kernel) rfl rfl (Nat.le_of_ble_eq_true rfl) dX4_readSize_53 ?_
      obtain ⟨σ8, eσ8⟩ : ∃ z : zSt, z = zu σ5 (σ5 1 1) 1 (σ5 2 3) := ⟨_, rfl⟩
      rw [← eσ8]
      replace hf := hf σ8 eσ8
      refine z_aload_n hC dX4_readSize_56 1 rfl rfl ?_
      refine z_get hC (fun w h => uT _ w (uL4 w h)) (oX_4 (show kX 1 = 4 by decide)) 0 (by decide) (uT _ _ u305) rfl rfl dX4_readSize_57 ?_
      refine z_callVv hC hE (oX_2 (show kX 2 = 2 by decide)) [] (fun sz2 => mX2_advance l hinj sz2 hf) (cwV 0 hC.1.2.2.2.2 (uV (uT _) u603 u520 u521 u112 u522) rfl rfl rfl (by decide +kernel) ⟨Nat.le_of_ble_eq_true rfl, Nat.le_of_ble_eq_true rfl⟩) rfl rfl (Nat.le_of_ble_eq_true rfl) ⟨Nat.le_of_ble_eq_true rfl, Nat.le_of_ble_eq_true rfl⟩ dX4_readSize_60 (fun σ9 hf => ?_)
      refine z_iconst hC dX4_readSize_63 ?_
      exact z_iret hC hr rfl dX4_readSize_64 hf
    · replace hf := hf.2 hc
      refine z_iload_n hC dX4_readSize_40 0 rfl rfl ?_
      exact z_iret hC hr rfl dX4_readSize_41 hf
  · replace hf := hf.2 hc
    refine z_iload_n hC dX4_readSize_12 0 rfl rfl ?_
    exact z_iret hC hr rfl dX4_readSize_13 hf

-- ===== X4_paintRow
noncomputable def fX4_paintRow_B2 (K : zSt → Prop) (n : Nat) : zSt → Int → Int → Int → Prop :=
  Nat.rec (motive := fun _ => zSt → Int → Int → Int → Prop) (fun _ _ _ _ => False) (fun _ ih σ x1 x2 x3 => kX (σ 1 1) = 8 ∧ zrg x3 ∧ zrg (σ (σ 1 1) 0) ∧ ((σ (σ 1 1) 0 ≤ x3 → K σ) ∧ (¬ σ (σ 1 1) 0 ≤ x3 → fX2_digit (fun r4 σ4 => fX8_paint (fun σ5 => ih σ5 x1 x2 (x3 + 1)) σ4 (σ 1 1) x1 x3 x2 r4) σ x3))) n
theorem uX4_paintRow_B2 (K : zSt → Prop) (n0 : Nat) (σ : zSt) (x1 : Int) (x2 : Int) (x3 : Int) : fX4_paintRow_B2 K (n0 + 1) σ x1 x2 x3 = (kX (σ 1 1) = 8 ∧ zrg x3 ∧ zrg (σ (σ 1 1) 0) ∧ ((σ (σ 1 1) 0 ≤ x3 → K σ) ∧ (¬ σ (σ 1 1) 0 ≤ x3 → fX2_digit (fun r4 σ4 => fX8_paint (fun σ5 => (fX4_paintRow_B2 K n0) σ5 x1 x2 (x3 + 1)) σ4 (σ 1 1) x1 x3 x2 r4) σ x3))) := rfl
def fX4_paintRow (K : zSt → Prop) (σ : zSt) (x1 : Int) (x2 : Int) : Prop :=
  (∃ n, fX4_paintRow_B2 K n σ x1 x2 0)
set_option maxHeartbeats 4000000 in
set_option maxRecDepth 100000 in
theorem wX4_paintRow_B2 {p : Program} {l : Launch} {e : Env} {s : State} {m : MethodId} {args : Array Value} {below : List Frame} {meth : Method} {c : Code} {D : va_G} {dA : Nat → ClassId} {ad : Nat → Nat} {sz : Nat} {aL aG aI : Nat} {aK aV : Nat → Nat} {K : zSt → Prop} (hC : zC p m c cX4_paintRow 4 s args (Cond.code yX4_paintRow cX4_paintRow 4 none :: UW) RX4 meth D vwCl (tyA dA) (zA ad NX sz) NX ad (celX ad dA)) (hE : zE (zXX aL aG aI aK aV) (zA ad NX sz) s s.heap) (hr : meth.sig.returnType = none) (hinj : ∀ i j, i < NX → j < NX → ad i = ad j → i = j) : ∀ (n : Nat) (σ : zSt) (x1 : Int) (x2 : Int) (x3 : Int), fX4_paintRow_B2 K n σ x1 x2 x3 → zAt p l e ({ frames := 2, cells := 0, slots := 0, locals := 46 } : Room) s m args below meth c 0 0 (MQ below (va_Qv K (zB D vwCl (tyA dA) NX ad (celX ad dA)) (zA ad NX sz)) args s 0 0 (zA ad NX sz)) 4 D vwCl (zA ad NX sz) NX ad (celX ad dA) 2 [(0, vR ad 1), (1, vI x1), (2, vI x2), (3, vI x3)] [] σ := by
  intro n
  induction n with
  | zero => intro σ x1 x2 x3  hf; exact False.elim hf
  | succ n ih =>
    intro σ x1 x2 x3  hf
    rw [uX4_paintRow_B2] at hf
    refine z_iload_n hC dX4_paintRow_2 3 rfl rfl ?_
    refine z_aload_n hC dX4_paintRow_3 0 rfl rfl ?_
    refine z_get hC (fun w h => uT _ w (uL4 w h)) (oX_4 (show kX 1 = 4 by decide)) 1 (by decide) (uT _ _ u307) rfl rfl dX4_paintRow_4 ?_
    obtain ⟨g1, hf⟩ := hf
    refine z_get hC (fun w h => uT _ w (uL8 w h)) (oX_8 g1) 0 (by decide) (uT _ _ u215) rfl rfl dX4_paintRow_7 ?_
    obtain ⟨g2, hf⟩ := hf
    obtain ⟨g3, hf⟩ := hf
    refine z_icmp_ge (tgt := 37) hC dX4_paintRow_10 (by decide) g2 g3 (fun hc => ?_) (fun hc => ?_)
    · replace hf := hf.1 hc
      exact z_vret hC hr rfl dX4_paintRow_37 hf
    · replace hf := hf.2 hc
      refine z_aload_n hC dX4_paintRow_13 0 rfl rfl ?_
      refine z_get hC (fun w h => uT _ w (uL4 w h)) (oX_4 (show kX 1 = 4 by decide)) 1 (by decide) (uT _ _ u307) rfl rfl dX4_paintRow_14 ?_
      refine z_iload_n hC dX4_paintRow_17 1 rfl rfl ?_
      refine z_iload_n hC dX4_paintRow_18 3 rfl rfl ?_
      refine z_iload_n hC dX4_paintRow_19 2 rfl rfl ?_
      refine z_aload_n hC dX4_paintRow_20 0 rfl rfl ?_
      refine z_get hC (fun w h => uT _ w (uL4 w h)) (oX_4 (show kX 1 = 4 by decide)) 0 (by decide) (uT _ _ u305) rfl rfl dX4_paintRow_21 ?_
      refine z_iload_n hC dX4_paintRow_24 3 rfl rfl ?_
      refine z_callVi hC hE (oX_2 (show kX 2 = 2 by decide)) [vI x3] (fun sz2 => mX2_digit l hinj sz2 hf) (cwV 1 hC.1.2.2.2.2 (uV (uT _) u633 u634 u635 u112 u636) rfl rfl rfl (by decide +kernel) ⟨Nat.le_of_ble_eq_true rfl, Nat.le_of_ble_eq_true rfl⟩) rfl rfl (Nat.le_of_ble_eq_true rfl) ⟨Nat.le_of_ble_eq_true rfl, Nat.le_of_ble_eq_true rfl⟩ dX4_paintRow_25 (fun r4 σ4 hf => ?_)
      refine z_callVv hC hE (oX_8 g1) [vI x1, vI x3, vI x2, vI r4] (fun sz2 => mX8_paint l hinj sz2 hf) (cwV 4 hC.1.2.2.2.2 (uV (uT _) u637 u638 u639 u106 u640) rfl rfl rfl (by decide +kernel) ⟨Nat.le_of_ble_eq_true rfl, Nat.le_of_ble_eq_true rfl⟩) rfl rfl (Nat.le_of_ble_eq_true rfl) ⟨Nat.le_of_ble_eq_true rfl, Nat.le_of_ble_eq_true rfl⟩ dX4_paintRow_28 (fun σ5 hf => ?_)
      refine z_iinc hC ([(3, vI (x3 + 1)), (0, vR ad 1), (1, vI x1), (2, vI x2)]) dX4_paintRow_31 3 rfl (by decide) rfl ?_
      refine z_goto (tgt := 2) hC dX4_paintRow_34 (by decide) ?_
      refine z_sub (lv' := [(0, vR ad 1), (1, vI x1), (2, vI x2), (3, vI (x3 + 1))]) [1, 2, 3, 0] rfl ?_
      exact ih _ _ _ _ hf
set_option maxHeartbeats 4000000 in
set_option maxRecDepth 100000 in
theorem mX4_paintRow {D : va_G} {dA : Nat → ClassId} {ad : Nat → Nat} {aL aG aI : Nat} {aK aV : Nat → Nat} (l : Launch) (hinj : ∀ i j, i < NX → j < NX → ad i = ad j → i = j) (sz : Nat) {K : zSt → Prop} {σ : zSt} {x1 : Int} {x2 : Int} (hf : fX4_paintRow K σ x1 x2) : Met l yX4_paintRow (Cond.code yX4_paintRow cX4_paintRow 4 none :: UW) ({ frames := 2, cells := 0, slots := 0, locals := 46 } : Room) (va_Pc [vR ad 1, vI x1, vI x2] (zPre D vwCl (tyA dA) (zXX aL aG aI aK aV) NX ad (celX ad dA) sz σ)) (va_Qv K (zB D vwCl (tyA dA) NX ad (celX ad dA)) (zA ad NX sz)) 0 0 (zA ad NX sz) := by
  refine z_enter (cc := cX4_paintRow) (maxL := 4) (ret := none) (vs := [vR ad 1, vI x1, vI x2]) (plainFor_of_name (by decide)) rfl hinj (Nat.le_of_ble_eq_true rfl) ?_
  intro p e s m args below meth c hC hE hsz hr hnm
  show zAt p l e ({ frames := 2, cells := 0, slots := 0, locals := 46 } : Room) s m args below meth c 0 0 (MQ below (va_Qv K (zB D vwCl (tyA dA) NX ad (celX ad dA)) (zA ad NX sz)) args s 0 0 (zA ad NX sz)) 4 D vwCl (zA ad NX sz) NX ad (celX ad dA) 0 [(0, vR ad 1), (1, vI x1), (2, vI x2)] [] σ
  refine z_iconst hC dX4_paintRow_0 ?_
  refine z_istore_n hC ([(3, vI 0), (0, vR ad 1), (1, vI x1), (2, vI x2)]) dX4_paintRow_1 rfl (by decide) rfl ?_
  refine z_sub (lv' := [(0, vR ad 1), (1, vI x1), (2, vI x2), (3, vI 0)]) [1, 2, 3, 0] rfl ?_
  obtain ⟨n, hf⟩ := hf
  exact wX4_paintRow_B2 hC hE hr hinj n _ _ _ _ hf

-- ===== X8_addFrame
def fX8_addFrame (K : Int → zSt → Prop) (σ : zSt) (x0 : Int) (x1 : Int) : Prop :=
  kX x0 = 8 ∧ zrg (σ x0 2) ∧ ((σ x0 2 < 6 → (0 ≤ σ x0 2 ∧ σ x0 2 < 6) ∧ kX (σ (x0 + 2) (σ x0 2)) = 1 ∧ ∀ σ4, σ4 = zu σ (σ (x0 + 2) (σ x0 2)) 0 x1 → ∀ σ5, σ5 = zu σ4 x0 2 ((σ4 x0 2) + 1) → K ((σ5 x0 2) - 1) σ5) ∧ (¬ σ x0 2 < 6 → K (-1) σ))
set_option maxHeartbeats 4000000 in
set_option maxRecDepth 100000 in
theorem mX8_addFrame {D : va_G} {dA : Nat → ClassId} {ad : Nat → Nat} {aL aG aI : Nat} {aK aV : Nat → Nat} (l : Launch) (hinj : ∀ i j, i < NX → j < NX → ad i = ad j → i = j) (sz : Nat) {K : Int → zSt → Prop} {σ : zSt} {x0 : Int} {x1 : Int} (hf : fX8_addFrame K σ x0 x1) : Met l yX8_addFrame (Cond.code yX8_addFrame cX8_addFrame 2 (some .int) :: UW) ({ frames := 0, cells := 0, slots := 0, locals := 0 } : Room) (va_Pc [vR ad x0, vI x1] (zPre D vwCl (tyA dA) (zXX aL aG aI aK aV) NX ad (celX ad dA) sz σ)) (va_Qi (zPi K) (zB D vwCl (tyA dA) NX ad (celX ad dA)) (zA ad NX sz)) 0 0 (zA ad NX sz) := by
  refine z_enter (cc := cX8_addFrame) (maxL := 2) (ret := (some .int)) (vs := [vR ad x0, vI x1]) (plainFor_of_name (by decide)) rfl hinj (Nat.le_of_ble_eq_true rfl) ?_
  intro p e s m args below meth c hC hE hsz hr hnm
  obtain ⟨qx0, hf⟩ := hf
  show zAt p l e ({ frames := 0, cells := 0, slots := 0, locals := 0 } : Room) s m args below meth c 0 0 (MQ below (va_Qi (zPi K) (zB D vwCl (tyA dA) NX ad (celX ad dA)) (zA ad NX sz)) args s 0 0 (zA ad NX sz)) 2 D vwCl (zA ad NX sz) NX ad (celX ad dA) 0 [(0, vR ad x0), (1, vI x1)] [] σ
  refine z_aload_n hC dX8_addFrame_0 0 rfl rfl ?_
  refine z_get hC (fun w h => uT _ w (uL8 w h)) (oX_8 qx0) 2 (by decide) (uT _ _ u219) rfl rfl dX8_addFrame_1 ?_
  refine z_bipush hC dX8_addFrame_4 (by decide) ?_
  obtain ⟨g1, hf⟩ := hf
  refine z_icmp_lt (tgt := 11) hC dX8_addFrame_6 (by decide) g1 (zlit rfl rfl) (fun hc => ?_) (fun hc => ?_)
  · replace hf := hf.1 hc
    refine z_aload_n hC dX8_addFrame_11 0 rfl rfl ?_
    refine z_get hC (fun w h => uT _ w (uL8 w h)) (oX_8 qx0) 5 (by decide) (uT _ _ u232) rfl rfl dX8_addFrame_12 ?_
    refine z_aload_n hC dX8_addFrame_15 0 rfl rfl ?_
    refine z_get hC (fun w h => uT _ w (uL8 w h)) (oX_8 qx0) 2 (by decide) (uT _ _ u219) rfl rfl dX8_addFrame_16 ?_
    obtain ⟨g2, hf⟩ := hf
    refine z_aaload hC (aX_21 (kf_8_5 qx0)) g2 dX8_addFrame_19 ?_
    obtain ⟨g3, hf⟩ := hf
    refine z_iload_n hC dX8_addFrame_20 1 rfl rfl ?_
    refine z_put hC (ty := .int) tyX1 tyX1_ok nmX1 (fun w h => uT _ w (uL1 w h)) (oX_1 g3) (loX' g3 (by decide)) 0 (by decide) (uT _ _ u183) rfl rfl (0) (x1) (by simp [zu]) (by decide +kernel) rfl rfl (Nat.le_of_ble_eq_true rfl) dX8_addFrame_21 ?_
    obtain ⟨σ4, eσ4⟩ : ∃ z : zSt, z = zu σ (σ (x0 + 2) (σ x0 2)) 0 x1 := ⟨_, rfl⟩
    rw [← eσ4]
    replace hf := hf σ4 eσ4
    refine z_aload_n hC dX8_addFrame_24 0 rfl rfl ?_
    refine z_dup hC dX8_addFrame_25 rfl ?_
    refine z_get hC (fun w h => uT _ w (uL8 w h)) (oX_8 qx0) 2 (by decide) (uT _ _ u219) rfl rfl dX8_addFrame_26 ?_
    refine z_iconst hC dX8_addFrame_29 ?_
    refine z_iadd hC dX8_addFrame_30 ?_
    refine z_put hC (ty := .int) tyX8 tyX8_ok nmX8 (fun w h => uT _ w (uL8 w h)) (oX_8 qx0) (loX' qx0 (by decide)) 2 (by decide) (uT _ _ u219) rfl rfl (2) ((σ4 x0 2) + 1) (by simp [zu]) (by decide +kernel) rfl rfl (Nat.le_of_ble_eq_true rfl) dX8_addFrame_31 ?_
    obtain ⟨σ5, eσ5⟩ : ∃ z : zSt, z = zu σ4 x0 2 ((σ4 x0 2) + 1) := ⟨_, rfl⟩
    rw [← eσ5]
    replace hf := hf σ5 eσ5
    refine z_aload_n hC dX8_addFrame_34 0 rfl rfl ?_
    refine z_get hC (fun w h => uT _ w (uL8 w h)) (oX_8 qx0) 2 (by decide) (uT _ _ u219) rfl rfl dX8_addFrame_35 ?_
    refine z_iconst hC dX8_addFrame_38 ?_
    refine z_isub hC dX8_addFrame_39 ?_
    exact z_iret hC hr rfl dX8_addFrame_40 hf
  · replace hf := hf.2 hc
    refine z_iconst hC dX8_addFrame_9 ?_
    exact z_iret hC hr rfl dX8_addFrame_10 hf

-- ===== X8_dayOf
def fX8_dayOf (K : Int → zSt → Prop) (σ : zSt) (x0 : Int) (x1 : Int) : Prop :=
  kX x0 = 8 ∧ fX8_hasFrame (fun r1 σ1 => zrg r1 ∧ ((r1 = 0 → K (-1) σ1) ∧ (¬ r1 = 0 → (0 ≤ x1 ∧ x1 < 6) ∧ kX (σ1 (x0 + 2) x1) = 1 ∧ K (σ1 (σ1 (x0 + 2) x1) 0) σ1))) σ x0 x1
set_option maxHeartbeats 4000000 in
set_option maxRecDepth 100000 in
theorem mX8_dayOf {D : va_G} {dA : Nat → ClassId} {ad : Nat → Nat} {aL aG aI : Nat} {aK aV : Nat → Nat} (l : Launch) (hinj : ∀ i j, i < NX → j < NX → ad i = ad j → i = j) (sz : Nat) {K : Int → zSt → Prop} {σ : zSt} {x0 : Int} {x1 : Int} (hf : fX8_dayOf K σ x0 x1) : Met l yX8_dayOf (Cond.code yX8_dayOf cX8_dayOf 2 (some .int) :: UW) ({ frames := 1, cells := 0, slots := 0, locals := 21 } : Room) (va_Pc [vR ad x0, vI x1] (zPre D vwCl (tyA dA) (zXX aL aG aI aK aV) NX ad (celX ad dA) sz σ)) (va_Qi (zPi K) (zB D vwCl (tyA dA) NX ad (celX ad dA)) (zA ad NX sz)) 0 0 (zA ad NX sz) := by
  refine z_enter (cc := cX8_dayOf) (maxL := 2) (ret := (some .int)) (vs := [vR ad x0, vI x1]) (plainFor_of_name (by decide)) rfl hinj (Nat.le_of_ble_eq_true rfl) ?_
  intro p e s m args below meth c hC hE hsz hr hnm
  obtain ⟨qx0, hf⟩ := hf
  show zAt p l e ({ frames := 1, cells := 0, slots := 0, locals := 21 } : Room) s m args below meth c 0 0 (MQ below (va_Qi (zPi K) (zB D vwCl (tyA dA) NX ad (celX ad dA)) (zA ad NX sz)) args s 0 0 (zA ad NX sz)) 2 D vwCl (zA ad NX sz) NX ad (celX ad dA) 0 [(0, vR ad x0), (1, vI x1)] [] σ
  refine z_aload_n hC dX8_dayOf_0 0 rfl rfl ?_
  refine z_iload_n hC dX8_dayOf_1 1 rfl rfl ?_
  refine z_callVi hC hE (oX_8 qx0) [vI x1] (fun sz2 => mX8_hasFrame l hinj sz2 hf) (cwV 1 hC.1.2.2.2.2 (uV (uT _) u620 u621 u622 u106 u623) rfl rfl rfl (by decide +kernel) ⟨Nat.le_of_ble_eq_true rfl, Nat.le_of_ble_eq_true rfl⟩) rfl rfl (Nat.le_of_ble_eq_true rfl) ⟨Nat.le_of_ble_eq_true rfl, Nat.le_of_ble_eq_true rfl⟩ dX8_dayOf_2 (fun r1 σ1 hf => ?_)
  obtain ⟨g2, hf⟩ := hf
  refine z_if_eq (tgt := 20) hC dX8_dayOf_5 (by decide) g2 (fun hc => ?_) (fun hc => ?_)
  · replace hf := hf.1 hc
    refine z_iconst hC dX8_dayOf_20 ?_
    exact z_iret hC hr rfl dX8_dayOf_21 hf
  · replace hf := hf.2 hc
    refine z_aload_n hC dX8_dayOf_8 0 rfl rfl ?_
    refine z_get hC (fun w h => uT _ w (uL8 w h)) (oX_8 qx0) 5 (by decide) (uT _ _ u232) rfl rfl dX8_dayOf_9 ?_
    refine z_iload_n hC dX8_dayOf_12 1 rfl rfl ?_
    obtain ⟨g3, hf⟩ := hf
    refine z_aaload hC (aX_21 (kf_8_5 qx0)) g3 dX8_dayOf_13 ?_
    obtain ⟨g4, hf⟩ := hf
    refine z_get hC (fun w h => uT _ w (uL1 w h)) (oX_1 g4) 0 (by decide) (uT _ _ u183) rfl rfl dX8_dayOf_14 ?_
    refine z_goto (tgt := 21) hC dX8_dayOf_17 (by decide) ?_
    exact z_iret hC hr rfl dX8_dayOf_21 hf
