
-- ===== X11_quotient
def fX11_quotient (K : Int → zSt → Prop) (σ : zSt) (x0 : Int) (x1 : Int) : Prop :=
  zrg x1 ∧ ((x1 ≤ 0 → K 0 σ) ∧ (¬ x1 ≤ 0 → zrg x0 ∧ ¬ x1 = 0 ∧ K (x0.tdiv x1) σ))
set_option maxHeartbeats 4000000 in
set_option maxRecDepth 100000 in
theorem mX11_quotient {D : va_G} {dA : Nat → ClassId} {ad : Nat → Nat} {aL aG aI : Nat} {aK aV : Nat → Nat} (l : Launch) (hinj : ∀ i j, i < NX → j < NX → ad i = ad j → i = j) (sz : Nat) {K : Int → zSt → Prop} {σ : zSt} {x0 : Int} {x1 : Int} (hf : fX11_quotient K σ x0 x1) : Met l yX11_quotient (Cond.code yX11_quotient cX11_quotient 2 (some .int) :: UW) ({ frames := 0, cells := 0, slots := 0, locals := 0 } : Room) (va_Pc [vI x0, vI x1] (zPre D vwCl (tyA dA) (zXX aL aG aI aK aV) NX ad (celX ad dA) sz σ)) (va_Qi (zPi K) (zB D vwCl (tyA dA) NX ad (celX ad dA)) (zA ad NX sz)) 0 0 (zA ad NX sz) := by
  refine z_enter (cc := cX11_quotient) (maxL := 2) (ret := (some .int)) (vs := [vI x0, vI x1]) (plainFor_of_name (by decide)) rfl hinj (Nat.le_of_ble_eq_true rfl) ?_
  intro p e s m args below meth c hC hE hsz hr hnm
  show zAt p l e ({ frames := 0, cells := 0, slots := 0, locals := 0 } : Room) s m args below meth c 0 0 (MQ below (va_Qi (zPi K) (zB D vwCl (tyA dA) NX ad (celX ad dA)) (zA ad NX sz)) args s 0 0 (zA ad NX sz)) 2 D vwCl (zA ad NX sz) NX ad (celX ad dA) 0 [(0, vI x0), (1, vI x1)] [] σ
  refine z_iload_n hC dX11_quotient_0 1 rfl rfl ?_
  obtain ⟨g1, hf⟩ := hf
  refine z_if_le (tgt := 10) hC dX11_quotient_1 (by decide) g1 (fun hc => ?_) (fun hc => ?_)
  · replace hf := hf.1 hc
    refine z_iconst hC dX11_quotient_10 ?_
    exact z_iret hC hr rfl dX11_quotient_11 hf
  · replace hf := hf.2 hc
    refine z_iload_n hC dX11_quotient_4 0 rfl rfl ?_
    refine z_iload_n hC dX11_quotient_5 1 rfl rfl ?_
    obtain ⟨g2, hf⟩ := hf
    obtain ⟨g3, hf⟩ := hf
    refine z_idiv hC dX11_quotient_6 g2 g1 g3 ?_
    refine z_goto (tgt := 11) hC dX11_quotient_7 (by decide) ?_
    exact z_iret hC hr rfl dX11_quotient_11 hf

-- ===== X10_speedOf
def fX10_speedOf (K : Int → zSt → Prop) (σ : zSt) (x0 : Int) (x1 : Int) (x2 : Int) : Prop :=
  kX x0 = 10 ∧ fX10_lengthOf (fun r1 σ1 => fX10_dayOf (fun r2 σ2 => fX10_dayOf (fun r3 σ3 => fX11_quotient (fun r4 σ4 => K r4 σ4) σ3 r1 (r2 - r3)) σ2 x0 x1) σ1 x0 (x1 + 1)) σ x0 x1 x2
set_option maxHeartbeats 4000000 in
set_option maxRecDepth 100000 in
theorem mX10_speedOf {D : va_G} {dA : Nat → ClassId} {ad : Nat → Nat} {aL aG aI : Nat} {aK aV : Nat → Nat} (l : Launch) (hinj : ∀ i j, i < NX → j < NX → ad i = ad j → i = j) (sz : Nat) {K : Int → zSt → Prop} {σ : zSt} {x0 : Int} {x1 : Int} {x2 : Int} (hf : fX10_speedOf K σ x0 x1 x2) : Met l yX10_speedOf (Cond.code yX10_speedOf cX10_speedOf 3 (some .int) :: UW) ({ frames := 2, cells := 0, slots := 0, locals := 53 } : Room) (va_Pc [vR ad x0, vI x1, vI x2] (zPre D vwCl (tyA dA) (zXX aL aG aI aK aV) NX ad (celX ad dA) sz σ)) (va_Qi (zPi K) (zB D vwCl (tyA dA) NX ad (celX ad dA)) (zA ad NX sz)) 0 0 (zA ad NX sz) := by
  refine z_enter (cc := cX10_speedOf) (maxL := 3) (ret := (some .int)) (vs := [vR ad x0, vI x1, vI x2]) (plainFor_of_name (by decide)) rfl hinj (Nat.le_of_ble_eq_true rfl) ?_
  intro p e s m args below meth c hC hE hsz hr hnm
  obtain ⟨qx0, hf⟩ := hf
  show zAt p l e ({ frames := 2, cells := 0, slots := 0, locals := 53 } : Room) s m args below meth c 0 0 (MQ below (va_Qi (zPi K) (zB D vwCl (tyA dA) NX ad (celX ad dA)) (zA ad NX sz)) args s 0 0 (zA ad NX sz)) 3 D vwCl (zA ad NX sz) NX ad (celX ad dA) 0 [(0, vR ad x0), (1, vI x1), (2, vI x2)] [] σ
  refine z_aload_n hC dX10_speedOf_0 0 rfl rfl ?_
  refine z_iload_n hC dX10_speedOf_1 1 rfl rfl ?_
  refine z_iload_n hC dX10_speedOf_2 2 rfl rfl ?_
  refine z_callVi hC hE (oX_10 qx0) [vI x1, vI x2] (fun sz2 => mX10_lengthOf l hinj sz2 hf) (cwV 2 hC.1.2.2.2.2 (uV (uT _) u915 u917 u22 u117 u918) rfl rfl rfl (by decide +kernel) ⟨Nat.le_of_ble_eq_true rfl, Nat.le_of_ble_eq_true rfl⟩) rfl rfl (Nat.le_of_ble_eq_true rfl) ⟨Nat.le_of_ble_eq_true rfl, Nat.le_of_ble_eq_true rfl⟩ dX10_speedOf_3 (fun r1 σ1 hf => ?_)
  refine z_aload_n hC dX10_speedOf_6 0 rfl rfl ?_
  refine z_iload_n hC dX10_speedOf_7 1 rfl rfl ?_
  refine z_iconst hC dX10_speedOf_8 ?_
  refine z_iadd hC dX10_speedOf_9 ?_
  refine z_callVi hC hE (oX_10 qx0) [vI (x1 + 1)] (fun sz2 => mX10_dayOf l hinj sz2 hf) (cwV 1 hC.1.2.2.2.2 (uV (uT _) u927 u928 u929 u117 u930) rfl rfl rfl (by decide +kernel) ⟨Nat.le_of_ble_eq_true rfl, Nat.le_of_ble_eq_true rfl⟩) rfl rfl (Nat.le_of_ble_eq_true rfl) ⟨Nat.le_of_ble_eq_true rfl, Nat.le_of_ble_eq_true rfl⟩ dX10_speedOf_10 (fun r2 σ2 hf => ?_)
  refine z_aload_n hC dX10_speedOf_13 0 rfl rfl ?_
  refine z_iload_n hC dX10_speedOf_14 1 rfl rfl ?_
  refine z_callVi hC hE (oX_10 qx0) [vI x1] (fun sz2 => mX10_dayOf l hinj sz2 hf) (cwV 1 hC.1.2.2.2.2 (uV (uT _) u927 u928 u929 u117 u930) rfl rfl rfl (by decide +kernel) ⟨Nat.le_of_ble_eq_true rfl, Nat.le_of_ble_eq_true rfl⟩) rfl rfl (Nat.le_of_ble_eq_true rfl) ⟨Nat.le_of_ble_eq_true rfl, Nat.le_of_ble_eq_true rfl⟩ dX10_speedOf_15 (fun r3 σ3 hf => ?_)
  refine z_isub hC dX10_speedOf_18 ?_
  refine z_callSNi hC hE [vI r1, vI (r2 - r3)] (fun sz2 => mX11_quotient l hinj sz2 hf) ⟨va_cnB (host := "GlacierCamera") 2 hC.1.2.2.2.2 (uP (uT _) u933) rfl rfl rfl ((hE.1 (.methodLinkNest RX10 137 yX11_quotient "GlacierCamera") ((by decide +kernel : (Cond.methodLinkNest RX10 137 yX11_quotient "GlacierCamera") ∈ zNest))).1) (hC.1.2.2.2.2 _ (uT _ _ u105)) (by decide +kernel) ⟨Nat.le_of_ble_eq_true rfl, Nat.le_of_ble_eq_true rfl⟩, hC.1.2.2.2.2 _ (uT _ _ u932), trivial⟩ rfl rfl (Nat.le_of_ble_eq_true rfl) ⟨Nat.le_of_ble_eq_true rfl, Nat.le_of_ble_eq_true rfl⟩ dX10_speedOf_19 (fun r4 σ4 hf => ?_)
  exact z_iret hC hr rfl dX10_speedOf_22 hf

-- ===== X10_averageSpeed
noncomputable def fX10_averageSpeed_B4 (K : Int → zSt → Prop) (n : Nat) : zSt → Int → Int → Int → Int → Prop :=
  Nat.rec (motive := fun _ => zSt → Int → Int → Int → Int → Prop) (fun _ _ _ _ _ => False) (fun _ ih σ x0 x1 x2 x3 => fX10_segments (fun r1 σ1 => zrg x3 ∧ zrg r1 ∧ ((r1 ≤ x3 → fX10_dayOf (fun r4 σ4 => fX10_dayOf (fun r5 σ5 => fX11_quotient (fun r6 σ6 => K r6 σ6) σ5 x2 (r4 - r5)) σ4 x0 0) σ1 x0 ((σ1 x0 1) - 1)) ∧ (¬ r1 ≤ x3 → fX10_lengthOf (fun r7 σ7 => ih σ7 x0 x1 (x2 + r7) (x3 + 1)) σ1 x0 x3 x1))) σ x0) n
theorem uX10_averageSpeed_B4 (K : Int → zSt → Prop) (n0 : Nat) (σ : zSt) (x0 : Int) (x1 : Int) (x2 : Int) (x3 : Int) : fX10_averageSpeed_B4 K (n0 + 1) σ x0 x1 x2 x3 = (fX10_segments (fun r1 σ1 => zrg x3 ∧ zrg r1 ∧ ((r1 ≤ x3 → fX10_dayOf (fun r4 σ4 => fX10_dayOf (fun r5 σ5 => fX11_quotient (fun r6 σ6 => K r6 σ6) σ5 x2 (r4 - r5)) σ4 x0 0) σ1 x0 ((σ1 x0 1) - 1)) ∧ (¬ r1 ≤ x3 → fX10_lengthOf (fun r7 σ7 => (fX10_averageSpeed_B4 K n0) σ7 x0 x1 (x2 + r7) (x3 + 1)) σ1 x0 x3 x1))) σ x0) := rfl
def fX10_averageSpeed (K : Int → zSt → Prop) (σ : zSt) (x0 : Int) (x1 : Int) : Prop :=
  kX x0 = 10 ∧ (∃ n, fX10_averageSpeed_B4 K n σ x0 x1 0 0)
set_option maxHeartbeats 4000000 in
set_option maxRecDepth 100000 in
theorem wX10_averageSpeed_B4 {p : Program} {l : Launch} {e : Env} {s : State} {m : MethodId} {args : Array Value} {below : List Frame} {meth : Method} {c : Code} {D : va_G} {dA : Nat → ClassId} {ad : Nat → Nat} {sz : Nat} {aL aG aI : Nat} {aK aV : Nat → Nat} {K : Int → zSt → Prop} (hC : zC p m c cX10_averageSpeed 4 s args (Cond.code yX10_averageSpeed cX10_averageSpeed 4 (some .int) :: UW) RX10 meth D vwCl (tyA dA) (zA ad NX sz) NX ad (celX ad dA)) (hE : zE (zXX aL aG aI aK aV) (zA ad NX sz) s s.heap) (hr : meth.sig.returnType = (some .int)) (hinj : ∀ i j, i < NX → j < NX → ad i = ad j → i = j) : ∀ (n : Nat) (σ : zSt) (x0 : Int) (x1 : Int) (x2 : Int) (x3 : Int) (qx0 : kX x0 = 10), fX10_averageSpeed_B4 K n σ x0 x1 x2 x3 → zAt p l e ({ frames := 2, cells := 0, slots := 0, locals := 53 } : Room) s m args below meth c 0 0 (MQ below (va_Qi (zPi K) (zB D vwCl (tyA dA) NX ad (celX ad dA)) (zA ad NX sz)) args s 0 0 (zA ad NX sz)) 4 D vwCl (zA ad NX sz) NX ad (celX ad dA) 4 [(0, vR ad x0), (1, vI x1), (2, vI x2), (3, vI x3)] [] σ := by
  intro n
  induction n with
  | zero => intro σ x0 x1 x2 x3 qx0 hf; exact False.elim hf
  | succ n ih =>
    intro σ x0 x1 x2 x3 qx0 hf
    rw [uX10_averageSpeed_B4] at hf
    refine z_iload_n hC dX10_averageSpeed_4 3 rfl rfl ?_
    refine z_aload_n hC dX10_averageSpeed_5 0 rfl rfl ?_
    refine z_callVi hC hE (oX_10 qx0) [] (fun sz2 => mX10_segments l hinj sz2 hf) (cwV 0 hC.1.2.2.2.2 (uV (uT _) u911 u912 u913 u117 u914) rfl rfl rfl (by decide +kernel) ⟨Nat.le_of_ble_eq_true rfl, Nat.le_of_ble_eq_true rfl⟩) rfl rfl (Nat.le_of_ble_eq_true rfl) ⟨Nat.le_of_ble_eq_true rfl, Nat.le_of_ble_eq_true rfl⟩ dX10_averageSpeed_6 (fun r1 σ1 hf => ?_)
    obtain ⟨g2, hf⟩ := hf
    obtain ⟨g3, hf⟩ := hf
    refine z_icmp_ge (tgt := 27) hC dX10_averageSpeed_9 (by decide) g2 g3 (fun hc => ?_) (fun hc => ?_)
    · replace hf := hf.1 hc
      refine z_iload_n hC dX10_averageSpeed_27 2 rfl rfl ?_
      refine z_aload_n hC dX10_averageSpeed_28 0 rfl rfl ?_
      refine z_aload_n hC dX10_averageSpeed_29 0 rfl rfl ?_
      refine z_get hC (fun w h => uT _ w (uL10 w h)) (oX_10 qx0) 1 (by decide) (uT _ _ u432) rfl rfl dX10_averageSpeed_30 ?_
      refine z_iconst hC dX10_averageSpeed_33 ?_
      refine z_isub hC dX10_averageSpeed_34 ?_
      refine z_callVi hC hE (oX_10 qx0) [vI ((σ1 x0 1) - 1)] (fun sz2 => mX10_dayOf l hinj sz2 hf) (cwV 1 hC.1.2.2.2.2 (uV (uT _) u927 u928 u929 u117 u930) rfl rfl rfl (by decide +kernel) ⟨Nat.le_of_ble_eq_true rfl, Nat.le_of_ble_eq_true rfl⟩) rfl rfl (Nat.le_of_ble_eq_true rfl) ⟨Nat.le_of_ble_eq_true rfl, Nat.le_of_ble_eq_true rfl⟩ dX10_averageSpeed_35 (fun r4 σ4 hf => ?_)
      refine z_aload_n hC dX10_averageSpeed_38 0 rfl rfl ?_
      refine z_iconst hC dX10_averageSpeed_39 ?_
      refine z_callVi hC hE (oX_10 qx0) [vI 0] (fun sz2 => mX10_dayOf l hinj sz2 hf) (cwV 1 hC.1.2.2.2.2 (uV (uT _) u927 u928 u929 u117 u930) rfl rfl rfl (by decide +kernel) ⟨Nat.le_of_ble_eq_true rfl, Nat.le_of_ble_eq_true rfl⟩) rfl rfl (Nat.le_of_ble_eq_true rfl) ⟨Nat.le_of_ble_eq_true rfl, Nat.le_of_ble_eq_true rfl⟩ dX10_averageSpeed_40 (fun r5 σ5 hf => ?_)
      refine z_isub hC dX10_averageSpeed_43 ?_
      refine z_callSNi hC hE [vI x2, vI (r4 - r5)] (fun sz2 => mX11_quotient l hinj sz2 hf) ⟨va_cnB (host := "GlacierCamera") 2 hC.1.2.2.2.2 (uP (uT _) u933) rfl rfl rfl ((hE.1 (.methodLinkNest RX10 137 yX11_quotient "GlacierCamera") ((by decide +kernel : (Cond.methodLinkNest RX10 137 yX11_quotient "GlacierCamera") ∈ zNest))).1) (hC.1.2.2.2.2 _ (uT _ _ u105)) (by decide +kernel) ⟨Nat.le_of_ble_eq_true rfl, Nat.le_of_ble_eq_true rfl⟩, hC.1.2.2.2.2 _ (uT _ _ u932), trivial⟩ rfl rfl (Nat.le_of_ble_eq_true rfl) ⟨Nat.le_of_ble_eq_true rfl, Nat.le_of_ble_eq_true rfl⟩ dX10_averageSpeed_44 (fun r6 σ6 hf => ?_)
      exact z_iret hC hr rfl dX10_averageSpeed_47 hf
    · replace hf := hf.2 hc
      refine z_iload_n hC dX10_averageSpeed_12 2 rfl rfl ?_
      refine z_aload_n hC dX10_averageSpeed_13 0 rfl rfl ?_
      refine z_iload_n hC dX10_averageSpeed_14 3 rfl rfl ?_
      refine z_iload_n hC dX10_averageSpeed_15 1 rfl rfl ?_
      refine z_callVi hC hE (oX_10 qx0) [vI x3, vI x1] (fun sz2 => mX10_lengthOf l hinj sz2 hf) (cwV 2 hC.1.2.2.2.2 (uV (uT _) u915 u917 u22 u117 u918) rfl rfl rfl (by decide +kernel) ⟨Nat.le_of_ble_eq_true rfl, Nat.le_of_ble_eq_true rfl⟩) rfl rfl (Nat.le_of_ble_eq_true rfl) ⟨Nat.le_of_ble_eq_true rfl, Nat.le_of_ble_eq_true rfl⟩ dX10_averageSpeed_16 (fun r7 σ7 hf => ?_)
      refine z_iadd hC dX10_averageSpeed_19 ?_
      refine z_istore_n hC ([(2, vI (x2 + r7)), (0, vR ad x0), (1, vI x1), (3, vI x3)]) dX10_averageSpeed_20 rfl (by decide) rfl ?_
      refine z_iinc hC ([(3, vI (x3 + 1)), (2, vI (x2 + r7)), (0, vR ad x0), (1, vI x1)]) dX10_averageSpeed_21 3 rfl (by decide) rfl ?_
      refine z_goto (tgt := 4) hC dX10_averageSpeed_24 (by decide) ?_
      refine z_sub (lv' := [(0, vR ad x0), (1, vI x1), (2, vI (x2 + r7)), (3, vI (x3 + 1))]) [2, 3, 1, 0] rfl ?_
      exact ih _ _ _ _ _ qx0 hf
set_option maxHeartbeats 4000000 in
set_option maxRecDepth 100000 in
theorem mX10_averageSpeed {D : va_G} {dA : Nat → ClassId} {ad : Nat → Nat} {aL aG aI : Nat} {aK aV : Nat → Nat} (l : Launch) (hinj : ∀ i j, i < NX → j < NX → ad i = ad j → i = j) (sz : Nat) {K : Int → zSt → Prop} {σ : zSt} {x0 : Int} {x1 : Int} (hf : fX10_averageSpeed K σ x0 x1) : Met l yX10_averageSpeed (Cond.code yX10_averageSpeed cX10_averageSpeed 4 (some .int) :: UW) ({ frames := 2, cells := 0, slots := 0, locals := 53 } : Room) (va_Pc [vR ad x0, vI x1] (zPre D vwCl (tyA dA) (zXX aL aG aI aK aV) NX ad (celX ad dA) sz σ)) (va_Qi (zPi K) (zB D vwCl (tyA dA) NX ad (celX ad dA)) (zA ad NX sz)) 0 0 (zA ad NX sz) := by
  refine z_enter (cc := cX10_averageSpeed) (maxL := 4) (ret := (some .int)) (vs := [vR ad x0, vI x1]) (plainFor_of_name (by decide)) rfl hinj (Nat.le_of_ble_eq_true rfl) ?_
  intro p e s m args below meth c hC hE hsz hr hnm
  obtain ⟨qx0, hf⟩ := hf
  show zAt p l e ({ frames := 2, cells := 0, slots := 0, locals := 53 } : Room) s m args below meth c 0 0 (MQ below (va_Qi (zPi K) (zB D vwCl (tyA dA) NX ad (celX ad dA)) (zA ad NX sz)) args s 0 0 (zA ad NX sz)) 4 D vwCl (zA ad NX sz) NX ad (celX ad dA) 0 [(0, vR ad x0), (1, vI x1)] [] σ
  refine z_iconst hC dX10_averageSpeed_0 ?_
  refine z_istore_n hC ([(2, vI 0), (0, vR ad x0), (1, vI x1)]) dX10_averageSpeed_1 rfl (by decide) rfl ?_
  refine z_iconst hC dX10_averageSpeed_2 ?_
  refine z_istore_n hC ([(3, vI 0), (2, vI 0), (0, vR ad x0), (1, vI x1)]) dX10_averageSpeed_3 rfl (by decide) rfl ?_
  refine z_sub (lv' := [(0, vR ad x0), (1, vI x1), (2, vI 0), (3, vI 0)]) [2, 3, 1, 0] rfl ?_
  obtain ⟨n, hf⟩ := hf
  exact wX10_averageSpeed_B4 hC hE hr hinj n _ _ _ _ _ qx0 hf

-- ===== X10_isFast
def fX10_isFast (K : Int → zSt → Prop) (σ : zSt) (x0 : Int) (x1 : Int) (x2 : Int) (x3 : Int) : Prop :=
  kX x0 = 10 ∧ fX10_hasSegment (fun r1 σ1 => zrg r1 ∧ ((r1 = 0 → K 0 σ1) ∧ (¬ r1 = 0 → fX10_speedOf (fun r3 σ3 => zrg r3 ∧ zrg x3 ∧ ((r3 < x3 → K 0 σ3) ∧ (¬ r3 < x3 → K 1 σ3))) σ1 x0 x1 x2))) σ x0 x1
set_option maxHeartbeats 4000000 in
set_option maxRecDepth 100000 in
theorem mX10_isFast {D : va_G} {dA : Nat → ClassId} {ad : Nat → Nat} {aL aG aI : Nat} {aK aV : Nat → Nat} (l : Launch) (hinj : ∀ i j, i < NX → j < NX → ad i = ad j → i = j) (sz : Nat) {K : Int → zSt → Prop} {σ : zSt} {x0 : Int} {x1 : Int} {x2 : Int} {x3 : Int} (hf : fX10_isFast K σ x0 x1 x2 x3) : Met l yX10_isFast (Cond.code yX10_isFast cX10_isFast 4 (some .boolean) :: UW) ({ frames := 3, cells := 0, slots := 0, locals := 75 } : Room) (va_Pc [vR ad x0, vI x1, vI x2, vI x3] (zPre D vwCl (tyA dA) (zXX aL aG aI aK aV) NX ad (celX ad dA) sz σ)) (va_Qi (zPi K) (zB D vwCl (tyA dA) NX ad (celX ad dA)) (zA ad NX sz)) 0 0 (zA ad NX sz) := by
  refine z_enter (cc := cX10_isFast) (maxL := 4) (ret := (some .boolean)) (vs := [vR ad x0, vI x1, vI x2, vI x3]) (plainFor_of_name (by decide)) rfl hinj (Nat.le_of_ble_eq_true rfl) ?_
  intro p e s m args below meth c hC hE hsz hr hnm
  obtain ⟨qx0, hf⟩ := hf
  show zAt p l e ({ frames := 3, cells := 0, slots := 0, locals := 75 } : Room) s m args below meth c 0 0 (MQ below (va_Qi (zPi K) (zB D vwCl (tyA dA) NX ad (celX ad dA)) (zA ad NX sz)) args s 0 0 (zA ad NX sz)) 4 D vwCl (zA ad NX sz) NX ad (celX ad dA) 0 [(0, vR ad x0), (1, vI x1), (2, vI x2), (3, vI x3)] [] σ
  refine z_aload_n hC dX10_isFast_0 0 rfl rfl ?_
  refine z_iload_n hC dX10_isFast_1 1 rfl rfl ?_
  refine z_callVi hC hE (oX_10 qx0) [vI x1] (fun sz2 => mX10_hasSegment l hinj sz2 hf) (cwV 1 hC.1.2.2.2.2 (uV (uT _) u919 u920 u921 u117 u922) rfl rfl rfl (by decide +kernel) ⟨Nat.le_of_ble_eq_true rfl, Nat.le_of_ble_eq_true rfl⟩) rfl rfl (Nat.le_of_ble_eq_true rfl) ⟨Nat.le_of_ble_eq_true rfl, Nat.le_of_ble_eq_true rfl⟩ dX10_isFast_2 (fun r1 σ1 hf => ?_)
  obtain ⟨g2, hf⟩ := hf
  refine z_if_eq (tgt := 22) hC dX10_isFast_5 (by decide) g2 (fun hc => ?_) (fun hc => ?_)
  · replace hf := hf.1 hc
    refine z_iconst hC dX10_isFast_22 ?_
    exact z_bret hC hr rfl dX10_isFast_23 (Or.inl rfl) hf
  · replace hf := hf.2 hc
    refine z_aload_n hC dX10_isFast_8 0 rfl rfl ?_
    refine z_iload_n hC dX10_isFast_9 1 rfl rfl ?_
    refine z_iload_n hC dX10_isFast_10 2 rfl rfl ?_
    refine z_callVi hC hE (oX_10 qx0) [vI x1, vI x2] (fun sz2 => mX10_speedOf l hinj sz2 hf) (cwV 2 hC.1.2.2.2.2 (uV (uT _) u1362 u1326 u1327 u117 u1328) rfl rfl rfl (by decide +kernel) ⟨Nat.le_of_ble_eq_true rfl, Nat.le_of_ble_eq_true rfl⟩) rfl rfl (Nat.le_of_ble_eq_true rfl) ⟨Nat.le_of_ble_eq_true rfl, Nat.le_of_ble_eq_true rfl⟩ dX10_isFast_11 (fun r3 σ3 hf => ?_)
    refine z_iload_n hC dX10_isFast_14 3 rfl rfl ?_
    obtain ⟨g4, hf⟩ := hf
    obtain ⟨g5, hf⟩ := hf
    refine z_icmp_lt (tgt := 22) hC dX10_isFast_15 (by decide) g4 g5 (fun hc => ?_) (fun hc => ?_)
    · replace hf := hf.1 hc
      refine z_iconst hC dX10_isFast_22 ?_
      exact z_bret hC hr rfl dX10_isFast_23 (Or.inl rfl) hf
    · replace hf := hf.2 hc
      refine z_iconst hC dX10_isFast_18 ?_
      refine z_goto (tgt := 23) hC dX10_isFast_19 (by decide) ?_
      exact z_bret hC hr rfl dX10_isFast_23 (Or.inr rfl) hf

-- ===== X10_beginsSurge
def fX10_beginsSurge (K : Int → zSt → Prop) (σ : zSt) (x0 : Int) (x1 : Int) (x2 : Int) (x3 : Int) : Prop :=
  kX x0 = 10 ∧ fX10_isFast (fun r1 σ1 => zrg r1 ∧ ((r1 = 0 → K 0 σ1) ∧ (¬ r1 = 0 → fX10_isFast (fun r3 σ3 => zrg r3 ∧ ((r3 = 0 → K 1 σ3) ∧ (¬ r3 = 0 → K 0 σ3))) σ1 x0 (x1 - 1) x2 x3))) σ x0 x1 x2 x3
set_option maxHeartbeats 4000000 in
set_option maxRecDepth 100000 in
theorem mX10_beginsSurge {D : va_G} {dA : Nat → ClassId} {ad : Nat → Nat} {aL aG aI : Nat} {aK aV : Nat → Nat} (l : Launch) (hinj : ∀ i j, i < NX → j < NX → ad i = ad j → i = j) (sz : Nat) {K : Int → zSt → Prop} {σ : zSt} {x0 : Int} {x1 : Int} {x2 : Int} {x3 : Int} (hf : fX10_beginsSurge K σ x0 x1 x2 x3) : Met l yX10_beginsSurge (Cond.code yX10_beginsSurge cX10_beginsSurge 4 (some .boolean) :: UW) ({ frames := 4, cells := 0, slots := 0, locals := 98 } : Room) (va_Pc [vR ad x0, vI x1, vI x2, vI x3] (zPre D vwCl (tyA dA) (zXX aL aG aI aK aV) NX ad (celX ad dA) sz σ)) (va_Qi (zPi K) (zB D vwCl (tyA dA) NX ad (celX ad dA)) (zA ad NX sz)) 0 0 (zA ad NX sz) := by
  refine z_enter (cc := cX10_beginsSurge) (maxL := 4) (ret := (some .boolean)) (vs := [vR ad x0, vI x1, vI x2, vI x3]) (plainFor_of_name (by decide)) rfl hinj (Nat.le_of_ble_eq_true rfl) ?_
  intro p e s m args below meth c hC hE hsz hr hnm
  obtain ⟨qx0, hf⟩ := hf
  show zAt p l e ({ frames := 4, cells := 0, slots := 0, locals := 98 } : Room) s m args below meth c 0 0 (MQ below (va_Qi (zPi K) (zB D vwCl (tyA dA) NX ad (celX ad dA)) (zA ad NX sz)) args s 0 0 (zA ad NX sz)) 4 D vwCl (zA ad NX sz) NX ad (celX ad dA) 0 [(0, vR ad x0), (1, vI x1), (2, vI x2), (3, vI x3)] [] σ
  refine z_aload_n hC dX10_beginsSurge_0 0 rfl rfl ?_
  refine z_iload_n hC dX10_beginsSurge_1 1 rfl rfl ?_
  refine z_iload_n hC dX10_beginsSurge_2 2 rfl rfl ?_
  refine z_iload_n hC dX10_beginsSurge_3 3 rfl rfl ?_
  refine z_callVi hC hE (oX_10 qx0) [vI x1, vI x2, vI x3] (fun sz2 => mX10_isFast l hinj sz2 hf) (cwV 3 hC.1.2.2.2.2 (uV (uT _) u1358 u1360 u35 u117 u1361) rfl rfl rfl (by decide +kernel) ⟨Nat.le_of_ble_eq_true rfl, Nat.le_of_ble_eq_true rfl⟩) rfl rfl (Nat.le_of_ble_eq_true rfl) ⟨Nat.le_of_ble_eq_true rfl, Nat.le_of_ble_eq_true rfl⟩ dX10_beginsSurge_4 (fun r1 σ1 hf => ?_)
  obtain ⟨g2, hf⟩ := hf
  refine z_if_eq (tgt := 26) hC dX10_beginsSurge_7 (by decide) g2 (fun hc => ?_) (fun hc => ?_)
  · replace hf := hf.1 hc
    refine z_iconst hC dX10_beginsSurge_26 ?_
    exact z_bret hC hr rfl dX10_beginsSurge_27 (Or.inl rfl) hf
  · replace hf := hf.2 hc
    refine z_aload_n hC dX10_beginsSurge_10 0 rfl rfl ?_
    refine z_iload_n hC dX10_beginsSurge_11 1 rfl rfl ?_
    refine z_iconst hC dX10_beginsSurge_12 ?_
    refine z_isub hC dX10_beginsSurge_13 ?_
    refine z_iload_n hC dX10_beginsSurge_14 2 rfl rfl ?_
    refine z_iload_n hC dX10_beginsSurge_15 3 rfl rfl ?_
    refine z_callVi hC hE (oX_10 qx0) [vI (x1 - 1), vI x2, vI x3] (fun sz2 => mX10_isFast l hinj sz2 hf) (cwV 3 hC.1.2.2.2.2 (uV (uT _) u1358 u1360 u35 u117 u1361) rfl rfl rfl (by decide +kernel) ⟨Nat.le_of_ble_eq_true rfl, Nat.le_of_ble_eq_true rfl⟩) rfl rfl (Nat.le_of_ble_eq_true rfl) ⟨Nat.le_of_ble_eq_true rfl, Nat.le_of_ble_eq_true rfl⟩ dX10_beginsSurge_16 (fun r3 σ3 hf => ?_)
    obtain ⟨g4, hf⟩ := hf
    refine z_if_ne (tgt := 26) hC dX10_beginsSurge_19 (by decide) g4 (fun hc => ?_) (fun hc => ?_)
    · replace hf := hf.2 hc
      refine z_iconst hC dX10_beginsSurge_26 ?_
      exact z_bret hC hr rfl dX10_beginsSurge_27 (Or.inl rfl) hf
    · replace hf := hf.1 hc
      refine z_iconst hC dX10_beginsSurge_22 ?_
      refine z_goto (tgt := 27) hC dX10_beginsSurge_23 (by decide) ?_
      exact z_bret hC hr rfl dX10_beginsSurge_27 (Or.inr rfl) hf

-- ===== X10_surges
noncomputable def fX10_surges_B5 (K : Int → zSt → Prop) (n : Nat) : zSt → Int → Int → Int → Int → Int → Prop :=
  Nat.rec (motive := fun _ => zSt → Int → Int → Int → Int → Int → Prop) (fun _ _ _ _ _ _ => False) (fun _ ih σ x0 x1 x2 x3 x4 => fX10_segments (fun r1 σ1 => zrg x4 ∧ zrg r1 ∧ ((r1 ≤ x4 → K x3 σ1) ∧ (¬ r1 ≤ x4 → fX10_beginsSurge (fun r4 σ4 => zrg r4 ∧ ((r4 = 0 → ih σ4 x0 x1 x2 x3 (x4 + 1)) ∧ (¬ r4 = 0 → ih σ4 x0 x1 x2 (x3 + 1) (x4 + 1)))) σ1 x0 x4 x1 x2))) σ x0) n
theorem uX10_surges_B5 (K : Int → zSt → Prop) (n0 : Nat) (σ : zSt) (x0 : Int) (x1 : Int) (x2 : Int) (x3 : Int) (x4 : Int) : fX10_surges_B5 K (n0 + 1) σ x0 x1 x2 x3 x4 = (fX10_segments (fun r1 σ1 => zrg x4 ∧ zrg r1 ∧ ((r1 ≤ x4 → K x3 σ1) ∧ (¬ r1 ≤ x4 → fX10_beginsSurge (fun r4 σ4 => zrg r4 ∧ ((r4 = 0 → (fX10_surges_B5 K n0) σ4 x0 x1 x2 x3 (x4 + 1)) ∧ (¬ r4 = 0 → (fX10_surges_B5 K n0) σ4 x0 x1 x2 (x3 + 1) (x4 + 1)))) σ1 x0 x4 x1 x2))) σ x0) := rfl
def fX10_surges (K : Int → zSt → Prop) (σ : zSt) (x0 : Int) (x1 : Int) (x2 : Int) : Prop :=
  kX x0 = 10 ∧ (∃ n, fX10_surges_B5 K n σ x0 x1 x2 0 0)
set_option maxHeartbeats 4000000 in
set_option maxRecDepth 100000 in
theorem wX10_surges_B5 {p : Program} {l : Launch} {e : Env} {s : State} {m : MethodId} {args : Array Value} {below : List Frame} {meth : Method} {c : Code} {D : va_G} {dA : Nat → ClassId} {ad : Nat → Nat} {sz : Nat} {aL aG aI : Nat} {aK aV : Nat → Nat} {K : Int → zSt → Prop} (hC : zC p m c cX10_surges 5 s args (Cond.code yX10_surges cX10_surges 5 (some .int) :: UW) RX10 meth D vwCl (tyA dA) (zA ad NX sz) NX ad (celX ad dA)) (hE : zE (zXX aL aG aI aK aV) (zA ad NX sz) s s.heap) (hr : meth.sig.returnType = (some .int)) (hinj : ∀ i j, i < NX → j < NX → ad i = ad j → i = j) : ∀ (n : Nat) (σ : zSt) (x0 : Int) (x1 : Int) (x2 : Int) (x3 : Int) (x4 : Int) (qx0 : kX x0 = 10), fX10_surges_B5 K n σ x0 x1 x2 x3 x4 → zAt p l e ({ frames := 5, cells := 0, slots := 0, locals := 121 } : Room) s m args below meth c 0 0 (MQ below (va_Qi (zPi K) (zB D vwCl (tyA dA) NX ad (celX ad dA)) (zA ad NX sz)) args s 0 0 (zA ad NX sz)) 5 D vwCl (zA ad NX sz) NX ad (celX ad dA) 5 [(0, vR ad x0), (1, vI x1), (2, vI x2), (3, vI x3), (4, vI x4)] [] σ := by
  intro n
  induction n with
  | zero => intro σ x0 x1 x2 x3 x4 qx0 hf; exact False.elim hf
  | succ n ih =>
    intro σ x0 x1 x2 x3 x4 qx0 hf
    rw [uX10_surges_B5] at hf
    refine z_iload hC dX10_surges_5 4 rfl ?_
    refine z_aload_n hC dX10_surges_7 0 rfl rfl ?_
    refine z_callVi hC hE (oX_10 qx0) [] (fun sz2 => mX10_segments l hinj sz2 hf) (cwV 0 hC.1.2.2.2.2 (uV (uT _) u911 u912 u913 u117 u914) rfl rfl rfl (by decide +kernel) ⟨Nat.le_of_ble_eq_true rfl, Nat.le_of_ble_eq_true rfl⟩) rfl rfl (Nat.le_of_ble_eq_true rfl) ⟨Nat.le_of_ble_eq_true rfl, Nat.le_of_ble_eq_true rfl⟩ dX10_surges_8 (fun r1 σ1 hf => ?_)
    obtain ⟨g2, hf⟩ := hf
    obtain ⟨g3, hf⟩ := hf
    refine z_icmp_ge (tgt := 34) hC dX10_surges_11 (by decide) g2 g3 (fun hc => ?_) (fun hc => ?_)
    · replace hf := hf.1 hc
      refine z_iload_n hC dX10_surges_34 3 rfl rfl ?_
      exact z_iret hC hr rfl dX10_surges_35 hf
    · replace hf := hf.2 hc
      refine z_aload_n hC dX10_surges_14 0 rfl rfl ?_
      refine z_iload hC dX10_surges_15 4 rfl ?_
      refine z_iload_n hC dX10_surges_17 1 rfl rfl ?_
      refine z_iload_n hC dX10_surges_18 2 rfl rfl ?_
      refine z_callVi hC hE (oX_10 qx0) [vI x4, vI x1, vI x2] (fun sz2 => mX10_beginsSurge l hinj sz2 hf) (cwV 3 hC.1.2.2.2.2 (uV (uT _) u1354 u1356 u34 u117 u1357) rfl rfl rfl (by decide +kernel) ⟨Nat.le_of_ble_eq_true rfl, Nat.le_of_ble_eq_true rfl⟩) rfl rfl (Nat.le_of_ble_eq_true rfl) ⟨Nat.le_of_ble_eq_true rfl, Nat.le_of_ble_eq_true rfl⟩ dX10_surges_19 (fun r4 σ4 hf => ?_)
      obtain ⟨g5, hf⟩ := hf
      refine z_if_eq (tgt := 28) hC dX10_surges_22 (by decide) g5 (fun hc => ?_) (fun hc => ?_)
      · replace hf := hf.1 hc
        refine z_iinc hC ([(4, vI (x4 + 1)), (0, vR ad x0), (1, vI x1), (2, vI x2), (3, vI x3)]) dX10_surges_28 4 rfl (by decide) rfl ?_
        refine z_goto (tgt := 5) hC dX10_surges_31 (by decide) ?_
        refine z_sub (lv' := [(0, vR ad x0), (1, vI x1), (2, vI x2), (3, vI x3), (4, vI (x4 + 1))]) [1, 2, 3, 4, 0] rfl ?_
        exact ih _ _ _ _ _ _ qx0 hf
      · replace hf := hf.2 hc
        refine z_iinc hC ([(3, vI (x3 + 1)), (0, vR ad x0), (1, vI x1), (2, vI x2), (4, vI x4)]) dX10_surges_25 3 rfl (by decide) rfl ?_
        refine z_iinc hC ([(4, vI (x4 + 1)), (3, vI (x3 + 1)), (0, vR ad x0), (1, vI x1), (2, vI x2)]) dX10_surges_28 4 rfl (by decide) rfl ?_
        refine z_goto (tgt := 5) hC dX10_surges_31 (by decide) ?_
        refine z_sub (lv' := [(0, vR ad x0), (1, vI x1), (2, vI x2), (3, vI (x3 + 1)), (4, vI (x4 + 1))]) [2, 3, 4, 1, 0] rfl ?_
        exact ih _ _ _ _ _ _ qx0 hf
set_option maxHeartbeats 4000000 in
set_option maxRecDepth 100000 in
theorem mX10_surges {D : va_G} {dA : Nat → ClassId} {ad : Nat → Nat} {aL aG aI : Nat} {aK aV : Nat → Nat} (l : Launch) (hinj : ∀ i j, i < NX → j < NX → ad i = ad j → i = j) (sz : Nat) {K : Int → zSt → Prop} {σ : zSt} {x0 : Int} {x1 : Int} {x2 : Int} (hf : fX10_surges K σ x0 x1 x2) : Met l yX10_surges (Cond.code yX10_surges cX10_surges 5 (some .int) :: UW) ({ frames := 5, cells := 0, slots := 0, locals := 121 } : Room) (va_Pc [vR ad x0, vI x1, vI x2] (zPre D vwCl (tyA dA) (zXX aL aG aI aK aV) NX ad (celX ad dA) sz σ)) (va_Qi (zPi K) (zB D vwCl (tyA dA) NX ad (celX ad dA)) (zA ad NX sz)) 0 0 (zA ad NX sz) := by
  refine z_enter (cc := cX10_surges) (maxL := 5) (ret := (some .int)) (vs := [vR ad x0, vI x1, vI x2]) (plainFor_of_name (by decide)) rfl hinj (Nat.le_of_ble_eq_true rfl) ?_
  intro p e s m args below meth c hC hE hsz hr hnm
  obtain ⟨qx0, hf⟩ := hf
  show zAt p l e ({ frames := 5, cells := 0, slots := 0, locals := 121 } : Room) s m args below meth c 0 0 (MQ below (va_Qi (zPi K) (zB D vwCl (tyA dA) NX ad (celX ad dA)) (zA ad NX sz)) args s 0 0 (zA ad NX sz)) 5 D vwCl (zA ad NX sz) NX ad (celX ad dA) 0 [(0, vR ad x0), (1, vI x1), (2, vI x2)] [] σ
  refine z_iconst hC dX10_surges_0 ?_
  refine z_istore_n hC ([(3, vI 0), (0, vR ad x0), (1, vI x1), (2, vI x2)]) dX10_surges_1 rfl (by decide) rfl ?_
  refine z_iconst hC dX10_surges_2 ?_
  refine z_istore hC ([(4, vI 0), (3, vI 0), (0, vR ad x0), (1, vI x1), (2, vI x2)]) dX10_surges_3 (by decide) rfl ?_
  refine z_sub (lv' := [(0, vR ad x0), (1, vI x1), (2, vI x2), (3, vI 0), (4, vI 0)]) [2, 3, 4, 1, 0] rfl ?_
  obtain ⟨n, hf⟩ := hf
  exact wX10_surges_B5 hC hE hr hinj n _ _ _ _ _ _ qx0 hf

-- ===== X10_surgeBegin
noncomputable def fX10_surgeBegin_B6 (K : Int → zSt → Prop) (n : Nat) : zSt → Int → Int → Int → Int → Int → Int → Prop :=
  Nat.rec (motive := fun _ => zSt → Int → Int → Int → Int → Int → Int → Prop) (fun _ _ _ _ _ _ _ => False) (fun _ ih σ x0 x1 x2 x3 x4 x5 => fX10_segments (fun r1 σ1 => zrg x5 ∧ zrg r1 ∧ ((r1 ≤ x5 → K (-1) σ1) ∧ (¬ r1 ≤ x5 → fX10_beginsSurge (fun r4 σ4 => zrg r4 ∧ ((r4 = 0 → ih σ4 x0 x1 x2 x3 x4 (x5 + 1)) ∧ (¬ r4 = 0 → zrg x4 ∧ zrg x1 ∧ ((x4 = x1 → K x5 σ4) ∧ (¬ x4 = x1 → ih σ4 x0 x1 x2 x3 (x4 + 1) (x5 + 1)))))) σ1 x0 x5 x2 x3))) σ x0) n
theorem uX10_surgeBegin_B6 (K : Int → zSt → Prop) (n0 : Nat) (σ : zSt) (x0 : Int) (x1 : Int) (x2 : Int) (x3 : Int) (x4 : Int) (x5 : Int) : fX10_surgeBegin_B6 K (n0 + 1) σ x0 x1 x2 x3 x4 x5 = (fX10_segments (fun r1 σ1 => zrg x5 ∧ zrg r1 ∧ ((r1 ≤ x5 → K (-1) σ1) ∧ (¬ r1 ≤ x5 → fX10_beginsSurge (fun r4 σ4 => zrg r4 ∧ ((r4 = 0 → (fX10_surgeBegin_B6 K n0) σ4 x0 x1 x2 x3 x4 (x5 + 1)) ∧ (¬ r4 = 0 → zrg x4 ∧ zrg x1 ∧ ((x4 = x1 → K x5 σ4) ∧ (¬ x4 = x1 → (fX10_surgeBegin_B6 K n0) σ4 x0 x1 x2 x3 (x4 + 1) (x5 + 1)))))) σ1 x0 x5 x2 x3))) σ x0) := rfl
def fX10_surgeBegin (K : Int → zSt → Prop) (σ : zSt) (x0 : Int) (x1 : Int) (x2 : Int) (x3 : Int) : Prop :=
  kX x0 = 10 ∧ (∃ n, fX10_surgeBegin_B6 K n σ x0 x1 x2 x3 0 0)
set_option maxHeartbeats 4000000 in
set_option maxRecDepth 100000 in
theorem wX10_surgeBegin_B6 {p : Program} {l : Launch} {e : Env} {s : State} {m : MethodId} {args : Array Value} {below : List Frame} {meth : Method} {c : Code} {D : va_G} {dA : Nat → ClassId} {ad : Nat → Nat} {sz : Nat} {aL aG aI : Nat} {aK aV : Nat → Nat} {K : Int → zSt → Prop} (hC : zC p m c cX10_surgeBegin 6 s args (Cond.code yX10_surgeBegin cX10_surgeBegin 6 (some .int) :: UW) RX10 meth D vwCl (tyA dA) (zA ad NX sz) NX ad (celX ad dA)) (hE : zE (zXX aL aG aI aK aV) (zA ad NX sz) s s.heap) (hr : meth.sig.returnType = (some .int)) (hinj : ∀ i j, i < NX → j < NX → ad i = ad j → i = j) : ∀ (n : Nat) (σ : zSt) (x0 : Int) (x1 : Int) (x2 : Int) (x3 : Int) (x4 : Int) (x5 : Int) (qx0 : kX x0 = 10), fX10_surgeBegin_B6 K n σ x0 x1 x2 x3 x4 x5 → zAt p l e ({ frames := 5, cells := 0, slots := 0, locals := 121 } : Room) s m args below meth c 0 0 (MQ below (va_Qi (zPi K) (zB D vwCl (tyA dA) NX ad (celX ad dA)) (zA ad NX sz)) args s 0 0 (zA ad NX sz)) 6 D vwCl (zA ad NX sz) NX ad (celX ad dA) 6 [(0, vR ad x0), (1, vI x1), (2, vI x2), (3, vI x3), (4, vI x4), (5, vI x5)] [] σ := by
  intro n
  induction n with
  | zero => intro σ x0 x1 x2 x3 x4 x5 qx0 hf; exact False.elim hf
  | succ n ih =>
    intro σ x0 x1 x2 x3 x4 x5 qx0 hf
    rw [uX10_surgeBegin_B6] at hf
    refine z_iload hC dX10_surgeBegin_6 5 rfl ?_
    refine z_aload_n hC dX10_surgeBegin_8 0 rfl rfl ?_
    refine z_callVi hC hE (oX_10 qx0) [] (fun sz2 => mX10_segments l hinj sz2 hf) (cwV 0 hC.1.2.2.2.2 (uV (uT _) u911 u912 u913 u117 u914) rfl rfl rfl (by decide +kernel) ⟨Nat.le_of_ble_eq_true rfl, Nat.le_of_ble_eq_true rfl⟩) rfl rfl (Nat.le_of_ble_eq_true rfl) ⟨Nat.le_of_ble_eq_true rfl, Nat.le_of_ble_eq_true rfl⟩ dX10_surgeBegin_9 (fun r1 σ1 hf => ?_)
    obtain ⟨g2, hf⟩ := hf
    obtain ⟨g3, hf⟩ := hf
    refine z_icmp_ge (tgt := 44) hC dX10_surgeBegin_12 (by decide) g2 g3 (fun hc => ?_) (fun hc => ?_)
    · replace hf := hf.1 hc
      refine z_iconst hC dX10_surgeBegin_44 ?_
      exact z_iret hC hr rfl dX10_surgeBegin_45 hf
    · replace hf := hf.2 hc
      refine z_aload_n hC dX10_surgeBegin_15 0 rfl rfl ?_
      refine z_iload hC dX10_surgeBegin_16 5 rfl ?_
      refine z_iload_n hC dX10_surgeBegin_18 2 rfl rfl ?_
      refine z_iload_n hC dX10_surgeBegin_19 3 rfl rfl ?_
      refine z_callVi hC hE (oX_10 qx0) [vI x5, vI x2, vI x3] (fun sz2 => mX10_beginsSurge l hinj sz2 hf) (cwV 3 hC.1.2.2.2.2 (uV (uT _) u1354 u1356 u34 u117 u1357) rfl rfl rfl (by decide +kernel) ⟨Nat.le_of_ble_eq_true rfl, Nat.le_of_ble_eq_true rfl⟩) rfl rfl (Nat.le_of_ble_eq_true rfl) ⟨Nat.le_of_ble_eq_true rfl, Nat.le_of_ble_eq_true rfl⟩ dX10_surgeBegin_20 (fun r4 σ4 hf => ?_)
      obtain ⟨g5, hf⟩ := hf
      refine z_if_eq (tgt := 38) hC dX10_surgeBegin_23 (by decide) g5 (fun hc => ?_) (fun hc => ?_)
      · replace hf := hf.1 hc
        refine z_iinc hC ([(5, vI (x5 + 1)), (0, vR ad x0), (1, vI x1), (2, vI x2), (3, vI x3), (4, vI x4)]) dX10_surgeBegin_38 5 rfl (by decide) rfl ?_
        refine z_goto (tgt := 6) hC dX10_surgeBegin_41 (by decide) ?_
        refine z_sub (lv' := [(0, vR ad x0), (1, vI x1), (2, vI x2), (3, vI x3), (4, vI x4), (5, vI (x5 + 1))]) [1, 2, 3, 4, 5, 0] rfl ?_
        exact ih _ _ _ _ _ _ _ qx0 hf
      · replace hf := hf.2 hc
        refine z_iload hC dX10_surgeBegin_26 4 rfl ?_
        refine z_iload_n hC dX10_surgeBegin_28 1 rfl rfl ?_
        obtain ⟨g6, hf⟩ := hf
        obtain ⟨g7, hf⟩ := hf
        refine z_icmp_ne (tgt := 35) hC dX10_surgeBegin_29 (by decide) g6 g7 (fun hc => ?_) (fun hc => ?_)
        · replace hf := hf.2 hc
          refine z_iinc hC ([(4, vI (x4 + 1)), (0, vR ad x0), (1, vI x1), (2, vI x2), (3, vI x3), (5, vI x5)]) dX10_surgeBegin_35 4 rfl (by decide) rfl ?_
          refine z_iinc hC ([(5, vI (x5 + 1)), (4, vI (x4 + 1)), (0, vR ad x0), (1, vI x1), (2, vI x2), (3, vI x3)]) dX10_surgeBegin_38 5 rfl (by decide) rfl ?_
          refine z_goto (tgt := 6) hC dX10_surgeBegin_41 (by decide) ?_
          refine z_sub (lv' := [(0, vR ad x0), (1, vI x1), (2, vI x2), (3, vI x3), (4, vI (x4 + 1)), (5, vI (x5 + 1))]) [2, 3, 4, 5, 1, 0] rfl ?_
          exact ih _ _ _ _ _ _ _ qx0 hf
        · replace hf := hf.1 hc
          refine z_iload hC dX10_surgeBegin_32 5 rfl ?_
          exact z_iret hC hr rfl dX10_surgeBegin_34 hf
set_option maxHeartbeats 4000000 in
set_option maxRecDepth 100000 in
theorem mX10_surgeBegin {D : va_G} {dA : Nat → ClassId} {ad : Nat → Nat} {aL aG aI : Nat} {aK aV : Nat → Nat} (l : Launch) (hinj : ∀ i j, i < NX → j < NX → ad i = ad j → i = j) (sz : Nat) {K : Int → zSt → Prop} {σ : zSt} {x0 : Int} {x1 : Int} {x2 : Int} {x3 : Int} (hf : fX10_surgeBegin K σ x0 x1 x2 x3) : Met l yX10_surgeBegin (Cond.code yX10_surgeBegin cX10_surgeBegin 6 (some .int) :: UW) ({ frames := 5, cells := 0, slots := 0, locals := 121 } : Room) (va_Pc [vR ad x0, vI x1, vI x2, vI x3] (zPre D vwCl (tyA dA) (zXX aL aG aI aK aV) NX ad (celX ad dA) sz σ)) (va_Qi (zPi K) (zB D vwCl (tyA dA) NX ad (celX ad dA)) (zA ad NX sz)) 0 0 (zA ad NX sz) := by
  refine z_enter (cc := cX10_surgeBegin) (maxL := 6) (ret := (some .int)) (vs := [vR ad x0, vI x1, vI x2, vI x3]) (plainFor_of_name (by decide)) rfl hinj (Nat.le_of_ble_eq_true rfl) ?_
  intro p e s m args below meth c hC hE hsz hr hnm
  obtain ⟨qx0, hf⟩ := hf
  show zAt p l e ({ frames := 5, cells := 0, slots := 0, locals := 121 } : Room) s m args below meth c 0 0 (MQ below (va_Qi (zPi K) (zB D vwCl (tyA dA) NX ad (celX ad dA)) (zA ad NX sz)) args s 0 0 (zA ad NX sz)) 6 D vwCl (zA ad NX sz) NX ad (celX ad dA) 0 [(0, vR ad x0), (1, vI x1), (2, vI x2), (3, vI x3)] [] σ
  refine z_iconst hC dX10_surgeBegin_0 ?_
  refine z_istore hC ([(4, vI 0), (0, vR ad x0), (1, vI x1), (2, vI x2), (3, vI x3)]) dX10_surgeBegin_1 (by decide) rfl ?_
  refine z_iconst hC dX10_surgeBegin_3 ?_
  refine z_istore hC ([(5, vI 0), (4, vI 0), (0, vR ad x0), (1, vI x1), (2, vI x2), (3, vI x3)]) dX10_surgeBegin_4 (by decide) rfl ?_
  refine z_sub (lv' := [(0, vR ad x0), (1, vI x1), (2, vI x2), (3, vI x3), (4, vI 0), (5, vI 0)]) [2, 3, 4, 5, 1, 0] rfl ?_
  obtain ⟨n, hf⟩ := hf
  exact wX10_surgeBegin_B6 hC hE hr hinj n _ _ _ _ _ _ _ qx0 hf

-- ===== X10_surgeEnd
noncomputable def fX10_surgeEnd_B3 (K : Int → zSt → Prop) (n : Nat) : zSt → Int → Int → Int → Int → Prop :=
  Nat.rec (motive := fun _ => zSt → Int → Int → Int → Int → Prop) (fun _ _ _ _ _ => False) (fun _ ih σ x0 x2 x3 x4 => fX10_segments (fun r1 σ1 => zrg x4 ∧ zrg r1 ∧ ((r1 ≤ x4 → K x4 σ1) ∧ (¬ r1 ≤ x4 → fX10_isFast (fun r4 σ4 => zrg r4 ∧ ((r4 = 0 → K x4 σ4) ∧ (¬ r4 = 0 → ih σ4 x0 x2 x3 (x4 + 1)))) σ1 x0 x4 x2 x3))) σ x0) n
theorem uX10_surgeEnd_B3 (K : Int → zSt → Prop) (n0 : Nat) (σ : zSt) (x0 : Int) (x2 : Int) (x3 : Int) (x4 : Int) : fX10_surgeEnd_B3 K (n0 + 1) σ x0 x2 x3 x4 = (fX10_segments (fun r1 σ1 => zrg x4 ∧ zrg r1 ∧ ((r1 ≤ x4 → K x4 σ1) ∧ (¬ r1 ≤ x4 → fX10_isFast (fun r4 σ4 => zrg r4 ∧ ((r4 = 0 → K x4 σ4) ∧ (¬ r4 = 0 → (fX10_surgeEnd_B3 K n0) σ4 x0 x2 x3 (x4 + 1)))) σ1 x0 x4 x2 x3))) σ x0) := rfl
def fX10_surgeEnd (K : Int → zSt → Prop) (σ : zSt) (x0 : Int) (x1 : Int) (x2 : Int) (x3 : Int) : Prop :=
  kX x0 = 10 ∧ (∃ n, fX10_surgeEnd_B3 K n σ x0 x2 x3 x1)
set_option maxHeartbeats 4000000 in
set_option maxRecDepth 100000 in
theorem wX10_surgeEnd_B3 {p : Program} {l : Launch} {e : Env} {s : State} {m : MethodId} {args : Array Value} {below : List Frame} {meth : Method} {c : Code} {D : va_G} {dA : Nat → ClassId} {ad : Nat → Nat} {sz : Nat} {aL aG aI : Nat} {aK aV : Nat → Nat} {K : Int → zSt → Prop} (hC : zC p m c cX10_surgeEnd 5 s args (Cond.code yX10_surgeEnd cX10_surgeEnd 5 (some .int) :: UW) RX10 meth D vwCl (tyA dA) (zA ad NX sz) NX ad (celX ad dA)) (hE : zE (zXX aL aG aI aK aV) (zA ad NX sz) s s.heap) (hr : meth.sig.returnType = (some .int)) (hinj : ∀ i j, i < NX → j < NX → ad i = ad j → i = j) : ∀ (n : Nat) (σ : zSt) (x0 : Int) (x2 : Int) (x3 : Int) (x4 : Int) (qx0 : kX x0 = 10), fX10_surgeEnd_B3 K n σ x0 x2 x3 x4 → zAt p l e ({ frames := 4, cells := 0, slots := 0, locals := 98 } : Room) s m args below meth c 0 0 (MQ below (va_Qi (zPi K) (zB D vwCl (tyA dA) NX ad (celX ad dA)) (zA ad NX sz)) args s 0 0 (zA ad NX sz)) 5 D vwCl (zA ad NX sz) NX ad (celX ad dA) 3 [(0, vR ad x0), (2, vI x2), (3, vI x3), (4, vI x4)] [] σ := by
  intro n
  induction n with
  | zero => intro σ x0 x2 x3 x4 qx0 hf; exact False.elim hf
  | succ n ih =>
    intro σ x0 x2 x3 x4 qx0 hf
    rw [uX10_surgeEnd_B3] at hf
    refine z_iload hC dX10_surgeEnd_3 3 rfl ?_
    refine z_aload_n hC dX10_surgeEnd_5 0 rfl rfl ?_
    refine z_callVi hC hE (oX_10 qx0) [] (fun sz2 => mX10_segments l hinj sz2 hf) (cwV 0 hC.1.2.2.2.2 (uV (uT _) u911 u912 u913 u117 u914) rfl rfl rfl (by decide +kernel) ⟨Nat.le_of_ble_eq_true rfl, Nat.le_of_ble_eq_true rfl⟩) rfl rfl (Nat.le_of_ble_eq_true rfl) ⟨Nat.le_of_ble_eq_true rfl, Nat.le_of_ble_eq_true rfl⟩ dX10_surgeEnd_6 (fun r1 σ1 hf => ?_)
    obtain ⟨g2, hf⟩ := hf
    obtain ⟨g3, hf⟩ := hf
    refine z_icmp_ge (tgt := 29) hC dX10_surgeEnd_9 (by decide) g2 g3 (fun hc => ?_) (fun hc => ?_)
    · replace hf := hf.1 hc
      refine z_iload hC dX10_surgeEnd_29 3 rfl ?_
      exact z_iret hC hr rfl dX10_surgeEnd_31 hf
    · replace hf := hf.2 hc
      refine z_aload_n hC dX10_surgeEnd_12 0 rfl rfl ?_
      refine z_iload hC dX10_surgeEnd_13 3 rfl ?_
      refine z_iload_n hC dX10_surgeEnd_15 1 rfl rfl ?_
      refine z_iload_n hC dX10_surgeEnd_16 2 rfl rfl ?_
      refine z_callVi hC hE (oX_10 qx0) [vI x4, vI x2, vI x3] (fun sz2 => mX10_isFast l hinj sz2 hf) (cwV 3 hC.1.2.2.2.2 (uV (uT _) u1358 u1360 u35 u117 u1361) rfl rfl rfl (by decide +kernel) ⟨Nat.le_of_ble_eq_true rfl, Nat.le_of_ble_eq_true rfl⟩) rfl rfl (Nat.le_of_ble_eq_true rfl) ⟨Nat.le_of_ble_eq_true rfl, Nat.le_of_ble_eq_true rfl⟩ dX10_surgeEnd_17 (fun r4 σ4 hf => ?_)
      obtain ⟨g5, hf⟩ := hf
      refine z_if_eq (tgt := 29) hC dX10_surgeEnd_20 (by decide) g5 (fun hc => ?_) (fun hc => ?_)
      · replace hf := hf.1 hc
        refine z_iload hC dX10_surgeEnd_29 3 rfl ?_
        exact z_iret hC hr rfl dX10_surgeEnd_31 hf
      · replace hf := hf.2 hc
        refine z_iinc hC ([(4, vI (x4 + 1)), (0, vR ad x0), (2, vI x2), (3, vI x3)]) dX10_surgeEnd_23 3 rfl (by decide) rfl ?_
        refine z_goto (tgt := 3) hC dX10_surgeEnd_26 (by decide) ?_
        refine z_sub (lv' := [(0, vR ad x0), (2, vI x2), (3, vI x3), (4, vI (x4 + 1))]) [1, 2, 3, 0] rfl ?_
        exact ih _ _ _ _ _ qx0 hf
set_option maxHeartbeats 4000000 in
set_option maxRecDepth 100000 in
theorem mX10_surgeEnd {D : va_G} {dA : Nat → ClassId} {ad : Nat → Nat} {aL aG aI : Nat} {aK aV : Nat → Nat} (l : Launch) (hinj : ∀ i j, i < NX → j < NX → ad i = ad j → i = j) (sz : Nat) {K : Int → zSt → Prop} {σ : zSt} {x0 : Int} {x1 : Int} {x2 : Int} {x3 : Int} (hf : fX10_surgeEnd K σ x0 x1 x2 x3) : Met l yX10_surgeEnd (Cond.code yX10_surgeEnd cX10_surgeEnd 5 (some .int) :: UW) ({ frames := 4, cells := 0, slots := 0, locals := 98 } : Room) (va_Pc [vR ad x0, vI x1, vI x2, vI x3] (zPre D vwCl (tyA dA) (zXX aL aG aI aK aV) NX ad (celX ad dA) sz σ)) (va_Qi (zPi K) (zB D vwCl (tyA dA) NX ad (celX ad dA)) (zA ad NX sz)) 0 0 (zA ad NX sz) := by
  refine z_enter (cc := cX10_surgeEnd) (maxL := 5) (ret := (some .int)) (vs := [vR ad x0, vI x1, vI x2, vI x3]) (plainFor_of_name (by decide)) rfl hinj (Nat.le_of_ble_eq_true rfl) ?_
  intro p e s m args below meth c hC hE hsz hr hnm
  obtain ⟨qx0, hf⟩ := hf
  show zAt p l e ({ frames := 4, cells := 0, slots := 0, locals := 98 } : Room) s m args below meth c 0 0 (MQ below (va_Qi (zPi K) (zB D vwCl (tyA dA) NX ad (celX ad dA)) (zA ad NX sz)) args s 0 0 (zA ad NX sz)) 5 D vwCl (zA ad NX sz) NX ad (celX ad dA) 0 [(0, vR ad x0), (1, vI x1), (2, vI x2), (3, vI x3)] [] σ
  refine z_iload_n hC dX10_surgeEnd_0 1 rfl rfl ?_
  refine z_istore hC ([(4, vI x1), (0, vR ad x0), (1, vI x1), (2, vI x2), (3, vI x3)]) dX10_surgeEnd_1 (by decide) rfl ?_
  refine z_sub (lv' := [(0, vR ad x0), (2, vI x2), (3, vI x3), (4, vI x1)]) [1, 3, 4, 0] rfl ?_
  obtain ⟨n, hf⟩ := hf
  exact wX10_surgeEnd_B3 hC hE hr hinj n _ _ _ _ _ qx0 hf

-- ===== J9_floorDiv_7cf53
def fJ9_floorDiv_7cf53 (K : Int → zSt → Prop) (σ : zSt) (x0 : Int) (x1 : Int) : Prop :=
  zrg x0 ∧ zrg x1 ∧ ¬ x1 = 0 ∧ ((0 ≤ zxor x0 x1 → K (x0.tdiv x1) σ) ∧ (¬ 0 ≤ zxor x0 x1 → zrg ((x0.tdiv x1) * x1) ∧ (((x0.tdiv x1) * x1 = x0 → K (x0.tdiv x1) σ) ∧ (¬ (x0.tdiv x1) * x1 = x0 → K ((x0.tdiv x1) - 1) σ))))
set_option maxHeartbeats 4000000 in
set_option maxRecDepth 100000 in
theorem mJ9_floorDiv_7cf53 {D : va_G} {dA : Nat → ClassId} {ad : Nat → Nat} {aL aG aI : Nat} {aK aV : Nat → Nat} (l : Launch) (hinj : ∀ i j, i < NX → j < NX → ad i = ad j → i = j) (sz : Nat) {K : Int → zSt → Prop} {σ : zSt} {x0 : Int} {x1 : Int} (hf : fJ9_floorDiv_7cf53 K σ x0 x1) : Met l yJ9_floorDiv_7cf53 (Cond.code yJ9_floorDiv_7cf53 cJ9_floorDiv_7cf53 3 (some .int) :: UW) ({ frames := 0, cells := 0, slots := 0, locals := 0 } : Room) (va_Pc [vI x0, vI x1] (zPre D vwCl (tyA dA) (zXX aL aG aI aK aV) NX ad (celX ad dA) sz σ)) (va_Qi (zPi K) (zB D vwCl (tyA dA) NX ad (celX ad dA)) (zA ad NX sz)) 0 0 (zA ad NX sz) := by
  refine z_enter (cc := cJ9_floorDiv_7cf53) (maxL := 3) (ret := (some .int)) (vs := [vI x0, vI x1]) (by decide +kernel) rfl hinj (Nat.le_of_ble_eq_true rfl) ?_
  intro p e s m args below meth c hC hE hsz hr hnm
  show zAt p l e ({ frames := 0, cells := 0, slots := 0, locals := 0 } : Room) s m args below meth c 0 0 (MQ below (va_Qi (zPi K) (zB D vwCl (tyA dA) NX ad (celX ad dA)) (zA ad NX sz)) args s 0 0 (zA ad NX sz)) 3 D vwCl (zA ad NX sz) NX ad (celX ad dA) 0 [(0, vI x0), (1, vI x1)] [] σ
  refine z_iload_n hC dJ9_floorDiv_7cf53_0 0 rfl rfl ?_
  refine z_iload_n hC dJ9_floorDiv_7cf53_1 1 rfl rfl ?_
  obtain ⟨g1, hf⟩ := hf
  obtain ⟨g2, hf⟩ := hf
  obtain ⟨g3, hf⟩ := hf
  refine z_idiv hC dJ9_floorDiv_7cf53_2 g1 g2 g3 ?_
  refine z_istore_n hC ([(2, vI (x0.tdiv x1)), (0, vI x0), (1, vI x1)]) dJ9_floorDiv_7cf53_3 rfl (by decide) rfl ?_
  refine z_iload_n hC dJ9_floorDiv_7cf53_4 1 rfl rfl ?_
  refine z_iload_n hC dJ9_floorDiv_7cf53_5 2 rfl rfl ?_
  refine z_ixor hC dJ9_floorDiv_7cf53_6 ?_
  refine z_if_ge (tgt := 21) hC dJ9_floorDiv_7cf53_7 (by decide) (zxor_rg _ _) (fun hc => ?_) (fun hc => ?_)
  · replace hf := hf.1 hc
    refine z_iload_n hC dJ9_floorDiv_7cf53_21 0 rfl rfl ?_
    exact z_iret hC hr rfl dJ9_floorDiv_7cf53_22 hf
  · replace hf := hf.2 hc
    refine z_iload_n hC dJ9_floorDiv_7cf53_10 0 rfl rfl ?_
    refine z_iload_n hC dJ9_floorDiv_7cf53_11 2 rfl rfl ?_
    refine z_imul hC dJ9_floorDiv_7cf53_12 ?_
    refine z_iload_n hC dJ9_floorDiv_7cf53_13 1 rfl rfl ?_
    obtain ⟨g4, hf⟩ := hf
    refine z_icmp_eq (tgt := 21) hC dJ9_floorDiv_7cf53_14 (by decide) g4 g1 (fun hc => ?_) (fun hc => ?_)
    · replace hf := hf.1 hc
      refine z_iload_n hC dJ9_floorDiv_7cf53_21 0 rfl rfl ?_
      exact z_iret hC hr rfl dJ9_floorDiv_7cf53_22 hf
    · replace hf := hf.2 hc
      refine z_iload_n hC dJ9_floorDiv_7cf53_17 0 rfl rfl ?_
      refine z_iconst hC dJ9_floorDiv_7cf53_18 ?_
      refine z_isub hC dJ9_floorDiv_7cf53_19 ?_
      exact z_iret hC hr rfl dJ9_floorDiv_7cf53_20 hf

-- ===== X10_interpolate
def fX10_interpolate_B97 (K : Int → zSt → Prop) (σ : zSt) (x0 : Int) (x1 : Int) (x2 : Int) (x3 : Int) (x4 : Int) (s0 : Int) : Prop :=
  zrg s0 ∧ ((0 < s0 → (0 ≤ x3 + 1 ∧ x3 + 1 < 6) ∧ (0 ≤ x3 ∧ x3 < 6) ∧ fJ9_floorDiv_7cf53 (fun r17 σ17 => K (x4 + r17) σ17) σ ((100 * ((σ x1 (x3 + 1)) - (σ x1 x3))) * (x2 - (σ (31 + 6 * (x0 - 24) + 3) x3))) s0) ∧ (¬ 0 < s0 → K x4 σ))
def fX10_interpolate_B62 (K : Int → zSt → Prop) (σ : zSt) (x0 : Int) (x1 : Int) (x2 : Int) (x3 : Int) : Prop :=
  (0 ≤ x3 ∧ x3 < 6) ∧ fX10_hasSegment (fun r11 σ11 => zrg r11 ∧ ((r11 = 0 → fX10_interpolate_B97 K σ11 x0 x1 x2 x3 (100 * (σ x1 x3)) 0) ∧ (¬ r11 = 0 → (0 ≤ x3 + 1 ∧ x3 + 1 < 6) ∧ fX10_interpolate_B97 K σ11 x0 x1 x2 x3 (100 * (σ x1 x3)) ((σ11 (31 + 6 * (x0 - 24) + 3) (x3 + 1)) - (σ11 (31 + 6 * (x0 - 24) + 3) x3))))) σ x0 x3
noncomputable def fX10_interpolate_B42 (K : Int → zSt → Prop) (n : Nat) : zSt → Int → Int → Int → Int → Prop :=
  Nat.rec (motive := fun _ => zSt → Int → Int → Int → Int → Prop) (fun _ _ _ _ _ => False) (fun _ ih σ x0 x1 x2 x3 => zrg x3 ∧ ((x3 ≤ 0 → fX10_interpolate_B62 K σ x0 x1 x2 x3) ∧ (¬ x3 ≤ 0 → (0 ≤ x3 ∧ x3 < 6) ∧ zrg (σ (31 + 6 * (x0 - 24) + 3) x3) ∧ zrg x2 ∧ ((σ (31 + 6 * (x0 - 24) + 3) x3 ≤ x2 → fX10_interpolate_B62 K σ x0 x1 x2 x3) ∧ (¬ σ (31 + 6 * (x0 - 24) + 3) x3 ≤ x2 → ih σ x0 x1 x2 (x3 + (-1))))))) n
theorem uX10_interpolate_B42 (K : Int → zSt → Prop) (n0 : Nat) (σ : zSt) (x0 : Int) (x1 : Int) (x2 : Int) (x3 : Int) : fX10_interpolate_B42 K (n0 + 1) σ x0 x1 x2 x3 = (zrg x3 ∧ ((x3 ≤ 0 → fX10_interpolate_B62 K σ x0 x1 x2 x3) ∧ (¬ x3 ≤ 0 → (0 ≤ x3 ∧ x3 < 6) ∧ zrg (σ (31 + 6 * (x0 - 24) + 3) x3) ∧ zrg x2 ∧ ((σ (31 + 6 * (x0 - 24) + 3) x3 ≤ x2 → fX10_interpolate_B62 K σ x0 x1 x2 x3) ∧ (¬ σ (31 + 6 * (x0 - 24) + 3) x3 ≤ x2 → (fX10_interpolate_B42 K n0) σ x0 x1 x2 (x3 + (-1))))))) := rfl
def fX10_interpolate (K : Int → zSt → Prop) (σ : zSt) (x0 : Int) (x1 : Int) (x2 : Int) : Prop :=
  kX x0 = 10 ∧ kX x1 = 14 ∧ zrg (σ x0 1) ∧ ((σ x0 1 = 0 → K (-2147483648) σ) ∧ (¬ σ x0 1 = 0 → zrg x2 ∧ zrg (σ (31 + 6 * (x0 - 24) + 3) 0) ∧ ((x2 < σ (31 + 6 * (x0 - 24) + 3) 0 → K (-2147483648) σ) ∧ (¬ x2 < σ (31 + 6 * (x0 - 24) + 3) 0 → (0 ≤ (σ x0 1) - 1 ∧ (σ x0 1) - 1 < 6) ∧ zrg (σ (31 + 6 * (x0 - 24) + 3) ((σ x0 1) - 1)) ∧ ((x2 ≤ σ (31 + 6 * (x0 - 24) + 3) ((σ x0 1) - 1) → (∃ n, fX10_interpolate_B42 K n σ x0 x1 x2 ((σ x0 1) - 1))) ∧ (¬ x2 ≤ σ (31 + 6 * (x0 - 24) + 3) ((σ x0 1) - 1) → K (-2147483648) σ))))))
set_option maxHeartbeats 4000000 in
set_option maxRecDepth 100000 in
theorem wX10_interpolate_B97 {p : Program} {l : Launch} {e : Env} {s : State} {m : MethodId} {args : Array Value} {below : List Frame} {meth : Method} {c : Code} {D : va_G} {dA : Nat → ClassId} {ad : Nat → Nat} {sz : Nat} {aL aG aI : Nat} {aK aV : Nat → Nat} {K : Int → zSt → Prop} (hC : zC p m c cX10_interpolate 7 s args (Cond.code yX10_interpolate cX10_interpolate 7 (some .int) :: UW) RX10 meth D vwCl (tyA dA) (zA ad NX sz) NX ad (celX ad dA)) (hE : zE (zXX aL aG aI aK aV) (zA ad NX sz) s s.heap) (hr : meth.sig.returnType = (some .int)) (hinj : ∀ i j, i < NX → j < NX → ad i = ad j → i = j) {σ : zSt} {x0 : Int} {x1 : Int} {x2 : Int} {x3 : Int} {x4 : Int} {s0 : Int} (qx0 : kX x0 = 10) (qx1 : kX x1 = 14) (hf : fX10_interpolate_B97 K σ x0 x1 x2 x3 x4 s0) : zAt p l e ({ frames := 1, cells := 0, slots := 0, locals := 22 } : Room) s m args below meth c 0 0 (MQ below (va_Qi (zPi K) (zB D vwCl (tyA dA) NX ad (celX ad dA)) (zA ad NX sz)) args s 0 0 (zA ad NX sz)) 7 D vwCl (zA ad NX sz) NX ad (celX ad dA) 97 [(0, vR ad x0), (1, vR ad x1), (2, vI x2), (3, vI x3), (4, vI x4)] [vI s0] σ := by
  refine z_istore hC ([(5, vI s0), (0, vR ad x0), (1, vR ad x1), (2, vI x2), (3, vI x3), (4, vI x4)]) dX10_interpolate_97 (by decide) rfl ?_
  refine z_iload hC dX10_interpolate_99 0 rfl ?_
  obtain ⟨g14, hf⟩ := hf
  refine z_if_gt (tgt := 107) hC dX10_interpolate_101 (by decide) g14 (fun hc => ?_) (fun hc => ?_)
  · replace hf := hf.1 hc
    refine z_aload_n hC dX10_interpolate_107 2 rfl rfl ?_
    refine z_iload_n hC dX10_interpolate_108 4 rfl rfl ?_
    refine z_iconst hC dX10_interpolate_109 ?_
    refine z_iadd hC dX10_interpolate_110 ?_
    obtain ⟨g15, hf⟩ := hf
    refine z_iaload hC (aX_14 qx1) g15 dX10_interpolate_111 ?_
    refine z_aload_n hC dX10_interpolate_112 2 rfl rfl ?_
    refine z_iload_n hC dX10_interpolate_113 4 rfl rfl ?_
    obtain ⟨g16, hf⟩ := hf
    refine z_iaload hC (aX_14 qx1) g16 dX10_interpolate_114 ?_
    refine z_isub hC dX10_interpolate_115 ?_
    refine z_istore hC ([(6, vI ((σ x1 (x3 + 1)) - (σ x1 x3))), (5, vI s0), (0, vR ad x0), (1, vR ad x1), (2, vI x2), (3, vI x3), (4, vI x4)]) dX10_interpolate_116 (by decide) rfl ?_
    refine z_iload hC dX10_interpolate_118 6 rfl ?_
    refine z_bipush hC dX10_interpolate_120 (by decide) ?_
    refine z_iload hC dX10_interpolate_122 0 rfl ?_
    refine z_imul hC dX10_interpolate_124 ?_
    refine z_iload_n hC dX10_interpolate_125 4 rfl rfl ?_
    refine z_aload_n hC dX10_interpolate_126 2 rfl rfl ?_
    refine z_get hC (fun w h => uT _ w (uL10 w h)) (oX_10 qx0) 7 (by decide) (uT _ _ u443) rfl rfl dX10_interpolate_127 ?_
    refine z_iload_n hC dX10_interpolate_130 5 rfl rfl ?_
    refine z_iaload hC (aX_14 (kf_10_7 qx0)) g16 dX10_interpolate_131 ?_
    refine z_isub hC dX10_interpolate_132 ?_
    refine z_imul hC dX10_interpolate_133 ?_
    refine z_iload hC dX10_interpolate_134 1 rfl ?_
    refine z_callSi hC hE [vI ((100 * ((σ x1 (x3 + 1)) - (σ x1 x3))) * (x2 - (σ (31 + 6 * (x0 - 24) + 3) x3))), vI s0] (fun sz2 => mJ9_floorDiv_7cf53 l hinj sz2 hf) (va_cwS 2 hC.1.2.2.2.2 (uS (uT _) u1398 u1399 u108 u1400) rfl rfl rfl (by decide +kernel) ⟨Nat.le_of_ble_eq_true rfl, Nat.le_of_ble_eq_true rfl⟩) rfl rfl (Nat.le_of_ble_eq_true rfl) ⟨Nat.le_of_ble_eq_true rfl, Nat.le_of_ble_eq_true rfl⟩ dX10_interpolate_136 (fun r17 σ17 hf => ?_)
    refine z_iadd hC dX10_interpolate_139 ?_
    exact z_iret hC hr rfl dX10_interpolate_140 hf
  · replace hf := hf.2 hc
    refine z_iload hC dX10_interpolate_104 5 rfl ?_
    exact z_iret hC hr rfl dX10_interpolate_106 hf
set_option maxHeartbeats 4000000 in
set_option maxRecDepth 100000 in
theorem wX10_interpolate_B62 {p : Program} {l : Launch} {e : Env} {s : State} {m : MethodId} {args : Array Value} {below : List Frame} {meth : Method} {c : Code} {D : va_G} {dA : Nat → ClassId} {ad : Nat → Nat} {sz : Nat} {aL aG aI : Nat} {aK aV : Nat → Nat} {K : Int → zSt → Prop} (hC : zC p m c cX10_interpolate 7 s args (Cond.code yX10_interpolate cX10_interpolate 7 (some .int) :: UW) RX10 meth D vwCl (tyA dA) (zA ad NX sz) NX ad (celX ad dA)) (hE : zE (zXX aL aG aI aK aV) (zA ad NX sz) s s.heap) (hr : meth.sig.returnType = (some .int)) (hinj : ∀ i j, i < NX → j < NX → ad i = ad j → i = j) {σ : zSt} {x0 : Int} {x1 : Int} {x2 : Int} {x3 : Int} (qx0 : kX x0 = 10) (qx1 : kX x1 = 14) (hf : fX10_interpolate_B62 K σ x0 x1 x2 x3) : zAt p l e ({ frames := 1, cells := 0, slots := 0, locals := 22 } : Room) s m args below meth c 0 0 (MQ below (va_Qi (zPi K) (zB D vwCl (tyA dA) NX ad (celX ad dA)) (zA ad NX sz)) args s 0 0 (zA ad NX sz)) 7 D vwCl (zA ad NX sz) NX ad (celX ad dA) 62 [(0, vR ad x0), (1, vR ad x1), (2, vI x2), (3, vI x3)] [] σ := by
  refine z_bipush hC dX10_interpolate_62 (by decide) ?_
  refine z_aload_n hC dX10_interpolate_64 1 rfl rfl ?_
  refine z_iload_n hC dX10_interpolate_65 3 rfl rfl ?_
  obtain ⟨g10, hf⟩ := hf
  refine z_iaload hC (aX_14 qx1) g10 dX10_interpolate_66 ?_
  refine z_imul hC dX10_interpolate_67 ?_
  refine z_istore hC ([(4, vI (100 * (σ x1 x3))), (0, vR ad x0), (1, vR ad x1), (2, vI x2), (3, vI x3)]) dX10_interpolate_68 (by decide) rfl ?_
  refine z_aload_n hC dX10_interpolate_70 1 rfl rfl ?_
  refine z_iload_n hC dX10_interpolate_71 4 rfl rfl ?_
  refine z_callVi hC hE (oX_10 qx0) [vI x3] (fun sz2 => mX10_hasSegment l hinj sz2 hf) (cwV 1 hC.1.2.2.2.2 (uV (uT _) u919 u920 u921 u117 u922) rfl rfl rfl (by decide +kernel) ⟨Nat.le_of_ble_eq_true rfl, Nat.le_of_ble_eq_true rfl⟩) rfl rfl (Nat.le_of_ble_eq_true rfl) ⟨Nat.le_of_ble_eq_true rfl, Nat.le_of_ble_eq_true rfl⟩ dX10_interpolate_72 (fun r11 σ11 hf => ?_)
  obtain ⟨g12, hf⟩ := hf
  refine z_if_eq (tgt := 96) hC dX10_interpolate_75 (by decide) g12 (fun hc => ?_) (fun hc => ?_)
  · replace hf := hf.1 hc
    refine z_iconst hC dX10_interpolate_96 ?_
    refine z_sub (lv' := [(0, vR ad x0), (1, vR ad x1), (2, vI x2), (3, vI x3), (4, vI (100 * (σ x1 x3)))]) [1, 2, 3, 4, 0] rfl ?_
    exact wX10_interpolate_B97 hC hE hr hinj qx0 qx1 hf
  · replace hf := hf.2 hc
    refine z_aload_n hC dX10_interpolate_78 1 rfl rfl ?_
    refine z_get hC (fun w h => uT _ w (uL10 w h)) (oX_10 qx0) 7 (by decide) (uT _ _ u443) rfl rfl dX10_interpolate_79 ?_
    refine z_iload_n hC dX10_interpolate_82 4 rfl rfl ?_
    refine z_iconst hC dX10_interpolate_83 ?_
    refine z_iadd hC dX10_interpolate_84 ?_
    obtain ⟨g13, hf⟩ := hf
    refine z_iaload hC (aX_14 (kf_10_7 qx0)) g13 dX10_interpolate_85 ?_
    refine z_aload_n hC dX10_interpolate_86 1 rfl rfl ?_
    refine z_get hC (fun w h => uT _ w (uL10 w h)) (oX_10 qx0) 7 (by decide) (uT _ _ u443) rfl rfl dX10_interpolate_87 ?_
    refine z_iload_n hC dX10_interpolate_90 4 rfl rfl ?_
    refine z_iaload hC (aX_14 (kf_10_7 qx0)) g10 dX10_interpolate_91 ?_
    refine z_isub hC dX10_interpolate_92 ?_
    refine z_goto (tgt := 97) hC dX10_interpolate_93 (by decide) ?_
    refine z_sub (lv' := [(0, vR ad x0), (1, vR ad x1), (2, vI x2), (3, vI x3), (4, vI (100 * (σ x1 x3)))]) [1, 2, 3, 4, 0] rfl ?_
    exact wX10_interpolate_B97 hC hE hr hinj qx0 qx1 hf
set_option maxHeartbeats 4000000 in
set_option maxRecDepth 100000 in
theorem wX10_interpolate_B42 {p : Program} {l : Launch} {e : Env} {s : State} {m : MethodId} {args : Array Value} {below : List Frame} {meth : Method} {c : Code} {D : va_G} {dA : Nat → ClassId} {ad : Nat → Nat} {sz : Nat} {aL aG aI : Nat} {aK aV : Nat → Nat} {K : Int → zSt → Prop} (hC : zC p m c cX10_interpolate 7 s args (Cond.code yX10_interpolate cX10_interpolate 7 (some .int) :: UW) RX10 meth D vwCl (tyA dA) (zA ad NX sz) NX ad (celX ad dA)) (hE : zE (zXX aL aG aI aK aV) (zA ad NX sz) s s.heap) (hr : meth.sig.returnType = (some .int)) (hinj : ∀ i j, i < NX → j < NX → ad i = ad j → i = j) : ∀ (n : Nat) (σ : zSt) (x0 : Int) (x1 : Int) (x2 : Int) (x3 : Int) (qx0 : kX x0 = 10) (qx1 : kX x1 = 14), fX10_interpolate_B42 K n σ x0 x1 x2 x3 → zAt p l e ({ frames := 1, cells := 0, slots := 0, locals := 22 } : Room) s m args below meth c 0 0 (MQ below (va_Qi (zPi K) (zB D vwCl (tyA dA) NX ad (celX ad dA)) (zA ad NX sz)) args s 0 0 (zA ad NX sz)) 7 D vwCl (zA ad NX sz) NX ad (celX ad dA) 42 [(0, vR ad x0), (1, vR ad x1), (2, vI x2), (3, vI x3)] [] σ := by
  intro n
  induction n with
  | zero => intro σ x0 x1 x2 x3 qx0 qx1 hf; exact False.elim hf
  | succ n ih =>
    intro σ x0 x1 x2 x3 qx0 qx1 hf
    rw [uX10_interpolate_B42] at hf
    refine z_iload_n hC dX10_interpolate_42 3 rfl rfl ?_
    obtain ⟨g6, hf⟩ := hf
    refine z_if_le (tgt := 62) hC dX10_interpolate_43 (by decide) g6 (fun hc => ?_) (fun hc => ?_)
    · replace hf := hf.1 hc
      exact wX10_interpolate_B62 hC hE hr hinj qx0 qx1 hf
    · replace hf := hf.2 hc
      refine z_aload_n hC dX10_interpolate_46 0 rfl rfl ?_
      refine z_get hC (fun w h => uT _ w (uL10 w h)) (oX_10 qx0) 7 (by decide) (uT _ _ u443) rfl rfl dX10_interpolate_47 ?_
      refine z_iload_n hC dX10_interpolate_50 3 rfl rfl ?_
      obtain ⟨g7, hf⟩ := hf
      refine z_iaload hC (aX_14 (kf_10_7 qx0)) g7 dX10_interpolate_51 ?_
      refine z_iload_n hC dX10_interpolate_52 2 rfl rfl ?_
      obtain ⟨g8, hf⟩ := hf
      obtain ⟨g9, hf⟩ := hf
      refine z_icmp_le (tgt := 62) hC dX10_interpolate_53 (by decide) g8 g9 (fun hc => ?_) (fun hc => ?_)
      · replace hf := hf.1 hc
        exact wX10_interpolate_B62 hC hE hr hinj qx0 qx1 hf
      · replace hf := hf.2 hc
        refine z_iinc hC ([(3, vI (x3 + (-1))), (0, vR ad x0), (1, vR ad x1), (2, vI x2)]) dX10_interpolate_56 3 rfl (by decide) rfl ?_
        refine z_goto (tgt := 42) hC dX10_interpolate_59 (by decide) ?_
        refine z_sub (lv' := [(0, vR ad x0), (1, vR ad x1), (2, vI x2), (3, vI (x3 + (-1)))]) [1, 2, 3, 0] rfl ?_
        exact ih _ _ _ _ _ qx0 qx1 hf
set_option maxHeartbeats 4000000 in
set_option maxRecDepth 100000 in
theorem mX10_interpolate {D : va_G} {dA : Nat → ClassId} {ad : Nat → Nat} {aL aG aI : Nat} {aK aV : Nat → Nat} (l : Launch) (hinj : ∀ i j, i < NX → j < NX → ad i = ad j → i = j) (sz : Nat) {K : Int → zSt → Prop} {σ : zSt} {x0 : Int} {x1 : Int} {x2 : Int} (hf : fX10_interpolate K σ x0 x1 x2) : Met l yX10_interpolate (Cond.code yX10_interpolate cX10_interpolate 7 (some .int) :: UW) ({ frames := 1, cells := 0, slots := 0, locals := 22 } : Room) (va_Pc [vR ad x0, vR ad x1, vI x2] (zPre D vwCl (tyA dA) (zXX aL aG aI aK aV) NX ad (celX ad dA) sz σ)) (va_Qi (zPi K) (zB D vwCl (tyA dA) NX ad (celX ad dA)) (zA ad NX sz)) 0 0 (zA ad NX sz) := by
  refine z_enter (cc := cX10_interpolate) (maxL := 7) (ret := (some .int)) (vs := [vR ad x0, vR ad x1, vI x2]) (plainFor_of_name (by decide)) rfl hinj (Nat.le_of_ble_eq_true rfl) ?_
  intro p e s m args below meth c hC hE hsz hr hnm
  obtain ⟨qx0, hf⟩ := hf
  obtain ⟨qx1, hf⟩ := hf
  show zAt p l e ({ frames := 1, cells := 0, slots := 0, locals := 22 } : Room) s m args below meth c 0 0 (MQ below (va_Qi (zPi K) (zB D vwCl (tyA dA) NX ad (celX ad dA)) (zA ad NX sz)) args s 0 0 (zA ad NX sz)) 7 D vwCl (zA ad NX sz) NX ad (celX ad dA) 0 [(0, vR ad x0), (1, vR ad x1), (2, vI x2)] [] σ
  refine z_aload_n hC dX10_interpolate_0 0 rfl rfl ?_
  refine z_get hC (fun w h => uT _ w (uL10 w h)) (oX_10 qx0) 1 (by decide) (uT _ _ u432) rfl rfl dX10_interpolate_1 ?_
  obtain ⟨g1, hf⟩ := hf
  refine z_if_eq (tgt := 32) hC dX10_interpolate_4 (by decide) g1 (fun hc => ?_) (fun hc => ?_)
  · replace hf := hf.1 hc
    refine z_ldc hC (n := (-2147483648)) (uT _ _ u1397) (by decide) dX10_interpolate_32 ?_
    exact z_iret hC hr rfl dX10_interpolate_34 hf
  · replace hf := hf.2 hc
    refine z_iload_n hC dX10_interpolate_7 2 rfl rfl ?_
    refine z_aload_n hC dX10_interpolate_8 0 rfl rfl ?_
    refine z_get hC (fun w h => uT _ w (uL10 w h)) (oX_10 qx0) 7 (by decide) (uT _ _ u443) rfl rfl dX10_interpolate_9 ?_
    refine z_iconst hC dX10_interpolate_12 ?_
    refine z_iaload hC (aX_14 (kf_10_7 qx0)) ⟨by decide, by decide⟩ dX10_interpolate_13 ?_
    obtain ⟨g2, hf⟩ := hf
    obtain ⟨g3, hf⟩ := hf
    refine z_icmp_lt (tgt := 32) hC dX10_interpolate_14 (by decide) g2 g3 (fun hc => ?_) (fun hc => ?_)
    · replace hf := hf.1 hc
      refine z_ldc hC (n := (-2147483648)) (uT _ _ u1397) (by decide) dX10_interpolate_32 ?_
      exact z_iret hC hr rfl dX10_interpolate_34 hf
    · replace hf := hf.2 hc
      refine z_iload_n hC dX10_interpolate_17 2 rfl rfl ?_
      refine z_aload_n hC dX10_interpolate_18 0 rfl rfl ?_
      refine z_get hC (fun w h => uT _ w (uL10 w h)) (oX_10 qx0) 7 (by decide) (uT _ _ u443) rfl rfl dX10_interpolate_19 ?_
      refine z_aload_n hC dX10_interpolate_22 0 rfl rfl ?_
      refine z_get hC (fun w h => uT _ w (uL10 w h)) (oX_10 qx0) 1 (by decide) (uT _ _ u432) rfl rfl dX10_interpolate_23 ?_
      refine z_iconst hC dX10_interpolate_26 ?_
      refine z_isub hC dX10_interpolate_27 ?_
      obtain ⟨g4, hf⟩ := hf
      refine z_iaload hC (aX_14 (kf_10_7 qx0)) g4 dX10_interpolate_28 ?_
      obtain ⟨g5, hf⟩ := hf
      refine z_icmp_le (tgt := 35) hC dX10_interpolate_29 (by decide) g2 g5 (fun hc => ?_) (fun hc => ?_)
      · replace hf := hf.1 hc
        refine z_aload_n hC dX10_interpolate_35 0 rfl rfl ?_
        refine z_get hC (fun w h => uT _ w (uL10 w h)) (oX_10 qx0) 1 (by decide) (uT _ _ u432) rfl rfl dX10_interpolate_36 ?_
        refine z_iconst hC dX10_interpolate_39 ?_
        refine z_isub hC dX10_interpolate_40 ?_
        refine z_istore_n hC ([(3, vI ((σ x0 1) - 1)), (0, vR ad x0), (1, vR ad x1), (2, vI x2)]) dX10_interpolate_41 rfl (by decide) rfl ?_
        refine z_sub (lv' := [(0, vR ad x0), (1, vR ad x1), (2, vI x2), (3, vI ((σ x0 1) - 1))]) [1, 2, 3, 0] rfl ?_
        obtain ⟨n, hf⟩ := hf
        exact wX10_interpolate_B42 hC hE hr hinj n _ _ _ _ _ qx0 qx1 hf
      · replace hf := hf.2 hc
        refine z_ldc hC (n := (-2147483648)) (uT _ _ u1397) (by decide) dX10_interpolate_32 ?_
        exact z_iret hC hr rfl dX10_interpolate_34 hf

-- ===== X10_travelled
def fX10_travelled (K : Int → zSt → Prop) (σ : zSt) (x0 : Int) (x1 : Int) : Prop :=
  kX x0 = 10 ∧ kX x1 = 14 ∧ zrg (σ x0 1) ∧ ((σ x0 1 = 0 → K 0 σ) ∧ (¬ σ x0 1 = 0 → (0 ≤ (σ x0 1) - 1 ∧ (σ x0 1) - 1 < 6) ∧ K ((σ x1 ((σ x0 1) - 1)) - (σ x1 0)) σ))
set_option maxHeartbeats 4000000 in
set_option maxRecDepth 100000 in
theorem mX10_travelled {D : va_G} {dA : Nat → ClassId} {ad : Nat → Nat} {aL aG aI : Nat} {aK aV : Nat → Nat} (l : Launch) (hinj : ∀ i j, i < NX → j < NX → ad i = ad j → i = j) (sz : Nat) {K : Int → zSt → Prop} {σ : zSt} {x0 : Int} {x1 : Int} (hf : fX10_travelled K σ x0 x1) : Met l yX10_travelled (Cond.code yX10_travelled cX10_travelled 2 (some .int) :: UW) ({ frames := 0, cells := 0, slots := 0, locals := 0 } : Room) (va_Pc [vR ad x0, vR ad x1] (zPre D vwCl (tyA dA) (zXX aL aG aI aK aV) NX ad (celX ad dA) sz σ)) (va_Qi (zPi K) (zB D vwCl (tyA dA) NX ad (celX ad dA)) (zA ad NX sz)) 0 0 (zA ad NX sz) := by
  refine z_enter (cc := cX10_travelled) (maxL := 2) (ret := (some .int)) (vs := [vR ad x0, vR ad x1]) (plainFor_of_name (by decide)) rfl hinj (Nat.le_of_ble_eq_true rfl) ?_
  intro p e s m args below meth c hC hE hsz hr hnm
  obtain ⟨qx0, hf⟩ := hf
  obtain ⟨qx1, hf⟩ := hf
  show zAt p l e ({ frames := 0, cells := 0, slots := 0, locals := 0 } : Room) s m args below meth c 0 0 (MQ below (va_Qi (zPi K) (zB D vwCl (tyA dA) NX ad (celX ad dA)) (zA ad NX sz)) args s 0 0 (zA ad NX sz)) 2 D vwCl (zA ad NX sz) NX ad (celX ad dA) 0 [(0, vR ad x0), (1, vR ad x1)] [] σ
  refine z_aload_n hC dX10_travelled_0 0 rfl rfl ?_
  refine z_get hC (fun w h => uT _ w (uL10 w h)) (oX_10 qx0) 1 (by decide) (uT _ _ u432) rfl rfl dX10_travelled_1 ?_
  obtain ⟨g1, hf⟩ := hf
  refine z_if_ne (tgt := 11) hC dX10_travelled_4 (by decide) g1 (fun hc => ?_) (fun hc => ?_)
  · replace hf := hf.2 hc
    refine z_aload_n hC dX10_travelled_11 1 rfl rfl ?_
    refine z_aload_n hC dX10_travelled_12 0 rfl rfl ?_
    refine z_get hC (fun w h => uT _ w (uL10 w h)) (oX_10 qx0) 1 (by decide) (uT _ _ u432) rfl rfl dX10_travelled_13 ?_
    refine z_iconst hC dX10_travelled_16 ?_
    refine z_isub hC dX10_travelled_17 ?_
    obtain ⟨g2, hf⟩ := hf
    refine z_iaload hC (aX_14 qx1) g2 dX10_travelled_18 ?_
    refine z_aload_n hC dX10_travelled_19 1 rfl rfl ?_
    refine z_iconst hC dX10_travelled_20 ?_
    refine z_iaload hC (aX_14 qx1) ⟨by decide, by decide⟩ dX10_travelled_21 ?_
    refine z_isub hC dX10_travelled_22 ?_
    exact z_iret hC hr rfl dX10_travelled_23 hf
  · replace hf := hf.1 hc
    refine z_iconst hC dX10_travelled_7 ?_
    refine z_goto (tgt := 23) hC dX10_travelled_8 (by decide) ?_
    exact z_iret hC hr rfl dX10_travelled_23 hf

-- ===== X10_distanceTo
def fX10_distanceTo (K : Int → zSt → Prop) (σ : zSt) (x0 : Int) (x1 : Int) (x2 : Int) : Prop :=
  kX x0 = 10 ∧ kX x1 = 10 ∧ fX10_entryOf (fun r1 σ1 => fX10_entryOf (fun r2 σ2 => zrg r1 ∧ ((r1 = (-1) → K (-1) σ2) ∧ (¬ r1 = (-1) → zrg r2 ∧ ((r2 = (-1) → K (-1) σ2) ∧ (¬ r2 = (-1) → (0 ≤ r1 ∧ r1 < 6) ∧ (0 ≤ r2 ∧ r2 < 6) ∧ zrg ((σ2 (31 + 6 * (x0 - 24) + 0) r1) - (σ2 (31 + 6 * (x1 - 24) + 0) r2)) ∧ zrg ((σ2 (31 + 6 * (x0 - 24) + 1) r1) - (σ2 (31 + 6 * (x1 - 24) + 1) r2)) ∧ fX11_squareRoot (fun r9 σ9 => K r9 σ9) σ2 (10000 * ((((σ2 (31 + 6 * (x0 - 24) + 0) r1) - (σ2 (31 + 6 * (x1 - 24) + 0) r2)) * ((σ2 (31 + 6 * (x0 - 24) + 0) r1) - (σ2 (31 + 6 * (x1 - 24) + 0) r2))) + (((σ2 (31 + 6 * (x0 - 24) + 1) r1) - (σ2 (31 + 6 * (x1 - 24) + 1) r2)) * ((σ2 (31 + 6 * (x0 - 24) + 1) r1) - (σ2 (31 + 6 * (x1 - 24) + 1) r2)))))))))) σ1 x1 x2) σ x0 x2
set_option maxHeartbeats 4000000 in
set_option maxRecDepth 100000 in
theorem mX10_distanceTo {D : va_G} {dA : Nat → ClassId} {ad : Nat → Nat} {aL aG aI : Nat} {aK aV : Nat → Nat} (l : Launch) (hinj : ∀ i j, i < NX → j < NX → ad i = ad j → i = j) (sz : Nat) {K : Int → zSt → Prop} {σ : zSt} {x0 : Int} {x1 : Int} {x2 : Int} (hf : fX10_distanceTo K σ x0 x1 x2) : Met l yX10_distanceTo (Cond.code yX10_distanceTo cX10_distanceTo 9 (some .int) :: UW) ({ frames := 1, cells := 0, slots := 0, locals := 27 } : Room) (va_Pc [vR ad x0, vR ad x1, vI x2] (zPre D vwCl (tyA dA) (zXX aL aG aI aK aV) NX ad (celX ad dA) sz σ)) (va_Qi (zPi K) (zB D vwCl (tyA dA) NX ad (celX ad dA)) (zA ad NX sz)) 0 0 (zA ad NX sz) := by
  refine z_enter (cc := cX10_distanceTo) (maxL := 9) (ret := (some .int)) (vs := [vR ad x0, vR ad x1, vI x2]) (plainFor_of_name (by decide)) rfl hinj (Nat.le_of_ble_eq_true rfl) ?_
  intro p e s m args below meth c hC hE hsz hr hnm
  obtain ⟨qx0, hf⟩ := hf
  obtain ⟨qx1, hf⟩ := hf
  show zAt p l e ({ frames := 1, cells := 0, slots := 0, locals := 27 } : Room) s m args below meth c 0 0 (MQ below (va_Qi (zPi K) (zB D vwCl (tyA dA) NX ad (celX ad dA)) (zA ad NX sz)) args s 0 0 (zA ad NX sz)) 9 D vwCl (zA ad NX sz) NX ad (celX ad dA) 0 [(0, vR ad x0), (1, vR ad x1), (2, vI x2)] [] σ
  refine z_aload_n hC dX10_distanceTo_0 0 rfl rfl ?_
  refine z_iload_n hC dX10_distanceTo_1 2 rfl rfl ?_
  refine z_callVi hC hE (oX_10 qx0) [vI x2] (fun sz2 => mX10_entryOf l hinj sz2 hf) (cwV 1 hC.1.2.2.2.2 (uV (uT _) u1257 u1259 u32 u117 u1260) rfl rfl rfl (by decide +kernel) ⟨Nat.le_of_ble_eq_true rfl, Nat.le_of_ble_eq_true rfl⟩) rfl rfl (Nat.le_of_ble_eq_true rfl) ⟨Nat.le_of_ble_eq_true rfl, Nat.le_of_ble_eq_true rfl⟩ dX10_distanceTo_2 (fun r1 σ1 hf => ?_)
  refine z_istore_n hC ([(3, vI r1), (0, vR ad x0), (1, vR ad x1), (2, vI x2)]) dX10_distanceTo_5 rfl (by decide) rfl ?_
  refine z_aload_n hC dX10_distanceTo_6 2 rfl rfl ?_
  refine z_iload_n hC dX10_distanceTo_7 3 rfl rfl ?_
  refine z_callVi hC hE (oX_10 qx1) [vI x2] (fun sz2 => mX10_entryOf l hinj sz2 hf) (cwV 1 hC.1.2.2.2.2 (uV (uT _) u1257 u1259 u32 u117 u1260) rfl rfl rfl (by decide +kernel) ⟨Nat.le_of_ble_eq_true rfl, Nat.le_of_ble_eq_true rfl⟩) rfl rfl (Nat.le_of_ble_eq_true rfl) ⟨Nat.le_of_ble_eq_true rfl, Nat.le_of_ble_eq_true rfl⟩ dX10_distanceTo_8 (fun r2 σ2 hf => ?_)
  refine z_istore hC ([(4, vI r2), (3, vI r1), (0, vR ad x0), (1, vR ad x1), (2, vI x2)]) dX10_distanceTo_11 (by decide) rfl ?_
  refine z_iload_n hC dX10_distanceTo_13 1 rfl rfl ?_
  refine z_iconst hC dX10_distanceTo_14 ?_
  obtain ⟨g3, hf⟩ := hf
  refine z_icmp_eq (tgt := 24) hC dX10_distanceTo_15 (by decide) g3 (zlit rfl rfl) (fun hc => ?_) (fun hc => ?_)
  · replace hf := hf.1 hc
    refine z_iconst hC dX10_distanceTo_24 ?_
    exact z_iret hC hr rfl dX10_distanceTo_25 hf
  · replace hf := hf.2 hc
    refine z_iload hC dX10_distanceTo_18 0 rfl ?_
    refine z_iconst hC dX10_distanceTo_20 ?_
    obtain ⟨g4, hf⟩ := hf
    refine z_icmp_ne (tgt := 26) hC dX10_distanceTo_21 (by decide) g4 (zlit rfl rfl) (fun hc => ?_) (fun hc => ?_)
    · replace hf := hf.2 hc
      refine z_aload_n hC dX10_distanceTo_26 2 rfl rfl ?_
      refine z_get hC (fun w h => uT _ w (uL10 w h)) (oX_10 qx0) 4 (by decide) (uT _ _ u438) rfl rfl dX10_distanceTo_27 ?_
      refine z_iload_n hC dX10_distanceTo_30 1 rfl rfl ?_
      obtain ⟨g5, hf⟩ := hf
      refine z_iaload hC (aX_14 (kf_10_4 qx0)) g5 dX10_distanceTo_31 ?_
      refine z_aload_n hC dX10_distanceTo_32 3 rfl rfl ?_
      refine z_get hC (fun w h => uT _ w (uL10 w h)) (oX_10 qx1) 4 (by decide) (uT _ _ u438) rfl rfl dX10_distanceTo_33 ?_
      refine z_iload hC dX10_distanceTo_36 0 rfl ?_
      obtain ⟨g6, hf⟩ := hf
      refine z_iaload hC (aX_14 (kf_10_4 qx1)) g6 dX10_distanceTo_38 ?_
      refine z_isub hC dX10_distanceTo_39 ?_
      obtain ⟨g7, hf⟩ := hf
      refine z_i2l hC dX10_distanceTo_40 g7 ?_
      refine z_lstore hC ([(5, vL ((σ2 (31 + 6 * (x0 - 24) + 0) r1) - (σ2 (31 + 6 * (x1 - 24) + 0) r2))), (4, vI r2), (3, vI r1), (0, vR ad x0), (1, vR ad x1), (2, vI x2)]) dX10_distanceTo_41 (by decide) rfl ?_
      refine z_aload_n hC dX10_distanceTo_43 3 rfl rfl ?_
      refine z_get hC (fun w h => uT _ w (uL10 w h)) (oX_10 qx0) 5 (by decide) (uT _ _ u440) rfl rfl dX10_distanceTo_44 ?_
      refine z_iload_n hC dX10_distanceTo_47 2 rfl rfl ?_
      refine z_iaload hC (aX_14 (kf_10_5 qx0)) g5 dX10_distanceTo_48 ?_
      refine z_aload_n hC dX10_distanceTo_49 4 rfl rfl ?_
      refine z_get hC (fun w h => uT _ w (uL10 w h)) (oX_10 qx1) 5 (by decide) (uT _ _ u440) rfl rfl dX10_distanceTo_50 ?_
      refine z_iload hC dX10_distanceTo_53 1 rfl ?_
      refine z_iaload hC (aX_14 (kf_10_5 qx1)) g6 dX10_distanceTo_55 ?_
      refine z_isub hC dX10_distanceTo_56 ?_
      obtain ⟨g8, hf⟩ := hf
      refine z_i2l hC dX10_distanceTo_57 g8 ?_
      refine z_lstore hC ([(7, vL ((σ2 (31 + 6 * (x0 - 24) + 1) r1) - (σ2 (31 + 6 * (x1 - 24) + 1) r2))), (5, vL ((σ2 (31 + 6 * (x0 - 24) + 0) r1) - (σ2 (31 + 6 * (x1 - 24) + 0) r2))), (4, vI r2), (3, vI r1), (0, vR ad x0), (1, vR ad x1), (2, vI x2)]) dX10_distanceTo_58 (by decide) rfl ?_
      refine z_ldc2 hC (n := 10000) (uT _ _ u1516) (by decide) dX10_distanceTo_60 ?_
      refine z_lload hC dX10_distanceTo_63 1 rfl ?_
      refine z_lload hC dX10_distanceTo_65 1 rfl ?_
      refine z_lmul hC dX10_distanceTo_67 ?_
      refine z_lload hC dX10_distanceTo_68 0 rfl ?_
      refine z_lload hC dX10_distanceTo_70 0 rfl ?_
      refine z_lmul hC dX10_distanceTo_72 ?_
      refine z_ladd hC dX10_distanceTo_73 ?_
      refine z_lmul hC dX10_distanceTo_74 ?_
      refine z_callSNi hC hE [vL (10000 * ((((σ2 (31 + 6 * (x0 - 24) + 0) r1) - (σ2 (31 + 6 * (x1 - 24) + 0) r2)) * ((σ2 (31 + 6 * (x0 - 24) + 0) r1) - (σ2 (31 + 6 * (x1 - 24) + 0) r2))) + (((σ2 (31 + 6 * (x0 - 24) + 1) r1) - (σ2 (31 + 6 * (x1 - 24) + 1) r2)) * ((σ2 (31 + 6 * (x0 - 24) + 1) r1) - (σ2 (31 + 6 * (x1 - 24) + 1) r2)))))] (fun sz2 => mX11_squareRoot l hinj sz2 hf) ⟨va_cnB (host := "GlacierCamera") 1 hC.1.2.2.2.2 (uP (uT _) u925) rfl rfl rfl ((hE.1 (.methodLinkNest RX10 129 yX11_squareRoot "GlacierCamera") ((by decide +kernel : (Cond.methodLinkNest RX10 129 yX11_squareRoot "GlacierCamera") ∈ zNest))).1) (hC.1.2.2.2.2 _ (uT _ _ u105)) (by decide +kernel) ⟨Nat.le_of_ble_eq_true rfl, Nat.le_of_ble_eq_true rfl⟩, hC.1.2.2.2.2 _ (uT _ _ u924), trivial⟩ rfl rfl (Nat.le_of_ble_eq_true rfl) ⟨Nat.le_of_ble_eq_true rfl, Nat.le_of_ble_eq_true rfl⟩ dX10_distanceTo_75 (fun r9 σ9 hf => ?_)
      exact z_iret hC hr rfl dX10_distanceTo_78 hf
    · replace hf := hf.1 hc
      refine z_iconst hC dX10_distanceTo_24 ?_
      exact z_iret hC hr rfl dX10_distanceTo_25 hf

-- ===== X11_feed
def fX11_feed (K : Int → zSt → Prop) (σ : zSt) (x1 : Int) (x2 : Int) (x3 : Int) (x4 : Int) (x5 : Int) : Prop :=
  zrg ((σ 2 0) + 20) ∧ (((σ 2 0) + 20 ≤ 1400 → fX2_append (fun σ2 => fX2_append (fun σ3 => fX2_append (fun σ4 => fX2_append (fun σ5 => fX2_append (fun σ6 => K (σ6 2 0) σ6) σ5 x5) σ4 x4) σ3 x3) σ2 x2) σ x1) ∧ (¬ (σ 2 0) + 20 ≤ 1400 → K (-3) σ))
set_option maxHeartbeats 4000000 in
set_option maxRecDepth 100000 in
theorem mX11_feed {D : va_G} {dA : Nat → ClassId} {ad : Nat → Nat} {aL aG aI : Nat} {aK aV : Nat → Nat} (l : Launch) (hinj : ∀ i j, i < NX → j < NX → ad i = ad j → i = j) (sz : Nat) {K : Int → zSt → Prop} {σ : zSt} {x1 : Int} {x2 : Int} {x3 : Int} {x4 : Int} {x5 : Int} (hf : fX11_feed K σ x1 x2 x3 x4 x5) : Met l yX11_feed (Cond.code yX11_feed cX11_feed 7 (some .int) :: UW) ({ frames := 1, cells := 0, slots := 0, locals := 22 } : Room) (va_Pc [vR ad 0, vI x1, vI x2, vI x3, vI x4, vI x5] (zPre D vwCl (tyA dA) (zXX aL aG aI aK aV) NX ad (celX ad dA) sz σ)) (va_Qi (zPi K) (zB D vwCl (tyA dA) NX ad (celX ad dA)) (zA ad NX sz)) 0 0 (zA ad NX sz) := by
  refine z_enter (cc := cX11_feed) (maxL := 7) (ret := (some .int)) (vs := [vR ad 0, vI x1, vI x2, vI x3, vI x4, vI x5]) (plainFor_of_name (by decide)) rfl hinj (Nat.le_of_ble_eq_true rfl) ?_
  intro p e s m args below meth c hC hE hsz hr hnm
  show zAt p l e ({ frames := 1, cells := 0, slots := 0, locals := 22 } : Room) s m args below meth c 0 0 (MQ below (va_Qi (zPi K) (zB D vwCl (tyA dA) NX ad (celX ad dA)) (zA ad NX sz)) args s 0 0 (zA ad NX sz)) 7 D vwCl (zA ad NX sz) NX ad (celX ad dA) 0 [(0, vR ad 0), (1, vI x1), (2, vI x2), (3, vI x3), (4, vI x4), (5, vI x5)] [] σ
  refine z_aload_n hC dX11_feed_0 0 rfl rfl ?_
  refine z_get hC (fun w h => uT _ w (uL11 w h)) (oX_11 (show kX 0 = 11 by decide)) 1 (by decide) (uT _ _ u468) rfl rfl dX11_feed_1 ?_
  refine z_get hC (fun w h => uT _ w (uL4 w h)) (oX_4 (show kX 1 = 4 by decide)) 0 (by decide) (uT _ _ u306) rfl rfl dX11_feed_4 ?_
  refine z_astore hC ([(6, vR ad 2), (0, vR ad 0), (1, vI x1), (2, vI x2), (3, vI x3), (4, vI x4), (5, vI x5)]) dX11_feed_7 (by decide) rfl ?_
  refine z_aload hC dX11_feed_9 0 rfl ?_
  refine z_get hC (fun w h => uT _ w (uL2 w h)) (oX_2 (show kX 2 = 2 by decide)) 0 (by decide) (uT _ _ u277) rfl rfl dX11_feed_11 ?_
  refine z_bipush hC dX11_feed_14 (by decide) ?_
  refine z_iadd hC dX11_feed_16 ?_
  refine z_sipush hC dX11_feed_17 (by decide) ?_
  obtain ⟨g1, hf⟩ := hf
  refine z_icmp_le (tgt := 26) hC dX11_feed_20 (by decide) g1 (zlit rfl rfl) (fun hc => ?_) (fun hc => ?_)
  · replace hf := hf.1 hc
    refine z_aload hC dX11_feed_26 0 rfl ?_
    refine z_iload_n hC dX11_feed_28 2 rfl rfl ?_
    refine z_callVv hC hE (oX_2 (show kX 2 = 2 by decide)) [vI x1] (fun sz2 => mX2_append l hinj sz2 hf) (cwV 1 hC.1.2.2.2.2 (uV (uT _) u499 u500 u501 u112 u502) rfl rfl rfl (by decide +kernel) ⟨Nat.le_of_ble_eq_true rfl, Nat.le_of_ble_eq_true rfl⟩) rfl rfl (Nat.le_of_ble_eq_true rfl) ⟨Nat.le_of_ble_eq_true rfl, Nat.le_of_ble_eq_true rfl⟩ dX11_feed_29 (fun σ2 hf => ?_)
    refine z_aload hC dX11_feed_32 0 rfl ?_
    refine z_iload_n hC dX11_feed_34 3 rfl rfl ?_
    refine z_callVv hC hE (oX_2 (show kX 2 = 2 by decide)) [vI x2] (fun sz2 => mX2_append l hinj sz2 hf) (cwV 1 hC.1.2.2.2.2 (uV (uT _) u499 u500 u501 u112 u502) rfl rfl rfl (by decide +kernel) ⟨Nat.le_of_ble_eq_true rfl, Nat.le_of_ble_eq_true rfl⟩) rfl rfl (Nat.le_of_ble_eq_true rfl) ⟨Nat.le_of_ble_eq_true rfl, Nat.le_of_ble_eq_true rfl⟩ dX11_feed_35 (fun σ3 hf => ?_)
    refine z_aload hC dX11_feed_38 0 rfl ?_
    refine z_iload_n hC dX11_feed_40 4 rfl rfl ?_
    refine z_callVv hC hE (oX_2 (show kX 2 = 2 by decide)) [vI x3] (fun sz2 => mX2_append l hinj sz2 hf) (cwV 1 hC.1.2.2.2.2 (uV (uT _) u499 u500 u501 u112 u502) rfl rfl rfl (by decide +kernel) ⟨Nat.le_of_ble_eq_true rfl, Nat.le_of_ble_eq_true rfl⟩) rfl rfl (Nat.le_of_ble_eq_true rfl) ⟨Nat.le_of_ble_eq_true rfl, Nat.le_of_ble_eq_true rfl⟩ dX11_feed_41 (fun σ4 hf => ?_)
    refine z_aload hC dX11_feed_44 0 rfl ?_
    refine z_iload hC dX11_feed_46 5 rfl ?_
    refine z_callVv hC hE (oX_2 (show kX 2 = 2 by decide)) [vI x4] (fun sz2 => mX2_append l hinj sz2 hf) (cwV 1 hC.1.2.2.2.2 (uV (uT _) u499 u500 u501 u112 u502) rfl rfl rfl (by decide +kernel) ⟨Nat.le_of_ble_eq_true rfl, Nat.le_of_ble_eq_true rfl⟩) rfl rfl (Nat.le_of_ble_eq_true rfl) ⟨Nat.le_of_ble_eq_true rfl, Nat.le_of_ble_eq_true rfl⟩ dX11_feed_48 (fun σ5 hf => ?_)
    refine z_aload hC dX11_feed_51 0 rfl ?_
    refine z_iload hC dX11_feed_53 6 rfl ?_
    refine z_callVv hC hE (oX_2 (show kX 2 = 2 by decide)) [vI x5] (fun sz2 => mX2_append l hinj sz2 hf) (cwV 1 hC.1.2.2.2.2 (uV (uT _) u499 u500 u501 u112 u502) rfl rfl rfl (by decide +kernel) ⟨Nat.le_of_ble_eq_true rfl, Nat.le_of_ble_eq_true rfl⟩) rfl rfl (Nat.le_of_ble_eq_true rfl) ⟨Nat.le_of_ble_eq_true rfl, Nat.le_of_ble_eq_true rfl⟩ dX11_feed_55 (fun σ6 hf => ?_)
    refine z_aload hC dX11_feed_58 0 rfl ?_
    refine z_get hC (fun w h => uT _ w (uL2 w h)) (oX_2 (show kX 2 = 2 by decide)) 0 (by decide) (uT _ _ u277) rfl rfl dX11_feed_60 ?_
    exact z_iret hC hr rfl dX11_feed_63 hf
  · replace hf := hf.2 hc
    refine z_bipush hC dX11_feed_23 (by decide) ?_
    exact z_iret hC hr rfl dX11_feed_25 hf

-- ===== X11_errorPosition
def fX11_errorPosition (K : Int → zSt → Prop) (σ : zSt) : Prop :=
  K (σ 0 7) σ
set_option maxHeartbeats 4000000 in
set_option maxRecDepth 100000 in
theorem mX11_errorPosition {D : va_G} {dA : Nat → ClassId} {ad : Nat → Nat} {aL aG aI : Nat} {aK aV : Nat → Nat} (l : Launch) (hinj : ∀ i j, i < NX → j < NX → ad i = ad j → i = j) (sz : Nat) {K : Int → zSt → Prop} {σ : zSt} (hf : fX11_errorPosition K σ ) : Met l yX11_errorPosition (Cond.code yX11_errorPosition cX11_errorPosition 1 (some .int) :: UW) ({ frames := 0, cells := 0, slots := 0, locals := 0 } : Room) (va_Pc [vR ad 0] (zPre D vwCl (tyA dA) (zXX aL aG aI aK aV) NX ad (celX ad dA) sz σ)) (va_Qi (zPi K) (zB D vwCl (tyA dA) NX ad (celX ad dA)) (zA ad NX sz)) 0 0 (zA ad NX sz) := by
  refine z_enter (cc := cX11_errorPosition) (maxL := 1) (ret := (some .int)) (vs := [vR ad 0]) (plainFor_of_name (by decide)) rfl hinj (Nat.le_of_ble_eq_true rfl) ?_
  intro p e s m args below meth c hC hE hsz hr hnm
  show zAt p l e ({ frames := 0, cells := 0, slots := 0, locals := 0 } : Room) s m args below meth c 0 0 (MQ below (va_Qi (zPi K) (zB D vwCl (tyA dA) NX ad (celX ad dA)) (zA ad NX sz)) args s 0 0 (zA ad NX sz)) 1 D vwCl (zA ad NX sz) NX ad (celX ad dA) 0 [(0, vR ad 0)] [] σ
  refine z_aload_n hC dX11_errorPosition_0 0 rfl rfl ?_
  refine z_get hC (fun w h => uT _ w (uL11 w h)) (oX_11 (show kX 0 = 11 by decide)) 7 (by decide) (uT _ _ u474) rfl rfl dX11_errorPosition_1 ?_
  exact z_iret hC hr rfl dX11_errorPosition_4 hf

-- ===== X11_width
def fX11_width (K : Int → zSt → Prop) (σ : zSt) : Prop :=
  kX (σ 0 0) = 8 ∧ K (σ (σ 0 0) 0) σ
set_option maxHeartbeats 4000000 in
set_option maxRecDepth 100000 in
theorem mX11_width {D : va_G} {dA : Nat → ClassId} {ad : Nat → Nat} {aL aG aI : Nat} {aK aV : Nat → Nat} (l : Launch) (hinj : ∀ i j, i < NX → j < NX → ad i = ad j → i = j) (sz : Nat) {K : Int → zSt → Prop} {σ : zSt} (hf : fX11_width K σ ) : Met l yX11_width (Cond.code yX11_width cX11_width 1 (some .int) :: UW) ({ frames := 0, cells := 0, slots := 0, locals := 0 } : Room) (va_Pc [vR ad 0] (zPre D vwCl (tyA dA) (zXX aL aG aI aK aV) NX ad (celX ad dA) sz σ)) (va_Qi (zPi K) (zB D vwCl (tyA dA) NX ad (celX ad dA)) (zA ad NX sz)) 0 0 (zA ad NX sz) := by
  refine z_enter (cc := cX11_width) (maxL := 1) (ret := (some .int)) (vs := [vR ad 0]) (plainFor_of_name (by decide)) rfl hinj (Nat.le_of_ble_eq_true rfl) ?_
  intro p e s m args below meth c hC hE hsz hr hnm
  show zAt p l e ({ frames := 0, cells := 0, slots := 0, locals := 0 } : Room) s m args below meth c 0 0 (MQ below (va_Qi (zPi K) (zB D vwCl (tyA dA) NX ad (celX ad dA)) (zA ad NX sz)) args s 0 0 (zA ad NX sz)) 1 D vwCl (zA ad NX sz) NX ad (celX ad dA) 0 [(0, vR ad 0)] [] σ
  refine z_aload_n hC dX11_width_0 0 rfl rfl ?_
  refine z_get hC (fun w h => uT _ w (uL11 w h)) (oX_11 (show kX 0 = 11 by decide)) 0 (by decide) (uT _ _ u467) rfl rfl dX11_width_1 ?_
  obtain ⟨g1, hf⟩ := hf
  refine z_get hC (fun w h => uT _ w (uL8 w h)) (oX_8 g1) 0 (by decide) (uT _ _ u214) rfl rfl dX11_width_4 ?_
  exact z_iret hC hr rfl dX11_width_7 hf

-- ===== X11_height
def fX11_height (K : Int → zSt → Prop) (σ : zSt) : Prop :=
  kX (σ 0 0) = 8 ∧ K (σ (σ 0 0) 1) σ
set_option maxHeartbeats 4000000 in
set_option maxRecDepth 100000 in
theorem mX11_height {D : va_G} {dA : Nat → ClassId} {ad : Nat → Nat} {aL aG aI : Nat} {aK aV : Nat → Nat} (l : Launch) (hinj : ∀ i j, i < NX → j < NX → ad i = ad j → i = j) (sz : Nat) {K : Int → zSt → Prop} {σ : zSt} (hf : fX11_height K σ ) : Met l yX11_height (Cond.code yX11_height cX11_height 1 (some .int) :: UW) ({ frames := 0, cells := 0, slots := 0, locals := 0 } : Room) (va_Pc [vR ad 0] (zPre D vwCl (tyA dA) (zXX aL aG aI aK aV) NX ad (celX ad dA) sz σ)) (va_Qi (zPi K) (zB D vwCl (tyA dA) NX ad (celX ad dA)) (zA ad NX sz)) 0 0 (zA ad NX sz) := by
  refine z_enter (cc := cX11_height) (maxL := 1) (ret := (some .int)) (vs := [vR ad 0]) (plainFor_of_name (by decide)) rfl hinj (Nat.le_of_ble_eq_true rfl) ?_
  intro p e s m args below meth c hC hE hsz hr hnm
  show zAt p l e ({ frames := 0, cells := 0, slots := 0, locals := 0 } : Room) s m args below meth c 0 0 (MQ below (va_Qi (zPi K) (zB D vwCl (tyA dA) NX ad (celX ad dA)) (zA ad NX sz)) args s 0 0 (zA ad NX sz)) 1 D vwCl (zA ad NX sz) NX ad (celX ad dA) 0 [(0, vR ad 0)] [] σ
  refine z_aload_n hC dX11_height_0 0 rfl rfl ?_
  refine z_get hC (fun w h => uT _ w (uL11 w h)) (oX_11 (show kX 0 = 11 by decide)) 0 (by decide) (uT _ _ u467) rfl rfl dX11_height_1 ?_
  obtain ⟨g1, hf⟩ := hf
  refine z_get hC (fun w h => uT _ w (uL8 w h)) (oX_8 g1) 1 (by decide) (uT _ _ u218) rfl rfl dX11_height_4 ?_
  exact z_iret hC hr rfl dX11_height_7 hf

-- ===== X11_frameCount
def fX11_frameCount (K : Int → zSt → Prop) (σ : zSt) : Prop :=
  kX (σ 0 0) = 8 ∧ K (σ (σ 0 0) 2) σ
set_option maxHeartbeats 4000000 in
set_option maxRecDepth 100000 in
theorem mX11_frameCount {D : va_G} {dA : Nat → ClassId} {ad : Nat → Nat} {aL aG aI : Nat} {aK aV : Nat → Nat} (l : Launch) (hinj : ∀ i j, i < NX → j < NX → ad i = ad j → i = j) (sz : Nat) {K : Int → zSt → Prop} {σ : zSt} (hf : fX11_frameCount K σ ) : Met l yX11_frameCount (Cond.code yX11_frameCount cX11_frameCount 1 (some .int) :: UW) ({ frames := 0, cells := 0, slots := 0, locals := 0 } : Room) (va_Pc [vR ad 0] (zPre D vwCl (tyA dA) (zXX aL aG aI aK aV) NX ad (celX ad dA) sz σ)) (va_Qi (zPi K) (zB D vwCl (tyA dA) NX ad (celX ad dA)) (zA ad NX sz)) 0 0 (zA ad NX sz) := by
  refine z_enter (cc := cX11_frameCount) (maxL := 1) (ret := (some .int)) (vs := [vR ad 0]) (plainFor_of_name (by decide)) rfl hinj (Nat.le_of_ble_eq_true rfl) ?_
  intro p e s m args below meth c hC hE hsz hr hnm
  show zAt p l e ({ frames := 0, cells := 0, slots := 0, locals := 0 } : Room) s m args below meth c 0 0 (MQ below (va_Qi (zPi K) (zB D vwCl (tyA dA) NX ad (celX ad dA)) (zA ad NX sz)) args s 0 0 (zA ad NX sz)) 1 D vwCl (zA ad NX sz) NX ad (celX ad dA) 0 [(0, vR ad 0)] [] σ
  refine z_aload_n hC dX11_frameCount_0 0 rfl rfl ?_
  refine z_get hC (fun w h => uT _ w (uL11 w h)) (oX_11 (show kX 0 = 11 by decide)) 0 (by decide) (uT _ _ u467) rfl rfl dX11_frameCount_1 ?_
  obtain ⟨g1, hf⟩ := hf
  refine z_get hC (fun w h => uT _ w (uL8 w h)) (oX_8 g1) 2 (by decide) (uT _ _ u222) rfl rfl dX11_frameCount_4 ?_
  exact z_iret hC hr rfl dX11_frameCount_7 hf

-- ===== X11_controlCount
def fX11_controlCount (K : Int → zSt → Prop) (σ : zSt) : Prop :=
  kX (σ 0 0) = 8 ∧ K (σ ((σ 0 0) + 4) 3) σ
set_option maxHeartbeats 4000000 in
set_option maxRecDepth 100000 in
theorem mX11_controlCount {D : va_G} {dA : Nat → ClassId} {ad : Nat → Nat} {aL aG aI : Nat} {aK aV : Nat → Nat} (l : Launch) (hinj : ∀ i j, i < NX → j < NX → ad i = ad j → i = j) (sz : Nat) {K : Int → zSt → Prop} {σ : zSt} (hf : fX11_controlCount K σ ) : Met l yX11_controlCount (Cond.code yX11_controlCount cX11_controlCount 1 (some .int) :: UW) ({ frames := 0, cells := 0, slots := 0, locals := 0 } : Room) (va_Pc [vR ad 0] (zPre D vwCl (tyA dA) (zXX aL aG aI aK aV) NX ad (celX ad dA) sz σ)) (va_Qi (zPi K) (zB D vwCl (tyA dA) NX ad (celX ad dA)) (zA ad NX sz)) 0 0 (zA ad NX sz) := by
  refine z_enter (cc := cX11_controlCount) (maxL := 1) (ret := (some .int)) (vs := [vR ad 0]) (plainFor_of_name (by decide)) rfl hinj (Nat.le_of_ble_eq_true rfl) ?_
  intro p e s m args below meth c hC hE hsz hr hnm
  show zAt p l e ({ frames := 0, cells := 0, slots := 0, locals := 0 } : Room) s m args below meth c 0 0 (MQ below (va_Qi (zPi K) (zB D vwCl (tyA dA) NX ad (celX ad dA)) (zA ad NX sz)) args s 0 0 (zA ad NX sz)) 1 D vwCl (zA ad NX sz) NX ad (celX ad dA) 0 [(0, vR ad 0)] [] σ
  refine z_aload_n hC dX11_controlCount_0 0 rfl rfl ?_
  refine z_get hC (fun w h => uT _ w (uL11 w h)) (oX_11 (show kX 0 = 11 by decide)) 0 (by decide) (uT _ _ u467) rfl rfl dX11_controlCount_1 ?_
  obtain ⟨g1, hf⟩ := hf
  refine z_get hC (fun w h => uT _ w (uL8 w h)) (oX_8 g1) 7 (by decide) (uT _ _ u239) rfl rfl dX11_controlCount_4 ?_
  refine z_get hC (fun w h => uT _ w (uL7 w h)) (oX_7 (kf_8_7 g1)) 3 (by decide) (uT _ _ u166) rfl rfl dX11_controlCount_7 ?_
  exact z_iret hC hr rfl dX11_controlCount_10 hf

-- ===== X11_featureCount
def fX11_featureCount (K : Int → zSt → Prop) (σ : zSt) : Prop :=
  kX (σ 0 0) = 8 ∧ K (σ ((σ 0 0) + 7) 3) σ
set_option maxHeartbeats 4000000 in
set_option maxRecDepth 100000 in
theorem mX11_featureCount {D : va_G} {dA : Nat → ClassId} {ad : Nat → Nat} {aL aG aI : Nat} {aK aV : Nat → Nat} (l : Launch) (hinj : ∀ i j, i < NX → j < NX → ad i = ad j → i = j) (sz : Nat) {K : Int → zSt → Prop} {σ : zSt} (hf : fX11_featureCount K σ ) : Met l yX11_featureCount (Cond.code yX11_featureCount cX11_featureCount 1 (some .int) :: UW) ({ frames := 0, cells := 0, slots := 0, locals := 0 } : Room) (va_Pc [vR ad 0] (zPre D vwCl (tyA dA) (zXX aL aG aI aK aV) NX ad (celX ad dA) sz σ)) (va_Qi (zPi K) (zB D vwCl (tyA dA) NX ad (celX ad dA)) (zA ad NX sz)) 0 0 (zA ad NX sz) := by
  refine z_enter (cc := cX11_featureCount) (maxL := 1) (ret := (some .int)) (vs := [vR ad 0]) (plainFor_of_name (by decide)) rfl hinj (Nat.le_of_ble_eq_true rfl) ?_
  intro p e s m args below meth c hC hE hsz hr hnm
  show zAt p l e ({ frames := 0, cells := 0, slots := 0, locals := 0 } : Room) s m args below meth c 0 0 (MQ below (va_Qi (zPi K) (zB D vwCl (tyA dA) NX ad (celX ad dA)) (zA ad NX sz)) args s 0 0 (zA ad NX sz)) 1 D vwCl (zA ad NX sz) NX ad (celX ad dA) 0 [(0, vR ad 0)] [] σ
  refine z_aload_n hC dX11_featureCount_0 0 rfl rfl ?_
  refine z_get hC (fun w h => uT _ w (uL11 w h)) (oX_11 (show kX 0 = 11 by decide)) 0 (by decide) (uT _ _ u467) rfl rfl dX11_featureCount_1 ?_
  obtain ⟨g1, hf⟩ := hf
  refine z_get hC (fun w h => uT _ w (uL8 w h)) (oX_8 g1) 8 (by decide) (uT _ _ u244) rfl rfl dX11_featureCount_4 ?_
  refine z_get hC (fun w h => uT _ w (uL7 w h)) (oX_7 (kf_8_8 g1)) 3 (by decide) (uT _ _ u166) rfl rfl dX11_featureCount_7 ?_
  exact z_iret hC hr rfl dX11_featureCount_10 hf

-- ===== X11_stakeCount
def fX11_stakeCount (K : Int → zSt → Prop) (σ : zSt) : Prop :=
  kX (σ 0 0) = 8 ∧ K (σ (σ 0 0) 3) σ
set_option maxHeartbeats 4000000 in
set_option maxRecDepth 100000 in
theorem mX11_stakeCount {D : va_G} {dA : Nat → ClassId} {ad : Nat → Nat} {aL aG aI : Nat} {aK aV : Nat → Nat} (l : Launch) (hinj : ∀ i j, i < NX → j < NX → ad i = ad j → i = j) (sz : Nat) {K : Int → zSt → Prop} {σ : zSt} (hf : fX11_stakeCount K σ ) : Met l yX11_stakeCount (Cond.code yX11_stakeCount cX11_stakeCount 1 (some .int) :: UW) ({ frames := 0, cells := 0, slots := 0, locals := 0 } : Room) (va_Pc [vR ad 0] (zPre D vwCl (tyA dA) (zXX aL aG aI aK aV) NX ad (celX ad dA) sz σ)) (va_Qi (zPi K) (zB D vwCl (tyA dA) NX ad (celX ad dA)) (zA ad NX sz)) 0 0 (zA ad NX sz) := by
  refine z_enter (cc := cX11_stakeCount) (maxL := 1) (ret := (some .int)) (vs := [vR ad 0]) (plainFor_of_name (by decide)) rfl hinj (Nat.le_of_ble_eq_true rfl) ?_
  intro p e s m args below meth c hC hE hsz hr hnm
  show zAt p l e ({ frames := 0, cells := 0, slots := 0, locals := 0 } : Room) s m args below meth c 0 0 (MQ below (va_Qi (zPi K) (zB D vwCl (tyA dA) NX ad (celX ad dA)) (zA ad NX sz)) args s 0 0 (zA ad NX sz)) 1 D vwCl (zA ad NX sz) NX ad (celX ad dA) 0 [(0, vR ad 0)] [] σ
  refine z_aload_n hC dX11_stakeCount_0 0 rfl rfl ?_
  refine z_get hC (fun w h => uT _ w (uL11 w h)) (oX_11 (show kX 0 = 11 by decide)) 0 (by decide) (uT _ _ u467) rfl rfl dX11_stakeCount_1 ?_
  obtain ⟨g1, hf⟩ := hf
  refine z_get hC (fun w h => uT _ w (uL8 w h)) (oX_8 g1) 3 (by decide) (uT _ _ u225) rfl rfl dX11_stakeCount_4 ?_
  exact z_iret hC hr rfl dX11_stakeCount_7 hf

-- ===== X11_getSetting
def fX11_getSetting (K : Int → zSt → Prop) (σ : zSt) (x1 : Int) : Prop :=
  fX11_isSetting (fun r1 σ1 => zrg r1 ∧ ((r1 = 0 → K (-2) σ1) ∧ (¬ r1 = 0 → kX (σ1 0 0) = 8 ∧ (0 ≤ x1 ∧ x1 < 8) ∧ K (σ1 ((σ1 0 0) + 1) x1) σ1))) σ x1
set_option maxHeartbeats 4000000 in
set_option maxRecDepth 100000 in
theorem mX11_getSetting {D : va_G} {dA : Nat → ClassId} {ad : Nat → Nat} {aL aG aI : Nat} {aK aV : Nat → Nat} (l : Launch) (hinj : ∀ i j, i < NX → j < NX → ad i = ad j → i = j) (sz : Nat) {K : Int → zSt → Prop} {σ : zSt} {x1 : Int} (hf : fX11_getSetting K σ x1) : Met l yX11_getSetting (Cond.code yX11_getSetting cX11_getSetting 2 (some .int) :: UW) ({ frames := 1, cells := 0, slots := 0, locals := 20 } : Room) (va_Pc [vR ad 0, vI x1] (zPre D vwCl (tyA dA) (zXX aL aG aI aK aV) NX ad (celX ad dA) sz σ)) (va_Qi (zPi K) (zB D vwCl (tyA dA) NX ad (celX ad dA)) (zA ad NX sz)) 0 0 (zA ad NX sz) := by
  refine z_enter (cc := cX11_getSetting) (maxL := 2) (ret := (some .int)) (vs := [vR ad 0, vI x1]) (plainFor_of_name (by decide)) rfl hinj (Nat.le_of_ble_eq_true rfl) ?_
  intro p e s m args below meth c hC hE hsz hr hnm
  show zAt p l e ({ frames := 1, cells := 0, slots := 0, locals := 20 } : Room) s m args below meth c 0 0 (MQ below (va_Qi (zPi K) (zB D vwCl (tyA dA) NX ad (celX ad dA)) (zA ad NX sz)) args s 0 0 (zA ad NX sz)) 2 D vwCl (zA ad NX sz) NX ad (celX ad dA) 0 [(0, vR ad 0), (1, vI x1)] [] σ
  refine z_iload_n hC dX11_getSetting_0 1 rfl rfl ?_
  refine z_callSi hC hE [vI x1] (fun sz2 => mX11_isSetting l hinj sz2 hf) (va_cwS 1 hC.1.2.2.2.2 (uS (uT _) u745 u699 u105 u700) rfl rfl rfl (by decide +kernel) ⟨Nat.le_of_ble_eq_true rfl, Nat.le_of_ble_eq_true rfl⟩) rfl rfl (Nat.le_of_ble_eq_true rfl) ⟨Nat.le_of_ble_eq_true rfl, Nat.le_of_ble_eq_true rfl⟩ dX11_getSetting_1 (fun r1 σ1 hf => ?_)
  obtain ⟨g2, hf⟩ := hf
  refine z_if_eq (tgt := 19) hC dX11_getSetting_4 (by decide) g2 (fun hc => ?_) (fun hc => ?_)
  · replace hf := hf.1 hc
    refine z_bipush hC dX11_getSetting_19 (by decide) ?_
    exact z_iret hC hr rfl dX11_getSetting_21 hf
  · replace hf := hf.2 hc
    refine z_aload_n hC dX11_getSetting_7 0 rfl rfl ?_
    refine z_get hC (fun w h => uT _ w (uL11 w h)) (oX_11 (show kX 0 = 11 by decide)) 0 (by decide) (uT _ _ u467) rfl rfl dX11_getSetting_8 ?_
    obtain ⟨g3, hf⟩ := hf
    refine z_get hC (fun w h => uT _ w (uL8 w h)) (oX_8 g3) 4 (by decide) (uT _ _ u230) rfl rfl dX11_getSetting_11 ?_
    refine z_iload_n hC dX11_getSetting_14 1 rfl rfl ?_
    obtain ⟨g4, hf⟩ := hf
    refine z_iaload hC (aX_17 (kf_8_4 g3)) g4 dX11_getSetting_15 ?_
    refine z_goto (tgt := 21) hC dX11_getSetting_16 (by decide) ?_
    exact z_iret hC hr rfl dX11_getSetting_21 hf

-- ===== X11_record
def fX11_record (K : zSt → Prop) (σ : zSt) (x1 : Int) (x2 : Int) (x3 : Int) (x4 : Int) (x5 : Int) : Prop :=
  fX3_add (fun σ1 => ∀ σ2, σ2 = zu σ1 0 8 ((σ1 0 8) + 1) → K σ2) σ x1 x2 x3 x4 x5
set_option maxHeartbeats 4000000 in
set_option maxRecDepth 100000 in
theorem mX11_record {D : va_G} {dA : Nat → ClassId} {ad : Nat → Nat} {aL aG aI : Nat} {aK aV : Nat → Nat} (l : Launch) (hinj : ∀ i j, i < NX → j < NX → ad i = ad j → i = j) (sz : Nat) {K : zSt → Prop} {σ : zSt} {x1 : Int} {x2 : Int} {x3 : Int} {x4 : Int} {x5 : Int} (hf : fX11_record K σ x1 x2 x3 x4 x5) : Met l yX11_record (Cond.code yX11_record cX11_record 6 none :: UW) ({ frames := 3, cells := 0, slots := 0, locals := 68 } : Room) (va_Pc [vR ad 0, vI x1, vI x2, vI x3, vI x4, vI x5] (zPre D vwCl (tyA dA) (zXX aL aG aI aK aV) NX ad (celX ad dA) sz σ)) (va_Qv K (zB D vwCl (tyA dA) NX ad (celX ad dA)) (zA ad NX sz)) 0 0 (zA ad NX sz) := by
  refine z_enter (cc := cX11_record) (maxL := 6) (ret := none) (vs := [vR ad 0, vI x1, vI x2, vI x3, vI x4, vI x5]) (plainFor_of_name (by decide)) rfl hinj (Nat.le_of_ble_eq_true rfl) ?_
  intro p e s m args below meth c hC hE hsz hr hnm
  show zAt p l e ({ frames := 3, cells := 0, slots := 0, locals := 68 } : Room) s m args below meth c 0 0 (MQ below (va_Qv K (zB D vwCl (tyA dA) NX ad (celX ad dA)) (zA ad NX sz)) args s 0 0 (zA ad NX sz)) 6 D vwCl (zA ad NX sz) NX ad (celX ad dA) 0 [(0, vR ad 0), (1, vI x1), (2, vI x2), (3, vI x3), (4, vI x4), (5, vI x5)] [] σ
  refine z_aload_n hC dX11_record_0 0 rfl rfl ?_
  refine z_get hC (fun w h => uT _ w (uL11 w h)) (oX_11 (show kX 0 = 11 by decide)) 2 (by decide) (uT _ _ u469) rfl rfl dX11_record_1 ?_
  refine z_iload_n hC dX11_record_4 1 rfl rfl ?_
  refine z_iload_n hC dX11_record_5 2 rfl rfl ?_
  refine z_iload_n hC dX11_record_6 3 rfl rfl ?_
  refine z_iload hC dX11_record_7 4 rfl ?_
  refine z_iload hC dX11_record_9 5 rfl ?_
  refine z_callVv hC hE (oX_3 (show kX 5 = 3 by decide)) [vI x1, vI x2, vI x3, vI x4, vI x5] (fun sz2 => mX3_add l hinj sz2 hf) (cwV 5 hC.1.2.2.2.2 (uV (uT _) u757 u758 u759 u113 u760) rfl rfl rfl (by decide +kernel) ⟨Nat.le_of_ble_eq_true rfl, Nat.le_of_ble_eq_true rfl⟩) rfl rfl (Nat.le_of_ble_eq_true rfl) ⟨Nat.le_of_ble_eq_true rfl, Nat.le_of_ble_eq_true rfl⟩ dX11_record_11 (fun σ1 hf => ?_)
  refine z_aload_n hC dX11_record_14 0 rfl rfl ?_
  refine z_dup hC dX11_record_15 rfl ?_
  refine z_get hC (fun w h => uT _ w (uL11 w h)) (oX_11 (show kX 0 = 11 by decide)) 8 (by decide) (uT _ _ u475) rfl rfl dX11_record_16 ?_
  refine z_iconst hC dX11_record_19 ?_
  refine z_iadd hC dX11_record_20 ?_
  refine z_put hC (ty := .int) tyX11 tyX11_ok nmX11 (fun w h => uT _ w (uL11 w h)) (oX_11 (show kX 0 = 11 by decide)) (loX' (show kX 0 = 11 by decide) (by decide)) 8 (by decide) (uT _ _ u475) rfl rfl (8) ((σ1 0 8) + 1) (by simp [zu]) (by decide +kernel) rfl rfl (Nat.le_of_ble_eq_true rfl) dX11_record_21 ?_
  obtain ⟨σ2, eσ2⟩ : ∃ z : zSt, z = zu σ1 0 8 ((σ1 0 8) + 1) := ⟨_, rfl⟩
  rw [← eσ2]
  replace hf := hf σ2 eσ2
  exact z_vret hC hr rfl dX11_record_24 hf

-- ===== X11_setSetting
def fX11_setSetting (K : Int → zSt → Prop) (σ : zSt) (x1 : Int) (x2 : Int) : Prop :=
  fX11_isSetting (fun r1 σ1 => zrg r1 ∧ ((r1 = 0 → K (-2) σ1) ∧ (¬ r1 = 0 → (0 ≤ x1 ∧ x1 < 8) ∧ fX11_isBetween (fun r4 σ4 => zrg r4 ∧ ((r4 = 0 → K (-2) σ4) ∧ (¬ r4 = 0 → kX (σ4 0 0) = 8 ∧ fX11_record (fun σ7 => kX (σ7 0 0) = 8 ∧ ∀ σ9, σ9 = zu σ7 ((σ7 0 0) + 1) x1 x2 → K (σ4 ((σ4 0 0) + 1) x1) σ9) σ4 0 x1 0 0 (σ4 ((σ4 0 0) + 1) x1)))) σ1 x2 (cLEAST x1) (cGREAT x1)))) σ x1
set_option maxHeartbeats 4000000 in
set_option maxRecDepth 100000 in
theorem mX11_setSetting {D : va_G} {dA : Nat → ClassId} {ad : Nat → Nat} {aL aG aI : Nat} {aK aV : Nat → Nat} (l : Launch) (hinj : ∀ i j, i < NX → j < NX → ad i = ad j → i = j) (sz : Nat) {K : Int → zSt → Prop} {σ : zSt} {x1 : Int} {x2 : Int} (hf : fX11_setSetting K σ x1 x2) : Met l yX11_setSetting (Cond.code yX11_setSetting cX11_setSetting 4 (some .int) :: UW) ({ frames := 4, cells := 0, slots := 0, locals := 93 } : Room) (va_Pc [vR ad 0, vI x1, vI x2] (zPre D vwCl (tyA dA) (zXX aL aG aI aK aV) NX ad (celX ad dA) sz σ)) (va_Qi (zPi K) (zB D vwCl (tyA dA) NX ad (celX ad dA)) (zA ad NX sz)) 0 0 (zA ad NX sz) := by
  refine z_enter (cc := cX11_setSetting) (maxL := 4) (ret := (some .int)) (vs := [vR ad 0, vI x1, vI x2]) (plainFor_of_name (by decide)) rfl hinj (Nat.le_of_ble_eq_true rfl) ?_
  intro p e s m args below meth c hC hE hsz hr hnm
  show zAt p l e ({ frames := 4, cells := 0, slots := 0, locals := 93 } : Room) s m args below meth c 0 0 (MQ below (va_Qi (zPi K) (zB D vwCl (tyA dA) NX ad (celX ad dA)) (zA ad NX sz)) args s 0 0 (zA ad NX sz)) 4 D vwCl (zA ad NX sz) NX ad (celX ad dA) 0 [(0, vR ad 0), (1, vI x1), (2, vI x2)] [] σ
  refine z_iload_n hC dX11_setSetting_0 1 rfl rfl ?_
  refine z_callSi hC hE [vI x1] (fun sz2 => mX11_isSetting l hinj sz2 hf) (va_cwS 1 hC.1.2.2.2.2 (uS (uT _) u745 u699 u105 u700) rfl rfl rfl (by decide +kernel) ⟨Nat.le_of_ble_eq_true rfl, Nat.le_of_ble_eq_true rfl⟩) rfl rfl (Nat.le_of_ble_eq_true rfl) ⟨Nat.le_of_ble_eq_true rfl, Nat.le_of_ble_eq_true rfl⟩ dX11_setSetting_1 (fun r1 σ1 hf => ?_)
  obtain ⟨g2, hf⟩ := hf
  refine z_if_eq (tgt := 24) hC dX11_setSetting_4 (by decide) g2 (fun hc => ?_) (fun hc => ?_)
  · replace hf := hf.1 hc
    refine z_bipush hC dX11_setSetting_24 (by decide) ?_
    exact z_iret hC hr rfl dX11_setSetting_26 hf
  · replace hf := hf.2 hc
    refine z_iload_n hC dX11_setSetting_7 2 rfl rfl ?_
    refine z_gets hC hE (n := "LEAST_VALUE") (q := aL) (List.mem_of_getElem? (i := 0) rfl) (uT _ _ u750) dX11_setSetting_8 ?_
    refine z_iload_n hC dX11_setSetting_11 1 rfl rfl ?_
    obtain ⟨g3, hf⟩ := hf
    refine z_sald hC hE (List.mem_of_getElem? (i := 0) rfl) (F := cLEAST) (fun _ _ => rfl) g3 dX11_setSetting_12 ?_
    refine z_gets hC hE (n := "GREATEST_VALUE") (q := aG) (List.mem_of_getElem? (i := 1) rfl) (uT _ _ u751) dX11_setSetting_13 ?_
    refine z_iload_n hC dX11_setSetting_16 1 rfl rfl ?_
    refine z_sald hC hE (List.mem_of_getElem? (i := 1) rfl) (F := cGREAT) (fun _ _ => rfl) g3 dX11_setSetting_17 ?_
    refine z_callSi hC hE [vI x2, vI (cLEAST x1), vI (cGREAT x1)] (fun sz2 => mX11_isBetween l hinj sz2 hf) (va_cwS 3 hC.1.2.2.2.2 (uS (uT _) u752 u609 u105 u610) rfl rfl rfl (by decide +kernel) ⟨Nat.le_of_ble_eq_true rfl, Nat.le_of_ble_eq_true rfl⟩) rfl rfl (Nat.le_of_ble_eq_true rfl) ⟨Nat.le_of_ble_eq_true rfl, Nat.le_of_ble_eq_true rfl⟩ dX11_setSetting_18 (fun r4 σ4 hf => ?_)
    obtain ⟨g5, hf⟩ := hf
    refine z_if_ne (tgt := 27) hC dX11_setSetting_21 (by decide) g5 (fun hc => ?_) (fun hc => ?_)
    · replace hf := hf.2 hc
      refine z_aload_n hC dX11_setSetting_27 0 rfl rfl ?_
      refine z_get hC (fun w h => uT _ w (uL11 w h)) (oX_11 (show kX 0 = 11 by decide)) 0 (by decide) (uT _ _ u467) rfl rfl dX11_setSetting_28 ?_
      obtain ⟨g6, hf⟩ := hf
      refine z_get hC (fun w h => uT _ w (uL8 w h)) (oX_8 g6) 4 (by decide) (uT _ _ u230) rfl rfl dX11_setSetting_31 ?_
      refine z_iload_n hC dX11_setSetting_34 1 rfl rfl ?_
      refine z_iaload hC (aX_17 (kf_8_4 g6)) g3 dX11_setSetting_35 ?_
      refine z_istore_n hC ([(3, vI (σ4 ((σ4 0 0) + 1) x1)), (0, vR ad 0), (1, vI x1), (2, vI x2)]) dX11_setSetting_36 rfl (by decide) rfl ?_
      refine z_aload_n hC dX11_setSetting_37 1 rfl rfl ?_
      refine z_iconst hC dX11_setSetting_38 ?_
      refine z_iload_n hC dX11_setSetting_39 2 rfl rfl ?_
      refine z_iconst hC dX11_setSetting_40 ?_
      refine z_iconst hC dX11_setSetting_41 ?_
      refine z_iload_n hC dX11_setSetting_42 0 rfl rfl ?_
      refine z_callVv hC hE (oX_11 (show kX 0 = 11 by decide)) [vI 0, vI x1, vI 0, vI 0, vI (σ4 ((σ4 0 0) + 1) x1)] (fun sz2 => mX11_record l hinj sz2 hf) (cwV 5 hC.1.2.2.2.2 (uV (uT _) u753 u755 u12 u105 u756) rfl rfl rfl (by decide +kernel) ⟨Nat.le_of_ble_eq_true rfl, Nat.le_of_ble_eq_true rfl⟩) rfl rfl (Nat.le_of_ble_eq_true rfl) ⟨Nat.le_of_ble_eq_true rfl, Nat.le_of_ble_eq_true rfl⟩ dX11_setSetting_43 (fun σ7 hf => ?_)
      refine z_aload_n hC dX11_setSetting_46 1 rfl rfl ?_
      refine z_get hC (fun w h => uT _ w (uL11 w h)) (oX_11 (show kX 0 = 11 by decide)) 0 (by decide) (uT _ _ u467) rfl rfl dX11_setSetting_47 ?_
      obtain ⟨g8, hf⟩ := hf
      refine z_get hC (fun w h => uT _ w (uL8 w h)) (oX_8 g8) 4 (by decide) (uT _ _ u230) rfl rfl dX11_setSetting_50 ?_
      refine z_iload_n hC dX11_setSetting_53 2 rfl rfl ?_
      refine z_iload_n hC dX11_setSetting_54 3 rfl rfl ?_
      refine z_iastore hC (aX_17 (kf_8_4 g8)) (loX' (kf_8_4 g8) (by decide)) g3 dX11_setSetting_55 ?_
      obtain ⟨σ9, eσ9⟩ : ∃ z : zSt, z = zu σ7 ((σ7 0 0) + 1) x1 x2 := ⟨_, rfl⟩
      rw [← eσ9]
      replace hf := hf σ9 eσ9
      refine z_iload_n hC dX11_setSetting_56 0 rfl rfl ?_
      exact z_iret hC hr rfl dX11_setSetting_57 hf
    · replace hf := hf.1 hc
      refine z_bipush hC dX11_setSetting_24 (by decide) ?_
      exact z_iret hC hr rfl dX11_setSetting_26 hf

-- ===== X11_requireFrame
def fX11_requireFrame (K : zSt → Prop) (KX : String → zSt → Prop) (σ : zSt) (x1 : Int) : Prop :=
  kX (σ 0 0) = 8 ∧ fX8_hasFrame (fun r2 σ2 => zrg r2 ∧ ((r2 = 0 → KX "java/lang/IndexOutOfBoundsException" σ2) ∧ (¬ r2 = 0 → K σ2))) σ (σ 0 0) x1
set_option maxHeartbeats 4000000 in
set_option maxRecDepth 100000 in
theorem mX11_requireFrame {D : va_G} {dA : Nat → ClassId} {ad : Nat → Nat} {aL aG aI : Nat} {aK aV : Nat → Nat} (l : Launch) (hinj : ∀ i j, i < NX → j < NX → ad i = ad j → i = j) (hst : l.stackTraces = false) (sz : Nat) {K : zSt → Prop} {KX : String → zSt → Prop} {σ : zSt} {x1 : Int} (hf : fX11_requireFrame K KX σ x1) : vx_Met l yX11_requireFrame (Cond.code yX11_requireFrame cX11_requireFrame 2 none :: UW) ({ frames := 6, cells := 1, slots := 6, locals := 82 } : Room) (va_Pc [vR ad 0, vI x1] (zPre D vwCl (tyA dA) (zXX aL aG aI aK aV) NX ad (celX ad dA) sz σ)) (va_Qv K (zB D vwCl (tyA dA) NX ad (celX ad dA)) (zA ad NX sz)) (zXC D vwCl (tyA dA) NX ad (celX ad dA) KX (zA ad NX sz)) 1 6 (zA ad NX sz) := by
  refine zx_enter (cc := cX11_requireFrame) (maxL := 2) (ret := none) (vs := [vR ad 0, vI x1]) (by decide) rfl hinj (Nat.le_of_ble_eq_true rfl) ?_
  intro p e s m args below meth c hC hE hsz hr hno
  show zAt p l e ({ frames := 6, cells := 1, slots := 6, locals := 82 } : Room) s m args below meth c 0 0 (vx_MQ below (va_Qv K (zB D vwCl (tyA dA) NX ad (celX ad dA)) (zA ad NX sz)) (zXC D vwCl (tyA dA) NX ad (celX ad dA) KX (zA ad NX sz)) args s 1 6 (zA ad NX sz)) 2 D vwCl (zA ad NX sz) NX ad (celX ad dA) 0 [(0, vR ad 0), (1, vI x1)] [] σ
  refine z_aload_n hC dX11_requireFrame_0 0 rfl rfl ?_
  refine z_get hC (fun w h => uT _ w (uL11 w h)) (oX_11 (show kX 0 = 11 by decide)) 0 (by decide) (uT _ _ u467) rfl rfl dX11_requireFrame_1 ?_
  obtain ⟨g1, hf⟩ := hf
  refine z_iload_n hC dX11_requireFrame_4 1 rfl rfl ?_
  refine z_callVi hC hE (oX_8 g1) [vI x1] (fun sz2 => mX8_hasFrame l hinj sz2 hf) (cwV 1 hC.1.2.2.2.2 (uV (uT _) u772 u621 u622 u106 u623) rfl rfl rfl (by decide +kernel) ⟨Nat.le_of_ble_eq_true rfl, Nat.le_of_ble_eq_true rfl⟩) rfl rfl (Nat.le_of_ble_eq_true rfl) ⟨Nat.le_of_ble_eq_true rfl, Nat.le_of_ble_eq_true rfl⟩ dX11_requireFrame_5 (fun r2 σ2 hf => ?_)
  obtain ⟨g3, hf⟩ := hf
  refine z_if_ne (tgt := 22) hC dX11_requireFrame_8 (by decide) g3 (fun hc => ?_) (fun hc => ?_)
  · replace hf := hf.2 hc
    exact zx_vret hC hr rfl ⟨Nat.le_of_ble_eq_true rfl, Nat.le_of_ble_eq_true rfl⟩ dX11_requireFrame_22 hf
  · replace hf := hf.1 hc
    exact zx_throw hC hE rfl hst hno (names := ["java/lang/RuntimeException", "java/lang/Exception"]) (by decide +kernel) (by decide +kernel) (uT _ _ u1065) (uT _ _ u126) (List.mem_of_getElem? (i := 14) rfl) (fun w h => uT _ w (uE391 w h)) uB391 uF391 dX11_requireFrame_11 dX11_requireFrame_14 dX11_requireFrame_15 dX11_requireFrame_18 dX11_requireFrame_21 (Nat.le_of_ble_eq_true rfl) (Nat.le_of_ble_eq_true rfl) ⟨Nat.le_of_ble_eq_true rfl, Nat.le_of_ble_eq_true rfl⟩ ⟨Nat.le_of_ble_eq_true rfl, Nat.le_of_ble_eq_true rfl⟩ hf

-- ===== X11_frameDay
def fX11_frameDay (K : Int → zSt → Prop) (KX : String → zSt → Prop) (σ : zSt) (x1 : Int) : Prop :=
  fX11_requireFrame (fun σ1 => kX (σ1 0 0) = 8 ∧ fX8_dayOf (fun r3 σ3 => K r3 σ3) σ1 (σ1 0 0) x1) KX σ x1
set_option maxHeartbeats 4000000 in
set_option maxRecDepth 100000 in
theorem mX11_frameDay {D : va_G} {dA : Nat → ClassId} {ad : Nat → Nat} {aL aG aI : Nat} {aK aV : Nat → Nat} (l : Launch) (hinj : ∀ i j, i < NX → j < NX → ad i = ad j → i = j) (hst : l.stackTraces = false) (sz : Nat) {K : Int → zSt → Prop} {KX : String → zSt → Prop} {σ : zSt} {x1 : Int} (hf : fX11_frameDay K KX σ x1) : vx_Met l yX11_frameDay (Cond.code yX11_frameDay cX11_frameDay 2 (some .int) :: UW) ({ frames := 7, cells := 1, slots := 6, locals := 103 } : Room) (va_Pc [vR ad 0, vI x1] (zPre D vwCl (tyA dA) (zXX aL aG aI aK aV) NX ad (celX ad dA) sz σ)) (va_Qi (zPi K) (zB D vwCl (tyA dA) NX ad (celX ad dA)) (zA ad NX sz)) (zXC D vwCl (tyA dA) NX ad (celX ad dA) KX (zA ad NX sz)) 1 6 (zA ad NX sz) := by
  refine zx_enter (cc := cX11_frameDay) (maxL := 2) (ret := (some .int)) (vs := [vR ad 0, vI x1]) (by decide) rfl hinj (Nat.le_of_ble_eq_true rfl) ?_
  intro p e s m args below meth c hC hE hsz hr hno
  show zAt p l e ({ frames := 7, cells := 1, slots := 6, locals := 103 } : Room) s m args below meth c 0 0 (vx_MQ below (va_Qi (zPi K) (zB D vwCl (tyA dA) NX ad (celX ad dA)) (zA ad NX sz)) (zXC D vwCl (tyA dA) NX ad (celX ad dA) KX (zA ad NX sz)) args s 1 6 (zA ad NX sz)) 2 D vwCl (zA ad NX sz) NX ad (celX ad dA) 0 [(0, vR ad 0), (1, vI x1)] [] σ
  refine z_aload_n hC dX11_frameDay_0 0 rfl rfl ?_
  refine z_iload_n hC dX11_frameDay_1 1 rfl rfl ?_
  refine zx_callVv hC hno hE (oX_11 (show kX 0 = 11 by decide)) [vI x1] (fun sz2 => mX11_requireFrame l hinj hst sz2 hf) (cwV 1 hC.1.2.2.2.2 (uV (uT _) u1061 u1063 u26 u105 u1064) rfl rfl rfl (by decide +kernel) ⟨Nat.le_of_ble_eq_true rfl, Nat.le_of_ble_eq_true rfl⟩) rfl rfl (Nat.le_of_ble_eq_true rfl) ⟨Nat.le_of_ble_eq_true rfl, Nat.le_of_ble_eq_true rfl⟩ ⟨Nat.le_of_ble_eq_true rfl, Nat.le_of_ble_eq_true rfl⟩ dX11_frameDay_2 (fun σ1 hf => ?_)
  refine z_aload_n hC dX11_frameDay_5 0 rfl rfl ?_
  refine z_get hC (fun w h => uT _ w (uL11 w h)) (oX_11 (show kX 0 = 11 by decide)) 0 (by decide) (uT _ _ u467) rfl rfl dX11_frameDay_6 ?_
  obtain ⟨g2, hf⟩ := hf
  refine z_iload_n hC dX11_frameDay_9 1 rfl rfl ?_
  refine z_callVi hC hE (oX_8 g2) [vI x1] (fun sz2 => mX8_dayOf l hinj sz2 hf) (cwV 1 hC.1.2.2.2.2 (uV (uT _) u959 u617 u618 u106 u619) rfl rfl rfl (by decide +kernel) ⟨Nat.le_of_ble_eq_true rfl, Nat.le_of_ble_eq_true rfl⟩) rfl rfl (Nat.le_of_ble_eq_true rfl) ⟨Nat.le_of_ble_eq_true rfl, Nat.le_of_ble_eq_true rfl⟩ dX11_frameDay_10 (fun r3 σ3 hf => ?_)
  exact zx_iret hC hr rfl ⟨Nat.le_of_ble_eq_true rfl, Nat.le_of_ble_eq_true rfl⟩ dX11_frameDay_13 hf

-- ===== X11_requirePixel
def fX11_requirePixel (K : zSt → Prop) (KX : String → zSt → Prop) (σ : zSt) (x1 : Int) (x2 : Int) : Prop :=
  kX (σ 0 0) = 8 ∧ fX8_hasPixel (fun r2 σ2 => zrg r2 ∧ ((r2 = 0 → KX "java/lang/IndexOutOfBoundsException" σ2) ∧ (¬ r2 = 0 → K σ2))) σ (σ 0 0) x1 x2
set_option maxHeartbeats 4000000 in
set_option maxRecDepth 100000 in
theorem mX11_requirePixel {D : va_G} {dA : Nat → ClassId} {ad : Nat → Nat} {aL aG aI : Nat} {aK aV : Nat → Nat} (l : Launch) (hinj : ∀ i j, i < NX → j < NX → ad i = ad j → i = j) (hst : l.stackTraces = false) (sz : Nat) {K : zSt → Prop} {KX : String → zSt → Prop} {σ : zSt} {x1 : Int} {x2 : Int} (hf : fX11_requirePixel K KX σ x1 x2) : vx_Met l yX11_requirePixel (Cond.code yX11_requirePixel cX11_requirePixel 3 none :: UW) ({ frames := 6, cells := 1, slots := 6, locals := 82 } : Room) (va_Pc [vR ad 0, vI x1, vI x2] (zPre D vwCl (tyA dA) (zXX aL aG aI aK aV) NX ad (celX ad dA) sz σ)) (va_Qv K (zB D vwCl (tyA dA) NX ad (celX ad dA)) (zA ad NX sz)) (zXC D vwCl (tyA dA) NX ad (celX ad dA) KX (zA ad NX sz)) 1 6 (zA ad NX sz) := by
  refine zx_enter (cc := cX11_requirePixel) (maxL := 3) (ret := none) (vs := [vR ad 0, vI x1, vI x2]) (by decide) rfl hinj (Nat.le_of_ble_eq_true rfl) ?_
  intro p e s m args below meth c hC hE hsz hr hno
  show zAt p l e ({ frames := 6, cells := 1, slots := 6, locals := 82 } : Room) s m args below meth c 0 0 (vx_MQ below (va_Qv K (zB D vwCl (tyA dA) NX ad (celX ad dA)) (zA ad NX sz)) (zXC D vwCl (tyA dA) NX ad (celX ad dA) KX (zA ad NX sz)) args s 1 6 (zA ad NX sz)) 3 D vwCl (zA ad NX sz) NX ad (celX ad dA) 0 [(0, vR ad 0), (1, vI x1), (2, vI x2)] [] σ
  refine z_aload_n hC dX11_requirePixel_0 0 rfl rfl ?_
  refine z_get hC (fun w h => uT _ w (uL11 w h)) (oX_11 (show kX 0 = 11 by decide)) 0 (by decide) (uT _ _ u467) rfl rfl dX11_requirePixel_1 ?_
  obtain ⟨g1, hf⟩ := hf
  refine z_iload_n hC dX11_requirePixel_4 1 rfl rfl ?_
  refine z_iload_n hC dX11_requirePixel_5 2 rfl rfl ?_
  refine z_callVi hC hE (oX_8 g1) [vI x1, vI x2] (fun sz2 => mX8_hasPixel l hinj sz2 hf) (cwV 2 hC.1.2.2.2.2 (uV (uT _) u773 u642 u643 u106 u644) rfl rfl rfl (by decide +kernel) ⟨Nat.le_of_ble_eq_true rfl, Nat.le_of_ble_eq_true rfl⟩) rfl rfl (Nat.le_of_ble_eq_true rfl) ⟨Nat.le_of_ble_eq_true rfl, Nat.le_of_ble_eq_true rfl⟩ dX11_requirePixel_6 (fun r2 σ2 hf => ?_)
  obtain ⟨g3, hf⟩ := hf
  refine z_if_ne (tgt := 23) hC dX11_requirePixel_9 (by decide) g3 (fun hc => ?_) (fun hc => ?_)
  · replace hf := hf.2 hc
    exact zx_vret hC hr rfl ⟨Nat.le_of_ble_eq_true rfl, Nat.le_of_ble_eq_true rfl⟩ dX11_requirePixel_23 hf
  · replace hf := hf.1 hc
    exact zx_throw hC hE rfl hst hno (names := ["java/lang/RuntimeException", "java/lang/Exception"]) (by decide +kernel) (by decide +kernel) (uT _ _ u1065) (uT _ _ u126) (List.mem_of_getElem? (i := 15) rfl) (fun w h => uT _ w (uE391 w h)) uB391 uF391 dX11_requirePixel_12 dX11_requirePixel_15 dX11_requirePixel_16 dX11_requirePixel_19 dX11_requirePixel_22 (Nat.le_of_ble_eq_true rfl) (Nat.le_of_ble_eq_true rfl) ⟨Nat.le_of_ble_eq_true rfl, Nat.le_of_ble_eq_true rfl⟩ ⟨Nat.le_of_ble_eq_true rfl, Nat.le_of_ble_eq_true rfl⟩ hf

-- ===== X11_pixel
def fX11_pixel (K : Int → zSt → Prop) (KX : String → zSt → Prop) (σ : zSt) (x1 : Int) (x2 : Int) (x3 : Int) : Prop :=
  fX11_requireFrame (fun σ1 => fX11_requirePixel (fun σ2 => kX (σ2 0 0) = 8 ∧ fX8_brightnessAt (fun r4 σ4 => K r4 σ4) σ2 (σ2 0 0) x1 x2 x3) KX σ1 x2 x3) KX σ x1
set_option maxHeartbeats 4000000 in
set_option maxRecDepth 100000 in
theorem mX11_pixel {D : va_G} {dA : Nat → ClassId} {ad : Nat → Nat} {aL aG aI : Nat} {aK aV : Nat → Nat} (l : Launch) (hinj : ∀ i j, i < NX → j < NX → ad i = ad j → i = j) (hst : l.stackTraces = false) (sz : Nat) {K : Int → zSt → Prop} {KX : String → zSt → Prop} {σ : zSt} {x1 : Int} {x2 : Int} {x3 : Int} (hf : fX11_pixel K KX σ x1 x2 x3) : vx_Met l yX11_pixel (Cond.code yX11_pixel cX11_pixel 4 (some .int) :: UW) ({ frames := 7, cells := 2, slots := 12, locals := 104 } : Room) (va_Pc [vR ad 0, vI x1, vI x2, vI x3] (zPre D vwCl (tyA dA) (zXX aL aG aI aK aV) NX ad (celX ad dA) sz σ)) (va_Qi (zPi K) (zB D vwCl (tyA dA) NX ad (celX ad dA)) (zA ad NX sz)) (zXC D vwCl (tyA dA) NX ad (celX ad dA) KX (zA ad NX sz)) 2 12 (zA ad NX sz) := by
  refine zx_enter (cc := cX11_pixel) (maxL := 4) (ret := (some .int)) (vs := [vR ad 0, vI x1, vI x2, vI x3]) (by decide) rfl hinj (Nat.le_of_ble_eq_true rfl) ?_
  intro p e s m args below meth c hC hE hsz hr hno
  show zAt p l e ({ frames := 7, cells := 2, slots := 12, locals := 104 } : Room) s m args below meth c 0 0 (vx_MQ below (va_Qi (zPi K) (zB D vwCl (tyA dA) NX ad (celX ad dA)) (zA ad NX sz)) (zXC D vwCl (tyA dA) NX ad (celX ad dA) KX (zA ad NX sz)) args s 2 12 (zA ad NX sz)) 4 D vwCl (zA ad NX sz) NX ad (celX ad dA) 0 [(0, vR ad 0), (1, vI x1), (2, vI x2), (3, vI x3)] [] σ
  refine z_aload_n hC dX11_pixel_0 0 rfl rfl ?_
  refine z_iload_n hC dX11_pixel_1 1 rfl rfl ?_
  refine zx_callVv hC hno hE (oX_11 (show kX 0 = 11 by decide)) [vI x1] (fun sz2 => mX11_requireFrame l hinj hst sz2 hf) (cwV 1 hC.1.2.2.2.2 (uV (uT _) u1061 u1063 u26 u105 u1064) rfl rfl rfl (by decide +kernel) ⟨Nat.le_of_ble_eq_true rfl, Nat.le_of_ble_eq_true rfl⟩) rfl rfl (Nat.le_of_ble_eq_true rfl) ⟨Nat.le_of_ble_eq_true rfl, Nat.le_of_ble_eq_true rfl⟩ ⟨Nat.le_of_ble_eq_true rfl, Nat.le_of_ble_eq_true rfl⟩ dX11_pixel_2 (fun σ1 hf => ?_)
  refine z_aload_n hC dX11_pixel_5 0 rfl rfl ?_
  refine z_iload_n hC dX11_pixel_6 2 rfl rfl ?_
  refine z_iload_n hC dX11_pixel_7 3 rfl rfl ?_
  refine zx_callVv hC hno hE (oX_11 (show kX 0 = 11 by decide)) [vI x2, vI x3] (fun sz2 => mX11_requirePixel l hinj hst sz2 hf) (cwV 2 hC.1.2.2.2.2 (uV (uT _) u1138 u1140 u28 u105 u1141) rfl rfl rfl (by decide +kernel) ⟨Nat.le_of_ble_eq_true rfl, Nat.le_of_ble_eq_true rfl⟩) rfl rfl (Nat.le_of_ble_eq_true rfl) ⟨Nat.le_of_ble_eq_true rfl, Nat.le_of_ble_eq_true rfl⟩ ⟨Nat.le_of_ble_eq_true rfl, Nat.le_of_ble_eq_true rfl⟩ dX11_pixel_8 (fun σ2 hf => ?_)
  refine z_aload_n hC dX11_pixel_11 0 rfl rfl ?_
  refine z_get hC (fun w h => uT _ w (uL11 w h)) (oX_11 (show kX 0 = 11 by decide)) 0 (by decide) (uT _ _ u467) rfl rfl dX11_pixel_12 ?_
  obtain ⟨g3, hf⟩ := hf
  refine z_iload_n hC dX11_pixel_15 1 rfl rfl ?_
  refine z_iload_n hC dX11_pixel_16 2 rfl rfl ?_
  refine z_iload_n hC dX11_pixel_17 3 rfl rfl ?_
  refine z_callVi hC hE (oX_8 g3) [vI x1, vI x2, vI x3] (fun sz2 => mX8_brightnessAt l hinj sz2 hf) (cwV 3 hC.1.2.2.2.2 (uV (uT _) u774 u775 u776 u106 u777) rfl rfl rfl (by decide +kernel) ⟨Nat.le_of_ble_eq_true rfl, Nat.le_of_ble_eq_true rfl⟩) rfl rfl (Nat.le_of_ble_eq_true rfl) ⟨Nat.le_of_ble_eq_true rfl, Nat.le_of_ble_eq_true rfl⟩ dX11_pixel_18 (fun r4 σ4 hf => ?_)
  exact zx_iret hC hr rfl ⟨Nat.le_of_ble_eq_true rfl, Nat.le_of_ble_eq_true rfl⟩ dX11_pixel_21 hf

-- ===== X11_setPixel
def fX11_setPixel (K : Int → zSt → Prop) (σ : zSt) (x1 : Int) (x2 : Int) (x3 : Int) (x4 : Int) : Prop :=
  kX (σ 0 0) = 8 ∧ fX8_hasFrame (fun r2 σ2 => zrg r2 ∧ ((r2 = 0 → K 0 σ2) ∧ (¬ r2 = 0 → kX (σ2 0 0) = 8 ∧ fX8_hasPixel (fun r5 σ5 => zrg r5 ∧ ((r5 = 0 → K 0 σ5) ∧ (¬ r5 = 0 → fX11_isBetween (fun r7 σ7 => zrg r7 ∧ ((r7 = 0 → K 0 σ7) ∧ (¬ r7 = 0 → kX (σ7 0 0) = 8 ∧ fX8_brightnessAt (fun r10 σ10 => fX11_record (fun σ11 => kX (σ11 0 0) = 8 ∧ fX8_paint (fun σ13 => K 1 σ13) σ11 (σ11 0 0) x1 x2 x3 x4) σ10 1 x1 x2 x3 r10) σ7 (σ7 0 0) x1 x2 x3))) σ5 x4 0 9))) σ2 (σ2 0 0) x2 x3))) σ (σ 0 0) x1
set_option maxHeartbeats 4000000 in
set_option maxRecDepth 100000 in
theorem mX11_setPixel {D : va_G} {dA : Nat → ClassId} {ad : Nat → Nat} {aL aG aI : Nat} {aK aV : Nat → Nat} (l : Launch) (hinj : ∀ i j, i < NX → j < NX → ad i = ad j → i = j) (sz : Nat) {K : Int → zSt → Prop} {σ : zSt} {x1 : Int} {x2 : Int} {x3 : Int} {x4 : Int} (hf : fX11_setPixel K σ x1 x2 x3 x4) : Met l yX11_setPixel (Cond.code yX11_setPixel cX11_setPixel 5 (some .boolean) :: UW) ({ frames := 4, cells := 0, slots := 0, locals := 93 } : Room) (va_Pc [vR ad 0, vI x1, vI x2, vI x3, vI x4] (zPre D vwCl (tyA dA) (zXX aL aG aI aK aV) NX ad (celX ad dA) sz σ)) (va_Qi (zPi K) (zB D vwCl (tyA dA) NX ad (celX ad dA)) (zA ad NX sz)) 0 0 (zA ad NX sz) := by
  refine z_enter (cc := cX11_setPixel) (maxL := 5) (ret := (some .boolean)) (vs := [vR ad 0, vI x1, vI x2, vI x3, vI x4]) (plainFor_of_name (by decide)) rfl hinj (Nat.le_of_ble_eq_true rfl) ?_
  intro p e s m args below meth c hC hE hsz hr hnm
  show zAt p l e ({ frames := 4, cells := 0, slots := 0, locals := 93 } : Room) s m args below meth c 0 0 (MQ below (va_Qi (zPi K) (zB D vwCl (tyA dA) NX ad (celX ad dA)) (zA ad NX sz)) args s 0 0 (zA ad NX sz)) 5 D vwCl (zA ad NX sz) NX ad (celX ad dA) 0 [(0, vR ad 0), (1, vI x1), (2, vI x2), (3, vI x3), (4, vI x4)] [] σ
  refine z_aload_n hC dX11_setPixel_0 0 rfl rfl ?_
  refine z_get hC (fun w h => uT _ w (uL11 w h)) (oX_11 (show kX 0 = 11 by decide)) 0 (by decide) (uT _ _ u467) rfl rfl dX11_setPixel_1 ?_
  obtain ⟨g1, hf⟩ := hf
  refine z_iload_n hC dX11_setPixel_4 1 rfl rfl ?_
  refine z_callVi hC hE (oX_8 g1) [vI x1] (fun sz2 => mX8_hasFrame l hinj sz2 hf) (cwV 1 hC.1.2.2.2.2 (uV (uT _) u772 u621 u622 u106 u623) rfl rfl rfl (by decide +kernel) ⟨Nat.le_of_ble_eq_true rfl, Nat.le_of_ble_eq_true rfl⟩) rfl rfl (Nat.le_of_ble_eq_true rfl) ⟨Nat.le_of_ble_eq_true rfl, Nat.le_of_ble_eq_true rfl⟩ dX11_setPixel_5 (fun r2 σ2 hf => ?_)
  obtain ⟨g3, hf⟩ := hf
  refine z_if_eq (tgt := 34) hC dX11_setPixel_8 (by decide) g3 (fun hc => ?_) (fun hc => ?_)
  · replace hf := hf.1 hc
    refine z_iconst hC dX11_setPixel_34 ?_
    exact z_bret hC hr rfl dX11_setPixel_35 (Or.inl rfl) hf
  · replace hf := hf.2 hc
    refine z_aload_n hC dX11_setPixel_11 0 rfl rfl ?_
    refine z_get hC (fun w h => uT _ w (uL11 w h)) (oX_11 (show kX 0 = 11 by decide)) 0 (by decide) (uT _ _ u467) rfl rfl dX11_setPixel_12 ?_
    obtain ⟨g4, hf⟩ := hf
    refine z_iload_n hC dX11_setPixel_15 2 rfl rfl ?_
    refine z_iload_n hC dX11_setPixel_16 3 rfl rfl ?_
    refine z_callVi hC hE (oX_8 g4) [vI x2, vI x3] (fun sz2 => mX8_hasPixel l hinj sz2 hf) (cwV 2 hC.1.2.2.2.2 (uV (uT _) u773 u642 u643 u106 u644) rfl rfl rfl (by decide +kernel) ⟨Nat.le_of_ble_eq_true rfl, Nat.le_of_ble_eq_true rfl⟩) rfl rfl (Nat.le_of_ble_eq_true rfl) ⟨Nat.le_of_ble_eq_true rfl, Nat.le_of_ble_eq_true rfl⟩ dX11_setPixel_17 (fun r5 σ5 hf => ?_)
    obtain ⟨g6, hf⟩ := hf
    refine z_if_eq (tgt := 34) hC dX11_setPixel_20 (by decide) g6 (fun hc => ?_) (fun hc => ?_)
    · replace hf := hf.1 hc
      refine z_iconst hC dX11_setPixel_34 ?_
      exact z_bret hC hr rfl dX11_setPixel_35 (Or.inl rfl) hf
    · replace hf := hf.2 hc
      refine z_iload hC dX11_setPixel_23 4 rfl ?_
      refine z_iconst hC dX11_setPixel_25 ?_
      refine z_bipush hC dX11_setPixel_26 (by decide) ?_
      refine z_callSi hC hE [vI x4, vI 0, vI 9] (fun sz2 => mX11_isBetween l hinj sz2 hf) (va_cwS 3 hC.1.2.2.2.2 (uS (uT _) u752 u609 u105 u610) rfl rfl rfl (by decide +kernel) ⟨Nat.le_of_ble_eq_true rfl, Nat.le_of_ble_eq_true rfl⟩) rfl rfl (Nat.le_of_ble_eq_true rfl) ⟨Nat.le_of_ble_eq_true rfl, Nat.le_of_ble_eq_true rfl⟩ dX11_setPixel_28 (fun r7 σ7 hf => ?_)
      obtain ⟨g8, hf⟩ := hf
      refine z_if_ne (tgt := 36) hC dX11_setPixel_31 (by decide) g8 (fun hc => ?_) (fun hc => ?_)
      · replace hf := hf.2 hc
        refine z_aload_n hC dX11_setPixel_36 0 rfl rfl ?_
        refine z_iconst hC dX11_setPixel_37 ?_
        refine z_iload_n hC dX11_setPixel_38 1 rfl rfl ?_
        refine z_iload_n hC dX11_setPixel_39 2 rfl rfl ?_
        refine z_iload_n hC dX11_setPixel_40 3 rfl rfl ?_
        refine z_aload_n hC dX11_setPixel_41 0 rfl rfl ?_
        refine z_get hC (fun w h => uT _ w (uL11 w h)) (oX_11 (show kX 0 = 11 by decide)) 0 (by decide) (uT _ _ u467) rfl rfl dX11_setPixel_42 ?_
        obtain ⟨g9, hf⟩ := hf
        refine z_iload_n hC dX11_setPixel_45 1 rfl rfl ?_
        refine z_iload_n hC dX11_setPixel_46 2 rfl rfl ?_
        refine z_iload_n hC dX11_setPixel_47 3 rfl rfl ?_
        refine z_callVi hC hE (oX_8 g9) [vI x1, vI x2, vI x3] (fun sz2 => mX8_brightnessAt l hinj sz2 hf) (cwV 3 hC.1.2.2.2.2 (uV (uT _) u774 u775 u776 u106 u777) rfl rfl rfl (by decide +kernel) ⟨Nat.le_of_ble_eq_true rfl, Nat.le_of_ble_eq_true rfl⟩) rfl rfl (Nat.le_of_ble_eq_true rfl) ⟨Nat.le_of_ble_eq_true rfl, Nat.le_of_ble_eq_true rfl⟩ dX11_setPixel_48 (fun r10 σ10 hf => ?_)
        refine z_callVv hC hE (oX_11 (show kX 0 = 11 by decide)) [vI 1, vI x1, vI x2, vI x3, vI r10] (fun sz2 => mX11_record l hinj sz2 hf) (cwV 5 hC.1.2.2.2.2 (uV (uT _) u753 u755 u12 u105 u756) rfl rfl rfl (by decide +kernel) ⟨Nat.le_of_ble_eq_true rfl, Nat.le_of_ble_eq_true rfl⟩) rfl rfl (Nat.le_of_ble_eq_true rfl) ⟨Nat.le_of_ble_eq_true rfl, Nat.le_of_ble_eq_true rfl⟩ dX11_setPixel_51 (fun σ11 hf => ?_)
        refine z_aload_n hC dX11_setPixel_54 0 rfl rfl ?_
        refine z_get hC (fun w h => uT _ w (uL11 w h)) (oX_11 (show kX 0 = 11 by decide)) 0 (by decide) (uT _ _ u467) rfl rfl dX11_setPixel_55 ?_
        obtain ⟨g12, hf⟩ := hf
        refine z_iload_n hC dX11_setPixel_58 1 rfl rfl ?_
        refine z_iload_n hC dX11_setPixel_59 2 rfl rfl ?_
        refine z_iload_n hC dX11_setPixel_60 3 rfl rfl ?_
        refine z_iload hC dX11_setPixel_61 4 rfl ?_
        refine z_callVv hC hE (oX_8 g12) [vI x1, vI x2, vI x3, vI x4] (fun sz2 => mX8_paint l hinj sz2 hf) (cwV 4 hC.1.2.2.2.2 (uV (uT _) u778 u638 u639 u106 u640) rfl rfl rfl (by decide +kernel) ⟨Nat.le_of_ble_eq_true rfl, Nat.le_of_ble_eq_true rfl⟩) rfl rfl (Nat.le_of_ble_eq_true rfl) ⟨Nat.le_of_ble_eq_true rfl, Nat.le_of_ble_eq_true rfl⟩ dX11_setPixel_63 (fun σ13 hf => ?_)
        refine z_iconst hC dX11_setPixel_66 ?_
        exact z_bret hC hr rfl dX11_setPixel_67 (Or.inr rfl) hf
      · replace hf := hf.1 hc
        refine z_iconst hC dX11_setPixel_34 ?_
        exact z_bret hC hr rfl dX11_setPixel_35 (Or.inl rfl) hf

-- ===== X11_removeFrame
def fX11_removeFrame (K : Int → zSt → Prop) (σ : zSt) (x1 : Int) : Prop :=
  kX (σ 0 0) = 8 ∧ fX8_hasFrame (fun r2 σ2 => zrg r2 ∧ ((r2 = 0 → K (-1) σ2) ∧ (¬ r2 = 0 → fX11_record (fun σ4 => kX (σ4 0 0) = 8 ∧ fX8_takeOut (fun σ6 => kX (σ6 0 0) = 8 ∧ K (σ6 (σ6 0 0) 2) σ6) σ4 (σ4 0 0) x1) σ2 2 x1 0 0 0))) σ (σ 0 0) x1
set_option maxHeartbeats 4000000 in
set_option maxRecDepth 100000 in
theorem mX11_removeFrame {D : va_G} {dA : Nat → ClassId} {ad : Nat → Nat} {aL aG aI : Nat} {aK aV : Nat → Nat} (l : Launch) (hinj : ∀ i j, i < NX → j < NX → ad i = ad j → i = j) (sz : Nat) {K : Int → zSt → Prop} {σ : zSt} {x1 : Int} (hf : fX11_removeFrame K σ x1) : Met l yX11_removeFrame (Cond.code yX11_removeFrame cX11_removeFrame 2 (some .int) :: UW) ({ frames := 4, cells := 0, slots := 0, locals := 93 } : Room) (va_Pc [vR ad 0, vI x1] (zPre D vwCl (tyA dA) (zXX aL aG aI aK aV) NX ad (celX ad dA) sz σ)) (va_Qi (zPi K) (zB D vwCl (tyA dA) NX ad (celX ad dA)) (zA ad NX sz)) 0 0 (zA ad NX sz) := by
  refine z_enter (cc := cX11_removeFrame) (maxL := 2) (ret := (some .int)) (vs := [vR ad 0, vI x1]) (plainFor_of_name (by decide)) rfl hinj (Nat.le_of_ble_eq_true rfl) ?_
  intro p e s m args below meth c hC hE hsz hr hnm
  show zAt p l e ({ frames := 4, cells := 0, slots := 0, locals := 93 } : Room) s m args below meth c 0 0 (MQ below (va_Qi (zPi K) (zB D vwCl (tyA dA) NX ad (celX ad dA)) (zA ad NX sz)) args s 0 0 (zA ad NX sz)) 2 D vwCl (zA ad NX sz) NX ad (celX ad dA) 0 [(0, vR ad 0), (1, vI x1)] [] σ
  refine z_aload_n hC dX11_removeFrame_0 0 rfl rfl ?_
  refine z_get hC (fun w h => uT _ w (uL11 w h)) (oX_11 (show kX 0 = 11 by decide)) 0 (by decide) (uT _ _ u467) rfl rfl dX11_removeFrame_1 ?_
  obtain ⟨g1, hf⟩ := hf
  refine z_iload_n hC dX11_removeFrame_4 1 rfl rfl ?_
  refine z_callVi hC hE (oX_8 g1) [vI x1] (fun sz2 => mX8_hasFrame l hinj sz2 hf) (cwV 1 hC.1.2.2.2.2 (uV (uT _) u772 u621 u622 u106 u623) rfl rfl rfl (by decide +kernel) ⟨Nat.le_of_ble_eq_true rfl, Nat.le_of_ble_eq_true rfl⟩) rfl rfl (Nat.le_of_ble_eq_true rfl) ⟨Nat.le_of_ble_eq_true rfl, Nat.le_of_ble_eq_true rfl⟩ dX11_removeFrame_5 (fun r2 σ2 hf => ?_)
  obtain ⟨g3, hf⟩ := hf
  refine z_if_ne (tgt := 13) hC dX11_removeFrame_8 (by decide) g3 (fun hc => ?_) (fun hc => ?_)
  · replace hf := hf.2 hc
    refine z_aload_n hC dX11_removeFrame_13 0 rfl rfl ?_
    refine z_iconst hC dX11_removeFrame_14 ?_
    refine z_iload_n hC dX11_removeFrame_15 1 rfl rfl ?_
    refine z_iconst hC dX11_removeFrame_16 ?_
    refine z_iconst hC dX11_removeFrame_17 ?_
    refine z_iconst hC dX11_removeFrame_18 ?_
    refine z_callVv hC hE (oX_11 (show kX 0 = 11 by decide)) [vI 2, vI x1, vI 0, vI 0, vI 0] (fun sz2 => mX11_record l hinj sz2 hf) (cwV 5 hC.1.2.2.2.2 (uV (uT _) u753 u755 u12 u105 u756) rfl rfl rfl (by decide +kernel) ⟨Nat.le_of_ble_eq_true rfl, Nat.le_of_ble_eq_true rfl⟩) rfl rfl (Nat.le_of_ble_eq_true rfl) ⟨Nat.le_of_ble_eq_true rfl, Nat.le_of_ble_eq_true rfl⟩ dX11_removeFrame_19 (fun σ4 hf => ?_)
    refine z_aload_n hC dX11_removeFrame_22 0 rfl rfl ?_
    refine z_get hC (fun w h => uT _ w (uL11 w h)) (oX_11 (show kX 0 = 11 by decide)) 0 (by decide) (uT _ _ u467) rfl rfl dX11_removeFrame_23 ?_
    obtain ⟨g5, hf⟩ := hf
    refine z_iload_n hC dX11_removeFrame_26 1 rfl rfl ?_
    refine z_callVv hC hE (oX_8 g5) [vI x1] (fun sz2 => mX8_takeOut l hinj sz2 hf) (cwV 1 hC.1.2.2.2.2 (uV (uT _) u783 u784 u785 u106 u786) rfl rfl rfl (by decide +kernel) ⟨Nat.le_of_ble_eq_true rfl, Nat.le_of_ble_eq_true rfl⟩) rfl rfl (Nat.le_of_ble_eq_true rfl) ⟨Nat.le_of_ble_eq_true rfl, Nat.le_of_ble_eq_true rfl⟩ dX11_removeFrame_27 (fun σ6 hf => ?_)
    refine z_aload_n hC dX11_removeFrame_30 0 rfl rfl ?_
    refine z_get hC (fun w h => uT _ w (uL11 w h)) (oX_11 (show kX 0 = 11 by decide)) 0 (by decide) (uT _ _ u467) rfl rfl dX11_removeFrame_31 ?_
    obtain ⟨g7, hf⟩ := hf
    refine z_get hC (fun w h => uT _ w (uL8 w h)) (oX_8 g7) 2 (by decide) (uT _ _ u222) rfl rfl dX11_removeFrame_34 ?_
    exact z_iret hC hr rfl dX11_removeFrame_37 hf
  · replace hf := hf.1 hc
    refine z_iconst hC dX11_removeFrame_11 ?_
    exact z_iret hC hr rfl dX11_removeFrame_12 hf

-- ===== X11_contrast
def fX11_contrast (K : Int → zSt → Prop) (KX : String → zSt → Prop) (σ : zSt) (x1 : Int) : Prop :=
  fX11_requireFrame (fun σ1 => kX (σ1 0 0) = 8 ∧ fX8_contrastOf (fun r3 σ3 => K r3 σ3) σ1 (σ1 0 0) x1) KX σ x1
set_option maxHeartbeats 4000000 in
set_option maxRecDepth 100000 in
theorem mX11_contrast {D : va_G} {dA : Nat → ClassId} {ad : Nat → Nat} {aL aG aI : Nat} {aK aV : Nat → Nat} (l : Launch) (hinj : ∀ i j, i < NX → j < NX → ad i = ad j → i = j) (hst : l.stackTraces = false) (sz : Nat) {K : Int → zSt → Prop} {KX : String → zSt → Prop} {σ : zSt} {x1 : Int} (hf : fX11_contrast K KX σ x1) : vx_Met l yX11_contrast (Cond.code yX11_contrast cX11_contrast 2 (some .int) :: UW) ({ frames := 7, cells := 1, slots := 6, locals := 103 } : Room) (va_Pc [vR ad 0, vI x1] (zPre D vwCl (tyA dA) (zXX aL aG aI aK aV) NX ad (celX ad dA) sz σ)) (va_Qi (zPi K) (zB D vwCl (tyA dA) NX ad (celX ad dA)) (zA ad NX sz)) (zXC D vwCl (tyA dA) NX ad (celX ad dA) KX (zA ad NX sz)) 1 6 (zA ad NX sz) := by
  refine zx_enter (cc := cX11_contrast) (maxL := 2) (ret := (some .int)) (vs := [vR ad 0, vI x1]) (by decide) rfl hinj (Nat.le_of_ble_eq_true rfl) ?_
  intro p e s m args below meth c hC hE hsz hr hno
  show zAt p l e ({ frames := 7, cells := 1, slots := 6, locals := 103 } : Room) s m args below meth c 0 0 (vx_MQ below (va_Qi (zPi K) (zB D vwCl (tyA dA) NX ad (celX ad dA)) (zA ad NX sz)) (zXC D vwCl (tyA dA) NX ad (celX ad dA) KX (zA ad NX sz)) args s 1 6 (zA ad NX sz)) 2 D vwCl (zA ad NX sz) NX ad (celX ad dA) 0 [(0, vR ad 0), (1, vI x1)] [] σ
  refine z_aload_n hC dX11_contrast_0 0 rfl rfl ?_
  refine z_iload_n hC dX11_contrast_1 1 rfl rfl ?_
  refine zx_callVv hC hno hE (oX_11 (show kX 0 = 11 by decide)) [vI x1] (fun sz2 => mX11_requireFrame l hinj hst sz2 hf) (cwV 1 hC.1.2.2.2.2 (uV (uT _) u1061 u1063 u26 u105 u1064) rfl rfl rfl (by decide +kernel) ⟨Nat.le_of_ble_eq_true rfl, Nat.le_of_ble_eq_true rfl⟩) rfl rfl (Nat.le_of_ble_eq_true rfl) ⟨Nat.le_of_ble_eq_true rfl, Nat.le_of_ble_eq_true rfl⟩ ⟨Nat.le_of_ble_eq_true rfl, Nat.le_of_ble_eq_true rfl⟩ dX11_contrast_2 (fun σ1 hf => ?_)
  refine z_aload_n hC dX11_contrast_5 0 rfl rfl ?_
  refine z_get hC (fun w h => uT _ w (uL11 w h)) (oX_11 (show kX 0 = 11 by decide)) 0 (by decide) (uT _ _ u467) rfl rfl dX11_contrast_6 ?_
  obtain ⟨g2, hf⟩ := hf
  refine z_iload_n hC dX11_contrast_9 1 rfl rfl ?_
  refine z_callVi hC hE (oX_8 g2) [vI x1] (fun sz2 => mX8_contrastOf l hinj sz2 hf) (cwV 1 hC.1.2.2.2.2 (uV (uT _) u1150 u803 u804 u106 u805) rfl rfl rfl (by decide +kernel) ⟨Nat.le_of_ble_eq_true rfl, Nat.le_of_ble_eq_true rfl⟩) rfl rfl (Nat.le_of_ble_eq_true rfl) ⟨Nat.le_of_ble_eq_true rfl, Nat.le_of_ble_eq_true rfl⟩ dX11_contrast_10 (fun r3 σ3 hf => ?_)
  exact zx_iret hC hr rfl ⟨Nat.le_of_ble_eq_true rfl, Nat.le_of_ble_eq_true rfl⟩ dX11_contrast_13 hf

-- ===== X11_isUsable
def fX11_isUsable (K : Int → zSt → Prop) (KX : String → zSt → Prop) (σ : zSt) (x1 : Int) : Prop :=
  fX11_requireFrame (fun σ1 => kX (σ1 0 0) = 8 ∧ fX8_usable (fun r3 σ3 => (r3 = 0 ∨ r3 = 1) ∧ K r3 σ3) σ1 (σ1 0 0) x1) KX σ x1
set_option maxHeartbeats 4000000 in
set_option maxRecDepth 100000 in
theorem mX11_isUsable {D : va_G} {dA : Nat → ClassId} {ad : Nat → Nat} {aL aG aI : Nat} {aK aV : Nat → Nat} (l : Launch) (hinj : ∀ i j, i < NX → j < NX → ad i = ad j → i = j) (hst : l.stackTraces = false) (sz : Nat) {K : Int → zSt → Prop} {KX : String → zSt → Prop} {σ : zSt} {x1 : Int} (hf : fX11_isUsable K KX σ x1) : vx_Met l yX11_isUsable (Cond.code yX11_isUsable cX11_isUsable 2 (some .boolean) :: UW) ({ frames := 7, cells := 1, slots := 6, locals := 103 } : Room) (va_Pc [vR ad 0, vI x1] (zPre D vwCl (tyA dA) (zXX aL aG aI aK aV) NX ad (celX ad dA) sz σ)) (va_Qi (zPi K) (zB D vwCl (tyA dA) NX ad (celX ad dA)) (zA ad NX sz)) (zXC D vwCl (tyA dA) NX ad (celX ad dA) KX (zA ad NX sz)) 1 6 (zA ad NX sz) := by
  refine zx_enter (cc := cX11_isUsable) (maxL := 2) (ret := (some .boolean)) (vs := [vR ad 0, vI x1]) (by decide) rfl hinj (Nat.le_of_ble_eq_true rfl) ?_
  intro p e s m args below meth c hC hE hsz hr hno
  show zAt p l e ({ frames := 7, cells := 1, slots := 6, locals := 103 } : Room) s m args below meth c 0 0 (vx_MQ below (va_Qi (zPi K) (zB D vwCl (tyA dA) NX ad (celX ad dA)) (zA ad NX sz)) (zXC D vwCl (tyA dA) NX ad (celX ad dA) KX (zA ad NX sz)) args s 1 6 (zA ad NX sz)) 2 D vwCl (zA ad NX sz) NX ad (celX ad dA) 0 [(0, vR ad 0), (1, vI x1)] [] σ
  refine z_aload_n hC dX11_isUsable_0 0 rfl rfl ?_
  refine z_iload_n hC dX11_isUsable_1 1 rfl rfl ?_
  refine zx_callVv hC hno hE (oX_11 (show kX 0 = 11 by decide)) [vI x1] (fun sz2 => mX11_requireFrame l hinj hst sz2 hf) (cwV 1 hC.1.2.2.2.2 (uV (uT _) u1061 u1063 u26 u105 u1064) rfl rfl rfl (by decide +kernel) ⟨Nat.le_of_ble_eq_true rfl, Nat.le_of_ble_eq_true rfl⟩) rfl rfl (Nat.le_of_ble_eq_true rfl) ⟨Nat.le_of_ble_eq_true rfl, Nat.le_of_ble_eq_true rfl⟩ ⟨Nat.le_of_ble_eq_true rfl, Nat.le_of_ble_eq_true rfl⟩ dX11_isUsable_2 (fun σ1 hf => ?_)
  refine z_aload_n hC dX11_isUsable_5 0 rfl rfl ?_
  refine z_get hC (fun w h => uT _ w (uL11 w h)) (oX_11 (show kX 0 = 11 by decide)) 0 (by decide) (uT _ _ u467) rfl rfl dX11_isUsable_6 ?_
  obtain ⟨g2, hf⟩ := hf
  refine z_iload_n hC dX11_isUsable_9 1 rfl rfl ?_
  refine z_callVi hC hE (oX_8 g2) [vI x1] (fun sz2 => mX8_usable l hinj sz2 hf) (cwV 1 hC.1.2.2.2.2 (uV (uT _) u827 u799 u800 u106 u801) rfl rfl rfl (by decide +kernel) ⟨Nat.le_of_ble_eq_true rfl, Nat.le_of_ble_eq_true rfl⟩) rfl rfl (Nat.le_of_ble_eq_true rfl) ⟨Nat.le_of_ble_eq_true rfl, Nat.le_of_ble_eq_true rfl⟩ dX11_isUsable_10 (fun r3 σ3 hf => ?_)
  obtain ⟨g4, hf⟩ := hf
  exact zx_bret hC hr rfl ⟨Nat.le_of_ble_eq_true rfl, Nat.le_of_ble_eq_true rfl⟩ dX11_isUsable_13 g4 hf

-- ===== X11_referenceFrame
def fX11_referenceFrame (K : Int → zSt → Prop) (σ : zSt) : Prop :=
  kX (σ 0 0) = 8 ∧ fX8_usableFrom (fun r2 σ2 => K r2 σ2) σ (σ 0 0) 0
set_option maxHeartbeats 4000000 in
set_option maxRecDepth 100000 in
theorem mX11_referenceFrame {D : va_G} {dA : Nat → ClassId} {ad : Nat → Nat} {aL aG aI : Nat} {aK aV : Nat → Nat} (l : Launch) (hinj : ∀ i j, i < NX → j < NX → ad i = ad j → i = j) (sz : Nat) {K : Int → zSt → Prop} {σ : zSt} (hf : fX11_referenceFrame K σ ) : Met l yX11_referenceFrame (Cond.code yX11_referenceFrame cX11_referenceFrame 1 (some .int) :: UW) ({ frames := 4, cells := 0, slots := 0, locals := 90 } : Room) (va_Pc [vR ad 0] (zPre D vwCl (tyA dA) (zXX aL aG aI aK aV) NX ad (celX ad dA) sz σ)) (va_Qi (zPi K) (zB D vwCl (tyA dA) NX ad (celX ad dA)) (zA ad NX sz)) 0 0 (zA ad NX sz) := by
  refine z_enter (cc := cX11_referenceFrame) (maxL := 1) (ret := (some .int)) (vs := [vR ad 0]) (plainFor_of_name (by decide)) rfl hinj (Nat.le_of_ble_eq_true rfl) ?_
  intro p e s m args below meth c hC hE hsz hr hnm
  show zAt p l e ({ frames := 4, cells := 0, slots := 0, locals := 90 } : Room) s m args below meth c 0 0 (MQ below (va_Qi (zPi K) (zB D vwCl (tyA dA) NX ad (celX ad dA)) (zA ad NX sz)) args s 0 0 (zA ad NX sz)) 1 D vwCl (zA ad NX sz) NX ad (celX ad dA) 0 [(0, vR ad 0)] [] σ
  refine z_aload_n hC dX11_referenceFrame_0 0 rfl rfl ?_
  refine z_get hC (fun w h => uT _ w (uL11 w h)) (oX_11 (show kX 0 = 11 by decide)) 0 (by decide) (uT _ _ u467) rfl rfl dX11_referenceFrame_1 ?_
  obtain ⟨g1, hf⟩ := hf
  refine z_iconst hC dX11_referenceFrame_4 ?_
  refine z_callVi hC hE (oX_8 g1) [vI 0] (fun sz2 => mX8_usableFrom l hinj sz2 hf) (cwV 1 hC.1.2.2.2.2 (uV (uT _) u791 u792 u793 u106 u794) rfl rfl rfl (by decide +kernel) ⟨Nat.le_of_ble_eq_true rfl, Nat.le_of_ble_eq_true rfl⟩) rfl rfl (Nat.le_of_ble_eq_true rfl) ⟨Nat.le_of_ble_eq_true rfl, Nat.le_of_ble_eq_true rfl⟩ dX11_referenceFrame_5 (fun r2 σ2 hf => ?_)
  exact z_iret hC hr rfl dX11_referenceFrame_8 hf

-- ===== X11_currentOrientation
noncomputable def fX11_currentOrientation_B31 (K : Int → zSt → Prop) (n : Nat) : zSt → Int → Prop :=
  Nat.rec (motive := fun _ => zSt → Int → Prop) (fun _ _ => False) (fun _ ih σ x1 => kX (σ 0 0) = 8 ∧ zrg x1 ∧ zrg (σ (σ 0 0) 2) ∧ ((σ (σ 0 0) 2 ≤ x1 → ∀ σ9, σ9 = zu σ 17 0 (σ 0 8) → K 17 σ9) ∧ (¬ σ (σ 0 0) 2 ≤ x1 → fX8_usable (fun r10 σ10 => zrg r10 ∧ ((r10 = 0 → ih σ10 (x1 + 1)) ∧ (¬ r10 = 0 → kX (σ10 0 0) = 8 ∧ fX6_findShift (fun σ13 => ih σ13 (x1 + 1)) σ10 (σ10 0 0) x1))) σ (σ 0 0) x1))) n
theorem uX11_currentOrientation_B31 (K : Int → zSt → Prop) (n0 : Nat) (σ : zSt) (x1 : Int) : fX11_currentOrientation_B31 K (n0 + 1) σ x1 = (kX (σ 0 0) = 8 ∧ zrg x1 ∧ zrg (σ (σ 0 0) 2) ∧ ((σ (σ 0 0) 2 ≤ x1 → ∀ σ9, σ9 = zu σ 17 0 (σ 0 8) → K 17 σ9) ∧ (¬ σ (σ 0 0) 2 ≤ x1 → fX8_usable (fun r10 σ10 => zrg r10 ∧ ((r10 = 0 → (fX11_currentOrientation_B31 K n0) σ10 (x1 + 1)) ∧ (¬ r10 = 0 → kX (σ10 0 0) = 8 ∧ fX6_findShift (fun σ13 => (fX11_currentOrientation_B31 K n0) σ13 (x1 + 1)) σ10 (σ10 0 0) x1))) σ (σ 0 0) x1))) := rfl
def fX11_currentOrientation (K : Int → zSt → Prop) (σ : zSt) : Prop :=
  zrg (σ 17 0) ∧ zrg (σ 0 8) ∧ ((σ 17 0 = σ 0 8 → K 17 σ) ∧ (¬ σ 17 0 = σ 0 8 → kX (σ 0 0) = 8 ∧ fX8_usableFrom (fun r4 σ4 => fX6_begin (fun σ5 => (∃ n, fX11_currentOrientation_B31 K n σ5 0)) σ4 r4) σ (σ 0 0) 0))
set_option maxHeartbeats 4000000 in
set_option maxRecDepth 100000 in
theorem wX11_currentOrientation_B31 {p : Program} {l : Launch} {e : Env} {s : State} {m : MethodId} {args : Array Value} {below : List Frame} {meth : Method} {c : Code} {D : va_G} {dA : Nat → ClassId} {ad : Nat → Nat} {sz : Nat} {aL aG aI : Nat} {aK aV : Nat → Nat} {K : Int → zSt → Prop} (hC : zC p m c cX11_currentOrientation 2 s args (Cond.code yX11_currentOrientation cX11_currentOrientation 2 (some (.object "GlacierCamera$Orientation")) :: UW) RX11 meth D vwCl (tyA dA) (zA ad NX sz) NX ad (celX ad dA)) (hE : zE (zXX aL aG aI aK aV) (zA ad NX sz) s s.heap) (hr : meth.sig.returnType = (some (.object "GlacierCamera$Orientation"))) (hinj : ∀ i j, i < NX → j < NX → ad i = ad j → i = j) : ∀ (n : Nat) (σ : zSt) (x1 : Int), fX11_currentOrientation_B31 K n σ x1 → zAt p l e ({ frames := 4, cells := 0, slots := 0, locals := 111 } : Room) s m args below meth c 0 0 (MQ below (va_Qr (fun u : Int × zSt => K u.1 u.2) (zQr D vwCl (tyA dA) NX ad (celX ad dA)) (zA ad NX sz)) args s 0 0 (zA ad NX sz)) 2 D vwCl (zA ad NX sz) NX ad (celX ad dA) 31 [(0, vR ad 0), (1, vI x1)] [] σ := by
  intro n
  induction n with
  | zero => intro σ x1  hf; exact False.elim hf
  | succ n ih =>
    intro σ x1  hf
    rw [uX11_currentOrientation_B31] at hf
    refine z_iload_n hC dX11_currentOrientation_31 1 rfl rfl ?_
    refine z_aload_n hC dX11_currentOrientation_32 0 rfl rfl ?_
    refine z_get hC (fun w h => uT _ w (uL11 w h)) (oX_11 (show kX 0 = 11 by decide)) 0 (by decide) (uT _ _ u467) rfl rfl dX11_currentOrientation_33 ?_
    obtain ⟨g6, hf⟩ := hf
    refine z_get hC (fun w h => uT _ w (uL8 w h)) (oX_8 g6) 2 (by decide) (uT _ _ u222) rfl rfl dX11_currentOrientation_36 ?_
    obtain ⟨g7, hf⟩ := hf
    obtain ⟨g8, hf⟩ := hf
    refine z_icmp_ge (tgt := 71) hC dX11_currentOrientation_39 (by decide) g7 g8 (fun hc => ?_) (fun hc => ?_)
    · replace hf := hf.1 hc
      refine z_aload_n hC dX11_currentOrientation_71 0 rfl rfl ?_
      refine z_get hC (fun w h => uT _ w (uL11 w h)) (oX_11 (show kX 0 = 11 by decide)) 3 (by decide) (uT _ _ u470) rfl rfl dX11_currentOrientation_72 ?_
      refine z_aload_n hC dX11_currentOrientation_75 0 rfl rfl ?_
      refine z_get hC (fun w h => uT _ w (uL11 w h)) (oX_11 (show kX 0 = 11 by decide)) 8 (by decide) (uT _ _ u475) rfl rfl dX11_currentOrientation_76 ?_
      refine z_put hC (ty := .int) tyX6 tyX6_ok nmX6 (fun w h => uT _ w (uL6 w h)) (oX_6 (show kX 17 = 6 by decide)) (loX' (show kX 17 = 6 by decide) (by decide)) 0 (by decide) (uT _ _ u369) rfl rfl (0) (σ 0 8) (by simp [zu]) (by decide +kernel) rfl rfl (Nat.le_of_ble_eq_true rfl) dX11_currentOrientation_79 ?_
      obtain ⟨σ9, eσ9⟩ : ∃ z : zSt, z = zu σ 17 0 (σ 0 8) := ⟨_, rfl⟩
      rw [← eσ9]
      replace hf := hf σ9 eσ9
      refine z_aload_n hC dX11_currentOrientation_82 0 rfl rfl ?_
      refine z_get hC (fun w h => uT _ w (uL11 w h)) (oX_11 (show kX 0 = 11 by decide)) 3 (by decide) (uT _ _ u470) rfl rfl dX11_currentOrientation_83 ?_
      exact z_aret hC hr rfl dX11_currentOrientation_86 hf
    · replace hf := hf.2 hc
      refine z_aload_n hC dX11_currentOrientation_42 0 rfl rfl ?_
      refine z_get hC (fun w h => uT _ w (uL11 w h)) (oX_11 (show kX 0 = 11 by decide)) 0 (by decide) (uT _ _ u467) rfl rfl dX11_currentOrientation_43 ?_
      refine z_iload_n hC dX11_currentOrientation_46 1 rfl rfl ?_
      refine z_callVi hC hE (oX_8 g6) [vI x1] (fun sz2 => mX8_usable l hinj sz2 hf) (cwV 1 hC.1.2.2.2.2 (uV (uT _) u827 u799 u800 u106 u801) rfl rfl rfl (by decide +kernel) ⟨Nat.le_of_ble_eq_true rfl, Nat.le_of_ble_eq_true rfl⟩) rfl rfl (Nat.le_of_ble_eq_true rfl) ⟨Nat.le_of_ble_eq_true rfl, Nat.le_of_ble_eq_true rfl⟩ dX11_currentOrientation_47 (fun r10 σ10 hf => ?_)
      obtain ⟨g11, hf⟩ := hf
      refine z_if_eq (tgt := 65) hC dX11_currentOrientation_50 (by decide) g11 (fun hc => ?_) (fun hc => ?_)
      · replace hf := hf.1 hc
        refine z_iinc hC ([(1, vI (x1 + 1)), (0, vR ad 0)]) dX11_currentOrientation_65 1 rfl (by decide) rfl ?_
        refine z_goto (tgt := 31) hC dX11_currentOrientation_68 (by decide) ?_
        refine z_sub (lv' := [(0, vR ad 0), (1, vI (x1 + 1))]) [1, 0] rfl ?_
        exact ih _ _ hf
      · replace hf := hf.2 hc
        refine z_aload_n hC dX11_currentOrientation_53 0 rfl rfl ?_
        refine z_get hC (fun w h => uT _ w (uL11 w h)) (oX_11 (show kX 0 = 11 by decide)) 3 (by decide) (uT _ _ u470) rfl rfl dX11_currentOrientation_54 ?_
        refine z_aload_n hC dX11_currentOrientation_57 0 rfl rfl ?_
        refine z_get hC (fun w h => uT _ w (uL11 w h)) (oX_11 (show kX 0 = 11 by decide)) 0 (by decide) (uT _ _ u467) rfl rfl dX11_currentOrientation_58 ?_
        obtain ⟨g12, hf⟩ := hf
        refine z_iload_n hC dX11_currentOrientation_61 1 rfl rfl ?_
        refine z_callVv hC hE (oX_6 (show kX 17 = 6 by decide)) [vR ad (σ10 0 0), vI x1] (fun sz2 => mX6_findShift l hinj sz2 hf) (cwV 2 hC.1.2.2.2.2 (uV (uT _) u828 u829 u830 u115 u831) rfl rfl rfl (by decide +kernel) ⟨Nat.le_of_ble_eq_true rfl, Nat.le_of_ble_eq_true rfl⟩) rfl rfl (Nat.le_of_ble_eq_true rfl) ⟨Nat.le_of_ble_eq_true rfl, Nat.le_of_ble_eq_true rfl⟩ dX11_currentOrientation_62 (fun σ13 hf => ?_)
        refine z_iinc hC ([(1, vI (x1 + 1)), (0, vR ad 0)]) dX11_currentOrientation_65 1 rfl (by decide) rfl ?_
        refine z_goto (tgt := 31) hC dX11_currentOrientation_68 (by decide) ?_
        refine z_sub (lv' := [(0, vR ad 0), (1, vI (x1 + 1))]) [1, 0] rfl ?_
        exact ih _ _ hf
set_option maxHeartbeats 4000000 in
set_option maxRecDepth 100000 in
theorem mX11_currentOrientation {D : va_G} {dA : Nat → ClassId} {ad : Nat → Nat} {aL aG aI : Nat} {aK aV : Nat → Nat} (l : Launch) (hinj : ∀ i j, i < NX → j < NX → ad i = ad j → i = j) (sz : Nat) {K : Int → zSt → Prop} {σ : zSt} (hf : fX11_currentOrientation K σ ) : Met l yX11_currentOrientation (Cond.code yX11_currentOrientation cX11_currentOrientation 2 (some (.object "GlacierCamera$Orientation")) :: UW) ({ frames := 4, cells := 0, slots := 0, locals := 111 } : Room) (va_Pc [vR ad 0] (zPre D vwCl (tyA dA) (zXX aL aG aI aK aV) NX ad (celX ad dA) sz σ)) (va_Qr (fun u : Int × zSt => K u.1 u.2) (zQr D vwCl (tyA dA) NX ad (celX ad dA)) (zA ad NX sz)) 0 0 (zA ad NX sz) := by
  refine z_enter (cc := cX11_currentOrientation) (maxL := 2) (ret := (some (.object "GlacierCamera$Orientation"))) (vs := [vR ad 0]) (plainFor_of_name (by decide)) rfl hinj (Nat.le_of_ble_eq_true rfl) ?_
  intro p e s m args below meth c hC hE hsz hr hnm
  show zAt p l e ({ frames := 4, cells := 0, slots := 0, locals := 111 } : Room) s m args below meth c 0 0 (MQ below (va_Qr (fun u : Int × zSt => K u.1 u.2) (zQr D vwCl (tyA dA) NX ad (celX ad dA)) (zA ad NX sz)) args s 0 0 (zA ad NX sz)) 2 D vwCl (zA ad NX sz) NX ad (celX ad dA) 0 [(0, vR ad 0)] [] σ
  refine z_aload_n hC dX11_currentOrientation_0 0 rfl rfl ?_
  refine z_get hC (fun w h => uT _ w (uL11 w h)) (oX_11 (show kX 0 = 11 by decide)) 3 (by decide) (uT _ _ u470) rfl rfl dX11_currentOrientation_1 ?_
  refine z_get hC (fun w h => uT _ w (uL6 w h)) (oX_6 (show kX 17 = 6 by decide)) 0 (by decide) (uT _ _ u369) rfl rfl dX11_currentOrientation_4 ?_
  refine z_aload_n hC dX11_currentOrientation_7 0 rfl rfl ?_
  refine z_get hC (fun w h => uT _ w (uL11 w h)) (oX_11 (show kX 0 = 11 by decide)) 8 (by decide) (uT _ _ u475) rfl rfl dX11_currentOrientation_8 ?_
  obtain ⟨g1, hf⟩ := hf
  obtain ⟨g2, hf⟩ := hf
  refine z_icmp_eq (tgt := 82) hC dX11_currentOrientation_11 (by decide) g1 g2 (fun hc => ?_) (fun hc => ?_)
  · replace hf := hf.1 hc
    refine z_aload_n hC dX11_currentOrientation_82 0 rfl rfl ?_
    refine z_get hC (fun w h => uT _ w (uL11 w h)) (oX_11 (show kX 0 = 11 by decide)) 3 (by decide) (uT _ _ u470) rfl rfl dX11_currentOrientation_83 ?_
    exact z_aret hC hr rfl dX11_currentOrientation_86 hf
  · replace hf := hf.2 hc
    refine z_aload_n hC dX11_currentOrientation_14 0 rfl rfl ?_
    refine z_get hC (fun w h => uT _ w (uL11 w h)) (oX_11 (show kX 0 = 11 by decide)) 3 (by decide) (uT _ _ u470) rfl rfl dX11_currentOrientation_15 ?_
    refine z_aload_n hC dX11_currentOrientation_18 0 rfl rfl ?_
    refine z_get hC (fun w h => uT _ w (uL11 w h)) (oX_11 (show kX 0 = 11 by decide)) 0 (by decide) (uT _ _ u467) rfl rfl dX11_currentOrientation_19 ?_
    obtain ⟨g3, hf⟩ := hf
    refine z_iconst hC dX11_currentOrientation_22 ?_
    refine z_callVi hC hE (oX_8 g3) [vI 0] (fun sz2 => mX8_usableFrom l hinj sz2 hf) (cwV 1 hC.1.2.2.2.2 (uV (uT _) u791 u792 u793 u106 u794) rfl rfl rfl (by decide +kernel) ⟨Nat.le_of_ble_eq_true rfl, Nat.le_of_ble_eq_true rfl⟩) rfl rfl (Nat.le_of_ble_eq_true rfl) ⟨Nat.le_of_ble_eq_true rfl, Nat.le_of_ble_eq_true rfl⟩ dX11_currentOrientation_23 (fun r4 σ4 hf => ?_)
    refine z_callVv hC hE (oX_6 (show kX 17 = 6 by decide)) [vI r4] (fun sz2 => mX6_begin l hinj sz2 hf) (cwV 1 hC.1.2.2.2.2 (uV (uT _) u819 u820 u821 u115 u822) rfl rfl rfl (by decide +kernel) ⟨Nat.le_of_ble_eq_true rfl, Nat.le_of_ble_eq_true rfl⟩) rfl rfl (Nat.le_of_ble_eq_true rfl) ⟨Nat.le_of_ble_eq_true rfl, Nat.le_of_ble_eq_true rfl⟩ dX11_currentOrientation_26 (fun σ5 hf => ?_)
    refine z_iconst hC dX11_currentOrientation_29 ?_
    refine z_istore_n hC ([(1, vI 0), (0, vR ad 0)]) dX11_currentOrientation_30 rfl (by decide) rfl ?_
    refine z_sub (lv' := [(0, vR ad 0), (1, vI 0)]) [1, 0] rfl ?_
    obtain ⟨n, hf⟩ := hf
    exact wX11_currentOrientation_B31 hC hE hr hinj n _ _ hf

-- ===== X11_isOriented
def fX11_isOriented (K : Int → zSt → Prop) (KX : String → zSt → Prop) (σ : zSt) (x1 : Int) : Prop :=
  fX11_requireFrame (fun σ1 => fX11_currentOrientation (fun r2 σ2 => r2 = 17 ∧ fX6_covers (fun r4 σ4 => (r4 = 0 ∨ r4 = 1) ∧ K r4 σ4) σ2 x1) σ1 ) KX σ x1
set_option maxHeartbeats 4000000 in
set_option maxRecDepth 100000 in
theorem mX11_isOriented {D : va_G} {dA : Nat → ClassId} {ad : Nat → Nat} {aL aG aI : Nat} {aK aV : Nat → Nat} (l : Launch) (hinj : ∀ i j, i < NX → j < NX → ad i = ad j → i = j) (hst : l.stackTraces = false) (sz : Nat) {K : Int → zSt → Prop} {KX : String → zSt → Prop} {σ : zSt} {x1 : Int} (hf : fX11_isOriented K KX σ x1) : vx_Met l yX11_isOriented (Cond.code yX11_isOriented cX11_isOriented 2 (some .boolean) :: UW) ({ frames := 7, cells := 1, slots := 6, locals := 132 } : Room) (va_Pc [vR ad 0, vI x1] (zPre D vwCl (tyA dA) (zXX aL aG aI aK aV) NX ad (celX ad dA) sz σ)) (va_Qi (zPi K) (zB D vwCl (tyA dA) NX ad (celX ad dA)) (zA ad NX sz)) (zXC D vwCl (tyA dA) NX ad (celX ad dA) KX (zA ad NX sz)) 1 6 (zA ad NX sz) := by
  refine zx_enter (cc := cX11_isOriented) (maxL := 2) (ret := (some .boolean)) (vs := [vR ad 0, vI x1]) (by decide) rfl hinj (Nat.le_of_ble_eq_true rfl) ?_
  intro p e s m args below meth c hC hE hsz hr hno
  show zAt p l e ({ frames := 7, cells := 1, slots := 6, locals := 132 } : Room) s m args below meth c 0 0 (vx_MQ below (va_Qi (zPi K) (zB D vwCl (tyA dA) NX ad (celX ad dA)) (zA ad NX sz)) (zXC D vwCl (tyA dA) NX ad (celX ad dA) KX (zA ad NX sz)) args s 1 6 (zA ad NX sz)) 2 D vwCl (zA ad NX sz) NX ad (celX ad dA) 0 [(0, vR ad 0), (1, vI x1)] [] σ
  refine z_aload_n hC dX11_isOriented_0 0 rfl rfl ?_
  refine z_iload_n hC dX11_isOriented_1 1 rfl rfl ?_
  refine zx_callVv hC hno hE (oX_11 (show kX 0 = 11 by decide)) [vI x1] (fun sz2 => mX11_requireFrame l hinj hst sz2 hf) (cwV 1 hC.1.2.2.2.2 (uV (uT _) u1061 u1063 u26 u105 u1064) rfl rfl rfl (by decide +kernel) ⟨Nat.le_of_ble_eq_true rfl, Nat.le_of_ble_eq_true rfl⟩) rfl rfl (Nat.le_of_ble_eq_true rfl) ⟨Nat.le_of_ble_eq_true rfl, Nat.le_of_ble_eq_true rfl⟩ ⟨Nat.le_of_ble_eq_true rfl, Nat.le_of_ble_eq_true rfl⟩ dX11_isOriented_2 (fun σ1 hf => ?_)
  refine z_aload_n hC dX11_isOriented_5 0 rfl rfl ?_
  refine z_callVr hC hE (oX_11 (show kX 0 = 11 by decide)) [] (fun sz2 => mX11_currentOrientation l hinj sz2 hf) (cwV 0 hC.1.2.2.2.2 (uV (uT _) u815 u817 u15 u105 u818) rfl rfl rfl (by decide +kernel) ⟨Nat.le_of_ble_eq_true rfl, Nat.le_of_ble_eq_true rfl⟩) rfl rfl (Nat.le_of_ble_eq_true rfl) ⟨Nat.le_of_ble_eq_true rfl, Nat.le_of_ble_eq_true rfl⟩ dX11_isOriented_6 (fun r2 σ2 hf => ?_)
  obtain ⟨g3, hf⟩ := hf
  subst g3
  refine z_iload_n hC dX11_isOriented_9 1 rfl rfl ?_
  refine z_callVi hC hE (oX_6 (show kX 17 = 6 by decide)) [vI x1] (fun sz2 => mX6_covers l hinj sz2 hf) (cwV 1 hC.1.2.2.2.2 (uV (uT _) u1165 u852 u853 u115 u854) rfl rfl rfl (by decide +kernel) ⟨Nat.le_of_ble_eq_true rfl, Nat.le_of_ble_eq_true rfl⟩) rfl rfl (Nat.le_of_ble_eq_true rfl) ⟨Nat.le_of_ble_eq_true rfl, Nat.le_of_ble_eq_true rfl⟩ dX11_isOriented_10 (fun r4 σ4 hf => ?_)
  obtain ⟨g5, hf⟩ := hf
  exact zx_bret hC hr rfl ⟨Nat.le_of_ble_eq_true rfl, Nat.le_of_ble_eq_true rfl⟩ dX11_isOriented_13 g5 hf

-- ===== X11_requireOriented
def fX11_requireOriented (K : zSt → Prop) (KX : String → zSt → Prop) (σ : zSt) (x1 : Int) : Prop :=
  fX11_requireFrame (fun σ1 => fX11_currentOrientation (fun r2 σ2 => r2 = 17 ∧ fX6_covers (fun r4 σ4 => zrg r4 ∧ ((r4 = 0 → KX "java/lang/IllegalStateException" σ4) ∧ (¬ r4 = 0 → K σ4))) σ2 x1) σ1 ) KX σ x1
set_option maxHeartbeats 4000000 in
set_option maxRecDepth 100000 in
theorem mX11_requireOriented {D : va_G} {dA : Nat → ClassId} {ad : Nat → Nat} {aL aG aI : Nat} {aK aV : Nat → Nat} (l : Launch) (hinj : ∀ i j, i < NX → j < NX → ad i = ad j → i = j) (hst : l.stackTraces = false) (sz : Nat) {K : zSt → Prop} {KX : String → zSt → Prop} {σ : zSt} {x1 : Int} (hf : fX11_requireOriented K KX σ x1) : vx_Met l yX11_requireOriented (Cond.code yX11_requireOriented cX11_requireOriented 2 none :: UW) ({ frames := 7, cells := 2, slots := 12, locals := 132 } : Room) (va_Pc [vR ad 0, vI x1] (zPre D vwCl (tyA dA) (zXX aL aG aI aK aV) NX ad (celX ad dA) sz σ)) (va_Qv K (zB D vwCl (tyA dA) NX ad (celX ad dA)) (zA ad NX sz)) (zXC D vwCl (tyA dA) NX ad (celX ad dA) KX (zA ad NX sz)) 2 12 (zA ad NX sz) := by
  refine zx_enter (cc := cX11_requireOriented) (maxL := 2) (ret := none) (vs := [vR ad 0, vI x1]) (by decide) rfl hinj (Nat.le_of_ble_eq_true rfl) ?_
  intro p e s m args below meth c hC hE hsz hr hno
  show zAt p l e ({ frames := 7, cells := 2, slots := 12, locals := 132 } : Room) s m args below meth c 0 0 (vx_MQ below (va_Qv K (zB D vwCl (tyA dA) NX ad (celX ad dA)) (zA ad NX sz)) (zXC D vwCl (tyA dA) NX ad (celX ad dA) KX (zA ad NX sz)) args s 2 12 (zA ad NX sz)) 2 D vwCl (zA ad NX sz) NX ad (celX ad dA) 0 [(0, vR ad 0), (1, vI x1)] [] σ
  refine z_aload_n hC dX11_requireOriented_0 0 rfl rfl ?_
  refine z_iload_n hC dX11_requireOriented_1 1 rfl rfl ?_
  refine zx_callVv hC hno hE (oX_11 (show kX 0 = 11 by decide)) [vI x1] (fun sz2 => mX11_requireFrame l hinj hst sz2 hf) (cwV 1 hC.1.2.2.2.2 (uV (uT _) u1061 u1063 u26 u105 u1064) rfl rfl rfl (by decide +kernel) ⟨Nat.le_of_ble_eq_true rfl, Nat.le_of_ble_eq_true rfl⟩) rfl rfl (Nat.le_of_ble_eq_true rfl) ⟨Nat.le_of_ble_eq_true rfl, Nat.le_of_ble_eq_true rfl⟩ ⟨Nat.le_of_ble_eq_true rfl, Nat.le_of_ble_eq_true rfl⟩ dX11_requireOriented_2 (fun σ1 hf => ?_)
  refine z_aload_n hC dX11_requireOriented_5 0 rfl rfl ?_
  refine z_callVr hC hE (oX_11 (show kX 0 = 11 by decide)) [] (fun sz2 => mX11_currentOrientation l hinj sz2 hf) (cwV 0 hC.1.2.2.2.2 (uV (uT _) u815 u817 u15 u105 u818) rfl rfl rfl (by decide +kernel) ⟨Nat.le_of_ble_eq_true rfl, Nat.le_of_ble_eq_true rfl⟩) rfl rfl (Nat.le_of_ble_eq_true rfl) ⟨Nat.le_of_ble_eq_true rfl, Nat.le_of_ble_eq_true rfl⟩ dX11_requireOriented_6 (fun r2 σ2 hf => ?_)
  obtain ⟨g3, hf⟩ := hf
  subst g3
  refine z_iload_n hC dX11_requireOriented_9 1 rfl rfl ?_
  refine z_callVi hC hE (oX_6 (show kX 17 = 6 by decide)) [vI x1] (fun sz2 => mX6_covers l hinj sz2 hf) (cwV 1 hC.1.2.2.2.2 (uV (uT _) u1165 u852 u853 u115 u854) rfl rfl rfl (by decide +kernel) ⟨Nat.le_of_ble_eq_true rfl, Nat.le_of_ble_eq_true rfl⟩) rfl rfl (Nat.le_of_ble_eq_true rfl) ⟨Nat.le_of_ble_eq_true rfl, Nat.le_of_ble_eq_true rfl⟩ dX11_requireOriented_10 (fun r4 σ4 hf => ?_)
  obtain ⟨g5, hf⟩ := hf
  refine z_if_ne (tgt := 27) hC dX11_requireOriented_13 (by decide) g5 (fun hc => ?_) (fun hc => ?_)
  · replace hf := hf.2 hc
    exact zx_vret hC hr rfl ⟨Nat.le_of_ble_eq_true rfl, Nat.le_of_ble_eq_true rfl⟩ dX11_requireOriented_27 hf
  · replace hf := hf.1 hc
    exact zx_throw hC hE rfl hst hno (names := ["java/lang/RuntimeException", "java/lang/Exception"]) (by decide +kernel) (by decide +kernel) (uT _ _ u1178) (uT _ _ u127) (List.mem_of_getElem? (i := 16) rfl) (fun w h => uT _ w (uE400 w h)) uB400 uF400 dX11_requireOriented_16 dX11_requireOriented_19 dX11_requireOriented_20 dX11_requireOriented_23 dX11_requireOriented_26 (Nat.le_of_ble_eq_true rfl) (Nat.le_of_ble_eq_true rfl) ⟨Nat.le_of_ble_eq_true rfl, Nat.le_of_ble_eq_true rfl⟩ ⟨Nat.le_of_ble_eq_true rfl, Nat.le_of_ble_eq_true rfl⟩ hf

-- ===== X11_shiftX
def fX11_shiftX (K : Int → zSt → Prop) (KX : String → zSt → Prop) (σ : zSt) (x1 : Int) : Prop :=
  fX11_requireOriented (fun σ1 => fX6_xShiftOf (fun r2 σ2 => K r2 σ2) σ1 x1) KX σ x1
set_option maxHeartbeats 4000000 in
set_option maxRecDepth 100000 in
theorem mX11_shiftX {D : va_G} {dA : Nat → ClassId} {ad : Nat → Nat} {aL aG aI : Nat} {aK aV : Nat → Nat} (l : Launch) (hinj : ∀ i j, i < NX → j < NX → ad i = ad j → i = j) (hst : l.stackTraces = false) (sz : Nat) {K : Int → zSt → Prop} {KX : String → zSt → Prop} {σ : zSt} {x1 : Int} (hf : fX11_shiftX K KX σ x1) : vx_Met l yX11_shiftX (Cond.code yX11_shiftX cX11_shiftX 2 (some .int) :: UW) ({ frames := 8, cells := 2, slots := 12, locals := 153 } : Room) (va_Pc [vR ad 0, vI x1] (zPre D vwCl (tyA dA) (zXX aL aG aI aK aV) NX ad (celX ad dA) sz σ)) (va_Qi (zPi K) (zB D vwCl (tyA dA) NX ad (celX ad dA)) (zA ad NX sz)) (zXC D vwCl (tyA dA) NX ad (celX ad dA) KX (zA ad NX sz)) 2 12 (zA ad NX sz) := by
  refine zx_enter (cc := cX11_shiftX) (maxL := 2) (ret := (some .int)) (vs := [vR ad 0, vI x1]) (by decide) rfl hinj (Nat.le_of_ble_eq_true rfl) ?_
  intro p e s m args below meth c hC hE hsz hr hno
  show zAt p l e ({ frames := 8, cells := 2, slots := 12, locals := 153 } : Room) s m args below meth c 0 0 (vx_MQ below (va_Qi (zPi K) (zB D vwCl (tyA dA) NX ad (celX ad dA)) (zA ad NX sz)) (zXC D vwCl (tyA dA) NX ad (celX ad dA) KX (zA ad NX sz)) args s 2 12 (zA ad NX sz)) 2 D vwCl (zA ad NX sz) NX ad (celX ad dA) 0 [(0, vR ad 0), (1, vI x1)] [] σ
  refine z_aload_n hC dX11_shiftX_0 0 rfl rfl ?_
  refine z_iload_n hC dX11_shiftX_1 1 rfl rfl ?_
  refine zx_callVv hC hno hE (oX_11 (show kX 0 = 11 by decide)) [vI x1] (fun sz2 => mX11_requireOriented l hinj hst sz2 hf) (cwV 1 hC.1.2.2.2.2 (uV (uT _) u1174 u1176 u29 u105 u1177) rfl rfl rfl (by decide +kernel) ⟨Nat.le_of_ble_eq_true rfl, Nat.le_of_ble_eq_true rfl⟩) rfl rfl (Nat.le_of_ble_eq_true rfl) ⟨Nat.le_of_ble_eq_true rfl, Nat.le_of_ble_eq_true rfl⟩ ⟨Nat.le_of_ble_eq_true rfl, Nat.le_of_ble_eq_true rfl⟩ dX11_shiftX_2 (fun σ1 hf => ?_)
  refine z_aload_n hC dX11_shiftX_5 0 rfl rfl ?_
  refine z_get hC (fun w h => uT _ w (uL11 w h)) (oX_11 (show kX 0 = 11 by decide)) 3 (by decide) (uT _ _ u470) rfl rfl dX11_shiftX_6 ?_
  refine z_iload_n hC dX11_shiftX_9 1 rfl rfl ?_
  refine z_callVi hC hE (oX_6 (show kX 17 = 6 by decide)) [vI x1] (fun sz2 => mX6_xShiftOf l hinj sz2 hf) (cwV 1 hC.1.2.2.2.2 (uV (uT _) u1194 u867 u868 u115 u869) rfl rfl rfl (by decide +kernel) ⟨Nat.le_of_ble_eq_true rfl, Nat.le_of_ble_eq_true rfl⟩) rfl rfl (Nat.le_of_ble_eq_true rfl) ⟨Nat.le_of_ble_eq_true rfl, Nat.le_of_ble_eq_true rfl⟩ dX11_shiftX_10 (fun r2 σ2 hf => ?_)
  exact zx_iret hC hr rfl ⟨Nat.le_of_ble_eq_true rfl, Nat.le_of_ble_eq_true rfl⟩ dX11_shiftX_13 hf

-- ===== X11_shiftY
def fX11_shiftY (K : Int → zSt → Prop) (KX : String → zSt → Prop) (σ : zSt) (x1 : Int) : Prop :=
  fX11_requireOriented (fun σ1 => fX6_yShiftOf (fun r2 σ2 => K r2 σ2) σ1 x1) KX σ x1
set_option maxHeartbeats 4000000 in
set_option maxRecDepth 100000 in
theorem mX11_shiftY {D : va_G} {dA : Nat → ClassId} {ad : Nat → Nat} {aL aG aI : Nat} {aK aV : Nat → Nat} (l : Launch) (hinj : ∀ i j, i < NX → j < NX → ad i = ad j → i = j) (hst : l.stackTraces = false) (sz : Nat) {K : Int → zSt → Prop} {KX : String → zSt → Prop} {σ : zSt} {x1 : Int} (hf : fX11_shiftY K KX σ x1) : vx_Met l yX11_shiftY (Cond.code yX11_shiftY cX11_shiftY 2 (some .int) :: UW) ({ frames := 8, cells := 2, slots := 12, locals := 153 } : Room) (va_Pc [vR ad 0, vI x1] (zPre D vwCl (tyA dA) (zXX aL aG aI aK aV) NX ad (celX ad dA) sz σ)) (va_Qi (zPi K) (zB D vwCl (tyA dA) NX ad (celX ad dA)) (zA ad NX sz)) (zXC D vwCl (tyA dA) NX ad (celX ad dA) KX (zA ad NX sz)) 2 12 (zA ad NX sz) := by
  refine zx_enter (cc := cX11_shiftY) (maxL := 2) (ret := (some .int)) (vs := [vR ad 0, vI x1]) (by decide) rfl hinj (Nat.le_of_ble_eq_true rfl) ?_
  intro p e s m args below meth c hC hE hsz hr hno
  show zAt p l e ({ frames := 8, cells := 2, slots := 12, locals := 153 } : Room) s m args below meth c 0 0 (vx_MQ below (va_Qi (zPi K) (zB D vwCl (tyA dA) NX ad (celX ad dA)) (zA ad NX sz)) (zXC D vwCl (tyA dA) NX ad (celX ad dA) KX (zA ad NX sz)) args s 2 12 (zA ad NX sz)) 2 D vwCl (zA ad NX sz) NX ad (celX ad dA) 0 [(0, vR ad 0), (1, vI x1)] [] σ
  refine z_aload_n hC dX11_shiftY_0 0 rfl rfl ?_
  refine z_iload_n hC dX11_shiftY_1 1 rfl rfl ?_
  refine zx_callVv hC hno hE (oX_11 (show kX 0 = 11 by decide)) [vI x1] (fun sz2 => mX11_requireOriented l hinj hst sz2 hf) (cwV 1 hC.1.2.2.2.2 (uV (uT _) u1174 u1176 u29 u105 u1177) rfl rfl rfl (by decide +kernel) ⟨Nat.le_of_ble_eq_true rfl, Nat.le_of_ble_eq_true rfl⟩) rfl rfl (Nat.le_of_ble_eq_true rfl) ⟨Nat.le_of_ble_eq_true rfl, Nat.le_of_ble_eq_true rfl⟩ ⟨Nat.le_of_ble_eq_true rfl, Nat.le_of_ble_eq_true rfl⟩ dX11_shiftY_2 (fun σ1 hf => ?_)
  refine z_aload_n hC dX11_shiftY_5 0 rfl rfl ?_
  refine z_get hC (fun w h => uT _ w (uL11 w h)) (oX_11 (show kX 0 = 11 by decide)) 3 (by decide) (uT _ _ u470) rfl rfl dX11_shiftY_6 ?_
  refine z_iload_n hC dX11_shiftY_9 1 rfl rfl ?_
  refine z_callVi hC hE (oX_6 (show kX 17 = 6 by decide)) [vI x1] (fun sz2 => mX6_yShiftOf l hinj sz2 hf) (cwV 1 hC.1.2.2.2.2 (uV (uT _) u1202 u871 u872 u115 u873) rfl rfl rfl (by decide +kernel) ⟨Nat.le_of_ble_eq_true rfl, Nat.le_of_ble_eq_true rfl⟩) rfl rfl (Nat.le_of_ble_eq_true rfl) ⟨Nat.le_of_ble_eq_true rfl, Nat.le_of_ble_eq_true rfl⟩ dX11_shiftY_10 (fun r2 σ2 hf => ?_)
  exact zx_iret hC hr rfl ⟨Nat.le_of_ble_eq_true rfl, Nat.le_of_ble_eq_true rfl⟩ dX11_shiftY_13 hf

-- ===== X11_shiftError
def fX11_shiftError (K : Int → zSt → Prop) (KX : String → zSt → Prop) (σ : zSt) (x1 : Int) : Prop :=
  fX11_requireFrame (fun σ1 => fX11_currentOrientation (fun r2 σ2 => r2 = 17 ∧ fX6_errorOf (fun r4 σ4 => K r4 σ4) σ2 x1) σ1 ) KX σ x1
set_option maxHeartbeats 4000000 in
set_option maxRecDepth 100000 in
theorem mX11_shiftError {D : va_G} {dA : Nat → ClassId} {ad : Nat → Nat} {aL aG aI : Nat} {aK aV : Nat → Nat} (l : Launch) (hinj : ∀ i j, i < NX → j < NX → ad i = ad j → i = j) (hst : l.stackTraces = false) (sz : Nat) {K : Int → zSt → Prop} {KX : String → zSt → Prop} {σ : zSt} {x1 : Int} (hf : fX11_shiftError K KX σ x1) : vx_Met l yX11_shiftError (Cond.code yX11_shiftError cX11_shiftError 2 (some .int) :: UW) ({ frames := 7, cells := 1, slots := 6, locals := 132 } : Room) (va_Pc [vR ad 0, vI x1] (zPre D vwCl (tyA dA) (zXX aL aG aI aK aV) NX ad (celX ad dA) sz σ)) (va_Qi (zPi K) (zB D vwCl (tyA dA) NX ad (celX ad dA)) (zA ad NX sz)) (zXC D vwCl (tyA dA) NX ad (celX ad dA) KX (zA ad NX sz)) 1 6 (zA ad NX sz) := by
  refine zx_enter (cc := cX11_shiftError) (maxL := 2) (ret := (some .int)) (vs := [vR ad 0, vI x1]) (by decide) rfl hinj (Nat.le_of_ble_eq_true rfl) ?_
  intro p e s m args below meth c hC hE hsz hr hno
  show zAt p l e ({ frames := 7, cells := 1, slots := 6, locals := 132 } : Room) s m args below meth c 0 0 (vx_MQ below (va_Qi (zPi K) (zB D vwCl (tyA dA) NX ad (celX ad dA)) (zA ad NX sz)) (zXC D vwCl (tyA dA) NX ad (celX ad dA) KX (zA ad NX sz)) args s 1 6 (zA ad NX sz)) 2 D vwCl (zA ad NX sz) NX ad (celX ad dA) 0 [(0, vR ad 0), (1, vI x1)] [] σ
  refine z_aload_n hC dX11_shiftError_0 0 rfl rfl ?_
  refine z_iload_n hC dX11_shiftError_1 1 rfl rfl ?_
  refine zx_callVv hC hno hE (oX_11 (show kX 0 = 11 by decide)) [vI x1] (fun sz2 => mX11_requireFrame l hinj hst sz2 hf) (cwV 1 hC.1.2.2.2.2 (uV (uT _) u1061 u1063 u26 u105 u1064) rfl rfl rfl (by decide +kernel) ⟨Nat.le_of_ble_eq_true rfl, Nat.le_of_ble_eq_true rfl⟩) rfl rfl (Nat.le_of_ble_eq_true rfl) ⟨Nat.le_of_ble_eq_true rfl, Nat.le_of_ble_eq_true rfl⟩ ⟨Nat.le_of_ble_eq_true rfl, Nat.le_of_ble_eq_true rfl⟩ dX11_shiftError_2 (fun σ1 hf => ?_)
  refine z_aload_n hC dX11_shiftError_5 0 rfl rfl ?_
  refine z_callVr hC hE (oX_11 (show kX 0 = 11 by decide)) [] (fun sz2 => mX11_currentOrientation l hinj sz2 hf) (cwV 0 hC.1.2.2.2.2 (uV (uT _) u815 u817 u15 u105 u818) rfl rfl rfl (by decide +kernel) ⟨Nat.le_of_ble_eq_true rfl, Nat.le_of_ble_eq_true rfl⟩) rfl rfl (Nat.le_of_ble_eq_true rfl) ⟨Nat.le_of_ble_eq_true rfl, Nat.le_of_ble_eq_true rfl⟩ dX11_shiftError_6 (fun r2 σ2 hf => ?_)
  obtain ⟨g3, hf⟩ := hf
  subst g3
  refine z_iload_n hC dX11_shiftError_9 1 rfl rfl ?_
  refine z_callVi hC hE (oX_6 (show kX 17 = 6 by decide)) [vI x1] (fun sz2 => mX6_errorOf l hinj sz2 hf) (cwV 1 hC.1.2.2.2.2 (uV (uT _) u1210 u1211 u1212 u115 u1213) rfl rfl rfl (by decide +kernel) ⟨Nat.le_of_ble_eq_true rfl, Nat.le_of_ble_eq_true rfl⟩) rfl rfl (Nat.le_of_ble_eq_true rfl) ⟨Nat.le_of_ble_eq_true rfl, Nat.le_of_ble_eq_true rfl⟩ dX11_shiftError_10 (fun r4 σ4 hf => ?_)
  exact zx_iret hC hr rfl ⟨Nat.le_of_ble_eq_true rfl, Nat.le_of_ble_eq_true rfl⟩ dX11_shiftError_13 hf

-- ===== X11_matchOf
def fX11_matchOf (K : Int → zSt → Prop) (KX : String → zSt → Prop) (σ : zSt) (x1 : Int) (x2 : Int) (x3 : Int) (x4 : Int) : Prop :=
  fX11_requireFrame (fun σ1 => fX11_requireFrame (fun σ2 => fX11_requirePixel (fun σ3 => kX (σ3 0 0) = 8 ∧ fX11_currentOrientation (fun r5 σ5 => r5 = 17 ∧ fX5_search (fun σ7 => K 22 σ7) σ5 (σ3 0 0) x1 x2 x3 x4) σ3 ) KX σ2 x2 x3) KX σ1 x4) KX σ x1
set_option maxHeartbeats 4000000 in
set_option maxRecDepth 100000 in
theorem mX11_matchOf {D : va_G} {dA : Nat → ClassId} {ad : Nat → Nat} {aL aG aI : Nat} {aK aV : Nat → Nat} (l : Launch) (hinj : ∀ i j, i < NX → j < NX → ad i = ad j → i = j) (hst : l.stackTraces = false) (sz : Nat) {K : Int → zSt → Prop} {KX : String → zSt → Prop} {σ : zSt} {x1 : Int} {x2 : Int} {x3 : Int} {x4 : Int} (hf : fX11_matchOf K KX σ x1 x2 x3 x4) : vx_Met l yX11_matchOf (Cond.code yX11_matchOf cX11_matchOf 5 (some (.object "GlacierCamera$Match")) :: UW) ({ frames := 7, cells := 3, slots := 18, locals := 132 } : Room) (va_Pc [vR ad 0, vI x1, vI x2, vI x3, vI x4] (zPre D vwCl (tyA dA) (zXX aL aG aI aK aV) NX ad (celX ad dA) sz σ)) (va_Qr (fun u : Int × zSt => K u.1 u.2) (zQr D vwCl (tyA dA) NX ad (celX ad dA)) (zA ad NX sz)) (zXC D vwCl (tyA dA) NX ad (celX ad dA) KX (zA ad NX sz)) 3 18 (zA ad NX sz) := by
  refine zx_enter (cc := cX11_matchOf) (maxL := 5) (ret := (some (.object "GlacierCamera$Match"))) (vs := [vR ad 0, vI x1, vI x2, vI x3, vI x4]) (by decide) rfl hinj (Nat.le_of_ble_eq_true rfl) ?_
  intro p e s m args below meth c hC hE hsz hr hno
  show zAt p l e ({ frames := 7, cells := 3, slots := 18, locals := 132 } : Room) s m args below meth c 0 0 (vx_MQ below (va_Qr (fun u : Int × zSt => K u.1 u.2) (zQr D vwCl (tyA dA) NX ad (celX ad dA)) (zA ad NX sz)) (zXC D vwCl (tyA dA) NX ad (celX ad dA) KX (zA ad NX sz)) args s 3 18 (zA ad NX sz)) 5 D vwCl (zA ad NX sz) NX ad (celX ad dA) 0 [(0, vR ad 0), (1, vI x1), (2, vI x2), (3, vI x3), (4, vI x4)] [] σ
  refine z_aload_n hC dX11_matchOf_0 0 rfl rfl ?_
  refine z_iload_n hC dX11_matchOf_1 1 rfl rfl ?_
  refine zx_callVv hC hno hE (oX_11 (show kX 0 = 11 by decide)) [vI x1] (fun sz2 => mX11_requireFrame l hinj hst sz2 hf) (cwV 1 hC.1.2.2.2.2 (uV (uT _) u1061 u1063 u26 u105 u1064) rfl rfl rfl (by decide +kernel) ⟨Nat.le_of_ble_eq_true rfl, Nat.le_of_ble_eq_true rfl⟩) rfl rfl (Nat.le_of_ble_eq_true rfl) ⟨Nat.le_of_ble_eq_true rfl, Nat.le_of_ble_eq_true rfl⟩ ⟨Nat.le_of_ble_eq_true rfl, Nat.le_of_ble_eq_true rfl⟩ dX11_matchOf_2 (fun σ1 hf => ?_)
  refine z_aload_n hC dX11_matchOf_5 0 rfl rfl ?_
  refine z_iload hC dX11_matchOf_6 4 rfl ?_
  refine zx_callVv hC hno hE (oX_11 (show kX 0 = 11 by decide)) [vI x4] (fun sz2 => mX11_requireFrame l hinj hst sz2 hf) (cwV 1 hC.1.2.2.2.2 (uV (uT _) u1061 u1063 u26 u105 u1064) rfl rfl rfl (by decide +kernel) ⟨Nat.le_of_ble_eq_true rfl, Nat.le_of_ble_eq_true rfl⟩) rfl rfl (Nat.le_of_ble_eq_true rfl) ⟨Nat.le_of_ble_eq_true rfl, Nat.le_of_ble_eq_true rfl⟩ ⟨Nat.le_of_ble_eq_true rfl, Nat.le_of_ble_eq_true rfl⟩ dX11_matchOf_8 (fun σ2 hf => ?_)
  refine z_aload_n hC dX11_matchOf_11 0 rfl rfl ?_
  refine z_iload_n hC dX11_matchOf_12 2 rfl rfl ?_
  refine z_iload_n hC dX11_matchOf_13 3 rfl rfl ?_
  refine zx_callVv hC hno hE (oX_11 (show kX 0 = 11 by decide)) [vI x2, vI x3] (fun sz2 => mX11_requirePixel l hinj hst sz2 hf) (cwV 2 hC.1.2.2.2.2 (uV (uT _) u1138 u1140 u28 u105 u1141) rfl rfl rfl (by decide +kernel) ⟨Nat.le_of_ble_eq_true rfl, Nat.le_of_ble_eq_true rfl⟩) rfl rfl (Nat.le_of_ble_eq_true rfl) ⟨Nat.le_of_ble_eq_true rfl, Nat.le_of_ble_eq_true rfl⟩ ⟨Nat.le_of_ble_eq_true rfl, Nat.le_of_ble_eq_true rfl⟩ dX11_matchOf_14 (fun σ3 hf => ?_)
  refine z_aload_n hC dX11_matchOf_17 0 rfl rfl ?_
  refine z_get hC (fun w h => uT _ w (uL11 w h)) (oX_11 (show kX 0 = 11 by decide)) 4 (by decide) (uT _ _ u471) rfl rfl dX11_matchOf_18 ?_
  refine z_aload_n hC dX11_matchOf_21 0 rfl rfl ?_
  refine z_get hC (fun w h => uT _ w (uL11 w h)) (oX_11 (show kX 0 = 11 by decide)) 0 (by decide) (uT _ _ u467) rfl rfl dX11_matchOf_22 ?_
  obtain ⟨g4, hf⟩ := hf
  refine z_aload_n hC dX11_matchOf_25 0 rfl rfl ?_
  refine z_callVr hC hE (oX_11 (show kX 0 = 11 by decide)) [] (fun sz2 => mX11_currentOrientation l hinj sz2 hf) (cwV 0 hC.1.2.2.2.2 (uV (uT _) u815 u817 u15 u105 u818) rfl rfl rfl (by decide +kernel) ⟨Nat.le_of_ble_eq_true rfl, Nat.le_of_ble_eq_true rfl⟩) rfl rfl (Nat.le_of_ble_eq_true rfl) ⟨Nat.le_of_ble_eq_true rfl, Nat.le_of_ble_eq_true rfl⟩ dX11_matchOf_26 (fun r5 σ5 hf => ?_)
  obtain ⟨g6, hf⟩ := hf
  subst g6
  refine z_iload_n hC dX11_matchOf_29 1 rfl rfl ?_
  refine z_iload_n hC dX11_matchOf_30 2 rfl rfl ?_
  refine z_iload_n hC dX11_matchOf_31 3 rfl rfl ?_
  refine z_iload hC dX11_matchOf_32 4 rfl ?_
  refine z_callVv hC hE (oX_5 (show kX 22 = 5 by decide)) [vR ad (σ3 0 0), vR ad 17, vI x1, vI x2, vI x3, vI x4] (fun sz2 => mX5_search l hinj sz2 hf) (cwV 6 hC.1.2.2.2.2 (uV (uT _) u1225 u888 u889 u116 u890) rfl rfl rfl (by decide +kernel) ⟨Nat.le_of_ble_eq_true rfl, Nat.le_of_ble_eq_true rfl⟩) rfl rfl (Nat.le_of_ble_eq_true rfl) ⟨Nat.le_of_ble_eq_true rfl, Nat.le_of_ble_eq_true rfl⟩ dX11_matchOf_34 (fun σ7 hf => ?_)
  refine z_aload_n hC dX11_matchOf_37 0 rfl rfl ?_
  refine z_get hC (fun w h => uT _ w (uL11 w h)) (oX_11 (show kX 0 = 11 by decide)) 4 (by decide) (uT _ _ u471) rfl rfl dX11_matchOf_38 ?_
  exact zx_aret hC hr rfl ⟨Nat.le_of_ble_eq_true rfl, Nat.le_of_ble_eq_true rfl⟩ dX11_matchOf_41 hf
