
-- ===== X12_isDrilled
def fX12_isDrilled (K : Int → zSt → Prop) (σ : zSt) (x1 : Int) (x2 : Int) : Prop :=
  fX12_readLength (fun r1 σ1 => fX12_readLength (fun r2 σ2 => zrg r1 ∧ zrg r2 ∧ ((r2 ≤ r1 → K 0 σ2) ∧ (¬ r2 ≤ r1 → K 1 σ2))) σ1 x1 x2) σ x1 (x2 + 1)
set_option maxHeartbeats 4000000 in
set_option maxRecDepth 100000 in
theorem mX12_isDrilled {D : va_G} {dA : Nat → ClassId} {ad : Nat → Nat}  (l : Launch) (hinj : ∀ i j, i < NM → j < NM → ad i = ad j → i = j) (sz : Nat) {K : Int → zSt → Prop} {σ : zSt} {x1 : Int} {x2 : Int} (hf : fX12_isDrilled K σ x1 x2) : Met l yX12_isDrilled (Cond.code yX12_isDrilled cX12_isDrilled 3 (some .boolean) :: UW) ({ frames := 1, cells := 0, slots := 0, locals := 22 } : Room) (va_Pc [vR ad 0, vI x1, vI x2] (zPre D vwCl (tyA dA) zX0 NM ad (celM ad dA) sz σ)) (va_Qi (zPi K) (zB D vwCl (tyA dA) NM ad (celM ad dA)) (zA ad NM sz)) 0 0 (zA ad NM sz) := by
  refine z_enter (cc := cX12_isDrilled) (maxL := 3) (ret := (some .boolean)) (vs := [vR ad 0, vI x1, vI x2]) (plainFor_of_name (by decide)) rfl hinj (Nat.le_of_ble_eq_true rfl) ?_
  intro p e s m args below meth c hC hE hsz hr hnm
  show zAt p l e ({ frames := 1, cells := 0, slots := 0, locals := 22 } : Room) s m args below meth c 0 0 (MQ below (va_Qi (zPi K) (zB D vwCl (tyA dA) NM ad (celM ad dA)) (zA ad NM sz)) args s 0 0 (zA ad NM sz)) 3 D vwCl (zA ad NM sz) NM ad (celM ad dA) 0 [(0, vR ad 0), (1, vI x1), (2, vI x2)] [] σ
  refine z_aload_n hC dX12_isDrilled_0 0 rfl rfl ?_
  refine z_iload_n hC dX12_isDrilled_1 1 rfl rfl ?_
  refine z_iload_n hC dX12_isDrilled_2 2 rfl rfl ?_
  refine z_iconst hC dX12_isDrilled_3 ?_
  refine z_iadd hC dX12_isDrilled_4 ?_
  refine z_callVi hC hE (oM_12 (show kM 0 = 12 by decide)) [vI x1, vI (x2 + 1)] (fun sz2 => mX12_readLength l hinj sz2 hf) (cwV 2 hC.1.2.2.2.2 (uV (uT _) u2140 u2142 u95 u118 u2143) rfl rfl rfl (by decide +kernel) ⟨Nat.le_of_ble_eq_true rfl, Nat.le_of_ble_eq_true rfl⟩) rfl rfl (Nat.le_of_ble_eq_true rfl) ⟨Nat.le_of_ble_eq_true rfl, Nat.le_of_ble_eq_true rfl⟩ dX12_isDrilled_5 (fun r1 σ1 hf => ?_)
  refine z_aload_n hC dX12_isDrilled_8 0 rfl rfl ?_
  refine z_iload_n hC dX12_isDrilled_9 1 rfl rfl ?_
  refine z_iload_n hC dX12_isDrilled_10 2 rfl rfl ?_
  refine z_callVi hC hE (oM_12 (show kM 0 = 12 by decide)) [vI x1, vI x2] (fun sz2 => mX12_readLength l hinj sz2 hf) (cwV 2 hC.1.2.2.2.2 (uV (uT _) u2140 u2142 u95 u118 u2143) rfl rfl rfl (by decide +kernel) ⟨Nat.le_of_ble_eq_true rfl, Nat.le_of_ble_eq_true rfl⟩) rfl rfl (Nat.le_of_ble_eq_true rfl) ⟨Nat.le_of_ble_eq_true rfl, Nat.le_of_ble_eq_true rfl⟩ dX12_isDrilled_11 (fun r2 σ2 hf => ?_)
  obtain ⟨g3, hf⟩ := hf
  obtain ⟨g4, hf⟩ := hf
  refine z_icmp_ge (tgt := 21) hC dX12_isDrilled_14 (by decide) g3 g4 (fun hc => ?_) (fun hc => ?_)
  · replace hf := hf.1 hc
    refine z_iconst hC dX12_isDrilled_21 ?_
    exact z_bret hC hr rfl dX12_isDrilled_22 (Or.inl rfl) hf
  · replace hf := hf.2 hc
    refine z_iconst hC dX12_isDrilled_17 ?_
    refine z_goto (tgt := 22) hC dX12_isDrilled_18 (by decide) ?_
    exact z_bret hC hr rfl dX12_isDrilled_22 (Or.inr rfl) hf

-- ===== X12_meltOf
def fX12_meltOf (K : Int → zSt → Prop) (σ : zSt) (x1 : Int) (x2 : Int) : Prop :=
  fX12_readLength (fun r1 σ1 => fX12_isDrilled (fun r2 σ2 => zrg r2 ∧ ((r2 = 0 → fX12_readLength (fun r4 σ4 => K (r1 - r4) σ4) σ2 x1 x2) ∧ (¬ r2 = 0 → K r1 σ2))) σ1 x1 x2) σ x1 (x2 + 1)
set_option maxHeartbeats 4000000 in
set_option maxRecDepth 100000 in
theorem mX12_meltOf {D : va_G} {dA : Nat → ClassId} {ad : Nat → Nat}  (l : Launch) (hinj : ∀ i j, i < NM → j < NM → ad i = ad j → i = j) (sz : Nat) {K : Int → zSt → Prop} {σ : zSt} {x1 : Int} {x2 : Int} (hf : fX12_meltOf K σ x1 x2) : Met l yX12_meltOf (Cond.code yX12_meltOf cX12_meltOf 4 (some .int) :: UW) ({ frames := 2, cells := 0, slots := 0, locals := 44 } : Room) (va_Pc [vR ad 0, vI x1, vI x2] (zPre D vwCl (tyA dA) zX0 NM ad (celM ad dA) sz σ)) (va_Qi (zPi K) (zB D vwCl (tyA dA) NM ad (celM ad dA)) (zA ad NM sz)) 0 0 (zA ad NM sz) := by
  refine z_enter (cc := cX12_meltOf) (maxL := 4) (ret := (some .int)) (vs := [vR ad 0, vI x1, vI x2]) (plainFor_of_name (by decide)) rfl hinj (Nat.le_of_ble_eq_true rfl) ?_
  intro p e s m args below meth c hC hE hsz hr hnm
  show zAt p l e ({ frames := 2, cells := 0, slots := 0, locals := 44 } : Room) s m args below meth c 0 0 (MQ below (va_Qi (zPi K) (zB D vwCl (tyA dA) NM ad (celM ad dA)) (zA ad NM sz)) args s 0 0 (zA ad NM sz)) 4 D vwCl (zA ad NM sz) NM ad (celM ad dA) 0 [(0, vR ad 0), (1, vI x1), (2, vI x2)] [] σ
  refine z_aload_n hC dX12_meltOf_0 0 rfl rfl ?_
  refine z_iload_n hC dX12_meltOf_1 1 rfl rfl ?_
  refine z_iload_n hC dX12_meltOf_2 2 rfl rfl ?_
  refine z_iconst hC dX12_meltOf_3 ?_
  refine z_iadd hC dX12_meltOf_4 ?_
  refine z_callVi hC hE (oM_12 (show kM 0 = 12 by decide)) [vI x1, vI (x2 + 1)] (fun sz2 => mX12_readLength l hinj sz2 hf) (cwV 2 hC.1.2.2.2.2 (uV (uT _) u2140 u2142 u95 u118 u2143) rfl rfl rfl (by decide +kernel) ⟨Nat.le_of_ble_eq_true rfl, Nat.le_of_ble_eq_true rfl⟩) rfl rfl (Nat.le_of_ble_eq_true rfl) ⟨Nat.le_of_ble_eq_true rfl, Nat.le_of_ble_eq_true rfl⟩ dX12_meltOf_5 (fun r1 σ1 hf => ?_)
  refine z_istore_n hC ([(3, vI r1), (0, vR ad 0), (1, vI x1), (2, vI x2)]) dX12_meltOf_8 rfl (by decide) rfl ?_
  refine z_aload_n hC dX12_meltOf_9 1 rfl rfl ?_
  refine z_iload_n hC dX12_meltOf_10 2 rfl rfl ?_
  refine z_iload_n hC dX12_meltOf_11 3 rfl rfl ?_
  refine z_callVi hC hE (oM_12 (show kM 0 = 12 by decide)) [vI x1, vI x2] (fun sz2 => mX12_isDrilled l hinj sz2 hf) (cwV 2 hC.1.2.2.2.2 (uV (uT _) u2160 u2162 u97 u118 u2163) rfl rfl rfl (by decide +kernel) ⟨Nat.le_of_ble_eq_true rfl, Nat.le_of_ble_eq_true rfl⟩) rfl rfl (Nat.le_of_ble_eq_true rfl) ⟨Nat.le_of_ble_eq_true rfl, Nat.le_of_ble_eq_true rfl⟩ dX12_meltOf_12 (fun r2 σ2 hf => ?_)
  obtain ⟨g3, hf⟩ := hf
  refine z_if_eq (tgt := 22) hC dX12_meltOf_15 (by decide) g3 (fun hc => ?_) (fun hc => ?_)
  · replace hf := hf.1 hc
    refine z_iload_n hC dX12_meltOf_22 0 rfl rfl ?_
    refine z_aload_n hC dX12_meltOf_23 1 rfl rfl ?_
    refine z_iload_n hC dX12_meltOf_24 2 rfl rfl ?_
    refine z_iload_n hC dX12_meltOf_25 3 rfl rfl ?_
    refine z_callVi hC hE (oM_12 (show kM 0 = 12 by decide)) [vI x1, vI x2] (fun sz2 => mX12_readLength l hinj sz2 hf) (cwV 2 hC.1.2.2.2.2 (uV (uT _) u2140 u2142 u95 u118 u2143) rfl rfl rfl (by decide +kernel) ⟨Nat.le_of_ble_eq_true rfl, Nat.le_of_ble_eq_true rfl⟩) rfl rfl (Nat.le_of_ble_eq_true rfl) ⟨Nat.le_of_ble_eq_true rfl, Nat.le_of_ble_eq_true rfl⟩ dX12_meltOf_26 (fun r4 σ4 hf => ?_)
    refine z_isub hC dX12_meltOf_29 ?_
    exact z_iret hC hr rfl dX12_meltOf_30 hf
  · replace hf := hf.2 hc
    refine z_iload_n hC dX12_meltOf_18 0 rfl rfl ?_
    refine z_goto (tgt := 30) hC dX12_meltOf_19 (by decide) ?_
    exact z_iret hC hr rfl dX12_meltOf_30 hf

-- ===== X12_drillCount
noncomputable def fX12_drillCount_B18 (K : Int → zSt → Prop) (n : Nat) : zSt → Int → Int → Int → Prop :=
  Nat.rec (motive := fun _ => zSt → Int → Int → Int → Prop) (fun _ _ _ _ => False) (fun _ ih σ x1 x2 x3 => fX12_readings (fun r4 σ4 => zrg (x3 + 1) ∧ zrg r4 ∧ ((r4 ≤ x3 + 1 → K x2 σ4) ∧ (¬ r4 ≤ x3 + 1 → fX12_isDrilled (fun r7 σ7 => zrg r7 ∧ ((r7 = 0 → ih σ7 x1 (x2 + 0) (x3 + 1)) ∧ (¬ r7 = 0 → ih σ7 x1 (x2 + 1) (x3 + 1)))) σ4 x1 x3))) σ x1) n
theorem uX12_drillCount_B18 (K : Int → zSt → Prop) (n0 : Nat) (σ : zSt) (x1 : Int) (x2 : Int) (x3 : Int) : fX12_drillCount_B18 K (n0 + 1) σ x1 x2 x3 = (fX12_readings (fun r4 σ4 => zrg (x3 + 1) ∧ zrg r4 ∧ ((r4 ≤ x3 + 1 → K x2 σ4) ∧ (¬ r4 ≤ x3 + 1 → fX12_isDrilled (fun r7 σ7 => zrg r7 ∧ ((r7 = 0 → (fX12_drillCount_B18 K n0) σ7 x1 (x2 + 0) (x3 + 1)) ∧ (¬ r7 = 0 → (fX12_drillCount_B18 K n0) σ7 x1 (x2 + 1) (x3 + 1)))) σ4 x1 x3))) σ x1) := rfl
def fX12_drillCount (K : Int → zSt → Prop) (σ : zSt) (x1 : Int) : Prop :=
  fX12_isStake (fun r1 σ1 => fX12_fails (fun r2 σ2 => zrg r2 ∧ ((r2 = 0 → (∃ n, fX12_drillCount_B18 K n σ2 x1 0 0)) ∧ (¬ r2 = 0 → K 0 σ2))) σ1 r1) σ x1
set_option maxHeartbeats 4000000 in
set_option maxRecDepth 100000 in
theorem wX12_drillCount_B18 {p : Program} {l : Launch} {e : Env} {s : State} {m : MethodId} {args : Array Value} {below : List Frame} {meth : Method} {c : Code} {D : va_G} {dA : Nat → ClassId} {ad : Nat → Nat} {sz : Nat}  {K : Int → zSt → Prop} (hC : zC p m c cX12_drillCount 4 s args (Cond.code yX12_drillCount cX12_drillCount 4 (some .int) :: UW) RX12 meth D vwCl (tyA dA) (zA ad NM sz) NM ad (celM ad dA)) (hE : zE zX0 (zA ad NM sz) s s.heap) (hr : meth.sig.returnType = (some .int)) (hinj : ∀ i j, i < NM → j < NM → ad i = ad j → i = j) : ∀ (n : Nat) (σ : zSt) (x1 : Int) (x2 : Int) (x3 : Int), fX12_drillCount_B18 K n σ x1 x2 x3 → zAt p l e ({ frames := 2, cells := 0, slots := 0, locals := 44 } : Room) s m args below meth c 0 0 (MQ below (va_Qi (zPi K) (zB D vwCl (tyA dA) NM ad (celM ad dA)) (zA ad NM sz)) args s 0 0 (zA ad NM sz)) 4 D vwCl (zA ad NM sz) NM ad (celM ad dA) 18 [(0, vR ad 0), (1, vI x1), (2, vI x2), (3, vI x3)] [] σ := by
  intro n
  induction n with
  | zero => intro σ x1 x2 x3  hf; exact False.elim hf
  | succ n ih =>
    intro σ x1 x2 x3  hf
    rw [uX12_drillCount_B18] at hf
    refine z_iload_n hC dX12_drillCount_18 3 rfl rfl ?_
    refine z_iconst hC dX12_drillCount_19 ?_
    refine z_iadd hC dX12_drillCount_20 ?_
    refine z_aload_n hC dX12_drillCount_21 0 rfl rfl ?_
    refine z_iload_n hC dX12_drillCount_22 1 rfl rfl ?_
    refine z_callVi hC hE (oM_12 (show kM 0 = 12 by decide)) [vI x1] (fun sz2 => mX12_readings l hinj sz2 hf) (cwV 1 hC.1.2.2.2.2 (uV (uT _) u2120 u2122 u92 u118 u2123) rfl rfl rfl (by decide +kernel) ⟨Nat.le_of_ble_eq_true rfl, Nat.le_of_ble_eq_true rfl⟩) rfl rfl (Nat.le_of_ble_eq_true rfl) ⟨Nat.le_of_ble_eq_true rfl, Nat.le_of_ble_eq_true rfl⟩ dX12_drillCount_23 (fun r4 σ4 hf => ?_)
    obtain ⟨g5, hf⟩ := hf
    obtain ⟨g6, hf⟩ := hf
    refine z_icmp_ge (tgt := 52) hC dX12_drillCount_26 (by decide) g5 g6 (fun hc => ?_) (fun hc => ?_)
    · replace hf := hf.1 hc
      refine z_iload_n hC dX12_drillCount_52 2 rfl rfl ?_
      exact z_iret hC hr rfl dX12_drillCount_53 hf
    · replace hf := hf.2 hc
      refine z_iload_n hC dX12_drillCount_29 2 rfl rfl ?_
      refine z_aload_n hC dX12_drillCount_30 0 rfl rfl ?_
      refine z_iload_n hC dX12_drillCount_31 1 rfl rfl ?_
      refine z_iload_n hC dX12_drillCount_32 3 rfl rfl ?_
      refine z_callVi hC hE (oM_12 (show kM 0 = 12 by decide)) [vI x1, vI x3] (fun sz2 => mX12_isDrilled l hinj sz2 hf) (cwV 2 hC.1.2.2.2.2 (uV (uT _) u2160 u2162 u97 u118 u2163) rfl rfl rfl (by decide +kernel) ⟨Nat.le_of_ble_eq_true rfl, Nat.le_of_ble_eq_true rfl⟩) rfl rfl (Nat.le_of_ble_eq_true rfl) ⟨Nat.le_of_ble_eq_true rfl, Nat.le_of_ble_eq_true rfl⟩ dX12_drillCount_33 (fun r7 σ7 hf => ?_)
      obtain ⟨g8, hf⟩ := hf
      refine z_if_eq (tgt := 43) hC dX12_drillCount_36 (by decide) g8 (fun hc => ?_) (fun hc => ?_)
      · replace hf := hf.1 hc
        refine z_iconst hC dX12_drillCount_43 ?_
        refine z_iadd hC dX12_drillCount_44 ?_
        refine z_istore_n hC ([(2, vI (x2 + 0)), (0, vR ad 0), (1, vI x1), (3, vI x3)]) dX12_drillCount_45 rfl (by decide) rfl ?_
        refine z_iinc hC ([(3, vI (x3 + 1)), (2, vI (x2 + 0)), (0, vR ad 0), (1, vI x1)]) dX12_drillCount_46 3 rfl (by decide) rfl ?_
        refine z_goto (tgt := 18) hC dX12_drillCount_49 (by decide) ?_
        refine z_sub (lv' := [(0, vR ad 0), (1, vI x1), (2, vI (x2 + 0)), (3, vI (x3 + 1))]) [2, 3, 1, 0] rfl ?_
        exact ih _ _ _ _ hf
      · replace hf := hf.2 hc
        refine z_iconst hC dX12_drillCount_39 ?_
        refine z_goto (tgt := 44) hC dX12_drillCount_40 (by decide) ?_
        refine z_iadd hC dX12_drillCount_44 ?_
        refine z_istore_n hC ([(2, vI (x2 + 1)), (0, vR ad 0), (1, vI x1), (3, vI x3)]) dX12_drillCount_45 rfl (by decide) rfl ?_
        refine z_iinc hC ([(3, vI (x3 + 1)), (2, vI (x2 + 1)), (0, vR ad 0), (1, vI x1)]) dX12_drillCount_46 3 rfl (by decide) rfl ?_
        refine z_goto (tgt := 18) hC dX12_drillCount_49 (by decide) ?_
        refine z_sub (lv' := [(0, vR ad 0), (1, vI x1), (2, vI (x2 + 1)), (3, vI (x3 + 1))]) [2, 3, 1, 0] rfl ?_
        exact ih _ _ _ _ hf
set_option maxHeartbeats 4000000 in
set_option maxRecDepth 100000 in
theorem mX12_drillCount {D : va_G} {dA : Nat → ClassId} {ad : Nat → Nat}  (l : Launch) (hinj : ∀ i j, i < NM → j < NM → ad i = ad j → i = j) (sz : Nat) {K : Int → zSt → Prop} {σ : zSt} {x1 : Int} (hf : fX12_drillCount K σ x1) : Met l yX12_drillCount (Cond.code yX12_drillCount cX12_drillCount 4 (some .int) :: UW) ({ frames := 2, cells := 0, slots := 0, locals := 44 } : Room) (va_Pc [vR ad 0, vI x1] (zPre D vwCl (tyA dA) zX0 NM ad (celM ad dA) sz σ)) (va_Qi (zPi K) (zB D vwCl (tyA dA) NM ad (celM ad dA)) (zA ad NM sz)) 0 0 (zA ad NM sz) := by
  refine z_enter (cc := cX12_drillCount) (maxL := 4) (ret := (some .int)) (vs := [vR ad 0, vI x1]) (plainFor_of_name (by decide)) rfl hinj (Nat.le_of_ble_eq_true rfl) ?_
  intro p e s m args below meth c hC hE hsz hr hnm
  show zAt p l e ({ frames := 2, cells := 0, slots := 0, locals := 44 } : Room) s m args below meth c 0 0 (MQ below (va_Qi (zPi K) (zB D vwCl (tyA dA) NM ad (celM ad dA)) (zA ad NM sz)) args s 0 0 (zA ad NM sz)) 4 D vwCl (zA ad NM sz) NM ad (celM ad dA) 0 [(0, vR ad 0), (1, vI x1)] [] σ
  refine z_aload_n hC dX12_drillCount_0 0 rfl rfl ?_
  refine z_aload_n hC dX12_drillCount_1 0 rfl rfl ?_
  refine z_iload_n hC dX12_drillCount_2 1 rfl rfl ?_
  refine z_callVi hC hE (oM_12 (show kM 0 = 12 by decide)) [vI x1] (fun sz2 => mX12_isStake l hinj sz2 hf) (cwV 1 hC.1.2.2.2.2 (uV (uT _) u2116 u2118 u91 u118 u2119) rfl rfl rfl (by decide +kernel) ⟨Nat.le_of_ble_eq_true rfl, Nat.le_of_ble_eq_true rfl⟩) rfl rfl (Nat.le_of_ble_eq_true rfl) ⟨Nat.le_of_ble_eq_true rfl, Nat.le_of_ble_eq_true rfl⟩ dX12_drillCount_3 (fun r1 σ1 hf => ?_)
  refine z_callVi hC hE (oM_12 (show kM 0 = 12 by decide)) [vI r1] (fun sz2 => mX12_fails l hinj sz2 hf) (cwV 1 hC.1.2.2.2.2 (uV (uT _) u1833 u1835 u58 u118 u1836) rfl rfl rfl (by decide +kernel) ⟨Nat.le_of_ble_eq_true rfl, Nat.le_of_ble_eq_true rfl⟩) rfl rfl (Nat.le_of_ble_eq_true rfl) ⟨Nat.le_of_ble_eq_true rfl, Nat.le_of_ble_eq_true rfl⟩ dX12_drillCount_6 (fun r2 σ2 hf => ?_)
  obtain ⟨g3, hf⟩ := hf
  refine z_if_eq (tgt := 14) hC dX12_drillCount_9 (by decide) g3 (fun hc => ?_) (fun hc => ?_)
  · replace hf := hf.1 hc
    refine z_iconst hC dX12_drillCount_14 ?_
    refine z_istore_n hC ([(2, vI 0), (0, vR ad 0), (1, vI x1)]) dX12_drillCount_15 rfl (by decide) rfl ?_
    refine z_iconst hC dX12_drillCount_16 ?_
    refine z_istore_n hC ([(3, vI 0), (2, vI 0), (0, vR ad 0), (1, vI x1)]) dX12_drillCount_17 rfl (by decide) rfl ?_
    refine z_sub (lv' := [(0, vR ad 0), (1, vI x1), (2, vI 0), (3, vI 0)]) [2, 3, 1, 0] rfl ?_
    obtain ⟨n, hf⟩ := hf
    exact wX12_drillCount_B18 hC hE hr hinj n _ _ _ _ hf
  · replace hf := hf.2 hc
    refine z_iconst hC dX12_drillCount_12 ?_
    exact z_iret hC hr rfl dX12_drillCount_13 hf

-- ===== X12_totalTo
noncomputable def fX12_totalTo_B25 (K : Int → zSt → Prop) (n : Nat) : zSt → Int → Int → Int → Int → Prop :=
  Nat.rec (motive := fun _ => zSt → Int → Int → Int → Int → Prop) (fun _ _ _ _ _ => False) (fun _ ih σ x1 x2 x3 x4 => fX12_readings (fun r6 σ6 => zrg (x4 + 1) ∧ zrg r6 ∧ ((r6 ≤ x4 + 1 → fX12_readings (fun r9 σ9 => fX12_readDay (fun r10 σ10 => zrg x2 ∧ zrg r10 ∧ ((x2 = r10 → K x3 σ10) ∧ (¬ x2 = r10 → K (-1) σ10))) σ9 x1 (r9 - 1)) σ6 x1) ∧ (¬ r6 ≤ x4 + 1 → fX12_readDay (fun r13 σ13 => fX12_readDay (fun r14 σ14 => zrg x2 ∧ zrg r14 ∧ ((r14 ≤ x2 → fX12_meltOf (fun r17 σ17 => ih σ17 x1 x2 (x3 + (100 * r17)) (x4 + 1)) σ14 x1 x4) ∧ (¬ r14 ≤ x2 → fX12_meltOf (fun r18 σ18 => zrg r18 ∧ zrg (x2 - r13) ∧ zrg (r14 - r13) ∧ zrl ((100 * r18) * (x2 - r13)) ∧ zrl (r14 - r13) ∧ ¬ r14 - r13 = 0 ∧ K (x3 + (((100 * r18) * (x2 - r13)).tdiv (r14 - r13))) σ18) σ14 x1 x4))) σ13 x1 (x4 + 1)) σ6 x1 x4))) σ x1) n
theorem uX12_totalTo_B25 (K : Int → zSt → Prop) (n0 : Nat) (σ : zSt) (x1 : Int) (x2 : Int) (x3 : Int) (x4 : Int) : fX12_totalTo_B25 K (n0 + 1) σ x1 x2 x3 x4 = (fX12_readings (fun r6 σ6 => zrg (x4 + 1) ∧ zrg r6 ∧ ((r6 ≤ x4 + 1 → fX12_readings (fun r9 σ9 => fX12_readDay (fun r10 σ10 => zrg x2 ∧ zrg r10 ∧ ((x2 = r10 → K x3 σ10) ∧ (¬ x2 = r10 → K (-1) σ10))) σ9 x1 (r9 - 1)) σ6 x1) ∧ (¬ r6 ≤ x4 + 1 → fX12_readDay (fun r13 σ13 => fX12_readDay (fun r14 σ14 => zrg x2 ∧ zrg r14 ∧ ((r14 ≤ x2 → fX12_meltOf (fun r17 σ17 => (fX12_totalTo_B25 K n0) σ17 x1 x2 (x3 + (100 * r17)) (x4 + 1)) σ14 x1 x4) ∧ (¬ r14 ≤ x2 → fX12_meltOf (fun r18 σ18 => zrg r18 ∧ zrg (x2 - r13) ∧ zrg (r14 - r13) ∧ zrl ((100 * r18) * (x2 - r13)) ∧ zrl (r14 - r13) ∧ ¬ r14 - r13 = 0 ∧ K (x3 + (((100 * r18) * (x2 - r13)).tdiv (r14 - r13))) σ18) σ14 x1 x4))) σ13 x1 (x4 + 1)) σ6 x1 x4))) σ x1) := rfl
def fX12_totalTo (K : Int → zSt → Prop) (σ : zSt) (x1 : Int) (x2 : Int) : Prop :=
  fX12_readings (fun r1 σ1 => zrg r1 ∧ ((r1 = 0 → K (-1) σ1) ∧ (¬ r1 = 0 → fX12_readDay (fun r3 σ3 => zrg x2 ∧ zrg r3 ∧ ((r3 ≤ x2 → (∃ n, fX12_totalTo_B25 K n σ3 x1 x2 0 0)) ∧ (¬ r3 ≤ x2 → K (-1) σ3))) σ1 x1 0))) σ x1
set_option maxHeartbeats 4000000 in
set_option maxRecDepth 100000 in
theorem wX12_totalTo_B25 {p : Program} {l : Launch} {e : Env} {s : State} {m : MethodId} {args : Array Value} {below : List Frame} {meth : Method} {c : Code} {D : va_G} {dA : Nat → ClassId} {ad : Nat → Nat} {sz : Nat}  {K : Int → zSt → Prop} (hC : zC p m c cX12_totalTo 7 s args (Cond.code yX12_totalTo cX12_totalTo 7 (some .int) :: UW) RX12 meth D vwCl (tyA dA) (zA ad NM sz) NM ad (celM ad dA)) (hE : zE zX0 (zA ad NM sz) s s.heap) (hr : meth.sig.returnType = (some .int)) (hinj : ∀ i j, i < NM → j < NM → ad i = ad j → i = j) : ∀ (n : Nat) (σ : zSt) (x1 : Int) (x2 : Int) (x3 : Int) (x4 : Int), fX12_totalTo_B25 K n σ x1 x2 x3 x4 → zAt p l e ({ frames := 3, cells := 0, slots := 0, locals := 67 } : Room) s m args below meth c 0 0 (MQ below (va_Qi (zPi K) (zB D vwCl (tyA dA) NM ad (celM ad dA)) (zA ad NM sz)) args s 0 0 (zA ad NM sz)) 7 D vwCl (zA ad NM sz) NM ad (celM ad dA) 25 [(0, vR ad 0), (1, vI x1), (2, vI x2), (3, vI x3), (4, vI x4)] [] σ := by
  intro n
  induction n with
  | zero => intro σ x1 x2 x3 x4  hf; exact False.elim hf
  | succ n ih =>
    intro σ x1 x2 x3 x4  hf
    rw [uX12_totalTo_B25] at hf
    refine z_iload hC dX12_totalTo_25 4 rfl ?_
    refine z_iconst hC dX12_totalTo_27 ?_
    refine z_iadd hC dX12_totalTo_28 ?_
    refine z_aload_n hC dX12_totalTo_29 0 rfl rfl ?_
    refine z_iload_n hC dX12_totalTo_30 1 rfl rfl ?_
    refine z_callVi hC hE (oM_12 (show kM 0 = 12 by decide)) [vI x1] (fun sz2 => mX12_readings l hinj sz2 hf) (cwV 1 hC.1.2.2.2.2 (uV (uT _) u2120 u2122 u92 u118 u2123) rfl rfl rfl (by decide +kernel) ⟨Nat.le_of_ble_eq_true rfl, Nat.le_of_ble_eq_true rfl⟩) rfl rfl (Nat.le_of_ble_eq_true rfl) ⟨Nat.le_of_ble_eq_true rfl, Nat.le_of_ble_eq_true rfl⟩ dX12_totalTo_31 (fun r6 σ6 hf => ?_)
    obtain ⟨g7, hf⟩ := hf
    obtain ⟨g8, hf⟩ := hf
    refine z_icmp_ge (tgt := 111) hC dX12_totalTo_34 (by decide) g7 g8 (fun hc => ?_) (fun hc => ?_)
    · replace hf := hf.1 hc
      refine z_iload_n hC dX12_totalTo_111 2 rfl rfl ?_
      refine z_aload_n hC dX12_totalTo_112 0 rfl rfl ?_
      refine z_iload_n hC dX12_totalTo_113 1 rfl rfl ?_
      refine z_aload_n hC dX12_totalTo_114 0 rfl rfl ?_
      refine z_iload_n hC dX12_totalTo_115 1 rfl rfl ?_
      refine z_callVi hC hE (oM_12 (show kM 0 = 12 by decide)) [vI x1] (fun sz2 => mX12_readings l hinj sz2 hf) (cwV 1 hC.1.2.2.2.2 (uV (uT _) u2120 u2122 u92 u118 u2123) rfl rfl rfl (by decide +kernel) ⟨Nat.le_of_ble_eq_true rfl, Nat.le_of_ble_eq_true rfl⟩) rfl rfl (Nat.le_of_ble_eq_true rfl) ⟨Nat.le_of_ble_eq_true rfl, Nat.le_of_ble_eq_true rfl⟩ dX12_totalTo_116 (fun r9 σ9 hf => ?_)
      refine z_iconst hC dX12_totalTo_119 ?_
      refine z_isub hC dX12_totalTo_120 ?_
      refine z_callVi hC hE (oM_12 (show kM 0 = 12 by decide)) [vI x1, vI (r9 - 1)] (fun sz2 => mX12_readDay l hinj sz2 hf) (cwV 2 hC.1.2.2.2.2 (uV (uT _) u2132 u2134 u94 u118 u2135) rfl rfl rfl (by decide +kernel) ⟨Nat.le_of_ble_eq_true rfl, Nat.le_of_ble_eq_true rfl⟩) rfl rfl (Nat.le_of_ble_eq_true rfl) ⟨Nat.le_of_ble_eq_true rfl, Nat.le_of_ble_eq_true rfl⟩ dX12_totalTo_121 (fun r10 σ10 hf => ?_)
      obtain ⟨g11, hf⟩ := hf
      obtain ⟨g12, hf⟩ := hf
      refine z_icmp_ne (tgt := 131) hC dX12_totalTo_124 (by decide) g11 g12 (fun hc => ?_) (fun hc => ?_)
      · replace hf := hf.2 hc
        refine z_iconst hC dX12_totalTo_131 ?_
        exact z_iret hC hr rfl dX12_totalTo_132 hf
      · replace hf := hf.1 hc
        refine z_iload_n hC dX12_totalTo_127 3 rfl rfl ?_
        refine z_goto (tgt := 132) hC dX12_totalTo_128 (by decide) ?_
        exact z_iret hC hr rfl dX12_totalTo_132 hf
    · replace hf := hf.2 hc
      refine z_aload_n hC dX12_totalTo_37 0 rfl rfl ?_
      refine z_iload_n hC dX12_totalTo_38 1 rfl rfl ?_
      refine z_iload hC dX12_totalTo_39 4 rfl ?_
      refine z_callVi hC hE (oM_12 (show kM 0 = 12 by decide)) [vI x1, vI x4] (fun sz2 => mX12_readDay l hinj sz2 hf) (cwV 2 hC.1.2.2.2.2 (uV (uT _) u2132 u2134 u94 u118 u2135) rfl rfl rfl (by decide +kernel) ⟨Nat.le_of_ble_eq_true rfl, Nat.le_of_ble_eq_true rfl⟩) rfl rfl (Nat.le_of_ble_eq_true rfl) ⟨Nat.le_of_ble_eq_true rfl, Nat.le_of_ble_eq_true rfl⟩ dX12_totalTo_41 (fun r13 σ13 hf => ?_)
      refine z_istore hC ([(5, vI r13), (0, vR ad 0), (1, vI x1), (2, vI x2), (3, vI x3), (4, vI x4)]) dX12_totalTo_44 (by decide) rfl ?_
      refine z_aload_n hC dX12_totalTo_46 1 rfl rfl ?_
      refine z_iload_n hC dX12_totalTo_47 2 rfl rfl ?_
      refine z_iload hC dX12_totalTo_48 5 rfl ?_
      refine z_iconst hC dX12_totalTo_50 ?_
      refine z_iadd hC dX12_totalTo_51 ?_
      refine z_callVi hC hE (oM_12 (show kM 0 = 12 by decide)) [vI x1, vI (x4 + 1)] (fun sz2 => mX12_readDay l hinj sz2 hf) (cwV 2 hC.1.2.2.2.2 (uV (uT _) u2132 u2134 u94 u118 u2135) rfl rfl rfl (by decide +kernel) ⟨Nat.le_of_ble_eq_true rfl, Nat.le_of_ble_eq_true rfl⟩) rfl rfl (Nat.le_of_ble_eq_true rfl) ⟨Nat.le_of_ble_eq_true rfl, Nat.le_of_ble_eq_true rfl⟩ dX12_totalTo_52 (fun r14 σ14 hf => ?_)
      refine z_istore hC ([(6, vI r14), (5, vI r13), (0, vR ad 0), (1, vI x1), (2, vI x2), (3, vI x3), (4, vI x4)]) dX12_totalTo_55 (by decide) rfl ?_
      refine z_iload_n hC dX12_totalTo_57 4 rfl rfl ?_
      refine z_iload hC dX12_totalTo_58 0 rfl ?_
      obtain ⟨g15, hf⟩ := hf
      obtain ⟨g16, hf⟩ := hf
      refine z_icmp_ge (tgt := 92) hC dX12_totalTo_60 (by decide) g15 g16 (fun hc => ?_) (fun hc => ?_)
      · replace hf := hf.1 hc
        refine z_iload_n hC dX12_totalTo_92 5 rfl rfl ?_
        refine z_bipush hC dX12_totalTo_93 (by decide) ?_
        refine z_aload_n hC dX12_totalTo_95 2 rfl rfl ?_
        refine z_iload_n hC dX12_totalTo_96 3 rfl rfl ?_
        refine z_iload hC dX12_totalTo_97 6 rfl ?_
        refine z_callVi hC hE (oM_12 (show kM 0 = 12 by decide)) [vI x1, vI x4] (fun sz2 => mX12_meltOf l hinj sz2 hf) (cwV 2 hC.1.2.2.2.2 (uV (uT _) u2173 u2175 u99 u118 u2176) rfl rfl rfl (by decide +kernel) ⟨Nat.le_of_ble_eq_true rfl, Nat.le_of_ble_eq_true rfl⟩) rfl rfl (Nat.le_of_ble_eq_true rfl) ⟨Nat.le_of_ble_eq_true rfl, Nat.le_of_ble_eq_true rfl⟩ dX12_totalTo_99 (fun r17 σ17 hf => ?_)
        refine z_imul hC dX12_totalTo_102 ?_
        refine z_iadd hC dX12_totalTo_103 ?_
        refine z_istore_n hC ([(3, vI (x3 + (100 * r17))), (6, vI r14), (5, vI r13), (0, vR ad 0), (1, vI x1), (2, vI x2), (4, vI x4)]) dX12_totalTo_104 rfl (by decide) rfl ?_
        refine z_iinc hC ([(4, vI (x4 + 1)), (3, vI (x3 + (100 * r17))), (6, vI r14), (5, vI r13), (0, vR ad 0), (1, vI x1), (2, vI x2)]) dX12_totalTo_105 6 rfl (by decide) rfl ?_
        refine z_goto (tgt := 25) hC dX12_totalTo_108 (by decide) ?_
        refine z_sub (lv' := [(0, vR ad 0), (1, vI x1), (2, vI x2), (3, vI (x3 + (100 * r17))), (4, vI (x4 + 1))]) [4, 5, 6, 1, 0] rfl ?_
        exact ih _ _ _ _ _ hf
      · replace hf := hf.2 hc
        refine z_iload_n hC dX12_totalTo_63 5 rfl rfl ?_
        refine z_ldc2 hC (n := 100) (uT _ _ u2172) (by decide) dX12_totalTo_64 ?_
        refine z_aload_n hC dX12_totalTo_67 2 rfl rfl ?_
        refine z_iload_n hC dX12_totalTo_68 3 rfl rfl ?_
        refine z_iload hC dX12_totalTo_69 6 rfl ?_
        refine z_callVi hC hE (oM_12 (show kM 0 = 12 by decide)) [vI x1, vI x4] (fun sz2 => mX12_meltOf l hinj sz2 hf) (cwV 2 hC.1.2.2.2.2 (uV (uT _) u2173 u2175 u99 u118 u2176) rfl rfl rfl (by decide +kernel) ⟨Nat.le_of_ble_eq_true rfl, Nat.le_of_ble_eq_true rfl⟩) rfl rfl (Nat.le_of_ble_eq_true rfl) ⟨Nat.le_of_ble_eq_true rfl, Nat.le_of_ble_eq_true rfl⟩ dX12_totalTo_71 (fun r18 σ18 hf => ?_)
        obtain ⟨g19, hf⟩ := hf
        refine z_i2l hC dX12_totalTo_74 g19 ?_
        refine z_lmul hC dX12_totalTo_75 ?_
        refine z_iload_n hC dX12_totalTo_76 4 rfl rfl ?_
        refine z_iload hC dX12_totalTo_77 1 rfl ?_
        refine z_isub hC dX12_totalTo_79 ?_
        obtain ⟨g20, hf⟩ := hf
        refine z_i2l hC dX12_totalTo_80 g20 ?_
        refine z_lmul hC dX12_totalTo_81 ?_
        refine z_iload hC dX12_totalTo_82 0 rfl ?_
        refine z_iload hC dX12_totalTo_84 1 rfl ?_
        refine z_isub hC dX12_totalTo_86 ?_
        obtain ⟨g21, hf⟩ := hf
        refine z_i2l hC dX12_totalTo_87 g21 ?_
        obtain ⟨g22, hf⟩ := hf
        obtain ⟨g23, hf⟩ := hf
        obtain ⟨g24, hf⟩ := hf
        refine z_ldiv hC dX12_totalTo_88 g22 g23 g24 ?_
        refine z_l2i hC dX12_totalTo_89 ?_
        refine z_iadd hC dX12_totalTo_90 ?_
        exact z_iret hC hr rfl dX12_totalTo_91 hf
set_option maxHeartbeats 4000000 in
set_option maxRecDepth 100000 in
theorem mX12_totalTo {D : va_G} {dA : Nat → ClassId} {ad : Nat → Nat}  (l : Launch) (hinj : ∀ i j, i < NM → j < NM → ad i = ad j → i = j) (sz : Nat) {K : Int → zSt → Prop} {σ : zSt} {x1 : Int} {x2 : Int} (hf : fX12_totalTo K σ x1 x2) : Met l yX12_totalTo (Cond.code yX12_totalTo cX12_totalTo 7 (some .int) :: UW) ({ frames := 3, cells := 0, slots := 0, locals := 67 } : Room) (va_Pc [vR ad 0, vI x1, vI x2] (zPre D vwCl (tyA dA) zX0 NM ad (celM ad dA) sz σ)) (va_Qi (zPi K) (zB D vwCl (tyA dA) NM ad (celM ad dA)) (zA ad NM sz)) 0 0 (zA ad NM sz) := by
  refine z_enter (cc := cX12_totalTo) (maxL := 7) (ret := (some .int)) (vs := [vR ad 0, vI x1, vI x2]) (plainFor_of_name (by decide)) rfl hinj (Nat.le_of_ble_eq_true rfl) ?_
  intro p e s m args below meth c hC hE hsz hr hnm
  show zAt p l e ({ frames := 3, cells := 0, slots := 0, locals := 67 } : Room) s m args below meth c 0 0 (MQ below (va_Qi (zPi K) (zB D vwCl (tyA dA) NM ad (celM ad dA)) (zA ad NM sz)) args s 0 0 (zA ad NM sz)) 7 D vwCl (zA ad NM sz) NM ad (celM ad dA) 0 [(0, vR ad 0), (1, vI x1), (2, vI x2)] [] σ
  refine z_aload_n hC dX12_totalTo_0 0 rfl rfl ?_
  refine z_iload_n hC dX12_totalTo_1 1 rfl rfl ?_
  refine z_callVi hC hE (oM_12 (show kM 0 = 12 by decide)) [vI x1] (fun sz2 => mX12_readings l hinj sz2 hf) (cwV 1 hC.1.2.2.2.2 (uV (uT _) u2120 u2122 u92 u118 u2123) rfl rfl rfl (by decide +kernel) ⟨Nat.le_of_ble_eq_true rfl, Nat.le_of_ble_eq_true rfl⟩) rfl rfl (Nat.le_of_ble_eq_true rfl) ⟨Nat.le_of_ble_eq_true rfl, Nat.le_of_ble_eq_true rfl⟩ dX12_totalTo_2 (fun r1 σ1 hf => ?_)
  obtain ⟨g2, hf⟩ := hf
  refine z_if_eq (tgt := 18) hC dX12_totalTo_5 (by decide) g2 (fun hc => ?_) (fun hc => ?_)
  · replace hf := hf.1 hc
    refine z_iconst hC dX12_totalTo_18 ?_
    exact z_iret hC hr rfl dX12_totalTo_19 hf
  · replace hf := hf.2 hc
    refine z_iload_n hC dX12_totalTo_8 2 rfl rfl ?_
    refine z_aload_n hC dX12_totalTo_9 0 rfl rfl ?_
    refine z_iload_n hC dX12_totalTo_10 1 rfl rfl ?_
    refine z_iconst hC dX12_totalTo_11 ?_
    refine z_callVi hC hE (oM_12 (show kM 0 = 12 by decide)) [vI x1, vI 0] (fun sz2 => mX12_readDay l hinj sz2 hf) (cwV 2 hC.1.2.2.2.2 (uV (uT _) u2132 u2134 u94 u118 u2135) rfl rfl rfl (by decide +kernel) ⟨Nat.le_of_ble_eq_true rfl, Nat.le_of_ble_eq_true rfl⟩) rfl rfl (Nat.le_of_ble_eq_true rfl) ⟨Nat.le_of_ble_eq_true rfl, Nat.le_of_ble_eq_true rfl⟩ dX12_totalTo_12 (fun r3 σ3 hf => ?_)
    obtain ⟨g4, hf⟩ := hf
    obtain ⟨g5, hf⟩ := hf
    refine z_icmp_ge (tgt := 20) hC dX12_totalTo_15 (by decide) g4 g5 (fun hc => ?_) (fun hc => ?_)
    · replace hf := hf.1 hc
      refine z_iconst hC dX12_totalTo_20 ?_
      refine z_istore_n hC ([(3, vI 0), (0, vR ad 0), (1, vI x1), (2, vI x2)]) dX12_totalTo_21 rfl (by decide) rfl ?_
      refine z_iconst hC dX12_totalTo_22 ?_
      refine z_istore hC ([(4, vI 0), (3, vI 0), (0, vR ad 0), (1, vI x1), (2, vI x2)]) dX12_totalTo_23 (by decide) rfl ?_
      refine z_sub (lv' := [(0, vR ad 0), (1, vI x1), (2, vI x2), (3, vI 0), (4, vI 0)]) [2, 3, 4, 1, 0] rfl ?_
      obtain ⟨n, hf⟩ := hf
      exact wX12_totalTo_B25 hC hE hr hinj n _ _ _ _ _ hf
    · replace hf := hf.2 hc
      refine z_iconst hC dX12_totalTo_18 ?_
      exact z_iret hC hr rfl dX12_totalTo_19 hf

-- ===== X12_meltTo
def fX12_meltTo (K : Int → zSt → Prop) (σ : zSt) (x1 : Int) (x2 : Int) : Prop :=
  fX12_isStake (fun r1 σ1 => fX12_fails (fun r2 σ2 => zrg r2 ∧ ((r2 = 0 → fX12_totalTo (fun r4 σ4 => K r4 σ4) σ2 x1 x2) ∧ (¬ r2 = 0 → K 0 σ2))) σ1 r1) σ x1
set_option maxHeartbeats 4000000 in
set_option maxRecDepth 100000 in
theorem mX12_meltTo {D : va_G} {dA : Nat → ClassId} {ad : Nat → Nat}  (l : Launch) (hinj : ∀ i j, i < NM → j < NM → ad i = ad j → i = j) (sz : Nat) {K : Int → zSt → Prop} {σ : zSt} {x1 : Int} {x2 : Int} (hf : fX12_meltTo K σ x1 x2) : Met l yX12_meltTo (Cond.code yX12_meltTo cX12_meltTo 3 (some .int) :: UW) ({ frames := 4, cells := 0, slots := 0, locals := 93 } : Room) (va_Pc [vR ad 0, vI x1, vI x2] (zPre D vwCl (tyA dA) zX0 NM ad (celM ad dA) sz σ)) (va_Qi (zPi K) (zB D vwCl (tyA dA) NM ad (celM ad dA)) (zA ad NM sz)) 0 0 (zA ad NM sz) := by
  refine z_enter (cc := cX12_meltTo) (maxL := 3) (ret := (some .int)) (vs := [vR ad 0, vI x1, vI x2]) (plainFor_of_name (by decide)) rfl hinj (Nat.le_of_ble_eq_true rfl) ?_
  intro p e s m args below meth c hC hE hsz hr hnm
  show zAt p l e ({ frames := 4, cells := 0, slots := 0, locals := 93 } : Room) s m args below meth c 0 0 (MQ below (va_Qi (zPi K) (zB D vwCl (tyA dA) NM ad (celM ad dA)) (zA ad NM sz)) args s 0 0 (zA ad NM sz)) 3 D vwCl (zA ad NM sz) NM ad (celM ad dA) 0 [(0, vR ad 0), (1, vI x1), (2, vI x2)] [] σ
  refine z_aload_n hC dX12_meltTo_0 0 rfl rfl ?_
  refine z_aload_n hC dX12_meltTo_1 0 rfl rfl ?_
  refine z_iload_n hC dX12_meltTo_2 1 rfl rfl ?_
  refine z_callVi hC hE (oM_12 (show kM 0 = 12 by decide)) [vI x1] (fun sz2 => mX12_isStake l hinj sz2 hf) (cwV 1 hC.1.2.2.2.2 (uV (uT _) u2116 u2118 u91 u118 u2119) rfl rfl rfl (by decide +kernel) ⟨Nat.le_of_ble_eq_true rfl, Nat.le_of_ble_eq_true rfl⟩) rfl rfl (Nat.le_of_ble_eq_true rfl) ⟨Nat.le_of_ble_eq_true rfl, Nat.le_of_ble_eq_true rfl⟩ dX12_meltTo_3 (fun r1 σ1 hf => ?_)
  refine z_callVi hC hE (oM_12 (show kM 0 = 12 by decide)) [vI r1] (fun sz2 => mX12_fails l hinj sz2 hf) (cwV 1 hC.1.2.2.2.2 (uV (uT _) u1833 u1835 u58 u118 u1836) rfl rfl rfl (by decide +kernel) ⟨Nat.le_of_ble_eq_true rfl, Nat.le_of_ble_eq_true rfl⟩) rfl rfl (Nat.le_of_ble_eq_true rfl) ⟨Nat.le_of_ble_eq_true rfl, Nat.le_of_ble_eq_true rfl⟩ dX12_meltTo_6 (fun r2 σ2 hf => ?_)
  obtain ⟨g3, hf⟩ := hf
  refine z_if_eq (tgt := 16) hC dX12_meltTo_9 (by decide) g3 (fun hc => ?_) (fun hc => ?_)
  · replace hf := hf.1 hc
    refine z_aload_n hC dX12_meltTo_16 0 rfl rfl ?_
    refine z_iload_n hC dX12_meltTo_17 1 rfl rfl ?_
    refine z_iload_n hC dX12_meltTo_18 2 rfl rfl ?_
    refine z_callVi hC hE (oM_12 (show kM 0 = 12 by decide)) [vI x1, vI x2] (fun sz2 => mX12_totalTo l hinj sz2 hf) (cwV 2 hC.1.2.2.2.2 (uV (uT _) u2168 u2170 u98 u118 u2171) rfl rfl rfl (by decide +kernel) ⟨Nat.le_of_ble_eq_true rfl, Nat.le_of_ble_eq_true rfl⟩) rfl rfl (Nat.le_of_ble_eq_true rfl) ⟨Nat.le_of_ble_eq_true rfl, Nat.le_of_ble_eq_true rfl⟩ dX12_meltTo_19 (fun r4 σ4 hf => ?_)
    exact z_iret hC hr rfl dX12_meltTo_22 hf
  · replace hf := hf.2 hc
    refine z_iconst hC dX12_meltTo_12 ?_
    refine z_goto (tgt := 22) hC dX12_meltTo_13 (by decide) ?_
    exact z_iret hC hr rfl dX12_meltTo_22 hf

-- ===== X12_meltBetween
def fX12_meltBetween (K : Int → zSt → Prop) (σ : zSt) (x1 : Int) (x2 : Int) (x3 : Int) : Prop :=
  fX12_totalTo (fun r1 σ1 => fX12_totalTo (fun r2 σ2 => zrg r1 ∧ ((r1 < 0 → K (-1) σ2) ∧ (¬ r1 < 0 → zrg r2 ∧ ((0 ≤ r2 → K (r2 - r1) σ2) ∧ (¬ 0 ≤ r2 → K (-1) σ2))))) σ1 x1 x3) σ x1 x2
set_option maxHeartbeats 4000000 in
set_option maxRecDepth 100000 in
theorem mX12_meltBetween {D : va_G} {dA : Nat → ClassId} {ad : Nat → Nat}  (l : Launch) (hinj : ∀ i j, i < NM → j < NM → ad i = ad j → i = j) (sz : Nat) {K : Int → zSt → Prop} {σ : zSt} {x1 : Int} {x2 : Int} {x3 : Int} (hf : fX12_meltBetween K σ x1 x2 x3) : Met l yX12_meltBetween (Cond.code yX12_meltBetween cX12_meltBetween 6 (some .int) :: UW) ({ frames := 4, cells := 0, slots := 0, locals := 93 } : Room) (va_Pc [vR ad 0, vI x1, vI x2, vI x3] (zPre D vwCl (tyA dA) zX0 NM ad (celM ad dA) sz σ)) (va_Qi (zPi K) (zB D vwCl (tyA dA) NM ad (celM ad dA)) (zA ad NM sz)) 0 0 (zA ad NM sz) := by
  refine z_enter (cc := cX12_meltBetween) (maxL := 6) (ret := (some .int)) (vs := [vR ad 0, vI x1, vI x2, vI x3]) (plainFor_of_name (by decide)) rfl hinj (Nat.le_of_ble_eq_true rfl) ?_
  intro p e s m args below meth c hC hE hsz hr hnm
  show zAt p l e ({ frames := 4, cells := 0, slots := 0, locals := 93 } : Room) s m args below meth c 0 0 (MQ below (va_Qi (zPi K) (zB D vwCl (tyA dA) NM ad (celM ad dA)) (zA ad NM sz)) args s 0 0 (zA ad NM sz)) 6 D vwCl (zA ad NM sz) NM ad (celM ad dA) 0 [(0, vR ad 0), (1, vI x1), (2, vI x2), (3, vI x3)] [] σ
  refine z_aload_n hC dX12_meltBetween_0 0 rfl rfl ?_
  refine z_iload_n hC dX12_meltBetween_1 1 rfl rfl ?_
  refine z_iload_n hC dX12_meltBetween_2 2 rfl rfl ?_
  refine z_callVi hC hE (oM_12 (show kM 0 = 12 by decide)) [vI x1, vI x2] (fun sz2 => mX12_totalTo l hinj sz2 hf) (cwV 2 hC.1.2.2.2.2 (uV (uT _) u2168 u2170 u98 u118 u2171) rfl rfl rfl (by decide +kernel) ⟨Nat.le_of_ble_eq_true rfl, Nat.le_of_ble_eq_true rfl⟩) rfl rfl (Nat.le_of_ble_eq_true rfl) ⟨Nat.le_of_ble_eq_true rfl, Nat.le_of_ble_eq_true rfl⟩ dX12_meltBetween_3 (fun r1 σ1 hf => ?_)
  refine z_istore hC ([(4, vI r1), (0, vR ad 0), (1, vI x1), (2, vI x2), (3, vI x3)]) dX12_meltBetween_6 (by decide) rfl ?_
  refine z_aload_n hC dX12_meltBetween_8 1 rfl rfl ?_
  refine z_iload_n hC dX12_meltBetween_9 2 rfl rfl ?_
  refine z_iload_n hC dX12_meltBetween_10 4 rfl rfl ?_
  refine z_callVi hC hE (oM_12 (show kM 0 = 12 by decide)) [vI x1, vI x3] (fun sz2 => mX12_totalTo l hinj sz2 hf) (cwV 2 hC.1.2.2.2.2 (uV (uT _) u2168 u2170 u98 u118 u2171) rfl rfl rfl (by decide +kernel) ⟨Nat.le_of_ble_eq_true rfl, Nat.le_of_ble_eq_true rfl⟩) rfl rfl (Nat.le_of_ble_eq_true rfl) ⟨Nat.le_of_ble_eq_true rfl, Nat.le_of_ble_eq_true rfl⟩ dX12_meltBetween_11 (fun r2 σ2 hf => ?_)
  refine z_istore hC ([(5, vI r2), (4, vI r1), (0, vR ad 0), (1, vI x1), (2, vI x2), (3, vI x3)]) dX12_meltBetween_14 (by decide) rfl ?_
  refine z_iload hC dX12_meltBetween_16 1 rfl ?_
  obtain ⟨g3, hf⟩ := hf
  refine z_if_lt (tgt := 26) hC dX12_meltBetween_18 (by decide) g3 (fun hc => ?_) (fun hc => ?_)
  · replace hf := hf.1 hc
    refine z_iconst hC dX12_meltBetween_26 ?_
    refine z_goto (tgt := 35) hC dX12_meltBetween_27 (by decide) ?_
    exact z_iret hC hr rfl dX12_meltBetween_35 hf
  · replace hf := hf.2 hc
    refine z_iload hC dX12_meltBetween_21 0 rfl ?_
    obtain ⟨g4, hf⟩ := hf
    refine z_if_ge (tgt := 30) hC dX12_meltBetween_23 (by decide) g4 (fun hc => ?_) (fun hc => ?_)
    · replace hf := hf.1 hc
      refine z_iload hC dX12_meltBetween_30 0 rfl ?_
      refine z_iload hC dX12_meltBetween_32 1 rfl ?_
      refine z_isub hC dX12_meltBetween_34 ?_
      exact z_iret hC hr rfl dX12_meltBetween_35 hf
    · replace hf := hf.2 hc
      refine z_iconst hC dX12_meltBetween_26 ?_
      refine z_goto (tgt := 35) hC dX12_meltBetween_27 (by decide) ?_
      exact z_iret hC hr rfl dX12_meltBetween_35 hf

-- ===== X12_melt
def fX12_melt (K : Int → zSt → Prop) (σ : zSt) (x1 : Int) (x2 : Int) (x3 : Int) : Prop :=
  fX12_isStake (fun r1 σ1 => fX12_fails (fun r2 σ2 => zrg r2 ∧ ((r2 = 0 → zrg x2 ∧ zrg x3 ∧ ((x2 ≤ x3 → fX12_meltBetween (fun r6 σ6 => K r6 σ6) σ2 x1 x2 x3) ∧ (¬ x2 ≤ x3 → K (-2) σ2))) ∧ (¬ r2 = 0 → K 0 σ2))) σ1 r1) σ x1
set_option maxHeartbeats 4000000 in
set_option maxRecDepth 100000 in
theorem mX12_melt {D : va_G} {dA : Nat → ClassId} {ad : Nat → Nat}  (l : Launch) (hinj : ∀ i j, i < NM → j < NM → ad i = ad j → i = j) (sz : Nat) {K : Int → zSt → Prop} {σ : zSt} {x1 : Int} {x2 : Int} {x3 : Int} (hf : fX12_melt K σ x1 x2 x3) : Met l yX12_melt (Cond.code yX12_melt cX12_melt 4 (some .int) :: UW) ({ frames := 5, cells := 0, slots := 0, locals := 118 } : Room) (va_Pc [vR ad 0, vI x1, vI x2, vI x3] (zPre D vwCl (tyA dA) zX0 NM ad (celM ad dA) sz σ)) (va_Qi (zPi K) (zB D vwCl (tyA dA) NM ad (celM ad dA)) (zA ad NM sz)) 0 0 (zA ad NM sz) := by
  refine z_enter (cc := cX12_melt) (maxL := 4) (ret := (some .int)) (vs := [vR ad 0, vI x1, vI x2, vI x3]) (plainFor_of_name (by decide)) rfl hinj (Nat.le_of_ble_eq_true rfl) ?_
  intro p e s m args below meth c hC hE hsz hr hnm
  show zAt p l e ({ frames := 5, cells := 0, slots := 0, locals := 118 } : Room) s m args below meth c 0 0 (MQ below (va_Qi (zPi K) (zB D vwCl (tyA dA) NM ad (celM ad dA)) (zA ad NM sz)) args s 0 0 (zA ad NM sz)) 4 D vwCl (zA ad NM sz) NM ad (celM ad dA) 0 [(0, vR ad 0), (1, vI x1), (2, vI x2), (3, vI x3)] [] σ
  refine z_aload_n hC dX12_melt_0 0 rfl rfl ?_
  refine z_aload_n hC dX12_melt_1 0 rfl rfl ?_
  refine z_iload_n hC dX12_melt_2 1 rfl rfl ?_
  refine z_callVi hC hE (oM_12 (show kM 0 = 12 by decide)) [vI x1] (fun sz2 => mX12_isStake l hinj sz2 hf) (cwV 1 hC.1.2.2.2.2 (uV (uT _) u2116 u2118 u91 u118 u2119) rfl rfl rfl (by decide +kernel) ⟨Nat.le_of_ble_eq_true rfl, Nat.le_of_ble_eq_true rfl⟩) rfl rfl (Nat.le_of_ble_eq_true rfl) ⟨Nat.le_of_ble_eq_true rfl, Nat.le_of_ble_eq_true rfl⟩ dX12_melt_3 (fun r1 σ1 hf => ?_)
  refine z_callVi hC hE (oM_12 (show kM 0 = 12 by decide)) [vI r1] (fun sz2 => mX12_fails l hinj sz2 hf) (cwV 1 hC.1.2.2.2.2 (uV (uT _) u1833 u1835 u58 u118 u1836) rfl rfl rfl (by decide +kernel) ⟨Nat.le_of_ble_eq_true rfl, Nat.le_of_ble_eq_true rfl⟩) rfl rfl (Nat.le_of_ble_eq_true rfl) ⟨Nat.le_of_ble_eq_true rfl, Nat.le_of_ble_eq_true rfl⟩ dX12_melt_6 (fun r2 σ2 hf => ?_)
  obtain ⟨g3, hf⟩ := hf
  refine z_if_eq (tgt := 14) hC dX12_melt_9 (by decide) g3 (fun hc => ?_) (fun hc => ?_)
  · replace hf := hf.1 hc
    refine z_iload_n hC dX12_melt_14 2 rfl rfl ?_
    refine z_iload_n hC dX12_melt_15 3 rfl rfl ?_
    obtain ⟨g4, hf⟩ := hf
    obtain ⟨g5, hf⟩ := hf
    refine z_icmp_le (tgt := 24) hC dX12_melt_16 (by decide) g4 g5 (fun hc => ?_) (fun hc => ?_)
    · replace hf := hf.1 hc
      refine z_aload_n hC dX12_melt_24 0 rfl rfl ?_
      refine z_iload_n hC dX12_melt_25 1 rfl rfl ?_
      refine z_iload_n hC dX12_melt_26 2 rfl rfl ?_
      refine z_iload_n hC dX12_melt_27 3 rfl rfl ?_
      refine z_callVi hC hE (oM_12 (show kM 0 = 12 by decide)) [vI x1, vI x2, vI x3] (fun sz2 => mX12_meltBetween l hinj sz2 hf) (cwV 3 hC.1.2.2.2.2 (uV (uT _) u2181 u2183 u100 u118 u2184) rfl rfl rfl (by decide +kernel) ⟨Nat.le_of_ble_eq_true rfl, Nat.le_of_ble_eq_true rfl⟩) rfl rfl (Nat.le_of_ble_eq_true rfl) ⟨Nat.le_of_ble_eq_true rfl, Nat.le_of_ble_eq_true rfl⟩ dX12_melt_28 (fun r6 σ6 hf => ?_)
      exact z_iret hC hr rfl dX12_melt_31 hf
    · replace hf := hf.2 hc
      refine z_bipush hC dX12_melt_19 (by decide) ?_
      refine z_goto (tgt := 31) hC dX12_melt_21 (by decide) ?_
      exact z_iret hC hr rfl dX12_melt_31 hf
  · replace hf := hf.2 hc
    refine z_iconst hC dX12_melt_12 ?_
    exact z_iret hC hr rfl dX12_melt_13 hf

-- ===== X12_meanMelt
noncomputable def fX12_meanMelt_B21 (K : Int → zSt → Prop) (n : Nat) : zSt → Int → Int → Int → Int → Int → Prop :=
  Nat.rec (motive := fun _ => zSt → Int → Int → Int → Int → Int → Prop) (fun _ _ _ _ _ _ => False) (fun _ ih σ x1 x2 x3 x4 x5 => zrg x5 ∧ zrg (σ 1 5) ∧ ((σ 1 5 ≤ x5 → zrg x3 ∧ ((x3 = 0 → K (-1) σ) ∧ (¬ x3 = 0 → zrg x4 ∧ ¬ x3 = 0 ∧ K (x4.tdiv x3) σ))) ∧ (¬ σ 1 5 ≤ x5 → fX12_meltBetween (fun r9 σ9 => zrg r9 ∧ ((0 ≤ r9 → ih σ9 x1 x2 (x3 + 1) (x4 + r9) (x5 + 1)) ∧ (¬ 0 ≤ r9 → ih σ9 x1 x2 x3 x4 (x5 + 1)))) σ x5 x1 x2))) n
theorem uX12_meanMelt_B21 (K : Int → zSt → Prop) (n0 : Nat) (σ : zSt) (x1 : Int) (x2 : Int) (x3 : Int) (x4 : Int) (x5 : Int) : fX12_meanMelt_B21 K (n0 + 1) σ x1 x2 x3 x4 x5 = (zrg x5 ∧ zrg (σ 1 5) ∧ ((σ 1 5 ≤ x5 → zrg x3 ∧ ((x3 = 0 → K (-1) σ) ∧ (¬ x3 = 0 → zrg x4 ∧ ¬ x3 = 0 ∧ K (x4.tdiv x3) σ))) ∧ (¬ σ 1 5 ≤ x5 → fX12_meltBetween (fun r9 σ9 => zrg r9 ∧ ((0 ≤ r9 → (fX12_meanMelt_B21 K n0) σ9 x1 x2 (x3 + 1) (x4 + r9) (x5 + 1)) ∧ (¬ 0 ≤ r9 → (fX12_meanMelt_B21 K n0) σ9 x1 x2 x3 x4 (x5 + 1)))) σ x5 x1 x2))) := rfl
def fX12_meanMelt (K : Int → zSt → Prop) (σ : zSt) (x1 : Int) (x2 : Int) : Prop :=
  ∀ σ1, σ1 = zu σ 0 4 0 → zrg x1 ∧ zrg x2 ∧ ((x1 ≤ x2 → (∃ n, fX12_meanMelt_B21 K n σ1 x1 x2 0 0 0)) ∧ (¬ x1 ≤ x2 → K (-2) σ1))
set_option maxHeartbeats 4000000 in
set_option maxRecDepth 100000 in
theorem wX12_meanMelt_B21 {p : Program} {l : Launch} {e : Env} {s : State} {m : MethodId} {args : Array Value} {below : List Frame} {meth : Method} {c : Code} {D : va_G} {dA : Nat → ClassId} {ad : Nat → Nat} {sz : Nat}  {K : Int → zSt → Prop} (hC : zC p m c cX12_meanMelt 7 s args (Cond.code yX12_meanMelt cX12_meanMelt 7 (some .int) :: UW) RX12 meth D vwCl (tyA dA) (zA ad NM sz) NM ad (celM ad dA)) (hE : zE zX0 (zA ad NM sz) s s.heap) (hr : meth.sig.returnType = (some .int)) (hinj : ∀ i j, i < NM → j < NM → ad i = ad j → i = j) : ∀ (n : Nat) (σ : zSt) (x1 : Int) (x2 : Int) (x3 : Int) (x4 : Int) (x5 : Int), fX12_meanMelt_B21 K n σ x1 x2 x3 x4 x5 → zAt p l e ({ frames := 5, cells := 0, slots := 0, locals := 118 } : Room) s m args below meth c 0 0 (MQ below (va_Qi (zPi K) (zB D vwCl (tyA dA) NM ad (celM ad dA)) (zA ad NM sz)) args s 0 0 (zA ad NM sz)) 7 D vwCl (zA ad NM sz) NM ad (celM ad dA) 21 [(0, vR ad 0), (1, vI x1), (2, vI x2), (3, vI x3), (4, vI x4), (5, vI x5)] [] σ := by
  intro n
  induction n with
  | zero => intro σ x1 x2 x3 x4 x5  hf; exact False.elim hf
  | succ n ih =>
    intro σ x1 x2 x3 x4 x5  hf
    rw [uX12_meanMelt_B21] at hf
    refine z_iload hC dX12_meanMelt_21 5 rfl ?_
    refine z_aload_n hC dX12_meanMelt_23 0 rfl rfl ?_
    refine z_get hC (fun w h => uT _ w (uL12 w h)) (oM_12 (show kM 0 = 12 by decide)) 0 (by decide) (uT _ _ u1545) rfl rfl dX12_meanMelt_24 ?_
    refine z_iconst hC dX12_meanMelt_27 ?_
    refine z_iaload hC (aM_30 (show kM 1 = 30 by decide)) ⟨by decide, by decide⟩ dX12_meanMelt_28 ?_
    obtain ⟨g4, hf⟩ := hf
    obtain ⟨g5, hf⟩ := hf
    refine z_icmp_ge (tgt := 66) hC dX12_meanMelt_29 (by decide) g4 g5 (fun hc => ?_) (fun hc => ?_)
    · replace hf := hf.1 hc
      refine z_iload_n hC dX12_meanMelt_66 3 rfl rfl ?_
      obtain ⟨g6, hf⟩ := hf
      refine z_if_ne (tgt := 74) hC dX12_meanMelt_67 (by decide) g6 (fun hc => ?_) (fun hc => ?_)
      · replace hf := hf.2 hc
        refine z_iload hC dX12_meanMelt_74 4 rfl ?_
        refine z_iload_n hC dX12_meanMelt_76 3 rfl rfl ?_
        obtain ⟨g7, hf⟩ := hf
        obtain ⟨g8, hf⟩ := hf
        refine z_idiv hC dX12_meanMelt_77 g7 g6 g8 ?_
        exact z_iret hC hr rfl dX12_meanMelt_78 hf
      · replace hf := hf.1 hc
        refine z_iconst hC dX12_meanMelt_70 ?_
        refine z_goto (tgt := 78) hC dX12_meanMelt_71 (by decide) ?_
        exact z_iret hC hr rfl dX12_meanMelt_78 hf
    · replace hf := hf.2 hc
      refine z_aload_n hC dX12_meanMelt_32 0 rfl rfl ?_
      refine z_iload hC dX12_meanMelt_33 5 rfl ?_
      refine z_iload_n hC dX12_meanMelt_35 1 rfl rfl ?_
      refine z_iload_n hC dX12_meanMelt_36 2 rfl rfl ?_
      refine z_callVi hC hE (oM_12 (show kM 0 = 12 by decide)) [vI x5, vI x1, vI x2] (fun sz2 => mX12_meltBetween l hinj sz2 hf) (cwV 3 hC.1.2.2.2.2 (uV (uT _) u2181 u2183 u100 u118 u2184) rfl rfl rfl (by decide +kernel) ⟨Nat.le_of_ble_eq_true rfl, Nat.le_of_ble_eq_true rfl⟩) rfl rfl (Nat.le_of_ble_eq_true rfl) ⟨Nat.le_of_ble_eq_true rfl, Nat.le_of_ble_eq_true rfl⟩ dX12_meanMelt_37 (fun r9 σ9 hf => ?_)
      refine z_istore hC ([(6, vI r9), (0, vR ad 0), (1, vI x1), (2, vI x2), (3, vI x3), (4, vI x4), (5, vI x5)]) dX12_meanMelt_40 (by decide) rfl ?_
      refine z_iload hC dX12_meanMelt_42 0 rfl ?_
      obtain ⟨g10, hf⟩ := hf
      refine z_if_ge (tgt := 50) hC dX12_meanMelt_44 (by decide) g10 (fun hc => ?_) (fun hc => ?_)
      · replace hf := hf.1 hc
        refine z_iinc hC ([(3, vI (x3 + 1)), (6, vI r9), (0, vR ad 0), (1, vI x1), (2, vI x2), (4, vI x4), (5, vI x5)]) dX12_meanMelt_50 4 rfl (by decide) rfl ?_
        refine z_iload hC dX12_meanMelt_53 5 rfl ?_
        refine z_iload hC dX12_meanMelt_55 1 rfl ?_
        refine z_iadd hC dX12_meanMelt_57 ?_
        refine z_istore hC ([(4, vI (x4 + r9)), (3, vI (x3 + 1)), (6, vI r9), (0, vR ad 0), (1, vI x1), (2, vI x2), (5, vI x5)]) dX12_meanMelt_58 (by decide) rfl ?_
        refine z_iinc hC ([(5, vI (x5 + 1)), (4, vI (x4 + r9)), (3, vI (x3 + 1)), (6, vI r9), (0, vR ad 0), (1, vI x1), (2, vI x2)]) dX12_meanMelt_60 6 rfl (by decide) rfl ?_
        refine z_goto (tgt := 21) hC dX12_meanMelt_63 (by decide) ?_
        refine z_sub (lv' := [(0, vR ad 0), (1, vI x1), (2, vI x2), (3, vI (x3 + 1)), (4, vI (x4 + r9)), (5, vI (x5 + 1))]) [4, 5, 6, 2, 1, 0] rfl ?_
        exact ih _ _ _ _ _ _ hf
      · replace hf := hf.2 hc
        refine z_goto (tgt := 60) hC dX12_meanMelt_47 (by decide) ?_
        refine z_iinc hC ([(5, vI (x5 + 1)), (6, vI r9), (0, vR ad 0), (1, vI x1), (2, vI x2), (3, vI x3), (4, vI x4)]) dX12_meanMelt_60 6 rfl (by decide) rfl ?_
        refine z_goto (tgt := 21) hC dX12_meanMelt_63 (by decide) ?_
        refine z_sub (lv' := [(0, vR ad 0), (1, vI x1), (2, vI x2), (3, vI x3), (4, vI x4), (5, vI (x5 + 1))]) [2, 3, 4, 5, 6, 0] rfl ?_
        exact ih _ _ _ _ _ _ hf
set_option maxHeartbeats 4000000 in
set_option maxRecDepth 100000 in
theorem mX12_meanMelt {D : va_G} {dA : Nat → ClassId} {ad : Nat → Nat}  (l : Launch) (hinj : ∀ i j, i < NM → j < NM → ad i = ad j → i = j) (sz : Nat) {K : Int → zSt → Prop} {σ : zSt} {x1 : Int} {x2 : Int} (hf : fX12_meanMelt K σ x1 x2) : Met l yX12_meanMelt (Cond.code yX12_meanMelt cX12_meanMelt 7 (some .int) :: UW) ({ frames := 5, cells := 0, slots := 0, locals := 118 } : Room) (va_Pc [vR ad 0, vI x1, vI x2] (zPre D vwCl (tyA dA) zX0 NM ad (celM ad dA) sz σ)) (va_Qi (zPi K) (zB D vwCl (tyA dA) NM ad (celM ad dA)) (zA ad NM sz)) 0 0 (zA ad NM sz) := by
  refine z_enter (cc := cX12_meanMelt) (maxL := 7) (ret := (some .int)) (vs := [vR ad 0, vI x1, vI x2]) (plainFor_of_name (by decide)) rfl hinj (Nat.le_of_ble_eq_true rfl) ?_
  intro p e s m args below meth c hC hE hsz hr hnm
  show zAt p l e ({ frames := 5, cells := 0, slots := 0, locals := 118 } : Room) s m args below meth c 0 0 (MQ below (va_Qi (zPi K) (zB D vwCl (tyA dA) NM ad (celM ad dA)) (zA ad NM sz)) args s 0 0 (zA ad NM sz)) 7 D vwCl (zA ad NM sz) NM ad (celM ad dA) 0 [(0, vR ad 0), (1, vI x1), (2, vI x2)] [] σ
  refine z_aload_n hC dX12_meanMelt_0 0 rfl rfl ?_
  refine z_iconst hC dX12_meanMelt_1 ?_
  refine z_put hC (ty := .int) tyX12 tyX12_ok nmX12 (fun w h => uT _ w (uL12 w h)) (oM_12 (show kM 0 = 12 by decide)) (loM' (show kM 0 = 12 by decide) (by decide)) 4 (by decide) (uT _ _ u1549) rfl rfl (4) (0) (by simp [zu]) (by decide +kernel) rfl rfl (Nat.le_of_ble_eq_true rfl) dX12_meanMelt_2 ?_
  obtain ⟨σ1, eσ1⟩ : ∃ z : zSt, z = zu σ 0 4 0 := ⟨_, rfl⟩
  rw [← eσ1]
  replace hf := hf σ1 eσ1
  refine z_iload_n hC dX12_meanMelt_5 1 rfl rfl ?_
  refine z_iload_n hC dX12_meanMelt_6 2 rfl rfl ?_
  obtain ⟨g2, hf⟩ := hf
  obtain ⟨g3, hf⟩ := hf
  refine z_icmp_le (tgt := 13) hC dX12_meanMelt_7 (by decide) g2 g3 (fun hc => ?_) (fun hc => ?_)
  · replace hf := hf.1 hc
    refine z_iconst hC dX12_meanMelt_13 ?_
    refine z_istore_n hC ([(3, vI 0), (0, vR ad 0), (1, vI x1), (2, vI x2)]) dX12_meanMelt_14 rfl (by decide) rfl ?_
    refine z_iconst hC dX12_meanMelt_15 ?_
    refine z_istore hC ([(4, vI 0), (3, vI 0), (0, vR ad 0), (1, vI x1), (2, vI x2)]) dX12_meanMelt_16 (by decide) rfl ?_
    refine z_iconst hC dX12_meanMelt_18 ?_
    refine z_istore hC ([(5, vI 0), (4, vI 0), (3, vI 0), (0, vR ad 0), (1, vI x1), (2, vI x2)]) dX12_meanMelt_19 (by decide) rfl ?_
    refine z_sub (lv' := [(0, vR ad 0), (1, vI x1), (2, vI x2), (3, vI 0), (4, vI 0), (5, vI 0)]) [3, 4, 5, 2, 1, 0] rfl ?_
    obtain ⟨n, hf⟩ := hf
    exact wX12_meanMelt_B21 hC hE hr hinj n _ _ _ _ _ _ hf
  · replace hf := hf.2 hc
    refine z_bipush hC dX12_meanMelt_10 (by decide) ?_
    exact z_iret hC hr rfl dX12_meanMelt_12 hf

-- ===== X12_daysOf
def fX12_daysOf (K : Int → zSt → Prop) (σ : zSt) (x1 : Int) (x2 : Int) : Prop :=
  fX12_readDay (fun r1 σ1 => fX12_readDay (fun r2 σ2 => K (r1 - r2) σ2) σ1 x1 x2) σ x1 (x2 + 1)
set_option maxHeartbeats 4000000 in
set_option maxRecDepth 100000 in
theorem mX12_daysOf {D : va_G} {dA : Nat → ClassId} {ad : Nat → Nat}  (l : Launch) (hinj : ∀ i j, i < NM → j < NM → ad i = ad j → i = j) (sz : Nat) {K : Int → zSt → Prop} {σ : zSt} {x1 : Int} {x2 : Int} (hf : fX12_daysOf K σ x1 x2) : Met l yX12_daysOf (Cond.code yX12_daysOf cX12_daysOf 3 (some .int) :: UW) ({ frames := 1, cells := 0, slots := 0, locals := 22 } : Room) (va_Pc [vR ad 0, vI x1, vI x2] (zPre D vwCl (tyA dA) zX0 NM ad (celM ad dA) sz σ)) (va_Qi (zPi K) (zB D vwCl (tyA dA) NM ad (celM ad dA)) (zA ad NM sz)) 0 0 (zA ad NM sz) := by
  refine z_enter (cc := cX12_daysOf) (maxL := 3) (ret := (some .int)) (vs := [vR ad 0, vI x1, vI x2]) (plainFor_of_name (by decide)) rfl hinj (Nat.le_of_ble_eq_true rfl) ?_
  intro p e s m args below meth c hC hE hsz hr hnm
  show zAt p l e ({ frames := 1, cells := 0, slots := 0, locals := 22 } : Room) s m args below meth c 0 0 (MQ below (va_Qi (zPi K) (zB D vwCl (tyA dA) NM ad (celM ad dA)) (zA ad NM sz)) args s 0 0 (zA ad NM sz)) 3 D vwCl (zA ad NM sz) NM ad (celM ad dA) 0 [(0, vR ad 0), (1, vI x1), (2, vI x2)] [] σ
  refine z_aload_n hC dX12_daysOf_0 0 rfl rfl ?_
  refine z_iload_n hC dX12_daysOf_1 1 rfl rfl ?_
  refine z_iload_n hC dX12_daysOf_2 2 rfl rfl ?_
  refine z_iconst hC dX12_daysOf_3 ?_
  refine z_iadd hC dX12_daysOf_4 ?_
  refine z_callVi hC hE (oM_12 (show kM 0 = 12 by decide)) [vI x1, vI (x2 + 1)] (fun sz2 => mX12_readDay l hinj sz2 hf) (cwV 2 hC.1.2.2.2.2 (uV (uT _) u2132 u2134 u94 u118 u2135) rfl rfl rfl (by decide +kernel) ⟨Nat.le_of_ble_eq_true rfl, Nat.le_of_ble_eq_true rfl⟩) rfl rfl (Nat.le_of_ble_eq_true rfl) ⟨Nat.le_of_ble_eq_true rfl, Nat.le_of_ble_eq_true rfl⟩ dX12_daysOf_5 (fun r1 σ1 hf => ?_)
  refine z_aload_n hC dX12_daysOf_8 0 rfl rfl ?_
  refine z_iload_n hC dX12_daysOf_9 1 rfl rfl ?_
  refine z_iload_n hC dX12_daysOf_10 2 rfl rfl ?_
  refine z_callVi hC hE (oM_12 (show kM 0 = 12 by decide)) [vI x1, vI x2] (fun sz2 => mX12_readDay l hinj sz2 hf) (cwV 2 hC.1.2.2.2.2 (uV (uT _) u2132 u2134 u94 u118 u2135) rfl rfl rfl (by decide +kernel) ⟨Nat.le_of_ble_eq_true rfl, Nat.le_of_ble_eq_true rfl⟩) rfl rfl (Nat.le_of_ble_eq_true rfl) ⟨Nat.le_of_ble_eq_true rfl, Nat.le_of_ble_eq_true rfl⟩ dX12_daysOf_11 (fun r2 σ2 hf => ?_)
  refine z_isub hC dX12_daysOf_14 ?_
  exact z_iret hC hr rfl dX12_daysOf_15 hf

-- ===== X12_warmestInterval
noncomputable def fX12_warmestInterval_B18 (K : Int → zSt → Prop) (n : Nat) : zSt → Int → Int → Int → Prop :=
  Nat.rec (motive := fun _ => zSt → Int → Int → Int → Prop) (fun _ _ _ _ => False) (fun _ ih σ x1 x2 x3 => fX12_readings (fun r4 σ4 => zrg (x3 + 1) ∧ zrg r4 ∧ ((r4 ≤ x3 + 1 → K x2 σ4) ∧ (¬ r4 ≤ x3 + 1 → zrg x2 ∧ ((x2 < 0 → ih σ4 x1 x3 (x3 + 1)) ∧ (¬ x2 < 0 → fX12_meltOf (fun r8 σ8 => zrg r8 ∧ fX12_daysOf (fun r10 σ10 => zrg r10 ∧ fX12_meltOf (fun r12 σ12 => zrg r12 ∧ fX12_daysOf (fun r14 σ14 => zrg r14 ∧ zrl (r8 * r10) ∧ zrl (r12 * r14) ∧ ((zcmp (r8 * r10) (r12 * r14) ≤ 0 → ih σ14 x1 x2 (x3 + 1)) ∧ (¬ zcmp (r8 * r10) (r12 * r14) ≤ 0 → ih σ14 x1 x3 (x3 + 1)))) σ12 x1 x3) σ10 x1 x2) σ8 x1 x2) σ4 x1 x3))))) σ x1) n
theorem uX12_warmestInterval_B18 (K : Int → zSt → Prop) (n0 : Nat) (σ : zSt) (x1 : Int) (x2 : Int) (x3 : Int) : fX12_warmestInterval_B18 K (n0 + 1) σ x1 x2 x3 = (fX12_readings (fun r4 σ4 => zrg (x3 + 1) ∧ zrg r4 ∧ ((r4 ≤ x3 + 1 → K x2 σ4) ∧ (¬ r4 ≤ x3 + 1 → zrg x2 ∧ ((x2 < 0 → (fX12_warmestInterval_B18 K n0) σ4 x1 x3 (x3 + 1)) ∧ (¬ x2 < 0 → fX12_meltOf (fun r8 σ8 => zrg r8 ∧ fX12_daysOf (fun r10 σ10 => zrg r10 ∧ fX12_meltOf (fun r12 σ12 => zrg r12 ∧ fX12_daysOf (fun r14 σ14 => zrg r14 ∧ zrl (r8 * r10) ∧ zrl (r12 * r14) ∧ ((zcmp (r8 * r10) (r12 * r14) ≤ 0 → (fX12_warmestInterval_B18 K n0) σ14 x1 x2 (x3 + 1)) ∧ (¬ zcmp (r8 * r10) (r12 * r14) ≤ 0 → (fX12_warmestInterval_B18 K n0) σ14 x1 x3 (x3 + 1)))) σ12 x1 x3) σ10 x1 x2) σ8 x1 x2) σ4 x1 x3))))) σ x1) := rfl
def fX12_warmestInterval (K : Int → zSt → Prop) (σ : zSt) (x1 : Int) : Prop :=
  fX12_isStake (fun r1 σ1 => fX12_fails (fun r2 σ2 => zrg r2 ∧ ((r2 = 0 → (∃ n, fX12_warmestInterval_B18 K n σ2 x1 (-1) 0)) ∧ (¬ r2 = 0 → K 0 σ2))) σ1 r1) σ x1
set_option maxHeartbeats 4000000 in
set_option maxRecDepth 100000 in
theorem wX12_warmestInterval_B18 {p : Program} {l : Launch} {e : Env} {s : State} {m : MethodId} {args : Array Value} {below : List Frame} {meth : Method} {c : Code} {D : va_G} {dA : Nat → ClassId} {ad : Nat → Nat} {sz : Nat}  {K : Int → zSt → Prop} (hC : zC p m c cX12_warmestInterval 4 s args (Cond.code yX12_warmestInterval cX12_warmestInterval 4 (some .int) :: UW) RX12 meth D vwCl (tyA dA) (zA ad NM sz) NM ad (celM ad dA)) (hE : zE zX0 (zA ad NM sz) s s.heap) (hr : meth.sig.returnType = (some .int)) (hinj : ∀ i j, i < NM → j < NM → ad i = ad j → i = j) : ∀ (n : Nat) (σ : zSt) (x1 : Int) (x2 : Int) (x3 : Int), fX12_warmestInterval_B18 K n σ x1 x2 x3 → zAt p l e ({ frames := 3, cells := 0, slots := 0, locals := 67 } : Room) s m args below meth c 0 0 (MQ below (va_Qi (zPi K) (zB D vwCl (tyA dA) NM ad (celM ad dA)) (zA ad NM sz)) args s 0 0 (zA ad NM sz)) 4 D vwCl (zA ad NM sz) NM ad (celM ad dA) 18 [(0, vR ad 0), (1, vI x1), (2, vI x2), (3, vI x3)] [] σ := by
  intro n
  induction n with
  | zero => intro σ x1 x2 x3  hf; exact False.elim hf
  | succ n ih =>
    intro σ x1 x2 x3  hf
    rw [uX12_warmestInterval_B18] at hf
    refine z_iload_n hC dX12_warmestInterval_18 3 rfl rfl ?_
    refine z_iconst hC dX12_warmestInterval_19 ?_
    refine z_iadd hC dX12_warmestInterval_20 ?_
    refine z_aload_n hC dX12_warmestInterval_21 0 rfl rfl ?_
    refine z_iload_n hC dX12_warmestInterval_22 1 rfl rfl ?_
    refine z_callVi hC hE (oM_12 (show kM 0 = 12 by decide)) [vI x1] (fun sz2 => mX12_readings l hinj sz2 hf) (cwV 1 hC.1.2.2.2.2 (uV (uT _) u2120 u2122 u92 u118 u2123) rfl rfl rfl (by decide +kernel) ⟨Nat.le_of_ble_eq_true rfl, Nat.le_of_ble_eq_true rfl⟩) rfl rfl (Nat.le_of_ble_eq_true rfl) ⟨Nat.le_of_ble_eq_true rfl, Nat.le_of_ble_eq_true rfl⟩ dX12_warmestInterval_23 (fun r4 σ4 hf => ?_)
    obtain ⟨g5, hf⟩ := hf
    obtain ⟨g6, hf⟩ := hf
    refine z_icmp_ge (tgt := 75) hC dX12_warmestInterval_26 (by decide) g5 g6 (fun hc => ?_) (fun hc => ?_)
    · replace hf := hf.1 hc
      refine z_iload_n hC dX12_warmestInterval_75 2 rfl rfl ?_
      exact z_iret hC hr rfl dX12_warmestInterval_76 hf
    · replace hf := hf.2 hc
      refine z_iload_n hC dX12_warmestInterval_29 2 rfl rfl ?_
      obtain ⟨g7, hf⟩ := hf
      refine z_if_lt (tgt := 67) hC dX12_warmestInterval_30 (by decide) g7 (fun hc => ?_) (fun hc => ?_)
      · replace hf := hf.1 hc
        refine z_iload_n hC dX12_warmestInterval_67 3 rfl rfl ?_
        refine z_istore_n hC ([(2, vI x3), (0, vR ad 0), (1, vI x1), (3, vI x3)]) dX12_warmestInterval_68 rfl (by decide) rfl ?_
        refine z_iinc hC ([(3, vI (x3 + 1)), (2, vI x3), (0, vR ad 0), (1, vI x1)]) dX12_warmestInterval_69 3 rfl (by decide) rfl ?_
        refine z_goto (tgt := 18) hC dX12_warmestInterval_72 (by decide) ?_
        refine z_sub (lv' := [(0, vR ad 0), (1, vI x1), (2, vI x3), (3, vI (x3 + 1))]) [2, 3, 1, 0] rfl ?_
        exact ih _ _ _ _ hf
      · replace hf := hf.2 hc
        refine z_aload_n hC dX12_warmestInterval_33 0 rfl rfl ?_
        refine z_iload_n hC dX12_warmestInterval_34 1 rfl rfl ?_
        refine z_iload_n hC dX12_warmestInterval_35 3 rfl rfl ?_
        refine z_callVi hC hE (oM_12 (show kM 0 = 12 by decide)) [vI x1, vI x3] (fun sz2 => mX12_meltOf l hinj sz2 hf) (cwV 2 hC.1.2.2.2.2 (uV (uT _) u2173 u2175 u99 u118 u2176) rfl rfl rfl (by decide +kernel) ⟨Nat.le_of_ble_eq_true rfl, Nat.le_of_ble_eq_true rfl⟩) rfl rfl (Nat.le_of_ble_eq_true rfl) ⟨Nat.le_of_ble_eq_true rfl, Nat.le_of_ble_eq_true rfl⟩ dX12_warmestInterval_36 (fun r8 σ8 hf => ?_)
        obtain ⟨g9, hf⟩ := hf
        refine z_i2l hC dX12_warmestInterval_39 g9 ?_
        refine z_aload_n hC dX12_warmestInterval_40 0 rfl rfl ?_
        refine z_iload_n hC dX12_warmestInterval_41 1 rfl rfl ?_
        refine z_iload_n hC dX12_warmestInterval_42 2 rfl rfl ?_
        refine z_callVi hC hE (oM_12 (show kM 0 = 12 by decide)) [vI x1, vI x2] (fun sz2 => mX12_daysOf l hinj sz2 hf) (cwV 2 hC.1.2.2.2.2 (uV (uT _) u2193 u2195 u101 u118 u2196) rfl rfl rfl (by decide +kernel) ⟨Nat.le_of_ble_eq_true rfl, Nat.le_of_ble_eq_true rfl⟩) rfl rfl (Nat.le_of_ble_eq_true rfl) ⟨Nat.le_of_ble_eq_true rfl, Nat.le_of_ble_eq_true rfl⟩ dX12_warmestInterval_43 (fun r10 σ10 hf => ?_)
        obtain ⟨g11, hf⟩ := hf
        refine z_i2l hC dX12_warmestInterval_46 g11 ?_
        refine z_lmul hC dX12_warmestInterval_47 ?_
        refine z_aload_n hC dX12_warmestInterval_48 0 rfl rfl ?_
        refine z_iload_n hC dX12_warmestInterval_49 1 rfl rfl ?_
        refine z_iload_n hC dX12_warmestInterval_50 2 rfl rfl ?_
        refine z_callVi hC hE (oM_12 (show kM 0 = 12 by decide)) [vI x1, vI x2] (fun sz2 => mX12_meltOf l hinj sz2 hf) (cwV 2 hC.1.2.2.2.2 (uV (uT _) u2173 u2175 u99 u118 u2176) rfl rfl rfl (by decide +kernel) ⟨Nat.le_of_ble_eq_true rfl, Nat.le_of_ble_eq_true rfl⟩) rfl rfl (Nat.le_of_ble_eq_true rfl) ⟨Nat.le_of_ble_eq_true rfl, Nat.le_of_ble_eq_true rfl⟩ dX12_warmestInterval_51 (fun r12 σ12 hf => ?_)
        obtain ⟨g13, hf⟩ := hf
        refine z_i2l hC dX12_warmestInterval_54 g13 ?_
        refine z_aload_n hC dX12_warmestInterval_55 0 rfl rfl ?_
        refine z_iload_n hC dX12_warmestInterval_56 1 rfl rfl ?_
        refine z_iload_n hC dX12_warmestInterval_57 3 rfl rfl ?_
        refine z_callVi hC hE (oM_12 (show kM 0 = 12 by decide)) [vI x1, vI x3] (fun sz2 => mX12_daysOf l hinj sz2 hf) (cwV 2 hC.1.2.2.2.2 (uV (uT _) u2193 u2195 u101 u118 u2196) rfl rfl rfl (by decide +kernel) ⟨Nat.le_of_ble_eq_true rfl, Nat.le_of_ble_eq_true rfl⟩) rfl rfl (Nat.le_of_ble_eq_true rfl) ⟨Nat.le_of_ble_eq_true rfl, Nat.le_of_ble_eq_true rfl⟩ dX12_warmestInterval_58 (fun r14 σ14 hf => ?_)
        obtain ⟨g15, hf⟩ := hf
        refine z_i2l hC dX12_warmestInterval_61 g15 ?_
        refine z_lmul hC dX12_warmestInterval_62 ?_
        obtain ⟨g16, hf⟩ := hf
        obtain ⟨g17, hf⟩ := hf
        refine z_lcmp hC g16 g17 dX12_warmestInterval_63 ?_
        refine z_if_le (tgt := 69) hC dX12_warmestInterval_64 (by decide) (zcmp_rg _ _) (fun hc => ?_) (fun hc => ?_)
        · replace hf := hf.1 hc
          refine z_iinc hC ([(3, vI (x3 + 1)), (0, vR ad 0), (1, vI x1), (2, vI x2)]) dX12_warmestInterval_69 3 rfl (by decide) rfl ?_
          refine z_goto (tgt := 18) hC dX12_warmestInterval_72 (by decide) ?_
          refine z_sub (lv' := [(0, vR ad 0), (1, vI x1), (2, vI x2), (3, vI (x3 + 1))]) [1, 2, 3, 0] rfl ?_
          exact ih _ _ _ _ hf
        · replace hf := hf.2 hc
          refine z_iload_n hC dX12_warmestInterval_67 3 rfl rfl ?_
          refine z_istore_n hC ([(2, vI x3), (0, vR ad 0), (1, vI x1), (3, vI x3)]) dX12_warmestInterval_68 rfl (by decide) rfl ?_
          refine z_iinc hC ([(3, vI (x3 + 1)), (2, vI x3), (0, vR ad 0), (1, vI x1)]) dX12_warmestInterval_69 3 rfl (by decide) rfl ?_
          refine z_goto (tgt := 18) hC dX12_warmestInterval_72 (by decide) ?_
          refine z_sub (lv' := [(0, vR ad 0), (1, vI x1), (2, vI x3), (3, vI (x3 + 1))]) [2, 3, 1, 0] rfl ?_
          exact ih _ _ _ _ hf
set_option maxHeartbeats 4000000 in
set_option maxRecDepth 100000 in
theorem mX12_warmestInterval {D : va_G} {dA : Nat → ClassId} {ad : Nat → Nat}  (l : Launch) (hinj : ∀ i j, i < NM → j < NM → ad i = ad j → i = j) (sz : Nat) {K : Int → zSt → Prop} {σ : zSt} {x1 : Int} (hf : fX12_warmestInterval K σ x1) : Met l yX12_warmestInterval (Cond.code yX12_warmestInterval cX12_warmestInterval 4 (some .int) :: UW) ({ frames := 3, cells := 0, slots := 0, locals := 67 } : Room) (va_Pc [vR ad 0, vI x1] (zPre D vwCl (tyA dA) zX0 NM ad (celM ad dA) sz σ)) (va_Qi (zPi K) (zB D vwCl (tyA dA) NM ad (celM ad dA)) (zA ad NM sz)) 0 0 (zA ad NM sz) := by
  refine z_enter (cc := cX12_warmestInterval) (maxL := 4) (ret := (some .int)) (vs := [vR ad 0, vI x1]) (plainFor_of_name (by decide)) rfl hinj (Nat.le_of_ble_eq_true rfl) ?_
  intro p e s m args below meth c hC hE hsz hr hnm
  show zAt p l e ({ frames := 3, cells := 0, slots := 0, locals := 67 } : Room) s m args below meth c 0 0 (MQ below (va_Qi (zPi K) (zB D vwCl (tyA dA) NM ad (celM ad dA)) (zA ad NM sz)) args s 0 0 (zA ad NM sz)) 4 D vwCl (zA ad NM sz) NM ad (celM ad dA) 0 [(0, vR ad 0), (1, vI x1)] [] σ
  refine z_aload_n hC dX12_warmestInterval_0 0 rfl rfl ?_
  refine z_aload_n hC dX12_warmestInterval_1 0 rfl rfl ?_
  refine z_iload_n hC dX12_warmestInterval_2 1 rfl rfl ?_
  refine z_callVi hC hE (oM_12 (show kM 0 = 12 by decide)) [vI x1] (fun sz2 => mX12_isStake l hinj sz2 hf) (cwV 1 hC.1.2.2.2.2 (uV (uT _) u2116 u2118 u91 u118 u2119) rfl rfl rfl (by decide +kernel) ⟨Nat.le_of_ble_eq_true rfl, Nat.le_of_ble_eq_true rfl⟩) rfl rfl (Nat.le_of_ble_eq_true rfl) ⟨Nat.le_of_ble_eq_true rfl, Nat.le_of_ble_eq_true rfl⟩ dX12_warmestInterval_3 (fun r1 σ1 hf => ?_)
  refine z_callVi hC hE (oM_12 (show kM 0 = 12 by decide)) [vI r1] (fun sz2 => mX12_fails l hinj sz2 hf) (cwV 1 hC.1.2.2.2.2 (uV (uT _) u1833 u1835 u58 u118 u1836) rfl rfl rfl (by decide +kernel) ⟨Nat.le_of_ble_eq_true rfl, Nat.le_of_ble_eq_true rfl⟩) rfl rfl (Nat.le_of_ble_eq_true rfl) ⟨Nat.le_of_ble_eq_true rfl, Nat.le_of_ble_eq_true rfl⟩ dX12_warmestInterval_6 (fun r2 σ2 hf => ?_)
  obtain ⟨g3, hf⟩ := hf
  refine z_if_eq (tgt := 14) hC dX12_warmestInterval_9 (by decide) g3 (fun hc => ?_) (fun hc => ?_)
  · replace hf := hf.1 hc
    refine z_iconst hC dX12_warmestInterval_14 ?_
    refine z_istore_n hC ([(2, vI (-1)), (0, vR ad 0), (1, vI x1)]) dX12_warmestInterval_15 rfl (by decide) rfl ?_
    refine z_iconst hC dX12_warmestInterval_16 ?_
    refine z_istore_n hC ([(3, vI 0), (2, vI (-1)), (0, vR ad 0), (1, vI x1)]) dX12_warmestInterval_17 rfl (by decide) rfl ?_
    refine z_sub (lv' := [(0, vR ad 0), (1, vI x1), (2, vI (-1)), (3, vI 0)]) [2, 3, 1, 0] rfl ?_
    obtain ⟨n, hf⟩ := hf
    exact wX12_warmestInterval_B18 hC hE hr hinj n _ _ _ _ hf
  · replace hf := hf.2 hc
    refine z_iconst hC dX12_warmestInterval_12 ?_
    exact z_iret hC hr rfl dX12_warmestInterval_13 hf

-- ===== X12_registeredAt
def fX12_registeredAt (K : Int → zSt → Prop) (σ : zSt) (x1 : Int) (x2 : Int) (x3 : Int) : Prop :=
  (0 ≤ x1 ∧ x1 < 6) ∧ zrg (σ 5 x1) ∧ ((σ 5 x1 = 0 → K (-1) σ) ∧ (¬ σ 5 x1 = 0 → fX12_isPixel (fun r3 σ3 => zrg r3 ∧ ((r3 = 0 → K (-1) σ3) ∧ (¬ r3 = 0 → fX12_brightness (fun r5 σ5 => K r5 σ5) σ3 x1 (x2 + (σ 6 x1)) (x3 + (σ 7 x1))))) σ (x2 + (σ 6 x1)) (x3 + (σ 7 x1))))
set_option maxHeartbeats 4000000 in
set_option maxRecDepth 100000 in
theorem mX12_registeredAt {D : va_G} {dA : Nat → ClassId} {ad : Nat → Nat}  (l : Launch) (hinj : ∀ i j, i < NM → j < NM → ad i = ad j → i = j) (sz : Nat) {K : Int → zSt → Prop} {σ : zSt} {x1 : Int} {x2 : Int} {x3 : Int} (hf : fX12_registeredAt K σ x1 x2 x3) : Met l yX12_registeredAt (Cond.code yX12_registeredAt cX12_registeredAt 6 (some .int) :: UW) ({ frames := 2, cells := 0, slots := 0, locals := 44 } : Room) (va_Pc [vR ad 0, vI x1, vI x2, vI x3] (zPre D vwCl (tyA dA) zX0 NM ad (celM ad dA) sz σ)) (va_Qi (zPi K) (zB D vwCl (tyA dA) NM ad (celM ad dA)) (zA ad NM sz)) 0 0 (zA ad NM sz) := by
  refine z_enter (cc := cX12_registeredAt) (maxL := 6) (ret := (some .int)) (vs := [vR ad 0, vI x1, vI x2, vI x3]) (plainFor_of_name (by decide)) rfl hinj (Nat.le_of_ble_eq_true rfl) ?_
  intro p e s m args below meth c hC hE hsz hr hnm
  show zAt p l e ({ frames := 2, cells := 0, slots := 0, locals := 44 } : Room) s m args below meth c 0 0 (MQ below (va_Qi (zPi K) (zB D vwCl (tyA dA) NM ad (celM ad dA)) (zA ad NM sz)) args s 0 0 (zA ad NM sz)) 6 D vwCl (zA ad NM sz) NM ad (celM ad dA) 0 [(0, vR ad 0), (1, vI x1), (2, vI x2), (3, vI x3)] [] σ
  refine z_iload_n hC dX12_registeredAt_0 2 rfl rfl ?_
  refine z_aload_n hC dX12_registeredAt_1 0 rfl rfl ?_
  refine z_get hC (fun w h => uT _ w (uL12 w h)) (oM_12 (show kM 0 = 12 by decide)) 19 (by decide) (uT _ _ u1564) rfl rfl dX12_registeredAt_2 ?_
  refine z_iload_n hC dX12_registeredAt_5 1 rfl rfl ?_
  obtain ⟨g1, hf⟩ := hf
  refine z_iaload hC (aM_34 (show kM 6 = 34 by decide)) g1 dX12_registeredAt_6 ?_
  refine z_iadd hC dX12_registeredAt_7 ?_
  refine z_istore hC ([(4, vI (x2 + (σ 6 x1))), (0, vR ad 0), (1, vI x1), (2, vI x2), (3, vI x3)]) dX12_registeredAt_8 (by decide) rfl ?_
  refine z_iload_n hC dX12_registeredAt_10 4 rfl rfl ?_
  refine z_aload_n hC dX12_registeredAt_11 1 rfl rfl ?_
  refine z_get hC (fun w h => uT _ w (uL12 w h)) (oM_12 (show kM 0 = 12 by decide)) 20 (by decide) (uT _ _ u1565) rfl rfl dX12_registeredAt_12 ?_
  refine z_iload_n hC dX12_registeredAt_15 2 rfl rfl ?_
  refine z_iaload hC (aM_34 (show kM 7 = 34 by decide)) g1 dX12_registeredAt_16 ?_
  refine z_iadd hC dX12_registeredAt_17 ?_
  refine z_istore hC ([(5, vI (x3 + (σ 7 x1))), (4, vI (x2 + (σ 6 x1))), (0, vR ad 0), (1, vI x1), (2, vI x2), (3, vI x3)]) dX12_registeredAt_18 (by decide) rfl ?_
  refine z_aload_n hC dX12_registeredAt_20 2 rfl rfl ?_
  refine z_get hC (fun w h => uT _ w (uL12 w h)) (oM_12 (show kM 0 = 12 by decide)) 18 (by decide) (uT _ _ u1563) rfl rfl dX12_registeredAt_21 ?_
  refine z_iload_n hC dX12_registeredAt_24 3 rfl rfl ?_
  refine z_zaload hC (aM_33 (show kM 5 = 33 by decide)) g1 dX12_registeredAt_25 ?_
  obtain ⟨g2, hf⟩ := hf
  refine z_if_eq (tgt := 52) hC dX12_registeredAt_26 (by decide) g2 (fun hc => ?_) (fun hc => ?_)
  · replace hf := hf.1 hc
    refine z_iconst hC dX12_registeredAt_52 ?_
    exact z_iret hC hr rfl dX12_registeredAt_53 hf
  · replace hf := hf.2 hc
    refine z_aload_n hC dX12_registeredAt_29 2 rfl rfl ?_
    refine z_iload hC dX12_registeredAt_30 1 rfl ?_
    refine z_iload hC dX12_registeredAt_32 0 rfl ?_
    refine z_callVi hC hE (oM_12 (show kM 0 = 12 by decide)) [vI (x2 + (σ 6 x1)), vI (x3 + (σ 7 x1))] (fun sz2 => mX12_isPixel l hinj sz2 hf) (cwV 2 hC.1.2.2.2.2 (uV (uT _) u1845 u1847 u60 u118 u1848) rfl rfl rfl (by decide +kernel) ⟨Nat.le_of_ble_eq_true rfl, Nat.le_of_ble_eq_true rfl⟩) rfl rfl (Nat.le_of_ble_eq_true rfl) ⟨Nat.le_of_ble_eq_true rfl, Nat.le_of_ble_eq_true rfl⟩ dX12_registeredAt_34 (fun r3 σ3 hf => ?_)
    obtain ⟨g4, hf⟩ := hf
    refine z_if_eq (tgt := 52) hC dX12_registeredAt_37 (by decide) g4 (fun hc => ?_) (fun hc => ?_)
    · replace hf := hf.1 hc
      refine z_iconst hC dX12_registeredAt_52 ?_
      exact z_iret hC hr rfl dX12_registeredAt_53 hf
    · replace hf := hf.2 hc
      refine z_aload_n hC dX12_registeredAt_40 2 rfl rfl ?_
      refine z_iload_n hC dX12_registeredAt_41 3 rfl rfl ?_
      refine z_iload hC dX12_registeredAt_42 1 rfl ?_
      refine z_iload hC dX12_registeredAt_44 0 rfl ?_
      refine z_callVi hC hE (oM_12 (show kM 0 = 12 by decide)) [vI x1, vI (x2 + (σ 6 x1)), vI (x3 + (σ 7 x1))] (fun sz2 => mX12_brightness l hinj sz2 hf) (cwV 3 hC.1.2.2.2.2 (uV (uT _) u1849 u1851 u61 u118 u1852) rfl rfl rfl (by decide +kernel) ⟨Nat.le_of_ble_eq_true rfl, Nat.le_of_ble_eq_true rfl⟩) rfl rfl (Nat.le_of_ble_eq_true rfl) ⟨Nat.le_of_ble_eq_true rfl, Nat.le_of_ble_eq_true rfl⟩ dX12_registeredAt_46 (fun r5 σ5 hf => ?_)
      refine z_goto (tgt := 53) hC dX12_registeredAt_49 (by decide) ?_
      exact z_iret hC hr rfl dX12_registeredAt_53 hf

-- ===== X12_registered
def fX12_registered_B27 (K : Int → zSt → Prop) (σ : zSt) (x1 : Int) (x2 : Int) (x3 : Int) (s0 : Int) : Prop :=
  fX12_fails (fun r6 σ6 => zrg r6 ∧ ((r6 = 0 → fX12_registeredAt (fun r8 σ8 => K r8 σ8) σ6 x1 x2 x3) ∧ (¬ r6 = 0 → K 0 σ6))) σ s0
def fX12_registered_B26 (K : Int → zSt → Prop) (σ : zSt) (x1 : Int) (x2 : Int) (x3 : Int) : Prop :=
  fX12_registered_B27 K σ x1 x2 x3 0
def fX12_registered (K : Int → zSt → Prop) (σ : zSt) (x1 : Int) (x2 : Int) (x3 : Int) : Prop :=
  fX12_orient (fun σ1 => fX12_isFrame (fun r2 σ2 => zrg r2 ∧ ((r2 = 0 → fX12_registered_B26 K σ2 x1 x2 x3) ∧ (¬ r2 = 0 → fX12_isPixel (fun r4 σ4 => zrg r4 ∧ ((r4 = 0 → fX12_registered_B26 K σ4 x1 x2 x3) ∧ (¬ r4 = 0 → fX12_registered_B27 K σ4 x1 x2 x3 1))) σ2 x2 x3))) σ1 x1) σ 
set_option maxHeartbeats 4000000 in
set_option maxRecDepth 100000 in
theorem wX12_registered_B27 {p : Program} {l : Launch} {e : Env} {s : State} {m : MethodId} {args : Array Value} {below : List Frame} {meth : Method} {c : Code} {D : va_G} {dA : Nat → ClassId} {ad : Nat → Nat} {sz : Nat}  {K : Int → zSt → Prop} (hC : zC p m c cX12_registered 4 s args (Cond.code yX12_registered cX12_registered 4 (some .int) :: UW) RX12 meth D vwCl (tyA dA) (zA ad NM sz) NM ad (celM ad dA)) (hE : zE zX0 (zA ad NM sz) s s.heap) (hr : meth.sig.returnType = (some .int)) (hinj : ∀ i j, i < NM → j < NM → ad i = ad j → i = j) {σ : zSt} {x1 : Int} {x2 : Int} {x3 : Int} {s0 : Int} (hf : fX12_registered_B27 K σ x1 x2 x3 s0) : zAt p l e ({ frames := 5, cells := 0, slots := 0, locals := 128 } : Room) s m args below meth c 0 0 (MQ below (va_Qi (zPi K) (zB D vwCl (tyA dA) NM ad (celM ad dA)) (zA ad NM sz)) args s 0 0 (zA ad NM sz)) 4 D vwCl (zA ad NM sz) NM ad (celM ad dA) 27 [(0, vR ad 0), (1, vI x1), (2, vI x2), (3, vI x3)] [vI s0, vR ad 0] σ := by
  refine z_callVi hC hE (oM_12 (show kM 0 = 12 by decide)) [vI s0] (fun sz2 => mX12_fails l hinj sz2 hf) (cwV 1 hC.1.2.2.2.2 (uV (uT _) u1833 u1835 u58 u118 u1836) rfl rfl rfl (by decide +kernel) ⟨Nat.le_of_ble_eq_true rfl, Nat.le_of_ble_eq_true rfl⟩) rfl rfl (Nat.le_of_ble_eq_true rfl) ⟨Nat.le_of_ble_eq_true rfl, Nat.le_of_ble_eq_true rfl⟩ dX12_registered_27 (fun r6 σ6 hf => ?_)
  obtain ⟨g7, hf⟩ := hf
  refine z_if_eq (tgt := 37) hC dX12_registered_30 (by decide) g7 (fun hc => ?_) (fun hc => ?_)
  · replace hf := hf.1 hc
    refine z_aload_n hC dX12_registered_37 0 rfl rfl ?_
    refine z_iload_n hC dX12_registered_38 1 rfl rfl ?_
    refine z_iload_n hC dX12_registered_39 2 rfl rfl ?_
    refine z_iload_n hC dX12_registered_40 3 rfl rfl ?_
    refine z_callVi hC hE (oM_12 (show kM 0 = 12 by decide)) [vI x1, vI x2, vI x3] (fun sz2 => mX12_registeredAt l hinj sz2 hf) (cwV 3 hC.1.2.2.2.2 (uV (uT _) u2201 u2203 u102 u118 u2204) rfl rfl rfl (by decide +kernel) ⟨Nat.le_of_ble_eq_true rfl, Nat.le_of_ble_eq_true rfl⟩) rfl rfl (Nat.le_of_ble_eq_true rfl) ⟨Nat.le_of_ble_eq_true rfl, Nat.le_of_ble_eq_true rfl⟩ dX12_registered_41 (fun r8 σ8 hf => ?_)
    exact z_iret hC hr rfl dX12_registered_44 hf
  · replace hf := hf.2 hc
    refine z_iconst hC dX12_registered_33 ?_
    refine z_goto (tgt := 44) hC dX12_registered_34 (by decide) ?_
    exact z_iret hC hr rfl dX12_registered_44 hf
set_option maxHeartbeats 4000000 in
set_option maxRecDepth 100000 in
theorem wX12_registered_B26 {p : Program} {l : Launch} {e : Env} {s : State} {m : MethodId} {args : Array Value} {below : List Frame} {meth : Method} {c : Code} {D : va_G} {dA : Nat → ClassId} {ad : Nat → Nat} {sz : Nat}  {K : Int → zSt → Prop} (hC : zC p m c cX12_registered 4 s args (Cond.code yX12_registered cX12_registered 4 (some .int) :: UW) RX12 meth D vwCl (tyA dA) (zA ad NM sz) NM ad (celM ad dA)) (hE : zE zX0 (zA ad NM sz) s s.heap) (hr : meth.sig.returnType = (some .int)) (hinj : ∀ i j, i < NM → j < NM → ad i = ad j → i = j) {σ : zSt} {x1 : Int} {x2 : Int} {x3 : Int} (hf : fX12_registered_B26 K σ x1 x2 x3) : zAt p l e ({ frames := 5, cells := 0, slots := 0, locals := 128 } : Room) s m args below meth c 0 0 (MQ below (va_Qi (zPi K) (zB D vwCl (tyA dA) NM ad (celM ad dA)) (zA ad NM sz)) args s 0 0 (zA ad NM sz)) 4 D vwCl (zA ad NM sz) NM ad (celM ad dA) 26 [(0, vR ad 0), (1, vI x1), (2, vI x2), (3, vI x3)] [vR ad 0] σ := by
  refine z_iconst hC dX12_registered_26 ?_
  exact wX12_registered_B27 hC hE hr hinj  hf
set_option maxHeartbeats 4000000 in
set_option maxRecDepth 100000 in
theorem mX12_registered {D : va_G} {dA : Nat → ClassId} {ad : Nat → Nat}  (l : Launch) (hinj : ∀ i j, i < NM → j < NM → ad i = ad j → i = j) (sz : Nat) {K : Int → zSt → Prop} {σ : zSt} {x1 : Int} {x2 : Int} {x3 : Int} (hf : fX12_registered K σ x1 x2 x3) : Met l yX12_registered (Cond.code yX12_registered cX12_registered 4 (some .int) :: UW) ({ frames := 5, cells := 0, slots := 0, locals := 128 } : Room) (va_Pc [vR ad 0, vI x1, vI x2, vI x3] (zPre D vwCl (tyA dA) zX0 NM ad (celM ad dA) sz σ)) (va_Qi (zPi K) (zB D vwCl (tyA dA) NM ad (celM ad dA)) (zA ad NM sz)) 0 0 (zA ad NM sz) := by
  refine z_enter (cc := cX12_registered) (maxL := 4) (ret := (some .int)) (vs := [vR ad 0, vI x1, vI x2, vI x3]) (plainFor_of_name (by decide)) rfl hinj (Nat.le_of_ble_eq_true rfl) ?_
  intro p e s m args below meth c hC hE hsz hr hnm
  show zAt p l e ({ frames := 5, cells := 0, slots := 0, locals := 128 } : Room) s m args below meth c 0 0 (MQ below (va_Qi (zPi K) (zB D vwCl (tyA dA) NM ad (celM ad dA)) (zA ad NM sz)) args s 0 0 (zA ad NM sz)) 4 D vwCl (zA ad NM sz) NM ad (celM ad dA) 0 [(0, vR ad 0), (1, vI x1), (2, vI x2), (3, vI x3)] [] σ
  refine z_aload_n hC dX12_registered_0 0 rfl rfl ?_
  refine z_callVv hC hE (oM_12 (show kM 0 = 12 by decide)) [] (fun sz2 => mX12_orient l hinj sz2 hf) (cwV 0 hC.1.2.2.2.2 (uV (uT _) u1901 u1903 u67 u118 u1904) rfl rfl rfl (by decide +kernel) ⟨Nat.le_of_ble_eq_true rfl, Nat.le_of_ble_eq_true rfl⟩) rfl rfl (Nat.le_of_ble_eq_true rfl) ⟨Nat.le_of_ble_eq_true rfl, Nat.le_of_ble_eq_true rfl⟩ dX12_registered_1 (fun σ1 hf => ?_)
  refine z_aload_n hC dX12_registered_4 0 rfl rfl ?_
  refine z_aload_n hC dX12_registered_5 0 rfl rfl ?_
  refine z_iload_n hC dX12_registered_6 1 rfl rfl ?_
  refine z_callVi hC hE (oM_12 (show kM 0 = 12 by decide)) [vI x1] (fun sz2 => mX12_isFrame l hinj sz2 hf) (cwV 1 hC.1.2.2.2.2 (uV (uT _) u1829 u1831 u57 u118 u1832) rfl rfl rfl (by decide +kernel) ⟨Nat.le_of_ble_eq_true rfl, Nat.le_of_ble_eq_true rfl⟩) rfl rfl (Nat.le_of_ble_eq_true rfl) ⟨Nat.le_of_ble_eq_true rfl, Nat.le_of_ble_eq_true rfl⟩ dX12_registered_7 (fun r2 σ2 hf => ?_)
  obtain ⟨g3, hf⟩ := hf
  refine z_if_eq (tgt := 26) hC dX12_registered_10 (by decide) g3 (fun hc => ?_) (fun hc => ?_)
  · replace hf := hf.1 hc
    exact wX12_registered_B26 hC hE hr hinj  hf
  · replace hf := hf.2 hc
    refine z_aload_n hC dX12_registered_13 0 rfl rfl ?_
    refine z_iload_n hC dX12_registered_14 2 rfl rfl ?_
    refine z_iload_n hC dX12_registered_15 3 rfl rfl ?_
    refine z_callVi hC hE (oM_12 (show kM 0 = 12 by decide)) [vI x2, vI x3] (fun sz2 => mX12_isPixel l hinj sz2 hf) (cwV 2 hC.1.2.2.2.2 (uV (uT _) u1845 u1847 u60 u118 u1848) rfl rfl rfl (by decide +kernel) ⟨Nat.le_of_ble_eq_true rfl, Nat.le_of_ble_eq_true rfl⟩) rfl rfl (Nat.le_of_ble_eq_true rfl) ⟨Nat.le_of_ble_eq_true rfl, Nat.le_of_ble_eq_true rfl⟩ dX12_registered_16 (fun r4 σ4 hf => ?_)
    obtain ⟨g5, hf⟩ := hf
    refine z_if_eq (tgt := 26) hC dX12_registered_19 (by decide) g5 (fun hc => ?_) (fun hc => ?_)
    · replace hf := hf.1 hc
      exact wX12_registered_B26 hC hE hr hinj  hf
    · replace hf := hf.2 hc
      refine z_iconst hC dX12_registered_22 ?_
      refine z_goto (tgt := 27) hC dX12_registered_23 (by decide) ?_
      exact wX12_registered_B27 hC hE hr hinj  hf

-- ===== X12_changedPixels
noncomputable def fX12_changedPixels_B87 (K : Int → zSt → Prop) (k73 : zSt → Int → Int → Int → Int → Int → Prop) (n : Nat) : zSt → Int → Int → Int → Int → Int → Int → Prop :=
  Nat.rec (motive := fun _ => zSt → Int → Int → Int → Int → Int → Int → Prop) (fun _ _ _ _ _ _ _ => False) (fun _ ih σ x1 x2 x3 x4 x5 x6 => zrg x6 ∧ zrg (σ 1 0) ∧ ((σ 1 0 ≤ x6 → k73 σ x1 x2 x3 x4 (x5 + 1)) ∧ (¬ σ 1 0 ≤ x6 → fX12_registeredAt (fun r18 σ18 => fX12_registeredAt (fun r19 σ19 => zrg r18 ∧ ((r18 < 0 → ih σ19 x1 x2 x3 (x4 + 0) x5 (x6 + 1)) ∧ (¬ r18 < 0 → zrg r19 ∧ ((r19 < 0 → ih σ19 x1 x2 x3 (x4 + 0) x5 (x6 + 1)) ∧ (¬ r19 < 0 → fX12_absolute (fun r22 σ22 => zrg r22 ∧ zrg x3 ∧ ((r22 < x3 → ih σ22 x1 x2 x3 (x4 + 0) x5 (x6 + 1)) ∧ (¬ r22 < x3 → ih σ22 x1 x2 x3 (x4 + 1) x5 (x6 + 1)))) σ19 (r18 - r19)))))) σ18 x2 x6 x5) σ x1 x6 x5))) n
theorem uX12_changedPixels_B87 (K : Int → zSt → Prop) (k73 : zSt → Int → Int → Int → Int → Int → Prop) (n0 : Nat) (σ : zSt) (x1 : Int) (x2 : Int) (x3 : Int) (x4 : Int) (x5 : Int) (x6 : Int) : fX12_changedPixels_B87 K k73 (n0 + 1) σ x1 x2 x3 x4 x5 x6 = (zrg x6 ∧ zrg (σ 1 0) ∧ ((σ 1 0 ≤ x6 → k73 σ x1 x2 x3 x4 (x5 + 1)) ∧ (¬ σ 1 0 ≤ x6 → fX12_registeredAt (fun r18 σ18 => fX12_registeredAt (fun r19 σ19 => zrg r18 ∧ ((r18 < 0 → (fX12_changedPixels_B87 K k73 n0) σ19 x1 x2 x3 (x4 + 0) x5 (x6 + 1)) ∧ (¬ r18 < 0 → zrg r19 ∧ ((r19 < 0 → (fX12_changedPixels_B87 K k73 n0) σ19 x1 x2 x3 (x4 + 0) x5 (x6 + 1)) ∧ (¬ r19 < 0 → fX12_absolute (fun r22 σ22 => zrg r22 ∧ zrg x3 ∧ ((r22 < x3 → (fX12_changedPixels_B87 K k73 n0) σ22 x1 x2 x3 (x4 + 0) x5 (x6 + 1)) ∧ (¬ r22 < x3 → (fX12_changedPixels_B87 K k73 n0) σ22 x1 x2 x3 (x4 + 1) x5 (x6 + 1)))) σ19 (r18 - r19)))))) σ18 x2 x6 x5) σ x1 x6 x5))) := rfl
noncomputable def fX12_changedPixels_B73 (K : Int → zSt → Prop) (n : Nat) : zSt → Int → Int → Int → Int → Int → Prop :=
  Nat.rec (motive := fun _ => zSt → Int → Int → Int → Int → Int → Prop) (fun _ _ _ _ _ _ => False) (fun _ ih σ x1 x2 x3 x4 x5 => zrg x5 ∧ zrg (σ 1 1) ∧ ((σ 1 1 ≤ x5 → K x4 σ) ∧ (¬ σ 1 1 ≤ x5 → (∃ n, fX12_changedPixels_B87 K ih n σ x1 x2 x3 x4 x5 0)))) n
theorem uX12_changedPixels_B73 (K : Int → zSt → Prop) (n0 : Nat) (σ : zSt) (x1 : Int) (x2 : Int) (x3 : Int) (x4 : Int) (x5 : Int) : fX12_changedPixels_B73 K (n0 + 1) σ x1 x2 x3 x4 x5 = (zrg x5 ∧ zrg (σ 1 1) ∧ ((σ 1 1 ≤ x5 → K x4 σ) ∧ (¬ σ 1 1 ≤ x5 → (∃ n, fX12_changedPixels_B87 K (fX12_changedPixels_B73 K n0) n σ x1 x2 x3 x4 x5 0)))) := rfl
def fX12_changedPixels_B26 (K : Int → zSt → Prop) (σ : zSt) (x1 : Int) (x2 : Int) (x3 : Int) (s0 : Int) : Prop :=
  fX12_fails (fun r6 σ6 => zrg r6 ∧ ((r6 = 0 → fX12_inRange (fun r8 σ8 => zrg r8 ∧ ((r8 = 0 → K (-2) σ8) ∧ (¬ r8 = 0 → (0 ≤ x1 ∧ x1 < 6) ∧ zrg (σ8 5 x1) ∧ ((σ8 5 x1 = 0 → K (-1) σ8) ∧ (¬ σ8 5 x1 = 0 → (0 ≤ x2 ∧ x2 < 6) ∧ zrg (σ8 5 x2) ∧ ((σ8 5 x2 = 0 → K (-1) σ8) ∧ (¬ σ8 5 x2 = 0 → (∃ n, fX12_changedPixels_B73 K n σ8 x1 x2 x3 0 0)))))))) σ6 x3 1 9) ∧ (¬ r6 = 0 → K 0 σ6))) σ s0
def fX12_changedPixels_B25 (K : Int → zSt → Prop) (σ : zSt) (x1 : Int) (x2 : Int) (x3 : Int) : Prop :=
  fX12_changedPixels_B26 K σ x1 x2 x3 0
def fX12_changedPixels (K : Int → zSt → Prop) (σ : zSt) (x1 : Int) (x2 : Int) (x3 : Int) : Prop :=
  fX12_orient (fun σ1 => fX12_isFrame (fun r2 σ2 => zrg r2 ∧ ((r2 = 0 → fX12_changedPixels_B25 K σ2 x1 x2 x3) ∧ (¬ r2 = 0 → fX12_isFrame (fun r4 σ4 => zrg r4 ∧ ((r4 = 0 → fX12_changedPixels_B25 K σ4 x1 x2 x3) ∧ (¬ r4 = 0 → fX12_changedPixels_B26 K σ4 x1 x2 x3 1))) σ2 x2))) σ1 x1) σ 
set_option maxHeartbeats 4000000 in
set_option maxRecDepth 100000 in
theorem wX12_changedPixels_B87 {p : Program} {l : Launch} {e : Env} {s : State} {m : MethodId} {args : Array Value} {below : List Frame} {meth : Method} {c : Code} {D : va_G} {dA : Nat → ClassId} {ad : Nat → Nat} {sz : Nat}  {K : Int → zSt → Prop} {k73 : zSt → Int → Int → Int → Int → Int → Prop} (hC : zC p m c cX12_changedPixels 9 s args (Cond.code yX12_changedPixels cX12_changedPixels 9 (some .int) :: UW) RX12 meth D vwCl (tyA dA) (zA ad NM sz) NM ad (celM ad dA)) (hE : zE zX0 (zA ad NM sz) s s.heap) (hr : meth.sig.returnType = (some .int)) (hinj : ∀ i j, i < NM → j < NM → ad i = ad j → i = j) (hk73 : ∀ (σ : zSt) (x1 : Int) (x2 : Int) (x3 : Int) (x4 : Int) (x5 : Int), k73 σ x1 x2 x3 x4 x5 → zAt p l e ({ frames := 5, cells := 0, slots := 0, locals := 128 } : Room) s m args below meth c 0 0 (MQ below (va_Qi (zPi K) (zB D vwCl (tyA dA) NM ad (celM ad dA)) (zA ad NM sz)) args s 0 0 (zA ad NM sz)) 9 D vwCl (zA ad NM sz) NM ad (celM ad dA) 73 [(0, vR ad 0), (1, vI x1), (2, vI x2), (3, vI x3), (4, vI x4), (5, vI x5)] [] σ) : ∀ (n : Nat) (σ : zSt) (x1 : Int) (x2 : Int) (x3 : Int) (x4 : Int) (x5 : Int) (x6 : Int), fX12_changedPixels_B87 K k73 n σ x1 x2 x3 x4 x5 x6 → zAt p l e ({ frames := 5, cells := 0, slots := 0, locals := 128 } : Room) s m args below meth c 0 0 (MQ below (va_Qi (zPi K) (zB D vwCl (tyA dA) NM ad (celM ad dA)) (zA ad NM sz)) args s 0 0 (zA ad NM sz)) 9 D vwCl (zA ad NM sz) NM ad (celM ad dA) 87 [(0, vR ad 0), (1, vI x1), (2, vI x2), (3, vI x3), (4, vI x4), (5, vI x5), (6, vI x6)] [] σ := by
  intro n
  induction n with
  | zero => intro σ x1 x2 x3 x4 x5 x6  hf; exact False.elim hf
  | succ n ih =>
    intro σ x1 x2 x3 x4 x5 x6  hf
    rw [uX12_changedPixels_B87] at hf
    refine z_iload hC dX12_changedPixels_87 6 rfl ?_
    refine z_aload_n hC dX12_changedPixels_89 0 rfl rfl ?_
    refine z_get hC (fun w h => uT _ w (uL12 w h)) (oM_12 (show kM 0 = 12 by decide)) 0 (by decide) (uT _ _ u1545) rfl rfl dX12_changedPixels_90 ?_
    refine z_iconst hC dX12_changedPixels_93 ?_
    refine z_iaload hC (aM_30 (show kM 1 = 30 by decide)) ⟨by decide, by decide⟩ dX12_changedPixels_94 ?_
    obtain ⟨g16, hf⟩ := hf
    obtain ⟨g17, hf⟩ := hf
    refine z_icmp_ge (tgt := 158) hC dX12_changedPixels_95 (by decide) g16 g17 (fun hc => ?_) (fun hc => ?_)
    · replace hf := hf.1 hc
      refine z_iinc hC ([(5, vI (x5 + 1)), (0, vR ad 0), (1, vI x1), (2, vI x2), (3, vI x3), (4, vI x4), (6, vI x6)]) dX12_changedPixels_158 5 rfl (by decide) rfl ?_
      refine z_goto (tgt := 73) hC dX12_changedPixels_161 (by decide) ?_
      refine z_sub (lv' := [(0, vR ad 0), (1, vI x1), (2, vI x2), (3, vI x3), (4, vI x4), (5, vI (x5 + 1))]) [1, 2, 3, 4, 5, 0] rfl ?_
      exact hk73 _ _ _ _ _ _ hf
    · replace hf := hf.2 hc
      refine z_aload_n hC dX12_changedPixels_98 0 rfl rfl ?_
      refine z_iload_n hC dX12_changedPixels_99 1 rfl rfl ?_
      refine z_iload hC dX12_changedPixels_100 6 rfl ?_
      refine z_iload hC dX12_changedPixels_102 5 rfl ?_
      refine z_callVi hC hE (oM_12 (show kM 0 = 12 by decide)) [vI x1, vI x6, vI x5] (fun sz2 => mX12_registeredAt l hinj sz2 hf) (cwV 3 hC.1.2.2.2.2 (uV (uT _) u2201 u2203 u102 u118 u2204) rfl rfl rfl (by decide +kernel) ⟨Nat.le_of_ble_eq_true rfl, Nat.le_of_ble_eq_true rfl⟩) rfl rfl (Nat.le_of_ble_eq_true rfl) ⟨Nat.le_of_ble_eq_true rfl, Nat.le_of_ble_eq_true rfl⟩ dX12_changedPixels_104 (fun r18 σ18 hf => ?_)
      refine z_istore hC ([(7, vI r18), (0, vR ad 0), (1, vI x1), (2, vI x2), (3, vI x3), (4, vI x4), (5, vI x5), (6, vI x6)]) dX12_changedPixels_107 (by decide) rfl ?_
      refine z_aload_n hC dX12_changedPixels_109 1 rfl rfl ?_
      refine z_iload_n hC dX12_changedPixels_110 3 rfl rfl ?_
      refine z_iload hC dX12_changedPixels_111 7 rfl ?_
      refine z_iload hC dX12_changedPixels_113 6 rfl ?_
      refine z_callVi hC hE (oM_12 (show kM 0 = 12 by decide)) [vI x2, vI x6, vI x5] (fun sz2 => mX12_registeredAt l hinj sz2 hf) (cwV 3 hC.1.2.2.2.2 (uV (uT _) u2201 u2203 u102 u118 u2204) rfl rfl rfl (by decide +kernel) ⟨Nat.le_of_ble_eq_true rfl, Nat.le_of_ble_eq_true rfl⟩) rfl rfl (Nat.le_of_ble_eq_true rfl) ⟨Nat.le_of_ble_eq_true rfl, Nat.le_of_ble_eq_true rfl⟩ dX12_changedPixels_115 (fun r19 σ19 hf => ?_)
      refine z_istore hC ([(8, vI r19), (7, vI r18), (0, vR ad 0), (1, vI x1), (2, vI x2), (3, vI x3), (4, vI x4), (5, vI x5), (6, vI x6)]) dX12_changedPixels_118 (by decide) rfl ?_
      refine z_iload hC dX12_changedPixels_120 6 rfl ?_
      refine z_iload hC dX12_changedPixels_122 1 rfl ?_
      obtain ⟨g20, hf⟩ := hf
      refine z_if_lt (tgt := 148) hC dX12_changedPixels_124 (by decide) g20 (fun hc => ?_) (fun hc => ?_)
      · replace hf := hf.1 hc
        refine z_iconst hC dX12_changedPixels_148 ?_
        refine z_iadd hC dX12_changedPixels_149 ?_
        refine z_istore hC ([(4, vI (x4 + 0)), (8, vI r19), (7, vI r18), (0, vR ad 0), (1, vI x1), (2, vI x2), (3, vI x3), (5, vI x5), (6, vI x6)]) dX12_changedPixels_150 (by decide) rfl ?_
        refine z_iinc hC ([(6, vI (x6 + 1)), (4, vI (x4 + 0)), (8, vI r19), (7, vI r18), (0, vR ad 0), (1, vI x1), (2, vI x2), (3, vI x3), (5, vI x5)]) dX12_changedPixels_152 8 rfl (by decide) rfl ?_
        refine z_goto (tgt := 87) hC dX12_changedPixels_155 (by decide) ?_
        refine z_sub (lv' := [(0, vR ad 0), (1, vI x1), (2, vI x2), (3, vI x3), (4, vI (x4 + 0)), (5, vI x5), (6, vI (x6 + 1))]) [4, 5, 6, 7, 1, 8, 0] rfl ?_
        exact ih _ _ _ _ _ _ _ hf
      · replace hf := hf.2 hc
        refine z_iload hC dX12_changedPixels_127 0 rfl ?_
        obtain ⟨g21, hf⟩ := hf
        refine z_if_lt (tgt := 148) hC dX12_changedPixels_129 (by decide) g21 (fun hc => ?_) (fun hc => ?_)
        · replace hf := hf.1 hc
          refine z_iconst hC dX12_changedPixels_148 ?_
          refine z_iadd hC dX12_changedPixels_149 ?_
          refine z_istore hC ([(4, vI (x4 + 0)), (8, vI r19), (7, vI r18), (0, vR ad 0), (1, vI x1), (2, vI x2), (3, vI x3), (5, vI x5), (6, vI x6)]) dX12_changedPixels_150 (by decide) rfl ?_
          refine z_iinc hC ([(6, vI (x6 + 1)), (4, vI (x4 + 0)), (8, vI r19), (7, vI r18), (0, vR ad 0), (1, vI x1), (2, vI x2), (3, vI x3), (5, vI x5)]) dX12_changedPixels_152 8 rfl (by decide) rfl ?_
          refine z_goto (tgt := 87) hC dX12_changedPixels_155 (by decide) ?_
          refine z_sub (lv' := [(0, vR ad 0), (1, vI x1), (2, vI x2), (3, vI x3), (4, vI (x4 + 0)), (5, vI x5), (6, vI (x6 + 1))]) [4, 5, 6, 7, 1, 8, 0] rfl ?_
          exact ih _ _ _ _ _ _ _ hf
        · replace hf := hf.2 hc
          refine z_iload hC dX12_changedPixels_132 1 rfl ?_
          refine z_iload hC dX12_changedPixels_134 0 rfl ?_
          refine z_isub hC dX12_changedPixels_136 ?_
          refine z_callSi hC hE [vI (r18 - r19)] (fun sz2 => mX12_absolute l hinj sz2 hf) (va_cwS 1 hC.1.2.2.2.2 (uS (uT _) u1921 u1922 u118 u1923) rfl rfl rfl (by decide +kernel) ⟨Nat.le_of_ble_eq_true rfl, Nat.le_of_ble_eq_true rfl⟩) rfl rfl (Nat.le_of_ble_eq_true rfl) ⟨Nat.le_of_ble_eq_true rfl, Nat.le_of_ble_eq_true rfl⟩ dX12_changedPixels_137 (fun r22 σ22 hf => ?_)
          refine z_iload_n hC dX12_changedPixels_140 5 rfl rfl ?_
          obtain ⟨g23, hf⟩ := hf
          obtain ⟨g24, hf⟩ := hf
          refine z_icmp_lt (tgt := 148) hC dX12_changedPixels_141 (by decide) g23 g24 (fun hc => ?_) (fun hc => ?_)
          · replace hf := hf.1 hc
            refine z_iconst hC dX12_changedPixels_148 ?_
            refine z_iadd hC dX12_changedPixels_149 ?_
            refine z_istore hC ([(4, vI (x4 + 0)), (8, vI r19), (7, vI r18), (0, vR ad 0), (1, vI x1), (2, vI x2), (3, vI x3), (5, vI x5), (6, vI x6)]) dX12_changedPixels_150 (by decide) rfl ?_
            refine z_iinc hC ([(6, vI (x6 + 1)), (4, vI (x4 + 0)), (8, vI r19), (7, vI r18), (0, vR ad 0), (1, vI x1), (2, vI x2), (3, vI x3), (5, vI x5)]) dX12_changedPixels_152 8 rfl (by decide) rfl ?_
            refine z_goto (tgt := 87) hC dX12_changedPixels_155 (by decide) ?_
            refine z_sub (lv' := [(0, vR ad 0), (1, vI x1), (2, vI x2), (3, vI x3), (4, vI (x4 + 0)), (5, vI x5), (6, vI (x6 + 1))]) [4, 5, 6, 7, 1, 8, 0] rfl ?_
            exact ih _ _ _ _ _ _ _ hf
          · replace hf := hf.2 hc
            refine z_iconst hC dX12_changedPixels_144 ?_
            refine z_goto (tgt := 149) hC dX12_changedPixels_145 (by decide) ?_
            refine z_iadd hC dX12_changedPixels_149 ?_
            refine z_istore hC ([(4, vI (x4 + 1)), (8, vI r19), (7, vI r18), (0, vR ad 0), (1, vI x1), (2, vI x2), (3, vI x3), (5, vI x5), (6, vI x6)]) dX12_changedPixels_150 (by decide) rfl ?_
            refine z_iinc hC ([(6, vI (x6 + 1)), (4, vI (x4 + 1)), (8, vI r19), (7, vI r18), (0, vR ad 0), (1, vI x1), (2, vI x2), (3, vI x3), (5, vI x5)]) dX12_changedPixels_152 8 rfl (by decide) rfl ?_
            refine z_goto (tgt := 87) hC dX12_changedPixels_155 (by decide) ?_
            refine z_sub (lv' := [(0, vR ad 0), (1, vI x1), (2, vI x2), (3, vI x3), (4, vI (x4 + 1)), (5, vI x5), (6, vI (x6 + 1))]) [4, 5, 6, 7, 1, 8, 0] rfl ?_
            exact ih _ _ _ _ _ _ _ hf
set_option maxHeartbeats 4000000 in
set_option maxRecDepth 100000 in
theorem wX12_changedPixels_B73 {p : Program} {l : Launch} {e : Env} {s : State} {m : MethodId} {args : Array Value} {below : List Frame} {meth : Method} {c : Code} {D : va_G} {dA : Nat → ClassId} {ad : Nat → Nat} {sz : Nat}  {K : Int → zSt → Prop} (hC : zC p m c cX12_changedPixels 9 s args (Cond.code yX12_changedPixels cX12_changedPixels 9 (some .int) :: UW) RX12 meth D vwCl (tyA dA) (zA ad NM sz) NM ad (celM ad dA)) (hE : zE zX0 (zA ad NM sz) s s.heap) (hr : meth.sig.returnType = (some .int)) (hinj : ∀ i j, i < NM → j < NM → ad i = ad j → i = j) : ∀ (n : Nat) (σ : zSt) (x1 : Int) (x2 : Int) (x3 : Int) (x4 : Int) (x5 : Int), fX12_changedPixels_B73 K n σ x1 x2 x3 x4 x5 → zAt p l e ({ frames := 5, cells := 0, slots := 0, locals := 128 } : Room) s m args below meth c 0 0 (MQ below (va_Qi (zPi K) (zB D vwCl (tyA dA) NM ad (celM ad dA)) (zA ad NM sz)) args s 0 0 (zA ad NM sz)) 9 D vwCl (zA ad NM sz) NM ad (celM ad dA) 73 [(0, vR ad 0), (1, vI x1), (2, vI x2), (3, vI x3), (4, vI x4), (5, vI x5)] [] σ := by
  intro n
  induction n with
  | zero => intro σ x1 x2 x3 x4 x5  hf; exact False.elim hf
  | succ n ih =>
    intro σ x1 x2 x3 x4 x5  hf
    rw [uX12_changedPixels_B73] at hf
    refine z_iload hC dX12_changedPixels_73 5 rfl ?_
    refine z_aload_n hC dX12_changedPixels_75 0 rfl rfl ?_
    refine z_get hC (fun w h => uT _ w (uL12 w h)) (oM_12 (show kM 0 = 12 by decide)) 0 (by decide) (uT _ _ u1545) rfl rfl dX12_changedPixels_76 ?_
    refine z_iconst hC dX12_changedPixels_79 ?_
    refine z_iaload hC (aM_30 (show kM 1 = 30 by decide)) ⟨by decide, by decide⟩ dX12_changedPixels_80 ?_
    obtain ⟨g14, hf⟩ := hf
    obtain ⟨g15, hf⟩ := hf
    refine z_icmp_ge (tgt := 164) hC dX12_changedPixels_81 (by decide) g14 g15 (fun hc => ?_) (fun hc => ?_)
    · replace hf := hf.1 hc
      refine z_iload hC dX12_changedPixels_164 4 rfl ?_
      exact z_iret hC hr rfl dX12_changedPixels_166 hf
    · replace hf := hf.2 hc
      refine z_iconst hC dX12_changedPixels_84 ?_
      refine z_istore hC ([(6, vI 0), (0, vR ad 0), (1, vI x1), (2, vI x2), (3, vI x3), (4, vI x4), (5, vI x5)]) dX12_changedPixels_85 (by decide) rfl ?_
      refine z_sub (lv' := [(0, vR ad 0), (1, vI x1), (2, vI x2), (3, vI x3), (4, vI x4), (5, vI x5), (6, vI 0)]) [1, 2, 3, 4, 5, 6, 0] rfl ?_
      obtain ⟨n, hf⟩ := hf
      exact wX12_changedPixels_B87 hC hE hr hinj ih n _ _ _ _ _ _ _ hf
set_option maxHeartbeats 4000000 in
set_option maxRecDepth 100000 in
theorem wX12_changedPixels_B26 {p : Program} {l : Launch} {e : Env} {s : State} {m : MethodId} {args : Array Value} {below : List Frame} {meth : Method} {c : Code} {D : va_G} {dA : Nat → ClassId} {ad : Nat → Nat} {sz : Nat}  {K : Int → zSt → Prop} (hC : zC p m c cX12_changedPixels 9 s args (Cond.code yX12_changedPixels cX12_changedPixels 9 (some .int) :: UW) RX12 meth D vwCl (tyA dA) (zA ad NM sz) NM ad (celM ad dA)) (hE : zE zX0 (zA ad NM sz) s s.heap) (hr : meth.sig.returnType = (some .int)) (hinj : ∀ i j, i < NM → j < NM → ad i = ad j → i = j) {σ : zSt} {x1 : Int} {x2 : Int} {x3 : Int} {s0 : Int} (hf : fX12_changedPixels_B26 K σ x1 x2 x3 s0) : zAt p l e ({ frames := 5, cells := 0, slots := 0, locals := 128 } : Room) s m args below meth c 0 0 (MQ below (va_Qi (zPi K) (zB D vwCl (tyA dA) NM ad (celM ad dA)) (zA ad NM sz)) args s 0 0 (zA ad NM sz)) 9 D vwCl (zA ad NM sz) NM ad (celM ad dA) 26 [(0, vR ad 0), (1, vI x1), (2, vI x2), (3, vI x3)] [vI s0, vR ad 0] σ := by
  refine z_callVi hC hE (oM_12 (show kM 0 = 12 by decide)) [vI s0] (fun sz2 => mX12_fails l hinj sz2 hf) (cwV 1 hC.1.2.2.2.2 (uV (uT _) u1833 u1835 u58 u118 u1836) rfl rfl rfl (by decide +kernel) ⟨Nat.le_of_ble_eq_true rfl, Nat.le_of_ble_eq_true rfl⟩) rfl rfl (Nat.le_of_ble_eq_true rfl) ⟨Nat.le_of_ble_eq_true rfl, Nat.le_of_ble_eq_true rfl⟩ dX12_changedPixels_26 (fun r6 σ6 hf => ?_)
  obtain ⟨g7, hf⟩ := hf
  refine z_if_eq (tgt := 34) hC dX12_changedPixels_29 (by decide) g7 (fun hc => ?_) (fun hc => ?_)
  · replace hf := hf.1 hc
    refine z_iload_n hC dX12_changedPixels_34 3 rfl rfl ?_
    refine z_iconst hC dX12_changedPixels_35 ?_
    refine z_bipush hC dX12_changedPixels_36 (by decide) ?_
    refine z_callSi hC hE [vI x3, vI 1, vI 9] (fun sz2 => mX12_inRange l hinj sz2 hf) (va_cwS 3 hC.1.2.2.2.2 (uS (uT _) u1700 u1701 u118 u1702) rfl rfl rfl (by decide +kernel) ⟨Nat.le_of_ble_eq_true rfl, Nat.le_of_ble_eq_true rfl⟩) rfl rfl (Nat.le_of_ble_eq_true rfl) ⟨Nat.le_of_ble_eq_true rfl, Nat.le_of_ble_eq_true rfl⟩ dX12_changedPixels_38 (fun r8 σ8 hf => ?_)
    obtain ⟨g9, hf⟩ := hf
    refine z_if_ne (tgt := 47) hC dX12_changedPixels_41 (by decide) g9 (fun hc => ?_) (fun hc => ?_)
    · replace hf := hf.2 hc
      refine z_aload_n hC dX12_changedPixels_47 0 rfl rfl ?_
      refine z_get hC (fun w h => uT _ w (uL12 w h)) (oM_12 (show kM 0 = 12 by decide)) 18 (by decide) (uT _ _ u1563) rfl rfl dX12_changedPixels_48 ?_
      refine z_iload_n hC dX12_changedPixels_51 1 rfl rfl ?_
      obtain ⟨g10, hf⟩ := hf
      refine z_zaload hC (aM_33 (show kM 5 = 33 by decide)) g10 dX12_changedPixels_52 ?_
      obtain ⟨g11, hf⟩ := hf
      refine z_if_eq (tgt := 65) hC dX12_changedPixels_53 (by decide) g11 (fun hc => ?_) (fun hc => ?_)
      · replace hf := hf.1 hc
        refine z_iconst hC dX12_changedPixels_65 ?_
        exact z_iret hC hr rfl dX12_changedPixels_66 hf
      · replace hf := hf.2 hc
        refine z_aload_n hC dX12_changedPixels_56 0 rfl rfl ?_
        refine z_get hC (fun w h => uT _ w (uL12 w h)) (oM_12 (show kM 0 = 12 by decide)) 18 (by decide) (uT _ _ u1563) rfl rfl dX12_changedPixels_57 ?_
        refine z_iload_n hC dX12_changedPixels_60 2 rfl rfl ?_
        obtain ⟨g12, hf⟩ := hf
        refine z_zaload hC (aM_33 (show kM 5 = 33 by decide)) g12 dX12_changedPixels_61 ?_
        obtain ⟨g13, hf⟩ := hf
        refine z_if_ne (tgt := 67) hC dX12_changedPixels_62 (by decide) g13 (fun hc => ?_) (fun hc => ?_)
        · replace hf := hf.2 hc
          refine z_iconst hC dX12_changedPixels_67 ?_
          refine z_istore hC ([(4, vI 0), (0, vR ad 0), (1, vI x1), (2, vI x2), (3, vI x3)]) dX12_changedPixels_68 (by decide) rfl ?_
          refine z_iconst hC dX12_changedPixels_70 ?_
          refine z_istore hC ([(5, vI 0), (4, vI 0), (0, vR ad 0), (1, vI x1), (2, vI x2), (3, vI x3)]) dX12_changedPixels_71 (by decide) rfl ?_
          refine z_sub (lv' := [(0, vR ad 0), (1, vI x1), (2, vI x2), (3, vI x3), (4, vI 0), (5, vI 0)]) [2, 3, 4, 5, 1, 0] rfl ?_
          obtain ⟨n, hf⟩ := hf
          exact wX12_changedPixels_B73 hC hE hr hinj n _ _ _ _ _ _ hf
        · replace hf := hf.1 hc
          refine z_iconst hC dX12_changedPixels_65 ?_
          exact z_iret hC hr rfl dX12_changedPixels_66 hf
    · replace hf := hf.1 hc
      refine z_bipush hC dX12_changedPixels_44 (by decide) ?_
      exact z_iret hC hr rfl dX12_changedPixels_46 hf
  · replace hf := hf.2 hc
    refine z_iconst hC dX12_changedPixels_32 ?_
    exact z_iret hC hr rfl dX12_changedPixels_33 hf
set_option maxHeartbeats 4000000 in
set_option maxRecDepth 100000 in
theorem wX12_changedPixels_B25 {p : Program} {l : Launch} {e : Env} {s : State} {m : MethodId} {args : Array Value} {below : List Frame} {meth : Method} {c : Code} {D : va_G} {dA : Nat → ClassId} {ad : Nat → Nat} {sz : Nat}  {K : Int → zSt → Prop} (hC : zC p m c cX12_changedPixels 9 s args (Cond.code yX12_changedPixels cX12_changedPixels 9 (some .int) :: UW) RX12 meth D vwCl (tyA dA) (zA ad NM sz) NM ad (celM ad dA)) (hE : zE zX0 (zA ad NM sz) s s.heap) (hr : meth.sig.returnType = (some .int)) (hinj : ∀ i j, i < NM → j < NM → ad i = ad j → i = j) {σ : zSt} {x1 : Int} {x2 : Int} {x3 : Int} (hf : fX12_changedPixels_B25 K σ x1 x2 x3) : zAt p l e ({ frames := 5, cells := 0, slots := 0, locals := 128 } : Room) s m args below meth c 0 0 (MQ below (va_Qi (zPi K) (zB D vwCl (tyA dA) NM ad (celM ad dA)) (zA ad NM sz)) args s 0 0 (zA ad NM sz)) 9 D vwCl (zA ad NM sz) NM ad (celM ad dA) 25 [(0, vR ad 0), (1, vI x1), (2, vI x2), (3, vI x3)] [vR ad 0] σ := by
  refine z_iconst hC dX12_changedPixels_25 ?_
  exact wX12_changedPixels_B26 hC hE hr hinj  hf
set_option maxHeartbeats 4000000 in
set_option maxRecDepth 100000 in
theorem mX12_changedPixels {D : va_G} {dA : Nat → ClassId} {ad : Nat → Nat}  (l : Launch) (hinj : ∀ i j, i < NM → j < NM → ad i = ad j → i = j) (sz : Nat) {K : Int → zSt → Prop} {σ : zSt} {x1 : Int} {x2 : Int} {x3 : Int} (hf : fX12_changedPixels K σ x1 x2 x3) : Met l yX12_changedPixels (Cond.code yX12_changedPixels cX12_changedPixels 9 (some .int) :: UW) ({ frames := 5, cells := 0, slots := 0, locals := 128 } : Room) (va_Pc [vR ad 0, vI x1, vI x2, vI x3] (zPre D vwCl (tyA dA) zX0 NM ad (celM ad dA) sz σ)) (va_Qi (zPi K) (zB D vwCl (tyA dA) NM ad (celM ad dA)) (zA ad NM sz)) 0 0 (zA ad NM sz) := by
  refine z_enter (cc := cX12_changedPixels) (maxL := 9) (ret := (some .int)) (vs := [vR ad 0, vI x1, vI x2, vI x3]) (plainFor_of_name (by decide)) rfl hinj (Nat.le_of_ble_eq_true rfl) ?_
  intro p e s m args below meth c hC hE hsz hr hnm
  show zAt p l e ({ frames := 5, cells := 0, slots := 0, locals := 128 } : Room) s m args below meth c 0 0 (MQ below (va_Qi (zPi K) (zB D vwCl (tyA dA) NM ad (celM ad dA)) (zA ad NM sz)) args s 0 0 (zA ad NM sz)) 9 D vwCl (zA ad NM sz) NM ad (celM ad dA) 0 [(0, vR ad 0), (1, vI x1), (2, vI x2), (3, vI x3)] [] σ
  refine z_aload_n hC dX12_changedPixels_0 0 rfl rfl ?_
  refine z_callVv hC hE (oM_12 (show kM 0 = 12 by decide)) [] (fun sz2 => mX12_orient l hinj sz2 hf) (cwV 0 hC.1.2.2.2.2 (uV (uT _) u1901 u1903 u67 u118 u1904) rfl rfl rfl (by decide +kernel) ⟨Nat.le_of_ble_eq_true rfl, Nat.le_of_ble_eq_true rfl⟩) rfl rfl (Nat.le_of_ble_eq_true rfl) ⟨Nat.le_of_ble_eq_true rfl, Nat.le_of_ble_eq_true rfl⟩ dX12_changedPixels_1 (fun σ1 hf => ?_)
  refine z_aload_n hC dX12_changedPixels_4 0 rfl rfl ?_
  refine z_aload_n hC dX12_changedPixels_5 0 rfl rfl ?_
  refine z_iload_n hC dX12_changedPixels_6 1 rfl rfl ?_
  refine z_callVi hC hE (oM_12 (show kM 0 = 12 by decide)) [vI x1] (fun sz2 => mX12_isFrame l hinj sz2 hf) (cwV 1 hC.1.2.2.2.2 (uV (uT _) u1829 u1831 u57 u118 u1832) rfl rfl rfl (by decide +kernel) ⟨Nat.le_of_ble_eq_true rfl, Nat.le_of_ble_eq_true rfl⟩) rfl rfl (Nat.le_of_ble_eq_true rfl) ⟨Nat.le_of_ble_eq_true rfl, Nat.le_of_ble_eq_true rfl⟩ dX12_changedPixels_7 (fun r2 σ2 hf => ?_)
  obtain ⟨g3, hf⟩ := hf
  refine z_if_eq (tgt := 25) hC dX12_changedPixels_10 (by decide) g3 (fun hc => ?_) (fun hc => ?_)
  · replace hf := hf.1 hc
    exact wX12_changedPixels_B25 hC hE hr hinj  hf
  · replace hf := hf.2 hc
    refine z_aload_n hC dX12_changedPixels_13 0 rfl rfl ?_
    refine z_iload_n hC dX12_changedPixels_14 2 rfl rfl ?_
    refine z_callVi hC hE (oM_12 (show kM 0 = 12 by decide)) [vI x2] (fun sz2 => mX12_isFrame l hinj sz2 hf) (cwV 1 hC.1.2.2.2.2 (uV (uT _) u1829 u1831 u57 u118 u1832) rfl rfl rfl (by decide +kernel) ⟨Nat.le_of_ble_eq_true rfl, Nat.le_of_ble_eq_true rfl⟩) rfl rfl (Nat.le_of_ble_eq_true rfl) ⟨Nat.le_of_ble_eq_true rfl, Nat.le_of_ble_eq_true rfl⟩ dX12_changedPixels_15 (fun r4 σ4 hf => ?_)
    obtain ⟨g5, hf⟩ := hf
    refine z_if_eq (tgt := 25) hC dX12_changedPixels_18 (by decide) g5 (fun hc => ?_) (fun hc => ?_)
    · replace hf := hf.1 hc
      exact wX12_changedPixels_B25 hC hE hr hinj  hf
    · replace hf := hf.2 hc
      refine z_iconst hC dX12_changedPixels_21 ?_
      refine z_goto (tgt := 26) hC dX12_changedPixels_22 (by decide) ?_
      exact wX12_changedPixels_B26 hC hE hr hinj  hf

-- ===== X12_snowLine
noncomputable def fX12_snowLine_B45 (K : Int → zSt → Prop) (k29 : zSt → Int → Int → Int → Prop) (n : Nat) : zSt → Int → Int → Int → Int → Int → Prop :=
  Nat.rec (motive := fun _ => zSt → Int → Int → Int → Int → Int → Prop) (fun _ _ _ _ _ _ => False) (fun _ ih σ x1 x2 x3 x4 x5 => zrg x5 ∧ zrg (σ 1 0) ∧ ((σ 1 0 ≤ x5 → zrg (2 * x4) ∧ ((σ 1 0 ≤ 2 * x4 → k29 σ x1 x2 (x3 + 1)) ∧ (¬ σ 1 0 ≤ 2 * x4 → K x3 σ))) ∧ (¬ σ 1 0 ≤ x5 → fX12_brightness (fun r11 σ11 => zrg r11 ∧ zrg x2 ∧ ((r11 < x2 → ih σ11 x1 x2 x3 (x4 + 0) (x5 + 1)) ∧ (¬ r11 < x2 → ih σ11 x1 x2 x3 (x4 + 1) (x5 + 1)))) σ x1 x5 x3))) n
theorem uX12_snowLine_B45 (K : Int → zSt → Prop) (k29 : zSt → Int → Int → Int → Prop) (n0 : Nat) (σ : zSt) (x1 : Int) (x2 : Int) (x3 : Int) (x4 : Int) (x5 : Int) : fX12_snowLine_B45 K k29 (n0 + 1) σ x1 x2 x3 x4 x5 = (zrg x5 ∧ zrg (σ 1 0) ∧ ((σ 1 0 ≤ x5 → zrg (2 * x4) ∧ ((σ 1 0 ≤ 2 * x4 → k29 σ x1 x2 (x3 + 1)) ∧ (¬ σ 1 0 ≤ 2 * x4 → K x3 σ))) ∧ (¬ σ 1 0 ≤ x5 → fX12_brightness (fun r11 σ11 => zrg r11 ∧ zrg x2 ∧ ((r11 < x2 → (fX12_snowLine_B45 K k29 n0) σ11 x1 x2 x3 (x4 + 0) (x5 + 1)) ∧ (¬ r11 < x2 → (fX12_snowLine_B45 K k29 n0) σ11 x1 x2 x3 (x4 + 1) (x5 + 1)))) σ x1 x5 x3))) := rfl
noncomputable def fX12_snowLine_B29 (K : Int → zSt → Prop) (n : Nat) : zSt → Int → Int → Int → Prop :=
  Nat.rec (motive := fun _ => zSt → Int → Int → Int → Prop) (fun _ _ _ _ => False) (fun _ ih σ x1 x2 x3 => zrg x3 ∧ zrg (σ 1 1) ∧ ((σ 1 1 ≤ x3 → K (σ 1 1) σ) ∧ (¬ σ 1 1 ≤ x3 → (∃ n, fX12_snowLine_B45 K ih n σ x1 x2 x3 0 0)))) n
theorem uX12_snowLine_B29 (K : Int → zSt → Prop) (n0 : Nat) (σ : zSt) (x1 : Int) (x2 : Int) (x3 : Int) : fX12_snowLine_B29 K (n0 + 1) σ x1 x2 x3 = (zrg x3 ∧ zrg (σ 1 1) ∧ ((σ 1 1 ≤ x3 → K (σ 1 1) σ) ∧ (¬ σ 1 1 ≤ x3 → (∃ n, fX12_snowLine_B45 K (fX12_snowLine_B29 K n0) n σ x1 x2 x3 0 0)))) := rfl
def fX12_snowLine (K : Int → zSt → Prop) (σ : zSt) (x1 : Int) (x2 : Int) : Prop :=
  fX12_isFrame (fun r1 σ1 => fX12_fails (fun r2 σ2 => zrg r2 ∧ ((r2 = 0 → fX12_inRange (fun r4 σ4 => zrg r4 ∧ ((r4 = 0 → K (-2) σ4) ∧ (¬ r4 = 0 → (∃ n, fX12_snowLine_B29 K n σ4 x1 x2 0)))) σ2 x2 0 9) ∧ (¬ r2 = 0 → K 0 σ2))) σ1 r1) σ x1
set_option maxHeartbeats 4000000 in
set_option maxRecDepth 100000 in
theorem wX12_snowLine_B45 {p : Program} {l : Launch} {e : Env} {s : State} {m : MethodId} {args : Array Value} {below : List Frame} {meth : Method} {c : Code} {D : va_G} {dA : Nat → ClassId} {ad : Nat → Nat} {sz : Nat}  {K : Int → zSt → Prop} {k29 : zSt → Int → Int → Int → Prop} (hC : zC p m c cX12_snowLine 6 s args (Cond.code yX12_snowLine cX12_snowLine 6 (some .int) :: UW) RX12 meth D vwCl (tyA dA) (zA ad NM sz) NM ad (celM ad dA)) (hE : zE zX0 (zA ad NM sz) s s.heap) (hr : meth.sig.returnType = (some .int)) (hinj : ∀ i j, i < NM → j < NM → ad i = ad j → i = j) (hk29 : ∀ (σ : zSt) (x1 : Int) (x2 : Int) (x3 : Int), k29 σ x1 x2 x3 → zAt p l e ({ frames := 2, cells := 0, slots := 0, locals := 43 } : Room) s m args below meth c 0 0 (MQ below (va_Qi (zPi K) (zB D vwCl (tyA dA) NM ad (celM ad dA)) (zA ad NM sz)) args s 0 0 (zA ad NM sz)) 6 D vwCl (zA ad NM sz) NM ad (celM ad dA) 29 [(0, vR ad 0), (1, vI x1), (2, vI x2), (3, vI x3)] [] σ) : ∀ (n : Nat) (σ : zSt) (x1 : Int) (x2 : Int) (x3 : Int) (x4 : Int) (x5 : Int), fX12_snowLine_B45 K k29 n σ x1 x2 x3 x4 x5 → zAt p l e ({ frames := 2, cells := 0, slots := 0, locals := 43 } : Room) s m args below meth c 0 0 (MQ below (va_Qi (zPi K) (zB D vwCl (tyA dA) NM ad (celM ad dA)) (zA ad NM sz)) args s 0 0 (zA ad NM sz)) 6 D vwCl (zA ad NM sz) NM ad (celM ad dA) 45 [(0, vR ad 0), (1, vI x1), (2, vI x2), (3, vI x3), (4, vI x4), (5, vI x5)] [] σ := by
  intro n
  induction n with
  | zero => intro σ x1 x2 x3 x4 x5  hf; exact False.elim hf
  | succ n ih =>
    intro σ x1 x2 x3 x4 x5  hf
    rw [uX12_snowLine_B45] at hf
    refine z_iload hC dX12_snowLine_45 5 rfl ?_
    refine z_aload_n hC dX12_snowLine_47 0 rfl rfl ?_
    refine z_get hC (fun w h => uT _ w (uL12 w h)) (oM_12 (show kM 0 = 12 by decide)) 0 (by decide) (uT _ _ u1545) rfl rfl dX12_snowLine_48 ?_
    refine z_iconst hC dX12_snowLine_51 ?_
    refine z_iaload hC (aM_30 (show kM 1 = 30 by decide)) ⟨by decide, by decide⟩ dX12_snowLine_52 ?_
    obtain ⟨g8, hf⟩ := hf
    obtain ⟨g9, hf⟩ := hf
    refine z_icmp_ge (tgt := 84) hC dX12_snowLine_53 (by decide) g8 g9 (fun hc => ?_) (fun hc => ?_)
    · replace hf := hf.1 hc
      refine z_iconst hC dX12_snowLine_84 ?_
      refine z_iload hC dX12_snowLine_85 4 rfl ?_
      refine z_imul hC dX12_snowLine_87 ?_
      refine z_aload_n hC dX12_snowLine_88 0 rfl rfl ?_
      refine z_get hC (fun w h => uT _ w (uL12 w h)) (oM_12 (show kM 0 = 12 by decide)) 0 (by decide) (uT _ _ u1545) rfl rfl dX12_snowLine_89 ?_
      refine z_iconst hC dX12_snowLine_92 ?_
      refine z_iaload hC (aM_30 (show kM 1 = 30 by decide)) ⟨by decide, by decide⟩ dX12_snowLine_93 ?_
      obtain ⟨g10, hf⟩ := hf
      refine z_icmp_ge (tgt := 99) hC dX12_snowLine_94 (by decide) g10 g9 (fun hc => ?_) (fun hc => ?_)
      · replace hf := hf.1 hc
        refine z_iinc hC ([(3, vI (x3 + 1)), (0, vR ad 0), (1, vI x1), (2, vI x2), (4, vI x4), (5, vI x5)]) dX12_snowLine_99 3 rfl (by decide) rfl ?_
        refine z_goto (tgt := 29) hC dX12_snowLine_102 (by decide) ?_
        refine z_sub (lv' := [(0, vR ad 0), (1, vI x1), (2, vI x2), (3, vI (x3 + 1))]) [1, 2, 3, 0] rfl ?_
        exact hk29 _ _ _ _ hf
      · replace hf := hf.2 hc
        refine z_iload_n hC dX12_snowLine_97 3 rfl rfl ?_
        exact z_iret hC hr rfl dX12_snowLine_98 hf
    · replace hf := hf.2 hc
      refine z_iload hC dX12_snowLine_56 4 rfl ?_
      refine z_aload_n hC dX12_snowLine_58 0 rfl rfl ?_
      refine z_iload_n hC dX12_snowLine_59 1 rfl rfl ?_
      refine z_iload hC dX12_snowLine_60 5 rfl ?_
      refine z_iload_n hC dX12_snowLine_62 3 rfl rfl ?_
      refine z_callVi hC hE (oM_12 (show kM 0 = 12 by decide)) [vI x1, vI x5, vI x3] (fun sz2 => mX12_brightness l hinj sz2 hf) (cwV 3 hC.1.2.2.2.2 (uV (uT _) u1849 u1851 u61 u118 u1852) rfl rfl rfl (by decide +kernel) ⟨Nat.le_of_ble_eq_true rfl, Nat.le_of_ble_eq_true rfl⟩) rfl rfl (Nat.le_of_ble_eq_true rfl) ⟨Nat.le_of_ble_eq_true rfl, Nat.le_of_ble_eq_true rfl⟩ dX12_snowLine_63 (fun r11 σ11 hf => ?_)
      refine z_iload_n hC dX12_snowLine_66 2 rfl rfl ?_
      obtain ⟨g12, hf⟩ := hf
      obtain ⟨g13, hf⟩ := hf
      refine z_icmp_lt (tgt := 74) hC dX12_snowLine_67 (by decide) g12 g13 (fun hc => ?_) (fun hc => ?_)
      · replace hf := hf.1 hc
        refine z_iconst hC dX12_snowLine_74 ?_
        refine z_iadd hC dX12_snowLine_75 ?_
        refine z_istore hC ([(4, vI (x4 + 0)), (0, vR ad 0), (1, vI x1), (2, vI x2), (3, vI x3), (5, vI x5)]) dX12_snowLine_76 (by decide) rfl ?_
        refine z_iinc hC ([(5, vI (x5 + 1)), (4, vI (x4 + 0)), (0, vR ad 0), (1, vI x1), (2, vI x2), (3, vI x3)]) dX12_snowLine_78 5 rfl (by decide) rfl ?_
        refine z_goto (tgt := 45) hC dX12_snowLine_81 (by decide) ?_
        refine z_sub (lv' := [(0, vR ad 0), (1, vI x1), (2, vI x2), (3, vI x3), (4, vI (x4 + 0)), (5, vI (x5 + 1))]) [2, 3, 4, 5, 1, 0] rfl ?_
        exact ih _ _ _ _ _ _ hf
      · replace hf := hf.2 hc
        refine z_iconst hC dX12_snowLine_70 ?_
        refine z_goto (tgt := 75) hC dX12_snowLine_71 (by decide) ?_
        refine z_iadd hC dX12_snowLine_75 ?_
        refine z_istore hC ([(4, vI (x4 + 1)), (0, vR ad 0), (1, vI x1), (2, vI x2), (3, vI x3), (5, vI x5)]) dX12_snowLine_76 (by decide) rfl ?_
        refine z_iinc hC ([(5, vI (x5 + 1)), (4, vI (x4 + 1)), (0, vR ad 0), (1, vI x1), (2, vI x2), (3, vI x3)]) dX12_snowLine_78 5 rfl (by decide) rfl ?_
        refine z_goto (tgt := 45) hC dX12_snowLine_81 (by decide) ?_
        refine z_sub (lv' := [(0, vR ad 0), (1, vI x1), (2, vI x2), (3, vI x3), (4, vI (x4 + 1)), (5, vI (x5 + 1))]) [2, 3, 4, 5, 1, 0] rfl ?_
        exact ih _ _ _ _ _ _ hf
set_option maxHeartbeats 4000000 in
set_option maxRecDepth 100000 in
theorem wX12_snowLine_B29 {p : Program} {l : Launch} {e : Env} {s : State} {m : MethodId} {args : Array Value} {below : List Frame} {meth : Method} {c : Code} {D : va_G} {dA : Nat → ClassId} {ad : Nat → Nat} {sz : Nat}  {K : Int → zSt → Prop} (hC : zC p m c cX12_snowLine 6 s args (Cond.code yX12_snowLine cX12_snowLine 6 (some .int) :: UW) RX12 meth D vwCl (tyA dA) (zA ad NM sz) NM ad (celM ad dA)) (hE : zE zX0 (zA ad NM sz) s s.heap) (hr : meth.sig.returnType = (some .int)) (hinj : ∀ i j, i < NM → j < NM → ad i = ad j → i = j) : ∀ (n : Nat) (σ : zSt) (x1 : Int) (x2 : Int) (x3 : Int), fX12_snowLine_B29 K n σ x1 x2 x3 → zAt p l e ({ frames := 2, cells := 0, slots := 0, locals := 43 } : Room) s m args below meth c 0 0 (MQ below (va_Qi (zPi K) (zB D vwCl (tyA dA) NM ad (celM ad dA)) (zA ad NM sz)) args s 0 0 (zA ad NM sz)) 6 D vwCl (zA ad NM sz) NM ad (celM ad dA) 29 [(0, vR ad 0), (1, vI x1), (2, vI x2), (3, vI x3)] [] σ := by
  intro n
  induction n with
  | zero => intro σ x1 x2 x3  hf; exact False.elim hf
  | succ n ih =>
    intro σ x1 x2 x3  hf
    rw [uX12_snowLine_B29] at hf
    refine z_iload_n hC dX12_snowLine_29 3 rfl rfl ?_
    refine z_aload_n hC dX12_snowLine_30 0 rfl rfl ?_
    refine z_get hC (fun w h => uT _ w (uL12 w h)) (oM_12 (show kM 0 = 12 by decide)) 0 (by decide) (uT _ _ u1545) rfl rfl dX12_snowLine_31 ?_
    refine z_iconst hC dX12_snowLine_34 ?_
    refine z_iaload hC (aM_30 (show kM 1 = 30 by decide)) ⟨by decide, by decide⟩ dX12_snowLine_35 ?_
    obtain ⟨g6, hf⟩ := hf
    obtain ⟨g7, hf⟩ := hf
    refine z_icmp_ge (tgt := 105) hC dX12_snowLine_36 (by decide) g6 g7 (fun hc => ?_) (fun hc => ?_)
    · replace hf := hf.1 hc
      refine z_aload_n hC dX12_snowLine_105 0 rfl rfl ?_
      refine z_get hC (fun w h => uT _ w (uL12 w h)) (oM_12 (show kM 0 = 12 by decide)) 0 (by decide) (uT _ _ u1545) rfl rfl dX12_snowLine_106 ?_
      refine z_iconst hC dX12_snowLine_109 ?_
      refine z_iaload hC (aM_30 (show kM 1 = 30 by decide)) ⟨by decide, by decide⟩ dX12_snowLine_110 ?_
      exact z_iret hC hr rfl dX12_snowLine_111 hf
    · replace hf := hf.2 hc
      refine z_iconst hC dX12_snowLine_39 ?_
      refine z_istore hC ([(4, vI 0), (0, vR ad 0), (1, vI x1), (2, vI x2), (3, vI x3)]) dX12_snowLine_40 (by decide) rfl ?_
      refine z_iconst hC dX12_snowLine_42 ?_
      refine z_istore hC ([(5, vI 0), (4, vI 0), (0, vR ad 0), (1, vI x1), (2, vI x2), (3, vI x3)]) dX12_snowLine_43 (by decide) rfl ?_
      refine z_sub (lv' := [(0, vR ad 0), (1, vI x1), (2, vI x2), (3, vI x3), (4, vI 0), (5, vI 0)]) [2, 3, 4, 5, 1, 0] rfl ?_
      obtain ⟨n, hf⟩ := hf
      exact wX12_snowLine_B45 hC hE hr hinj ih n _ _ _ _ _ _ hf
set_option maxHeartbeats 4000000 in
set_option maxRecDepth 100000 in
theorem mX12_snowLine {D : va_G} {dA : Nat → ClassId} {ad : Nat → Nat}  (l : Launch) (hinj : ∀ i j, i < NM → j < NM → ad i = ad j → i = j) (sz : Nat) {K : Int → zSt → Prop} {σ : zSt} {x1 : Int} {x2 : Int} (hf : fX12_snowLine K σ x1 x2) : Met l yX12_snowLine (Cond.code yX12_snowLine cX12_snowLine 6 (some .int) :: UW) ({ frames := 2, cells := 0, slots := 0, locals := 43 } : Room) (va_Pc [vR ad 0, vI x1, vI x2] (zPre D vwCl (tyA dA) zX0 NM ad (celM ad dA) sz σ)) (va_Qi (zPi K) (zB D vwCl (tyA dA) NM ad (celM ad dA)) (zA ad NM sz)) 0 0 (zA ad NM sz) := by
  refine z_enter (cc := cX12_snowLine) (maxL := 6) (ret := (some .int)) (vs := [vR ad 0, vI x1, vI x2]) (plainFor_of_name (by decide)) rfl hinj (Nat.le_of_ble_eq_true rfl) ?_
  intro p e s m args below meth c hC hE hsz hr hnm
  show zAt p l e ({ frames := 2, cells := 0, slots := 0, locals := 43 } : Room) s m args below meth c 0 0 (MQ below (va_Qi (zPi K) (zB D vwCl (tyA dA) NM ad (celM ad dA)) (zA ad NM sz)) args s 0 0 (zA ad NM sz)) 6 D vwCl (zA ad NM sz) NM ad (celM ad dA) 0 [(0, vR ad 0), (1, vI x1), (2, vI x2)] [] σ
  refine z_aload_n hC dX12_snowLine_0 0 rfl rfl ?_
  refine z_aload_n hC dX12_snowLine_1 0 rfl rfl ?_
  refine z_iload_n hC dX12_snowLine_2 1 rfl rfl ?_
  refine z_callVi hC hE (oM_12 (show kM 0 = 12 by decide)) [vI x1] (fun sz2 => mX12_isFrame l hinj sz2 hf) (cwV 1 hC.1.2.2.2.2 (uV (uT _) u1829 u1831 u57 u118 u1832) rfl rfl rfl (by decide +kernel) ⟨Nat.le_of_ble_eq_true rfl, Nat.le_of_ble_eq_true rfl⟩) rfl rfl (Nat.le_of_ble_eq_true rfl) ⟨Nat.le_of_ble_eq_true rfl, Nat.le_of_ble_eq_true rfl⟩ dX12_snowLine_3 (fun r1 σ1 hf => ?_)
  refine z_callVi hC hE (oM_12 (show kM 0 = 12 by decide)) [vI r1] (fun sz2 => mX12_fails l hinj sz2 hf) (cwV 1 hC.1.2.2.2.2 (uV (uT _) u1833 u1835 u58 u118 u1836) rfl rfl rfl (by decide +kernel) ⟨Nat.le_of_ble_eq_true rfl, Nat.le_of_ble_eq_true rfl⟩) rfl rfl (Nat.le_of_ble_eq_true rfl) ⟨Nat.le_of_ble_eq_true rfl, Nat.le_of_ble_eq_true rfl⟩ dX12_snowLine_6 (fun r2 σ2 hf => ?_)
  obtain ⟨g3, hf⟩ := hf
  refine z_if_eq (tgt := 14) hC dX12_snowLine_9 (by decide) g3 (fun hc => ?_) (fun hc => ?_)
  · replace hf := hf.1 hc
    refine z_iload_n hC dX12_snowLine_14 2 rfl rfl ?_
    refine z_iconst hC dX12_snowLine_15 ?_
    refine z_bipush hC dX12_snowLine_16 (by decide) ?_
    refine z_callSi hC hE [vI x2, vI 0, vI 9] (fun sz2 => mX12_inRange l hinj sz2 hf) (va_cwS 3 hC.1.2.2.2.2 (uS (uT _) u1700 u1701 u118 u1702) rfl rfl rfl (by decide +kernel) ⟨Nat.le_of_ble_eq_true rfl, Nat.le_of_ble_eq_true rfl⟩) rfl rfl (Nat.le_of_ble_eq_true rfl) ⟨Nat.le_of_ble_eq_true rfl, Nat.le_of_ble_eq_true rfl⟩ dX12_snowLine_18 (fun r4 σ4 hf => ?_)
    obtain ⟨g5, hf⟩ := hf
    refine z_if_ne (tgt := 27) hC dX12_snowLine_21 (by decide) g5 (fun hc => ?_) (fun hc => ?_)
    · replace hf := hf.2 hc
      refine z_iconst hC dX12_snowLine_27 ?_
      refine z_istore_n hC ([(3, vI 0), (0, vR ad 0), (1, vI x1), (2, vI x2)]) dX12_snowLine_28 rfl (by decide) rfl ?_
      refine z_sub (lv' := [(0, vR ad 0), (1, vI x1), (2, vI x2), (3, vI 0)]) [1, 2, 3, 0] rfl ?_
      obtain ⟨n, hf⟩ := hf
      exact wX12_snowLine_B29 hC hE hr hinj n _ _ _ _ hf
    · replace hf := hf.1 hc
      refine z_bipush hC dX12_snowLine_24 (by decide) ?_
      exact z_iret hC hr rfl dX12_snowLine_26 hf
  · replace hf := hf.2 hc
    refine z_iconst hC dX12_snowLine_12 ?_
    exact z_iret hC hr rfl dX12_snowLine_13 hf

-- ===== X12_distanceIn
def fX12_distanceIn (K : Int → zSt → Prop) (σ : zSt) (x1 : Int) : Prop :=
  fX12_trueX (fun r1 σ1 => (0 ≤ x1 ∧ x1 < 6) ∧ fX12_trueY (fun r3 σ3 => fX12_rootOf (fun r4 σ4 => K r4 σ4) σ3 (10000 * (((r1 - (σ1 20 x1)) * (r1 - (σ1 20 x1))) + ((r3 - (σ3 21 x1)) * (r3 - (σ3 21 x1)))))) σ1 x1) σ x1
set_option maxHeartbeats 4000000 in
set_option maxRecDepth 100000 in
theorem mX12_distanceIn {D : va_G} {dA : Nat → ClassId} {ad : Nat → Nat}  (l : Launch) (hinj : ∀ i j, i < NM → j < NM → ad i = ad j → i = j) (sz : Nat) {K : Int → zSt → Prop} {σ : zSt} {x1 : Int} (hf : fX12_distanceIn K σ x1) : Met l yX12_distanceIn (Cond.code yX12_distanceIn cX12_distanceIn 4 (some .int) :: UW) ({ frames := 1, cells := 0, slots := 0, locals := 23 } : Room) (va_Pc [vR ad 0, vI x1] (zPre D vwCl (tyA dA) zX0 NM ad (celM ad dA) sz σ)) (va_Qi (zPi K) (zB D vwCl (tyA dA) NM ad (celM ad dA)) (zA ad NM sz)) 0 0 (zA ad NM sz) := by
  refine z_enter (cc := cX12_distanceIn) (maxL := 4) (ret := (some .int)) (vs := [vR ad 0, vI x1]) (plainFor_of_name (by decide)) rfl hinj (Nat.le_of_ble_eq_true rfl) ?_
  intro p e s m args below meth c hC hE hsz hr hnm
  show zAt p l e ({ frames := 1, cells := 0, slots := 0, locals := 23 } : Room) s m args below meth c 0 0 (MQ below (va_Qi (zPi K) (zB D vwCl (tyA dA) NM ad (celM ad dA)) (zA ad NM sz)) args s 0 0 (zA ad NM sz)) 4 D vwCl (zA ad NM sz) NM ad (celM ad dA) 0 [(0, vR ad 0), (1, vI x1)] [] σ
  refine z_aload_n hC dX12_distanceIn_0 0 rfl rfl ?_
  refine z_iload_n hC dX12_distanceIn_1 1 rfl rfl ?_
  refine z_callVi hC hE (oM_12 (show kM 0 = 12 by decide)) [vI x1] (fun sz2 => mX12_trueX l hinj sz2 hf) (cwV 1 hC.1.2.2.2.2 (uV (uT _) u2024 u2026 u84 u118 u2027) rfl rfl rfl (by decide +kernel) ⟨Nat.le_of_ble_eq_true rfl, Nat.le_of_ble_eq_true rfl⟩) rfl rfl (Nat.le_of_ble_eq_true rfl) ⟨Nat.le_of_ble_eq_true rfl, Nat.le_of_ble_eq_true rfl⟩ dX12_distanceIn_2 (fun r1 σ1 hf => ?_)
  refine z_aload_n hC dX12_distanceIn_5 0 rfl rfl ?_
  refine z_get hC (fun w h => uT _ w (uL12 w h)) (oM_12 (show kM 0 = 12 by decide)) 40 (by decide) (uT _ _ u1585) rfl rfl dX12_distanceIn_6 ?_
  refine z_iload_n hC dX12_distanceIn_9 1 rfl rfl ?_
  obtain ⟨g2, hf⟩ := hf
  refine z_iaload hC (aM_34 (show kM 20 = 34 by decide)) g2 dX12_distanceIn_10 ?_
  refine z_isub hC dX12_distanceIn_11 ?_
  refine z_istore_n hC ([(2, vI (r1 - (σ1 20 x1))), (0, vR ad 0), (1, vI x1)]) dX12_distanceIn_12 rfl (by decide) rfl ?_
  refine z_aload_n hC dX12_distanceIn_13 1 rfl rfl ?_
  refine z_iload_n hC dX12_distanceIn_14 2 rfl rfl ?_
  refine z_callVi hC hE (oM_12 (show kM 0 = 12 by decide)) [vI x1] (fun sz2 => mX12_trueY l hinj sz2 hf) (cwV 1 hC.1.2.2.2.2 (uV (uT _) u2028 u2030 u85 u118 u2031) rfl rfl rfl (by decide +kernel) ⟨Nat.le_of_ble_eq_true rfl, Nat.le_of_ble_eq_true rfl⟩) rfl rfl (Nat.le_of_ble_eq_true rfl) ⟨Nat.le_of_ble_eq_true rfl, Nat.le_of_ble_eq_true rfl⟩ dX12_distanceIn_15 (fun r3 σ3 hf => ?_)
  refine z_aload_n hC dX12_distanceIn_18 1 rfl rfl ?_
  refine z_get hC (fun w h => uT _ w (uL12 w h)) (oM_12 (show kM 0 = 12 by decide)) 41 (by decide) (uT _ _ u1586) rfl rfl dX12_distanceIn_19 ?_
  refine z_iload_n hC dX12_distanceIn_22 2 rfl rfl ?_
  refine z_iaload hC (aM_34 (show kM 21 = 34 by decide)) g2 dX12_distanceIn_23 ?_
  refine z_isub hC dX12_distanceIn_24 ?_
  refine z_istore_n hC ([(3, vI (r3 - (σ3 21 x1))), (2, vI (r1 - (σ1 20 x1))), (0, vR ad 0), (1, vI x1)]) dX12_distanceIn_25 rfl (by decide) rfl ?_
  refine z_sipush hC dX12_distanceIn_26 (by decide) ?_
  refine z_iload_n hC dX12_distanceIn_29 1 rfl rfl ?_
  refine z_iload_n hC dX12_distanceIn_30 1 rfl rfl ?_
  refine z_imul hC dX12_distanceIn_31 ?_
  refine z_iload_n hC dX12_distanceIn_32 0 rfl rfl ?_
  refine z_iload_n hC dX12_distanceIn_33 0 rfl rfl ?_
  refine z_imul hC dX12_distanceIn_34 ?_
  refine z_iadd hC dX12_distanceIn_35 ?_
  refine z_imul hC dX12_distanceIn_36 ?_
  refine z_callSi hC hE [vI (10000 * (((r1 - (σ1 20 x1)) * (r1 - (σ1 20 x1))) + ((r3 - (σ3 21 x1)) * (r3 - (σ3 21 x1)))))] (fun sz2 => mX12_rootOf l hinj sz2 hf) (va_cwS 1 hC.1.2.2.2.2 (uS (uT _) u2032 u2033 u118 u2034) rfl rfl rfl (by decide +kernel) ⟨Nat.le_of_ble_eq_true rfl, Nat.le_of_ble_eq_true rfl⟩) rfl rfl (Nat.le_of_ble_eq_true rfl) ⟨Nat.le_of_ble_eq_true rfl, Nat.le_of_ble_eq_true rfl⟩ dX12_distanceIn_37 (fun r4 σ4 hf => ?_)
  exact z_iret hC hr rfl dX12_distanceIn_40 hf

-- ===== X12_strain
def fX12_strain_B87 (K : Int → zSt → Prop) (k42 : zSt → Int → Int → Prop) (σ : zSt) (x1 : Int) (x3 : Int) (s0 : Int) (s1 : Int) : Prop :=
  (0 ≤ s1 ∧ s1 < 6) ∧ ∀ σ29, σ29 = zu σ 20 s1 s0 → (0 ≤ x3 ∧ x3 < 6) ∧ zrg (σ29 9 x3) ∧ ((σ29 9 x3 = 0 → ∀ σ32, σ32 = zu σ29 21 x3 0 → k42 σ32 x1 (x3 + 1)) ∧ (¬ σ29 9 x3 = 0 → fX12_trueY (fun r33 σ33 => ∀ σ34, σ34 = zu σ33 21 x3 r33 → k42 σ34 x1 (x3 + 1)) σ29 x3))
noncomputable def fX12_strain_B136 (K : Int → zSt → Prop) (n : Nat) : zSt → Int → Int → Int → Prop :=
  Nat.rec (motive := fun _ => zSt → Int → Int → Int → Prop) (fun _ _ _ _ => False) (fun _ ih σ x3 x4 x5 => zrg x5 ∧ zrg (σ 1 2) ∧ ((σ 1 2 ≤ x5 → zrg x3 ∧ zrg x4 ∧ ((x3 = x4 → K (-2147483648) σ) ∧ (¬ x3 = x4 → fX12_distanceIn (fun r22 σ22 => fX12_distanceIn (fun r23 σ23 => K (r22 - r23) σ23) σ22 x3) σ x4))) ∧ (¬ σ 1 2 ≤ x5 → (0 ≤ x5 ∧ x5 < 6) ∧ zrg (σ 9 x5) ∧ ((σ 9 x5 = 0 → ih σ x3 x4 (x5 + 1)) ∧ (¬ σ 9 x5 = 0 → zrg (σ 19 x5) ∧ ((σ 19 x5 = 0 → ih σ x3 x4 (x5 + 1)) ∧ (¬ σ 19 x5 = 0 → zrg x3 ∧ ((0 ≤ x3 → ih σ x3 x5 (x5 + 1)) ∧ (¬ 0 ≤ x3 → ih σ x5 x5 (x5 + 1)))))))))) n
theorem uX12_strain_B136 (K : Int → zSt → Prop) (n0 : Nat) (σ : zSt) (x3 : Int) (x4 : Int) (x5 : Int) : fX12_strain_B136 K (n0 + 1) σ x3 x4 x5 = (zrg x5 ∧ zrg (σ 1 2) ∧ ((σ 1 2 ≤ x5 → zrg x3 ∧ zrg x4 ∧ ((x3 = x4 → K (-2147483648) σ) ∧ (¬ x3 = x4 → fX12_distanceIn (fun r22 σ22 => fX12_distanceIn (fun r23 σ23 => K (r22 - r23) σ23) σ22 x3) σ x4))) ∧ (¬ σ 1 2 ≤ x5 → (0 ≤ x5 ∧ x5 < 6) ∧ zrg (σ 9 x5) ∧ ((σ 9 x5 = 0 → (fX12_strain_B136 K n0) σ x3 x4 (x5 + 1)) ∧ (¬ σ 9 x5 = 0 → zrg (σ 19 x5) ∧ ((σ 19 x5 = 0 → (fX12_strain_B136 K n0) σ x3 x4 (x5 + 1)) ∧ (¬ σ 19 x5 = 0 → zrg x3 ∧ ((0 ≤ x3 → (fX12_strain_B136 K n0) σ x3 x5 (x5 + 1)) ∧ (¬ 0 ≤ x3 → (fX12_strain_B136 K n0) σ x5 x5 (x5 + 1)))))))))) := rfl
noncomputable def fX12_strain_B42 (K : Int → zSt → Prop) (n : Nat) : zSt → Int → Int → Prop :=
  Nat.rec (motive := fun _ => zSt → Int → Int → Prop) (fun _ _ _ => False) (fun _ ih σ x1 x3 => zrg x3 ∧ zrg (σ 1 2) ∧ ((σ 1 2 ≤ x3 → fX12_setting (fun r11 σ11 => fX12_track (fun σ12 => (∃ n, fX12_strain_B136 K n σ12 (-1) (-1) 0)) σ11 x1 r11) σ 4) ∧ (¬ σ 1 2 ≤ x3 → (0 ≤ x3 ∧ x3 < 6) ∧ (σ 9 x3 = 0 ∨ σ 9 x3 = 1) ∧ ∀ σ15, σ15 = zu σ 19 x3 (σ 9 x3) → zrg (σ15 9 x3) ∧ ((σ15 9 x3 = 0 → fX12_strain_B87 K ih σ15 x1 x3 0 x3) ∧ (¬ σ15 9 x3 = 0 → fX12_trueX (fun r17 σ17 => fX12_strain_B87 K ih σ17 x1 x3 r17 x3) σ15 x3))))) n
theorem uX12_strain_B42 (K : Int → zSt → Prop) (n0 : Nat) (σ : zSt) (x1 : Int) (x3 : Int) : fX12_strain_B42 K (n0 + 1) σ x1 x3 = (zrg x3 ∧ zrg (σ 1 2) ∧ ((σ 1 2 ≤ x3 → fX12_setting (fun r11 σ11 => fX12_track (fun σ12 => (∃ n, fX12_strain_B136 K n σ12 (-1) (-1) 0)) σ11 x1 r11) σ 4) ∧ (¬ σ 1 2 ≤ x3 → (0 ≤ x3 ∧ x3 < 6) ∧ (σ 9 x3 = 0 ∨ σ 9 x3 = 1) ∧ ∀ σ15, σ15 = zu σ 19 x3 (σ 9 x3) → zrg (σ15 9 x3) ∧ ((σ15 9 x3 = 0 → fX12_strain_B87 K (fX12_strain_B42 K n0) σ15 x1 x3 0 x3) ∧ (¬ σ15 9 x3 = 0 → fX12_trueX (fun r17 σ17 => fX12_strain_B87 K (fX12_strain_B42 K n0) σ17 x1 x3 r17 x3) σ15 x3))))) := rfl
def fX12_strain_B22 (K : Int → zSt → Prop) (σ : zSt) (x1 : Int) (x2 : Int) (s0 : Int) : Prop :=
  fX12_fails (fun r5 σ5 => zrg r5 ∧ ((r5 = 0 → fX12_setting (fun r7 σ7 => fX12_track (fun σ8 => (∃ n, fX12_strain_B42 K n σ8 x1 0)) σ7 x2 r7) σ5 4) ∧ (¬ r5 = 0 → K 0 σ5))) σ s0
def fX12_strain_B21 (K : Int → zSt → Prop) (σ : zSt) (x1 : Int) (x2 : Int) : Prop :=
  fX12_strain_B22 K σ x1 x2 0
def fX12_strain (K : Int → zSt → Prop) (σ : zSt) (x1 : Int) (x2 : Int) : Prop :=
  fX12_isFeature (fun r1 σ1 => zrg r1 ∧ ((r1 = 0 → fX12_strain_B21 K σ1 x1 x2) ∧ (¬ r1 = 0 → fX12_isFeature (fun r3 σ3 => zrg r3 ∧ ((r3 = 0 → fX12_strain_B21 K σ3 x1 x2) ∧ (¬ r3 = 0 → fX12_strain_B22 K σ3 x1 x2 1))) σ1 x2))) σ x1
set_option maxHeartbeats 4000000 in
set_option maxRecDepth 100000 in
theorem wX12_strain_B87 {p : Program} {l : Launch} {e : Env} {s : State} {m : MethodId} {args : Array Value} {below : List Frame} {meth : Method} {c : Code} {D : va_G} {dA : Nat → ClassId} {ad : Nat → Nat} {sz : Nat}  {K : Int → zSt → Prop} {k42 : zSt → Int → Int → Prop} (hC : zC p m c cX12_strain 6 s args (Cond.code yX12_strain cX12_strain 6 (some .int) :: UW) RX12 meth D vwCl (tyA dA) (zA ad NM sz) NM ad (celM ad dA)) (hE : zE zX0 (zA ad NM sz) s s.heap) (hr : meth.sig.returnType = (some .int)) (hinj : ∀ i j, i < NM → j < NM → ad i = ad j → i = j) (hk42 : ∀ (σ : zSt) (x1 : Int) (x3 : Int), k42 σ x1 x3 → zAt p l e ({ frames := 6, cells := 0, slots := 0, locals := 152 } : Room) s m args below meth c 0 0 (MQ below (va_Qi (zPi K) (zB D vwCl (tyA dA) NM ad (celM ad dA)) (zA ad NM sz)) args s 0 0 (zA ad NM sz)) 6 D vwCl (zA ad NM sz) NM ad (celM ad dA) 42 [(0, vR ad 0), (1, vI x1), (3, vI x3)] [] σ) {σ : zSt} {x1 : Int} {x3 : Int} {s0 : Int} {s1 : Int} (hf : fX12_strain_B87 K k42 σ x1 x3 s0 s1) : zAt p l e ({ frames := 6, cells := 0, slots := 0, locals := 152 } : Room) s m args below meth c 0 0 (MQ below (va_Qi (zPi K) (zB D vwCl (tyA dA) NM ad (celM ad dA)) (zA ad NM sz)) args s 0 0 (zA ad NM sz)) 6 D vwCl (zA ad NM sz) NM ad (celM ad dA) 87 [(0, vR ad 0), (1, vI x1), (3, vI x3)] [vI s0, vI s1, vR ad 20] σ := by
  obtain ⟨g28, hf⟩ := hf
  refine z_iastore hC (aM_34 (show kM 20 = 34 by decide)) (loM' (show kM 20 = 34 by decide) (by decide)) g28 dX12_strain_87 ?_
  obtain ⟨σ29, eσ29⟩ : ∃ z : zSt, z = zu σ 20 s1 s0 := ⟨_, rfl⟩
  rw [← eσ29]
  replace hf := hf σ29 eσ29
  refine z_aload_n hC dX12_strain_88 0 rfl rfl ?_
  refine z_get hC (fun w h => uT _ w (uL12 w h)) (oM_12 (show kM 0 = 12 by decide)) 41 (by decide) (uT _ _ u1586) rfl rfl dX12_strain_89 ?_
  refine z_iload_n hC dX12_strain_92 2 rfl rfl ?_
  refine z_aload_n hC dX12_strain_93 0 rfl rfl ?_
  refine z_get hC (fun w h => uT _ w (uL12 w h)) (oM_12 (show kM 0 = 12 by decide)) 26 (by decide) (uT _ _ u1571) rfl rfl dX12_strain_94 ?_
  refine z_iload_n hC dX12_strain_97 2 rfl rfl ?_
  obtain ⟨g30, hf⟩ := hf
  refine z_zaload hC (aM_33 (show kM 9 = 33 by decide)) g30 dX12_strain_98 ?_
  obtain ⟨g31, hf⟩ := hf
  refine z_if_eq (tgt := 110) hC dX12_strain_99 (by decide) g31 (fun hc => ?_) (fun hc => ?_)
  · replace hf := hf.1 hc
    refine z_iconst hC dX12_strain_110 ?_
    refine z_iastore hC (aM_34 (show kM 21 = 34 by decide)) (loM' (show kM 21 = 34 by decide) (by decide)) g30 dX12_strain_111 ?_
    obtain ⟨σ32, eσ32⟩ : ∃ z : zSt, z = zu σ29 21 x3 0 := ⟨_, rfl⟩
    rw [← eσ32]
    replace hf := hf σ32 eσ32
    refine z_iinc hC ([(3, vI (x3 + 1)), (0, vR ad 0), (1, vI x1)]) dX12_strain_112 2 rfl (by decide) rfl ?_
    refine z_goto (tgt := 42) hC dX12_strain_115 (by decide) ?_
    refine z_sub (lv' := [(0, vR ad 0), (1, vI x1), (3, vI (x3 + 1))]) [1, 2, 0] rfl ?_
    exact hk42 _ _ _ hf
  · replace hf := hf.2 hc
    refine z_aload_n hC dX12_strain_102 0 rfl rfl ?_
    refine z_iload_n hC dX12_strain_103 2 rfl rfl ?_
    refine z_callVi hC hE (oM_12 (show kM 0 = 12 by decide)) [vI x3] (fun sz2 => mX12_trueY l hinj sz2 hf) (cwV 1 hC.1.2.2.2.2 (uV (uT _) u2028 u2030 u85 u118 u2031) rfl rfl rfl (by decide +kernel) ⟨Nat.le_of_ble_eq_true rfl, Nat.le_of_ble_eq_true rfl⟩) rfl rfl (Nat.le_of_ble_eq_true rfl) ⟨Nat.le_of_ble_eq_true rfl, Nat.le_of_ble_eq_true rfl⟩ dX12_strain_104 (fun r33 σ33 hf => ?_)
    refine z_goto (tgt := 111) hC dX12_strain_107 (by decide) ?_
    refine z_iastore hC (aM_34 (show kM 21 = 34 by decide)) (loM' (show kM 21 = 34 by decide) (by decide)) g30 dX12_strain_111 ?_
    obtain ⟨σ34, eσ34⟩ : ∃ z : zSt, z = zu σ33 21 x3 r33 := ⟨_, rfl⟩
    rw [← eσ34]
    replace hf := hf σ34 eσ34
    refine z_iinc hC ([(3, vI (x3 + 1)), (0, vR ad 0), (1, vI x1)]) dX12_strain_112 2 rfl (by decide) rfl ?_
    refine z_goto (tgt := 42) hC dX12_strain_115 (by decide) ?_
    refine z_sub (lv' := [(0, vR ad 0), (1, vI x1), (3, vI (x3 + 1))]) [1, 2, 0] rfl ?_
    exact hk42 _ _ _ hf
set_option maxHeartbeats 4000000 in
set_option maxRecDepth 100000 in
theorem wX12_strain_B136 {p : Program} {l : Launch} {e : Env} {s : State} {m : MethodId} {args : Array Value} {below : List Frame} {meth : Method} {c : Code} {D : va_G} {dA : Nat → ClassId} {ad : Nat → Nat} {sz : Nat}  {K : Int → zSt → Prop} (hC : zC p m c cX12_strain 6 s args (Cond.code yX12_strain cX12_strain 6 (some .int) :: UW) RX12 meth D vwCl (tyA dA) (zA ad NM sz) NM ad (celM ad dA)) (hE : zE zX0 (zA ad NM sz) s s.heap) (hr : meth.sig.returnType = (some .int)) (hinj : ∀ i j, i < NM → j < NM → ad i = ad j → i = j) : ∀ (n : Nat) (σ : zSt) (x3 : Int) (x4 : Int) (x5 : Int), fX12_strain_B136 K n σ x3 x4 x5 → zAt p l e ({ frames := 6, cells := 0, slots := 0, locals := 152 } : Room) s m args below meth c 0 0 (MQ below (va_Qi (zPi K) (zB D vwCl (tyA dA) NM ad (celM ad dA)) (zA ad NM sz)) args s 0 0 (zA ad NM sz)) 6 D vwCl (zA ad NM sz) NM ad (celM ad dA) 136 [(0, vR ad 0), (3, vI x3), (4, vI x4), (5, vI x5)] [] σ := by
  intro n
  induction n with
  | zero => intro σ x3 x4 x5  hf; exact False.elim hf
  | succ n ih =>
    intro σ x3 x4 x5  hf
    rw [uX12_strain_B136] at hf
    refine z_iload hC dX12_strain_136 3 rfl ?_
    refine z_aload_n hC dX12_strain_138 0 rfl rfl ?_
    refine z_get hC (fun w h => uT _ w (uL12 w h)) (oM_12 (show kM 0 = 12 by decide)) 0 (by decide) (uT _ _ u1545) rfl rfl dX12_strain_139 ?_
    refine z_iconst hC dX12_strain_142 ?_
    refine z_iaload hC (aM_30 (show kM 1 = 30 by decide)) ⟨by decide, by decide⟩ dX12_strain_143 ?_
    obtain ⟨g18, hf⟩ := hf
    obtain ⟨g19, hf⟩ := hf
    refine z_icmp_ge (tgt := 191) hC dX12_strain_144 (by decide) g18 g19 (fun hc => ?_) (fun hc => ?_)
    · replace hf := hf.1 hc
      refine z_iload_n hC dX12_strain_191 1 rfl rfl ?_
      refine z_iload hC dX12_strain_192 2 rfl ?_
      obtain ⟨g20, hf⟩ := hf
      obtain ⟨g21, hf⟩ := hf
      refine z_icmp_ne (tgt := 203) hC dX12_strain_194 (by decide) g20 g21 (fun hc => ?_) (fun hc => ?_)
      · replace hf := hf.2 hc
        refine z_aload_n hC dX12_strain_203 0 rfl rfl ?_
        refine z_iload hC dX12_strain_204 2 rfl ?_
        refine z_callVi hC hE (oM_12 (show kM 0 = 12 by decide)) [vI x4] (fun sz2 => mX12_distanceIn l hinj sz2 hf) (cwV 1 hC.1.2.2.2.2 (uV (uT _) u2217 u2219 u103 u118 u2220) rfl rfl rfl (by decide +kernel) ⟨Nat.le_of_ble_eq_true rfl, Nat.le_of_ble_eq_true rfl⟩) rfl rfl (Nat.le_of_ble_eq_true rfl) ⟨Nat.le_of_ble_eq_true rfl, Nat.le_of_ble_eq_true rfl⟩ dX12_strain_206 (fun r22 σ22 hf => ?_)
        refine z_aload_n hC dX12_strain_209 0 rfl rfl ?_
        refine z_iload_n hC dX12_strain_210 1 rfl rfl ?_
        refine z_callVi hC hE (oM_12 (show kM 0 = 12 by decide)) [vI x3] (fun sz2 => mX12_distanceIn l hinj sz2 hf) (cwV 1 hC.1.2.2.2.2 (uV (uT _) u2217 u2219 u103 u118 u2220) rfl rfl rfl (by decide +kernel) ⟨Nat.le_of_ble_eq_true rfl, Nat.le_of_ble_eq_true rfl⟩) rfl rfl (Nat.le_of_ble_eq_true rfl) ⟨Nat.le_of_ble_eq_true rfl, Nat.le_of_ble_eq_true rfl⟩ dX12_strain_211 (fun r23 σ23 hf => ?_)
        refine z_isub hC dX12_strain_214 ?_
        exact z_iret hC hr rfl dX12_strain_215 hf
      · replace hf := hf.1 hc
        refine z_ldcw hC (n := (-2147483648)) (uT _ _ u2084) (by decide) dX12_strain_197 ?_
        refine z_goto (tgt := 215) hC dX12_strain_200 (by decide) ?_
        exact z_iret hC hr rfl dX12_strain_215 hf
    · replace hf := hf.2 hc
      refine z_aload_n hC dX12_strain_147 0 rfl rfl ?_
      refine z_get hC (fun w h => uT _ w (uL12 w h)) (oM_12 (show kM 0 = 12 by decide)) 26 (by decide) (uT _ _ u1571) rfl rfl dX12_strain_148 ?_
      refine z_iload hC dX12_strain_151 3 rfl ?_
      obtain ⟨g24, hf⟩ := hf
      refine z_zaload hC (aM_33 (show kM 9 = 33 by decide)) g24 dX12_strain_153 ?_
      obtain ⟨g25, hf⟩ := hf
      refine z_if_eq (tgt := 185) hC dX12_strain_154 (by decide) g25 (fun hc => ?_) (fun hc => ?_)
      · replace hf := hf.1 hc
        refine z_iinc hC ([(5, vI (x5 + 1)), (0, vR ad 0), (3, vI x3), (4, vI x4)]) dX12_strain_185 3 rfl (by decide) rfl ?_
        refine z_goto (tgt := 136) hC dX12_strain_188 (by decide) ?_
        refine z_sub (lv' := [(0, vR ad 0), (3, vI x3), (4, vI x4), (5, vI (x5 + 1))]) [1, 2, 3, 0] rfl ?_
        exact ih _ _ _ _ hf
      · replace hf := hf.2 hc
        refine z_aload_n hC dX12_strain_157 0 rfl rfl ?_
        refine z_get hC (fun w h => uT _ w (uL12 w h)) (oM_12 (show kM 0 = 12 by decide)) 39 (by decide) (uT _ _ u1584) rfl rfl dX12_strain_158 ?_
        refine z_iload hC dX12_strain_161 3 rfl ?_
        refine z_zaload hC (aM_33 (show kM 19 = 33 by decide)) g24 dX12_strain_163 ?_
        obtain ⟨g26, hf⟩ := hf
        refine z_if_ne (tgt := 170) hC dX12_strain_164 (by decide) g26 (fun hc => ?_) (fun hc => ?_)
        · replace hf := hf.2 hc
          refine z_iload_n hC dX12_strain_170 1 rfl rfl ?_
          obtain ⟨g27, hf⟩ := hf
          refine z_if_ge (tgt := 179) hC dX12_strain_171 (by decide) g27 (fun hc => ?_) (fun hc => ?_)
          · replace hf := hf.1 hc
            refine z_iload_n hC dX12_strain_179 1 rfl rfl ?_
            refine z_istore_n hC ([(3, vI x3), (0, vR ad 0), (4, vI x4), (5, vI x5)]) dX12_strain_180 rfl (by decide) rfl ?_
            refine z_iload hC dX12_strain_181 3 rfl ?_
            refine z_istore hC ([(4, vI x5), (3, vI x3), (0, vR ad 0), (5, vI x5)]) dX12_strain_183 (by decide) rfl ?_
            refine z_iinc hC ([(5, vI (x5 + 1)), (4, vI x5), (3, vI x3), (0, vR ad 0)]) dX12_strain_185 3 rfl (by decide) rfl ?_
            refine z_goto (tgt := 136) hC dX12_strain_188 (by decide) ?_
            refine z_sub (lv' := [(0, vR ad 0), (3, vI x3), (4, vI x5), (5, vI (x5 + 1))]) [3, 2, 1, 0] rfl ?_
            exact ih _ _ _ _ hf
          · replace hf := hf.2 hc
            refine z_iload hC dX12_strain_174 3 rfl ?_
            refine z_goto (tgt := 180) hC dX12_strain_176 (by decide) ?_
            refine z_istore_n hC ([(3, vI x5), (0, vR ad 0), (4, vI x4), (5, vI x5)]) dX12_strain_180 rfl (by decide) rfl ?_
            refine z_iload hC dX12_strain_181 3 rfl ?_
            refine z_istore hC ([(4, vI x5), (3, vI x5), (0, vR ad 0), (5, vI x5)]) dX12_strain_183 (by decide) rfl ?_
            refine z_iinc hC ([(5, vI (x5 + 1)), (4, vI x5), (3, vI x5), (0, vR ad 0)]) dX12_strain_185 3 rfl (by decide) rfl ?_
            refine z_goto (tgt := 136) hC dX12_strain_188 (by decide) ?_
            refine z_sub (lv' := [(0, vR ad 0), (3, vI x5), (4, vI x5), (5, vI (x5 + 1))]) [3, 2, 1, 0] rfl ?_
            exact ih _ _ _ _ hf
        · replace hf := hf.1 hc
          refine z_goto (tgt := 185) hC dX12_strain_167 (by decide) ?_
          refine z_iinc hC ([(5, vI (x5 + 1)), (0, vR ad 0), (3, vI x3), (4, vI x4)]) dX12_strain_185 3 rfl (by decide) rfl ?_
          refine z_goto (tgt := 136) hC dX12_strain_188 (by decide) ?_
          refine z_sub (lv' := [(0, vR ad 0), (3, vI x3), (4, vI x4), (5, vI (x5 + 1))]) [1, 2, 3, 0] rfl ?_
          exact ih _ _ _ _ hf
set_option maxHeartbeats 4000000 in
set_option maxRecDepth 100000 in
theorem wX12_strain_B42 {p : Program} {l : Launch} {e : Env} {s : State} {m : MethodId} {args : Array Value} {below : List Frame} {meth : Method} {c : Code} {D : va_G} {dA : Nat → ClassId} {ad : Nat → Nat} {sz : Nat}  {K : Int → zSt → Prop} (hC : zC p m c cX12_strain 6 s args (Cond.code yX12_strain cX12_strain 6 (some .int) :: UW) RX12 meth D vwCl (tyA dA) (zA ad NM sz) NM ad (celM ad dA)) (hE : zE zX0 (zA ad NM sz) s s.heap) (hr : meth.sig.returnType = (some .int)) (hinj : ∀ i j, i < NM → j < NM → ad i = ad j → i = j) : ∀ (n : Nat) (σ : zSt) (x1 : Int) (x3 : Int), fX12_strain_B42 K n σ x1 x3 → zAt p l e ({ frames := 6, cells := 0, slots := 0, locals := 152 } : Room) s m args below meth c 0 0 (MQ below (va_Qi (zPi K) (zB D vwCl (tyA dA) NM ad (celM ad dA)) (zA ad NM sz)) args s 0 0 (zA ad NM sz)) 6 D vwCl (zA ad NM sz) NM ad (celM ad dA) 42 [(0, vR ad 0), (1, vI x1), (3, vI x3)] [] σ := by
  intro n
  induction n with
  | zero => intro σ x1 x3  hf; exact False.elim hf
  | succ n ih =>
    intro σ x1 x3  hf
    rw [uX12_strain_B42] at hf
    refine z_iload_n hC dX12_strain_42 2 rfl rfl ?_
    refine z_aload_n hC dX12_strain_43 0 rfl rfl ?_
    refine z_get hC (fun w h => uT _ w (uL12 w h)) (oM_12 (show kM 0 = 12 by decide)) 0 (by decide) (uT _ _ u1545) rfl rfl dX12_strain_44 ?_
    refine z_iconst hC dX12_strain_47 ?_
    refine z_iaload hC (aM_30 (show kM 1 = 30 by decide)) ⟨by decide, by decide⟩ dX12_strain_48 ?_
    obtain ⟨g9, hf⟩ := hf
    obtain ⟨g10, hf⟩ := hf
    refine z_icmp_ge (tgt := 118) hC dX12_strain_49 (by decide) g9 g10 (fun hc => ?_) (fun hc => ?_)
    · replace hf := hf.1 hc
      refine z_aload_n hC dX12_strain_118 0 rfl rfl ?_
      refine z_iload_n hC dX12_strain_119 1 rfl rfl ?_
      refine z_aload_n hC dX12_strain_120 0 rfl rfl ?_
      refine z_iconst hC dX12_strain_121 ?_
      refine z_callVi hC hE (oM_12 (show kM 0 = 12 by decide)) [vI 4] (fun sz2 => mX12_setting l hinj sz2 hf) (cwV 1 hC.1.2.2.2.2 (uV (uT _) u1813 u1815 u55 u118 u1816) rfl rfl rfl (by decide +kernel) ⟨Nat.le_of_ble_eq_true rfl, Nat.le_of_ble_eq_true rfl⟩) rfl rfl (Nat.le_of_ble_eq_true rfl) ⟨Nat.le_of_ble_eq_true rfl, Nat.le_of_ble_eq_true rfl⟩ dX12_strain_122 (fun r11 σ11 hf => ?_)
      refine z_callVv hC hE (oM_12 (show kM 0 = 12 by decide)) [vI x1, vI r11] (fun sz2 => mX12_track l hinj sz2 hf) (cwV 2 hC.1.2.2.2.2 (uV (uT _) u1968 u1970 u76 u118 u1971) rfl rfl rfl (by decide +kernel) ⟨Nat.le_of_ble_eq_true rfl, Nat.le_of_ble_eq_true rfl⟩) rfl rfl (Nat.le_of_ble_eq_true rfl) ⟨Nat.le_of_ble_eq_true rfl, Nat.le_of_ble_eq_true rfl⟩ dX12_strain_125 (fun σ12 hf => ?_)
      refine z_iconst hC dX12_strain_128 ?_
      refine z_istore_n hC ([(3, vI (-1)), (0, vR ad 0), (1, vI x1)]) dX12_strain_129 rfl (by decide) rfl ?_
      refine z_iconst hC dX12_strain_130 ?_
      refine z_istore hC ([(4, vI (-1)), (3, vI (-1)), (0, vR ad 0), (1, vI x1)]) dX12_strain_131 (by decide) rfl ?_
      refine z_iconst hC dX12_strain_133 ?_
      refine z_istore hC ([(5, vI 0), (4, vI (-1)), (3, vI (-1)), (0, vR ad 0), (1, vI x1)]) dX12_strain_134 (by decide) rfl ?_
      refine z_sub (lv' := [(0, vR ad 0), (3, vI (-1)), (4, vI (-1)), (5, vI 0)]) [3, 2, 1, 0] rfl ?_
      obtain ⟨n, hf⟩ := hf
      exact wX12_strain_B136 hC hE hr hinj n _ _ _ _ hf
    · replace hf := hf.2 hc
      refine z_aload_n hC dX12_strain_52 0 rfl rfl ?_
      refine z_get hC (fun w h => uT _ w (uL12 w h)) (oM_12 (show kM 0 = 12 by decide)) 39 (by decide) (uT _ _ u1584) rfl rfl dX12_strain_53 ?_
      refine z_iload_n hC dX12_strain_56 2 rfl rfl ?_
      refine z_aload_n hC dX12_strain_57 0 rfl rfl ?_
      refine z_get hC (fun w h => uT _ w (uL12 w h)) (oM_12 (show kM 0 = 12 by decide)) 26 (by decide) (uT _ _ u1571) rfl rfl dX12_strain_58 ?_
      refine z_iload_n hC dX12_strain_61 2 rfl rfl ?_
      obtain ⟨g13, hf⟩ := hf
      refine z_zaload hC (aM_33 (show kM 9 = 33 by decide)) g13 dX12_strain_62 ?_
      obtain ⟨g14, hf⟩ := hf
      refine z_zastore hC (aM_33 (show kM 19 = 33 by decide)) (loM' (show kM 19 = 33 by decide) (by decide)) g13 g14 dX12_strain_63 ?_
      obtain ⟨σ15, eσ15⟩ : ∃ z : zSt, z = zu σ 19 x3 (σ 9 x3) := ⟨_, rfl⟩
      rw [← eσ15]
      replace hf := hf σ15 eσ15
      refine z_aload_n hC dX12_strain_64 0 rfl rfl ?_
      refine z_get hC (fun w h => uT _ w (uL12 w h)) (oM_12 (show kM 0 = 12 by decide)) 40 (by decide) (uT _ _ u1585) rfl rfl dX12_strain_65 ?_
      refine z_iload_n hC dX12_strain_68 2 rfl rfl ?_
      refine z_aload_n hC dX12_strain_69 0 rfl rfl ?_
      refine z_get hC (fun w h => uT _ w (uL12 w h)) (oM_12 (show kM 0 = 12 by decide)) 26 (by decide) (uT _ _ u1571) rfl rfl dX12_strain_70 ?_
      refine z_iload_n hC dX12_strain_73 2 rfl rfl ?_
      refine z_zaload hC (aM_33 (show kM 9 = 33 by decide)) g13 dX12_strain_74 ?_
      obtain ⟨g16, hf⟩ := hf
      refine z_if_eq (tgt := 86) hC dX12_strain_75 (by decide) g16 (fun hc => ?_) (fun hc => ?_)
      · replace hf := hf.1 hc
        refine z_iconst hC dX12_strain_86 ?_
        exact wX12_strain_B87 hC hE hr hinj ih  hf
      · replace hf := hf.2 hc
        refine z_aload_n hC dX12_strain_78 0 rfl rfl ?_
        refine z_iload_n hC dX12_strain_79 2 rfl rfl ?_
        refine z_callVi hC hE (oM_12 (show kM 0 = 12 by decide)) [vI x3] (fun sz2 => mX12_trueX l hinj sz2 hf) (cwV 1 hC.1.2.2.2.2 (uV (uT _) u2024 u2026 u84 u118 u2027) rfl rfl rfl (by decide +kernel) ⟨Nat.le_of_ble_eq_true rfl, Nat.le_of_ble_eq_true rfl⟩) rfl rfl (Nat.le_of_ble_eq_true rfl) ⟨Nat.le_of_ble_eq_true rfl, Nat.le_of_ble_eq_true rfl⟩ dX12_strain_80 (fun r17 σ17 hf => ?_)
        refine z_goto (tgt := 87) hC dX12_strain_83 (by decide) ?_
        exact wX12_strain_B87 hC hE hr hinj ih  hf
set_option maxHeartbeats 4000000 in
set_option maxRecDepth 100000 in
theorem wX12_strain_B22 {p : Program} {l : Launch} {e : Env} {s : State} {m : MethodId} {args : Array Value} {below : List Frame} {meth : Method} {c : Code} {D : va_G} {dA : Nat → ClassId} {ad : Nat → Nat} {sz : Nat}  {K : Int → zSt → Prop} (hC : zC p m c cX12_strain 6 s args (Cond.code yX12_strain cX12_strain 6 (some .int) :: UW) RX12 meth D vwCl (tyA dA) (zA ad NM sz) NM ad (celM ad dA)) (hE : zE zX0 (zA ad NM sz) s s.heap) (hr : meth.sig.returnType = (some .int)) (hinj : ∀ i j, i < NM → j < NM → ad i = ad j → i = j) {σ : zSt} {x1 : Int} {x2 : Int} {s0 : Int} (hf : fX12_strain_B22 K σ x1 x2 s0) : zAt p l e ({ frames := 6, cells := 0, slots := 0, locals := 152 } : Room) s m args below meth c 0 0 (MQ below (va_Qi (zPi K) (zB D vwCl (tyA dA) NM ad (celM ad dA)) (zA ad NM sz)) args s 0 0 (zA ad NM sz)) 6 D vwCl (zA ad NM sz) NM ad (celM ad dA) 22 [(0, vR ad 0), (1, vI x1), (2, vI x2)] [vI s0, vR ad 0] σ := by
  refine z_callVi hC hE (oM_12 (show kM 0 = 12 by decide)) [vI s0] (fun sz2 => mX12_fails l hinj sz2 hf) (cwV 1 hC.1.2.2.2.2 (uV (uT _) u1833 u1835 u58 u118 u1836) rfl rfl rfl (by decide +kernel) ⟨Nat.le_of_ble_eq_true rfl, Nat.le_of_ble_eq_true rfl⟩) rfl rfl (Nat.le_of_ble_eq_true rfl) ⟨Nat.le_of_ble_eq_true rfl, Nat.le_of_ble_eq_true rfl⟩ dX12_strain_22 (fun r5 σ5 hf => ?_)
  obtain ⟨g6, hf⟩ := hf
  refine z_if_eq (tgt := 30) hC dX12_strain_25 (by decide) g6 (fun hc => ?_) (fun hc => ?_)
  · replace hf := hf.1 hc
    refine z_aload_n hC dX12_strain_30 0 rfl rfl ?_
    refine z_iload_n hC dX12_strain_31 2 rfl rfl ?_
    refine z_aload_n hC dX12_strain_32 0 rfl rfl ?_
    refine z_iconst hC dX12_strain_33 ?_
    refine z_callVi hC hE (oM_12 (show kM 0 = 12 by decide)) [vI 4] (fun sz2 => mX12_setting l hinj sz2 hf) (cwV 1 hC.1.2.2.2.2 (uV (uT _) u1813 u1815 u55 u118 u1816) rfl rfl rfl (by decide +kernel) ⟨Nat.le_of_ble_eq_true rfl, Nat.le_of_ble_eq_true rfl⟩) rfl rfl (Nat.le_of_ble_eq_true rfl) ⟨Nat.le_of_ble_eq_true rfl, Nat.le_of_ble_eq_true rfl⟩ dX12_strain_34 (fun r7 σ7 hf => ?_)
    refine z_callVv hC hE (oM_12 (show kM 0 = 12 by decide)) [vI x2, vI r7] (fun sz2 => mX12_track l hinj sz2 hf) (cwV 2 hC.1.2.2.2.2 (uV (uT _) u1968 u1970 u76 u118 u1971) rfl rfl rfl (by decide +kernel) ⟨Nat.le_of_ble_eq_true rfl, Nat.le_of_ble_eq_true rfl⟩) rfl rfl (Nat.le_of_ble_eq_true rfl) ⟨Nat.le_of_ble_eq_true rfl, Nat.le_of_ble_eq_true rfl⟩ dX12_strain_37 (fun σ8 hf => ?_)
    refine z_iconst hC dX12_strain_40 ?_
    refine z_istore_n hC ([(3, vI 0), (0, vR ad 0), (1, vI x1), (2, vI x2)]) dX12_strain_41 rfl (by decide) rfl ?_
    refine z_sub (lv' := [(0, vR ad 0), (1, vI x1), (3, vI 0)]) [1, 2, 0] rfl ?_
    obtain ⟨n, hf⟩ := hf
    exact wX12_strain_B42 hC hE hr hinj n _ _ _ hf
  · replace hf := hf.2 hc
    refine z_iconst hC dX12_strain_28 ?_
    exact z_iret hC hr rfl dX12_strain_29 hf
set_option maxHeartbeats 4000000 in
set_option maxRecDepth 100000 in
theorem wX12_strain_B21 {p : Program} {l : Launch} {e : Env} {s : State} {m : MethodId} {args : Array Value} {below : List Frame} {meth : Method} {c : Code} {D : va_G} {dA : Nat → ClassId} {ad : Nat → Nat} {sz : Nat}  {K : Int → zSt → Prop} (hC : zC p m c cX12_strain 6 s args (Cond.code yX12_strain cX12_strain 6 (some .int) :: UW) RX12 meth D vwCl (tyA dA) (zA ad NM sz) NM ad (celM ad dA)) (hE : zE zX0 (zA ad NM sz) s s.heap) (hr : meth.sig.returnType = (some .int)) (hinj : ∀ i j, i < NM → j < NM → ad i = ad j → i = j) {σ : zSt} {x1 : Int} {x2 : Int} (hf : fX12_strain_B21 K σ x1 x2) : zAt p l e ({ frames := 6, cells := 0, slots := 0, locals := 152 } : Room) s m args below meth c 0 0 (MQ below (va_Qi (zPi K) (zB D vwCl (tyA dA) NM ad (celM ad dA)) (zA ad NM sz)) args s 0 0 (zA ad NM sz)) 6 D vwCl (zA ad NM sz) NM ad (celM ad dA) 21 [(0, vR ad 0), (1, vI x1), (2, vI x2)] [vR ad 0] σ := by
  refine z_iconst hC dX12_strain_21 ?_
  exact wX12_strain_B22 hC hE hr hinj  hf
set_option maxHeartbeats 4000000 in
set_option maxRecDepth 100000 in
theorem mX12_strain {D : va_G} {dA : Nat → ClassId} {ad : Nat → Nat}  (l : Launch) (hinj : ∀ i j, i < NM → j < NM → ad i = ad j → i = j) (sz : Nat) {K : Int → zSt → Prop} {σ : zSt} {x1 : Int} {x2 : Int} (hf : fX12_strain K σ x1 x2) : Met l yX12_strain (Cond.code yX12_strain cX12_strain 6 (some .int) :: UW) ({ frames := 6, cells := 0, slots := 0, locals := 152 } : Room) (va_Pc [vR ad 0, vI x1, vI x2] (zPre D vwCl (tyA dA) zX0 NM ad (celM ad dA) sz σ)) (va_Qi (zPi K) (zB D vwCl (tyA dA) NM ad (celM ad dA)) (zA ad NM sz)) 0 0 (zA ad NM sz) := by
  refine z_enter (cc := cX12_strain) (maxL := 6) (ret := (some .int)) (vs := [vR ad 0, vI x1, vI x2]) (plainFor_of_name (by decide)) rfl hinj (Nat.le_of_ble_eq_true rfl) ?_
  intro p e s m args below meth c hC hE hsz hr hnm
  show zAt p l e ({ frames := 6, cells := 0, slots := 0, locals := 152 } : Room) s m args below meth c 0 0 (MQ below (va_Qi (zPi K) (zB D vwCl (tyA dA) NM ad (celM ad dA)) (zA ad NM sz)) args s 0 0 (zA ad NM sz)) 6 D vwCl (zA ad NM sz) NM ad (celM ad dA) 0 [(0, vR ad 0), (1, vI x1), (2, vI x2)] [] σ
  refine z_aload_n hC dX12_strain_0 0 rfl rfl ?_
  refine z_aload_n hC dX12_strain_1 0 rfl rfl ?_
  refine z_iload_n hC dX12_strain_2 1 rfl rfl ?_
  refine z_callVi hC hE (oM_12 (show kM 0 = 12 by decide)) [vI x1] (fun sz2 => mX12_isFeature l hinj sz2 hf) (cwV 1 hC.1.2.2.2.2 (uV (uT _) u1865 u1867 u62 u118 u1868) rfl rfl rfl (by decide +kernel) ⟨Nat.le_of_ble_eq_true rfl, Nat.le_of_ble_eq_true rfl⟩) rfl rfl (Nat.le_of_ble_eq_true rfl) ⟨Nat.le_of_ble_eq_true rfl, Nat.le_of_ble_eq_true rfl⟩ dX12_strain_3 (fun r1 σ1 hf => ?_)
  obtain ⟨g2, hf⟩ := hf
  refine z_if_eq (tgt := 21) hC dX12_strain_6 (by decide) g2 (fun hc => ?_) (fun hc => ?_)
  · replace hf := hf.1 hc
    exact wX12_strain_B21 hC hE hr hinj  hf
  · replace hf := hf.2 hc
    refine z_aload_n hC dX12_strain_9 0 rfl rfl ?_
    refine z_iload_n hC dX12_strain_10 2 rfl rfl ?_
    refine z_callVi hC hE (oM_12 (show kM 0 = 12 by decide)) [vI x2] (fun sz2 => mX12_isFeature l hinj sz2 hf) (cwV 1 hC.1.2.2.2.2 (uV (uT _) u1865 u1867 u62 u118 u1868) rfl rfl rfl (by decide +kernel) ⟨Nat.le_of_ble_eq_true rfl, Nat.le_of_ble_eq_true rfl⟩) rfl rfl (Nat.le_of_ble_eq_true rfl) ⟨Nat.le_of_ble_eq_true rfl, Nat.le_of_ble_eq_true rfl⟩ dX12_strain_11 (fun r3 σ3 hf => ?_)
    obtain ⟨g4, hf⟩ := hf
    refine z_if_eq (tgt := 21) hC dX12_strain_14 (by decide) g4 (fun hc => ?_) (fun hc => ?_)
    · replace hf := hf.1 hc
      exact wX12_strain_B21 hC hE hr hinj  hf
    · replace hf := hf.2 hc
      refine z_iconst hC dX12_strain_17 ?_
      refine z_goto (tgt := 22) hC dX12_strain_18 (by decide) ?_
      exact wX12_strain_B22 hC hE hr hinj  hf

-- ===== X12_direction
def fX12_direction_B83 (K : Int → zSt → Prop) (σ : zSt) (x2 : Int) (x3 : Int) : Prop :=
  fX12_absolute (fun r12 σ12 => fX12_absolute (fun r13 σ13 => zrg r12 ∧ zrg (2 * r13) ∧ ((r12 ≤ 2 * r13 → fX12_absolute (fun r16 σ16 => fX12_absolute (fun r17 σ17 => zrg r16 ∧ zrg (2 * r17) ∧ ((r16 ≤ 2 * r17 → zrg x2 ∧ ((x2 ≤ 0 → zrg x3 ∧ ((x3 ≤ 0 → K 5 σ17) ∧ (¬ x3 ≤ 0 → K 3 σ17))) ∧ (¬ x2 ≤ 0 → zrg x3 ∧ ((x3 ≤ 0 → K 7 σ17) ∧ (¬ x3 ≤ 0 → K 1 σ17))))) ∧ (¬ r16 ≤ 2 * r17 → zrg x3 ∧ ((x3 ≤ 0 → K 6 σ17) ∧ (¬ x3 ≤ 0 → K 2 σ17))))) σ16 x2) σ13 x3) ∧ (¬ r12 ≤ 2 * r13 → zrg x2 ∧ ((x2 ≤ 0 → K 4 σ13) ∧ (¬ x2 ≤ 0 → K 0 σ13))))) σ12 x3) σ x2
def fX12_direction (K : Int → zSt → Prop) (σ : zSt) (x1 : Int) : Prop :=
  fX12_noSegments (fun r1 σ1 => zrg r1 ∧ ((r1 = 0 → zrg (σ1 0 29) ∧ ((σ1 0 29 = 0 → K (-1) σ1) ∧ (¬ σ1 0 29 = 0 → (0 ≤ (σ1 0 29) - 1 ∧ (σ1 0 29) - 1 < 6) ∧ fX12_trueX (fun r5 σ5 => fX12_trueX (fun r6 σ6 => (0 ≤ (σ6 0 29) - 1 ∧ (σ6 0 29) - 1 < 6) ∧ fX12_trueY (fun r8 σ8 => fX12_trueY (fun r9 σ9 => zrg (r5 - r6) ∧ ((r5 - r6 = 0 → zrg (r8 - r9) ∧ ((r8 - r9 = 0 → K (-1) σ9) ∧ (¬ r8 - r9 = 0 → fX12_direction_B83 K σ9 (r5 - r6) (r8 - r9)))) ∧ (¬ r5 - r6 = 0 → fX12_direction_B83 K σ9 (r5 - r6) (r8 - r9)))) σ8 (σ8 12 0)) σ6 (σ6 13 ((σ6 0 29) - 1))) σ5 (σ5 12 0)) σ1 (σ1 13 ((σ1 0 29) - 1))))) ∧ (¬ r1 = 0 → K 0 σ1))) σ x1
set_option maxHeartbeats 4000000 in
set_option maxRecDepth 100000 in
theorem wX12_direction_B83 {p : Program} {l : Launch} {e : Env} {s : State} {m : MethodId} {args : Array Value} {below : List Frame} {meth : Method} {c : Code} {D : va_G} {dA : Nat → ClassId} {ad : Nat → Nat} {sz : Nat}  {K : Int → zSt → Prop} (hC : zC p m c cX12_direction 4 s args (Cond.code yX12_direction cX12_direction 4 (some .int) :: UW) RX12 meth D vwCl (tyA dA) (zA ad NM sz) NM ad (celM ad dA)) (hE : zE zX0 (zA ad NM sz) s s.heap) (hr : meth.sig.returnType = (some .int)) (hinj : ∀ i j, i < NM → j < NM → ad i = ad j → i = j) {σ : zSt} {x2 : Int} {x3 : Int} (hf : fX12_direction_B83 K σ x2 x3) : zAt p l e ({ frames := 8, cells := 0, slots := 0, locals := 194 } : Room) s m args below meth c 0 0 (MQ below (va_Qi (zPi K) (zB D vwCl (tyA dA) NM ad (celM ad dA)) (zA ad NM sz)) args s 0 0 (zA ad NM sz)) 4 D vwCl (zA ad NM sz) NM ad (celM ad dA) 83 [(2, vI x2), (3, vI x3)] [] σ := by
  refine z_iload_n hC dX12_direction_83 0 rfl rfl ?_
  refine z_callSi hC hE [vI x2] (fun sz2 => mX12_absolute l hinj sz2 hf) (va_cwS 1 hC.1.2.2.2.2 (uS (uT _) u1921 u1922 u118 u1923) rfl rfl rfl (by decide +kernel) ⟨Nat.le_of_ble_eq_true rfl, Nat.le_of_ble_eq_true rfl⟩) rfl rfl (Nat.le_of_ble_eq_true rfl) ⟨Nat.le_of_ble_eq_true rfl, Nat.le_of_ble_eq_true rfl⟩ dX12_direction_84 (fun r12 σ12 hf => ?_)
  refine z_iconst hC dX12_direction_87 ?_
  refine z_iload_n hC dX12_direction_88 1 rfl rfl ?_
  refine z_callSi hC hE [vI x3] (fun sz2 => mX12_absolute l hinj sz2 hf) (va_cwS 1 hC.1.2.2.2.2 (uS (uT _) u1921 u1922 u118 u1923) rfl rfl rfl (by decide +kernel) ⟨Nat.le_of_ble_eq_true rfl, Nat.le_of_ble_eq_true rfl⟩) rfl rfl (Nat.le_of_ble_eq_true rfl) ⟨Nat.le_of_ble_eq_true rfl, Nat.le_of_ble_eq_true rfl⟩ dX12_direction_89 (fun r13 σ13 hf => ?_)
  refine z_imul hC dX12_direction_92 ?_
  obtain ⟨g14, hf⟩ := hf
  obtain ⟨g15, hf⟩ := hf
  refine z_icmp_le (tgt := 106) hC dX12_direction_93 (by decide) g14 g15 (fun hc => ?_) (fun hc => ?_)
  · replace hf := hf.1 hc
    refine z_iload_n hC dX12_direction_106 1 rfl rfl ?_
    refine z_callSi hC hE [vI x3] (fun sz2 => mX12_absolute l hinj sz2 hf) (va_cwS 1 hC.1.2.2.2.2 (uS (uT _) u1921 u1922 u118 u1923) rfl rfl rfl (by decide +kernel) ⟨Nat.le_of_ble_eq_true rfl, Nat.le_of_ble_eq_true rfl⟩) rfl rfl (Nat.le_of_ble_eq_true rfl) ⟨Nat.le_of_ble_eq_true rfl, Nat.le_of_ble_eq_true rfl⟩ dX12_direction_107 (fun r16 σ16 hf => ?_)
    refine z_iconst hC dX12_direction_110 ?_
    refine z_iload_n hC dX12_direction_111 0 rfl rfl ?_
    refine z_callSi hC hE [vI x2] (fun sz2 => mX12_absolute l hinj sz2 hf) (va_cwS 1 hC.1.2.2.2.2 (uS (uT _) u1921 u1922 u118 u1923) rfl rfl rfl (by decide +kernel) ⟨Nat.le_of_ble_eq_true rfl, Nat.le_of_ble_eq_true rfl⟩) rfl rfl (Nat.le_of_ble_eq_true rfl) ⟨Nat.le_of_ble_eq_true rfl, Nat.le_of_ble_eq_true rfl⟩ dX12_direction_112 (fun r17 σ17 hf => ?_)
    refine z_imul hC dX12_direction_115 ?_
    obtain ⟨g18, hf⟩ := hf
    obtain ⟨g19, hf⟩ := hf
    refine z_icmp_le (tgt := 130) hC dX12_direction_116 (by decide) g18 g19 (fun hc => ?_) (fun hc => ?_)
    · replace hf := hf.1 hc
      refine z_iload_n hC dX12_direction_130 0 rfl rfl ?_
      obtain ⟨g20, hf⟩ := hf
      refine z_if_le (tgt := 147) hC dX12_direction_131 (by decide) g20 (fun hc => ?_) (fun hc => ?_)
      · replace hf := hf.1 hc
        refine z_iload_n hC dX12_direction_147 1 rfl rfl ?_
        obtain ⟨g21, hf⟩ := hf
        refine z_if_le (tgt := 155) hC dX12_direction_148 (by decide) g21 (fun hc => ?_) (fun hc => ?_)
        · replace hf := hf.1 hc
          refine z_iconst hC dX12_direction_155 ?_
          exact z_iret hC hr rfl dX12_direction_156 hf
        · replace hf := hf.2 hc
          refine z_iconst hC dX12_direction_151 ?_
          refine z_goto (tgt := 156) hC dX12_direction_152 (by decide) ?_
          exact z_iret hC hr rfl dX12_direction_156 hf
      · replace hf := hf.2 hc
        refine z_iload_n hC dX12_direction_134 1 rfl rfl ?_
        obtain ⟨g22, hf⟩ := hf
        refine z_if_le (tgt := 142) hC dX12_direction_135 (by decide) g22 (fun hc => ?_) (fun hc => ?_)
        · replace hf := hf.1 hc
          refine z_bipush hC dX12_direction_142 (by decide) ?_
          refine z_goto (tgt := 156) hC dX12_direction_144 (by decide) ?_
          exact z_iret hC hr rfl dX12_direction_156 hf
        · replace hf := hf.2 hc
          refine z_iconst hC dX12_direction_138 ?_
          refine z_goto (tgt := 156) hC dX12_direction_139 (by decide) ?_
          exact z_iret hC hr rfl dX12_direction_156 hf
    · replace hf := hf.2 hc
      refine z_iload_n hC dX12_direction_119 1 rfl rfl ?_
      obtain ⟨g23, hf⟩ := hf
      refine z_if_le (tgt := 127) hC dX12_direction_120 (by decide) g23 (fun hc => ?_) (fun hc => ?_)
      · replace hf := hf.1 hc
        refine z_bipush hC dX12_direction_127 (by decide) ?_
        exact z_iret hC hr rfl dX12_direction_129 hf
      · replace hf := hf.2 hc
        refine z_iconst hC dX12_direction_123 ?_
        refine z_goto (tgt := 129) hC dX12_direction_124 (by decide) ?_
        exact z_iret hC hr rfl dX12_direction_129 hf
  · replace hf := hf.2 hc
    refine z_iload_n hC dX12_direction_96 0 rfl rfl ?_
    obtain ⟨g24, hf⟩ := hf
    refine z_if_le (tgt := 104) hC dX12_direction_97 (by decide) g24 (fun hc => ?_) (fun hc => ?_)
    · replace hf := hf.1 hc
      refine z_iconst hC dX12_direction_104 ?_
      exact z_iret hC hr rfl dX12_direction_105 hf
    · replace hf := hf.2 hc
      refine z_iconst hC dX12_direction_100 ?_
      refine z_goto (tgt := 105) hC dX12_direction_101 (by decide) ?_
      exact z_iret hC hr rfl dX12_direction_105 hf
set_option maxHeartbeats 4000000 in
set_option maxRecDepth 100000 in
theorem mX12_direction {D : va_G} {dA : Nat → ClassId} {ad : Nat → Nat}  (l : Launch) (hinj : ∀ i j, i < NM → j < NM → ad i = ad j → i = j) (sz : Nat) {K : Int → zSt → Prop} {σ : zSt} {x1 : Int} (hf : fX12_direction K σ x1) : Met l yX12_direction (Cond.code yX12_direction cX12_direction 4 (some .int) :: UW) ({ frames := 8, cells := 0, slots := 0, locals := 194 } : Room) (va_Pc [vR ad 0, vI x1] (zPre D vwCl (tyA dA) zX0 NM ad (celM ad dA) sz σ)) (va_Qi (zPi K) (zB D vwCl (tyA dA) NM ad (celM ad dA)) (zA ad NM sz)) 0 0 (zA ad NM sz) := by
  refine z_enter (cc := cX12_direction) (maxL := 4) (ret := (some .int)) (vs := [vR ad 0, vI x1]) (plainFor_of_name (by decide)) rfl hinj (Nat.le_of_ble_eq_true rfl) ?_
  intro p e s m args below meth c hC hE hsz hr hnm
  show zAt p l e ({ frames := 8, cells := 0, slots := 0, locals := 194 } : Room) s m args below meth c 0 0 (MQ below (va_Qi (zPi K) (zB D vwCl (tyA dA) NM ad (celM ad dA)) (zA ad NM sz)) args s 0 0 (zA ad NM sz)) 4 D vwCl (zA ad NM sz) NM ad (celM ad dA) 0 [(0, vR ad 0), (1, vI x1)] [] σ
  refine z_aload_n hC dX12_direction_0 0 rfl rfl ?_
  refine z_iload_n hC dX12_direction_1 1 rfl rfl ?_
  refine z_callVi hC hE (oM_12 (show kM 0 = 12 by decide)) [vI x1] (fun sz2 => mX12_noSegments l hinj sz2 hf) (cwV 1 hC.1.2.2.2.2 (uV (uT _) u2016 u2018 u82 u118 u2019) rfl rfl rfl (by decide +kernel) ⟨Nat.le_of_ble_eq_true rfl, Nat.le_of_ble_eq_true rfl⟩) rfl rfl (Nat.le_of_ble_eq_true rfl) ⟨Nat.le_of_ble_eq_true rfl, Nat.le_of_ble_eq_true rfl⟩ dX12_direction_2 (fun r1 σ1 hf => ?_)
  obtain ⟨g2, hf⟩ := hf
  refine z_if_eq (tgt := 10) hC dX12_direction_5 (by decide) g2 (fun hc => ?_) (fun hc => ?_)
  · replace hf := hf.1 hc
    refine z_aload_n hC dX12_direction_10 0 rfl rfl ?_
    refine z_get hC (fun w h => uT _ w (uL12 w h)) (oM_12 (show kM 0 = 12 by decide)) 29 (by decide) (uT _ _ u1574) rfl rfl dX12_direction_11 ?_
    obtain ⟨g3, hf⟩ := hf
    refine z_if_ne (tgt := 19) hC dX12_direction_14 (by decide) g3 (fun hc => ?_) (fun hc => ?_)
    · replace hf := hf.2 hc
      refine z_aload_n hC dX12_direction_19 0 rfl rfl ?_
      refine z_aload_n hC dX12_direction_20 0 rfl rfl ?_
      refine z_get hC (fun w h => uT _ w (uL12 w h)) (oM_12 (show kM 0 = 12 by decide)) 31 (by decide) (uT _ _ u1576) rfl rfl dX12_direction_21 ?_
      refine z_aload_n hC dX12_direction_24 0 rfl rfl ?_
      refine z_get hC (fun w h => uT _ w (uL12 w h)) (oM_12 (show kM 0 = 12 by decide)) 29 (by decide) (uT _ _ u1574) rfl rfl dX12_direction_25 ?_
      refine z_iconst hC dX12_direction_28 ?_
      refine z_isub hC dX12_direction_29 ?_
      obtain ⟨g4, hf⟩ := hf
      refine z_iaload hC (aM_34 (show kM 13 = 34 by decide)) g4 dX12_direction_30 ?_
      refine z_callVi hC hE (oM_12 (show kM 0 = 12 by decide)) [vI (σ1 13 ((σ1 0 29) - 1))] (fun sz2 => mX12_trueX l hinj sz2 hf) (cwV 1 hC.1.2.2.2.2 (uV (uT _) u2024 u2026 u84 u118 u2027) rfl rfl rfl (by decide +kernel) ⟨Nat.le_of_ble_eq_true rfl, Nat.le_of_ble_eq_true rfl⟩) rfl rfl (Nat.le_of_ble_eq_true rfl) ⟨Nat.le_of_ble_eq_true rfl, Nat.le_of_ble_eq_true rfl⟩ dX12_direction_31 (fun r5 σ5 hf => ?_)
      refine z_aload_n hC dX12_direction_34 0 rfl rfl ?_
      refine z_aload_n hC dX12_direction_35 0 rfl rfl ?_
      refine z_get hC (fun w h => uT _ w (uL12 w h)) (oM_12 (show kM 0 = 12 by decide)) 30 (by decide) (uT _ _ u1575) rfl rfl dX12_direction_36 ?_
      refine z_iconst hC dX12_direction_39 ?_
      refine z_iaload hC (aM_34 (show kM 12 = 34 by decide)) ⟨by decide, by decide⟩ dX12_direction_40 ?_
      refine z_callVi hC hE (oM_12 (show kM 0 = 12 by decide)) [vI (σ5 12 0)] (fun sz2 => mX12_trueX l hinj sz2 hf) (cwV 1 hC.1.2.2.2.2 (uV (uT _) u2024 u2026 u84 u118 u2027) rfl rfl rfl (by decide +kernel) ⟨Nat.le_of_ble_eq_true rfl, Nat.le_of_ble_eq_true rfl⟩) rfl rfl (Nat.le_of_ble_eq_true rfl) ⟨Nat.le_of_ble_eq_true rfl, Nat.le_of_ble_eq_true rfl⟩ dX12_direction_41 (fun r6 σ6 hf => ?_)
      refine z_isub hC dX12_direction_44 ?_
      refine z_istore_n hC ([(2, vI (r5 - r6)), (0, vR ad 0), (1, vI x1)]) dX12_direction_45 rfl (by decide) rfl ?_
      refine z_aload_n hC dX12_direction_46 1 rfl rfl ?_
      refine z_aload_n hC dX12_direction_47 1 rfl rfl ?_
      refine z_get hC (fun w h => uT _ w (uL12 w h)) (oM_12 (show kM 0 = 12 by decide)) 31 (by decide) (uT _ _ u1576) rfl rfl dX12_direction_48 ?_
      refine z_aload_n hC dX12_direction_51 1 rfl rfl ?_
      refine z_get hC (fun w h => uT _ w (uL12 w h)) (oM_12 (show kM 0 = 12 by decide)) 29 (by decide) (uT _ _ u1574) rfl rfl dX12_direction_52 ?_
      refine z_iconst hC dX12_direction_55 ?_
      refine z_isub hC dX12_direction_56 ?_
      obtain ⟨g7, hf⟩ := hf
      refine z_iaload hC (aM_34 (show kM 13 = 34 by decide)) g7 dX12_direction_57 ?_
      refine z_callVi hC hE (oM_12 (show kM 0 = 12 by decide)) [vI (σ6 13 ((σ6 0 29) - 1))] (fun sz2 => mX12_trueY l hinj sz2 hf) (cwV 1 hC.1.2.2.2.2 (uV (uT _) u2028 u2030 u85 u118 u2031) rfl rfl rfl (by decide +kernel) ⟨Nat.le_of_ble_eq_true rfl, Nat.le_of_ble_eq_true rfl⟩) rfl rfl (Nat.le_of_ble_eq_true rfl) ⟨Nat.le_of_ble_eq_true rfl, Nat.le_of_ble_eq_true rfl⟩ dX12_direction_58 (fun r8 σ8 hf => ?_)
      refine z_aload_n hC dX12_direction_61 1 rfl rfl ?_
      refine z_aload_n hC dX12_direction_62 1 rfl rfl ?_
      refine z_get hC (fun w h => uT _ w (uL12 w h)) (oM_12 (show kM 0 = 12 by decide)) 30 (by decide) (uT _ _ u1575) rfl rfl dX12_direction_63 ?_
      refine z_iconst hC dX12_direction_66 ?_
      refine z_iaload hC (aM_34 (show kM 12 = 34 by decide)) ⟨by decide, by decide⟩ dX12_direction_67 ?_
      refine z_callVi hC hE (oM_12 (show kM 0 = 12 by decide)) [vI (σ8 12 0)] (fun sz2 => mX12_trueY l hinj sz2 hf) (cwV 1 hC.1.2.2.2.2 (uV (uT _) u2028 u2030 u85 u118 u2031) rfl rfl rfl (by decide +kernel) ⟨Nat.le_of_ble_eq_true rfl, Nat.le_of_ble_eq_true rfl⟩) rfl rfl (Nat.le_of_ble_eq_true rfl) ⟨Nat.le_of_ble_eq_true rfl, Nat.le_of_ble_eq_true rfl⟩ dX12_direction_68 (fun r9 σ9 hf => ?_)
      refine z_isub hC dX12_direction_71 ?_
      refine z_istore_n hC ([(3, vI (r8 - r9)), (2, vI (r5 - r6)), (0, vR ad 0), (1, vI x1)]) dX12_direction_72 rfl (by decide) rfl ?_
      refine z_iload_n hC dX12_direction_73 1 rfl rfl ?_
      obtain ⟨g10, hf⟩ := hf
      refine z_if_ne (tgt := 83) hC dX12_direction_74 (by decide) g10 (fun hc => ?_) (fun hc => ?_)
      · replace hf := hf.2 hc
        refine z_sub (lv' := [(2, vI (r5 - r6)), (3, vI (r8 - r9))]) [1, 0] rfl ?_
        exact wX12_direction_B83 hC hE hr hinj  hf
      · replace hf := hf.1 hc
        refine z_iload_n hC dX12_direction_77 0 rfl rfl ?_
        obtain ⟨g11, hf⟩ := hf
        refine z_if_ne (tgt := 83) hC dX12_direction_78 (by decide) g11 (fun hc => ?_) (fun hc => ?_)
        · replace hf := hf.2 hc
          refine z_sub (lv' := [(2, vI (r5 - r6)), (3, vI (r8 - r9))]) [1, 0] rfl ?_
          exact wX12_direction_B83 hC hE hr hinj  hf
        · replace hf := hf.1 hc
          refine z_iconst hC dX12_direction_81 ?_
          exact z_iret hC hr rfl dX12_direction_82 hf
    · replace hf := hf.1 hc
      refine z_iconst hC dX12_direction_17 ?_
      exact z_iret hC hr rfl dX12_direction_18 hf
  · replace hf := hf.2 hc
    refine z_iconst hC dX12_direction_8 ?_
    exact z_iret hC hr rfl dX12_direction_9 hf

-- ===== X12_meltInSegment
def fX12_meltInSegment (K : Int → zSt → Prop) (σ : zSt) (x1 : Int) (x2 : Int) : Prop :=
  fX12_noSegments (fun r1 σ1 => zrg r1 ∧ ((r1 = 0 → fX12_inRange (fun r3 σ3 => fX12_fails (fun r4 σ4 => zrg r4 ∧ ((r4 = 0 → (0 ≤ x2 ∧ x2 < 6) ∧ fX12_dayOf (fun r7 σ7 => fX12_dayOf (fun r8 σ8 => fX12_meanMelt (fun r9 σ9 => K r9 σ9) σ8 r7 r8) σ7 (σ7 13 x2)) σ4 (σ4 12 x2)) ∧ (¬ r4 = 0 → K 0 σ4))) σ3 r3) σ1 x2 0 ((σ1 0 29) - 1)) ∧ (¬ r1 = 0 → K 0 σ1))) σ x1
set_option maxHeartbeats 4000000 in
set_option maxRecDepth 100000 in
theorem mX12_meltInSegment {D : va_G} {dA : Nat → ClassId} {ad : Nat → Nat}  (l : Launch) (hinj : ∀ i j, i < NM → j < NM → ad i = ad j → i = j) (sz : Nat) {K : Int → zSt → Prop} {σ : zSt} {x1 : Int} {x2 : Int} (hf : fX12_meltInSegment K σ x1 x2) : Met l yX12_meltInSegment (Cond.code yX12_meltInSegment cX12_meltInSegment 3 (some .int) :: UW) ({ frames := 8, cells := 0, slots := 0, locals := 194 } : Room) (va_Pc [vR ad 0, vI x1, vI x2] (zPre D vwCl (tyA dA) zX0 NM ad (celM ad dA) sz σ)) (va_Qi (zPi K) (zB D vwCl (tyA dA) NM ad (celM ad dA)) (zA ad NM sz)) 0 0 (zA ad NM sz) := by
  refine z_enter (cc := cX12_meltInSegment) (maxL := 3) (ret := (some .int)) (vs := [vR ad 0, vI x1, vI x2]) (plainFor_of_name (by decide)) rfl hinj (Nat.le_of_ble_eq_true rfl) ?_
  intro p e s m args below meth c hC hE hsz hr hnm
  show zAt p l e ({ frames := 8, cells := 0, slots := 0, locals := 194 } : Room) s m args below meth c 0 0 (MQ below (va_Qi (zPi K) (zB D vwCl (tyA dA) NM ad (celM ad dA)) (zA ad NM sz)) args s 0 0 (zA ad NM sz)) 3 D vwCl (zA ad NM sz) NM ad (celM ad dA) 0 [(0, vR ad 0), (1, vI x1), (2, vI x2)] [] σ
  refine z_aload_n hC dX12_meltInSegment_0 0 rfl rfl ?_
  refine z_iload_n hC dX12_meltInSegment_1 1 rfl rfl ?_
  refine z_callVi hC hE (oM_12 (show kM 0 = 12 by decide)) [vI x1] (fun sz2 => mX12_noSegments l hinj sz2 hf) (cwV 1 hC.1.2.2.2.2 (uV (uT _) u2016 u2018 u82 u118 u2019) rfl rfl rfl (by decide +kernel) ⟨Nat.le_of_ble_eq_true rfl, Nat.le_of_ble_eq_true rfl⟩) rfl rfl (Nat.le_of_ble_eq_true rfl) ⟨Nat.le_of_ble_eq_true rfl, Nat.le_of_ble_eq_true rfl⟩ dX12_meltInSegment_2 (fun r1 σ1 hf => ?_)
  obtain ⟨g2, hf⟩ := hf
  refine z_if_eq (tgt := 10) hC dX12_meltInSegment_5 (by decide) g2 (fun hc => ?_) (fun hc => ?_)
  · replace hf := hf.1 hc
    refine z_aload_n hC dX12_meltInSegment_10 0 rfl rfl ?_
    refine z_iload_n hC dX12_meltInSegment_11 2 rfl rfl ?_
    refine z_iconst hC dX12_meltInSegment_12 ?_
    refine z_aload_n hC dX12_meltInSegment_13 0 rfl rfl ?_
    refine z_get hC (fun w h => uT _ w (uL12 w h)) (oM_12 (show kM 0 = 12 by decide)) 29 (by decide) (uT _ _ u1574) rfl rfl dX12_meltInSegment_14 ?_
    refine z_iconst hC dX12_meltInSegment_17 ?_
    refine z_isub hC dX12_meltInSegment_18 ?_
    refine z_callSi hC hE [vI x2, vI 0, vI ((σ1 0 29) - 1)] (fun sz2 => mX12_inRange l hinj sz2 hf) (va_cwS 3 hC.1.2.2.2.2 (uS (uT _) u1700 u1701 u118 u1702) rfl rfl rfl (by decide +kernel) ⟨Nat.le_of_ble_eq_true rfl, Nat.le_of_ble_eq_true rfl⟩) rfl rfl (Nat.le_of_ble_eq_true rfl) ⟨Nat.le_of_ble_eq_true rfl, Nat.le_of_ble_eq_true rfl⟩ dX12_meltInSegment_19 (fun r3 σ3 hf => ?_)
    refine z_callVi hC hE (oM_12 (show kM 0 = 12 by decide)) [vI r3] (fun sz2 => mX12_fails l hinj sz2 hf) (cwV 1 hC.1.2.2.2.2 (uV (uT _) u1833 u1835 u58 u118 u1836) rfl rfl rfl (by decide +kernel) ⟨Nat.le_of_ble_eq_true rfl, Nat.le_of_ble_eq_true rfl⟩) rfl rfl (Nat.le_of_ble_eq_true rfl) ⟨Nat.le_of_ble_eq_true rfl, Nat.le_of_ble_eq_true rfl⟩ dX12_meltInSegment_22 (fun r4 σ4 hf => ?_)
    obtain ⟨g5, hf⟩ := hf
    refine z_if_eq (tgt := 32) hC dX12_meltInSegment_25 (by decide) g5 (fun hc => ?_) (fun hc => ?_)
    · replace hf := hf.1 hc
      refine z_aload_n hC dX12_meltInSegment_32 0 rfl rfl ?_
      refine z_aload_n hC dX12_meltInSegment_33 0 rfl rfl ?_
      refine z_aload_n hC dX12_meltInSegment_34 0 rfl rfl ?_
      refine z_get hC (fun w h => uT _ w (uL12 w h)) (oM_12 (show kM 0 = 12 by decide)) 30 (by decide) (uT _ _ u1575) rfl rfl dX12_meltInSegment_35 ?_
      refine z_iload_n hC dX12_meltInSegment_38 2 rfl rfl ?_
      obtain ⟨g6, hf⟩ := hf
      refine z_iaload hC (aM_34 (show kM 12 = 34 by decide)) g6 dX12_meltInSegment_39 ?_
      refine z_callVi hC hE (oM_12 (show kM 0 = 12 by decide)) [vI (σ4 12 x2)] (fun sz2 => mX12_dayOf l hinj sz2 hf) (cwV 1 hC.1.2.2.2.2 (uV (uT _) u1837 u1839 u59 u118 u1840) rfl rfl rfl (by decide +kernel) ⟨Nat.le_of_ble_eq_true rfl, Nat.le_of_ble_eq_true rfl⟩) rfl rfl (Nat.le_of_ble_eq_true rfl) ⟨Nat.le_of_ble_eq_true rfl, Nat.le_of_ble_eq_true rfl⟩ dX12_meltInSegment_40 (fun r7 σ7 hf => ?_)
      refine z_aload_n hC dX12_meltInSegment_43 0 rfl rfl ?_
      refine z_aload_n hC dX12_meltInSegment_44 0 rfl rfl ?_
      refine z_get hC (fun w h => uT _ w (uL12 w h)) (oM_12 (show kM 0 = 12 by decide)) 31 (by decide) (uT _ _ u1576) rfl rfl dX12_meltInSegment_45 ?_
      refine z_iload_n hC dX12_meltInSegment_48 2 rfl rfl ?_
      refine z_iaload hC (aM_34 (show kM 13 = 34 by decide)) g6 dX12_meltInSegment_49 ?_
      refine z_callVi hC hE (oM_12 (show kM 0 = 12 by decide)) [vI (σ7 13 x2)] (fun sz2 => mX12_dayOf l hinj sz2 hf) (cwV 1 hC.1.2.2.2.2 (uV (uT _) u1837 u1839 u59 u118 u1840) rfl rfl rfl (by decide +kernel) ⟨Nat.le_of_ble_eq_true rfl, Nat.le_of_ble_eq_true rfl⟩) rfl rfl (Nat.le_of_ble_eq_true rfl) ⟨Nat.le_of_ble_eq_true rfl, Nat.le_of_ble_eq_true rfl⟩ dX12_meltInSegment_50 (fun r8 σ8 hf => ?_)
      refine z_callVi hC hE (oM_12 (show kM 0 = 12 by decide)) [vI r7, vI r8] (fun sz2 => mX12_meanMelt l hinj sz2 hf) (cwV 2 hC.1.2.2.2.2 (uV (uT _) u2229 u2186 u2187 u118 u2188) rfl rfl rfl (by decide +kernel) ⟨Nat.le_of_ble_eq_true rfl, Nat.le_of_ble_eq_true rfl⟩) rfl rfl (Nat.le_of_ble_eq_true rfl) ⟨Nat.le_of_ble_eq_true rfl, Nat.le_of_ble_eq_true rfl⟩ dX12_meltInSegment_53 (fun r9 σ9 hf => ?_)
      exact z_iret hC hr rfl dX12_meltInSegment_56 hf
    · replace hf := hf.2 hc
      refine z_iconst hC dX12_meltInSegment_28 ?_
      refine z_goto (tgt := 56) hC dX12_meltInSegment_29 (by decide) ?_
      exact z_iret hC hr rfl dX12_meltInSegment_56 hf
  · replace hf := hf.2 hc
    refine z_iconst hC dX12_meltInSegment_8 ?_
    exact z_iret hC hr rfl dX12_meltInSegment_9 hf
