
-- ===== X12_meanSpeed
def fX12_meanSpeed (K : Int → zSt → Prop) (σ : zSt) (x1 : Int) : Prop :=
  fX12_noSegments (fun r1 σ1 => zrg r1 ∧ ((r1 = 0 → fX12_mean (fun r3 σ3 => K r3 σ3) σ1 ) ∧ (¬ r1 = 0 → K 0 σ1))) σ x1
set_option maxHeartbeats 4000000 in
set_option maxRecDepth 100000 in
theorem mX12_meanSpeed {D : va_G} {dA : Nat → ClassId} {ad : Nat → Nat}  (l : Launch) (hinj : ∀ i j, i < NM → j < NM → ad i = ad j → i = j) (sz : Nat) {K : Int → zSt → Prop} {σ : zSt} {x1 : Int} (hf : fX12_meanSpeed K σ x1) : Met l yX12_meanSpeed (Cond.code yX12_meanSpeed cX12_meanSpeed 2 (some .int) :: UW) ({ frames := 8, cells := 0, slots := 0, locals := 194 } : Room) (va_Pc [vR ad 0, vI x1] (zPre D vwCl (tyA dA) zX0 NM ad (celM ad dA) sz σ)) (va_Qi (zPi K) (zB D vwCl (tyA dA) NM ad (celM ad dA)) (zA ad NM sz)) 0 0 (zA ad NM sz) := by
  refine z_enter (cc := cX12_meanSpeed) (maxL := 2) (ret := (some .int)) (vs := [vR ad 0, vI x1]) (plainFor_of_name (by decide)) rfl hinj (Nat.le_of_ble_eq_true rfl) ?_
  intro p e s m args below meth c hC hE hsz hr hnm
  show zAt p l e ({ frames := 8, cells := 0, slots := 0, locals := 194 } : Room) s m args below meth c 0 0 (MQ below (va_Qi (zPi K) (zB D vwCl (tyA dA) NM ad (celM ad dA)) (zA ad NM sz)) args s 0 0 (zA ad NM sz)) 2 D vwCl (zA ad NM sz) NM ad (celM ad dA) 0 [(0, vR ad 0), (1, vI x1)] [] σ
  refine z_aload_n hC dX12_meanSpeed_0 0 rfl rfl ?_
  refine z_iload_n hC dX12_meanSpeed_1 1 rfl rfl ?_
  refine z_callVi hC hE (oM_12 (show kM 0 = 12 by decide)) [vI x1] (fun sz2 => mX12_noSegments l hinj sz2 hf) (cwV 1 hC.1.2.2.2.2 (uV (uT _) u2016 u2018 u82 u118 u2019) rfl rfl rfl (by decide +kernel) ⟨Nat.le_of_ble_eq_true rfl, Nat.le_of_ble_eq_true rfl⟩) rfl rfl (Nat.le_of_ble_eq_true rfl) ⟨Nat.le_of_ble_eq_true rfl, Nat.le_of_ble_eq_true rfl⟩ dX12_meanSpeed_2 (fun r1 σ1 hf => ?_)
  obtain ⟨g2, hf⟩ := hf
  refine z_if_eq (tgt := 12) hC dX12_meanSpeed_5 (by decide) g2 (fun hc => ?_) (fun hc => ?_)
  · replace hf := hf.1 hc
    refine z_aload_n hC dX12_meanSpeed_12 0 rfl rfl ?_
    refine z_callVi hC hE (oM_12 (show kM 0 = 12 by decide)) [] (fun sz2 => mX12_mean l hinj sz2 hf) (cwV 0 hC.1.2.2.2.2 (uV (uT _) u2048 u2050 u87 u118 u2051) rfl rfl rfl (by decide +kernel) ⟨Nat.le_of_ble_eq_true rfl, Nat.le_of_ble_eq_true rfl⟩) rfl rfl (Nat.le_of_ble_eq_true rfl) ⟨Nat.le_of_ble_eq_true rfl, Nat.le_of_ble_eq_true rfl⟩ dX12_meanSpeed_13 (fun r3 σ3 hf => ?_)
    exact z_iret hC hr rfl dX12_meanSpeed_16 hf
  · replace hf := hf.2 hc
    refine z_iconst hC dX12_meanSpeed_8 ?_
    refine z_goto (tgt := 16) hC dX12_meanSpeed_9 (by decide) ?_
    exact z_iret hC hr rfl dX12_meanSpeed_16 hf

-- ===== X12_meanSpeedWithScale
def fX12_meanSpeedWithScale (K : Int → zSt → Prop) (σ : zSt) (x1 : Int) (x2 : Int) : Prop :=
  fX12_noTrack (fun r1 σ1 => zrg r1 ∧ ((r1 = 0 → fX12_inRange (fun r3 σ3 => zrg r3 ∧ ((r3 = 0 → K (-2) σ3) ∧ (¬ r3 = 0 → fX12_cut (fun σ5 => fX12_mean (fun r6 σ6 => K r6 σ6) σ5 ) σ3 x2))) σ1 x2 1 1000) ∧ (¬ r1 = 0 → K 0 σ1))) σ x1
set_option maxHeartbeats 4000000 in
set_option maxRecDepth 100000 in
theorem mX12_meanSpeedWithScale {D : va_G} {dA : Nat → ClassId} {ad : Nat → Nat}  (l : Launch) (hinj : ∀ i j, i < NM → j < NM → ad i = ad j → i = j) (sz : Nat) {K : Int → zSt → Prop} {σ : zSt} {x1 : Int} {x2 : Int} (hf : fX12_meanSpeedWithScale K σ x1 x2) : Met l yX12_meanSpeedWithScale (Cond.code yX12_meanSpeedWithScale cX12_meanSpeedWithScale 3 (some .int) :: UW) ({ frames := 7, cells := 0, slots := 0, locals := 173 } : Room) (va_Pc [vR ad 0, vI x1, vI x2] (zPre D vwCl (tyA dA) zX0 NM ad (celM ad dA) sz σ)) (va_Qi (zPi K) (zB D vwCl (tyA dA) NM ad (celM ad dA)) (zA ad NM sz)) 0 0 (zA ad NM sz) := by
  refine z_enter (cc := cX12_meanSpeedWithScale) (maxL := 3) (ret := (some .int)) (vs := [vR ad 0, vI x1, vI x2]) (plainFor_of_name (by decide)) rfl hinj (Nat.le_of_ble_eq_true rfl) ?_
  intro p e s m args below meth c hC hE hsz hr hnm
  show zAt p l e ({ frames := 7, cells := 0, slots := 0, locals := 173 } : Room) s m args below meth c 0 0 (MQ below (va_Qi (zPi K) (zB D vwCl (tyA dA) NM ad (celM ad dA)) (zA ad NM sz)) args s 0 0 (zA ad NM sz)) 3 D vwCl (zA ad NM sz) NM ad (celM ad dA) 0 [(0, vR ad 0), (1, vI x1), (2, vI x2)] [] σ
  refine z_aload_n hC dX12_meanSpeedWithScale_0 0 rfl rfl ?_
  refine z_iload_n hC dX12_meanSpeedWithScale_1 1 rfl rfl ?_
  refine z_callVi hC hE (oM_12 (show kM 0 = 12 by decide)) [vI x1] (fun sz2 => mX12_noTrack l hinj sz2 hf) (cwV 1 hC.1.2.2.2.2 (uV (uT _) u1988 u1990 u79 u118 u1991) rfl rfl rfl (by decide +kernel) ⟨Nat.le_of_ble_eq_true rfl, Nat.le_of_ble_eq_true rfl⟩) rfl rfl (Nat.le_of_ble_eq_true rfl) ⟨Nat.le_of_ble_eq_true rfl, Nat.le_of_ble_eq_true rfl⟩ dX12_meanSpeedWithScale_2 (fun r1 σ1 hf => ?_)
  obtain ⟨g2, hf⟩ := hf
  refine z_if_eq (tgt := 10) hC dX12_meanSpeedWithScale_5 (by decide) g2 (fun hc => ?_) (fun hc => ?_)
  · replace hf := hf.1 hc
    refine z_iload_n hC dX12_meanSpeedWithScale_10 2 rfl rfl ?_
    refine z_iconst hC dX12_meanSpeedWithScale_11 ?_
    refine z_sipush hC dX12_meanSpeedWithScale_12 (by decide) ?_
    refine z_callSi hC hE [vI x2, vI 1, vI 1000] (fun sz2 => mX12_inRange l hinj sz2 hf) (va_cwS 3 hC.1.2.2.2.2 (uS (uT _) u1700 u1701 u118 u1702) rfl rfl rfl (by decide +kernel) ⟨Nat.le_of_ble_eq_true rfl, Nat.le_of_ble_eq_true rfl⟩) rfl rfl (Nat.le_of_ble_eq_true rfl) ⟨Nat.le_of_ble_eq_true rfl, Nat.le_of_ble_eq_true rfl⟩ dX12_meanSpeedWithScale_15 (fun r3 σ3 hf => ?_)
    obtain ⟨g4, hf⟩ := hf
    refine z_if_ne (tgt := 24) hC dX12_meanSpeedWithScale_18 (by decide) g4 (fun hc => ?_) (fun hc => ?_)
    · replace hf := hf.2 hc
      refine z_aload_n hC dX12_meanSpeedWithScale_24 0 rfl rfl ?_
      refine z_iload_n hC dX12_meanSpeedWithScale_25 2 rfl rfl ?_
      refine z_callVv hC hE (oM_12 (show kM 0 = 12 by decide)) [vI x2] (fun sz2 => mX12_cut l hinj sz2 hf) (cwV 1 hC.1.2.2.2.2 (uV (uT _) u2020 u2022 u83 u118 u2023) rfl rfl rfl (by decide +kernel) ⟨Nat.le_of_ble_eq_true rfl, Nat.le_of_ble_eq_true rfl⟩) rfl rfl (Nat.le_of_ble_eq_true rfl) ⟨Nat.le_of_ble_eq_true rfl, Nat.le_of_ble_eq_true rfl⟩ dX12_meanSpeedWithScale_26 (fun σ5 hf => ?_)
      refine z_aload_n hC dX12_meanSpeedWithScale_29 0 rfl rfl ?_
      refine z_callVi hC hE (oM_12 (show kM 0 = 12 by decide)) [] (fun sz2 => mX12_mean l hinj sz2 hf) (cwV 0 hC.1.2.2.2.2 (uV (uT _) u2048 u2050 u87 u118 u2051) rfl rfl rfl (by decide +kernel) ⟨Nat.le_of_ble_eq_true rfl, Nat.le_of_ble_eq_true rfl⟩) rfl rfl (Nat.le_of_ble_eq_true rfl) ⟨Nat.le_of_ble_eq_true rfl, Nat.le_of_ble_eq_true rfl⟩ dX12_meanSpeedWithScale_30 (fun r6 σ6 hf => ?_)
      exact z_iret hC hr rfl dX12_meanSpeedWithScale_33 hf
    · replace hf := hf.1 hc
      refine z_bipush hC dX12_meanSpeedWithScale_21 (by decide) ?_
      exact z_iret hC hr rfl dX12_meanSpeedWithScale_23 hf
  · replace hf := hf.2 hc
    refine z_iconst hC dX12_meanSpeedWithScale_8 ?_
    exact z_iret hC hr rfl dX12_meanSpeedWithScale_9 hf

-- ===== X12_fastestFeature
noncomputable def fX12_fastestFeature_B11 (K : Int → zSt → Prop) (n : Nat) : zSt → Int → Int → Int → Prop :=
  Nat.rec (motive := fun _ => zSt → Int → Int → Int → Prop) (fun _ _ _ _ => False) (fun _ ih σ x1 x2 x3 => zrg x3 ∧ zrg (σ 1 4) ∧ ((σ 1 4 ≤ x3 → K x1 σ) ∧ (¬ σ 1 4 ≤ x3 → fX12_setting (fun r4 σ4 => fX12_track (fun σ5 => fX12_setting (fun r6 σ6 => fX12_cut (fun σ7 => zrg (σ7 0 29) ∧ ((σ7 0 29 = 0 → ih σ7 x1 x2 (x3 + 1)) ∧ (¬ σ7 0 29 = 0 → fX12_mean (fun r9 σ9 => zrg r9 ∧ zrg x2 ∧ ((x2 < r9 → fX12_mean (fun r12 σ12 => ih σ12 x3 r12 (x3 + 1)) σ9 ) ∧ (¬ x2 < r9 → ih σ9 x1 x2 (x3 + 1)))) σ7 ))) σ6 r6) σ5 5) σ4 x3 r4) σ 4))) n
theorem uX12_fastestFeature_B11 (K : Int → zSt → Prop) (n0 : Nat) (σ : zSt) (x1 : Int) (x2 : Int) (x3 : Int) : fX12_fastestFeature_B11 K (n0 + 1) σ x1 x2 x3 = (zrg x3 ∧ zrg (σ 1 4) ∧ ((σ 1 4 ≤ x3 → K x1 σ) ∧ (¬ σ 1 4 ≤ x3 → fX12_setting (fun r4 σ4 => fX12_track (fun σ5 => fX12_setting (fun r6 σ6 => fX12_cut (fun σ7 => zrg (σ7 0 29) ∧ ((σ7 0 29 = 0 → (fX12_fastestFeature_B11 K n0) σ7 x1 x2 (x3 + 1)) ∧ (¬ σ7 0 29 = 0 → fX12_mean (fun r9 σ9 => zrg r9 ∧ zrg x2 ∧ ((x2 < r9 → fX12_mean (fun r12 σ12 => (fX12_fastestFeature_B11 K n0) σ12 x3 r12 (x3 + 1)) σ9 ) ∧ (¬ x2 < r9 → (fX12_fastestFeature_B11 K n0) σ9 x1 x2 (x3 + 1)))) σ7 ))) σ6 r6) σ5 5) σ4 x3 r4) σ 4))) := rfl
def fX12_fastestFeature (K : Int → zSt → Prop) (σ : zSt) : Prop :=
  ∀ σ1, σ1 = zu σ 0 4 0 → (∃ n, fX12_fastestFeature_B11 K n σ1 (-1) (-1) 0)
set_option maxHeartbeats 4000000 in
set_option maxRecDepth 100000 in
theorem wX12_fastestFeature_B11 {p : Program} {l : Launch} {e : Env} {s : State} {m : MethodId} {args : Array Value} {below : List Frame} {meth : Method} {c : Code} {D : va_G} {dA : Nat → ClassId} {ad : Nat → Nat} {sz : Nat}  {K : Int → zSt → Prop} (hC : zC p m c cX12_fastestFeature 4 s args (Cond.code yX12_fastestFeature cX12_fastestFeature 4 (some .int) :: UW) RX12 meth D vwCl (tyA dA) (zA ad NM sz) NM ad (celM ad dA)) (hE : zE zX0 (zA ad NM sz) s s.heap) (hr : meth.sig.returnType = (some .int)) (hinj : ∀ i j, i < NM → j < NM → ad i = ad j → i = j) : ∀ (n : Nat) (σ : zSt) (x1 : Int) (x2 : Int) (x3 : Int), fX12_fastestFeature_B11 K n σ x1 x2 x3 → zAt p l e ({ frames := 6, cells := 0, slots := 0, locals := 152 } : Room) s m args below meth c 0 0 (MQ below (va_Qi (zPi K) (zB D vwCl (tyA dA) NM ad (celM ad dA)) (zA ad NM sz)) args s 0 0 (zA ad NM sz)) 4 D vwCl (zA ad NM sz) NM ad (celM ad dA) 11 [(0, vR ad 0), (1, vI x1), (2, vI x2), (3, vI x3)] [] σ := by
  intro n
  induction n with
  | zero => intro σ x1 x2 x3  hf; exact False.elim hf
  | succ n ih =>
    intro σ x1 x2 x3  hf
    rw [uX12_fastestFeature_B11] at hf
    refine z_iload_n hC dX12_fastestFeature_11 3 rfl rfl ?_
    refine z_aload_n hC dX12_fastestFeature_12 0 rfl rfl ?_
    refine z_get hC (fun w h => uT _ w (uL12 w h)) (oM_12 (show kM 0 = 12 by decide)) 0 (by decide) (uT _ _ u1545) rfl rfl dX12_fastestFeature_13 ?_
    refine z_iconst hC dX12_fastestFeature_16 ?_
    refine z_iaload hC (aM_30 (show kM 1 = 30 by decide)) ⟨by decide, by decide⟩ dX12_fastestFeature_17 ?_
    obtain ⟨g2, hf⟩ := hf
    obtain ⟨g3, hf⟩ := hf
    refine z_icmp_ge (tgt := 71) hC dX12_fastestFeature_18 (by decide) g2 g3 (fun hc => ?_) (fun hc => ?_)
    · replace hf := hf.1 hc
      refine z_iload_n hC dX12_fastestFeature_71 1 rfl rfl ?_
      exact z_iret hC hr rfl dX12_fastestFeature_72 hf
    · replace hf := hf.2 hc
      refine z_aload_n hC dX12_fastestFeature_21 0 rfl rfl ?_
      refine z_iload_n hC dX12_fastestFeature_22 3 rfl rfl ?_
      refine z_aload_n hC dX12_fastestFeature_23 0 rfl rfl ?_
      refine z_iconst hC dX12_fastestFeature_24 ?_
      refine z_callVi hC hE (oM_12 (show kM 0 = 12 by decide)) [vI 4] (fun sz2 => mX12_setting l hinj sz2 hf) (cwV 1 hC.1.2.2.2.2 (uV (uT _) u1813 u1815 u55 u118 u1816) rfl rfl rfl (by decide +kernel) ⟨Nat.le_of_ble_eq_true rfl, Nat.le_of_ble_eq_true rfl⟩) rfl rfl (Nat.le_of_ble_eq_true rfl) ⟨Nat.le_of_ble_eq_true rfl, Nat.le_of_ble_eq_true rfl⟩ dX12_fastestFeature_25 (fun r4 σ4 hf => ?_)
      refine z_callVv hC hE (oM_12 (show kM 0 = 12 by decide)) [vI x3, vI r4] (fun sz2 => mX12_track l hinj sz2 hf) (cwV 2 hC.1.2.2.2.2 (uV (uT _) u1968 u1970 u76 u118 u1971) rfl rfl rfl (by decide +kernel) ⟨Nat.le_of_ble_eq_true rfl, Nat.le_of_ble_eq_true rfl⟩) rfl rfl (Nat.le_of_ble_eq_true rfl) ⟨Nat.le_of_ble_eq_true rfl, Nat.le_of_ble_eq_true rfl⟩ dX12_fastestFeature_28 (fun σ5 hf => ?_)
      refine z_aload_n hC dX12_fastestFeature_31 0 rfl rfl ?_
      refine z_aload_n hC dX12_fastestFeature_32 0 rfl rfl ?_
      refine z_iconst hC dX12_fastestFeature_33 ?_
      refine z_callVi hC hE (oM_12 (show kM 0 = 12 by decide)) [vI 5] (fun sz2 => mX12_setting l hinj sz2 hf) (cwV 1 hC.1.2.2.2.2 (uV (uT _) u1813 u1815 u55 u118 u1816) rfl rfl rfl (by decide +kernel) ⟨Nat.le_of_ble_eq_true rfl, Nat.le_of_ble_eq_true rfl⟩) rfl rfl (Nat.le_of_ble_eq_true rfl) ⟨Nat.le_of_ble_eq_true rfl, Nat.le_of_ble_eq_true rfl⟩ dX12_fastestFeature_34 (fun r6 σ6 hf => ?_)
      refine z_callVv hC hE (oM_12 (show kM 0 = 12 by decide)) [vI r6] (fun sz2 => mX12_cut l hinj sz2 hf) (cwV 1 hC.1.2.2.2.2 (uV (uT _) u2020 u2022 u83 u118 u2023) rfl rfl rfl (by decide +kernel) ⟨Nat.le_of_ble_eq_true rfl, Nat.le_of_ble_eq_true rfl⟩) rfl rfl (Nat.le_of_ble_eq_true rfl) ⟨Nat.le_of_ble_eq_true rfl, Nat.le_of_ble_eq_true rfl⟩ dX12_fastestFeature_37 (fun σ7 hf => ?_)
      refine z_aload_n hC dX12_fastestFeature_40 0 rfl rfl ?_
      refine z_get hC (fun w h => uT _ w (uL12 w h)) (oM_12 (show kM 0 = 12 by decide)) 29 (by decide) (uT _ _ u1574) rfl rfl dX12_fastestFeature_41 ?_
      obtain ⟨g8, hf⟩ := hf
      refine z_if_eq (tgt := 65) hC dX12_fastestFeature_44 (by decide) g8 (fun hc => ?_) (fun hc => ?_)
      · replace hf := hf.1 hc
        refine z_iinc hC ([(3, vI (x3 + 1)), (0, vR ad 0), (1, vI x1), (2, vI x2)]) dX12_fastestFeature_65 3 rfl (by decide) rfl ?_
        refine z_goto (tgt := 11) hC dX12_fastestFeature_68 (by decide) ?_
        refine z_sub (lv' := [(0, vR ad 0), (1, vI x1), (2, vI x2), (3, vI (x3 + 1))]) [1, 2, 3, 0] rfl ?_
        exact ih _ _ _ _ hf
      · replace hf := hf.2 hc
        refine z_aload_n hC dX12_fastestFeature_47 0 rfl rfl ?_
        refine z_callVi hC hE (oM_12 (show kM 0 = 12 by decide)) [] (fun sz2 => mX12_mean l hinj sz2 hf) (cwV 0 hC.1.2.2.2.2 (uV (uT _) u2048 u2050 u87 u118 u2051) rfl rfl rfl (by decide +kernel) ⟨Nat.le_of_ble_eq_true rfl, Nat.le_of_ble_eq_true rfl⟩) rfl rfl (Nat.le_of_ble_eq_true rfl) ⟨Nat.le_of_ble_eq_true rfl, Nat.le_of_ble_eq_true rfl⟩ dX12_fastestFeature_48 (fun r9 σ9 hf => ?_)
        refine z_iload_n hC dX12_fastestFeature_51 2 rfl rfl ?_
        obtain ⟨g10, hf⟩ := hf
        obtain ⟨g11, hf⟩ := hf
        refine z_icmp_gt (tgt := 58) hC dX12_fastestFeature_52 (by decide) g10 g11 (fun hc => ?_) (fun hc => ?_)
        · replace hf := hf.1 hc
          refine z_iload_n hC dX12_fastestFeature_58 3 rfl rfl ?_
          refine z_istore_n hC ([(1, vI x3), (0, vR ad 0), (2, vI x2), (3, vI x3)]) dX12_fastestFeature_59 rfl (by decide) rfl ?_
          refine z_aload_n hC dX12_fastestFeature_60 1 rfl rfl ?_
          refine z_callVi hC hE (oM_12 (show kM 0 = 12 by decide)) [] (fun sz2 => mX12_mean l hinj sz2 hf) (cwV 0 hC.1.2.2.2.2 (uV (uT _) u2048 u2050 u87 u118 u2051) rfl rfl rfl (by decide +kernel) ⟨Nat.le_of_ble_eq_true rfl, Nat.le_of_ble_eq_true rfl⟩) rfl rfl (Nat.le_of_ble_eq_true rfl) ⟨Nat.le_of_ble_eq_true rfl, Nat.le_of_ble_eq_true rfl⟩ dX12_fastestFeature_61 (fun r12 σ12 hf => ?_)
          refine z_istore_n hC ([(2, vI r12), (1, vI x3), (0, vR ad 0), (3, vI x3)]) dX12_fastestFeature_64 rfl (by decide) rfl ?_
          refine z_iinc hC ([(3, vI (x3 + 1)), (2, vI r12), (1, vI x3), (0, vR ad 0)]) dX12_fastestFeature_65 3 rfl (by decide) rfl ?_
          refine z_goto (tgt := 11) hC dX12_fastestFeature_68 (by decide) ?_
          refine z_sub (lv' := [(0, vR ad 0), (1, vI x3), (2, vI r12), (3, vI (x3 + 1))]) [3, 2, 1, 0] rfl ?_
          exact ih _ _ _ _ hf
        · replace hf := hf.2 hc
          refine z_goto (tgt := 65) hC dX12_fastestFeature_55 (by decide) ?_
          refine z_iinc hC ([(3, vI (x3 + 1)), (0, vR ad 0), (1, vI x1), (2, vI x2)]) dX12_fastestFeature_65 3 rfl (by decide) rfl ?_
          refine z_goto (tgt := 11) hC dX12_fastestFeature_68 (by decide) ?_
          refine z_sub (lv' := [(0, vR ad 0), (1, vI x1), (2, vI x2), (3, vI (x3 + 1))]) [1, 2, 3, 0] rfl ?_
          exact ih _ _ _ _ hf
set_option maxHeartbeats 4000000 in
set_option maxRecDepth 100000 in
theorem mX12_fastestFeature {D : va_G} {dA : Nat → ClassId} {ad : Nat → Nat}  (l : Launch) (hinj : ∀ i j, i < NM → j < NM → ad i = ad j → i = j) (sz : Nat) {K : Int → zSt → Prop} {σ : zSt} (hf : fX12_fastestFeature K σ ) : Met l yX12_fastestFeature (Cond.code yX12_fastestFeature cX12_fastestFeature 4 (some .int) :: UW) ({ frames := 6, cells := 0, slots := 0, locals := 152 } : Room) (va_Pc [vR ad 0] (zPre D vwCl (tyA dA) zX0 NM ad (celM ad dA) sz σ)) (va_Qi (zPi K) (zB D vwCl (tyA dA) NM ad (celM ad dA)) (zA ad NM sz)) 0 0 (zA ad NM sz) := by
  refine z_enter (cc := cX12_fastestFeature) (maxL := 4) (ret := (some .int)) (vs := [vR ad 0]) (plainFor_of_name (by decide)) rfl hinj (Nat.le_of_ble_eq_true rfl) ?_
  intro p e s m args below meth c hC hE hsz hr hnm
  show zAt p l e ({ frames := 6, cells := 0, slots := 0, locals := 152 } : Room) s m args below meth c 0 0 (MQ below (va_Qi (zPi K) (zB D vwCl (tyA dA) NM ad (celM ad dA)) (zA ad NM sz)) args s 0 0 (zA ad NM sz)) 4 D vwCl (zA ad NM sz) NM ad (celM ad dA) 0 [(0, vR ad 0)] [] σ
  refine z_aload_n hC dX12_fastestFeature_0 0 rfl rfl ?_
  refine z_iconst hC dX12_fastestFeature_1 ?_
  refine z_put hC (ty := .int) tyX12 tyX12_ok nmX12 (fun w h => uT _ w (uL12 w h)) (oM_12 (show kM 0 = 12 by decide)) (loM' (show kM 0 = 12 by decide) (by decide)) 4 (by decide) (uT _ _ u1549) rfl rfl (4) (0) (by simp [zu]) (by decide +kernel) rfl rfl (Nat.le_of_ble_eq_true rfl) dX12_fastestFeature_2 ?_
  obtain ⟨σ1, eσ1⟩ : ∃ z : zSt, z = zu σ 0 4 0 := ⟨_, rfl⟩
  rw [← eσ1]
  replace hf := hf σ1 eσ1
  refine z_iconst hC dX12_fastestFeature_5 ?_
  refine z_istore_n hC ([(1, vI (-1)), (0, vR ad 0)]) dX12_fastestFeature_6 rfl (by decide) rfl ?_
  refine z_iconst hC dX12_fastestFeature_7 ?_
  refine z_istore_n hC ([(2, vI (-1)), (1, vI (-1)), (0, vR ad 0)]) dX12_fastestFeature_8 rfl (by decide) rfl ?_
  refine z_iconst hC dX12_fastestFeature_9 ?_
  refine z_istore_n hC ([(3, vI 0), (2, vI (-1)), (1, vI (-1)), (0, vR ad 0)]) dX12_fastestFeature_10 rfl (by decide) rfl ?_
  refine z_sub (lv' := [(0, vR ad 0), (1, vI (-1)), (2, vI (-1)), (3, vI 0)]) [3, 2, 1, 0] rfl ?_
  obtain ⟨n, hf⟩ := hf
  exact wX12_fastestFeature_B11 hC hE hr hinj n _ _ _ _ hf

-- ===== X12_noSurges
def fX12_noSurges_B82 (K : Int → zSt → Prop) (k19 : zSt → Int → Int → Prop) (σ : zSt) (x3 : Int) (x4 : Int) : Prop :=
  zrg x4 ∧ ((x4 = 0 → k19 σ x4 (x3 + 1)) ∧ (¬ x4 = 0 → (0 ≤ x3 ∧ x3 < 6) ∧ (0 ≤ (σ 0 33) - 1 ∧ (σ 0 33) - 1 < 6) ∧ ∀ σ19, σ19 = zu σ 16 ((σ 0 33) - 1) (σ 13 x3) → k19 σ19 x4 (x3 + 1)))
def fX12_noSurges_B46 (K : Int → zSt → Prop) (k19 : zSt → Int → Int → Prop) (σ : zSt) (x2 : Int) (x3 : Int) (s0 : Int) : Prop :=
  zrg s0 ∧ ((s0 = 0 → fX12_noSurges_B82 K k19 σ x3 s0) ∧ (¬ s0 = 0 → zrg x2 ∧ ((x2 = 0 → (0 ≤ x3 ∧ x3 < 6) ∧ (0 ≤ σ 0 33 ∧ σ 0 33 < 6) ∧ ∀ σ14, σ14 = zu σ 15 (σ 0 33) (σ 12 x3) → ∀ σ15, σ15 = zu σ14 0 33 ((σ14 0 33) + 1) → fX12_noSurges_B82 K k19 σ15 x3 s0) ∧ (¬ x2 = 0 → fX12_noSurges_B82 K k19 σ x3 s0))))
noncomputable def fX12_noSurges_B19 (K : Int → zSt → Prop) (n : Nat) : zSt → Int → Int → Prop :=
  Nat.rec (motive := fun _ => zSt → Int → Int → Prop) (fun _ _ _ => False) (fun _ ih σ x2 x3 => zrg x3 ∧ zrg (σ 0 29) ∧ ((σ 0 29 ≤ x3 → K 0 σ) ∧ (¬ σ 0 29 ≤ x3 → fX12_speedOf (fun r6 σ6 => fX12_setting (fun r7 σ7 => zrg r6 ∧ zrg r7 ∧ ((r6 < r7 → fX12_noSurges_B46 K ih σ7 x2 x3 0) ∧ (¬ r6 < r7 → fX12_noSurges_B46 K ih σ7 x2 x3 1))) σ6 7) σ x3))) n
theorem uX12_noSurges_B19 (K : Int → zSt → Prop) (n0 : Nat) (σ : zSt) (x2 : Int) (x3 : Int) : fX12_noSurges_B19 K (n0 + 1) σ x2 x3 = (zrg x3 ∧ zrg (σ 0 29) ∧ ((σ 0 29 ≤ x3 → K 0 σ) ∧ (¬ σ 0 29 ≤ x3 → fX12_speedOf (fun r6 σ6 => fX12_setting (fun r7 σ7 => zrg r6 ∧ zrg r7 ∧ ((r6 < r7 → fX12_noSurges_B46 K (fX12_noSurges_B19 K n0) σ7 x2 x3 0) ∧ (¬ r6 < r7 → fX12_noSurges_B46 K (fX12_noSurges_B19 K n0) σ7 x2 x3 1))) σ6 7) σ x3))) := rfl
def fX12_noSurges (K : Int → zSt → Prop) (σ : zSt) (x1 : Int) : Prop :=
  fX12_noSegments (fun r1 σ1 => zrg r1 ∧ ((r1 = 0 → ∀ σ3, σ3 = zu σ1 0 33 0 → (∃ n, fX12_noSurges_B19 K n σ3 0 0)) ∧ (¬ r1 = 0 → K 1 σ1))) σ x1
set_option maxHeartbeats 4000000 in
set_option maxRecDepth 100000 in
theorem wX12_noSurges_B82 {p : Program} {l : Launch} {e : Env} {s : State} {m : MethodId} {args : Array Value} {below : List Frame} {meth : Method} {c : Code} {D : va_G} {dA : Nat → ClassId} {ad : Nat → Nat} {sz : Nat}  {K : Int → zSt → Prop} {k19 : zSt → Int → Int → Prop} (hC : zC p m c cX12_noSurges 5 s args (Cond.code yX12_noSurges cX12_noSurges 5 (some .boolean) :: UW) RX12 meth D vwCl (tyA dA) (zA ad NM sz) NM ad (celM ad dA)) (hE : zE zX0 (zA ad NM sz) s s.heap) (hr : meth.sig.returnType = (some .boolean)) (hinj : ∀ i j, i < NM → j < NM → ad i = ad j → i = j) (hk19 : ∀ (σ : zSt) (x2 : Int) (x3 : Int), k19 σ x2 x3 → zAt p l e ({ frames := 8, cells := 0, slots := 0, locals := 194 } : Room) s m args below meth c 0 0 (MQ below (va_Qi (zPi K) (zB D vwCl (tyA dA) NM ad (celM ad dA)) (zA ad NM sz)) args s 0 0 (zA ad NM sz)) 5 D vwCl (zA ad NM sz) NM ad (celM ad dA) 19 [(0, vR ad 0), (2, vI x2), (3, vI x3)] [] σ) {σ : zSt} {x3 : Int} {x4 : Int} (hf : fX12_noSurges_B82 K k19 σ x3 x4) : zAt p l e ({ frames := 8, cells := 0, slots := 0, locals := 194 } : Room) s m args below meth c 0 0 (MQ below (va_Qi (zPi K) (zB D vwCl (tyA dA) NM ad (celM ad dA)) (zA ad NM sz)) args s 0 0 (zA ad NM sz)) 5 D vwCl (zA ad NM sz) NM ad (celM ad dA) 82 [(0, vR ad 0), (3, vI x3), (4, vI x4)] [] σ := by
  refine z_iload hC dX12_noSurges_82 2 rfl ?_
  obtain ⟨g16, hf⟩ := hf
  refine z_if_eq (tgt := 104) hC dX12_noSurges_84 (by decide) g16 (fun hc => ?_) (fun hc => ?_)
  · replace hf := hf.1 hc
    refine z_iload hC dX12_noSurges_104 2 rfl ?_
    refine z_istore_n hC ([(2, vI x4), (0, vR ad 0), (3, vI x3), (4, vI x4)]) dX12_noSurges_106 rfl (by decide) rfl ?_
    refine z_iinc hC ([(3, vI (x3 + 1)), (2, vI x4), (0, vR ad 0), (4, vI x4)]) dX12_noSurges_107 2 rfl (by decide) rfl ?_
    refine z_goto (tgt := 19) hC dX12_noSurges_110 (by decide) ?_
    refine z_sub (lv' := [(0, vR ad 0), (2, vI x4), (3, vI (x3 + 1))]) [2, 1, 0] rfl ?_
    exact hk19 _ _ _ hf
  · replace hf := hf.2 hc
    refine z_aload_n hC dX12_noSurges_87 0 rfl rfl ?_
    refine z_get hC (fun w h => uT _ w (uL12 w h)) (oM_12 (show kM 0 = 12 by decide)) 35 (by decide) (uT _ _ u1580) rfl rfl dX12_noSurges_88 ?_
    refine z_aload_n hC dX12_noSurges_91 0 rfl rfl ?_
    refine z_get hC (fun w h => uT _ w (uL12 w h)) (oM_12 (show kM 0 = 12 by decide)) 33 (by decide) (uT _ _ u1578) rfl rfl dX12_noSurges_92 ?_
    refine z_iconst hC dX12_noSurges_95 ?_
    refine z_isub hC dX12_noSurges_96 ?_
    refine z_aload_n hC dX12_noSurges_97 0 rfl rfl ?_
    refine z_get hC (fun w h => uT _ w (uL12 w h)) (oM_12 (show kM 0 = 12 by decide)) 31 (by decide) (uT _ _ u1576) rfl rfl dX12_noSurges_98 ?_
    refine z_iload_n hC dX12_noSurges_101 1 rfl rfl ?_
    obtain ⟨g17, hf⟩ := hf
    refine z_iaload hC (aM_34 (show kM 13 = 34 by decide)) g17 dX12_noSurges_102 ?_
    obtain ⟨g18, hf⟩ := hf
    refine z_iastore hC (aM_34 (show kM 16 = 34 by decide)) (loM' (show kM 16 = 34 by decide) (by decide)) g18 dX12_noSurges_103 ?_
    obtain ⟨σ19, eσ19⟩ : ∃ z : zSt, z = zu σ 16 ((σ 0 33) - 1) (σ 13 x3) := ⟨_, rfl⟩
    rw [← eσ19]
    replace hf := hf σ19 eσ19
    refine z_iload hC dX12_noSurges_104 2 rfl ?_
    refine z_istore_n hC ([(2, vI x4), (0, vR ad 0), (3, vI x3), (4, vI x4)]) dX12_noSurges_106 rfl (by decide) rfl ?_
    refine z_iinc hC ([(3, vI (x3 + 1)), (2, vI x4), (0, vR ad 0), (4, vI x4)]) dX12_noSurges_107 2 rfl (by decide) rfl ?_
    refine z_goto (tgt := 19) hC dX12_noSurges_110 (by decide) ?_
    refine z_sub (lv' := [(0, vR ad 0), (2, vI x4), (3, vI (x3 + 1))]) [2, 1, 0] rfl ?_
    exact hk19 _ _ _ hf
set_option maxHeartbeats 4000000 in
set_option maxRecDepth 100000 in
theorem wX12_noSurges_B46 {p : Program} {l : Launch} {e : Env} {s : State} {m : MethodId} {args : Array Value} {below : List Frame} {meth : Method} {c : Code} {D : va_G} {dA : Nat → ClassId} {ad : Nat → Nat} {sz : Nat}  {K : Int → zSt → Prop} {k19 : zSt → Int → Int → Prop} (hC : zC p m c cX12_noSurges 5 s args (Cond.code yX12_noSurges cX12_noSurges 5 (some .boolean) :: UW) RX12 meth D vwCl (tyA dA) (zA ad NM sz) NM ad (celM ad dA)) (hE : zE zX0 (zA ad NM sz) s s.heap) (hr : meth.sig.returnType = (some .boolean)) (hinj : ∀ i j, i < NM → j < NM → ad i = ad j → i = j) (hk19 : ∀ (σ : zSt) (x2 : Int) (x3 : Int), k19 σ x2 x3 → zAt p l e ({ frames := 8, cells := 0, slots := 0, locals := 194 } : Room) s m args below meth c 0 0 (MQ below (va_Qi (zPi K) (zB D vwCl (tyA dA) NM ad (celM ad dA)) (zA ad NM sz)) args s 0 0 (zA ad NM sz)) 5 D vwCl (zA ad NM sz) NM ad (celM ad dA) 19 [(0, vR ad 0), (2, vI x2), (3, vI x3)] [] σ) {σ : zSt} {x2 : Int} {x3 : Int} {s0 : Int} (hf : fX12_noSurges_B46 K k19 σ x2 x3 s0) : zAt p l e ({ frames := 8, cells := 0, slots := 0, locals := 194 } : Room) s m args below meth c 0 0 (MQ below (va_Qi (zPi K) (zB D vwCl (tyA dA) NM ad (celM ad dA)) (zA ad NM sz)) args s 0 0 (zA ad NM sz)) 5 D vwCl (zA ad NM sz) NM ad (celM ad dA) 46 [(0, vR ad 0), (2, vI x2), (3, vI x3)] [vI s0] σ := by
  refine z_istore hC ([(4, vI s0), (0, vR ad 0), (2, vI x2), (3, vI x3)]) dX12_noSurges_46 (by decide) rfl ?_
  refine z_iload hC dX12_noSurges_48 0 rfl ?_
  obtain ⟨g10, hf⟩ := hf
  refine z_if_eq (tgt := 82) hC dX12_noSurges_50 (by decide) g10 (fun hc => ?_) (fun hc => ?_)
  · replace hf := hf.1 hc
    refine z_sub (lv' := [(0, vR ad 0), (3, vI x3), (4, vI s0)]) [1, 3, 0] rfl ?_
    exact wX12_noSurges_B82 hC hE hr hinj hk19  hf
  · replace hf := hf.2 hc
    refine z_iload_n hC dX12_noSurges_53 2 rfl rfl ?_
    obtain ⟨g11, hf⟩ := hf
    refine z_if_ne (tgt := 82) hC dX12_noSurges_54 (by decide) g11 (fun hc => ?_) (fun hc => ?_)
    · replace hf := hf.2 hc
      refine z_sub (lv' := [(0, vR ad 0), (3, vI x3), (4, vI s0)]) [1, 3, 0] rfl ?_
      exact wX12_noSurges_B82 hC hE hr hinj hk19  hf
    · replace hf := hf.1 hc
      refine z_aload_n hC dX12_noSurges_57 1 rfl rfl ?_
      refine z_get hC (fun w h => uT _ w (uL12 w h)) (oM_12 (show kM 0 = 12 by decide)) 34 (by decide) (uT _ _ u1579) rfl rfl dX12_noSurges_58 ?_
      refine z_aload_n hC dX12_noSurges_61 1 rfl rfl ?_
      refine z_get hC (fun w h => uT _ w (uL12 w h)) (oM_12 (show kM 0 = 12 by decide)) 33 (by decide) (uT _ _ u1578) rfl rfl dX12_noSurges_62 ?_
      refine z_aload_n hC dX12_noSurges_65 1 rfl rfl ?_
      refine z_get hC (fun w h => uT _ w (uL12 w h)) (oM_12 (show kM 0 = 12 by decide)) 30 (by decide) (uT _ _ u1575) rfl rfl dX12_noSurges_66 ?_
      refine z_iload_n hC dX12_noSurges_69 3 rfl rfl ?_
      obtain ⟨g12, hf⟩ := hf
      refine z_iaload hC (aM_34 (show kM 12 = 34 by decide)) g12 dX12_noSurges_70 ?_
      obtain ⟨g13, hf⟩ := hf
      refine z_iastore hC (aM_34 (show kM 15 = 34 by decide)) (loM' (show kM 15 = 34 by decide) (by decide)) g13 dX12_noSurges_71 ?_
      obtain ⟨σ14, eσ14⟩ : ∃ z : zSt, z = zu σ 15 (σ 0 33) (σ 12 x3) := ⟨_, rfl⟩
      rw [← eσ14]
      replace hf := hf σ14 eσ14
      refine z_aload_n hC dX12_noSurges_72 1 rfl rfl ?_
      refine z_dup hC dX12_noSurges_73 rfl ?_
      refine z_get hC (fun w h => uT _ w (uL12 w h)) (oM_12 (show kM 0 = 12 by decide)) 33 (by decide) (uT _ _ u1578) rfl rfl dX12_noSurges_74 ?_
      refine z_iconst hC dX12_noSurges_77 ?_
      refine z_iadd hC dX12_noSurges_78 ?_
      refine z_put hC (ty := .int) tyX12 tyX12_ok nmX12 (fun w h => uT _ w (uL12 w h)) (oM_12 (show kM 0 = 12 by decide)) (loM' (show kM 0 = 12 by decide) (by decide)) 33 (by decide) (uT _ _ u1578) rfl rfl (33) ((σ14 0 33) + 1) (by simp [zu]) (by decide +kernel) rfl rfl (Nat.le_of_ble_eq_true rfl) dX12_noSurges_79 ?_
      obtain ⟨σ15, eσ15⟩ : ∃ z : zSt, z = zu σ14 0 33 ((σ14 0 33) + 1) := ⟨_, rfl⟩
      rw [← eσ15]
      replace hf := hf σ15 eσ15
      refine z_sub (lv' := [(0, vR ad 0), (3, vI x3), (4, vI s0)]) [1, 3, 0] rfl ?_
      exact wX12_noSurges_B82 hC hE hr hinj hk19  hf
set_option maxHeartbeats 4000000 in
set_option maxRecDepth 100000 in
theorem wX12_noSurges_B19 {p : Program} {l : Launch} {e : Env} {s : State} {m : MethodId} {args : Array Value} {below : List Frame} {meth : Method} {c : Code} {D : va_G} {dA : Nat → ClassId} {ad : Nat → Nat} {sz : Nat}  {K : Int → zSt → Prop} (hC : zC p m c cX12_noSurges 5 s args (Cond.code yX12_noSurges cX12_noSurges 5 (some .boolean) :: UW) RX12 meth D vwCl (tyA dA) (zA ad NM sz) NM ad (celM ad dA)) (hE : zE zX0 (zA ad NM sz) s s.heap) (hr : meth.sig.returnType = (some .boolean)) (hinj : ∀ i j, i < NM → j < NM → ad i = ad j → i = j) : ∀ (n : Nat) (σ : zSt) (x2 : Int) (x3 : Int), fX12_noSurges_B19 K n σ x2 x3 → zAt p l e ({ frames := 8, cells := 0, slots := 0, locals := 194 } : Room) s m args below meth c 0 0 (MQ below (va_Qi (zPi K) (zB D vwCl (tyA dA) NM ad (celM ad dA)) (zA ad NM sz)) args s 0 0 (zA ad NM sz)) 5 D vwCl (zA ad NM sz) NM ad (celM ad dA) 19 [(0, vR ad 0), (2, vI x2), (3, vI x3)] [] σ := by
  intro n
  induction n with
  | zero => intro σ x2 x3  hf; exact False.elim hf
  | succ n ih =>
    intro σ x2 x3  hf
    rw [uX12_noSurges_B19] at hf
    refine z_iload_n hC dX12_noSurges_19 2 rfl rfl ?_
    refine z_aload_n hC dX12_noSurges_20 0 rfl rfl ?_
    refine z_get hC (fun w h => uT _ w (uL12 w h)) (oM_12 (show kM 0 = 12 by decide)) 29 (by decide) (uT _ _ u1574) rfl rfl dX12_noSurges_21 ?_
    obtain ⟨g4, hf⟩ := hf
    obtain ⟨g5, hf⟩ := hf
    refine z_icmp_ge (tgt := 113) hC dX12_noSurges_24 (by decide) g4 g5 (fun hc => ?_) (fun hc => ?_)
    · replace hf := hf.1 hc
      refine z_iconst hC dX12_noSurges_113 ?_
      exact z_bret hC hr rfl dX12_noSurges_114 (Or.inl rfl) hf
    · replace hf := hf.2 hc
      refine z_aload_n hC dX12_noSurges_27 0 rfl rfl ?_
      refine z_iload_n hC dX12_noSurges_28 2 rfl rfl ?_
      refine z_callVi hC hE (oM_12 (show kM 0 = 12 by decide)) [vI x3] (fun sz2 => mX12_speedOf l hinj sz2 hf) (cwV 1 hC.1.2.2.2.2 (uV (uT _) u2040 u2042 u86 u118 u2043) rfl rfl rfl (by decide +kernel) ⟨Nat.le_of_ble_eq_true rfl, Nat.le_of_ble_eq_true rfl⟩) rfl rfl (Nat.le_of_ble_eq_true rfl) ⟨Nat.le_of_ble_eq_true rfl, Nat.le_of_ble_eq_true rfl⟩ dX12_noSurges_29 (fun r6 σ6 hf => ?_)
      refine z_aload_n hC dX12_noSurges_32 0 rfl rfl ?_
      refine z_bipush hC dX12_noSurges_33 (by decide) ?_
      refine z_callVi hC hE (oM_12 (show kM 0 = 12 by decide)) [vI 7] (fun sz2 => mX12_setting l hinj sz2 hf) (cwV 1 hC.1.2.2.2.2 (uV (uT _) u1813 u1815 u55 u118 u1816) rfl rfl rfl (by decide +kernel) ⟨Nat.le_of_ble_eq_true rfl, Nat.le_of_ble_eq_true rfl⟩) rfl rfl (Nat.le_of_ble_eq_true rfl) ⟨Nat.le_of_ble_eq_true rfl, Nat.le_of_ble_eq_true rfl⟩ dX12_noSurges_35 (fun r7 σ7 hf => ?_)
      obtain ⟨g8, hf⟩ := hf
      obtain ⟨g9, hf⟩ := hf
      refine z_icmp_lt (tgt := 45) hC dX12_noSurges_38 (by decide) g8 g9 (fun hc => ?_) (fun hc => ?_)
      · replace hf := hf.1 hc
        refine z_iconst hC dX12_noSurges_45 ?_
        exact wX12_noSurges_B46 hC hE hr hinj ih  hf
      · replace hf := hf.2 hc
        refine z_iconst hC dX12_noSurges_41 ?_
        refine z_goto (tgt := 46) hC dX12_noSurges_42 (by decide) ?_
        exact wX12_noSurges_B46 hC hE hr hinj ih  hf
set_option maxHeartbeats 4000000 in
set_option maxRecDepth 100000 in
theorem mX12_noSurges {D : va_G} {dA : Nat → ClassId} {ad : Nat → Nat}  (l : Launch) (hinj : ∀ i j, i < NM → j < NM → ad i = ad j → i = j) (sz : Nat) {K : Int → zSt → Prop} {σ : zSt} {x1 : Int} (hf : fX12_noSurges K σ x1) : Met l yX12_noSurges (Cond.code yX12_noSurges cX12_noSurges 5 (some .boolean) :: UW) ({ frames := 8, cells := 0, slots := 0, locals := 194 } : Room) (va_Pc [vR ad 0, vI x1] (zPre D vwCl (tyA dA) zX0 NM ad (celM ad dA) sz σ)) (va_Qi (zPi K) (zB D vwCl (tyA dA) NM ad (celM ad dA)) (zA ad NM sz)) 0 0 (zA ad NM sz) := by
  refine z_enter (cc := cX12_noSurges) (maxL := 5) (ret := (some .boolean)) (vs := [vR ad 0, vI x1]) (plainFor_of_name (by decide)) rfl hinj (Nat.le_of_ble_eq_true rfl) ?_
  intro p e s m args below meth c hC hE hsz hr hnm
  show zAt p l e ({ frames := 8, cells := 0, slots := 0, locals := 194 } : Room) s m args below meth c 0 0 (MQ below (va_Qi (zPi K) (zB D vwCl (tyA dA) NM ad (celM ad dA)) (zA ad NM sz)) args s 0 0 (zA ad NM sz)) 5 D vwCl (zA ad NM sz) NM ad (celM ad dA) 0 [(0, vR ad 0), (1, vI x1)] [] σ
  refine z_aload_n hC dX12_noSurges_0 0 rfl rfl ?_
  refine z_iload_n hC dX12_noSurges_1 1 rfl rfl ?_
  refine z_callVi hC hE (oM_12 (show kM 0 = 12 by decide)) [vI x1] (fun sz2 => mX12_noSegments l hinj sz2 hf) (cwV 1 hC.1.2.2.2.2 (uV (uT _) u2016 u2018 u82 u118 u2019) rfl rfl rfl (by decide +kernel) ⟨Nat.le_of_ble_eq_true rfl, Nat.le_of_ble_eq_true rfl⟩) rfl rfl (Nat.le_of_ble_eq_true rfl) ⟨Nat.le_of_ble_eq_true rfl, Nat.le_of_ble_eq_true rfl⟩ dX12_noSurges_2 (fun r1 σ1 hf => ?_)
  obtain ⟨g2, hf⟩ := hf
  refine z_if_eq (tgt := 10) hC dX12_noSurges_5 (by decide) g2 (fun hc => ?_) (fun hc => ?_)
  · replace hf := hf.1 hc
    refine z_aload_n hC dX12_noSurges_10 0 rfl rfl ?_
    refine z_iconst hC dX12_noSurges_11 ?_
    refine z_put hC (ty := .int) tyX12 tyX12_ok nmX12 (fun w h => uT _ w (uL12 w h)) (oM_12 (show kM 0 = 12 by decide)) (loM' (show kM 0 = 12 by decide) (by decide)) 33 (by decide) (uT _ _ u1578) rfl rfl (33) (0) (by simp [zu]) (by decide +kernel) rfl rfl (Nat.le_of_ble_eq_true rfl) dX12_noSurges_12 ?_
    obtain ⟨σ3, eσ3⟩ : ∃ z : zSt, z = zu σ1 0 33 0 := ⟨_, rfl⟩
    rw [← eσ3]
    replace hf := hf σ3 eσ3
    refine z_iconst hC dX12_noSurges_15 ?_
    refine z_istore_n hC ([(2, vI 0), (0, vR ad 0), (1, vI x1)]) dX12_noSurges_16 rfl (by decide) rfl ?_
    refine z_iconst hC dX12_noSurges_17 ?_
    refine z_istore_n hC ([(3, vI 0), (2, vI 0), (0, vR ad 0), (1, vI x1)]) dX12_noSurges_18 rfl (by decide) rfl ?_
    refine z_sub (lv' := [(0, vR ad 0), (2, vI 0), (3, vI 0)]) [2, 1, 0] rfl ?_
    obtain ⟨n, hf⟩ := hf
    exact wX12_noSurges_B19 hC hE hr hinj n _ _ _ hf
  · replace hf := hf.2 hc
    refine z_iconst hC dX12_noSurges_8 ?_
    exact z_bret hC hr rfl dX12_noSurges_9 (Or.inr rfl) hf

-- ===== X12_surgeCount
def fX12_surgeCount (K : Int → zSt → Prop) (σ : zSt) (x1 : Int) : Prop :=
  fX12_noSurges (fun r1 σ1 => zrg r1 ∧ ((r1 = 0 → K (σ1 0 33) σ1) ∧ (¬ r1 = 0 → K 0 σ1))) σ x1
set_option maxHeartbeats 4000000 in
set_option maxRecDepth 100000 in
theorem mX12_surgeCount {D : va_G} {dA : Nat → ClassId} {ad : Nat → Nat}  (l : Launch) (hinj : ∀ i j, i < NM → j < NM → ad i = ad j → i = j) (sz : Nat) {K : Int → zSt → Prop} {σ : zSt} {x1 : Int} (hf : fX12_surgeCount K σ x1) : Met l yX12_surgeCount (Cond.code yX12_surgeCount cX12_surgeCount 2 (some .int) :: UW) ({ frames := 9, cells := 0, slots := 0, locals := 218 } : Room) (va_Pc [vR ad 0, vI x1] (zPre D vwCl (tyA dA) zX0 NM ad (celM ad dA) sz σ)) (va_Qi (zPi K) (zB D vwCl (tyA dA) NM ad (celM ad dA)) (zA ad NM sz)) 0 0 (zA ad NM sz) := by
  refine z_enter (cc := cX12_surgeCount) (maxL := 2) (ret := (some .int)) (vs := [vR ad 0, vI x1]) (plainFor_of_name (by decide)) rfl hinj (Nat.le_of_ble_eq_true rfl) ?_
  intro p e s m args below meth c hC hE hsz hr hnm
  show zAt p l e ({ frames := 9, cells := 0, slots := 0, locals := 218 } : Room) s m args below meth c 0 0 (MQ below (va_Qi (zPi K) (zB D vwCl (tyA dA) NM ad (celM ad dA)) (zA ad NM sz)) args s 0 0 (zA ad NM sz)) 2 D vwCl (zA ad NM sz) NM ad (celM ad dA) 0 [(0, vR ad 0), (1, vI x1)] [] σ
  refine z_aload_n hC dX12_surgeCount_0 0 rfl rfl ?_
  refine z_iload_n hC dX12_surgeCount_1 1 rfl rfl ?_
  refine z_callVi hC hE (oM_12 (show kM 0 = 12 by decide)) [vI x1] (fun sz2 => mX12_noSurges l hinj sz2 hf) (cwV 1 hC.1.2.2.2.2 (uV (uT _) u2064 u2066 u88 u118 u2067) rfl rfl rfl (by decide +kernel) ⟨Nat.le_of_ble_eq_true rfl, Nat.le_of_ble_eq_true rfl⟩) rfl rfl (Nat.le_of_ble_eq_true rfl) ⟨Nat.le_of_ble_eq_true rfl, Nat.le_of_ble_eq_true rfl⟩ dX12_surgeCount_2 (fun r1 σ1 hf => ?_)
  obtain ⟨g2, hf⟩ := hf
  refine z_if_eq (tgt := 12) hC dX12_surgeCount_5 (by decide) g2 (fun hc => ?_) (fun hc => ?_)
  · replace hf := hf.1 hc
    refine z_aload_n hC dX12_surgeCount_12 0 rfl rfl ?_
    refine z_get hC (fun w h => uT _ w (uL12 w h)) (oM_12 (show kM 0 = 12 by decide)) 33 (by decide) (uT _ _ u1578) rfl rfl dX12_surgeCount_13 ?_
    exact z_iret hC hr rfl dX12_surgeCount_16 hf
  · replace hf := hf.2 hc
    refine z_iconst hC dX12_surgeCount_8 ?_
    refine z_goto (tgt := 16) hC dX12_surgeCount_9 (by decide) ?_
    exact z_iret hC hr rfl dX12_surgeCount_16 hf

-- ===== X12_surgeStart
def fX12_surgeStart (K : Int → zSt → Prop) (σ : zSt) (x1 : Int) (x2 : Int) : Prop :=
  fX12_noSurges (fun r1 σ1 => zrg r1 ∧ ((r1 = 0 → fX12_inRange (fun r3 σ3 => zrg r3 ∧ ((r3 = 0 → K (-1) σ3) ∧ (¬ r3 = 0 → (0 ≤ x2 ∧ x2 < 6) ∧ fX12_dayOf (fun r6 σ6 => K r6 σ6) σ3 (σ3 15 x2)))) σ1 x2 0 ((σ1 0 33) - 1)) ∧ (¬ r1 = 0 → K 0 σ1))) σ x1
set_option maxHeartbeats 4000000 in
set_option maxRecDepth 100000 in
theorem mX12_surgeStart {D : va_G} {dA : Nat → ClassId} {ad : Nat → Nat}  (l : Launch) (hinj : ∀ i j, i < NM → j < NM → ad i = ad j → i = j) (sz : Nat) {K : Int → zSt → Prop} {σ : zSt} {x1 : Int} {x2 : Int} (hf : fX12_surgeStart K σ x1 x2) : Met l yX12_surgeStart (Cond.code yX12_surgeStart cX12_surgeStart 3 (some .int) :: UW) ({ frames := 9, cells := 0, slots := 0, locals := 218 } : Room) (va_Pc [vR ad 0, vI x1, vI x2] (zPre D vwCl (tyA dA) zX0 NM ad (celM ad dA) sz σ)) (va_Qi (zPi K) (zB D vwCl (tyA dA) NM ad (celM ad dA)) (zA ad NM sz)) 0 0 (zA ad NM sz) := by
  refine z_enter (cc := cX12_surgeStart) (maxL := 3) (ret := (some .int)) (vs := [vR ad 0, vI x1, vI x2]) (plainFor_of_name (by decide)) rfl hinj (Nat.le_of_ble_eq_true rfl) ?_
  intro p e s m args below meth c hC hE hsz hr hnm
  show zAt p l e ({ frames := 9, cells := 0, slots := 0, locals := 218 } : Room) s m args below meth c 0 0 (MQ below (va_Qi (zPi K) (zB D vwCl (tyA dA) NM ad (celM ad dA)) (zA ad NM sz)) args s 0 0 (zA ad NM sz)) 3 D vwCl (zA ad NM sz) NM ad (celM ad dA) 0 [(0, vR ad 0), (1, vI x1), (2, vI x2)] [] σ
  refine z_aload_n hC dX12_surgeStart_0 0 rfl rfl ?_
  refine z_iload_n hC dX12_surgeStart_1 1 rfl rfl ?_
  refine z_callVi hC hE (oM_12 (show kM 0 = 12 by decide)) [vI x1] (fun sz2 => mX12_noSurges l hinj sz2 hf) (cwV 1 hC.1.2.2.2.2 (uV (uT _) u2064 u2066 u88 u118 u2067) rfl rfl rfl (by decide +kernel) ⟨Nat.le_of_ble_eq_true rfl, Nat.le_of_ble_eq_true rfl⟩) rfl rfl (Nat.le_of_ble_eq_true rfl) ⟨Nat.le_of_ble_eq_true rfl, Nat.le_of_ble_eq_true rfl⟩ dX12_surgeStart_2 (fun r1 σ1 hf => ?_)
  obtain ⟨g2, hf⟩ := hf
  refine z_if_eq (tgt := 10) hC dX12_surgeStart_5 (by decide) g2 (fun hc => ?_) (fun hc => ?_)
  · replace hf := hf.1 hc
    refine z_iload_n hC dX12_surgeStart_10 2 rfl rfl ?_
    refine z_iconst hC dX12_surgeStart_11 ?_
    refine z_aload_n hC dX12_surgeStart_12 0 rfl rfl ?_
    refine z_get hC (fun w h => uT _ w (uL12 w h)) (oM_12 (show kM 0 = 12 by decide)) 33 (by decide) (uT _ _ u1578) rfl rfl dX12_surgeStart_13 ?_
    refine z_iconst hC dX12_surgeStart_16 ?_
    refine z_isub hC dX12_surgeStart_17 ?_
    refine z_callSi hC hE [vI x2, vI 0, vI ((σ1 0 33) - 1)] (fun sz2 => mX12_inRange l hinj sz2 hf) (va_cwS 3 hC.1.2.2.2.2 (uS (uT _) u1700 u1701 u118 u1702) rfl rfl rfl (by decide +kernel) ⟨Nat.le_of_ble_eq_true rfl, Nat.le_of_ble_eq_true rfl⟩) rfl rfl (Nat.le_of_ble_eq_true rfl) ⟨Nat.le_of_ble_eq_true rfl, Nat.le_of_ble_eq_true rfl⟩ dX12_surgeStart_18 (fun r3 σ3 hf => ?_)
    obtain ⟨g4, hf⟩ := hf
    refine z_if_eq (tgt := 37) hC dX12_surgeStart_21 (by decide) g4 (fun hc => ?_) (fun hc => ?_)
    · replace hf := hf.1 hc
      refine z_iconst hC dX12_surgeStart_37 ?_
      exact z_iret hC hr rfl dX12_surgeStart_38 hf
    · replace hf := hf.2 hc
      refine z_aload_n hC dX12_surgeStart_24 0 rfl rfl ?_
      refine z_aload_n hC dX12_surgeStart_25 0 rfl rfl ?_
      refine z_get hC (fun w h => uT _ w (uL12 w h)) (oM_12 (show kM 0 = 12 by decide)) 34 (by decide) (uT _ _ u1579) rfl rfl dX12_surgeStart_26 ?_
      refine z_iload_n hC dX12_surgeStart_29 2 rfl rfl ?_
      obtain ⟨g5, hf⟩ := hf
      refine z_iaload hC (aM_34 (show kM 15 = 34 by decide)) g5 dX12_surgeStart_30 ?_
      refine z_callVi hC hE (oM_12 (show kM 0 = 12 by decide)) [vI (σ3 15 x2)] (fun sz2 => mX12_dayOf l hinj sz2 hf) (cwV 1 hC.1.2.2.2.2 (uV (uT _) u1837 u1839 u59 u118 u1840) rfl rfl rfl (by decide +kernel) ⟨Nat.le_of_ble_eq_true rfl, Nat.le_of_ble_eq_true rfl⟩) rfl rfl (Nat.le_of_ble_eq_true rfl) ⟨Nat.le_of_ble_eq_true rfl, Nat.le_of_ble_eq_true rfl⟩ dX12_surgeStart_31 (fun r6 σ6 hf => ?_)
      refine z_goto (tgt := 38) hC dX12_surgeStart_34 (by decide) ?_
      exact z_iret hC hr rfl dX12_surgeStart_38 hf
  · replace hf := hf.2 hc
    refine z_iconst hC dX12_surgeStart_8 ?_
    exact z_iret hC hr rfl dX12_surgeStart_9 hf

-- ===== X12_surgeDays
def fX12_surgeDays (K : Int → zSt → Prop) (σ : zSt) (x1 : Int) (x2 : Int) : Prop :=
  fX12_noSurges (fun r1 σ1 => zrg r1 ∧ ((r1 = 0 → fX12_inRange (fun r3 σ3 => zrg r3 ∧ ((r3 = 0 → K (-1) σ3) ∧ (¬ r3 = 0 → (0 ≤ x2 ∧ x2 < 6) ∧ fX12_dayOf (fun r6 σ6 => fX12_dayOf (fun r7 σ7 => K (r6 - r7) σ7) σ6 (σ6 15 x2)) σ3 (σ3 16 x2)))) σ1 x2 0 ((σ1 0 33) - 1)) ∧ (¬ r1 = 0 → K 0 σ1))) σ x1
set_option maxHeartbeats 4000000 in
set_option maxRecDepth 100000 in
theorem mX12_surgeDays {D : va_G} {dA : Nat → ClassId} {ad : Nat → Nat}  (l : Launch) (hinj : ∀ i j, i < NM → j < NM → ad i = ad j → i = j) (sz : Nat) {K : Int → zSt → Prop} {σ : zSt} {x1 : Int} {x2 : Int} (hf : fX12_surgeDays K σ x1 x2) : Met l yX12_surgeDays (Cond.code yX12_surgeDays cX12_surgeDays 3 (some .int) :: UW) ({ frames := 9, cells := 0, slots := 0, locals := 218 } : Room) (va_Pc [vR ad 0, vI x1, vI x2] (zPre D vwCl (tyA dA) zX0 NM ad (celM ad dA) sz σ)) (va_Qi (zPi K) (zB D vwCl (tyA dA) NM ad (celM ad dA)) (zA ad NM sz)) 0 0 (zA ad NM sz) := by
  refine z_enter (cc := cX12_surgeDays) (maxL := 3) (ret := (some .int)) (vs := [vR ad 0, vI x1, vI x2]) (plainFor_of_name (by decide)) rfl hinj (Nat.le_of_ble_eq_true rfl) ?_
  intro p e s m args below meth c hC hE hsz hr hnm
  show zAt p l e ({ frames := 9, cells := 0, slots := 0, locals := 218 } : Room) s m args below meth c 0 0 (MQ below (va_Qi (zPi K) (zB D vwCl (tyA dA) NM ad (celM ad dA)) (zA ad NM sz)) args s 0 0 (zA ad NM sz)) 3 D vwCl (zA ad NM sz) NM ad (celM ad dA) 0 [(0, vR ad 0), (1, vI x1), (2, vI x2)] [] σ
  refine z_aload_n hC dX12_surgeDays_0 0 rfl rfl ?_
  refine z_iload_n hC dX12_surgeDays_1 1 rfl rfl ?_
  refine z_callVi hC hE (oM_12 (show kM 0 = 12 by decide)) [vI x1] (fun sz2 => mX12_noSurges l hinj sz2 hf) (cwV 1 hC.1.2.2.2.2 (uV (uT _) u2064 u2066 u88 u118 u2067) rfl rfl rfl (by decide +kernel) ⟨Nat.le_of_ble_eq_true rfl, Nat.le_of_ble_eq_true rfl⟩) rfl rfl (Nat.le_of_ble_eq_true rfl) ⟨Nat.le_of_ble_eq_true rfl, Nat.le_of_ble_eq_true rfl⟩ dX12_surgeDays_2 (fun r1 σ1 hf => ?_)
  obtain ⟨g2, hf⟩ := hf
  refine z_if_eq (tgt := 10) hC dX12_surgeDays_5 (by decide) g2 (fun hc => ?_) (fun hc => ?_)
  · replace hf := hf.1 hc
    refine z_iload_n hC dX12_surgeDays_10 2 rfl rfl ?_
    refine z_iconst hC dX12_surgeDays_11 ?_
    refine z_aload_n hC dX12_surgeDays_12 0 rfl rfl ?_
    refine z_get hC (fun w h => uT _ w (uL12 w h)) (oM_12 (show kM 0 = 12 by decide)) 33 (by decide) (uT _ _ u1578) rfl rfl dX12_surgeDays_13 ?_
    refine z_iconst hC dX12_surgeDays_16 ?_
    refine z_isub hC dX12_surgeDays_17 ?_
    refine z_callSi hC hE [vI x2, vI 0, vI ((σ1 0 33) - 1)] (fun sz2 => mX12_inRange l hinj sz2 hf) (va_cwS 3 hC.1.2.2.2.2 (uS (uT _) u1700 u1701 u118 u1702) rfl rfl rfl (by decide +kernel) ⟨Nat.le_of_ble_eq_true rfl, Nat.le_of_ble_eq_true rfl⟩) rfl rfl (Nat.le_of_ble_eq_true rfl) ⟨Nat.le_of_ble_eq_true rfl, Nat.le_of_ble_eq_true rfl⟩ dX12_surgeDays_18 (fun r3 σ3 hf => ?_)
    obtain ⟨g4, hf⟩ := hf
    refine z_if_eq (tgt := 48) hC dX12_surgeDays_21 (by decide) g4 (fun hc => ?_) (fun hc => ?_)
    · replace hf := hf.1 hc
      refine z_iconst hC dX12_surgeDays_48 ?_
      exact z_iret hC hr rfl dX12_surgeDays_49 hf
    · replace hf := hf.2 hc
      refine z_aload_n hC dX12_surgeDays_24 0 rfl rfl ?_
      refine z_aload_n hC dX12_surgeDays_25 0 rfl rfl ?_
      refine z_get hC (fun w h => uT _ w (uL12 w h)) (oM_12 (show kM 0 = 12 by decide)) 35 (by decide) (uT _ _ u1580) rfl rfl dX12_surgeDays_26 ?_
      refine z_iload_n hC dX12_surgeDays_29 2 rfl rfl ?_
      obtain ⟨g5, hf⟩ := hf
      refine z_iaload hC (aM_34 (show kM 16 = 34 by decide)) g5 dX12_surgeDays_30 ?_
      refine z_callVi hC hE (oM_12 (show kM 0 = 12 by decide)) [vI (σ3 16 x2)] (fun sz2 => mX12_dayOf l hinj sz2 hf) (cwV 1 hC.1.2.2.2.2 (uV (uT _) u1837 u1839 u59 u118 u1840) rfl rfl rfl (by decide +kernel) ⟨Nat.le_of_ble_eq_true rfl, Nat.le_of_ble_eq_true rfl⟩) rfl rfl (Nat.le_of_ble_eq_true rfl) ⟨Nat.le_of_ble_eq_true rfl, Nat.le_of_ble_eq_true rfl⟩ dX12_surgeDays_31 (fun r6 σ6 hf => ?_)
      refine z_aload_n hC dX12_surgeDays_34 0 rfl rfl ?_
      refine z_aload_n hC dX12_surgeDays_35 0 rfl rfl ?_
      refine z_get hC (fun w h => uT _ w (uL12 w h)) (oM_12 (show kM 0 = 12 by decide)) 34 (by decide) (uT _ _ u1579) rfl rfl dX12_surgeDays_36 ?_
      refine z_iload_n hC dX12_surgeDays_39 2 rfl rfl ?_
      refine z_iaload hC (aM_34 (show kM 15 = 34 by decide)) g5 dX12_surgeDays_40 ?_
      refine z_callVi hC hE (oM_12 (show kM 0 = 12 by decide)) [vI (σ6 15 x2)] (fun sz2 => mX12_dayOf l hinj sz2 hf) (cwV 1 hC.1.2.2.2.2 (uV (uT _) u1837 u1839 u59 u118 u1840) rfl rfl rfl (by decide +kernel) ⟨Nat.le_of_ble_eq_true rfl, Nat.le_of_ble_eq_true rfl⟩) rfl rfl (Nat.le_of_ble_eq_true rfl) ⟨Nat.le_of_ble_eq_true rfl, Nat.le_of_ble_eq_true rfl⟩ dX12_surgeDays_41 (fun r7 σ7 hf => ?_)
      refine z_isub hC dX12_surgeDays_44 ?_
      refine z_goto (tgt := 49) hC dX12_surgeDays_45 (by decide) ?_
      exact z_iret hC hr rfl dX12_surgeDays_49 hf
  · replace hf := hf.2 hc
    refine z_iconst hC dX12_surgeDays_8 ?_
    exact z_iret hC hr rfl dX12_surgeDays_9 hf

-- ===== X12_floorOf
def fX12_floorOf (K : Int → zSt → Prop) (σ : zSt) (x0 : Int) (x1 : Int) : Prop :=
  zrg x0 ∧ zrg x1 ∧ ¬ x1 = 0 ∧ zrg ((x0.tdiv x1) * x1) ∧ (((x0.tdiv x1) * x1 ≤ x0 → K (x0.tdiv x1) σ) ∧ (¬ (x0.tdiv x1) * x1 ≤ x0 → K ((x0.tdiv x1) - 1) σ))
set_option maxHeartbeats 4000000 in
set_option maxRecDepth 100000 in
theorem mX12_floorOf {D : va_G} {dA : Nat → ClassId} {ad : Nat → Nat}  (l : Launch) (hinj : ∀ i j, i < NM → j < NM → ad i = ad j → i = j) (sz : Nat) {K : Int → zSt → Prop} {σ : zSt} {x0 : Int} {x1 : Int} (hf : fX12_floorOf K σ x0 x1) : Met l yX12_floorOf (Cond.code yX12_floorOf cX12_floorOf 3 (some .int) :: UW) ({ frames := 0, cells := 0, slots := 0, locals := 0 } : Room) (va_Pc [vI x0, vI x1] (zPre D vwCl (tyA dA) zX0 NM ad (celM ad dA) sz σ)) (va_Qi (zPi K) (zB D vwCl (tyA dA) NM ad (celM ad dA)) (zA ad NM sz)) 0 0 (zA ad NM sz) := by
  refine z_enter (cc := cX12_floorOf) (maxL := 3) (ret := (some .int)) (vs := [vI x0, vI x1]) (plainFor_of_name (by decide)) rfl hinj (Nat.le_of_ble_eq_true rfl) ?_
  intro p e s m args below meth c hC hE hsz hr hnm
  show zAt p l e ({ frames := 0, cells := 0, slots := 0, locals := 0 } : Room) s m args below meth c 0 0 (MQ below (va_Qi (zPi K) (zB D vwCl (tyA dA) NM ad (celM ad dA)) (zA ad NM sz)) args s 0 0 (zA ad NM sz)) 3 D vwCl (zA ad NM sz) NM ad (celM ad dA) 0 [(0, vI x0), (1, vI x1)] [] σ
  refine z_iload_n hC dX12_floorOf_0 0 rfl rfl ?_
  refine z_iload_n hC dX12_floorOf_1 1 rfl rfl ?_
  obtain ⟨g1, hf⟩ := hf
  obtain ⟨g2, hf⟩ := hf
  obtain ⟨g3, hf⟩ := hf
  refine z_idiv hC dX12_floorOf_2 g1 g2 g3 ?_
  refine z_istore_n hC ([(2, vI (x0.tdiv x1)), (0, vI x0), (1, vI x1)]) dX12_floorOf_3 rfl (by decide) rfl ?_
  refine z_iload_n hC dX12_floorOf_4 0 rfl rfl ?_
  refine z_iload_n hC dX12_floorOf_5 2 rfl rfl ?_
  refine z_imul hC dX12_floorOf_6 ?_
  refine z_iload_n hC dX12_floorOf_7 1 rfl rfl ?_
  obtain ⟨g4, hf⟩ := hf
  refine z_icmp_le (tgt := 17) hC dX12_floorOf_8 (by decide) g4 g1 (fun hc => ?_) (fun hc => ?_)
  · replace hf := hf.1 hc
    refine z_iload_n hC dX12_floorOf_17 0 rfl rfl ?_
    exact z_iret hC hr rfl dX12_floorOf_18 hf
  · replace hf := hf.2 hc
    refine z_iload_n hC dX12_floorOf_11 0 rfl rfl ?_
    refine z_iconst hC dX12_floorOf_12 ?_
    refine z_isub hC dX12_floorOf_13 ?_
    refine z_goto (tgt := 18) hC dX12_floorOf_14 (by decide) ?_
    exact z_iret hC hr rfl dX12_floorOf_18 hf

-- ===== X12_positionOn
def fX12_positionOn_B101 (K : Int → zSt → Prop) (σ : zSt) (x1 : Int) (x3 : Int) (x4 : Int) (x5 : Int) (s0 : Int) : Prop :=
  fX12_dayOf (fun r17 σ17 => fX12_dayOf (fun r18 σ18 => fX12_dayOf (fun r19 σ19 => fX12_floorOf (fun r20 σ20 => K ((100 * s0) + r20) σ20) σ19 ((100 * (x5 - s0)) * (x1 - r17)) (r18 - r19)) σ18 x3) σ17 x4) σ x3
def fX12_positionOn_B48 (K : Int → zSt → Prop) (k5 : zSt → Int → Int → Int → Int → Prop) (σ : zSt) (x1 : Int) (x2 : Int) (x3 : Int) (x4 : Int) (s0 : Int) : Prop :=
  fX12_dayOf (fun r8 σ8 => zrg r8 ∧ zrg x1 ∧ ((r8 = x1 → K (100 * s0) σ8) ∧ (¬ r8 = x1 → fX12_dayOf (fun r11 σ11 => zrg r11 ∧ ((r11 ≤ x1 → k5 σ11 x1 x2 x4 (x4 + 1)) ∧ (¬ r11 ≤ x1 → zrg x3 ∧ ((0 ≤ x3 → zrg x2 ∧ ((x2 = 0 → fX12_trueY (fun r15 σ15 => fX12_positionOn_B101 K σ15 x1 x3 x4 s0 r15) σ11 x3) ∧ (¬ x2 = 0 → fX12_trueX (fun r16 σ16 => fX12_positionOn_B101 K σ16 x1 x3 x4 s0 r16) σ11 x3))) ∧ (¬ 0 ≤ x3 → K (-2147483648) σ11))))) σ8 x4))) σ x4
noncomputable def fX12_positionOn_B5 (K : Int → zSt → Prop) (n : Nat) : zSt → Int → Int → Int → Int → Prop :=
  Nat.rec (motive := fun _ => zSt → Int → Int → Int → Int → Prop) (fun _ _ _ _ _ => False) (fun _ ih σ x1 x2 x3 x4 => zrg x4 ∧ zrg (σ 1 2) ∧ ((σ 1 2 ≤ x4 → K (-2147483648) σ) ∧ (¬ σ 1 2 ≤ x4 → (0 ≤ x4 ∧ x4 < 6) ∧ zrg (σ 9 x4) ∧ ((σ 9 x4 = 0 → ih σ x1 x2 x3 (x4 + 1)) ∧ (¬ σ 9 x4 = 0 → zrg x2 ∧ ((x2 = 0 → fX12_trueY (fun r6 σ6 => fX12_positionOn_B48 K ih σ6 x1 x2 x3 x4 r6) σ x4) ∧ (¬ x2 = 0 → fX12_trueX (fun r7 σ7 => fX12_positionOn_B48 K ih σ7 x1 x2 x3 x4 r7) σ x4))))))) n
theorem uX12_positionOn_B5 (K : Int → zSt → Prop) (n0 : Nat) (σ : zSt) (x1 : Int) (x2 : Int) (x3 : Int) (x4 : Int) : fX12_positionOn_B5 K (n0 + 1) σ x1 x2 x3 x4 = (zrg x4 ∧ zrg (σ 1 2) ∧ ((σ 1 2 ≤ x4 → K (-2147483648) σ) ∧ (¬ σ 1 2 ≤ x4 → (0 ≤ x4 ∧ x4 < 6) ∧ zrg (σ 9 x4) ∧ ((σ 9 x4 = 0 → (fX12_positionOn_B5 K n0) σ x1 x2 x3 (x4 + 1)) ∧ (¬ σ 9 x4 = 0 → zrg x2 ∧ ((x2 = 0 → fX12_trueY (fun r6 σ6 => fX12_positionOn_B48 K (fX12_positionOn_B5 K n0) σ6 x1 x2 x3 x4 r6) σ x4) ∧ (¬ x2 = 0 → fX12_trueX (fun r7 σ7 => fX12_positionOn_B48 K (fX12_positionOn_B5 K n0) σ7 x1 x2 x3 x4 r7) σ x4))))))) := rfl
def fX12_positionOn (K : Int → zSt → Prop) (σ : zSt) (x1 : Int) (x2 : Int) : Prop :=
  (∃ n, fX12_positionOn_B5 K n σ x1 x2 (-1) 0)
set_option maxHeartbeats 4000000 in
set_option maxRecDepth 100000 in
theorem wX12_positionOn_B101 {p : Program} {l : Launch} {e : Env} {s : State} {m : MethodId} {args : Array Value} {below : List Frame} {meth : Method} {c : Code} {D : va_G} {dA : Nat → ClassId} {ad : Nat → Nat} {sz : Nat}  {K : Int → zSt → Prop} (hC : zC p m c cX12_positionOn 7 s args (Cond.code yX12_positionOn cX12_positionOn 7 (some .int) :: UW) RX12 meth D vwCl (tyA dA) (zA ad NM sz) NM ad (celM ad dA)) (hE : zE zX0 (zA ad NM sz) s s.heap) (hr : meth.sig.returnType = (some .int)) (hinj : ∀ i j, i < NM → j < NM → ad i = ad j → i = j) {σ : zSt} {x1 : Int} {x3 : Int} {x4 : Int} {x5 : Int} {s0 : Int} (hf : fX12_positionOn_B101 K σ x1 x3 x4 x5 s0) : zAt p l e ({ frames := 1, cells := 0, slots := 0, locals := 22 } : Room) s m args below meth c 0 0 (MQ below (va_Qi (zPi K) (zB D vwCl (tyA dA) NM ad (celM ad dA)) (zA ad NM sz)) args s 0 0 (zA ad NM sz)) 7 D vwCl (zA ad NM sz) NM ad (celM ad dA) 101 [(0, vR ad 0), (1, vI x1), (3, vI x3), (4, vI x4), (5, vI x5)] [vI s0] σ := by
  refine z_istore hC ([(6, vI s0), (0, vR ad 0), (1, vI x1), (3, vI x3), (4, vI x4), (5, vI x5)]) dX12_positionOn_101 (by decide) rfl ?_
  refine z_bipush hC dX12_positionOn_103 (by decide) ?_
  refine z_iload hC dX12_positionOn_105 0 rfl ?_
  refine z_imul hC dX12_positionOn_107 ?_
  refine z_bipush hC dX12_positionOn_108 (by decide) ?_
  refine z_iload hC dX12_positionOn_110 5 rfl ?_
  refine z_iload hC dX12_positionOn_112 0 rfl ?_
  refine z_isub hC dX12_positionOn_114 ?_
  refine z_imul hC dX12_positionOn_115 ?_
  refine z_iload_n hC dX12_positionOn_116 2 rfl rfl ?_
  refine z_aload_n hC dX12_positionOn_117 1 rfl rfl ?_
  refine z_iload_n hC dX12_positionOn_118 3 rfl rfl ?_
  refine z_callVi hC hE (oM_12 (show kM 0 = 12 by decide)) [vI x3] (fun sz2 => mX12_dayOf l hinj sz2 hf) (cwV 1 hC.1.2.2.2.2 (uV (uT _) u1837 u1839 u59 u118 u1840) rfl rfl rfl (by decide +kernel) ⟨Nat.le_of_ble_eq_true rfl, Nat.le_of_ble_eq_true rfl⟩) rfl rfl (Nat.le_of_ble_eq_true rfl) ⟨Nat.le_of_ble_eq_true rfl, Nat.le_of_ble_eq_true rfl⟩ dX12_positionOn_119 (fun r17 σ17 hf => ?_)
  refine z_isub hC dX12_positionOn_122 ?_
  refine z_imul hC dX12_positionOn_123 ?_
  refine z_aload_n hC dX12_positionOn_124 1 rfl rfl ?_
  refine z_iload hC dX12_positionOn_125 4 rfl ?_
  refine z_callVi hC hE (oM_12 (show kM 0 = 12 by decide)) [vI x4] (fun sz2 => mX12_dayOf l hinj sz2 hf) (cwV 1 hC.1.2.2.2.2 (uV (uT _) u1837 u1839 u59 u118 u1840) rfl rfl rfl (by decide +kernel) ⟨Nat.le_of_ble_eq_true rfl, Nat.le_of_ble_eq_true rfl⟩) rfl rfl (Nat.le_of_ble_eq_true rfl) ⟨Nat.le_of_ble_eq_true rfl, Nat.le_of_ble_eq_true rfl⟩ dX12_positionOn_127 (fun r18 σ18 hf => ?_)
  refine z_aload_n hC dX12_positionOn_130 1 rfl rfl ?_
  refine z_iload_n hC dX12_positionOn_131 3 rfl rfl ?_
  refine z_callVi hC hE (oM_12 (show kM 0 = 12 by decide)) [vI x3] (fun sz2 => mX12_dayOf l hinj sz2 hf) (cwV 1 hC.1.2.2.2.2 (uV (uT _) u1837 u1839 u59 u118 u1840) rfl rfl rfl (by decide +kernel) ⟨Nat.le_of_ble_eq_true rfl, Nat.le_of_ble_eq_true rfl⟩) rfl rfl (Nat.le_of_ble_eq_true rfl) ⟨Nat.le_of_ble_eq_true rfl, Nat.le_of_ble_eq_true rfl⟩ dX12_positionOn_132 (fun r19 σ19 hf => ?_)
  refine z_isub hC dX12_positionOn_135 ?_
  refine z_callSi hC hE [vI ((100 * (x5 - s0)) * (x1 - r17)), vI (r18 - r19)] (fun sz2 => mX12_floorOf l hinj sz2 hf) (va_cwS 2 hC.1.2.2.2.2 (uS (uT _) u2085 u2086 u118 u2087) rfl rfl rfl (by decide +kernel) ⟨Nat.le_of_ble_eq_true rfl, Nat.le_of_ble_eq_true rfl⟩) rfl rfl (Nat.le_of_ble_eq_true rfl) ⟨Nat.le_of_ble_eq_true rfl, Nat.le_of_ble_eq_true rfl⟩ dX12_positionOn_136 (fun r20 σ20 hf => ?_)
  refine z_iadd hC dX12_positionOn_139 ?_
  exact z_iret hC hr rfl dX12_positionOn_140 hf
set_option maxHeartbeats 4000000 in
set_option maxRecDepth 100000 in
theorem wX12_positionOn_B48 {p : Program} {l : Launch} {e : Env} {s : State} {m : MethodId} {args : Array Value} {below : List Frame} {meth : Method} {c : Code} {D : va_G} {dA : Nat → ClassId} {ad : Nat → Nat} {sz : Nat}  {K : Int → zSt → Prop} {k5 : zSt → Int → Int → Int → Int → Prop} (hC : zC p m c cX12_positionOn 7 s args (Cond.code yX12_positionOn cX12_positionOn 7 (some .int) :: UW) RX12 meth D vwCl (tyA dA) (zA ad NM sz) NM ad (celM ad dA)) (hE : zE zX0 (zA ad NM sz) s s.heap) (hr : meth.sig.returnType = (some .int)) (hinj : ∀ i j, i < NM → j < NM → ad i = ad j → i = j) (hk5 : ∀ (σ : zSt) (x1 : Int) (x2 : Int) (x3 : Int) (x4 : Int), k5 σ x1 x2 x3 x4 → zAt p l e ({ frames := 1, cells := 0, slots := 0, locals := 22 } : Room) s m args below meth c 0 0 (MQ below (va_Qi (zPi K) (zB D vwCl (tyA dA) NM ad (celM ad dA)) (zA ad NM sz)) args s 0 0 (zA ad NM sz)) 7 D vwCl (zA ad NM sz) NM ad (celM ad dA) 5 [(0, vR ad 0), (1, vI x1), (2, vI x2), (3, vI x3), (4, vI x4)] [] σ) {σ : zSt} {x1 : Int} {x2 : Int} {x3 : Int} {x4 : Int} {s0 : Int} (hf : fX12_positionOn_B48 K k5 σ x1 x2 x3 x4 s0) : zAt p l e ({ frames := 1, cells := 0, slots := 0, locals := 22 } : Room) s m args below meth c 0 0 (MQ below (va_Qi (zPi K) (zB D vwCl (tyA dA) NM ad (celM ad dA)) (zA ad NM sz)) args s 0 0 (zA ad NM sz)) 7 D vwCl (zA ad NM sz) NM ad (celM ad dA) 48 [(0, vR ad 0), (1, vI x1), (2, vI x2), (3, vI x3), (4, vI x4)] [vI s0] σ := by
  refine z_istore hC ([(5, vI s0), (0, vR ad 0), (1, vI x1), (2, vI x2), (3, vI x3), (4, vI x4)]) dX12_positionOn_48 (by decide) rfl ?_
  refine z_aload_n hC dX12_positionOn_50 1 rfl rfl ?_
  refine z_iload hC dX12_positionOn_51 5 rfl ?_
  refine z_callVi hC hE (oM_12 (show kM 0 = 12 by decide)) [vI x4] (fun sz2 => mX12_dayOf l hinj sz2 hf) (cwV 1 hC.1.2.2.2.2 (uV (uT _) u1837 u1839 u59 u118 u1840) rfl rfl rfl (by decide +kernel) ⟨Nat.le_of_ble_eq_true rfl, Nat.le_of_ble_eq_true rfl⟩) rfl rfl (Nat.le_of_ble_eq_true rfl) ⟨Nat.le_of_ble_eq_true rfl, Nat.le_of_ble_eq_true rfl⟩ dX12_positionOn_53 (fun r8 σ8 hf => ?_)
  refine z_iload_n hC dX12_positionOn_56 2 rfl rfl ?_
  obtain ⟨g9, hf⟩ := hf
  obtain ⟨g10, hf⟩ := hf
  refine z_icmp_ne (tgt := 66) hC dX12_positionOn_57 (by decide) g9 g10 (fun hc => ?_) (fun hc => ?_)
  · replace hf := hf.2 hc
    refine z_aload_n hC dX12_positionOn_66 1 rfl rfl ?_
    refine z_iload hC dX12_positionOn_67 5 rfl ?_
    refine z_callVi hC hE (oM_12 (show kM 0 = 12 by decide)) [vI x4] (fun sz2 => mX12_dayOf l hinj sz2 hf) (cwV 1 hC.1.2.2.2.2 (uV (uT _) u1837 u1839 u59 u118 u1840) rfl rfl rfl (by decide +kernel) ⟨Nat.le_of_ble_eq_true rfl, Nat.le_of_ble_eq_true rfl⟩) rfl rfl (Nat.le_of_ble_eq_true rfl) ⟨Nat.le_of_ble_eq_true rfl, Nat.le_of_ble_eq_true rfl⟩ dX12_positionOn_69 (fun r11 σ11 hf => ?_)
    refine z_iload_n hC dX12_positionOn_72 2 rfl rfl ?_
    obtain ⟨g12, hf⟩ := hf
    refine z_icmp_le (tgt := 141) hC dX12_positionOn_73 (by decide) g12 g10 (fun hc => ?_) (fun hc => ?_)
    · replace hf := hf.1 hc
      refine z_iload hC dX12_positionOn_141 5 rfl ?_
      refine z_istore_n hC ([(3, vI x4), (5, vI s0), (0, vR ad 0), (1, vI x1), (2, vI x2), (4, vI x4)]) dX12_positionOn_143 rfl (by decide) rfl ?_
      refine z_iinc hC ([(4, vI (x4 + 1)), (3, vI x4), (5, vI s0), (0, vR ad 0), (1, vI x1), (2, vI x2)]) dX12_positionOn_144 5 rfl (by decide) rfl ?_
      refine z_goto (tgt := 5) hC dX12_positionOn_147 (by decide) ?_
      refine z_sub (lv' := [(0, vR ad 0), (1, vI x1), (2, vI x2), (3, vI x4), (4, vI (x4 + 1))]) [3, 4, 5, 1, 0] rfl ?_
      exact hk5 _ _ _ _ _ hf
    · replace hf := hf.2 hc
      refine z_iload_n hC dX12_positionOn_76 4 rfl rfl ?_
      obtain ⟨g13, hf⟩ := hf
      refine z_if_ge (tgt := 84) hC dX12_positionOn_77 (by decide) g13 (fun hc => ?_) (fun hc => ?_)
      · replace hf := hf.1 hc
        refine z_iload_n hC dX12_positionOn_84 3 rfl rfl ?_
        obtain ⟨g14, hf⟩ := hf
        refine z_if_eq (tgt := 96) hC dX12_positionOn_85 (by decide) g14 (fun hc => ?_) (fun hc => ?_)
        · replace hf := hf.1 hc
          refine z_aload_n hC dX12_positionOn_96 1 rfl rfl ?_
          refine z_iload_n hC dX12_positionOn_97 4 rfl rfl ?_
          refine z_callVi hC hE (oM_12 (show kM 0 = 12 by decide)) [vI x3] (fun sz2 => mX12_trueY l hinj sz2 hf) (cwV 1 hC.1.2.2.2.2 (uV (uT _) u2028 u2030 u85 u118 u2031) rfl rfl rfl (by decide +kernel) ⟨Nat.le_of_ble_eq_true rfl, Nat.le_of_ble_eq_true rfl⟩) rfl rfl (Nat.le_of_ble_eq_true rfl) ⟨Nat.le_of_ble_eq_true rfl, Nat.le_of_ble_eq_true rfl⟩ dX12_positionOn_98 (fun r15 σ15 hf => ?_)
          refine z_sub (lv' := [(0, vR ad 0), (1, vI x1), (3, vI x3), (4, vI x4), (5, vI s0)]) [1, 2, 4, 5, 0] rfl ?_
          exact wX12_positionOn_B101 hC hE hr hinj  hf
        · replace hf := hf.2 hc
          refine z_aload_n hC dX12_positionOn_88 1 rfl rfl ?_
          refine z_iload_n hC dX12_positionOn_89 4 rfl rfl ?_
          refine z_callVi hC hE (oM_12 (show kM 0 = 12 by decide)) [vI x3] (fun sz2 => mX12_trueX l hinj sz2 hf) (cwV 1 hC.1.2.2.2.2 (uV (uT _) u2024 u2026 u84 u118 u2027) rfl rfl rfl (by decide +kernel) ⟨Nat.le_of_ble_eq_true rfl, Nat.le_of_ble_eq_true rfl⟩) rfl rfl (Nat.le_of_ble_eq_true rfl) ⟨Nat.le_of_ble_eq_true rfl, Nat.le_of_ble_eq_true rfl⟩ dX12_positionOn_90 (fun r16 σ16 hf => ?_)
          refine z_goto (tgt := 101) hC dX12_positionOn_93 (by decide) ?_
          refine z_sub (lv' := [(0, vR ad 0), (1, vI x1), (3, vI x3), (4, vI x4), (5, vI s0)]) [1, 2, 4, 5, 0] rfl ?_
          exact wX12_positionOn_B101 hC hE hr hinj  hf
      · replace hf := hf.2 hc
        refine z_ldcw hC (n := (-2147483648)) (uT _ _ u2084) (by decide) dX12_positionOn_80 ?_
        exact z_iret hC hr rfl dX12_positionOn_83 hf
  · replace hf := hf.1 hc
    refine z_bipush hC dX12_positionOn_60 (by decide) ?_
    refine z_iload hC dX12_positionOn_62 0 rfl ?_
    refine z_imul hC dX12_positionOn_64 ?_
    exact z_iret hC hr rfl dX12_positionOn_65 hf
set_option maxHeartbeats 4000000 in
set_option maxRecDepth 100000 in
theorem wX12_positionOn_B5 {p : Program} {l : Launch} {e : Env} {s : State} {m : MethodId} {args : Array Value} {below : List Frame} {meth : Method} {c : Code} {D : va_G} {dA : Nat → ClassId} {ad : Nat → Nat} {sz : Nat}  {K : Int → zSt → Prop} (hC : zC p m c cX12_positionOn 7 s args (Cond.code yX12_positionOn cX12_positionOn 7 (some .int) :: UW) RX12 meth D vwCl (tyA dA) (zA ad NM sz) NM ad (celM ad dA)) (hE : zE zX0 (zA ad NM sz) s s.heap) (hr : meth.sig.returnType = (some .int)) (hinj : ∀ i j, i < NM → j < NM → ad i = ad j → i = j) : ∀ (n : Nat) (σ : zSt) (x1 : Int) (x2 : Int) (x3 : Int) (x4 : Int), fX12_positionOn_B5 K n σ x1 x2 x3 x4 → zAt p l e ({ frames := 1, cells := 0, slots := 0, locals := 22 } : Room) s m args below meth c 0 0 (MQ below (va_Qi (zPi K) (zB D vwCl (tyA dA) NM ad (celM ad dA)) (zA ad NM sz)) args s 0 0 (zA ad NM sz)) 7 D vwCl (zA ad NM sz) NM ad (celM ad dA) 5 [(0, vR ad 0), (1, vI x1), (2, vI x2), (3, vI x3), (4, vI x4)] [] σ := by
  intro n
  induction n with
  | zero => intro σ x1 x2 x3 x4  hf; exact False.elim hf
  | succ n ih =>
    intro σ x1 x2 x3 x4  hf
    rw [uX12_positionOn_B5] at hf
    refine z_iload hC dX12_positionOn_5 4 rfl ?_
    refine z_aload_n hC dX12_positionOn_7 0 rfl rfl ?_
    refine z_get hC (fun w h => uT _ w (uL12 w h)) (oM_12 (show kM 0 = 12 by decide)) 0 (by decide) (uT _ _ u1545) rfl rfl dX12_positionOn_8 ?_
    refine z_iconst hC dX12_positionOn_11 ?_
    refine z_iaload hC (aM_30 (show kM 1 = 30 by decide)) ⟨by decide, by decide⟩ dX12_positionOn_12 ?_
    obtain ⟨g1, hf⟩ := hf
    obtain ⟨g2, hf⟩ := hf
    refine z_icmp_ge (tgt := 150) hC dX12_positionOn_13 (by decide) g1 g2 (fun hc => ?_) (fun hc => ?_)
    · replace hf := hf.1 hc
      refine z_ldcw hC (n := (-2147483648)) (uT _ _ u2084) (by decide) dX12_positionOn_150 ?_
      exact z_iret hC hr rfl dX12_positionOn_153 hf
    · replace hf := hf.2 hc
      refine z_aload_n hC dX12_positionOn_16 0 rfl rfl ?_
      refine z_get hC (fun w h => uT _ w (uL12 w h)) (oM_12 (show kM 0 = 12 by decide)) 26 (by decide) (uT _ _ u1571) rfl rfl dX12_positionOn_17 ?_
      refine z_iload hC dX12_positionOn_20 4 rfl ?_
      obtain ⟨g3, hf⟩ := hf
      refine z_zaload hC (aM_33 (show kM 9 = 33 by decide)) g3 dX12_positionOn_22 ?_
      obtain ⟨g4, hf⟩ := hf
      refine z_if_ne (tgt := 29) hC dX12_positionOn_23 (by decide) g4 (fun hc => ?_) (fun hc => ?_)
      · replace hf := hf.2 hc
        refine z_iload_n hC dX12_positionOn_29 2 rfl rfl ?_
        obtain ⟨g5, hf⟩ := hf
        refine z_if_eq (tgt := 42) hC dX12_positionOn_30 (by decide) g5 (fun hc => ?_) (fun hc => ?_)
        · replace hf := hf.1 hc
          refine z_aload_n hC dX12_positionOn_42 0 rfl rfl ?_
          refine z_iload hC dX12_positionOn_43 4 rfl ?_
          refine z_callVi hC hE (oM_12 (show kM 0 = 12 by decide)) [vI x4] (fun sz2 => mX12_trueY l hinj sz2 hf) (cwV 1 hC.1.2.2.2.2 (uV (uT _) u2028 u2030 u85 u118 u2031) rfl rfl rfl (by decide +kernel) ⟨Nat.le_of_ble_eq_true rfl, Nat.le_of_ble_eq_true rfl⟩) rfl rfl (Nat.le_of_ble_eq_true rfl) ⟨Nat.le_of_ble_eq_true rfl, Nat.le_of_ble_eq_true rfl⟩ dX12_positionOn_45 (fun r6 σ6 hf => ?_)
          exact wX12_positionOn_B48 hC hE hr hinj ih  hf
        · replace hf := hf.2 hc
          refine z_aload_n hC dX12_positionOn_33 0 rfl rfl ?_
          refine z_iload hC dX12_positionOn_34 4 rfl ?_
          refine z_callVi hC hE (oM_12 (show kM 0 = 12 by decide)) [vI x4] (fun sz2 => mX12_trueX l hinj sz2 hf) (cwV 1 hC.1.2.2.2.2 (uV (uT _) u2024 u2026 u84 u118 u2027) rfl rfl rfl (by decide +kernel) ⟨Nat.le_of_ble_eq_true rfl, Nat.le_of_ble_eq_true rfl⟩) rfl rfl (Nat.le_of_ble_eq_true rfl) ⟨Nat.le_of_ble_eq_true rfl, Nat.le_of_ble_eq_true rfl⟩ dX12_positionOn_36 (fun r7 σ7 hf => ?_)
          refine z_goto (tgt := 48) hC dX12_positionOn_39 (by decide) ?_
          exact wX12_positionOn_B48 hC hE hr hinj ih  hf
      · replace hf := hf.1 hc
        refine z_goto (tgt := 144) hC dX12_positionOn_26 (by decide) ?_
        refine z_iinc hC ([(4, vI (x4 + 1)), (0, vR ad 0), (1, vI x1), (2, vI x2), (3, vI x3)]) dX12_positionOn_144 4 rfl (by decide) rfl ?_
        refine z_goto (tgt := 5) hC dX12_positionOn_147 (by decide) ?_
        refine z_sub (lv' := [(0, vR ad 0), (1, vI x1), (2, vI x2), (3, vI x3), (4, vI (x4 + 1))]) [1, 2, 3, 4, 0] rfl ?_
        exact ih _ _ _ _ _ hf
set_option maxHeartbeats 4000000 in
set_option maxRecDepth 100000 in
theorem mX12_positionOn {D : va_G} {dA : Nat → ClassId} {ad : Nat → Nat}  (l : Launch) (hinj : ∀ i j, i < NM → j < NM → ad i = ad j → i = j) (sz : Nat) {K : Int → zSt → Prop} {σ : zSt} {x1 : Int} {x2 : Int} (hf : fX12_positionOn K σ x1 x2) : Met l yX12_positionOn (Cond.code yX12_positionOn cX12_positionOn 7 (some .int) :: UW) ({ frames := 1, cells := 0, slots := 0, locals := 22 } : Room) (va_Pc [vR ad 0, vI x1, vI x2] (zPre D vwCl (tyA dA) zX0 NM ad (celM ad dA) sz σ)) (va_Qi (zPi K) (zB D vwCl (tyA dA) NM ad (celM ad dA)) (zA ad NM sz)) 0 0 (zA ad NM sz) := by
  refine z_enter (cc := cX12_positionOn) (maxL := 7) (ret := (some .int)) (vs := [vR ad 0, vI x1, vI x2]) (plainFor_of_name (by decide)) rfl hinj (Nat.le_of_ble_eq_true rfl) ?_
  intro p e s m args below meth c hC hE hsz hr hnm
  show zAt p l e ({ frames := 1, cells := 0, slots := 0, locals := 22 } : Room) s m args below meth c 0 0 (MQ below (va_Qi (zPi K) (zB D vwCl (tyA dA) NM ad (celM ad dA)) (zA ad NM sz)) args s 0 0 (zA ad NM sz)) 7 D vwCl (zA ad NM sz) NM ad (celM ad dA) 0 [(0, vR ad 0), (1, vI x1), (2, vI x2)] [] σ
  refine z_iconst hC dX12_positionOn_0 ?_
  refine z_istore_n hC ([(3, vI (-1)), (0, vR ad 0), (1, vI x1), (2, vI x2)]) dX12_positionOn_1 rfl (by decide) rfl ?_
  refine z_iconst hC dX12_positionOn_2 ?_
  refine z_istore hC ([(4, vI 0), (3, vI (-1)), (0, vR ad 0), (1, vI x1), (2, vI x2)]) dX12_positionOn_3 (by decide) rfl ?_
  refine z_sub (lv' := [(0, vR ad 0), (1, vI x1), (2, vI x2), (3, vI (-1)), (4, vI 0)]) [2, 3, 4, 1, 0] rfl ?_
  obtain ⟨n, hf⟩ := hf
  exact wX12_positionOn_B5 hC hE hr hinj n _ _ _ _ _ hf

-- ===== X12_positionX
def fX12_positionX (K : Int → zSt → Prop) (σ : zSt) (x1 : Int) (x2 : Int) : Prop :=
  fX12_noTrack (fun r1 σ1 => zrg r1 ∧ ((r1 = 0 → fX12_positionOn (fun r3 σ3 => K r3 σ3) σ1 x2 1) ∧ (¬ r1 = 0 → K 0 σ1))) σ x1
set_option maxHeartbeats 4000000 in
set_option maxRecDepth 100000 in
theorem mX12_positionX {D : va_G} {dA : Nat → ClassId} {ad : Nat → Nat}  (l : Launch) (hinj : ∀ i j, i < NM → j < NM → ad i = ad j → i = j) (sz : Nat) {K : Int → zSt → Prop} {σ : zSt} {x1 : Int} {x2 : Int} (hf : fX12_positionX K σ x1 x2) : Met l yX12_positionX (Cond.code yX12_positionX cX12_positionX 3 (some .int) :: UW) ({ frames := 7, cells := 0, slots := 0, locals := 173 } : Room) (va_Pc [vR ad 0, vI x1, vI x2] (zPre D vwCl (tyA dA) zX0 NM ad (celM ad dA) sz σ)) (va_Qi (zPi K) (zB D vwCl (tyA dA) NM ad (celM ad dA)) (zA ad NM sz)) 0 0 (zA ad NM sz) := by
  refine z_enter (cc := cX12_positionX) (maxL := 3) (ret := (some .int)) (vs := [vR ad 0, vI x1, vI x2]) (plainFor_of_name (by decide)) rfl hinj (Nat.le_of_ble_eq_true rfl) ?_
  intro p e s m args below meth c hC hE hsz hr hnm
  show zAt p l e ({ frames := 7, cells := 0, slots := 0, locals := 173 } : Room) s m args below meth c 0 0 (MQ below (va_Qi (zPi K) (zB D vwCl (tyA dA) NM ad (celM ad dA)) (zA ad NM sz)) args s 0 0 (zA ad NM sz)) 3 D vwCl (zA ad NM sz) NM ad (celM ad dA) 0 [(0, vR ad 0), (1, vI x1), (2, vI x2)] [] σ
  refine z_aload_n hC dX12_positionX_0 0 rfl rfl ?_
  refine z_iload_n hC dX12_positionX_1 1 rfl rfl ?_
  refine z_callVi hC hE (oM_12 (show kM 0 = 12 by decide)) [vI x1] (fun sz2 => mX12_noTrack l hinj sz2 hf) (cwV 1 hC.1.2.2.2.2 (uV (uT _) u1988 u1990 u79 u118 u1991) rfl rfl rfl (by decide +kernel) ⟨Nat.le_of_ble_eq_true rfl, Nat.le_of_ble_eq_true rfl⟩) rfl rfl (Nat.le_of_ble_eq_true rfl) ⟨Nat.le_of_ble_eq_true rfl, Nat.le_of_ble_eq_true rfl⟩ dX12_positionX_2 (fun r1 σ1 hf => ?_)
  obtain ⟨g2, hf⟩ := hf
  refine z_if_eq (tgt := 12) hC dX12_positionX_5 (by decide) g2 (fun hc => ?_) (fun hc => ?_)
  · replace hf := hf.1 hc
    refine z_aload_n hC dX12_positionX_12 0 rfl rfl ?_
    refine z_iload_n hC dX12_positionX_13 2 rfl rfl ?_
    refine z_iconst hC dX12_positionX_14 ?_
    refine z_callVi hC hE (oM_12 (show kM 0 = 12 by decide)) [vI x2, vI 1] (fun sz2 => mX12_positionOn l hinj sz2 hf) (cwV 2 hC.1.2.2.2.2 (uV (uT _) u2080 u2082 u89 u118 u2083) rfl rfl rfl (by decide +kernel) ⟨Nat.le_of_ble_eq_true rfl, Nat.le_of_ble_eq_true rfl⟩) rfl rfl (Nat.le_of_ble_eq_true rfl) ⟨Nat.le_of_ble_eq_true rfl, Nat.le_of_ble_eq_true rfl⟩ dX12_positionX_15 (fun r3 σ3 hf => ?_)
    exact z_iret hC hr rfl dX12_positionX_18 hf
  · replace hf := hf.2 hc
    refine z_iconst hC dX12_positionX_8 ?_
    refine z_goto (tgt := 18) hC dX12_positionX_9 (by decide) ?_
    exact z_iret hC hr rfl dX12_positionX_18 hf

-- ===== X12_positionY
def fX12_positionY (K : Int → zSt → Prop) (σ : zSt) (x1 : Int) (x2 : Int) : Prop :=
  fX12_noTrack (fun r1 σ1 => zrg r1 ∧ ((r1 = 0 → fX12_positionOn (fun r3 σ3 => K r3 σ3) σ1 x2 0) ∧ (¬ r1 = 0 → K 0 σ1))) σ x1
set_option maxHeartbeats 4000000 in
set_option maxRecDepth 100000 in
theorem mX12_positionY {D : va_G} {dA : Nat → ClassId} {ad : Nat → Nat}  (l : Launch) (hinj : ∀ i j, i < NM → j < NM → ad i = ad j → i = j) (sz : Nat) {K : Int → zSt → Prop} {σ : zSt} {x1 : Int} {x2 : Int} (hf : fX12_positionY K σ x1 x2) : Met l yX12_positionY (Cond.code yX12_positionY cX12_positionY 3 (some .int) :: UW) ({ frames := 7, cells := 0, slots := 0, locals := 173 } : Room) (va_Pc [vR ad 0, vI x1, vI x2] (zPre D vwCl (tyA dA) zX0 NM ad (celM ad dA) sz σ)) (va_Qi (zPi K) (zB D vwCl (tyA dA) NM ad (celM ad dA)) (zA ad NM sz)) 0 0 (zA ad NM sz) := by
  refine z_enter (cc := cX12_positionY) (maxL := 3) (ret := (some .int)) (vs := [vR ad 0, vI x1, vI x2]) (plainFor_of_name (by decide)) rfl hinj (Nat.le_of_ble_eq_true rfl) ?_
  intro p e s m args below meth c hC hE hsz hr hnm
  show zAt p l e ({ frames := 7, cells := 0, slots := 0, locals := 173 } : Room) s m args below meth c 0 0 (MQ below (va_Qi (zPi K) (zB D vwCl (tyA dA) NM ad (celM ad dA)) (zA ad NM sz)) args s 0 0 (zA ad NM sz)) 3 D vwCl (zA ad NM sz) NM ad (celM ad dA) 0 [(0, vR ad 0), (1, vI x1), (2, vI x2)] [] σ
  refine z_aload_n hC dX12_positionY_0 0 rfl rfl ?_
  refine z_iload_n hC dX12_positionY_1 1 rfl rfl ?_
  refine z_callVi hC hE (oM_12 (show kM 0 = 12 by decide)) [vI x1] (fun sz2 => mX12_noTrack l hinj sz2 hf) (cwV 1 hC.1.2.2.2.2 (uV (uT _) u1988 u1990 u79 u118 u1991) rfl rfl rfl (by decide +kernel) ⟨Nat.le_of_ble_eq_true rfl, Nat.le_of_ble_eq_true rfl⟩) rfl rfl (Nat.le_of_ble_eq_true rfl) ⟨Nat.le_of_ble_eq_true rfl, Nat.le_of_ble_eq_true rfl⟩ dX12_positionY_2 (fun r1 σ1 hf => ?_)
  obtain ⟨g2, hf⟩ := hf
  refine z_if_eq (tgt := 12) hC dX12_positionY_5 (by decide) g2 (fun hc => ?_) (fun hc => ?_)
  · replace hf := hf.1 hc
    refine z_aload_n hC dX12_positionY_12 0 rfl rfl ?_
    refine z_iload_n hC dX12_positionY_13 2 rfl rfl ?_
    refine z_iconst hC dX12_positionY_14 ?_
    refine z_callVi hC hE (oM_12 (show kM 0 = 12 by decide)) [vI x2, vI 0] (fun sz2 => mX12_positionOn l hinj sz2 hf) (cwV 2 hC.1.2.2.2.2 (uV (uT _) u2080 u2082 u89 u118 u2083) rfl rfl rfl (by decide +kernel) ⟨Nat.le_of_ble_eq_true rfl, Nat.le_of_ble_eq_true rfl⟩) rfl rfl (Nat.le_of_ble_eq_true rfl) ⟨Nat.le_of_ble_eq_true rfl, Nat.le_of_ble_eq_true rfl⟩ dX12_positionY_15 (fun r3 σ3 hf => ?_)
    exact z_iret hC hr rfl dX12_positionY_18 hf
  · replace hf := hf.2 hc
    refine z_iconst hC dX12_positionY_8 ?_
    refine z_goto (tgt := 18) hC dX12_positionY_9 (by decide) ?_
    exact z_iret hC hr rfl dX12_positionY_18 hf

-- ===== X12_findGaps
noncomputable def fX12_findGaps_B14 (K : zSt → Prop) (n : Nat) : zSt → Int → Int → Prop :=
  Nat.rec (motive := fun _ => zSt → Int → Int → Prop) (fun _ _ _ => False) (fun _ ih σ x1 x2 => zrg x2 ∧ zrg (σ 1 2) ∧ ((σ 1 2 ≤ x2 → K σ) ∧ (¬ σ 1 2 ≤ x2 → fX12_usable (fun r5 σ5 => zrg r5 ∧ ((r5 = 0 → ih σ5 x1 (x2 + 1)) ∧ (¬ r5 = 0 → zrg x1 ∧ ((x1 < 0 → ih σ5 x2 (x2 + 1)) ∧ (¬ x1 < 0 → fX12_dayOf (fun r8 σ8 => fX12_dayOf (fun r9 σ9 => fX12_setting (fun r10 σ10 => zrg (r8 - r9) ∧ zrg r10 ∧ ((r8 - r9 ≤ r10 → ih σ10 x2 (x2 + 1)) ∧ (¬ r8 - r9 ≤ r10 → fX12_dayOf (fun r13 σ13 => (0 ≤ σ10 0 36 ∧ σ10 0 36 < 6) ∧ ∀ σ15, σ15 = zu σ13 17 (σ10 0 36) r13 → fX12_dayOf (fun r16 σ16 => fX12_dayOf (fun r17 σ17 => (0 ≤ σ15 0 36 ∧ σ15 0 36 < 6) ∧ ∀ σ19, σ19 = zu σ17 18 (σ15 0 36) (r16 - r17) → ∀ σ20, σ20 = zu σ19 0 36 ((σ19 0 36) + 1) → ih σ20 x2 (x2 + 1)) σ16 x1) σ15 x2) σ10 x1))) σ9 6) σ8 x1) σ5 x2))))) σ x2))) n
theorem uX12_findGaps_B14 (K : zSt → Prop) (n0 : Nat) (σ : zSt) (x1 : Int) (x2 : Int) : fX12_findGaps_B14 K (n0 + 1) σ x1 x2 = (zrg x2 ∧ zrg (σ 1 2) ∧ ((σ 1 2 ≤ x2 → K σ) ∧ (¬ σ 1 2 ≤ x2 → fX12_usable (fun r5 σ5 => zrg r5 ∧ ((r5 = 0 → (fX12_findGaps_B14 K n0) σ5 x1 (x2 + 1)) ∧ (¬ r5 = 0 → zrg x1 ∧ ((x1 < 0 → (fX12_findGaps_B14 K n0) σ5 x2 (x2 + 1)) ∧ (¬ x1 < 0 → fX12_dayOf (fun r8 σ8 => fX12_dayOf (fun r9 σ9 => fX12_setting (fun r10 σ10 => zrg (r8 - r9) ∧ zrg r10 ∧ ((r8 - r9 ≤ r10 → (fX12_findGaps_B14 K n0) σ10 x2 (x2 + 1)) ∧ (¬ r8 - r9 ≤ r10 → fX12_dayOf (fun r13 σ13 => (0 ≤ σ10 0 36 ∧ σ10 0 36 < 6) ∧ ∀ σ15, σ15 = zu σ13 17 (σ10 0 36) r13 → fX12_dayOf (fun r16 σ16 => fX12_dayOf (fun r17 σ17 => (0 ≤ σ15 0 36 ∧ σ15 0 36 < 6) ∧ ∀ σ19, σ19 = zu σ17 18 (σ15 0 36) (r16 - r17) → ∀ σ20, σ20 = zu σ19 0 36 ((σ19 0 36) + 1) → (fX12_findGaps_B14 K n0) σ20 x2 (x2 + 1)) σ16 x1) σ15 x2) σ10 x1))) σ9 6) σ8 x1) σ5 x2))))) σ x2))) := rfl
def fX12_findGaps (K : zSt → Prop) (σ : zSt) : Prop :=
  ∀ σ1, σ1 = zu σ 0 4 0 → ∀ σ2, σ2 = zu σ1 0 36 0 → (∃ n, fX12_findGaps_B14 K n σ2 (-1) 0)
set_option maxHeartbeats 4000000 in
set_option maxRecDepth 100000 in
theorem wX12_findGaps_B14 {p : Program} {l : Launch} {e : Env} {s : State} {m : MethodId} {args : Array Value} {below : List Frame} {meth : Method} {c : Code} {D : va_G} {dA : Nat → ClassId} {ad : Nat → Nat} {sz : Nat}  {K : zSt → Prop} (hC : zC p m c cX12_findGaps 3 s args (Cond.code yX12_findGaps cX12_findGaps 3 none :: UW) RX12 meth D vwCl (tyA dA) (zA ad NM sz) NM ad (celM ad dA)) (hE : zE zX0 (zA ad NM sz) s s.heap) (hr : meth.sig.returnType = none) (hinj : ∀ i j, i < NM → j < NM → ad i = ad j → i = j) : ∀ (n : Nat) (σ : zSt) (x1 : Int) (x2 : Int), fX12_findGaps_B14 K n σ x1 x2 → zAt p l e ({ frames := 3, cells := 0, slots := 0, locals := 70 } : Room) s m args below meth c 0 0 (MQ below (va_Qv K (zB D vwCl (tyA dA) NM ad (celM ad dA)) (zA ad NM sz)) args s 0 0 (zA ad NM sz)) 3 D vwCl (zA ad NM sz) NM ad (celM ad dA) 14 [(0, vR ad 0), (1, vI x1), (2, vI x2)] [] σ := by
  intro n
  induction n with
  | zero => intro σ x1 x2  hf; exact False.elim hf
  | succ n ih =>
    intro σ x1 x2  hf
    rw [uX12_findGaps_B14] at hf
    refine z_iload_n hC dX12_findGaps_14 2 rfl rfl ?_
    refine z_aload_n hC dX12_findGaps_15 0 rfl rfl ?_
    refine z_get hC (fun w h => uT _ w (uL12 w h)) (oM_12 (show kM 0 = 12 by decide)) 0 (by decide) (uT _ _ u1545) rfl rfl dX12_findGaps_16 ?_
    refine z_iconst hC dX12_findGaps_19 ?_
    refine z_iaload hC (aM_30 (show kM 1 = 30 by decide)) ⟨by decide, by decide⟩ dX12_findGaps_20 ?_
    obtain ⟨g3, hf⟩ := hf
    obtain ⟨g4, hf⟩ := hf
    refine z_icmp_ge (tgt := 111) hC dX12_findGaps_21 (by decide) g3 g4 (fun hc => ?_) (fun hc => ?_)
    · replace hf := hf.1 hc
      exact z_vret hC hr rfl dX12_findGaps_111 hf
    · replace hf := hf.2 hc
      refine z_aload_n hC dX12_findGaps_24 0 rfl rfl ?_
      refine z_iload_n hC dX12_findGaps_25 2 rfl rfl ?_
      refine z_callVi hC hE (oM_12 (show kM 0 = 12 by decide)) [vI x2] (fun sz2 => mX12_usable l hinj sz2 hf) (cwV 1 hC.1.2.2.2.2 (uV (uT _) u1881 u1883 u64 u118 u1884) rfl rfl rfl (by decide +kernel) ⟨Nat.le_of_ble_eq_true rfl, Nat.le_of_ble_eq_true rfl⟩) rfl rfl (Nat.le_of_ble_eq_true rfl) ⟨Nat.le_of_ble_eq_true rfl, Nat.le_of_ble_eq_true rfl⟩ dX12_findGaps_26 (fun r5 σ5 hf => ?_)
      obtain ⟨g6, hf⟩ := hf
      refine z_if_ne (tgt := 35) hC dX12_findGaps_29 (by decide) g6 (fun hc => ?_) (fun hc => ?_)
      · replace hf := hf.2 hc
        refine z_iload_n hC dX12_findGaps_35 1 rfl rfl ?_
        obtain ⟨g7, hf⟩ := hf
        refine z_if_lt (tgt := 103) hC dX12_findGaps_36 (by decide) g7 (fun hc => ?_) (fun hc => ?_)
        · replace hf := hf.1 hc
          refine z_iload_n hC dX12_findGaps_103 2 rfl rfl ?_
          refine z_istore_n hC ([(1, vI x2), (0, vR ad 0), (2, vI x2)]) dX12_findGaps_104 rfl (by decide) rfl ?_
          refine z_iinc hC ([(2, vI (x2 + 1)), (1, vI x2), (0, vR ad 0)]) dX12_findGaps_105 2 rfl (by decide) rfl ?_
          refine z_goto (tgt := 14) hC dX12_findGaps_108 (by decide) ?_
          refine z_sub (lv' := [(0, vR ad 0), (1, vI x2), (2, vI (x2 + 1))]) [2, 1, 0] rfl ?_
          exact ih _ _ _ hf
        · replace hf := hf.2 hc
          refine z_aload_n hC dX12_findGaps_39 0 rfl rfl ?_
          refine z_iload_n hC dX12_findGaps_40 2 rfl rfl ?_
          refine z_callVi hC hE (oM_12 (show kM 0 = 12 by decide)) [vI x2] (fun sz2 => mX12_dayOf l hinj sz2 hf) (cwV 1 hC.1.2.2.2.2 (uV (uT _) u1837 u1839 u59 u118 u1840) rfl rfl rfl (by decide +kernel) ⟨Nat.le_of_ble_eq_true rfl, Nat.le_of_ble_eq_true rfl⟩) rfl rfl (Nat.le_of_ble_eq_true rfl) ⟨Nat.le_of_ble_eq_true rfl, Nat.le_of_ble_eq_true rfl⟩ dX12_findGaps_41 (fun r8 σ8 hf => ?_)
          refine z_aload_n hC dX12_findGaps_44 0 rfl rfl ?_
          refine z_iload_n hC dX12_findGaps_45 1 rfl rfl ?_
          refine z_callVi hC hE (oM_12 (show kM 0 = 12 by decide)) [vI x1] (fun sz2 => mX12_dayOf l hinj sz2 hf) (cwV 1 hC.1.2.2.2.2 (uV (uT _) u1837 u1839 u59 u118 u1840) rfl rfl rfl (by decide +kernel) ⟨Nat.le_of_ble_eq_true rfl, Nat.le_of_ble_eq_true rfl⟩) rfl rfl (Nat.le_of_ble_eq_true rfl) ⟨Nat.le_of_ble_eq_true rfl, Nat.le_of_ble_eq_true rfl⟩ dX12_findGaps_46 (fun r9 σ9 hf => ?_)
          refine z_isub hC dX12_findGaps_49 ?_
          refine z_aload_n hC dX12_findGaps_50 0 rfl rfl ?_
          refine z_bipush hC dX12_findGaps_51 (by decide) ?_
          refine z_callVi hC hE (oM_12 (show kM 0 = 12 by decide)) [vI 6] (fun sz2 => mX12_setting l hinj sz2 hf) (cwV 1 hC.1.2.2.2.2 (uV (uT _) u1813 u1815 u55 u118 u1816) rfl rfl rfl (by decide +kernel) ⟨Nat.le_of_ble_eq_true rfl, Nat.le_of_ble_eq_true rfl⟩) rfl rfl (Nat.le_of_ble_eq_true rfl) ⟨Nat.le_of_ble_eq_true rfl, Nat.le_of_ble_eq_true rfl⟩ dX12_findGaps_53 (fun r10 σ10 hf => ?_)
          obtain ⟨g11, hf⟩ := hf
          obtain ⟨g12, hf⟩ := hf
          refine z_icmp_le (tgt := 103) hC dX12_findGaps_56 (by decide) g11 g12 (fun hc => ?_) (fun hc => ?_)
          · replace hf := hf.1 hc
            refine z_iload_n hC dX12_findGaps_103 2 rfl rfl ?_
            refine z_istore_n hC ([(1, vI x2), (0, vR ad 0), (2, vI x2)]) dX12_findGaps_104 rfl (by decide) rfl ?_
            refine z_iinc hC ([(2, vI (x2 + 1)), (1, vI x2), (0, vR ad 0)]) dX12_findGaps_105 2 rfl (by decide) rfl ?_
            refine z_goto (tgt := 14) hC dX12_findGaps_108 (by decide) ?_
            refine z_sub (lv' := [(0, vR ad 0), (1, vI x2), (2, vI (x2 + 1))]) [2, 1, 0] rfl ?_
            exact ih _ _ _ hf
          · replace hf := hf.2 hc
            refine z_aload_n hC dX12_findGaps_59 0 rfl rfl ?_
            refine z_get hC (fun w h => uT _ w (uL12 w h)) (oM_12 (show kM 0 = 12 by decide)) 37 (by decide) (uT _ _ u1582) rfl rfl dX12_findGaps_60 ?_
            refine z_aload_n hC dX12_findGaps_63 0 rfl rfl ?_
            refine z_get hC (fun w h => uT _ w (uL12 w h)) (oM_12 (show kM 0 = 12 by decide)) 36 (by decide) (uT _ _ u1581) rfl rfl dX12_findGaps_64 ?_
            refine z_aload_n hC dX12_findGaps_67 0 rfl rfl ?_
            refine z_iload_n hC dX12_findGaps_68 1 rfl rfl ?_
            refine z_callVi hC hE (oM_12 (show kM 0 = 12 by decide)) [vI x1] (fun sz2 => mX12_dayOf l hinj sz2 hf) (cwV 1 hC.1.2.2.2.2 (uV (uT _) u1837 u1839 u59 u118 u1840) rfl rfl rfl (by decide +kernel) ⟨Nat.le_of_ble_eq_true rfl, Nat.le_of_ble_eq_true rfl⟩) rfl rfl (Nat.le_of_ble_eq_true rfl) ⟨Nat.le_of_ble_eq_true rfl, Nat.le_of_ble_eq_true rfl⟩ dX12_findGaps_69 (fun r13 σ13 hf => ?_)
            obtain ⟨g14, hf⟩ := hf
            refine z_iastore hC (aM_34 (show kM 17 = 34 by decide)) (loM' (show kM 17 = 34 by decide) (by decide)) g14 dX12_findGaps_72 ?_
            obtain ⟨σ15, eσ15⟩ : ∃ z : zSt, z = zu σ13 17 (σ10 0 36) r13 := ⟨_, rfl⟩
            rw [← eσ15]
            replace hf := hf σ15 eσ15
            refine z_aload_n hC dX12_findGaps_73 0 rfl rfl ?_
            refine z_get hC (fun w h => uT _ w (uL12 w h)) (oM_12 (show kM 0 = 12 by decide)) 38 (by decide) (uT _ _ u1583) rfl rfl dX12_findGaps_74 ?_
            refine z_aload_n hC dX12_findGaps_77 0 rfl rfl ?_
            refine z_get hC (fun w h => uT _ w (uL12 w h)) (oM_12 (show kM 0 = 12 by decide)) 36 (by decide) (uT _ _ u1581) rfl rfl dX12_findGaps_78 ?_
            refine z_aload_n hC dX12_findGaps_81 0 rfl rfl ?_
            refine z_iload_n hC dX12_findGaps_82 2 rfl rfl ?_
            refine z_callVi hC hE (oM_12 (show kM 0 = 12 by decide)) [vI x2] (fun sz2 => mX12_dayOf l hinj sz2 hf) (cwV 1 hC.1.2.2.2.2 (uV (uT _) u1837 u1839 u59 u118 u1840) rfl rfl rfl (by decide +kernel) ⟨Nat.le_of_ble_eq_true rfl, Nat.le_of_ble_eq_true rfl⟩) rfl rfl (Nat.le_of_ble_eq_true rfl) ⟨Nat.le_of_ble_eq_true rfl, Nat.le_of_ble_eq_true rfl⟩ dX12_findGaps_83 (fun r16 σ16 hf => ?_)
            refine z_aload_n hC dX12_findGaps_86 0 rfl rfl ?_
            refine z_iload_n hC dX12_findGaps_87 1 rfl rfl ?_
            refine z_callVi hC hE (oM_12 (show kM 0 = 12 by decide)) [vI x1] (fun sz2 => mX12_dayOf l hinj sz2 hf) (cwV 1 hC.1.2.2.2.2 (uV (uT _) u1837 u1839 u59 u118 u1840) rfl rfl rfl (by decide +kernel) ⟨Nat.le_of_ble_eq_true rfl, Nat.le_of_ble_eq_true rfl⟩) rfl rfl (Nat.le_of_ble_eq_true rfl) ⟨Nat.le_of_ble_eq_true rfl, Nat.le_of_ble_eq_true rfl⟩ dX12_findGaps_88 (fun r17 σ17 hf => ?_)
            refine z_isub hC dX12_findGaps_91 ?_
            obtain ⟨g18, hf⟩ := hf
            refine z_iastore hC (aM_34 (show kM 18 = 34 by decide)) (loM' (show kM 18 = 34 by decide) (by decide)) g18 dX12_findGaps_92 ?_
            obtain ⟨σ19, eσ19⟩ : ∃ z : zSt, z = zu σ17 18 (σ15 0 36) (r16 - r17) := ⟨_, rfl⟩
            rw [← eσ19]
            replace hf := hf σ19 eσ19
            refine z_aload_n hC dX12_findGaps_93 0 rfl rfl ?_
            refine z_dup hC dX12_findGaps_94 rfl ?_
            refine z_get hC (fun w h => uT _ w (uL12 w h)) (oM_12 (show kM 0 = 12 by decide)) 36 (by decide) (uT _ _ u1581) rfl rfl dX12_findGaps_95 ?_
            refine z_iconst hC dX12_findGaps_98 ?_
            refine z_iadd hC dX12_findGaps_99 ?_
            refine z_put hC (ty := .int) tyX12 tyX12_ok nmX12 (fun w h => uT _ w (uL12 w h)) (oM_12 (show kM 0 = 12 by decide)) (loM' (show kM 0 = 12 by decide) (by decide)) 36 (by decide) (uT _ _ u1581) rfl rfl (36) ((σ19 0 36) + 1) (by simp [zu]) (by decide +kernel) rfl rfl (Nat.le_of_ble_eq_true rfl) dX12_findGaps_100 ?_
            obtain ⟨σ20, eσ20⟩ : ∃ z : zSt, z = zu σ19 0 36 ((σ19 0 36) + 1) := ⟨_, rfl⟩
            rw [← eσ20]
            replace hf := hf σ20 eσ20
            refine z_iload_n hC dX12_findGaps_103 2 rfl rfl ?_
            refine z_istore_n hC ([(1, vI x2), (0, vR ad 0), (2, vI x2)]) dX12_findGaps_104 rfl (by decide) rfl ?_
            refine z_iinc hC ([(2, vI (x2 + 1)), (1, vI x2), (0, vR ad 0)]) dX12_findGaps_105 2 rfl (by decide) rfl ?_
            refine z_goto (tgt := 14) hC dX12_findGaps_108 (by decide) ?_
            refine z_sub (lv' := [(0, vR ad 0), (1, vI x2), (2, vI (x2 + 1))]) [2, 1, 0] rfl ?_
            exact ih _ _ _ hf
      · replace hf := hf.1 hc
        refine z_goto (tgt := 105) hC dX12_findGaps_32 (by decide) ?_
        refine z_iinc hC ([(2, vI (x2 + 1)), (0, vR ad 0), (1, vI x1)]) dX12_findGaps_105 2 rfl (by decide) rfl ?_
        refine z_goto (tgt := 14) hC dX12_findGaps_108 (by decide) ?_
        refine z_sub (lv' := [(0, vR ad 0), (1, vI x1), (2, vI (x2 + 1))]) [1, 2, 0] rfl ?_
        exact ih _ _ _ hf
set_option maxHeartbeats 4000000 in
set_option maxRecDepth 100000 in
theorem mX12_findGaps {D : va_G} {dA : Nat → ClassId} {ad : Nat → Nat}  (l : Launch) (hinj : ∀ i j, i < NM → j < NM → ad i = ad j → i = j) (sz : Nat) {K : zSt → Prop} {σ : zSt} (hf : fX12_findGaps K σ ) : Met l yX12_findGaps (Cond.code yX12_findGaps cX12_findGaps 3 none :: UW) ({ frames := 3, cells := 0, slots := 0, locals := 70 } : Room) (va_Pc [vR ad 0] (zPre D vwCl (tyA dA) zX0 NM ad (celM ad dA) sz σ)) (va_Qv K (zB D vwCl (tyA dA) NM ad (celM ad dA)) (zA ad NM sz)) 0 0 (zA ad NM sz) := by
  refine z_enter (cc := cX12_findGaps) (maxL := 3) (ret := none) (vs := [vR ad 0]) (plainFor_of_name (by decide)) rfl hinj (Nat.le_of_ble_eq_true rfl) ?_
  intro p e s m args below meth c hC hE hsz hr hnm
  show zAt p l e ({ frames := 3, cells := 0, slots := 0, locals := 70 } : Room) s m args below meth c 0 0 (MQ below (va_Qv K (zB D vwCl (tyA dA) NM ad (celM ad dA)) (zA ad NM sz)) args s 0 0 (zA ad NM sz)) 3 D vwCl (zA ad NM sz) NM ad (celM ad dA) 0 [(0, vR ad 0)] [] σ
  refine z_aload_n hC dX12_findGaps_0 0 rfl rfl ?_
  refine z_iconst hC dX12_findGaps_1 ?_
  refine z_put hC (ty := .int) tyX12 tyX12_ok nmX12 (fun w h => uT _ w (uL12 w h)) (oM_12 (show kM 0 = 12 by decide)) (loM' (show kM 0 = 12 by decide) (by decide)) 4 (by decide) (uT _ _ u1549) rfl rfl (4) (0) (by simp [zu]) (by decide +kernel) rfl rfl (Nat.le_of_ble_eq_true rfl) dX12_findGaps_2 ?_
  obtain ⟨σ1, eσ1⟩ : ∃ z : zSt, z = zu σ 0 4 0 := ⟨_, rfl⟩
  rw [← eσ1]
  replace hf := hf σ1 eσ1
  refine z_aload_n hC dX12_findGaps_5 0 rfl rfl ?_
  refine z_iconst hC dX12_findGaps_6 ?_
  refine z_put hC (ty := .int) tyX12 tyX12_ok nmX12 (fun w h => uT _ w (uL12 w h)) (oM_12 (show kM 0 = 12 by decide)) (loM' (show kM 0 = 12 by decide) (by decide)) 36 (by decide) (uT _ _ u1581) rfl rfl (36) (0) (by simp [zu]) (by decide +kernel) rfl rfl (Nat.le_of_ble_eq_true rfl) dX12_findGaps_7 ?_
  obtain ⟨σ2, eσ2⟩ : ∃ z : zSt, z = zu σ1 0 36 0 := ⟨_, rfl⟩
  rw [← eσ2]
  replace hf := hf σ2 eσ2
  refine z_iconst hC dX12_findGaps_10 ?_
  refine z_istore_n hC ([(1, vI (-1)), (0, vR ad 0)]) dX12_findGaps_11 rfl (by decide) rfl ?_
  refine z_iconst hC dX12_findGaps_12 ?_
  refine z_istore_n hC ([(2, vI 0), (1, vI (-1)), (0, vR ad 0)]) dX12_findGaps_13 rfl (by decide) rfl ?_
  refine z_sub (lv' := [(0, vR ad 0), (1, vI (-1)), (2, vI 0)]) [2, 1, 0] rfl ?_
  obtain ⟨n, hf⟩ := hf
  exact wX12_findGaps_B14 hC hE hr hinj n _ _ _ hf

-- ===== X12_gapCount
def fX12_gapCount (K : Int → zSt → Prop) (σ : zSt) : Prop :=
  fX12_findGaps (fun σ1 => K (σ1 0 36) σ1) σ 
set_option maxHeartbeats 4000000 in
set_option maxRecDepth 100000 in
theorem mX12_gapCount {D : va_G} {dA : Nat → ClassId} {ad : Nat → Nat}  (l : Launch) (hinj : ∀ i j, i < NM → j < NM → ad i = ad j → i = j) (sz : Nat) {K : Int → zSt → Prop} {σ : zSt} (hf : fX12_gapCount K σ ) : Met l yX12_gapCount (Cond.code yX12_gapCount cX12_gapCount 1 (some .int) :: UW) ({ frames := 4, cells := 0, slots := 0, locals := 92 } : Room) (va_Pc [vR ad 0] (zPre D vwCl (tyA dA) zX0 NM ad (celM ad dA) sz σ)) (va_Qi (zPi K) (zB D vwCl (tyA dA) NM ad (celM ad dA)) (zA ad NM sz)) 0 0 (zA ad NM sz) := by
  refine z_enter (cc := cX12_gapCount) (maxL := 1) (ret := (some .int)) (vs := [vR ad 0]) (plainFor_of_name (by decide)) rfl hinj (Nat.le_of_ble_eq_true rfl) ?_
  intro p e s m args below meth c hC hE hsz hr hnm
  show zAt p l e ({ frames := 4, cells := 0, slots := 0, locals := 92 } : Room) s m args below meth c 0 0 (MQ below (va_Qi (zPi K) (zB D vwCl (tyA dA) NM ad (celM ad dA)) (zA ad NM sz)) args s 0 0 (zA ad NM sz)) 1 D vwCl (zA ad NM sz) NM ad (celM ad dA) 0 [(0, vR ad 0)] [] σ
  refine z_aload_n hC dX12_gapCount_0 0 rfl rfl ?_
  refine z_callVv hC hE (oM_12 (show kM 0 = 12 by decide)) [] (fun sz2 => mX12_findGaps l hinj sz2 hf) (cwV 0 hC.1.2.2.2.2 (uV (uT _) u2096 u2098 u90 u118 u2099) rfl rfl rfl (by decide +kernel) ⟨Nat.le_of_ble_eq_true rfl, Nat.le_of_ble_eq_true rfl⟩) rfl rfl (Nat.le_of_ble_eq_true rfl) ⟨Nat.le_of_ble_eq_true rfl, Nat.le_of_ble_eq_true rfl⟩ dX12_gapCount_1 (fun σ1 hf => ?_)
  refine z_aload_n hC dX12_gapCount_4 0 rfl rfl ?_
  refine z_get hC (fun w h => uT _ w (uL12 w h)) (oM_12 (show kM 0 = 12 by decide)) 36 (by decide) (uT _ _ u1581) rfl rfl dX12_gapCount_5 ?_
  exact z_iret hC hr rfl dX12_gapCount_8 hf

-- ===== X12_gapStart
def fX12_gapStart (K : Int → zSt → Prop) (σ : zSt) (x1 : Int) : Prop :=
  fX12_findGaps (fun σ1 => fX12_inRange (fun r2 σ2 => zrg r2 ∧ ((r2 = 0 → K (-1) σ2) ∧ (¬ r2 = 0 → (0 ≤ x1 ∧ x1 < 6) ∧ K (σ2 17 x1) σ2))) σ1 x1 0 ((σ1 0 36) - 1)) σ 
set_option maxHeartbeats 4000000 in
set_option maxRecDepth 100000 in
theorem mX12_gapStart {D : va_G} {dA : Nat → ClassId} {ad : Nat → Nat}  (l : Launch) (hinj : ∀ i j, i < NM → j < NM → ad i = ad j → i = j) (sz : Nat) {K : Int → zSt → Prop} {σ : zSt} {x1 : Int} (hf : fX12_gapStart K σ x1) : Met l yX12_gapStart (Cond.code yX12_gapStart cX12_gapStart 2 (some .int) :: UW) ({ frames := 4, cells := 0, slots := 0, locals := 92 } : Room) (va_Pc [vR ad 0, vI x1] (zPre D vwCl (tyA dA) zX0 NM ad (celM ad dA) sz σ)) (va_Qi (zPi K) (zB D vwCl (tyA dA) NM ad (celM ad dA)) (zA ad NM sz)) 0 0 (zA ad NM sz) := by
  refine z_enter (cc := cX12_gapStart) (maxL := 2) (ret := (some .int)) (vs := [vR ad 0, vI x1]) (plainFor_of_name (by decide)) rfl hinj (Nat.le_of_ble_eq_true rfl) ?_
  intro p e s m args below meth c hC hE hsz hr hnm
  show zAt p l e ({ frames := 4, cells := 0, slots := 0, locals := 92 } : Room) s m args below meth c 0 0 (MQ below (va_Qi (zPi K) (zB D vwCl (tyA dA) NM ad (celM ad dA)) (zA ad NM sz)) args s 0 0 (zA ad NM sz)) 2 D vwCl (zA ad NM sz) NM ad (celM ad dA) 0 [(0, vR ad 0), (1, vI x1)] [] σ
  refine z_aload_n hC dX12_gapStart_0 0 rfl rfl ?_
  refine z_callVv hC hE (oM_12 (show kM 0 = 12 by decide)) [] (fun sz2 => mX12_findGaps l hinj sz2 hf) (cwV 0 hC.1.2.2.2.2 (uV (uT _) u2096 u2098 u90 u118 u2099) rfl rfl rfl (by decide +kernel) ⟨Nat.le_of_ble_eq_true rfl, Nat.le_of_ble_eq_true rfl⟩) rfl rfl (Nat.le_of_ble_eq_true rfl) ⟨Nat.le_of_ble_eq_true rfl, Nat.le_of_ble_eq_true rfl⟩ dX12_gapStart_1 (fun σ1 hf => ?_)
  refine z_iload_n hC dX12_gapStart_4 1 rfl rfl ?_
  refine z_iconst hC dX12_gapStart_5 ?_
  refine z_aload_n hC dX12_gapStart_6 0 rfl rfl ?_
  refine z_get hC (fun w h => uT _ w (uL12 w h)) (oM_12 (show kM 0 = 12 by decide)) 36 (by decide) (uT _ _ u1581) rfl rfl dX12_gapStart_7 ?_
  refine z_iconst hC dX12_gapStart_10 ?_
  refine z_isub hC dX12_gapStart_11 ?_
  refine z_callSi hC hE [vI x1, vI 0, vI ((σ1 0 36) - 1)] (fun sz2 => mX12_inRange l hinj sz2 hf) (va_cwS 3 hC.1.2.2.2.2 (uS (uT _) u1700 u1701 u118 u1702) rfl rfl rfl (by decide +kernel) ⟨Nat.le_of_ble_eq_true rfl, Nat.le_of_ble_eq_true rfl⟩) rfl rfl (Nat.le_of_ble_eq_true rfl) ⟨Nat.le_of_ble_eq_true rfl, Nat.le_of_ble_eq_true rfl⟩ dX12_gapStart_12 (fun r2 σ2 hf => ?_)
  obtain ⟨g3, hf⟩ := hf
  refine z_if_eq (tgt := 27) hC dX12_gapStart_15 (by decide) g3 (fun hc => ?_) (fun hc => ?_)
  · replace hf := hf.1 hc
    refine z_iconst hC dX12_gapStart_27 ?_
    exact z_iret hC hr rfl dX12_gapStart_28 hf
  · replace hf := hf.2 hc
    refine z_aload_n hC dX12_gapStart_18 0 rfl rfl ?_
    refine z_get hC (fun w h => uT _ w (uL12 w h)) (oM_12 (show kM 0 = 12 by decide)) 37 (by decide) (uT _ _ u1582) rfl rfl dX12_gapStart_19 ?_
    refine z_iload_n hC dX12_gapStart_22 1 rfl rfl ?_
    obtain ⟨g4, hf⟩ := hf
    refine z_iaload hC (aM_34 (show kM 17 = 34 by decide)) g4 dX12_gapStart_23 ?_
    refine z_goto (tgt := 28) hC dX12_gapStart_24 (by decide) ?_
    exact z_iret hC hr rfl dX12_gapStart_28 hf

-- ===== X12_gapDays
def fX12_gapDays (K : Int → zSt → Prop) (σ : zSt) (x1 : Int) : Prop :=
  fX12_findGaps (fun σ1 => fX12_inRange (fun r2 σ2 => zrg r2 ∧ ((r2 = 0 → K (-1) σ2) ∧ (¬ r2 = 0 → (0 ≤ x1 ∧ x1 < 6) ∧ K (σ2 18 x1) σ2))) σ1 x1 0 ((σ1 0 36) - 1)) σ 
set_option maxHeartbeats 4000000 in
set_option maxRecDepth 100000 in
theorem mX12_gapDays {D : va_G} {dA : Nat → ClassId} {ad : Nat → Nat}  (l : Launch) (hinj : ∀ i j, i < NM → j < NM → ad i = ad j → i = j) (sz : Nat) {K : Int → zSt → Prop} {σ : zSt} {x1 : Int} (hf : fX12_gapDays K σ x1) : Met l yX12_gapDays (Cond.code yX12_gapDays cX12_gapDays 2 (some .int) :: UW) ({ frames := 4, cells := 0, slots := 0, locals := 92 } : Room) (va_Pc [vR ad 0, vI x1] (zPre D vwCl (tyA dA) zX0 NM ad (celM ad dA) sz σ)) (va_Qi (zPi K) (zB D vwCl (tyA dA) NM ad (celM ad dA)) (zA ad NM sz)) 0 0 (zA ad NM sz) := by
  refine z_enter (cc := cX12_gapDays) (maxL := 2) (ret := (some .int)) (vs := [vR ad 0, vI x1]) (plainFor_of_name (by decide)) rfl hinj (Nat.le_of_ble_eq_true rfl) ?_
  intro p e s m args below meth c hC hE hsz hr hnm
  show zAt p l e ({ frames := 4, cells := 0, slots := 0, locals := 92 } : Room) s m args below meth c 0 0 (MQ below (va_Qi (zPi K) (zB D vwCl (tyA dA) NM ad (celM ad dA)) (zA ad NM sz)) args s 0 0 (zA ad NM sz)) 2 D vwCl (zA ad NM sz) NM ad (celM ad dA) 0 [(0, vR ad 0), (1, vI x1)] [] σ
  refine z_aload_n hC dX12_gapDays_0 0 rfl rfl ?_
  refine z_callVv hC hE (oM_12 (show kM 0 = 12 by decide)) [] (fun sz2 => mX12_findGaps l hinj sz2 hf) (cwV 0 hC.1.2.2.2.2 (uV (uT _) u2096 u2098 u90 u118 u2099) rfl rfl rfl (by decide +kernel) ⟨Nat.le_of_ble_eq_true rfl, Nat.le_of_ble_eq_true rfl⟩) rfl rfl (Nat.le_of_ble_eq_true rfl) ⟨Nat.le_of_ble_eq_true rfl, Nat.le_of_ble_eq_true rfl⟩ dX12_gapDays_1 (fun σ1 hf => ?_)
  refine z_iload_n hC dX12_gapDays_4 1 rfl rfl ?_
  refine z_iconst hC dX12_gapDays_5 ?_
  refine z_aload_n hC dX12_gapDays_6 0 rfl rfl ?_
  refine z_get hC (fun w h => uT _ w (uL12 w h)) (oM_12 (show kM 0 = 12 by decide)) 36 (by decide) (uT _ _ u1581) rfl rfl dX12_gapDays_7 ?_
  refine z_iconst hC dX12_gapDays_10 ?_
  refine z_isub hC dX12_gapDays_11 ?_
  refine z_callSi hC hE [vI x1, vI 0, vI ((σ1 0 36) - 1)] (fun sz2 => mX12_inRange l hinj sz2 hf) (va_cwS 3 hC.1.2.2.2.2 (uS (uT _) u1700 u1701 u118 u1702) rfl rfl rfl (by decide +kernel) ⟨Nat.le_of_ble_eq_true rfl, Nat.le_of_ble_eq_true rfl⟩) rfl rfl (Nat.le_of_ble_eq_true rfl) ⟨Nat.le_of_ble_eq_true rfl, Nat.le_of_ble_eq_true rfl⟩ dX12_gapDays_12 (fun r2 σ2 hf => ?_)
  obtain ⟨g3, hf⟩ := hf
  refine z_if_eq (tgt := 27) hC dX12_gapDays_15 (by decide) g3 (fun hc => ?_) (fun hc => ?_)
  · replace hf := hf.1 hc
    refine z_iconst hC dX12_gapDays_27 ?_
    exact z_iret hC hr rfl dX12_gapDays_28 hf
  · replace hf := hf.2 hc
    refine z_aload_n hC dX12_gapDays_18 0 rfl rfl ?_
    refine z_get hC (fun w h => uT _ w (uL12 w h)) (oM_12 (show kM 0 = 12 by decide)) 38 (by decide) (uT _ _ u1583) rfl rfl dX12_gapDays_19 ?_
    refine z_iload_n hC dX12_gapDays_22 1 rfl rfl ?_
    obtain ⟨g4, hf⟩ := hf
    refine z_iaload hC (aM_34 (show kM 18 = 34 by decide)) g4 dX12_gapDays_23 ?_
    refine z_goto (tgt := 28) hC dX12_gapDays_24 (by decide) ?_
    exact z_iret hC hr rfl dX12_gapDays_28 hf

-- ===== X12_longestGap
noncomputable def fX12_longestGap_B8 (K : Int → zSt → Prop) (n : Nat) : zSt → Int → Int → Prop :=
  Nat.rec (motive := fun _ => zSt → Int → Int → Prop) (fun _ _ _ => False) (fun _ ih σ x1 x2 => zrg x2 ∧ zrg (σ 0 36) ∧ ((σ 0 36 ≤ x2 → K x1 σ) ∧ (¬ σ 0 36 ≤ x2 → (0 ≤ x2 ∧ x2 < 6) ∧ zrg (σ 18 x2) ∧ zrg x1 ∧ ((σ 18 x2 ≤ x1 → ih σ x1 (x2 + 1)) ∧ (¬ σ 18 x2 ≤ x1 → ih σ (σ 18 x2) (x2 + 1)))))) n
theorem uX12_longestGap_B8 (K : Int → zSt → Prop) (n0 : Nat) (σ : zSt) (x1 : Int) (x2 : Int) : fX12_longestGap_B8 K (n0 + 1) σ x1 x2 = (zrg x2 ∧ zrg (σ 0 36) ∧ ((σ 0 36 ≤ x2 → K x1 σ) ∧ (¬ σ 0 36 ≤ x2 → (0 ≤ x2 ∧ x2 < 6) ∧ zrg (σ 18 x2) ∧ zrg x1 ∧ ((σ 18 x2 ≤ x1 → (fX12_longestGap_B8 K n0) σ x1 (x2 + 1)) ∧ (¬ σ 18 x2 ≤ x1 → (fX12_longestGap_B8 K n0) σ (σ 18 x2) (x2 + 1)))))) := rfl
def fX12_longestGap (K : Int → zSt → Prop) (σ : zSt) : Prop :=
  fX12_findGaps (fun σ1 => (∃ n, fX12_longestGap_B8 K n σ1 0 0)) σ 
set_option maxHeartbeats 4000000 in
set_option maxRecDepth 100000 in
theorem wX12_longestGap_B8 {p : Program} {l : Launch} {e : Env} {s : State} {m : MethodId} {args : Array Value} {below : List Frame} {meth : Method} {c : Code} {D : va_G} {dA : Nat → ClassId} {ad : Nat → Nat} {sz : Nat}  {K : Int → zSt → Prop} (hC : zC p m c cX12_longestGap 3 s args (Cond.code yX12_longestGap cX12_longestGap 3 (some .int) :: UW) RX12 meth D vwCl (tyA dA) (zA ad NM sz) NM ad (celM ad dA)) (hE : zE zX0 (zA ad NM sz) s s.heap) (hr : meth.sig.returnType = (some .int)) (hinj : ∀ i j, i < NM → j < NM → ad i = ad j → i = j) : ∀ (n : Nat) (σ : zSt) (x1 : Int) (x2 : Int), fX12_longestGap_B8 K n σ x1 x2 → zAt p l e ({ frames := 4, cells := 0, slots := 0, locals := 92 } : Room) s m args below meth c 0 0 (MQ below (va_Qi (zPi K) (zB D vwCl (tyA dA) NM ad (celM ad dA)) (zA ad NM sz)) args s 0 0 (zA ad NM sz)) 3 D vwCl (zA ad NM sz) NM ad (celM ad dA) 8 [(0, vR ad 0), (1, vI x1), (2, vI x2)] [] σ := by
  intro n
  induction n with
  | zero => intro σ x1 x2  hf; exact False.elim hf
  | succ n ih =>
    intro σ x1 x2  hf
    rw [uX12_longestGap_B8] at hf
    refine z_iload_n hC dX12_longestGap_8 2 rfl rfl ?_
    refine z_aload_n hC dX12_longestGap_9 0 rfl rfl ?_
    refine z_get hC (fun w h => uT _ w (uL12 w h)) (oM_12 (show kM 0 = 12 by decide)) 36 (by decide) (uT _ _ u1581) rfl rfl dX12_longestGap_10 ?_
    obtain ⟨g2, hf⟩ := hf
    obtain ⟨g3, hf⟩ := hf
    refine z_icmp_ge (tgt := 43) hC dX12_longestGap_13 (by decide) g2 g3 (fun hc => ?_) (fun hc => ?_)
    · replace hf := hf.1 hc
      refine z_iload_n hC dX12_longestGap_43 1 rfl rfl ?_
      exact z_iret hC hr rfl dX12_longestGap_44 hf
    · replace hf := hf.2 hc
      refine z_aload_n hC dX12_longestGap_16 0 rfl rfl ?_
      refine z_get hC (fun w h => uT _ w (uL12 w h)) (oM_12 (show kM 0 = 12 by decide)) 38 (by decide) (uT _ _ u1583) rfl rfl dX12_longestGap_17 ?_
      refine z_iload_n hC dX12_longestGap_20 2 rfl rfl ?_
      obtain ⟨g4, hf⟩ := hf
      refine z_iaload hC (aM_34 (show kM 18 = 34 by decide)) g4 dX12_longestGap_21 ?_
      refine z_iload_n hC dX12_longestGap_22 1 rfl rfl ?_
      obtain ⟨g5, hf⟩ := hf
      obtain ⟨g6, hf⟩ := hf
      refine z_icmp_le (tgt := 35) hC dX12_longestGap_23 (by decide) g5 g6 (fun hc => ?_) (fun hc => ?_)
      · replace hf := hf.1 hc
        refine z_iload_n hC dX12_longestGap_35 1 rfl rfl ?_
        refine z_istore_n hC ([(1, vI x1), (0, vR ad 0), (2, vI x2)]) dX12_longestGap_36 rfl (by decide) rfl ?_
        refine z_iinc hC ([(2, vI (x2 + 1)), (1, vI x1), (0, vR ad 0)]) dX12_longestGap_37 2 rfl (by decide) rfl ?_
        refine z_goto (tgt := 8) hC dX12_longestGap_40 (by decide) ?_
        refine z_sub (lv' := [(0, vR ad 0), (1, vI x1), (2, vI (x2 + 1))]) [2, 1, 0] rfl ?_
        exact ih _ _ _ hf
      · replace hf := hf.2 hc
        refine z_aload_n hC dX12_longestGap_26 0 rfl rfl ?_
        refine z_get hC (fun w h => uT _ w (uL12 w h)) (oM_12 (show kM 0 = 12 by decide)) 38 (by decide) (uT _ _ u1583) rfl rfl dX12_longestGap_27 ?_
        refine z_iload_n hC dX12_longestGap_30 2 rfl rfl ?_
        refine z_iaload hC (aM_34 (show kM 18 = 34 by decide)) g4 dX12_longestGap_31 ?_
        refine z_goto (tgt := 36) hC dX12_longestGap_32 (by decide) ?_
        refine z_istore_n hC ([(1, vI (σ 18 x2)), (0, vR ad 0), (2, vI x2)]) dX12_longestGap_36 rfl (by decide) rfl ?_
        refine z_iinc hC ([(2, vI (x2 + 1)), (1, vI (σ 18 x2)), (0, vR ad 0)]) dX12_longestGap_37 2 rfl (by decide) rfl ?_
        refine z_goto (tgt := 8) hC dX12_longestGap_40 (by decide) ?_
        refine z_sub (lv' := [(0, vR ad 0), (1, vI (σ 18 x2)), (2, vI (x2 + 1))]) [2, 1, 0] rfl ?_
        exact ih _ _ _ hf
set_option maxHeartbeats 4000000 in
set_option maxRecDepth 100000 in
theorem mX12_longestGap {D : va_G} {dA : Nat → ClassId} {ad : Nat → Nat}  (l : Launch) (hinj : ∀ i j, i < NM → j < NM → ad i = ad j → i = j) (sz : Nat) {K : Int → zSt → Prop} {σ : zSt} (hf : fX12_longestGap K σ ) : Met l yX12_longestGap (Cond.code yX12_longestGap cX12_longestGap 3 (some .int) :: UW) ({ frames := 4, cells := 0, slots := 0, locals := 92 } : Room) (va_Pc [vR ad 0] (zPre D vwCl (tyA dA) zX0 NM ad (celM ad dA) sz σ)) (va_Qi (zPi K) (zB D vwCl (tyA dA) NM ad (celM ad dA)) (zA ad NM sz)) 0 0 (zA ad NM sz) := by
  refine z_enter (cc := cX12_longestGap) (maxL := 3) (ret := (some .int)) (vs := [vR ad 0]) (plainFor_of_name (by decide)) rfl hinj (Nat.le_of_ble_eq_true rfl) ?_
  intro p e s m args below meth c hC hE hsz hr hnm
  show zAt p l e ({ frames := 4, cells := 0, slots := 0, locals := 92 } : Room) s m args below meth c 0 0 (MQ below (va_Qi (zPi K) (zB D vwCl (tyA dA) NM ad (celM ad dA)) (zA ad NM sz)) args s 0 0 (zA ad NM sz)) 3 D vwCl (zA ad NM sz) NM ad (celM ad dA) 0 [(0, vR ad 0)] [] σ
  refine z_aload_n hC dX12_longestGap_0 0 rfl rfl ?_
  refine z_callVv hC hE (oM_12 (show kM 0 = 12 by decide)) [] (fun sz2 => mX12_findGaps l hinj sz2 hf) (cwV 0 hC.1.2.2.2.2 (uV (uT _) u2096 u2098 u90 u118 u2099) rfl rfl rfl (by decide +kernel) ⟨Nat.le_of_ble_eq_true rfl, Nat.le_of_ble_eq_true rfl⟩) rfl rfl (Nat.le_of_ble_eq_true rfl) ⟨Nat.le_of_ble_eq_true rfl, Nat.le_of_ble_eq_true rfl⟩ dX12_longestGap_1 (fun σ1 hf => ?_)
  refine z_iconst hC dX12_longestGap_4 ?_
  refine z_istore_n hC ([(1, vI 0), (0, vR ad 0)]) dX12_longestGap_5 rfl (by decide) rfl ?_
  refine z_iconst hC dX12_longestGap_6 ?_
  refine z_istore_n hC ([(2, vI 0), (1, vI 0), (0, vR ad 0)]) dX12_longestGap_7 rfl (by decide) rfl ?_
  refine z_sub (lv' := [(0, vR ad 0), (1, vI 0), (2, vI 0)]) [2, 1, 0] rfl ?_
  obtain ⟨n, hf⟩ := hf
  exact wX12_longestGap_B8 hC hE hr hinj n _ _ _ hf

-- ===== X12_readings
def fX12_readings (K : Int → zSt → Prop) (σ : zSt) (x1 : Int) : Prop :=
  (0 ≤ 32 + x1 ∧ 32 + x1 < 811) ∧ K (σ 1 (32 + x1)) σ
set_option maxHeartbeats 4000000 in
set_option maxRecDepth 100000 in
theorem mX12_readings {D : va_G} {dA : Nat → ClassId} {ad : Nat → Nat}  (l : Launch) (hinj : ∀ i j, i < NM → j < NM → ad i = ad j → i = j) (sz : Nat) {K : Int → zSt → Prop} {σ : zSt} {x1 : Int} (hf : fX12_readings K σ x1) : Met l yX12_readings (Cond.code yX12_readings cX12_readings 2 (some .int) :: UW) ({ frames := 0, cells := 0, slots := 0, locals := 0 } : Room) (va_Pc [vR ad 0, vI x1] (zPre D vwCl (tyA dA) zX0 NM ad (celM ad dA) sz σ)) (va_Qi (zPi K) (zB D vwCl (tyA dA) NM ad (celM ad dA)) (zA ad NM sz)) 0 0 (zA ad NM sz) := by
  refine z_enter (cc := cX12_readings) (maxL := 2) (ret := (some .int)) (vs := [vR ad 0, vI x1]) (plainFor_of_name (by decide)) rfl hinj (Nat.le_of_ble_eq_true rfl) ?_
  intro p e s m args below meth c hC hE hsz hr hnm
  show zAt p l e ({ frames := 0, cells := 0, slots := 0, locals := 0 } : Room) s m args below meth c 0 0 (MQ below (va_Qi (zPi K) (zB D vwCl (tyA dA) NM ad (celM ad dA)) (zA ad NM sz)) args s 0 0 (zA ad NM sz)) 2 D vwCl (zA ad NM sz) NM ad (celM ad dA) 0 [(0, vR ad 0), (1, vI x1)] [] σ
  refine z_aload_n hC dX12_readings_0 0 rfl rfl ?_
  refine z_get hC (fun w h => uT _ w (uL12 w h)) (oM_12 (show kM 0 = 12 by decide)) 0 (by decide) (uT _ _ u1545) rfl rfl dX12_readings_1 ?_
  refine z_bipush hC dX12_readings_4 (by decide) ?_
  refine z_iload_n hC dX12_readings_6 1 rfl rfl ?_
  refine z_iadd hC dX12_readings_7 ?_
  obtain ⟨g1, hf⟩ := hf
  refine z_iaload hC (aM_30 (show kM 1 = 30 by decide)) g1 dX12_readings_8 ?_
  exact z_iret hC hr rfl dX12_readings_9 hf

-- ===== X12_readDay
def fX12_readDay (K : Int → zSt → Prop) (σ : zSt) (x1 : Int) (x2 : Int) : Prop :=
  (0 ≤ (35 + (8 * x1)) + x2 ∧ (35 + (8 * x1)) + x2 < 811) ∧ K (σ 1 ((35 + (8 * x1)) + x2)) σ
set_option maxHeartbeats 4000000 in
set_option maxRecDepth 100000 in
theorem mX12_readDay {D : va_G} {dA : Nat → ClassId} {ad : Nat → Nat}  (l : Launch) (hinj : ∀ i j, i < NM → j < NM → ad i = ad j → i = j) (sz : Nat) {K : Int → zSt → Prop} {σ : zSt} {x1 : Int} {x2 : Int} (hf : fX12_readDay K σ x1 x2) : Met l yX12_readDay (Cond.code yX12_readDay cX12_readDay 3 (some .int) :: UW) ({ frames := 0, cells := 0, slots := 0, locals := 0 } : Room) (va_Pc [vR ad 0, vI x1, vI x2] (zPre D vwCl (tyA dA) zX0 NM ad (celM ad dA) sz σ)) (va_Qi (zPi K) (zB D vwCl (tyA dA) NM ad (celM ad dA)) (zA ad NM sz)) 0 0 (zA ad NM sz) := by
  refine z_enter (cc := cX12_readDay) (maxL := 3) (ret := (some .int)) (vs := [vR ad 0, vI x1, vI x2]) (plainFor_of_name (by decide)) rfl hinj (Nat.le_of_ble_eq_true rfl) ?_
  intro p e s m args below meth c hC hE hsz hr hnm
  show zAt p l e ({ frames := 0, cells := 0, slots := 0, locals := 0 } : Room) s m args below meth c 0 0 (MQ below (va_Qi (zPi K) (zB D vwCl (tyA dA) NM ad (celM ad dA)) (zA ad NM sz)) args s 0 0 (zA ad NM sz)) 3 D vwCl (zA ad NM sz) NM ad (celM ad dA) 0 [(0, vR ad 0), (1, vI x1), (2, vI x2)] [] σ
  refine z_aload_n hC dX12_readDay_0 0 rfl rfl ?_
  refine z_get hC (fun w h => uT _ w (uL12 w h)) (oM_12 (show kM 0 = 12 by decide)) 0 (by decide) (uT _ _ u1545) rfl rfl dX12_readDay_1 ?_
  refine z_bipush hC dX12_readDay_4 (by decide) ?_
  refine z_bipush hC dX12_readDay_6 (by decide) ?_
  refine z_iload_n hC dX12_readDay_8 1 rfl rfl ?_
  refine z_imul hC dX12_readDay_9 ?_
  refine z_iadd hC dX12_readDay_10 ?_
  refine z_iload_n hC dX12_readDay_11 2 rfl rfl ?_
  refine z_iadd hC dX12_readDay_12 ?_
  obtain ⟨g1, hf⟩ := hf
  refine z_iaload hC (aM_30 (show kM 1 = 30 by decide)) g1 dX12_readDay_13 ?_
  exact z_iret hC hr rfl dX12_readDay_14 hf

-- ===== X12_readLength
def fX12_readLength (K : Int → zSt → Prop) (σ : zSt) (x1 : Int) (x2 : Int) : Prop :=
  (0 ≤ (59 + (8 * x1)) + x2 ∧ (59 + (8 * x1)) + x2 < 811) ∧ K (σ 1 ((59 + (8 * x1)) + x2)) σ
set_option maxHeartbeats 4000000 in
set_option maxRecDepth 100000 in
theorem mX12_readLength {D : va_G} {dA : Nat → ClassId} {ad : Nat → Nat}  (l : Launch) (hinj : ∀ i j, i < NM → j < NM → ad i = ad j → i = j) (sz : Nat) {K : Int → zSt → Prop} {σ : zSt} {x1 : Int} {x2 : Int} (hf : fX12_readLength K σ x1 x2) : Met l yX12_readLength (Cond.code yX12_readLength cX12_readLength 3 (some .int) :: UW) ({ frames := 0, cells := 0, slots := 0, locals := 0 } : Room) (va_Pc [vR ad 0, vI x1, vI x2] (zPre D vwCl (tyA dA) zX0 NM ad (celM ad dA) sz σ)) (va_Qi (zPi K) (zB D vwCl (tyA dA) NM ad (celM ad dA)) (zA ad NM sz)) 0 0 (zA ad NM sz) := by
  refine z_enter (cc := cX12_readLength) (maxL := 3) (ret := (some .int)) (vs := [vR ad 0, vI x1, vI x2]) (plainFor_of_name (by decide)) rfl hinj (Nat.le_of_ble_eq_true rfl) ?_
  intro p e s m args below meth c hC hE hsz hr hnm
  show zAt p l e ({ frames := 0, cells := 0, slots := 0, locals := 0 } : Room) s m args below meth c 0 0 (MQ below (va_Qi (zPi K) (zB D vwCl (tyA dA) NM ad (celM ad dA)) (zA ad NM sz)) args s 0 0 (zA ad NM sz)) 3 D vwCl (zA ad NM sz) NM ad (celM ad dA) 0 [(0, vR ad 0), (1, vI x1), (2, vI x2)] [] σ
  refine z_aload_n hC dX12_readLength_0 0 rfl rfl ?_
  refine z_get hC (fun w h => uT _ w (uL12 w h)) (oM_12 (show kM 0 = 12 by decide)) 0 (by decide) (uT _ _ u1545) rfl rfl dX12_readLength_1 ?_
  refine z_bipush hC dX12_readLength_4 (by decide) ?_
  refine z_bipush hC dX12_readLength_6 (by decide) ?_
  refine z_iload_n hC dX12_readLength_8 1 rfl rfl ?_
  refine z_imul hC dX12_readLength_9 ?_
  refine z_iadd hC dX12_readLength_10 ?_
  refine z_iload_n hC dX12_readLength_11 2 rfl rfl ?_
  refine z_iadd hC dX12_readLength_12 ?_
  obtain ⟨g1, hf⟩ := hf
  refine z_iaload hC (aM_30 (show kM 1 = 30 by decide)) g1 dX12_readLength_13 ?_
  exact z_iret hC hr rfl dX12_readLength_14 hf

-- ===== X12_readingCount
def fX12_readingCount (K : Int → zSt → Prop) (σ : zSt) (x1 : Int) : Prop :=
  fX12_isStake (fun r1 σ1 => fX12_fails (fun r2 σ2 => zrg r2 ∧ ((r2 = 0 → fX12_readings (fun r4 σ4 => K r4 σ4) σ2 x1) ∧ (¬ r2 = 0 → K 0 σ2))) σ1 r1) σ x1
set_option maxHeartbeats 4000000 in
set_option maxRecDepth 100000 in
theorem mX12_readingCount {D : va_G} {dA : Nat → ClassId} {ad : Nat → Nat}  (l : Launch) (hinj : ∀ i j, i < NM → j < NM → ad i = ad j → i = j) (sz : Nat) {K : Int → zSt → Prop} {σ : zSt} {x1 : Int} (hf : fX12_readingCount K σ x1) : Met l yX12_readingCount (Cond.code yX12_readingCount cX12_readingCount 2 (some .int) :: UW) ({ frames := 2, cells := 0, slots := 0, locals := 43 } : Room) (va_Pc [vR ad 0, vI x1] (zPre D vwCl (tyA dA) zX0 NM ad (celM ad dA) sz σ)) (va_Qi (zPi K) (zB D vwCl (tyA dA) NM ad (celM ad dA)) (zA ad NM sz)) 0 0 (zA ad NM sz) := by
  refine z_enter (cc := cX12_readingCount) (maxL := 2) (ret := (some .int)) (vs := [vR ad 0, vI x1]) (plainFor_of_name (by decide)) rfl hinj (Nat.le_of_ble_eq_true rfl) ?_
  intro p e s m args below meth c hC hE hsz hr hnm
  show zAt p l e ({ frames := 2, cells := 0, slots := 0, locals := 43 } : Room) s m args below meth c 0 0 (MQ below (va_Qi (zPi K) (zB D vwCl (tyA dA) NM ad (celM ad dA)) (zA ad NM sz)) args s 0 0 (zA ad NM sz)) 2 D vwCl (zA ad NM sz) NM ad (celM ad dA) 0 [(0, vR ad 0), (1, vI x1)] [] σ
  refine z_aload_n hC dX12_readingCount_0 0 rfl rfl ?_
  refine z_aload_n hC dX12_readingCount_1 0 rfl rfl ?_
  refine z_iload_n hC dX12_readingCount_2 1 rfl rfl ?_
  refine z_callVi hC hE (oM_12 (show kM 0 = 12 by decide)) [vI x1] (fun sz2 => mX12_isStake l hinj sz2 hf) (cwV 1 hC.1.2.2.2.2 (uV (uT _) u2116 u2118 u91 u118 u2119) rfl rfl rfl (by decide +kernel) ⟨Nat.le_of_ble_eq_true rfl, Nat.le_of_ble_eq_true rfl⟩) rfl rfl (Nat.le_of_ble_eq_true rfl) ⟨Nat.le_of_ble_eq_true rfl, Nat.le_of_ble_eq_true rfl⟩ dX12_readingCount_3 (fun r1 σ1 hf => ?_)
  refine z_callVi hC hE (oM_12 (show kM 0 = 12 by decide)) [vI r1] (fun sz2 => mX12_fails l hinj sz2 hf) (cwV 1 hC.1.2.2.2.2 (uV (uT _) u1833 u1835 u58 u118 u1836) rfl rfl rfl (by decide +kernel) ⟨Nat.le_of_ble_eq_true rfl, Nat.le_of_ble_eq_true rfl⟩) rfl rfl (Nat.le_of_ble_eq_true rfl) ⟨Nat.le_of_ble_eq_true rfl, Nat.le_of_ble_eq_true rfl⟩ dX12_readingCount_6 (fun r2 σ2 hf => ?_)
  obtain ⟨g3, hf⟩ := hf
  refine z_if_eq (tgt := 16) hC dX12_readingCount_9 (by decide) g3 (fun hc => ?_) (fun hc => ?_)
  · replace hf := hf.1 hc
    refine z_aload_n hC dX12_readingCount_16 0 rfl rfl ?_
    refine z_iload_n hC dX12_readingCount_17 1 rfl rfl ?_
    refine z_callVi hC hE (oM_12 (show kM 0 = 12 by decide)) [vI x1] (fun sz2 => mX12_readings l hinj sz2 hf) (cwV 1 hC.1.2.2.2.2 (uV (uT _) u2120 u2122 u92 u118 u2123) rfl rfl rfl (by decide +kernel) ⟨Nat.le_of_ble_eq_true rfl, Nat.le_of_ble_eq_true rfl⟩) rfl rfl (Nat.le_of_ble_eq_true rfl) ⟨Nat.le_of_ble_eq_true rfl, Nat.le_of_ble_eq_true rfl⟩ dX12_readingCount_18 (fun r4 σ4 hf => ?_)
    exact z_iret hC hr rfl dX12_readingCount_21 hf
  · replace hf := hf.2 hc
    refine z_iconst hC dX12_readingCount_12 ?_
    refine z_goto (tgt := 21) hC dX12_readingCount_13 (by decide) ?_
    exact z_iret hC hr rfl dX12_readingCount_21 hf

-- ===== X12_isReading
def fX12_isReading (K : Int → zSt → Prop) (σ : zSt) (x1 : Int) (x2 : Int) : Prop :=
  fX12_isStake (fun r1 σ1 => zrg r1 ∧ ((r1 = 0 → K 0 σ1) ∧ (¬ r1 = 0 → fX12_readings (fun r3 σ3 => fX12_inRange (fun r4 σ4 => zrg r4 ∧ ((r4 = 0 → K 0 σ4) ∧ (¬ r4 = 0 → K 1 σ4))) σ3 x2 0 (r3 - 1)) σ1 x1))) σ x1
set_option maxHeartbeats 4000000 in
set_option maxRecDepth 100000 in
theorem mX12_isReading {D : va_G} {dA : Nat → ClassId} {ad : Nat → Nat}  (l : Launch) (hinj : ∀ i j, i < NM → j < NM → ad i = ad j → i = j) (sz : Nat) {K : Int → zSt → Prop} {σ : zSt} {x1 : Int} {x2 : Int} (hf : fX12_isReading K σ x1 x2) : Met l yX12_isReading (Cond.code yX12_isReading cX12_isReading 3 (some .boolean) :: UW) ({ frames := 2, cells := 0, slots := 0, locals := 43 } : Room) (va_Pc [vR ad 0, vI x1, vI x2] (zPre D vwCl (tyA dA) zX0 NM ad (celM ad dA) sz σ)) (va_Qi (zPi K) (zB D vwCl (tyA dA) NM ad (celM ad dA)) (zA ad NM sz)) 0 0 (zA ad NM sz) := by
  refine z_enter (cc := cX12_isReading) (maxL := 3) (ret := (some .boolean)) (vs := [vR ad 0, vI x1, vI x2]) (plainFor_of_name (by decide)) rfl hinj (Nat.le_of_ble_eq_true rfl) ?_
  intro p e s m args below meth c hC hE hsz hr hnm
  show zAt p l e ({ frames := 2, cells := 0, slots := 0, locals := 43 } : Room) s m args below meth c 0 0 (MQ below (va_Qi (zPi K) (zB D vwCl (tyA dA) NM ad (celM ad dA)) (zA ad NM sz)) args s 0 0 (zA ad NM sz)) 3 D vwCl (zA ad NM sz) NM ad (celM ad dA) 0 [(0, vR ad 0), (1, vI x1), (2, vI x2)] [] σ
  refine z_aload_n hC dX12_isReading_0 0 rfl rfl ?_
  refine z_iload_n hC dX12_isReading_1 1 rfl rfl ?_
  refine z_callVi hC hE (oM_12 (show kM 0 = 12 by decide)) [vI x1] (fun sz2 => mX12_isStake l hinj sz2 hf) (cwV 1 hC.1.2.2.2.2 (uV (uT _) u2116 u2118 u91 u118 u2119) rfl rfl rfl (by decide +kernel) ⟨Nat.le_of_ble_eq_true rfl, Nat.le_of_ble_eq_true rfl⟩) rfl rfl (Nat.le_of_ble_eq_true rfl) ⟨Nat.le_of_ble_eq_true rfl, Nat.le_of_ble_eq_true rfl⟩ dX12_isReading_2 (fun r1 σ1 hf => ?_)
  obtain ⟨g2, hf⟩ := hf
  refine z_if_eq (tgt := 27) hC dX12_isReading_5 (by decide) g2 (fun hc => ?_) (fun hc => ?_)
  · replace hf := hf.1 hc
    refine z_iconst hC dX12_isReading_27 ?_
    exact z_bret hC hr rfl dX12_isReading_28 (Or.inl rfl) hf
  · replace hf := hf.2 hc
    refine z_iload_n hC dX12_isReading_8 2 rfl rfl ?_
    refine z_iconst hC dX12_isReading_9 ?_
    refine z_aload_n hC dX12_isReading_10 0 rfl rfl ?_
    refine z_iload_n hC dX12_isReading_11 1 rfl rfl ?_
    refine z_callVi hC hE (oM_12 (show kM 0 = 12 by decide)) [vI x1] (fun sz2 => mX12_readings l hinj sz2 hf) (cwV 1 hC.1.2.2.2.2 (uV (uT _) u2120 u2122 u92 u118 u2123) rfl rfl rfl (by decide +kernel) ⟨Nat.le_of_ble_eq_true rfl, Nat.le_of_ble_eq_true rfl⟩) rfl rfl (Nat.le_of_ble_eq_true rfl) ⟨Nat.le_of_ble_eq_true rfl, Nat.le_of_ble_eq_true rfl⟩ dX12_isReading_12 (fun r3 σ3 hf => ?_)
    refine z_iconst hC dX12_isReading_15 ?_
    refine z_isub hC dX12_isReading_16 ?_
    refine z_callSi hC hE [vI x2, vI 0, vI (r3 - 1)] (fun sz2 => mX12_inRange l hinj sz2 hf) (va_cwS 3 hC.1.2.2.2.2 (uS (uT _) u1700 u1701 u118 u1702) rfl rfl rfl (by decide +kernel) ⟨Nat.le_of_ble_eq_true rfl, Nat.le_of_ble_eq_true rfl⟩) rfl rfl (Nat.le_of_ble_eq_true rfl) ⟨Nat.le_of_ble_eq_true rfl, Nat.le_of_ble_eq_true rfl⟩ dX12_isReading_17 (fun r4 σ4 hf => ?_)
    obtain ⟨g5, hf⟩ := hf
    refine z_if_eq (tgt := 27) hC dX12_isReading_20 (by decide) g5 (fun hc => ?_) (fun hc => ?_)
    · replace hf := hf.1 hc
      refine z_iconst hC dX12_isReading_27 ?_
      exact z_bret hC hr rfl dX12_isReading_28 (Or.inl rfl) hf
    · replace hf := hf.2 hc
      refine z_iconst hC dX12_isReading_23 ?_
      refine z_goto (tgt := 28) hC dX12_isReading_24 (by decide) ?_
      exact z_bret hC hr rfl dX12_isReading_28 (Or.inr rfl) hf

-- ===== X12_readingDay
def fX12_readingDay (K : Int → zSt → Prop) (σ : zSt) (x1 : Int) (x2 : Int) : Prop :=
  fX12_isReading (fun r1 σ1 => fX12_fails (fun r2 σ2 => zrg r2 ∧ ((r2 = 0 → fX12_readDay (fun r4 σ4 => K r4 σ4) σ2 x1 x2) ∧ (¬ r2 = 0 → K 0 σ2))) σ1 r1) σ x1 x2
set_option maxHeartbeats 4000000 in
set_option maxRecDepth 100000 in
theorem mX12_readingDay {D : va_G} {dA : Nat → ClassId} {ad : Nat → Nat}  (l : Launch) (hinj : ∀ i j, i < NM → j < NM → ad i = ad j → i = j) (sz : Nat) {K : Int → zSt → Prop} {σ : zSt} {x1 : Int} {x2 : Int} (hf : fX12_readingDay K σ x1 x2) : Met l yX12_readingDay (Cond.code yX12_readingDay cX12_readingDay 3 (some .int) :: UW) ({ frames := 3, cells := 0, slots := 0, locals := 65 } : Room) (va_Pc [vR ad 0, vI x1, vI x2] (zPre D vwCl (tyA dA) zX0 NM ad (celM ad dA) sz σ)) (va_Qi (zPi K) (zB D vwCl (tyA dA) NM ad (celM ad dA)) (zA ad NM sz)) 0 0 (zA ad NM sz) := by
  refine z_enter (cc := cX12_readingDay) (maxL := 3) (ret := (some .int)) (vs := [vR ad 0, vI x1, vI x2]) (plainFor_of_name (by decide)) rfl hinj (Nat.le_of_ble_eq_true rfl) ?_
  intro p e s m args below meth c hC hE hsz hr hnm
  show zAt p l e ({ frames := 3, cells := 0, slots := 0, locals := 65 } : Room) s m args below meth c 0 0 (MQ below (va_Qi (zPi K) (zB D vwCl (tyA dA) NM ad (celM ad dA)) (zA ad NM sz)) args s 0 0 (zA ad NM sz)) 3 D vwCl (zA ad NM sz) NM ad (celM ad dA) 0 [(0, vR ad 0), (1, vI x1), (2, vI x2)] [] σ
  refine z_aload_n hC dX12_readingDay_0 0 rfl rfl ?_
  refine z_aload_n hC dX12_readingDay_1 0 rfl rfl ?_
  refine z_iload_n hC dX12_readingDay_2 1 rfl rfl ?_
  refine z_iload_n hC dX12_readingDay_3 2 rfl rfl ?_
  refine z_callVi hC hE (oM_12 (show kM 0 = 12 by decide)) [vI x1, vI x2] (fun sz2 => mX12_isReading l hinj sz2 hf) (cwV 2 hC.1.2.2.2.2 (uV (uT _) u2128 u2130 u93 u118 u2131) rfl rfl rfl (by decide +kernel) ⟨Nat.le_of_ble_eq_true rfl, Nat.le_of_ble_eq_true rfl⟩) rfl rfl (Nat.le_of_ble_eq_true rfl) ⟨Nat.le_of_ble_eq_true rfl, Nat.le_of_ble_eq_true rfl⟩ dX12_readingDay_4 (fun r1 σ1 hf => ?_)
  refine z_callVi hC hE (oM_12 (show kM 0 = 12 by decide)) [vI r1] (fun sz2 => mX12_fails l hinj sz2 hf) (cwV 1 hC.1.2.2.2.2 (uV (uT _) u1833 u1835 u58 u118 u1836) rfl rfl rfl (by decide +kernel) ⟨Nat.le_of_ble_eq_true rfl, Nat.le_of_ble_eq_true rfl⟩) rfl rfl (Nat.le_of_ble_eq_true rfl) ⟨Nat.le_of_ble_eq_true rfl, Nat.le_of_ble_eq_true rfl⟩ dX12_readingDay_7 (fun r2 σ2 hf => ?_)
  obtain ⟨g3, hf⟩ := hf
  refine z_if_eq (tgt := 17) hC dX12_readingDay_10 (by decide) g3 (fun hc => ?_) (fun hc => ?_)
  · replace hf := hf.1 hc
    refine z_aload_n hC dX12_readingDay_17 0 rfl rfl ?_
    refine z_iload_n hC dX12_readingDay_18 1 rfl rfl ?_
    refine z_iload_n hC dX12_readingDay_19 2 rfl rfl ?_
    refine z_callVi hC hE (oM_12 (show kM 0 = 12 by decide)) [vI x1, vI x2] (fun sz2 => mX12_readDay l hinj sz2 hf) (cwV 2 hC.1.2.2.2.2 (uV (uT _) u2132 u2134 u94 u118 u2135) rfl rfl rfl (by decide +kernel) ⟨Nat.le_of_ble_eq_true rfl, Nat.le_of_ble_eq_true rfl⟩) rfl rfl (Nat.le_of_ble_eq_true rfl) ⟨Nat.le_of_ble_eq_true rfl, Nat.le_of_ble_eq_true rfl⟩ dX12_readingDay_20 (fun r4 σ4 hf => ?_)
    exact z_iret hC hr rfl dX12_readingDay_23 hf
  · replace hf := hf.2 hc
    refine z_iconst hC dX12_readingDay_13 ?_
    refine z_goto (tgt := 23) hC dX12_readingDay_14 (by decide) ?_
    exact z_iret hC hr rfl dX12_readingDay_23 hf

-- ===== X12_readingLength
def fX12_readingLength (K : Int → zSt → Prop) (σ : zSt) (x1 : Int) (x2 : Int) : Prop :=
  fX12_isReading (fun r1 σ1 => fX12_fails (fun r2 σ2 => zrg r2 ∧ ((r2 = 0 → fX12_readLength (fun r4 σ4 => K r4 σ4) σ2 x1 x2) ∧ (¬ r2 = 0 → K 0 σ2))) σ1 r1) σ x1 x2
set_option maxHeartbeats 4000000 in
set_option maxRecDepth 100000 in
theorem mX12_readingLength {D : va_G} {dA : Nat → ClassId} {ad : Nat → Nat}  (l : Launch) (hinj : ∀ i j, i < NM → j < NM → ad i = ad j → i = j) (sz : Nat) {K : Int → zSt → Prop} {σ : zSt} {x1 : Int} {x2 : Int} (hf : fX12_readingLength K σ x1 x2) : Met l yX12_readingLength (Cond.code yX12_readingLength cX12_readingLength 3 (some .int) :: UW) ({ frames := 3, cells := 0, slots := 0, locals := 65 } : Room) (va_Pc [vR ad 0, vI x1, vI x2] (zPre D vwCl (tyA dA) zX0 NM ad (celM ad dA) sz σ)) (va_Qi (zPi K) (zB D vwCl (tyA dA) NM ad (celM ad dA)) (zA ad NM sz)) 0 0 (zA ad NM sz) := by
  refine z_enter (cc := cX12_readingLength) (maxL := 3) (ret := (some .int)) (vs := [vR ad 0, vI x1, vI x2]) (plainFor_of_name (by decide)) rfl hinj (Nat.le_of_ble_eq_true rfl) ?_
  intro p e s m args below meth c hC hE hsz hr hnm
  show zAt p l e ({ frames := 3, cells := 0, slots := 0, locals := 65 } : Room) s m args below meth c 0 0 (MQ below (va_Qi (zPi K) (zB D vwCl (tyA dA) NM ad (celM ad dA)) (zA ad NM sz)) args s 0 0 (zA ad NM sz)) 3 D vwCl (zA ad NM sz) NM ad (celM ad dA) 0 [(0, vR ad 0), (1, vI x1), (2, vI x2)] [] σ
  refine z_aload_n hC dX12_readingLength_0 0 rfl rfl ?_
  refine z_aload_n hC dX12_readingLength_1 0 rfl rfl ?_
  refine z_iload_n hC dX12_readingLength_2 1 rfl rfl ?_
  refine z_iload_n hC dX12_readingLength_3 2 rfl rfl ?_
  refine z_callVi hC hE (oM_12 (show kM 0 = 12 by decide)) [vI x1, vI x2] (fun sz2 => mX12_isReading l hinj sz2 hf) (cwV 2 hC.1.2.2.2.2 (uV (uT _) u2128 u2130 u93 u118 u2131) rfl rfl rfl (by decide +kernel) ⟨Nat.le_of_ble_eq_true rfl, Nat.le_of_ble_eq_true rfl⟩) rfl rfl (Nat.le_of_ble_eq_true rfl) ⟨Nat.le_of_ble_eq_true rfl, Nat.le_of_ble_eq_true rfl⟩ dX12_readingLength_4 (fun r1 σ1 hf => ?_)
  refine z_callVi hC hE (oM_12 (show kM 0 = 12 by decide)) [vI r1] (fun sz2 => mX12_fails l hinj sz2 hf) (cwV 1 hC.1.2.2.2.2 (uV (uT _) u1833 u1835 u58 u118 u1836) rfl rfl rfl (by decide +kernel) ⟨Nat.le_of_ble_eq_true rfl, Nat.le_of_ble_eq_true rfl⟩) rfl rfl (Nat.le_of_ble_eq_true rfl) ⟨Nat.le_of_ble_eq_true rfl, Nat.le_of_ble_eq_true rfl⟩ dX12_readingLength_7 (fun r2 σ2 hf => ?_)
  obtain ⟨g3, hf⟩ := hf
  refine z_if_eq (tgt := 17) hC dX12_readingLength_10 (by decide) g3 (fun hc => ?_) (fun hc => ?_)
  · replace hf := hf.1 hc
    refine z_aload_n hC dX12_readingLength_17 0 rfl rfl ?_
    refine z_iload_n hC dX12_readingLength_18 1 rfl rfl ?_
    refine z_iload_n hC dX12_readingLength_19 2 rfl rfl ?_
    refine z_callVi hC hE (oM_12 (show kM 0 = 12 by decide)) [vI x1, vI x2] (fun sz2 => mX12_readLength l hinj sz2 hf) (cwV 2 hC.1.2.2.2.2 (uV (uT _) u2140 u2142 u95 u118 u2143) rfl rfl rfl (by decide +kernel) ⟨Nat.le_of_ble_eq_true rfl, Nat.le_of_ble_eq_true rfl⟩) rfl rfl (Nat.le_of_ble_eq_true rfl) ⟨Nat.le_of_ble_eq_true rfl, Nat.le_of_ble_eq_true rfl⟩ dX12_readingLength_20 (fun r4 σ4 hf => ?_)
    exact z_iret hC hr rfl dX12_readingLength_23 hf
  · replace hf := hf.2 hc
    refine z_iconst hC dX12_readingLength_13 ?_
    refine z_goto (tgt := 23) hC dX12_readingLength_14 (by decide) ?_
    exact z_iret hC hr rfl dX12_readingLength_23 hf

-- ===== X12_readingOn
noncomputable def fX12_readingOn_B2 (K : Int → zSt → Prop) (n : Nat) : zSt → Int → Int → Int → Prop :=
  Nat.rec (motive := fun _ => zSt → Int → Int → Int → Prop) (fun _ _ _ _ => False) (fun _ ih σ x1 x2 x3 => fX12_readings (fun r1 σ1 => zrg x3 ∧ zrg r1 ∧ ((r1 ≤ x3 → K (-1) σ1) ∧ (¬ r1 ≤ x3 → fX12_readDay (fun r4 σ4 => zrg r4 ∧ zrg x2 ∧ ((r4 = x2 → K x3 σ4) ∧ (¬ r4 = x2 → ih σ4 x1 x2 (x3 + 1)))) σ1 x1 x3))) σ x1) n
theorem uX12_readingOn_B2 (K : Int → zSt → Prop) (n0 : Nat) (σ : zSt) (x1 : Int) (x2 : Int) (x3 : Int) : fX12_readingOn_B2 K (n0 + 1) σ x1 x2 x3 = (fX12_readings (fun r1 σ1 => zrg x3 ∧ zrg r1 ∧ ((r1 ≤ x3 → K (-1) σ1) ∧ (¬ r1 ≤ x3 → fX12_readDay (fun r4 σ4 => zrg r4 ∧ zrg x2 ∧ ((r4 = x2 → K x3 σ4) ∧ (¬ r4 = x2 → (fX12_readingOn_B2 K n0) σ4 x1 x2 (x3 + 1)))) σ1 x1 x3))) σ x1) := rfl
def fX12_readingOn (K : Int → zSt → Prop) (σ : zSt) (x1 : Int) (x2 : Int) : Prop :=
  (∃ n, fX12_readingOn_B2 K n σ x1 x2 0)
set_option maxHeartbeats 4000000 in
set_option maxRecDepth 100000 in
theorem wX12_readingOn_B2 {p : Program} {l : Launch} {e : Env} {s : State} {m : MethodId} {args : Array Value} {below : List Frame} {meth : Method} {c : Code} {D : va_G} {dA : Nat → ClassId} {ad : Nat → Nat} {sz : Nat}  {K : Int → zSt → Prop} (hC : zC p m c cX12_readingOn 4 s args (Cond.code yX12_readingOn cX12_readingOn 4 (some .int) :: UW) RX12 meth D vwCl (tyA dA) (zA ad NM sz) NM ad (celM ad dA)) (hE : zE zX0 (zA ad NM sz) s s.heap) (hr : meth.sig.returnType = (some .int)) (hinj : ∀ i j, i < NM → j < NM → ad i = ad j → i = j) : ∀ (n : Nat) (σ : zSt) (x1 : Int) (x2 : Int) (x3 : Int), fX12_readingOn_B2 K n σ x1 x2 x3 → zAt p l e ({ frames := 1, cells := 0, slots := 0, locals := 22 } : Room) s m args below meth c 0 0 (MQ below (va_Qi (zPi K) (zB D vwCl (tyA dA) NM ad (celM ad dA)) (zA ad NM sz)) args s 0 0 (zA ad NM sz)) 4 D vwCl (zA ad NM sz) NM ad (celM ad dA) 2 [(0, vR ad 0), (1, vI x1), (2, vI x2), (3, vI x3)] [] σ := by
  intro n
  induction n with
  | zero => intro σ x1 x2 x3  hf; exact False.elim hf
  | succ n ih =>
    intro σ x1 x2 x3  hf
    rw [uX12_readingOn_B2] at hf
    refine z_iload_n hC dX12_readingOn_2 3 rfl rfl ?_
    refine z_aload_n hC dX12_readingOn_3 0 rfl rfl ?_
    refine z_iload_n hC dX12_readingOn_4 1 rfl rfl ?_
    refine z_callVi hC hE (oM_12 (show kM 0 = 12 by decide)) [vI x1] (fun sz2 => mX12_readings l hinj sz2 hf) (cwV 1 hC.1.2.2.2.2 (uV (uT _) u2120 u2122 u92 u118 u2123) rfl rfl rfl (by decide +kernel) ⟨Nat.le_of_ble_eq_true rfl, Nat.le_of_ble_eq_true rfl⟩) rfl rfl (Nat.le_of_ble_eq_true rfl) ⟨Nat.le_of_ble_eq_true rfl, Nat.le_of_ble_eq_true rfl⟩ dX12_readingOn_5 (fun r1 σ1 hf => ?_)
    obtain ⟨g2, hf⟩ := hf
    obtain ⟨g3, hf⟩ := hf
    refine z_icmp_ge (tgt := 29) hC dX12_readingOn_8 (by decide) g2 g3 (fun hc => ?_) (fun hc => ?_)
    · replace hf := hf.1 hc
      refine z_iconst hC dX12_readingOn_29 ?_
      exact z_iret hC hr rfl dX12_readingOn_30 hf
    · replace hf := hf.2 hc
      refine z_aload_n hC dX12_readingOn_11 0 rfl rfl ?_
      refine z_iload_n hC dX12_readingOn_12 1 rfl rfl ?_
      refine z_iload_n hC dX12_readingOn_13 3 rfl rfl ?_
      refine z_callVi hC hE (oM_12 (show kM 0 = 12 by decide)) [vI x1, vI x3] (fun sz2 => mX12_readDay l hinj sz2 hf) (cwV 2 hC.1.2.2.2.2 (uV (uT _) u2132 u2134 u94 u118 u2135) rfl rfl rfl (by decide +kernel) ⟨Nat.le_of_ble_eq_true rfl, Nat.le_of_ble_eq_true rfl⟩) rfl rfl (Nat.le_of_ble_eq_true rfl) ⟨Nat.le_of_ble_eq_true rfl, Nat.le_of_ble_eq_true rfl⟩ dX12_readingOn_14 (fun r4 σ4 hf => ?_)
      refine z_iload_n hC dX12_readingOn_17 2 rfl rfl ?_
      obtain ⟨g5, hf⟩ := hf
      obtain ⟨g6, hf⟩ := hf
      refine z_icmp_ne (tgt := 23) hC dX12_readingOn_18 (by decide) g5 g6 (fun hc => ?_) (fun hc => ?_)
      · replace hf := hf.2 hc
        refine z_iinc hC ([(3, vI (x3 + 1)), (0, vR ad 0), (1, vI x1), (2, vI x2)]) dX12_readingOn_23 3 rfl (by decide) rfl ?_
        refine z_goto (tgt := 2) hC dX12_readingOn_26 (by decide) ?_
        refine z_sub (lv' := [(0, vR ad 0), (1, vI x1), (2, vI x2), (3, vI (x3 + 1))]) [1, 2, 3, 0] rfl ?_
        exact ih _ _ _ _ hf
      · replace hf := hf.1 hc
        refine z_iload_n hC dX12_readingOn_21 3 rfl rfl ?_
        exact z_iret hC hr rfl dX12_readingOn_22 hf
set_option maxHeartbeats 4000000 in
set_option maxRecDepth 100000 in
theorem mX12_readingOn {D : va_G} {dA : Nat → ClassId} {ad : Nat → Nat}  (l : Launch) (hinj : ∀ i j, i < NM → j < NM → ad i = ad j → i = j) (sz : Nat) {K : Int → zSt → Prop} {σ : zSt} {x1 : Int} {x2 : Int} (hf : fX12_readingOn K σ x1 x2) : Met l yX12_readingOn (Cond.code yX12_readingOn cX12_readingOn 4 (some .int) :: UW) ({ frames := 1, cells := 0, slots := 0, locals := 22 } : Room) (va_Pc [vR ad 0, vI x1, vI x2] (zPre D vwCl (tyA dA) zX0 NM ad (celM ad dA) sz σ)) (va_Qi (zPi K) (zB D vwCl (tyA dA) NM ad (celM ad dA)) (zA ad NM sz)) 0 0 (zA ad NM sz) := by
  refine z_enter (cc := cX12_readingOn) (maxL := 4) (ret := (some .int)) (vs := [vR ad 0, vI x1, vI x2]) (plainFor_of_name (by decide)) rfl hinj (Nat.le_of_ble_eq_true rfl) ?_
  intro p e s m args below meth c hC hE hsz hr hnm
  show zAt p l e ({ frames := 1, cells := 0, slots := 0, locals := 22 } : Room) s m args below meth c 0 0 (MQ below (va_Qi (zPi K) (zB D vwCl (tyA dA) NM ad (celM ad dA)) (zA ad NM sz)) args s 0 0 (zA ad NM sz)) 4 D vwCl (zA ad NM sz) NM ad (celM ad dA) 0 [(0, vR ad 0), (1, vI x1), (2, vI x2)] [] σ
  refine z_iconst hC dX12_readingOn_0 ?_
  refine z_istore_n hC ([(3, vI 0), (0, vR ad 0), (1, vI x1), (2, vI x2)]) dX12_readingOn_1 rfl (by decide) rfl ?_
  refine z_sub (lv' := [(0, vR ad 0), (1, vI x1), (2, vI x2), (3, vI 0)]) [1, 2, 3, 0] rfl ?_
  obtain ⟨n, hf⟩ := hf
  exact wX12_readingOn_B2 hC hE hr hinj n _ _ _ _ hf

-- ===== X12_addReading
def fX12_addReading_B145 (K : Int → zSt → Prop) (σ : zSt) (x1 : Int) (x2 : Int) (x3 : Int) (x4 : Int) : Prop :=
  (0 ≤ (35 + (8 * x1)) + x4 ∧ (35 + (8 * x1)) + x4 < 811) ∧ ∀ σ25, σ25 = zu σ 1 ((35 + (8 * x1)) + x4) x2 → (0 ≤ (59 + (8 * x1)) + x4 ∧ (59 + (8 * x1)) + x4 < 811) ∧ ∀ σ27, σ27 = zu σ25 1 ((59 + (8 * x1)) + x4) x3 → (0 ≤ 32 + x1 ∧ 32 + x1 < 811) ∧ ∀ σ29, σ29 = zu σ27 1 (32 + x1) ((σ27 1 (32 + x1)) + 1) → fX12_readings (fun r30 σ30 => K r30 σ30) σ29 x1
noncomputable def fX12_addReading_B73 (K : Int → zSt → Prop) (n : Nat) : zSt → Int → Int → Int → Int → Prop :=
  Nat.rec (motive := fun _ => zSt → Int → Int → Int → Int → Prop) (fun _ _ _ _ _ => False) (fun _ ih σ x1 x2 x3 x4 => zrg x4 ∧ ((x4 ≤ 0 → fX12_addReading_B145 K σ x1 x2 x3 x4) ∧ (¬ x4 ≤ 0 → fX12_readDay (fun r15 σ15 => zrg r15 ∧ zrg x2 ∧ ((r15 ≤ x2 → fX12_addReading_B145 K σ15 x1 x2 x3 x4) ∧ (¬ r15 ≤ x2 → fX12_readDay (fun r18 σ18 => (0 ≤ (35 + (8 * x1)) + x4 ∧ (35 + (8 * x1)) + x4 < 811) ∧ ∀ σ20, σ20 = zu σ18 1 ((35 + (8 * x1)) + x4) r18 → fX12_readLength (fun r21 σ21 => (0 ≤ (59 + (8 * x1)) + x4 ∧ (59 + (8 * x1)) + x4 < 811) ∧ ∀ σ23, σ23 = zu σ21 1 ((59 + (8 * x1)) + x4) r21 → ih σ23 x1 x2 x3 (x4 + (-1))) σ20 x1 (x4 - 1)) σ15 x1 (x4 - 1)))) σ x1 (x4 - 1)))) n
theorem uX12_addReading_B73 (K : Int → zSt → Prop) (n0 : Nat) (σ : zSt) (x1 : Int) (x2 : Int) (x3 : Int) (x4 : Int) : fX12_addReading_B73 K (n0 + 1) σ x1 x2 x3 x4 = (zrg x4 ∧ ((x4 ≤ 0 → fX12_addReading_B145 K σ x1 x2 x3 x4) ∧ (¬ x4 ≤ 0 → fX12_readDay (fun r15 σ15 => zrg r15 ∧ zrg x2 ∧ ((r15 ≤ x2 → fX12_addReading_B145 K σ15 x1 x2 x3 x4) ∧ (¬ r15 ≤ x2 → fX12_readDay (fun r18 σ18 => (0 ≤ (35 + (8 * x1)) + x4 ∧ (35 + (8 * x1)) + x4 < 811) ∧ ∀ σ20, σ20 = zu σ18 1 ((35 + (8 * x1)) + x4) r18 → fX12_readLength (fun r21 σ21 => (0 ≤ (59 + (8 * x1)) + x4 ∧ (59 + (8 * x1)) + x4 < 811) ∧ ∀ σ23, σ23 = zu σ21 1 ((59 + (8 * x1)) + x4) r21 → (fX12_addReading_B73 K n0) σ23 x1 x2 x3 (x4 + (-1))) σ20 x1 (x4 - 1)) σ15 x1 (x4 - 1)))) σ x1 (x4 - 1)))) := rfl
def fX12_addReading (K : Int → zSt → Prop) (σ : zSt) (x1 : Int) (x2 : Int) (x3 : Int) : Prop :=
  ∀ σ1, σ1 = zu σ 0 4 0 → fX12_isStake (fun r2 σ2 => zrg r2 ∧ ((r2 = 0 → K (-1) σ2) ∧ (¬ r2 = 0 → fX12_inRange (fun r4 σ4 => zrg r4 ∧ ((r4 = 0 → K (-2) σ4) ∧ (¬ r4 = 0 → fX12_inRange (fun r6 σ6 => zrg r6 ∧ ((r6 = 0 → K (-2) σ6) ∧ (¬ r6 = 0 → fX12_readingOn (fun r8 σ8 => zrg r8 ∧ ((r8 < 0 → fX12_readings (fun r10 σ10 => zrg r10 ∧ ((r10 = 8 → K (-3) σ10) ∧ (¬ r10 = 8 → fX12_remember (fun σ12 => fX12_readings (fun r13 σ13 => (∃ n, fX12_addReading_B73 K n σ13 x1 x2 x3 r13)) σ12 x1) σ10 ))) σ8 x1) ∧ (¬ r8 < 0 → K (-2) σ8))) σ6 x1 x2))) σ4 x3 0 9999))) σ2 x2 0 9999))) σ1 x1
set_option maxHeartbeats 4000000 in
set_option maxRecDepth 100000 in
theorem wX12_addReading_B145 {p : Program} {l : Launch} {e : Env} {s : State} {m : MethodId} {args : Array Value} {below : List Frame} {meth : Method} {c : Code} {D : va_G} {dA : Nat → ClassId} {ad : Nat → Nat} {sz : Nat}  {K : Int → zSt → Prop} (hC : zC p m c cX12_addReading 5 s args (Cond.code yX12_addReading cX12_addReading 5 (some .int) :: UW) RX12 meth D vwCl (tyA dA) (zA ad NM sz) NM ad (celM ad dA)) (hE : zE zX0 (zA ad NM sz) s s.heap) (hr : meth.sig.returnType = (some .int)) (hinj : ∀ i j, i < NM → j < NM → ad i = ad j → i = j) {σ : zSt} {x1 : Int} {x2 : Int} {x3 : Int} {x4 : Int} (hf : fX12_addReading_B145 K σ x1 x2 x3 x4) : zAt p l e ({ frames := 2, cells := 0, slots := 0, locals := 45 } : Room) s m args below meth c 0 0 (MQ below (va_Qi (zPi K) (zB D vwCl (tyA dA) NM ad (celM ad dA)) (zA ad NM sz)) args s 0 0 (zA ad NM sz)) 5 D vwCl (zA ad NM sz) NM ad (celM ad dA) 145 [(0, vR ad 0), (1, vI x1), (2, vI x2), (3, vI x3), (4, vI x4)] [] σ := by
  refine z_aload_n hC dX12_addReading_145 0 rfl rfl ?_
  refine z_get hC (fun w h => uT _ w (uL12 w h)) (oM_12 (show kM 0 = 12 by decide)) 0 (by decide) (uT _ _ u1545) rfl rfl dX12_addReading_146 ?_
  refine z_bipush hC dX12_addReading_149 (by decide) ?_
  refine z_bipush hC dX12_addReading_151 (by decide) ?_
  refine z_iload_n hC dX12_addReading_153 1 rfl rfl ?_
  refine z_imul hC dX12_addReading_154 ?_
  refine z_iadd hC dX12_addReading_155 ?_
  refine z_iload hC dX12_addReading_156 4 rfl ?_
  refine z_iadd hC dX12_addReading_158 ?_
  refine z_iload_n hC dX12_addReading_159 2 rfl rfl ?_
  obtain ⟨g24, hf⟩ := hf
  refine z_iastore hC (aM_30 (show kM 1 = 30 by decide)) (loM' (show kM 1 = 30 by decide) (by decide)) g24 dX12_addReading_160 ?_
  obtain ⟨σ25, eσ25⟩ : ∃ z : zSt, z = zu σ 1 ((35 + (8 * x1)) + x4) x2 := ⟨_, rfl⟩
  rw [← eσ25]
  replace hf := hf σ25 eσ25
  refine z_aload_n hC dX12_addReading_161 0 rfl rfl ?_
  refine z_get hC (fun w h => uT _ w (uL12 w h)) (oM_12 (show kM 0 = 12 by decide)) 0 (by decide) (uT _ _ u1545) rfl rfl dX12_addReading_162 ?_
  refine z_bipush hC dX12_addReading_165 (by decide) ?_
  refine z_bipush hC dX12_addReading_167 (by decide) ?_
  refine z_iload_n hC dX12_addReading_169 1 rfl rfl ?_
  refine z_imul hC dX12_addReading_170 ?_
  refine z_iadd hC dX12_addReading_171 ?_
  refine z_iload hC dX12_addReading_172 4 rfl ?_
  refine z_iadd hC dX12_addReading_174 ?_
  refine z_iload_n hC dX12_addReading_175 3 rfl rfl ?_
  obtain ⟨g26, hf⟩ := hf
  refine z_iastore hC (aM_30 (show kM 1 = 30 by decide)) (loM' (show kM 1 = 30 by decide) (by decide)) g26 dX12_addReading_176 ?_
  obtain ⟨σ27, eσ27⟩ : ∃ z : zSt, z = zu σ25 1 ((59 + (8 * x1)) + x4) x3 := ⟨_, rfl⟩
  rw [← eσ27]
  replace hf := hf σ27 eσ27
  refine z_aload_n hC dX12_addReading_177 0 rfl rfl ?_
  refine z_get hC (fun w h => uT _ w (uL12 w h)) (oM_12 (show kM 0 = 12 by decide)) 0 (by decide) (uT _ _ u1545) rfl rfl dX12_addReading_178 ?_
  refine z_bipush hC dX12_addReading_181 (by decide) ?_
  refine z_iload_n hC dX12_addReading_183 1 rfl rfl ?_
  refine z_iadd hC dX12_addReading_184 ?_
  refine z_dup2 hC dX12_addReading_185 rfl rfl ?_
  obtain ⟨g28, hf⟩ := hf
  refine z_iaload hC (aM_30 (show kM 1 = 30 by decide)) g28 dX12_addReading_186 ?_
  refine z_iconst hC dX12_addReading_187 ?_
  refine z_iadd hC dX12_addReading_188 ?_
  refine z_iastore hC (aM_30 (show kM 1 = 30 by decide)) (loM' (show kM 1 = 30 by decide) (by decide)) g28 dX12_addReading_189 ?_
  obtain ⟨σ29, eσ29⟩ : ∃ z : zSt, z = zu σ27 1 (32 + x1) ((σ27 1 (32 + x1)) + 1) := ⟨_, rfl⟩
  rw [← eσ29]
  replace hf := hf σ29 eσ29
  refine z_aload_n hC dX12_addReading_190 0 rfl rfl ?_
  refine z_iload_n hC dX12_addReading_191 1 rfl rfl ?_
  refine z_callVi hC hE (oM_12 (show kM 0 = 12 by decide)) [vI x1] (fun sz2 => mX12_readings l hinj sz2 hf) (cwV 1 hC.1.2.2.2.2 (uV (uT _) u2120 u2122 u92 u118 u2123) rfl rfl rfl (by decide +kernel) ⟨Nat.le_of_ble_eq_true rfl, Nat.le_of_ble_eq_true rfl⟩) rfl rfl (Nat.le_of_ble_eq_true rfl) ⟨Nat.le_of_ble_eq_true rfl, Nat.le_of_ble_eq_true rfl⟩ dX12_addReading_192 (fun r30 σ30 hf => ?_)
  exact z_iret hC hr rfl dX12_addReading_195 hf
set_option maxHeartbeats 4000000 in
set_option maxRecDepth 100000 in
theorem wX12_addReading_B73 {p : Program} {l : Launch} {e : Env} {s : State} {m : MethodId} {args : Array Value} {below : List Frame} {meth : Method} {c : Code} {D : va_G} {dA : Nat → ClassId} {ad : Nat → Nat} {sz : Nat}  {K : Int → zSt → Prop} (hC : zC p m c cX12_addReading 5 s args (Cond.code yX12_addReading cX12_addReading 5 (some .int) :: UW) RX12 meth D vwCl (tyA dA) (zA ad NM sz) NM ad (celM ad dA)) (hE : zE zX0 (zA ad NM sz) s s.heap) (hr : meth.sig.returnType = (some .int)) (hinj : ∀ i j, i < NM → j < NM → ad i = ad j → i = j) : ∀ (n : Nat) (σ : zSt) (x1 : Int) (x2 : Int) (x3 : Int) (x4 : Int), fX12_addReading_B73 K n σ x1 x2 x3 x4 → zAt p l e ({ frames := 2, cells := 0, slots := 0, locals := 45 } : Room) s m args below meth c 0 0 (MQ below (va_Qi (zPi K) (zB D vwCl (tyA dA) NM ad (celM ad dA)) (zA ad NM sz)) args s 0 0 (zA ad NM sz)) 5 D vwCl (zA ad NM sz) NM ad (celM ad dA) 73 [(0, vR ad 0), (1, vI x1), (2, vI x2), (3, vI x3), (4, vI x4)] [] σ := by
  intro n
  induction n with
  | zero => intro σ x1 x2 x3 x4  hf; exact False.elim hf
  | succ n ih =>
    intro σ x1 x2 x3 x4  hf
    rw [uX12_addReading_B73] at hf
    refine z_iload hC dX12_addReading_73 4 rfl ?_
    obtain ⟨g14, hf⟩ := hf
    refine z_if_le (tgt := 145) hC dX12_addReading_75 (by decide) g14 (fun hc => ?_) (fun hc => ?_)
    · replace hf := hf.1 hc
      exact wX12_addReading_B145 hC hE hr hinj  hf
    · replace hf := hf.2 hc
      refine z_aload_n hC dX12_addReading_78 0 rfl rfl ?_
      refine z_iload_n hC dX12_addReading_79 1 rfl rfl ?_
      refine z_iload hC dX12_addReading_80 4 rfl ?_
      refine z_iconst hC dX12_addReading_82 ?_
      refine z_isub hC dX12_addReading_83 ?_
      refine z_callVi hC hE (oM_12 (show kM 0 = 12 by decide)) [vI x1, vI (x4 - 1)] (fun sz2 => mX12_readDay l hinj sz2 hf) (cwV 2 hC.1.2.2.2.2 (uV (uT _) u2132 u2134 u94 u118 u2135) rfl rfl rfl (by decide +kernel) ⟨Nat.le_of_ble_eq_true rfl, Nat.le_of_ble_eq_true rfl⟩) rfl rfl (Nat.le_of_ble_eq_true rfl) ⟨Nat.le_of_ble_eq_true rfl, Nat.le_of_ble_eq_true rfl⟩ dX12_addReading_84 (fun r15 σ15 hf => ?_)
      refine z_iload_n hC dX12_addReading_87 2 rfl rfl ?_
      obtain ⟨g16, hf⟩ := hf
      obtain ⟨g17, hf⟩ := hf
      refine z_icmp_le (tgt := 145) hC dX12_addReading_88 (by decide) g16 g17 (fun hc => ?_) (fun hc => ?_)
      · replace hf := hf.1 hc
        exact wX12_addReading_B145 hC hE hr hinj  hf
      · replace hf := hf.2 hc
        refine z_aload_n hC dX12_addReading_91 0 rfl rfl ?_
        refine z_get hC (fun w h => uT _ w (uL12 w h)) (oM_12 (show kM 0 = 12 by decide)) 0 (by decide) (uT _ _ u1545) rfl rfl dX12_addReading_92 ?_
        refine z_bipush hC dX12_addReading_95 (by decide) ?_
        refine z_bipush hC dX12_addReading_97 (by decide) ?_
        refine z_iload_n hC dX12_addReading_99 1 rfl rfl ?_
        refine z_imul hC dX12_addReading_100 ?_
        refine z_iadd hC dX12_addReading_101 ?_
        refine z_iload hC dX12_addReading_102 4 rfl ?_
        refine z_iadd hC dX12_addReading_104 ?_
        refine z_aload_n hC dX12_addReading_105 0 rfl rfl ?_
        refine z_iload_n hC dX12_addReading_106 1 rfl rfl ?_
        refine z_iload hC dX12_addReading_107 4 rfl ?_
        refine z_iconst hC dX12_addReading_109 ?_
        refine z_isub hC dX12_addReading_110 ?_
        refine z_callVi hC hE (oM_12 (show kM 0 = 12 by decide)) [vI x1, vI (x4 - 1)] (fun sz2 => mX12_readDay l hinj sz2 hf) (cwV 2 hC.1.2.2.2.2 (uV (uT _) u2132 u2134 u94 u118 u2135) rfl rfl rfl (by decide +kernel) ⟨Nat.le_of_ble_eq_true rfl, Nat.le_of_ble_eq_true rfl⟩) rfl rfl (Nat.le_of_ble_eq_true rfl) ⟨Nat.le_of_ble_eq_true rfl, Nat.le_of_ble_eq_true rfl⟩ dX12_addReading_111 (fun r18 σ18 hf => ?_)
        obtain ⟨g19, hf⟩ := hf
        refine z_iastore hC (aM_30 (show kM 1 = 30 by decide)) (loM' (show kM 1 = 30 by decide) (by decide)) g19 dX12_addReading_114 ?_
        obtain ⟨σ20, eσ20⟩ : ∃ z : zSt, z = zu σ18 1 ((35 + (8 * x1)) + x4) r18 := ⟨_, rfl⟩
        rw [← eσ20]
        replace hf := hf σ20 eσ20
        refine z_aload_n hC dX12_addReading_115 0 rfl rfl ?_
        refine z_get hC (fun w h => uT _ w (uL12 w h)) (oM_12 (show kM 0 = 12 by decide)) 0 (by decide) (uT _ _ u1545) rfl rfl dX12_addReading_116 ?_
        refine z_bipush hC dX12_addReading_119 (by decide) ?_
        refine z_bipush hC dX12_addReading_121 (by decide) ?_
        refine z_iload_n hC dX12_addReading_123 1 rfl rfl ?_
        refine z_imul hC dX12_addReading_124 ?_
        refine z_iadd hC dX12_addReading_125 ?_
        refine z_iload hC dX12_addReading_126 4 rfl ?_
        refine z_iadd hC dX12_addReading_128 ?_
        refine z_aload_n hC dX12_addReading_129 0 rfl rfl ?_
        refine z_iload_n hC dX12_addReading_130 1 rfl rfl ?_
        refine z_iload hC dX12_addReading_131 4 rfl ?_
        refine z_iconst hC dX12_addReading_133 ?_
        refine z_isub hC dX12_addReading_134 ?_
        refine z_callVi hC hE (oM_12 (show kM 0 = 12 by decide)) [vI x1, vI (x4 - 1)] (fun sz2 => mX12_readLength l hinj sz2 hf) (cwV 2 hC.1.2.2.2.2 (uV (uT _) u2140 u2142 u95 u118 u2143) rfl rfl rfl (by decide +kernel) ⟨Nat.le_of_ble_eq_true rfl, Nat.le_of_ble_eq_true rfl⟩) rfl rfl (Nat.le_of_ble_eq_true rfl) ⟨Nat.le_of_ble_eq_true rfl, Nat.le_of_ble_eq_true rfl⟩ dX12_addReading_135 (fun r21 σ21 hf => ?_)
        obtain ⟨g22, hf⟩ := hf
        refine z_iastore hC (aM_30 (show kM 1 = 30 by decide)) (loM' (show kM 1 = 30 by decide) (by decide)) g22 dX12_addReading_138 ?_
        obtain ⟨σ23, eσ23⟩ : ∃ z : zSt, z = zu σ21 1 ((59 + (8 * x1)) + x4) r21 := ⟨_, rfl⟩
        rw [← eσ23]
        replace hf := hf σ23 eσ23
        refine z_iinc hC ([(4, vI (x4 + (-1))), (0, vR ad 0), (1, vI x1), (2, vI x2), (3, vI x3)]) dX12_addReading_139 4 rfl (by decide) rfl ?_
        refine z_goto (tgt := 73) hC dX12_addReading_142 (by decide) ?_
        refine z_sub (lv' := [(0, vR ad 0), (1, vI x1), (2, vI x2), (3, vI x3), (4, vI (x4 + (-1)))]) [1, 2, 3, 4, 0] rfl ?_
        exact ih _ _ _ _ _ hf
set_option maxHeartbeats 4000000 in
set_option maxRecDepth 100000 in
theorem mX12_addReading {D : va_G} {dA : Nat → ClassId} {ad : Nat → Nat}  (l : Launch) (hinj : ∀ i j, i < NM → j < NM → ad i = ad j → i = j) (sz : Nat) {K : Int → zSt → Prop} {σ : zSt} {x1 : Int} {x2 : Int} {x3 : Int} (hf : fX12_addReading K σ x1 x2 x3) : Met l yX12_addReading (Cond.code yX12_addReading cX12_addReading 5 (some .int) :: UW) ({ frames := 2, cells := 0, slots := 0, locals := 45 } : Room) (va_Pc [vR ad 0, vI x1, vI x2, vI x3] (zPre D vwCl (tyA dA) zX0 NM ad (celM ad dA) sz σ)) (va_Qi (zPi K) (zB D vwCl (tyA dA) NM ad (celM ad dA)) (zA ad NM sz)) 0 0 (zA ad NM sz) := by
  refine z_enter (cc := cX12_addReading) (maxL := 5) (ret := (some .int)) (vs := [vR ad 0, vI x1, vI x2, vI x3]) (plainFor_of_name (by decide)) rfl hinj (Nat.le_of_ble_eq_true rfl) ?_
  intro p e s m args below meth c hC hE hsz hr hnm
  show zAt p l e ({ frames := 2, cells := 0, slots := 0, locals := 45 } : Room) s m args below meth c 0 0 (MQ below (va_Qi (zPi K) (zB D vwCl (tyA dA) NM ad (celM ad dA)) (zA ad NM sz)) args s 0 0 (zA ad NM sz)) 5 D vwCl (zA ad NM sz) NM ad (celM ad dA) 0 [(0, vR ad 0), (1, vI x1), (2, vI x2), (3, vI x3)] [] σ
  refine z_aload_n hC dX12_addReading_0 0 rfl rfl ?_
  refine z_iconst hC dX12_addReading_1 ?_
  refine z_put hC (ty := .int) tyX12 tyX12_ok nmX12 (fun w h => uT _ w (uL12 w h)) (oM_12 (show kM 0 = 12 by decide)) (loM' (show kM 0 = 12 by decide) (by decide)) 4 (by decide) (uT _ _ u1549) rfl rfl (4) (0) (by simp [zu]) (by decide +kernel) rfl rfl (Nat.le_of_ble_eq_true rfl) dX12_addReading_2 ?_
  obtain ⟨σ1, eσ1⟩ : ∃ z : zSt, z = zu σ 0 4 0 := ⟨_, rfl⟩
  rw [← eσ1]
  replace hf := hf σ1 eσ1
  refine z_aload_n hC dX12_addReading_5 0 rfl rfl ?_
  refine z_iload_n hC dX12_addReading_6 1 rfl rfl ?_
  refine z_callVi hC hE (oM_12 (show kM 0 = 12 by decide)) [vI x1] (fun sz2 => mX12_isStake l hinj sz2 hf) (cwV 1 hC.1.2.2.2.2 (uV (uT _) u2116 u2118 u91 u118 u2119) rfl rfl rfl (by decide +kernel) ⟨Nat.le_of_ble_eq_true rfl, Nat.le_of_ble_eq_true rfl⟩) rfl rfl (Nat.le_of_ble_eq_true rfl) ⟨Nat.le_of_ble_eq_true rfl, Nat.le_of_ble_eq_true rfl⟩ dX12_addReading_7 (fun r2 σ2 hf => ?_)
  obtain ⟨g3, hf⟩ := hf
  refine z_if_ne (tgt := 15) hC dX12_addReading_10 (by decide) g3 (fun hc => ?_) (fun hc => ?_)
  · replace hf := hf.2 hc
    refine z_iload_n hC dX12_addReading_15 2 rfl rfl ?_
    refine z_iconst hC dX12_addReading_16 ?_
    refine z_sipush hC dX12_addReading_17 (by decide) ?_
    refine z_callSi hC hE [vI x2, vI 0, vI 9999] (fun sz2 => mX12_inRange l hinj sz2 hf) (va_cwS 3 hC.1.2.2.2.2 (uS (uT _) u1700 u1701 u118 u1702) rfl rfl rfl (by decide +kernel) ⟨Nat.le_of_ble_eq_true rfl, Nat.le_of_ble_eq_true rfl⟩) rfl rfl (Nat.le_of_ble_eq_true rfl) ⟨Nat.le_of_ble_eq_true rfl, Nat.le_of_ble_eq_true rfl⟩ dX12_addReading_20 (fun r4 σ4 hf => ?_)
    obtain ⟨g5, hf⟩ := hf
    refine z_if_eq (tgt := 46) hC dX12_addReading_23 (by decide) g5 (fun hc => ?_) (fun hc => ?_)
    · replace hf := hf.1 hc
      refine z_bipush hC dX12_addReading_46 (by decide) ?_
      exact z_iret hC hr rfl dX12_addReading_48 hf
    · replace hf := hf.2 hc
      refine z_iload_n hC dX12_addReading_26 3 rfl rfl ?_
      refine z_iconst hC dX12_addReading_27 ?_
      refine z_sipush hC dX12_addReading_28 (by decide) ?_
      refine z_callSi hC hE [vI x3, vI 0, vI 9999] (fun sz2 => mX12_inRange l hinj sz2 hf) (va_cwS 3 hC.1.2.2.2.2 (uS (uT _) u1700 u1701 u118 u1702) rfl rfl rfl (by decide +kernel) ⟨Nat.le_of_ble_eq_true rfl, Nat.le_of_ble_eq_true rfl⟩) rfl rfl (Nat.le_of_ble_eq_true rfl) ⟨Nat.le_of_ble_eq_true rfl, Nat.le_of_ble_eq_true rfl⟩ dX12_addReading_31 (fun r6 σ6 hf => ?_)
      obtain ⟨g7, hf⟩ := hf
      refine z_if_eq (tgt := 46) hC dX12_addReading_34 (by decide) g7 (fun hc => ?_) (fun hc => ?_)
      · replace hf := hf.1 hc
        refine z_bipush hC dX12_addReading_46 (by decide) ?_
        exact z_iret hC hr rfl dX12_addReading_48 hf
      · replace hf := hf.2 hc
        refine z_aload_n hC dX12_addReading_37 0 rfl rfl ?_
        refine z_iload_n hC dX12_addReading_38 1 rfl rfl ?_
        refine z_iload_n hC dX12_addReading_39 2 rfl rfl ?_
        refine z_callVi hC hE (oM_12 (show kM 0 = 12 by decide)) [vI x1, vI x2] (fun sz2 => mX12_readingOn l hinj sz2 hf) (cwV 2 hC.1.2.2.2.2 (uV (uT _) u2148 u2150 u96 u118 u2151) rfl rfl rfl (by decide +kernel) ⟨Nat.le_of_ble_eq_true rfl, Nat.le_of_ble_eq_true rfl⟩) rfl rfl (Nat.le_of_ble_eq_true rfl) ⟨Nat.le_of_ble_eq_true rfl, Nat.le_of_ble_eq_true rfl⟩ dX12_addReading_40 (fun r8 σ8 hf => ?_)
        obtain ⟨g9, hf⟩ := hf
        refine z_if_lt (tgt := 49) hC dX12_addReading_43 (by decide) g9 (fun hc => ?_) (fun hc => ?_)
        · replace hf := hf.1 hc
          refine z_aload_n hC dX12_addReading_49 0 rfl rfl ?_
          refine z_iload_n hC dX12_addReading_50 1 rfl rfl ?_
          refine z_callVi hC hE (oM_12 (show kM 0 = 12 by decide)) [vI x1] (fun sz2 => mX12_readings l hinj sz2 hf) (cwV 1 hC.1.2.2.2.2 (uV (uT _) u2120 u2122 u92 u118 u2123) rfl rfl rfl (by decide +kernel) ⟨Nat.le_of_ble_eq_true rfl, Nat.le_of_ble_eq_true rfl⟩) rfl rfl (Nat.le_of_ble_eq_true rfl) ⟨Nat.le_of_ble_eq_true rfl, Nat.le_of_ble_eq_true rfl⟩ dX12_addReading_51 (fun r10 σ10 hf => ?_)
          refine z_bipush hC dX12_addReading_54 (by decide) ?_
          obtain ⟨g11, hf⟩ := hf
          refine z_icmp_ne (tgt := 62) hC dX12_addReading_56 (by decide) g11 (zlit rfl rfl) (fun hc => ?_) (fun hc => ?_)
          · replace hf := hf.2 hc
            refine z_aload_n hC dX12_addReading_62 0 rfl rfl ?_
            refine z_callVv hC hE (oM_12 (show kM 0 = 12 by decide)) [] (fun sz2 => mX12_remember l hinj sz2 hf) (cwV 0 hC.1.2.2.2.2 (uV (uT _) u1821 u1823 u56 u118 u1824) rfl rfl rfl (by decide +kernel) ⟨Nat.le_of_ble_eq_true rfl, Nat.le_of_ble_eq_true rfl⟩) rfl rfl (Nat.le_of_ble_eq_true rfl) ⟨Nat.le_of_ble_eq_true rfl, Nat.le_of_ble_eq_true rfl⟩ dX12_addReading_63 (fun σ12 hf => ?_)
            refine z_aload_n hC dX12_addReading_66 0 rfl rfl ?_
            refine z_iload_n hC dX12_addReading_67 1 rfl rfl ?_
            refine z_callVi hC hE (oM_12 (show kM 0 = 12 by decide)) [vI x1] (fun sz2 => mX12_readings l hinj sz2 hf) (cwV 1 hC.1.2.2.2.2 (uV (uT _) u2120 u2122 u92 u118 u2123) rfl rfl rfl (by decide +kernel) ⟨Nat.le_of_ble_eq_true rfl, Nat.le_of_ble_eq_true rfl⟩) rfl rfl (Nat.le_of_ble_eq_true rfl) ⟨Nat.le_of_ble_eq_true rfl, Nat.le_of_ble_eq_true rfl⟩ dX12_addReading_68 (fun r13 σ13 hf => ?_)
            refine z_istore hC ([(4, vI r13), (0, vR ad 0), (1, vI x1), (2, vI x2), (3, vI x3)]) dX12_addReading_71 (by decide) rfl ?_
            refine z_sub (lv' := [(0, vR ad 0), (1, vI x1), (2, vI x2), (3, vI x3), (4, vI r13)]) [1, 2, 3, 4, 0] rfl ?_
            obtain ⟨n, hf⟩ := hf
            exact wX12_addReading_B73 hC hE hr hinj n _ _ _ _ _ hf
          · replace hf := hf.1 hc
            refine z_bipush hC dX12_addReading_59 (by decide) ?_
            exact z_iret hC hr rfl dX12_addReading_61 hf
        · replace hf := hf.2 hc
          refine z_bipush hC dX12_addReading_46 (by decide) ?_
          exact z_iret hC hr rfl dX12_addReading_48 hf
  · replace hf := hf.1 hc
    refine z_iconst hC dX12_addReading_13 ?_
    exact z_iret hC hr rfl dX12_addReading_14 hf

-- ===== X12_removeReading
noncomputable def fX12_removeReading_B35 (K : Int → zSt → Prop) (n : Nat) : zSt → Int → Int → Prop :=
  Nat.rec (motive := fun _ => zSt → Int → Int → Prop) (fun _ _ _ => False) (fun _ ih σ x1 x3 => fX12_readings (fun r8 σ8 => zrg (x3 + 1) ∧ zrg r8 ∧ ((r8 ≤ x3 + 1 → (0 ≤ 32 + x1 ∧ 32 + x1 < 811) ∧ ∀ σ12, σ12 = zu σ8 1 (32 + x1) ((σ8 1 (32 + x1)) - 1) → fX12_readings (fun r13 σ13 => K r13 σ13) σ12 x1) ∧ (¬ r8 ≤ x3 + 1 → fX12_readDay (fun r14 σ14 => (0 ≤ (35 + (8 * x1)) + x3 ∧ (35 + (8 * x1)) + x3 < 811) ∧ ∀ σ16, σ16 = zu σ14 1 ((35 + (8 * x1)) + x3) r14 → fX12_readLength (fun r17 σ17 => (0 ≤ (59 + (8 * x1)) + x3 ∧ (59 + (8 * x1)) + x3 < 811) ∧ ∀ σ19, σ19 = zu σ17 1 ((59 + (8 * x1)) + x3) r17 → ih σ19 x1 (x3 + 1)) σ16 x1 (x3 + 1)) σ8 x1 (x3 + 1)))) σ x1) n
theorem uX12_removeReading_B35 (K : Int → zSt → Prop) (n0 : Nat) (σ : zSt) (x1 : Int) (x3 : Int) : fX12_removeReading_B35 K (n0 + 1) σ x1 x3 = (fX12_readings (fun r8 σ8 => zrg (x3 + 1) ∧ zrg r8 ∧ ((r8 ≤ x3 + 1 → (0 ≤ 32 + x1 ∧ 32 + x1 < 811) ∧ ∀ σ12, σ12 = zu σ8 1 (32 + x1) ((σ8 1 (32 + x1)) - 1) → fX12_readings (fun r13 σ13 => K r13 σ13) σ12 x1) ∧ (¬ r8 ≤ x3 + 1 → fX12_readDay (fun r14 σ14 => (0 ≤ (35 + (8 * x1)) + x3 ∧ (35 + (8 * x1)) + x3 < 811) ∧ ∀ σ16, σ16 = zu σ14 1 ((35 + (8 * x1)) + x3) r14 → fX12_readLength (fun r17 σ17 => (0 ≤ (59 + (8 * x1)) + x3 ∧ (59 + (8 * x1)) + x3 < 811) ∧ ∀ σ19, σ19 = zu σ17 1 ((59 + (8 * x1)) + x3) r17 → (fX12_removeReading_B35 K n0) σ19 x1 (x3 + 1)) σ16 x1 (x3 + 1)) σ8 x1 (x3 + 1)))) σ x1) := rfl
def fX12_removeReading (K : Int → zSt → Prop) (σ : zSt) (x1 : Int) (x2 : Int) : Prop :=
  ∀ σ1, σ1 = zu σ 0 4 0 → fX12_isStake (fun r2 σ2 => zrg r2 ∧ ((r2 = 0 → K (-1) σ2) ∧ (¬ r2 = 0 → fX12_readingOn (fun r4 σ4 => zrg r4 ∧ ((0 ≤ r4 → fX12_remember (fun σ6 => fX12_readingOn (fun r7 σ7 => (∃ n, fX12_removeReading_B35 K n σ7 x1 r7)) σ6 x1 x2) σ4 ) ∧ (¬ 0 ≤ r4 → K (-1) σ4))) σ2 x1 x2))) σ1 x1
set_option maxHeartbeats 4000000 in
set_option maxRecDepth 100000 in
theorem wX12_removeReading_B35 {p : Program} {l : Launch} {e : Env} {s : State} {m : MethodId} {args : Array Value} {below : List Frame} {meth : Method} {c : Code} {D : va_G} {dA : Nat → ClassId} {ad : Nat → Nat} {sz : Nat}  {K : Int → zSt → Prop} (hC : zC p m c cX12_removeReading 4 s args (Cond.code yX12_removeReading cX12_removeReading 4 (some .int) :: UW) RX12 meth D vwCl (tyA dA) (zA ad NM sz) NM ad (celM ad dA)) (hE : zE zX0 (zA ad NM sz) s s.heap) (hr : meth.sig.returnType = (some .int)) (hinj : ∀ i j, i < NM → j < NM → ad i = ad j → i = j) : ∀ (n : Nat) (σ : zSt) (x1 : Int) (x3 : Int), fX12_removeReading_B35 K n σ x1 x3 → zAt p l e ({ frames := 2, cells := 0, slots := 0, locals := 45 } : Room) s m args below meth c 0 0 (MQ below (va_Qi (zPi K) (zB D vwCl (tyA dA) NM ad (celM ad dA)) (zA ad NM sz)) args s 0 0 (zA ad NM sz)) 4 D vwCl (zA ad NM sz) NM ad (celM ad dA) 35 [(0, vR ad 0), (1, vI x1), (3, vI x3)] [] σ := by
  intro n
  induction n with
  | zero => intro σ x1 x3  hf; exact False.elim hf
  | succ n ih =>
    intro σ x1 x3  hf
    rw [uX12_removeReading_B35] at hf
    refine z_iload_n hC dX12_removeReading_35 2 rfl rfl ?_
    refine z_iconst hC dX12_removeReading_36 ?_
    refine z_iadd hC dX12_removeReading_37 ?_
    refine z_aload_n hC dX12_removeReading_38 0 rfl rfl ?_
    refine z_iload_n hC dX12_removeReading_39 1 rfl rfl ?_
    refine z_callVi hC hE (oM_12 (show kM 0 = 12 by decide)) [vI x1] (fun sz2 => mX12_readings l hinj sz2 hf) (cwV 1 hC.1.2.2.2.2 (uV (uT _) u2120 u2122 u92 u118 u2123) rfl rfl rfl (by decide +kernel) ⟨Nat.le_of_ble_eq_true rfl, Nat.le_of_ble_eq_true rfl⟩) rfl rfl (Nat.le_of_ble_eq_true rfl) ⟨Nat.le_of_ble_eq_true rfl, Nat.le_of_ble_eq_true rfl⟩ dX12_removeReading_40 (fun r8 σ8 hf => ?_)
    obtain ⟨g9, hf⟩ := hf
    obtain ⟨g10, hf⟩ := hf
    refine z_icmp_ge (tgt := 96) hC dX12_removeReading_43 (by decide) g9 g10 (fun hc => ?_) (fun hc => ?_)
    · replace hf := hf.1 hc
      refine z_aload_n hC dX12_removeReading_96 0 rfl rfl ?_
      refine z_get hC (fun w h => uT _ w (uL12 w h)) (oM_12 (show kM 0 = 12 by decide)) 0 (by decide) (uT _ _ u1545) rfl rfl dX12_removeReading_97 ?_
      refine z_bipush hC dX12_removeReading_100 (by decide) ?_
      refine z_iload_n hC dX12_removeReading_102 1 rfl rfl ?_
      refine z_iadd hC dX12_removeReading_103 ?_
      refine z_dup2 hC dX12_removeReading_104 rfl rfl ?_
      obtain ⟨g11, hf⟩ := hf
      refine z_iaload hC (aM_30 (show kM 1 = 30 by decide)) g11 dX12_removeReading_105 ?_
      refine z_iconst hC dX12_removeReading_106 ?_
      refine z_isub hC dX12_removeReading_107 ?_
      refine z_iastore hC (aM_30 (show kM 1 = 30 by decide)) (loM' (show kM 1 = 30 by decide) (by decide)) g11 dX12_removeReading_108 ?_
      obtain ⟨σ12, eσ12⟩ : ∃ z : zSt, z = zu σ8 1 (32 + x1) ((σ8 1 (32 + x1)) - 1) := ⟨_, rfl⟩
      rw [← eσ12]
      replace hf := hf σ12 eσ12
      refine z_aload_n hC dX12_removeReading_109 0 rfl rfl ?_
      refine z_iload_n hC dX12_removeReading_110 1 rfl rfl ?_
      refine z_callVi hC hE (oM_12 (show kM 0 = 12 by decide)) [vI x1] (fun sz2 => mX12_readings l hinj sz2 hf) (cwV 1 hC.1.2.2.2.2 (uV (uT _) u2120 u2122 u92 u118 u2123) rfl rfl rfl (by decide +kernel) ⟨Nat.le_of_ble_eq_true rfl, Nat.le_of_ble_eq_true rfl⟩) rfl rfl (Nat.le_of_ble_eq_true rfl) ⟨Nat.le_of_ble_eq_true rfl, Nat.le_of_ble_eq_true rfl⟩ dX12_removeReading_111 (fun r13 σ13 hf => ?_)
      exact z_iret hC hr rfl dX12_removeReading_114 hf
    · replace hf := hf.2 hc
      refine z_aload_n hC dX12_removeReading_46 0 rfl rfl ?_
      refine z_get hC (fun w h => uT _ w (uL12 w h)) (oM_12 (show kM 0 = 12 by decide)) 0 (by decide) (uT _ _ u1545) rfl rfl dX12_removeReading_47 ?_
      refine z_bipush hC dX12_removeReading_50 (by decide) ?_
      refine z_bipush hC dX12_removeReading_52 (by decide) ?_
      refine z_iload_n hC dX12_removeReading_54 1 rfl rfl ?_
      refine z_imul hC dX12_removeReading_55 ?_
      refine z_iadd hC dX12_removeReading_56 ?_
      refine z_iload_n hC dX12_removeReading_57 2 rfl rfl ?_
      refine z_iadd hC dX12_removeReading_58 ?_
      refine z_aload_n hC dX12_removeReading_59 0 rfl rfl ?_
      refine z_iload_n hC dX12_removeReading_60 1 rfl rfl ?_
      refine z_iload_n hC dX12_removeReading_61 2 rfl rfl ?_
      refine z_iconst hC dX12_removeReading_62 ?_
      refine z_iadd hC dX12_removeReading_63 ?_
      refine z_callVi hC hE (oM_12 (show kM 0 = 12 by decide)) [vI x1, vI (x3 + 1)] (fun sz2 => mX12_readDay l hinj sz2 hf) (cwV 2 hC.1.2.2.2.2 (uV (uT _) u2132 u2134 u94 u118 u2135) rfl rfl rfl (by decide +kernel) ⟨Nat.le_of_ble_eq_true rfl, Nat.le_of_ble_eq_true rfl⟩) rfl rfl (Nat.le_of_ble_eq_true rfl) ⟨Nat.le_of_ble_eq_true rfl, Nat.le_of_ble_eq_true rfl⟩ dX12_removeReading_64 (fun r14 σ14 hf => ?_)
      obtain ⟨g15, hf⟩ := hf
      refine z_iastore hC (aM_30 (show kM 1 = 30 by decide)) (loM' (show kM 1 = 30 by decide) (by decide)) g15 dX12_removeReading_67 ?_
      obtain ⟨σ16, eσ16⟩ : ∃ z : zSt, z = zu σ14 1 ((35 + (8 * x1)) + x3) r14 := ⟨_, rfl⟩
      rw [← eσ16]
      replace hf := hf σ16 eσ16
      refine z_aload_n hC dX12_removeReading_68 0 rfl rfl ?_
      refine z_get hC (fun w h => uT _ w (uL12 w h)) (oM_12 (show kM 0 = 12 by decide)) 0 (by decide) (uT _ _ u1545) rfl rfl dX12_removeReading_69 ?_
      refine z_bipush hC dX12_removeReading_72 (by decide) ?_
      refine z_bipush hC dX12_removeReading_74 (by decide) ?_
      refine z_iload_n hC dX12_removeReading_76 1 rfl rfl ?_
      refine z_imul hC dX12_removeReading_77 ?_
      refine z_iadd hC dX12_removeReading_78 ?_
      refine z_iload_n hC dX12_removeReading_79 2 rfl rfl ?_
      refine z_iadd hC dX12_removeReading_80 ?_
      refine z_aload_n hC dX12_removeReading_81 0 rfl rfl ?_
      refine z_iload_n hC dX12_removeReading_82 1 rfl rfl ?_
      refine z_iload_n hC dX12_removeReading_83 2 rfl rfl ?_
      refine z_iconst hC dX12_removeReading_84 ?_
      refine z_iadd hC dX12_removeReading_85 ?_
      refine z_callVi hC hE (oM_12 (show kM 0 = 12 by decide)) [vI x1, vI (x3 + 1)] (fun sz2 => mX12_readLength l hinj sz2 hf) (cwV 2 hC.1.2.2.2.2 (uV (uT _) u2140 u2142 u95 u118 u2143) rfl rfl rfl (by decide +kernel) ⟨Nat.le_of_ble_eq_true rfl, Nat.le_of_ble_eq_true rfl⟩) rfl rfl (Nat.le_of_ble_eq_true rfl) ⟨Nat.le_of_ble_eq_true rfl, Nat.le_of_ble_eq_true rfl⟩ dX12_removeReading_86 (fun r17 σ17 hf => ?_)
      obtain ⟨g18, hf⟩ := hf
      refine z_iastore hC (aM_30 (show kM 1 = 30 by decide)) (loM' (show kM 1 = 30 by decide) (by decide)) g18 dX12_removeReading_89 ?_
      obtain ⟨σ19, eσ19⟩ : ∃ z : zSt, z = zu σ17 1 ((59 + (8 * x1)) + x3) r17 := ⟨_, rfl⟩
      rw [← eσ19]
      replace hf := hf σ19 eσ19
      refine z_iinc hC ([(3, vI (x3 + 1)), (0, vR ad 0), (1, vI x1)]) dX12_removeReading_90 2 rfl (by decide) rfl ?_
      refine z_goto (tgt := 35) hC dX12_removeReading_93 (by decide) ?_
      refine z_sub (lv' := [(0, vR ad 0), (1, vI x1), (3, vI (x3 + 1))]) [1, 2, 0] rfl ?_
      exact ih _ _ _ hf
set_option maxHeartbeats 4000000 in
set_option maxRecDepth 100000 in
theorem mX12_removeReading {D : va_G} {dA : Nat → ClassId} {ad : Nat → Nat}  (l : Launch) (hinj : ∀ i j, i < NM → j < NM → ad i = ad j → i = j) (sz : Nat) {K : Int → zSt → Prop} {σ : zSt} {x1 : Int} {x2 : Int} (hf : fX12_removeReading K σ x1 x2) : Met l yX12_removeReading (Cond.code yX12_removeReading cX12_removeReading 4 (some .int) :: UW) ({ frames := 2, cells := 0, slots := 0, locals := 45 } : Room) (va_Pc [vR ad 0, vI x1, vI x2] (zPre D vwCl (tyA dA) zX0 NM ad (celM ad dA) sz σ)) (va_Qi (zPi K) (zB D vwCl (tyA dA) NM ad (celM ad dA)) (zA ad NM sz)) 0 0 (zA ad NM sz) := by
  refine z_enter (cc := cX12_removeReading) (maxL := 4) (ret := (some .int)) (vs := [vR ad 0, vI x1, vI x2]) (plainFor_of_name (by decide)) rfl hinj (Nat.le_of_ble_eq_true rfl) ?_
  intro p e s m args below meth c hC hE hsz hr hnm
  show zAt p l e ({ frames := 2, cells := 0, slots := 0, locals := 45 } : Room) s m args below meth c 0 0 (MQ below (va_Qi (zPi K) (zB D vwCl (tyA dA) NM ad (celM ad dA)) (zA ad NM sz)) args s 0 0 (zA ad NM sz)) 4 D vwCl (zA ad NM sz) NM ad (celM ad dA) 0 [(0, vR ad 0), (1, vI x1), (2, vI x2)] [] σ
  refine z_aload_n hC dX12_removeReading_0 0 rfl rfl ?_
  refine z_iconst hC dX12_removeReading_1 ?_
  refine z_put hC (ty := .int) tyX12 tyX12_ok nmX12 (fun w h => uT _ w (uL12 w h)) (oM_12 (show kM 0 = 12 by decide)) (loM' (show kM 0 = 12 by decide) (by decide)) 4 (by decide) (uT _ _ u1549) rfl rfl (4) (0) (by simp [zu]) (by decide +kernel) rfl rfl (Nat.le_of_ble_eq_true rfl) dX12_removeReading_2 ?_
  obtain ⟨σ1, eσ1⟩ : ∃ z : zSt, z = zu σ 0 4 0 := ⟨_, rfl⟩
  rw [← eσ1]
  replace hf := hf σ1 eσ1
  refine z_aload_n hC dX12_removeReading_5 0 rfl rfl ?_
  refine z_iload_n hC dX12_removeReading_6 1 rfl rfl ?_
  refine z_callVi hC hE (oM_12 (show kM 0 = 12 by decide)) [vI x1] (fun sz2 => mX12_isStake l hinj sz2 hf) (cwV 1 hC.1.2.2.2.2 (uV (uT _) u2116 u2118 u91 u118 u2119) rfl rfl rfl (by decide +kernel) ⟨Nat.le_of_ble_eq_true rfl, Nat.le_of_ble_eq_true rfl⟩) rfl rfl (Nat.le_of_ble_eq_true rfl) ⟨Nat.le_of_ble_eq_true rfl, Nat.le_of_ble_eq_true rfl⟩ dX12_removeReading_7 (fun r2 σ2 hf => ?_)
  obtain ⟨g3, hf⟩ := hf
  refine z_if_eq (tgt := 22) hC dX12_removeReading_10 (by decide) g3 (fun hc => ?_) (fun hc => ?_)
  · replace hf := hf.1 hc
    refine z_iconst hC dX12_removeReading_22 ?_
    exact z_iret hC hr rfl dX12_removeReading_23 hf
  · replace hf := hf.2 hc
    refine z_aload_n hC dX12_removeReading_13 0 rfl rfl ?_
    refine z_iload_n hC dX12_removeReading_14 1 rfl rfl ?_
    refine z_iload_n hC dX12_removeReading_15 2 rfl rfl ?_
    refine z_callVi hC hE (oM_12 (show kM 0 = 12 by decide)) [vI x1, vI x2] (fun sz2 => mX12_readingOn l hinj sz2 hf) (cwV 2 hC.1.2.2.2.2 (uV (uT _) u2148 u2150 u96 u118 u2151) rfl rfl rfl (by decide +kernel) ⟨Nat.le_of_ble_eq_true rfl, Nat.le_of_ble_eq_true rfl⟩) rfl rfl (Nat.le_of_ble_eq_true rfl) ⟨Nat.le_of_ble_eq_true rfl, Nat.le_of_ble_eq_true rfl⟩ dX12_removeReading_16 (fun r4 σ4 hf => ?_)
    obtain ⟨g5, hf⟩ := hf
    refine z_if_ge (tgt := 24) hC dX12_removeReading_19 (by decide) g5 (fun hc => ?_) (fun hc => ?_)
    · replace hf := hf.1 hc
      refine z_aload_n hC dX12_removeReading_24 0 rfl rfl ?_
      refine z_callVv hC hE (oM_12 (show kM 0 = 12 by decide)) [] (fun sz2 => mX12_remember l hinj sz2 hf) (cwV 0 hC.1.2.2.2.2 (uV (uT _) u1821 u1823 u56 u118 u1824) rfl rfl rfl (by decide +kernel) ⟨Nat.le_of_ble_eq_true rfl, Nat.le_of_ble_eq_true rfl⟩) rfl rfl (Nat.le_of_ble_eq_true rfl) ⟨Nat.le_of_ble_eq_true rfl, Nat.le_of_ble_eq_true rfl⟩ dX12_removeReading_25 (fun σ6 hf => ?_)
      refine z_aload_n hC dX12_removeReading_28 0 rfl rfl ?_
      refine z_iload_n hC dX12_removeReading_29 1 rfl rfl ?_
      refine z_iload_n hC dX12_removeReading_30 2 rfl rfl ?_
      refine z_callVi hC hE (oM_12 (show kM 0 = 12 by decide)) [vI x1, vI x2] (fun sz2 => mX12_readingOn l hinj sz2 hf) (cwV 2 hC.1.2.2.2.2 (uV (uT _) u2148 u2150 u96 u118 u2151) rfl rfl rfl (by decide +kernel) ⟨Nat.le_of_ble_eq_true rfl, Nat.le_of_ble_eq_true rfl⟩) rfl rfl (Nat.le_of_ble_eq_true rfl) ⟨Nat.le_of_ble_eq_true rfl, Nat.le_of_ble_eq_true rfl⟩ dX12_removeReading_31 (fun r7 σ7 hf => ?_)
      refine z_istore_n hC ([(3, vI r7), (0, vR ad 0), (1, vI x1), (2, vI x2)]) dX12_removeReading_34 rfl (by decide) rfl ?_
      refine z_sub (lv' := [(0, vR ad 0), (1, vI x1), (3, vI r7)]) [1, 2, 0] rfl ?_
      obtain ⟨n, hf⟩ := hf
      exact wX12_removeReading_B35 hC hE hr hinj n _ _ _ hf
    · replace hf := hf.2 hc
      refine z_iconst hC dX12_removeReading_22 ?_
      exact z_iret hC hr rfl dX12_removeReading_23 hf
