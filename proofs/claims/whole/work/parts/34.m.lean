
-- ===== X12_noMatch
def fX12_noMatch_B36 (K : Int → zSt → Prop) (σ : zSt) (x1 : Int) (x2 : Int) (x3 : Int) (x4 : Int) (s0 : Int) : Prop :=
  fX12_fails (fun r8 σ8 => zrg r8 ∧ ((r8 = 0 → (0 ≤ x1 ∧ x1 < 6) ∧ zrg (σ8 5 x1) ∧ ((σ8 5 x1 = 0 → K 1 σ8) ∧ (¬ σ8 5 x1 = 0 → (0 ≤ x4 ∧ x4 < 6) ∧ zrg (σ8 5 x4) ∧ ((σ8 5 x4 = 0 → K 1 σ8) ∧ (¬ σ8 5 x4 = 0 → fX12_search (fun r14 σ14 => zrg r14 ∧ ((r14 = 0 → K 1 σ14) ∧ (¬ r14 = 0 → K 0 σ14))) σ8 x1 x2 x3 x4))))) ∧ (¬ r8 = 0 → K 1 σ8))) σ s0
def fX12_noMatch_B35 (K : Int → zSt → Prop) (σ : zSt) (x1 : Int) (x2 : Int) (x3 : Int) (x4 : Int) : Prop :=
  fX12_noMatch_B36 K σ x1 x2 x3 x4 0
def fX12_noMatch (K : Int → zSt → Prop) (σ : zSt) (x1 : Int) (x2 : Int) (x3 : Int) (x4 : Int) : Prop :=
  fX12_orient (fun σ1 => fX12_isFrame (fun r2 σ2 => zrg r2 ∧ ((r2 = 0 → fX12_noMatch_B35 K σ2 x1 x2 x3 x4) ∧ (¬ r2 = 0 → fX12_isFrame (fun r4 σ4 => zrg r4 ∧ ((r4 = 0 → fX12_noMatch_B35 K σ4 x1 x2 x3 x4) ∧ (¬ r4 = 0 → fX12_isPixel (fun r6 σ6 => zrg r6 ∧ ((r6 = 0 → fX12_noMatch_B35 K σ6 x1 x2 x3 x4) ∧ (¬ r6 = 0 → fX12_noMatch_B36 K σ6 x1 x2 x3 x4 1))) σ4 x2 x3))) σ2 x4))) σ1 x1) σ 
set_option maxHeartbeats 4000000 in
set_option maxRecDepth 100000 in
theorem wX12_noMatch_B36 {p : Program} {l : Launch} {e : Env} {s : State} {m : MethodId} {args : Array Value} {below : List Frame} {meth : Method} {c : Code} {D : va_G} {dA : Nat → ClassId} {ad : Nat → Nat} {sz : Nat}  {K : Int → zSt → Prop} (hC : zC p m c cX12_noMatch 5 s args (Cond.code yX12_noMatch cX12_noMatch 5 (some .boolean) :: UW) RX12 meth D vwCl (tyA dA) (zA ad NM sz) NM ad (celM ad dA)) (hE : zE zX0 (zA ad NM sz) s s.heap) (hr : meth.sig.returnType = (some .boolean)) (hinj : ∀ i j, i < NM → j < NM → ad i = ad j → i = j) {σ : zSt} {x1 : Int} {x2 : Int} {x3 : Int} {x4 : Int} {s0 : Int} (hf : fX12_noMatch_B36 K σ x1 x2 x3 x4 s0) : zAt p l e ({ frames := 5, cells := 0, slots := 0, locals := 128 } : Room) s m args below meth c 0 0 (MQ below (va_Qi (zPi K) (zB D vwCl (tyA dA) NM ad (celM ad dA)) (zA ad NM sz)) args s 0 0 (zA ad NM sz)) 5 D vwCl (zA ad NM sz) NM ad (celM ad dA) 36 [(0, vR ad 0), (1, vI x1), (2, vI x2), (3, vI x3), (4, vI x4)] [vI s0, vR ad 0] σ := by
  refine z_callVi hC hE (oM_12 (show kM 0 = 12 by decide)) [vI s0] (fun sz2 => mX12_fails l hinj sz2 hf) (cwV 1 hC.1.2.2.2.2 (uV (uT _) u1833 u1835 u58 u118 u1836) rfl rfl rfl (by decide +kernel) ⟨Nat.le_of_ble_eq_true rfl, Nat.le_of_ble_eq_true rfl⟩) rfl rfl (Nat.le_of_ble_eq_true rfl) ⟨Nat.le_of_ble_eq_true rfl, Nat.le_of_ble_eq_true rfl⟩ dX12_noMatch_36 (fun r8 σ8 hf => ?_)
  obtain ⟨g9, hf⟩ := hf
  refine z_if_eq (tgt := 44) hC dX12_noMatch_39 (by decide) g9 (fun hc => ?_) (fun hc => ?_)
  · replace hf := hf.1 hc
    refine z_aload_n hC dX12_noMatch_44 0 rfl rfl ?_
    refine z_get hC (fun w h => uT _ w (uL12 w h)) (oM_12 (show kM 0 = 12 by decide)) 18 (by decide) (uT _ _ u1563) rfl rfl dX12_noMatch_45 ?_
    refine z_iload_n hC dX12_noMatch_48 1 rfl rfl ?_
    obtain ⟨g10, hf⟩ := hf
    refine z_zaload hC (aM_33 (show kM 5 = 33 by decide)) g10 dX12_noMatch_49 ?_
    obtain ⟨g11, hf⟩ := hf
    refine z_if_eq (tgt := 75) hC dX12_noMatch_50 (by decide) g11 (fun hc => ?_) (fun hc => ?_)
    · replace hf := hf.1 hc
      refine z_iconst hC dX12_noMatch_75 ?_
      refine z_goto (tgt := 80) hC dX12_noMatch_76 (by decide) ?_
      exact z_bret hC hr rfl dX12_noMatch_80 (Or.inr rfl) hf
    · replace hf := hf.2 hc
      refine z_aload_n hC dX12_noMatch_53 0 rfl rfl ?_
      refine z_get hC (fun w h => uT _ w (uL12 w h)) (oM_12 (show kM 0 = 12 by decide)) 18 (by decide) (uT _ _ u1563) rfl rfl dX12_noMatch_54 ?_
      refine z_iload hC dX12_noMatch_57 4 rfl ?_
      obtain ⟨g12, hf⟩ := hf
      refine z_zaload hC (aM_33 (show kM 5 = 33 by decide)) g12 dX12_noMatch_59 ?_
      obtain ⟨g13, hf⟩ := hf
      refine z_if_eq (tgt := 75) hC dX12_noMatch_60 (by decide) g13 (fun hc => ?_) (fun hc => ?_)
      · replace hf := hf.1 hc
        refine z_iconst hC dX12_noMatch_75 ?_
        refine z_goto (tgt := 80) hC dX12_noMatch_76 (by decide) ?_
        exact z_bret hC hr rfl dX12_noMatch_80 (Or.inr rfl) hf
      · replace hf := hf.2 hc
        refine z_aload_n hC dX12_noMatch_63 0 rfl rfl ?_
        refine z_iload_n hC dX12_noMatch_64 1 rfl rfl ?_
        refine z_iload_n hC dX12_noMatch_65 2 rfl rfl ?_
        refine z_iload_n hC dX12_noMatch_66 3 rfl rfl ?_
        refine z_iload hC dX12_noMatch_67 4 rfl ?_
        refine z_callVi hC hE (oM_12 (show kM 0 = 12 by decide)) [vI x1, vI x2, vI x3, vI x4] (fun sz2 => mX12_search l hinj sz2 hf) (cwV 4 hC.1.2.2.2.2 (uV (uT _) u1948 u1950 u74 u118 u1951) rfl rfl rfl (by decide +kernel) ⟨Nat.le_of_ble_eq_true rfl, Nat.le_of_ble_eq_true rfl⟩) rfl rfl (Nat.le_of_ble_eq_true rfl) ⟨Nat.le_of_ble_eq_true rfl, Nat.le_of_ble_eq_true rfl⟩ dX12_noMatch_69 (fun r14 σ14 hf => ?_)
        obtain ⟨g15, hf⟩ := hf
        refine z_if_ne (tgt := 79) hC dX12_noMatch_72 (by decide) g15 (fun hc => ?_) (fun hc => ?_)
        · replace hf := hf.2 hc
          refine z_iconst hC dX12_noMatch_79 ?_
          exact z_bret hC hr rfl dX12_noMatch_80 (Or.inl rfl) hf
        · replace hf := hf.1 hc
          refine z_iconst hC dX12_noMatch_75 ?_
          refine z_goto (tgt := 80) hC dX12_noMatch_76 (by decide) ?_
          exact z_bret hC hr rfl dX12_noMatch_80 (Or.inr rfl) hf
  · replace hf := hf.2 hc
    refine z_iconst hC dX12_noMatch_42 ?_
    exact z_bret hC hr rfl dX12_noMatch_43 (Or.inr rfl) hf
set_option maxHeartbeats 4000000 in
set_option maxRecDepth 100000 in
theorem wX12_noMatch_B35 {p : Program} {l : Launch} {e : Env} {s : State} {m : MethodId} {args : Array Value} {below : List Frame} {meth : Method} {c : Code} {D : va_G} {dA : Nat → ClassId} {ad : Nat → Nat} {sz : Nat}  {K : Int → zSt → Prop} (hC : zC p m c cX12_noMatch 5 s args (Cond.code yX12_noMatch cX12_noMatch 5 (some .boolean) :: UW) RX12 meth D vwCl (tyA dA) (zA ad NM sz) NM ad (celM ad dA)) (hE : zE zX0 (zA ad NM sz) s s.heap) (hr : meth.sig.returnType = (some .boolean)) (hinj : ∀ i j, i < NM → j < NM → ad i = ad j → i = j) {σ : zSt} {x1 : Int} {x2 : Int} {x3 : Int} {x4 : Int} (hf : fX12_noMatch_B35 K σ x1 x2 x3 x4) : zAt p l e ({ frames := 5, cells := 0, slots := 0, locals := 128 } : Room) s m args below meth c 0 0 (MQ below (va_Qi (zPi K) (zB D vwCl (tyA dA) NM ad (celM ad dA)) (zA ad NM sz)) args s 0 0 (zA ad NM sz)) 5 D vwCl (zA ad NM sz) NM ad (celM ad dA) 35 [(0, vR ad 0), (1, vI x1), (2, vI x2), (3, vI x3), (4, vI x4)] [vR ad 0] σ := by
  refine z_iconst hC dX12_noMatch_35 ?_
  exact wX12_noMatch_B36 hC hE hr hinj  hf
set_option maxHeartbeats 4000000 in
set_option maxRecDepth 100000 in
theorem mX12_noMatch {D : va_G} {dA : Nat → ClassId} {ad : Nat → Nat}  (l : Launch) (hinj : ∀ i j, i < NM → j < NM → ad i = ad j → i = j) (sz : Nat) {K : Int → zSt → Prop} {σ : zSt} {x1 : Int} {x2 : Int} {x3 : Int} {x4 : Int} (hf : fX12_noMatch K σ x1 x2 x3 x4) : Met l yX12_noMatch (Cond.code yX12_noMatch cX12_noMatch 5 (some .boolean) :: UW) ({ frames := 5, cells := 0, slots := 0, locals := 128 } : Room) (va_Pc [vR ad 0, vI x1, vI x2, vI x3, vI x4] (zPre D vwCl (tyA dA) zX0 NM ad (celM ad dA) sz σ)) (va_Qi (zPi K) (zB D vwCl (tyA dA) NM ad (celM ad dA)) (zA ad NM sz)) 0 0 (zA ad NM sz) := by
  refine z_enter (cc := cX12_noMatch) (maxL := 5) (ret := (some .boolean)) (vs := [vR ad 0, vI x1, vI x2, vI x3, vI x4]) (plainFor_of_name (by decide)) rfl hinj (Nat.le_of_ble_eq_true rfl) ?_
  intro p e s m args below meth c hC hE hsz hr hnm
  show zAt p l e ({ frames := 5, cells := 0, slots := 0, locals := 128 } : Room) s m args below meth c 0 0 (MQ below (va_Qi (zPi K) (zB D vwCl (tyA dA) NM ad (celM ad dA)) (zA ad NM sz)) args s 0 0 (zA ad NM sz)) 5 D vwCl (zA ad NM sz) NM ad (celM ad dA) 0 [(0, vR ad 0), (1, vI x1), (2, vI x2), (3, vI x3), (4, vI x4)] [] σ
  refine z_aload_n hC dX12_noMatch_0 0 rfl rfl ?_
  refine z_callVv hC hE (oM_12 (show kM 0 = 12 by decide)) [] (fun sz2 => mX12_orient l hinj sz2 hf) (cwV 0 hC.1.2.2.2.2 (uV (uT _) u1901 u1903 u67 u118 u1904) rfl rfl rfl (by decide +kernel) ⟨Nat.le_of_ble_eq_true rfl, Nat.le_of_ble_eq_true rfl⟩) rfl rfl (Nat.le_of_ble_eq_true rfl) ⟨Nat.le_of_ble_eq_true rfl, Nat.le_of_ble_eq_true rfl⟩ dX12_noMatch_1 (fun σ1 hf => ?_)
  refine z_aload_n hC dX12_noMatch_4 0 rfl rfl ?_
  refine z_aload_n hC dX12_noMatch_5 0 rfl rfl ?_
  refine z_iload_n hC dX12_noMatch_6 1 rfl rfl ?_
  refine z_callVi hC hE (oM_12 (show kM 0 = 12 by decide)) [vI x1] (fun sz2 => mX12_isFrame l hinj sz2 hf) (cwV 1 hC.1.2.2.2.2 (uV (uT _) u1829 u1831 u57 u118 u1832) rfl rfl rfl (by decide +kernel) ⟨Nat.le_of_ble_eq_true rfl, Nat.le_of_ble_eq_true rfl⟩) rfl rfl (Nat.le_of_ble_eq_true rfl) ⟨Nat.le_of_ble_eq_true rfl, Nat.le_of_ble_eq_true rfl⟩ dX12_noMatch_7 (fun r2 σ2 hf => ?_)
  obtain ⟨g3, hf⟩ := hf
  refine z_if_eq (tgt := 35) hC dX12_noMatch_10 (by decide) g3 (fun hc => ?_) (fun hc => ?_)
  · replace hf := hf.1 hc
    exact wX12_noMatch_B35 hC hE hr hinj  hf
  · replace hf := hf.2 hc
    refine z_aload_n hC dX12_noMatch_13 0 rfl rfl ?_
    refine z_iload hC dX12_noMatch_14 4 rfl ?_
    refine z_callVi hC hE (oM_12 (show kM 0 = 12 by decide)) [vI x4] (fun sz2 => mX12_isFrame l hinj sz2 hf) (cwV 1 hC.1.2.2.2.2 (uV (uT _) u1829 u1831 u57 u118 u1832) rfl rfl rfl (by decide +kernel) ⟨Nat.le_of_ble_eq_true rfl, Nat.le_of_ble_eq_true rfl⟩) rfl rfl (Nat.le_of_ble_eq_true rfl) ⟨Nat.le_of_ble_eq_true rfl, Nat.le_of_ble_eq_true rfl⟩ dX12_noMatch_16 (fun r4 σ4 hf => ?_)
    obtain ⟨g5, hf⟩ := hf
    refine z_if_eq (tgt := 35) hC dX12_noMatch_19 (by decide) g5 (fun hc => ?_) (fun hc => ?_)
    · replace hf := hf.1 hc
      exact wX12_noMatch_B35 hC hE hr hinj  hf
    · replace hf := hf.2 hc
      refine z_aload_n hC dX12_noMatch_22 0 rfl rfl ?_
      refine z_iload_n hC dX12_noMatch_23 2 rfl rfl ?_
      refine z_iload_n hC dX12_noMatch_24 3 rfl rfl ?_
      refine z_callVi hC hE (oM_12 (show kM 0 = 12 by decide)) [vI x2, vI x3] (fun sz2 => mX12_isPixel l hinj sz2 hf) (cwV 2 hC.1.2.2.2.2 (uV (uT _) u1845 u1847 u60 u118 u1848) rfl rfl rfl (by decide +kernel) ⟨Nat.le_of_ble_eq_true rfl, Nat.le_of_ble_eq_true rfl⟩) rfl rfl (Nat.le_of_ble_eq_true rfl) ⟨Nat.le_of_ble_eq_true rfl, Nat.le_of_ble_eq_true rfl⟩ dX12_noMatch_25 (fun r6 σ6 hf => ?_)
      obtain ⟨g7, hf⟩ := hf
      refine z_if_eq (tgt := 35) hC dX12_noMatch_28 (by decide) g7 (fun hc => ?_) (fun hc => ?_)
      · replace hf := hf.1 hc
        exact wX12_noMatch_B35 hC hE hr hinj  hf
      · replace hf := hf.2 hc
        refine z_iconst hC dX12_noMatch_31 ?_
        refine z_goto (tgt := 36) hC dX12_noMatch_32 (by decide) ?_
        exact wX12_noMatch_B36 hC hE hr hinj  hf

-- ===== X12_unmatched
def fX12_unmatched (K : Int → zSt → Prop) (σ : zSt) : Prop :=
  zrg (σ 0 4) ∧ ((σ 0 4 ≤ 0 → K (-1) σ) ∧ (¬ σ 0 4 ≤ 0 → K 0 σ))
set_option maxHeartbeats 4000000 in
set_option maxRecDepth 100000 in
theorem mX12_unmatched {D : va_G} {dA : Nat → ClassId} {ad : Nat → Nat}  (l : Launch) (hinj : ∀ i j, i < NM → j < NM → ad i = ad j → i = j) (sz : Nat) {K : Int → zSt → Prop} {σ : zSt} (hf : fX12_unmatched K σ ) : Met l yX12_unmatched (Cond.code yX12_unmatched cX12_unmatched 1 (some .int) :: UW) ({ frames := 0, cells := 0, slots := 0, locals := 0 } : Room) (va_Pc [vR ad 0] (zPre D vwCl (tyA dA) zX0 NM ad (celM ad dA) sz σ)) (va_Qi (zPi K) (zB D vwCl (tyA dA) NM ad (celM ad dA)) (zA ad NM sz)) 0 0 (zA ad NM sz) := by
  refine z_enter (cc := cX12_unmatched) (maxL := 1) (ret := (some .int)) (vs := [vR ad 0]) (plainFor_of_name (by decide)) rfl hinj (Nat.le_of_ble_eq_true rfl) ?_
  intro p e s m args below meth c hC hE hsz hr hnm
  show zAt p l e ({ frames := 0, cells := 0, slots := 0, locals := 0 } : Room) s m args below meth c 0 0 (MQ below (va_Qi (zPi K) (zB D vwCl (tyA dA) NM ad (celM ad dA)) (zA ad NM sz)) args s 0 0 (zA ad NM sz)) 1 D vwCl (zA ad NM sz) NM ad (celM ad dA) 0 [(0, vR ad 0)] [] σ
  refine z_aload_n hC dX12_unmatched_0 0 rfl rfl ?_
  refine z_get hC (fun w h => uT _ w (uL12 w h)) (oM_12 (show kM 0 = 12 by decide)) 4 (by decide) (uT _ _ u1549) rfl rfl dX12_unmatched_1 ?_
  obtain ⟨g1, hf⟩ := hf
  refine z_if_le (tgt := 11) hC dX12_unmatched_4 (by decide) g1 (fun hc => ?_) (fun hc => ?_)
  · replace hf := hf.1 hc
    refine z_iconst hC dX12_unmatched_11 ?_
    exact z_iret hC hr rfl dX12_unmatched_12 hf
  · replace hf := hf.2 hc
    refine z_iconst hC dX12_unmatched_7 ?_
    refine z_goto (tgt := 12) hC dX12_unmatched_8 (by decide) ?_
    exact z_iret hC hr rfl dX12_unmatched_12 hf

-- ===== X12_match
def fX12_match (K : Int → zSt → Prop) (σ : zSt) (x1 : Int) (x2 : Int) (x3 : Int) (x4 : Int) : Prop :=
  fX12_noMatch (fun r1 σ1 => zrg r1 ∧ ((r1 = 0 → K ((16 * (σ1 0 22)) + (σ1 0 23)) σ1) ∧ (¬ r1 = 0 → fX12_unmatched (fun r3 σ3 => K r3 σ3) σ1 ))) σ x1 x2 x3 x4
set_option maxHeartbeats 4000000 in
set_option maxRecDepth 100000 in
theorem mX12_match {D : va_G} {dA : Nat → ClassId} {ad : Nat → Nat}  (l : Launch) (hinj : ∀ i j, i < NM → j < NM → ad i = ad j → i = j) (sz : Nat) {K : Int → zSt → Prop} {σ : zSt} {x1 : Int} {x2 : Int} {x3 : Int} {x4 : Int} (hf : fX12_match K σ x1 x2 x3 x4) : Met l yX12_match (Cond.code yX12_match cX12_match 5 (some .int) :: UW) ({ frames := 6, cells := 0, slots := 0, locals := 152 } : Room) (va_Pc [vR ad 0, vI x1, vI x2, vI x3, vI x4] (zPre D vwCl (tyA dA) zX0 NM ad (celM ad dA) sz σ)) (va_Qi (zPi K) (zB D vwCl (tyA dA) NM ad (celM ad dA)) (zA ad NM sz)) 0 0 (zA ad NM sz) := by
  refine z_enter (cc := cX12_match) (maxL := 5) (ret := (some .int)) (vs := [vR ad 0, vI x1, vI x2, vI x3, vI x4]) (plainFor_of_name (by decide)) rfl hinj (Nat.le_of_ble_eq_true rfl) ?_
  intro p e s m args below meth c hC hE hsz hr hnm
  show zAt p l e ({ frames := 6, cells := 0, slots := 0, locals := 152 } : Room) s m args below meth c 0 0 (MQ below (va_Qi (zPi K) (zB D vwCl (tyA dA) NM ad (celM ad dA)) (zA ad NM sz)) args s 0 0 (zA ad NM sz)) 5 D vwCl (zA ad NM sz) NM ad (celM ad dA) 0 [(0, vR ad 0), (1, vI x1), (2, vI x2), (3, vI x3), (4, vI x4)] [] σ
  refine z_aload_n hC dX12_match_0 0 rfl rfl ?_
  refine z_iload_n hC dX12_match_1 1 rfl rfl ?_
  refine z_iload_n hC dX12_match_2 2 rfl rfl ?_
  refine z_iload_n hC dX12_match_3 3 rfl rfl ?_
  refine z_iload hC dX12_match_4 4 rfl ?_
  refine z_callVi hC hE (oM_12 (show kM 0 = 12 by decide)) [vI x1, vI x2, vI x3, vI x4] (fun sz2 => mX12_noMatch l hinj sz2 hf) (cwV 4 hC.1.2.2.2.2 (uV (uT _) u1944 u1946 u73 u118 u1947) rfl rfl rfl (by decide +kernel) ⟨Nat.le_of_ble_eq_true rfl, Nat.le_of_ble_eq_true rfl⟩) rfl rfl (Nat.le_of_ble_eq_true rfl) ⟨Nat.le_of_ble_eq_true rfl, Nat.le_of_ble_eq_true rfl⟩ dX12_match_6 (fun r1 σ1 hf => ?_)
  obtain ⟨g2, hf⟩ := hf
  refine z_if_eq (tgt := 19) hC dX12_match_9 (by decide) g2 (fun hc => ?_) (fun hc => ?_)
  · replace hf := hf.1 hc
    refine z_bipush hC dX12_match_19 (by decide) ?_
    refine z_aload_n hC dX12_match_21 0 rfl rfl ?_
    refine z_get hC (fun w h => uT _ w (uL12 w h)) (oM_12 (show kM 0 = 12 by decide)) 22 (by decide) (uT _ _ u1567) rfl rfl dX12_match_22 ?_
    refine z_imul hC dX12_match_25 ?_
    refine z_aload_n hC dX12_match_26 0 rfl rfl ?_
    refine z_get hC (fun w h => uT _ w (uL12 w h)) (oM_12 (show kM 0 = 12 by decide)) 23 (by decide) (uT _ _ u1568) rfl rfl dX12_match_27 ?_
    refine z_iadd hC dX12_match_30 ?_
    exact z_iret hC hr rfl dX12_match_31 hf
  · replace hf := hf.2 hc
    refine z_aload_n hC dX12_match_12 0 rfl rfl ?_
    refine z_callVi hC hE (oM_12 (show kM 0 = 12 by decide)) [] (fun sz2 => mX12_unmatched l hinj sz2 hf) (cwV 0 hC.1.2.2.2.2 (uV (uT _) u1952 u1954 u75 u118 u1955) rfl rfl rfl (by decide +kernel) ⟨Nat.le_of_ble_eq_true rfl, Nat.le_of_ble_eq_true rfl⟩) rfl rfl (Nat.le_of_ble_eq_true rfl) ⟨Nat.le_of_ble_eq_true rfl, Nat.le_of_ble_eq_true rfl⟩ dX12_match_13 (fun r3 σ3 hf => ?_)
    refine z_goto (tgt := 31) hC dX12_match_16 (by decide) ?_
    exact z_iret hC hr rfl dX12_match_31 hf

-- ===== X12_matchError
def fX12_matchError (K : Int → zSt → Prop) (σ : zSt) (x1 : Int) (x2 : Int) (x3 : Int) (x4 : Int) : Prop :=
  fX12_noMatch (fun r1 σ1 => zrg r1 ∧ ((r1 = 0 → K (σ1 0 24) σ1) ∧ (¬ r1 = 0 → fX12_unmatched (fun r3 σ3 => K r3 σ3) σ1 ))) σ x1 x2 x3 x4
set_option maxHeartbeats 4000000 in
set_option maxRecDepth 100000 in
theorem mX12_matchError {D : va_G} {dA : Nat → ClassId} {ad : Nat → Nat}  (l : Launch) (hinj : ∀ i j, i < NM → j < NM → ad i = ad j → i = j) (sz : Nat) {K : Int → zSt → Prop} {σ : zSt} {x1 : Int} {x2 : Int} {x3 : Int} {x4 : Int} (hf : fX12_matchError K σ x1 x2 x3 x4) : Met l yX12_matchError (Cond.code yX12_matchError cX12_matchError 5 (some .int) :: UW) ({ frames := 6, cells := 0, slots := 0, locals := 152 } : Room) (va_Pc [vR ad 0, vI x1, vI x2, vI x3, vI x4] (zPre D vwCl (tyA dA) zX0 NM ad (celM ad dA) sz σ)) (va_Qi (zPi K) (zB D vwCl (tyA dA) NM ad (celM ad dA)) (zA ad NM sz)) 0 0 (zA ad NM sz) := by
  refine z_enter (cc := cX12_matchError) (maxL := 5) (ret := (some .int)) (vs := [vR ad 0, vI x1, vI x2, vI x3, vI x4]) (plainFor_of_name (by decide)) rfl hinj (Nat.le_of_ble_eq_true rfl) ?_
  intro p e s m args below meth c hC hE hsz hr hnm
  show zAt p l e ({ frames := 6, cells := 0, slots := 0, locals := 152 } : Room) s m args below meth c 0 0 (MQ below (va_Qi (zPi K) (zB D vwCl (tyA dA) NM ad (celM ad dA)) (zA ad NM sz)) args s 0 0 (zA ad NM sz)) 5 D vwCl (zA ad NM sz) NM ad (celM ad dA) 0 [(0, vR ad 0), (1, vI x1), (2, vI x2), (3, vI x3), (4, vI x4)] [] σ
  refine z_aload_n hC dX12_matchError_0 0 rfl rfl ?_
  refine z_iload_n hC dX12_matchError_1 1 rfl rfl ?_
  refine z_iload_n hC dX12_matchError_2 2 rfl rfl ?_
  refine z_iload_n hC dX12_matchError_3 3 rfl rfl ?_
  refine z_iload hC dX12_matchError_4 4 rfl ?_
  refine z_callVi hC hE (oM_12 (show kM 0 = 12 by decide)) [vI x1, vI x2, vI x3, vI x4] (fun sz2 => mX12_noMatch l hinj sz2 hf) (cwV 4 hC.1.2.2.2.2 (uV (uT _) u1944 u1946 u73 u118 u1947) rfl rfl rfl (by decide +kernel) ⟨Nat.le_of_ble_eq_true rfl, Nat.le_of_ble_eq_true rfl⟩) rfl rfl (Nat.le_of_ble_eq_true rfl) ⟨Nat.le_of_ble_eq_true rfl, Nat.le_of_ble_eq_true rfl⟩ dX12_matchError_6 (fun r1 σ1 hf => ?_)
  obtain ⟨g2, hf⟩ := hf
  refine z_if_eq (tgt := 19) hC dX12_matchError_9 (by decide) g2 (fun hc => ?_) (fun hc => ?_)
  · replace hf := hf.1 hc
    refine z_aload_n hC dX12_matchError_19 0 rfl rfl ?_
    refine z_get hC (fun w h => uT _ w (uL12 w h)) (oM_12 (show kM 0 = 12 by decide)) 24 (by decide) (uT _ _ u1569) rfl rfl dX12_matchError_20 ?_
    exact z_iret hC hr rfl dX12_matchError_23 hf
  · replace hf := hf.2 hc
    refine z_aload_n hC dX12_matchError_12 0 rfl rfl ?_
    refine z_callVi hC hE (oM_12 (show kM 0 = 12 by decide)) [] (fun sz2 => mX12_unmatched l hinj sz2 hf) (cwV 0 hC.1.2.2.2.2 (uV (uT _) u1952 u1954 u75 u118 u1955) rfl rfl rfl (by decide +kernel) ⟨Nat.le_of_ble_eq_true rfl, Nat.le_of_ble_eq_true rfl⟩) rfl rfl (Nat.le_of_ble_eq_true rfl) ⟨Nat.le_of_ble_eq_true rfl, Nat.le_of_ble_eq_true rfl⟩ dX12_matchError_13 (fun r3 σ3 hf => ?_)
    refine z_goto (tgt := 23) hC dX12_matchError_16 (by decide) ?_
    exact z_iret hC hr rfl dX12_matchError_23 hf

-- ===== X12_matchMargin
def fX12_matchMargin (K : Int → zSt → Prop) (σ : zSt) (x1 : Int) (x2 : Int) (x3 : Int) (x4 : Int) : Prop :=
  fX12_noMatch (fun r1 σ1 => zrg r1 ∧ ((r1 = 0 → zrg (σ1 0 25) ∧ ((0 ≤ σ1 0 25 → K ((σ1 0 25) - (σ1 0 24)) σ1) ∧ (¬ 0 ≤ σ1 0 25 → K (-1) σ1))) ∧ (¬ r1 = 0 → fX12_unmatched (fun r4 σ4 => K r4 σ4) σ1 ))) σ x1 x2 x3 x4
set_option maxHeartbeats 4000000 in
set_option maxRecDepth 100000 in
theorem mX12_matchMargin {D : va_G} {dA : Nat → ClassId} {ad : Nat → Nat}  (l : Launch) (hinj : ∀ i j, i < NM → j < NM → ad i = ad j → i = j) (sz : Nat) {K : Int → zSt → Prop} {σ : zSt} {x1 : Int} {x2 : Int} {x3 : Int} {x4 : Int} (hf : fX12_matchMargin K σ x1 x2 x3 x4) : Met l yX12_matchMargin (Cond.code yX12_matchMargin cX12_matchMargin 5 (some .int) :: UW) ({ frames := 6, cells := 0, slots := 0, locals := 152 } : Room) (va_Pc [vR ad 0, vI x1, vI x2, vI x3, vI x4] (zPre D vwCl (tyA dA) zX0 NM ad (celM ad dA) sz σ)) (va_Qi (zPi K) (zB D vwCl (tyA dA) NM ad (celM ad dA)) (zA ad NM sz)) 0 0 (zA ad NM sz) := by
  refine z_enter (cc := cX12_matchMargin) (maxL := 5) (ret := (some .int)) (vs := [vR ad 0, vI x1, vI x2, vI x3, vI x4]) (plainFor_of_name (by decide)) rfl hinj (Nat.le_of_ble_eq_true rfl) ?_
  intro p e s m args below meth c hC hE hsz hr hnm
  show zAt p l e ({ frames := 6, cells := 0, slots := 0, locals := 152 } : Room) s m args below meth c 0 0 (MQ below (va_Qi (zPi K) (zB D vwCl (tyA dA) NM ad (celM ad dA)) (zA ad NM sz)) args s 0 0 (zA ad NM sz)) 5 D vwCl (zA ad NM sz) NM ad (celM ad dA) 0 [(0, vR ad 0), (1, vI x1), (2, vI x2), (3, vI x3), (4, vI x4)] [] σ
  refine z_aload_n hC dX12_matchMargin_0 0 rfl rfl ?_
  refine z_iload_n hC dX12_matchMargin_1 1 rfl rfl ?_
  refine z_iload_n hC dX12_matchMargin_2 2 rfl rfl ?_
  refine z_iload_n hC dX12_matchMargin_3 3 rfl rfl ?_
  refine z_iload hC dX12_matchMargin_4 4 rfl ?_
  refine z_callVi hC hE (oM_12 (show kM 0 = 12 by decide)) [vI x1, vI x2, vI x3, vI x4] (fun sz2 => mX12_noMatch l hinj sz2 hf) (cwV 4 hC.1.2.2.2.2 (uV (uT _) u1944 u1946 u73 u118 u1947) rfl rfl rfl (by decide +kernel) ⟨Nat.le_of_ble_eq_true rfl, Nat.le_of_ble_eq_true rfl⟩) rfl rfl (Nat.le_of_ble_eq_true rfl) ⟨Nat.le_of_ble_eq_true rfl, Nat.le_of_ble_eq_true rfl⟩ dX12_matchMargin_6 (fun r1 σ1 hf => ?_)
  obtain ⟨g2, hf⟩ := hf
  refine z_if_eq (tgt := 17) hC dX12_matchMargin_9 (by decide) g2 (fun hc => ?_) (fun hc => ?_)
  · replace hf := hf.1 hc
    refine z_aload_n hC dX12_matchMargin_17 0 rfl rfl ?_
    refine z_get hC (fun w h => uT _ w (uL12 w h)) (oM_12 (show kM 0 = 12 by decide)) 25 (by decide) (uT _ _ u1570) rfl rfl dX12_matchMargin_18 ?_
    obtain ⟨g3, hf⟩ := hf
    refine z_if_ge (tgt := 28) hC dX12_matchMargin_21 (by decide) g3 (fun hc => ?_) (fun hc => ?_)
    · replace hf := hf.1 hc
      refine z_aload_n hC dX12_matchMargin_28 0 rfl rfl ?_
      refine z_get hC (fun w h => uT _ w (uL12 w h)) (oM_12 (show kM 0 = 12 by decide)) 25 (by decide) (uT _ _ u1570) rfl rfl dX12_matchMargin_29 ?_
      refine z_aload_n hC dX12_matchMargin_32 0 rfl rfl ?_
      refine z_get hC (fun w h => uT _ w (uL12 w h)) (oM_12 (show kM 0 = 12 by decide)) 24 (by decide) (uT _ _ u1569) rfl rfl dX12_matchMargin_33 ?_
      refine z_isub hC dX12_matchMargin_36 ?_
      exact z_iret hC hr rfl dX12_matchMargin_37 hf
    · replace hf := hf.2 hc
      refine z_iconst hC dX12_matchMargin_24 ?_
      refine z_goto (tgt := 37) hC dX12_matchMargin_25 (by decide) ?_
      exact z_iret hC hr rfl dX12_matchMargin_37 hf
  · replace hf := hf.2 hc
    refine z_aload_n hC dX12_matchMargin_12 0 rfl rfl ?_
    refine z_callVi hC hE (oM_12 (show kM 0 = 12 by decide)) [] (fun sz2 => mX12_unmatched l hinj sz2 hf) (cwV 0 hC.1.2.2.2.2 (uV (uT _) u1952 u1954 u75 u118 u1955) rfl rfl rfl (by decide +kernel) ⟨Nat.le_of_ble_eq_true rfl, Nat.le_of_ble_eq_true rfl⟩) rfl rfl (Nat.le_of_ble_eq_true rfl) ⟨Nat.le_of_ble_eq_true rfl, Nat.le_of_ble_eq_true rfl⟩ dX12_matchMargin_13 (fun r4 σ4 hf => ?_)
    exact z_iret hC hr rfl dX12_matchMargin_16 hf

-- ===== X12_windowSize
def fX12_windowSize (K : Int → zSt → Prop) (σ : zSt) : Prop :=
  fX12_setting (fun r1 σ1 => K (((2 * r1) + 1) * ((2 * r1) + 1)) σ1) σ 0
set_option maxHeartbeats 4000000 in
set_option maxRecDepth 100000 in
theorem mX12_windowSize {D : va_G} {dA : Nat → ClassId} {ad : Nat → Nat}  (l : Launch) (hinj : ∀ i j, i < NM → j < NM → ad i = ad j → i = j) (sz : Nat) {K : Int → zSt → Prop} {σ : zSt} (hf : fX12_windowSize K σ ) : Met l yX12_windowSize (Cond.code yX12_windowSize cX12_windowSize 2 (some .int) :: UW) ({ frames := 1, cells := 0, slots := 0, locals := 21 } : Room) (va_Pc [vR ad 0] (zPre D vwCl (tyA dA) zX0 NM ad (celM ad dA) sz σ)) (va_Qi (zPi K) (zB D vwCl (tyA dA) NM ad (celM ad dA)) (zA ad NM sz)) 0 0 (zA ad NM sz) := by
  refine z_enter (cc := cX12_windowSize) (maxL := 2) (ret := (some .int)) (vs := [vR ad 0]) (plainFor_of_name (by decide)) rfl hinj (Nat.le_of_ble_eq_true rfl) ?_
  intro p e s m args below meth c hC hE hsz hr hnm
  show zAt p l e ({ frames := 1, cells := 0, slots := 0, locals := 21 } : Room) s m args below meth c 0 0 (MQ below (va_Qi (zPi K) (zB D vwCl (tyA dA) NM ad (celM ad dA)) (zA ad NM sz)) args s 0 0 (zA ad NM sz)) 2 D vwCl (zA ad NM sz) NM ad (celM ad dA) 0 [(0, vR ad 0)] [] σ
  refine z_iconst hC dX12_windowSize_0 ?_
  refine z_aload_n hC dX12_windowSize_1 0 rfl rfl ?_
  refine z_iconst hC dX12_windowSize_2 ?_
  refine z_callVi hC hE (oM_12 (show kM 0 = 12 by decide)) [vI 0] (fun sz2 => mX12_setting l hinj sz2 hf) (cwV 1 hC.1.2.2.2.2 (uV (uT _) u1813 u1815 u55 u118 u1816) rfl rfl rfl (by decide +kernel) ⟨Nat.le_of_ble_eq_true rfl, Nat.le_of_ble_eq_true rfl⟩) rfl rfl (Nat.le_of_ble_eq_true rfl) ⟨Nat.le_of_ble_eq_true rfl, Nat.le_of_ble_eq_true rfl⟩ dX12_windowSize_3 (fun r1 σ1 hf => ?_)
  refine z_imul hC dX12_windowSize_6 ?_
  refine z_iconst hC dX12_windowSize_7 ?_
  refine z_iadd hC dX12_windowSize_8 ?_
  refine z_istore_n hC ([(1, vI ((2 * r1) + 1)), (0, vR ad 0)]) dX12_windowSize_9 rfl (by decide) rfl ?_
  refine z_iload_n hC dX12_windowSize_10 0 rfl rfl ?_
  refine z_iload_n hC dX12_windowSize_11 0 rfl rfl ?_
  refine z_imul hC dX12_windowSize_12 ?_
  exact z_iret hC hr rfl dX12_windowSize_13 hf

-- ===== X12_follow
def fX12_follow (K : Int → zSt → Prop) (σ : zSt) (x1 : Int) (x2 : Int) (x3 : Int) : Prop :=
  (0 ≤ x1 ∧ x1 < 6) ∧ fX12_search (fun r2 σ2 => zrg r2 ∧ ((r2 = 0 → K 0 σ2) ∧ (¬ r2 = 0 → fX12_windowSize (fun r4 σ4 => zrg (σ2 0 24) ∧ zrg (x3 * r4) ∧ ((σ2 0 24 ≤ x3 * r4 → fX12_search (fun r7 σ7 => zrg r7 ∧ ((r7 = 0 → K 0 σ7) ∧ (¬ r7 = 0 → fX12_absolute (fun r9 σ9 => zrg r9 ∧ ((1 < r9 → K 0 σ9) ∧ (¬ 1 < r9 → fX12_absolute (fun r11 σ11 => zrg r11 ∧ ((r11 ≤ 1 → (0 ≤ x2 ∧ x2 < 6) ∧ ∀ σ14, σ14 = zu σ11 10 x2 (σ4 0 22) → ∀ σ15, σ15 = zu σ14 11 x2 (σ4 0 23) → K 1 σ15) ∧ (¬ r11 ≤ 1 → K 0 σ11))) σ9 ((σ9 0 23) - (σ9 11 x1))))) σ7 ((σ7 0 22) - (σ7 10 x1))))) σ4 x2 (σ4 0 22) (σ4 0 23) x1) ∧ (¬ σ2 0 24 ≤ x3 * r4 → K 0 σ4))) σ2 ))) σ x1 (σ 10 x1) (σ 11 x1) x2
set_option maxHeartbeats 4000000 in
set_option maxRecDepth 100000 in
theorem mX12_follow {D : va_G} {dA : Nat → ClassId} {ad : Nat → Nat}  (l : Launch) (hinj : ∀ i j, i < NM → j < NM → ad i = ad j → i = j) (sz : Nat) {K : Int → zSt → Prop} {σ : zSt} {x1 : Int} {x2 : Int} {x3 : Int} (hf : fX12_follow K σ x1 x2 x3) : Met l yX12_follow (Cond.code yX12_follow cX12_follow 6 (some .boolean) :: UW) ({ frames := 3, cells := 0, slots := 0, locals := 87 } : Room) (va_Pc [vR ad 0, vI x1, vI x2, vI x3] (zPre D vwCl (tyA dA) zX0 NM ad (celM ad dA) sz σ)) (va_Qi (zPi K) (zB D vwCl (tyA dA) NM ad (celM ad dA)) (zA ad NM sz)) 0 0 (zA ad NM sz) := by
  refine z_enter (cc := cX12_follow) (maxL := 6) (ret := (some .boolean)) (vs := [vR ad 0, vI x1, vI x2, vI x3]) (plainFor_of_name (by decide)) rfl hinj (Nat.le_of_ble_eq_true rfl) ?_
  intro p e s m args below meth c hC hE hsz hr hnm
  show zAt p l e ({ frames := 3, cells := 0, slots := 0, locals := 87 } : Room) s m args below meth c 0 0 (MQ below (va_Qi (zPi K) (zB D vwCl (tyA dA) NM ad (celM ad dA)) (zA ad NM sz)) args s 0 0 (zA ad NM sz)) 6 D vwCl (zA ad NM sz) NM ad (celM ad dA) 0 [(0, vR ad 0), (1, vI x1), (2, vI x2), (3, vI x3)] [] σ
  refine z_aload_n hC dX12_follow_0 0 rfl rfl ?_
  refine z_iload_n hC dX12_follow_1 1 rfl rfl ?_
  refine z_aload_n hC dX12_follow_2 0 rfl rfl ?_
  refine z_get hC (fun w h => uT _ w (uL12 w h)) (oM_12 (show kM 0 = 12 by decide)) 27 (by decide) (uT _ _ u1572) rfl rfl dX12_follow_3 ?_
  refine z_iload_n hC dX12_follow_6 1 rfl rfl ?_
  obtain ⟨g1, hf⟩ := hf
  refine z_iaload hC (aM_34 (show kM 10 = 34 by decide)) g1 dX12_follow_7 ?_
  refine z_aload_n hC dX12_follow_8 0 rfl rfl ?_
  refine z_get hC (fun w h => uT _ w (uL12 w h)) (oM_12 (show kM 0 = 12 by decide)) 28 (by decide) (uT _ _ u1573) rfl rfl dX12_follow_9 ?_
  refine z_iload_n hC dX12_follow_12 1 rfl rfl ?_
  refine z_iaload hC (aM_34 (show kM 11 = 34 by decide)) g1 dX12_follow_13 ?_
  refine z_iload_n hC dX12_follow_14 2 rfl rfl ?_
  refine z_callVi hC hE (oM_12 (show kM 0 = 12 by decide)) [vI x1, vI (σ 10 x1), vI (σ 11 x1), vI x2] (fun sz2 => mX12_search l hinj sz2 hf) (cwV 4 hC.1.2.2.2.2 (uV (uT _) u1948 u1950 u74 u118 u1951) rfl rfl rfl (by decide +kernel) ⟨Nat.le_of_ble_eq_true rfl, Nat.le_of_ble_eq_true rfl⟩) rfl rfl (Nat.le_of_ble_eq_true rfl) ⟨Nat.le_of_ble_eq_true rfl, Nat.le_of_ble_eq_true rfl⟩ dX12_follow_15 (fun r2 σ2 hf => ?_)
  obtain ⟨g3, hf⟩ := hf
  refine z_if_eq (tgt := 34) hC dX12_follow_18 (by decide) g3 (fun hc => ?_) (fun hc => ?_)
  · replace hf := hf.1 hc
    refine z_iconst hC dX12_follow_34 ?_
    exact z_bret hC hr rfl dX12_follow_35 (Or.inl rfl) hf
  · replace hf := hf.2 hc
    refine z_aload_n hC dX12_follow_21 0 rfl rfl ?_
    refine z_get hC (fun w h => uT _ w (uL12 w h)) (oM_12 (show kM 0 = 12 by decide)) 24 (by decide) (uT _ _ u1569) rfl rfl dX12_follow_22 ?_
    refine z_iload_n hC dX12_follow_25 3 rfl rfl ?_
    refine z_aload_n hC dX12_follow_26 0 rfl rfl ?_
    refine z_callVi hC hE (oM_12 (show kM 0 = 12 by decide)) [] (fun sz2 => mX12_windowSize l hinj sz2 hf) (cwV 0 hC.1.2.2.2.2 (uV (uT _) u1976 u1978 u78 u118 u1979) rfl rfl rfl (by decide +kernel) ⟨Nat.le_of_ble_eq_true rfl, Nat.le_of_ble_eq_true rfl⟩) rfl rfl (Nat.le_of_ble_eq_true rfl) ⟨Nat.le_of_ble_eq_true rfl, Nat.le_of_ble_eq_true rfl⟩ dX12_follow_27 (fun r4 σ4 hf => ?_)
    refine z_imul hC dX12_follow_30 ?_
    obtain ⟨g5, hf⟩ := hf
    obtain ⟨g6, hf⟩ := hf
    refine z_icmp_le (tgt := 36) hC dX12_follow_31 (by decide) g5 g6 (fun hc => ?_) (fun hc => ?_)
    · replace hf := hf.1 hc
      refine z_aload_n hC dX12_follow_36 0 rfl rfl ?_
      refine z_get hC (fun w h => uT _ w (uL12 w h)) (oM_12 (show kM 0 = 12 by decide)) 22 (by decide) (uT _ _ u1567) rfl rfl dX12_follow_37 ?_
      refine z_istore hC ([(4, vI (σ4 0 22)), (0, vR ad 0), (1, vI x1), (2, vI x2), (3, vI x3)]) dX12_follow_40 (by decide) rfl ?_
      refine z_aload_n hC dX12_follow_42 1 rfl rfl ?_
      refine z_get hC (fun w h => uT _ w (uL12 w h)) (oM_12 (show kM 0 = 12 by decide)) 23 (by decide) (uT _ _ u1568) rfl rfl dX12_follow_43 ?_
      refine z_istore hC ([(5, vI (σ4 0 23)), (4, vI (σ4 0 22)), (0, vR ad 0), (1, vI x1), (2, vI x2), (3, vI x3)]) dX12_follow_46 (by decide) rfl ?_
      refine z_aload_n hC dX12_follow_48 2 rfl rfl ?_
      refine z_iload_n hC dX12_follow_49 4 rfl rfl ?_
      refine z_iload hC dX12_follow_50 1 rfl ?_
      refine z_iload hC dX12_follow_52 0 rfl ?_
      refine z_iload_n hC dX12_follow_54 3 rfl rfl ?_
      refine z_callVi hC hE (oM_12 (show kM 0 = 12 by decide)) [vI x2, vI (σ4 0 22), vI (σ4 0 23), vI x1] (fun sz2 => mX12_search l hinj sz2 hf) (cwV 4 hC.1.2.2.2.2 (uV (uT _) u1948 u1950 u74 u118 u1951) rfl rfl rfl (by decide +kernel) ⟨Nat.le_of_ble_eq_true rfl, Nat.le_of_ble_eq_true rfl⟩) rfl rfl (Nat.le_of_ble_eq_true rfl) ⟨Nat.le_of_ble_eq_true rfl, Nat.le_of_ble_eq_true rfl⟩ dX12_follow_55 (fun r7 σ7 hf => ?_)
      obtain ⟨g8, hf⟩ := hf
      refine z_if_eq (tgt := 97) hC dX12_follow_58 (by decide) g8 (fun hc => ?_) (fun hc => ?_)
      · replace hf := hf.1 hc
        refine z_iconst hC dX12_follow_97 ?_
        exact z_bret hC hr rfl dX12_follow_98 (Or.inl rfl) hf
      · replace hf := hf.2 hc
        refine z_aload_n hC dX12_follow_61 2 rfl rfl ?_
        refine z_get hC (fun w h => uT _ w (uL12 w h)) (oM_12 (show kM 0 = 12 by decide)) 22 (by decide) (uT _ _ u1567) rfl rfl dX12_follow_62 ?_
        refine z_aload_n hC dX12_follow_65 2 rfl rfl ?_
        refine z_get hC (fun w h => uT _ w (uL12 w h)) (oM_12 (show kM 0 = 12 by decide)) 27 (by decide) (uT _ _ u1572) rfl rfl dX12_follow_66 ?_
        refine z_iload_n hC dX12_follow_69 3 rfl rfl ?_
        refine z_iaload hC (aM_34 (show kM 10 = 34 by decide)) g1 dX12_follow_70 ?_
        refine z_isub hC dX12_follow_71 ?_
        refine z_callSi hC hE [vI ((σ7 0 22) - (σ7 10 x1))] (fun sz2 => mX12_absolute l hinj sz2 hf) (va_cwS 1 hC.1.2.2.2.2 (uS (uT _) u1921 u1922 u118 u1923) rfl rfl rfl (by decide +kernel) ⟨Nat.le_of_ble_eq_true rfl, Nat.le_of_ble_eq_true rfl⟩) rfl rfl (Nat.le_of_ble_eq_true rfl) ⟨Nat.le_of_ble_eq_true rfl, Nat.le_of_ble_eq_true rfl⟩ dX12_follow_72 (fun r9 σ9 hf => ?_)
        refine z_iconst hC dX12_follow_75 ?_
        obtain ⟨g10, hf⟩ := hf
        refine z_icmp_gt (tgt := 97) hC dX12_follow_76 (by decide) g10 (zlit rfl rfl) (fun hc => ?_) (fun hc => ?_)
        · replace hf := hf.1 hc
          refine z_iconst hC dX12_follow_97 ?_
          exact z_bret hC hr rfl dX12_follow_98 (Or.inl rfl) hf
        · replace hf := hf.2 hc
          refine z_aload_n hC dX12_follow_79 2 rfl rfl ?_
          refine z_get hC (fun w h => uT _ w (uL12 w h)) (oM_12 (show kM 0 = 12 by decide)) 23 (by decide) (uT _ _ u1568) rfl rfl dX12_follow_80 ?_
          refine z_aload_n hC dX12_follow_83 2 rfl rfl ?_
          refine z_get hC (fun w h => uT _ w (uL12 w h)) (oM_12 (show kM 0 = 12 by decide)) 28 (by decide) (uT _ _ u1573) rfl rfl dX12_follow_84 ?_
          refine z_iload_n hC dX12_follow_87 3 rfl rfl ?_
          refine z_iaload hC (aM_34 (show kM 11 = 34 by decide)) g1 dX12_follow_88 ?_
          refine z_isub hC dX12_follow_89 ?_
          refine z_callSi hC hE [vI ((σ9 0 23) - (σ9 11 x1))] (fun sz2 => mX12_absolute l hinj sz2 hf) (va_cwS 1 hC.1.2.2.2.2 (uS (uT _) u1921 u1922 u118 u1923) rfl rfl rfl (by decide +kernel) ⟨Nat.le_of_ble_eq_true rfl, Nat.le_of_ble_eq_true rfl⟩) rfl rfl (Nat.le_of_ble_eq_true rfl) ⟨Nat.le_of_ble_eq_true rfl, Nat.le_of_ble_eq_true rfl⟩ dX12_follow_90 (fun r11 σ11 hf => ?_)
          refine z_iconst hC dX12_follow_93 ?_
          obtain ⟨g12, hf⟩ := hf
          refine z_icmp_le (tgt := 99) hC dX12_follow_94 (by decide) g12 (zlit rfl rfl) (fun hc => ?_) (fun hc => ?_)
          · replace hf := hf.1 hc
            refine z_aload_n hC dX12_follow_99 2 rfl rfl ?_
            refine z_get hC (fun w h => uT _ w (uL12 w h)) (oM_12 (show kM 0 = 12 by decide)) 27 (by decide) (uT _ _ u1572) rfl rfl dX12_follow_100 ?_
            refine z_iload_n hC dX12_follow_103 4 rfl rfl ?_
            refine z_iload hC dX12_follow_104 1 rfl ?_
            obtain ⟨g13, hf⟩ := hf
            refine z_iastore hC (aM_34 (show kM 10 = 34 by decide)) (loM' (show kM 10 = 34 by decide) (by decide)) g13 dX12_follow_106 ?_
            obtain ⟨σ14, eσ14⟩ : ∃ z : zSt, z = zu σ11 10 x2 (σ4 0 22) := ⟨_, rfl⟩
            rw [← eσ14]
            replace hf := hf σ14 eσ14
            refine z_aload_n hC dX12_follow_107 2 rfl rfl ?_
            refine z_get hC (fun w h => uT _ w (uL12 w h)) (oM_12 (show kM 0 = 12 by decide)) 28 (by decide) (uT _ _ u1573) rfl rfl dX12_follow_108 ?_
            refine z_iload_n hC dX12_follow_111 4 rfl rfl ?_
            refine z_iload hC dX12_follow_112 0 rfl ?_
            refine z_iastore hC (aM_34 (show kM 11 = 34 by decide)) (loM' (show kM 11 = 34 by decide) (by decide)) g13 dX12_follow_114 ?_
            obtain ⟨σ15, eσ15⟩ : ∃ z : zSt, z = zu σ14 11 x2 (σ4 0 23) := ⟨_, rfl⟩
            rw [← eσ15]
            replace hf := hf σ15 eσ15
            refine z_iconst hC dX12_follow_115 ?_
            exact z_bret hC hr rfl dX12_follow_116 (Or.inr rfl) hf
          · replace hf := hf.2 hc
            refine z_iconst hC dX12_follow_97 ?_
            exact z_bret hC hr rfl dX12_follow_98 (Or.inl rfl) hf
    · replace hf := hf.2 hc
      refine z_iconst hC dX12_follow_34 ?_
      exact z_bret hC hr rfl dX12_follow_35 (Or.inl rfl) hf

-- ===== X12_track
def fX12_track_B43 (K : zSt → Prop) (k12 : zSt → Int → Int → Int → Int → Prop) (σ : zSt) (x1 : Int) (x2 : Int) (x3 : Int) (x4 : Int) (s0 : Int) (s1 : Int) : Prop :=
  (0 ≤ s1 ∧ s1 < 6) ∧ (s0 = 0 ∨ s0 = 1) ∧ ∀ σ7, σ7 = zu σ 9 s1 s0 → zrg x4 ∧ zrg (σ7 0 17) ∧ ((x4 = σ7 0 17 → (0 ≤ 20 + (2 * x1) ∧ 20 + (2 * x1) < 811) ∧ (0 ≤ x4 ∧ x4 < 6) ∧ ∀ σ18, σ18 = zu σ7 10 x4 (σ7 1 (20 + (2 * x1))) → (0 ≤ (20 + (2 * x1)) + 1 ∧ (20 + (2 * x1)) + 1 < 811) ∧ ∀ σ20, σ20 = zu σ18 11 x4 (σ18 1 ((20 + (2 * x1)) + 1)) → k12 σ20 x1 x2 x3 (x4 + 1)) ∧ (¬ x4 = σ7 0 17 → (0 ≤ x4 ∧ x4 < 6) ∧ zrg (σ7 5 x4) ∧ ((σ7 5 x4 = 0 → k12 σ7 x1 x2 x3 (x4 + 1)) ∧ (¬ σ7 5 x4 = 0 → fX12_follow (fun r12 σ12 => (r12 = 0 ∨ r12 = 1) ∧ ∀ σ14, σ14 = zu σ12 9 x4 r12 → zrg (σ14 9 x4) ∧ ((σ14 9 x4 = 0 → k12 σ14 x1 x2 x3 (x4 + 1)) ∧ (¬ σ14 9 x4 = 0 → k12 σ14 x1 x2 x4 (x4 + 1)))) σ7 x3 x4 x2))))
noncomputable def fX12_track_B12 (K : zSt → Prop) (n : Nat) : zSt → Int → Int → Int → Int → Prop :=
  Nat.rec (motive := fun _ => zSt → Int → Int → Int → Int → Prop) (fun _ _ _ _ _ => False) (fun _ ih σ x1 x2 x3 x4 => zrg x4 ∧ zrg (σ 1 2) ∧ ((σ 1 2 ≤ x4 → K σ) ∧ (¬ σ 1 2 ≤ x4 → zrg (σ 0 17) ∧ ((x4 = σ 0 17 → fX12_track_B43 K ih σ x1 x2 x3 x4 1 x4) ∧ (¬ x4 = σ 0 17 → fX12_track_B43 K ih σ x1 x2 x3 x4 0 x4))))) n
theorem uX12_track_B12 (K : zSt → Prop) (n0 : Nat) (σ : zSt) (x1 : Int) (x2 : Int) (x3 : Int) (x4 : Int) : fX12_track_B12 K (n0 + 1) σ x1 x2 x3 x4 = (zrg x4 ∧ zrg (σ 1 2) ∧ ((σ 1 2 ≤ x4 → K σ) ∧ (¬ σ 1 2 ≤ x4 → zrg (σ 0 17) ∧ ((x4 = σ 0 17 → fX12_track_B43 K (fX12_track_B12 K n0) σ x1 x2 x3 x4 1 x4) ∧ (¬ x4 = σ 0 17 → fX12_track_B43 K (fX12_track_B12 K n0) σ x1 x2 x3 x4 0 x4))))) := rfl
def fX12_track (K : zSt → Prop) (σ : zSt) (x1 : Int) (x2 : Int) : Prop :=
  fX12_orient (fun σ1 => (∃ n, fX12_track_B12 K n σ1 x1 x2 (σ1 0 17) 0)) σ 
set_option maxHeartbeats 4000000 in
set_option maxRecDepth 100000 in
theorem wX12_track_B43 {p : Program} {l : Launch} {e : Env} {s : State} {m : MethodId} {args : Array Value} {below : List Frame} {meth : Method} {c : Code} {D : va_G} {dA : Nat → ClassId} {ad : Nat → Nat} {sz : Nat}  {K : zSt → Prop} {k12 : zSt → Int → Int → Int → Int → Prop} (hC : zC p m c cX12_track 5 s args (Cond.code yX12_track cX12_track 5 none :: UW) RX12 meth D vwCl (tyA dA) (zA ad NM sz) NM ad (celM ad dA)) (hE : zE zX0 (zA ad NM sz) s s.heap) (hr : meth.sig.returnType = none) (hinj : ∀ i j, i < NM → j < NM → ad i = ad j → i = j) (hk12 : ∀ (σ : zSt) (x1 : Int) (x2 : Int) (x3 : Int) (x4 : Int), k12 σ x1 x2 x3 x4 → zAt p l e ({ frames := 5, cells := 0, slots := 0, locals := 128 } : Room) s m args below meth c 0 0 (MQ below (va_Qv K (zB D vwCl (tyA dA) NM ad (celM ad dA)) (zA ad NM sz)) args s 0 0 (zA ad NM sz)) 5 D vwCl (zA ad NM sz) NM ad (celM ad dA) 12 [(0, vR ad 0), (1, vI x1), (2, vI x2), (3, vI x3), (4, vI x4)] [] σ) {σ : zSt} {x1 : Int} {x2 : Int} {x3 : Int} {x4 : Int} {s0 : Int} {s1 : Int} (hf : fX12_track_B43 K k12 σ x1 x2 x3 x4 s0 s1) : zAt p l e ({ frames := 5, cells := 0, slots := 0, locals := 128 } : Room) s m args below meth c 0 0 (MQ below (va_Qv K (zB D vwCl (tyA dA) NM ad (celM ad dA)) (zA ad NM sz)) args s 0 0 (zA ad NM sz)) 5 D vwCl (zA ad NM sz) NM ad (celM ad dA) 43 [(0, vR ad 0), (1, vI x1), (2, vI x2), (3, vI x3), (4, vI x4)] [vI s0, vI s1, vR ad 9] σ := by
  obtain ⟨g5, hf⟩ := hf
  obtain ⟨g6, hf⟩ := hf
  refine z_zastore hC (aM_33 (show kM 9 = 33 by decide)) (loM' (show kM 9 = 33 by decide) (by decide)) g5 g6 dX12_track_43 ?_
  obtain ⟨σ7, eσ7⟩ : ∃ z : zSt, z = zu σ 9 s1 s0 := ⟨_, rfl⟩
  rw [← eσ7]
  replace hf := hf σ7 eσ7
  refine z_iload hC dX12_track_44 4 rfl ?_
  refine z_aload_n hC dX12_track_46 0 rfl rfl ?_
  refine z_get hC (fun w h => uT _ w (uL12 w h)) (oM_12 (show kM 0 = 12 by decide)) 17 (by decide) (uT _ _ u1562) rfl rfl dX12_track_47 ?_
  obtain ⟨g8, hf⟩ := hf
  obtain ⟨g9, hf⟩ := hf
  refine z_icmp_ne (tgt := 94) hC dX12_track_50 (by decide) g8 g9 (fun hc => ?_) (fun hc => ?_)
  · replace hf := hf.2 hc
    refine z_aload_n hC dX12_track_94 0 rfl rfl ?_
    refine z_get hC (fun w h => uT _ w (uL12 w h)) (oM_12 (show kM 0 = 12 by decide)) 18 (by decide) (uT _ _ u1563) rfl rfl dX12_track_95 ?_
    refine z_iload hC dX12_track_98 4 rfl ?_
    obtain ⟨g10, hf⟩ := hf
    refine z_zaload hC (aM_33 (show kM 5 = 33 by decide)) g10 dX12_track_100 ?_
    obtain ⟨g11, hf⟩ := hf
    refine z_if_eq (tgt := 136) hC dX12_track_101 (by decide) g11 (fun hc => ?_) (fun hc => ?_)
    · replace hf := hf.1 hc
      refine z_iinc hC ([(4, vI (x4 + 1)), (0, vR ad 0), (1, vI x1), (2, vI x2), (3, vI x3)]) dX12_track_136 4 rfl (by decide) rfl ?_
      refine z_goto (tgt := 12) hC dX12_track_139 (by decide) ?_
      refine z_sub (lv' := [(0, vR ad 0), (1, vI x1), (2, vI x2), (3, vI x3), (4, vI (x4 + 1))]) [1, 2, 3, 4, 0] rfl ?_
      exact hk12 _ _ _ _ _ hf
    · replace hf := hf.2 hc
      refine z_aload_n hC dX12_track_104 0 rfl rfl ?_
      refine z_get hC (fun w h => uT _ w (uL12 w h)) (oM_12 (show kM 0 = 12 by decide)) 26 (by decide) (uT _ _ u1571) rfl rfl dX12_track_105 ?_
      refine z_iload hC dX12_track_108 4 rfl ?_
      refine z_aload_n hC dX12_track_110 0 rfl rfl ?_
      refine z_iload_n hC dX12_track_111 3 rfl rfl ?_
      refine z_iload hC dX12_track_112 4 rfl ?_
      refine z_iload_n hC dX12_track_114 2 rfl rfl ?_
      refine z_callVi hC hE (oM_12 (show kM 0 = 12 by decide)) [vI x3, vI x4, vI x2] (fun sz2 => mX12_follow l hinj sz2 hf) (cwV 3 hC.1.2.2.2.2 (uV (uT _) u1972 u1974 u77 u118 u1975) rfl rfl rfl (by decide +kernel) ⟨Nat.le_of_ble_eq_true rfl, Nat.le_of_ble_eq_true rfl⟩) rfl rfl (Nat.le_of_ble_eq_true rfl) ⟨Nat.le_of_ble_eq_true rfl, Nat.le_of_ble_eq_true rfl⟩ dX12_track_115 (fun r12 σ12 hf => ?_)
      obtain ⟨g13, hf⟩ := hf
      refine z_zastore hC (aM_33 (show kM 9 = 33 by decide)) (loM' (show kM 9 = 33 by decide) (by decide)) g10 g13 dX12_track_118 ?_
      obtain ⟨σ14, eσ14⟩ : ∃ z : zSt, z = zu σ12 9 x4 r12 := ⟨_, rfl⟩
      rw [← eσ14]
      replace hf := hf σ14 eσ14
      refine z_aload_n hC dX12_track_119 0 rfl rfl ?_
      refine z_get hC (fun w h => uT _ w (uL12 w h)) (oM_12 (show kM 0 = 12 by decide)) 26 (by decide) (uT _ _ u1571) rfl rfl dX12_track_120 ?_
      refine z_iload hC dX12_track_123 4 rfl ?_
      refine z_zaload hC (aM_33 (show kM 9 = 33 by decide)) g10 dX12_track_125 ?_
      obtain ⟨g15, hf⟩ := hf
      refine z_if_eq (tgt := 134) hC dX12_track_126 (by decide) g15 (fun hc => ?_) (fun hc => ?_)
      · replace hf := hf.1 hc
        refine z_iload_n hC dX12_track_134 3 rfl rfl ?_
        refine z_istore_n hC ([(3, vI x3), (0, vR ad 0), (1, vI x1), (2, vI x2), (4, vI x4)]) dX12_track_135 rfl (by decide) rfl ?_
        refine z_iinc hC ([(4, vI (x4 + 1)), (3, vI x3), (0, vR ad 0), (1, vI x1), (2, vI x2)]) dX12_track_136 4 rfl (by decide) rfl ?_
        refine z_goto (tgt := 12) hC dX12_track_139 (by decide) ?_
        refine z_sub (lv' := [(0, vR ad 0), (1, vI x1), (2, vI x2), (3, vI x3), (4, vI (x4 + 1))]) [2, 3, 4, 1, 0] rfl ?_
        exact hk12 _ _ _ _ _ hf
      · replace hf := hf.2 hc
        refine z_iload hC dX12_track_129 4 rfl ?_
        refine z_goto (tgt := 135) hC dX12_track_131 (by decide) ?_
        refine z_istore_n hC ([(3, vI x4), (0, vR ad 0), (1, vI x1), (2, vI x2), (4, vI x4)]) dX12_track_135 rfl (by decide) rfl ?_
        refine z_iinc hC ([(4, vI (x4 + 1)), (3, vI x4), (0, vR ad 0), (1, vI x1), (2, vI x2)]) dX12_track_136 4 rfl (by decide) rfl ?_
        refine z_goto (tgt := 12) hC dX12_track_139 (by decide) ?_
        refine z_sub (lv' := [(0, vR ad 0), (1, vI x1), (2, vI x2), (3, vI x4), (4, vI (x4 + 1))]) [2, 3, 4, 1, 0] rfl ?_
        exact hk12 _ _ _ _ _ hf
  · replace hf := hf.1 hc
    refine z_aload_n hC dX12_track_53 0 rfl rfl ?_
    refine z_get hC (fun w h => uT _ w (uL12 w h)) (oM_12 (show kM 0 = 12 by decide)) 27 (by decide) (uT _ _ u1572) rfl rfl dX12_track_54 ?_
    refine z_iload hC dX12_track_57 4 rfl ?_
    refine z_aload_n hC dX12_track_59 0 rfl rfl ?_
    refine z_get hC (fun w h => uT _ w (uL12 w h)) (oM_12 (show kM 0 = 12 by decide)) 0 (by decide) (uT _ _ u1545) rfl rfl dX12_track_60 ?_
    refine z_bipush hC dX12_track_63 (by decide) ?_
    refine z_iconst hC dX12_track_65 ?_
    refine z_iload_n hC dX12_track_66 1 rfl rfl ?_
    refine z_imul hC dX12_track_67 ?_
    refine z_iadd hC dX12_track_68 ?_
    obtain ⟨g16, hf⟩ := hf
    refine z_iaload hC (aM_30 (show kM 1 = 30 by decide)) g16 dX12_track_69 ?_
    obtain ⟨g17, hf⟩ := hf
    refine z_iastore hC (aM_34 (show kM 10 = 34 by decide)) (loM' (show kM 10 = 34 by decide) (by decide)) g17 dX12_track_70 ?_
    obtain ⟨σ18, eσ18⟩ : ∃ z : zSt, z = zu σ7 10 x4 (σ7 1 (20 + (2 * x1))) := ⟨_, rfl⟩
    rw [← eσ18]
    replace hf := hf σ18 eσ18
    refine z_aload_n hC dX12_track_71 0 rfl rfl ?_
    refine z_get hC (fun w h => uT _ w (uL12 w h)) (oM_12 (show kM 0 = 12 by decide)) 28 (by decide) (uT _ _ u1573) rfl rfl dX12_track_72 ?_
    refine z_iload hC dX12_track_75 4 rfl ?_
    refine z_aload_n hC dX12_track_77 0 rfl rfl ?_
    refine z_get hC (fun w h => uT _ w (uL12 w h)) (oM_12 (show kM 0 = 12 by decide)) 0 (by decide) (uT _ _ u1545) rfl rfl dX12_track_78 ?_
    refine z_bipush hC dX12_track_81 (by decide) ?_
    refine z_iconst hC dX12_track_83 ?_
    refine z_iload_n hC dX12_track_84 1 rfl rfl ?_
    refine z_imul hC dX12_track_85 ?_
    refine z_iadd hC dX12_track_86 ?_
    refine z_iconst hC dX12_track_87 ?_
    refine z_iadd hC dX12_track_88 ?_
    obtain ⟨g19, hf⟩ := hf
    refine z_iaload hC (aM_30 (show kM 1 = 30 by decide)) g19 dX12_track_89 ?_
    refine z_iastore hC (aM_34 (show kM 11 = 34 by decide)) (loM' (show kM 11 = 34 by decide) (by decide)) g17 dX12_track_90 ?_
    obtain ⟨σ20, eσ20⟩ : ∃ z : zSt, z = zu σ18 11 x4 (σ18 1 ((20 + (2 * x1)) + 1)) := ⟨_, rfl⟩
    rw [← eσ20]
    replace hf := hf σ20 eσ20
    refine z_goto (tgt := 136) hC dX12_track_91 (by decide) ?_
    refine z_iinc hC ([(4, vI (x4 + 1)), (0, vR ad 0), (1, vI x1), (2, vI x2), (3, vI x3)]) dX12_track_136 4 rfl (by decide) rfl ?_
    refine z_goto (tgt := 12) hC dX12_track_139 (by decide) ?_
    refine z_sub (lv' := [(0, vR ad 0), (1, vI x1), (2, vI x2), (3, vI x3), (4, vI (x4 + 1))]) [1, 2, 3, 4, 0] rfl ?_
    exact hk12 _ _ _ _ _ hf
set_option maxHeartbeats 4000000 in
set_option maxRecDepth 100000 in
theorem wX12_track_B12 {p : Program} {l : Launch} {e : Env} {s : State} {m : MethodId} {args : Array Value} {below : List Frame} {meth : Method} {c : Code} {D : va_G} {dA : Nat → ClassId} {ad : Nat → Nat} {sz : Nat}  {K : zSt → Prop} (hC : zC p m c cX12_track 5 s args (Cond.code yX12_track cX12_track 5 none :: UW) RX12 meth D vwCl (tyA dA) (zA ad NM sz) NM ad (celM ad dA)) (hE : zE zX0 (zA ad NM sz) s s.heap) (hr : meth.sig.returnType = none) (hinj : ∀ i j, i < NM → j < NM → ad i = ad j → i = j) : ∀ (n : Nat) (σ : zSt) (x1 : Int) (x2 : Int) (x3 : Int) (x4 : Int), fX12_track_B12 K n σ x1 x2 x3 x4 → zAt p l e ({ frames := 5, cells := 0, slots := 0, locals := 128 } : Room) s m args below meth c 0 0 (MQ below (va_Qv K (zB D vwCl (tyA dA) NM ad (celM ad dA)) (zA ad NM sz)) args s 0 0 (zA ad NM sz)) 5 D vwCl (zA ad NM sz) NM ad (celM ad dA) 12 [(0, vR ad 0), (1, vI x1), (2, vI x2), (3, vI x3), (4, vI x4)] [] σ := by
  intro n
  induction n with
  | zero => intro σ x1 x2 x3 x4  hf; exact False.elim hf
  | succ n ih =>
    intro σ x1 x2 x3 x4  hf
    rw [uX12_track_B12] at hf
    refine z_iload hC dX12_track_12 4 rfl ?_
    refine z_aload_n hC dX12_track_14 0 rfl rfl ?_
    refine z_get hC (fun w h => uT _ w (uL12 w h)) (oM_12 (show kM 0 = 12 by decide)) 0 (by decide) (uT _ _ u1545) rfl rfl dX12_track_15 ?_
    refine z_iconst hC dX12_track_18 ?_
    refine z_iaload hC (aM_30 (show kM 1 = 30 by decide)) ⟨by decide, by decide⟩ dX12_track_19 ?_
    obtain ⟨g2, hf⟩ := hf
    obtain ⟨g3, hf⟩ := hf
    refine z_icmp_ge (tgt := 142) hC dX12_track_20 (by decide) g2 g3 (fun hc => ?_) (fun hc => ?_)
    · replace hf := hf.1 hc
      exact z_vret hC hr rfl dX12_track_142 hf
    · replace hf := hf.2 hc
      refine z_aload_n hC dX12_track_23 0 rfl rfl ?_
      refine z_get hC (fun w h => uT _ w (uL12 w h)) (oM_12 (show kM 0 = 12 by decide)) 26 (by decide) (uT _ _ u1571) rfl rfl dX12_track_24 ?_
      refine z_iload hC dX12_track_27 4 rfl ?_
      refine z_iload hC dX12_track_29 4 rfl ?_
      refine z_aload_n hC dX12_track_31 0 rfl rfl ?_
      refine z_get hC (fun w h => uT _ w (uL12 w h)) (oM_12 (show kM 0 = 12 by decide)) 17 (by decide) (uT _ _ u1562) rfl rfl dX12_track_32 ?_
      obtain ⟨g4, hf⟩ := hf
      refine z_icmp_ne (tgt := 42) hC dX12_track_35 (by decide) g2 g4 (fun hc => ?_) (fun hc => ?_)
      · replace hf := hf.2 hc
        refine z_iconst hC dX12_track_42 ?_
        exact wX12_track_B43 hC hE hr hinj ih  hf
      · replace hf := hf.1 hc
        refine z_iconst hC dX12_track_38 ?_
        refine z_goto (tgt := 43) hC dX12_track_39 (by decide) ?_
        exact wX12_track_B43 hC hE hr hinj ih  hf
set_option maxHeartbeats 4000000 in
set_option maxRecDepth 100000 in
theorem mX12_track {D : va_G} {dA : Nat → ClassId} {ad : Nat → Nat}  (l : Launch) (hinj : ∀ i j, i < NM → j < NM → ad i = ad j → i = j) (sz : Nat) {K : zSt → Prop} {σ : zSt} {x1 : Int} {x2 : Int} (hf : fX12_track K σ x1 x2) : Met l yX12_track (Cond.code yX12_track cX12_track 5 none :: UW) ({ frames := 5, cells := 0, slots := 0, locals := 128 } : Room) (va_Pc [vR ad 0, vI x1, vI x2] (zPre D vwCl (tyA dA) zX0 NM ad (celM ad dA) sz σ)) (va_Qv K (zB D vwCl (tyA dA) NM ad (celM ad dA)) (zA ad NM sz)) 0 0 (zA ad NM sz) := by
  refine z_enter (cc := cX12_track) (maxL := 5) (ret := none) (vs := [vR ad 0, vI x1, vI x2]) (plainFor_of_name (by decide)) rfl hinj (Nat.le_of_ble_eq_true rfl) ?_
  intro p e s m args below meth c hC hE hsz hr hnm
  show zAt p l e ({ frames := 5, cells := 0, slots := 0, locals := 128 } : Room) s m args below meth c 0 0 (MQ below (va_Qv K (zB D vwCl (tyA dA) NM ad (celM ad dA)) (zA ad NM sz)) args s 0 0 (zA ad NM sz)) 5 D vwCl (zA ad NM sz) NM ad (celM ad dA) 0 [(0, vR ad 0), (1, vI x1), (2, vI x2)] [] σ
  refine z_aload_n hC dX12_track_0 0 rfl rfl ?_
  refine z_callVv hC hE (oM_12 (show kM 0 = 12 by decide)) [] (fun sz2 => mX12_orient l hinj sz2 hf) (cwV 0 hC.1.2.2.2.2 (uV (uT _) u1901 u1903 u67 u118 u1904) rfl rfl rfl (by decide +kernel) ⟨Nat.le_of_ble_eq_true rfl, Nat.le_of_ble_eq_true rfl⟩) rfl rfl (Nat.le_of_ble_eq_true rfl) ⟨Nat.le_of_ble_eq_true rfl, Nat.le_of_ble_eq_true rfl⟩ dX12_track_1 (fun σ1 hf => ?_)
  refine z_aload_n hC dX12_track_4 0 rfl rfl ?_
  refine z_get hC (fun w h => uT _ w (uL12 w h)) (oM_12 (show kM 0 = 12 by decide)) 17 (by decide) (uT _ _ u1562) rfl rfl dX12_track_5 ?_
  refine z_istore_n hC ([(3, vI (σ1 0 17)), (0, vR ad 0), (1, vI x1), (2, vI x2)]) dX12_track_8 rfl (by decide) rfl ?_
  refine z_iconst hC dX12_track_9 ?_
  refine z_istore hC ([(4, vI 0), (3, vI (σ1 0 17)), (0, vR ad 0), (1, vI x1), (2, vI x2)]) dX12_track_10 (by decide) rfl ?_
  refine z_sub (lv' := [(0, vR ad 0), (1, vI x1), (2, vI x2), (3, vI (σ1 0 17)), (4, vI 0)]) [2, 3, 4, 1, 0] rfl ?_
  obtain ⟨n, hf⟩ := hf
  exact wX12_track_B12 hC hE hr hinj n _ _ _ _ _ hf

-- ===== X12_noTrack
def fX12_noTrack (K : Int → zSt → Prop) (σ : zSt) (x1 : Int) : Prop :=
  fX12_isFeature (fun r1 σ1 => fX12_fails (fun r2 σ2 => zrg r2 ∧ ((r2 = 0 → fX12_setting (fun r4 σ4 => fX12_track (fun σ5 => K 0 σ5) σ4 x1 r4) σ2 4) ∧ (¬ r2 = 0 → K 1 σ2))) σ1 r1) σ x1
set_option maxHeartbeats 4000000 in
set_option maxRecDepth 100000 in
theorem mX12_noTrack {D : va_G} {dA : Nat → ClassId} {ad : Nat → Nat}  (l : Launch) (hinj : ∀ i j, i < NM → j < NM → ad i = ad j → i = j) (sz : Nat) {K : Int → zSt → Prop} {σ : zSt} {x1 : Int} (hf : fX12_noTrack K σ x1) : Met l yX12_noTrack (Cond.code yX12_noTrack cX12_noTrack 2 (some .boolean) :: UW) ({ frames := 6, cells := 0, slots := 0, locals := 152 } : Room) (va_Pc [vR ad 0, vI x1] (zPre D vwCl (tyA dA) zX0 NM ad (celM ad dA) sz σ)) (va_Qi (zPi K) (zB D vwCl (tyA dA) NM ad (celM ad dA)) (zA ad NM sz)) 0 0 (zA ad NM sz) := by
  refine z_enter (cc := cX12_noTrack) (maxL := 2) (ret := (some .boolean)) (vs := [vR ad 0, vI x1]) (plainFor_of_name (by decide)) rfl hinj (Nat.le_of_ble_eq_true rfl) ?_
  intro p e s m args below meth c hC hE hsz hr hnm
  show zAt p l e ({ frames := 6, cells := 0, slots := 0, locals := 152 } : Room) s m args below meth c 0 0 (MQ below (va_Qi (zPi K) (zB D vwCl (tyA dA) NM ad (celM ad dA)) (zA ad NM sz)) args s 0 0 (zA ad NM sz)) 2 D vwCl (zA ad NM sz) NM ad (celM ad dA) 0 [(0, vR ad 0), (1, vI x1)] [] σ
  refine z_aload_n hC dX12_noTrack_0 0 rfl rfl ?_
  refine z_aload_n hC dX12_noTrack_1 0 rfl rfl ?_
  refine z_iload_n hC dX12_noTrack_2 1 rfl rfl ?_
  refine z_callVi hC hE (oM_12 (show kM 0 = 12 by decide)) [vI x1] (fun sz2 => mX12_isFeature l hinj sz2 hf) (cwV 1 hC.1.2.2.2.2 (uV (uT _) u1865 u1867 u62 u118 u1868) rfl rfl rfl (by decide +kernel) ⟨Nat.le_of_ble_eq_true rfl, Nat.le_of_ble_eq_true rfl⟩) rfl rfl (Nat.le_of_ble_eq_true rfl) ⟨Nat.le_of_ble_eq_true rfl, Nat.le_of_ble_eq_true rfl⟩ dX12_noTrack_3 (fun r1 σ1 hf => ?_)
  refine z_callVi hC hE (oM_12 (show kM 0 = 12 by decide)) [vI r1] (fun sz2 => mX12_fails l hinj sz2 hf) (cwV 1 hC.1.2.2.2.2 (uV (uT _) u1833 u1835 u58 u118 u1836) rfl rfl rfl (by decide +kernel) ⟨Nat.le_of_ble_eq_true rfl, Nat.le_of_ble_eq_true rfl⟩) rfl rfl (Nat.le_of_ble_eq_true rfl) ⟨Nat.le_of_ble_eq_true rfl, Nat.le_of_ble_eq_true rfl⟩ dX12_noTrack_6 (fun r2 σ2 hf => ?_)
  obtain ⟨g3, hf⟩ := hf
  refine z_if_eq (tgt := 14) hC dX12_noTrack_9 (by decide) g3 (fun hc => ?_) (fun hc => ?_)
  · replace hf := hf.1 hc
    refine z_aload_n hC dX12_noTrack_14 0 rfl rfl ?_
    refine z_iload_n hC dX12_noTrack_15 1 rfl rfl ?_
    refine z_aload_n hC dX12_noTrack_16 0 rfl rfl ?_
    refine z_iconst hC dX12_noTrack_17 ?_
    refine z_callVi hC hE (oM_12 (show kM 0 = 12 by decide)) [vI 4] (fun sz2 => mX12_setting l hinj sz2 hf) (cwV 1 hC.1.2.2.2.2 (uV (uT _) u1813 u1815 u55 u118 u1816) rfl rfl rfl (by decide +kernel) ⟨Nat.le_of_ble_eq_true rfl, Nat.le_of_ble_eq_true rfl⟩) rfl rfl (Nat.le_of_ble_eq_true rfl) ⟨Nat.le_of_ble_eq_true rfl, Nat.le_of_ble_eq_true rfl⟩ dX12_noTrack_18 (fun r4 σ4 hf => ?_)
    refine z_callVv hC hE (oM_12 (show kM 0 = 12 by decide)) [vI x1, vI r4] (fun sz2 => mX12_track l hinj sz2 hf) (cwV 2 hC.1.2.2.2.2 (uV (uT _) u1968 u1970 u76 u118 u1971) rfl rfl rfl (by decide +kernel) ⟨Nat.le_of_ble_eq_true rfl, Nat.le_of_ble_eq_true rfl⟩) rfl rfl (Nat.le_of_ble_eq_true rfl) ⟨Nat.le_of_ble_eq_true rfl, Nat.le_of_ble_eq_true rfl⟩ dX12_noTrack_21 (fun σ5 hf => ?_)
    refine z_iconst hC dX12_noTrack_24 ?_
    exact z_bret hC hr rfl dX12_noTrack_25 (Or.inl rfl) hf
  · replace hf := hf.2 hc
    refine z_iconst hC dX12_noTrack_12 ?_
    exact z_bret hC hr rfl dX12_noTrack_13 (Or.inr rfl) hf

-- ===== X12_trackX
def fX12_trackX_B22 (K : Int → zSt → Prop) (σ : zSt) (x1 : Int) (x2 : Int) (s0 : Int) : Prop :=
  fX12_fails (fun r5 σ5 => zrg r5 ∧ ((r5 = 0 → fX12_setting (fun r7 σ7 => fX12_track (fun σ8 => (0 ≤ x2 ∧ x2 < 6) ∧ zrg (σ8 9 x2) ∧ ((σ8 9 x2 = 0 → K (-1) σ8) ∧ (¬ σ8 9 x2 = 0 → K (σ8 10 x2) σ8))) σ7 x1 r7) σ5 4) ∧ (¬ r5 = 0 → K 0 σ5))) σ s0
def fX12_trackX_B21 (K : Int → zSt → Prop) (σ : zSt) (x1 : Int) (x2 : Int) : Prop :=
  fX12_trackX_B22 K σ x1 x2 0
def fX12_trackX (K : Int → zSt → Prop) (σ : zSt) (x1 : Int) (x2 : Int) : Prop :=
  fX12_isFeature (fun r1 σ1 => zrg r1 ∧ ((r1 = 0 → fX12_trackX_B21 K σ1 x1 x2) ∧ (¬ r1 = 0 → fX12_isFrame (fun r3 σ3 => zrg r3 ∧ ((r3 = 0 → fX12_trackX_B21 K σ3 x1 x2) ∧ (¬ r3 = 0 → fX12_trackX_B22 K σ3 x1 x2 1))) σ1 x2))) σ x1
set_option maxHeartbeats 4000000 in
set_option maxRecDepth 100000 in
theorem wX12_trackX_B22 {p : Program} {l : Launch} {e : Env} {s : State} {m : MethodId} {args : Array Value} {below : List Frame} {meth : Method} {c : Code} {D : va_G} {dA : Nat → ClassId} {ad : Nat → Nat} {sz : Nat}  {K : Int → zSt → Prop} (hC : zC p m c cX12_trackX 3 s args (Cond.code yX12_trackX cX12_trackX 3 (some .int) :: UW) RX12 meth D vwCl (tyA dA) (zA ad NM sz) NM ad (celM ad dA)) (hE : zE zX0 (zA ad NM sz) s s.heap) (hr : meth.sig.returnType = (some .int)) (hinj : ∀ i j, i < NM → j < NM → ad i = ad j → i = j) {σ : zSt} {x1 : Int} {x2 : Int} {s0 : Int} (hf : fX12_trackX_B22 K σ x1 x2 s0) : zAt p l e ({ frames := 6, cells := 0, slots := 0, locals := 152 } : Room) s m args below meth c 0 0 (MQ below (va_Qi (zPi K) (zB D vwCl (tyA dA) NM ad (celM ad dA)) (zA ad NM sz)) args s 0 0 (zA ad NM sz)) 3 D vwCl (zA ad NM sz) NM ad (celM ad dA) 22 [(0, vR ad 0), (1, vI x1), (2, vI x2)] [vI s0, vR ad 0] σ := by
  refine z_callVi hC hE (oM_12 (show kM 0 = 12 by decide)) [vI s0] (fun sz2 => mX12_fails l hinj sz2 hf) (cwV 1 hC.1.2.2.2.2 (uV (uT _) u1833 u1835 u58 u118 u1836) rfl rfl rfl (by decide +kernel) ⟨Nat.le_of_ble_eq_true rfl, Nat.le_of_ble_eq_true rfl⟩) rfl rfl (Nat.le_of_ble_eq_true rfl) ⟨Nat.le_of_ble_eq_true rfl, Nat.le_of_ble_eq_true rfl⟩ dX12_trackX_22 (fun r5 σ5 hf => ?_)
  obtain ⟨g6, hf⟩ := hf
  refine z_if_eq (tgt := 30) hC dX12_trackX_25 (by decide) g6 (fun hc => ?_) (fun hc => ?_)
  · replace hf := hf.1 hc
    refine z_aload_n hC dX12_trackX_30 0 rfl rfl ?_
    refine z_iload_n hC dX12_trackX_31 1 rfl rfl ?_
    refine z_aload_n hC dX12_trackX_32 0 rfl rfl ?_
    refine z_iconst hC dX12_trackX_33 ?_
    refine z_callVi hC hE (oM_12 (show kM 0 = 12 by decide)) [vI 4] (fun sz2 => mX12_setting l hinj sz2 hf) (cwV 1 hC.1.2.2.2.2 (uV (uT _) u1813 u1815 u55 u118 u1816) rfl rfl rfl (by decide +kernel) ⟨Nat.le_of_ble_eq_true rfl, Nat.le_of_ble_eq_true rfl⟩) rfl rfl (Nat.le_of_ble_eq_true rfl) ⟨Nat.le_of_ble_eq_true rfl, Nat.le_of_ble_eq_true rfl⟩ dX12_trackX_34 (fun r7 σ7 hf => ?_)
    refine z_callVv hC hE (oM_12 (show kM 0 = 12 by decide)) [vI x1, vI r7] (fun sz2 => mX12_track l hinj sz2 hf) (cwV 2 hC.1.2.2.2.2 (uV (uT _) u1968 u1970 u76 u118 u1971) rfl rfl rfl (by decide +kernel) ⟨Nat.le_of_ble_eq_true rfl, Nat.le_of_ble_eq_true rfl⟩) rfl rfl (Nat.le_of_ble_eq_true rfl) ⟨Nat.le_of_ble_eq_true rfl, Nat.le_of_ble_eq_true rfl⟩ dX12_trackX_37 (fun σ8 hf => ?_)
    refine z_aload_n hC dX12_trackX_40 0 rfl rfl ?_
    refine z_get hC (fun w h => uT _ w (uL12 w h)) (oM_12 (show kM 0 = 12 by decide)) 26 (by decide) (uT _ _ u1571) rfl rfl dX12_trackX_41 ?_
    refine z_iload_n hC dX12_trackX_44 2 rfl rfl ?_
    obtain ⟨g9, hf⟩ := hf
    refine z_zaload hC (aM_33 (show kM 9 = 33 by decide)) g9 dX12_trackX_45 ?_
    obtain ⟨g10, hf⟩ := hf
    refine z_if_eq (tgt := 58) hC dX12_trackX_46 (by decide) g10 (fun hc => ?_) (fun hc => ?_)
    · replace hf := hf.1 hc
      refine z_iconst hC dX12_trackX_58 ?_
      exact z_iret hC hr rfl dX12_trackX_59 hf
    · replace hf := hf.2 hc
      refine z_aload_n hC dX12_trackX_49 0 rfl rfl ?_
      refine z_get hC (fun w h => uT _ w (uL12 w h)) (oM_12 (show kM 0 = 12 by decide)) 27 (by decide) (uT _ _ u1572) rfl rfl dX12_trackX_50 ?_
      refine z_iload_n hC dX12_trackX_53 2 rfl rfl ?_
      refine z_iaload hC (aM_34 (show kM 10 = 34 by decide)) g9 dX12_trackX_54 ?_
      refine z_goto (tgt := 59) hC dX12_trackX_55 (by decide) ?_
      exact z_iret hC hr rfl dX12_trackX_59 hf
  · replace hf := hf.2 hc
    refine z_iconst hC dX12_trackX_28 ?_
    exact z_iret hC hr rfl dX12_trackX_29 hf
set_option maxHeartbeats 4000000 in
set_option maxRecDepth 100000 in
theorem wX12_trackX_B21 {p : Program} {l : Launch} {e : Env} {s : State} {m : MethodId} {args : Array Value} {below : List Frame} {meth : Method} {c : Code} {D : va_G} {dA : Nat → ClassId} {ad : Nat → Nat} {sz : Nat}  {K : Int → zSt → Prop} (hC : zC p m c cX12_trackX 3 s args (Cond.code yX12_trackX cX12_trackX 3 (some .int) :: UW) RX12 meth D vwCl (tyA dA) (zA ad NM sz) NM ad (celM ad dA)) (hE : zE zX0 (zA ad NM sz) s s.heap) (hr : meth.sig.returnType = (some .int)) (hinj : ∀ i j, i < NM → j < NM → ad i = ad j → i = j) {σ : zSt} {x1 : Int} {x2 : Int} (hf : fX12_trackX_B21 K σ x1 x2) : zAt p l e ({ frames := 6, cells := 0, slots := 0, locals := 152 } : Room) s m args below meth c 0 0 (MQ below (va_Qi (zPi K) (zB D vwCl (tyA dA) NM ad (celM ad dA)) (zA ad NM sz)) args s 0 0 (zA ad NM sz)) 3 D vwCl (zA ad NM sz) NM ad (celM ad dA) 21 [(0, vR ad 0), (1, vI x1), (2, vI x2)] [vR ad 0] σ := by
  refine z_iconst hC dX12_trackX_21 ?_
  exact wX12_trackX_B22 hC hE hr hinj  hf
set_option maxHeartbeats 4000000 in
set_option maxRecDepth 100000 in
theorem mX12_trackX {D : va_G} {dA : Nat → ClassId} {ad : Nat → Nat}  (l : Launch) (hinj : ∀ i j, i < NM → j < NM → ad i = ad j → i = j) (sz : Nat) {K : Int → zSt → Prop} {σ : zSt} {x1 : Int} {x2 : Int} (hf : fX12_trackX K σ x1 x2) : Met l yX12_trackX (Cond.code yX12_trackX cX12_trackX 3 (some .int) :: UW) ({ frames := 6, cells := 0, slots := 0, locals := 152 } : Room) (va_Pc [vR ad 0, vI x1, vI x2] (zPre D vwCl (tyA dA) zX0 NM ad (celM ad dA) sz σ)) (va_Qi (zPi K) (zB D vwCl (tyA dA) NM ad (celM ad dA)) (zA ad NM sz)) 0 0 (zA ad NM sz) := by
  refine z_enter (cc := cX12_trackX) (maxL := 3) (ret := (some .int)) (vs := [vR ad 0, vI x1, vI x2]) (plainFor_of_name (by decide)) rfl hinj (Nat.le_of_ble_eq_true rfl) ?_
  intro p e s m args below meth c hC hE hsz hr hnm
  show zAt p l e ({ frames := 6, cells := 0, slots := 0, locals := 152 } : Room) s m args below meth c 0 0 (MQ below (va_Qi (zPi K) (zB D vwCl (tyA dA) NM ad (celM ad dA)) (zA ad NM sz)) args s 0 0 (zA ad NM sz)) 3 D vwCl (zA ad NM sz) NM ad (celM ad dA) 0 [(0, vR ad 0), (1, vI x1), (2, vI x2)] [] σ
  refine z_aload_n hC dX12_trackX_0 0 rfl rfl ?_
  refine z_aload_n hC dX12_trackX_1 0 rfl rfl ?_
  refine z_iload_n hC dX12_trackX_2 1 rfl rfl ?_
  refine z_callVi hC hE (oM_12 (show kM 0 = 12 by decide)) [vI x1] (fun sz2 => mX12_isFeature l hinj sz2 hf) (cwV 1 hC.1.2.2.2.2 (uV (uT _) u1865 u1867 u62 u118 u1868) rfl rfl rfl (by decide +kernel) ⟨Nat.le_of_ble_eq_true rfl, Nat.le_of_ble_eq_true rfl⟩) rfl rfl (Nat.le_of_ble_eq_true rfl) ⟨Nat.le_of_ble_eq_true rfl, Nat.le_of_ble_eq_true rfl⟩ dX12_trackX_3 (fun r1 σ1 hf => ?_)
  obtain ⟨g2, hf⟩ := hf
  refine z_if_eq (tgt := 21) hC dX12_trackX_6 (by decide) g2 (fun hc => ?_) (fun hc => ?_)
  · replace hf := hf.1 hc
    exact wX12_trackX_B21 hC hE hr hinj  hf
  · replace hf := hf.2 hc
    refine z_aload_n hC dX12_trackX_9 0 rfl rfl ?_
    refine z_iload_n hC dX12_trackX_10 2 rfl rfl ?_
    refine z_callVi hC hE (oM_12 (show kM 0 = 12 by decide)) [vI x2] (fun sz2 => mX12_isFrame l hinj sz2 hf) (cwV 1 hC.1.2.2.2.2 (uV (uT _) u1829 u1831 u57 u118 u1832) rfl rfl rfl (by decide +kernel) ⟨Nat.le_of_ble_eq_true rfl, Nat.le_of_ble_eq_true rfl⟩) rfl rfl (Nat.le_of_ble_eq_true rfl) ⟨Nat.le_of_ble_eq_true rfl, Nat.le_of_ble_eq_true rfl⟩ dX12_trackX_11 (fun r3 σ3 hf => ?_)
    obtain ⟨g4, hf⟩ := hf
    refine z_if_eq (tgt := 21) hC dX12_trackX_14 (by decide) g4 (fun hc => ?_) (fun hc => ?_)
    · replace hf := hf.1 hc
      exact wX12_trackX_B21 hC hE hr hinj  hf
    · replace hf := hf.2 hc
      refine z_iconst hC dX12_trackX_17 ?_
      refine z_goto (tgt := 22) hC dX12_trackX_18 (by decide) ?_
      exact wX12_trackX_B22 hC hE hr hinj  hf

-- ===== X12_trackY
def fX12_trackY_B22 (K : Int → zSt → Prop) (σ : zSt) (x1 : Int) (x2 : Int) (s0 : Int) : Prop :=
  fX12_fails (fun r5 σ5 => zrg r5 ∧ ((r5 = 0 → fX12_setting (fun r7 σ7 => fX12_track (fun σ8 => (0 ≤ x2 ∧ x2 < 6) ∧ zrg (σ8 9 x2) ∧ ((σ8 9 x2 = 0 → K (-1) σ8) ∧ (¬ σ8 9 x2 = 0 → K (σ8 11 x2) σ8))) σ7 x1 r7) σ5 4) ∧ (¬ r5 = 0 → K 0 σ5))) σ s0
def fX12_trackY_B21 (K : Int → zSt → Prop) (σ : zSt) (x1 : Int) (x2 : Int) : Prop :=
  fX12_trackY_B22 K σ x1 x2 0
def fX12_trackY (K : Int → zSt → Prop) (σ : zSt) (x1 : Int) (x2 : Int) : Prop :=
  fX12_isFeature (fun r1 σ1 => zrg r1 ∧ ((r1 = 0 → fX12_trackY_B21 K σ1 x1 x2) ∧ (¬ r1 = 0 → fX12_isFrame (fun r3 σ3 => zrg r3 ∧ ((r3 = 0 → fX12_trackY_B21 K σ3 x1 x2) ∧ (¬ r3 = 0 → fX12_trackY_B22 K σ3 x1 x2 1))) σ1 x2))) σ x1
set_option maxHeartbeats 4000000 in
set_option maxRecDepth 100000 in
theorem wX12_trackY_B22 {p : Program} {l : Launch} {e : Env} {s : State} {m : MethodId} {args : Array Value} {below : List Frame} {meth : Method} {c : Code} {D : va_G} {dA : Nat → ClassId} {ad : Nat → Nat} {sz : Nat}  {K : Int → zSt → Prop} (hC : zC p m c cX12_trackY 3 s args (Cond.code yX12_trackY cX12_trackY 3 (some .int) :: UW) RX12 meth D vwCl (tyA dA) (zA ad NM sz) NM ad (celM ad dA)) (hE : zE zX0 (zA ad NM sz) s s.heap) (hr : meth.sig.returnType = (some .int)) (hinj : ∀ i j, i < NM → j < NM → ad i = ad j → i = j) {σ : zSt} {x1 : Int} {x2 : Int} {s0 : Int} (hf : fX12_trackY_B22 K σ x1 x2 s0) : zAt p l e ({ frames := 6, cells := 0, slots := 0, locals := 152 } : Room) s m args below meth c 0 0 (MQ below (va_Qi (zPi K) (zB D vwCl (tyA dA) NM ad (celM ad dA)) (zA ad NM sz)) args s 0 0 (zA ad NM sz)) 3 D vwCl (zA ad NM sz) NM ad (celM ad dA) 22 [(0, vR ad 0), (1, vI x1), (2, vI x2)] [vI s0, vR ad 0] σ := by
  refine z_callVi hC hE (oM_12 (show kM 0 = 12 by decide)) [vI s0] (fun sz2 => mX12_fails l hinj sz2 hf) (cwV 1 hC.1.2.2.2.2 (uV (uT _) u1833 u1835 u58 u118 u1836) rfl rfl rfl (by decide +kernel) ⟨Nat.le_of_ble_eq_true rfl, Nat.le_of_ble_eq_true rfl⟩) rfl rfl (Nat.le_of_ble_eq_true rfl) ⟨Nat.le_of_ble_eq_true rfl, Nat.le_of_ble_eq_true rfl⟩ dX12_trackY_22 (fun r5 σ5 hf => ?_)
  obtain ⟨g6, hf⟩ := hf
  refine z_if_eq (tgt := 30) hC dX12_trackY_25 (by decide) g6 (fun hc => ?_) (fun hc => ?_)
  · replace hf := hf.1 hc
    refine z_aload_n hC dX12_trackY_30 0 rfl rfl ?_
    refine z_iload_n hC dX12_trackY_31 1 rfl rfl ?_
    refine z_aload_n hC dX12_trackY_32 0 rfl rfl ?_
    refine z_iconst hC dX12_trackY_33 ?_
    refine z_callVi hC hE (oM_12 (show kM 0 = 12 by decide)) [vI 4] (fun sz2 => mX12_setting l hinj sz2 hf) (cwV 1 hC.1.2.2.2.2 (uV (uT _) u1813 u1815 u55 u118 u1816) rfl rfl rfl (by decide +kernel) ⟨Nat.le_of_ble_eq_true rfl, Nat.le_of_ble_eq_true rfl⟩) rfl rfl (Nat.le_of_ble_eq_true rfl) ⟨Nat.le_of_ble_eq_true rfl, Nat.le_of_ble_eq_true rfl⟩ dX12_trackY_34 (fun r7 σ7 hf => ?_)
    refine z_callVv hC hE (oM_12 (show kM 0 = 12 by decide)) [vI x1, vI r7] (fun sz2 => mX12_track l hinj sz2 hf) (cwV 2 hC.1.2.2.2.2 (uV (uT _) u1968 u1970 u76 u118 u1971) rfl rfl rfl (by decide +kernel) ⟨Nat.le_of_ble_eq_true rfl, Nat.le_of_ble_eq_true rfl⟩) rfl rfl (Nat.le_of_ble_eq_true rfl) ⟨Nat.le_of_ble_eq_true rfl, Nat.le_of_ble_eq_true rfl⟩ dX12_trackY_37 (fun σ8 hf => ?_)
    refine z_aload_n hC dX12_trackY_40 0 rfl rfl ?_
    refine z_get hC (fun w h => uT _ w (uL12 w h)) (oM_12 (show kM 0 = 12 by decide)) 26 (by decide) (uT _ _ u1571) rfl rfl dX12_trackY_41 ?_
    refine z_iload_n hC dX12_trackY_44 2 rfl rfl ?_
    obtain ⟨g9, hf⟩ := hf
    refine z_zaload hC (aM_33 (show kM 9 = 33 by decide)) g9 dX12_trackY_45 ?_
    obtain ⟨g10, hf⟩ := hf
    refine z_if_eq (tgt := 58) hC dX12_trackY_46 (by decide) g10 (fun hc => ?_) (fun hc => ?_)
    · replace hf := hf.1 hc
      refine z_iconst hC dX12_trackY_58 ?_
      exact z_iret hC hr rfl dX12_trackY_59 hf
    · replace hf := hf.2 hc
      refine z_aload_n hC dX12_trackY_49 0 rfl rfl ?_
      refine z_get hC (fun w h => uT _ w (uL12 w h)) (oM_12 (show kM 0 = 12 by decide)) 28 (by decide) (uT _ _ u1573) rfl rfl dX12_trackY_50 ?_
      refine z_iload_n hC dX12_trackY_53 2 rfl rfl ?_
      refine z_iaload hC (aM_34 (show kM 11 = 34 by decide)) g9 dX12_trackY_54 ?_
      refine z_goto (tgt := 59) hC dX12_trackY_55 (by decide) ?_
      exact z_iret hC hr rfl dX12_trackY_59 hf
  · replace hf := hf.2 hc
    refine z_iconst hC dX12_trackY_28 ?_
    exact z_iret hC hr rfl dX12_trackY_29 hf
set_option maxHeartbeats 4000000 in
set_option maxRecDepth 100000 in
theorem wX12_trackY_B21 {p : Program} {l : Launch} {e : Env} {s : State} {m : MethodId} {args : Array Value} {below : List Frame} {meth : Method} {c : Code} {D : va_G} {dA : Nat → ClassId} {ad : Nat → Nat} {sz : Nat}  {K : Int → zSt → Prop} (hC : zC p m c cX12_trackY 3 s args (Cond.code yX12_trackY cX12_trackY 3 (some .int) :: UW) RX12 meth D vwCl (tyA dA) (zA ad NM sz) NM ad (celM ad dA)) (hE : zE zX0 (zA ad NM sz) s s.heap) (hr : meth.sig.returnType = (some .int)) (hinj : ∀ i j, i < NM → j < NM → ad i = ad j → i = j) {σ : zSt} {x1 : Int} {x2 : Int} (hf : fX12_trackY_B21 K σ x1 x2) : zAt p l e ({ frames := 6, cells := 0, slots := 0, locals := 152 } : Room) s m args below meth c 0 0 (MQ below (va_Qi (zPi K) (zB D vwCl (tyA dA) NM ad (celM ad dA)) (zA ad NM sz)) args s 0 0 (zA ad NM sz)) 3 D vwCl (zA ad NM sz) NM ad (celM ad dA) 21 [(0, vR ad 0), (1, vI x1), (2, vI x2)] [vR ad 0] σ := by
  refine z_iconst hC dX12_trackY_21 ?_
  exact wX12_trackY_B22 hC hE hr hinj  hf
set_option maxHeartbeats 4000000 in
set_option maxRecDepth 100000 in
theorem mX12_trackY {D : va_G} {dA : Nat → ClassId} {ad : Nat → Nat}  (l : Launch) (hinj : ∀ i j, i < NM → j < NM → ad i = ad j → i = j) (sz : Nat) {K : Int → zSt → Prop} {σ : zSt} {x1 : Int} {x2 : Int} (hf : fX12_trackY K σ x1 x2) : Met l yX12_trackY (Cond.code yX12_trackY cX12_trackY 3 (some .int) :: UW) ({ frames := 6, cells := 0, slots := 0, locals := 152 } : Room) (va_Pc [vR ad 0, vI x1, vI x2] (zPre D vwCl (tyA dA) zX0 NM ad (celM ad dA) sz σ)) (va_Qi (zPi K) (zB D vwCl (tyA dA) NM ad (celM ad dA)) (zA ad NM sz)) 0 0 (zA ad NM sz) := by
  refine z_enter (cc := cX12_trackY) (maxL := 3) (ret := (some .int)) (vs := [vR ad 0, vI x1, vI x2]) (plainFor_of_name (by decide)) rfl hinj (Nat.le_of_ble_eq_true rfl) ?_
  intro p e s m args below meth c hC hE hsz hr hnm
  show zAt p l e ({ frames := 6, cells := 0, slots := 0, locals := 152 } : Room) s m args below meth c 0 0 (MQ below (va_Qi (zPi K) (zB D vwCl (tyA dA) NM ad (celM ad dA)) (zA ad NM sz)) args s 0 0 (zA ad NM sz)) 3 D vwCl (zA ad NM sz) NM ad (celM ad dA) 0 [(0, vR ad 0), (1, vI x1), (2, vI x2)] [] σ
  refine z_aload_n hC dX12_trackY_0 0 rfl rfl ?_
  refine z_aload_n hC dX12_trackY_1 0 rfl rfl ?_
  refine z_iload_n hC dX12_trackY_2 1 rfl rfl ?_
  refine z_callVi hC hE (oM_12 (show kM 0 = 12 by decide)) [vI x1] (fun sz2 => mX12_isFeature l hinj sz2 hf) (cwV 1 hC.1.2.2.2.2 (uV (uT _) u1865 u1867 u62 u118 u1868) rfl rfl rfl (by decide +kernel) ⟨Nat.le_of_ble_eq_true rfl, Nat.le_of_ble_eq_true rfl⟩) rfl rfl (Nat.le_of_ble_eq_true rfl) ⟨Nat.le_of_ble_eq_true rfl, Nat.le_of_ble_eq_true rfl⟩ dX12_trackY_3 (fun r1 σ1 hf => ?_)
  obtain ⟨g2, hf⟩ := hf
  refine z_if_eq (tgt := 21) hC dX12_trackY_6 (by decide) g2 (fun hc => ?_) (fun hc => ?_)
  · replace hf := hf.1 hc
    exact wX12_trackY_B21 hC hE hr hinj  hf
  · replace hf := hf.2 hc
    refine z_aload_n hC dX12_trackY_9 0 rfl rfl ?_
    refine z_iload_n hC dX12_trackY_10 2 rfl rfl ?_
    refine z_callVi hC hE (oM_12 (show kM 0 = 12 by decide)) [vI x2] (fun sz2 => mX12_isFrame l hinj sz2 hf) (cwV 1 hC.1.2.2.2.2 (uV (uT _) u1829 u1831 u57 u118 u1832) rfl rfl rfl (by decide +kernel) ⟨Nat.le_of_ble_eq_true rfl, Nat.le_of_ble_eq_true rfl⟩) rfl rfl (Nat.le_of_ble_eq_true rfl) ⟨Nat.le_of_ble_eq_true rfl, Nat.le_of_ble_eq_true rfl⟩ dX12_trackY_11 (fun r3 σ3 hf => ?_)
    obtain ⟨g4, hf⟩ := hf
    refine z_if_eq (tgt := 21) hC dX12_trackY_14 (by decide) g4 (fun hc => ?_) (fun hc => ?_)
    · replace hf := hf.1 hc
      exact wX12_trackY_B21 hC hE hr hinj  hf
    · replace hf := hf.2 hc
      refine z_iconst hC dX12_trackY_17 ?_
      refine z_goto (tgt := 22) hC dX12_trackY_18 (by decide) ?_
      exact wX12_trackY_B22 hC hE hr hinj  hf

-- ===== X12_lost
noncomputable def fX12_lost_B4 (K : Int → zSt → Prop) (n : Nat) : zSt → Int → Int → Prop :=
  Nat.rec (motive := fun _ => zSt → Int → Int → Prop) (fun _ _ _ => False) (fun _ ih σ x1 x2 => zrg x2 ∧ zrg (σ 1 2) ∧ ((σ 1 2 ≤ x2 → K x1 σ) ∧ (¬ σ 1 2 ≤ x2 → (0 ≤ x2 ∧ x2 < 6) ∧ zrg (σ 5 x2) ∧ ((σ 5 x2 = 0 → ih σ (x1 + 0) (x2 + 1)) ∧ (¬ σ 5 x2 = 0 → zrg (σ 9 x2) ∧ ((σ 9 x2 = 0 → ih σ (x1 + 1) (x2 + 1)) ∧ (¬ σ 9 x2 = 0 → ih σ (x1 + 0) (x2 + 1)))))))) n
theorem uX12_lost_B4 (K : Int → zSt → Prop) (n0 : Nat) (σ : zSt) (x1 : Int) (x2 : Int) : fX12_lost_B4 K (n0 + 1) σ x1 x2 = (zrg x2 ∧ zrg (σ 1 2) ∧ ((σ 1 2 ≤ x2 → K x1 σ) ∧ (¬ σ 1 2 ≤ x2 → (0 ≤ x2 ∧ x2 < 6) ∧ zrg (σ 5 x2) ∧ ((σ 5 x2 = 0 → (fX12_lost_B4 K n0) σ (x1 + 0) (x2 + 1)) ∧ (¬ σ 5 x2 = 0 → zrg (σ 9 x2) ∧ ((σ 9 x2 = 0 → (fX12_lost_B4 K n0) σ (x1 + 1) (x2 + 1)) ∧ (¬ σ 9 x2 = 0 → (fX12_lost_B4 K n0) σ (x1 + 0) (x2 + 1)))))))) := rfl
def fX12_lost (K : Int → zSt → Prop) (σ : zSt) : Prop :=
  (∃ n, fX12_lost_B4 K n σ 0 0)
set_option maxHeartbeats 4000000 in
set_option maxRecDepth 100000 in
theorem wX12_lost_B4 {p : Program} {l : Launch} {e : Env} {s : State} {m : MethodId} {args : Array Value} {below : List Frame} {meth : Method} {c : Code} {D : va_G} {dA : Nat → ClassId} {ad : Nat → Nat} {sz : Nat}  {K : Int → zSt → Prop} (hC : zC p m c cX12_lost 3 s args (Cond.code yX12_lost cX12_lost 3 (some .int) :: UW) RX12 meth D vwCl (tyA dA) (zA ad NM sz) NM ad (celM ad dA)) (hE : zE zX0 (zA ad NM sz) s s.heap) (hr : meth.sig.returnType = (some .int)) (hinj : ∀ i j, i < NM → j < NM → ad i = ad j → i = j) : ∀ (n : Nat) (σ : zSt) (x1 : Int) (x2 : Int), fX12_lost_B4 K n σ x1 x2 → zAt p l e ({ frames := 0, cells := 0, slots := 0, locals := 0 } : Room) s m args below meth c 0 0 (MQ below (va_Qi (zPi K) (zB D vwCl (tyA dA) NM ad (celM ad dA)) (zA ad NM sz)) args s 0 0 (zA ad NM sz)) 3 D vwCl (zA ad NM sz) NM ad (celM ad dA) 4 [(0, vR ad 0), (1, vI x1), (2, vI x2)] [] σ := by
  intro n
  induction n with
  | zero => intro σ x1 x2  hf; exact False.elim hf
  | succ n ih =>
    intro σ x1 x2  hf
    rw [uX12_lost_B4] at hf
    refine z_iload_n hC dX12_lost_4 2 rfl rfl ?_
    refine z_aload_n hC dX12_lost_5 0 rfl rfl ?_
    refine z_get hC (fun w h => uT _ w (uL12 w h)) (oM_12 (show kM 0 = 12 by decide)) 0 (by decide) (uT _ _ u1545) rfl rfl dX12_lost_6 ?_
    refine z_iconst hC dX12_lost_9 ?_
    refine z_iaload hC (aM_30 (show kM 1 = 30 by decide)) ⟨by decide, by decide⟩ dX12_lost_10 ?_
    obtain ⟨g1, hf⟩ := hf
    obtain ⟨g2, hf⟩ := hf
    refine z_icmp_ge (tgt := 46) hC dX12_lost_11 (by decide) g1 g2 (fun hc => ?_) (fun hc => ?_)
    · replace hf := hf.1 hc
      refine z_iload_n hC dX12_lost_46 1 rfl rfl ?_
      exact z_iret hC hr rfl dX12_lost_47 hf
    · replace hf := hf.2 hc
      refine z_iload_n hC dX12_lost_14 1 rfl rfl ?_
      refine z_aload_n hC dX12_lost_15 0 rfl rfl ?_
      refine z_get hC (fun w h => uT _ w (uL12 w h)) (oM_12 (show kM 0 = 12 by decide)) 18 (by decide) (uT _ _ u1563) rfl rfl dX12_lost_16 ?_
      refine z_iload_n hC dX12_lost_19 2 rfl rfl ?_
      obtain ⟨g3, hf⟩ := hf
      refine z_zaload hC (aM_33 (show kM 5 = 33 by decide)) g3 dX12_lost_20 ?_
      obtain ⟨g4, hf⟩ := hf
      refine z_if_eq (tgt := 37) hC dX12_lost_21 (by decide) g4 (fun hc => ?_) (fun hc => ?_)
      · replace hf := hf.1 hc
        refine z_iconst hC dX12_lost_37 ?_
        refine z_iadd hC dX12_lost_38 ?_
        refine z_istore_n hC ([(1, vI (x1 + 0)), (0, vR ad 0), (2, vI x2)]) dX12_lost_39 rfl (by decide) rfl ?_
        refine z_iinc hC ([(2, vI (x2 + 1)), (1, vI (x1 + 0)), (0, vR ad 0)]) dX12_lost_40 2 rfl (by decide) rfl ?_
        refine z_goto (tgt := 4) hC dX12_lost_43 (by decide) ?_
        refine z_sub (lv' := [(0, vR ad 0), (1, vI (x1 + 0)), (2, vI (x2 + 1))]) [2, 1, 0] rfl ?_
        exact ih _ _ _ hf
      · replace hf := hf.2 hc
        refine z_aload_n hC dX12_lost_24 0 rfl rfl ?_
        refine z_get hC (fun w h => uT _ w (uL12 w h)) (oM_12 (show kM 0 = 12 by decide)) 26 (by decide) (uT _ _ u1571) rfl rfl dX12_lost_25 ?_
        refine z_iload_n hC dX12_lost_28 2 rfl rfl ?_
        refine z_zaload hC (aM_33 (show kM 9 = 33 by decide)) g3 dX12_lost_29 ?_
        obtain ⟨g5, hf⟩ := hf
        refine z_if_ne (tgt := 37) hC dX12_lost_30 (by decide) g5 (fun hc => ?_) (fun hc => ?_)
        · replace hf := hf.2 hc
          refine z_iconst hC dX12_lost_37 ?_
          refine z_iadd hC dX12_lost_38 ?_
          refine z_istore_n hC ([(1, vI (x1 + 0)), (0, vR ad 0), (2, vI x2)]) dX12_lost_39 rfl (by decide) rfl ?_
          refine z_iinc hC ([(2, vI (x2 + 1)), (1, vI (x1 + 0)), (0, vR ad 0)]) dX12_lost_40 2 rfl (by decide) rfl ?_
          refine z_goto (tgt := 4) hC dX12_lost_43 (by decide) ?_
          refine z_sub (lv' := [(0, vR ad 0), (1, vI (x1 + 0)), (2, vI (x2 + 1))]) [2, 1, 0] rfl ?_
          exact ih _ _ _ hf
        · replace hf := hf.1 hc
          refine z_iconst hC dX12_lost_33 ?_
          refine z_goto (tgt := 38) hC dX12_lost_34 (by decide) ?_
          refine z_iadd hC dX12_lost_38 ?_
          refine z_istore_n hC ([(1, vI (x1 + 1)), (0, vR ad 0), (2, vI x2)]) dX12_lost_39 rfl (by decide) rfl ?_
          refine z_iinc hC ([(2, vI (x2 + 1)), (1, vI (x1 + 1)), (0, vR ad 0)]) dX12_lost_40 2 rfl (by decide) rfl ?_
          refine z_goto (tgt := 4) hC dX12_lost_43 (by decide) ?_
          refine z_sub (lv' := [(0, vR ad 0), (1, vI (x1 + 1)), (2, vI (x2 + 1))]) [2, 1, 0] rfl ?_
          exact ih _ _ _ hf
set_option maxHeartbeats 4000000 in
set_option maxRecDepth 100000 in
theorem mX12_lost {D : va_G} {dA : Nat → ClassId} {ad : Nat → Nat}  (l : Launch) (hinj : ∀ i j, i < NM → j < NM → ad i = ad j → i = j) (sz : Nat) {K : Int → zSt → Prop} {σ : zSt} (hf : fX12_lost K σ ) : Met l yX12_lost (Cond.code yX12_lost cX12_lost 3 (some .int) :: UW) ({ frames := 0, cells := 0, slots := 0, locals := 0 } : Room) (va_Pc [vR ad 0] (zPre D vwCl (tyA dA) zX0 NM ad (celM ad dA) sz σ)) (va_Qi (zPi K) (zB D vwCl (tyA dA) NM ad (celM ad dA)) (zA ad NM sz)) 0 0 (zA ad NM sz) := by
  refine z_enter (cc := cX12_lost) (maxL := 3) (ret := (some .int)) (vs := [vR ad 0]) (plainFor_of_name (by decide)) rfl hinj (Nat.le_of_ble_eq_true rfl) ?_
  intro p e s m args below meth c hC hE hsz hr hnm
  show zAt p l e ({ frames := 0, cells := 0, slots := 0, locals := 0 } : Room) s m args below meth c 0 0 (MQ below (va_Qi (zPi K) (zB D vwCl (tyA dA) NM ad (celM ad dA)) (zA ad NM sz)) args s 0 0 (zA ad NM sz)) 3 D vwCl (zA ad NM sz) NM ad (celM ad dA) 0 [(0, vR ad 0)] [] σ
  refine z_iconst hC dX12_lost_0 ?_
  refine z_istore_n hC ([(1, vI 0), (0, vR ad 0)]) dX12_lost_1 rfl (by decide) rfl ?_
  refine z_iconst hC dX12_lost_2 ?_
  refine z_istore_n hC ([(2, vI 0), (1, vI 0), (0, vR ad 0)]) dX12_lost_3 rfl (by decide) rfl ?_
  refine z_sub (lv' := [(0, vR ad 0), (1, vI 0), (2, vI 0)]) [2, 1, 0] rfl ?_
  obtain ⟨n, hf⟩ := hf
  exact wX12_lost_B4 hC hE hr hinj n _ _ _ hf

-- ===== X12_lostCount
def fX12_lostCount (K : Int → zSt → Prop) (σ : zSt) (x1 : Int) : Prop :=
  fX12_noTrack (fun r1 σ1 => zrg r1 ∧ ((r1 = 0 → fX12_lost (fun r3 σ3 => K r3 σ3) σ1 ) ∧ (¬ r1 = 0 → K 0 σ1))) σ x1
set_option maxHeartbeats 4000000 in
set_option maxRecDepth 100000 in
theorem mX12_lostCount {D : va_G} {dA : Nat → ClassId} {ad : Nat → Nat}  (l : Launch) (hinj : ∀ i j, i < NM → j < NM → ad i = ad j → i = j) (sz : Nat) {K : Int → zSt → Prop} {σ : zSt} {x1 : Int} (hf : fX12_lostCount K σ x1) : Met l yX12_lostCount (Cond.code yX12_lostCount cX12_lostCount 2 (some .int) :: UW) ({ frames := 7, cells := 0, slots := 0, locals := 173 } : Room) (va_Pc [vR ad 0, vI x1] (zPre D vwCl (tyA dA) zX0 NM ad (celM ad dA) sz σ)) (va_Qi (zPi K) (zB D vwCl (tyA dA) NM ad (celM ad dA)) (zA ad NM sz)) 0 0 (zA ad NM sz) := by
  refine z_enter (cc := cX12_lostCount) (maxL := 2) (ret := (some .int)) (vs := [vR ad 0, vI x1]) (plainFor_of_name (by decide)) rfl hinj (Nat.le_of_ble_eq_true rfl) ?_
  intro p e s m args below meth c hC hE hsz hr hnm
  show zAt p l e ({ frames := 7, cells := 0, slots := 0, locals := 173 } : Room) s m args below meth c 0 0 (MQ below (va_Qi (zPi K) (zB D vwCl (tyA dA) NM ad (celM ad dA)) (zA ad NM sz)) args s 0 0 (zA ad NM sz)) 2 D vwCl (zA ad NM sz) NM ad (celM ad dA) 0 [(0, vR ad 0), (1, vI x1)] [] σ
  refine z_aload_n hC dX12_lostCount_0 0 rfl rfl ?_
  refine z_iload_n hC dX12_lostCount_1 1 rfl rfl ?_
  refine z_callVi hC hE (oM_12 (show kM 0 = 12 by decide)) [vI x1] (fun sz2 => mX12_noTrack l hinj sz2 hf) (cwV 1 hC.1.2.2.2.2 (uV (uT _) u1988 u1990 u79 u118 u1991) rfl rfl rfl (by decide +kernel) ⟨Nat.le_of_ble_eq_true rfl, Nat.le_of_ble_eq_true rfl⟩) rfl rfl (Nat.le_of_ble_eq_true rfl) ⟨Nat.le_of_ble_eq_true rfl, Nat.le_of_ble_eq_true rfl⟩ dX12_lostCount_2 (fun r1 σ1 hf => ?_)
  obtain ⟨g2, hf⟩ := hf
  refine z_if_eq (tgt := 12) hC dX12_lostCount_5 (by decide) g2 (fun hc => ?_) (fun hc => ?_)
  · replace hf := hf.1 hc
    refine z_aload_n hC dX12_lostCount_12 0 rfl rfl ?_
    refine z_callVi hC hE (oM_12 (show kM 0 = 12 by decide)) [] (fun sz2 => mX12_lost l hinj sz2 hf) (cwV 0 hC.1.2.2.2.2 (uV (uT _) u1992 u1994 u80 u118 u1995) rfl rfl rfl (by decide +kernel) ⟨Nat.le_of_ble_eq_true rfl, Nat.le_of_ble_eq_true rfl⟩) rfl rfl (Nat.le_of_ble_eq_true rfl) ⟨Nat.le_of_ble_eq_true rfl, Nat.le_of_ble_eq_true rfl⟩ dX12_lostCount_13 (fun r3 σ3 hf => ?_)
    exact z_iret hC hr rfl dX12_lostCount_16 hf
  · replace hf := hf.2 hc
    refine z_iconst hC dX12_lostCount_8 ?_
    refine z_goto (tgt := 16) hC dX12_lostCount_9 (by decide) ?_
    exact z_iret hC hr rfl dX12_lostCount_16 hf

-- ===== X12_loop
def fX12_loop (K : Int → zSt → Prop) (σ : zSt) (x1 : Int) (x2 : Int) (x3 : Int) : Prop :=
  (0 ≤ 20 + (2 * x1) ∧ 20 + (2 * x1) < 811) ∧ (0 ≤ (20 + (2 * x1)) + 1 ∧ (20 + (2 * x1)) + 1 < 811) ∧ zrg (σ 0 17) ∧ ((σ 0 17 < 0 → K (-1) σ) ∧ (¬ σ 0 17 < 0 → (0 ≤ x2 ∧ x2 < 6) ∧ zrg (σ 5 x2) ∧ ((σ 5 x2 = 0 → K (-1) σ) ∧ (¬ σ 5 x2 = 0 → (0 ≤ x3 ∧ x3 < 6) ∧ zrg (σ 5 x3) ∧ ((σ 5 x3 = 0 → K (-1) σ) ∧ (¬ σ 5 x3 = 0 → fX12_search (fun r8 σ8 => zrg r8 ∧ ((r8 = 0 → K (-1) σ8) ∧ (¬ r8 = 0 → fX12_search (fun r10 σ10 => zrg r10 ∧ ((r10 = 0 → K (-1) σ10) ∧ (¬ r10 = 0 → fX12_search (fun r12 σ12 => zrg r12 ∧ ((r12 = 0 → K (-1) σ12) ∧ (¬ r12 = 0 → fX12_absolute (fun r14 σ14 => fX12_absolute (fun r15 σ15 => K (r14 + r15) σ15) σ14 ((σ14 0 23) - (σ 1 ((20 + (2 * x1)) + 1)))) σ12 ((σ12 0 22) - (σ 1 (20 + (2 * x1))))))) σ10 x3 (σ10 0 22) (σ10 0 23) (σ10 0 17)))) σ8 x2 (σ8 0 22) (σ8 0 23) x3))) σ (σ 0 17) (σ 1 (20 + (2 * x1))) (σ 1 ((20 + (2 * x1)) + 1)) x2))))))
set_option maxHeartbeats 4000000 in
set_option maxRecDepth 100000 in
theorem mX12_loop {D : va_G} {dA : Nat → ClassId} {ad : Nat → Nat}  (l : Launch) (hinj : ∀ i j, i < NM → j < NM → ad i = ad j → i = j) (sz : Nat) {K : Int → zSt → Prop} {σ : zSt} {x1 : Int} {x2 : Int} {x3 : Int} (hf : fX12_loop K σ x1 x2 x3) : Met l yX12_loop (Cond.code yX12_loop cX12_loop 6 (some .int) :: UW) ({ frames := 3, cells := 0, slots := 0, locals := 87 } : Room) (va_Pc [vR ad 0, vI x1, vI x2, vI x3] (zPre D vwCl (tyA dA) zX0 NM ad (celM ad dA) sz σ)) (va_Qi (zPi K) (zB D vwCl (tyA dA) NM ad (celM ad dA)) (zA ad NM sz)) 0 0 (zA ad NM sz) := by
  refine z_enter (cc := cX12_loop) (maxL := 6) (ret := (some .int)) (vs := [vR ad 0, vI x1, vI x2, vI x3]) (plainFor_of_name (by decide)) rfl hinj (Nat.le_of_ble_eq_true rfl) ?_
  intro p e s m args below meth c hC hE hsz hr hnm
  show zAt p l e ({ frames := 3, cells := 0, slots := 0, locals := 87 } : Room) s m args below meth c 0 0 (MQ below (va_Qi (zPi K) (zB D vwCl (tyA dA) NM ad (celM ad dA)) (zA ad NM sz)) args s 0 0 (zA ad NM sz)) 6 D vwCl (zA ad NM sz) NM ad (celM ad dA) 0 [(0, vR ad 0), (1, vI x1), (2, vI x2), (3, vI x3)] [] σ
  refine z_aload_n hC dX12_loop_0 0 rfl rfl ?_
  refine z_get hC (fun w h => uT _ w (uL12 w h)) (oM_12 (show kM 0 = 12 by decide)) 0 (by decide) (uT _ _ u1545) rfl rfl dX12_loop_1 ?_
  refine z_bipush hC dX12_loop_4 (by decide) ?_
  refine z_iconst hC dX12_loop_6 ?_
  refine z_iload_n hC dX12_loop_7 1 rfl rfl ?_
  refine z_imul hC dX12_loop_8 ?_
  refine z_iadd hC dX12_loop_9 ?_
  obtain ⟨g1, hf⟩ := hf
  refine z_iaload hC (aM_30 (show kM 1 = 30 by decide)) g1 dX12_loop_10 ?_
  refine z_istore hC ([(4, vI (σ 1 (20 + (2 * x1)))), (0, vR ad 0), (1, vI x1), (2, vI x2), (3, vI x3)]) dX12_loop_11 (by decide) rfl ?_
  refine z_aload_n hC dX12_loop_13 1 rfl rfl ?_
  refine z_get hC (fun w h => uT _ w (uL12 w h)) (oM_12 (show kM 0 = 12 by decide)) 0 (by decide) (uT _ _ u1545) rfl rfl dX12_loop_14 ?_
  refine z_bipush hC dX12_loop_17 (by decide) ?_
  refine z_iconst hC dX12_loop_19 ?_
  refine z_iload_n hC dX12_loop_20 2 rfl rfl ?_
  refine z_imul hC dX12_loop_21 ?_
  refine z_iadd hC dX12_loop_22 ?_
  refine z_iconst hC dX12_loop_23 ?_
  refine z_iadd hC dX12_loop_24 ?_
  obtain ⟨g2, hf⟩ := hf
  refine z_iaload hC (aM_30 (show kM 1 = 30 by decide)) g2 dX12_loop_25 ?_
  refine z_istore hC ([(5, vI (σ 1 ((20 + (2 * x1)) + 1))), (4, vI (σ 1 (20 + (2 * x1)))), (0, vR ad 0), (1, vI x1), (2, vI x2), (3, vI x3)]) dX12_loop_26 (by decide) rfl ?_
  refine z_aload_n hC dX12_loop_28 2 rfl rfl ?_
  refine z_get hC (fun w h => uT _ w (uL12 w h)) (oM_12 (show kM 0 = 12 by decide)) 17 (by decide) (uT _ _ u1562) rfl rfl dX12_loop_29 ?_
  obtain ⟨g3, hf⟩ := hf
  refine z_if_lt (tgt := 53) hC dX12_loop_32 (by decide) g3 (fun hc => ?_) (fun hc => ?_)
  · replace hf := hf.1 hc
    refine z_iconst hC dX12_loop_53 ?_
    exact z_iret hC hr rfl dX12_loop_54 hf
  · replace hf := hf.2 hc
    refine z_aload_n hC dX12_loop_35 2 rfl rfl ?_
    refine z_get hC (fun w h => uT _ w (uL12 w h)) (oM_12 (show kM 0 = 12 by decide)) 18 (by decide) (uT _ _ u1563) rfl rfl dX12_loop_36 ?_
    refine z_iload_n hC dX12_loop_39 4 rfl rfl ?_
    obtain ⟨g4, hf⟩ := hf
    refine z_zaload hC (aM_33 (show kM 5 = 33 by decide)) g4 dX12_loop_40 ?_
    obtain ⟨g5, hf⟩ := hf
    refine z_if_eq (tgt := 53) hC dX12_loop_41 (by decide) g5 (fun hc => ?_) (fun hc => ?_)
    · replace hf := hf.1 hc
      refine z_iconst hC dX12_loop_53 ?_
      exact z_iret hC hr rfl dX12_loop_54 hf
    · replace hf := hf.2 hc
      refine z_aload_n hC dX12_loop_44 2 rfl rfl ?_
      refine z_get hC (fun w h => uT _ w (uL12 w h)) (oM_12 (show kM 0 = 12 by decide)) 18 (by decide) (uT _ _ u1563) rfl rfl dX12_loop_45 ?_
      refine z_iload_n hC dX12_loop_48 5 rfl rfl ?_
      obtain ⟨g6, hf⟩ := hf
      refine z_zaload hC (aM_33 (show kM 5 = 33 by decide)) g6 dX12_loop_49 ?_
      obtain ⟨g7, hf⟩ := hf
      refine z_if_ne (tgt := 55) hC dX12_loop_50 (by decide) g7 (fun hc => ?_) (fun hc => ?_)
      · replace hf := hf.2 hc
        refine z_aload_n hC dX12_loop_55 2 rfl rfl ?_
        refine z_aload_n hC dX12_loop_56 2 rfl rfl ?_
        refine z_get hC (fun w h => uT _ w (uL12 w h)) (oM_12 (show kM 0 = 12 by decide)) 17 (by decide) (uT _ _ u1562) rfl rfl dX12_loop_57 ?_
        refine z_iload hC dX12_loop_60 1 rfl ?_
        refine z_iload hC dX12_loop_62 0 rfl ?_
        refine z_iload_n hC dX12_loop_64 4 rfl rfl ?_
        refine z_callVi hC hE (oM_12 (show kM 0 = 12 by decide)) [vI (σ 0 17), vI (σ 1 (20 + (2 * x1))), vI (σ 1 ((20 + (2 * x1)) + 1)), vI x2] (fun sz2 => mX12_search l hinj sz2 hf) (cwV 4 hC.1.2.2.2.2 (uV (uT _) u1948 u1950 u74 u118 u1951) rfl rfl rfl (by decide +kernel) ⟨Nat.le_of_ble_eq_true rfl, Nat.le_of_ble_eq_true rfl⟩) rfl rfl (Nat.le_of_ble_eq_true rfl) ⟨Nat.le_of_ble_eq_true rfl, Nat.le_of_ble_eq_true rfl⟩ dX12_loop_65 (fun r8 σ8 hf => ?_)
        obtain ⟨g9, hf⟩ := hf
        refine z_if_eq (tgt := 108) hC dX12_loop_68 (by decide) g9 (fun hc => ?_) (fun hc => ?_)
        · replace hf := hf.1 hc
          refine z_iconst hC dX12_loop_108 ?_
          exact z_iret hC hr rfl dX12_loop_109 hf
        · replace hf := hf.2 hc
          refine z_aload_n hC dX12_loop_71 2 rfl rfl ?_
          refine z_iload_n hC dX12_loop_72 4 rfl rfl ?_
          refine z_aload_n hC dX12_loop_73 2 rfl rfl ?_
          refine z_get hC (fun w h => uT _ w (uL12 w h)) (oM_12 (show kM 0 = 12 by decide)) 22 (by decide) (uT _ _ u1567) rfl rfl dX12_loop_74 ?_
          refine z_aload_n hC dX12_loop_77 2 rfl rfl ?_
          refine z_get hC (fun w h => uT _ w (uL12 w h)) (oM_12 (show kM 0 = 12 by decide)) 23 (by decide) (uT _ _ u1568) rfl rfl dX12_loop_78 ?_
          refine z_iload_n hC dX12_loop_81 5 rfl rfl ?_
          refine z_callVi hC hE (oM_12 (show kM 0 = 12 by decide)) [vI x2, vI (σ8 0 22), vI (σ8 0 23), vI x3] (fun sz2 => mX12_search l hinj sz2 hf) (cwV 4 hC.1.2.2.2.2 (uV (uT _) u1948 u1950 u74 u118 u1951) rfl rfl rfl (by decide +kernel) ⟨Nat.le_of_ble_eq_true rfl, Nat.le_of_ble_eq_true rfl⟩) rfl rfl (Nat.le_of_ble_eq_true rfl) ⟨Nat.le_of_ble_eq_true rfl, Nat.le_of_ble_eq_true rfl⟩ dX12_loop_82 (fun r10 σ10 hf => ?_)
          obtain ⟨g11, hf⟩ := hf
          refine z_if_eq (tgt := 108) hC dX12_loop_85 (by decide) g11 (fun hc => ?_) (fun hc => ?_)
          · replace hf := hf.1 hc
            refine z_iconst hC dX12_loop_108 ?_
            exact z_iret hC hr rfl dX12_loop_109 hf
          · replace hf := hf.2 hc
            refine z_aload_n hC dX12_loop_88 2 rfl rfl ?_
            refine z_iload_n hC dX12_loop_89 5 rfl rfl ?_
            refine z_aload_n hC dX12_loop_90 2 rfl rfl ?_
            refine z_get hC (fun w h => uT _ w (uL12 w h)) (oM_12 (show kM 0 = 12 by decide)) 22 (by decide) (uT _ _ u1567) rfl rfl dX12_loop_91 ?_
            refine z_aload_n hC dX12_loop_94 2 rfl rfl ?_
            refine z_get hC (fun w h => uT _ w (uL12 w h)) (oM_12 (show kM 0 = 12 by decide)) 23 (by decide) (uT _ _ u1568) rfl rfl dX12_loop_95 ?_
            refine z_aload_n hC dX12_loop_98 2 rfl rfl ?_
            refine z_get hC (fun w h => uT _ w (uL12 w h)) (oM_12 (show kM 0 = 12 by decide)) 17 (by decide) (uT _ _ u1562) rfl rfl dX12_loop_99 ?_
            refine z_callVi hC hE (oM_12 (show kM 0 = 12 by decide)) [vI x3, vI (σ10 0 22), vI (σ10 0 23), vI (σ10 0 17)] (fun sz2 => mX12_search l hinj sz2 hf) (cwV 4 hC.1.2.2.2.2 (uV (uT _) u1948 u1950 u74 u118 u1951) rfl rfl rfl (by decide +kernel) ⟨Nat.le_of_ble_eq_true rfl, Nat.le_of_ble_eq_true rfl⟩) rfl rfl (Nat.le_of_ble_eq_true rfl) ⟨Nat.le_of_ble_eq_true rfl, Nat.le_of_ble_eq_true rfl⟩ dX12_loop_102 (fun r12 σ12 hf => ?_)
            obtain ⟨g13, hf⟩ := hf
            refine z_if_ne (tgt := 110) hC dX12_loop_105 (by decide) g13 (fun hc => ?_) (fun hc => ?_)
            · replace hf := hf.2 hc
              refine z_aload_n hC dX12_loop_110 2 rfl rfl ?_
              refine z_get hC (fun w h => uT _ w (uL12 w h)) (oM_12 (show kM 0 = 12 by decide)) 22 (by decide) (uT _ _ u1567) rfl rfl dX12_loop_111 ?_
              refine z_iload hC dX12_loop_114 1 rfl ?_
              refine z_isub hC dX12_loop_116 ?_
              refine z_callSi hC hE [vI ((σ12 0 22) - (σ 1 (20 + (2 * x1))))] (fun sz2 => mX12_absolute l hinj sz2 hf) (va_cwS 1 hC.1.2.2.2.2 (uS (uT _) u1921 u1922 u118 u1923) rfl rfl rfl (by decide +kernel) ⟨Nat.le_of_ble_eq_true rfl, Nat.le_of_ble_eq_true rfl⟩) rfl rfl (Nat.le_of_ble_eq_true rfl) ⟨Nat.le_of_ble_eq_true rfl, Nat.le_of_ble_eq_true rfl⟩ dX12_loop_117 (fun r14 σ14 hf => ?_)
              refine z_aload_n hC dX12_loop_120 2 rfl rfl ?_
              refine z_get hC (fun w h => uT _ w (uL12 w h)) (oM_12 (show kM 0 = 12 by decide)) 23 (by decide) (uT _ _ u1568) rfl rfl dX12_loop_121 ?_
              refine z_iload hC dX12_loop_124 0 rfl ?_
              refine z_isub hC dX12_loop_126 ?_
              refine z_callSi hC hE [vI ((σ14 0 23) - (σ 1 ((20 + (2 * x1)) + 1)))] (fun sz2 => mX12_absolute l hinj sz2 hf) (va_cwS 1 hC.1.2.2.2.2 (uS (uT _) u1921 u1922 u118 u1923) rfl rfl rfl (by decide +kernel) ⟨Nat.le_of_ble_eq_true rfl, Nat.le_of_ble_eq_true rfl⟩) rfl rfl (Nat.le_of_ble_eq_true rfl) ⟨Nat.le_of_ble_eq_true rfl, Nat.le_of_ble_eq_true rfl⟩ dX12_loop_127 (fun r15 σ15 hf => ?_)
              refine z_iadd hC dX12_loop_130 ?_
              exact z_iret hC hr rfl dX12_loop_131 hf
            · replace hf := hf.1 hc
              refine z_iconst hC dX12_loop_108 ?_
              exact z_iret hC hr rfl dX12_loop_109 hf
      · replace hf := hf.1 hc
        refine z_iconst hC dX12_loop_53 ?_
        exact z_iret hC hr rfl dX12_loop_54 hf

-- ===== X12_loopError
def fX12_loopError_B30 (K : Int → zSt → Prop) (σ : zSt) (x1 : Int) (x2 : Int) (x3 : Int) (s0 : Int) : Prop :=
  fX12_fails (fun r7 σ7 => zrg r7 ∧ ((r7 = 0 → fX12_orient (fun σ9 => fX12_loop (fun r10 σ10 => K r10 σ10) σ9 x1 x2 x3) σ7 ) ∧ (¬ r7 = 0 → K 0 σ7))) σ s0
def fX12_loopError_B29 (K : Int → zSt → Prop) (σ : zSt) (x1 : Int) (x2 : Int) (x3 : Int) : Prop :=
  fX12_loopError_B30 K σ x1 x2 x3 0
def fX12_loopError (K : Int → zSt → Prop) (σ : zSt) (x1 : Int) (x2 : Int) (x3 : Int) : Prop :=
  fX12_isFeature (fun r1 σ1 => zrg r1 ∧ ((r1 = 0 → fX12_loopError_B29 K σ1 x1 x2 x3) ∧ (¬ r1 = 0 → fX12_isFrame (fun r3 σ3 => zrg r3 ∧ ((r3 = 0 → fX12_loopError_B29 K σ3 x1 x2 x3) ∧ (¬ r3 = 0 → fX12_isFrame (fun r5 σ5 => zrg r5 ∧ ((r5 = 0 → fX12_loopError_B29 K σ5 x1 x2 x3) ∧ (¬ r5 = 0 → fX12_loopError_B30 K σ5 x1 x2 x3 1))) σ3 x3))) σ1 x2))) σ x1
set_option maxHeartbeats 4000000 in
set_option maxRecDepth 100000 in
theorem wX12_loopError_B30 {p : Program} {l : Launch} {e : Env} {s : State} {m : MethodId} {args : Array Value} {below : List Frame} {meth : Method} {c : Code} {D : va_G} {dA : Nat → ClassId} {ad : Nat → Nat} {sz : Nat}  {K : Int → zSt → Prop} (hC : zC p m c cX12_loopError 4 s args (Cond.code yX12_loopError cX12_loopError 4 (some .int) :: UW) RX12 meth D vwCl (tyA dA) (zA ad NM sz) NM ad (celM ad dA)) (hE : zE zX0 (zA ad NM sz) s s.heap) (hr : meth.sig.returnType = (some .int)) (hinj : ∀ i j, i < NM → j < NM → ad i = ad j → i = j) {σ : zSt} {x1 : Int} {x2 : Int} {x3 : Int} {s0 : Int} (hf : fX12_loopError_B30 K σ x1 x2 x3 s0) : zAt p l e ({ frames := 5, cells := 0, slots := 0, locals := 128 } : Room) s m args below meth c 0 0 (MQ below (va_Qi (zPi K) (zB D vwCl (tyA dA) NM ad (celM ad dA)) (zA ad NM sz)) args s 0 0 (zA ad NM sz)) 4 D vwCl (zA ad NM sz) NM ad (celM ad dA) 30 [(0, vR ad 0), (1, vI x1), (2, vI x2), (3, vI x3)] [vI s0, vR ad 0] σ := by
  refine z_callVi hC hE (oM_12 (show kM 0 = 12 by decide)) [vI s0] (fun sz2 => mX12_fails l hinj sz2 hf) (cwV 1 hC.1.2.2.2.2 (uV (uT _) u1833 u1835 u58 u118 u1836) rfl rfl rfl (by decide +kernel) ⟨Nat.le_of_ble_eq_true rfl, Nat.le_of_ble_eq_true rfl⟩) rfl rfl (Nat.le_of_ble_eq_true rfl) ⟨Nat.le_of_ble_eq_true rfl, Nat.le_of_ble_eq_true rfl⟩ dX12_loopError_30 (fun r7 σ7 hf => ?_)
  obtain ⟨g8, hf⟩ := hf
  refine z_if_eq (tgt := 38) hC dX12_loopError_33 (by decide) g8 (fun hc => ?_) (fun hc => ?_)
  · replace hf := hf.1 hc
    refine z_aload_n hC dX12_loopError_38 0 rfl rfl ?_
    refine z_callVv hC hE (oM_12 (show kM 0 = 12 by decide)) [] (fun sz2 => mX12_orient l hinj sz2 hf) (cwV 0 hC.1.2.2.2.2 (uV (uT _) u1901 u1903 u67 u118 u1904) rfl rfl rfl (by decide +kernel) ⟨Nat.le_of_ble_eq_true rfl, Nat.le_of_ble_eq_true rfl⟩) rfl rfl (Nat.le_of_ble_eq_true rfl) ⟨Nat.le_of_ble_eq_true rfl, Nat.le_of_ble_eq_true rfl⟩ dX12_loopError_39 (fun σ9 hf => ?_)
    refine z_aload_n hC dX12_loopError_42 0 rfl rfl ?_
    refine z_iload_n hC dX12_loopError_43 1 rfl rfl ?_
    refine z_iload_n hC dX12_loopError_44 2 rfl rfl ?_
    refine z_iload_n hC dX12_loopError_45 3 rfl rfl ?_
    refine z_callVi hC hE (oM_12 (show kM 0 = 12 by decide)) [vI x1, vI x2, vI x3] (fun sz2 => mX12_loop l hinj sz2 hf) (cwV 3 hC.1.2.2.2.2 (uV (uT _) u2000 u2002 u81 u118 u2003) rfl rfl rfl (by decide +kernel) ⟨Nat.le_of_ble_eq_true rfl, Nat.le_of_ble_eq_true rfl⟩) rfl rfl (Nat.le_of_ble_eq_true rfl) ⟨Nat.le_of_ble_eq_true rfl, Nat.le_of_ble_eq_true rfl⟩ dX12_loopError_46 (fun r10 σ10 hf => ?_)
    exact z_iret hC hr rfl dX12_loopError_49 hf
  · replace hf := hf.2 hc
    refine z_iconst hC dX12_loopError_36 ?_
    exact z_iret hC hr rfl dX12_loopError_37 hf
set_option maxHeartbeats 4000000 in
set_option maxRecDepth 100000 in
theorem wX12_loopError_B29 {p : Program} {l : Launch} {e : Env} {s : State} {m : MethodId} {args : Array Value} {below : List Frame} {meth : Method} {c : Code} {D : va_G} {dA : Nat → ClassId} {ad : Nat → Nat} {sz : Nat}  {K : Int → zSt → Prop} (hC : zC p m c cX12_loopError 4 s args (Cond.code yX12_loopError cX12_loopError 4 (some .int) :: UW) RX12 meth D vwCl (tyA dA) (zA ad NM sz) NM ad (celM ad dA)) (hE : zE zX0 (zA ad NM sz) s s.heap) (hr : meth.sig.returnType = (some .int)) (hinj : ∀ i j, i < NM → j < NM → ad i = ad j → i = j) {σ : zSt} {x1 : Int} {x2 : Int} {x3 : Int} (hf : fX12_loopError_B29 K σ x1 x2 x3) : zAt p l e ({ frames := 5, cells := 0, slots := 0, locals := 128 } : Room) s m args below meth c 0 0 (MQ below (va_Qi (zPi K) (zB D vwCl (tyA dA) NM ad (celM ad dA)) (zA ad NM sz)) args s 0 0 (zA ad NM sz)) 4 D vwCl (zA ad NM sz) NM ad (celM ad dA) 29 [(0, vR ad 0), (1, vI x1), (2, vI x2), (3, vI x3)] [vR ad 0] σ := by
  refine z_iconst hC dX12_loopError_29 ?_
  exact wX12_loopError_B30 hC hE hr hinj  hf
set_option maxHeartbeats 4000000 in
set_option maxRecDepth 100000 in
theorem mX12_loopError {D : va_G} {dA : Nat → ClassId} {ad : Nat → Nat}  (l : Launch) (hinj : ∀ i j, i < NM → j < NM → ad i = ad j → i = j) (sz : Nat) {K : Int → zSt → Prop} {σ : zSt} {x1 : Int} {x2 : Int} {x3 : Int} (hf : fX12_loopError K σ x1 x2 x3) : Met l yX12_loopError (Cond.code yX12_loopError cX12_loopError 4 (some .int) :: UW) ({ frames := 5, cells := 0, slots := 0, locals := 128 } : Room) (va_Pc [vR ad 0, vI x1, vI x2, vI x3] (zPre D vwCl (tyA dA) zX0 NM ad (celM ad dA) sz σ)) (va_Qi (zPi K) (zB D vwCl (tyA dA) NM ad (celM ad dA)) (zA ad NM sz)) 0 0 (zA ad NM sz) := by
  refine z_enter (cc := cX12_loopError) (maxL := 4) (ret := (some .int)) (vs := [vR ad 0, vI x1, vI x2, vI x3]) (plainFor_of_name (by decide)) rfl hinj (Nat.le_of_ble_eq_true rfl) ?_
  intro p e s m args below meth c hC hE hsz hr hnm
  show zAt p l e ({ frames := 5, cells := 0, slots := 0, locals := 128 } : Room) s m args below meth c 0 0 (MQ below (va_Qi (zPi K) (zB D vwCl (tyA dA) NM ad (celM ad dA)) (zA ad NM sz)) args s 0 0 (zA ad NM sz)) 4 D vwCl (zA ad NM sz) NM ad (celM ad dA) 0 [(0, vR ad 0), (1, vI x1), (2, vI x2), (3, vI x3)] [] σ
  refine z_aload_n hC dX12_loopError_0 0 rfl rfl ?_
  refine z_aload_n hC dX12_loopError_1 0 rfl rfl ?_
  refine z_iload_n hC dX12_loopError_2 1 rfl rfl ?_
  refine z_callVi hC hE (oM_12 (show kM 0 = 12 by decide)) [vI x1] (fun sz2 => mX12_isFeature l hinj sz2 hf) (cwV 1 hC.1.2.2.2.2 (uV (uT _) u1865 u1867 u62 u118 u1868) rfl rfl rfl (by decide +kernel) ⟨Nat.le_of_ble_eq_true rfl, Nat.le_of_ble_eq_true rfl⟩) rfl rfl (Nat.le_of_ble_eq_true rfl) ⟨Nat.le_of_ble_eq_true rfl, Nat.le_of_ble_eq_true rfl⟩ dX12_loopError_3 (fun r1 σ1 hf => ?_)
  obtain ⟨g2, hf⟩ := hf
  refine z_if_eq (tgt := 29) hC dX12_loopError_6 (by decide) g2 (fun hc => ?_) (fun hc => ?_)
  · replace hf := hf.1 hc
    exact wX12_loopError_B29 hC hE hr hinj  hf
  · replace hf := hf.2 hc
    refine z_aload_n hC dX12_loopError_9 0 rfl rfl ?_
    refine z_iload_n hC dX12_loopError_10 2 rfl rfl ?_
    refine z_callVi hC hE (oM_12 (show kM 0 = 12 by decide)) [vI x2] (fun sz2 => mX12_isFrame l hinj sz2 hf) (cwV 1 hC.1.2.2.2.2 (uV (uT _) u1829 u1831 u57 u118 u1832) rfl rfl rfl (by decide +kernel) ⟨Nat.le_of_ble_eq_true rfl, Nat.le_of_ble_eq_true rfl⟩) rfl rfl (Nat.le_of_ble_eq_true rfl) ⟨Nat.le_of_ble_eq_true rfl, Nat.le_of_ble_eq_true rfl⟩ dX12_loopError_11 (fun r3 σ3 hf => ?_)
    obtain ⟨g4, hf⟩ := hf
    refine z_if_eq (tgt := 29) hC dX12_loopError_14 (by decide) g4 (fun hc => ?_) (fun hc => ?_)
    · replace hf := hf.1 hc
      exact wX12_loopError_B29 hC hE hr hinj  hf
    · replace hf := hf.2 hc
      refine z_aload_n hC dX12_loopError_17 0 rfl rfl ?_
      refine z_iload_n hC dX12_loopError_18 3 rfl rfl ?_
      refine z_callVi hC hE (oM_12 (show kM 0 = 12 by decide)) [vI x3] (fun sz2 => mX12_isFrame l hinj sz2 hf) (cwV 1 hC.1.2.2.2.2 (uV (uT _) u1829 u1831 u57 u118 u1832) rfl rfl rfl (by decide +kernel) ⟨Nat.le_of_ble_eq_true rfl, Nat.le_of_ble_eq_true rfl⟩) rfl rfl (Nat.le_of_ble_eq_true rfl) ⟨Nat.le_of_ble_eq_true rfl, Nat.le_of_ble_eq_true rfl⟩ dX12_loopError_19 (fun r5 σ5 hf => ?_)
      obtain ⟨g6, hf⟩ := hf
      refine z_if_eq (tgt := 29) hC dX12_loopError_22 (by decide) g6 (fun hc => ?_) (fun hc => ?_)
      · replace hf := hf.1 hc
        exact wX12_loopError_B29 hC hE hr hinj  hf
      · replace hf := hf.2 hc
        refine z_iconst hC dX12_loopError_25 ?_
        refine z_goto (tgt := 30) hC dX12_loopError_26 (by decide) ?_
        exact wX12_loopError_B30 hC hE hr hinj  hf

-- ===== X12_closedLoops
noncomputable def fX12_closedLoops_B49 (K : Int → zSt → Prop) (k27 : zSt → Int → Int → Int → Prop) (n : Nat) : zSt → Int → Int → Int → Int → Prop :=
  Nat.rec (motive := fun _ => zSt → Int → Int → Int → Int → Prop) (fun _ _ _ _ _ => False) (fun _ ih σ x1 x2 x3 x4 => zrg x4 ∧ zrg (σ 1 2) ∧ ((σ 1 2 ≤ x4 → k27 σ x1 x2 (x3 + 1)) ∧ (¬ σ 1 2 ≤ x4 → fX12_loop (fun r10 σ10 => zrg r10 ∧ ((r10 = 0 → ih σ10 x1 (x2 + 1) x3 (x4 + 1)) ∧ (¬ r10 = 0 → ih σ10 x1 (x2 + 0) x3 (x4 + 1)))) σ x1 x3 x4))) n
theorem uX12_closedLoops_B49 (K : Int → zSt → Prop) (k27 : zSt → Int → Int → Int → Prop) (n0 : Nat) (σ : zSt) (x1 : Int) (x2 : Int) (x3 : Int) (x4 : Int) : fX12_closedLoops_B49 K k27 (n0 + 1) σ x1 x2 x3 x4 = (zrg x4 ∧ zrg (σ 1 2) ∧ ((σ 1 2 ≤ x4 → k27 σ x1 x2 (x3 + 1)) ∧ (¬ σ 1 2 ≤ x4 → fX12_loop (fun r10 σ10 => zrg r10 ∧ ((r10 = 0 → (fX12_closedLoops_B49 K k27 n0) σ10 x1 (x2 + 1) x3 (x4 + 1)) ∧ (¬ r10 = 0 → (fX12_closedLoops_B49 K k27 n0) σ10 x1 (x2 + 0) x3 (x4 + 1)))) σ x1 x3 x4))) := rfl
noncomputable def fX12_closedLoops_B27 (K : Int → zSt → Prop) (n : Nat) : zSt → Int → Int → Int → Prop :=
  Nat.rec (motive := fun _ => zSt → Int → Int → Int → Prop) (fun _ _ _ _ => False) (fun _ ih σ x1 x2 x3 => zrg (σ 0 17) ∧ ((σ 0 17 < 0 → K x2 σ) ∧ (¬ σ 0 17 < 0 → zrg x3 ∧ zrg (σ 1 2) ∧ ((σ 1 2 ≤ x3 → K x2 σ) ∧ (¬ σ 1 2 ≤ x3 → (∃ n, fX12_closedLoops_B49 K ih n σ x1 x2 x3 (x3 + 1))))))) n
theorem uX12_closedLoops_B27 (K : Int → zSt → Prop) (n0 : Nat) (σ : zSt) (x1 : Int) (x2 : Int) (x3 : Int) : fX12_closedLoops_B27 K (n0 + 1) σ x1 x2 x3 = (zrg (σ 0 17) ∧ ((σ 0 17 < 0 → K x2 σ) ∧ (¬ σ 0 17 < 0 → zrg x3 ∧ zrg (σ 1 2) ∧ ((σ 1 2 ≤ x3 → K x2 σ) ∧ (¬ σ 1 2 ≤ x3 → (∃ n, fX12_closedLoops_B49 K (fX12_closedLoops_B27 K n0) n σ x1 x2 x3 (x3 + 1))))))) := rfl
def fX12_closedLoops (K : Int → zSt → Prop) (σ : zSt) (x1 : Int) : Prop :=
  fX12_isFeature (fun r1 σ1 => fX12_fails (fun r2 σ2 => zrg r2 ∧ ((r2 = 0 → fX12_orient (fun σ4 => (∃ n, fX12_closedLoops_B27 K n σ4 x1 0 ((σ4 0 17) + 1))) σ2 ) ∧ (¬ r2 = 0 → K 0 σ2))) σ1 r1) σ x1
set_option maxHeartbeats 4000000 in
set_option maxRecDepth 100000 in
theorem wX12_closedLoops_B49 {p : Program} {l : Launch} {e : Env} {s : State} {m : MethodId} {args : Array Value} {below : List Frame} {meth : Method} {c : Code} {D : va_G} {dA : Nat → ClassId} {ad : Nat → Nat} {sz : Nat}  {K : Int → zSt → Prop} {k27 : zSt → Int → Int → Int → Prop} (hC : zC p m c cX12_closedLoops 5 s args (Cond.code yX12_closedLoops cX12_closedLoops 5 (some .int) :: UW) RX12 meth D vwCl (tyA dA) (zA ad NM sz) NM ad (celM ad dA)) (hE : zE zX0 (zA ad NM sz) s s.heap) (hr : meth.sig.returnType = (some .int)) (hinj : ∀ i j, i < NM → j < NM → ad i = ad j → i = j) (hk27 : ∀ (σ : zSt) (x1 : Int) (x2 : Int) (x3 : Int), k27 σ x1 x2 x3 → zAt p l e ({ frames := 5, cells := 0, slots := 0, locals := 128 } : Room) s m args below meth c 0 0 (MQ below (va_Qi (zPi K) (zB D vwCl (tyA dA) NM ad (celM ad dA)) (zA ad NM sz)) args s 0 0 (zA ad NM sz)) 5 D vwCl (zA ad NM sz) NM ad (celM ad dA) 27 [(0, vR ad 0), (1, vI x1), (2, vI x2), (3, vI x3)] [] σ) : ∀ (n : Nat) (σ : zSt) (x1 : Int) (x2 : Int) (x3 : Int) (x4 : Int), fX12_closedLoops_B49 K k27 n σ x1 x2 x3 x4 → zAt p l e ({ frames := 5, cells := 0, slots := 0, locals := 128 } : Room) s m args below meth c 0 0 (MQ below (va_Qi (zPi K) (zB D vwCl (tyA dA) NM ad (celM ad dA)) (zA ad NM sz)) args s 0 0 (zA ad NM sz)) 5 D vwCl (zA ad NM sz) NM ad (celM ad dA) 49 [(0, vR ad 0), (1, vI x1), (2, vI x2), (3, vI x3), (4, vI x4)] [] σ := by
  intro n
  induction n with
  | zero => intro σ x1 x2 x3 x4  hf; exact False.elim hf
  | succ n ih =>
    intro σ x1 x2 x3 x4  hf
    rw [uX12_closedLoops_B49] at hf
    refine z_iload hC dX12_closedLoops_49 4 rfl ?_
    refine z_aload_n hC dX12_closedLoops_51 0 rfl rfl ?_
    refine z_get hC (fun w h => uT _ w (uL12 w h)) (oM_12 (show kM 0 = 12 by decide)) 0 (by decide) (uT _ _ u1545) rfl rfl dX12_closedLoops_52 ?_
    refine z_iconst hC dX12_closedLoops_55 ?_
    refine z_iaload hC (aM_30 (show kM 1 = 30 by decide)) ⟨by decide, by decide⟩ dX12_closedLoops_56 ?_
    obtain ⟨g8, hf⟩ := hf
    obtain ⟨g9, hf⟩ := hf
    refine z_icmp_ge (tgt := 85) hC dX12_closedLoops_57 (by decide) g8 g9 (fun hc => ?_) (fun hc => ?_)
    · replace hf := hf.1 hc
      refine z_iinc hC ([(3, vI (x3 + 1)), (0, vR ad 0), (1, vI x1), (2, vI x2), (4, vI x4)]) dX12_closedLoops_85 3 rfl (by decide) rfl ?_
      refine z_goto (tgt := 27) hC dX12_closedLoops_88 (by decide) ?_
      refine z_sub (lv' := [(0, vR ad 0), (1, vI x1), (2, vI x2), (3, vI (x3 + 1))]) [1, 2, 3, 0] rfl ?_
      exact hk27 _ _ _ _ hf
    · replace hf := hf.2 hc
      refine z_iload_n hC dX12_closedLoops_60 2 rfl rfl ?_
      refine z_aload_n hC dX12_closedLoops_61 0 rfl rfl ?_
      refine z_iload_n hC dX12_closedLoops_62 1 rfl rfl ?_
      refine z_iload_n hC dX12_closedLoops_63 3 rfl rfl ?_
      refine z_iload hC dX12_closedLoops_64 4 rfl ?_
      refine z_callVi hC hE (oM_12 (show kM 0 = 12 by decide)) [vI x1, vI x3, vI x4] (fun sz2 => mX12_loop l hinj sz2 hf) (cwV 3 hC.1.2.2.2.2 (uV (uT _) u2000 u2002 u81 u118 u2003) rfl rfl rfl (by decide +kernel) ⟨Nat.le_of_ble_eq_true rfl, Nat.le_of_ble_eq_true rfl⟩) rfl rfl (Nat.le_of_ble_eq_true rfl) ⟨Nat.le_of_ble_eq_true rfl, Nat.le_of_ble_eq_true rfl⟩ dX12_closedLoops_66 (fun r10 σ10 hf => ?_)
      obtain ⟨g11, hf⟩ := hf
      refine z_if_ne (tgt := 76) hC dX12_closedLoops_69 (by decide) g11 (fun hc => ?_) (fun hc => ?_)
      · replace hf := hf.2 hc
        refine z_iconst hC dX12_closedLoops_76 ?_
        refine z_iadd hC dX12_closedLoops_77 ?_
        refine z_istore_n hC ([(2, vI (x2 + 0)), (0, vR ad 0), (1, vI x1), (3, vI x3), (4, vI x4)]) dX12_closedLoops_78 rfl (by decide) rfl ?_
        refine z_iinc hC ([(4, vI (x4 + 1)), (2, vI (x2 + 0)), (0, vR ad 0), (1, vI x1), (3, vI x3)]) dX12_closedLoops_79 4 rfl (by decide) rfl ?_
        refine z_goto (tgt := 49) hC dX12_closedLoops_82 (by decide) ?_
        refine z_sub (lv' := [(0, vR ad 0), (1, vI x1), (2, vI (x2 + 0)), (3, vI x3), (4, vI (x4 + 1))]) [2, 3, 1, 4, 0] rfl ?_
        exact ih _ _ _ _ _ hf
      · replace hf := hf.1 hc
        refine z_iconst hC dX12_closedLoops_72 ?_
        refine z_goto (tgt := 77) hC dX12_closedLoops_73 (by decide) ?_
        refine z_iadd hC dX12_closedLoops_77 ?_
        refine z_istore_n hC ([(2, vI (x2 + 1)), (0, vR ad 0), (1, vI x1), (3, vI x3), (4, vI x4)]) dX12_closedLoops_78 rfl (by decide) rfl ?_
        refine z_iinc hC ([(4, vI (x4 + 1)), (2, vI (x2 + 1)), (0, vR ad 0), (1, vI x1), (3, vI x3)]) dX12_closedLoops_79 4 rfl (by decide) rfl ?_
        refine z_goto (tgt := 49) hC dX12_closedLoops_82 (by decide) ?_
        refine z_sub (lv' := [(0, vR ad 0), (1, vI x1), (2, vI (x2 + 1)), (3, vI x3), (4, vI (x4 + 1))]) [2, 3, 1, 4, 0] rfl ?_
        exact ih _ _ _ _ _ hf
set_option maxHeartbeats 4000000 in
set_option maxRecDepth 100000 in
theorem wX12_closedLoops_B27 {p : Program} {l : Launch} {e : Env} {s : State} {m : MethodId} {args : Array Value} {below : List Frame} {meth : Method} {c : Code} {D : va_G} {dA : Nat → ClassId} {ad : Nat → Nat} {sz : Nat}  {K : Int → zSt → Prop} (hC : zC p m c cX12_closedLoops 5 s args (Cond.code yX12_closedLoops cX12_closedLoops 5 (some .int) :: UW) RX12 meth D vwCl (tyA dA) (zA ad NM sz) NM ad (celM ad dA)) (hE : zE zX0 (zA ad NM sz) s s.heap) (hr : meth.sig.returnType = (some .int)) (hinj : ∀ i j, i < NM → j < NM → ad i = ad j → i = j) : ∀ (n : Nat) (σ : zSt) (x1 : Int) (x2 : Int) (x3 : Int), fX12_closedLoops_B27 K n σ x1 x2 x3 → zAt p l e ({ frames := 5, cells := 0, slots := 0, locals := 128 } : Room) s m args below meth c 0 0 (MQ below (va_Qi (zPi K) (zB D vwCl (tyA dA) NM ad (celM ad dA)) (zA ad NM sz)) args s 0 0 (zA ad NM sz)) 5 D vwCl (zA ad NM sz) NM ad (celM ad dA) 27 [(0, vR ad 0), (1, vI x1), (2, vI x2), (3, vI x3)] [] σ := by
  intro n
  induction n with
  | zero => intro σ x1 x2 x3  hf; exact False.elim hf
  | succ n ih =>
    intro σ x1 x2 x3  hf
    rw [uX12_closedLoops_B27] at hf
    refine z_aload_n hC dX12_closedLoops_27 0 rfl rfl ?_
    refine z_get hC (fun w h => uT _ w (uL12 w h)) (oM_12 (show kM 0 = 12 by decide)) 17 (by decide) (uT _ _ u1562) rfl rfl dX12_closedLoops_28 ?_
    obtain ⟨g5, hf⟩ := hf
    refine z_if_lt (tgt := 91) hC dX12_closedLoops_31 (by decide) g5 (fun hc => ?_) (fun hc => ?_)
    · replace hf := hf.1 hc
      refine z_iload_n hC dX12_closedLoops_91 2 rfl rfl ?_
      exact z_iret hC hr rfl dX12_closedLoops_92 hf
    · replace hf := hf.2 hc
      refine z_iload_n hC dX12_closedLoops_34 3 rfl rfl ?_
      refine z_aload_n hC dX12_closedLoops_35 0 rfl rfl ?_
      refine z_get hC (fun w h => uT _ w (uL12 w h)) (oM_12 (show kM 0 = 12 by decide)) 0 (by decide) (uT _ _ u1545) rfl rfl dX12_closedLoops_36 ?_
      refine z_iconst hC dX12_closedLoops_39 ?_
      refine z_iaload hC (aM_30 (show kM 1 = 30 by decide)) ⟨by decide, by decide⟩ dX12_closedLoops_40 ?_
      obtain ⟨g6, hf⟩ := hf
      obtain ⟨g7, hf⟩ := hf
      refine z_icmp_ge (tgt := 91) hC dX12_closedLoops_41 (by decide) g6 g7 (fun hc => ?_) (fun hc => ?_)
      · replace hf := hf.1 hc
        refine z_iload_n hC dX12_closedLoops_91 2 rfl rfl ?_
        exact z_iret hC hr rfl dX12_closedLoops_92 hf
      · replace hf := hf.2 hc
        refine z_iload_n hC dX12_closedLoops_44 3 rfl rfl ?_
        refine z_iconst hC dX12_closedLoops_45 ?_
        refine z_iadd hC dX12_closedLoops_46 ?_
        refine z_istore hC ([(4, vI (x3 + 1)), (0, vR ad 0), (1, vI x1), (2, vI x2), (3, vI x3)]) dX12_closedLoops_47 (by decide) rfl ?_
        refine z_sub (lv' := [(0, vR ad 0), (1, vI x1), (2, vI x2), (3, vI x3), (4, vI (x3 + 1))]) [1, 2, 3, 4, 0] rfl ?_
        obtain ⟨n, hf⟩ := hf
        exact wX12_closedLoops_B49 hC hE hr hinj ih n _ _ _ _ _ hf
set_option maxHeartbeats 4000000 in
set_option maxRecDepth 100000 in
theorem mX12_closedLoops {D : va_G} {dA : Nat → ClassId} {ad : Nat → Nat}  (l : Launch) (hinj : ∀ i j, i < NM → j < NM → ad i = ad j → i = j) (sz : Nat) {K : Int → zSt → Prop} {σ : zSt} {x1 : Int} (hf : fX12_closedLoops K σ x1) : Met l yX12_closedLoops (Cond.code yX12_closedLoops cX12_closedLoops 5 (some .int) :: UW) ({ frames := 5, cells := 0, slots := 0, locals := 128 } : Room) (va_Pc [vR ad 0, vI x1] (zPre D vwCl (tyA dA) zX0 NM ad (celM ad dA) sz σ)) (va_Qi (zPi K) (zB D vwCl (tyA dA) NM ad (celM ad dA)) (zA ad NM sz)) 0 0 (zA ad NM sz) := by
  refine z_enter (cc := cX12_closedLoops) (maxL := 5) (ret := (some .int)) (vs := [vR ad 0, vI x1]) (plainFor_of_name (by decide)) rfl hinj (Nat.le_of_ble_eq_true rfl) ?_
  intro p e s m args below meth c hC hE hsz hr hnm
  show zAt p l e ({ frames := 5, cells := 0, slots := 0, locals := 128 } : Room) s m args below meth c 0 0 (MQ below (va_Qi (zPi K) (zB D vwCl (tyA dA) NM ad (celM ad dA)) (zA ad NM sz)) args s 0 0 (zA ad NM sz)) 5 D vwCl (zA ad NM sz) NM ad (celM ad dA) 0 [(0, vR ad 0), (1, vI x1)] [] σ
  refine z_aload_n hC dX12_closedLoops_0 0 rfl rfl ?_
  refine z_aload_n hC dX12_closedLoops_1 0 rfl rfl ?_
  refine z_iload_n hC dX12_closedLoops_2 1 rfl rfl ?_
  refine z_callVi hC hE (oM_12 (show kM 0 = 12 by decide)) [vI x1] (fun sz2 => mX12_isFeature l hinj sz2 hf) (cwV 1 hC.1.2.2.2.2 (uV (uT _) u1865 u1867 u62 u118 u1868) rfl rfl rfl (by decide +kernel) ⟨Nat.le_of_ble_eq_true rfl, Nat.le_of_ble_eq_true rfl⟩) rfl rfl (Nat.le_of_ble_eq_true rfl) ⟨Nat.le_of_ble_eq_true rfl, Nat.le_of_ble_eq_true rfl⟩ dX12_closedLoops_3 (fun r1 σ1 hf => ?_)
  refine z_callVi hC hE (oM_12 (show kM 0 = 12 by decide)) [vI r1] (fun sz2 => mX12_fails l hinj sz2 hf) (cwV 1 hC.1.2.2.2.2 (uV (uT _) u1833 u1835 u58 u118 u1836) rfl rfl rfl (by decide +kernel) ⟨Nat.le_of_ble_eq_true rfl, Nat.le_of_ble_eq_true rfl⟩) rfl rfl (Nat.le_of_ble_eq_true rfl) ⟨Nat.le_of_ble_eq_true rfl, Nat.le_of_ble_eq_true rfl⟩ dX12_closedLoops_6 (fun r2 σ2 hf => ?_)
  obtain ⟨g3, hf⟩ := hf
  refine z_if_eq (tgt := 14) hC dX12_closedLoops_9 (by decide) g3 (fun hc => ?_) (fun hc => ?_)
  · replace hf := hf.1 hc
    refine z_aload_n hC dX12_closedLoops_14 0 rfl rfl ?_
    refine z_callVv hC hE (oM_12 (show kM 0 = 12 by decide)) [] (fun sz2 => mX12_orient l hinj sz2 hf) (cwV 0 hC.1.2.2.2.2 (uV (uT _) u1901 u1903 u67 u118 u1904) rfl rfl rfl (by decide +kernel) ⟨Nat.le_of_ble_eq_true rfl, Nat.le_of_ble_eq_true rfl⟩) rfl rfl (Nat.le_of_ble_eq_true rfl) ⟨Nat.le_of_ble_eq_true rfl, Nat.le_of_ble_eq_true rfl⟩ dX12_closedLoops_15 (fun σ4 hf => ?_)
    refine z_iconst hC dX12_closedLoops_18 ?_
    refine z_istore_n hC ([(2, vI 0), (0, vR ad 0), (1, vI x1)]) dX12_closedLoops_19 rfl (by decide) rfl ?_
    refine z_aload_n hC dX12_closedLoops_20 1 rfl rfl ?_
    refine z_get hC (fun w h => uT _ w (uL12 w h)) (oM_12 (show kM 0 = 12 by decide)) 17 (by decide) (uT _ _ u1562) rfl rfl dX12_closedLoops_21 ?_
    refine z_iconst hC dX12_closedLoops_24 ?_
    refine z_iadd hC dX12_closedLoops_25 ?_
    refine z_istore_n hC ([(3, vI ((σ4 0 17) + 1)), (2, vI 0), (0, vR ad 0), (1, vI x1)]) dX12_closedLoops_26 rfl (by decide) rfl ?_
    refine z_sub (lv' := [(0, vR ad 0), (1, vI x1), (2, vI 0), (3, vI ((σ4 0 17) + 1))]) [2, 3, 1, 0] rfl ?_
    obtain ⟨n, hf⟩ := hf
    exact wX12_closedLoops_B27 hC hE hr hinj n _ _ _ _ hf
  · replace hf := hf.2 hc
    refine z_iconst hC dX12_closedLoops_12 ?_
    exact z_iret hC hr rfl dX12_closedLoops_13 hf

-- ===== X12_leastTolerance
noncomputable def fX12_leastTolerance_B16 (K : Int → zSt → Prop) (n : Nat) : zSt → Int → Int → Prop :=
  Nat.rec (motive := fun _ => zSt → Int → Int → Prop) (fun _ _ _ => False) (fun _ ih σ x1 x2 => zrg x2 ∧ ((9 < x2 → K (-1) σ) ∧ (¬ 9 < x2 → fX12_track (fun σ5 => zrg (σ5 0 17) ∧ ((σ5 0 17 < 0 → ih σ5 x1 (x2 + 1)) ∧ (¬ σ5 0 17 < 0 → fX12_lost (fun r7 σ7 => zrg r7 ∧ ((r7 = 0 → K x2 σ7) ∧ (¬ r7 = 0 → ih σ7 x1 (x2 + 1)))) σ5 ))) σ x1 x2))) n
theorem uX12_leastTolerance_B16 (K : Int → zSt → Prop) (n0 : Nat) (σ : zSt) (x1 : Int) (x2 : Int) : fX12_leastTolerance_B16 K (n0 + 1) σ x1 x2 = (zrg x2 ∧ ((9 < x2 → K (-1) σ) ∧ (¬ 9 < x2 → fX12_track (fun σ5 => zrg (σ5 0 17) ∧ ((σ5 0 17 < 0 → (fX12_leastTolerance_B16 K n0) σ5 x1 (x2 + 1)) ∧ (¬ σ5 0 17 < 0 → fX12_lost (fun r7 σ7 => zrg r7 ∧ ((r7 = 0 → K x2 σ7) ∧ (¬ r7 = 0 → (fX12_leastTolerance_B16 K n0) σ7 x1 (x2 + 1)))) σ5 ))) σ x1 x2))) := rfl
def fX12_leastTolerance (K : Int → zSt → Prop) (σ : zSt) (x1 : Int) : Prop :=
  fX12_isFeature (fun r1 σ1 => fX12_fails (fun r2 σ2 => zrg r2 ∧ ((r2 = 0 → (∃ n, fX12_leastTolerance_B16 K n σ2 x1 0)) ∧ (¬ r2 = 0 → K 0 σ2))) σ1 r1) σ x1
set_option maxHeartbeats 4000000 in
set_option maxRecDepth 100000 in
theorem wX12_leastTolerance_B16 {p : Program} {l : Launch} {e : Env} {s : State} {m : MethodId} {args : Array Value} {below : List Frame} {meth : Method} {c : Code} {D : va_G} {dA : Nat → ClassId} {ad : Nat → Nat} {sz : Nat}  {K : Int → zSt → Prop} (hC : zC p m c cX12_leastTolerance 3 s args (Cond.code yX12_leastTolerance cX12_leastTolerance 3 (some .int) :: UW) RX12 meth D vwCl (tyA dA) (zA ad NM sz) NM ad (celM ad dA)) (hE : zE zX0 (zA ad NM sz) s s.heap) (hr : meth.sig.returnType = (some .int)) (hinj : ∀ i j, i < NM → j < NM → ad i = ad j → i = j) : ∀ (n : Nat) (σ : zSt) (x1 : Int) (x2 : Int), fX12_leastTolerance_B16 K n σ x1 x2 → zAt p l e ({ frames := 6, cells := 0, slots := 0, locals := 152 } : Room) s m args below meth c 0 0 (MQ below (va_Qi (zPi K) (zB D vwCl (tyA dA) NM ad (celM ad dA)) (zA ad NM sz)) args s 0 0 (zA ad NM sz)) 3 D vwCl (zA ad NM sz) NM ad (celM ad dA) 16 [(0, vR ad 0), (1, vI x1), (2, vI x2)] [] σ := by
  intro n
  induction n with
  | zero => intro σ x1 x2  hf; exact False.elim hf
  | succ n ih =>
    intro σ x1 x2  hf
    rw [uX12_leastTolerance_B16] at hf
    refine z_iload_n hC dX12_leastTolerance_16 2 rfl rfl ?_
    refine z_bipush hC dX12_leastTolerance_17 (by decide) ?_
    obtain ⟨g4, hf⟩ := hf
    refine z_icmp_gt (tgt := 50) hC dX12_leastTolerance_19 (by decide) g4 (zlit rfl rfl) (fun hc => ?_) (fun hc => ?_)
    · replace hf := hf.1 hc
      refine z_iconst hC dX12_leastTolerance_50 ?_
      exact z_iret hC hr rfl dX12_leastTolerance_51 hf
    · replace hf := hf.2 hc
      refine z_aload_n hC dX12_leastTolerance_22 0 rfl rfl ?_
      refine z_iload_n hC dX12_leastTolerance_23 1 rfl rfl ?_
      refine z_iload_n hC dX12_leastTolerance_24 2 rfl rfl ?_
      refine z_callVv hC hE (oM_12 (show kM 0 = 12 by decide)) [vI x1, vI x2] (fun sz2 => mX12_track l hinj sz2 hf) (cwV 2 hC.1.2.2.2.2 (uV (uT _) u1968 u1970 u76 u118 u1971) rfl rfl rfl (by decide +kernel) ⟨Nat.le_of_ble_eq_true rfl, Nat.le_of_ble_eq_true rfl⟩) rfl rfl (Nat.le_of_ble_eq_true rfl) ⟨Nat.le_of_ble_eq_true rfl, Nat.le_of_ble_eq_true rfl⟩ dX12_leastTolerance_25 (fun σ5 hf => ?_)
      refine z_aload_n hC dX12_leastTolerance_28 0 rfl rfl ?_
      refine z_get hC (fun w h => uT _ w (uL12 w h)) (oM_12 (show kM 0 = 12 by decide)) 17 (by decide) (uT _ _ u1562) rfl rfl dX12_leastTolerance_29 ?_
      obtain ⟨g6, hf⟩ := hf
      refine z_if_lt (tgt := 44) hC dX12_leastTolerance_32 (by decide) g6 (fun hc => ?_) (fun hc => ?_)
      · replace hf := hf.1 hc
        refine z_iinc hC ([(2, vI (x2 + 1)), (0, vR ad 0), (1, vI x1)]) dX12_leastTolerance_44 2 rfl (by decide) rfl ?_
        refine z_goto (tgt := 16) hC dX12_leastTolerance_47 (by decide) ?_
        refine z_sub (lv' := [(0, vR ad 0), (1, vI x1), (2, vI (x2 + 1))]) [1, 2, 0] rfl ?_
        exact ih _ _ _ hf
      · replace hf := hf.2 hc
        refine z_aload_n hC dX12_leastTolerance_35 0 rfl rfl ?_
        refine z_callVi hC hE (oM_12 (show kM 0 = 12 by decide)) [] (fun sz2 => mX12_lost l hinj sz2 hf) (cwV 0 hC.1.2.2.2.2 (uV (uT _) u1992 u1994 u80 u118 u1995) rfl rfl rfl (by decide +kernel) ⟨Nat.le_of_ble_eq_true rfl, Nat.le_of_ble_eq_true rfl⟩) rfl rfl (Nat.le_of_ble_eq_true rfl) ⟨Nat.le_of_ble_eq_true rfl, Nat.le_of_ble_eq_true rfl⟩ dX12_leastTolerance_36 (fun r7 σ7 hf => ?_)
        obtain ⟨g8, hf⟩ := hf
        refine z_if_ne (tgt := 44) hC dX12_leastTolerance_39 (by decide) g8 (fun hc => ?_) (fun hc => ?_)
        · replace hf := hf.2 hc
          refine z_iinc hC ([(2, vI (x2 + 1)), (0, vR ad 0), (1, vI x1)]) dX12_leastTolerance_44 2 rfl (by decide) rfl ?_
          refine z_goto (tgt := 16) hC dX12_leastTolerance_47 (by decide) ?_
          refine z_sub (lv' := [(0, vR ad 0), (1, vI x1), (2, vI (x2 + 1))]) [1, 2, 0] rfl ?_
          exact ih _ _ _ hf
        · replace hf := hf.1 hc
          refine z_iload_n hC dX12_leastTolerance_42 2 rfl rfl ?_
          exact z_iret hC hr rfl dX12_leastTolerance_43 hf
set_option maxHeartbeats 4000000 in
set_option maxRecDepth 100000 in
theorem mX12_leastTolerance {D : va_G} {dA : Nat → ClassId} {ad : Nat → Nat}  (l : Launch) (hinj : ∀ i j, i < NM → j < NM → ad i = ad j → i = j) (sz : Nat) {K : Int → zSt → Prop} {σ : zSt} {x1 : Int} (hf : fX12_leastTolerance K σ x1) : Met l yX12_leastTolerance (Cond.code yX12_leastTolerance cX12_leastTolerance 3 (some .int) :: UW) ({ frames := 6, cells := 0, slots := 0, locals := 152 } : Room) (va_Pc [vR ad 0, vI x1] (zPre D vwCl (tyA dA) zX0 NM ad (celM ad dA) sz σ)) (va_Qi (zPi K) (zB D vwCl (tyA dA) NM ad (celM ad dA)) (zA ad NM sz)) 0 0 (zA ad NM sz) := by
  refine z_enter (cc := cX12_leastTolerance) (maxL := 3) (ret := (some .int)) (vs := [vR ad 0, vI x1]) (plainFor_of_name (by decide)) rfl hinj (Nat.le_of_ble_eq_true rfl) ?_
  intro p e s m args below meth c hC hE hsz hr hnm
  show zAt p l e ({ frames := 6, cells := 0, slots := 0, locals := 152 } : Room) s m args below meth c 0 0 (MQ below (va_Qi (zPi K) (zB D vwCl (tyA dA) NM ad (celM ad dA)) (zA ad NM sz)) args s 0 0 (zA ad NM sz)) 3 D vwCl (zA ad NM sz) NM ad (celM ad dA) 0 [(0, vR ad 0), (1, vI x1)] [] σ
  refine z_aload_n hC dX12_leastTolerance_0 0 rfl rfl ?_
  refine z_aload_n hC dX12_leastTolerance_1 0 rfl rfl ?_
  refine z_iload_n hC dX12_leastTolerance_2 1 rfl rfl ?_
  refine z_callVi hC hE (oM_12 (show kM 0 = 12 by decide)) [vI x1] (fun sz2 => mX12_isFeature l hinj sz2 hf) (cwV 1 hC.1.2.2.2.2 (uV (uT _) u1865 u1867 u62 u118 u1868) rfl rfl rfl (by decide +kernel) ⟨Nat.le_of_ble_eq_true rfl, Nat.le_of_ble_eq_true rfl⟩) rfl rfl (Nat.le_of_ble_eq_true rfl) ⟨Nat.le_of_ble_eq_true rfl, Nat.le_of_ble_eq_true rfl⟩ dX12_leastTolerance_3 (fun r1 σ1 hf => ?_)
  refine z_callVi hC hE (oM_12 (show kM 0 = 12 by decide)) [vI r1] (fun sz2 => mX12_fails l hinj sz2 hf) (cwV 1 hC.1.2.2.2.2 (uV (uT _) u1833 u1835 u58 u118 u1836) rfl rfl rfl (by decide +kernel) ⟨Nat.le_of_ble_eq_true rfl, Nat.le_of_ble_eq_true rfl⟩) rfl rfl (Nat.le_of_ble_eq_true rfl) ⟨Nat.le_of_ble_eq_true rfl, Nat.le_of_ble_eq_true rfl⟩ dX12_leastTolerance_6 (fun r2 σ2 hf => ?_)
  obtain ⟨g3, hf⟩ := hf
  refine z_if_eq (tgt := 14) hC dX12_leastTolerance_9 (by decide) g3 (fun hc => ?_) (fun hc => ?_)
  · replace hf := hf.1 hc
    refine z_iconst hC dX12_leastTolerance_14 ?_
    refine z_istore_n hC ([(2, vI 0), (0, vR ad 0), (1, vI x1)]) dX12_leastTolerance_15 rfl (by decide) rfl ?_
    refine z_sub (lv' := [(0, vR ad 0), (1, vI x1), (2, vI 0)]) [1, 2, 0] rfl ?_
    obtain ⟨n, hf⟩ := hf
    exact wX12_leastTolerance_B16 hC hE hr hinj n _ _ _ hf
  · replace hf := hf.2 hc
    refine z_iconst hC dX12_leastTolerance_12 ?_
    exact z_iret hC hr rfl dX12_leastTolerance_13 hf

-- ===== X12_rootOf
noncomputable def fX12_rootOf_B6 (K : Int → zSt → Prop) (n : Nat) : zSt → Int → Int → Int → Prop :=
  Nat.rec (motive := fun _ => zSt → Int → Int → Int → Prop) (fun _ _ _ _ => False) (fun _ ih σ x0 x1 x2 => zrg x1 ∧ zrg x2 ∧ ((x2 ≤ x1 → K x1 σ) ∧ (¬ x2 ≤ x1 → zrg ((x1 + x2) + 1) ∧ zrg ((((x1 + x2) + 1).tdiv 2) * (((x1 + x2) + 1).tdiv 2)) ∧ zrg x0 ∧ ((x0 < (((x1 + x2) + 1).tdiv 2) * (((x1 + x2) + 1).tdiv 2) → ih σ x0 x1 ((((x1 + x2) + 1).tdiv 2) - 1)) ∧ (¬ x0 < (((x1 + x2) + 1).tdiv 2) * (((x1 + x2) + 1).tdiv 2) → ih σ x0 (((x1 + x2) + 1).tdiv 2) x2))))) n
theorem uX12_rootOf_B6 (K : Int → zSt → Prop) (n0 : Nat) (σ : zSt) (x0 : Int) (x1 : Int) (x2 : Int) : fX12_rootOf_B6 K (n0 + 1) σ x0 x1 x2 = (zrg x1 ∧ zrg x2 ∧ ((x2 ≤ x1 → K x1 σ) ∧ (¬ x2 ≤ x1 → zrg ((x1 + x2) + 1) ∧ zrg ((((x1 + x2) + 1).tdiv 2) * (((x1 + x2) + 1).tdiv 2)) ∧ zrg x0 ∧ ((x0 < (((x1 + x2) + 1).tdiv 2) * (((x1 + x2) + 1).tdiv 2) → (fX12_rootOf_B6 K n0) σ x0 x1 ((((x1 + x2) + 1).tdiv 2) - 1)) ∧ (¬ x0 < (((x1 + x2) + 1).tdiv 2) * (((x1 + x2) + 1).tdiv 2) → (fX12_rootOf_B6 K n0) σ x0 (((x1 + x2) + 1).tdiv 2) x2))))) := rfl
def fX12_rootOf (K : Int → zSt → Prop) (σ : zSt) (x0 : Int) : Prop :=
  (∃ n, fX12_rootOf_B6 K n σ x0 0 40000)
set_option maxHeartbeats 4000000 in
set_option maxRecDepth 100000 in
theorem wX12_rootOf_B6 {p : Program} {l : Launch} {e : Env} {s : State} {m : MethodId} {args : Array Value} {below : List Frame} {meth : Method} {c : Code} {D : va_G} {dA : Nat → ClassId} {ad : Nat → Nat} {sz : Nat}  {K : Int → zSt → Prop} (hC : zC p m c cX12_rootOf 4 s args (Cond.code yX12_rootOf cX12_rootOf 4 (some .int) :: UW) RX12 meth D vwCl (tyA dA) (zA ad NM sz) NM ad (celM ad dA)) (hE : zE zX0 (zA ad NM sz) s s.heap) (hr : meth.sig.returnType = (some .int)) (hinj : ∀ i j, i < NM → j < NM → ad i = ad j → i = j) : ∀ (n : Nat) (σ : zSt) (x0 : Int) (x1 : Int) (x2 : Int), fX12_rootOf_B6 K n σ x0 x1 x2 → zAt p l e ({ frames := 0, cells := 0, slots := 0, locals := 0 } : Room) s m args below meth c 0 0 (MQ below (va_Qi (zPi K) (zB D vwCl (tyA dA) NM ad (celM ad dA)) (zA ad NM sz)) args s 0 0 (zA ad NM sz)) 4 D vwCl (zA ad NM sz) NM ad (celM ad dA) 6 [(0, vI x0), (1, vI x1), (2, vI x2)] [] σ := by
  intro n
  induction n with
  | zero => intro σ x0 x1 x2  hf; exact False.elim hf
  | succ n ih =>
    intro σ x0 x1 x2  hf
    rw [uX12_rootOf_B6] at hf
    refine z_iload_n hC dX12_rootOf_6 1 rfl rfl ?_
    refine z_iload_n hC dX12_rootOf_7 2 rfl rfl ?_
    obtain ⟨g1, hf⟩ := hf
    obtain ⟨g2, hf⟩ := hf
    refine z_icmp_ge (tgt := 38) hC dX12_rootOf_8 (by decide) g1 g2 (fun hc => ?_) (fun hc => ?_)
    · replace hf := hf.1 hc
      refine z_iload_n hC dX12_rootOf_38 1 rfl rfl ?_
      exact z_iret hC hr rfl dX12_rootOf_39 hf
    · replace hf := hf.2 hc
      refine z_iload_n hC dX12_rootOf_11 1 rfl rfl ?_
      refine z_iload_n hC dX12_rootOf_12 2 rfl rfl ?_
      refine z_iadd hC dX12_rootOf_13 ?_
      refine z_iconst hC dX12_rootOf_14 ?_
      refine z_iadd hC dX12_rootOf_15 ?_
      refine z_iconst hC dX12_rootOf_16 ?_
      obtain ⟨g3, hf⟩ := hf
      refine z_idiv hC dX12_rootOf_17 g3 (zlit rfl rfl) (by decide) ?_
      refine z_istore_n hC ([(3, vI (((x1 + x2) + 1).tdiv 2)), (0, vI x0), (1, vI x1), (2, vI x2)]) dX12_rootOf_18 rfl (by decide) rfl ?_
      refine z_iload_n hC dX12_rootOf_19 0 rfl rfl ?_
      refine z_iload_n hC dX12_rootOf_20 0 rfl rfl ?_
      refine z_imul hC dX12_rootOf_21 ?_
      refine z_iload_n hC dX12_rootOf_22 1 rfl rfl ?_
      obtain ⟨g4, hf⟩ := hf
      obtain ⟨g5, hf⟩ := hf
      refine z_icmp_gt (tgt := 31) hC dX12_rootOf_23 (by decide) g4 g5 (fun hc => ?_) (fun hc => ?_)
      · replace hf := hf.1 hc
        refine z_iload_n hC dX12_rootOf_31 0 rfl rfl ?_
        refine z_iconst hC dX12_rootOf_32 ?_
        refine z_isub hC dX12_rootOf_33 ?_
        refine z_istore_n hC ([(2, vI ((((x1 + x2) + 1).tdiv 2) - 1)), (3, vI (((x1 + x2) + 1).tdiv 2)), (0, vI x0), (1, vI x1)]) dX12_rootOf_34 rfl (by decide) rfl ?_
        refine z_goto (tgt := 6) hC dX12_rootOf_35 (by decide) ?_
        refine z_sub (lv' := [(0, vI x0), (1, vI x1), (2, vI ((((x1 + x2) + 1).tdiv 2) - 1))]) [2, 3, 0] rfl ?_
        exact ih _ _ _ _ hf
      · replace hf := hf.2 hc
        refine z_iload_n hC dX12_rootOf_26 0 rfl rfl ?_
        refine z_istore_n hC ([(1, vI (((x1 + x2) + 1).tdiv 2)), (3, vI (((x1 + x2) + 1).tdiv 2)), (0, vI x0), (2, vI x2)]) dX12_rootOf_27 rfl (by decide) rfl ?_
        refine z_goto (tgt := 35) hC dX12_rootOf_28 (by decide) ?_
        refine z_goto (tgt := 6) hC dX12_rootOf_35 (by decide) ?_
        refine z_sub (lv' := [(0, vI x0), (1, vI (((x1 + x2) + 1).tdiv 2)), (2, vI x2)]) [2, 0, 3] rfl ?_
        exact ih _ _ _ _ hf
set_option maxHeartbeats 4000000 in
set_option maxRecDepth 100000 in
theorem mX12_rootOf {D : va_G} {dA : Nat → ClassId} {ad : Nat → Nat}  (l : Launch) (hinj : ∀ i j, i < NM → j < NM → ad i = ad j → i = j) (sz : Nat) {K : Int → zSt → Prop} {σ : zSt} {x0 : Int} (hf : fX12_rootOf K σ x0) : Met l yX12_rootOf (Cond.code yX12_rootOf cX12_rootOf 4 (some .int) :: UW) ({ frames := 0, cells := 0, slots := 0, locals := 0 } : Room) (va_Pc [vI x0] (zPre D vwCl (tyA dA) zX0 NM ad (celM ad dA) sz σ)) (va_Qi (zPi K) (zB D vwCl (tyA dA) NM ad (celM ad dA)) (zA ad NM sz)) 0 0 (zA ad NM sz) := by
  refine z_enter (cc := cX12_rootOf) (maxL := 4) (ret := (some .int)) (vs := [vI x0]) (plainFor_of_name (by decide)) rfl hinj (Nat.le_of_ble_eq_true rfl) ?_
  intro p e s m args below meth c hC hE hsz hr hnm
  show zAt p l e ({ frames := 0, cells := 0, slots := 0, locals := 0 } : Room) s m args below meth c 0 0 (MQ below (va_Qi (zPi K) (zB D vwCl (tyA dA) NM ad (celM ad dA)) (zA ad NM sz)) args s 0 0 (zA ad NM sz)) 4 D vwCl (zA ad NM sz) NM ad (celM ad dA) 0 [(0, vI x0)] [] σ
  refine z_iconst hC dX12_rootOf_0 ?_
  refine z_istore_n hC ([(1, vI 0), (0, vI x0)]) dX12_rootOf_1 rfl (by decide) rfl ?_
  refine z_ldcw hC (n := 40000) (uT _ _ u2035) (by decide) dX12_rootOf_2 ?_
  refine z_istore_n hC ([(2, vI 40000), (1, vI 0), (0, vI x0)]) dX12_rootOf_5 rfl (by decide) rfl ?_
  refine z_sub (lv' := [(0, vI x0), (1, vI 0), (2, vI 40000)]) [2, 1, 0] rfl ?_
  obtain ⟨n, hf⟩ := hf
  exact wX12_rootOf_B6 hC hE hr hinj n _ _ _ _ hf

-- ===== X12_trueX
def fX12_trueX (K : Int → zSt → Prop) (σ : zSt) (x1 : Int) : Prop :=
  (0 ≤ x1 ∧ x1 < 6) ∧ K ((σ 10 x1) - (σ 6 x1)) σ
set_option maxHeartbeats 4000000 in
set_option maxRecDepth 100000 in
theorem mX12_trueX {D : va_G} {dA : Nat → ClassId} {ad : Nat → Nat}  (l : Launch) (hinj : ∀ i j, i < NM → j < NM → ad i = ad j → i = j) (sz : Nat) {K : Int → zSt → Prop} {σ : zSt} {x1 : Int} (hf : fX12_trueX K σ x1) : Met l yX12_trueX (Cond.code yX12_trueX cX12_trueX 2 (some .int) :: UW) ({ frames := 0, cells := 0, slots := 0, locals := 0 } : Room) (va_Pc [vR ad 0, vI x1] (zPre D vwCl (tyA dA) zX0 NM ad (celM ad dA) sz σ)) (va_Qi (zPi K) (zB D vwCl (tyA dA) NM ad (celM ad dA)) (zA ad NM sz)) 0 0 (zA ad NM sz) := by
  refine z_enter (cc := cX12_trueX) (maxL := 2) (ret := (some .int)) (vs := [vR ad 0, vI x1]) (plainFor_of_name (by decide)) rfl hinj (Nat.le_of_ble_eq_true rfl) ?_
  intro p e s m args below meth c hC hE hsz hr hnm
  show zAt p l e ({ frames := 0, cells := 0, slots := 0, locals := 0 } : Room) s m args below meth c 0 0 (MQ below (va_Qi (zPi K) (zB D vwCl (tyA dA) NM ad (celM ad dA)) (zA ad NM sz)) args s 0 0 (zA ad NM sz)) 2 D vwCl (zA ad NM sz) NM ad (celM ad dA) 0 [(0, vR ad 0), (1, vI x1)] [] σ
  refine z_aload_n hC dX12_trueX_0 0 rfl rfl ?_
  refine z_get hC (fun w h => uT _ w (uL12 w h)) (oM_12 (show kM 0 = 12 by decide)) 27 (by decide) (uT _ _ u1572) rfl rfl dX12_trueX_1 ?_
  refine z_iload_n hC dX12_trueX_4 1 rfl rfl ?_
  obtain ⟨g1, hf⟩ := hf
  refine z_iaload hC (aM_34 (show kM 10 = 34 by decide)) g1 dX12_trueX_5 ?_
  refine z_aload_n hC dX12_trueX_6 0 rfl rfl ?_
  refine z_get hC (fun w h => uT _ w (uL12 w h)) (oM_12 (show kM 0 = 12 by decide)) 19 (by decide) (uT _ _ u1564) rfl rfl dX12_trueX_7 ?_
  refine z_iload_n hC dX12_trueX_10 1 rfl rfl ?_
  refine z_iaload hC (aM_34 (show kM 6 = 34 by decide)) g1 dX12_trueX_11 ?_
  refine z_isub hC dX12_trueX_12 ?_
  exact z_iret hC hr rfl dX12_trueX_13 hf

-- ===== X12_trueY
def fX12_trueY (K : Int → zSt → Prop) (σ : zSt) (x1 : Int) : Prop :=
  (0 ≤ x1 ∧ x1 < 6) ∧ K ((σ 11 x1) - (σ 7 x1)) σ
set_option maxHeartbeats 4000000 in
set_option maxRecDepth 100000 in
theorem mX12_trueY {D : va_G} {dA : Nat → ClassId} {ad : Nat → Nat}  (l : Launch) (hinj : ∀ i j, i < NM → j < NM → ad i = ad j → i = j) (sz : Nat) {K : Int → zSt → Prop} {σ : zSt} {x1 : Int} (hf : fX12_trueY K σ x1) : Met l yX12_trueY (Cond.code yX12_trueY cX12_trueY 2 (some .int) :: UW) ({ frames := 0, cells := 0, slots := 0, locals := 0 } : Room) (va_Pc [vR ad 0, vI x1] (zPre D vwCl (tyA dA) zX0 NM ad (celM ad dA) sz σ)) (va_Qi (zPi K) (zB D vwCl (tyA dA) NM ad (celM ad dA)) (zA ad NM sz)) 0 0 (zA ad NM sz) := by
  refine z_enter (cc := cX12_trueY) (maxL := 2) (ret := (some .int)) (vs := [vR ad 0, vI x1]) (plainFor_of_name (by decide)) rfl hinj (Nat.le_of_ble_eq_true rfl) ?_
  intro p e s m args below meth c hC hE hsz hr hnm
  show zAt p l e ({ frames := 0, cells := 0, slots := 0, locals := 0 } : Room) s m args below meth c 0 0 (MQ below (va_Qi (zPi K) (zB D vwCl (tyA dA) NM ad (celM ad dA)) (zA ad NM sz)) args s 0 0 (zA ad NM sz)) 2 D vwCl (zA ad NM sz) NM ad (celM ad dA) 0 [(0, vR ad 0), (1, vI x1)] [] σ
  refine z_aload_n hC dX12_trueY_0 0 rfl rfl ?_
  refine z_get hC (fun w h => uT _ w (uL12 w h)) (oM_12 (show kM 0 = 12 by decide)) 28 (by decide) (uT _ _ u1573) rfl rfl dX12_trueY_1 ?_
  refine z_iload_n hC dX12_trueY_4 1 rfl rfl ?_
  obtain ⟨g1, hf⟩ := hf
  refine z_iaload hC (aM_34 (show kM 11 = 34 by decide)) g1 dX12_trueY_5 ?_
  refine z_aload_n hC dX12_trueY_6 0 rfl rfl ?_
  refine z_get hC (fun w h => uT _ w (uL12 w h)) (oM_12 (show kM 0 = 12 by decide)) 20 (by decide) (uT _ _ u1565) rfl rfl dX12_trueY_7 ?_
  refine z_iload_n hC dX12_trueY_10 1 rfl rfl ?_
  refine z_iaload hC (aM_34 (show kM 7 = 34 by decide)) g1 dX12_trueY_11 ?_
  refine z_isub hC dX12_trueY_12 ?_
  exact z_iret hC hr rfl dX12_trueY_13 hf

-- ===== X12_cut
noncomputable def fX12_cut_B9 (K : zSt → Prop) (n : Nat) : zSt → Int → Int → Int → Prop :=
  Nat.rec (motive := fun _ => zSt → Int → Int → Int → Prop) (fun _ _ _ _ => False) (fun _ ih σ x1 x2 x3 => zrg x3 ∧ zrg (σ 1 2) ∧ ((σ 1 2 ≤ x3 → K σ) ∧ (¬ σ 1 2 ≤ x3 → (0 ≤ x3 ∧ x3 < 6) ∧ zrg (σ 9 x3) ∧ ((σ 9 x3 = 0 → ih σ x1 x2 (x3 + 1)) ∧ (¬ σ 9 x3 = 0 → zrg x2 ∧ ((x2 < 0 → ih σ x1 x3 (x3 + 1)) ∧ (¬ x2 < 0 → fX12_trueX (fun r7 σ7 => fX12_trueX (fun r8 σ8 => fX12_trueY (fun r9 σ9 => fX12_trueY (fun r10 σ10 => (0 ≤ σ10 0 29 ∧ σ10 0 29 < 6) ∧ ∀ σ12, σ12 = zu σ10 12 (σ10 0 29) x2 → (0 ≤ σ12 0 29 ∧ σ12 0 29 < 6) ∧ ∀ σ14, σ14 = zu σ12 13 (σ12 0 29) x3 → fX12_rootOf (fun r15 σ15 => (0 ≤ σ14 0 29 ∧ σ14 0 29 < 6) ∧ ∀ σ17, σ17 = zu σ15 14 (σ14 0 29) r15 → ∀ σ18, σ18 = zu σ17 0 29 ((σ17 0 29) + 1) → ih σ18 x1 x3 (x3 + 1)) σ14 (((((r7 - r8) * (r7 - r8)) + ((r9 - r10) * (r9 - r10))) * x1) * x1)) σ9 x2) σ8 x3) σ7 x2) σ x3))))))) n
theorem uX12_cut_B9 (K : zSt → Prop) (n0 : Nat) (σ : zSt) (x1 : Int) (x2 : Int) (x3 : Int) : fX12_cut_B9 K (n0 + 1) σ x1 x2 x3 = (zrg x3 ∧ zrg (σ 1 2) ∧ ((σ 1 2 ≤ x3 → K σ) ∧ (¬ σ 1 2 ≤ x3 → (0 ≤ x3 ∧ x3 < 6) ∧ zrg (σ 9 x3) ∧ ((σ 9 x3 = 0 → (fX12_cut_B9 K n0) σ x1 x2 (x3 + 1)) ∧ (¬ σ 9 x3 = 0 → zrg x2 ∧ ((x2 < 0 → (fX12_cut_B9 K n0) σ x1 x3 (x3 + 1)) ∧ (¬ x2 < 0 → fX12_trueX (fun r7 σ7 => fX12_trueX (fun r8 σ8 => fX12_trueY (fun r9 σ9 => fX12_trueY (fun r10 σ10 => (0 ≤ σ10 0 29 ∧ σ10 0 29 < 6) ∧ ∀ σ12, σ12 = zu σ10 12 (σ10 0 29) x2 → (0 ≤ σ12 0 29 ∧ σ12 0 29 < 6) ∧ ∀ σ14, σ14 = zu σ12 13 (σ12 0 29) x3 → fX12_rootOf (fun r15 σ15 => (0 ≤ σ14 0 29 ∧ σ14 0 29 < 6) ∧ ∀ σ17, σ17 = zu σ15 14 (σ14 0 29) r15 → ∀ σ18, σ18 = zu σ17 0 29 ((σ17 0 29) + 1) → (fX12_cut_B9 K n0) σ18 x1 x3 (x3 + 1)) σ14 (((((r7 - r8) * (r7 - r8)) + ((r9 - r10) * (r9 - r10))) * x1) * x1)) σ9 x2) σ8 x3) σ7 x2) σ x3))))))) := rfl
def fX12_cut (K : zSt → Prop) (σ : zSt) (x1 : Int) : Prop :=
  ∀ σ1, σ1 = zu σ 0 29 0 → (∃ n, fX12_cut_B9 K n σ1 x1 (-1) 0)
set_option maxHeartbeats 4000000 in
set_option maxRecDepth 100000 in
theorem wX12_cut_B9 {p : Program} {l : Launch} {e : Env} {s : State} {m : MethodId} {args : Array Value} {below : List Frame} {meth : Method} {c : Code} {D : va_G} {dA : Nat → ClassId} {ad : Nat → Nat} {sz : Nat}  {K : zSt → Prop} (hC : zC p m c cX12_cut 6 s args (Cond.code yX12_cut cX12_cut 6 none :: UW) RX12 meth D vwCl (tyA dA) (zA ad NM sz) NM ad (celM ad dA)) (hE : zE zX0 (zA ad NM sz) s s.heap) (hr : meth.sig.returnType = none) (hinj : ∀ i j, i < NM → j < NM → ad i = ad j → i = j) : ∀ (n : Nat) (σ : zSt) (x1 : Int) (x2 : Int) (x3 : Int), fX12_cut_B9 K n σ x1 x2 x3 → zAt p l e ({ frames := 1, cells := 0, slots := 0, locals := 23 } : Room) s m args below meth c 0 0 (MQ below (va_Qv K (zB D vwCl (tyA dA) NM ad (celM ad dA)) (zA ad NM sz)) args s 0 0 (zA ad NM sz)) 6 D vwCl (zA ad NM sz) NM ad (celM ad dA) 9 [(0, vR ad 0), (1, vI x1), (2, vI x2), (3, vI x3)] [] σ := by
  intro n
  induction n with
  | zero => intro σ x1 x2 x3  hf; exact False.elim hf
  | succ n ih =>
    intro σ x1 x2 x3  hf
    rw [uX12_cut_B9] at hf
    refine z_iload_n hC dX12_cut_9 3 rfl rfl ?_
    refine z_aload_n hC dX12_cut_10 0 rfl rfl ?_
    refine z_get hC (fun w h => uT _ w (uL12 w h)) (oM_12 (show kM 0 = 12 by decide)) 0 (by decide) (uT _ _ u1545) rfl rfl dX12_cut_11 ?_
    refine z_iconst hC dX12_cut_14 ?_
    refine z_iaload hC (aM_30 (show kM 1 = 30 by decide)) ⟨by decide, by decide⟩ dX12_cut_15 ?_
    obtain ⟨g2, hf⟩ := hf
    obtain ⟨g3, hf⟩ := hf
    refine z_icmp_ge (tgt := 126) hC dX12_cut_16 (by decide) g2 g3 (fun hc => ?_) (fun hc => ?_)
    · replace hf := hf.1 hc
      exact z_vret hC hr rfl dX12_cut_126 hf
    · replace hf := hf.2 hc
      refine z_aload_n hC dX12_cut_19 0 rfl rfl ?_
      refine z_get hC (fun w h => uT _ w (uL12 w h)) (oM_12 (show kM 0 = 12 by decide)) 26 (by decide) (uT _ _ u1571) rfl rfl dX12_cut_20 ?_
      refine z_iload_n hC dX12_cut_23 3 rfl rfl ?_
      obtain ⟨g4, hf⟩ := hf
      refine z_zaload hC (aM_33 (show kM 9 = 33 by decide)) g4 dX12_cut_24 ?_
      obtain ⟨g5, hf⟩ := hf
      refine z_if_ne (tgt := 31) hC dX12_cut_25 (by decide) g5 (fun hc => ?_) (fun hc => ?_)
      · replace hf := hf.2 hc
        refine z_iload_n hC dX12_cut_31 2 rfl rfl ?_
        obtain ⟨g6, hf⟩ := hf
        refine z_if_lt (tgt := 118) hC dX12_cut_32 (by decide) g6 (fun hc => ?_) (fun hc => ?_)
        · replace hf := hf.1 hc
          refine z_iload_n hC dX12_cut_118 3 rfl rfl ?_
          refine z_istore_n hC ([(2, vI x3), (0, vR ad 0), (1, vI x1), (3, vI x3)]) dX12_cut_119 rfl (by decide) rfl ?_
          refine z_iinc hC ([(3, vI (x3 + 1)), (2, vI x3), (0, vR ad 0), (1, vI x1)]) dX12_cut_120 3 rfl (by decide) rfl ?_
          refine z_goto (tgt := 9) hC dX12_cut_123 (by decide) ?_
          refine z_sub (lv' := [(0, vR ad 0), (1, vI x1), (2, vI x3), (3, vI (x3 + 1))]) [2, 3, 1, 0] rfl ?_
          exact ih _ _ _ _ hf
        · replace hf := hf.2 hc
          refine z_aload_n hC dX12_cut_35 0 rfl rfl ?_
          refine z_iload_n hC dX12_cut_36 3 rfl rfl ?_
          refine z_callVi hC hE (oM_12 (show kM 0 = 12 by decide)) [vI x3] (fun sz2 => mX12_trueX l hinj sz2 hf) (cwV 1 hC.1.2.2.2.2 (uV (uT _) u2024 u2026 u84 u118 u2027) rfl rfl rfl (by decide +kernel) ⟨Nat.le_of_ble_eq_true rfl, Nat.le_of_ble_eq_true rfl⟩) rfl rfl (Nat.le_of_ble_eq_true rfl) ⟨Nat.le_of_ble_eq_true rfl, Nat.le_of_ble_eq_true rfl⟩ dX12_cut_37 (fun r7 σ7 hf => ?_)
          refine z_aload_n hC dX12_cut_40 0 rfl rfl ?_
          refine z_iload_n hC dX12_cut_41 2 rfl rfl ?_
          refine z_callVi hC hE (oM_12 (show kM 0 = 12 by decide)) [vI x2] (fun sz2 => mX12_trueX l hinj sz2 hf) (cwV 1 hC.1.2.2.2.2 (uV (uT _) u2024 u2026 u84 u118 u2027) rfl rfl rfl (by decide +kernel) ⟨Nat.le_of_ble_eq_true rfl, Nat.le_of_ble_eq_true rfl⟩) rfl rfl (Nat.le_of_ble_eq_true rfl) ⟨Nat.le_of_ble_eq_true rfl, Nat.le_of_ble_eq_true rfl⟩ dX12_cut_42 (fun r8 σ8 hf => ?_)
          refine z_isub hC dX12_cut_45 ?_
          refine z_istore hC ([(4, vI (r7 - r8)), (0, vR ad 0), (1, vI x1), (2, vI x2), (3, vI x3)]) dX12_cut_46 (by decide) rfl ?_
          refine z_aload_n hC dX12_cut_48 1 rfl rfl ?_
          refine z_iload_n hC dX12_cut_49 4 rfl rfl ?_
          refine z_callVi hC hE (oM_12 (show kM 0 = 12 by decide)) [vI x3] (fun sz2 => mX12_trueY l hinj sz2 hf) (cwV 1 hC.1.2.2.2.2 (uV (uT _) u2028 u2030 u85 u118 u2031) rfl rfl rfl (by decide +kernel) ⟨Nat.le_of_ble_eq_true rfl, Nat.le_of_ble_eq_true rfl⟩) rfl rfl (Nat.le_of_ble_eq_true rfl) ⟨Nat.le_of_ble_eq_true rfl, Nat.le_of_ble_eq_true rfl⟩ dX12_cut_50 (fun r9 σ9 hf => ?_)
          refine z_aload_n hC dX12_cut_53 1 rfl rfl ?_
          refine z_iload_n hC dX12_cut_54 3 rfl rfl ?_
          refine z_callVi hC hE (oM_12 (show kM 0 = 12 by decide)) [vI x2] (fun sz2 => mX12_trueY l hinj sz2 hf) (cwV 1 hC.1.2.2.2.2 (uV (uT _) u2028 u2030 u85 u118 u2031) rfl rfl rfl (by decide +kernel) ⟨Nat.le_of_ble_eq_true rfl, Nat.le_of_ble_eq_true rfl⟩) rfl rfl (Nat.le_of_ble_eq_true rfl) ⟨Nat.le_of_ble_eq_true rfl, Nat.le_of_ble_eq_true rfl⟩ dX12_cut_55 (fun r10 σ10 hf => ?_)
          refine z_isub hC dX12_cut_58 ?_
          refine z_istore hC ([(5, vI (r9 - r10)), (4, vI (r7 - r8)), (0, vR ad 0), (1, vI x1), (2, vI x2), (3, vI x3)]) dX12_cut_59 (by decide) rfl ?_
          refine z_aload_n hC dX12_cut_61 2 rfl rfl ?_
          refine z_get hC (fun w h => uT _ w (uL12 w h)) (oM_12 (show kM 0 = 12 by decide)) 30 (by decide) (uT _ _ u1575) rfl rfl dX12_cut_62 ?_
          refine z_aload_n hC dX12_cut_65 2 rfl rfl ?_
          refine z_get hC (fun w h => uT _ w (uL12 w h)) (oM_12 (show kM 0 = 12 by decide)) 29 (by decide) (uT _ _ u1574) rfl rfl dX12_cut_66 ?_
          refine z_iload_n hC dX12_cut_69 4 rfl rfl ?_
          obtain ⟨g11, hf⟩ := hf
          refine z_iastore hC (aM_34 (show kM 12 = 34 by decide)) (loM' (show kM 12 = 34 by decide) (by decide)) g11 dX12_cut_70 ?_
          obtain ⟨σ12, eσ12⟩ : ∃ z : zSt, z = zu σ10 12 (σ10 0 29) x2 := ⟨_, rfl⟩
          rw [← eσ12]
          replace hf := hf σ12 eσ12
          refine z_aload_n hC dX12_cut_71 2 rfl rfl ?_
          refine z_get hC (fun w h => uT _ w (uL12 w h)) (oM_12 (show kM 0 = 12 by decide)) 31 (by decide) (uT _ _ u1576) rfl rfl dX12_cut_72 ?_
          refine z_aload_n hC dX12_cut_75 2 rfl rfl ?_
          refine z_get hC (fun w h => uT _ w (uL12 w h)) (oM_12 (show kM 0 = 12 by decide)) 29 (by decide) (uT _ _ u1574) rfl rfl dX12_cut_76 ?_
          refine z_iload_n hC dX12_cut_79 5 rfl rfl ?_
          obtain ⟨g13, hf⟩ := hf
          refine z_iastore hC (aM_34 (show kM 13 = 34 by decide)) (loM' (show kM 13 = 34 by decide) (by decide)) g13 dX12_cut_80 ?_
          obtain ⟨σ14, eσ14⟩ : ∃ z : zSt, z = zu σ12 13 (σ12 0 29) x3 := ⟨_, rfl⟩
          rw [← eσ14]
          replace hf := hf σ14 eσ14
          refine z_aload_n hC dX12_cut_81 2 rfl rfl ?_
          refine z_get hC (fun w h => uT _ w (uL12 w h)) (oM_12 (show kM 0 = 12 by decide)) 32 (by decide) (uT _ _ u1577) rfl rfl dX12_cut_82 ?_
          refine z_aload_n hC dX12_cut_85 2 rfl rfl ?_
          refine z_get hC (fun w h => uT _ w (uL12 w h)) (oM_12 (show kM 0 = 12 by decide)) 29 (by decide) (uT _ _ u1574) rfl rfl dX12_cut_86 ?_
          refine z_iload hC dX12_cut_89 1 rfl ?_
          refine z_iload hC dX12_cut_91 1 rfl ?_
          refine z_imul hC dX12_cut_93 ?_
          refine z_iload hC dX12_cut_94 0 rfl ?_
          refine z_iload hC dX12_cut_96 0 rfl ?_
          refine z_imul hC dX12_cut_98 ?_
          refine z_iadd hC dX12_cut_99 ?_
          refine z_iload_n hC dX12_cut_100 3 rfl rfl ?_
          refine z_imul hC dX12_cut_101 ?_
          refine z_iload_n hC dX12_cut_102 3 rfl rfl ?_
          refine z_imul hC dX12_cut_103 ?_
          refine z_callSi hC hE [vI (((((r7 - r8) * (r7 - r8)) + ((r9 - r10) * (r9 - r10))) * x1) * x1)] (fun sz2 => mX12_rootOf l hinj sz2 hf) (va_cwS 1 hC.1.2.2.2.2 (uS (uT _) u2032 u2033 u118 u2034) rfl rfl rfl (by decide +kernel) ⟨Nat.le_of_ble_eq_true rfl, Nat.le_of_ble_eq_true rfl⟩) rfl rfl (Nat.le_of_ble_eq_true rfl) ⟨Nat.le_of_ble_eq_true rfl, Nat.le_of_ble_eq_true rfl⟩ dX12_cut_104 (fun r15 σ15 hf => ?_)
          obtain ⟨g16, hf⟩ := hf
          refine z_iastore hC (aM_34 (show kM 14 = 34 by decide)) (loM' (show kM 14 = 34 by decide) (by decide)) g16 dX12_cut_107 ?_
          obtain ⟨σ17, eσ17⟩ : ∃ z : zSt, z = zu σ15 14 (σ14 0 29) r15 := ⟨_, rfl⟩
          rw [← eσ17]
          replace hf := hf σ17 eσ17
          refine z_aload_n hC dX12_cut_108 2 rfl rfl ?_
          refine z_dup hC dX12_cut_109 rfl ?_
          refine z_get hC (fun w h => uT _ w (uL12 w h)) (oM_12 (show kM 0 = 12 by decide)) 29 (by decide) (uT _ _ u1574) rfl rfl dX12_cut_110 ?_
          refine z_iconst hC dX12_cut_113 ?_
          refine z_iadd hC dX12_cut_114 ?_
          refine z_put hC (ty := .int) tyX12 tyX12_ok nmX12 (fun w h => uT _ w (uL12 w h)) (oM_12 (show kM 0 = 12 by decide)) (loM' (show kM 0 = 12 by decide) (by decide)) 29 (by decide) (uT _ _ u1574) rfl rfl (29) ((σ17 0 29) + 1) (by simp [zu]) (by decide +kernel) rfl rfl (Nat.le_of_ble_eq_true rfl) dX12_cut_115 ?_
          obtain ⟨σ18, eσ18⟩ : ∃ z : zSt, z = zu σ17 0 29 ((σ17 0 29) + 1) := ⟨_, rfl⟩
          rw [← eσ18]
          replace hf := hf σ18 eσ18
          refine z_iload_n hC dX12_cut_118 5 rfl rfl ?_
          refine z_istore_n hC ([(2, vI x3), (5, vI (r9 - r10)), (4, vI (r7 - r8)), (0, vR ad 0), (1, vI x1), (3, vI x3)]) dX12_cut_119 rfl (by decide) rfl ?_
          refine z_iinc hC ([(3, vI (x3 + 1)), (2, vI x3), (5, vI (r9 - r10)), (4, vI (r7 - r8)), (0, vR ad 0), (1, vI x1)]) dX12_cut_120 5 rfl (by decide) rfl ?_
          refine z_goto (tgt := 9) hC dX12_cut_123 (by decide) ?_
          refine z_sub (lv' := [(0, vR ad 0), (1, vI x1), (2, vI x3), (3, vI (x3 + 1))]) [4, 5, 1, 0] rfl ?_
          exact ih _ _ _ _ hf
      · replace hf := hf.1 hc
        refine z_goto (tgt := 120) hC dX12_cut_28 (by decide) ?_
        refine z_iinc hC ([(3, vI (x3 + 1)), (0, vR ad 0), (1, vI x1), (2, vI x2)]) dX12_cut_120 3 rfl (by decide) rfl ?_
        refine z_goto (tgt := 9) hC dX12_cut_123 (by decide) ?_
        refine z_sub (lv' := [(0, vR ad 0), (1, vI x1), (2, vI x2), (3, vI (x3 + 1))]) [1, 2, 3, 0] rfl ?_
        exact ih _ _ _ _ hf
set_option maxHeartbeats 4000000 in
set_option maxRecDepth 100000 in
theorem mX12_cut {D : va_G} {dA : Nat → ClassId} {ad : Nat → Nat}  (l : Launch) (hinj : ∀ i j, i < NM → j < NM → ad i = ad j → i = j) (sz : Nat) {K : zSt → Prop} {σ : zSt} {x1 : Int} (hf : fX12_cut K σ x1) : Met l yX12_cut (Cond.code yX12_cut cX12_cut 6 none :: UW) ({ frames := 1, cells := 0, slots := 0, locals := 23 } : Room) (va_Pc [vR ad 0, vI x1] (zPre D vwCl (tyA dA) zX0 NM ad (celM ad dA) sz σ)) (va_Qv K (zB D vwCl (tyA dA) NM ad (celM ad dA)) (zA ad NM sz)) 0 0 (zA ad NM sz) := by
  refine z_enter (cc := cX12_cut) (maxL := 6) (ret := none) (vs := [vR ad 0, vI x1]) (plainFor_of_name (by decide)) rfl hinj (Nat.le_of_ble_eq_true rfl) ?_
  intro p e s m args below meth c hC hE hsz hr hnm
  show zAt p l e ({ frames := 1, cells := 0, slots := 0, locals := 23 } : Room) s m args below meth c 0 0 (MQ below (va_Qv K (zB D vwCl (tyA dA) NM ad (celM ad dA)) (zA ad NM sz)) args s 0 0 (zA ad NM sz)) 6 D vwCl (zA ad NM sz) NM ad (celM ad dA) 0 [(0, vR ad 0), (1, vI x1)] [] σ
  refine z_aload_n hC dX12_cut_0 0 rfl rfl ?_
  refine z_iconst hC dX12_cut_1 ?_
  refine z_put hC (ty := .int) tyX12 tyX12_ok nmX12 (fun w h => uT _ w (uL12 w h)) (oM_12 (show kM 0 = 12 by decide)) (loM' (show kM 0 = 12 by decide) (by decide)) 29 (by decide) (uT _ _ u1574) rfl rfl (29) (0) (by simp [zu]) (by decide +kernel) rfl rfl (Nat.le_of_ble_eq_true rfl) dX12_cut_2 ?_
  obtain ⟨σ1, eσ1⟩ : ∃ z : zSt, z = zu σ 0 29 0 := ⟨_, rfl⟩
  rw [← eσ1]
  replace hf := hf σ1 eσ1
  refine z_iconst hC dX12_cut_5 ?_
  refine z_istore_n hC ([(2, vI (-1)), (0, vR ad 0), (1, vI x1)]) dX12_cut_6 rfl (by decide) rfl ?_
  refine z_iconst hC dX12_cut_7 ?_
  refine z_istore_n hC ([(3, vI 0), (2, vI (-1)), (0, vR ad 0), (1, vI x1)]) dX12_cut_8 rfl (by decide) rfl ?_
  refine z_sub (lv' := [(0, vR ad 0), (1, vI x1), (2, vI (-1)), (3, vI 0)]) [2, 3, 1, 0] rfl ?_
  obtain ⟨n, hf⟩ := hf
  exact wX12_cut_B9 hC hE hr hinj n _ _ _ _ hf

-- ===== X12_noSegments
def fX12_noSegments (K : Int → zSt → Prop) (σ : zSt) (x1 : Int) : Prop :=
  fX12_noTrack (fun r1 σ1 => zrg r1 ∧ ((r1 = 0 → fX12_setting (fun r3 σ3 => fX12_cut (fun σ4 => K 0 σ4) σ3 r3) σ1 5) ∧ (¬ r1 = 0 → K 1 σ1))) σ x1
set_option maxHeartbeats 4000000 in
set_option maxRecDepth 100000 in
theorem mX12_noSegments {D : va_G} {dA : Nat → ClassId} {ad : Nat → Nat}  (l : Launch) (hinj : ∀ i j, i < NM → j < NM → ad i = ad j → i = j) (sz : Nat) {K : Int → zSt → Prop} {σ : zSt} {x1 : Int} (hf : fX12_noSegments K σ x1) : Met l yX12_noSegments (Cond.code yX12_noSegments cX12_noSegments 2 (some .boolean) :: UW) ({ frames := 7, cells := 0, slots := 0, locals := 173 } : Room) (va_Pc [vR ad 0, vI x1] (zPre D vwCl (tyA dA) zX0 NM ad (celM ad dA) sz σ)) (va_Qi (zPi K) (zB D vwCl (tyA dA) NM ad (celM ad dA)) (zA ad NM sz)) 0 0 (zA ad NM sz) := by
  refine z_enter (cc := cX12_noSegments) (maxL := 2) (ret := (some .boolean)) (vs := [vR ad 0, vI x1]) (plainFor_of_name (by decide)) rfl hinj (Nat.le_of_ble_eq_true rfl) ?_
  intro p e s m args below meth c hC hE hsz hr hnm
  show zAt p l e ({ frames := 7, cells := 0, slots := 0, locals := 173 } : Room) s m args below meth c 0 0 (MQ below (va_Qi (zPi K) (zB D vwCl (tyA dA) NM ad (celM ad dA)) (zA ad NM sz)) args s 0 0 (zA ad NM sz)) 2 D vwCl (zA ad NM sz) NM ad (celM ad dA) 0 [(0, vR ad 0), (1, vI x1)] [] σ
  refine z_aload_n hC dX12_noSegments_0 0 rfl rfl ?_
  refine z_iload_n hC dX12_noSegments_1 1 rfl rfl ?_
  refine z_callVi hC hE (oM_12 (show kM 0 = 12 by decide)) [vI x1] (fun sz2 => mX12_noTrack l hinj sz2 hf) (cwV 1 hC.1.2.2.2.2 (uV (uT _) u1988 u1990 u79 u118 u1991) rfl rfl rfl (by decide +kernel) ⟨Nat.le_of_ble_eq_true rfl, Nat.le_of_ble_eq_true rfl⟩) rfl rfl (Nat.le_of_ble_eq_true rfl) ⟨Nat.le_of_ble_eq_true rfl, Nat.le_of_ble_eq_true rfl⟩ dX12_noSegments_2 (fun r1 σ1 hf => ?_)
  obtain ⟨g2, hf⟩ := hf
  refine z_if_eq (tgt := 10) hC dX12_noSegments_5 (by decide) g2 (fun hc => ?_) (fun hc => ?_)
  · replace hf := hf.1 hc
    refine z_aload_n hC dX12_noSegments_10 0 rfl rfl ?_
    refine z_aload_n hC dX12_noSegments_11 0 rfl rfl ?_
    refine z_iconst hC dX12_noSegments_12 ?_
    refine z_callVi hC hE (oM_12 (show kM 0 = 12 by decide)) [vI 5] (fun sz2 => mX12_setting l hinj sz2 hf) (cwV 1 hC.1.2.2.2.2 (uV (uT _) u1813 u1815 u55 u118 u1816) rfl rfl rfl (by decide +kernel) ⟨Nat.le_of_ble_eq_true rfl, Nat.le_of_ble_eq_true rfl⟩) rfl rfl (Nat.le_of_ble_eq_true rfl) ⟨Nat.le_of_ble_eq_true rfl, Nat.le_of_ble_eq_true rfl⟩ dX12_noSegments_13 (fun r3 σ3 hf => ?_)
    refine z_callVv hC hE (oM_12 (show kM 0 = 12 by decide)) [vI r3] (fun sz2 => mX12_cut l hinj sz2 hf) (cwV 1 hC.1.2.2.2.2 (uV (uT _) u2020 u2022 u83 u118 u2023) rfl rfl rfl (by decide +kernel) ⟨Nat.le_of_ble_eq_true rfl, Nat.le_of_ble_eq_true rfl⟩) rfl rfl (Nat.le_of_ble_eq_true rfl) ⟨Nat.le_of_ble_eq_true rfl, Nat.le_of_ble_eq_true rfl⟩ dX12_noSegments_16 (fun σ4 hf => ?_)
    refine z_iconst hC dX12_noSegments_19 ?_
    exact z_bret hC hr rfl dX12_noSegments_20 (Or.inl rfl) hf
  · replace hf := hf.2 hc
    refine z_iconst hC dX12_noSegments_8 ?_
    exact z_bret hC hr rfl dX12_noSegments_9 (Or.inr rfl) hf

-- ===== X12_speedOf
def fX12_speedOf (K : Int → zSt → Prop) (σ : zSt) (x1 : Int) : Prop :=
  (0 ≤ x1 ∧ x1 < 6) ∧ fX12_dayOf (fun r2 σ2 => fX12_dayOf (fun r3 σ3 => zrg (σ 14 x1) ∧ zrg (r2 - r3) ∧ ¬ r2 - r3 = 0 ∧ K ((σ 14 x1).tdiv (r2 - r3)) σ3) σ2 (σ2 12 x1)) σ (σ 13 x1)
set_option maxHeartbeats 4000000 in
set_option maxRecDepth 100000 in
theorem mX12_speedOf {D : va_G} {dA : Nat → ClassId} {ad : Nat → Nat}  (l : Launch) (hinj : ∀ i j, i < NM → j < NM → ad i = ad j → i = j) (sz : Nat) {K : Int → zSt → Prop} {σ : zSt} {x1 : Int} (hf : fX12_speedOf K σ x1) : Met l yX12_speedOf (Cond.code yX12_speedOf cX12_speedOf 2 (some .int) :: UW) ({ frames := 1, cells := 0, slots := 0, locals := 21 } : Room) (va_Pc [vR ad 0, vI x1] (zPre D vwCl (tyA dA) zX0 NM ad (celM ad dA) sz σ)) (va_Qi (zPi K) (zB D vwCl (tyA dA) NM ad (celM ad dA)) (zA ad NM sz)) 0 0 (zA ad NM sz) := by
  refine z_enter (cc := cX12_speedOf) (maxL := 2) (ret := (some .int)) (vs := [vR ad 0, vI x1]) (plainFor_of_name (by decide)) rfl hinj (Nat.le_of_ble_eq_true rfl) ?_
  intro p e s m args below meth c hC hE hsz hr hnm
  show zAt p l e ({ frames := 1, cells := 0, slots := 0, locals := 21 } : Room) s m args below meth c 0 0 (MQ below (va_Qi (zPi K) (zB D vwCl (tyA dA) NM ad (celM ad dA)) (zA ad NM sz)) args s 0 0 (zA ad NM sz)) 2 D vwCl (zA ad NM sz) NM ad (celM ad dA) 0 [(0, vR ad 0), (1, vI x1)] [] σ
  refine z_aload_n hC dX12_speedOf_0 0 rfl rfl ?_
  refine z_get hC (fun w h => uT _ w (uL12 w h)) (oM_12 (show kM 0 = 12 by decide)) 32 (by decide) (uT _ _ u1577) rfl rfl dX12_speedOf_1 ?_
  refine z_iload_n hC dX12_speedOf_4 1 rfl rfl ?_
  obtain ⟨g1, hf⟩ := hf
  refine z_iaload hC (aM_34 (show kM 14 = 34 by decide)) g1 dX12_speedOf_5 ?_
  refine z_aload_n hC dX12_speedOf_6 0 rfl rfl ?_
  refine z_aload_n hC dX12_speedOf_7 0 rfl rfl ?_
  refine z_get hC (fun w h => uT _ w (uL12 w h)) (oM_12 (show kM 0 = 12 by decide)) 31 (by decide) (uT _ _ u1576) rfl rfl dX12_speedOf_8 ?_
  refine z_iload_n hC dX12_speedOf_11 1 rfl rfl ?_
  refine z_iaload hC (aM_34 (show kM 13 = 34 by decide)) g1 dX12_speedOf_12 ?_
  refine z_callVi hC hE (oM_12 (show kM 0 = 12 by decide)) [vI (σ 13 x1)] (fun sz2 => mX12_dayOf l hinj sz2 hf) (cwV 1 hC.1.2.2.2.2 (uV (uT _) u1837 u1839 u59 u118 u1840) rfl rfl rfl (by decide +kernel) ⟨Nat.le_of_ble_eq_true rfl, Nat.le_of_ble_eq_true rfl⟩) rfl rfl (Nat.le_of_ble_eq_true rfl) ⟨Nat.le_of_ble_eq_true rfl, Nat.le_of_ble_eq_true rfl⟩ dX12_speedOf_13 (fun r2 σ2 hf => ?_)
  refine z_aload_n hC dX12_speedOf_16 0 rfl rfl ?_
  refine z_aload_n hC dX12_speedOf_17 0 rfl rfl ?_
  refine z_get hC (fun w h => uT _ w (uL12 w h)) (oM_12 (show kM 0 = 12 by decide)) 30 (by decide) (uT _ _ u1575) rfl rfl dX12_speedOf_18 ?_
  refine z_iload_n hC dX12_speedOf_21 1 rfl rfl ?_
  refine z_iaload hC (aM_34 (show kM 12 = 34 by decide)) g1 dX12_speedOf_22 ?_
  refine z_callVi hC hE (oM_12 (show kM 0 = 12 by decide)) [vI (σ2 12 x1)] (fun sz2 => mX12_dayOf l hinj sz2 hf) (cwV 1 hC.1.2.2.2.2 (uV (uT _) u1837 u1839 u59 u118 u1840) rfl rfl rfl (by decide +kernel) ⟨Nat.le_of_ble_eq_true rfl, Nat.le_of_ble_eq_true rfl⟩) rfl rfl (Nat.le_of_ble_eq_true rfl) ⟨Nat.le_of_ble_eq_true rfl, Nat.le_of_ble_eq_true rfl⟩ dX12_speedOf_23 (fun r3 σ3 hf => ?_)
  refine z_isub hC dX12_speedOf_26 ?_
  obtain ⟨g4, hf⟩ := hf
  obtain ⟨g5, hf⟩ := hf
  obtain ⟨g6, hf⟩ := hf
  refine z_idiv hC dX12_speedOf_27 g4 g5 g6 ?_
  exact z_iret hC hr rfl dX12_speedOf_28 hf

-- ===== X12_segmentCount
def fX12_segmentCount (K : Int → zSt → Prop) (σ : zSt) (x1 : Int) : Prop :=
  fX12_noSegments (fun r1 σ1 => zrg r1 ∧ ((r1 = 0 → K (σ1 0 29) σ1) ∧ (¬ r1 = 0 → K 0 σ1))) σ x1
set_option maxHeartbeats 4000000 in
set_option maxRecDepth 100000 in
theorem mX12_segmentCount {D : va_G} {dA : Nat → ClassId} {ad : Nat → Nat}  (l : Launch) (hinj : ∀ i j, i < NM → j < NM → ad i = ad j → i = j) (sz : Nat) {K : Int → zSt → Prop} {σ : zSt} {x1 : Int} (hf : fX12_segmentCount K σ x1) : Met l yX12_segmentCount (Cond.code yX12_segmentCount cX12_segmentCount 2 (some .int) :: UW) ({ frames := 8, cells := 0, slots := 0, locals := 194 } : Room) (va_Pc [vR ad 0, vI x1] (zPre D vwCl (tyA dA) zX0 NM ad (celM ad dA) sz σ)) (va_Qi (zPi K) (zB D vwCl (tyA dA) NM ad (celM ad dA)) (zA ad NM sz)) 0 0 (zA ad NM sz) := by
  refine z_enter (cc := cX12_segmentCount) (maxL := 2) (ret := (some .int)) (vs := [vR ad 0, vI x1]) (plainFor_of_name (by decide)) rfl hinj (Nat.le_of_ble_eq_true rfl) ?_
  intro p e s m args below meth c hC hE hsz hr hnm
  show zAt p l e ({ frames := 8, cells := 0, slots := 0, locals := 194 } : Room) s m args below meth c 0 0 (MQ below (va_Qi (zPi K) (zB D vwCl (tyA dA) NM ad (celM ad dA)) (zA ad NM sz)) args s 0 0 (zA ad NM sz)) 2 D vwCl (zA ad NM sz) NM ad (celM ad dA) 0 [(0, vR ad 0), (1, vI x1)] [] σ
  refine z_aload_n hC dX12_segmentCount_0 0 rfl rfl ?_
  refine z_iload_n hC dX12_segmentCount_1 1 rfl rfl ?_
  refine z_callVi hC hE (oM_12 (show kM 0 = 12 by decide)) [vI x1] (fun sz2 => mX12_noSegments l hinj sz2 hf) (cwV 1 hC.1.2.2.2.2 (uV (uT _) u2016 u2018 u82 u118 u2019) rfl rfl rfl (by decide +kernel) ⟨Nat.le_of_ble_eq_true rfl, Nat.le_of_ble_eq_true rfl⟩) rfl rfl (Nat.le_of_ble_eq_true rfl) ⟨Nat.le_of_ble_eq_true rfl, Nat.le_of_ble_eq_true rfl⟩ dX12_segmentCount_2 (fun r1 σ1 hf => ?_)
  obtain ⟨g2, hf⟩ := hf
  refine z_if_eq (tgt := 12) hC dX12_segmentCount_5 (by decide) g2 (fun hc => ?_) (fun hc => ?_)
  · replace hf := hf.1 hc
    refine z_aload_n hC dX12_segmentCount_12 0 rfl rfl ?_
    refine z_get hC (fun w h => uT _ w (uL12 w h)) (oM_12 (show kM 0 = 12 by decide)) 29 (by decide) (uT _ _ u1574) rfl rfl dX12_segmentCount_13 ?_
    exact z_iret hC hr rfl dX12_segmentCount_16 hf
  · replace hf := hf.2 hc
    refine z_iconst hC dX12_segmentCount_8 ?_
    refine z_goto (tgt := 16) hC dX12_segmentCount_9 (by decide) ?_
    exact z_iret hC hr rfl dX12_segmentCount_16 hf

-- ===== X12_speed
def fX12_speed (K : Int → zSt → Prop) (σ : zSt) (x1 : Int) (x2 : Int) : Prop :=
  fX12_noSegments (fun r1 σ1 => zrg r1 ∧ ((r1 = 0 → fX12_inRange (fun r3 σ3 => fX12_fails (fun r4 σ4 => zrg r4 ∧ ((r4 = 0 → fX12_speedOf (fun r6 σ6 => K r6 σ6) σ4 x2) ∧ (¬ r4 = 0 → K 0 σ4))) σ3 r3) σ1 x2 0 ((σ1 0 29) - 1)) ∧ (¬ r1 = 0 → K 0 σ1))) σ x1
set_option maxHeartbeats 4000000 in
set_option maxRecDepth 100000 in
theorem mX12_speed {D : va_G} {dA : Nat → ClassId} {ad : Nat → Nat}  (l : Launch) (hinj : ∀ i j, i < NM → j < NM → ad i = ad j → i = j) (sz : Nat) {K : Int → zSt → Prop} {σ : zSt} {x1 : Int} {x2 : Int} (hf : fX12_speed K σ x1 x2) : Met l yX12_speed (Cond.code yX12_speed cX12_speed 3 (some .int) :: UW) ({ frames := 8, cells := 0, slots := 0, locals := 194 } : Room) (va_Pc [vR ad 0, vI x1, vI x2] (zPre D vwCl (tyA dA) zX0 NM ad (celM ad dA) sz σ)) (va_Qi (zPi K) (zB D vwCl (tyA dA) NM ad (celM ad dA)) (zA ad NM sz)) 0 0 (zA ad NM sz) := by
  refine z_enter (cc := cX12_speed) (maxL := 3) (ret := (some .int)) (vs := [vR ad 0, vI x1, vI x2]) (plainFor_of_name (by decide)) rfl hinj (Nat.le_of_ble_eq_true rfl) ?_
  intro p e s m args below meth c hC hE hsz hr hnm
  show zAt p l e ({ frames := 8, cells := 0, slots := 0, locals := 194 } : Room) s m args below meth c 0 0 (MQ below (va_Qi (zPi K) (zB D vwCl (tyA dA) NM ad (celM ad dA)) (zA ad NM sz)) args s 0 0 (zA ad NM sz)) 3 D vwCl (zA ad NM sz) NM ad (celM ad dA) 0 [(0, vR ad 0), (1, vI x1), (2, vI x2)] [] σ
  refine z_aload_n hC dX12_speed_0 0 rfl rfl ?_
  refine z_iload_n hC dX12_speed_1 1 rfl rfl ?_
  refine z_callVi hC hE (oM_12 (show kM 0 = 12 by decide)) [vI x1] (fun sz2 => mX12_noSegments l hinj sz2 hf) (cwV 1 hC.1.2.2.2.2 (uV (uT _) u2016 u2018 u82 u118 u2019) rfl rfl rfl (by decide +kernel) ⟨Nat.le_of_ble_eq_true rfl, Nat.le_of_ble_eq_true rfl⟩) rfl rfl (Nat.le_of_ble_eq_true rfl) ⟨Nat.le_of_ble_eq_true rfl, Nat.le_of_ble_eq_true rfl⟩ dX12_speed_2 (fun r1 σ1 hf => ?_)
  obtain ⟨g2, hf⟩ := hf
  refine z_if_eq (tgt := 10) hC dX12_speed_5 (by decide) g2 (fun hc => ?_) (fun hc => ?_)
  · replace hf := hf.1 hc
    refine z_aload_n hC dX12_speed_10 0 rfl rfl ?_
    refine z_iload_n hC dX12_speed_11 2 rfl rfl ?_
    refine z_iconst hC dX12_speed_12 ?_
    refine z_aload_n hC dX12_speed_13 0 rfl rfl ?_
    refine z_get hC (fun w h => uT _ w (uL12 w h)) (oM_12 (show kM 0 = 12 by decide)) 29 (by decide) (uT _ _ u1574) rfl rfl dX12_speed_14 ?_
    refine z_iconst hC dX12_speed_17 ?_
    refine z_isub hC dX12_speed_18 ?_
    refine z_callSi hC hE [vI x2, vI 0, vI ((σ1 0 29) - 1)] (fun sz2 => mX12_inRange l hinj sz2 hf) (va_cwS 3 hC.1.2.2.2.2 (uS (uT _) u1700 u1701 u118 u1702) rfl rfl rfl (by decide +kernel) ⟨Nat.le_of_ble_eq_true rfl, Nat.le_of_ble_eq_true rfl⟩) rfl rfl (Nat.le_of_ble_eq_true rfl) ⟨Nat.le_of_ble_eq_true rfl, Nat.le_of_ble_eq_true rfl⟩ dX12_speed_19 (fun r3 σ3 hf => ?_)
    refine z_callVi hC hE (oM_12 (show kM 0 = 12 by decide)) [vI r3] (fun sz2 => mX12_fails l hinj sz2 hf) (cwV 1 hC.1.2.2.2.2 (uV (uT _) u1833 u1835 u58 u118 u1836) rfl rfl rfl (by decide +kernel) ⟨Nat.le_of_ble_eq_true rfl, Nat.le_of_ble_eq_true rfl⟩) rfl rfl (Nat.le_of_ble_eq_true rfl) ⟨Nat.le_of_ble_eq_true rfl, Nat.le_of_ble_eq_true rfl⟩ dX12_speed_22 (fun r4 σ4 hf => ?_)
    obtain ⟨g5, hf⟩ := hf
    refine z_if_eq (tgt := 32) hC dX12_speed_25 (by decide) g5 (fun hc => ?_) (fun hc => ?_)
    · replace hf := hf.1 hc
      refine z_aload_n hC dX12_speed_32 0 rfl rfl ?_
      refine z_iload_n hC dX12_speed_33 2 rfl rfl ?_
      refine z_callVi hC hE (oM_12 (show kM 0 = 12 by decide)) [vI x2] (fun sz2 => mX12_speedOf l hinj sz2 hf) (cwV 1 hC.1.2.2.2.2 (uV (uT _) u2040 u2042 u86 u118 u2043) rfl rfl rfl (by decide +kernel) ⟨Nat.le_of_ble_eq_true rfl, Nat.le_of_ble_eq_true rfl⟩) rfl rfl (Nat.le_of_ble_eq_true rfl) ⟨Nat.le_of_ble_eq_true rfl, Nat.le_of_ble_eq_true rfl⟩ dX12_speed_34 (fun r6 σ6 hf => ?_)
      exact z_iret hC hr rfl dX12_speed_37 hf
    · replace hf := hf.2 hc
      refine z_iconst hC dX12_speed_28 ?_
      refine z_goto (tgt := 37) hC dX12_speed_29 (by decide) ?_
      exact z_iret hC hr rfl dX12_speed_37 hf
  · replace hf := hf.2 hc
    refine z_iconst hC dX12_speed_8 ?_
    exact z_iret hC hr rfl dX12_speed_9 hf

-- ===== X12_mean
noncomputable def fX12_mean_B13 (K : Int → zSt → Prop) (n : Nat) : zSt → Int → Int → Prop :=
  Nat.rec (motive := fun _ => zSt → Int → Int → Prop) (fun _ _ _ => False) (fun _ ih σ x1 x2 => zrg x2 ∧ zrg (σ 0 29) ∧ ((σ 0 29 ≤ x2 → (0 ≤ (σ 0 29) - 1 ∧ (σ 0 29) - 1 < 6) ∧ fX12_dayOf (fun r5 σ5 => fX12_dayOf (fun r6 σ6 => zrg x1 ∧ zrg (r5 - r6) ∧ ¬ r5 - r6 = 0 ∧ K (x1.tdiv (r5 - r6)) σ6) σ5 (σ5 12 0)) σ (σ 13 ((σ 0 29) - 1))) ∧ (¬ σ 0 29 ≤ x2 → (0 ≤ x2 ∧ x2 < 6) ∧ ih σ (x1 + (σ 14 x2)) (x2 + 1)))) n
theorem uX12_mean_B13 (K : Int → zSt → Prop) (n0 : Nat) (σ : zSt) (x1 : Int) (x2 : Int) : fX12_mean_B13 K (n0 + 1) σ x1 x2 = (zrg x2 ∧ zrg (σ 0 29) ∧ ((σ 0 29 ≤ x2 → (0 ≤ (σ 0 29) - 1 ∧ (σ 0 29) - 1 < 6) ∧ fX12_dayOf (fun r5 σ5 => fX12_dayOf (fun r6 σ6 => zrg x1 ∧ zrg (r5 - r6) ∧ ¬ r5 - r6 = 0 ∧ K (x1.tdiv (r5 - r6)) σ6) σ5 (σ5 12 0)) σ (σ 13 ((σ 0 29) - 1))) ∧ (¬ σ 0 29 ≤ x2 → (0 ≤ x2 ∧ x2 < 6) ∧ (fX12_mean_B13 K n0) σ (x1 + (σ 14 x2)) (x2 + 1)))) := rfl
def fX12_mean (K : Int → zSt → Prop) (σ : zSt) : Prop :=
  zrg (σ 0 29) ∧ ((σ 0 29 = 0 → K 0 σ) ∧ (¬ σ 0 29 = 0 → (∃ n, fX12_mean_B13 K n σ 0 0)))
set_option maxHeartbeats 4000000 in
set_option maxRecDepth 100000 in
theorem wX12_mean_B13 {p : Program} {l : Launch} {e : Env} {s : State} {m : MethodId} {args : Array Value} {below : List Frame} {meth : Method} {c : Code} {D : va_G} {dA : Nat → ClassId} {ad : Nat → Nat} {sz : Nat}  {K : Int → zSt → Prop} (hC : zC p m c cX12_mean 3 s args (Cond.code yX12_mean cX12_mean 3 (some .int) :: UW) RX12 meth D vwCl (tyA dA) (zA ad NM sz) NM ad (celM ad dA)) (hE : zE zX0 (zA ad NM sz) s s.heap) (hr : meth.sig.returnType = (some .int)) (hinj : ∀ i j, i < NM → j < NM → ad i = ad j → i = j) : ∀ (n : Nat) (σ : zSt) (x1 : Int) (x2 : Int), fX12_mean_B13 K n σ x1 x2 → zAt p l e ({ frames := 1, cells := 0, slots := 0, locals := 21 } : Room) s m args below meth c 0 0 (MQ below (va_Qi (zPi K) (zB D vwCl (tyA dA) NM ad (celM ad dA)) (zA ad NM sz)) args s 0 0 (zA ad NM sz)) 3 D vwCl (zA ad NM sz) NM ad (celM ad dA) 13 [(0, vR ad 0), (1, vI x1), (2, vI x2)] [] σ := by
  intro n
  induction n with
  | zero => intro σ x1 x2  hf; exact False.elim hf
  | succ n ih =>
    intro σ x1 x2  hf
    rw [uX12_mean_B13] at hf
    refine z_iload_n hC dX12_mean_13 2 rfl rfl ?_
    refine z_aload_n hC dX12_mean_14 0 rfl rfl ?_
    refine z_get hC (fun w h => uT _ w (uL12 w h)) (oM_12 (show kM 0 = 12 by decide)) 29 (by decide) (uT _ _ u1574) rfl rfl dX12_mean_15 ?_
    obtain ⟨g2, hf⟩ := hf
    obtain ⟨g3, hf⟩ := hf
    refine z_icmp_ge (tgt := 36) hC dX12_mean_18 (by decide) g2 g3 (fun hc => ?_) (fun hc => ?_)
    · replace hf := hf.1 hc
      refine z_iload_n hC dX12_mean_36 1 rfl rfl ?_
      refine z_aload_n hC dX12_mean_37 0 rfl rfl ?_
      refine z_aload_n hC dX12_mean_38 0 rfl rfl ?_
      refine z_get hC (fun w h => uT _ w (uL12 w h)) (oM_12 (show kM 0 = 12 by decide)) 31 (by decide) (uT _ _ u1576) rfl rfl dX12_mean_39 ?_
      refine z_aload_n hC dX12_mean_42 0 rfl rfl ?_
      refine z_get hC (fun w h => uT _ w (uL12 w h)) (oM_12 (show kM 0 = 12 by decide)) 29 (by decide) (uT _ _ u1574) rfl rfl dX12_mean_43 ?_
      refine z_iconst hC dX12_mean_46 ?_
      refine z_isub hC dX12_mean_47 ?_
      obtain ⟨g4, hf⟩ := hf
      refine z_iaload hC (aM_34 (show kM 13 = 34 by decide)) g4 dX12_mean_48 ?_
      refine z_callVi hC hE (oM_12 (show kM 0 = 12 by decide)) [vI (σ 13 ((σ 0 29) - 1))] (fun sz2 => mX12_dayOf l hinj sz2 hf) (cwV 1 hC.1.2.2.2.2 (uV (uT _) u1837 u1839 u59 u118 u1840) rfl rfl rfl (by decide +kernel) ⟨Nat.le_of_ble_eq_true rfl, Nat.le_of_ble_eq_true rfl⟩) rfl rfl (Nat.le_of_ble_eq_true rfl) ⟨Nat.le_of_ble_eq_true rfl, Nat.le_of_ble_eq_true rfl⟩ dX12_mean_49 (fun r5 σ5 hf => ?_)
      refine z_aload_n hC dX12_mean_52 0 rfl rfl ?_
      refine z_aload_n hC dX12_mean_53 0 rfl rfl ?_
      refine z_get hC (fun w h => uT _ w (uL12 w h)) (oM_12 (show kM 0 = 12 by decide)) 30 (by decide) (uT _ _ u1575) rfl rfl dX12_mean_54 ?_
      refine z_iconst hC dX12_mean_57 ?_
      refine z_iaload hC (aM_34 (show kM 12 = 34 by decide)) ⟨by decide, by decide⟩ dX12_mean_58 ?_
      refine z_callVi hC hE (oM_12 (show kM 0 = 12 by decide)) [vI (σ5 12 0)] (fun sz2 => mX12_dayOf l hinj sz2 hf) (cwV 1 hC.1.2.2.2.2 (uV (uT _) u1837 u1839 u59 u118 u1840) rfl rfl rfl (by decide +kernel) ⟨Nat.le_of_ble_eq_true rfl, Nat.le_of_ble_eq_true rfl⟩) rfl rfl (Nat.le_of_ble_eq_true rfl) ⟨Nat.le_of_ble_eq_true rfl, Nat.le_of_ble_eq_true rfl⟩ dX12_mean_59 (fun r6 σ6 hf => ?_)
      refine z_isub hC dX12_mean_62 ?_
      obtain ⟨g7, hf⟩ := hf
      obtain ⟨g8, hf⟩ := hf
      obtain ⟨g9, hf⟩ := hf
      refine z_idiv hC dX12_mean_63 g7 g8 g9 ?_
      exact z_iret hC hr rfl dX12_mean_64 hf
    · replace hf := hf.2 hc
      refine z_iload_n hC dX12_mean_21 1 rfl rfl ?_
      refine z_aload_n hC dX12_mean_22 0 rfl rfl ?_
      refine z_get hC (fun w h => uT _ w (uL12 w h)) (oM_12 (show kM 0 = 12 by decide)) 32 (by decide) (uT _ _ u1577) rfl rfl dX12_mean_23 ?_
      refine z_iload_n hC dX12_mean_26 2 rfl rfl ?_
      obtain ⟨g10, hf⟩ := hf
      refine z_iaload hC (aM_34 (show kM 14 = 34 by decide)) g10 dX12_mean_27 ?_
      refine z_iadd hC dX12_mean_28 ?_
      refine z_istore_n hC ([(1, vI (x1 + (σ 14 x2))), (0, vR ad 0), (2, vI x2)]) dX12_mean_29 rfl (by decide) rfl ?_
      refine z_iinc hC ([(2, vI (x2 + 1)), (1, vI (x1 + (σ 14 x2))), (0, vR ad 0)]) dX12_mean_30 2 rfl (by decide) rfl ?_
      refine z_goto (tgt := 13) hC dX12_mean_33 (by decide) ?_
      refine z_sub (lv' := [(0, vR ad 0), (1, vI (x1 + (σ 14 x2))), (2, vI (x2 + 1))]) [2, 1, 0] rfl ?_
      exact ih _ _ _ hf
set_option maxHeartbeats 4000000 in
set_option maxRecDepth 100000 in
theorem mX12_mean {D : va_G} {dA : Nat → ClassId} {ad : Nat → Nat}  (l : Launch) (hinj : ∀ i j, i < NM → j < NM → ad i = ad j → i = j) (sz : Nat) {K : Int → zSt → Prop} {σ : zSt} (hf : fX12_mean K σ ) : Met l yX12_mean (Cond.code yX12_mean cX12_mean 3 (some .int) :: UW) ({ frames := 1, cells := 0, slots := 0, locals := 21 } : Room) (va_Pc [vR ad 0] (zPre D vwCl (tyA dA) zX0 NM ad (celM ad dA) sz σ)) (va_Qi (zPi K) (zB D vwCl (tyA dA) NM ad (celM ad dA)) (zA ad NM sz)) 0 0 (zA ad NM sz) := by
  refine z_enter (cc := cX12_mean) (maxL := 3) (ret := (some .int)) (vs := [vR ad 0]) (plainFor_of_name (by decide)) rfl hinj (Nat.le_of_ble_eq_true rfl) ?_
  intro p e s m args below meth c hC hE hsz hr hnm
  show zAt p l e ({ frames := 1, cells := 0, slots := 0, locals := 21 } : Room) s m args below meth c 0 0 (MQ below (va_Qi (zPi K) (zB D vwCl (tyA dA) NM ad (celM ad dA)) (zA ad NM sz)) args s 0 0 (zA ad NM sz)) 3 D vwCl (zA ad NM sz) NM ad (celM ad dA) 0 [(0, vR ad 0)] [] σ
  refine z_aload_n hC dX12_mean_0 0 rfl rfl ?_
  refine z_get hC (fun w h => uT _ w (uL12 w h)) (oM_12 (show kM 0 = 12 by decide)) 29 (by decide) (uT _ _ u1574) rfl rfl dX12_mean_1 ?_
  obtain ⟨g1, hf⟩ := hf
  refine z_if_ne (tgt := 9) hC dX12_mean_4 (by decide) g1 (fun hc => ?_) (fun hc => ?_)
  · replace hf := hf.2 hc
    refine z_iconst hC dX12_mean_9 ?_
    refine z_istore_n hC ([(1, vI 0), (0, vR ad 0)]) dX12_mean_10 rfl (by decide) rfl ?_
    refine z_iconst hC dX12_mean_11 ?_
    refine z_istore_n hC ([(2, vI 0), (1, vI 0), (0, vR ad 0)]) dX12_mean_12 rfl (by decide) rfl ?_
    refine z_sub (lv' := [(0, vR ad 0), (1, vI 0), (2, vI 0)]) [2, 1, 0] rfl ?_
    obtain ⟨n, hf⟩ := hf
    exact wX12_mean_B13 hC hE hr hinj n _ _ _ hf
  · replace hf := hf.1 hc
    refine z_iconst hC dX12_mean_7 ?_
    exact z_iret hC hr rfl dX12_mean_8 hf
