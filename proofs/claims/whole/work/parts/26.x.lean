
-- ===== X11_readingCount
def fX11_readingCount (K : Int → zSt → Prop) (KX : String → zSt → Prop) (σ : zSt) (x1 : Int) : Prop :=
  fX11_requireStake (fun σ1 => kX (σ1 0 0) = 8 ∧ (0 ≤ x1 ∧ x1 < 3) ∧ K (σ1 (((σ1 0 0) + 3) + 19 + x1) 0) σ1) KX σ x1
set_option maxHeartbeats 4000000 in
set_option maxRecDepth 100000 in
theorem mX11_readingCount {D : va_G} {dA : Nat → ClassId} {ad : Nat → Nat} {aL aG aI : Nat} {aK aV : Nat → Nat} (l : Launch) (hinj : ∀ i j, i < NX → j < NX → ad i = ad j → i = j) (hst : l.stackTraces = false) (sz : Nat) {K : Int → zSt → Prop} {KX : String → zSt → Prop} {σ : zSt} {x1 : Int} (hf : fX11_readingCount K KX σ x1) : vx_Met l yX11_readingCount (Cond.code yX11_readingCount cX11_readingCount 2 (some .int) :: UW) ({ frames := 7, cells := 1, slots := 6, locals := 103 } : Room) (va_Pc [vR ad 0, vI x1] (zPre D vwCl (tyA dA) (zXX aL aG aI aK aV) NX ad (celX ad dA) sz σ)) (va_Qi (zPi K) (zB D vwCl (tyA dA) NX ad (celX ad dA)) (zA ad NX sz)) (zXC D vwCl (tyA dA) NX ad (celX ad dA) KX (zA ad NX sz)) 1 6 (zA ad NX sz) := by
  refine zx_enter (cc := cX11_readingCount) (maxL := 2) (ret := (some .int)) (vs := [vR ad 0, vI x1]) (by decide) rfl hinj (Nat.le_of_ble_eq_true rfl) ?_
  intro p e s m args below meth c hC hE hsz hr hno
  show zAt p l e ({ frames := 7, cells := 1, slots := 6, locals := 103 } : Room) s m args below meth c 0 0 (vx_MQ below (va_Qi (zPi K) (zB D vwCl (tyA dA) NX ad (celX ad dA)) (zA ad NX sz)) (zXC D vwCl (tyA dA) NX ad (celX ad dA) KX (zA ad NX sz)) args s 1 6 (zA ad NX sz)) 2 D vwCl (zA ad NX sz) NX ad (celX ad dA) 0 [(0, vR ad 0), (1, vI x1)] [] σ
  refine z_aload_n hC dX11_readingCount_0 0 rfl rfl ?_
  refine z_iload_n hC dX11_readingCount_1 1 rfl rfl ?_
  refine zx_callVv hC hno hE (oX_11 (show kX 0 = 11 by decide)) [vI x1] (fun sz2 => mX11_requireStake l hinj hst sz2 hf) (cwV 1 hC.1.2.2.2.2 (uV (uT _) u1415 u1417 u36 u105 u1418) rfl rfl rfl (by decide +kernel) ⟨Nat.le_of_ble_eq_true rfl, Nat.le_of_ble_eq_true rfl⟩) rfl rfl (Nat.le_of_ble_eq_true rfl) ⟨Nat.le_of_ble_eq_true rfl, Nat.le_of_ble_eq_true rfl⟩ ⟨Nat.le_of_ble_eq_true rfl, Nat.le_of_ble_eq_true rfl⟩ dX11_readingCount_2 (fun σ1 hf => ?_)
  refine z_aload_n hC dX11_readingCount_5 0 rfl rfl ?_
  refine z_get hC (fun w h => uT _ w (uL11 w h)) (oX_11 (show kX 0 = 11 by decide)) 0 (by decide) (uT _ _ u467) rfl rfl dX11_readingCount_6 ?_
  obtain ⟨g2, hf⟩ := hf
  refine z_get hC (fun w h => uT _ w (uL8 w h)) (oX_8 g2) 6 (by decide) (uT _ _ u236) rfl rfl dX11_readingCount_9 ?_
  refine z_iload_n hC dX11_readingCount_12 1 rfl rfl ?_
  obtain ⟨g3, hf⟩ := hf
  refine z_aaload hC (aX_22 (kf_8_6 g2)) g3 dX11_readingCount_13 ?_
  refine z_get hC (fun w h => uT _ w (uL9 w h)) (oX_9 (ke_22 (kf_8_6 g2) g3)) 0 (by decide) (uT _ _ u198) rfl rfl dX11_readingCount_14 ?_
  exact zx_iret hC hr rfl ⟨Nat.le_of_ble_eq_true rfl, Nat.le_of_ble_eq_true rfl⟩ dX11_readingCount_17 hf

-- ===== X11_requireReading
def fX11_requireReading (K : zSt → Prop) (KX : String → zSt → Prop) (σ : zSt) (x1 : Int) (x2 : Int) : Prop :=
  fX11_requireStake (fun σ1 => zrg x2 ∧ ((x2 < 0 → KX "java/lang/IndexOutOfBoundsException" σ1) ∧ (¬ x2 < 0 → kX (σ1 0 0) = 8 ∧ (0 ≤ x1 ∧ x1 < 3) ∧ zrg (σ1 (((σ1 0 0) + 3) + 19 + x1) 0) ∧ ((x2 < σ1 (((σ1 0 0) + 3) + 19 + x1) 0 → K σ1) ∧ (¬ x2 < σ1 (((σ1 0 0) + 3) + 19 + x1) 0 → KX "java/lang/IndexOutOfBoundsException" σ1))))) KX σ x1
set_option maxHeartbeats 4000000 in
set_option maxRecDepth 100000 in
theorem mX11_requireReading {D : va_G} {dA : Nat → ClassId} {ad : Nat → Nat} {aL aG aI : Nat} {aK aV : Nat → Nat} (l : Launch) (hinj : ∀ i j, i < NX → j < NX → ad i = ad j → i = j) (hst : l.stackTraces = false) (sz : Nat) {K : zSt → Prop} {KX : String → zSt → Prop} {σ : zSt} {x1 : Int} {x2 : Int} (hf : fX11_requireReading K KX σ x1 x2) : vx_Met l yX11_requireReading (Cond.code yX11_requireReading cX11_requireReading 3 none :: UW) ({ frames := 7, cells := 2, slots := 12, locals := 103 } : Room) (va_Pc [vR ad 0, vI x1, vI x2] (zPre D vwCl (tyA dA) (zXX aL aG aI aK aV) NX ad (celX ad dA) sz σ)) (va_Qv K (zB D vwCl (tyA dA) NX ad (celX ad dA)) (zA ad NX sz)) (zXC D vwCl (tyA dA) NX ad (celX ad dA) KX (zA ad NX sz)) 2 12 (zA ad NX sz) := by
  refine zx_enter (cc := cX11_requireReading) (maxL := 3) (ret := none) (vs := [vR ad 0, vI x1, vI x2]) (by decide) rfl hinj (Nat.le_of_ble_eq_true rfl) ?_
  intro p e s m args below meth c hC hE hsz hr hno
  show zAt p l e ({ frames := 7, cells := 2, slots := 12, locals := 103 } : Room) s m args below meth c 0 0 (vx_MQ below (va_Qv K (zB D vwCl (tyA dA) NX ad (celX ad dA)) (zA ad NX sz)) (zXC D vwCl (tyA dA) NX ad (celX ad dA) KX (zA ad NX sz)) args s 2 12 (zA ad NX sz)) 3 D vwCl (zA ad NX sz) NX ad (celX ad dA) 0 [(0, vR ad 0), (1, vI x1), (2, vI x2)] [] σ
  refine z_aload_n hC dX11_requireReading_0 0 rfl rfl ?_
  refine z_iload_n hC dX11_requireReading_1 1 rfl rfl ?_
  refine zx_callVv hC hno hE (oX_11 (show kX 0 = 11 by decide)) [vI x1] (fun sz2 => mX11_requireStake l hinj hst sz2 hf) (cwV 1 hC.1.2.2.2.2 (uV (uT _) u1415 u1417 u36 u105 u1418) rfl rfl rfl (by decide +kernel) ⟨Nat.le_of_ble_eq_true rfl, Nat.le_of_ble_eq_true rfl⟩) rfl rfl (Nat.le_of_ble_eq_true rfl) ⟨Nat.le_of_ble_eq_true rfl, Nat.le_of_ble_eq_true rfl⟩ ⟨Nat.le_of_ble_eq_true rfl, Nat.le_of_ble_eq_true rfl⟩ dX11_requireReading_2 (fun σ1 hf => ?_)
  refine z_iload_n hC dX11_requireReading_5 2 rfl rfl ?_
  obtain ⟨g2, hf⟩ := hf
  refine z_if_lt (tgt := 25) hC dX11_requireReading_6 (by decide) g2 (fun hc => ?_) (fun hc => ?_)
  · replace hf := hf.1 hc
    exact zx_throw hC hE rfl hst hno (names := ["java/lang/RuntimeException", "java/lang/Exception"]) (by decide +kernel) (by decide +kernel) (uT _ _ u1065) (uT _ _ u126) (List.mem_of_getElem? (i := 20) rfl) (fun w h => uT _ w (uE391 w h)) uB391 uF391 dX11_requireReading_25 dX11_requireReading_28 dX11_requireReading_29 dX11_requireReading_32 dX11_requireReading_35 (Nat.le_of_ble_eq_true rfl) (Nat.le_of_ble_eq_true rfl) ⟨Nat.le_of_ble_eq_true rfl, Nat.le_of_ble_eq_true rfl⟩ ⟨Nat.le_of_ble_eq_true rfl, Nat.le_of_ble_eq_true rfl⟩ hf
  · replace hf := hf.2 hc
    refine z_iload_n hC dX11_requireReading_9 2 rfl rfl ?_
    refine z_aload_n hC dX11_requireReading_10 0 rfl rfl ?_
    refine z_get hC (fun w h => uT _ w (uL11 w h)) (oX_11 (show kX 0 = 11 by decide)) 0 (by decide) (uT _ _ u467) rfl rfl dX11_requireReading_11 ?_
    obtain ⟨g3, hf⟩ := hf
    refine z_get hC (fun w h => uT _ w (uL8 w h)) (oX_8 g3) 6 (by decide) (uT _ _ u236) rfl rfl dX11_requireReading_14 ?_
    refine z_iload_n hC dX11_requireReading_17 1 rfl rfl ?_
    obtain ⟨g4, hf⟩ := hf
    refine z_aaload hC (aX_22 (kf_8_6 g3)) g4 dX11_requireReading_18 ?_
    refine z_get hC (fun w h => uT _ w (uL9 w h)) (oX_9 (ke_22 (kf_8_6 g3) g4)) 0 (by decide) (uT _ _ u198) rfl rfl dX11_requireReading_19 ?_
    obtain ⟨g5, hf⟩ := hf
    refine z_icmp_lt (tgt := 36) hC dX11_requireReading_22 (by decide) g2 g5 (fun hc => ?_) (fun hc => ?_)
    · replace hf := hf.1 hc
      exact zx_vret hC hr rfl ⟨Nat.le_of_ble_eq_true rfl, Nat.le_of_ble_eq_true rfl⟩ dX11_requireReading_36 hf
    · replace hf := hf.2 hc
      exact zx_throw hC hE rfl hst hno (names := ["java/lang/RuntimeException", "java/lang/Exception"]) (by decide +kernel) (by decide +kernel) (uT _ _ u1065) (uT _ _ u126) (List.mem_of_getElem? (i := 20) rfl) (fun w h => uT _ w (uE391 w h)) uB391 uF391 dX11_requireReading_25 dX11_requireReading_28 dX11_requireReading_29 dX11_requireReading_32 dX11_requireReading_35 (Nat.le_of_ble_eq_true rfl) (Nat.le_of_ble_eq_true rfl) ⟨Nat.le_of_ble_eq_true rfl, Nat.le_of_ble_eq_true rfl⟩ ⟨Nat.le_of_ble_eq_true rfl, Nat.le_of_ble_eq_true rfl⟩ hf

-- ===== X11_readingDay
def fX11_readingDay (K : Int → zSt → Prop) (KX : String → zSt → Prop) (σ : zSt) (x1 : Int) (x2 : Int) : Prop :=
  fX11_requireReading (fun σ1 => kX (σ1 0 0) = 8 ∧ (0 ≤ x1 ∧ x1 < 3) ∧ (0 ≤ x2 ∧ x2 < 8) ∧ K (σ1 ((((σ1 0 0) + 3) + 19 + x1) + 3) x2) σ1) KX σ x1 x2
set_option maxHeartbeats 4000000 in
set_option maxRecDepth 100000 in
theorem mX11_readingDay {D : va_G} {dA : Nat → ClassId} {ad : Nat → Nat} {aL aG aI : Nat} {aK aV : Nat → Nat} (l : Launch) (hinj : ∀ i j, i < NX → j < NX → ad i = ad j → i = j) (hst : l.stackTraces = false) (sz : Nat) {K : Int → zSt → Prop} {KX : String → zSt → Prop} {σ : zSt} {x1 : Int} {x2 : Int} (hf : fX11_readingDay K KX σ x1 x2) : vx_Met l yX11_readingDay (Cond.code yX11_readingDay cX11_readingDay 3 (some .int) :: UW) ({ frames := 8, cells := 2, slots := 12, locals := 125 } : Room) (va_Pc [vR ad 0, vI x1, vI x2] (zPre D vwCl (tyA dA) (zXX aL aG aI aK aV) NX ad (celX ad dA) sz σ)) (va_Qi (zPi K) (zB D vwCl (tyA dA) NX ad (celX ad dA)) (zA ad NX sz)) (zXC D vwCl (tyA dA) NX ad (celX ad dA) KX (zA ad NX sz)) 2 12 (zA ad NX sz) := by
  refine zx_enter (cc := cX11_readingDay) (maxL := 3) (ret := (some .int)) (vs := [vR ad 0, vI x1, vI x2]) (by decide) rfl hinj (Nat.le_of_ble_eq_true rfl) ?_
  intro p e s m args below meth c hC hE hsz hr hno
  show zAt p l e ({ frames := 8, cells := 2, slots := 12, locals := 125 } : Room) s m args below meth c 0 0 (vx_MQ below (va_Qi (zPi K) (zB D vwCl (tyA dA) NX ad (celX ad dA)) (zA ad NX sz)) (zXC D vwCl (tyA dA) NX ad (celX ad dA) KX (zA ad NX sz)) args s 2 12 (zA ad NX sz)) 3 D vwCl (zA ad NX sz) NX ad (celX ad dA) 0 [(0, vR ad 0), (1, vI x1), (2, vI x2)] [] σ
  refine z_aload_n hC dX11_readingDay_0 0 rfl rfl ?_
  refine z_iload_n hC dX11_readingDay_1 1 rfl rfl ?_
  refine z_iload_n hC dX11_readingDay_2 2 rfl rfl ?_
  refine zx_callVv hC hno hE (oX_11 (show kX 0 = 11 by decide)) [vI x1, vI x2] (fun sz2 => mX11_requireReading l hinj hst sz2 hf) (cwV 2 hC.1.2.2.2.2 (uV (uT _) u1427 u1429 u37 u105 u1430) rfl rfl rfl (by decide +kernel) ⟨Nat.le_of_ble_eq_true rfl, Nat.le_of_ble_eq_true rfl⟩) rfl rfl (Nat.le_of_ble_eq_true rfl) ⟨Nat.le_of_ble_eq_true rfl, Nat.le_of_ble_eq_true rfl⟩ ⟨Nat.le_of_ble_eq_true rfl, Nat.le_of_ble_eq_true rfl⟩ dX11_readingDay_3 (fun σ1 hf => ?_)
  refine z_aload_n hC dX11_readingDay_6 0 rfl rfl ?_
  refine z_get hC (fun w h => uT _ w (uL11 w h)) (oX_11 (show kX 0 = 11 by decide)) 0 (by decide) (uT _ _ u467) rfl rfl dX11_readingDay_7 ?_
  obtain ⟨g2, hf⟩ := hf
  refine z_get hC (fun w h => uT _ w (uL8 w h)) (oX_8 g2) 6 (by decide) (uT _ _ u236) rfl rfl dX11_readingDay_10 ?_
  refine z_iload_n hC dX11_readingDay_13 1 rfl rfl ?_
  obtain ⟨g3, hf⟩ := hf
  refine z_aaload hC (aX_22 (kf_8_6 g2)) g3 dX11_readingDay_14 ?_
  refine z_get hC (fun w h => uT _ w (uL9 w h)) (oX_9 (ke_22 (kf_8_6 g2) g3)) 1 (by decide) (uT _ _ u201) rfl rfl dX11_readingDay_15 ?_
  refine z_iload_n hC dX11_readingDay_18 2 rfl rfl ?_
  obtain ⟨g4, hf⟩ := hf
  refine z_iaload hC (aX_17 (kf_9_1 (ke_22 (kf_8_6 g2) g3))) g4 dX11_readingDay_19 ?_
  exact zx_iret hC hr rfl ⟨Nat.le_of_ble_eq_true rfl, Nat.le_of_ble_eq_true rfl⟩ dX11_readingDay_20 hf

-- ===== X11_readingLength
def fX11_readingLength (K : Int → zSt → Prop) (KX : String → zSt → Prop) (σ : zSt) (x1 : Int) (x2 : Int) : Prop :=
  fX11_requireReading (fun σ1 => kX (σ1 0 0) = 8 ∧ (0 ≤ x1 ∧ x1 < 3) ∧ (0 ≤ x2 ∧ x2 < 8) ∧ K (σ1 ((((σ1 0 0) + 3) + 19 + x1) + 6) x2) σ1) KX σ x1 x2
set_option maxHeartbeats 4000000 in
set_option maxRecDepth 100000 in
theorem mX11_readingLength {D : va_G} {dA : Nat → ClassId} {ad : Nat → Nat} {aL aG aI : Nat} {aK aV : Nat → Nat} (l : Launch) (hinj : ∀ i j, i < NX → j < NX → ad i = ad j → i = j) (hst : l.stackTraces = false) (sz : Nat) {K : Int → zSt → Prop} {KX : String → zSt → Prop} {σ : zSt} {x1 : Int} {x2 : Int} (hf : fX11_readingLength K KX σ x1 x2) : vx_Met l yX11_readingLength (Cond.code yX11_readingLength cX11_readingLength 3 (some .int) :: UW) ({ frames := 8, cells := 2, slots := 12, locals := 125 } : Room) (va_Pc [vR ad 0, vI x1, vI x2] (zPre D vwCl (tyA dA) (zXX aL aG aI aK aV) NX ad (celX ad dA) sz σ)) (va_Qi (zPi K) (zB D vwCl (tyA dA) NX ad (celX ad dA)) (zA ad NX sz)) (zXC D vwCl (tyA dA) NX ad (celX ad dA) KX (zA ad NX sz)) 2 12 (zA ad NX sz) := by
  refine zx_enter (cc := cX11_readingLength) (maxL := 3) (ret := (some .int)) (vs := [vR ad 0, vI x1, vI x2]) (by decide) rfl hinj (Nat.le_of_ble_eq_true rfl) ?_
  intro p e s m args below meth c hC hE hsz hr hno
  show zAt p l e ({ frames := 8, cells := 2, slots := 12, locals := 125 } : Room) s m args below meth c 0 0 (vx_MQ below (va_Qi (zPi K) (zB D vwCl (tyA dA) NX ad (celX ad dA)) (zA ad NX sz)) (zXC D vwCl (tyA dA) NX ad (celX ad dA) KX (zA ad NX sz)) args s 2 12 (zA ad NX sz)) 3 D vwCl (zA ad NX sz) NX ad (celX ad dA) 0 [(0, vR ad 0), (1, vI x1), (2, vI x2)] [] σ
  refine z_aload_n hC dX11_readingLength_0 0 rfl rfl ?_
  refine z_iload_n hC dX11_readingLength_1 1 rfl rfl ?_
  refine z_iload_n hC dX11_readingLength_2 2 rfl rfl ?_
  refine zx_callVv hC hno hE (oX_11 (show kX 0 = 11 by decide)) [vI x1, vI x2] (fun sz2 => mX11_requireReading l hinj hst sz2 hf) (cwV 2 hC.1.2.2.2.2 (uV (uT _) u1427 u1429 u37 u105 u1430) rfl rfl rfl (by decide +kernel) ⟨Nat.le_of_ble_eq_true rfl, Nat.le_of_ble_eq_true rfl⟩) rfl rfl (Nat.le_of_ble_eq_true rfl) ⟨Nat.le_of_ble_eq_true rfl, Nat.le_of_ble_eq_true rfl⟩ ⟨Nat.le_of_ble_eq_true rfl, Nat.le_of_ble_eq_true rfl⟩ dX11_readingLength_3 (fun σ1 hf => ?_)
  refine z_aload_n hC dX11_readingLength_6 0 rfl rfl ?_
  refine z_get hC (fun w h => uT _ w (uL11 w h)) (oX_11 (show kX 0 = 11 by decide)) 0 (by decide) (uT _ _ u467) rfl rfl dX11_readingLength_7 ?_
  obtain ⟨g2, hf⟩ := hf
  refine z_get hC (fun w h => uT _ w (uL8 w h)) (oX_8 g2) 6 (by decide) (uT _ _ u236) rfl rfl dX11_readingLength_10 ?_
  refine z_iload_n hC dX11_readingLength_13 1 rfl rfl ?_
  obtain ⟨g3, hf⟩ := hf
  refine z_aaload hC (aX_22 (kf_8_6 g2)) g3 dX11_readingLength_14 ?_
  refine z_get hC (fun w h => uT _ w (uL9 w h)) (oX_9 (ke_22 (kf_8_6 g2) g3)) 2 (by decide) (uT _ _ u203) rfl rfl dX11_readingLength_15 ?_
  refine z_iload_n hC dX11_readingLength_18 2 rfl rfl ?_
  obtain ⟨g4, hf⟩ := hf
  refine z_iaload hC (aX_17 (kf_9_2 (ke_22 (kf_8_6 g2) g3))) g4 dX11_readingLength_19 ?_
  exact zx_iret hC hr rfl ⟨Nat.le_of_ble_eq_true rfl, Nat.le_of_ble_eq_true rfl⟩ dX11_readingLength_20 hf

-- ===== X11_addReading
def fX11_addReading (K : Int → zSt → Prop) (σ : zSt) (x1 : Int) (x2 : Int) (x3 : Int) : Prop :=
  kX (σ 0 0) = 8 ∧ fX8_hasStake (fun r2 σ2 => zrg r2 ∧ ((r2 = 0 → K (-1) σ2) ∧ (¬ r2 = 0 → kX (σ2 0 0) = 8 ∧ (0 ≤ x1 ∧ x1 < 3) ∧ fX11_isBetween (fun r6 σ6 => zrg r6 ∧ ((r6 = 0 → K (-2) σ6) ∧ (¬ r6 = 0 → fX11_isBetween (fun r8 σ8 => zrg r8 ∧ ((r8 = 0 → K (-2) σ8) ∧ (¬ r8 = 0 → fX9_readingOn (fun r10 σ10 => zrg r10 ∧ ((r10 = (-1) → zrg (σ10 (((σ2 0 0) + 3) + 19 + x1) 0) ∧ ((σ10 (((σ2 0 0) + 3) + 19 + x1) 0 < 8 → fX11_record (fun σ13 => fX9_insert (fun σ14 => K (σ14 (((σ2 0 0) + 3) + 19 + x1) 0) σ14) σ13 (((σ2 0 0) + 3) + 19 + x1) x2 x3) σ10 4 x1 x2 0 0) ∧ (¬ σ10 (((σ2 0 0) + 3) + 19 + x1) 0 < 8 → K (-3) σ10))) ∧ (¬ r10 = (-1) → K (-2) σ10))) σ8 (((σ2 0 0) + 3) + 19 + x1) x2))) σ6 x3 0 9999))) σ2 x2 0 9999))) σ (σ 0 0) x1
set_option maxHeartbeats 4000000 in
set_option maxRecDepth 100000 in
theorem mX11_addReading {D : va_G} {dA : Nat → ClassId} {ad : Nat → Nat} {aL aG aI : Nat} {aK aV : Nat → Nat} (l : Launch) (hinj : ∀ i j, i < NX → j < NX → ad i = ad j → i = j) (sz : Nat) {K : Int → zSt → Prop} {σ : zSt} {x1 : Int} {x2 : Int} {x3 : Int} (hf : fX11_addReading K σ x1 x2 x3) : Met l yX11_addReading (Cond.code yX11_addReading cX11_addReading 5 (some .int) :: UW) ({ frames := 4, cells := 0, slots := 0, locals := 93 } : Room) (va_Pc [vR ad 0, vI x1, vI x2, vI x3] (zPre D vwCl (tyA dA) (zXX aL aG aI aK aV) NX ad (celX ad dA) sz σ)) (va_Qi (zPi K) (zB D vwCl (tyA dA) NX ad (celX ad dA)) (zA ad NX sz)) 0 0 (zA ad NX sz) := by
  refine z_enter (cc := cX11_addReading) (maxL := 5) (ret := (some .int)) (vs := [vR ad 0, vI x1, vI x2, vI x3]) (plainFor_of_name (by decide)) rfl hinj (Nat.le_of_ble_eq_true rfl) ?_
  intro p e s m args below meth c hC hE hsz hr hnm
  show zAt p l e ({ frames := 4, cells := 0, slots := 0, locals := 93 } : Room) s m args below meth c 0 0 (MQ below (va_Qi (zPi K) (zB D vwCl (tyA dA) NX ad (celX ad dA)) (zA ad NX sz)) args s 0 0 (zA ad NX sz)) 5 D vwCl (zA ad NX sz) NX ad (celX ad dA) 0 [(0, vR ad 0), (1, vI x1), (2, vI x2), (3, vI x3)] [] σ
  refine z_aload_n hC dX11_addReading_0 0 rfl rfl ?_
  refine z_get hC (fun w h => uT _ w (uL11 w h)) (oX_11 (show kX 0 = 11 by decide)) 0 (by decide) (uT _ _ u467) rfl rfl dX11_addReading_1 ?_
  obtain ⟨g1, hf⟩ := hf
  refine z_iload_n hC dX11_addReading_4 1 rfl rfl ?_
  refine z_callVi hC hE (oX_8 g1) [vI x1] (fun sz2 => mX8_hasStake l hinj sz2 hf) (cwV 1 hC.1.2.2.2.2 (uV (uT _) u973 u974 u975 u106 u976) rfl rfl rfl (by decide +kernel) ⟨Nat.le_of_ble_eq_true rfl, Nat.le_of_ble_eq_true rfl⟩) rfl rfl (Nat.le_of_ble_eq_true rfl) ⟨Nat.le_of_ble_eq_true rfl, Nat.le_of_ble_eq_true rfl⟩ dX11_addReading_5 (fun r2 σ2 hf => ?_)
  obtain ⟨g3, hf⟩ := hf
  refine z_if_ne (tgt := 13) hC dX11_addReading_8 (by decide) g3 (fun hc => ?_) (fun hc => ?_)
  · replace hf := hf.2 hc
    refine z_aload_n hC dX11_addReading_13 0 rfl rfl ?_
    refine z_get hC (fun w h => uT _ w (uL11 w h)) (oX_11 (show kX 0 = 11 by decide)) 0 (by decide) (uT _ _ u467) rfl rfl dX11_addReading_14 ?_
    obtain ⟨g4, hf⟩ := hf
    refine z_get hC (fun w h => uT _ w (uL8 w h)) (oX_8 g4) 6 (by decide) (uT _ _ u236) rfl rfl dX11_addReading_17 ?_
    refine z_iload_n hC dX11_addReading_20 1 rfl rfl ?_
    obtain ⟨g5, hf⟩ := hf
    refine z_aaload hC (aX_22 (kf_8_6 g4)) g5 dX11_addReading_21 ?_
    refine z_astore hC ([(4, vR ad (((σ2 0 0) + 3) + 19 + x1)), (0, vR ad 0), (1, vI x1), (2, vI x2), (3, vI x3)]) dX11_addReading_22 (by decide) rfl ?_
    refine z_iload_n hC dX11_addReading_24 3 rfl rfl ?_
    refine z_iconst hC dX11_addReading_25 ?_
    refine z_sipush hC dX11_addReading_26 (by decide) ?_
    refine z_callSi hC hE [vI x2, vI 0, vI 9999] (fun sz2 => mX11_isBetween l hinj sz2 hf) (va_cwS 3 hC.1.2.2.2.2 (uS (uT _) u752 u609 u105 u610) rfl rfl rfl (by decide +kernel) ⟨Nat.le_of_ble_eq_true rfl, Nat.le_of_ble_eq_true rfl⟩) rfl rfl (Nat.le_of_ble_eq_true rfl) ⟨Nat.le_of_ble_eq_true rfl, Nat.le_of_ble_eq_true rfl⟩ dX11_addReading_29 (fun r6 σ6 hf => ?_)
    obtain ⟨g7, hf⟩ := hf
    refine z_if_eq (tgt := 56) hC dX11_addReading_32 (by decide) g7 (fun hc => ?_) (fun hc => ?_)
    · replace hf := hf.1 hc
      refine z_bipush hC dX11_addReading_56 (by decide) ?_
      exact z_iret hC hr rfl dX11_addReading_58 hf
    · replace hf := hf.2 hc
      refine z_iload_n hC dX11_addReading_35 4 rfl rfl ?_
      refine z_iconst hC dX11_addReading_36 ?_
      refine z_sipush hC dX11_addReading_37 (by decide) ?_
      refine z_callSi hC hE [vI x3, vI 0, vI 9999] (fun sz2 => mX11_isBetween l hinj sz2 hf) (va_cwS 3 hC.1.2.2.2.2 (uS (uT _) u752 u609 u105 u610) rfl rfl rfl (by decide +kernel) ⟨Nat.le_of_ble_eq_true rfl, Nat.le_of_ble_eq_true rfl⟩) rfl rfl (Nat.le_of_ble_eq_true rfl) ⟨Nat.le_of_ble_eq_true rfl, Nat.le_of_ble_eq_true rfl⟩ dX11_addReading_40 (fun r8 σ8 hf => ?_)
      obtain ⟨g9, hf⟩ := hf
      refine z_if_eq (tgt := 56) hC dX11_addReading_43 (by decide) g9 (fun hc => ?_) (fun hc => ?_)
      · replace hf := hf.1 hc
        refine z_bipush hC dX11_addReading_56 (by decide) ?_
        exact z_iret hC hr rfl dX11_addReading_58 hf
      · replace hf := hf.2 hc
        refine z_aload hC dX11_addReading_46 0 rfl ?_
        refine z_iload_n hC dX11_addReading_48 3 rfl rfl ?_
        refine z_callVi hC hE (oX_9 (ke_22 (kf_8_6 g4) g5)) [vI x2] (fun sz2 => mX9_readingOn l hinj sz2 hf) (cwV 1 hC.1.2.2.2.2 (uV (uT _) u977 u978 u979 u110 u980) rfl rfl rfl (by decide +kernel) ⟨Nat.le_of_ble_eq_true rfl, Nat.le_of_ble_eq_true rfl⟩) rfl rfl (Nat.le_of_ble_eq_true rfl) ⟨Nat.le_of_ble_eq_true rfl, Nat.le_of_ble_eq_true rfl⟩ dX11_addReading_49 (fun r10 σ10 hf => ?_)
        refine z_iconst hC dX11_addReading_52 ?_
        obtain ⟨g11, hf⟩ := hf
        refine z_icmp_eq (tgt := 59) hC dX11_addReading_53 (by decide) g11 (zlit rfl rfl) (fun hc => ?_) (fun hc => ?_)
        · replace hf := hf.1 hc
          refine z_aload hC dX11_addReading_59 0 rfl ?_
          refine z_get hC (fun w h => uT _ w (uL9 w h)) (oX_9 (ke_22 (kf_8_6 g4) g5)) 0 (by decide) (uT _ _ u198) rfl rfl dX11_addReading_61 ?_
          refine z_bipush hC dX11_addReading_64 (by decide) ?_
          obtain ⟨g12, hf⟩ := hf
          refine z_icmp_lt (tgt := 72) hC dX11_addReading_66 (by decide) g12 (zlit rfl rfl) (fun hc => ?_) (fun hc => ?_)
          · replace hf := hf.1 hc
            refine z_aload_n hC dX11_addReading_72 1 rfl rfl ?_
            refine z_iconst hC dX11_addReading_73 ?_
            refine z_iload_n hC dX11_addReading_74 2 rfl rfl ?_
            refine z_iload_n hC dX11_addReading_75 3 rfl rfl ?_
            refine z_iconst hC dX11_addReading_76 ?_
            refine z_iconst hC dX11_addReading_77 ?_
            refine z_callVv hC hE (oX_11 (show kX 0 = 11 by decide)) [vI 4, vI x1, vI x2, vI 0, vI 0] (fun sz2 => mX11_record l hinj sz2 hf) (cwV 5 hC.1.2.2.2.2 (uV (uT _) u753 u755 u12 u105 u756) rfl rfl rfl (by decide +kernel) ⟨Nat.le_of_ble_eq_true rfl, Nat.le_of_ble_eq_true rfl⟩) rfl rfl (Nat.le_of_ble_eq_true rfl) ⟨Nat.le_of_ble_eq_true rfl, Nat.le_of_ble_eq_true rfl⟩ dX11_addReading_78 (fun σ13 hf => ?_)
            refine z_aload hC dX11_addReading_81 0 rfl ?_
            refine z_iload_n hC dX11_addReading_83 3 rfl rfl ?_
            refine z_iload_n hC dX11_addReading_84 4 rfl rfl ?_
            refine z_callVv hC hE (oX_9 (ke_22 (kf_8_6 g4) g5)) [vI x2, vI x3] (fun sz2 => mX9_insert l hinj sz2 hf) (cwV 2 hC.1.2.2.2.2 (uV (uT _) u981 u678 u679 u110 u680) rfl rfl rfl (by decide +kernel) ⟨Nat.le_of_ble_eq_true rfl, Nat.le_of_ble_eq_true rfl⟩) rfl rfl (Nat.le_of_ble_eq_true rfl) ⟨Nat.le_of_ble_eq_true rfl, Nat.le_of_ble_eq_true rfl⟩ dX11_addReading_85 (fun σ14 hf => ?_)
            refine z_aload hC dX11_addReading_88 0 rfl ?_
            refine z_get hC (fun w h => uT _ w (uL9 w h)) (oX_9 (ke_22 (kf_8_6 g4) g5)) 0 (by decide) (uT _ _ u198) rfl rfl dX11_addReading_90 ?_
            exact z_iret hC hr rfl dX11_addReading_93 hf
          · replace hf := hf.2 hc
            refine z_bipush hC dX11_addReading_69 (by decide) ?_
            exact z_iret hC hr rfl dX11_addReading_71 hf
        · replace hf := hf.2 hc
          refine z_bipush hC dX11_addReading_56 (by decide) ?_
          exact z_iret hC hr rfl dX11_addReading_58 hf
  · replace hf := hf.1 hc
    refine z_iconst hC dX11_addReading_11 ?_
    exact z_iret hC hr rfl dX11_addReading_12 hf

-- ===== X11_removeReading
def fX11_removeReading (K : Int → zSt → Prop) (σ : zSt) (x1 : Int) (x2 : Int) : Prop :=
  kX (σ 0 0) = 8 ∧ fX8_hasStake (fun r2 σ2 => zrg r2 ∧ ((r2 = 0 → K (-1) σ2) ∧ (¬ r2 = 0 → kX (σ2 0 0) = 8 ∧ (0 ≤ x1 ∧ x1 < 3) ∧ fX9_readingOn (fun r6 σ6 => zrg r6 ∧ ((r6 = (-1) → K (-1) σ6) ∧ (¬ r6 = (-1) → (0 ≤ r6 ∧ r6 < 8) ∧ fX11_record (fun σ9 => fX9_delete (fun σ10 => K (σ10 (((σ2 0 0) + 3) + 19 + x1) 0) σ10) σ9 (((σ2 0 0) + 3) + 19 + x1) x2) σ6 5 x1 x2 0 (σ6 ((((σ2 0 0) + 3) + 19 + x1) + 6) r6)))) σ2 (((σ2 0 0) + 3) + 19 + x1) x2))) σ (σ 0 0) x1
set_option maxHeartbeats 4000000 in
set_option maxRecDepth 100000 in
theorem mX11_removeReading {D : va_G} {dA : Nat → ClassId} {ad : Nat → Nat} {aL aG aI : Nat} {aK aV : Nat → Nat} (l : Launch) (hinj : ∀ i j, i < NX → j < NX → ad i = ad j → i = j) (sz : Nat) {K : Int → zSt → Prop} {σ : zSt} {x1 : Int} {x2 : Int} (hf : fX11_removeReading K σ x1 x2) : Met l yX11_removeReading (Cond.code yX11_removeReading cX11_removeReading 5 (some .int) :: UW) ({ frames := 4, cells := 0, slots := 0, locals := 93 } : Room) (va_Pc [vR ad 0, vI x1, vI x2] (zPre D vwCl (tyA dA) (zXX aL aG aI aK aV) NX ad (celX ad dA) sz σ)) (va_Qi (zPi K) (zB D vwCl (tyA dA) NX ad (celX ad dA)) (zA ad NX sz)) 0 0 (zA ad NX sz) := by
  refine z_enter (cc := cX11_removeReading) (maxL := 5) (ret := (some .int)) (vs := [vR ad 0, vI x1, vI x2]) (plainFor_of_name (by decide)) rfl hinj (Nat.le_of_ble_eq_true rfl) ?_
  intro p e s m args below meth c hC hE hsz hr hnm
  show zAt p l e ({ frames := 4, cells := 0, slots := 0, locals := 93 } : Room) s m args below meth c 0 0 (MQ below (va_Qi (zPi K) (zB D vwCl (tyA dA) NX ad (celX ad dA)) (zA ad NX sz)) args s 0 0 (zA ad NX sz)) 5 D vwCl (zA ad NX sz) NX ad (celX ad dA) 0 [(0, vR ad 0), (1, vI x1), (2, vI x2)] [] σ
  refine z_aload_n hC dX11_removeReading_0 0 rfl rfl ?_
  refine z_get hC (fun w h => uT _ w (uL11 w h)) (oX_11 (show kX 0 = 11 by decide)) 0 (by decide) (uT _ _ u467) rfl rfl dX11_removeReading_1 ?_
  obtain ⟨g1, hf⟩ := hf
  refine z_iload_n hC dX11_removeReading_4 1 rfl rfl ?_
  refine z_callVi hC hE (oX_8 g1) [vI x1] (fun sz2 => mX8_hasStake l hinj sz2 hf) (cwV 1 hC.1.2.2.2.2 (uV (uT _) u973 u974 u975 u106 u976) rfl rfl rfl (by decide +kernel) ⟨Nat.le_of_ble_eq_true rfl, Nat.le_of_ble_eq_true rfl⟩) rfl rfl (Nat.le_of_ble_eq_true rfl) ⟨Nat.le_of_ble_eq_true rfl, Nat.le_of_ble_eq_true rfl⟩ dX11_removeReading_5 (fun r2 σ2 hf => ?_)
  obtain ⟨g3, hf⟩ := hf
  refine z_if_ne (tgt := 13) hC dX11_removeReading_8 (by decide) g3 (fun hc => ?_) (fun hc => ?_)
  · replace hf := hf.2 hc
    refine z_aload_n hC dX11_removeReading_13 0 rfl rfl ?_
    refine z_get hC (fun w h => uT _ w (uL11 w h)) (oX_11 (show kX 0 = 11 by decide)) 0 (by decide) (uT _ _ u467) rfl rfl dX11_removeReading_14 ?_
    obtain ⟨g4, hf⟩ := hf
    refine z_get hC (fun w h => uT _ w (uL8 w h)) (oX_8 g4) 6 (by decide) (uT _ _ u236) rfl rfl dX11_removeReading_17 ?_
    refine z_iload_n hC dX11_removeReading_20 1 rfl rfl ?_
    obtain ⟨g5, hf⟩ := hf
    refine z_aaload hC (aX_22 (kf_8_6 g4)) g5 dX11_removeReading_21 ?_
    refine z_astore_n hC ([(3, vR ad (((σ2 0 0) + 3) + 19 + x1)), (0, vR ad 0), (1, vI x1), (2, vI x2)]) dX11_removeReading_22 rfl (by decide) rfl ?_
    refine z_aload_n hC dX11_removeReading_23 0 rfl rfl ?_
    refine z_iload_n hC dX11_removeReading_24 3 rfl rfl ?_
    refine z_callVi hC hE (oX_9 (ke_22 (kf_8_6 g4) g5)) [vI x2] (fun sz2 => mX9_readingOn l hinj sz2 hf) (cwV 1 hC.1.2.2.2.2 (uV (uT _) u977 u978 u979 u110 u980) rfl rfl rfl (by decide +kernel) ⟨Nat.le_of_ble_eq_true rfl, Nat.le_of_ble_eq_true rfl⟩) rfl rfl (Nat.le_of_ble_eq_true rfl) ⟨Nat.le_of_ble_eq_true rfl, Nat.le_of_ble_eq_true rfl⟩ dX11_removeReading_25 (fun r6 σ6 hf => ?_)
    refine z_istore hC ([(4, vI r6), (3, vR ad (((σ2 0 0) + 3) + 19 + x1)), (0, vR ad 0), (1, vI x1), (2, vI x2)]) dX11_removeReading_28 (by decide) rfl ?_
    refine z_iload hC dX11_removeReading_30 0 rfl ?_
    refine z_iconst hC dX11_removeReading_32 ?_
    obtain ⟨g7, hf⟩ := hf
    refine z_icmp_ne (tgt := 38) hC dX11_removeReading_33 (by decide) g7 (zlit rfl rfl) (fun hc => ?_) (fun hc => ?_)
    · replace hf := hf.2 hc
      refine z_aload_n hC dX11_removeReading_38 2 rfl rfl ?_
      refine z_iconst hC dX11_removeReading_39 ?_
      refine z_iload_n hC dX11_removeReading_40 3 rfl rfl ?_
      refine z_iload_n hC dX11_removeReading_41 4 rfl rfl ?_
      refine z_iconst hC dX11_removeReading_42 ?_
      refine z_aload_n hC dX11_removeReading_43 1 rfl rfl ?_
      refine z_get hC (fun w h => uT _ w (uL9 w h)) (oX_9 (ke_22 (kf_8_6 g4) g5)) 2 (by decide) (uT _ _ u203) rfl rfl dX11_removeReading_44 ?_
      refine z_iload hC dX11_removeReading_47 0 rfl ?_
      obtain ⟨g8, hf⟩ := hf
      refine z_iaload hC (aX_17 (kf_9_2 (ke_22 (kf_8_6 g4) g5))) g8 dX11_removeReading_49 ?_
      refine z_callVv hC hE (oX_11 (show kX 0 = 11 by decide)) [vI 5, vI x1, vI x2, vI 0, vI (σ6 ((((σ2 0 0) + 3) + 19 + x1) + 6) r6)] (fun sz2 => mX11_record l hinj sz2 hf) (cwV 5 hC.1.2.2.2.2 (uV (uT _) u753 u755 u12 u105 u756) rfl rfl rfl (by decide +kernel) ⟨Nat.le_of_ble_eq_true rfl, Nat.le_of_ble_eq_true rfl⟩) rfl rfl (Nat.le_of_ble_eq_true rfl) ⟨Nat.le_of_ble_eq_true rfl, Nat.le_of_ble_eq_true rfl⟩ dX11_removeReading_50 (fun σ9 hf => ?_)
      refine z_aload_n hC dX11_removeReading_53 1 rfl rfl ?_
      refine z_iload_n hC dX11_removeReading_54 4 rfl rfl ?_
      refine z_callVv hC hE (oX_9 (ke_22 (kf_8_6 g4) g5)) [vI x2] (fun sz2 => mX9_delete l hinj sz2 hf) (cwV 1 hC.1.2.2.2.2 (uV (uT _) u986 u987 u988 u110 u989) rfl rfl rfl (by decide +kernel) ⟨Nat.le_of_ble_eq_true rfl, Nat.le_of_ble_eq_true rfl⟩) rfl rfl (Nat.le_of_ble_eq_true rfl) ⟨Nat.le_of_ble_eq_true rfl, Nat.le_of_ble_eq_true rfl⟩ dX11_removeReading_55 (fun σ10 hf => ?_)
      refine z_aload_n hC dX11_removeReading_58 1 rfl rfl ?_
      refine z_get hC (fun w h => uT _ w (uL9 w h)) (oX_9 (ke_22 (kf_8_6 g4) g5)) 0 (by decide) (uT _ _ u198) rfl rfl dX11_removeReading_59 ?_
      exact z_iret hC hr rfl dX11_removeReading_62 hf
    · replace hf := hf.1 hc
      refine z_iconst hC dX11_removeReading_36 ?_
      exact z_iret hC hr rfl dX11_removeReading_37 hf
  · replace hf := hf.1 hc
    refine z_iconst hC dX11_removeReading_11 ?_
    exact z_iret hC hr rfl dX11_removeReading_12 hf

-- ===== X11_drillCount
noncomputable def fX11_drillCount_B20 (K : Int → zSt → Prop) (KX : String → zSt → Prop) (n : Nat) : zSt → Int → Int → Int → Prop :=
  Nat.rec (motive := fun _ => zSt → Int → Int → Int → Prop) (fun _ _ _ _ => False) (fun _ ih σ x2 x3 x4 => zrg x4 ∧ zrg ((σ x2 0) - 1) ∧ (((σ x2 0) - 1 ≤ x4 → K x3 σ) ∧ (¬ (σ x2 0) - 1 ≤ x4 → fX9_drilledIn (fun r6 σ6 => zrg r6 ∧ ((r6 = 0 → ih σ6 x2 x3 (x4 + 1)) ∧ (¬ r6 = 0 → ih σ6 x2 (x3 + 1) (x4 + 1)))) σ x2 x4))) n
theorem uX11_drillCount_B20 (K : Int → zSt → Prop) (KX : String → zSt → Prop) (n0 : Nat) (σ : zSt) (x2 : Int) (x3 : Int) (x4 : Int) : fX11_drillCount_B20 K KX (n0 + 1) σ x2 x3 x4 = (zrg x4 ∧ zrg ((σ x2 0) - 1) ∧ (((σ x2 0) - 1 ≤ x4 → K x3 σ) ∧ (¬ (σ x2 0) - 1 ≤ x4 → fX9_drilledIn (fun r6 σ6 => zrg r6 ∧ ((r6 = 0 → (fX11_drillCount_B20 K KX n0) σ6 x2 x3 (x4 + 1)) ∧ (¬ r6 = 0 → (fX11_drillCount_B20 K KX n0) σ6 x2 (x3 + 1) (x4 + 1)))) σ x2 x4))) := rfl
def fX11_drillCount (K : Int → zSt → Prop) (KX : String → zSt → Prop) (σ : zSt) (x1 : Int) : Prop :=
  fX11_requireStake (fun σ1 => kX (σ1 0 0) = 8 ∧ (0 ≤ x1 ∧ x1 < 3) ∧ (∃ n, fX11_drillCount_B20 K KX n σ1 (((σ1 0 0) + 3) + 19 + x1) 0 0)) KX σ x1
set_option maxHeartbeats 4000000 in
set_option maxRecDepth 100000 in
theorem wX11_drillCount_B20 {p : Program} {l : Launch} {e : Env} {s : State} {m : MethodId} {args : Array Value} {below : List Frame} {meth : Method} {c : Code} {D : va_G} {dA : Nat → ClassId} {ad : Nat → Nat} {sz : Nat} {aL aG aI : Nat} {aK aV : Nat → Nat} {K : Int → zSt → Prop} {KX : String → zSt → Prop} (hC : zC p m c cX11_drillCount 5 s args (Cond.code yX11_drillCount cX11_drillCount 5 (some .int) :: UW) RX11 meth D vwCl (tyA dA) (zA ad NX sz) NX ad (celX ad dA)) (hE : zE (zXX aL aG aI aK aV) (zA ad NX sz) s s.heap) (hr : meth.sig.returnType = (some .int)) (hinj : ∀ i j, i < NX → j < NX → ad i = ad j → i = j) (hst : l.stackTraces = false) (hno : ∀ z ∈ c.exceptionTable.toList, False) : ∀ (n : Nat) (σ : zSt) (x2 : Int) (x3 : Int) (x4 : Int) (qx2 : kX x2 = 9), fX11_drillCount_B20 K KX n σ x2 x3 x4 → zAt p l e ({ frames := 7, cells := 1, slots := 6, locals := 103 } : Room) s m args below meth c 1 6 (vx_MQ below (va_Qi (zPi K) (zB D vwCl (tyA dA) NX ad (celX ad dA)) (zA ad NX sz)) (zXC D vwCl (tyA dA) NX ad (celX ad dA) KX (zA ad NX sz)) args s 1 6 (zA ad NX sz)) 5 D vwCl (zA ad NX sz) NX ad (celX ad dA) 20 [(2, vR ad x2), (3, vI x3), (4, vI x4)] [] σ := by
  intro n
  induction n with
  | zero => intro σ x2 x3 x4 qx2 hf; exact False.elim hf
  | succ n ih =>
    intro σ x2 x3 x4 qx2 hf
    rw [uX11_drillCount_B20] at hf
    refine z_iload hC dX11_drillCount_20 2 rfl ?_
    refine z_aload_n hC dX11_drillCount_22 0 rfl rfl ?_
    refine z_get hC (fun w h => uT _ w (uL9 w h)) (oX_9 qx2) 0 (by decide) (uT _ _ u198) rfl rfl dX11_drillCount_23 ?_
    refine z_iconst hC dX11_drillCount_26 ?_
    refine z_isub hC dX11_drillCount_27 ?_
    obtain ⟨g4, hf⟩ := hf
    obtain ⟨g5, hf⟩ := hf
    refine z_icmp_ge (tgt := 49) hC dX11_drillCount_28 (by decide) g4 g5 (fun hc => ?_) (fun hc => ?_)
    · replace hf := hf.1 hc
      refine z_iload_n hC dX11_drillCount_49 1 rfl rfl ?_
      exact zx_iret hC hr rfl ⟨Nat.le_of_ble_eq_true rfl, Nat.le_of_ble_eq_true rfl⟩ dX11_drillCount_50 hf
    · replace hf := hf.2 hc
      refine z_aload_n hC dX11_drillCount_31 0 rfl rfl ?_
      refine z_iload hC dX11_drillCount_32 2 rfl ?_
      refine z_callVi hC hE (oX_9 qx2) [vI x4] (fun sz2 => mX9_drilledIn l hinj sz2 hf) (cwV 1 hC.1.2.2.2.2 (uV (uT _) u1446 u1447 u1448 u110 u1449) rfl rfl rfl (by decide +kernel) ⟨Nat.le_of_ble_eq_true rfl, Nat.le_of_ble_eq_true rfl⟩) rfl rfl (Nat.le_of_ble_eq_true rfl) ⟨Nat.le_of_ble_eq_true rfl, Nat.le_of_ble_eq_true rfl⟩ dX11_drillCount_34 (fun r6 σ6 hf => ?_)
      obtain ⟨g7, hf⟩ := hf
      refine z_if_eq (tgt := 43) hC dX11_drillCount_37 (by decide) g7 (fun hc => ?_) (fun hc => ?_)
      · replace hf := hf.1 hc
        refine z_iinc hC ([(4, vI (x4 + 1)), (2, vR ad x2), (3, vI x3)]) dX11_drillCount_43 2 rfl (by decide) rfl ?_
        refine z_goto (tgt := 20) hC dX11_drillCount_46 (by decide) ?_
        refine z_sub (lv' := [(2, vR ad x2), (3, vI x3), (4, vI (x4 + 1))]) [1, 2, 0] rfl ?_
        exact ih _ _ _ _ qx2 hf
      · replace hf := hf.2 hc
        refine z_iinc hC ([(3, vI (x3 + 1)), (2, vR ad x2), (4, vI x4)]) dX11_drillCount_40 1 rfl (by decide) rfl ?_
        refine z_iinc hC ([(4, vI (x4 + 1)), (3, vI (x3 + 1)), (2, vR ad x2)]) dX11_drillCount_43 2 rfl (by decide) rfl ?_
        refine z_goto (tgt := 20) hC dX11_drillCount_46 (by decide) ?_
        refine z_sub (lv' := [(2, vR ad x2), (3, vI (x3 + 1)), (4, vI (x4 + 1))]) [2, 1, 0] rfl ?_
        exact ih _ _ _ _ qx2 hf
set_option maxHeartbeats 4000000 in
set_option maxRecDepth 100000 in
theorem mX11_drillCount {D : va_G} {dA : Nat → ClassId} {ad : Nat → Nat} {aL aG aI : Nat} {aK aV : Nat → Nat} (l : Launch) (hinj : ∀ i j, i < NX → j < NX → ad i = ad j → i = j) (hst : l.stackTraces = false) (sz : Nat) {K : Int → zSt → Prop} {KX : String → zSt → Prop} {σ : zSt} {x1 : Int} (hf : fX11_drillCount K KX σ x1) : vx_Met l yX11_drillCount (Cond.code yX11_drillCount cX11_drillCount 5 (some .int) :: UW) ({ frames := 7, cells := 1, slots := 6, locals := 103 } : Room) (va_Pc [vR ad 0, vI x1] (zPre D vwCl (tyA dA) (zXX aL aG aI aK aV) NX ad (celX ad dA) sz σ)) (va_Qi (zPi K) (zB D vwCl (tyA dA) NX ad (celX ad dA)) (zA ad NX sz)) (zXC D vwCl (tyA dA) NX ad (celX ad dA) KX (zA ad NX sz)) 1 6 (zA ad NX sz) := by
  refine zx_enter (cc := cX11_drillCount) (maxL := 5) (ret := (some .int)) (vs := [vR ad 0, vI x1]) (by decide) rfl hinj (Nat.le_of_ble_eq_true rfl) ?_
  intro p e s m args below meth c hC hE hsz hr hno
  show zAt p l e ({ frames := 7, cells := 1, slots := 6, locals := 103 } : Room) s m args below meth c 0 0 (vx_MQ below (va_Qi (zPi K) (zB D vwCl (tyA dA) NX ad (celX ad dA)) (zA ad NX sz)) (zXC D vwCl (tyA dA) NX ad (celX ad dA) KX (zA ad NX sz)) args s 1 6 (zA ad NX sz)) 5 D vwCl (zA ad NX sz) NX ad (celX ad dA) 0 [(0, vR ad 0), (1, vI x1)] [] σ
  refine z_aload_n hC dX11_drillCount_0 0 rfl rfl ?_
  refine z_iload_n hC dX11_drillCount_1 1 rfl rfl ?_
  refine zx_callVv hC hno hE (oX_11 (show kX 0 = 11 by decide)) [vI x1] (fun sz2 => mX11_requireStake l hinj hst sz2 hf) (cwV 1 hC.1.2.2.2.2 (uV (uT _) u1415 u1417 u36 u105 u1418) rfl rfl rfl (by decide +kernel) ⟨Nat.le_of_ble_eq_true rfl, Nat.le_of_ble_eq_true rfl⟩) rfl rfl (Nat.le_of_ble_eq_true rfl) ⟨Nat.le_of_ble_eq_true rfl, Nat.le_of_ble_eq_true rfl⟩ ⟨Nat.le_of_ble_eq_true rfl, Nat.le_of_ble_eq_true rfl⟩ dX11_drillCount_2 (fun σ1 hf => ?_)
  refine z_aload_n hC dX11_drillCount_5 0 rfl rfl ?_
  refine z_get hC (fun w h => uT _ w (uL11 w h)) (oX_11 (show kX 0 = 11 by decide)) 0 (by decide) (uT _ _ u467) rfl rfl dX11_drillCount_6 ?_
  obtain ⟨g2, hf⟩ := hf
  refine z_get hC (fun w h => uT _ w (uL8 w h)) (oX_8 g2) 6 (by decide) (uT _ _ u236) rfl rfl dX11_drillCount_9 ?_
  refine z_iload_n hC dX11_drillCount_12 1 rfl rfl ?_
  obtain ⟨g3, hf⟩ := hf
  refine z_aaload hC (aX_22 (kf_8_6 g2)) g3 dX11_drillCount_13 ?_
  refine z_astore_n hC ([(2, vR ad (((σ1 0 0) + 3) + 19 + x1)), (0, vR ad 0), (1, vI x1)]) dX11_drillCount_14 rfl (by decide) rfl ?_
  refine z_iconst hC dX11_drillCount_15 ?_
  refine z_istore_n hC ([(3, vI 0), (2, vR ad (((σ1 0 0) + 3) + 19 + x1)), (0, vR ad 0), (1, vI x1)]) dX11_drillCount_16 rfl (by decide) rfl ?_
  refine z_iconst hC dX11_drillCount_17 ?_
  refine z_istore hC ([(4, vI 0), (3, vI 0), (2, vR ad (((σ1 0 0) + 3) + 19 + x1)), (0, vR ad 0), (1, vI x1)]) dX11_drillCount_18 (by decide) rfl ?_
  refine z_sub (lv' := [(2, vR ad (((σ1 0 0) + 3) + 19 + x1)), (3, vI 0), (4, vI 0)]) [2, 1, 0] rfl ?_
  obtain ⟨n, hf⟩ := hf
  exact wX11_drillCount_B20 hC hE hr hinj hst hno n _ _ _ _ (ke_22 (kf_8_6 g2) g3) hf

-- ===== X11_meltTo
def fX11_meltTo (K : Int → zSt → Prop) (KX : String → zSt → Prop) (σ : zSt) (x1 : Int) (x2 : Int) : Prop :=
  fX11_requireStake (fun σ1 => kX (σ1 0 0) = 8 ∧ (0 ≤ x1 ∧ x1 < 3) ∧ fX9_totalTo (fun r4 σ4 => K r4 σ4) σ1 (((σ1 0 0) + 3) + 19 + x1) x2) KX σ x1
set_option maxHeartbeats 4000000 in
set_option maxRecDepth 100000 in
theorem mX11_meltTo {D : va_G} {dA : Nat → ClassId} {ad : Nat → Nat} {aL aG aI : Nat} {aK aV : Nat → Nat} (l : Launch) (hinj : ∀ i j, i < NX → j < NX → ad i = ad j → i = j) (hst : l.stackTraces = false) (sz : Nat) {K : Int → zSt → Prop} {KX : String → zSt → Prop} {σ : zSt} {x1 : Int} {x2 : Int} (hf : fX11_meltTo K KX σ x1 x2) : vx_Met l yX11_meltTo (Cond.code yX11_meltTo cX11_meltTo 3 (some .int) :: UW) ({ frames := 7, cells := 1, slots := 6, locals := 103 } : Room) (va_Pc [vR ad 0, vI x1, vI x2] (zPre D vwCl (tyA dA) (zXX aL aG aI aK aV) NX ad (celX ad dA) sz σ)) (va_Qi (zPi K) (zB D vwCl (tyA dA) NX ad (celX ad dA)) (zA ad NX sz)) (zXC D vwCl (tyA dA) NX ad (celX ad dA) KX (zA ad NX sz)) 1 6 (zA ad NX sz) := by
  refine zx_enter (cc := cX11_meltTo) (maxL := 3) (ret := (some .int)) (vs := [vR ad 0, vI x1, vI x2]) (by decide) rfl hinj (Nat.le_of_ble_eq_true rfl) ?_
  intro p e s m args below meth c hC hE hsz hr hno
  show zAt p l e ({ frames := 7, cells := 1, slots := 6, locals := 103 } : Room) s m args below meth c 0 0 (vx_MQ below (va_Qi (zPi K) (zB D vwCl (tyA dA) NX ad (celX ad dA)) (zA ad NX sz)) (zXC D vwCl (tyA dA) NX ad (celX ad dA) KX (zA ad NX sz)) args s 1 6 (zA ad NX sz)) 3 D vwCl (zA ad NX sz) NX ad (celX ad dA) 0 [(0, vR ad 0), (1, vI x1), (2, vI x2)] [] σ
  refine z_aload_n hC dX11_meltTo_0 0 rfl rfl ?_
  refine z_iload_n hC dX11_meltTo_1 1 rfl rfl ?_
  refine zx_callVv hC hno hE (oX_11 (show kX 0 = 11 by decide)) [vI x1] (fun sz2 => mX11_requireStake l hinj hst sz2 hf) (cwV 1 hC.1.2.2.2.2 (uV (uT _) u1415 u1417 u36 u105 u1418) rfl rfl rfl (by decide +kernel) ⟨Nat.le_of_ble_eq_true rfl, Nat.le_of_ble_eq_true rfl⟩) rfl rfl (Nat.le_of_ble_eq_true rfl) ⟨Nat.le_of_ble_eq_true rfl, Nat.le_of_ble_eq_true rfl⟩ ⟨Nat.le_of_ble_eq_true rfl, Nat.le_of_ble_eq_true rfl⟩ dX11_meltTo_2 (fun σ1 hf => ?_)
  refine z_aload_n hC dX11_meltTo_5 0 rfl rfl ?_
  refine z_get hC (fun w h => uT _ w (uL11 w h)) (oX_11 (show kX 0 = 11 by decide)) 0 (by decide) (uT _ _ u467) rfl rfl dX11_meltTo_6 ?_
  obtain ⟨g2, hf⟩ := hf
  refine z_get hC (fun w h => uT _ w (uL8 w h)) (oX_8 g2) 6 (by decide) (uT _ _ u236) rfl rfl dX11_meltTo_9 ?_
  refine z_iload_n hC dX11_meltTo_12 1 rfl rfl ?_
  obtain ⟨g3, hf⟩ := hf
  refine z_aaload hC (aX_22 (kf_8_6 g2)) g3 dX11_meltTo_13 ?_
  refine z_iload_n hC dX11_meltTo_14 2 rfl rfl ?_
  refine z_callVi hC hE (oX_9 (ke_22 (kf_8_6 g2) g3)) [vI x2] (fun sz2 => mX9_totalTo l hinj sz2 hf) (cwV 1 hC.1.2.2.2.2 (uV (uT _) u1457 u1004 u1005 u110 u1006) rfl rfl rfl (by decide +kernel) ⟨Nat.le_of_ble_eq_true rfl, Nat.le_of_ble_eq_true rfl⟩) rfl rfl (Nat.le_of_ble_eq_true rfl) ⟨Nat.le_of_ble_eq_true rfl, Nat.le_of_ble_eq_true rfl⟩ dX11_meltTo_15 (fun r4 σ4 hf => ?_)
  exact zx_iret hC hr rfl ⟨Nat.le_of_ble_eq_true rfl, Nat.le_of_ble_eq_true rfl⟩ dX11_meltTo_18 hf

-- ===== X11_melt
def fX11_melt (K : Int → zSt → Prop) (KX : String → zSt → Prop) (σ : zSt) (x1 : Int) (x2 : Int) (x3 : Int) : Prop :=
  fX11_requireStake (fun σ1 => kX (σ1 0 0) = 8 ∧ (0 ≤ x1 ∧ x1 < 3) ∧ fX9_meltBetween (fun r4 σ4 => K r4 σ4) σ1 (((σ1 0 0) + 3) + 19 + x1) x2 x3) KX σ x1
set_option maxHeartbeats 4000000 in
set_option maxRecDepth 100000 in
theorem mX11_melt {D : va_G} {dA : Nat → ClassId} {ad : Nat → Nat} {aL aG aI : Nat} {aK aV : Nat → Nat} (l : Launch) (hinj : ∀ i j, i < NX → j < NX → ad i = ad j → i = j) (hst : l.stackTraces = false) (sz : Nat) {K : Int → zSt → Prop} {KX : String → zSt → Prop} {σ : zSt} {x1 : Int} {x2 : Int} {x3 : Int} (hf : fX11_melt K KX σ x1 x2 x3) : vx_Met l yX11_melt (Cond.code yX11_melt cX11_melt 4 (some .int) :: UW) ({ frames := 7, cells := 1, slots := 6, locals := 103 } : Room) (va_Pc [vR ad 0, vI x1, vI x2, vI x3] (zPre D vwCl (tyA dA) (zXX aL aG aI aK aV) NX ad (celX ad dA) sz σ)) (va_Qi (zPi K) (zB D vwCl (tyA dA) NX ad (celX ad dA)) (zA ad NX sz)) (zXC D vwCl (tyA dA) NX ad (celX ad dA) KX (zA ad NX sz)) 1 6 (zA ad NX sz) := by
  refine zx_enter (cc := cX11_melt) (maxL := 4) (ret := (some .int)) (vs := [vR ad 0, vI x1, vI x2, vI x3]) (by decide) rfl hinj (Nat.le_of_ble_eq_true rfl) ?_
  intro p e s m args below meth c hC hE hsz hr hno
  show zAt p l e ({ frames := 7, cells := 1, slots := 6, locals := 103 } : Room) s m args below meth c 0 0 (vx_MQ below (va_Qi (zPi K) (zB D vwCl (tyA dA) NX ad (celX ad dA)) (zA ad NX sz)) (zXC D vwCl (tyA dA) NX ad (celX ad dA) KX (zA ad NX sz)) args s 1 6 (zA ad NX sz)) 4 D vwCl (zA ad NX sz) NX ad (celX ad dA) 0 [(0, vR ad 0), (1, vI x1), (2, vI x2), (3, vI x3)] [] σ
  refine z_aload_n hC dX11_melt_0 0 rfl rfl ?_
  refine z_iload_n hC dX11_melt_1 1 rfl rfl ?_
  refine zx_callVv hC hno hE (oX_11 (show kX 0 = 11 by decide)) [vI x1] (fun sz2 => mX11_requireStake l hinj hst sz2 hf) (cwV 1 hC.1.2.2.2.2 (uV (uT _) u1415 u1417 u36 u105 u1418) rfl rfl rfl (by decide +kernel) ⟨Nat.le_of_ble_eq_true rfl, Nat.le_of_ble_eq_true rfl⟩) rfl rfl (Nat.le_of_ble_eq_true rfl) ⟨Nat.le_of_ble_eq_true rfl, Nat.le_of_ble_eq_true rfl⟩ ⟨Nat.le_of_ble_eq_true rfl, Nat.le_of_ble_eq_true rfl⟩ dX11_melt_2 (fun σ1 hf => ?_)
  refine z_aload_n hC dX11_melt_5 0 rfl rfl ?_
  refine z_get hC (fun w h => uT _ w (uL11 w h)) (oX_11 (show kX 0 = 11 by decide)) 0 (by decide) (uT _ _ u467) rfl rfl dX11_melt_6 ?_
  obtain ⟨g2, hf⟩ := hf
  refine z_get hC (fun w h => uT _ w (uL8 w h)) (oX_8 g2) 6 (by decide) (uT _ _ u236) rfl rfl dX11_melt_9 ?_
  refine z_iload_n hC dX11_melt_12 1 rfl rfl ?_
  obtain ⟨g3, hf⟩ := hf
  refine z_aaload hC (aX_22 (kf_8_6 g2)) g3 dX11_melt_13 ?_
  refine z_iload_n hC dX11_melt_14 2 rfl rfl ?_
  refine z_iload_n hC dX11_melt_15 3 rfl rfl ?_
  refine z_callVi hC hE (oX_9 (ke_22 (kf_8_6 g2) g3)) [vI x2, vI x3] (fun sz2 => mX9_meltBetween l hinj sz2 hf) (cwV 2 hC.1.2.2.2.2 (uV (uT _) u999 u1000 u1001 u110 u1002) rfl rfl rfl (by decide +kernel) ⟨Nat.le_of_ble_eq_true rfl, Nat.le_of_ble_eq_true rfl⟩) rfl rfl (Nat.le_of_ble_eq_true rfl) ⟨Nat.le_of_ble_eq_true rfl, Nat.le_of_ble_eq_true rfl⟩ dX11_melt_16 (fun r4 σ4 hf => ?_)
  exact zx_iret hC hr rfl ⟨Nat.le_of_ble_eq_true rfl, Nat.le_of_ble_eq_true rfl⟩ dX11_melt_19 hf

-- ===== X11_averageMelt
noncomputable def fX11_averageMelt_B16 (K : Int → zSt → Prop) (n : Nat) : zSt → Int → Int → Int → Int → Int → Prop :=
  Nat.rec (motive := fun _ => zSt → Int → Int → Int → Int → Int → Prop) (fun _ _ _ _ _ _ => False) (fun _ ih σ x1 x2 x3 x4 x5 => kX (σ 0 0) = 8 ∧ zrg x5 ∧ zrg (σ (σ 0 0) 3) ∧ ((σ (σ 0 0) 3 ≤ x5 → zrg x4 ∧ ((x4 = 0 → K (-1) σ) ∧ (¬ x4 = 0 → fX11_quotient (fun r7 σ7 => K r7 σ7) σ x3 x4))) ∧ (¬ σ (σ 0 0) 3 ≤ x5 → (0 ≤ x5 ∧ x5 < 3) ∧ fX9_meltBetween (fun r9 σ9 => zrg r9 ∧ ((r9 < 0 → ih σ9 x1 x2 x3 x4 (x5 + 1)) ∧ (¬ r9 < 0 → ih σ9 x1 x2 (x3 + r9) (x4 + 1) (x5 + 1)))) σ (((σ 0 0) + 3) + 19 + x5) x1 x2))) n
theorem uX11_averageMelt_B16 (K : Int → zSt → Prop) (n0 : Nat) (σ : zSt) (x1 : Int) (x2 : Int) (x3 : Int) (x4 : Int) (x5 : Int) : fX11_averageMelt_B16 K (n0 + 1) σ x1 x2 x3 x4 x5 = (kX (σ 0 0) = 8 ∧ zrg x5 ∧ zrg (σ (σ 0 0) 3) ∧ ((σ (σ 0 0) 3 ≤ x5 → zrg x4 ∧ ((x4 = 0 → K (-1) σ) ∧ (¬ x4 = 0 → fX11_quotient (fun r7 σ7 => K r7 σ7) σ x3 x4))) ∧ (¬ σ (σ 0 0) 3 ≤ x5 → (0 ≤ x5 ∧ x5 < 3) ∧ fX9_meltBetween (fun r9 σ9 => zrg r9 ∧ ((r9 < 0 → (fX11_averageMelt_B16 K n0) σ9 x1 x2 x3 x4 (x5 + 1)) ∧ (¬ r9 < 0 → (fX11_averageMelt_B16 K n0) σ9 x1 x2 (x3 + r9) (x4 + 1) (x5 + 1)))) σ (((σ 0 0) + 3) + 19 + x5) x1 x2))) := rfl
def fX11_averageMelt (K : Int → zSt → Prop) (σ : zSt) (x1 : Int) (x2 : Int) : Prop :=
  zrg x1 ∧ zrg x2 ∧ ((x1 ≤ x2 → (∃ n, fX11_averageMelt_B16 K n σ x1 x2 0 0 0)) ∧ (¬ x1 ≤ x2 → K (-2) σ))
set_option maxHeartbeats 4000000 in
set_option maxRecDepth 100000 in
theorem wX11_averageMelt_B16 {p : Program} {l : Launch} {e : Env} {s : State} {m : MethodId} {args : Array Value} {below : List Frame} {meth : Method} {c : Code} {D : va_G} {dA : Nat → ClassId} {ad : Nat → Nat} {sz : Nat} {aL aG aI : Nat} {aK aV : Nat → Nat} {K : Int → zSt → Prop} (hC : zC p m c cX11_averageMelt 7 s args (Cond.code yX11_averageMelt cX11_averageMelt 7 (some .int) :: UW) RX11 meth D vwCl (tyA dA) (zA ad NX sz) NX ad (celX ad dA)) (hE : zE (zXX aL aG aI aK aV) (zA ad NX sz) s s.heap) (hr : meth.sig.returnType = (some .int)) (hinj : ∀ i j, i < NX → j < NX → ad i = ad j → i = j) : ∀ (n : Nat) (σ : zSt) (x1 : Int) (x2 : Int) (x3 : Int) (x4 : Int) (x5 : Int), fX11_averageMelt_B16 K n σ x1 x2 x3 x4 x5 → zAt p l e ({ frames := 4, cells := 0, slots := 0, locals := 93 } : Room) s m args below meth c 0 0 (MQ below (va_Qi (zPi K) (zB D vwCl (tyA dA) NX ad (celX ad dA)) (zA ad NX sz)) args s 0 0 (zA ad NX sz)) 7 D vwCl (zA ad NX sz) NX ad (celX ad dA) 16 [(0, vR ad 0), (1, vI x1), (2, vI x2), (3, vI x3), (4, vI x4), (5, vI x5)] [] σ := by
  intro n
  induction n with
  | zero => intro σ x1 x2 x3 x4 x5  hf; exact False.elim hf
  | succ n ih =>
    intro σ x1 x2 x3 x4 x5  hf
    rw [uX11_averageMelt_B16] at hf
    refine z_iload hC dX11_averageMelt_16 5 rfl ?_
    refine z_aload_n hC dX11_averageMelt_18 0 rfl rfl ?_
    refine z_get hC (fun w h => uT _ w (uL11 w h)) (oX_11 (show kX 0 = 11 by decide)) 0 (by decide) (uT _ _ u467) rfl rfl dX11_averageMelt_19 ?_
    obtain ⟨g3, hf⟩ := hf
    refine z_get hC (fun w h => uT _ w (uL8 w h)) (oX_8 g3) 3 (by decide) (uT _ _ u225) rfl rfl dX11_averageMelt_22 ?_
    obtain ⟨g4, hf⟩ := hf
    obtain ⟨g5, hf⟩ := hf
    refine z_icmp_ge (tgt := 64) hC dX11_averageMelt_25 (by decide) g4 g5 (fun hc => ?_) (fun hc => ?_)
    · replace hf := hf.1 hc
      refine z_iload hC dX11_averageMelt_64 4 rfl ?_
      obtain ⟨g6, hf⟩ := hf
      refine z_if_ne (tgt := 73) hC dX11_averageMelt_66 (by decide) g6 (fun hc => ?_) (fun hc => ?_)
      · replace hf := hf.2 hc
        refine z_iload_n hC dX11_averageMelt_73 3 rfl rfl ?_
        refine z_iload hC dX11_averageMelt_74 4 rfl ?_
        refine z_callSi hC hE [vI x3, vI x4] (fun sz2 => mX11_quotient l hinj sz2 hf) (va_cwS 2 hC.1.2.2.2.2 (uS (uT _) u1021 u932 u105 u933) rfl rfl rfl (by decide +kernel) ⟨Nat.le_of_ble_eq_true rfl, Nat.le_of_ble_eq_true rfl⟩) rfl rfl (Nat.le_of_ble_eq_true rfl) ⟨Nat.le_of_ble_eq_true rfl, Nat.le_of_ble_eq_true rfl⟩ dX11_averageMelt_76 (fun r7 σ7 hf => ?_)
        exact z_iret hC hr rfl dX11_averageMelt_79 hf
      · replace hf := hf.1 hc
        refine z_iconst hC dX11_averageMelt_69 ?_
        refine z_goto (tgt := 79) hC dX11_averageMelt_70 (by decide) ?_
        exact z_iret hC hr rfl dX11_averageMelt_79 hf
    · replace hf := hf.2 hc
      refine z_aload_n hC dX11_averageMelt_28 0 rfl rfl ?_
      refine z_get hC (fun w h => uT _ w (uL11 w h)) (oX_11 (show kX 0 = 11 by decide)) 0 (by decide) (uT _ _ u467) rfl rfl dX11_averageMelt_29 ?_
      refine z_get hC (fun w h => uT _ w (uL8 w h)) (oX_8 g3) 6 (by decide) (uT _ _ u236) rfl rfl dX11_averageMelt_32 ?_
      refine z_iload hC dX11_averageMelt_35 5 rfl ?_
      obtain ⟨g8, hf⟩ := hf
      refine z_aaload hC (aX_22 (kf_8_6 g3)) g8 dX11_averageMelt_37 ?_
      refine z_iload_n hC dX11_averageMelt_38 1 rfl rfl ?_
      refine z_iload_n hC dX11_averageMelt_39 2 rfl rfl ?_
      refine z_callVi hC hE (oX_9 (ke_22 (kf_8_6 g3) g8)) [vI x1, vI x2] (fun sz2 => mX9_meltBetween l hinj sz2 hf) (cwV 2 hC.1.2.2.2.2 (uV (uT _) u999 u1000 u1001 u110 u1002) rfl rfl rfl (by decide +kernel) ⟨Nat.le_of_ble_eq_true rfl, Nat.le_of_ble_eq_true rfl⟩) rfl rfl (Nat.le_of_ble_eq_true rfl) ⟨Nat.le_of_ble_eq_true rfl, Nat.le_of_ble_eq_true rfl⟩ dX11_averageMelt_40 (fun r9 σ9 hf => ?_)
      refine z_istore hC ([(6, vI r9), (0, vR ad 0), (1, vI x1), (2, vI x2), (3, vI x3), (4, vI x4), (5, vI x5)]) dX11_averageMelt_43 (by decide) rfl ?_
      refine z_iload hC dX11_averageMelt_45 0 rfl ?_
      obtain ⟨g10, hf⟩ := hf
      refine z_if_lt (tgt := 58) hC dX11_averageMelt_47 (by decide) g10 (fun hc => ?_) (fun hc => ?_)
      · replace hf := hf.1 hc
        refine z_iinc hC ([(5, vI (x5 + 1)), (6, vI r9), (0, vR ad 0), (1, vI x1), (2, vI x2), (3, vI x3), (4, vI x4)]) dX11_averageMelt_58 6 rfl (by decide) rfl ?_
        refine z_goto (tgt := 16) hC dX11_averageMelt_61 (by decide) ?_
        refine z_sub (lv' := [(0, vR ad 0), (1, vI x1), (2, vI x2), (3, vI x3), (4, vI x4), (5, vI (x5 + 1))]) [2, 3, 4, 5, 6, 0] rfl ?_
        exact ih _ _ _ _ _ _ hf
      · replace hf := hf.2 hc
        refine z_iload_n hC dX11_averageMelt_50 4 rfl rfl ?_
        refine z_iload hC dX11_averageMelt_51 0 rfl ?_
        refine z_iadd hC dX11_averageMelt_53 ?_
        refine z_istore_n hC ([(3, vI (x3 + r9)), (6, vI r9), (0, vR ad 0), (1, vI x1), (2, vI x2), (4, vI x4), (5, vI x5)]) dX11_averageMelt_54 rfl (by decide) rfl ?_
        refine z_iinc hC ([(4, vI (x4 + 1)), (3, vI (x3 + r9)), (6, vI r9), (0, vR ad 0), (1, vI x1), (2, vI x2), (5, vI x5)]) dX11_averageMelt_55 5 rfl (by decide) rfl ?_
        refine z_iinc hC ([(5, vI (x5 + 1)), (4, vI (x4 + 1)), (3, vI (x3 + r9)), (6, vI r9), (0, vR ad 0), (1, vI x1), (2, vI x2)]) dX11_averageMelt_58 6 rfl (by decide) rfl ?_
        refine z_goto (tgt := 16) hC dX11_averageMelt_61 (by decide) ?_
        refine z_sub (lv' := [(0, vR ad 0), (1, vI x1), (2, vI x2), (3, vI (x3 + r9)), (4, vI (x4 + 1)), (5, vI (x5 + 1))]) [4, 5, 6, 2, 1, 0] rfl ?_
        exact ih _ _ _ _ _ _ hf
set_option maxHeartbeats 4000000 in
set_option maxRecDepth 100000 in
theorem mX11_averageMelt {D : va_G} {dA : Nat → ClassId} {ad : Nat → Nat} {aL aG aI : Nat} {aK aV : Nat → Nat} (l : Launch) (hinj : ∀ i j, i < NX → j < NX → ad i = ad j → i = j) (sz : Nat) {K : Int → zSt → Prop} {σ : zSt} {x1 : Int} {x2 : Int} (hf : fX11_averageMelt K σ x1 x2) : Met l yX11_averageMelt (Cond.code yX11_averageMelt cX11_averageMelt 7 (some .int) :: UW) ({ frames := 4, cells := 0, slots := 0, locals := 93 } : Room) (va_Pc [vR ad 0, vI x1, vI x2] (zPre D vwCl (tyA dA) (zXX aL aG aI aK aV) NX ad (celX ad dA) sz σ)) (va_Qi (zPi K) (zB D vwCl (tyA dA) NX ad (celX ad dA)) (zA ad NX sz)) 0 0 (zA ad NX sz) := by
  refine z_enter (cc := cX11_averageMelt) (maxL := 7) (ret := (some .int)) (vs := [vR ad 0, vI x1, vI x2]) (plainFor_of_name (by decide)) rfl hinj (Nat.le_of_ble_eq_true rfl) ?_
  intro p e s m args below meth c hC hE hsz hr hnm
  show zAt p l e ({ frames := 4, cells := 0, slots := 0, locals := 93 } : Room) s m args below meth c 0 0 (MQ below (va_Qi (zPi K) (zB D vwCl (tyA dA) NX ad (celX ad dA)) (zA ad NX sz)) args s 0 0 (zA ad NX sz)) 7 D vwCl (zA ad NX sz) NX ad (celX ad dA) 0 [(0, vR ad 0), (1, vI x1), (2, vI x2)] [] σ
  refine z_iload_n hC dX11_averageMelt_0 1 rfl rfl ?_
  refine z_iload_n hC dX11_averageMelt_1 2 rfl rfl ?_
  obtain ⟨g1, hf⟩ := hf
  obtain ⟨g2, hf⟩ := hf
  refine z_icmp_le (tgt := 8) hC dX11_averageMelt_2 (by decide) g1 g2 (fun hc => ?_) (fun hc => ?_)
  · replace hf := hf.1 hc
    refine z_iconst hC dX11_averageMelt_8 ?_
    refine z_istore_n hC ([(3, vI 0), (0, vR ad 0), (1, vI x1), (2, vI x2)]) dX11_averageMelt_9 rfl (by decide) rfl ?_
    refine z_iconst hC dX11_averageMelt_10 ?_
    refine z_istore hC ([(4, vI 0), (3, vI 0), (0, vR ad 0), (1, vI x1), (2, vI x2)]) dX11_averageMelt_11 (by decide) rfl ?_
    refine z_iconst hC dX11_averageMelt_13 ?_
    refine z_istore hC ([(5, vI 0), (4, vI 0), (3, vI 0), (0, vR ad 0), (1, vI x1), (2, vI x2)]) dX11_averageMelt_14 (by decide) rfl ?_
    refine z_sub (lv' := [(0, vR ad 0), (1, vI x1), (2, vI x2), (3, vI 0), (4, vI 0), (5, vI 0)]) [3, 4, 5, 2, 1, 0] rfl ?_
    obtain ⟨n, hf⟩ := hf
    exact wX11_averageMelt_B16 hC hE hr hinj n _ _ _ _ _ _ hf
  · replace hf := hf.2 hc
    refine z_bipush hC dX11_averageMelt_5 (by decide) ?_
    exact z_iret hC hr rfl dX11_averageMelt_7 hf

-- ===== X11_meanMelt
def fX11_meanMelt (K : Int → zSt → Prop) (σ : zSt) (x1 : Int) (x2 : Int) : Prop :=
  fX11_averageMelt (fun r1 σ1 => K r1 σ1) σ x1 x2
set_option maxHeartbeats 4000000 in
set_option maxRecDepth 100000 in
theorem mX11_meanMelt {D : va_G} {dA : Nat → ClassId} {ad : Nat → Nat} {aL aG aI : Nat} {aK aV : Nat → Nat} (l : Launch) (hinj : ∀ i j, i < NX → j < NX → ad i = ad j → i = j) (sz : Nat) {K : Int → zSt → Prop} {σ : zSt} {x1 : Int} {x2 : Int} (hf : fX11_meanMelt K σ x1 x2) : Met l yX11_meanMelt (Cond.code yX11_meanMelt cX11_meanMelt 3 (some .int) :: UW) ({ frames := 5, cells := 0, slots := 0, locals := 119 } : Room) (va_Pc [vR ad 0, vI x1, vI x2] (zPre D vwCl (tyA dA) (zXX aL aG aI aK aV) NX ad (celX ad dA) sz σ)) (va_Qi (zPi K) (zB D vwCl (tyA dA) NX ad (celX ad dA)) (zA ad NX sz)) 0 0 (zA ad NX sz) := by
  refine z_enter (cc := cX11_meanMelt) (maxL := 3) (ret := (some .int)) (vs := [vR ad 0, vI x1, vI x2]) (plainFor_of_name (by decide)) rfl hinj (Nat.le_of_ble_eq_true rfl) ?_
  intro p e s m args below meth c hC hE hsz hr hnm
  show zAt p l e ({ frames := 5, cells := 0, slots := 0, locals := 119 } : Room) s m args below meth c 0 0 (MQ below (va_Qi (zPi K) (zB D vwCl (tyA dA) NX ad (celX ad dA)) (zA ad NX sz)) args s 0 0 (zA ad NX sz)) 3 D vwCl (zA ad NX sz) NX ad (celX ad dA) 0 [(0, vR ad 0), (1, vI x1), (2, vI x2)] [] σ
  refine z_aload_n hC dX11_meanMelt_0 0 rfl rfl ?_
  refine z_iload_n hC dX11_meanMelt_1 1 rfl rfl ?_
  refine z_iload_n hC dX11_meanMelt_2 2 rfl rfl ?_
  refine z_callVi hC hE (oX_11 (show kX 0 = 11 by decide)) [vI x1, vI x2] (fun sz2 => mX11_averageMelt l hinj sz2 hf) (cwV 2 hC.1.2.2.2.2 (uV (uT _) u995 u997 u24 u105 u998) rfl rfl rfl (by decide +kernel) ⟨Nat.le_of_ble_eq_true rfl, Nat.le_of_ble_eq_true rfl⟩) rfl rfl (Nat.le_of_ble_eq_true rfl) ⟨Nat.le_of_ble_eq_true rfl, Nat.le_of_ble_eq_true rfl⟩ dX11_meanMelt_3 (fun r1 σ1 hf => ?_)
  exact z_iret hC hr rfl dX11_meanMelt_6 hf

-- ===== X11_warmestInterval
noncomputable def fX11_warmestInterval_B20 (K : Int → zSt → Prop) (KX : String → zSt → Prop) (n : Nat) : zSt → Int → Int → Int → Prop :=
  Nat.rec (motive := fun _ => zSt → Int → Int → Int → Prop) (fun _ _ _ _ => False) (fun _ ih σ x2 x3 x4 => zrg x4 ∧ zrg ((σ x2 0) - 1) ∧ (((σ x2 0) - 1 ≤ x4 → K x3 σ) ∧ (¬ (σ x2 0) - 1 ≤ x4 → zrg x3 ∧ ((x3 = (-1) → ih σ x2 x4 (x4 + 1)) ∧ (¬ x3 = (-1) → fX9_meltsFaster (fun r7 σ7 => zrg r7 ∧ ((r7 = 0 → ih σ7 x2 x3 (x4 + 1)) ∧ (¬ r7 = 0 → ih σ7 x2 x4 (x4 + 1)))) σ x2 x4 x3))))) n
theorem uX11_warmestInterval_B20 (K : Int → zSt → Prop) (KX : String → zSt → Prop) (n0 : Nat) (σ : zSt) (x2 : Int) (x3 : Int) (x4 : Int) : fX11_warmestInterval_B20 K KX (n0 + 1) σ x2 x3 x4 = (zrg x4 ∧ zrg ((σ x2 0) - 1) ∧ (((σ x2 0) - 1 ≤ x4 → K x3 σ) ∧ (¬ (σ x2 0) - 1 ≤ x4 → zrg x3 ∧ ((x3 = (-1) → (fX11_warmestInterval_B20 K KX n0) σ x2 x4 (x4 + 1)) ∧ (¬ x3 = (-1) → fX9_meltsFaster (fun r7 σ7 => zrg r7 ∧ ((r7 = 0 → (fX11_warmestInterval_B20 K KX n0) σ7 x2 x3 (x4 + 1)) ∧ (¬ r7 = 0 → (fX11_warmestInterval_B20 K KX n0) σ7 x2 x4 (x4 + 1)))) σ x2 x4 x3))))) := rfl
def fX11_warmestInterval (K : Int → zSt → Prop) (KX : String → zSt → Prop) (σ : zSt) (x1 : Int) : Prop :=
  fX11_requireStake (fun σ1 => kX (σ1 0 0) = 8 ∧ (0 ≤ x1 ∧ x1 < 3) ∧ (∃ n, fX11_warmestInterval_B20 K KX n σ1 (((σ1 0 0) + 3) + 19 + x1) (-1) 0)) KX σ x1
set_option maxHeartbeats 4000000 in
set_option maxRecDepth 100000 in
theorem wX11_warmestInterval_B20 {p : Program} {l : Launch} {e : Env} {s : State} {m : MethodId} {args : Array Value} {below : List Frame} {meth : Method} {c : Code} {D : va_G} {dA : Nat → ClassId} {ad : Nat → Nat} {sz : Nat} {aL aG aI : Nat} {aK aV : Nat → Nat} {K : Int → zSt → Prop} {KX : String → zSt → Prop} (hC : zC p m c cX11_warmestInterval 5 s args (Cond.code yX11_warmestInterval cX11_warmestInterval 5 (some .int) :: UW) RX11 meth D vwCl (tyA dA) (zA ad NX sz) NX ad (celX ad dA)) (hE : zE (zXX aL aG aI aK aV) (zA ad NX sz) s s.heap) (hr : meth.sig.returnType = (some .int)) (hinj : ∀ i j, i < NX → j < NX → ad i = ad j → i = j) (hst : l.stackTraces = false) (hno : ∀ z ∈ c.exceptionTable.toList, False) : ∀ (n : Nat) (σ : zSt) (x2 : Int) (x3 : Int) (x4 : Int) (qx2 : kX x2 = 9), fX11_warmestInterval_B20 K KX n σ x2 x3 x4 → zAt p l e ({ frames := 7, cells := 1, slots := 6, locals := 103 } : Room) s m args below meth c 1 6 (vx_MQ below (va_Qi (zPi K) (zB D vwCl (tyA dA) NX ad (celX ad dA)) (zA ad NX sz)) (zXC D vwCl (tyA dA) NX ad (celX ad dA) KX (zA ad NX sz)) args s 1 6 (zA ad NX sz)) 5 D vwCl (zA ad NX sz) NX ad (celX ad dA) 20 [(2, vR ad x2), (3, vI x3), (4, vI x4)] [] σ := by
  intro n
  induction n with
  | zero => intro σ x2 x3 x4 qx2 hf; exact False.elim hf
  | succ n ih =>
    intro σ x2 x3 x4 qx2 hf
    rw [uX11_warmestInterval_B20] at hf
    refine z_iload hC dX11_warmestInterval_20 2 rfl ?_
    refine z_aload_n hC dX11_warmestInterval_22 0 rfl rfl ?_
    refine z_get hC (fun w h => uT _ w (uL9 w h)) (oX_9 qx2) 0 (by decide) (uT _ _ u198) rfl rfl dX11_warmestInterval_23 ?_
    refine z_iconst hC dX11_warmestInterval_26 ?_
    refine z_isub hC dX11_warmestInterval_27 ?_
    obtain ⟨g4, hf⟩ := hf
    obtain ⟨g5, hf⟩ := hf
    refine z_icmp_ge (tgt := 55) hC dX11_warmestInterval_28 (by decide) g4 g5 (fun hc => ?_) (fun hc => ?_)
    · replace hf := hf.1 hc
      refine z_iload_n hC dX11_warmestInterval_55 1 rfl rfl ?_
      exact zx_iret hC hr rfl ⟨Nat.le_of_ble_eq_true rfl, Nat.le_of_ble_eq_true rfl⟩ dX11_warmestInterval_56 hf
    · replace hf := hf.2 hc
      refine z_iload_n hC dX11_warmestInterval_31 1 rfl rfl ?_
      refine z_iconst hC dX11_warmestInterval_32 ?_
      obtain ⟨g6, hf⟩ := hf
      refine z_icmp_eq (tgt := 46) hC dX11_warmestInterval_33 (by decide) g6 (zlit rfl rfl) (fun hc => ?_) (fun hc => ?_)
      · replace hf := hf.1 hc
        refine z_iload hC dX11_warmestInterval_46 2 rfl ?_
        refine z_istore_n hC ([(3, vI x4), (2, vR ad x2), (4, vI x4)]) dX11_warmestInterval_48 rfl (by decide) rfl ?_
        refine z_iinc hC ([(4, vI (x4 + 1)), (3, vI x4), (2, vR ad x2)]) dX11_warmestInterval_49 2 rfl (by decide) rfl ?_
        refine z_goto (tgt := 20) hC dX11_warmestInterval_52 (by decide) ?_
        refine z_sub (lv' := [(2, vR ad x2), (3, vI x4), (4, vI (x4 + 1))]) [2, 1, 0] rfl ?_
        exact ih _ _ _ _ qx2 hf
      · replace hf := hf.2 hc
        refine z_aload_n hC dX11_warmestInterval_36 0 rfl rfl ?_
        refine z_iload hC dX11_warmestInterval_37 2 rfl ?_
        refine z_iload_n hC dX11_warmestInterval_39 1 rfl rfl ?_
        refine z_callVi hC hE (oX_9 qx2) [vI x4, vI x3] (fun sz2 => mX9_meltsFaster l hinj sz2 hf) (cwV 2 hC.1.2.2.2.2 (uV (uT _) u1472 u1473 u1474 u110 u1475) rfl rfl rfl (by decide +kernel) ⟨Nat.le_of_ble_eq_true rfl, Nat.le_of_ble_eq_true rfl⟩) rfl rfl (Nat.le_of_ble_eq_true rfl) ⟨Nat.le_of_ble_eq_true rfl, Nat.le_of_ble_eq_true rfl⟩ dX11_warmestInterval_40 (fun r7 σ7 hf => ?_)
        obtain ⟨g8, hf⟩ := hf
        refine z_if_eq (tgt := 49) hC dX11_warmestInterval_43 (by decide) g8 (fun hc => ?_) (fun hc => ?_)
        · replace hf := hf.1 hc
          refine z_iinc hC ([(4, vI (x4 + 1)), (2, vR ad x2), (3, vI x3)]) dX11_warmestInterval_49 2 rfl (by decide) rfl ?_
          refine z_goto (tgt := 20) hC dX11_warmestInterval_52 (by decide) ?_
          refine z_sub (lv' := [(2, vR ad x2), (3, vI x3), (4, vI (x4 + 1))]) [1, 2, 0] rfl ?_
          exact ih _ _ _ _ qx2 hf
        · replace hf := hf.2 hc
          refine z_iload hC dX11_warmestInterval_46 2 rfl ?_
          refine z_istore_n hC ([(3, vI x4), (2, vR ad x2), (4, vI x4)]) dX11_warmestInterval_48 rfl (by decide) rfl ?_
          refine z_iinc hC ([(4, vI (x4 + 1)), (3, vI x4), (2, vR ad x2)]) dX11_warmestInterval_49 2 rfl (by decide) rfl ?_
          refine z_goto (tgt := 20) hC dX11_warmestInterval_52 (by decide) ?_
          refine z_sub (lv' := [(2, vR ad x2), (3, vI x4), (4, vI (x4 + 1))]) [2, 1, 0] rfl ?_
          exact ih _ _ _ _ qx2 hf
set_option maxHeartbeats 4000000 in
set_option maxRecDepth 100000 in
theorem mX11_warmestInterval {D : va_G} {dA : Nat → ClassId} {ad : Nat → Nat} {aL aG aI : Nat} {aK aV : Nat → Nat} (l : Launch) (hinj : ∀ i j, i < NX → j < NX → ad i = ad j → i = j) (hst : l.stackTraces = false) (sz : Nat) {K : Int → zSt → Prop} {KX : String → zSt → Prop} {σ : zSt} {x1 : Int} (hf : fX11_warmestInterval K KX σ x1) : vx_Met l yX11_warmestInterval (Cond.code yX11_warmestInterval cX11_warmestInterval 5 (some .int) :: UW) ({ frames := 7, cells := 1, slots := 6, locals := 103 } : Room) (va_Pc [vR ad 0, vI x1] (zPre D vwCl (tyA dA) (zXX aL aG aI aK aV) NX ad (celX ad dA) sz σ)) (va_Qi (zPi K) (zB D vwCl (tyA dA) NX ad (celX ad dA)) (zA ad NX sz)) (zXC D vwCl (tyA dA) NX ad (celX ad dA) KX (zA ad NX sz)) 1 6 (zA ad NX sz) := by
  refine zx_enter (cc := cX11_warmestInterval) (maxL := 5) (ret := (some .int)) (vs := [vR ad 0, vI x1]) (by decide) rfl hinj (Nat.le_of_ble_eq_true rfl) ?_
  intro p e s m args below meth c hC hE hsz hr hno
  show zAt p l e ({ frames := 7, cells := 1, slots := 6, locals := 103 } : Room) s m args below meth c 0 0 (vx_MQ below (va_Qi (zPi K) (zB D vwCl (tyA dA) NX ad (celX ad dA)) (zA ad NX sz)) (zXC D vwCl (tyA dA) NX ad (celX ad dA) KX (zA ad NX sz)) args s 1 6 (zA ad NX sz)) 5 D vwCl (zA ad NX sz) NX ad (celX ad dA) 0 [(0, vR ad 0), (1, vI x1)] [] σ
  refine z_aload_n hC dX11_warmestInterval_0 0 rfl rfl ?_
  refine z_iload_n hC dX11_warmestInterval_1 1 rfl rfl ?_
  refine zx_callVv hC hno hE (oX_11 (show kX 0 = 11 by decide)) [vI x1] (fun sz2 => mX11_requireStake l hinj hst sz2 hf) (cwV 1 hC.1.2.2.2.2 (uV (uT _) u1415 u1417 u36 u105 u1418) rfl rfl rfl (by decide +kernel) ⟨Nat.le_of_ble_eq_true rfl, Nat.le_of_ble_eq_true rfl⟩) rfl rfl (Nat.le_of_ble_eq_true rfl) ⟨Nat.le_of_ble_eq_true rfl, Nat.le_of_ble_eq_true rfl⟩ ⟨Nat.le_of_ble_eq_true rfl, Nat.le_of_ble_eq_true rfl⟩ dX11_warmestInterval_2 (fun σ1 hf => ?_)
  refine z_aload_n hC dX11_warmestInterval_5 0 rfl rfl ?_
  refine z_get hC (fun w h => uT _ w (uL11 w h)) (oX_11 (show kX 0 = 11 by decide)) 0 (by decide) (uT _ _ u467) rfl rfl dX11_warmestInterval_6 ?_
  obtain ⟨g2, hf⟩ := hf
  refine z_get hC (fun w h => uT _ w (uL8 w h)) (oX_8 g2) 6 (by decide) (uT _ _ u236) rfl rfl dX11_warmestInterval_9 ?_
  refine z_iload_n hC dX11_warmestInterval_12 1 rfl rfl ?_
  obtain ⟨g3, hf⟩ := hf
  refine z_aaload hC (aX_22 (kf_8_6 g2)) g3 dX11_warmestInterval_13 ?_
  refine z_astore_n hC ([(2, vR ad (((σ1 0 0) + 3) + 19 + x1)), (0, vR ad 0), (1, vI x1)]) dX11_warmestInterval_14 rfl (by decide) rfl ?_
  refine z_iconst hC dX11_warmestInterval_15 ?_
  refine z_istore_n hC ([(3, vI (-1)), (2, vR ad (((σ1 0 0) + 3) + 19 + x1)), (0, vR ad 0), (1, vI x1)]) dX11_warmestInterval_16 rfl (by decide) rfl ?_
  refine z_iconst hC dX11_warmestInterval_17 ?_
  refine z_istore hC ([(4, vI 0), (3, vI (-1)), (2, vR ad (((σ1 0 0) + 3) + 19 + x1)), (0, vR ad 0), (1, vI x1)]) dX11_warmestInterval_18 (by decide) rfl ?_
  refine z_sub (lv' := [(2, vR ad (((σ1 0 0) + 3) + 19 + x1)), (3, vI (-1)), (4, vI 0)]) [2, 1, 0] rfl ?_
  obtain ⟨n, hf⟩ := hf
  exact wX11_warmestInterval_B20 hC hE hr hinj hst hno n _ _ _ _ (ke_22 (kf_8_6 g2) g3) hf

-- ===== X11_undo
def fX11_undo (K : Int → zSt → Prop) (σ : zSt) : Prop :=
  zrg (σ 5 0) ∧ ((σ 5 0 = 0 → K (-1) σ) ∧ (¬ σ 5 0 = 0 → fX3_takeLatest (fun r2 σ2 => kX r2 = 0 ∧ kX (σ2 0 0) = 8 ∧ fX0_revert (fun σ5 => ∀ σ6, σ6 = zu σ5 0 8 ((σ5 0 8) + 1) → K (σ6 5 0) σ6) σ2 r2 (σ2 0 0)) σ ))
set_option maxHeartbeats 4000000 in
set_option maxRecDepth 100000 in
theorem mX11_undo {D : va_G} {dA : Nat → ClassId} {ad : Nat → Nat} {aL aG aI : Nat} {aK aV : Nat → Nat} (l : Launch) (hinj : ∀ i j, i < NX → j < NX → ad i = ad j → i = j) (sz : Nat) {K : Int → zSt → Prop} {σ : zSt} (hf : fX11_undo K σ ) : Met l yX11_undo (Cond.code yX11_undo cX11_undo 1 (some .int) :: UW) ({ frames := 4, cells := 0, slots := 0, locals := 87 } : Room) (va_Pc [vR ad 0] (zPre D vwCl (tyA dA) (zXX aL aG aI aK aV) NX ad (celX ad dA) sz σ)) (va_Qi (zPi K) (zB D vwCl (tyA dA) NX ad (celX ad dA)) (zA ad NX sz)) 0 0 (zA ad NX sz) := by
  refine z_enter (cc := cX11_undo) (maxL := 1) (ret := (some .int)) (vs := [vR ad 0]) (plainFor_of_name (by decide)) rfl hinj (Nat.le_of_ble_eq_true rfl) ?_
  intro p e s m args below meth c hC hE hsz hr hnm
  show zAt p l e ({ frames := 4, cells := 0, slots := 0, locals := 87 } : Room) s m args below meth c 0 0 (MQ below (va_Qi (zPi K) (zB D vwCl (tyA dA) NX ad (celX ad dA)) (zA ad NX sz)) args s 0 0 (zA ad NX sz)) 1 D vwCl (zA ad NX sz) NX ad (celX ad dA) 0 [(0, vR ad 0)] [] σ
  refine z_aload_n hC dX11_undo_0 0 rfl rfl ?_
  refine z_get hC (fun w h => uT _ w (uL11 w h)) (oX_11 (show kX 0 = 11 by decide)) 2 (by decide) (uT _ _ u469) rfl rfl dX11_undo_1 ?_
  refine z_get hC (fun w h => uT _ w (uL3 w h)) (oX_3 (show kX 5 = 3 by decide)) 0 (by decide) (uT _ _ u352) rfl rfl dX11_undo_4 ?_
  obtain ⟨g1, hf⟩ := hf
  refine z_if_ne (tgt := 12) hC dX11_undo_7 (by decide) g1 (fun hc => ?_) (fun hc => ?_)
  · replace hf := hf.2 hc
    refine z_aload_n hC dX11_undo_12 0 rfl rfl ?_
    refine z_get hC (fun w h => uT _ w (uL11 w h)) (oX_11 (show kX 0 = 11 by decide)) 2 (by decide) (uT _ _ u469) rfl rfl dX11_undo_13 ?_
    refine z_callVr hC hE (oX_3 (show kX 5 = 3 by decide)) [] (fun sz2 => mX3_takeLatest l hinj sz2 hf) (cwV 0 hC.1.2.2.2.2 (uV (uT _) u1026 u1027 u1028 u113 u1029) rfl rfl rfl (by decide +kernel) ⟨Nat.le_of_ble_eq_true rfl, Nat.le_of_ble_eq_true rfl⟩) rfl rfl (Nat.le_of_ble_eq_true rfl) ⟨Nat.le_of_ble_eq_true rfl, Nat.le_of_ble_eq_true rfl⟩ dX11_undo_16 (fun r2 σ2 hf => ?_)
    obtain ⟨g3, hf⟩ := hf
    refine z_aload_n hC dX11_undo_19 0 rfl rfl ?_
    refine z_get hC (fun w h => uT _ w (uL11 w h)) (oX_11 (show kX 0 = 11 by decide)) 0 (by decide) (uT _ _ u467) rfl rfl dX11_undo_20 ?_
    obtain ⟨g4, hf⟩ := hf
    refine z_callVv hC hE (oX_0 g3) [vR ad (σ2 0 0)] (fun sz2 => mX0_revert l hinj sz2 hf) (cwV 1 hC.1.2.2.2.2 (uV (uT _) u1031 u1032 u1033 u114 u1034) rfl rfl rfl (by decide +kernel) ⟨Nat.le_of_ble_eq_true rfl, Nat.le_of_ble_eq_true rfl⟩) rfl rfl (Nat.le_of_ble_eq_true rfl) ⟨Nat.le_of_ble_eq_true rfl, Nat.le_of_ble_eq_true rfl⟩ dX11_undo_23 (fun σ5 hf => ?_)
    refine z_aload_n hC dX11_undo_26 0 rfl rfl ?_
    refine z_dup hC dX11_undo_27 rfl ?_
    refine z_get hC (fun w h => uT _ w (uL11 w h)) (oX_11 (show kX 0 = 11 by decide)) 8 (by decide) (uT _ _ u475) rfl rfl dX11_undo_28 ?_
    refine z_iconst hC dX11_undo_31 ?_
    refine z_iadd hC dX11_undo_32 ?_
    refine z_put hC (ty := .int) tyX11 tyX11_ok nmX11 (fun w h => uT _ w (uL11 w h)) (oX_11 (show kX 0 = 11 by decide)) (loX' (show kX 0 = 11 by decide) (by decide)) 8 (by decide) (uT _ _ u475) rfl rfl (8) ((σ5 0 8) + 1) (by simp [zu]) (by decide +kernel) rfl rfl (Nat.le_of_ble_eq_true rfl) dX11_undo_33 ?_
    obtain ⟨σ6, eσ6⟩ : ∃ z : zSt, z = zu σ5 0 8 ((σ5 0 8) + 1) := ⟨_, rfl⟩
    rw [← eσ6]
    replace hf := hf σ6 eσ6
    refine z_aload_n hC dX11_undo_36 0 rfl rfl ?_
    refine z_get hC (fun w h => uT _ w (uL11 w h)) (oX_11 (show kX 0 = 11 by decide)) 2 (by decide) (uT _ _ u469) rfl rfl dX11_undo_37 ?_
    refine z_get hC (fun w h => uT _ w (uL3 w h)) (oX_3 (show kX 5 = 3 by decide)) 0 (by decide) (uT _ _ u352) rfl rfl dX11_undo_40 ?_
    exact z_iret hC hr rfl dX11_undo_43 hf
  · replace hf := hf.1 hc
    refine z_iconst hC dX11_undo_10 ?_
    exact z_iret hC hr rfl dX11_undo_11 hf

-- ===== X11_undoCount
def fX11_undoCount (K : Int → zSt → Prop) (σ : zSt) : Prop :=
  K (σ 5 0) σ
set_option maxHeartbeats 4000000 in
set_option maxRecDepth 100000 in
theorem mX11_undoCount {D : va_G} {dA : Nat → ClassId} {ad : Nat → Nat} {aL aG aI : Nat} {aK aV : Nat → Nat} (l : Launch) (hinj : ∀ i j, i < NX → j < NX → ad i = ad j → i = j) (sz : Nat) {K : Int → zSt → Prop} {σ : zSt} (hf : fX11_undoCount K σ ) : Met l yX11_undoCount (Cond.code yX11_undoCount cX11_undoCount 1 (some .int) :: UW) ({ frames := 0, cells := 0, slots := 0, locals := 0 } : Room) (va_Pc [vR ad 0] (zPre D vwCl (tyA dA) (zXX aL aG aI aK aV) NX ad (celX ad dA) sz σ)) (va_Qi (zPi K) (zB D vwCl (tyA dA) NX ad (celX ad dA)) (zA ad NX sz)) 0 0 (zA ad NX sz) := by
  refine z_enter (cc := cX11_undoCount) (maxL := 1) (ret := (some .int)) (vs := [vR ad 0]) (plainFor_of_name (by decide)) rfl hinj (Nat.le_of_ble_eq_true rfl) ?_
  intro p e s m args below meth c hC hE hsz hr hnm
  show zAt p l e ({ frames := 0, cells := 0, slots := 0, locals := 0 } : Room) s m args below meth c 0 0 (MQ below (va_Qi (zPi K) (zB D vwCl (tyA dA) NX ad (celX ad dA)) (zA ad NX sz)) args s 0 0 (zA ad NX sz)) 1 D vwCl (zA ad NX sz) NX ad (celX ad dA) 0 [(0, vR ad 0)] [] σ
  refine z_aload_n hC dX11_undoCount_0 0 rfl rfl ?_
  refine z_get hC (fun w h => uT _ w (uL11 w h)) (oX_11 (show kX 0 = 11 by decide)) 2 (by decide) (uT _ _ u469) rfl rfl dX11_undoCount_1 ?_
  refine z_get hC (fun w h => uT _ w (uL3 w h)) (oX_3 (show kX 5 = 3 by decide)) 0 (by decide) (uT _ _ u352) rfl rfl dX11_undoCount_4 ?_
  exact z_iret hC hr rfl dX11_undoCount_7 hf

-- ===== X11_registeredAt
def fX11_registeredAt_B46 (K : Int → zSt → Prop) (σ : zSt) (x2 : Int) (x5 : Int) (x6 : Int) (s0 : Int) : Prop :=
  zrg s0 ∧ ((s0 = 0 → K (-1) σ) ∧ (¬ s0 = 0 → kX (σ 0 0) = 8 ∧ fX8_brightnessAt (fun r10 σ10 => K r10 σ10) σ (σ 0 0) x2 x5 x6))
def fX11_registeredAt_B45 (K : Int → zSt → Prop) (σ : zSt) (x2 : Int) (x5 : Int) (x6 : Int) : Prop :=
  fX11_registeredAt_B46 K σ x2 x5 x6 0
def fX11_registeredAt (K : Int → zSt → Prop) (σ : zSt) (x2 : Int) (x3 : Int) (x4 : Int) : Prop :=
  fX6_xShiftOf (fun r1 σ1 => fX6_yShiftOf (fun r2 σ2 => fX6_covers (fun r3 σ3 => zrg r3 ∧ ((r3 = 0 → fX11_registeredAt_B45 K σ3 x2 (x3 + r1) (x4 + r2)) ∧ (¬ r3 = 0 → kX (σ3 0 0) = 8 ∧ fX8_hasPixel (fun r6 σ6 => zrg r6 ∧ ((r6 = 0 → fX11_registeredAt_B45 K σ6 x2 (x3 + r1) (x4 + r2)) ∧ (¬ r6 = 0 → fX11_registeredAt_B46 K σ6 x2 (x3 + r1) (x4 + r2) 1))) σ3 (σ3 0 0) (x3 + r1) (x4 + r2)))) σ2 x2) σ1 x2) σ x2
set_option maxHeartbeats 4000000 in
set_option maxRecDepth 100000 in
theorem wX11_registeredAt_B46 {p : Program} {l : Launch} {e : Env} {s : State} {m : MethodId} {args : Array Value} {below : List Frame} {meth : Method} {c : Code} {D : va_G} {dA : Nat → ClassId} {ad : Nat → Nat} {sz : Nat} {aL aG aI : Nat} {aK aV : Nat → Nat} {K : Int → zSt → Prop} (hC : zC p m c cX11_registeredAt 8 s args (Cond.code yX11_registeredAt cX11_registeredAt 8 (some .int) :: UW) RX11 meth D vwCl (tyA dA) (zA ad NX sz) NX ad (celX ad dA)) (hE : zE (zXX aL aG aI aK aV) (zA ad NX sz) s s.heap) (hr : meth.sig.returnType = (some .int)) (hinj : ∀ i j, i < NX → j < NX → ad i = ad j → i = j) {σ : zSt} {x2 : Int} {x5 : Int} {x6 : Int} {s0 : Int} (hf : fX11_registeredAt_B46 K σ x2 x5 x6 s0) : zAt p l e ({ frames := 2, cells := 0, slots := 0, locals := 45 } : Room) s m args below meth c 0 0 (MQ below (va_Qi (zPi K) (zB D vwCl (tyA dA) NX ad (celX ad dA)) (zA ad NX sz)) args s 0 0 (zA ad NX sz)) 8 D vwCl (zA ad NX sz) NX ad (celX ad dA) 46 [(0, vR ad 0), (2, vI x2), (5, vI x5), (6, vI x6)] [vI s0] σ := by
  refine z_istore hC ([(7, vI s0), (0, vR ad 0), (2, vI x2), (5, vI x5), (6, vI x6)]) dX11_registeredAt_46 (by decide) rfl ?_
  refine z_iload hC dX11_registeredAt_48 0 rfl ?_
  obtain ⟨g8, hf⟩ := hf
  refine z_if_eq (tgt := 68) hC dX11_registeredAt_50 (by decide) g8 (fun hc => ?_) (fun hc => ?_)
  · replace hf := hf.1 hc
    refine z_iconst hC dX11_registeredAt_68 ?_
    exact z_iret hC hr rfl dX11_registeredAt_69 hf
  · replace hf := hf.2 hc
    refine z_aload_n hC dX11_registeredAt_53 1 rfl rfl ?_
    refine z_get hC (fun w h => uT _ w (uL11 w h)) (oX_11 (show kX 0 = 11 by decide)) 0 (by decide) (uT _ _ u467) rfl rfl dX11_registeredAt_54 ?_
    obtain ⟨g9, hf⟩ := hf
    refine z_iload_n hC dX11_registeredAt_57 2 rfl rfl ?_
    refine z_iload hC dX11_registeredAt_58 3 rfl ?_
    refine z_iload hC dX11_registeredAt_60 4 rfl ?_
    refine z_callVi hC hE (oX_8 g9) [vI x2, vI x5, vI x6] (fun sz2 => mX8_brightnessAt l hinj sz2 hf) (cwV 3 hC.1.2.2.2.2 (uV (uT _) u774 u775 u776 u106 u777) rfl rfl rfl (by decide +kernel) ⟨Nat.le_of_ble_eq_true rfl, Nat.le_of_ble_eq_true rfl⟩) rfl rfl (Nat.le_of_ble_eq_true rfl) ⟨Nat.le_of_ble_eq_true rfl, Nat.le_of_ble_eq_true rfl⟩ dX11_registeredAt_62 (fun r10 σ10 hf => ?_)
    refine z_goto (tgt := 69) hC dX11_registeredAt_65 (by decide) ?_
    exact z_iret hC hr rfl dX11_registeredAt_69 hf
set_option maxHeartbeats 4000000 in
set_option maxRecDepth 100000 in
theorem wX11_registeredAt_B45 {p : Program} {l : Launch} {e : Env} {s : State} {m : MethodId} {args : Array Value} {below : List Frame} {meth : Method} {c : Code} {D : va_G} {dA : Nat → ClassId} {ad : Nat → Nat} {sz : Nat} {aL aG aI : Nat} {aK aV : Nat → Nat} {K : Int → zSt → Prop} (hC : zC p m c cX11_registeredAt 8 s args (Cond.code yX11_registeredAt cX11_registeredAt 8 (some .int) :: UW) RX11 meth D vwCl (tyA dA) (zA ad NX sz) NX ad (celX ad dA)) (hE : zE (zXX aL aG aI aK aV) (zA ad NX sz) s s.heap) (hr : meth.sig.returnType = (some .int)) (hinj : ∀ i j, i < NX → j < NX → ad i = ad j → i = j) {σ : zSt} {x2 : Int} {x5 : Int} {x6 : Int} (hf : fX11_registeredAt_B45 K σ x2 x5 x6) : zAt p l e ({ frames := 2, cells := 0, slots := 0, locals := 45 } : Room) s m args below meth c 0 0 (MQ below (va_Qi (zPi K) (zB D vwCl (tyA dA) NX ad (celX ad dA)) (zA ad NX sz)) args s 0 0 (zA ad NX sz)) 8 D vwCl (zA ad NX sz) NX ad (celX ad dA) 45 [(0, vR ad 0), (2, vI x2), (5, vI x5), (6, vI x6)] [] σ := by
  refine z_iconst hC dX11_registeredAt_45 ?_
  exact wX11_registeredAt_B46 hC hE hr hinj  hf
set_option maxHeartbeats 4000000 in
set_option maxRecDepth 100000 in
theorem mX11_registeredAt {D : va_G} {dA : Nat → ClassId} {ad : Nat → Nat} {aL aG aI : Nat} {aK aV : Nat → Nat} (l : Launch) (hinj : ∀ i j, i < NX → j < NX → ad i = ad j → i = j) (sz : Nat) {K : Int → zSt → Prop} {σ : zSt} {x2 : Int} {x3 : Int} {x4 : Int} (hf : fX11_registeredAt K σ x2 x3 x4) : Met l yX11_registeredAt (Cond.code yX11_registeredAt cX11_registeredAt 8 (some .int) :: UW) ({ frames := 2, cells := 0, slots := 0, locals := 45 } : Room) (va_Pc [vR ad 0, vR ad 17, vI x2, vI x3, vI x4] (zPre D vwCl (tyA dA) (zXX aL aG aI aK aV) NX ad (celX ad dA) sz σ)) (va_Qi (zPi K) (zB D vwCl (tyA dA) NX ad (celX ad dA)) (zA ad NX sz)) 0 0 (zA ad NX sz) := by
  refine z_enter (cc := cX11_registeredAt) (maxL := 8) (ret := (some .int)) (vs := [vR ad 0, vR ad 17, vI x2, vI x3, vI x4]) (plainFor_of_name (by decide)) rfl hinj (Nat.le_of_ble_eq_true rfl) ?_
  intro p e s m args below meth c hC hE hsz hr hnm
  show zAt p l e ({ frames := 2, cells := 0, slots := 0, locals := 45 } : Room) s m args below meth c 0 0 (MQ below (va_Qi (zPi K) (zB D vwCl (tyA dA) NX ad (celX ad dA)) (zA ad NX sz)) args s 0 0 (zA ad NX sz)) 8 D vwCl (zA ad NX sz) NX ad (celX ad dA) 0 [(0, vR ad 0), (1, vR ad 17), (2, vI x2), (3, vI x3), (4, vI x4)] [] σ
  refine z_iload_n hC dX11_registeredAt_0 3 rfl rfl ?_
  refine z_aload_n hC dX11_registeredAt_1 1 rfl rfl ?_
  refine z_iload_n hC dX11_registeredAt_2 2 rfl rfl ?_
  refine z_callVi hC hE (oX_6 (show kX 17 = 6 by decide)) [vI x2] (fun sz2 => mX6_xShiftOf l hinj sz2 hf) (cwV 1 hC.1.2.2.2.2 (uV (uT _) u1194 u867 u868 u115 u869) rfl rfl rfl (by decide +kernel) ⟨Nat.le_of_ble_eq_true rfl, Nat.le_of_ble_eq_true rfl⟩) rfl rfl (Nat.le_of_ble_eq_true rfl) ⟨Nat.le_of_ble_eq_true rfl, Nat.le_of_ble_eq_true rfl⟩ dX11_registeredAt_3 (fun r1 σ1 hf => ?_)
  refine z_iadd hC dX11_registeredAt_6 ?_
  refine z_istore hC ([(5, vI (x3 + r1)), (0, vR ad 0), (1, vR ad 17), (2, vI x2), (3, vI x3), (4, vI x4)]) dX11_registeredAt_7 (by decide) rfl ?_
  refine z_iload hC dX11_registeredAt_9 5 rfl ?_
  refine z_aload_n hC dX11_registeredAt_11 2 rfl rfl ?_
  refine z_iload_n hC dX11_registeredAt_12 3 rfl rfl ?_
  refine z_callVi hC hE (oX_6 (show kX 17 = 6 by decide)) [vI x2] (fun sz2 => mX6_yShiftOf l hinj sz2 hf) (cwV 1 hC.1.2.2.2.2 (uV (uT _) u1202 u871 u872 u115 u873) rfl rfl rfl (by decide +kernel) ⟨Nat.le_of_ble_eq_true rfl, Nat.le_of_ble_eq_true rfl⟩) rfl rfl (Nat.le_of_ble_eq_true rfl) ⟨Nat.le_of_ble_eq_true rfl, Nat.le_of_ble_eq_true rfl⟩ dX11_registeredAt_13 (fun r2 σ2 hf => ?_)
  refine z_iadd hC dX11_registeredAt_16 ?_
  refine z_istore hC ([(6, vI (x4 + r2)), (5, vI (x3 + r1)), (0, vR ad 0), (1, vR ad 17), (2, vI x2), (3, vI x3), (4, vI x4)]) dX11_registeredAt_17 (by decide) rfl ?_
  refine z_aload_n hC dX11_registeredAt_19 3 rfl rfl ?_
  refine z_iload_n hC dX11_registeredAt_20 4 rfl rfl ?_
  refine z_callVi hC hE (oX_6 (show kX 17 = 6 by decide)) [vI x2] (fun sz2 => mX6_covers l hinj sz2 hf) (cwV 1 hC.1.2.2.2.2 (uV (uT _) u1165 u852 u853 u115 u854) rfl rfl rfl (by decide +kernel) ⟨Nat.le_of_ble_eq_true rfl, Nat.le_of_ble_eq_true rfl⟩) rfl rfl (Nat.le_of_ble_eq_true rfl) ⟨Nat.le_of_ble_eq_true rfl, Nat.le_of_ble_eq_true rfl⟩ dX11_registeredAt_21 (fun r3 σ3 hf => ?_)
  obtain ⟨g4, hf⟩ := hf
  refine z_if_eq (tgt := 45) hC dX11_registeredAt_24 (by decide) g4 (fun hc => ?_) (fun hc => ?_)
  · replace hf := hf.1 hc
    refine z_sub (lv' := [(0, vR ad 0), (2, vI x2), (5, vI (x3 + r1)), (6, vI (x4 + r2))]) [2, 4, 1, 0] rfl ?_
    exact wX11_registeredAt_B45 hC hE hr hinj  hf
  · replace hf := hf.2 hc
    refine z_aload_n hC dX11_registeredAt_27 2 rfl rfl ?_
    refine z_get hC (fun w h => uT _ w (uL11 w h)) (oX_11 (show kX 0 = 11 by decide)) 0 (by decide) (uT _ _ u467) rfl rfl dX11_registeredAt_28 ?_
    obtain ⟨g5, hf⟩ := hf
    refine z_iload hC dX11_registeredAt_31 1 rfl ?_
    refine z_iload hC dX11_registeredAt_33 0 rfl ?_
    refine z_callVi hC hE (oX_8 g5) [vI (x3 + r1), vI (x4 + r2)] (fun sz2 => mX8_hasPixel l hinj sz2 hf) (cwV 2 hC.1.2.2.2.2 (uV (uT _) u773 u642 u643 u106 u644) rfl rfl rfl (by decide +kernel) ⟨Nat.le_of_ble_eq_true rfl, Nat.le_of_ble_eq_true rfl⟩) rfl rfl (Nat.le_of_ble_eq_true rfl) ⟨Nat.le_of_ble_eq_true rfl, Nat.le_of_ble_eq_true rfl⟩ dX11_registeredAt_35 (fun r6 σ6 hf => ?_)
    obtain ⟨g7, hf⟩ := hf
    refine z_if_eq (tgt := 45) hC dX11_registeredAt_38 (by decide) g7 (fun hc => ?_) (fun hc => ?_)
    · replace hf := hf.1 hc
      refine z_sub (lv' := [(0, vR ad 0), (2, vI x2), (5, vI (x3 + r1)), (6, vI (x4 + r2))]) [2, 4, 1, 0] rfl ?_
      exact wX11_registeredAt_B45 hC hE hr hinj  hf
    · replace hf := hf.2 hc
      refine z_iconst hC dX11_registeredAt_41 ?_
      refine z_goto (tgt := 46) hC dX11_registeredAt_42 (by decide) ?_
      refine z_sub (lv' := [(0, vR ad 0), (2, vI x2), (5, vI (x3 + r1)), (6, vI (x4 + r2))]) [2, 4, 1, 0] rfl ?_
      exact wX11_registeredAt_B46 hC hE hr hinj  hf

-- ===== X11_registered
def fX11_registered (K : Int → zSt → Prop) (KX : String → zSt → Prop) (σ : zSt) (x1 : Int) (x2 : Int) (x3 : Int) : Prop :=
  fX11_requireFrame (fun σ1 => fX11_requirePixel (fun σ2 => fX11_currentOrientation (fun r3 σ3 => r3 = 17 ∧ fX11_registeredAt (fun r5 σ5 => K r5 σ5) σ3 x1 x2 x3) σ2 ) KX σ1 x2 x3) KX σ x1
set_option maxHeartbeats 4000000 in
set_option maxRecDepth 100000 in
theorem mX11_registered {D : va_G} {dA : Nat → ClassId} {ad : Nat → Nat} {aL aG aI : Nat} {aK aV : Nat → Nat} (l : Launch) (hinj : ∀ i j, i < NX → j < NX → ad i = ad j → i = j) (hst : l.stackTraces = false) (sz : Nat) {K : Int → zSt → Prop} {KX : String → zSt → Prop} {σ : zSt} {x1 : Int} {x2 : Int} {x3 : Int} (hf : fX11_registered K KX σ x1 x2 x3) : vx_Met l yX11_registered (Cond.code yX11_registered cX11_registered 4 (some .int) :: UW) ({ frames := 7, cells := 2, slots := 12, locals := 132 } : Room) (va_Pc [vR ad 0, vI x1, vI x2, vI x3] (zPre D vwCl (tyA dA) (zXX aL aG aI aK aV) NX ad (celX ad dA) sz σ)) (va_Qi (zPi K) (zB D vwCl (tyA dA) NX ad (celX ad dA)) (zA ad NX sz)) (zXC D vwCl (tyA dA) NX ad (celX ad dA) KX (zA ad NX sz)) 2 12 (zA ad NX sz) := by
  refine zx_enter (cc := cX11_registered) (maxL := 4) (ret := (some .int)) (vs := [vR ad 0, vI x1, vI x2, vI x3]) (by decide) rfl hinj (Nat.le_of_ble_eq_true rfl) ?_
  intro p e s m args below meth c hC hE hsz hr hno
  show zAt p l e ({ frames := 7, cells := 2, slots := 12, locals := 132 } : Room) s m args below meth c 0 0 (vx_MQ below (va_Qi (zPi K) (zB D vwCl (tyA dA) NX ad (celX ad dA)) (zA ad NX sz)) (zXC D vwCl (tyA dA) NX ad (celX ad dA) KX (zA ad NX sz)) args s 2 12 (zA ad NX sz)) 4 D vwCl (zA ad NX sz) NX ad (celX ad dA) 0 [(0, vR ad 0), (1, vI x1), (2, vI x2), (3, vI x3)] [] σ
  refine z_aload_n hC dX11_registered_0 0 rfl rfl ?_
  refine z_iload_n hC dX11_registered_1 1 rfl rfl ?_
  refine zx_callVv hC hno hE (oX_11 (show kX 0 = 11 by decide)) [vI x1] (fun sz2 => mX11_requireFrame l hinj hst sz2 hf) (cwV 1 hC.1.2.2.2.2 (uV (uT _) u1061 u1063 u26 u105 u1064) rfl rfl rfl (by decide +kernel) ⟨Nat.le_of_ble_eq_true rfl, Nat.le_of_ble_eq_true rfl⟩) rfl rfl (Nat.le_of_ble_eq_true rfl) ⟨Nat.le_of_ble_eq_true rfl, Nat.le_of_ble_eq_true rfl⟩ ⟨Nat.le_of_ble_eq_true rfl, Nat.le_of_ble_eq_true rfl⟩ dX11_registered_2 (fun σ1 hf => ?_)
  refine z_aload_n hC dX11_registered_5 0 rfl rfl ?_
  refine z_iload_n hC dX11_registered_6 2 rfl rfl ?_
  refine z_iload_n hC dX11_registered_7 3 rfl rfl ?_
  refine zx_callVv hC hno hE (oX_11 (show kX 0 = 11 by decide)) [vI x2, vI x3] (fun sz2 => mX11_requirePixel l hinj hst sz2 hf) (cwV 2 hC.1.2.2.2.2 (uV (uT _) u1138 u1140 u28 u105 u1141) rfl rfl rfl (by decide +kernel) ⟨Nat.le_of_ble_eq_true rfl, Nat.le_of_ble_eq_true rfl⟩) rfl rfl (Nat.le_of_ble_eq_true rfl) ⟨Nat.le_of_ble_eq_true rfl, Nat.le_of_ble_eq_true rfl⟩ ⟨Nat.le_of_ble_eq_true rfl, Nat.le_of_ble_eq_true rfl⟩ dX11_registered_8 (fun σ2 hf => ?_)
  refine z_aload_n hC dX11_registered_11 0 rfl rfl ?_
  refine z_aload_n hC dX11_registered_12 0 rfl rfl ?_
  refine z_callVr hC hE (oX_11 (show kX 0 = 11 by decide)) [] (fun sz2 => mX11_currentOrientation l hinj sz2 hf) (cwV 0 hC.1.2.2.2.2 (uV (uT _) u815 u817 u15 u105 u818) rfl rfl rfl (by decide +kernel) ⟨Nat.le_of_ble_eq_true rfl, Nat.le_of_ble_eq_true rfl⟩) rfl rfl (Nat.le_of_ble_eq_true rfl) ⟨Nat.le_of_ble_eq_true rfl, Nat.le_of_ble_eq_true rfl⟩ dX11_registered_13 (fun r3 σ3 hf => ?_)
  obtain ⟨g4, hf⟩ := hf
  subst g4
  refine z_iload_n hC dX11_registered_16 1 rfl rfl ?_
  refine z_iload_n hC dX11_registered_17 2 rfl rfl ?_
  refine z_iload_n hC dX11_registered_18 3 rfl rfl ?_
  refine z_callVi hC hE (oX_11 (show kX 0 = 11 by decide)) [vR ad 17, vI x1, vI x2, vI x3] (fun sz2 => mX11_registeredAt l hinj sz2 hf) (cwV 4 hC.1.2.2.2.2 (uV (uT _) u1483 u1485 u38 u105 u1486) rfl rfl rfl (by decide +kernel) ⟨Nat.le_of_ble_eq_true rfl, Nat.le_of_ble_eq_true rfl⟩) rfl rfl (Nat.le_of_ble_eq_true rfl) ⟨Nat.le_of_ble_eq_true rfl, Nat.le_of_ble_eq_true rfl⟩ dX11_registered_19 (fun r5 σ5 hf => ?_)
  exact zx_iret hC hr rfl ⟨Nat.le_of_ble_eq_true rfl, Nat.le_of_ble_eq_true rfl⟩ dX11_registered_22 hf

-- ===== X11_changedPixels
noncomputable def fX11_changedPixels_B70 (K : Int → zSt → Prop) (KX : String → zSt → Prop) (k55 : zSt → Int → Int → Int → Int → Int → Prop) (n : Nat) : zSt → Int → Int → Int → Int → Int → Int → Prop :=
  Nat.rec (motive := fun _ => zSt → Int → Int → Int → Int → Int → Int → Prop) (fun _ _ _ _ _ _ _ => False) (fun _ ih σ x1 x2 x3 x5 x6 x7 => kX (σ 0 0) = 8 ∧ zrg x7 ∧ zrg (σ (σ 0 0) 0) ∧ ((σ (σ 0 0) 0 ≤ x7 → k55 σ x1 x2 x3 x5 (x6 + 1)) ∧ (¬ σ (σ 0 0) 0 ≤ x7 → fX11_registeredAt (fun r17 σ17 => fX11_registeredAt (fun r18 σ18 => zrg r17 ∧ ((r17 = (-1) → ih σ18 x1 x2 x3 x5 x6 (x7 + 1)) ∧ (¬ r17 = (-1) → zrg r18 ∧ ((r18 = (-1) → ih σ18 x1 x2 x3 x5 x6 (x7 + 1)) ∧ (¬ r18 = (-1) → zrg (r17 - r18) ∧ zrg ((r17 - r18).natAbs : Int) ∧ zrg x3 ∧ ((((r17 - r18).natAbs : Int) < x3 → ih σ18 x1 x2 x3 x5 x6 (x7 + 1)) ∧ (¬ ((r17 - r18).natAbs : Int) < x3 → ih σ18 x1 x2 x3 (x5 + 1) x6 (x7 + 1)))))))) σ17 x2 x7 x6) σ x1 x7 x6))) n
theorem uX11_changedPixels_B70 (K : Int → zSt → Prop) (KX : String → zSt → Prop) (k55 : zSt → Int → Int → Int → Int → Int → Prop) (n0 : Nat) (σ : zSt) (x1 : Int) (x2 : Int) (x3 : Int) (x5 : Int) (x6 : Int) (x7 : Int) : fX11_changedPixels_B70 K KX k55 (n0 + 1) σ x1 x2 x3 x5 x6 x7 = (kX (σ 0 0) = 8 ∧ zrg x7 ∧ zrg (σ (σ 0 0) 0) ∧ ((σ (σ 0 0) 0 ≤ x7 → k55 σ x1 x2 x3 x5 (x6 + 1)) ∧ (¬ σ (σ 0 0) 0 ≤ x7 → fX11_registeredAt (fun r17 σ17 => fX11_registeredAt (fun r18 σ18 => zrg r17 ∧ ((r17 = (-1) → (fX11_changedPixels_B70 K KX k55 n0) σ18 x1 x2 x3 x5 x6 (x7 + 1)) ∧ (¬ r17 = (-1) → zrg r18 ∧ ((r18 = (-1) → (fX11_changedPixels_B70 K KX k55 n0) σ18 x1 x2 x3 x5 x6 (x7 + 1)) ∧ (¬ r18 = (-1) → zrg (r17 - r18) ∧ zrg ((r17 - r18).natAbs : Int) ∧ zrg x3 ∧ ((((r17 - r18).natAbs : Int) < x3 → (fX11_changedPixels_B70 K KX k55 n0) σ18 x1 x2 x3 x5 x6 (x7 + 1)) ∧ (¬ ((r17 - r18).natAbs : Int) < x3 → (fX11_changedPixels_B70 K KX k55 n0) σ18 x1 x2 x3 (x5 + 1) x6 (x7 + 1)))))))) σ17 x2 x7 x6) σ x1 x7 x6))) := rfl
noncomputable def fX11_changedPixels_B55 (K : Int → zSt → Prop) (KX : String → zSt → Prop) (n : Nat) : zSt → Int → Int → Int → Int → Int → Prop :=
  Nat.rec (motive := fun _ => zSt → Int → Int → Int → Int → Int → Prop) (fun _ _ _ _ _ _ => False) (fun _ ih σ x1 x2 x3 x5 x6 => kX (σ 0 0) = 8 ∧ zrg x6 ∧ zrg (σ (σ 0 0) 1) ∧ ((σ (σ 0 0) 1 ≤ x6 → K x5 σ) ∧ (¬ σ (σ 0 0) 1 ≤ x6 → (∃ n, fX11_changedPixels_B70 K KX ih n σ x1 x2 x3 x5 x6 0)))) n
theorem uX11_changedPixels_B55 (K : Int → zSt → Prop) (KX : String → zSt → Prop) (n0 : Nat) (σ : zSt) (x1 : Int) (x2 : Int) (x3 : Int) (x5 : Int) (x6 : Int) : fX11_changedPixels_B55 K KX (n0 + 1) σ x1 x2 x3 x5 x6 = (kX (σ 0 0) = 8 ∧ zrg x6 ∧ zrg (σ (σ 0 0) 1) ∧ ((σ (σ 0 0) 1 ≤ x6 → K x5 σ) ∧ (¬ σ (σ 0 0) 1 ≤ x6 → (∃ n, fX11_changedPixels_B70 K KX (fX11_changedPixels_B55 K KX n0) n σ x1 x2 x3 x5 x6 0)))) := rfl
def fX11_changedPixels (K : Int → zSt → Prop) (KX : String → zSt → Prop) (σ : zSt) (x1 : Int) (x2 : Int) (x3 : Int) : Prop :=
  fX11_requireFrame (fun σ1 => fX11_requireFrame (fun σ2 => fX11_isBetween (fun r3 σ3 => zrg r3 ∧ ((r3 = 0 → K (-2) σ3) ∧ (¬ r3 = 0 → fX11_currentOrientation (fun r5 σ5 => r5 = 17 ∧ fX6_covers (fun r7 σ7 => zrg r7 ∧ ((r7 = 0 → K (-1) σ7) ∧ (¬ r7 = 0 → fX6_covers (fun r9 σ9 => zrg r9 ∧ ((r9 = 0 → K (-1) σ9) ∧ (¬ r9 = 0 → (∃ n, fX11_changedPixels_B55 K KX n σ9 x1 x2 x3 0 0)))) σ7 x2))) σ5 x1) σ3 ))) σ2 x3 1 9) KX σ1 x2) KX σ x1
set_option maxHeartbeats 4000000 in
set_option maxRecDepth 100000 in
theorem wX11_changedPixels_B70 {p : Program} {l : Launch} {e : Env} {s : State} {m : MethodId} {args : Array Value} {below : List Frame} {meth : Method} {c : Code} {D : va_G} {dA : Nat → ClassId} {ad : Nat → Nat} {sz : Nat} {aL aG aI : Nat} {aK aV : Nat → Nat} {K : Int → zSt → Prop} {KX : String → zSt → Prop} {k55 : zSt → Int → Int → Int → Int → Int → Prop} (hC : zC p m c cX11_changedPixels 10 s args (Cond.code yX11_changedPixels cX11_changedPixels 10 (some .int) :: UW) RX11 meth D vwCl (tyA dA) (zA ad NX sz) NX ad (celX ad dA)) (hE : zE (zXX aL aG aI aK aV) (zA ad NX sz) s s.heap) (hr : meth.sig.returnType = (some .int)) (hinj : ∀ i j, i < NX → j < NX → ad i = ad j → i = j) (hst : l.stackTraces = false) (hno : ∀ z ∈ c.exceptionTable.toList, False) (hk55 : ∀ (σ : zSt) (x1 : Int) (x2 : Int) (x3 : Int) (x5 : Int) (x6 : Int), k55 σ x1 x2 x3 x5 x6 → zAt p l e ({ frames := 7, cells := 2, slots := 12, locals := 132 } : Room) s m args below meth c 2 12 (vx_MQ below (va_Qi (zPi K) (zB D vwCl (tyA dA) NX ad (celX ad dA)) (zA ad NX sz)) (zXC D vwCl (tyA dA) NX ad (celX ad dA) KX (zA ad NX sz)) args s 2 12 (zA ad NX sz)) 10 D vwCl (zA ad NX sz) NX ad (celX ad dA) 55 [(0, vR ad 0), (1, vI x1), (2, vI x2), (3, vI x3), (4, vR ad 17), (5, vI x5), (6, vI x6)] [] σ) : ∀ (n : Nat) (σ : zSt) (x1 : Int) (x2 : Int) (x3 : Int) (x5 : Int) (x6 : Int) (x7 : Int), fX11_changedPixels_B70 K KX k55 n σ x1 x2 x3 x5 x6 x7 → zAt p l e ({ frames := 7, cells := 2, slots := 12, locals := 132 } : Room) s m args below meth c 2 12 (vx_MQ below (va_Qi (zPi K) (zB D vwCl (tyA dA) NX ad (celX ad dA)) (zA ad NX sz)) (zXC D vwCl (tyA dA) NX ad (celX ad dA) KX (zA ad NX sz)) args s 2 12 (zA ad NX sz)) 10 D vwCl (zA ad NX sz) NX ad (celX ad dA) 70 [(0, vR ad 0), (1, vI x1), (2, vI x2), (3, vI x3), (4, vR ad 17), (5, vI x5), (6, vI x6), (7, vI x7)] [] σ := by
  intro n
  induction n with
  | zero => intro σ x1 x2 x3 x5 x6 x7  hf; exact False.elim hf
  | succ n ih =>
    intro σ x1 x2 x3 x5 x6 x7  hf
    rw [uX11_changedPixels_B70] at hf
    refine z_iload hC dX11_changedPixels_70 7 rfl ?_
    refine z_aload_n hC dX11_changedPixels_72 0 rfl rfl ?_
    refine z_get hC (fun w h => uT _ w (uL11 w h)) (oX_11 (show kX 0 = 11 by decide)) 0 (by decide) (uT _ _ u467) rfl rfl dX11_changedPixels_73 ?_
    obtain ⟨g14, hf⟩ := hf
    refine z_get hC (fun w h => uT _ w (uL8 w h)) (oX_8 g14) 0 (by decide) (uT _ _ u214) rfl rfl dX11_changedPixels_76 ?_
    obtain ⟨g15, hf⟩ := hf
    obtain ⟨g16, hf⟩ := hf
    refine z_icmp_ge (tgt := 141) hC dX11_changedPixels_79 (by decide) g15 g16 (fun hc => ?_) (fun hc => ?_)
    · replace hf := hf.1 hc
      refine z_iinc hC ([(6, vI (x6 + 1)), (0, vR ad 0), (1, vI x1), (2, vI x2), (3, vI x3), (4, vR ad 17), (5, vI x5), (7, vI x7)]) dX11_changedPixels_141 6 rfl (by decide) rfl ?_
      refine z_goto (tgt := 55) hC dX11_changedPixels_144 (by decide) ?_
      refine z_sub (lv' := [(0, vR ad 0), (1, vI x1), (2, vI x2), (3, vI x3), (4, vR ad 17), (5, vI x5), (6, vI (x6 + 1))]) [1, 2, 3, 4, 5, 6, 0] rfl ?_
      exact hk55 _ _ _ _ _ _ hf
    · replace hf := hf.2 hc
      refine z_aload_n hC dX11_changedPixels_82 0 rfl rfl ?_
      refine z_aload hC dX11_changedPixels_83 4 rfl ?_
      refine z_iload_n hC dX11_changedPixels_85 1 rfl rfl ?_
      refine z_iload hC dX11_changedPixels_86 7 rfl ?_
      refine z_iload hC dX11_changedPixels_88 6 rfl ?_
      refine z_callVi hC hE (oX_11 (show kX 0 = 11 by decide)) [vR ad 17, vI x1, vI x7, vI x6] (fun sz2 => mX11_registeredAt l hinj sz2 hf) (cwV 4 hC.1.2.2.2.2 (uV (uT _) u1483 u1485 u38 u105 u1486) rfl rfl rfl (by decide +kernel) ⟨Nat.le_of_ble_eq_true rfl, Nat.le_of_ble_eq_true rfl⟩) rfl rfl (Nat.le_of_ble_eq_true rfl) ⟨Nat.le_of_ble_eq_true rfl, Nat.le_of_ble_eq_true rfl⟩ dX11_changedPixels_90 (fun r17 σ17 hf => ?_)
      refine z_istore hC ([(8, vI r17), (0, vR ad 0), (1, vI x1), (2, vI x2), (3, vI x3), (4, vR ad 17), (5, vI x5), (6, vI x6), (7, vI x7)]) dX11_changedPixels_93 (by decide) rfl ?_
      refine z_aload_n hC dX11_changedPixels_95 1 rfl rfl ?_
      refine z_aload hC dX11_changedPixels_96 5 rfl ?_
      refine z_iload_n hC dX11_changedPixels_98 3 rfl rfl ?_
      refine z_iload hC dX11_changedPixels_99 8 rfl ?_
      refine z_iload hC dX11_changedPixels_101 7 rfl ?_
      refine z_callVi hC hE (oX_11 (show kX 0 = 11 by decide)) [vR ad 17, vI x2, vI x7, vI x6] (fun sz2 => mX11_registeredAt l hinj sz2 hf) (cwV 4 hC.1.2.2.2.2 (uV (uT _) u1483 u1485 u38 u105 u1486) rfl rfl rfl (by decide +kernel) ⟨Nat.le_of_ble_eq_true rfl, Nat.le_of_ble_eq_true rfl⟩) rfl rfl (Nat.le_of_ble_eq_true rfl) ⟨Nat.le_of_ble_eq_true rfl, Nat.le_of_ble_eq_true rfl⟩ dX11_changedPixels_103 (fun r18 σ18 hf => ?_)
      refine z_istore hC ([(9, vI r18), (8, vI r17), (0, vR ad 0), (1, vI x1), (2, vI x2), (3, vI x3), (4, vR ad 17), (5, vI x5), (6, vI x6), (7, vI x7)]) dX11_changedPixels_106 (by decide) rfl ?_
      refine z_iload hC dX11_changedPixels_108 1 rfl ?_
      refine z_iconst hC dX11_changedPixels_110 ?_
      obtain ⟨g19, hf⟩ := hf
      refine z_icmp_eq (tgt := 135) hC dX11_changedPixels_111 (by decide) g19 (zlit rfl rfl) (fun hc => ?_) (fun hc => ?_)
      · replace hf := hf.1 hc
        refine z_iinc hC ([(7, vI (x7 + 1)), (9, vI r18), (8, vI r17), (0, vR ad 0), (1, vI x1), (2, vI x2), (3, vI x3), (4, vR ad 17), (5, vI x5), (6, vI x6)]) dX11_changedPixels_135 9 rfl (by decide) rfl ?_
        refine z_goto (tgt := 70) hC dX11_changedPixels_138 (by decide) ?_
        refine z_sub (lv' := [(0, vR ad 0), (1, vI x1), (2, vI x2), (3, vI x3), (4, vR ad 17), (5, vI x5), (6, vI x6), (7, vI (x7 + 1))]) [3, 4, 5, 6, 7, 8, 9, 0] rfl ?_
        exact ih _ _ _ _ _ _ _ hf
      · replace hf := hf.2 hc
        refine z_iload hC dX11_changedPixels_114 0 rfl ?_
        refine z_iconst hC dX11_changedPixels_116 ?_
        obtain ⟨g20, hf⟩ := hf
        refine z_icmp_eq (tgt := 135) hC dX11_changedPixels_117 (by decide) g20 (zlit rfl rfl) (fun hc => ?_) (fun hc => ?_)
        · replace hf := hf.1 hc
          refine z_iinc hC ([(7, vI (x7 + 1)), (9, vI r18), (8, vI r17), (0, vR ad 0), (1, vI x1), (2, vI x2), (3, vI x3), (4, vR ad 17), (5, vI x5), (6, vI x6)]) dX11_changedPixels_135 9 rfl (by decide) rfl ?_
          refine z_goto (tgt := 70) hC dX11_changedPixels_138 (by decide) ?_
          refine z_sub (lv' := [(0, vR ad 0), (1, vI x1), (2, vI x2), (3, vI x3), (4, vR ad 17), (5, vI x5), (6, vI x6), (7, vI (x7 + 1))]) [3, 4, 5, 6, 7, 8, 9, 0] rfl ?_
          exact ih _ _ _ _ _ _ _ hf
        · replace hf := hf.2 hc
          refine z_iload hC dX11_changedPixels_120 1 rfl ?_
          refine z_iload hC dX11_changedPixels_122 0 rfl ?_
          refine z_isub hC dX11_changedPixels_124 ?_
          obtain ⟨g21, hf⟩ := hf
          refine z_mabs hC g21 (fun w h => uT _ w (uC u1290 (uC u845 (uC u108 (uC u846 uN))) w h)) (Nat.le_of_ble_eq_true rfl) (Nat.le_of_ble_eq_true rfl) ⟨Nat.le_of_ble_eq_true rfl, Nat.le_of_ble_eq_true rfl⟩ dX11_changedPixels_125 ?_
          refine z_iload_n hC dX11_changedPixels_128 5 rfl rfl ?_
          obtain ⟨g22, hf⟩ := hf
          obtain ⟨g23, hf⟩ := hf
          refine z_icmp_lt (tgt := 135) hC dX11_changedPixels_129 (by decide) g22 g23 (fun hc => ?_) (fun hc => ?_)
          · replace hf := hf.1 hc
            refine z_iinc hC ([(7, vI (x7 + 1)), (9, vI r18), (8, vI r17), (0, vR ad 0), (1, vI x1), (2, vI x2), (3, vI x3), (4, vR ad 17), (5, vI x5), (6, vI x6)]) dX11_changedPixels_135 9 rfl (by decide) rfl ?_
            refine z_goto (tgt := 70) hC dX11_changedPixels_138 (by decide) ?_
            refine z_sub (lv' := [(0, vR ad 0), (1, vI x1), (2, vI x2), (3, vI x3), (4, vR ad 17), (5, vI x5), (6, vI x6), (7, vI (x7 + 1))]) [3, 4, 5, 6, 7, 8, 9, 0] rfl ?_
            exact ih _ _ _ _ _ _ _ hf
          · replace hf := hf.2 hc
            refine z_iinc hC ([(5, vI (x5 + 1)), (9, vI r18), (8, vI r17), (0, vR ad 0), (1, vI x1), (2, vI x2), (3, vI x3), (4, vR ad 17), (6, vI x6), (7, vI x7)]) dX11_changedPixels_132 7 rfl (by decide) rfl ?_
            refine z_iinc hC ([(7, vI (x7 + 1)), (5, vI (x5 + 1)), (9, vI r18), (8, vI r17), (0, vR ad 0), (1, vI x1), (2, vI x2), (3, vI x3), (4, vR ad 17), (6, vI x6)]) dX11_changedPixels_135 9 rfl (by decide) rfl ?_
            refine z_goto (tgt := 70) hC dX11_changedPixels_138 (by decide) ?_
            refine z_sub (lv' := [(0, vR ad 0), (1, vI x1), (2, vI x2), (3, vI x3), (4, vR ad 17), (5, vI (x5 + 1)), (6, vI x6), (7, vI (x7 + 1))]) [4, 5, 6, 7, 8, 1, 9, 0] rfl ?_
            exact ih _ _ _ _ _ _ _ hf
set_option maxHeartbeats 4000000 in
set_option maxRecDepth 100000 in
theorem wX11_changedPixels_B55 {p : Program} {l : Launch} {e : Env} {s : State} {m : MethodId} {args : Array Value} {below : List Frame} {meth : Method} {c : Code} {D : va_G} {dA : Nat → ClassId} {ad : Nat → Nat} {sz : Nat} {aL aG aI : Nat} {aK aV : Nat → Nat} {K : Int → zSt → Prop} {KX : String → zSt → Prop} (hC : zC p m c cX11_changedPixels 10 s args (Cond.code yX11_changedPixels cX11_changedPixels 10 (some .int) :: UW) RX11 meth D vwCl (tyA dA) (zA ad NX sz) NX ad (celX ad dA)) (hE : zE (zXX aL aG aI aK aV) (zA ad NX sz) s s.heap) (hr : meth.sig.returnType = (some .int)) (hinj : ∀ i j, i < NX → j < NX → ad i = ad j → i = j) (hst : l.stackTraces = false) (hno : ∀ z ∈ c.exceptionTable.toList, False) : ∀ (n : Nat) (σ : zSt) (x1 : Int) (x2 : Int) (x3 : Int) (x5 : Int) (x6 : Int), fX11_changedPixels_B55 K KX n σ x1 x2 x3 x5 x6 → zAt p l e ({ frames := 7, cells := 2, slots := 12, locals := 132 } : Room) s m args below meth c 2 12 (vx_MQ below (va_Qi (zPi K) (zB D vwCl (tyA dA) NX ad (celX ad dA)) (zA ad NX sz)) (zXC D vwCl (tyA dA) NX ad (celX ad dA) KX (zA ad NX sz)) args s 2 12 (zA ad NX sz)) 10 D vwCl (zA ad NX sz) NX ad (celX ad dA) 55 [(0, vR ad 0), (1, vI x1), (2, vI x2), (3, vI x3), (4, vR ad 17), (5, vI x5), (6, vI x6)] [] σ := by
  intro n
  induction n with
  | zero => intro σ x1 x2 x3 x5 x6  hf; exact False.elim hf
  | succ n ih =>
    intro σ x1 x2 x3 x5 x6  hf
    rw [uX11_changedPixels_B55] at hf
    refine z_iload hC dX11_changedPixels_55 6 rfl ?_
    refine z_aload_n hC dX11_changedPixels_57 0 rfl rfl ?_
    refine z_get hC (fun w h => uT _ w (uL11 w h)) (oX_11 (show kX 0 = 11 by decide)) 0 (by decide) (uT _ _ u467) rfl rfl dX11_changedPixels_58 ?_
    obtain ⟨g11, hf⟩ := hf
    refine z_get hC (fun w h => uT _ w (uL8 w h)) (oX_8 g11) 1 (by decide) (uT _ _ u218) rfl rfl dX11_changedPixels_61 ?_
    obtain ⟨g12, hf⟩ := hf
    obtain ⟨g13, hf⟩ := hf
    refine z_icmp_ge (tgt := 147) hC dX11_changedPixels_64 (by decide) g12 g13 (fun hc => ?_) (fun hc => ?_)
    · replace hf := hf.1 hc
      refine z_iload hC dX11_changedPixels_147 5 rfl ?_
      exact zx_iret hC hr rfl ⟨Nat.le_of_ble_eq_true rfl, Nat.le_of_ble_eq_true rfl⟩ dX11_changedPixels_149 hf
    · replace hf := hf.2 hc
      refine z_iconst hC dX11_changedPixels_67 ?_
      refine z_istore hC ([(7, vI 0), (0, vR ad 0), (1, vI x1), (2, vI x2), (3, vI x3), (4, vR ad 17), (5, vI x5), (6, vI x6)]) dX11_changedPixels_68 (by decide) rfl ?_
      refine z_sub (lv' := [(0, vR ad 0), (1, vI x1), (2, vI x2), (3, vI x3), (4, vR ad 17), (5, vI x5), (6, vI x6), (7, vI 0)]) [1, 2, 3, 4, 5, 6, 7, 0] rfl ?_
      obtain ⟨n, hf⟩ := hf
      exact wX11_changedPixels_B70 hC hE hr hinj hst hno ih n _ _ _ _ _ _ _ hf
set_option maxHeartbeats 4000000 in
set_option maxRecDepth 100000 in
theorem mX11_changedPixels {D : va_G} {dA : Nat → ClassId} {ad : Nat → Nat} {aL aG aI : Nat} {aK aV : Nat → Nat} (l : Launch) (hinj : ∀ i j, i < NX → j < NX → ad i = ad j → i = j) (hst : l.stackTraces = false) (sz : Nat) {K : Int → zSt → Prop} {KX : String → zSt → Prop} {σ : zSt} {x1 : Int} {x2 : Int} {x3 : Int} (hf : fX11_changedPixels K KX σ x1 x2 x3) : vx_Met l yX11_changedPixels (Cond.code yX11_changedPixels cX11_changedPixels 10 (some .int) :: UW) ({ frames := 7, cells := 2, slots := 12, locals := 132 } : Room) (va_Pc [vR ad 0, vI x1, vI x2, vI x3] (zPre D vwCl (tyA dA) (zXX aL aG aI aK aV) NX ad (celX ad dA) sz σ)) (va_Qi (zPi K) (zB D vwCl (tyA dA) NX ad (celX ad dA)) (zA ad NX sz)) (zXC D vwCl (tyA dA) NX ad (celX ad dA) KX (zA ad NX sz)) 2 12 (zA ad NX sz) := by
  refine zx_enter (cc := cX11_changedPixels) (maxL := 10) (ret := (some .int)) (vs := [vR ad 0, vI x1, vI x2, vI x3]) (by decide) rfl hinj (Nat.le_of_ble_eq_true rfl) ?_
  intro p e s m args below meth c hC hE hsz hr hno
  show zAt p l e ({ frames := 7, cells := 2, slots := 12, locals := 132 } : Room) s m args below meth c 0 0 (vx_MQ below (va_Qi (zPi K) (zB D vwCl (tyA dA) NX ad (celX ad dA)) (zA ad NX sz)) (zXC D vwCl (tyA dA) NX ad (celX ad dA) KX (zA ad NX sz)) args s 2 12 (zA ad NX sz)) 10 D vwCl (zA ad NX sz) NX ad (celX ad dA) 0 [(0, vR ad 0), (1, vI x1), (2, vI x2), (3, vI x3)] [] σ
  refine z_aload_n hC dX11_changedPixels_0 0 rfl rfl ?_
  refine z_iload_n hC dX11_changedPixels_1 1 rfl rfl ?_
  refine zx_callVv hC hno hE (oX_11 (show kX 0 = 11 by decide)) [vI x1] (fun sz2 => mX11_requireFrame l hinj hst sz2 hf) (cwV 1 hC.1.2.2.2.2 (uV (uT _) u1061 u1063 u26 u105 u1064) rfl rfl rfl (by decide +kernel) ⟨Nat.le_of_ble_eq_true rfl, Nat.le_of_ble_eq_true rfl⟩) rfl rfl (Nat.le_of_ble_eq_true rfl) ⟨Nat.le_of_ble_eq_true rfl, Nat.le_of_ble_eq_true rfl⟩ ⟨Nat.le_of_ble_eq_true rfl, Nat.le_of_ble_eq_true rfl⟩ dX11_changedPixels_2 (fun σ1 hf => ?_)
  refine z_aload_n hC dX11_changedPixels_5 0 rfl rfl ?_
  refine z_iload_n hC dX11_changedPixels_6 2 rfl rfl ?_
  refine zx_callVv hC hno hE (oX_11 (show kX 0 = 11 by decide)) [vI x2] (fun sz2 => mX11_requireFrame l hinj hst sz2 hf) (cwV 1 hC.1.2.2.2.2 (uV (uT _) u1061 u1063 u26 u105 u1064) rfl rfl rfl (by decide +kernel) ⟨Nat.le_of_ble_eq_true rfl, Nat.le_of_ble_eq_true rfl⟩) rfl rfl (Nat.le_of_ble_eq_true rfl) ⟨Nat.le_of_ble_eq_true rfl, Nat.le_of_ble_eq_true rfl⟩ ⟨Nat.le_of_ble_eq_true rfl, Nat.le_of_ble_eq_true rfl⟩ dX11_changedPixels_7 (fun σ2 hf => ?_)
  refine z_iload_n hC dX11_changedPixels_10 3 rfl rfl ?_
  refine z_iconst hC dX11_changedPixels_11 ?_
  refine z_bipush hC dX11_changedPixels_12 (by decide) ?_
  refine z_callSi hC hE [vI x3, vI 1, vI 9] (fun sz2 => mX11_isBetween l hinj sz2 hf) (va_cwS 3 hC.1.2.2.2.2 (uS (uT _) u752 u609 u105 u610) rfl rfl rfl (by decide +kernel) ⟨Nat.le_of_ble_eq_true rfl, Nat.le_of_ble_eq_true rfl⟩) rfl rfl (Nat.le_of_ble_eq_true rfl) ⟨Nat.le_of_ble_eq_true rfl, Nat.le_of_ble_eq_true rfl⟩ dX11_changedPixels_14 (fun r3 σ3 hf => ?_)
  obtain ⟨g4, hf⟩ := hf
  refine z_if_ne (tgt := 23) hC dX11_changedPixels_17 (by decide) g4 (fun hc => ?_) (fun hc => ?_)
  · replace hf := hf.2 hc
    refine z_aload_n hC dX11_changedPixels_23 0 rfl rfl ?_
    refine z_callVr hC hE (oX_11 (show kX 0 = 11 by decide)) [] (fun sz2 => mX11_currentOrientation l hinj sz2 hf) (cwV 0 hC.1.2.2.2.2 (uV (uT _) u815 u817 u15 u105 u818) rfl rfl rfl (by decide +kernel) ⟨Nat.le_of_ble_eq_true rfl, Nat.le_of_ble_eq_true rfl⟩) rfl rfl (Nat.le_of_ble_eq_true rfl) ⟨Nat.le_of_ble_eq_true rfl, Nat.le_of_ble_eq_true rfl⟩ dX11_changedPixels_24 (fun r5 σ5 hf => ?_)
    obtain ⟨g6, hf⟩ := hf
    subst g6
    refine z_astore hC ([(4, vR ad 17), (0, vR ad 0), (1, vI x1), (2, vI x2), (3, vI x3)]) dX11_changedPixels_27 (by decide) rfl ?_
    refine z_aload hC dX11_changedPixels_29 0 rfl ?_
    refine z_iload_n hC dX11_changedPixels_31 2 rfl rfl ?_
    refine z_callVi hC hE (oX_6 (show kX 17 = 6 by decide)) [vI x1] (fun sz2 => mX6_covers l hinj sz2 hf) (cwV 1 hC.1.2.2.2.2 (uV (uT _) u1165 u852 u853 u115 u854) rfl rfl rfl (by decide +kernel) ⟨Nat.le_of_ble_eq_true rfl, Nat.le_of_ble_eq_true rfl⟩) rfl rfl (Nat.le_of_ble_eq_true rfl) ⟨Nat.le_of_ble_eq_true rfl, Nat.le_of_ble_eq_true rfl⟩ dX11_changedPixels_32 (fun r7 σ7 hf => ?_)
    obtain ⟨g8, hf⟩ := hf
    refine z_if_eq (tgt := 47) hC dX11_changedPixels_35 (by decide) g8 (fun hc => ?_) (fun hc => ?_)
    · replace hf := hf.1 hc
      refine z_iconst hC dX11_changedPixels_47 ?_
      exact zx_iret hC hr rfl ⟨Nat.le_of_ble_eq_true rfl, Nat.le_of_ble_eq_true rfl⟩ dX11_changedPixels_48 hf
    · replace hf := hf.2 hc
      refine z_aload hC dX11_changedPixels_38 0 rfl ?_
      refine z_iload_n hC dX11_changedPixels_40 3 rfl rfl ?_
      refine z_callVi hC hE (oX_6 (show kX 17 = 6 by decide)) [vI x2] (fun sz2 => mX6_covers l hinj sz2 hf) (cwV 1 hC.1.2.2.2.2 (uV (uT _) u1165 u852 u853 u115 u854) rfl rfl rfl (by decide +kernel) ⟨Nat.le_of_ble_eq_true rfl, Nat.le_of_ble_eq_true rfl⟩) rfl rfl (Nat.le_of_ble_eq_true rfl) ⟨Nat.le_of_ble_eq_true rfl, Nat.le_of_ble_eq_true rfl⟩ dX11_changedPixels_41 (fun r9 σ9 hf => ?_)
      obtain ⟨g10, hf⟩ := hf
      refine z_if_ne (tgt := 49) hC dX11_changedPixels_44 (by decide) g10 (fun hc => ?_) (fun hc => ?_)
      · replace hf := hf.2 hc
        refine z_iconst hC dX11_changedPixels_49 ?_
        refine z_istore hC ([(5, vI 0), (4, vR ad 17), (0, vR ad 0), (1, vI x1), (2, vI x2), (3, vI x3)]) dX11_changedPixels_50 (by decide) rfl ?_
        refine z_iconst hC dX11_changedPixels_52 ?_
        refine z_istore hC ([(6, vI 0), (5, vI 0), (4, vR ad 17), (0, vR ad 0), (1, vI x1), (2, vI x2), (3, vI x3)]) dX11_changedPixels_53 (by decide) rfl ?_
        refine z_sub (lv' := [(0, vR ad 0), (1, vI x1), (2, vI x2), (3, vI x3), (4, vR ad 17), (5, vI 0), (6, vI 0)]) [3, 4, 5, 6, 2, 1, 0] rfl ?_
        obtain ⟨n, hf⟩ := hf
        exact wX11_changedPixels_B55 hC hE hr hinj hst hno n _ _ _ _ _ _ hf
      · replace hf := hf.1 hc
        refine z_iconst hC dX11_changedPixels_47 ?_
        exact zx_iret hC hr rfl ⟨Nat.le_of_ble_eq_true rfl, Nat.le_of_ble_eq_true rfl⟩ dX11_changedPixels_48 hf
  · replace hf := hf.1 hc
    refine z_bipush hC dX11_changedPixels_20 (by decide) ?_
    exact zx_iret hC hr rfl ⟨Nat.le_of_ble_eq_true rfl, Nat.le_of_ble_eq_true rfl⟩ dX11_changedPixels_22 hf

-- ===== X11_snowLine
noncomputable def fX11_snowLine_B37 (K : Int → zSt → Prop) (KX : String → zSt → Prop) (k20 : zSt → Int → Int → Int → Prop) (n : Nat) : zSt → Int → Int → Int → Int → Int → Prop :=
  Nat.rec (motive := fun _ => zSt → Int → Int → Int → Int → Int → Prop) (fun _ _ _ _ _ _ => False) (fun _ ih σ x1 x2 x3 x4 x5 => kX (σ 0 0) = 8 ∧ zrg x5 ∧ zrg (σ (σ 0 0) 0) ∧ ((σ (σ 0 0) 0 ≤ x5 → zrg (2 * x4) ∧ ((σ (σ 0 0) 0 ≤ 2 * x4 → k20 σ x1 x2 (x3 + 1)) ∧ (¬ σ (σ 0 0) 0 ≤ 2 * x4 → K x3 σ))) ∧ (¬ σ (σ 0 0) 0 ≤ x5 → fX8_brightnessAt (fun r11 σ11 => zrg r11 ∧ zrg x2 ∧ ((r11 < x2 → ih σ11 x1 x2 x3 x4 (x5 + 1)) ∧ (¬ r11 < x2 → ih σ11 x1 x2 x3 (x4 + 1) (x5 + 1)))) σ (σ 0 0) x1 x5 x3))) n
theorem uX11_snowLine_B37 (K : Int → zSt → Prop) (KX : String → zSt → Prop) (k20 : zSt → Int → Int → Int → Prop) (n0 : Nat) (σ : zSt) (x1 : Int) (x2 : Int) (x3 : Int) (x4 : Int) (x5 : Int) : fX11_snowLine_B37 K KX k20 (n0 + 1) σ x1 x2 x3 x4 x5 = (kX (σ 0 0) = 8 ∧ zrg x5 ∧ zrg (σ (σ 0 0) 0) ∧ ((σ (σ 0 0) 0 ≤ x5 → zrg (2 * x4) ∧ ((σ (σ 0 0) 0 ≤ 2 * x4 → k20 σ x1 x2 (x3 + 1)) ∧ (¬ σ (σ 0 0) 0 ≤ 2 * x4 → K x3 σ))) ∧ (¬ σ (σ 0 0) 0 ≤ x5 → fX8_brightnessAt (fun r11 σ11 => zrg r11 ∧ zrg x2 ∧ ((r11 < x2 → (fX11_snowLine_B37 K KX k20 n0) σ11 x1 x2 x3 x4 (x5 + 1)) ∧ (¬ r11 < x2 → (fX11_snowLine_B37 K KX k20 n0) σ11 x1 x2 x3 (x4 + 1) (x5 + 1)))) σ (σ 0 0) x1 x5 x3))) := rfl
noncomputable def fX11_snowLine_B20 (K : Int → zSt → Prop) (KX : String → zSt → Prop) (n : Nat) : zSt → Int → Int → Int → Prop :=
  Nat.rec (motive := fun _ => zSt → Int → Int → Int → Prop) (fun _ _ _ _ => False) (fun _ ih σ x1 x2 x3 => kX (σ 0 0) = 8 ∧ zrg x3 ∧ zrg (σ (σ 0 0) 1) ∧ ((σ (σ 0 0) 1 ≤ x3 → K (σ (σ 0 0) 1) σ) ∧ (¬ σ (σ 0 0) 1 ≤ x3 → (∃ n, fX11_snowLine_B37 K KX ih n σ x1 x2 x3 0 0)))) n
theorem uX11_snowLine_B20 (K : Int → zSt → Prop) (KX : String → zSt → Prop) (n0 : Nat) (σ : zSt) (x1 : Int) (x2 : Int) (x3 : Int) : fX11_snowLine_B20 K KX (n0 + 1) σ x1 x2 x3 = (kX (σ 0 0) = 8 ∧ zrg x3 ∧ zrg (σ (σ 0 0) 1) ∧ ((σ (σ 0 0) 1 ≤ x3 → K (σ (σ 0 0) 1) σ) ∧ (¬ σ (σ 0 0) 1 ≤ x3 → (∃ n, fX11_snowLine_B37 K KX (fX11_snowLine_B20 K KX n0) n σ x1 x2 x3 0 0)))) := rfl
def fX11_snowLine (K : Int → zSt → Prop) (KX : String → zSt → Prop) (σ : zSt) (x1 : Int) (x2 : Int) : Prop :=
  fX11_requireFrame (fun σ1 => fX11_isBetween (fun r2 σ2 => zrg r2 ∧ ((r2 = 0 → K (-2) σ2) ∧ (¬ r2 = 0 → (∃ n, fX11_snowLine_B20 K KX n σ2 x1 x2 0)))) σ1 x2 0 9) KX σ x1
set_option maxHeartbeats 4000000 in
set_option maxRecDepth 100000 in
theorem wX11_snowLine_B37 {p : Program} {l : Launch} {e : Env} {s : State} {m : MethodId} {args : Array Value} {below : List Frame} {meth : Method} {c : Code} {D : va_G} {dA : Nat → ClassId} {ad : Nat → Nat} {sz : Nat} {aL aG aI : Nat} {aK aV : Nat → Nat} {K : Int → zSt → Prop} {KX : String → zSt → Prop} {k20 : zSt → Int → Int → Int → Prop} (hC : zC p m c cX11_snowLine 6 s args (Cond.code yX11_snowLine cX11_snowLine 6 (some .int) :: UW) RX11 meth D vwCl (tyA dA) (zA ad NX sz) NX ad (celX ad dA)) (hE : zE (zXX aL aG aI aK aV) (zA ad NX sz) s s.heap) (hr : meth.sig.returnType = (some .int)) (hinj : ∀ i j, i < NX → j < NX → ad i = ad j → i = j) (hst : l.stackTraces = false) (hno : ∀ z ∈ c.exceptionTable.toList, False) (hk20 : ∀ (σ : zSt) (x1 : Int) (x2 : Int) (x3 : Int), k20 σ x1 x2 x3 → zAt p l e ({ frames := 7, cells := 1, slots := 6, locals := 103 } : Room) s m args below meth c 1 6 (vx_MQ below (va_Qi (zPi K) (zB D vwCl (tyA dA) NX ad (celX ad dA)) (zA ad NX sz)) (zXC D vwCl (tyA dA) NX ad (celX ad dA) KX (zA ad NX sz)) args s 1 6 (zA ad NX sz)) 6 D vwCl (zA ad NX sz) NX ad (celX ad dA) 20 [(0, vR ad 0), (1, vI x1), (2, vI x2), (3, vI x3)] [] σ) : ∀ (n : Nat) (σ : zSt) (x1 : Int) (x2 : Int) (x3 : Int) (x4 : Int) (x5 : Int), fX11_snowLine_B37 K KX k20 n σ x1 x2 x3 x4 x5 → zAt p l e ({ frames := 7, cells := 1, slots := 6, locals := 103 } : Room) s m args below meth c 1 6 (vx_MQ below (va_Qi (zPi K) (zB D vwCl (tyA dA) NX ad (celX ad dA)) (zA ad NX sz)) (zXC D vwCl (tyA dA) NX ad (celX ad dA) KX (zA ad NX sz)) args s 1 6 (zA ad NX sz)) 6 D vwCl (zA ad NX sz) NX ad (celX ad dA) 37 [(0, vR ad 0), (1, vI x1), (2, vI x2), (3, vI x3), (4, vI x4), (5, vI x5)] [] σ := by
  intro n
  induction n with
  | zero => intro σ x1 x2 x3 x4 x5  hf; exact False.elim hf
  | succ n ih =>
    intro σ x1 x2 x3 x4 x5  hf
    rw [uX11_snowLine_B37] at hf
    refine z_iload hC dX11_snowLine_37 5 rfl ?_
    refine z_aload_n hC dX11_snowLine_39 0 rfl rfl ?_
    refine z_get hC (fun w h => uT _ w (uL11 w h)) (oX_11 (show kX 0 = 11 by decide)) 0 (by decide) (uT _ _ u467) rfl rfl dX11_snowLine_40 ?_
    obtain ⟨g7, hf⟩ := hf
    refine z_get hC (fun w h => uT _ w (uL8 w h)) (oX_8 g7) 0 (by decide) (uT _ _ u214) rfl rfl dX11_snowLine_43 ?_
    obtain ⟨g8, hf⟩ := hf
    obtain ⟨g9, hf⟩ := hf
    refine z_icmp_ge (tgt := 73) hC dX11_snowLine_46 (by decide) g8 g9 (fun hc => ?_) (fun hc => ?_)
    · replace hf := hf.1 hc
      refine z_iconst hC dX11_snowLine_73 ?_
      refine z_iload hC dX11_snowLine_74 4 rfl ?_
      refine z_imul hC dX11_snowLine_76 ?_
      refine z_aload_n hC dX11_snowLine_77 0 rfl rfl ?_
      refine z_get hC (fun w h => uT _ w (uL11 w h)) (oX_11 (show kX 0 = 11 by decide)) 0 (by decide) (uT _ _ u467) rfl rfl dX11_snowLine_78 ?_
      refine z_get hC (fun w h => uT _ w (uL8 w h)) (oX_8 g7) 0 (by decide) (uT _ _ u214) rfl rfl dX11_snowLine_81 ?_
      obtain ⟨g10, hf⟩ := hf
      refine z_icmp_ge (tgt := 89) hC dX11_snowLine_84 (by decide) g10 g9 (fun hc => ?_) (fun hc => ?_)
      · replace hf := hf.1 hc
        refine z_iinc hC ([(3, vI (x3 + 1)), (0, vR ad 0), (1, vI x1), (2, vI x2), (4, vI x4), (5, vI x5)]) dX11_snowLine_89 3 rfl (by decide) rfl ?_
        refine z_goto (tgt := 20) hC dX11_snowLine_92 (by decide) ?_
        refine z_sub (lv' := [(0, vR ad 0), (1, vI x1), (2, vI x2), (3, vI (x3 + 1))]) [1, 2, 3, 0] rfl ?_
        exact hk20 _ _ _ _ hf
      · replace hf := hf.2 hc
        refine z_iload_n hC dX11_snowLine_87 3 rfl rfl ?_
        exact zx_iret hC hr rfl ⟨Nat.le_of_ble_eq_true rfl, Nat.le_of_ble_eq_true rfl⟩ dX11_snowLine_88 hf
    · replace hf := hf.2 hc
      refine z_aload_n hC dX11_snowLine_49 0 rfl rfl ?_
      refine z_get hC (fun w h => uT _ w (uL11 w h)) (oX_11 (show kX 0 = 11 by decide)) 0 (by decide) (uT _ _ u467) rfl rfl dX11_snowLine_50 ?_
      refine z_iload_n hC dX11_snowLine_53 1 rfl rfl ?_
      refine z_iload hC dX11_snowLine_54 5 rfl ?_
      refine z_iload_n hC dX11_snowLine_56 3 rfl rfl ?_
      refine z_callVi hC hE (oX_8 g7) [vI x1, vI x5, vI x3] (fun sz2 => mX8_brightnessAt l hinj sz2 hf) (cwV 3 hC.1.2.2.2.2 (uV (uT _) u774 u775 u776 u106 u777) rfl rfl rfl (by decide +kernel) ⟨Nat.le_of_ble_eq_true rfl, Nat.le_of_ble_eq_true rfl⟩) rfl rfl (Nat.le_of_ble_eq_true rfl) ⟨Nat.le_of_ble_eq_true rfl, Nat.le_of_ble_eq_true rfl⟩ dX11_snowLine_57 (fun r11 σ11 hf => ?_)
      refine z_iload_n hC dX11_snowLine_60 2 rfl rfl ?_
      obtain ⟨g12, hf⟩ := hf
      obtain ⟨g13, hf⟩ := hf
      refine z_icmp_lt (tgt := 67) hC dX11_snowLine_61 (by decide) g12 g13 (fun hc => ?_) (fun hc => ?_)
      · replace hf := hf.1 hc
        refine z_iinc hC ([(5, vI (x5 + 1)), (0, vR ad 0), (1, vI x1), (2, vI x2), (3, vI x3), (4, vI x4)]) dX11_snowLine_67 5 rfl (by decide) rfl ?_
        refine z_goto (tgt := 37) hC dX11_snowLine_70 (by decide) ?_
        refine z_sub (lv' := [(0, vR ad 0), (1, vI x1), (2, vI x2), (3, vI x3), (4, vI x4), (5, vI (x5 + 1))]) [1, 2, 3, 4, 5, 0] rfl ?_
        exact ih _ _ _ _ _ _ hf
      · replace hf := hf.2 hc
        refine z_iinc hC ([(4, vI (x4 + 1)), (0, vR ad 0), (1, vI x1), (2, vI x2), (3, vI x3), (5, vI x5)]) dX11_snowLine_64 4 rfl (by decide) rfl ?_
        refine z_iinc hC ([(5, vI (x5 + 1)), (4, vI (x4 + 1)), (0, vR ad 0), (1, vI x1), (2, vI x2), (3, vI x3)]) dX11_snowLine_67 5 rfl (by decide) rfl ?_
        refine z_goto (tgt := 37) hC dX11_snowLine_70 (by decide) ?_
        refine z_sub (lv' := [(0, vR ad 0), (1, vI x1), (2, vI x2), (3, vI x3), (4, vI (x4 + 1)), (5, vI (x5 + 1))]) [2, 3, 4, 5, 1, 0] rfl ?_
        exact ih _ _ _ _ _ _ hf
set_option maxHeartbeats 4000000 in
set_option maxRecDepth 100000 in
theorem wX11_snowLine_B20 {p : Program} {l : Launch} {e : Env} {s : State} {m : MethodId} {args : Array Value} {below : List Frame} {meth : Method} {c : Code} {D : va_G} {dA : Nat → ClassId} {ad : Nat → Nat} {sz : Nat} {aL aG aI : Nat} {aK aV : Nat → Nat} {K : Int → zSt → Prop} {KX : String → zSt → Prop} (hC : zC p m c cX11_snowLine 6 s args (Cond.code yX11_snowLine cX11_snowLine 6 (some .int) :: UW) RX11 meth D vwCl (tyA dA) (zA ad NX sz) NX ad (celX ad dA)) (hE : zE (zXX aL aG aI aK aV) (zA ad NX sz) s s.heap) (hr : meth.sig.returnType = (some .int)) (hinj : ∀ i j, i < NX → j < NX → ad i = ad j → i = j) (hst : l.stackTraces = false) (hno : ∀ z ∈ c.exceptionTable.toList, False) : ∀ (n : Nat) (σ : zSt) (x1 : Int) (x2 : Int) (x3 : Int), fX11_snowLine_B20 K KX n σ x1 x2 x3 → zAt p l e ({ frames := 7, cells := 1, slots := 6, locals := 103 } : Room) s m args below meth c 1 6 (vx_MQ below (va_Qi (zPi K) (zB D vwCl (tyA dA) NX ad (celX ad dA)) (zA ad NX sz)) (zXC D vwCl (tyA dA) NX ad (celX ad dA) KX (zA ad NX sz)) args s 1 6 (zA ad NX sz)) 6 D vwCl (zA ad NX sz) NX ad (celX ad dA) 20 [(0, vR ad 0), (1, vI x1), (2, vI x2), (3, vI x3)] [] σ := by
  intro n
  induction n with
  | zero => intro σ x1 x2 x3  hf; exact False.elim hf
  | succ n ih =>
    intro σ x1 x2 x3  hf
    rw [uX11_snowLine_B20] at hf
    refine z_iload_n hC dX11_snowLine_20 3 rfl rfl ?_
    refine z_aload_n hC dX11_snowLine_21 0 rfl rfl ?_
    refine z_get hC (fun w h => uT _ w (uL11 w h)) (oX_11 (show kX 0 = 11 by decide)) 0 (by decide) (uT _ _ u467) rfl rfl dX11_snowLine_22 ?_
    obtain ⟨g4, hf⟩ := hf
    refine z_get hC (fun w h => uT _ w (uL8 w h)) (oX_8 g4) 1 (by decide) (uT _ _ u218) rfl rfl dX11_snowLine_25 ?_
    obtain ⟨g5, hf⟩ := hf
    obtain ⟨g6, hf⟩ := hf
    refine z_icmp_ge (tgt := 95) hC dX11_snowLine_28 (by decide) g5 g6 (fun hc => ?_) (fun hc => ?_)
    · replace hf := hf.1 hc
      refine z_aload_n hC dX11_snowLine_95 0 rfl rfl ?_
      refine z_get hC (fun w h => uT _ w (uL11 w h)) (oX_11 (show kX 0 = 11 by decide)) 0 (by decide) (uT _ _ u467) rfl rfl dX11_snowLine_96 ?_
      refine z_get hC (fun w h => uT _ w (uL8 w h)) (oX_8 g4) 1 (by decide) (uT _ _ u218) rfl rfl dX11_snowLine_99 ?_
      exact zx_iret hC hr rfl ⟨Nat.le_of_ble_eq_true rfl, Nat.le_of_ble_eq_true rfl⟩ dX11_snowLine_102 hf
    · replace hf := hf.2 hc
      refine z_iconst hC dX11_snowLine_31 ?_
      refine z_istore hC ([(4, vI 0), (0, vR ad 0), (1, vI x1), (2, vI x2), (3, vI x3)]) dX11_snowLine_32 (by decide) rfl ?_
      refine z_iconst hC dX11_snowLine_34 ?_
      refine z_istore hC ([(5, vI 0), (4, vI 0), (0, vR ad 0), (1, vI x1), (2, vI x2), (3, vI x3)]) dX11_snowLine_35 (by decide) rfl ?_
      refine z_sub (lv' := [(0, vR ad 0), (1, vI x1), (2, vI x2), (3, vI x3), (4, vI 0), (5, vI 0)]) [2, 3, 4, 5, 1, 0] rfl ?_
      obtain ⟨n, hf⟩ := hf
      exact wX11_snowLine_B37 hC hE hr hinj hst hno ih n _ _ _ _ _ _ hf
set_option maxHeartbeats 4000000 in
set_option maxRecDepth 100000 in
theorem mX11_snowLine {D : va_G} {dA : Nat → ClassId} {ad : Nat → Nat} {aL aG aI : Nat} {aK aV : Nat → Nat} (l : Launch) (hinj : ∀ i j, i < NX → j < NX → ad i = ad j → i = j) (hst : l.stackTraces = false) (sz : Nat) {K : Int → zSt → Prop} {KX : String → zSt → Prop} {σ : zSt} {x1 : Int} {x2 : Int} (hf : fX11_snowLine K KX σ x1 x2) : vx_Met l yX11_snowLine (Cond.code yX11_snowLine cX11_snowLine 6 (some .int) :: UW) ({ frames := 7, cells := 1, slots := 6, locals := 103 } : Room) (va_Pc [vR ad 0, vI x1, vI x2] (zPre D vwCl (tyA dA) (zXX aL aG aI aK aV) NX ad (celX ad dA) sz σ)) (va_Qi (zPi K) (zB D vwCl (tyA dA) NX ad (celX ad dA)) (zA ad NX sz)) (zXC D vwCl (tyA dA) NX ad (celX ad dA) KX (zA ad NX sz)) 1 6 (zA ad NX sz) := by
  refine zx_enter (cc := cX11_snowLine) (maxL := 6) (ret := (some .int)) (vs := [vR ad 0, vI x1, vI x2]) (by decide) rfl hinj (Nat.le_of_ble_eq_true rfl) ?_
  intro p e s m args below meth c hC hE hsz hr hno
  show zAt p l e ({ frames := 7, cells := 1, slots := 6, locals := 103 } : Room) s m args below meth c 0 0 (vx_MQ below (va_Qi (zPi K) (zB D vwCl (tyA dA) NX ad (celX ad dA)) (zA ad NX sz)) (zXC D vwCl (tyA dA) NX ad (celX ad dA) KX (zA ad NX sz)) args s 1 6 (zA ad NX sz)) 6 D vwCl (zA ad NX sz) NX ad (celX ad dA) 0 [(0, vR ad 0), (1, vI x1), (2, vI x2)] [] σ
  refine z_aload_n hC dX11_snowLine_0 0 rfl rfl ?_
  refine z_iload_n hC dX11_snowLine_1 1 rfl rfl ?_
  refine zx_callVv hC hno hE (oX_11 (show kX 0 = 11 by decide)) [vI x1] (fun sz2 => mX11_requireFrame l hinj hst sz2 hf) (cwV 1 hC.1.2.2.2.2 (uV (uT _) u1061 u1063 u26 u105 u1064) rfl rfl rfl (by decide +kernel) ⟨Nat.le_of_ble_eq_true rfl, Nat.le_of_ble_eq_true rfl⟩) rfl rfl (Nat.le_of_ble_eq_true rfl) ⟨Nat.le_of_ble_eq_true rfl, Nat.le_of_ble_eq_true rfl⟩ ⟨Nat.le_of_ble_eq_true rfl, Nat.le_of_ble_eq_true rfl⟩ dX11_snowLine_2 (fun σ1 hf => ?_)
  refine z_iload_n hC dX11_snowLine_5 2 rfl rfl ?_
  refine z_iconst hC dX11_snowLine_6 ?_
  refine z_bipush hC dX11_snowLine_7 (by decide) ?_
  refine z_callSi hC hE [vI x2, vI 0, vI 9] (fun sz2 => mX11_isBetween l hinj sz2 hf) (va_cwS 3 hC.1.2.2.2.2 (uS (uT _) u752 u609 u105 u610) rfl rfl rfl (by decide +kernel) ⟨Nat.le_of_ble_eq_true rfl, Nat.le_of_ble_eq_true rfl⟩) rfl rfl (Nat.le_of_ble_eq_true rfl) ⟨Nat.le_of_ble_eq_true rfl, Nat.le_of_ble_eq_true rfl⟩ dX11_snowLine_9 (fun r2 σ2 hf => ?_)
  obtain ⟨g3, hf⟩ := hf
  refine z_if_ne (tgt := 18) hC dX11_snowLine_12 (by decide) g3 (fun hc => ?_) (fun hc => ?_)
  · replace hf := hf.2 hc
    refine z_iconst hC dX11_snowLine_18 ?_
    refine z_istore_n hC ([(3, vI 0), (0, vR ad 0), (1, vI x1), (2, vI x2)]) dX11_snowLine_19 rfl (by decide) rfl ?_
    refine z_sub (lv' := [(0, vR ad 0), (1, vI x1), (2, vI x2), (3, vI 0)]) [1, 2, 3, 0] rfl ?_
    obtain ⟨n, hf⟩ := hf
    exact wX11_snowLine_B20 hC hE hr hinj hst hno n _ _ _ _ hf
  · replace hf := hf.1 hc
    refine z_bipush hC dX11_snowLine_15 (by decide) ?_
    exact zx_iret hC hr rfl ⟨Nat.le_of_ble_eq_true rfl, Nat.le_of_ble_eq_true rfl⟩ dX11_snowLine_17 hf

-- ===== X11_strain
noncomputable def fX11_strain_B35 (K : Int → zSt → Prop) (KX : String → zSt → Prop) (n : Nat) : zSt → Int → Int → Int → Int → Int → Int → Prop :=
  Nat.rec (motive := fun _ => zSt → Int → Int → Int → Int → Int → Int → Prop) (fun _ _ _ _ _ _ _ => False) (fun _ ih σ x3 x4 x5 x6 x7 x8 => kX (σ 0 0) = 8 ∧ zrg x8 ∧ zrg (σ (σ 0 0) 2) ∧ ((σ (σ 0 0) 2 ≤ x8 → zrg x5 ∧ ((2 ≤ x5 → K (x7 - x6) σ) ∧ (¬ 2 ≤ x5 → K (-2147483648) σ))) ∧ (¬ σ (σ 0 0) 2 ≤ x8 → fX10_isTrackedIn (fun r11 σ11 => zrg r11 ∧ ((r11 = 0 → ih σ11 x3 x4 x5 x6 x7 (x8 + 1)) ∧ (¬ r11 = 0 → fX10_isTrackedIn (fun r13 σ13 => zrg r13 ∧ ((r13 = 0 → ih σ13 x3 x4 x5 x6 x7 (x8 + 1)) ∧ (¬ r13 = 0 → fX10_distanceTo (fun r15 σ15 => zrg x5 ∧ ((x5 = 0 → ih σ15 x3 x4 (x5 + 1) r15 r15 (x8 + 1)) ∧ (¬ x5 = 0 → ih σ15 x3 x4 (x5 + 1) x6 r15 (x8 + 1)))) σ13 x3 x4 x8))) σ11 x4 x8))) σ x3 x8))) n
theorem uX11_strain_B35 (K : Int → zSt → Prop) (KX : String → zSt → Prop) (n0 : Nat) (σ : zSt) (x3 : Int) (x4 : Int) (x5 : Int) (x6 : Int) (x7 : Int) (x8 : Int) : fX11_strain_B35 K KX (n0 + 1) σ x3 x4 x5 x6 x7 x8 = (kX (σ 0 0) = 8 ∧ zrg x8 ∧ zrg (σ (σ 0 0) 2) ∧ ((σ (σ 0 0) 2 ≤ x8 → zrg x5 ∧ ((2 ≤ x5 → K (x7 - x6) σ) ∧ (¬ 2 ≤ x5 → K (-2147483648) σ))) ∧ (¬ σ (σ 0 0) 2 ≤ x8 → fX10_isTrackedIn (fun r11 σ11 => zrg r11 ∧ ((r11 = 0 → (fX11_strain_B35 K KX n0) σ11 x3 x4 x5 x6 x7 (x8 + 1)) ∧ (¬ r11 = 0 → fX10_isTrackedIn (fun r13 σ13 => zrg r13 ∧ ((r13 = 0 → (fX11_strain_B35 K KX n0) σ13 x3 x4 x5 x6 x7 (x8 + 1)) ∧ (¬ r13 = 0 → fX10_distanceTo (fun r15 σ15 => zrg x5 ∧ ((x5 = 0 → (fX11_strain_B35 K KX n0) σ15 x3 x4 (x5 + 1) r15 r15 (x8 + 1)) ∧ (¬ x5 = 0 → (fX11_strain_B35 K KX n0) σ15 x3 x4 (x5 + 1) x6 r15 (x8 + 1)))) σ13 x3 x4 x8))) σ11 x4 x8))) σ x3 x8))) := rfl
def fX11_strain (K : Int → zSt → Prop) (KX : String → zSt → Prop) (σ : zSt) (x1 : Int) (x2 : Int) : Prop :=
  fX11_requireFeature (fun σ1 => fX11_requireFeature (fun σ2 => fX11_trackOf (fun r3 σ3 => kX r3 = 10 ∧ fX11_trackOf (fun r5 σ5 => kX r5 = 10 ∧ (∃ n, fX11_strain_B35 K KX n σ5 r3 r5 0 0 0 0)) σ3 x2) σ2 x1) KX σ1 x2) KX σ x1
set_option maxHeartbeats 4000000 in
set_option maxRecDepth 100000 in
theorem wX11_strain_B35 {p : Program} {l : Launch} {e : Env} {s : State} {m : MethodId} {args : Array Value} {below : List Frame} {meth : Method} {c : Code} {D : va_G} {dA : Nat → ClassId} {ad : Nat → Nat} {sz : Nat} {aL aG aI : Nat} {aK aV : Nat → Nat} {K : Int → zSt → Prop} {KX : String → zSt → Prop} (hC : zC p m c cX11_strain 9 s args (Cond.code yX11_strain cX11_strain 9 (some .int) :: UW) RX11 meth D vwCl (tyA dA) (zA ad NX sz) NX ad (celX ad dA)) (hE : zE (zXX aL aG aI aK aV) (zA ad NX sz) s s.heap) (hr : meth.sig.returnType = (some .int)) (hinj : ∀ i j, i < NX → j < NX → ad i = ad j → i = j) (hst : l.stackTraces = false) (hno : ∀ z ∈ c.exceptionTable.toList, False) : ∀ (n : Nat) (σ : zSt) (x3 : Int) (x4 : Int) (x5 : Int) (x6 : Int) (x7 : Int) (x8 : Int) (qx3 : kX x3 = 10) (qx4 : kX x4 = 10), fX11_strain_B35 K KX n σ x3 x4 x5 x6 x7 x8 → zAt p l e ({ frames := 7, cells := 2, slots := 12, locals := 170 } : Room) s m args below meth c 2 12 (vx_MQ below (va_Qi (zPi K) (zB D vwCl (tyA dA) NX ad (celX ad dA)) (zA ad NX sz)) (zXC D vwCl (tyA dA) NX ad (celX ad dA) KX (zA ad NX sz)) args s 2 12 (zA ad NX sz)) 9 D vwCl (zA ad NX sz) NX ad (celX ad dA) 35 [(0, vR ad 0), (3, vR ad x3), (4, vR ad x4), (5, vI x5), (6, vI x6), (7, vI x7), (8, vI x8)] [] σ := by
  intro n
  induction n with
  | zero => intro σ x3 x4 x5 x6 x7 x8 qx3 qx4 hf; exact False.elim hf
  | succ n ih =>
    intro σ x3 x4 x5 x6 x7 x8 qx3 qx4 hf
    rw [uX11_strain_B35] at hf
    refine z_iload hC dX11_strain_35 6 rfl ?_
    refine z_aload_n hC dX11_strain_37 0 rfl rfl ?_
    refine z_get hC (fun w h => uT _ w (uL11 w h)) (oX_11 (show kX 0 = 11 by decide)) 0 (by decide) (uT _ _ u467) rfl rfl dX11_strain_38 ?_
    obtain ⟨g7, hf⟩ := hf
    refine z_get hC (fun w h => uT _ w (uL8 w h)) (oX_8 g7) 2 (by decide) (uT _ _ u222) rfl rfl dX11_strain_41 ?_
    obtain ⟨g8, hf⟩ := hf
    obtain ⟨g9, hf⟩ := hf
    refine z_icmp_ge (tgt := 99) hC dX11_strain_44 (by decide) g8 g9 (fun hc => ?_) (fun hc => ?_)
    · replace hf := hf.1 hc
      refine z_iload hC dX11_strain_99 3 rfl ?_
      refine z_iconst hC dX11_strain_101 ?_
      obtain ⟨g10, hf⟩ := hf
      refine z_icmp_ge (tgt := 111) hC dX11_strain_102 (by decide) g10 (zlit rfl rfl) (fun hc => ?_) (fun hc => ?_)
      · replace hf := hf.1 hc
        refine z_iload hC dX11_strain_111 5 rfl ?_
        refine z_iload hC dX11_strain_113 4 rfl ?_
        refine z_isub hC dX11_strain_115 ?_
        exact zx_iret hC hr rfl ⟨Nat.le_of_ble_eq_true rfl, Nat.le_of_ble_eq_true rfl⟩ dX11_strain_116 hf
      · replace hf := hf.2 hc
        refine z_ldcw hC (n := (-2147483648)) (uT _ _ u1517) (by decide) dX11_strain_105 ?_
        refine z_goto (tgt := 116) hC dX11_strain_108 (by decide) ?_
        exact zx_iret hC hr rfl ⟨Nat.le_of_ble_eq_true rfl, Nat.le_of_ble_eq_true rfl⟩ dX11_strain_116 hf
    · replace hf := hf.2 hc
      refine z_aload_n hC dX11_strain_47 1 rfl rfl ?_
      refine z_iload hC dX11_strain_48 6 rfl ?_
      refine z_callVi hC hE (oX_10 qx3) [vI x8] (fun sz2 => mX10_isTrackedIn l hinj sz2 hf) (cwV 1 hC.1.2.2.2.2 (uV (uT _) u1508 u1509 u1510 u117 u1511) rfl rfl rfl (by decide +kernel) ⟨Nat.le_of_ble_eq_true rfl, Nat.le_of_ble_eq_true rfl⟩) rfl rfl (Nat.le_of_ble_eq_true rfl) ⟨Nat.le_of_ble_eq_true rfl, Nat.le_of_ble_eq_true rfl⟩ dX11_strain_50 (fun r11 σ11 hf => ?_)
      obtain ⟨g12, hf⟩ := hf
      refine z_if_eq (tgt := 93) hC dX11_strain_53 (by decide) g12 (fun hc => ?_) (fun hc => ?_)
      · replace hf := hf.1 hc
        refine z_iinc hC ([(8, vI (x8 + 1)), (0, vR ad 0), (3, vR ad x3), (4, vR ad x4), (5, vI x5), (6, vI x6), (7, vI x7)]) dX11_strain_93 6 rfl (by decide) rfl ?_
        refine z_goto (tgt := 35) hC dX11_strain_96 (by decide) ?_
        refine z_sub (lv' := [(0, vR ad 0), (3, vR ad x3), (4, vR ad x4), (5, vI x5), (6, vI x6), (7, vI x7), (8, vI (x8 + 1))]) [1, 2, 3, 4, 5, 6, 0] rfl ?_
        exact ih _ _ _ _ _ _ _ qx3 qx4 hf
      · replace hf := hf.2 hc
        refine z_aload hC dX11_strain_56 2 rfl ?_
        refine z_iload hC dX11_strain_58 6 rfl ?_
        refine z_callVi hC hE (oX_10 qx4) [vI x8] (fun sz2 => mX10_isTrackedIn l hinj sz2 hf) (cwV 1 hC.1.2.2.2.2 (uV (uT _) u1508 u1509 u1510 u117 u1511) rfl rfl rfl (by decide +kernel) ⟨Nat.le_of_ble_eq_true rfl, Nat.le_of_ble_eq_true rfl⟩) rfl rfl (Nat.le_of_ble_eq_true rfl) ⟨Nat.le_of_ble_eq_true rfl, Nat.le_of_ble_eq_true rfl⟩ dX11_strain_60 (fun r13 σ13 hf => ?_)
        obtain ⟨g14, hf⟩ := hf
        refine z_if_eq (tgt := 93) hC dX11_strain_63 (by decide) g14 (fun hc => ?_) (fun hc => ?_)
        · replace hf := hf.1 hc
          refine z_iinc hC ([(8, vI (x8 + 1)), (0, vR ad 0), (3, vR ad x3), (4, vR ad x4), (5, vI x5), (6, vI x6), (7, vI x7)]) dX11_strain_93 6 rfl (by decide) rfl ?_
          refine z_goto (tgt := 35) hC dX11_strain_96 (by decide) ?_
          refine z_sub (lv' := [(0, vR ad 0), (3, vR ad x3), (4, vR ad x4), (5, vI x5), (6, vI x6), (7, vI x7), (8, vI (x8 + 1))]) [1, 2, 3, 4, 5, 6, 0] rfl ?_
          exact ih _ _ _ _ _ _ _ qx3 qx4 hf
        · replace hf := hf.2 hc
          refine z_aload_n hC dX11_strain_66 1 rfl rfl ?_
          refine z_aload hC dX11_strain_67 2 rfl ?_
          refine z_iload hC dX11_strain_69 6 rfl ?_
          refine z_callVi hC hE (oX_10 qx3) [vR ad x4, vI x8] (fun sz2 => mX10_distanceTo l hinj sz2 hf) (cwV 2 hC.1.2.2.2.2 (uV (uT _) u1512 u1513 u1514 u117 u1515) rfl rfl rfl (by decide +kernel) ⟨Nat.le_of_ble_eq_true rfl, Nat.le_of_ble_eq_true rfl⟩) rfl rfl (Nat.le_of_ble_eq_true rfl) ⟨Nat.le_of_ble_eq_true rfl, Nat.le_of_ble_eq_true rfl⟩ dX11_strain_71 (fun r15 σ15 hf => ?_)
          refine z_istore hC ([(7, vI r15), (0, vR ad 0), (3, vR ad x3), (4, vR ad x4), (5, vI x5), (6, vI x6), (8, vI x8)]) dX11_strain_74 (by decide) rfl ?_
          refine z_iload hC dX11_strain_76 4 rfl ?_
          obtain ⟨g16, hf⟩ := hf
          refine z_if_ne (tgt := 86) hC dX11_strain_78 (by decide) g16 (fun hc => ?_) (fun hc => ?_)
          · replace hf := hf.2 hc
            refine z_iload hC dX11_strain_86 5 rfl ?_
            refine z_istore hC ([(6, vI x6), (7, vI r15), (0, vR ad 0), (3, vR ad x3), (4, vR ad x4), (5, vI x5), (8, vI x8)]) dX11_strain_88 (by decide) rfl ?_
            refine z_iinc hC ([(5, vI (x5 + 1)), (6, vI x6), (7, vI r15), (0, vR ad 0), (3, vR ad x3), (4, vR ad x4), (8, vI x8)]) dX11_strain_90 5 rfl (by decide) rfl ?_
            refine z_iinc hC ([(8, vI (x8 + 1)), (5, vI (x5 + 1)), (6, vI x6), (7, vI r15), (0, vR ad 0), (3, vR ad x3), (4, vR ad x4)]) dX11_strain_93 6 rfl (by decide) rfl ?_
            refine z_goto (tgt := 35) hC dX11_strain_96 (by decide) ?_
            refine z_sub (lv' := [(0, vR ad 0), (3, vR ad x3), (4, vR ad x4), (5, vI (x5 + 1)), (6, vI x6), (7, vI r15), (8, vI (x8 + 1))]) [4, 5, 6, 1, 2, 3, 0] rfl ?_
            exact ih _ _ _ _ _ _ _ qx3 qx4 hf
          · replace hf := hf.1 hc
            refine z_iload hC dX11_strain_81 0 rfl ?_
            refine z_goto (tgt := 88) hC dX11_strain_83 (by decide) ?_
            refine z_istore hC ([(6, vI r15), (7, vI r15), (0, vR ad 0), (3, vR ad x3), (4, vR ad x4), (5, vI x5), (8, vI x8)]) dX11_strain_88 (by decide) rfl ?_
            refine z_iinc hC ([(5, vI (x5 + 1)), (6, vI r15), (7, vI r15), (0, vR ad 0), (3, vR ad x3), (4, vR ad x4), (8, vI x8)]) dX11_strain_90 5 rfl (by decide) rfl ?_
            refine z_iinc hC ([(8, vI (x8 + 1)), (5, vI (x5 + 1)), (6, vI r15), (7, vI r15), (0, vR ad 0), (3, vR ad x3), (4, vR ad x4)]) dX11_strain_93 6 rfl (by decide) rfl ?_
            refine z_goto (tgt := 35) hC dX11_strain_96 (by decide) ?_
            refine z_sub (lv' := [(0, vR ad 0), (3, vR ad x3), (4, vR ad x4), (5, vI (x5 + 1)), (6, vI r15), (7, vI r15), (8, vI (x8 + 1))]) [4, 5, 6, 1, 2, 3, 0] rfl ?_
            exact ih _ _ _ _ _ _ _ qx3 qx4 hf
set_option maxHeartbeats 4000000 in
set_option maxRecDepth 100000 in
theorem mX11_strain {D : va_G} {dA : Nat → ClassId} {ad : Nat → Nat} {aL aG aI : Nat} {aK aV : Nat → Nat} (l : Launch) (hinj : ∀ i j, i < NX → j < NX → ad i = ad j → i = j) (hst : l.stackTraces = false) (sz : Nat) {K : Int → zSt → Prop} {KX : String → zSt → Prop} {σ : zSt} {x1 : Int} {x2 : Int} (hf : fX11_strain K KX σ x1 x2) : vx_Met l yX11_strain (Cond.code yX11_strain cX11_strain 9 (some .int) :: UW) ({ frames := 7, cells := 2, slots := 12, locals := 170 } : Room) (va_Pc [vR ad 0, vI x1, vI x2] (zPre D vwCl (tyA dA) (zXX aL aG aI aK aV) NX ad (celX ad dA) sz σ)) (va_Qi (zPi K) (zB D vwCl (tyA dA) NX ad (celX ad dA)) (zA ad NX sz)) (zXC D vwCl (tyA dA) NX ad (celX ad dA) KX (zA ad NX sz)) 2 12 (zA ad NX sz) := by
  refine zx_enter (cc := cX11_strain) (maxL := 9) (ret := (some .int)) (vs := [vR ad 0, vI x1, vI x2]) (by decide) rfl hinj (Nat.le_of_ble_eq_true rfl) ?_
  intro p e s m args below meth c hC hE hsz hr hno
  show zAt p l e ({ frames := 7, cells := 2, slots := 12, locals := 170 } : Room) s m args below meth c 0 0 (vx_MQ below (va_Qi (zPi K) (zB D vwCl (tyA dA) NX ad (celX ad dA)) (zA ad NX sz)) (zXC D vwCl (tyA dA) NX ad (celX ad dA) KX (zA ad NX sz)) args s 2 12 (zA ad NX sz)) 9 D vwCl (zA ad NX sz) NX ad (celX ad dA) 0 [(0, vR ad 0), (1, vI x1), (2, vI x2)] [] σ
  refine z_aload_n hC dX11_strain_0 0 rfl rfl ?_
  refine z_iload_n hC dX11_strain_1 1 rfl rfl ?_
  refine zx_callVv hC hno hE (oX_11 (show kX 0 = 11 by decide)) [vI x1] (fun sz2 => mX11_requireFeature l hinj hst sz2 hf) (cwV 1 hC.1.2.2.2.2 (uV (uT _) u1248 u1250 u31 u105 u1251) rfl rfl rfl (by decide +kernel) ⟨Nat.le_of_ble_eq_true rfl, Nat.le_of_ble_eq_true rfl⟩) rfl rfl (Nat.le_of_ble_eq_true rfl) ⟨Nat.le_of_ble_eq_true rfl, Nat.le_of_ble_eq_true rfl⟩ ⟨Nat.le_of_ble_eq_true rfl, Nat.le_of_ble_eq_true rfl⟩ dX11_strain_2 (fun σ1 hf => ?_)
  refine z_aload_n hC dX11_strain_5 0 rfl rfl ?_
  refine z_iload_n hC dX11_strain_6 2 rfl rfl ?_
  refine zx_callVv hC hno hE (oX_11 (show kX 0 = 11 by decide)) [vI x2] (fun sz2 => mX11_requireFeature l hinj hst sz2 hf) (cwV 1 hC.1.2.2.2.2 (uV (uT _) u1248 u1250 u31 u105 u1251) rfl rfl rfl (by decide +kernel) ⟨Nat.le_of_ble_eq_true rfl, Nat.le_of_ble_eq_true rfl⟩) rfl rfl (Nat.le_of_ble_eq_true rfl) ⟨Nat.le_of_ble_eq_true rfl, Nat.le_of_ble_eq_true rfl⟩ ⟨Nat.le_of_ble_eq_true rfl, Nat.le_of_ble_eq_true rfl⟩ dX11_strain_7 (fun σ2 hf => ?_)
  refine z_aload_n hC dX11_strain_10 0 rfl rfl ?_
  refine z_iload_n hC dX11_strain_11 1 rfl rfl ?_
  refine z_callVr hC hE (oX_11 (show kX 0 = 11 by decide)) [vI x1] (fun sz2 => mX11_trackOf l hinj sz2 hf) (cwV 1 hC.1.2.2.2.2 (uV (uT _) u811 u813 u14 u105 u814) rfl rfl rfl (by decide +kernel) ⟨Nat.le_of_ble_eq_true rfl, Nat.le_of_ble_eq_true rfl⟩) rfl rfl (Nat.le_of_ble_eq_true rfl) ⟨Nat.le_of_ble_eq_true rfl, Nat.le_of_ble_eq_true rfl⟩ dX11_strain_12 (fun r3 σ3 hf => ?_)
  obtain ⟨g4, hf⟩ := hf
  refine z_astore_n hC ([(3, vR ad r3), (0, vR ad 0), (1, vI x1), (2, vI x2)]) dX11_strain_15 rfl (by decide) rfl ?_
  refine z_aload_n hC dX11_strain_16 1 rfl rfl ?_
  refine z_iload_n hC dX11_strain_17 3 rfl rfl ?_
  refine z_callVr hC hE (oX_11 (show kX 0 = 11 by decide)) [vI x2] (fun sz2 => mX11_trackOf l hinj sz2 hf) (cwV 1 hC.1.2.2.2.2 (uV (uT _) u811 u813 u14 u105 u814) rfl rfl rfl (by decide +kernel) ⟨Nat.le_of_ble_eq_true rfl, Nat.le_of_ble_eq_true rfl⟩) rfl rfl (Nat.le_of_ble_eq_true rfl) ⟨Nat.le_of_ble_eq_true rfl, Nat.le_of_ble_eq_true rfl⟩ dX11_strain_18 (fun r5 σ5 hf => ?_)
  obtain ⟨g6, hf⟩ := hf
  refine z_astore hC ([(4, vR ad r5), (3, vR ad r3), (0, vR ad 0), (1, vI x1), (2, vI x2)]) dX11_strain_21 (by decide) rfl ?_
  refine z_iconst hC dX11_strain_23 ?_
  refine z_istore hC ([(5, vI 0), (4, vR ad r5), (3, vR ad r3), (0, vR ad 0), (1, vI x1), (2, vI x2)]) dX11_strain_24 (by decide) rfl ?_
  refine z_iconst hC dX11_strain_26 ?_
  refine z_istore hC ([(6, vI 0), (5, vI 0), (4, vR ad r5), (3, vR ad r3), (0, vR ad 0), (1, vI x1), (2, vI x2)]) dX11_strain_27 (by decide) rfl ?_
  refine z_iconst hC dX11_strain_29 ?_
  refine z_istore hC ([(7, vI 0), (6, vI 0), (5, vI 0), (4, vR ad r5), (3, vR ad r3), (0, vR ad 0), (1, vI x1), (2, vI x2)]) dX11_strain_30 (by decide) rfl ?_
  refine z_iconst hC dX11_strain_32 ?_
  refine z_istore hC ([(8, vI 0), (7, vI 0), (6, vI 0), (5, vI 0), (4, vR ad r5), (3, vR ad r3), (0, vR ad 0), (1, vI x1), (2, vI x2)]) dX11_strain_33 (by decide) rfl ?_
  refine z_sub (lv' := [(0, vR ad 0), (3, vR ad r3), (4, vR ad r5), (5, vI 0), (6, vI 0), (7, vI 0), (8, vI 0)]) [6, 5, 4, 3, 2, 1, 0] rfl ?_
  obtain ⟨n, hf⟩ := hf
  exact wX11_strain_B35 hC hE hr hinj hst hno n _ _ _ _ _ _ _ g4 g6 hf

-- ===== X11_direction
def fX11_direction_B41 (K : Int → zSt → Prop) (KX : String → zSt → Prop) (σ : zSt) (x3 : Int) (x4 : Int) : Prop :=
  zrg x3 ∧ zrg x4 ∧ zrg (x3.natAbs : Int) ∧ zrg (2 * (x4.natAbs : Int)) ∧ (((x3.natAbs : Int) ≤ 2 * (x4.natAbs : Int) → zrg (x4.natAbs : Int) ∧ zrg (2 * (x3.natAbs : Int)) ∧ (((x4.natAbs : Int) ≤ 2 * (x3.natAbs : Int) → ((x4 ≤ 0 → ((0 ≤ x3 → K 7 σ) ∧ (¬ 0 ≤ x3 → K 5 σ))) ∧ (¬ x4 ≤ 0 → ((x3 ≤ 0 → K 3 σ) ∧ (¬ x3 ≤ 0 → K 1 σ))))) ∧ (¬ (x4.natAbs : Int) ≤ 2 * (x3.natAbs : Int) → ((x4 ≤ 0 → K 6 σ) ∧ (¬ x4 ≤ 0 → K 2 σ))))) ∧ (¬ (x3.natAbs : Int) ≤ 2 * (x4.natAbs : Int) → ((x3 ≤ 0 → K 4 σ) ∧ (¬ x3 ≤ 0 → K 0 σ))))
def fX11_direction (K : Int → zSt → Prop) (KX : String → zSt → Prop) (σ : zSt) (x1 : Int) : Prop :=
  fX11_requireFeature (fun σ1 => fX11_trackOf (fun r2 σ2 => kX r2 = 10 ∧ fX10_travelled (fun r4 σ4 => fX10_travelled (fun r5 σ5 => zrg r4 ∧ ((r4 = 0 → zrg r5 ∧ ((r5 = 0 → K (-1) σ5) ∧ (¬ r5 = 0 → fX11_direction_B41 K KX σ5 r4 r5))) ∧ (¬ r4 = 0 → fX11_direction_B41 K KX σ5 r4 r5))) σ4 r2 (31 + 6 * (r2 - 24) + 1)) σ2 r2 (31 + 6 * (r2 - 24) + 0)) σ1 x1) KX σ x1
set_option maxHeartbeats 4000000 in
set_option maxRecDepth 100000 in
theorem wX11_direction_B41 {p : Program} {l : Launch} {e : Env} {s : State} {m : MethodId} {args : Array Value} {below : List Frame} {meth : Method} {c : Code} {D : va_G} {dA : Nat → ClassId} {ad : Nat → Nat} {sz : Nat} {aL aG aI : Nat} {aK aV : Nat → Nat} {K : Int → zSt → Prop} {KX : String → zSt → Prop} (hC : zC p m c cX11_direction 5 s args (Cond.code yX11_direction cX11_direction 5 (some .int) :: UW) RX11 meth D vwCl (tyA dA) (zA ad NX sz) NX ad (celX ad dA)) (hE : zE (zXX aL aG aI aK aV) (zA ad NX sz) s s.heap) (hr : meth.sig.returnType = (some .int)) (hinj : ∀ i j, i < NX → j < NX → ad i = ad j → i = j) (hst : l.stackTraces = false) (hno : ∀ z ∈ c.exceptionTable.toList, False) {σ : zSt} {x3 : Int} {x4 : Int} (hf : fX11_direction_B41 K KX σ x3 x4) : zAt p l e ({ frames := 7, cells := 1, slots := 6, locals := 170 } : Room) s m args below meth c 1 6 (vx_MQ below (va_Qi (zPi K) (zB D vwCl (tyA dA) NX ad (celX ad dA)) (zA ad NX sz)) (zXC D vwCl (tyA dA) NX ad (celX ad dA) KX (zA ad NX sz)) args s 1 6 (zA ad NX sz)) 5 D vwCl (zA ad NX sz) NX ad (celX ad dA) 41 [(3, vI x3), (4, vI x4)] [] σ := by
  refine z_iload_n hC dX11_direction_41 0 rfl rfl ?_
  obtain ⟨g8, hf⟩ := hf
  refine z_mabs hC g8 (fun w h => uT _ w (uC u1290 (uC u845 (uC u108 (uC u846 uN))) w h)) (Nat.le_of_ble_eq_true rfl) (Nat.le_of_ble_eq_true rfl) ⟨Nat.le_of_ble_eq_true rfl, Nat.le_of_ble_eq_true rfl⟩ dX11_direction_42 ?_
  refine z_iconst hC dX11_direction_45 ?_
  refine z_iload hC dX11_direction_46 1 rfl ?_
  obtain ⟨g9, hf⟩ := hf
  refine z_mabs hC g9 (fun w h => uT _ w (uC u1290 (uC u845 (uC u108 (uC u846 uN))) w h)) (Nat.le_of_ble_eq_true rfl) (Nat.le_of_ble_eq_true rfl) ⟨Nat.le_of_ble_eq_true rfl, Nat.le_of_ble_eq_true rfl⟩ dX11_direction_48 ?_
  refine z_imul hC dX11_direction_51 ?_
  obtain ⟨g10, hf⟩ := hf
  obtain ⟨g11, hf⟩ := hf
  refine z_icmp_le (tgt := 65) hC dX11_direction_52 (by decide) g10 g11 (fun hc => ?_) (fun hc => ?_)
  · replace hf := hf.1 hc
    refine z_iload hC dX11_direction_65 1 rfl ?_
    refine z_mabs hC g9 (fun w h => uT _ w (uC u1290 (uC u845 (uC u108 (uC u846 uN))) w h)) (Nat.le_of_ble_eq_true rfl) (Nat.le_of_ble_eq_true rfl) ⟨Nat.le_of_ble_eq_true rfl, Nat.le_of_ble_eq_true rfl⟩ dX11_direction_67 ?_
    refine z_iconst hC dX11_direction_70 ?_
    refine z_iload_n hC dX11_direction_71 0 rfl rfl ?_
    refine z_mabs hC g8 (fun w h => uT _ w (uC u1290 (uC u845 (uC u108 (uC u846 uN))) w h)) (Nat.le_of_ble_eq_true rfl) (Nat.le_of_ble_eq_true rfl) ⟨Nat.le_of_ble_eq_true rfl, Nat.le_of_ble_eq_true rfl⟩ dX11_direction_72 ?_
    refine z_imul hC dX11_direction_75 ?_
    obtain ⟨g12, hf⟩ := hf
    obtain ⟨g13, hf⟩ := hf
    refine z_icmp_le (tgt := 91) hC dX11_direction_76 (by decide) g12 g13 (fun hc => ?_) (fun hc => ?_)
    · replace hf := hf.1 hc
      refine z_iload hC dX11_direction_91 1 rfl ?_
      refine z_if_le (tgt := 106) hC dX11_direction_93 (by decide) g9 (fun hc => ?_) (fun hc => ?_)
      · replace hf := hf.1 hc
        refine z_iload_n hC dX11_direction_106 0 rfl rfl ?_
        refine z_if_ge (tgt := 114) hC dX11_direction_107 (by decide) g8 (fun hc => ?_) (fun hc => ?_)
        · replace hf := hf.1 hc
          refine z_bipush hC dX11_direction_114 (by decide) ?_
          exact zx_iret hC hr rfl ⟨Nat.le_of_ble_eq_true rfl, Nat.le_of_ble_eq_true rfl⟩ dX11_direction_116 hf
        · replace hf := hf.2 hc
          refine z_iconst hC dX11_direction_110 ?_
          refine z_goto (tgt := 116) hC dX11_direction_111 (by decide) ?_
          exact zx_iret hC hr rfl ⟨Nat.le_of_ble_eq_true rfl, Nat.le_of_ble_eq_true rfl⟩ dX11_direction_116 hf
      · replace hf := hf.2 hc
        refine z_iload_n hC dX11_direction_96 0 rfl rfl ?_
        refine z_if_le (tgt := 104) hC dX11_direction_97 (by decide) g8 (fun hc => ?_) (fun hc => ?_)
        · replace hf := hf.1 hc
          refine z_iconst hC dX11_direction_104 ?_
          exact zx_iret hC hr rfl ⟨Nat.le_of_ble_eq_true rfl, Nat.le_of_ble_eq_true rfl⟩ dX11_direction_105 hf
        · replace hf := hf.2 hc
          refine z_iconst hC dX11_direction_100 ?_
          refine z_goto (tgt := 105) hC dX11_direction_101 (by decide) ?_
          exact zx_iret hC hr rfl ⟨Nat.le_of_ble_eq_true rfl, Nat.le_of_ble_eq_true rfl⟩ dX11_direction_105 hf
    · replace hf := hf.2 hc
      refine z_iload hC dX11_direction_79 1 rfl ?_
      refine z_if_le (tgt := 88) hC dX11_direction_81 (by decide) g9 (fun hc => ?_) (fun hc => ?_)
      · replace hf := hf.1 hc
        refine z_bipush hC dX11_direction_88 (by decide) ?_
        exact zx_iret hC hr rfl ⟨Nat.le_of_ble_eq_true rfl, Nat.le_of_ble_eq_true rfl⟩ dX11_direction_90 hf
      · replace hf := hf.2 hc
        refine z_iconst hC dX11_direction_84 ?_
        refine z_goto (tgt := 90) hC dX11_direction_85 (by decide) ?_
        exact zx_iret hC hr rfl ⟨Nat.le_of_ble_eq_true rfl, Nat.le_of_ble_eq_true rfl⟩ dX11_direction_90 hf
  · replace hf := hf.2 hc
    refine z_iload_n hC dX11_direction_55 0 rfl rfl ?_
    refine z_if_le (tgt := 63) hC dX11_direction_56 (by decide) g8 (fun hc => ?_) (fun hc => ?_)
    · replace hf := hf.1 hc
      refine z_iconst hC dX11_direction_63 ?_
      exact zx_iret hC hr rfl ⟨Nat.le_of_ble_eq_true rfl, Nat.le_of_ble_eq_true rfl⟩ dX11_direction_64 hf
    · replace hf := hf.2 hc
      refine z_iconst hC dX11_direction_59 ?_
      refine z_goto (tgt := 64) hC dX11_direction_60 (by decide) ?_
      exact zx_iret hC hr rfl ⟨Nat.le_of_ble_eq_true rfl, Nat.le_of_ble_eq_true rfl⟩ dX11_direction_64 hf
set_option maxHeartbeats 4000000 in
set_option maxRecDepth 100000 in
theorem mX11_direction {D : va_G} {dA : Nat → ClassId} {ad : Nat → Nat} {aL aG aI : Nat} {aK aV : Nat → Nat} (l : Launch) (hinj : ∀ i j, i < NX → j < NX → ad i = ad j → i = j) (hst : l.stackTraces = false) (sz : Nat) {K : Int → zSt → Prop} {KX : String → zSt → Prop} {σ : zSt} {x1 : Int} (hf : fX11_direction K KX σ x1) : vx_Met l yX11_direction (Cond.code yX11_direction cX11_direction 5 (some .int) :: UW) ({ frames := 7, cells := 1, slots := 6, locals := 170 } : Room) (va_Pc [vR ad 0, vI x1] (zPre D vwCl (tyA dA) (zXX aL aG aI aK aV) NX ad (celX ad dA) sz σ)) (va_Qi (zPi K) (zB D vwCl (tyA dA) NX ad (celX ad dA)) (zA ad NX sz)) (zXC D vwCl (tyA dA) NX ad (celX ad dA) KX (zA ad NX sz)) 1 6 (zA ad NX sz) := by
  refine zx_enter (cc := cX11_direction) (maxL := 5) (ret := (some .int)) (vs := [vR ad 0, vI x1]) (by decide) rfl hinj (Nat.le_of_ble_eq_true rfl) ?_
  intro p e s m args below meth c hC hE hsz hr hno
  show zAt p l e ({ frames := 7, cells := 1, slots := 6, locals := 170 } : Room) s m args below meth c 0 0 (vx_MQ below (va_Qi (zPi K) (zB D vwCl (tyA dA) NX ad (celX ad dA)) (zA ad NX sz)) (zXC D vwCl (tyA dA) NX ad (celX ad dA) KX (zA ad NX sz)) args s 1 6 (zA ad NX sz)) 5 D vwCl (zA ad NX sz) NX ad (celX ad dA) 0 [(0, vR ad 0), (1, vI x1)] [] σ
  refine z_aload_n hC dX11_direction_0 0 rfl rfl ?_
  refine z_iload_n hC dX11_direction_1 1 rfl rfl ?_
  refine zx_callVv hC hno hE (oX_11 (show kX 0 = 11 by decide)) [vI x1] (fun sz2 => mX11_requireFeature l hinj hst sz2 hf) (cwV 1 hC.1.2.2.2.2 (uV (uT _) u1248 u1250 u31 u105 u1251) rfl rfl rfl (by decide +kernel) ⟨Nat.le_of_ble_eq_true rfl, Nat.le_of_ble_eq_true rfl⟩) rfl rfl (Nat.le_of_ble_eq_true rfl) ⟨Nat.le_of_ble_eq_true rfl, Nat.le_of_ble_eq_true rfl⟩ ⟨Nat.le_of_ble_eq_true rfl, Nat.le_of_ble_eq_true rfl⟩ dX11_direction_2 (fun σ1 hf => ?_)
  refine z_aload_n hC dX11_direction_5 0 rfl rfl ?_
  refine z_iload_n hC dX11_direction_6 1 rfl rfl ?_
  refine z_callVr hC hE (oX_11 (show kX 0 = 11 by decide)) [vI x1] (fun sz2 => mX11_trackOf l hinj sz2 hf) (cwV 1 hC.1.2.2.2.2 (uV (uT _) u811 u813 u14 u105 u814) rfl rfl rfl (by decide +kernel) ⟨Nat.le_of_ble_eq_true rfl, Nat.le_of_ble_eq_true rfl⟩) rfl rfl (Nat.le_of_ble_eq_true rfl) ⟨Nat.le_of_ble_eq_true rfl, Nat.le_of_ble_eq_true rfl⟩ dX11_direction_7 (fun r2 σ2 hf => ?_)
  obtain ⟨g3, hf⟩ := hf
  refine z_astore_n hC ([(2, vR ad r2), (0, vR ad 0), (1, vI x1)]) dX11_direction_10 rfl (by decide) rfl ?_
  refine z_aload_n hC dX11_direction_11 0 rfl rfl ?_
  refine z_aload_n hC dX11_direction_12 0 rfl rfl ?_
  refine z_get hC (fun w h => uT _ w (uL10 w h)) (oX_10 g3) 4 (by decide) (uT _ _ u439) rfl rfl dX11_direction_13 ?_
  refine z_callVi hC hE (oX_10 g3) [vR ad (31 + 6 * (r2 - 24) + 0)] (fun sz2 => mX10_travelled l hinj sz2 hf) (cwV 1 hC.1.2.2.2.2 (uV (uT _) u1525 u1526 u1527 u117 u1528) rfl rfl rfl (by decide +kernel) ⟨Nat.le_of_ble_eq_true rfl, Nat.le_of_ble_eq_true rfl⟩) rfl rfl (Nat.le_of_ble_eq_true rfl) ⟨Nat.le_of_ble_eq_true rfl, Nat.le_of_ble_eq_true rfl⟩ dX11_direction_16 (fun r4 σ4 hf => ?_)
  refine z_istore_n hC ([(3, vI r4), (2, vR ad r2), (0, vR ad 0), (1, vI x1)]) dX11_direction_19 rfl (by decide) rfl ?_
  refine z_aload_n hC dX11_direction_20 1 rfl rfl ?_
  refine z_aload_n hC dX11_direction_21 1 rfl rfl ?_
  refine z_get hC (fun w h => uT _ w (uL10 w h)) (oX_10 g3) 5 (by decide) (uT _ _ u441) rfl rfl dX11_direction_22 ?_
  refine z_callVi hC hE (oX_10 g3) [vR ad (31 + 6 * (r2 - 24) + 1)] (fun sz2 => mX10_travelled l hinj sz2 hf) (cwV 1 hC.1.2.2.2.2 (uV (uT _) u1525 u1526 u1527 u117 u1528) rfl rfl rfl (by decide +kernel) ⟨Nat.le_of_ble_eq_true rfl, Nat.le_of_ble_eq_true rfl⟩) rfl rfl (Nat.le_of_ble_eq_true rfl) ⟨Nat.le_of_ble_eq_true rfl, Nat.le_of_ble_eq_true rfl⟩ dX11_direction_25 (fun r5 σ5 hf => ?_)
  refine z_istore hC ([(4, vI r5), (3, vI r4), (2, vR ad r2), (0, vR ad 0), (1, vI x1)]) dX11_direction_28 (by decide) rfl ?_
  refine z_iload_n hC dX11_direction_30 1 rfl rfl ?_
  obtain ⟨g6, hf⟩ := hf
  refine z_if_ne (tgt := 41) hC dX11_direction_31 (by decide) g6 (fun hc => ?_) (fun hc => ?_)
  · replace hf := hf.2 hc
    refine z_sub (lv' := [(3, vI r4), (4, vI r5)]) [1, 0] rfl ?_
    exact wX11_direction_B41 hC hE hr hinj hst hno  hf
  · replace hf := hf.1 hc
    refine z_iload hC dX11_direction_34 0 rfl ?_
    obtain ⟨g7, hf⟩ := hf
    refine z_if_ne (tgt := 41) hC dX11_direction_36 (by decide) g7 (fun hc => ?_) (fun hc => ?_)
    · replace hf := hf.2 hc
      refine z_sub (lv' := [(3, vI r4), (4, vI r5)]) [1, 0] rfl ?_
      exact wX11_direction_B41 hC hE hr hinj hst hno  hf
    · replace hf := hf.1 hc
      refine z_iconst hC dX11_direction_39 ?_
      exact zx_iret hC hr rfl ⟨Nat.le_of_ble_eq_true rfl, Nat.le_of_ble_eq_true rfl⟩ dX11_direction_40 hf

-- ===== X11_meltInSegment
def fX11_meltInSegment (K : Int → zSt → Prop) (KX : String → zSt → Prop) (σ : zSt) (x1 : Int) (x2 : Int) : Prop :=
  fX11_requireFeature (fun σ1 => fX11_trackOf (fun r2 σ2 => kX r2 = 10 ∧ fX11_requireSegment (fun σ4 => fX10_dayOf (fun r5 σ5 => fX10_dayOf (fun r6 σ6 => fX11_averageMelt (fun r7 σ7 => K r7 σ7) σ6 r5 r6) σ5 r2 (x2 + 1)) σ4 r2 x2) KX σ2 r2 x2) σ1 x1) KX σ x1
set_option maxHeartbeats 4000000 in
set_option maxRecDepth 100000 in
theorem mX11_meltInSegment {D : va_G} {dA : Nat → ClassId} {ad : Nat → Nat} {aL aG aI : Nat} {aK aV : Nat → Nat} (l : Launch) (hinj : ∀ i j, i < NX → j < NX → ad i = ad j → i = j) (hst : l.stackTraces = false) (sz : Nat) {K : Int → zSt → Prop} {KX : String → zSt → Prop} {σ : zSt} {x1 : Int} {x2 : Int} (hf : fX11_meltInSegment K KX σ x1 x2) : vx_Met l yX11_meltInSegment (Cond.code yX11_meltInSegment cX11_meltInSegment 4 (some .int) :: UW) ({ frames := 7, cells := 2, slots := 12, locals := 170 } : Room) (va_Pc [vR ad 0, vI x1, vI x2] (zPre D vwCl (tyA dA) (zXX aL aG aI aK aV) NX ad (celX ad dA) sz σ)) (va_Qi (zPi K) (zB D vwCl (tyA dA) NX ad (celX ad dA)) (zA ad NX sz)) (zXC D vwCl (tyA dA) NX ad (celX ad dA) KX (zA ad NX sz)) 2 12 (zA ad NX sz) := by
  refine zx_enter (cc := cX11_meltInSegment) (maxL := 4) (ret := (some .int)) (vs := [vR ad 0, vI x1, vI x2]) (by decide) rfl hinj (Nat.le_of_ble_eq_true rfl) ?_
  intro p e s m args below meth c hC hE hsz hr hno
  show zAt p l e ({ frames := 7, cells := 2, slots := 12, locals := 170 } : Room) s m args below meth c 0 0 (vx_MQ below (va_Qi (zPi K) (zB D vwCl (tyA dA) NX ad (celX ad dA)) (zA ad NX sz)) (zXC D vwCl (tyA dA) NX ad (celX ad dA) KX (zA ad NX sz)) args s 2 12 (zA ad NX sz)) 4 D vwCl (zA ad NX sz) NX ad (celX ad dA) 0 [(0, vR ad 0), (1, vI x1), (2, vI x2)] [] σ
  refine z_aload_n hC dX11_meltInSegment_0 0 rfl rfl ?_
  refine z_iload_n hC dX11_meltInSegment_1 1 rfl rfl ?_
  refine zx_callVv hC hno hE (oX_11 (show kX 0 = 11 by decide)) [vI x1] (fun sz2 => mX11_requireFeature l hinj hst sz2 hf) (cwV 1 hC.1.2.2.2.2 (uV (uT _) u1248 u1250 u31 u105 u1251) rfl rfl rfl (by decide +kernel) ⟨Nat.le_of_ble_eq_true rfl, Nat.le_of_ble_eq_true rfl⟩) rfl rfl (Nat.le_of_ble_eq_true rfl) ⟨Nat.le_of_ble_eq_true rfl, Nat.le_of_ble_eq_true rfl⟩ ⟨Nat.le_of_ble_eq_true rfl, Nat.le_of_ble_eq_true rfl⟩ dX11_meltInSegment_2 (fun σ1 hf => ?_)
  refine z_aload_n hC dX11_meltInSegment_5 0 rfl rfl ?_
  refine z_iload_n hC dX11_meltInSegment_6 1 rfl rfl ?_
  refine z_callVr hC hE (oX_11 (show kX 0 = 11 by decide)) [vI x1] (fun sz2 => mX11_trackOf l hinj sz2 hf) (cwV 1 hC.1.2.2.2.2 (uV (uT _) u811 u813 u14 u105 u814) rfl rfl rfl (by decide +kernel) ⟨Nat.le_of_ble_eq_true rfl, Nat.le_of_ble_eq_true rfl⟩) rfl rfl (Nat.le_of_ble_eq_true rfl) ⟨Nat.le_of_ble_eq_true rfl, Nat.le_of_ble_eq_true rfl⟩ dX11_meltInSegment_7 (fun r2 σ2 hf => ?_)
  obtain ⟨g3, hf⟩ := hf
  refine z_astore_n hC ([(3, vR ad r2), (0, vR ad 0), (1, vI x1), (2, vI x2)]) dX11_meltInSegment_10 rfl (by decide) rfl ?_
  refine z_aload_n hC dX11_meltInSegment_11 0 rfl rfl ?_
  refine z_iload_n hC dX11_meltInSegment_12 3 rfl rfl ?_
  refine zx_callSv hC hno hE [vR ad r2, vI x2] (fun sz2 => mX11_requireSegment l hinj hst sz2 hf) (va_cwS 2 hC.1.2.2.2.2 (uS (uT _) u1320 u1321 u105 u1322) rfl rfl rfl (by decide +kernel) ⟨Nat.le_of_ble_eq_true rfl, Nat.le_of_ble_eq_true rfl⟩) rfl rfl (Nat.le_of_ble_eq_true rfl) ⟨Nat.le_of_ble_eq_true rfl, Nat.le_of_ble_eq_true rfl⟩ ⟨Nat.le_of_ble_eq_true rfl, Nat.le_of_ble_eq_true rfl⟩ dX11_meltInSegment_13 (fun σ4 hf => ?_)
  refine z_aload_n hC dX11_meltInSegment_16 1 rfl rfl ?_
  refine z_aload_n hC dX11_meltInSegment_17 0 rfl rfl ?_
  refine z_iload_n hC dX11_meltInSegment_18 3 rfl rfl ?_
  refine z_callVi hC hE (oX_10 g3) [vI x2] (fun sz2 => mX10_dayOf l hinj sz2 hf) (cwV 1 hC.1.2.2.2.2 (uV (uT _) u1374 u928 u929 u117 u930) rfl rfl rfl (by decide +kernel) ⟨Nat.le_of_ble_eq_true rfl, Nat.le_of_ble_eq_true rfl⟩) rfl rfl (Nat.le_of_ble_eq_true rfl) ⟨Nat.le_of_ble_eq_true rfl, Nat.le_of_ble_eq_true rfl⟩ dX11_meltInSegment_19 (fun r5 σ5 hf => ?_)
  refine z_aload_n hC dX11_meltInSegment_22 0 rfl rfl ?_
  refine z_iload_n hC dX11_meltInSegment_23 3 rfl rfl ?_
  refine z_iconst hC dX11_meltInSegment_24 ?_
  refine z_iadd hC dX11_meltInSegment_25 ?_
  refine z_callVi hC hE (oX_10 g3) [vI (x2 + 1)] (fun sz2 => mX10_dayOf l hinj sz2 hf) (cwV 1 hC.1.2.2.2.2 (uV (uT _) u1374 u928 u929 u117 u930) rfl rfl rfl (by decide +kernel) ⟨Nat.le_of_ble_eq_true rfl, Nat.le_of_ble_eq_true rfl⟩) rfl rfl (Nat.le_of_ble_eq_true rfl) ⟨Nat.le_of_ble_eq_true rfl, Nat.le_of_ble_eq_true rfl⟩ dX11_meltInSegment_26 (fun r6 σ6 hf => ?_)
  refine z_callVi hC hE (oX_11 (show kX 0 = 11 by decide)) [vI r5, vI r6] (fun sz2 => mX11_averageMelt l hinj sz2 hf) (cwV 2 hC.1.2.2.2.2 (uV (uT _) u995 u997 u24 u105 u998) rfl rfl rfl (by decide +kernel) ⟨Nat.le_of_ble_eq_true rfl, Nat.le_of_ble_eq_true rfl⟩) rfl rfl (Nat.le_of_ble_eq_true rfl) ⟨Nat.le_of_ble_eq_true rfl, Nat.le_of_ble_eq_true rfl⟩ dX11_meltInSegment_29 (fun r7 σ7 hf => ?_)
  exact zx_iret hC hr rfl ⟨Nat.le_of_ble_eq_true rfl, Nat.le_of_ble_eq_true rfl⟩ dX11_meltInSegment_32 hf
