
-- ===== X11_match
def fX11_match (K : Int → zSt → Prop) (KX : String → zSt → Prop) (σ : zSt) (x1 : Int) (x2 : Int) (x3 : Int) (x4 : Int) : Prop :=
  fX11_matchOf (fun r1 σ1 => r1 = 22 ∧ fX5_exists (fun r3 σ3 => zrg r3 ∧ ((r3 = 0 → K (-1) σ3) ∧ (¬ r3 = 0 → K ((16 * (σ3 22 1)) + (σ3 22 2)) σ3))) σ1 ) KX σ x1 x2 x3 x4
set_option maxHeartbeats 4000000 in
set_option maxRecDepth 100000 in
theorem mX11_match {D : va_G} {dA : Nat → ClassId} {ad : Nat → Nat} {aL aG aI : Nat} {aK aV : Nat → Nat} (l : Launch) (hinj : ∀ i j, i < NX → j < NX → ad i = ad j → i = j) (hst : l.stackTraces = false) (sz : Nat) {K : Int → zSt → Prop} {KX : String → zSt → Prop} {σ : zSt} {x1 : Int} {x2 : Int} {x3 : Int} {x4 : Int} (hf : fX11_match K KX σ x1 x2 x3 x4) : vx_Met l yX11_match (Cond.code yX11_match cX11_match 6 (some .int) :: UW) ({ frames := 8, cells := 3, slots := 18, locals := 156 } : Room) (va_Pc [vR ad 0, vI x1, vI x2, vI x3, vI x4] (zPre D vwCl (tyA dA) (zXX aL aG aI aK aV) NX ad (celX ad dA) sz σ)) (va_Qi (zPi K) (zB D vwCl (tyA dA) NX ad (celX ad dA)) (zA ad NX sz)) (zXC D vwCl (tyA dA) NX ad (celX ad dA) KX (zA ad NX sz)) 3 18 (zA ad NX sz) := by
  refine zx_enter (cc := cX11_match) (maxL := 6) (ret := (some .int)) (vs := [vR ad 0, vI x1, vI x2, vI x3, vI x4]) (by decide) rfl hinj (Nat.le_of_ble_eq_true rfl) ?_
  intro p e s m args below meth c hC hE hsz hr hno
  show zAt p l e ({ frames := 8, cells := 3, slots := 18, locals := 156 } : Room) s m args below meth c 0 0 (vx_MQ below (va_Qi (zPi K) (zB D vwCl (tyA dA) NX ad (celX ad dA)) (zA ad NX sz)) (zXC D vwCl (tyA dA) NX ad (celX ad dA) KX (zA ad NX sz)) args s 3 18 (zA ad NX sz)) 6 D vwCl (zA ad NX sz) NX ad (celX ad dA) 0 [(0, vR ad 0), (1, vI x1), (2, vI x2), (3, vI x3), (4, vI x4)] [] σ
  refine z_aload_n hC dX11_match_0 0 rfl rfl ?_
  refine z_iload_n hC dX11_match_1 1 rfl rfl ?_
  refine z_iload_n hC dX11_match_2 2 rfl rfl ?_
  refine z_iload_n hC dX11_match_3 3 rfl rfl ?_
  refine z_iload hC dX11_match_4 4 rfl ?_
  refine zx_callVr hC hno hE (oX_11 (show kX 0 = 11 by decide)) [vI x1, vI x2, vI x3, vI x4] (fun sz2 => mX11_matchOf l hinj hst sz2 hf) (cwV 4 hC.1.2.2.2.2 (uV (uT _) u1221 u1223 u30 u105 u1224) rfl rfl rfl (by decide +kernel) ⟨Nat.le_of_ble_eq_true rfl, Nat.le_of_ble_eq_true rfl⟩) rfl rfl (Nat.le_of_ble_eq_true rfl) ⟨Nat.le_of_ble_eq_true rfl, Nat.le_of_ble_eq_true rfl⟩ ⟨Nat.le_of_ble_eq_true rfl, Nat.le_of_ble_eq_true rfl⟩ dX11_match_6 (fun r1 σ1 hf => ?_)
  obtain ⟨g2, hf⟩ := hf
  subst g2
  refine z_astore hC ([(5, vR ad 22), (0, vR ad 0), (1, vI x1), (2, vI x2), (3, vI x3), (4, vI x4)]) dX11_match_9 (by decide) rfl ?_
  refine z_aload hC dX11_match_11 0 rfl ?_
  refine z_callVi hC hE (oX_5 (show kX 22 = 5 by decide)) [] (fun sz2 => mX5_exists l hinj sz2 hf) (cwV 0 hC.1.2.2.2.2 (uV (uT _) u1226 u902 u903 u116 u904) rfl rfl rfl (by decide +kernel) ⟨Nat.le_of_ble_eq_true rfl, Nat.le_of_ble_eq_true rfl⟩) rfl rfl (Nat.le_of_ble_eq_true rfl) ⟨Nat.le_of_ble_eq_true rfl, Nat.le_of_ble_eq_true rfl⟩ dX11_match_13 (fun r3 σ3 hf => ?_)
  obtain ⟨g4, hf⟩ := hf
  refine z_if_eq (tgt := 36) hC dX11_match_16 (by decide) g4 (fun hc => ?_) (fun hc => ?_)
  · replace hf := hf.1 hc
    refine z_iconst hC dX11_match_36 ?_
    exact zx_iret hC hr rfl ⟨Nat.le_of_ble_eq_true rfl, Nat.le_of_ble_eq_true rfl⟩ dX11_match_37 hf
  · replace hf := hf.2 hc
    refine z_bipush hC dX11_match_19 (by decide) ?_
    refine z_aload hC dX11_match_21 0 rfl ?_
    refine z_get hC (fun w h => uT _ w (uL5 w h)) (oX_5 (show kX 22 = 5 by decide)) 1 (by decide) (uT _ _ u400) rfl rfl dX11_match_23 ?_
    refine z_imul hC dX11_match_26 ?_
    refine z_aload hC dX11_match_27 0 rfl ?_
    refine z_get hC (fun w h => uT _ w (uL5 w h)) (oX_5 (show kX 22 = 5 by decide)) 2 (by decide) (uT _ _ u403) rfl rfl dX11_match_29 ?_
    refine z_iadd hC dX11_match_32 ?_
    refine z_goto (tgt := 37) hC dX11_match_33 (by decide) ?_
    exact zx_iret hC hr rfl ⟨Nat.le_of_ble_eq_true rfl, Nat.le_of_ble_eq_true rfl⟩ dX11_match_37 hf

-- ===== X11_matchError
def fX11_matchError (K : Int → zSt → Prop) (KX : String → zSt → Prop) (σ : zSt) (x1 : Int) (x2 : Int) (x3 : Int) (x4 : Int) : Prop :=
  fX11_matchOf (fun r1 σ1 => r1 = 22 ∧ fX5_exists (fun r3 σ3 => zrg r3 ∧ ((r3 = 0 → K (-1) σ3) ∧ (¬ r3 = 0 → K (σ3 22 3) σ3))) σ1 ) KX σ x1 x2 x3 x4
set_option maxHeartbeats 4000000 in
set_option maxRecDepth 100000 in
theorem mX11_matchError {D : va_G} {dA : Nat → ClassId} {ad : Nat → Nat} {aL aG aI : Nat} {aK aV : Nat → Nat} (l : Launch) (hinj : ∀ i j, i < NX → j < NX → ad i = ad j → i = j) (hst : l.stackTraces = false) (sz : Nat) {K : Int → zSt → Prop} {KX : String → zSt → Prop} {σ : zSt} {x1 : Int} {x2 : Int} {x3 : Int} {x4 : Int} (hf : fX11_matchError K KX σ x1 x2 x3 x4) : vx_Met l yX11_matchError (Cond.code yX11_matchError cX11_matchError 6 (some .int) :: UW) ({ frames := 8, cells := 3, slots := 18, locals := 156 } : Room) (va_Pc [vR ad 0, vI x1, vI x2, vI x3, vI x4] (zPre D vwCl (tyA dA) (zXX aL aG aI aK aV) NX ad (celX ad dA) sz σ)) (va_Qi (zPi K) (zB D vwCl (tyA dA) NX ad (celX ad dA)) (zA ad NX sz)) (zXC D vwCl (tyA dA) NX ad (celX ad dA) KX (zA ad NX sz)) 3 18 (zA ad NX sz) := by
  refine zx_enter (cc := cX11_matchError) (maxL := 6) (ret := (some .int)) (vs := [vR ad 0, vI x1, vI x2, vI x3, vI x4]) (by decide) rfl hinj (Nat.le_of_ble_eq_true rfl) ?_
  intro p e s m args below meth c hC hE hsz hr hno
  show zAt p l e ({ frames := 8, cells := 3, slots := 18, locals := 156 } : Room) s m args below meth c 0 0 (vx_MQ below (va_Qi (zPi K) (zB D vwCl (tyA dA) NX ad (celX ad dA)) (zA ad NX sz)) (zXC D vwCl (tyA dA) NX ad (celX ad dA) KX (zA ad NX sz)) args s 3 18 (zA ad NX sz)) 6 D vwCl (zA ad NX sz) NX ad (celX ad dA) 0 [(0, vR ad 0), (1, vI x1), (2, vI x2), (3, vI x3), (4, vI x4)] [] σ
  refine z_aload_n hC dX11_matchError_0 0 rfl rfl ?_
  refine z_iload_n hC dX11_matchError_1 1 rfl rfl ?_
  refine z_iload_n hC dX11_matchError_2 2 rfl rfl ?_
  refine z_iload_n hC dX11_matchError_3 3 rfl rfl ?_
  refine z_iload hC dX11_matchError_4 4 rfl ?_
  refine zx_callVr hC hno hE (oX_11 (show kX 0 = 11 by decide)) [vI x1, vI x2, vI x3, vI x4] (fun sz2 => mX11_matchOf l hinj hst sz2 hf) (cwV 4 hC.1.2.2.2.2 (uV (uT _) u1221 u1223 u30 u105 u1224) rfl rfl rfl (by decide +kernel) ⟨Nat.le_of_ble_eq_true rfl, Nat.le_of_ble_eq_true rfl⟩) rfl rfl (Nat.le_of_ble_eq_true rfl) ⟨Nat.le_of_ble_eq_true rfl, Nat.le_of_ble_eq_true rfl⟩ ⟨Nat.le_of_ble_eq_true rfl, Nat.le_of_ble_eq_true rfl⟩ dX11_matchError_6 (fun r1 σ1 hf => ?_)
  obtain ⟨g2, hf⟩ := hf
  subst g2
  refine z_astore hC ([(5, vR ad 22), (0, vR ad 0), (1, vI x1), (2, vI x2), (3, vI x3), (4, vI x4)]) dX11_matchError_9 (by decide) rfl ?_
  refine z_aload hC dX11_matchError_11 0 rfl ?_
  refine z_callVi hC hE (oX_5 (show kX 22 = 5 by decide)) [] (fun sz2 => mX5_exists l hinj sz2 hf) (cwV 0 hC.1.2.2.2.2 (uV (uT _) u1226 u902 u903 u116 u904) rfl rfl rfl (by decide +kernel) ⟨Nat.le_of_ble_eq_true rfl, Nat.le_of_ble_eq_true rfl⟩) rfl rfl (Nat.le_of_ble_eq_true rfl) ⟨Nat.le_of_ble_eq_true rfl, Nat.le_of_ble_eq_true rfl⟩ dX11_matchError_13 (fun r3 σ3 hf => ?_)
  obtain ⟨g4, hf⟩ := hf
  refine z_if_eq (tgt := 27) hC dX11_matchError_16 (by decide) g4 (fun hc => ?_) (fun hc => ?_)
  · replace hf := hf.1 hc
    refine z_iconst hC dX11_matchError_27 ?_
    exact zx_iret hC hr rfl ⟨Nat.le_of_ble_eq_true rfl, Nat.le_of_ble_eq_true rfl⟩ dX11_matchError_28 hf
  · replace hf := hf.2 hc
    refine z_aload hC dX11_matchError_19 0 rfl ?_
    refine z_get hC (fun w h => uT _ w (uL5 w h)) (oX_5 (show kX 22 = 5 by decide)) 3 (by decide) (uT _ _ u406) rfl rfl dX11_matchError_21 ?_
    refine z_goto (tgt := 28) hC dX11_matchError_24 (by decide) ?_
    exact zx_iret hC hr rfl ⟨Nat.le_of_ble_eq_true rfl, Nat.le_of_ble_eq_true rfl⟩ dX11_matchError_28 hf

-- ===== X11_matchMargin
def fX11_matchMargin (K : Int → zSt → Prop) (KX : String → zSt → Prop) (σ : zSt) (x1 : Int) (x2 : Int) (x3 : Int) (x4 : Int) : Prop :=
  fX11_matchOf (fun r1 σ1 => r1 = 22 ∧ zrg (σ1 22 0) ∧ ((σ1 22 0 ≤ 1 → K (-1) σ1) ∧ (¬ σ1 22 0 ≤ 1 → K ((σ1 22 4) - (σ1 22 3)) σ1))) KX σ x1 x2 x3 x4
set_option maxHeartbeats 4000000 in
set_option maxRecDepth 100000 in
theorem mX11_matchMargin {D : va_G} {dA : Nat → ClassId} {ad : Nat → Nat} {aL aG aI : Nat} {aK aV : Nat → Nat} (l : Launch) (hinj : ∀ i j, i < NX → j < NX → ad i = ad j → i = j) (hst : l.stackTraces = false) (sz : Nat) {K : Int → zSt → Prop} {KX : String → zSt → Prop} {σ : zSt} {x1 : Int} {x2 : Int} {x3 : Int} {x4 : Int} (hf : fX11_matchMargin K KX σ x1 x2 x3 x4) : vx_Met l yX11_matchMargin (Cond.code yX11_matchMargin cX11_matchMargin 6 (some .int) :: UW) ({ frames := 8, cells := 3, slots := 18, locals := 156 } : Room) (va_Pc [vR ad 0, vI x1, vI x2, vI x3, vI x4] (zPre D vwCl (tyA dA) (zXX aL aG aI aK aV) NX ad (celX ad dA) sz σ)) (va_Qi (zPi K) (zB D vwCl (tyA dA) NX ad (celX ad dA)) (zA ad NX sz)) (zXC D vwCl (tyA dA) NX ad (celX ad dA) KX (zA ad NX sz)) 3 18 (zA ad NX sz) := by
  refine zx_enter (cc := cX11_matchMargin) (maxL := 6) (ret := (some .int)) (vs := [vR ad 0, vI x1, vI x2, vI x3, vI x4]) (by decide) rfl hinj (Nat.le_of_ble_eq_true rfl) ?_
  intro p e s m args below meth c hC hE hsz hr hno
  show zAt p l e ({ frames := 8, cells := 3, slots := 18, locals := 156 } : Room) s m args below meth c 0 0 (vx_MQ below (va_Qi (zPi K) (zB D vwCl (tyA dA) NX ad (celX ad dA)) (zA ad NX sz)) (zXC D vwCl (tyA dA) NX ad (celX ad dA) KX (zA ad NX sz)) args s 3 18 (zA ad NX sz)) 6 D vwCl (zA ad NX sz) NX ad (celX ad dA) 0 [(0, vR ad 0), (1, vI x1), (2, vI x2), (3, vI x3), (4, vI x4)] [] σ
  refine z_aload_n hC dX11_matchMargin_0 0 rfl rfl ?_
  refine z_iload_n hC dX11_matchMargin_1 1 rfl rfl ?_
  refine z_iload_n hC dX11_matchMargin_2 2 rfl rfl ?_
  refine z_iload_n hC dX11_matchMargin_3 3 rfl rfl ?_
  refine z_iload hC dX11_matchMargin_4 4 rfl ?_
  refine zx_callVr hC hno hE (oX_11 (show kX 0 = 11 by decide)) [vI x1, vI x2, vI x3, vI x4] (fun sz2 => mX11_matchOf l hinj hst sz2 hf) (cwV 4 hC.1.2.2.2.2 (uV (uT _) u1221 u1223 u30 u105 u1224) rfl rfl rfl (by decide +kernel) ⟨Nat.le_of_ble_eq_true rfl, Nat.le_of_ble_eq_true rfl⟩) rfl rfl (Nat.le_of_ble_eq_true rfl) ⟨Nat.le_of_ble_eq_true rfl, Nat.le_of_ble_eq_true rfl⟩ ⟨Nat.le_of_ble_eq_true rfl, Nat.le_of_ble_eq_true rfl⟩ dX11_matchMargin_6 (fun r1 σ1 hf => ?_)
  obtain ⟨g2, hf⟩ := hf
  subst g2
  refine z_astore hC ([(5, vR ad 22), (0, vR ad 0), (1, vI x1), (2, vI x2), (3, vI x3), (4, vI x4)]) dX11_matchMargin_9 (by decide) rfl ?_
  refine z_aload hC dX11_matchMargin_11 0 rfl ?_
  refine z_get hC (fun w h => uT _ w (uL5 w h)) (oX_5 (show kX 22 = 5 by decide)) 0 (by decide) (uT _ _ u397) rfl rfl dX11_matchMargin_13 ?_
  refine z_iconst hC dX11_matchMargin_16 ?_
  obtain ⟨g3, hf⟩ := hf
  refine z_icmp_le (tgt := 34) hC dX11_matchMargin_17 (by decide) g3 (zlit rfl rfl) (fun hc => ?_) (fun hc => ?_)
  · replace hf := hf.1 hc
    refine z_iconst hC dX11_matchMargin_34 ?_
    exact zx_iret hC hr rfl ⟨Nat.le_of_ble_eq_true rfl, Nat.le_of_ble_eq_true rfl⟩ dX11_matchMargin_35 hf
  · replace hf := hf.2 hc
    refine z_aload hC dX11_matchMargin_20 0 rfl ?_
    refine z_get hC (fun w h => uT _ w (uL5 w h)) (oX_5 (show kX 22 = 5 by decide)) 4 (by decide) (uT _ _ u408) rfl rfl dX11_matchMargin_22 ?_
    refine z_aload hC dX11_matchMargin_25 0 rfl ?_
    refine z_get hC (fun w h => uT _ w (uL5 w h)) (oX_5 (show kX 22 = 5 by decide)) 3 (by decide) (uT _ _ u406) rfl rfl dX11_matchMargin_27 ?_
    refine z_isub hC dX11_matchMargin_30 ?_
    refine z_goto (tgt := 35) hC dX11_matchMargin_31 (by decide) ?_
    exact zx_iret hC hr rfl ⟨Nat.le_of_ble_eq_true rfl, Nat.le_of_ble_eq_true rfl⟩ dX11_matchMargin_35 hf

-- ===== X11_requireFeature
def fX11_requireFeature (K : zSt → Prop) (KX : String → zSt → Prop) (σ : zSt) (x1 : Int) : Prop :=
  kX (σ 0 0) = 8 ∧ fX7_has (fun r2 σ2 => zrg r2 ∧ ((r2 = 0 → KX "java/lang/IndexOutOfBoundsException" σ2) ∧ (¬ r2 = 0 → K σ2))) σ ((σ 0 0) + 7) x1
set_option maxHeartbeats 4000000 in
set_option maxRecDepth 100000 in
theorem mX11_requireFeature {D : va_G} {dA : Nat → ClassId} {ad : Nat → Nat} {aL aG aI : Nat} {aK aV : Nat → Nat} (l : Launch) (hinj : ∀ i j, i < NX → j < NX → ad i = ad j → i = j) (hst : l.stackTraces = false) (sz : Nat) {K : zSt → Prop} {KX : String → zSt → Prop} {σ : zSt} {x1 : Int} (hf : fX11_requireFeature K KX σ x1) : vx_Met l yX11_requireFeature (Cond.code yX11_requireFeature cX11_requireFeature 2 none :: UW) ({ frames := 6, cells := 1, slots := 6, locals := 82 } : Room) (va_Pc [vR ad 0, vI x1] (zPre D vwCl (tyA dA) (zXX aL aG aI aK aV) NX ad (celX ad dA) sz σ)) (va_Qv K (zB D vwCl (tyA dA) NX ad (celX ad dA)) (zA ad NX sz)) (zXC D vwCl (tyA dA) NX ad (celX ad dA) KX (zA ad NX sz)) 1 6 (zA ad NX sz) := by
  refine zx_enter (cc := cX11_requireFeature) (maxL := 2) (ret := none) (vs := [vR ad 0, vI x1]) (by decide) rfl hinj (Nat.le_of_ble_eq_true rfl) ?_
  intro p e s m args below meth c hC hE hsz hr hno
  show zAt p l e ({ frames := 6, cells := 1, slots := 6, locals := 82 } : Room) s m args below meth c 0 0 (vx_MQ below (va_Qv K (zB D vwCl (tyA dA) NX ad (celX ad dA)) (zA ad NX sz)) (zXC D vwCl (tyA dA) NX ad (celX ad dA) KX (zA ad NX sz)) args s 1 6 (zA ad NX sz)) 2 D vwCl (zA ad NX sz) NX ad (celX ad dA) 0 [(0, vR ad 0), (1, vI x1)] [] σ
  refine z_aload_n hC dX11_requireFeature_0 0 rfl rfl ?_
  refine z_get hC (fun w h => uT _ w (uL11 w h)) (oX_11 (show kX 0 = 11 by decide)) 0 (by decide) (uT _ _ u467) rfl rfl dX11_requireFeature_1 ?_
  obtain ⟨g1, hf⟩ := hf
  refine z_get hC (fun w h => uT _ w (uL8 w h)) (oX_8 g1) 8 (by decide) (uT _ _ u244) rfl rfl dX11_requireFeature_4 ?_
  refine z_iload_n hC dX11_requireFeature_7 1 rfl rfl ?_
  refine z_callVi hC hE (oX_7 (kf_8_8 g1)) [vI x1] (fun sz2 => mX7_has l hinj sz2 hf) (cwV 1 hC.1.2.2.2.2 (uV (uT _) u939 u664 u665 u107 u666) rfl rfl rfl (by decide +kernel) ⟨Nat.le_of_ble_eq_true rfl, Nat.le_of_ble_eq_true rfl⟩) rfl rfl (Nat.le_of_ble_eq_true rfl) ⟨Nat.le_of_ble_eq_true rfl, Nat.le_of_ble_eq_true rfl⟩ dX11_requireFeature_8 (fun r2 σ2 hf => ?_)
  obtain ⟨g3, hf⟩ := hf
  refine z_if_ne (tgt := 25) hC dX11_requireFeature_11 (by decide) g3 (fun hc => ?_) (fun hc => ?_)
  · replace hf := hf.2 hc
    exact zx_vret hC hr rfl ⟨Nat.le_of_ble_eq_true rfl, Nat.le_of_ble_eq_true rfl⟩ dX11_requireFeature_25 hf
  · replace hf := hf.1 hc
    exact zx_throw hC hE rfl hst hno (names := ["java/lang/RuntimeException", "java/lang/Exception"]) (by decide +kernel) (by decide +kernel) (uT _ _ u1065) (uT _ _ u126) (List.mem_of_getElem? (i := 17) rfl) (fun w h => uT _ w (uE391 w h)) uB391 uF391 dX11_requireFeature_14 dX11_requireFeature_17 dX11_requireFeature_18 dX11_requireFeature_21 dX11_requireFeature_24 (Nat.le_of_ble_eq_true rfl) (Nat.le_of_ble_eq_true rfl) ⟨Nat.le_of_ble_eq_true rfl, Nat.le_of_ble_eq_true rfl⟩ ⟨Nat.le_of_ble_eq_true rfl, Nat.le_of_ble_eq_true rfl⟩ hf

-- ===== X11_trackOf
def fX11_trackOf (K : Int → zSt → Prop) (σ : zSt) (x1 : Int) : Prop :=
  (0 ≤ x1 ∧ x1 < 6) ∧ zrg (σ (24 + x1) 0) ∧ zrg (σ 0 8) ∧ ((σ (24 + x1) 0 = σ 0 8 → K (24 + x1) σ) ∧ (¬ σ (24 + x1) 0 = σ 0 8 → kX (σ 0 0) = 8 ∧ fX11_currentOrientation (fun r5 σ5 => r5 = 17 ∧ kX (σ5 0 0) = 8 ∧ fX10_trace (fun σ8 => ∀ σ9, σ9 = zu σ8 (24 + x1) 0 (σ8 0 8) → K (24 + x1) σ9) σ5 (24 + x1) (σ 0 0) x1 (σ5 ((σ5 0 0) + 1) 4)) σ ))
set_option maxHeartbeats 4000000 in
set_option maxRecDepth 100000 in
theorem mX11_trackOf {D : va_G} {dA : Nat → ClassId} {ad : Nat → Nat} {aL aG aI : Nat} {aK aV : Nat → Nat} (l : Launch) (hinj : ∀ i j, i < NX → j < NX → ad i = ad j → i = j) (sz : Nat) {K : Int → zSt → Prop} {σ : zSt} {x1 : Int} (hf : fX11_trackOf K σ x1) : Met l yX11_trackOf (Cond.code yX11_trackOf cX11_trackOf 3 (some (.object "GlacierCamera$Track")) :: UW) ({ frames := 5, cells := 0, slots := 0, locals := 148 } : Room) (va_Pc [vR ad 0, vI x1] (zPre D vwCl (tyA dA) (zXX aL aG aI aK aV) NX ad (celX ad dA) sz σ)) (va_Qr (fun u : Int × zSt => K u.1 u.2) (zQr D vwCl (tyA dA) NX ad (celX ad dA)) (zA ad NX sz)) 0 0 (zA ad NX sz) := by
  refine z_enter (cc := cX11_trackOf) (maxL := 3) (ret := (some (.object "GlacierCamera$Track"))) (vs := [vR ad 0, vI x1]) (plainFor_of_name (by decide)) rfl hinj (Nat.le_of_ble_eq_true rfl) ?_
  intro p e s m args below meth c hC hE hsz hr hnm
  show zAt p l e ({ frames := 5, cells := 0, slots := 0, locals := 148 } : Room) s m args below meth c 0 0 (MQ below (va_Qr (fun u : Int × zSt => K u.1 u.2) (zQr D vwCl (tyA dA) NX ad (celX ad dA)) (zA ad NX sz)) args s 0 0 (zA ad NX sz)) 3 D vwCl (zA ad NX sz) NX ad (celX ad dA) 0 [(0, vR ad 0), (1, vI x1)] [] σ
  refine z_aload_n hC dX11_trackOf_0 0 rfl rfl ?_
  refine z_get hC (fun w h => uT _ w (uL11 w h)) (oX_11 (show kX 0 = 11 by decide)) 5 (by decide) (uT _ _ u472) rfl rfl dX11_trackOf_1 ?_
  refine z_iload_n hC dX11_trackOf_4 1 rfl rfl ?_
  obtain ⟨g1, hf⟩ := hf
  refine z_aaload hC (aX_23 (show kX 23 = 23 by decide)) g1 dX11_trackOf_5 ?_
  refine z_astore_n hC ([(2, vR ad (24 + x1)), (0, vR ad 0), (1, vI x1)]) dX11_trackOf_6 rfl (by decide) rfl ?_
  refine z_aload_n hC dX11_trackOf_7 0 rfl rfl ?_
  refine z_get hC (fun w h => uT _ w (uL10 w h)) (oX_10 (ke_23 (show kX 23 = 23 by decide) g1)) 0 (by decide) (uT _ _ u431) rfl rfl dX11_trackOf_8 ?_
  refine z_aload_n hC dX11_trackOf_11 1 rfl rfl ?_
  refine z_get hC (fun w h => uT _ w (uL11 w h)) (oX_11 (show kX 0 = 11 by decide)) 8 (by decide) (uT _ _ u475) rfl rfl dX11_trackOf_12 ?_
  obtain ⟨g2, hf⟩ := hf
  obtain ⟨g3, hf⟩ := hf
  refine z_icmp_eq (tgt := 52) hC dX11_trackOf_15 (by decide) g2 g3 (fun hc => ?_) (fun hc => ?_)
  · replace hf := hf.1 hc
    refine z_aload_n hC dX11_trackOf_52 0 rfl rfl ?_
    exact z_aret hC hr rfl dX11_trackOf_53 hf
  · replace hf := hf.2 hc
    refine z_aload_n hC dX11_trackOf_18 0 rfl rfl ?_
    refine z_aload_n hC dX11_trackOf_19 1 rfl rfl ?_
    refine z_get hC (fun w h => uT _ w (uL11 w h)) (oX_11 (show kX 0 = 11 by decide)) 0 (by decide) (uT _ _ u467) rfl rfl dX11_trackOf_20 ?_
    obtain ⟨g4, hf⟩ := hf
    refine z_aload_n hC dX11_trackOf_23 1 rfl rfl ?_
    refine z_callVr hC hE (oX_11 (show kX 0 = 11 by decide)) [] (fun sz2 => mX11_currentOrientation l hinj sz2 hf) (cwV 0 hC.1.2.2.2.2 (uV (uT _) u815 u817 u15 u105 u818) rfl rfl rfl (by decide +kernel) ⟨Nat.le_of_ble_eq_true rfl, Nat.le_of_ble_eq_true rfl⟩) rfl rfl (Nat.le_of_ble_eq_true rfl) ⟨Nat.le_of_ble_eq_true rfl, Nat.le_of_ble_eq_true rfl⟩ dX11_trackOf_24 (fun r5 σ5 hf => ?_)
    obtain ⟨g6, hf⟩ := hf
    subst g6
    refine z_aload_n hC dX11_trackOf_27 1 rfl rfl ?_
    refine z_get hC (fun w h => uT _ w (uL11 w h)) (oX_11 (show kX 0 = 11 by decide)) 4 (by decide) (uT _ _ u471) rfl rfl dX11_trackOf_28 ?_
    refine z_iload_n hC dX11_trackOf_31 2 rfl rfl ?_
    refine z_aload_n hC dX11_trackOf_32 1 rfl rfl ?_
    refine z_get hC (fun w h => uT _ w (uL11 w h)) (oX_11 (show kX 0 = 11 by decide)) 0 (by decide) (uT _ _ u467) rfl rfl dX11_trackOf_33 ?_
    obtain ⟨g7, hf⟩ := hf
    refine z_get hC (fun w h => uT _ w (uL8 w h)) (oX_8 g7) 4 (by decide) (uT _ _ u230) rfl rfl dX11_trackOf_36 ?_
    refine z_iconst hC dX11_trackOf_39 ?_
    refine z_iaload hC (aX_17 (kf_8_4 g7)) ⟨by decide, by decide⟩ dX11_trackOf_40 ?_
    refine z_callVv hC hE (oX_10 (ke_23 (show kX 23 = 23 by decide) g1)) [vR ad (σ 0 0), vR ad 17, vR ad 22, vI x1, vI (σ5 ((σ5 0 0) + 1) 4)] (fun sz2 => mX10_trace l hinj sz2 hf) (cwV 5 hC.1.2.2.2.2 (uV (uT _) u856 u857 u858 u117 u859) rfl rfl rfl (by decide +kernel) ⟨Nat.le_of_ble_eq_true rfl, Nat.le_of_ble_eq_true rfl⟩) rfl rfl (Nat.le_of_ble_eq_true rfl) ⟨Nat.le_of_ble_eq_true rfl, Nat.le_of_ble_eq_true rfl⟩ dX11_trackOf_41 (fun σ8 hf => ?_)
    refine z_aload_n hC dX11_trackOf_44 0 rfl rfl ?_
    refine z_aload_n hC dX11_trackOf_45 1 rfl rfl ?_
    refine z_get hC (fun w h => uT _ w (uL11 w h)) (oX_11 (show kX 0 = 11 by decide)) 8 (by decide) (uT _ _ u475) rfl rfl dX11_trackOf_46 ?_
    refine z_put hC (ty := .int) tyX10 tyX10_ok nmX10 (fun w h => uT _ w (uL10 w h)) (oX_10 (ke_23 (show kX 23 = 23 by decide) g1)) (loX' (ke_23 (show kX 23 = 23 by decide) g1) (by decide)) 0 (by decide) (uT _ _ u431) rfl rfl (0) (σ8 0 8) (by simp [zu]) (by decide +kernel) rfl rfl (Nat.le_of_ble_eq_true rfl) dX11_trackOf_49 ?_
    obtain ⟨σ9, eσ9⟩ : ∃ z : zSt, z = zu σ8 (24 + x1) 0 (σ8 0 8) := ⟨_, rfl⟩
    rw [← eσ9]
    replace hf := hf σ9 eσ9
    refine z_aload_n hC dX11_trackOf_52 0 rfl rfl ?_
    exact z_aret hC hr rfl dX11_trackOf_53 hf

-- ===== X11_trackX
def fX11_trackX (K : Int → zSt → Prop) (KX : String → zSt → Prop) (σ : zSt) (x1 : Int) (x2 : Int) : Prop :=
  fX11_requireFeature (fun σ1 => fX11_requireFrame (fun σ2 => fX11_trackOf (fun r3 σ3 => kX r3 = 10 ∧ fX10_columnIn (fun r5 σ5 => K r5 σ5) σ3 r3 x2) σ2 x1) KX σ1 x2) KX σ x1
set_option maxHeartbeats 4000000 in
set_option maxRecDepth 100000 in
theorem mX11_trackX {D : va_G} {dA : Nat → ClassId} {ad : Nat → Nat} {aL aG aI : Nat} {aK aV : Nat → Nat} (l : Launch) (hinj : ∀ i j, i < NX → j < NX → ad i = ad j → i = j) (hst : l.stackTraces = false) (sz : Nat) {K : Int → zSt → Prop} {KX : String → zSt → Prop} {σ : zSt} {x1 : Int} {x2 : Int} (hf : fX11_trackX K KX σ x1 x2) : vx_Met l yX11_trackX (Cond.code yX11_trackX cX11_trackX 3 (some .int) :: UW) ({ frames := 7, cells := 2, slots := 12, locals := 170 } : Room) (va_Pc [vR ad 0, vI x1, vI x2] (zPre D vwCl (tyA dA) (zXX aL aG aI aK aV) NX ad (celX ad dA) sz σ)) (va_Qi (zPi K) (zB D vwCl (tyA dA) NX ad (celX ad dA)) (zA ad NX sz)) (zXC D vwCl (tyA dA) NX ad (celX ad dA) KX (zA ad NX sz)) 2 12 (zA ad NX sz) := by
  refine zx_enter (cc := cX11_trackX) (maxL := 3) (ret := (some .int)) (vs := [vR ad 0, vI x1, vI x2]) (by decide) rfl hinj (Nat.le_of_ble_eq_true rfl) ?_
  intro p e s m args below meth c hC hE hsz hr hno
  show zAt p l e ({ frames := 7, cells := 2, slots := 12, locals := 170 } : Room) s m args below meth c 0 0 (vx_MQ below (va_Qi (zPi K) (zB D vwCl (tyA dA) NX ad (celX ad dA)) (zA ad NX sz)) (zXC D vwCl (tyA dA) NX ad (celX ad dA) KX (zA ad NX sz)) args s 2 12 (zA ad NX sz)) 3 D vwCl (zA ad NX sz) NX ad (celX ad dA) 0 [(0, vR ad 0), (1, vI x1), (2, vI x2)] [] σ
  refine z_aload_n hC dX11_trackX_0 0 rfl rfl ?_
  refine z_iload_n hC dX11_trackX_1 1 rfl rfl ?_
  refine zx_callVv hC hno hE (oX_11 (show kX 0 = 11 by decide)) [vI x1] (fun sz2 => mX11_requireFeature l hinj hst sz2 hf) (cwV 1 hC.1.2.2.2.2 (uV (uT _) u1248 u1250 u31 u105 u1251) rfl rfl rfl (by decide +kernel) ⟨Nat.le_of_ble_eq_true rfl, Nat.le_of_ble_eq_true rfl⟩) rfl rfl (Nat.le_of_ble_eq_true rfl) ⟨Nat.le_of_ble_eq_true rfl, Nat.le_of_ble_eq_true rfl⟩ ⟨Nat.le_of_ble_eq_true rfl, Nat.le_of_ble_eq_true rfl⟩ dX11_trackX_2 (fun σ1 hf => ?_)
  refine z_aload_n hC dX11_trackX_5 0 rfl rfl ?_
  refine z_iload_n hC dX11_trackX_6 2 rfl rfl ?_
  refine zx_callVv hC hno hE (oX_11 (show kX 0 = 11 by decide)) [vI x2] (fun sz2 => mX11_requireFrame l hinj hst sz2 hf) (cwV 1 hC.1.2.2.2.2 (uV (uT _) u1061 u1063 u26 u105 u1064) rfl rfl rfl (by decide +kernel) ⟨Nat.le_of_ble_eq_true rfl, Nat.le_of_ble_eq_true rfl⟩) rfl rfl (Nat.le_of_ble_eq_true rfl) ⟨Nat.le_of_ble_eq_true rfl, Nat.le_of_ble_eq_true rfl⟩ ⟨Nat.le_of_ble_eq_true rfl, Nat.le_of_ble_eq_true rfl⟩ dX11_trackX_7 (fun σ2 hf => ?_)
  refine z_aload_n hC dX11_trackX_10 0 rfl rfl ?_
  refine z_iload_n hC dX11_trackX_11 1 rfl rfl ?_
  refine z_callVr hC hE (oX_11 (show kX 0 = 11 by decide)) [vI x1] (fun sz2 => mX11_trackOf l hinj sz2 hf) (cwV 1 hC.1.2.2.2.2 (uV (uT _) u811 u813 u14 u105 u814) rfl rfl rfl (by decide +kernel) ⟨Nat.le_of_ble_eq_true rfl, Nat.le_of_ble_eq_true rfl⟩) rfl rfl (Nat.le_of_ble_eq_true rfl) ⟨Nat.le_of_ble_eq_true rfl, Nat.le_of_ble_eq_true rfl⟩ dX11_trackX_12 (fun r3 σ3 hf => ?_)
  obtain ⟨g4, hf⟩ := hf
  refine z_iload_n hC dX11_trackX_15 2 rfl rfl ?_
  refine z_callVi hC hE (oX_10 g4) [vI x2] (fun sz2 => mX10_columnIn l hinj sz2 hf) (cwV 1 hC.1.2.2.2.2 (uV (uT _) u1253 u1254 u1255 u117 u1256) rfl rfl rfl (by decide +kernel) ⟨Nat.le_of_ble_eq_true rfl, Nat.le_of_ble_eq_true rfl⟩) rfl rfl (Nat.le_of_ble_eq_true rfl) ⟨Nat.le_of_ble_eq_true rfl, Nat.le_of_ble_eq_true rfl⟩ dX11_trackX_16 (fun r5 σ5 hf => ?_)
  exact zx_iret hC hr rfl ⟨Nat.le_of_ble_eq_true rfl, Nat.le_of_ble_eq_true rfl⟩ dX11_trackX_19 hf

-- ===== X11_trackY
def fX11_trackY (K : Int → zSt → Prop) (KX : String → zSt → Prop) (σ : zSt) (x1 : Int) (x2 : Int) : Prop :=
  fX11_requireFeature (fun σ1 => fX11_requireFrame (fun σ2 => fX11_trackOf (fun r3 σ3 => kX r3 = 10 ∧ fX10_rowIn (fun r5 σ5 => K r5 σ5) σ3 r3 x2) σ2 x1) KX σ1 x2) KX σ x1
set_option maxHeartbeats 4000000 in
set_option maxRecDepth 100000 in
theorem mX11_trackY {D : va_G} {dA : Nat → ClassId} {ad : Nat → Nat} {aL aG aI : Nat} {aK aV : Nat → Nat} (l : Launch) (hinj : ∀ i j, i < NX → j < NX → ad i = ad j → i = j) (hst : l.stackTraces = false) (sz : Nat) {K : Int → zSt → Prop} {KX : String → zSt → Prop} {σ : zSt} {x1 : Int} {x2 : Int} (hf : fX11_trackY K KX σ x1 x2) : vx_Met l yX11_trackY (Cond.code yX11_trackY cX11_trackY 3 (some .int) :: UW) ({ frames := 7, cells := 2, slots := 12, locals := 170 } : Room) (va_Pc [vR ad 0, vI x1, vI x2] (zPre D vwCl (tyA dA) (zXX aL aG aI aK aV) NX ad (celX ad dA) sz σ)) (va_Qi (zPi K) (zB D vwCl (tyA dA) NX ad (celX ad dA)) (zA ad NX sz)) (zXC D vwCl (tyA dA) NX ad (celX ad dA) KX (zA ad NX sz)) 2 12 (zA ad NX sz) := by
  refine zx_enter (cc := cX11_trackY) (maxL := 3) (ret := (some .int)) (vs := [vR ad 0, vI x1, vI x2]) (by decide) rfl hinj (Nat.le_of_ble_eq_true rfl) ?_
  intro p e s m args below meth c hC hE hsz hr hno
  show zAt p l e ({ frames := 7, cells := 2, slots := 12, locals := 170 } : Room) s m args below meth c 0 0 (vx_MQ below (va_Qi (zPi K) (zB D vwCl (tyA dA) NX ad (celX ad dA)) (zA ad NX sz)) (zXC D vwCl (tyA dA) NX ad (celX ad dA) KX (zA ad NX sz)) args s 2 12 (zA ad NX sz)) 3 D vwCl (zA ad NX sz) NX ad (celX ad dA) 0 [(0, vR ad 0), (1, vI x1), (2, vI x2)] [] σ
  refine z_aload_n hC dX11_trackY_0 0 rfl rfl ?_
  refine z_iload_n hC dX11_trackY_1 1 rfl rfl ?_
  refine zx_callVv hC hno hE (oX_11 (show kX 0 = 11 by decide)) [vI x1] (fun sz2 => mX11_requireFeature l hinj hst sz2 hf) (cwV 1 hC.1.2.2.2.2 (uV (uT _) u1248 u1250 u31 u105 u1251) rfl rfl rfl (by decide +kernel) ⟨Nat.le_of_ble_eq_true rfl, Nat.le_of_ble_eq_true rfl⟩) rfl rfl (Nat.le_of_ble_eq_true rfl) ⟨Nat.le_of_ble_eq_true rfl, Nat.le_of_ble_eq_true rfl⟩ ⟨Nat.le_of_ble_eq_true rfl, Nat.le_of_ble_eq_true rfl⟩ dX11_trackY_2 (fun σ1 hf => ?_)
  refine z_aload_n hC dX11_trackY_5 0 rfl rfl ?_
  refine z_iload_n hC dX11_trackY_6 2 rfl rfl ?_
  refine zx_callVv hC hno hE (oX_11 (show kX 0 = 11 by decide)) [vI x2] (fun sz2 => mX11_requireFrame l hinj hst sz2 hf) (cwV 1 hC.1.2.2.2.2 (uV (uT _) u1061 u1063 u26 u105 u1064) rfl rfl rfl (by decide +kernel) ⟨Nat.le_of_ble_eq_true rfl, Nat.le_of_ble_eq_true rfl⟩) rfl rfl (Nat.le_of_ble_eq_true rfl) ⟨Nat.le_of_ble_eq_true rfl, Nat.le_of_ble_eq_true rfl⟩ ⟨Nat.le_of_ble_eq_true rfl, Nat.le_of_ble_eq_true rfl⟩ dX11_trackY_7 (fun σ2 hf => ?_)
  refine z_aload_n hC dX11_trackY_10 0 rfl rfl ?_
  refine z_iload_n hC dX11_trackY_11 1 rfl rfl ?_
  refine z_callVr hC hE (oX_11 (show kX 0 = 11 by decide)) [vI x1] (fun sz2 => mX11_trackOf l hinj sz2 hf) (cwV 1 hC.1.2.2.2.2 (uV (uT _) u811 u813 u14 u105 u814) rfl rfl rfl (by decide +kernel) ⟨Nat.le_of_ble_eq_true rfl, Nat.le_of_ble_eq_true rfl⟩) rfl rfl (Nat.le_of_ble_eq_true rfl) ⟨Nat.le_of_ble_eq_true rfl, Nat.le_of_ble_eq_true rfl⟩ dX11_trackY_12 (fun r3 σ3 hf => ?_)
  obtain ⟨g4, hf⟩ := hf
  refine z_iload_n hC dX11_trackY_15 2 rfl rfl ?_
  refine z_callVi hC hE (oX_10 g4) [vI x2] (fun sz2 => mX10_rowIn l hinj sz2 hf) (cwV 1 hC.1.2.2.2.2 (uV (uT _) u1268 u1269 u1270 u117 u1271) rfl rfl rfl (by decide +kernel) ⟨Nat.le_of_ble_eq_true rfl, Nat.le_of_ble_eq_true rfl⟩) rfl rfl (Nat.le_of_ble_eq_true rfl) ⟨Nat.le_of_ble_eq_true rfl, Nat.le_of_ble_eq_true rfl⟩ dX11_trackY_16 (fun r5 σ5 hf => ?_)
  exact zx_iret hC hr rfl ⟨Nat.le_of_ble_eq_true rfl, Nat.le_of_ble_eq_true rfl⟩ dX11_trackY_19 hf

-- ===== X11_lostCount
def fX11_lostCount (K : Int → zSt → Prop) (KX : String → zSt → Prop) (σ : zSt) (x1 : Int) : Prop :=
  fX11_requireFeature (fun σ1 => fX11_trackOf (fun r2 σ2 => kX r2 = 10 ∧ K (σ2 r2 2) σ2) σ1 x1) KX σ x1
set_option maxHeartbeats 4000000 in
set_option maxRecDepth 100000 in
theorem mX11_lostCount {D : va_G} {dA : Nat → ClassId} {ad : Nat → Nat} {aL aG aI : Nat} {aK aV : Nat → Nat} (l : Launch) (hinj : ∀ i j, i < NX → j < NX → ad i = ad j → i = j) (hst : l.stackTraces = false) (sz : Nat) {K : Int → zSt → Prop} {KX : String → zSt → Prop} {σ : zSt} {x1 : Int} (hf : fX11_lostCount K KX σ x1) : vx_Met l yX11_lostCount (Cond.code yX11_lostCount cX11_lostCount 2 (some .int) :: UW) ({ frames := 7, cells := 1, slots := 6, locals := 170 } : Room) (va_Pc [vR ad 0, vI x1] (zPre D vwCl (tyA dA) (zXX aL aG aI aK aV) NX ad (celX ad dA) sz σ)) (va_Qi (zPi K) (zB D vwCl (tyA dA) NX ad (celX ad dA)) (zA ad NX sz)) (zXC D vwCl (tyA dA) NX ad (celX ad dA) KX (zA ad NX sz)) 1 6 (zA ad NX sz) := by
  refine zx_enter (cc := cX11_lostCount) (maxL := 2) (ret := (some .int)) (vs := [vR ad 0, vI x1]) (by decide) rfl hinj (Nat.le_of_ble_eq_true rfl) ?_
  intro p e s m args below meth c hC hE hsz hr hno
  show zAt p l e ({ frames := 7, cells := 1, slots := 6, locals := 170 } : Room) s m args below meth c 0 0 (vx_MQ below (va_Qi (zPi K) (zB D vwCl (tyA dA) NX ad (celX ad dA)) (zA ad NX sz)) (zXC D vwCl (tyA dA) NX ad (celX ad dA) KX (zA ad NX sz)) args s 1 6 (zA ad NX sz)) 2 D vwCl (zA ad NX sz) NX ad (celX ad dA) 0 [(0, vR ad 0), (1, vI x1)] [] σ
  refine z_aload_n hC dX11_lostCount_0 0 rfl rfl ?_
  refine z_iload_n hC dX11_lostCount_1 1 rfl rfl ?_
  refine zx_callVv hC hno hE (oX_11 (show kX 0 = 11 by decide)) [vI x1] (fun sz2 => mX11_requireFeature l hinj hst sz2 hf) (cwV 1 hC.1.2.2.2.2 (uV (uT _) u1248 u1250 u31 u105 u1251) rfl rfl rfl (by decide +kernel) ⟨Nat.le_of_ble_eq_true rfl, Nat.le_of_ble_eq_true rfl⟩) rfl rfl (Nat.le_of_ble_eq_true rfl) ⟨Nat.le_of_ble_eq_true rfl, Nat.le_of_ble_eq_true rfl⟩ ⟨Nat.le_of_ble_eq_true rfl, Nat.le_of_ble_eq_true rfl⟩ dX11_lostCount_2 (fun σ1 hf => ?_)
  refine z_aload_n hC dX11_lostCount_5 0 rfl rfl ?_
  refine z_iload_n hC dX11_lostCount_6 1 rfl rfl ?_
  refine z_callVr hC hE (oX_11 (show kX 0 = 11 by decide)) [vI x1] (fun sz2 => mX11_trackOf l hinj sz2 hf) (cwV 1 hC.1.2.2.2.2 (uV (uT _) u811 u813 u14 u105 u814) rfl rfl rfl (by decide +kernel) ⟨Nat.le_of_ble_eq_true rfl, Nat.le_of_ble_eq_true rfl⟩) rfl rfl (Nat.le_of_ble_eq_true rfl) ⟨Nat.le_of_ble_eq_true rfl, Nat.le_of_ble_eq_true rfl⟩ dX11_lostCount_7 (fun r2 σ2 hf => ?_)
  obtain ⟨g3, hf⟩ := hf
  refine z_get hC (fun w h => uT _ w (uL10 w h)) (oX_10 g3) 2 (by decide) (uT _ _ u435) rfl rfl dX11_lostCount_10 ?_
  exact zx_iret hC hr rfl ⟨Nat.le_of_ble_eq_true rfl, Nat.le_of_ble_eq_true rfl⟩ dX11_lostCount_13 hf

-- ===== X11_errorOfLoop
def fX11_errorOfLoop_B140 (K : Int → zSt → Prop) (σ : zSt) (x6 : Int) (x7 : Int) : Prop :=
  fX5_exists (fun r14 σ14 => zrg r14 ∧ ((r14 = 0 → K (-1) σ14) ∧ (¬ r14 = 0 → zrg ((σ14 22 1) - x6) ∧ zrg ((σ14 22 2) - x7) ∧ K ((((σ14 22 1) - x6).natAbs : Int) + (((σ14 22 2) - x7).natAbs : Int)) σ14))) σ 
def fX11_errorOfLoop_B100 (K : Int → zSt → Prop) (σ : zSt) (x3 : Int) (x5 : Int) (x6 : Int) (x7 : Int) : Prop :=
  fX5_exists (fun r10 σ10 => zrg r10 ∧ ((r10 = 0 → fX11_errorOfLoop_B140 K σ10 x6 x7) ∧ (¬ r10 = 0 → kX (σ10 0 0) = 8 ∧ fX5_search (fun σ13 => fX11_errorOfLoop_B140 K σ13 x6 x7) σ10 (σ10 0 0) x3 (σ10 22 1) (σ10 22 2) x5))) σ 
def fX11_errorOfLoop (K : Int → zSt → Prop) (σ : zSt) (x1 : Int) (x2 : Int) (x3 : Int) : Prop :=
  fX11_currentOrientation (fun r1 σ1 => r1 = 17 ∧ kX (σ1 0 0) = 8 ∧ (0 ≤ x1 ∧ x1 < 6) ∧ fX5_search (fun σ5 => fX5_exists (fun r6 σ6 => zrg r6 ∧ ((r6 = 0 → fX11_errorOfLoop_B100 K σ6 x3 (σ1 17 1) (σ1 (((σ1 0 0) + 7) + 1) x1) (σ1 (((σ1 0 0) + 7) + 2) x1)) ∧ (¬ r6 = 0 → kX (σ6 0 0) = 8 ∧ fX5_search (fun σ9 => fX11_errorOfLoop_B100 K σ9 x3 (σ1 17 1) (σ1 (((σ1 0 0) + 7) + 1) x1) (σ1 (((σ1 0 0) + 7) + 2) x1)) σ6 (σ6 0 0) x2 (σ6 22 1) (σ6 22 2) x3))) σ5 ) σ1 (σ1 0 0) (σ1 17 1) (σ1 (((σ1 0 0) + 7) + 1) x1) (σ1 (((σ1 0 0) + 7) + 2) x1) x2) σ 
set_option maxHeartbeats 4000000 in
set_option maxRecDepth 100000 in
theorem wX11_errorOfLoop_B140 {p : Program} {l : Launch} {e : Env} {s : State} {m : MethodId} {args : Array Value} {below : List Frame} {meth : Method} {c : Code} {D : va_G} {dA : Nat → ClassId} {ad : Nat → Nat} {sz : Nat} {aL aG aI : Nat} {aK aV : Nat → Nat} {K : Int → zSt → Prop} (hC : zC p m c cX11_errorOfLoop 8 s args (Cond.code yX11_errorOfLoop cX11_errorOfLoop 8 (some .int) :: UW) RX11 meth D vwCl (tyA dA) (zA ad NX sz) NX ad (celX ad dA)) (hE : zE (zXX aL aG aI aK aV) (zA ad NX sz) s s.heap) (hr : meth.sig.returnType = (some .int)) (hinj : ∀ i j, i < NX → j < NX → ad i = ad j → i = j) {σ : zSt} {x6 : Int} {x7 : Int} (hf : fX11_errorOfLoop_B140 K σ x6 x7) : zAt p l e ({ frames := 5, cells := 0, slots := 0, locals := 132 } : Room) s m args below meth c 0 0 (MQ below (va_Qi (zPi K) (zB D vwCl (tyA dA) NX ad (celX ad dA)) (zA ad NX sz)) args s 0 0 (zA ad NX sz)) 8 D vwCl (zA ad NX sz) NX ad (celX ad dA) 140 [(0, vR ad 0), (6, vI x6), (7, vI x7)] [] σ := by
  refine z_aload_n hC dX11_errorOfLoop_140 0 rfl rfl ?_
  refine z_get hC (fun w h => uT _ w (uL11 w h)) (oX_11 (show kX 0 = 11 by decide)) 4 (by decide) (uT _ _ u471) rfl rfl dX11_errorOfLoop_141 ?_
  refine z_callVi hC hE (oX_5 (show kX 22 = 5 by decide)) [] (fun sz2 => mX5_exists l hinj sz2 hf) (cwV 0 hC.1.2.2.2.2 (uV (uT _) u1226 u902 u903 u116 u904) rfl rfl rfl (by decide +kernel) ⟨Nat.le_of_ble_eq_true rfl, Nat.le_of_ble_eq_true rfl⟩) rfl rfl (Nat.le_of_ble_eq_true rfl) ⟨Nat.le_of_ble_eq_true rfl, Nat.le_of_ble_eq_true rfl⟩ dX11_errorOfLoop_144 (fun r14 σ14 hf => ?_)
  obtain ⟨g15, hf⟩ := hf
  refine z_if_eq (tgt := 180) hC dX11_errorOfLoop_147 (by decide) g15 (fun hc => ?_) (fun hc => ?_)
  · replace hf := hf.1 hc
    refine z_iconst hC dX11_errorOfLoop_180 ?_
    exact z_iret hC hr rfl dX11_errorOfLoop_181 hf
  · replace hf := hf.2 hc
    refine z_aload_n hC dX11_errorOfLoop_150 0 rfl rfl ?_
    refine z_get hC (fun w h => uT _ w (uL11 w h)) (oX_11 (show kX 0 = 11 by decide)) 4 (by decide) (uT _ _ u471) rfl rfl dX11_errorOfLoop_151 ?_
    refine z_get hC (fun w h => uT _ w (uL5 w h)) (oX_5 (show kX 22 = 5 by decide)) 1 (by decide) (uT _ _ u400) rfl rfl dX11_errorOfLoop_154 ?_
    refine z_iload hC dX11_errorOfLoop_157 1 rfl ?_
    refine z_isub hC dX11_errorOfLoop_159 ?_
    obtain ⟨g16, hf⟩ := hf
    refine z_mabs hC g16 (fun w h => uT _ w (uC u1290 (uC u845 (uC u108 (uC u846 uN))) w h)) (Nat.le_of_ble_eq_true rfl) (Nat.le_of_ble_eq_true rfl) ⟨Nat.le_of_ble_eq_true rfl, Nat.le_of_ble_eq_true rfl⟩ dX11_errorOfLoop_160 ?_
    refine z_aload_n hC dX11_errorOfLoop_163 0 rfl rfl ?_
    refine z_get hC (fun w h => uT _ w (uL11 w h)) (oX_11 (show kX 0 = 11 by decide)) 4 (by decide) (uT _ _ u471) rfl rfl dX11_errorOfLoop_164 ?_
    refine z_get hC (fun w h => uT _ w (uL5 w h)) (oX_5 (show kX 22 = 5 by decide)) 2 (by decide) (uT _ _ u403) rfl rfl dX11_errorOfLoop_167 ?_
    refine z_iload hC dX11_errorOfLoop_170 2 rfl ?_
    refine z_isub hC dX11_errorOfLoop_172 ?_
    obtain ⟨g17, hf⟩ := hf
    refine z_mabs hC g17 (fun w h => uT _ w (uC u1290 (uC u845 (uC u108 (uC u846 uN))) w h)) (Nat.le_of_ble_eq_true rfl) (Nat.le_of_ble_eq_true rfl) ⟨Nat.le_of_ble_eq_true rfl, Nat.le_of_ble_eq_true rfl⟩ dX11_errorOfLoop_173 ?_
    refine z_iadd hC dX11_errorOfLoop_176 ?_
    refine z_goto (tgt := 181) hC dX11_errorOfLoop_177 (by decide) ?_
    exact z_iret hC hr rfl dX11_errorOfLoop_181 hf
set_option maxHeartbeats 4000000 in
set_option maxRecDepth 100000 in
theorem wX11_errorOfLoop_B100 {p : Program} {l : Launch} {e : Env} {s : State} {m : MethodId} {args : Array Value} {below : List Frame} {meth : Method} {c : Code} {D : va_G} {dA : Nat → ClassId} {ad : Nat → Nat} {sz : Nat} {aL aG aI : Nat} {aK aV : Nat → Nat} {K : Int → zSt → Prop} (hC : zC p m c cX11_errorOfLoop 8 s args (Cond.code yX11_errorOfLoop cX11_errorOfLoop 8 (some .int) :: UW) RX11 meth D vwCl (tyA dA) (zA ad NX sz) NX ad (celX ad dA)) (hE : zE (zXX aL aG aI aK aV) (zA ad NX sz) s s.heap) (hr : meth.sig.returnType = (some .int)) (hinj : ∀ i j, i < NX → j < NX → ad i = ad j → i = j) {σ : zSt} {x3 : Int} {x5 : Int} {x6 : Int} {x7 : Int} (hf : fX11_errorOfLoop_B100 K σ x3 x5 x6 x7) : zAt p l e ({ frames := 5, cells := 0, slots := 0, locals := 132 } : Room) s m args below meth c 0 0 (MQ below (va_Qi (zPi K) (zB D vwCl (tyA dA) NX ad (celX ad dA)) (zA ad NX sz)) args s 0 0 (zA ad NX sz)) 8 D vwCl (zA ad NX sz) NX ad (celX ad dA) 100 [(0, vR ad 0), (3, vI x3), (4, vR ad 17), (5, vI x5), (6, vI x6), (7, vI x7)] [] σ := by
  refine z_aload_n hC dX11_errorOfLoop_100 0 rfl rfl ?_
  refine z_get hC (fun w h => uT _ w (uL11 w h)) (oX_11 (show kX 0 = 11 by decide)) 4 (by decide) (uT _ _ u471) rfl rfl dX11_errorOfLoop_101 ?_
  refine z_callVi hC hE (oX_5 (show kX 22 = 5 by decide)) [] (fun sz2 => mX5_exists l hinj sz2 hf) (cwV 0 hC.1.2.2.2.2 (uV (uT _) u1226 u902 u903 u116 u904) rfl rfl rfl (by decide +kernel) ⟨Nat.le_of_ble_eq_true rfl, Nat.le_of_ble_eq_true rfl⟩) rfl rfl (Nat.le_of_ble_eq_true rfl) ⟨Nat.le_of_ble_eq_true rfl, Nat.le_of_ble_eq_true rfl⟩ dX11_errorOfLoop_104 (fun r10 σ10 hf => ?_)
  obtain ⟨g11, hf⟩ := hf
  refine z_if_eq (tgt := 140) hC dX11_errorOfLoop_107 (by decide) g11 (fun hc => ?_) (fun hc => ?_)
  · replace hf := hf.1 hc
    refine z_sub (lv' := [(0, vR ad 0), (6, vI x6), (7, vI x7)]) [0, 4, 5] rfl ?_
    exact wX11_errorOfLoop_B140 hC hE hr hinj  hf
  · replace hf := hf.2 hc
    refine z_aload_n hC dX11_errorOfLoop_110 0 rfl rfl ?_
    refine z_get hC (fun w h => uT _ w (uL11 w h)) (oX_11 (show kX 0 = 11 by decide)) 4 (by decide) (uT _ _ u471) rfl rfl dX11_errorOfLoop_111 ?_
    refine z_aload_n hC dX11_errorOfLoop_114 0 rfl rfl ?_
    refine z_get hC (fun w h => uT _ w (uL11 w h)) (oX_11 (show kX 0 = 11 by decide)) 0 (by decide) (uT _ _ u467) rfl rfl dX11_errorOfLoop_115 ?_
    obtain ⟨g12, hf⟩ := hf
    refine z_aload hC dX11_errorOfLoop_118 2 rfl ?_
    refine z_iload_n hC dX11_errorOfLoop_120 1 rfl rfl ?_
    refine z_aload_n hC dX11_errorOfLoop_121 0 rfl rfl ?_
    refine z_get hC (fun w h => uT _ w (uL11 w h)) (oX_11 (show kX 0 = 11 by decide)) 4 (by decide) (uT _ _ u471) rfl rfl dX11_errorOfLoop_122 ?_
    refine z_get hC (fun w h => uT _ w (uL5 w h)) (oX_5 (show kX 22 = 5 by decide)) 1 (by decide) (uT _ _ u400) rfl rfl dX11_errorOfLoop_125 ?_
    refine z_aload_n hC dX11_errorOfLoop_128 0 rfl rfl ?_
    refine z_get hC (fun w h => uT _ w (uL11 w h)) (oX_11 (show kX 0 = 11 by decide)) 4 (by decide) (uT _ _ u471) rfl rfl dX11_errorOfLoop_129 ?_
    refine z_get hC (fun w h => uT _ w (uL5 w h)) (oX_5 (show kX 22 = 5 by decide)) 2 (by decide) (uT _ _ u403) rfl rfl dX11_errorOfLoop_132 ?_
    refine z_iload hC dX11_errorOfLoop_135 3 rfl ?_
    refine z_callVv hC hE (oX_5 (show kX 22 = 5 by decide)) [vR ad (σ10 0 0), vR ad 17, vI x3, vI (σ10 22 1), vI (σ10 22 2), vI x5] (fun sz2 => mX5_search l hinj sz2 hf) (cwV 6 hC.1.2.2.2.2 (uV (uT _) u1225 u888 u889 u116 u890) rfl rfl rfl (by decide +kernel) ⟨Nat.le_of_ble_eq_true rfl, Nat.le_of_ble_eq_true rfl⟩) rfl rfl (Nat.le_of_ble_eq_true rfl) ⟨Nat.le_of_ble_eq_true rfl, Nat.le_of_ble_eq_true rfl⟩ dX11_errorOfLoop_137 (fun σ13 hf => ?_)
    refine z_sub (lv' := [(0, vR ad 0), (6, vI x6), (7, vI x7)]) [0, 4, 5] rfl ?_
    exact wX11_errorOfLoop_B140 hC hE hr hinj  hf
set_option maxHeartbeats 4000000 in
set_option maxRecDepth 100000 in
theorem mX11_errorOfLoop {D : va_G} {dA : Nat → ClassId} {ad : Nat → Nat} {aL aG aI : Nat} {aK aV : Nat → Nat} (l : Launch) (hinj : ∀ i j, i < NX → j < NX → ad i = ad j → i = j) (sz : Nat) {K : Int → zSt → Prop} {σ : zSt} {x1 : Int} {x2 : Int} {x3 : Int} (hf : fX11_errorOfLoop K σ x1 x2 x3) : Met l yX11_errorOfLoop (Cond.code yX11_errorOfLoop cX11_errorOfLoop 8 (some .int) :: UW) ({ frames := 5, cells := 0, slots := 0, locals := 132 } : Room) (va_Pc [vR ad 0, vI x1, vI x2, vI x3] (zPre D vwCl (tyA dA) (zXX aL aG aI aK aV) NX ad (celX ad dA) sz σ)) (va_Qi (zPi K) (zB D vwCl (tyA dA) NX ad (celX ad dA)) (zA ad NX sz)) 0 0 (zA ad NX sz) := by
  refine z_enter (cc := cX11_errorOfLoop) (maxL := 8) (ret := (some .int)) (vs := [vR ad 0, vI x1, vI x2, vI x3]) (plainFor_of_name (by decide)) rfl hinj (Nat.le_of_ble_eq_true rfl) ?_
  intro p e s m args below meth c hC hE hsz hr hnm
  show zAt p l e ({ frames := 5, cells := 0, slots := 0, locals := 132 } : Room) s m args below meth c 0 0 (MQ below (va_Qi (zPi K) (zB D vwCl (tyA dA) NX ad (celX ad dA)) (zA ad NX sz)) args s 0 0 (zA ad NX sz)) 8 D vwCl (zA ad NX sz) NX ad (celX ad dA) 0 [(0, vR ad 0), (1, vI x1), (2, vI x2), (3, vI x3)] [] σ
  refine z_aload_n hC dX11_errorOfLoop_0 0 rfl rfl ?_
  refine z_callVr hC hE (oX_11 (show kX 0 = 11 by decide)) [] (fun sz2 => mX11_currentOrientation l hinj sz2 hf) (cwV 0 hC.1.2.2.2.2 (uV (uT _) u815 u817 u15 u105 u818) rfl rfl rfl (by decide +kernel) ⟨Nat.le_of_ble_eq_true rfl, Nat.le_of_ble_eq_true rfl⟩) rfl rfl (Nat.le_of_ble_eq_true rfl) ⟨Nat.le_of_ble_eq_true rfl, Nat.le_of_ble_eq_true rfl⟩ dX11_errorOfLoop_1 (fun r1 σ1 hf => ?_)
  obtain ⟨g2, hf⟩ := hf
  subst g2
  refine z_astore hC ([(4, vR ad 17), (0, vR ad 0), (1, vI x1), (2, vI x2), (3, vI x3)]) dX11_errorOfLoop_4 (by decide) rfl ?_
  refine z_aload hC dX11_errorOfLoop_6 0 rfl ?_
  refine z_get hC (fun w h => uT _ w (uL6 w h)) (oX_6 (show kX 17 = 6 by decide)) 1 (by decide) (uT _ _ u372) rfl rfl dX11_errorOfLoop_8 ?_
  refine z_istore hC ([(5, vI (σ1 17 1)), (4, vR ad 17), (0, vR ad 0), (1, vI x1), (2, vI x2), (3, vI x3)]) dX11_errorOfLoop_11 (by decide) rfl ?_
  refine z_aload_n hC dX11_errorOfLoop_13 2 rfl rfl ?_
  refine z_get hC (fun w h => uT _ w (uL11 w h)) (oX_11 (show kX 0 = 11 by decide)) 0 (by decide) (uT _ _ u467) rfl rfl dX11_errorOfLoop_14 ?_
  obtain ⟨g3, hf⟩ := hf
  refine z_get hC (fun w h => uT _ w (uL8 w h)) (oX_8 g3) 8 (by decide) (uT _ _ u244) rfl rfl dX11_errorOfLoop_17 ?_
  refine z_get hC (fun w h => uT _ w (uL7 w h)) (oX_7 (kf_8_8 g3)) 1 (by decide) (uT _ _ u159) rfl rfl dX11_errorOfLoop_20 ?_
  refine z_iload_n hC dX11_errorOfLoop_23 3 rfl rfl ?_
  obtain ⟨g4, hf⟩ := hf
  refine z_iaload hC (aX_14 (kf_7_1 (kf_8_8 g3))) g4 dX11_errorOfLoop_24 ?_
  refine z_istore hC ([(6, vI (σ1 (((σ1 0 0) + 7) + 1) x1)), (5, vI (σ1 17 1)), (4, vR ad 17), (0, vR ad 0), (1, vI x1), (2, vI x2), (3, vI x3)]) dX11_errorOfLoop_25 (by decide) rfl ?_
  refine z_aload_n hC dX11_errorOfLoop_27 3 rfl rfl ?_
  refine z_get hC (fun w h => uT _ w (uL11 w h)) (oX_11 (show kX 0 = 11 by decide)) 0 (by decide) (uT _ _ u467) rfl rfl dX11_errorOfLoop_28 ?_
  refine z_get hC (fun w h => uT _ w (uL8 w h)) (oX_8 g3) 8 (by decide) (uT _ _ u244) rfl rfl dX11_errorOfLoop_31 ?_
  refine z_get hC (fun w h => uT _ w (uL7 w h)) (oX_7 (kf_8_8 g3)) 2 (by decide) (uT _ _ u163) rfl rfl dX11_errorOfLoop_34 ?_
  refine z_iload_n hC dX11_errorOfLoop_37 4 rfl rfl ?_
  refine z_iaload hC (aX_14 (kf_7_2 (kf_8_8 g3))) g4 dX11_errorOfLoop_38 ?_
  refine z_istore hC ([(7, vI (σ1 (((σ1 0 0) + 7) + 2) x1)), (6, vI (σ1 (((σ1 0 0) + 7) + 1) x1)), (5, vI (σ1 17 1)), (4, vR ad 17), (0, vR ad 0), (1, vI x1), (2, vI x2), (3, vI x3)]) dX11_errorOfLoop_39 (by decide) rfl ?_
  refine z_aload_n hC dX11_errorOfLoop_41 4 rfl rfl ?_
  refine z_get hC (fun w h => uT _ w (uL11 w h)) (oX_11 (show kX 0 = 11 by decide)) 4 (by decide) (uT _ _ u471) rfl rfl dX11_errorOfLoop_42 ?_
  refine z_aload_n hC dX11_errorOfLoop_45 4 rfl rfl ?_
  refine z_get hC (fun w h => uT _ w (uL11 w h)) (oX_11 (show kX 0 = 11 by decide)) 0 (by decide) (uT _ _ u467) rfl rfl dX11_errorOfLoop_46 ?_
  refine z_aload hC dX11_errorOfLoop_49 3 rfl ?_
  refine z_iload hC dX11_errorOfLoop_51 2 rfl ?_
  refine z_iload hC dX11_errorOfLoop_53 1 rfl ?_
  refine z_iload hC dX11_errorOfLoop_55 0 rfl ?_
  refine z_iload_n hC dX11_errorOfLoop_57 6 rfl rfl ?_
  refine z_callVv hC hE (oX_5 (show kX 22 = 5 by decide)) [vR ad (σ1 0 0), vR ad 17, vI (σ1 17 1), vI (σ1 (((σ1 0 0) + 7) + 1) x1), vI (σ1 (((σ1 0 0) + 7) + 2) x1), vI x2] (fun sz2 => mX5_search l hinj sz2 hf) (cwV 6 hC.1.2.2.2.2 (uV (uT _) u1225 u888 u889 u116 u890) rfl rfl rfl (by decide +kernel) ⟨Nat.le_of_ble_eq_true rfl, Nat.le_of_ble_eq_true rfl⟩) rfl rfl (Nat.le_of_ble_eq_true rfl) ⟨Nat.le_of_ble_eq_true rfl, Nat.le_of_ble_eq_true rfl⟩ dX11_errorOfLoop_58 (fun σ5 hf => ?_)
  refine z_aload_n hC dX11_errorOfLoop_61 4 rfl rfl ?_
  refine z_get hC (fun w h => uT _ w (uL11 w h)) (oX_11 (show kX 0 = 11 by decide)) 4 (by decide) (uT _ _ u471) rfl rfl dX11_errorOfLoop_62 ?_
  refine z_callVi hC hE (oX_5 (show kX 22 = 5 by decide)) [] (fun sz2 => mX5_exists l hinj sz2 hf) (cwV 0 hC.1.2.2.2.2 (uV (uT _) u1226 u902 u903 u116 u904) rfl rfl rfl (by decide +kernel) ⟨Nat.le_of_ble_eq_true rfl, Nat.le_of_ble_eq_true rfl⟩) rfl rfl (Nat.le_of_ble_eq_true rfl) ⟨Nat.le_of_ble_eq_true rfl, Nat.le_of_ble_eq_true rfl⟩ dX11_errorOfLoop_65 (fun r6 σ6 hf => ?_)
  obtain ⟨g7, hf⟩ := hf
  refine z_if_eq (tgt := 100) hC dX11_errorOfLoop_68 (by decide) g7 (fun hc => ?_) (fun hc => ?_)
  · replace hf := hf.1 hc
    refine z_sub (lv' := [(0, vR ad 0), (3, vI x3), (4, vR ad 17), (5, vI (σ1 17 1)), (6, vI (σ1 (((σ1 0 0) + 7) + 1) x1)), (7, vI (σ1 (((σ1 0 0) + 7) + 2) x1))]) [4, 7, 3, 2, 1, 0] rfl ?_
    exact wX11_errorOfLoop_B100 hC hE hr hinj  hf
  · replace hf := hf.2 hc
    refine z_aload_n hC dX11_errorOfLoop_71 4 rfl rfl ?_
    refine z_get hC (fun w h => uT _ w (uL11 w h)) (oX_11 (show kX 0 = 11 by decide)) 4 (by decide) (uT _ _ u471) rfl rfl dX11_errorOfLoop_72 ?_
    refine z_aload_n hC dX11_errorOfLoop_75 4 rfl rfl ?_
    refine z_get hC (fun w h => uT _ w (uL11 w h)) (oX_11 (show kX 0 = 11 by decide)) 0 (by decide) (uT _ _ u467) rfl rfl dX11_errorOfLoop_76 ?_
    obtain ⟨g8, hf⟩ := hf
    refine z_aload hC dX11_errorOfLoop_79 3 rfl ?_
    refine z_iload_n hC dX11_errorOfLoop_81 6 rfl rfl ?_
    refine z_aload_n hC dX11_errorOfLoop_82 4 rfl rfl ?_
    refine z_get hC (fun w h => uT _ w (uL11 w h)) (oX_11 (show kX 0 = 11 by decide)) 4 (by decide) (uT _ _ u471) rfl rfl dX11_errorOfLoop_83 ?_
    refine z_get hC (fun w h => uT _ w (uL5 w h)) (oX_5 (show kX 22 = 5 by decide)) 1 (by decide) (uT _ _ u400) rfl rfl dX11_errorOfLoop_86 ?_
    refine z_aload_n hC dX11_errorOfLoop_89 4 rfl rfl ?_
    refine z_get hC (fun w h => uT _ w (uL11 w h)) (oX_11 (show kX 0 = 11 by decide)) 4 (by decide) (uT _ _ u471) rfl rfl dX11_errorOfLoop_90 ?_
    refine z_get hC (fun w h => uT _ w (uL5 w h)) (oX_5 (show kX 22 = 5 by decide)) 2 (by decide) (uT _ _ u403) rfl rfl dX11_errorOfLoop_93 ?_
    refine z_iload_n hC dX11_errorOfLoop_96 7 rfl rfl ?_
    refine z_callVv hC hE (oX_5 (show kX 22 = 5 by decide)) [vR ad (σ6 0 0), vR ad 17, vI x2, vI (σ6 22 1), vI (σ6 22 2), vI x3] (fun sz2 => mX5_search l hinj sz2 hf) (cwV 6 hC.1.2.2.2.2 (uV (uT _) u1225 u888 u889 u116 u890) rfl rfl rfl (by decide +kernel) ⟨Nat.le_of_ble_eq_true rfl, Nat.le_of_ble_eq_true rfl⟩) rfl rfl (Nat.le_of_ble_eq_true rfl) ⟨Nat.le_of_ble_eq_true rfl, Nat.le_of_ble_eq_true rfl⟩ dX11_errorOfLoop_97 (fun σ9 hf => ?_)
    refine z_sub (lv' := [(0, vR ad 0), (3, vI x3), (4, vR ad 17), (5, vI (σ1 17 1)), (6, vI (σ1 (((σ1 0 0) + 7) + 1) x1)), (7, vI (σ1 (((σ1 0 0) + 7) + 2) x1))]) [4, 7, 3, 2, 1, 0] rfl ?_
    exact wX11_errorOfLoop_B100 hC hE hr hinj  hf

-- ===== X11_loopError
def fX11_loopError (K : Int → zSt → Prop) (KX : String → zSt → Prop) (σ : zSt) (x1 : Int) (x2 : Int) (x3 : Int) : Prop :=
  fX11_requireFeature (fun σ1 => fX11_requireFrame (fun σ2 => fX11_requireFrame (fun σ3 => fX11_errorOfLoop (fun r4 σ4 => K r4 σ4) σ3 x1 x2 x3) KX σ2 x3) KX σ1 x2) KX σ x1
set_option maxHeartbeats 4000000 in
set_option maxRecDepth 100000 in
theorem mX11_loopError {D : va_G} {dA : Nat → ClassId} {ad : Nat → Nat} {aL aG aI : Nat} {aK aV : Nat → Nat} (l : Launch) (hinj : ∀ i j, i < NX → j < NX → ad i = ad j → i = j) (hst : l.stackTraces = false) (sz : Nat) {K : Int → zSt → Prop} {KX : String → zSt → Prop} {σ : zSt} {x1 : Int} {x2 : Int} {x3 : Int} (hf : fX11_loopError K KX σ x1 x2 x3) : vx_Met l yX11_loopError (Cond.code yX11_loopError cX11_loopError 4 (some .int) :: UW) ({ frames := 7, cells := 3, slots := 18, locals := 159 } : Room) (va_Pc [vR ad 0, vI x1, vI x2, vI x3] (zPre D vwCl (tyA dA) (zXX aL aG aI aK aV) NX ad (celX ad dA) sz σ)) (va_Qi (zPi K) (zB D vwCl (tyA dA) NX ad (celX ad dA)) (zA ad NX sz)) (zXC D vwCl (tyA dA) NX ad (celX ad dA) KX (zA ad NX sz)) 3 18 (zA ad NX sz) := by
  refine zx_enter (cc := cX11_loopError) (maxL := 4) (ret := (some .int)) (vs := [vR ad 0, vI x1, vI x2, vI x3]) (by decide) rfl hinj (Nat.le_of_ble_eq_true rfl) ?_
  intro p e s m args below meth c hC hE hsz hr hno
  show zAt p l e ({ frames := 7, cells := 3, slots := 18, locals := 159 } : Room) s m args below meth c 0 0 (vx_MQ below (va_Qi (zPi K) (zB D vwCl (tyA dA) NX ad (celX ad dA)) (zA ad NX sz)) (zXC D vwCl (tyA dA) NX ad (celX ad dA) KX (zA ad NX sz)) args s 3 18 (zA ad NX sz)) 4 D vwCl (zA ad NX sz) NX ad (celX ad dA) 0 [(0, vR ad 0), (1, vI x1), (2, vI x2), (3, vI x3)] [] σ
  refine z_aload_n hC dX11_loopError_0 0 rfl rfl ?_
  refine z_iload_n hC dX11_loopError_1 1 rfl rfl ?_
  refine zx_callVv hC hno hE (oX_11 (show kX 0 = 11 by decide)) [vI x1] (fun sz2 => mX11_requireFeature l hinj hst sz2 hf) (cwV 1 hC.1.2.2.2.2 (uV (uT _) u1248 u1250 u31 u105 u1251) rfl rfl rfl (by decide +kernel) ⟨Nat.le_of_ble_eq_true rfl, Nat.le_of_ble_eq_true rfl⟩) rfl rfl (Nat.le_of_ble_eq_true rfl) ⟨Nat.le_of_ble_eq_true rfl, Nat.le_of_ble_eq_true rfl⟩ ⟨Nat.le_of_ble_eq_true rfl, Nat.le_of_ble_eq_true rfl⟩ dX11_loopError_2 (fun σ1 hf => ?_)
  refine z_aload_n hC dX11_loopError_5 0 rfl rfl ?_
  refine z_iload_n hC dX11_loopError_6 2 rfl rfl ?_
  refine zx_callVv hC hno hE (oX_11 (show kX 0 = 11 by decide)) [vI x2] (fun sz2 => mX11_requireFrame l hinj hst sz2 hf) (cwV 1 hC.1.2.2.2.2 (uV (uT _) u1061 u1063 u26 u105 u1064) rfl rfl rfl (by decide +kernel) ⟨Nat.le_of_ble_eq_true rfl, Nat.le_of_ble_eq_true rfl⟩) rfl rfl (Nat.le_of_ble_eq_true rfl) ⟨Nat.le_of_ble_eq_true rfl, Nat.le_of_ble_eq_true rfl⟩ ⟨Nat.le_of_ble_eq_true rfl, Nat.le_of_ble_eq_true rfl⟩ dX11_loopError_7 (fun σ2 hf => ?_)
  refine z_aload_n hC dX11_loopError_10 0 rfl rfl ?_
  refine z_iload_n hC dX11_loopError_11 3 rfl rfl ?_
  refine zx_callVv hC hno hE (oX_11 (show kX 0 = 11 by decide)) [vI x3] (fun sz2 => mX11_requireFrame l hinj hst sz2 hf) (cwV 1 hC.1.2.2.2.2 (uV (uT _) u1061 u1063 u26 u105 u1064) rfl rfl rfl (by decide +kernel) ⟨Nat.le_of_ble_eq_true rfl, Nat.le_of_ble_eq_true rfl⟩) rfl rfl (Nat.le_of_ble_eq_true rfl) ⟨Nat.le_of_ble_eq_true rfl, Nat.le_of_ble_eq_true rfl⟩ ⟨Nat.le_of_ble_eq_true rfl, Nat.le_of_ble_eq_true rfl⟩ dX11_loopError_12 (fun σ3 hf => ?_)
  refine z_aload_n hC dX11_loopError_15 0 rfl rfl ?_
  refine z_iload_n hC dX11_loopError_16 1 rfl rfl ?_
  refine z_iload_n hC dX11_loopError_17 2 rfl rfl ?_
  refine z_iload_n hC dX11_loopError_18 3 rfl rfl ?_
  refine z_callVi hC hE (oX_11 (show kX 0 = 11 by decide)) [vI x1, vI x2, vI x3] (fun sz2 => mX11_errorOfLoop l hinj sz2 hf) (cwV 3 hC.1.2.2.2.2 (uV (uT _) u1286 u1288 u33 u105 u1289) rfl rfl rfl (by decide +kernel) ⟨Nat.le_of_ble_eq_true rfl, Nat.le_of_ble_eq_true rfl⟩) rfl rfl (Nat.le_of_ble_eq_true rfl) ⟨Nat.le_of_ble_eq_true rfl, Nat.le_of_ble_eq_true rfl⟩ dX11_loopError_19 (fun r4 σ4 hf => ?_)
  exact zx_iret hC hr rfl ⟨Nat.le_of_ble_eq_true rfl, Nat.le_of_ble_eq_true rfl⟩ dX11_loopError_22 hf

-- ===== X11_closedLoops
noncomputable def fX11_closedLoops_B45 (K : Int → zSt → Prop) (KX : String → zSt → Prop) (k27 : zSt → Int → Int → Int → Prop) (n : Nat) : zSt → Int → Int → Int → Int → Prop :=
  Nat.rec (motive := fun _ => zSt → Int → Int → Int → Int → Prop) (fun _ _ _ _ _ => False) (fun _ ih σ x1 x3 x4 x5 => kX (σ 0 0) = 8 ∧ zrg x5 ∧ zrg (σ (σ 0 0) 2) ∧ ((σ (σ 0 0) 2 ≤ x5 → k27 σ x1 x3 (x4 + 1)) ∧ (¬ σ (σ 0 0) 2 ≤ x5 → fX11_errorOfLoop (fun r11 σ11 => zrg r11 ∧ ((r11 = 0 → ih σ11 x1 (x3 + 1) x4 (x5 + 1)) ∧ (¬ r11 = 0 → ih σ11 x1 x3 x4 (x5 + 1)))) σ x1 x4 x5))) n
theorem uX11_closedLoops_B45 (K : Int → zSt → Prop) (KX : String → zSt → Prop) (k27 : zSt → Int → Int → Int → Prop) (n0 : Nat) (σ : zSt) (x1 : Int) (x3 : Int) (x4 : Int) (x5 : Int) : fX11_closedLoops_B45 K KX k27 (n0 + 1) σ x1 x3 x4 x5 = (kX (σ 0 0) = 8 ∧ zrg x5 ∧ zrg (σ (σ 0 0) 2) ∧ ((σ (σ 0 0) 2 ≤ x5 → k27 σ x1 x3 (x4 + 1)) ∧ (¬ σ (σ 0 0) 2 ≤ x5 → fX11_errorOfLoop (fun r11 σ11 => zrg r11 ∧ ((r11 = 0 → (fX11_closedLoops_B45 K KX k27 n0) σ11 x1 (x3 + 1) x4 (x5 + 1)) ∧ (¬ r11 = 0 → (fX11_closedLoops_B45 K KX k27 n0) σ11 x1 x3 x4 (x5 + 1)))) σ x1 x4 x5))) := rfl
noncomputable def fX11_closedLoops_B27 (K : Int → zSt → Prop) (KX : String → zSt → Prop) (n : Nat) : zSt → Int → Int → Int → Prop :=
  Nat.rec (motive := fun _ => zSt → Int → Int → Int → Prop) (fun _ _ _ _ => False) (fun _ ih σ x1 x3 x4 => kX (σ 0 0) = 8 ∧ zrg x4 ∧ zrg (σ (σ 0 0) 2) ∧ ((σ (σ 0 0) 2 ≤ x4 → K x3 σ) ∧ (¬ σ (σ 0 0) 2 ≤ x4 → (∃ n, fX11_closedLoops_B45 K KX ih n σ x1 x3 x4 (x4 + 1))))) n
theorem uX11_closedLoops_B27 (K : Int → zSt → Prop) (KX : String → zSt → Prop) (n0 : Nat) (σ : zSt) (x1 : Int) (x3 : Int) (x4 : Int) : fX11_closedLoops_B27 K KX (n0 + 1) σ x1 x3 x4 = (kX (σ 0 0) = 8 ∧ zrg x4 ∧ zrg (σ (σ 0 0) 2) ∧ ((σ (σ 0 0) 2 ≤ x4 → K x3 σ) ∧ (¬ σ (σ 0 0) 2 ≤ x4 → (∃ n, fX11_closedLoops_B45 K KX (fX11_closedLoops_B27 K KX n0) n σ x1 x3 x4 (x4 + 1))))) := rfl
def fX11_closedLoops (K : Int → zSt → Prop) (KX : String → zSt → Prop) (σ : zSt) (x1 : Int) : Prop :=
  fX11_requireFeature (fun σ1 => fX11_currentOrientation (fun r2 σ2 => r2 = 17 ∧ zrg (σ2 17 1) ∧ ((σ2 17 1 = (-1) → K 0 σ2) ∧ (¬ σ2 17 1 = (-1) → (∃ n, fX11_closedLoops_B27 K KX n σ2 x1 0 ((σ2 17 1) + 1))))) σ1 ) KX σ x1
set_option maxHeartbeats 4000000 in
set_option maxRecDepth 100000 in
theorem wX11_closedLoops_B45 {p : Program} {l : Launch} {e : Env} {s : State} {m : MethodId} {args : Array Value} {below : List Frame} {meth : Method} {c : Code} {D : va_G} {dA : Nat → ClassId} {ad : Nat → Nat} {sz : Nat} {aL aG aI : Nat} {aK aV : Nat → Nat} {K : Int → zSt → Prop} {KX : String → zSt → Prop} {k27 : zSt → Int → Int → Int → Prop} (hC : zC p m c cX11_closedLoops 6 s args (Cond.code yX11_closedLoops cX11_closedLoops 6 (some .int) :: UW) RX11 meth D vwCl (tyA dA) (zA ad NX sz) NX ad (celX ad dA)) (hE : zE (zXX aL aG aI aK aV) (zA ad NX sz) s s.heap) (hr : meth.sig.returnType = (some .int)) (hinj : ∀ i j, i < NX → j < NX → ad i = ad j → i = j) (hst : l.stackTraces = false) (hno : ∀ z ∈ c.exceptionTable.toList, False) (hk27 : ∀ (σ : zSt) (x1 : Int) (x3 : Int) (x4 : Int), k27 σ x1 x3 x4 → zAt p l e ({ frames := 7, cells := 1, slots := 6, locals := 159 } : Room) s m args below meth c 1 6 (vx_MQ below (va_Qi (zPi K) (zB D vwCl (tyA dA) NX ad (celX ad dA)) (zA ad NX sz)) (zXC D vwCl (tyA dA) NX ad (celX ad dA) KX (zA ad NX sz)) args s 1 6 (zA ad NX sz)) 6 D vwCl (zA ad NX sz) NX ad (celX ad dA) 27 [(0, vR ad 0), (1, vI x1), (3, vI x3), (4, vI x4)] [] σ) : ∀ (n : Nat) (σ : zSt) (x1 : Int) (x3 : Int) (x4 : Int) (x5 : Int), fX11_closedLoops_B45 K KX k27 n σ x1 x3 x4 x5 → zAt p l e ({ frames := 7, cells := 1, slots := 6, locals := 159 } : Room) s m args below meth c 1 6 (vx_MQ below (va_Qi (zPi K) (zB D vwCl (tyA dA) NX ad (celX ad dA)) (zA ad NX sz)) (zXC D vwCl (tyA dA) NX ad (celX ad dA) KX (zA ad NX sz)) args s 1 6 (zA ad NX sz)) 6 D vwCl (zA ad NX sz) NX ad (celX ad dA) 45 [(0, vR ad 0), (1, vI x1), (3, vI x3), (4, vI x4), (5, vI x5)] [] σ := by
  intro n
  induction n with
  | zero => intro σ x1 x3 x4 x5  hf; exact False.elim hf
  | succ n ih =>
    intro σ x1 x3 x4 x5  hf
    rw [uX11_closedLoops_B45] at hf
    refine z_iload hC dX11_closedLoops_45 4 rfl ?_
    refine z_aload_n hC dX11_closedLoops_47 0 rfl rfl ?_
    refine z_get hC (fun w h => uT _ w (uL11 w h)) (oX_11 (show kX 0 = 11 by decide)) 0 (by decide) (uT _ _ u467) rfl rfl dX11_closedLoops_48 ?_
    obtain ⟨g8, hf⟩ := hf
    refine z_get hC (fun w h => uT _ w (uL8 w h)) (oX_8 g8) 2 (by decide) (uT _ _ u222) rfl rfl dX11_closedLoops_51 ?_
    obtain ⟨g9, hf⟩ := hf
    obtain ⟨g10, hf⟩ := hf
    refine z_icmp_ge (tgt := 78) hC dX11_closedLoops_54 (by decide) g9 g10 (fun hc => ?_) (fun hc => ?_)
    · replace hf := hf.1 hc
      refine z_iinc hC ([(4, vI (x4 + 1)), (0, vR ad 0), (1, vI x1), (3, vI x3), (5, vI x5)]) dX11_closedLoops_78 3 rfl (by decide) rfl ?_
      refine z_goto (tgt := 27) hC dX11_closedLoops_81 (by decide) ?_
      refine z_sub (lv' := [(0, vR ad 0), (1, vI x1), (3, vI x3), (4, vI (x4 + 1))]) [1, 2, 3, 0] rfl ?_
      exact hk27 _ _ _ _ hf
    · replace hf := hf.2 hc
      refine z_aload_n hC dX11_closedLoops_57 0 rfl rfl ?_
      refine z_iload_n hC dX11_closedLoops_58 1 rfl rfl ?_
      refine z_iload hC dX11_closedLoops_59 3 rfl ?_
      refine z_iload hC dX11_closedLoops_61 4 rfl ?_
      refine z_callVi hC hE (oX_11 (show kX 0 = 11 by decide)) [vI x1, vI x4, vI x5] (fun sz2 => mX11_errorOfLoop l hinj sz2 hf) (cwV 3 hC.1.2.2.2.2 (uV (uT _) u1286 u1288 u33 u105 u1289) rfl rfl rfl (by decide +kernel) ⟨Nat.le_of_ble_eq_true rfl, Nat.le_of_ble_eq_true rfl⟩) rfl rfl (Nat.le_of_ble_eq_true rfl) ⟨Nat.le_of_ble_eq_true rfl, Nat.le_of_ble_eq_true rfl⟩ dX11_closedLoops_63 (fun r11 σ11 hf => ?_)
      obtain ⟨g12, hf⟩ := hf
      refine z_if_ne (tgt := 72) hC dX11_closedLoops_66 (by decide) g12 (fun hc => ?_) (fun hc => ?_)
      · replace hf := hf.2 hc
        refine z_iinc hC ([(5, vI (x5 + 1)), (0, vR ad 0), (1, vI x1), (3, vI x3), (4, vI x4)]) dX11_closedLoops_72 4 rfl (by decide) rfl ?_
        refine z_goto (tgt := 45) hC dX11_closedLoops_75 (by decide) ?_
        refine z_sub (lv' := [(0, vR ad 0), (1, vI x1), (3, vI x3), (4, vI x4), (5, vI (x5 + 1))]) [1, 2, 3, 4, 0] rfl ?_
        exact ih _ _ _ _ _ hf
      · replace hf := hf.1 hc
        refine z_iinc hC ([(3, vI (x3 + 1)), (0, vR ad 0), (1, vI x1), (4, vI x4), (5, vI x5)]) dX11_closedLoops_69 2 rfl (by decide) rfl ?_
        refine z_iinc hC ([(5, vI (x5 + 1)), (3, vI (x3 + 1)), (0, vR ad 0), (1, vI x1), (4, vI x4)]) dX11_closedLoops_72 4 rfl (by decide) rfl ?_
        refine z_goto (tgt := 45) hC dX11_closedLoops_75 (by decide) ?_
        refine z_sub (lv' := [(0, vR ad 0), (1, vI x1), (3, vI (x3 + 1)), (4, vI x4), (5, vI (x5 + 1))]) [2, 3, 1, 4, 0] rfl ?_
        exact ih _ _ _ _ _ hf
set_option maxHeartbeats 4000000 in
set_option maxRecDepth 100000 in
theorem wX11_closedLoops_B27 {p : Program} {l : Launch} {e : Env} {s : State} {m : MethodId} {args : Array Value} {below : List Frame} {meth : Method} {c : Code} {D : va_G} {dA : Nat → ClassId} {ad : Nat → Nat} {sz : Nat} {aL aG aI : Nat} {aK aV : Nat → Nat} {K : Int → zSt → Prop} {KX : String → zSt → Prop} (hC : zC p m c cX11_closedLoops 6 s args (Cond.code yX11_closedLoops cX11_closedLoops 6 (some .int) :: UW) RX11 meth D vwCl (tyA dA) (zA ad NX sz) NX ad (celX ad dA)) (hE : zE (zXX aL aG aI aK aV) (zA ad NX sz) s s.heap) (hr : meth.sig.returnType = (some .int)) (hinj : ∀ i j, i < NX → j < NX → ad i = ad j → i = j) (hst : l.stackTraces = false) (hno : ∀ z ∈ c.exceptionTable.toList, False) : ∀ (n : Nat) (σ : zSt) (x1 : Int) (x3 : Int) (x4 : Int), fX11_closedLoops_B27 K KX n σ x1 x3 x4 → zAt p l e ({ frames := 7, cells := 1, slots := 6, locals := 159 } : Room) s m args below meth c 1 6 (vx_MQ below (va_Qi (zPi K) (zB D vwCl (tyA dA) NX ad (celX ad dA)) (zA ad NX sz)) (zXC D vwCl (tyA dA) NX ad (celX ad dA) KX (zA ad NX sz)) args s 1 6 (zA ad NX sz)) 6 D vwCl (zA ad NX sz) NX ad (celX ad dA) 27 [(0, vR ad 0), (1, vI x1), (3, vI x3), (4, vI x4)] [] σ := by
  intro n
  induction n with
  | zero => intro σ x1 x3 x4  hf; exact False.elim hf
  | succ n ih =>
    intro σ x1 x3 x4  hf
    rw [uX11_closedLoops_B27] at hf
    refine z_iload hC dX11_closedLoops_27 3 rfl ?_
    refine z_aload_n hC dX11_closedLoops_29 0 rfl rfl ?_
    refine z_get hC (fun w h => uT _ w (uL11 w h)) (oX_11 (show kX 0 = 11 by decide)) 0 (by decide) (uT _ _ u467) rfl rfl dX11_closedLoops_30 ?_
    obtain ⟨g5, hf⟩ := hf
    refine z_get hC (fun w h => uT _ w (uL8 w h)) (oX_8 g5) 2 (by decide) (uT _ _ u222) rfl rfl dX11_closedLoops_33 ?_
    obtain ⟨g6, hf⟩ := hf
    obtain ⟨g7, hf⟩ := hf
    refine z_icmp_ge (tgt := 84) hC dX11_closedLoops_36 (by decide) g6 g7 (fun hc => ?_) (fun hc => ?_)
    · replace hf := hf.1 hc
      refine z_iload_n hC dX11_closedLoops_84 2 rfl rfl ?_
      exact zx_iret hC hr rfl ⟨Nat.le_of_ble_eq_true rfl, Nat.le_of_ble_eq_true rfl⟩ dX11_closedLoops_85 hf
    · replace hf := hf.2 hc
      refine z_iload hC dX11_closedLoops_39 3 rfl ?_
      refine z_iconst hC dX11_closedLoops_41 ?_
      refine z_iadd hC dX11_closedLoops_42 ?_
      refine z_istore hC ([(5, vI (x4 + 1)), (0, vR ad 0), (1, vI x1), (3, vI x3), (4, vI x4)]) dX11_closedLoops_43 (by decide) rfl ?_
      refine z_sub (lv' := [(0, vR ad 0), (1, vI x1), (3, vI x3), (4, vI x4), (5, vI (x4 + 1))]) [1, 2, 3, 4, 0] rfl ?_
      obtain ⟨n, hf⟩ := hf
      exact wX11_closedLoops_B45 hC hE hr hinj hst hno ih n _ _ _ _ _ hf
set_option maxHeartbeats 4000000 in
set_option maxRecDepth 100000 in
theorem mX11_closedLoops {D : va_G} {dA : Nat → ClassId} {ad : Nat → Nat} {aL aG aI : Nat} {aK aV : Nat → Nat} (l : Launch) (hinj : ∀ i j, i < NX → j < NX → ad i = ad j → i = j) (hst : l.stackTraces = false) (sz : Nat) {K : Int → zSt → Prop} {KX : String → zSt → Prop} {σ : zSt} {x1 : Int} (hf : fX11_closedLoops K KX σ x1) : vx_Met l yX11_closedLoops (Cond.code yX11_closedLoops cX11_closedLoops 6 (some .int) :: UW) ({ frames := 7, cells := 1, slots := 6, locals := 159 } : Room) (va_Pc [vR ad 0, vI x1] (zPre D vwCl (tyA dA) (zXX aL aG aI aK aV) NX ad (celX ad dA) sz σ)) (va_Qi (zPi K) (zB D vwCl (tyA dA) NX ad (celX ad dA)) (zA ad NX sz)) (zXC D vwCl (tyA dA) NX ad (celX ad dA) KX (zA ad NX sz)) 1 6 (zA ad NX sz) := by
  refine zx_enter (cc := cX11_closedLoops) (maxL := 6) (ret := (some .int)) (vs := [vR ad 0, vI x1]) (by decide) rfl hinj (Nat.le_of_ble_eq_true rfl) ?_
  intro p e s m args below meth c hC hE hsz hr hno
  show zAt p l e ({ frames := 7, cells := 1, slots := 6, locals := 159 } : Room) s m args below meth c 0 0 (vx_MQ below (va_Qi (zPi K) (zB D vwCl (tyA dA) NX ad (celX ad dA)) (zA ad NX sz)) (zXC D vwCl (tyA dA) NX ad (celX ad dA) KX (zA ad NX sz)) args s 1 6 (zA ad NX sz)) 6 D vwCl (zA ad NX sz) NX ad (celX ad dA) 0 [(0, vR ad 0), (1, vI x1)] [] σ
  refine z_aload_n hC dX11_closedLoops_0 0 rfl rfl ?_
  refine z_iload_n hC dX11_closedLoops_1 1 rfl rfl ?_
  refine zx_callVv hC hno hE (oX_11 (show kX 0 = 11 by decide)) [vI x1] (fun sz2 => mX11_requireFeature l hinj hst sz2 hf) (cwV 1 hC.1.2.2.2.2 (uV (uT _) u1248 u1250 u31 u105 u1251) rfl rfl rfl (by decide +kernel) ⟨Nat.le_of_ble_eq_true rfl, Nat.le_of_ble_eq_true rfl⟩) rfl rfl (Nat.le_of_ble_eq_true rfl) ⟨Nat.le_of_ble_eq_true rfl, Nat.le_of_ble_eq_true rfl⟩ ⟨Nat.le_of_ble_eq_true rfl, Nat.le_of_ble_eq_true rfl⟩ dX11_closedLoops_2 (fun σ1 hf => ?_)
  refine z_aload_n hC dX11_closedLoops_5 0 rfl rfl ?_
  refine z_callVr hC hE (oX_11 (show kX 0 = 11 by decide)) [] (fun sz2 => mX11_currentOrientation l hinj sz2 hf) (cwV 0 hC.1.2.2.2.2 (uV (uT _) u815 u817 u15 u105 u818) rfl rfl rfl (by decide +kernel) ⟨Nat.le_of_ble_eq_true rfl, Nat.le_of_ble_eq_true rfl⟩) rfl rfl (Nat.le_of_ble_eq_true rfl) ⟨Nat.le_of_ble_eq_true rfl, Nat.le_of_ble_eq_true rfl⟩ dX11_closedLoops_6 (fun r2 σ2 hf => ?_)
  obtain ⟨g3, hf⟩ := hf
  subst g3
  refine z_get hC (fun w h => uT _ w (uL6 w h)) (oX_6 (show kX 17 = 6 by decide)) 1 (by decide) (uT _ _ u372) rfl rfl dX11_closedLoops_9 ?_
  refine z_istore_n hC ([(2, vI (σ2 17 1)), (0, vR ad 0), (1, vI x1)]) dX11_closedLoops_12 rfl (by decide) rfl ?_
  refine z_iload_n hC dX11_closedLoops_13 0 rfl rfl ?_
  refine z_iconst hC dX11_closedLoops_14 ?_
  obtain ⟨g4, hf⟩ := hf
  refine z_icmp_ne (tgt := 20) hC dX11_closedLoops_15 (by decide) g4 (zlit rfl rfl) (fun hc => ?_) (fun hc => ?_)
  · replace hf := hf.2 hc
    refine z_iconst hC dX11_closedLoops_20 ?_
    refine z_istore_n hC ([(3, vI 0), (2, vI (σ2 17 1)), (0, vR ad 0), (1, vI x1)]) dX11_closedLoops_21 rfl (by decide) rfl ?_
    refine z_iload_n hC dX11_closedLoops_22 1 rfl rfl ?_
    refine z_iconst hC dX11_closedLoops_23 ?_
    refine z_iadd hC dX11_closedLoops_24 ?_
    refine z_istore hC ([(4, vI ((σ2 17 1) + 1)), (3, vI 0), (2, vI (σ2 17 1)), (0, vR ad 0), (1, vI x1)]) dX11_closedLoops_25 (by decide) rfl ?_
    refine z_sub (lv' := [(0, vR ad 0), (1, vI x1), (3, vI 0), (4, vI ((σ2 17 1) + 1))]) [3, 4, 1, 0] rfl ?_
    obtain ⟨n, hf⟩ := hf
    exact wX11_closedLoops_B27 hC hE hr hinj hst hno n _ _ _ _ hf
  · replace hf := hf.1 hc
    refine z_iconst hC dX11_closedLoops_18 ?_
    exact zx_iret hC hr rfl ⟨Nat.le_of_ble_eq_true rfl, Nat.le_of_ble_eq_true rfl⟩ dX11_closedLoops_19 hf

-- ===== X11_leastTolerance
def fX11_leastTolerance (K : Int → zSt → Prop) (KX : String → zSt → Prop) (σ : zSt) (x1 : Int) : Prop :=
  fX11_requireFeature (fun σ1 => kX (σ1 0 0) = 8 ∧ fX11_currentOrientation (fun r3 σ3 => r3 = 17 ∧ fX10_trace (fun σ5 => zrg (σ5 30 1) ∧ ((σ5 30 1 = 0 → K (-1) σ5) ∧ (¬ σ5 30 1 = 0 → zrg (σ5 30 2) ∧ ((σ5 30 2 ≤ 0 → kX (σ5 0 0) = 8 ∧ fX8_windowPixels (fun r9 σ9 => fX11_quotient (fun r10 σ10 => K r10 σ10) σ9 (((σ9 30 3) + r9) - 1) r9) σ5 (σ5 0 0)) ∧ (¬ σ5 30 2 ≤ 0 → K (-1) σ5))))) σ3 30 (σ1 0 0) x1 (cGREAT 4)) σ1 ) KX σ x1
set_option maxHeartbeats 4000000 in
set_option maxRecDepth 100000 in
theorem mX11_leastTolerance {D : va_G} {dA : Nat → ClassId} {ad : Nat → Nat} {aL aG aI : Nat} {aK aV : Nat → Nat} (l : Launch) (hinj : ∀ i j, i < NX → j < NX → ad i = ad j → i = j) (hst : l.stackTraces = false) (sz : Nat) {K : Int → zSt → Prop} {KX : String → zSt → Prop} {σ : zSt} {x1 : Int} (hf : fX11_leastTolerance K KX σ x1) : vx_Met l yX11_leastTolerance (Cond.code yX11_leastTolerance cX11_leastTolerance 3 (some .int) :: UW) ({ frames := 7, cells := 1, slots := 6, locals := 148 } : Room) (va_Pc [vR ad 0, vI x1] (zPre D vwCl (tyA dA) (zXX aL aG aI aK aV) NX ad (celX ad dA) sz σ)) (va_Qi (zPi K) (zB D vwCl (tyA dA) NX ad (celX ad dA)) (zA ad NX sz)) (zXC D vwCl (tyA dA) NX ad (celX ad dA) KX (zA ad NX sz)) 1 6 (zA ad NX sz) := by
  refine zx_enter (cc := cX11_leastTolerance) (maxL := 3) (ret := (some .int)) (vs := [vR ad 0, vI x1]) (by decide) rfl hinj (Nat.le_of_ble_eq_true rfl) ?_
  intro p e s m args below meth c hC hE hsz hr hno
  show zAt p l e ({ frames := 7, cells := 1, slots := 6, locals := 148 } : Room) s m args below meth c 0 0 (vx_MQ below (va_Qi (zPi K) (zB D vwCl (tyA dA) NX ad (celX ad dA)) (zA ad NX sz)) (zXC D vwCl (tyA dA) NX ad (celX ad dA) KX (zA ad NX sz)) args s 1 6 (zA ad NX sz)) 3 D vwCl (zA ad NX sz) NX ad (celX ad dA) 0 [(0, vR ad 0), (1, vI x1)] [] σ
  refine z_aload_n hC dX11_leastTolerance_0 0 rfl rfl ?_
  refine z_iload_n hC dX11_leastTolerance_1 1 rfl rfl ?_
  refine zx_callVv hC hno hE (oX_11 (show kX 0 = 11 by decide)) [vI x1] (fun sz2 => mX11_requireFeature l hinj hst sz2 hf) (cwV 1 hC.1.2.2.2.2 (uV (uT _) u1248 u1250 u31 u105 u1251) rfl rfl rfl (by decide +kernel) ⟨Nat.le_of_ble_eq_true rfl, Nat.le_of_ble_eq_true rfl⟩) rfl rfl (Nat.le_of_ble_eq_true rfl) ⟨Nat.le_of_ble_eq_true rfl, Nat.le_of_ble_eq_true rfl⟩ ⟨Nat.le_of_ble_eq_true rfl, Nat.le_of_ble_eq_true rfl⟩ dX11_leastTolerance_2 (fun σ1 hf => ?_)
  refine z_aload_n hC dX11_leastTolerance_5 0 rfl rfl ?_
  refine z_get hC (fun w h => uT _ w (uL11 w h)) (oX_11 (show kX 0 = 11 by decide)) 6 (by decide) (uT _ _ u473) rfl rfl dX11_leastTolerance_6 ?_
  refine z_aload_n hC dX11_leastTolerance_9 0 rfl rfl ?_
  refine z_get hC (fun w h => uT _ w (uL11 w h)) (oX_11 (show kX 0 = 11 by decide)) 0 (by decide) (uT _ _ u467) rfl rfl dX11_leastTolerance_10 ?_
  obtain ⟨g2, hf⟩ := hf
  refine z_aload_n hC dX11_leastTolerance_13 0 rfl rfl ?_
  refine z_callVr hC hE (oX_11 (show kX 0 = 11 by decide)) [] (fun sz2 => mX11_currentOrientation l hinj sz2 hf) (cwV 0 hC.1.2.2.2.2 (uV (uT _) u815 u817 u15 u105 u818) rfl rfl rfl (by decide +kernel) ⟨Nat.le_of_ble_eq_true rfl, Nat.le_of_ble_eq_true rfl⟩) rfl rfl (Nat.le_of_ble_eq_true rfl) ⟨Nat.le_of_ble_eq_true rfl, Nat.le_of_ble_eq_true rfl⟩ dX11_leastTolerance_14 (fun r3 σ3 hf => ?_)
  obtain ⟨g4, hf⟩ := hf
  subst g4
  refine z_aload_n hC dX11_leastTolerance_17 0 rfl rfl ?_
  refine z_get hC (fun w h => uT _ w (uL11 w h)) (oX_11 (show kX 0 = 11 by decide)) 4 (by decide) (uT _ _ u471) rfl rfl dX11_leastTolerance_18 ?_
  refine z_iload_n hC dX11_leastTolerance_21 1 rfl rfl ?_
  refine z_gets hC hE (n := "GREATEST_VALUE") (q := aG) (List.mem_of_getElem? (i := 1) rfl) (uT _ _ u751) dX11_leastTolerance_22 ?_
  refine z_iconst hC dX11_leastTolerance_25 ?_
  refine z_sald hC hE (List.mem_of_getElem? (i := 1) rfl) (F := cGREAT) (fun _ _ => rfl) ⟨by decide, by decide⟩ dX11_leastTolerance_26 ?_
  refine z_callVv hC hE (oX_10 (show kX 30 = 10 by decide)) [vR ad (σ1 0 0), vR ad 17, vR ad 22, vI x1, vI (cGREAT 4)] (fun sz2 => mX10_trace l hinj sz2 hf) (cwV 5 hC.1.2.2.2.2 (uV (uT _) u856 u857 u858 u117 u859) rfl rfl rfl (by decide +kernel) ⟨Nat.le_of_ble_eq_true rfl, Nat.le_of_ble_eq_true rfl⟩) rfl rfl (Nat.le_of_ble_eq_true rfl) ⟨Nat.le_of_ble_eq_true rfl, Nat.le_of_ble_eq_true rfl⟩ dX11_leastTolerance_27 (fun σ5 hf => ?_)
  refine z_aload_n hC dX11_leastTolerance_30 0 rfl rfl ?_
  refine z_get hC (fun w h => uT _ w (uL11 w h)) (oX_11 (show kX 0 = 11 by decide)) 6 (by decide) (uT _ _ u473) rfl rfl dX11_leastTolerance_31 ?_
  refine z_get hC (fun w h => uT _ w (uL10 w h)) (oX_10 (show kX 30 = 10 by decide)) 1 (by decide) (uT _ _ u433) rfl rfl dX11_leastTolerance_34 ?_
  obtain ⟨g6, hf⟩ := hf
  refine z_if_eq (tgt := 50) hC dX11_leastTolerance_37 (by decide) g6 (fun hc => ?_) (fun hc => ?_)
  · replace hf := hf.1 hc
    refine z_iconst hC dX11_leastTolerance_50 ?_
    exact zx_iret hC hr rfl ⟨Nat.le_of_ble_eq_true rfl, Nat.le_of_ble_eq_true rfl⟩ dX11_leastTolerance_51 hf
  · replace hf := hf.2 hc
    refine z_aload_n hC dX11_leastTolerance_40 0 rfl rfl ?_
    refine z_get hC (fun w h => uT _ w (uL11 w h)) (oX_11 (show kX 0 = 11 by decide)) 6 (by decide) (uT _ _ u473) rfl rfl dX11_leastTolerance_41 ?_
    refine z_get hC (fun w h => uT _ w (uL10 w h)) (oX_10 (show kX 30 = 10 by decide)) 2 (by decide) (uT _ _ u435) rfl rfl dX11_leastTolerance_44 ?_
    obtain ⟨g7, hf⟩ := hf
    refine z_if_le (tgt := 52) hC dX11_leastTolerance_47 (by decide) g7 (fun hc => ?_) (fun hc => ?_)
    · replace hf := hf.1 hc
      refine z_aload_n hC dX11_leastTolerance_52 0 rfl rfl ?_
      refine z_get hC (fun w h => uT _ w (uL11 w h)) (oX_11 (show kX 0 = 11 by decide)) 0 (by decide) (uT _ _ u467) rfl rfl dX11_leastTolerance_53 ?_
      obtain ⟨g8, hf⟩ := hf
      refine z_callVi hC hE (oX_8 g8) [] (fun sz2 => mX8_windowPixels l hinj sz2 hf) (cwV 0 hC.1.2.2.2.2 (uV (uT _) u1305 u875 u876 u106 u877) rfl rfl rfl (by decide +kernel) ⟨Nat.le_of_ble_eq_true rfl, Nat.le_of_ble_eq_true rfl⟩) rfl rfl (Nat.le_of_ble_eq_true rfl) ⟨Nat.le_of_ble_eq_true rfl, Nat.le_of_ble_eq_true rfl⟩ dX11_leastTolerance_56 (fun r9 σ9 hf => ?_)
      refine z_istore_n hC ([(2, vI r9), (0, vR ad 0), (1, vI x1)]) dX11_leastTolerance_59 rfl (by decide) rfl ?_
      refine z_aload_n hC dX11_leastTolerance_60 1 rfl rfl ?_
      refine z_get hC (fun w h => uT _ w (uL11 w h)) (oX_11 (show kX 0 = 11 by decide)) 6 (by decide) (uT _ _ u473) rfl rfl dX11_leastTolerance_61 ?_
      refine z_get hC (fun w h => uT _ w (uL10 w h)) (oX_10 (show kX 30 = 10 by decide)) 3 (by decide) (uT _ _ u437) rfl rfl dX11_leastTolerance_64 ?_
      refine z_iload_n hC dX11_leastTolerance_67 0 rfl rfl ?_
      refine z_iadd hC dX11_leastTolerance_68 ?_
      refine z_iconst hC dX11_leastTolerance_69 ?_
      refine z_isub hC dX11_leastTolerance_70 ?_
      refine z_iload_n hC dX11_leastTolerance_71 0 rfl rfl ?_
      refine z_callSi hC hE [vI (((σ9 30 3) + r9) - 1), vI r9] (fun sz2 => mX11_quotient l hinj sz2 hf) (va_cwS 2 hC.1.2.2.2.2 (uS (uT _) u1021 u932 u105 u933) rfl rfl rfl (by decide +kernel) ⟨Nat.le_of_ble_eq_true rfl, Nat.le_of_ble_eq_true rfl⟩) rfl rfl (Nat.le_of_ble_eq_true rfl) ⟨Nat.le_of_ble_eq_true rfl, Nat.le_of_ble_eq_true rfl⟩ dX11_leastTolerance_72 (fun r10 σ10 hf => ?_)
      exact zx_iret hC hr rfl ⟨Nat.le_of_ble_eq_true rfl, Nat.le_of_ble_eq_true rfl⟩ dX11_leastTolerance_75 hf
    · replace hf := hf.2 hc
      refine z_iconst hC dX11_leastTolerance_50 ?_
      exact zx_iret hC hr rfl ⟨Nat.le_of_ble_eq_true rfl, Nat.le_of_ble_eq_true rfl⟩ dX11_leastTolerance_51 hf

-- ===== X11_segmentCount
def fX11_segmentCount (K : Int → zSt → Prop) (KX : String → zSt → Prop) (σ : zSt) (x1 : Int) : Prop :=
  fX11_requireFeature (fun σ1 => fX11_trackOf (fun r2 σ2 => kX r2 = 10 ∧ fX10_segments (fun r4 σ4 => K r4 σ4) σ2 r2) σ1 x1) KX σ x1
set_option maxHeartbeats 4000000 in
set_option maxRecDepth 100000 in
theorem mX11_segmentCount {D : va_G} {dA : Nat → ClassId} {ad : Nat → Nat} {aL aG aI : Nat} {aK aV : Nat → Nat} (l : Launch) (hinj : ∀ i j, i < NX → j < NX → ad i = ad j → i = j) (hst : l.stackTraces = false) (sz : Nat) {K : Int → zSt → Prop} {KX : String → zSt → Prop} {σ : zSt} {x1 : Int} (hf : fX11_segmentCount K KX σ x1) : vx_Met l yX11_segmentCount (Cond.code yX11_segmentCount cX11_segmentCount 2 (some .int) :: UW) ({ frames := 7, cells := 1, slots := 6, locals := 170 } : Room) (va_Pc [vR ad 0, vI x1] (zPre D vwCl (tyA dA) (zXX aL aG aI aK aV) NX ad (celX ad dA) sz σ)) (va_Qi (zPi K) (zB D vwCl (tyA dA) NX ad (celX ad dA)) (zA ad NX sz)) (zXC D vwCl (tyA dA) NX ad (celX ad dA) KX (zA ad NX sz)) 1 6 (zA ad NX sz) := by
  refine zx_enter (cc := cX11_segmentCount) (maxL := 2) (ret := (some .int)) (vs := [vR ad 0, vI x1]) (by decide) rfl hinj (Nat.le_of_ble_eq_true rfl) ?_
  intro p e s m args below meth c hC hE hsz hr hno
  show zAt p l e ({ frames := 7, cells := 1, slots := 6, locals := 170 } : Room) s m args below meth c 0 0 (vx_MQ below (va_Qi (zPi K) (zB D vwCl (tyA dA) NX ad (celX ad dA)) (zA ad NX sz)) (zXC D vwCl (tyA dA) NX ad (celX ad dA) KX (zA ad NX sz)) args s 1 6 (zA ad NX sz)) 2 D vwCl (zA ad NX sz) NX ad (celX ad dA) 0 [(0, vR ad 0), (1, vI x1)] [] σ
  refine z_aload_n hC dX11_segmentCount_0 0 rfl rfl ?_
  refine z_iload_n hC dX11_segmentCount_1 1 rfl rfl ?_
  refine zx_callVv hC hno hE (oX_11 (show kX 0 = 11 by decide)) [vI x1] (fun sz2 => mX11_requireFeature l hinj hst sz2 hf) (cwV 1 hC.1.2.2.2.2 (uV (uT _) u1248 u1250 u31 u105 u1251) rfl rfl rfl (by decide +kernel) ⟨Nat.le_of_ble_eq_true rfl, Nat.le_of_ble_eq_true rfl⟩) rfl rfl (Nat.le_of_ble_eq_true rfl) ⟨Nat.le_of_ble_eq_true rfl, Nat.le_of_ble_eq_true rfl⟩ ⟨Nat.le_of_ble_eq_true rfl, Nat.le_of_ble_eq_true rfl⟩ dX11_segmentCount_2 (fun σ1 hf => ?_)
  refine z_aload_n hC dX11_segmentCount_5 0 rfl rfl ?_
  refine z_iload_n hC dX11_segmentCount_6 1 rfl rfl ?_
  refine z_callVr hC hE (oX_11 (show kX 0 = 11 by decide)) [vI x1] (fun sz2 => mX11_trackOf l hinj sz2 hf) (cwV 1 hC.1.2.2.2.2 (uV (uT _) u811 u813 u14 u105 u814) rfl rfl rfl (by decide +kernel) ⟨Nat.le_of_ble_eq_true rfl, Nat.le_of_ble_eq_true rfl⟩) rfl rfl (Nat.le_of_ble_eq_true rfl) ⟨Nat.le_of_ble_eq_true rfl, Nat.le_of_ble_eq_true rfl⟩ dX11_segmentCount_7 (fun r2 σ2 hf => ?_)
  obtain ⟨g3, hf⟩ := hf
  refine z_callVi hC hE (oX_10 g3) [] (fun sz2 => mX10_segments l hinj sz2 hf) (cwV 0 hC.1.2.2.2.2 (uV (uT _) u934 u912 u913 u117 u914) rfl rfl rfl (by decide +kernel) ⟨Nat.le_of_ble_eq_true rfl, Nat.le_of_ble_eq_true rfl⟩) rfl rfl (Nat.le_of_ble_eq_true rfl) ⟨Nat.le_of_ble_eq_true rfl, Nat.le_of_ble_eq_true rfl⟩ dX11_segmentCount_10 (fun r4 σ4 hf => ?_)
  exact zx_iret hC hr rfl ⟨Nat.le_of_ble_eq_true rfl, Nat.le_of_ble_eq_true rfl⟩ dX11_segmentCount_13 hf

-- ===== X11_requireSegment
def fX11_requireSegment (K : zSt → Prop) (KX : String → zSt → Prop) (σ : zSt) (x0 : Int) (x1 : Int) : Prop :=
  kX x0 = 10 ∧ fX10_hasSegment (fun r1 σ1 => zrg r1 ∧ ((r1 = 0 → KX "java/lang/IndexOutOfBoundsException" σ1) ∧ (¬ r1 = 0 → K σ1))) σ x0 x1
set_option maxHeartbeats 4000000 in
set_option maxRecDepth 100000 in
theorem mX11_requireSegment {D : va_G} {dA : Nat → ClassId} {ad : Nat → Nat} {aL aG aI : Nat} {aK aV : Nat → Nat} (l : Launch) (hinj : ∀ i j, i < NX → j < NX → ad i = ad j → i = j) (hst : l.stackTraces = false) (sz : Nat) {K : zSt → Prop} {KX : String → zSt → Prop} {σ : zSt} {x0 : Int} {x1 : Int} (hf : fX11_requireSegment K KX σ x0 x1) : vx_Met l yX11_requireSegment (Cond.code yX11_requireSegment cX11_requireSegment 2 none :: UW) ({ frames := 6, cells := 1, slots := 6, locals := 82 } : Room) (va_Pc [vR ad x0, vI x1] (zPre D vwCl (tyA dA) (zXX aL aG aI aK aV) NX ad (celX ad dA) sz σ)) (va_Qv K (zB D vwCl (tyA dA) NX ad (celX ad dA)) (zA ad NX sz)) (zXC D vwCl (tyA dA) NX ad (celX ad dA) KX (zA ad NX sz)) 1 6 (zA ad NX sz) := by
  refine zx_enter (cc := cX11_requireSegment) (maxL := 2) (ret := none) (vs := [vR ad x0, vI x1]) (by decide) rfl hinj (Nat.le_of_ble_eq_true rfl) ?_
  intro p e s m args below meth c hC hE hsz hr hno
  obtain ⟨qx0, hf⟩ := hf
  show zAt p l e ({ frames := 6, cells := 1, slots := 6, locals := 82 } : Room) s m args below meth c 0 0 (vx_MQ below (va_Qv K (zB D vwCl (tyA dA) NX ad (celX ad dA)) (zA ad NX sz)) (zXC D vwCl (tyA dA) NX ad (celX ad dA) KX (zA ad NX sz)) args s 1 6 (zA ad NX sz)) 2 D vwCl (zA ad NX sz) NX ad (celX ad dA) 0 [(0, vR ad x0), (1, vI x1)] [] σ
  refine z_aload_n hC dX11_requireSegment_0 0 rfl rfl ?_
  refine z_iload_n hC dX11_requireSegment_1 1 rfl rfl ?_
  refine z_callVi hC hE (oX_10 qx0) [vI x1] (fun sz2 => mX10_hasSegment l hinj sz2 hf) (cwV 1 hC.1.2.2.2.2 (uV (uT _) u1323 u920 u921 u117 u922) rfl rfl rfl (by decide +kernel) ⟨Nat.le_of_ble_eq_true rfl, Nat.le_of_ble_eq_true rfl⟩) rfl rfl (Nat.le_of_ble_eq_true rfl) ⟨Nat.le_of_ble_eq_true rfl, Nat.le_of_ble_eq_true rfl⟩ dX11_requireSegment_2 (fun r1 σ1 hf => ?_)
  obtain ⟨g2, hf⟩ := hf
  refine z_if_ne (tgt := 19) hC dX11_requireSegment_5 (by decide) g2 (fun hc => ?_) (fun hc => ?_)
  · replace hf := hf.2 hc
    exact zx_vret hC hr rfl ⟨Nat.le_of_ble_eq_true rfl, Nat.le_of_ble_eq_true rfl⟩ dX11_requireSegment_19 hf
  · replace hf := hf.1 hc
    exact zx_throw hC hE rfl hst hno (names := ["java/lang/RuntimeException", "java/lang/Exception"]) (by decide +kernel) (by decide +kernel) (uT _ _ u1065) (uT _ _ u126) (List.mem_of_getElem? (i := 18) rfl) (fun w h => uT _ w (uE391 w h)) uB391 uF391 dX11_requireSegment_8 dX11_requireSegment_11 dX11_requireSegment_12 dX11_requireSegment_15 dX11_requireSegment_18 (Nat.le_of_ble_eq_true rfl) (Nat.le_of_ble_eq_true rfl) ⟨Nat.le_of_ble_eq_true rfl, Nat.le_of_ble_eq_true rfl⟩ ⟨Nat.le_of_ble_eq_true rfl, Nat.le_of_ble_eq_true rfl⟩ hf

-- ===== X11_speed
def fX11_speed (K : Int → zSt → Prop) (KX : String → zSt → Prop) (σ : zSt) (x1 : Int) (x2 : Int) : Prop :=
  fX11_requireFeature (fun σ1 => fX11_trackOf (fun r2 σ2 => kX r2 = 10 ∧ fX11_requireSegment (fun σ4 => kX (σ4 0 0) = 8 ∧ fX10_speedOf (fun r6 σ6 => K r6 σ6) σ4 r2 x2 (σ4 ((σ4 0 0) + 1) 5)) KX σ2 r2 x2) σ1 x1) KX σ x1
set_option maxHeartbeats 4000000 in
set_option maxRecDepth 100000 in
theorem mX11_speed {D : va_G} {dA : Nat → ClassId} {ad : Nat → Nat} {aL aG aI : Nat} {aK aV : Nat → Nat} (l : Launch) (hinj : ∀ i j, i < NX → j < NX → ad i = ad j → i = j) (hst : l.stackTraces = false) (sz : Nat) {K : Int → zSt → Prop} {KX : String → zSt → Prop} {σ : zSt} {x1 : Int} {x2 : Int} (hf : fX11_speed K KX σ x1 x2) : vx_Met l yX11_speed (Cond.code yX11_speed cX11_speed 4 (some .int) :: UW) ({ frames := 7, cells := 2, slots := 12, locals := 170 } : Room) (va_Pc [vR ad 0, vI x1, vI x2] (zPre D vwCl (tyA dA) (zXX aL aG aI aK aV) NX ad (celX ad dA) sz σ)) (va_Qi (zPi K) (zB D vwCl (tyA dA) NX ad (celX ad dA)) (zA ad NX sz)) (zXC D vwCl (tyA dA) NX ad (celX ad dA) KX (zA ad NX sz)) 2 12 (zA ad NX sz) := by
  refine zx_enter (cc := cX11_speed) (maxL := 4) (ret := (some .int)) (vs := [vR ad 0, vI x1, vI x2]) (by decide) rfl hinj (Nat.le_of_ble_eq_true rfl) ?_
  intro p e s m args below meth c hC hE hsz hr hno
  show zAt p l e ({ frames := 7, cells := 2, slots := 12, locals := 170 } : Room) s m args below meth c 0 0 (vx_MQ below (va_Qi (zPi K) (zB D vwCl (tyA dA) NX ad (celX ad dA)) (zA ad NX sz)) (zXC D vwCl (tyA dA) NX ad (celX ad dA) KX (zA ad NX sz)) args s 2 12 (zA ad NX sz)) 4 D vwCl (zA ad NX sz) NX ad (celX ad dA) 0 [(0, vR ad 0), (1, vI x1), (2, vI x2)] [] σ
  refine z_aload_n hC dX11_speed_0 0 rfl rfl ?_
  refine z_iload_n hC dX11_speed_1 1 rfl rfl ?_
  refine zx_callVv hC hno hE (oX_11 (show kX 0 = 11 by decide)) [vI x1] (fun sz2 => mX11_requireFeature l hinj hst sz2 hf) (cwV 1 hC.1.2.2.2.2 (uV (uT _) u1248 u1250 u31 u105 u1251) rfl rfl rfl (by decide +kernel) ⟨Nat.le_of_ble_eq_true rfl, Nat.le_of_ble_eq_true rfl⟩) rfl rfl (Nat.le_of_ble_eq_true rfl) ⟨Nat.le_of_ble_eq_true rfl, Nat.le_of_ble_eq_true rfl⟩ ⟨Nat.le_of_ble_eq_true rfl, Nat.le_of_ble_eq_true rfl⟩ dX11_speed_2 (fun σ1 hf => ?_)
  refine z_aload_n hC dX11_speed_5 0 rfl rfl ?_
  refine z_iload_n hC dX11_speed_6 1 rfl rfl ?_
  refine z_callVr hC hE (oX_11 (show kX 0 = 11 by decide)) [vI x1] (fun sz2 => mX11_trackOf l hinj sz2 hf) (cwV 1 hC.1.2.2.2.2 (uV (uT _) u811 u813 u14 u105 u814) rfl rfl rfl (by decide +kernel) ⟨Nat.le_of_ble_eq_true rfl, Nat.le_of_ble_eq_true rfl⟩) rfl rfl (Nat.le_of_ble_eq_true rfl) ⟨Nat.le_of_ble_eq_true rfl, Nat.le_of_ble_eq_true rfl⟩ dX11_speed_7 (fun r2 σ2 hf => ?_)
  obtain ⟨g3, hf⟩ := hf
  refine z_astore_n hC ([(3, vR ad r2), (0, vR ad 0), (1, vI x1), (2, vI x2)]) dX11_speed_10 rfl (by decide) rfl ?_
  refine z_aload_n hC dX11_speed_11 0 rfl rfl ?_
  refine z_iload_n hC dX11_speed_12 3 rfl rfl ?_
  refine zx_callSv hC hno hE [vR ad r2, vI x2] (fun sz2 => mX11_requireSegment l hinj hst sz2 hf) (va_cwS 2 hC.1.2.2.2.2 (uS (uT _) u1320 u1321 u105 u1322) rfl rfl rfl (by decide +kernel) ⟨Nat.le_of_ble_eq_true rfl, Nat.le_of_ble_eq_true rfl⟩) rfl rfl (Nat.le_of_ble_eq_true rfl) ⟨Nat.le_of_ble_eq_true rfl, Nat.le_of_ble_eq_true rfl⟩ ⟨Nat.le_of_ble_eq_true rfl, Nat.le_of_ble_eq_true rfl⟩ dX11_speed_13 (fun σ4 hf => ?_)
  refine z_aload_n hC dX11_speed_16 0 rfl rfl ?_
  refine z_iload_n hC dX11_speed_17 3 rfl rfl ?_
  refine z_aload_n hC dX11_speed_18 1 rfl rfl ?_
  refine z_get hC (fun w h => uT _ w (uL11 w h)) (oX_11 (show kX 0 = 11 by decide)) 0 (by decide) (uT _ _ u467) rfl rfl dX11_speed_19 ?_
  obtain ⟨g5, hf⟩ := hf
  refine z_get hC (fun w h => uT _ w (uL8 w h)) (oX_8 g5) 4 (by decide) (uT _ _ u230) rfl rfl dX11_speed_22 ?_
  refine z_iconst hC dX11_speed_25 ?_
  refine z_iaload hC (aX_17 (kf_8_4 g5)) ⟨by decide, by decide⟩ dX11_speed_26 ?_
  refine z_callVi hC hE (oX_10 g3) [vI x2, vI (σ4 ((σ4 0 0) + 1) 5)] (fun sz2 => mX10_speedOf l hinj sz2 hf) (cwV 2 hC.1.2.2.2.2 (uV (uT _) u1325 u1326 u1327 u117 u1328) rfl rfl rfl (by decide +kernel) ⟨Nat.le_of_ble_eq_true rfl, Nat.le_of_ble_eq_true rfl⟩) rfl rfl (Nat.le_of_ble_eq_true rfl) ⟨Nat.le_of_ble_eq_true rfl, Nat.le_of_ble_eq_true rfl⟩ dX11_speed_27 (fun r6 σ6 hf => ?_)
  exact zx_iret hC hr rfl ⟨Nat.le_of_ble_eq_true rfl, Nat.le_of_ble_eq_true rfl⟩ dX11_speed_30 hf

-- ===== X11_meanSpeed
def fX11_meanSpeed (K : Int → zSt → Prop) (KX : String → zSt → Prop) (σ : zSt) (x1 : Int) : Prop :=
  fX11_requireFeature (fun σ1 => fX11_trackOf (fun r2 σ2 => kX r2 = 10 ∧ kX (σ2 0 0) = 8 ∧ fX10_averageSpeed (fun r5 σ5 => K r5 σ5) σ2 r2 (σ2 ((σ2 0 0) + 1) 5)) σ1 x1) KX σ x1
set_option maxHeartbeats 4000000 in
set_option maxRecDepth 100000 in
theorem mX11_meanSpeed {D : va_G} {dA : Nat → ClassId} {ad : Nat → Nat} {aL aG aI : Nat} {aK aV : Nat → Nat} (l : Launch) (hinj : ∀ i j, i < NX → j < NX → ad i = ad j → i = j) (hst : l.stackTraces = false) (sz : Nat) {K : Int → zSt → Prop} {KX : String → zSt → Prop} {σ : zSt} {x1 : Int} (hf : fX11_meanSpeed K KX σ x1) : vx_Met l yX11_meanSpeed (Cond.code yX11_meanSpeed cX11_meanSpeed 2 (some .int) :: UW) ({ frames := 7, cells := 1, slots := 6, locals := 170 } : Room) (va_Pc [vR ad 0, vI x1] (zPre D vwCl (tyA dA) (zXX aL aG aI aK aV) NX ad (celX ad dA) sz σ)) (va_Qi (zPi K) (zB D vwCl (tyA dA) NX ad (celX ad dA)) (zA ad NX sz)) (zXC D vwCl (tyA dA) NX ad (celX ad dA) KX (zA ad NX sz)) 1 6 (zA ad NX sz) := by
  refine zx_enter (cc := cX11_meanSpeed) (maxL := 2) (ret := (some .int)) (vs := [vR ad 0, vI x1]) (by decide) rfl hinj (Nat.le_of_ble_eq_true rfl) ?_
  intro p e s m args below meth c hC hE hsz hr hno
  show zAt p l e ({ frames := 7, cells := 1, slots := 6, locals := 170 } : Room) s m args below meth c 0 0 (vx_MQ below (va_Qi (zPi K) (zB D vwCl (tyA dA) NX ad (celX ad dA)) (zA ad NX sz)) (zXC D vwCl (tyA dA) NX ad (celX ad dA) KX (zA ad NX sz)) args s 1 6 (zA ad NX sz)) 2 D vwCl (zA ad NX sz) NX ad (celX ad dA) 0 [(0, vR ad 0), (1, vI x1)] [] σ
  refine z_aload_n hC dX11_meanSpeed_0 0 rfl rfl ?_
  refine z_iload_n hC dX11_meanSpeed_1 1 rfl rfl ?_
  refine zx_callVv hC hno hE (oX_11 (show kX 0 = 11 by decide)) [vI x1] (fun sz2 => mX11_requireFeature l hinj hst sz2 hf) (cwV 1 hC.1.2.2.2.2 (uV (uT _) u1248 u1250 u31 u105 u1251) rfl rfl rfl (by decide +kernel) ⟨Nat.le_of_ble_eq_true rfl, Nat.le_of_ble_eq_true rfl⟩) rfl rfl (Nat.le_of_ble_eq_true rfl) ⟨Nat.le_of_ble_eq_true rfl, Nat.le_of_ble_eq_true rfl⟩ ⟨Nat.le_of_ble_eq_true rfl, Nat.le_of_ble_eq_true rfl⟩ dX11_meanSpeed_2 (fun σ1 hf => ?_)
  refine z_aload_n hC dX11_meanSpeed_5 0 rfl rfl ?_
  refine z_iload_n hC dX11_meanSpeed_6 1 rfl rfl ?_
  refine z_callVr hC hE (oX_11 (show kX 0 = 11 by decide)) [vI x1] (fun sz2 => mX11_trackOf l hinj sz2 hf) (cwV 1 hC.1.2.2.2.2 (uV (uT _) u811 u813 u14 u105 u814) rfl rfl rfl (by decide +kernel) ⟨Nat.le_of_ble_eq_true rfl, Nat.le_of_ble_eq_true rfl⟩) rfl rfl (Nat.le_of_ble_eq_true rfl) ⟨Nat.le_of_ble_eq_true rfl, Nat.le_of_ble_eq_true rfl⟩ dX11_meanSpeed_7 (fun r2 σ2 hf => ?_)
  obtain ⟨g3, hf⟩ := hf
  refine z_aload_n hC dX11_meanSpeed_10 0 rfl rfl ?_
  refine z_get hC (fun w h => uT _ w (uL11 w h)) (oX_11 (show kX 0 = 11 by decide)) 0 (by decide) (uT _ _ u467) rfl rfl dX11_meanSpeed_11 ?_
  obtain ⟨g4, hf⟩ := hf
  refine z_get hC (fun w h => uT _ w (uL8 w h)) (oX_8 g4) 4 (by decide) (uT _ _ u230) rfl rfl dX11_meanSpeed_14 ?_
  refine z_iconst hC dX11_meanSpeed_17 ?_
  refine z_iaload hC (aX_17 (kf_8_4 g4)) ⟨by decide, by decide⟩ dX11_meanSpeed_18 ?_
  refine z_callVi hC hE (oX_10 g3) [vI (σ2 ((σ2 0 0) + 1) 5)] (fun sz2 => mX10_averageSpeed l hinj sz2 hf) (cwV 1 hC.1.2.2.2.2 (uV (uT _) u907 u908 u909 u117 u910) rfl rfl rfl (by decide +kernel) ⟨Nat.le_of_ble_eq_true rfl, Nat.le_of_ble_eq_true rfl⟩) rfl rfl (Nat.le_of_ble_eq_true rfl) ⟨Nat.le_of_ble_eq_true rfl, Nat.le_of_ble_eq_true rfl⟩ dX11_meanSpeed_19 (fun r5 σ5 hf => ?_)
  exact zx_iret hC hr rfl ⟨Nat.le_of_ble_eq_true rfl, Nat.le_of_ble_eq_true rfl⟩ dX11_meanSpeed_22 hf

-- ===== X11_meanSpeedWithScale
def fX11_meanSpeedWithScale (K : Int → zSt → Prop) (KX : String → zSt → Prop) (σ : zSt) (x1 : Int) (x2 : Int) : Prop :=
  fX11_requireFeature (fun σ1 => fX11_isBetween (fun r2 σ2 => zrg r2 ∧ ((r2 = 0 → K (-2) σ2) ∧ (¬ r2 = 0 → fX11_trackOf (fun r4 σ4 => kX r4 = 10 ∧ fX10_averageSpeed (fun r6 σ6 => K r6 σ6) σ4 r4 x2) σ2 x1))) σ1 x2 (cLEAST 5) (cGREAT 5)) KX σ x1
set_option maxHeartbeats 4000000 in
set_option maxRecDepth 100000 in
theorem mX11_meanSpeedWithScale {D : va_G} {dA : Nat → ClassId} {ad : Nat → Nat} {aL aG aI : Nat} {aK aV : Nat → Nat} (l : Launch) (hinj : ∀ i j, i < NX → j < NX → ad i = ad j → i = j) (hst : l.stackTraces = false) (sz : Nat) {K : Int → zSt → Prop} {KX : String → zSt → Prop} {σ : zSt} {x1 : Int} {x2 : Int} (hf : fX11_meanSpeedWithScale K KX σ x1 x2) : vx_Met l yX11_meanSpeedWithScale (Cond.code yX11_meanSpeedWithScale cX11_meanSpeedWithScale 3 (some .int) :: UW) ({ frames := 7, cells := 1, slots := 6, locals := 170 } : Room) (va_Pc [vR ad 0, vI x1, vI x2] (zPre D vwCl (tyA dA) (zXX aL aG aI aK aV) NX ad (celX ad dA) sz σ)) (va_Qi (zPi K) (zB D vwCl (tyA dA) NX ad (celX ad dA)) (zA ad NX sz)) (zXC D vwCl (tyA dA) NX ad (celX ad dA) KX (zA ad NX sz)) 1 6 (zA ad NX sz) := by
  refine zx_enter (cc := cX11_meanSpeedWithScale) (maxL := 3) (ret := (some .int)) (vs := [vR ad 0, vI x1, vI x2]) (by decide) rfl hinj (Nat.le_of_ble_eq_true rfl) ?_
  intro p e s m args below meth c hC hE hsz hr hno
  show zAt p l e ({ frames := 7, cells := 1, slots := 6, locals := 170 } : Room) s m args below meth c 0 0 (vx_MQ below (va_Qi (zPi K) (zB D vwCl (tyA dA) NX ad (celX ad dA)) (zA ad NX sz)) (zXC D vwCl (tyA dA) NX ad (celX ad dA) KX (zA ad NX sz)) args s 1 6 (zA ad NX sz)) 3 D vwCl (zA ad NX sz) NX ad (celX ad dA) 0 [(0, vR ad 0), (1, vI x1), (2, vI x2)] [] σ
  refine z_aload_n hC dX11_meanSpeedWithScale_0 0 rfl rfl ?_
  refine z_iload_n hC dX11_meanSpeedWithScale_1 1 rfl rfl ?_
  refine zx_callVv hC hno hE (oX_11 (show kX 0 = 11 by decide)) [vI x1] (fun sz2 => mX11_requireFeature l hinj hst sz2 hf) (cwV 1 hC.1.2.2.2.2 (uV (uT _) u1248 u1250 u31 u105 u1251) rfl rfl rfl (by decide +kernel) ⟨Nat.le_of_ble_eq_true rfl, Nat.le_of_ble_eq_true rfl⟩) rfl rfl (Nat.le_of_ble_eq_true rfl) ⟨Nat.le_of_ble_eq_true rfl, Nat.le_of_ble_eq_true rfl⟩ ⟨Nat.le_of_ble_eq_true rfl, Nat.le_of_ble_eq_true rfl⟩ dX11_meanSpeedWithScale_2 (fun σ1 hf => ?_)
  refine z_iload_n hC dX11_meanSpeedWithScale_5 2 rfl rfl ?_
  refine z_gets hC hE (n := "LEAST_VALUE") (q := aL) (List.mem_of_getElem? (i := 0) rfl) (uT _ _ u750) dX11_meanSpeedWithScale_6 ?_
  refine z_iconst hC dX11_meanSpeedWithScale_9 ?_
  refine z_sald hC hE (List.mem_of_getElem? (i := 0) rfl) (F := cLEAST) (fun _ _ => rfl) ⟨by decide, by decide⟩ dX11_meanSpeedWithScale_10 ?_
  refine z_gets hC hE (n := "GREATEST_VALUE") (q := aG) (List.mem_of_getElem? (i := 1) rfl) (uT _ _ u751) dX11_meanSpeedWithScale_11 ?_
  refine z_iconst hC dX11_meanSpeedWithScale_14 ?_
  refine z_sald hC hE (List.mem_of_getElem? (i := 1) rfl) (F := cGREAT) (fun _ _ => rfl) ⟨by decide, by decide⟩ dX11_meanSpeedWithScale_15 ?_
  refine z_callSi hC hE [vI x2, vI (cLEAST 5), vI (cGREAT 5)] (fun sz2 => mX11_isBetween l hinj sz2 hf) (va_cwS 3 hC.1.2.2.2.2 (uS (uT _) u752 u609 u105 u610) rfl rfl rfl (by decide +kernel) ⟨Nat.le_of_ble_eq_true rfl, Nat.le_of_ble_eq_true rfl⟩) rfl rfl (Nat.le_of_ble_eq_true rfl) ⟨Nat.le_of_ble_eq_true rfl, Nat.le_of_ble_eq_true rfl⟩ dX11_meanSpeedWithScale_16 (fun r2 σ2 hf => ?_)
  obtain ⟨g3, hf⟩ := hf
  refine z_if_ne (tgt := 25) hC dX11_meanSpeedWithScale_19 (by decide) g3 (fun hc => ?_) (fun hc => ?_)
  · replace hf := hf.2 hc
    refine z_aload_n hC dX11_meanSpeedWithScale_25 0 rfl rfl ?_
    refine z_iload_n hC dX11_meanSpeedWithScale_26 1 rfl rfl ?_
    refine z_callVr hC hE (oX_11 (show kX 0 = 11 by decide)) [vI x1] (fun sz2 => mX11_trackOf l hinj sz2 hf) (cwV 1 hC.1.2.2.2.2 (uV (uT _) u811 u813 u14 u105 u814) rfl rfl rfl (by decide +kernel) ⟨Nat.le_of_ble_eq_true rfl, Nat.le_of_ble_eq_true rfl⟩) rfl rfl (Nat.le_of_ble_eq_true rfl) ⟨Nat.le_of_ble_eq_true rfl, Nat.le_of_ble_eq_true rfl⟩ dX11_meanSpeedWithScale_27 (fun r4 σ4 hf => ?_)
    obtain ⟨g5, hf⟩ := hf
    refine z_iload_n hC dX11_meanSpeedWithScale_30 2 rfl rfl ?_
    refine z_callVi hC hE (oX_10 g5) [vI x2] (fun sz2 => mX10_averageSpeed l hinj sz2 hf) (cwV 1 hC.1.2.2.2.2 (uV (uT _) u907 u908 u909 u117 u910) rfl rfl rfl (by decide +kernel) ⟨Nat.le_of_ble_eq_true rfl, Nat.le_of_ble_eq_true rfl⟩) rfl rfl (Nat.le_of_ble_eq_true rfl) ⟨Nat.le_of_ble_eq_true rfl, Nat.le_of_ble_eq_true rfl⟩ dX11_meanSpeedWithScale_31 (fun r6 σ6 hf => ?_)
    exact zx_iret hC hr rfl ⟨Nat.le_of_ble_eq_true rfl, Nat.le_of_ble_eq_true rfl⟩ dX11_meanSpeedWithScale_34 hf
  · replace hf := hf.1 hc
    refine z_bipush hC dX11_meanSpeedWithScale_22 (by decide) ?_
    exact zx_iret hC hr rfl ⟨Nat.le_of_ble_eq_true rfl, Nat.le_of_ble_eq_true rfl⟩ dX11_meanSpeedWithScale_24 hf

-- ===== X11_fastestFeature
noncomputable def fX11_fastestFeature_B6 (K : Int → zSt → Prop) (n : Nat) : zSt → Int → Int → Int → Prop :=
  Nat.rec (motive := fun _ => zSt → Int → Int → Int → Prop) (fun _ _ _ _ => False) (fun _ ih σ x1 x2 x3 => kX (σ 0 0) = 8 ∧ zrg x3 ∧ zrg (σ ((σ 0 0) + 7) 3) ∧ ((σ ((σ 0 0) + 7) 3 ≤ x3 → K x1 σ) ∧ (¬ σ ((σ 0 0) + 7) 3 ≤ x3 → fX11_trackOf (fun r4 σ4 => kX r4 = 10 ∧ kX (σ4 0 0) = 8 ∧ fX10_averageSpeed (fun r7 σ7 => fX10_segments (fun r8 σ8 => zrg r8 ∧ ((r8 ≤ 0 → ih σ8 x1 x2 (x3 + 1)) ∧ (¬ r8 ≤ 0 → zrg x1 ∧ ((x1 = (-1) → ih σ8 x3 r7 (x3 + 1)) ∧ (¬ x1 = (-1) → zrg r7 ∧ zrg x2 ∧ ((r7 ≤ x2 → ih σ8 x1 x2 (x3 + 1)) ∧ (¬ r7 ≤ x2 → ih σ8 x3 r7 (x3 + 1)))))))) σ7 r4) σ4 r4 (σ4 ((σ4 0 0) + 1) 5)) σ x3))) n
theorem uX11_fastestFeature_B6 (K : Int → zSt → Prop) (n0 : Nat) (σ : zSt) (x1 : Int) (x2 : Int) (x3 : Int) : fX11_fastestFeature_B6 K (n0 + 1) σ x1 x2 x3 = (kX (σ 0 0) = 8 ∧ zrg x3 ∧ zrg (σ ((σ 0 0) + 7) 3) ∧ ((σ ((σ 0 0) + 7) 3 ≤ x3 → K x1 σ) ∧ (¬ σ ((σ 0 0) + 7) 3 ≤ x3 → fX11_trackOf (fun r4 σ4 => kX r4 = 10 ∧ kX (σ4 0 0) = 8 ∧ fX10_averageSpeed (fun r7 σ7 => fX10_segments (fun r8 σ8 => zrg r8 ∧ ((r8 ≤ 0 → (fX11_fastestFeature_B6 K n0) σ8 x1 x2 (x3 + 1)) ∧ (¬ r8 ≤ 0 → zrg x1 ∧ ((x1 = (-1) → (fX11_fastestFeature_B6 K n0) σ8 x3 r7 (x3 + 1)) ∧ (¬ x1 = (-1) → zrg r7 ∧ zrg x2 ∧ ((r7 ≤ x2 → (fX11_fastestFeature_B6 K n0) σ8 x1 x2 (x3 + 1)) ∧ (¬ r7 ≤ x2 → (fX11_fastestFeature_B6 K n0) σ8 x3 r7 (x3 + 1)))))))) σ7 r4) σ4 r4 (σ4 ((σ4 0 0) + 1) 5)) σ x3))) := rfl
def fX11_fastestFeature (K : Int → zSt → Prop) (σ : zSt) : Prop :=
  (∃ n, fX11_fastestFeature_B6 K n σ (-1) 0 0)
set_option maxHeartbeats 4000000 in
set_option maxRecDepth 100000 in
theorem wX11_fastestFeature_B6 {p : Program} {l : Launch} {e : Env} {s : State} {m : MethodId} {args : Array Value} {below : List Frame} {meth : Method} {c : Code} {D : va_G} {dA : Nat → ClassId} {ad : Nat → Nat} {sz : Nat} {aL aG aI : Nat} {aK aV : Nat → Nat} {K : Int → zSt → Prop} (hC : zC p m c cX11_fastestFeature 6 s args (Cond.code yX11_fastestFeature cX11_fastestFeature 6 (some .int) :: UW) RX11 meth D vwCl (tyA dA) (zA ad NX sz) NX ad (celX ad dA)) (hE : zE (zXX aL aG aI aK aV) (zA ad NX sz) s s.heap) (hr : meth.sig.returnType = (some .int)) (hinj : ∀ i j, i < NX → j < NX → ad i = ad j → i = j) : ∀ (n : Nat) (σ : zSt) (x1 : Int) (x2 : Int) (x3 : Int), fX11_fastestFeature_B6 K n σ x1 x2 x3 → zAt p l e ({ frames := 6, cells := 0, slots := 0, locals := 170 } : Room) s m args below meth c 0 0 (MQ below (va_Qi (zPi K) (zB D vwCl (tyA dA) NX ad (celX ad dA)) (zA ad NX sz)) args s 0 0 (zA ad NX sz)) 6 D vwCl (zA ad NX sz) NX ad (celX ad dA) 6 [(0, vR ad 0), (1, vI x1), (2, vI x2), (3, vI x3)] [] σ := by
  intro n
  induction n with
  | zero => intro σ x1 x2 x3  hf; exact False.elim hf
  | succ n ih =>
    intro σ x1 x2 x3  hf
    rw [uX11_fastestFeature_B6] at hf
    refine z_iload_n hC dX11_fastestFeature_6 3 rfl rfl ?_
    refine z_aload_n hC dX11_fastestFeature_7 0 rfl rfl ?_
    refine z_get hC (fun w h => uT _ w (uL11 w h)) (oX_11 (show kX 0 = 11 by decide)) 0 (by decide) (uT _ _ u467) rfl rfl dX11_fastestFeature_8 ?_
    obtain ⟨g1, hf⟩ := hf
    refine z_get hC (fun w h => uT _ w (uL8 w h)) (oX_8 g1) 8 (by decide) (uT _ _ u244) rfl rfl dX11_fastestFeature_11 ?_
    refine z_get hC (fun w h => uT _ w (uL7 w h)) (oX_7 (kf_8_8 g1)) 3 (by decide) (uT _ _ u166) rfl rfl dX11_fastestFeature_14 ?_
    obtain ⟨g2, hf⟩ := hf
    obtain ⟨g3, hf⟩ := hf
    refine z_icmp_ge (tgt := 73) hC dX11_fastestFeature_17 (by decide) g2 g3 (fun hc => ?_) (fun hc => ?_)
    · replace hf := hf.1 hc
      refine z_iload_n hC dX11_fastestFeature_73 1 rfl rfl ?_
      exact z_iret hC hr rfl dX11_fastestFeature_74 hf
    · replace hf := hf.2 hc
      refine z_aload_n hC dX11_fastestFeature_20 0 rfl rfl ?_
      refine z_iload_n hC dX11_fastestFeature_21 3 rfl rfl ?_
      refine z_callVr hC hE (oX_11 (show kX 0 = 11 by decide)) [vI x3] (fun sz2 => mX11_trackOf l hinj sz2 hf) (cwV 1 hC.1.2.2.2.2 (uV (uT _) u811 u813 u14 u105 u814) rfl rfl rfl (by decide +kernel) ⟨Nat.le_of_ble_eq_true rfl, Nat.le_of_ble_eq_true rfl⟩) rfl rfl (Nat.le_of_ble_eq_true rfl) ⟨Nat.le_of_ble_eq_true rfl, Nat.le_of_ble_eq_true rfl⟩ dX11_fastestFeature_22 (fun r4 σ4 hf => ?_)
      obtain ⟨g5, hf⟩ := hf
      refine z_astore hC ([(4, vR ad r4), (0, vR ad 0), (1, vI x1), (2, vI x2), (3, vI x3)]) dX11_fastestFeature_25 (by decide) rfl ?_
      refine z_aload hC dX11_fastestFeature_27 0 rfl ?_
      refine z_aload_n hC dX11_fastestFeature_29 1 rfl rfl ?_
      refine z_get hC (fun w h => uT _ w (uL11 w h)) (oX_11 (show kX 0 = 11 by decide)) 0 (by decide) (uT _ _ u467) rfl rfl dX11_fastestFeature_30 ?_
      obtain ⟨g6, hf⟩ := hf
      refine z_get hC (fun w h => uT _ w (uL8 w h)) (oX_8 g6) 4 (by decide) (uT _ _ u230) rfl rfl dX11_fastestFeature_33 ?_
      refine z_iconst hC dX11_fastestFeature_36 ?_
      refine z_iaload hC (aX_17 (kf_8_4 g6)) ⟨by decide, by decide⟩ dX11_fastestFeature_37 ?_
      refine z_callVi hC hE (oX_10 g5) [vI (σ4 ((σ4 0 0) + 1) 5)] (fun sz2 => mX10_averageSpeed l hinj sz2 hf) (cwV 1 hC.1.2.2.2.2 (uV (uT _) u907 u908 u909 u117 u910) rfl rfl rfl (by decide +kernel) ⟨Nat.le_of_ble_eq_true rfl, Nat.le_of_ble_eq_true rfl⟩) rfl rfl (Nat.le_of_ble_eq_true rfl) ⟨Nat.le_of_ble_eq_true rfl, Nat.le_of_ble_eq_true rfl⟩ dX11_fastestFeature_38 (fun r7 σ7 hf => ?_)
      refine z_istore hC ([(5, vI r7), (4, vR ad r4), (0, vR ad 0), (1, vI x1), (2, vI x2), (3, vI x3)]) dX11_fastestFeature_41 (by decide) rfl ?_
      refine z_aload hC dX11_fastestFeature_43 1 rfl ?_
      refine z_callVi hC hE (oX_10 g5) [] (fun sz2 => mX10_segments l hinj sz2 hf) (cwV 0 hC.1.2.2.2.2 (uV (uT _) u934 u912 u913 u117 u914) rfl rfl rfl (by decide +kernel) ⟨Nat.le_of_ble_eq_true rfl, Nat.le_of_ble_eq_true rfl⟩) rfl rfl (Nat.le_of_ble_eq_true rfl) ⟨Nat.le_of_ble_eq_true rfl, Nat.le_of_ble_eq_true rfl⟩ dX11_fastestFeature_45 (fun r8 σ8 hf => ?_)
      obtain ⟨g9, hf⟩ := hf
      refine z_if_le (tgt := 67) hC dX11_fastestFeature_48 (by decide) g9 (fun hc => ?_) (fun hc => ?_)
      · replace hf := hf.1 hc
        refine z_iinc hC ([(3, vI (x3 + 1)), (5, vI r7), (4, vR ad r4), (0, vR ad 0), (1, vI x1), (2, vI x2)]) dX11_fastestFeature_67 5 rfl (by decide) rfl ?_
        refine z_goto (tgt := 6) hC dX11_fastestFeature_70 (by decide) ?_
        refine z_sub (lv' := [(0, vR ad 0), (1, vI x1), (2, vI x2), (3, vI (x3 + 1))]) [3, 4, 5, 0] rfl ?_
        exact ih _ _ _ _ hf
      · replace hf := hf.2 hc
        refine z_iload_n hC dX11_fastestFeature_51 3 rfl rfl ?_
        refine z_iconst hC dX11_fastestFeature_52 ?_
        obtain ⟨g10, hf⟩ := hf
        refine z_icmp_eq (tgt := 62) hC dX11_fastestFeature_53 (by decide) g10 (zlit rfl rfl) (fun hc => ?_) (fun hc => ?_)
        · replace hf := hf.1 hc
          refine z_iload_n hC dX11_fastestFeature_62 5 rfl rfl ?_
          refine z_istore_n hC ([(1, vI x3), (5, vI r7), (4, vR ad r4), (0, vR ad 0), (2, vI x2), (3, vI x3)]) dX11_fastestFeature_63 rfl (by decide) rfl ?_
          refine z_iload hC dX11_fastestFeature_64 1 rfl ?_
          refine z_istore_n hC ([(2, vI r7), (1, vI x3), (5, vI r7), (4, vR ad r4), (0, vR ad 0), (3, vI x3)]) dX11_fastestFeature_66 rfl (by decide) rfl ?_
          refine z_iinc hC ([(3, vI (x3 + 1)), (2, vI r7), (1, vI x3), (5, vI r7), (4, vR ad r4), (0, vR ad 0)]) dX11_fastestFeature_67 5 rfl (by decide) rfl ?_
          refine z_goto (tgt := 6) hC dX11_fastestFeature_70 (by decide) ?_
          refine z_sub (lv' := [(0, vR ad 0), (1, vI x3), (2, vI r7), (3, vI (x3 + 1))]) [5, 2, 1, 0] rfl ?_
          exact ih _ _ _ _ hf
        · replace hf := hf.2 hc
          refine z_iload hC dX11_fastestFeature_56 0 rfl ?_
          refine z_iload_n hC dX11_fastestFeature_58 4 rfl rfl ?_
          obtain ⟨g11, hf⟩ := hf
          obtain ⟨g12, hf⟩ := hf
          refine z_icmp_le (tgt := 67) hC dX11_fastestFeature_59 (by decide) g11 g12 (fun hc => ?_) (fun hc => ?_)
          · replace hf := hf.1 hc
            refine z_iinc hC ([(3, vI (x3 + 1)), (5, vI r7), (4, vR ad r4), (0, vR ad 0), (1, vI x1), (2, vI x2)]) dX11_fastestFeature_67 5 rfl (by decide) rfl ?_
            refine z_goto (tgt := 6) hC dX11_fastestFeature_70 (by decide) ?_
            refine z_sub (lv' := [(0, vR ad 0), (1, vI x1), (2, vI x2), (3, vI (x3 + 1))]) [3, 4, 5, 0] rfl ?_
            exact ih _ _ _ _ hf
          · replace hf := hf.2 hc
            refine z_iload_n hC dX11_fastestFeature_62 5 rfl rfl ?_
            refine z_istore_n hC ([(1, vI x3), (5, vI r7), (4, vR ad r4), (0, vR ad 0), (2, vI x2), (3, vI x3)]) dX11_fastestFeature_63 rfl (by decide) rfl ?_
            refine z_iload hC dX11_fastestFeature_64 1 rfl ?_
            refine z_istore_n hC ([(2, vI r7), (1, vI x3), (5, vI r7), (4, vR ad r4), (0, vR ad 0), (3, vI x3)]) dX11_fastestFeature_66 rfl (by decide) rfl ?_
            refine z_iinc hC ([(3, vI (x3 + 1)), (2, vI r7), (1, vI x3), (5, vI r7), (4, vR ad r4), (0, vR ad 0)]) dX11_fastestFeature_67 5 rfl (by decide) rfl ?_
            refine z_goto (tgt := 6) hC dX11_fastestFeature_70 (by decide) ?_
            refine z_sub (lv' := [(0, vR ad 0), (1, vI x3), (2, vI r7), (3, vI (x3 + 1))]) [5, 2, 1, 0] rfl ?_
            exact ih _ _ _ _ hf
set_option maxHeartbeats 4000000 in
set_option maxRecDepth 100000 in
theorem mX11_fastestFeature {D : va_G} {dA : Nat → ClassId} {ad : Nat → Nat} {aL aG aI : Nat} {aK aV : Nat → Nat} (l : Launch) (hinj : ∀ i j, i < NX → j < NX → ad i = ad j → i = j) (sz : Nat) {K : Int → zSt → Prop} {σ : zSt} (hf : fX11_fastestFeature K σ ) : Met l yX11_fastestFeature (Cond.code yX11_fastestFeature cX11_fastestFeature 6 (some .int) :: UW) ({ frames := 6, cells := 0, slots := 0, locals := 170 } : Room) (va_Pc [vR ad 0] (zPre D vwCl (tyA dA) (zXX aL aG aI aK aV) NX ad (celX ad dA) sz σ)) (va_Qi (zPi K) (zB D vwCl (tyA dA) NX ad (celX ad dA)) (zA ad NX sz)) 0 0 (zA ad NX sz) := by
  refine z_enter (cc := cX11_fastestFeature) (maxL := 6) (ret := (some .int)) (vs := [vR ad 0]) (plainFor_of_name (by decide)) rfl hinj (Nat.le_of_ble_eq_true rfl) ?_
  intro p e s m args below meth c hC hE hsz hr hnm
  show zAt p l e ({ frames := 6, cells := 0, slots := 0, locals := 170 } : Room) s m args below meth c 0 0 (MQ below (va_Qi (zPi K) (zB D vwCl (tyA dA) NX ad (celX ad dA)) (zA ad NX sz)) args s 0 0 (zA ad NX sz)) 6 D vwCl (zA ad NX sz) NX ad (celX ad dA) 0 [(0, vR ad 0)] [] σ
  refine z_iconst hC dX11_fastestFeature_0 ?_
  refine z_istore_n hC ([(1, vI (-1)), (0, vR ad 0)]) dX11_fastestFeature_1 rfl (by decide) rfl ?_
  refine z_iconst hC dX11_fastestFeature_2 ?_
  refine z_istore_n hC ([(2, vI 0), (1, vI (-1)), (0, vR ad 0)]) dX11_fastestFeature_3 rfl (by decide) rfl ?_
  refine z_iconst hC dX11_fastestFeature_4 ?_
  refine z_istore_n hC ([(3, vI 0), (2, vI 0), (1, vI (-1)), (0, vR ad 0)]) dX11_fastestFeature_5 rfl (by decide) rfl ?_
  refine z_sub (lv' := [(0, vR ad 0), (1, vI (-1)), (2, vI 0), (3, vI 0)]) [3, 2, 1, 0] rfl ?_
  obtain ⟨n, hf⟩ := hf
  exact wX11_fastestFeature_B6 hC hE hr hinj n _ _ _ _ hf

-- ===== X11_surgeCount
def fX11_surgeCount (K : Int → zSt → Prop) (KX : String → zSt → Prop) (σ : zSt) (x1 : Int) : Prop :=
  fX11_requireFeature (fun σ1 => fX11_trackOf (fun r2 σ2 => kX r2 = 10 ∧ kX (σ2 0 0) = 8 ∧ fX10_surges (fun r5 σ5 => K r5 σ5) σ2 r2 (σ2 ((σ2 0 0) + 1) 5) (σ2 ((σ2 0 0) + 1) 7)) σ1 x1) KX σ x1
set_option maxHeartbeats 4000000 in
set_option maxRecDepth 100000 in
theorem mX11_surgeCount {D : va_G} {dA : Nat → ClassId} {ad : Nat → Nat} {aL aG aI : Nat} {aK aV : Nat → Nat} (l : Launch) (hinj : ∀ i j, i < NX → j < NX → ad i = ad j → i = j) (hst : l.stackTraces = false) (sz : Nat) {K : Int → zSt → Prop} {KX : String → zSt → Prop} {σ : zSt} {x1 : Int} (hf : fX11_surgeCount K KX σ x1) : vx_Met l yX11_surgeCount (Cond.code yX11_surgeCount cX11_surgeCount 2 (some .int) :: UW) ({ frames := 7, cells := 1, slots := 6, locals := 170 } : Room) (va_Pc [vR ad 0, vI x1] (zPre D vwCl (tyA dA) (zXX aL aG aI aK aV) NX ad (celX ad dA) sz σ)) (va_Qi (zPi K) (zB D vwCl (tyA dA) NX ad (celX ad dA)) (zA ad NX sz)) (zXC D vwCl (tyA dA) NX ad (celX ad dA) KX (zA ad NX sz)) 1 6 (zA ad NX sz) := by
  refine zx_enter (cc := cX11_surgeCount) (maxL := 2) (ret := (some .int)) (vs := [vR ad 0, vI x1]) (by decide) rfl hinj (Nat.le_of_ble_eq_true rfl) ?_
  intro p e s m args below meth c hC hE hsz hr hno
  show zAt p l e ({ frames := 7, cells := 1, slots := 6, locals := 170 } : Room) s m args below meth c 0 0 (vx_MQ below (va_Qi (zPi K) (zB D vwCl (tyA dA) NX ad (celX ad dA)) (zA ad NX sz)) (zXC D vwCl (tyA dA) NX ad (celX ad dA) KX (zA ad NX sz)) args s 1 6 (zA ad NX sz)) 2 D vwCl (zA ad NX sz) NX ad (celX ad dA) 0 [(0, vR ad 0), (1, vI x1)] [] σ
  refine z_aload_n hC dX11_surgeCount_0 0 rfl rfl ?_
  refine z_iload_n hC dX11_surgeCount_1 1 rfl rfl ?_
  refine zx_callVv hC hno hE (oX_11 (show kX 0 = 11 by decide)) [vI x1] (fun sz2 => mX11_requireFeature l hinj hst sz2 hf) (cwV 1 hC.1.2.2.2.2 (uV (uT _) u1248 u1250 u31 u105 u1251) rfl rfl rfl (by decide +kernel) ⟨Nat.le_of_ble_eq_true rfl, Nat.le_of_ble_eq_true rfl⟩) rfl rfl (Nat.le_of_ble_eq_true rfl) ⟨Nat.le_of_ble_eq_true rfl, Nat.le_of_ble_eq_true rfl⟩ ⟨Nat.le_of_ble_eq_true rfl, Nat.le_of_ble_eq_true rfl⟩ dX11_surgeCount_2 (fun σ1 hf => ?_)
  refine z_aload_n hC dX11_surgeCount_5 0 rfl rfl ?_
  refine z_iload_n hC dX11_surgeCount_6 1 rfl rfl ?_
  refine z_callVr hC hE (oX_11 (show kX 0 = 11 by decide)) [vI x1] (fun sz2 => mX11_trackOf l hinj sz2 hf) (cwV 1 hC.1.2.2.2.2 (uV (uT _) u811 u813 u14 u105 u814) rfl rfl rfl (by decide +kernel) ⟨Nat.le_of_ble_eq_true rfl, Nat.le_of_ble_eq_true rfl⟩) rfl rfl (Nat.le_of_ble_eq_true rfl) ⟨Nat.le_of_ble_eq_true rfl, Nat.le_of_ble_eq_true rfl⟩ dX11_surgeCount_7 (fun r2 σ2 hf => ?_)
  obtain ⟨g3, hf⟩ := hf
  refine z_aload_n hC dX11_surgeCount_10 0 rfl rfl ?_
  refine z_get hC (fun w h => uT _ w (uL11 w h)) (oX_11 (show kX 0 = 11 by decide)) 0 (by decide) (uT _ _ u467) rfl rfl dX11_surgeCount_11 ?_
  obtain ⟨g4, hf⟩ := hf
  refine z_get hC (fun w h => uT _ w (uL8 w h)) (oX_8 g4) 4 (by decide) (uT _ _ u230) rfl rfl dX11_surgeCount_14 ?_
  refine z_iconst hC dX11_surgeCount_17 ?_
  refine z_iaload hC (aX_17 (kf_8_4 g4)) ⟨by decide, by decide⟩ dX11_surgeCount_18 ?_
  refine z_aload_n hC dX11_surgeCount_19 0 rfl rfl ?_
  refine z_get hC (fun w h => uT _ w (uL11 w h)) (oX_11 (show kX 0 = 11 by decide)) 0 (by decide) (uT _ _ u467) rfl rfl dX11_surgeCount_20 ?_
  refine z_get hC (fun w h => uT _ w (uL8 w h)) (oX_8 g4) 4 (by decide) (uT _ _ u230) rfl rfl dX11_surgeCount_23 ?_
  refine z_bipush hC dX11_surgeCount_26 (by decide) ?_
  refine z_iaload hC (aX_17 (kf_8_4 g4)) ⟨by decide, by decide⟩ dX11_surgeCount_28 ?_
  refine z_callVi hC hE (oX_10 g3) [vI (σ2 ((σ2 0 0) + 1) 5), vI (σ2 ((σ2 0 0) + 1) 7)] (fun sz2 => mX10_surges l hinj sz2 hf) (cwV 2 hC.1.2.2.2.2 (uV (uT _) u1350 u1351 u1352 u117 u1353) rfl rfl rfl (by decide +kernel) ⟨Nat.le_of_ble_eq_true rfl, Nat.le_of_ble_eq_true rfl⟩) rfl rfl (Nat.le_of_ble_eq_true rfl) ⟨Nat.le_of_ble_eq_true rfl, Nat.le_of_ble_eq_true rfl⟩ dX11_surgeCount_29 (fun r5 σ5 hf => ?_)
  exact zx_iret hC hr rfl ⟨Nat.le_of_ble_eq_true rfl, Nat.le_of_ble_eq_true rfl⟩ dX11_surgeCount_32 hf

-- ===== X11_surgeStart
def fX11_surgeStart (K : Int → zSt → Prop) (KX : String → zSt → Prop) (σ : zSt) (x1 : Int) (x2 : Int) : Prop :=
  fX11_requireFeature (fun σ1 => fX11_trackOf (fun r2 σ2 => kX r2 = 10 ∧ kX (σ2 0 0) = 8 ∧ fX10_surgeBegin (fun r5 σ5 => zrg r5 ∧ ((r5 = (-1) → K (-1) σ5) ∧ (¬ r5 = (-1) → fX10_dayOf (fun r7 σ7 => K r7 σ7) σ5 r2 r5))) σ2 r2 x2 (σ2 ((σ2 0 0) + 1) 5) (σ2 ((σ2 0 0) + 1) 7)) σ1 x1) KX σ x1
set_option maxHeartbeats 4000000 in
set_option maxRecDepth 100000 in
theorem mX11_surgeStart {D : va_G} {dA : Nat → ClassId} {ad : Nat → Nat} {aL aG aI : Nat} {aK aV : Nat → Nat} (l : Launch) (hinj : ∀ i j, i < NX → j < NX → ad i = ad j → i = j) (hst : l.stackTraces = false) (sz : Nat) {K : Int → zSt → Prop} {KX : String → zSt → Prop} {σ : zSt} {x1 : Int} {x2 : Int} (hf : fX11_surgeStart K KX σ x1 x2) : vx_Met l yX11_surgeStart (Cond.code yX11_surgeStart cX11_surgeStart 5 (some .int) :: UW) ({ frames := 7, cells := 1, slots := 6, locals := 170 } : Room) (va_Pc [vR ad 0, vI x1, vI x2] (zPre D vwCl (tyA dA) (zXX aL aG aI aK aV) NX ad (celX ad dA) sz σ)) (va_Qi (zPi K) (zB D vwCl (tyA dA) NX ad (celX ad dA)) (zA ad NX sz)) (zXC D vwCl (tyA dA) NX ad (celX ad dA) KX (zA ad NX sz)) 1 6 (zA ad NX sz) := by
  refine zx_enter (cc := cX11_surgeStart) (maxL := 5) (ret := (some .int)) (vs := [vR ad 0, vI x1, vI x2]) (by decide) rfl hinj (Nat.le_of_ble_eq_true rfl) ?_
  intro p e s m args below meth c hC hE hsz hr hno
  show zAt p l e ({ frames := 7, cells := 1, slots := 6, locals := 170 } : Room) s m args below meth c 0 0 (vx_MQ below (va_Qi (zPi K) (zB D vwCl (tyA dA) NX ad (celX ad dA)) (zA ad NX sz)) (zXC D vwCl (tyA dA) NX ad (celX ad dA) KX (zA ad NX sz)) args s 1 6 (zA ad NX sz)) 5 D vwCl (zA ad NX sz) NX ad (celX ad dA) 0 [(0, vR ad 0), (1, vI x1), (2, vI x2)] [] σ
  refine z_aload_n hC dX11_surgeStart_0 0 rfl rfl ?_
  refine z_iload_n hC dX11_surgeStart_1 1 rfl rfl ?_
  refine zx_callVv hC hno hE (oX_11 (show kX 0 = 11 by decide)) [vI x1] (fun sz2 => mX11_requireFeature l hinj hst sz2 hf) (cwV 1 hC.1.2.2.2.2 (uV (uT _) u1248 u1250 u31 u105 u1251) rfl rfl rfl (by decide +kernel) ⟨Nat.le_of_ble_eq_true rfl, Nat.le_of_ble_eq_true rfl⟩) rfl rfl (Nat.le_of_ble_eq_true rfl) ⟨Nat.le_of_ble_eq_true rfl, Nat.le_of_ble_eq_true rfl⟩ ⟨Nat.le_of_ble_eq_true rfl, Nat.le_of_ble_eq_true rfl⟩ dX11_surgeStart_2 (fun σ1 hf => ?_)
  refine z_aload_n hC dX11_surgeStart_5 0 rfl rfl ?_
  refine z_iload_n hC dX11_surgeStart_6 1 rfl rfl ?_
  refine z_callVr hC hE (oX_11 (show kX 0 = 11 by decide)) [vI x1] (fun sz2 => mX11_trackOf l hinj sz2 hf) (cwV 1 hC.1.2.2.2.2 (uV (uT _) u811 u813 u14 u105 u814) rfl rfl rfl (by decide +kernel) ⟨Nat.le_of_ble_eq_true rfl, Nat.le_of_ble_eq_true rfl⟩) rfl rfl (Nat.le_of_ble_eq_true rfl) ⟨Nat.le_of_ble_eq_true rfl, Nat.le_of_ble_eq_true rfl⟩ dX11_surgeStart_7 (fun r2 σ2 hf => ?_)
  obtain ⟨g3, hf⟩ := hf
  refine z_astore_n hC ([(3, vR ad r2), (0, vR ad 0), (1, vI x1), (2, vI x2)]) dX11_surgeStart_10 rfl (by decide) rfl ?_
  refine z_aload_n hC dX11_surgeStart_11 0 rfl rfl ?_
  refine z_iload_n hC dX11_surgeStart_12 3 rfl rfl ?_
  refine z_aload_n hC dX11_surgeStart_13 1 rfl rfl ?_
  refine z_get hC (fun w h => uT _ w (uL11 w h)) (oX_11 (show kX 0 = 11 by decide)) 0 (by decide) (uT _ _ u467) rfl rfl dX11_surgeStart_14 ?_
  obtain ⟨g4, hf⟩ := hf
  refine z_get hC (fun w h => uT _ w (uL8 w h)) (oX_8 g4) 4 (by decide) (uT _ _ u230) rfl rfl dX11_surgeStart_17 ?_
  refine z_iconst hC dX11_surgeStart_20 ?_
  refine z_iaload hC (aX_17 (kf_8_4 g4)) ⟨by decide, by decide⟩ dX11_surgeStart_21 ?_
  refine z_aload_n hC dX11_surgeStart_22 1 rfl rfl ?_
  refine z_get hC (fun w h => uT _ w (uL11 w h)) (oX_11 (show kX 0 = 11 by decide)) 0 (by decide) (uT _ _ u467) rfl rfl dX11_surgeStart_23 ?_
  refine z_get hC (fun w h => uT _ w (uL8 w h)) (oX_8 g4) 4 (by decide) (uT _ _ u230) rfl rfl dX11_surgeStart_26 ?_
  refine z_bipush hC dX11_surgeStart_29 (by decide) ?_
  refine z_iaload hC (aX_17 (kf_8_4 g4)) ⟨by decide, by decide⟩ dX11_surgeStart_31 ?_
  refine z_callVi hC hE (oX_10 g3) [vI x2, vI (σ2 ((σ2 0 0) + 1) 5), vI (σ2 ((σ2 0 0) + 1) 7)] (fun sz2 => mX10_surgeBegin l hinj sz2 hf) (cwV 3 hC.1.2.2.2.2 (uV (uT _) u1370 u1371 u1372 u117 u1373) rfl rfl rfl (by decide +kernel) ⟨Nat.le_of_ble_eq_true rfl, Nat.le_of_ble_eq_true rfl⟩) rfl rfl (Nat.le_of_ble_eq_true rfl) ⟨Nat.le_of_ble_eq_true rfl, Nat.le_of_ble_eq_true rfl⟩ dX11_surgeStart_32 (fun r5 σ5 hf => ?_)
  refine z_istore hC ([(4, vI r5), (3, vR ad r2), (0, vR ad 0), (1, vI x1), (2, vI x2)]) dX11_surgeStart_35 (by decide) rfl ?_
  refine z_iload hC dX11_surgeStart_37 0 rfl ?_
  refine z_iconst hC dX11_surgeStart_39 ?_
  obtain ⟨g6, hf⟩ := hf
  refine z_icmp_ne (tgt := 47) hC dX11_surgeStart_40 (by decide) g6 (zlit rfl rfl) (fun hc => ?_) (fun hc => ?_)
  · replace hf := hf.2 hc
    refine z_aload_n hC dX11_surgeStart_47 1 rfl rfl ?_
    refine z_iload hC dX11_surgeStart_48 0 rfl ?_
    refine z_callVi hC hE (oX_10 g3) [vI r5] (fun sz2 => mX10_dayOf l hinj sz2 hf) (cwV 1 hC.1.2.2.2.2 (uV (uT _) u1374 u928 u929 u117 u930) rfl rfl rfl (by decide +kernel) ⟨Nat.le_of_ble_eq_true rfl, Nat.le_of_ble_eq_true rfl⟩) rfl rfl (Nat.le_of_ble_eq_true rfl) ⟨Nat.le_of_ble_eq_true rfl, Nat.le_of_ble_eq_true rfl⟩ dX11_surgeStart_50 (fun r7 σ7 hf => ?_)
    exact zx_iret hC hr rfl ⟨Nat.le_of_ble_eq_true rfl, Nat.le_of_ble_eq_true rfl⟩ dX11_surgeStart_53 hf
  · replace hf := hf.1 hc
    refine z_iconst hC dX11_surgeStart_43 ?_
    refine z_goto (tgt := 53) hC dX11_surgeStart_44 (by decide) ?_
    exact zx_iret hC hr rfl ⟨Nat.le_of_ble_eq_true rfl, Nat.le_of_ble_eq_true rfl⟩ dX11_surgeStart_53 hf

-- ===== X11_surgeDays
def fX11_surgeDays (K : Int → zSt → Prop) (KX : String → zSt → Prop) (σ : zSt) (x1 : Int) (x2 : Int) : Prop :=
  fX11_requireFeature (fun σ1 => fX11_trackOf (fun r2 σ2 => kX r2 = 10 ∧ kX (σ2 0 0) = 8 ∧ fX10_surgeBegin (fun r5 σ5 => zrg r5 ∧ ((r5 = (-1) → K (-1) σ5) ∧ (¬ r5 = (-1) → kX (σ5 0 0) = 8 ∧ fX10_surgeEnd (fun r8 σ8 => fX10_dayOf (fun r9 σ9 => fX10_dayOf (fun r10 σ10 => K (r9 - r10) σ10) σ9 r2 r5) σ8 r2 r8) σ5 r2 r5 (σ5 ((σ5 0 0) + 1) 5) (σ5 ((σ5 0 0) + 1) 7)))) σ2 r2 x2 (σ2 ((σ2 0 0) + 1) 5) (σ2 ((σ2 0 0) + 1) 7)) σ1 x1) KX σ x1
set_option maxHeartbeats 4000000 in
set_option maxRecDepth 100000 in
theorem mX11_surgeDays {D : va_G} {dA : Nat → ClassId} {ad : Nat → Nat} {aL aG aI : Nat} {aK aV : Nat → Nat} (l : Launch) (hinj : ∀ i j, i < NX → j < NX → ad i = ad j → i = j) (hst : l.stackTraces = false) (sz : Nat) {K : Int → zSt → Prop} {KX : String → zSt → Prop} {σ : zSt} {x1 : Int} {x2 : Int} (hf : fX11_surgeDays K KX σ x1 x2) : vx_Met l yX11_surgeDays (Cond.code yX11_surgeDays cX11_surgeDays 6 (some .int) :: UW) ({ frames := 7, cells := 1, slots := 6, locals := 170 } : Room) (va_Pc [vR ad 0, vI x1, vI x2] (zPre D vwCl (tyA dA) (zXX aL aG aI aK aV) NX ad (celX ad dA) sz σ)) (va_Qi (zPi K) (zB D vwCl (tyA dA) NX ad (celX ad dA)) (zA ad NX sz)) (zXC D vwCl (tyA dA) NX ad (celX ad dA) KX (zA ad NX sz)) 1 6 (zA ad NX sz) := by
  refine zx_enter (cc := cX11_surgeDays) (maxL := 6) (ret := (some .int)) (vs := [vR ad 0, vI x1, vI x2]) (by decide) rfl hinj (Nat.le_of_ble_eq_true rfl) ?_
  intro p e s m args below meth c hC hE hsz hr hno
  show zAt p l e ({ frames := 7, cells := 1, slots := 6, locals := 170 } : Room) s m args below meth c 0 0 (vx_MQ below (va_Qi (zPi K) (zB D vwCl (tyA dA) NX ad (celX ad dA)) (zA ad NX sz)) (zXC D vwCl (tyA dA) NX ad (celX ad dA) KX (zA ad NX sz)) args s 1 6 (zA ad NX sz)) 6 D vwCl (zA ad NX sz) NX ad (celX ad dA) 0 [(0, vR ad 0), (1, vI x1), (2, vI x2)] [] σ
  refine z_aload_n hC dX11_surgeDays_0 0 rfl rfl ?_
  refine z_iload_n hC dX11_surgeDays_1 1 rfl rfl ?_
  refine zx_callVv hC hno hE (oX_11 (show kX 0 = 11 by decide)) [vI x1] (fun sz2 => mX11_requireFeature l hinj hst sz2 hf) (cwV 1 hC.1.2.2.2.2 (uV (uT _) u1248 u1250 u31 u105 u1251) rfl rfl rfl (by decide +kernel) ⟨Nat.le_of_ble_eq_true rfl, Nat.le_of_ble_eq_true rfl⟩) rfl rfl (Nat.le_of_ble_eq_true rfl) ⟨Nat.le_of_ble_eq_true rfl, Nat.le_of_ble_eq_true rfl⟩ ⟨Nat.le_of_ble_eq_true rfl, Nat.le_of_ble_eq_true rfl⟩ dX11_surgeDays_2 (fun σ1 hf => ?_)
  refine z_aload_n hC dX11_surgeDays_5 0 rfl rfl ?_
  refine z_iload_n hC dX11_surgeDays_6 1 rfl rfl ?_
  refine z_callVr hC hE (oX_11 (show kX 0 = 11 by decide)) [vI x1] (fun sz2 => mX11_trackOf l hinj sz2 hf) (cwV 1 hC.1.2.2.2.2 (uV (uT _) u811 u813 u14 u105 u814) rfl rfl rfl (by decide +kernel) ⟨Nat.le_of_ble_eq_true rfl, Nat.le_of_ble_eq_true rfl⟩) rfl rfl (Nat.le_of_ble_eq_true rfl) ⟨Nat.le_of_ble_eq_true rfl, Nat.le_of_ble_eq_true rfl⟩ dX11_surgeDays_7 (fun r2 σ2 hf => ?_)
  obtain ⟨g3, hf⟩ := hf
  refine z_astore_n hC ([(3, vR ad r2), (0, vR ad 0), (1, vI x1), (2, vI x2)]) dX11_surgeDays_10 rfl (by decide) rfl ?_
  refine z_aload_n hC dX11_surgeDays_11 0 rfl rfl ?_
  refine z_iload_n hC dX11_surgeDays_12 3 rfl rfl ?_
  refine z_aload_n hC dX11_surgeDays_13 1 rfl rfl ?_
  refine z_get hC (fun w h => uT _ w (uL11 w h)) (oX_11 (show kX 0 = 11 by decide)) 0 (by decide) (uT _ _ u467) rfl rfl dX11_surgeDays_14 ?_
  obtain ⟨g4, hf⟩ := hf
  refine z_get hC (fun w h => uT _ w (uL8 w h)) (oX_8 g4) 4 (by decide) (uT _ _ u230) rfl rfl dX11_surgeDays_17 ?_
  refine z_iconst hC dX11_surgeDays_20 ?_
  refine z_iaload hC (aX_17 (kf_8_4 g4)) ⟨by decide, by decide⟩ dX11_surgeDays_21 ?_
  refine z_aload_n hC dX11_surgeDays_22 1 rfl rfl ?_
  refine z_get hC (fun w h => uT _ w (uL11 w h)) (oX_11 (show kX 0 = 11 by decide)) 0 (by decide) (uT _ _ u467) rfl rfl dX11_surgeDays_23 ?_
  refine z_get hC (fun w h => uT _ w (uL8 w h)) (oX_8 g4) 4 (by decide) (uT _ _ u230) rfl rfl dX11_surgeDays_26 ?_
  refine z_bipush hC dX11_surgeDays_29 (by decide) ?_
  refine z_iaload hC (aX_17 (kf_8_4 g4)) ⟨by decide, by decide⟩ dX11_surgeDays_31 ?_
  refine z_callVi hC hE (oX_10 g3) [vI x2, vI (σ2 ((σ2 0 0) + 1) 5), vI (σ2 ((σ2 0 0) + 1) 7)] (fun sz2 => mX10_surgeBegin l hinj sz2 hf) (cwV 3 hC.1.2.2.2.2 (uV (uT _) u1370 u1371 u1372 u117 u1373) rfl rfl rfl (by decide +kernel) ⟨Nat.le_of_ble_eq_true rfl, Nat.le_of_ble_eq_true rfl⟩) rfl rfl (Nat.le_of_ble_eq_true rfl) ⟨Nat.le_of_ble_eq_true rfl, Nat.le_of_ble_eq_true rfl⟩ dX11_surgeDays_32 (fun r5 σ5 hf => ?_)
  refine z_istore hC ([(4, vI r5), (3, vR ad r2), (0, vR ad 0), (1, vI x1), (2, vI x2)]) dX11_surgeDays_35 (by decide) rfl ?_
  refine z_iload hC dX11_surgeDays_37 0 rfl ?_
  refine z_iconst hC dX11_surgeDays_39 ?_
  obtain ⟨g6, hf⟩ := hf
  refine z_icmp_ne (tgt := 45) hC dX11_surgeDays_40 (by decide) g6 (zlit rfl rfl) (fun hc => ?_) (fun hc => ?_)
  · replace hf := hf.2 hc
    refine z_aload_n hC dX11_surgeDays_45 1 rfl rfl ?_
    refine z_iload hC dX11_surgeDays_46 0 rfl ?_
    refine z_aload_n hC dX11_surgeDays_48 2 rfl rfl ?_
    refine z_get hC (fun w h => uT _ w (uL11 w h)) (oX_11 (show kX 0 = 11 by decide)) 0 (by decide) (uT _ _ u467) rfl rfl dX11_surgeDays_49 ?_
    obtain ⟨g7, hf⟩ := hf
    refine z_get hC (fun w h => uT _ w (uL8 w h)) (oX_8 g7) 4 (by decide) (uT _ _ u230) rfl rfl dX11_surgeDays_52 ?_
    refine z_iconst hC dX11_surgeDays_55 ?_
    refine z_iaload hC (aX_17 (kf_8_4 g7)) ⟨by decide, by decide⟩ dX11_surgeDays_56 ?_
    refine z_aload_n hC dX11_surgeDays_57 2 rfl rfl ?_
    refine z_get hC (fun w h => uT _ w (uL11 w h)) (oX_11 (show kX 0 = 11 by decide)) 0 (by decide) (uT _ _ u467) rfl rfl dX11_surgeDays_58 ?_
    refine z_get hC (fun w h => uT _ w (uL8 w h)) (oX_8 g7) 4 (by decide) (uT _ _ u230) rfl rfl dX11_surgeDays_61 ?_
    refine z_bipush hC dX11_surgeDays_64 (by decide) ?_
    refine z_iaload hC (aX_17 (kf_8_4 g7)) ⟨by decide, by decide⟩ dX11_surgeDays_66 ?_
    refine z_callVi hC hE (oX_10 g3) [vI r5, vI (σ5 ((σ5 0 0) + 1) 5), vI (σ5 ((σ5 0 0) + 1) 7)] (fun sz2 => mX10_surgeEnd l hinj sz2 hf) (cwV 3 hC.1.2.2.2.2 (uV (uT _) u1382 u1383 u1384 u117 u1385) rfl rfl rfl (by decide +kernel) ⟨Nat.le_of_ble_eq_true rfl, Nat.le_of_ble_eq_true rfl⟩) rfl rfl (Nat.le_of_ble_eq_true rfl) ⟨Nat.le_of_ble_eq_true rfl, Nat.le_of_ble_eq_true rfl⟩ dX11_surgeDays_67 (fun r8 σ8 hf => ?_)
    refine z_istore hC ([(5, vI r8), (4, vI r5), (3, vR ad r2), (0, vR ad 0), (1, vI x1), (2, vI x2)]) dX11_surgeDays_70 (by decide) rfl ?_
    refine z_aload_n hC dX11_surgeDays_72 2 rfl rfl ?_
    refine z_iload hC dX11_surgeDays_73 0 rfl ?_
    refine z_callVi hC hE (oX_10 g3) [vI r8] (fun sz2 => mX10_dayOf l hinj sz2 hf) (cwV 1 hC.1.2.2.2.2 (uV (uT _) u1374 u928 u929 u117 u930) rfl rfl rfl (by decide +kernel) ⟨Nat.le_of_ble_eq_true rfl, Nat.le_of_ble_eq_true rfl⟩) rfl rfl (Nat.le_of_ble_eq_true rfl) ⟨Nat.le_of_ble_eq_true rfl, Nat.le_of_ble_eq_true rfl⟩ dX11_surgeDays_75 (fun r9 σ9 hf => ?_)
    refine z_aload_n hC dX11_surgeDays_78 2 rfl rfl ?_
    refine z_iload hC dX11_surgeDays_79 1 rfl ?_
    refine z_callVi hC hE (oX_10 g3) [vI r5] (fun sz2 => mX10_dayOf l hinj sz2 hf) (cwV 1 hC.1.2.2.2.2 (uV (uT _) u1374 u928 u929 u117 u930) rfl rfl rfl (by decide +kernel) ⟨Nat.le_of_ble_eq_true rfl, Nat.le_of_ble_eq_true rfl⟩) rfl rfl (Nat.le_of_ble_eq_true rfl) ⟨Nat.le_of_ble_eq_true rfl, Nat.le_of_ble_eq_true rfl⟩ dX11_surgeDays_81 (fun r10 σ10 hf => ?_)
    refine z_isub hC dX11_surgeDays_84 ?_
    exact zx_iret hC hr rfl ⟨Nat.le_of_ble_eq_true rfl, Nat.le_of_ble_eq_true rfl⟩ dX11_surgeDays_85 hf
  · replace hf := hf.1 hc
    refine z_iconst hC dX11_surgeDays_43 ?_
    exact zx_iret hC hr rfl ⟨Nat.le_of_ble_eq_true rfl, Nat.le_of_ble_eq_true rfl⟩ dX11_surgeDays_44 hf

-- ===== X11_positionX
def fX11_positionX (K : Int → zSt → Prop) (KX : String → zSt → Prop) (σ : zSt) (x1 : Int) (x2 : Int) : Prop :=
  fX11_requireFeature (fun σ1 => fX11_trackOf (fun r2 σ2 => kX r2 = 10 ∧ fX10_interpolate (fun r4 σ4 => K r4 σ4) σ2 r2 (31 + 6 * (r2 - 24) + 0) x2) σ1 x1) KX σ x1
set_option maxHeartbeats 4000000 in
set_option maxRecDepth 100000 in
theorem mX11_positionX {D : va_G} {dA : Nat → ClassId} {ad : Nat → Nat} {aL aG aI : Nat} {aK aV : Nat → Nat} (l : Launch) (hinj : ∀ i j, i < NX → j < NX → ad i = ad j → i = j) (hst : l.stackTraces = false) (sz : Nat) {K : Int → zSt → Prop} {KX : String → zSt → Prop} {σ : zSt} {x1 : Int} {x2 : Int} (hf : fX11_positionX K KX σ x1 x2) : vx_Met l yX11_positionX (Cond.code yX11_positionX cX11_positionX 4 (some .int) :: UW) ({ frames := 7, cells := 1, slots := 6, locals := 170 } : Room) (va_Pc [vR ad 0, vI x1, vI x2] (zPre D vwCl (tyA dA) (zXX aL aG aI aK aV) NX ad (celX ad dA) sz σ)) (va_Qi (zPi K) (zB D vwCl (tyA dA) NX ad (celX ad dA)) (zA ad NX sz)) (zXC D vwCl (tyA dA) NX ad (celX ad dA) KX (zA ad NX sz)) 1 6 (zA ad NX sz) := by
  refine zx_enter (cc := cX11_positionX) (maxL := 4) (ret := (some .int)) (vs := [vR ad 0, vI x1, vI x2]) (by decide) rfl hinj (Nat.le_of_ble_eq_true rfl) ?_
  intro p e s m args below meth c hC hE hsz hr hno
  show zAt p l e ({ frames := 7, cells := 1, slots := 6, locals := 170 } : Room) s m args below meth c 0 0 (vx_MQ below (va_Qi (zPi K) (zB D vwCl (tyA dA) NX ad (celX ad dA)) (zA ad NX sz)) (zXC D vwCl (tyA dA) NX ad (celX ad dA) KX (zA ad NX sz)) args s 1 6 (zA ad NX sz)) 4 D vwCl (zA ad NX sz) NX ad (celX ad dA) 0 [(0, vR ad 0), (1, vI x1), (2, vI x2)] [] σ
  refine z_aload_n hC dX11_positionX_0 0 rfl rfl ?_
  refine z_iload_n hC dX11_positionX_1 1 rfl rfl ?_
  refine zx_callVv hC hno hE (oX_11 (show kX 0 = 11 by decide)) [vI x1] (fun sz2 => mX11_requireFeature l hinj hst sz2 hf) (cwV 1 hC.1.2.2.2.2 (uV (uT _) u1248 u1250 u31 u105 u1251) rfl rfl rfl (by decide +kernel) ⟨Nat.le_of_ble_eq_true rfl, Nat.le_of_ble_eq_true rfl⟩) rfl rfl (Nat.le_of_ble_eq_true rfl) ⟨Nat.le_of_ble_eq_true rfl, Nat.le_of_ble_eq_true rfl⟩ ⟨Nat.le_of_ble_eq_true rfl, Nat.le_of_ble_eq_true rfl⟩ dX11_positionX_2 (fun σ1 hf => ?_)
  refine z_aload_n hC dX11_positionX_5 0 rfl rfl ?_
  refine z_iload_n hC dX11_positionX_6 1 rfl rfl ?_
  refine z_callVr hC hE (oX_11 (show kX 0 = 11 by decide)) [vI x1] (fun sz2 => mX11_trackOf l hinj sz2 hf) (cwV 1 hC.1.2.2.2.2 (uV (uT _) u811 u813 u14 u105 u814) rfl rfl rfl (by decide +kernel) ⟨Nat.le_of_ble_eq_true rfl, Nat.le_of_ble_eq_true rfl⟩) rfl rfl (Nat.le_of_ble_eq_true rfl) ⟨Nat.le_of_ble_eq_true rfl, Nat.le_of_ble_eq_true rfl⟩ dX11_positionX_7 (fun r2 σ2 hf => ?_)
  obtain ⟨g3, hf⟩ := hf
  refine z_astore_n hC ([(3, vR ad r2), (0, vR ad 0), (1, vI x1), (2, vI x2)]) dX11_positionX_10 rfl (by decide) rfl ?_
  refine z_aload_n hC dX11_positionX_11 0 rfl rfl ?_
  refine z_aload_n hC dX11_positionX_12 0 rfl rfl ?_
  refine z_get hC (fun w h => uT _ w (uL10 w h)) (oX_10 g3) 4 (by decide) (uT _ _ u439) rfl rfl dX11_positionX_13 ?_
  refine z_iload_n hC dX11_positionX_16 3 rfl rfl ?_
  refine z_callVi hC hE (oX_10 g3) [vR ad (31 + 6 * (r2 - 24) + 0), vI x2] (fun sz2 => mX10_interpolate l hinj sz2 hf) (cwV 2 hC.1.2.2.2.2 (uV (uT _) u1393 u1394 u1395 u117 u1396) rfl rfl rfl (by decide +kernel) ⟨Nat.le_of_ble_eq_true rfl, Nat.le_of_ble_eq_true rfl⟩) rfl rfl (Nat.le_of_ble_eq_true rfl) ⟨Nat.le_of_ble_eq_true rfl, Nat.le_of_ble_eq_true rfl⟩ dX11_positionX_17 (fun r4 σ4 hf => ?_)
  exact zx_iret hC hr rfl ⟨Nat.le_of_ble_eq_true rfl, Nat.le_of_ble_eq_true rfl⟩ dX11_positionX_20 hf

-- ===== X11_positionY
def fX11_positionY (K : Int → zSt → Prop) (KX : String → zSt → Prop) (σ : zSt) (x1 : Int) (x2 : Int) : Prop :=
  fX11_requireFeature (fun σ1 => fX11_trackOf (fun r2 σ2 => kX r2 = 10 ∧ fX10_interpolate (fun r4 σ4 => K r4 σ4) σ2 r2 (31 + 6 * (r2 - 24) + 1) x2) σ1 x1) KX σ x1
set_option maxHeartbeats 4000000 in
set_option maxRecDepth 100000 in
theorem mX11_positionY {D : va_G} {dA : Nat → ClassId} {ad : Nat → Nat} {aL aG aI : Nat} {aK aV : Nat → Nat} (l : Launch) (hinj : ∀ i j, i < NX → j < NX → ad i = ad j → i = j) (hst : l.stackTraces = false) (sz : Nat) {K : Int → zSt → Prop} {KX : String → zSt → Prop} {σ : zSt} {x1 : Int} {x2 : Int} (hf : fX11_positionY K KX σ x1 x2) : vx_Met l yX11_positionY (Cond.code yX11_positionY cX11_positionY 4 (some .int) :: UW) ({ frames := 7, cells := 1, slots := 6, locals := 170 } : Room) (va_Pc [vR ad 0, vI x1, vI x2] (zPre D vwCl (tyA dA) (zXX aL aG aI aK aV) NX ad (celX ad dA) sz σ)) (va_Qi (zPi K) (zB D vwCl (tyA dA) NX ad (celX ad dA)) (zA ad NX sz)) (zXC D vwCl (tyA dA) NX ad (celX ad dA) KX (zA ad NX sz)) 1 6 (zA ad NX sz) := by
  refine zx_enter (cc := cX11_positionY) (maxL := 4) (ret := (some .int)) (vs := [vR ad 0, vI x1, vI x2]) (by decide) rfl hinj (Nat.le_of_ble_eq_true rfl) ?_
  intro p e s m args below meth c hC hE hsz hr hno
  show zAt p l e ({ frames := 7, cells := 1, slots := 6, locals := 170 } : Room) s m args below meth c 0 0 (vx_MQ below (va_Qi (zPi K) (zB D vwCl (tyA dA) NX ad (celX ad dA)) (zA ad NX sz)) (zXC D vwCl (tyA dA) NX ad (celX ad dA) KX (zA ad NX sz)) args s 1 6 (zA ad NX sz)) 4 D vwCl (zA ad NX sz) NX ad (celX ad dA) 0 [(0, vR ad 0), (1, vI x1), (2, vI x2)] [] σ
  refine z_aload_n hC dX11_positionY_0 0 rfl rfl ?_
  refine z_iload_n hC dX11_positionY_1 1 rfl rfl ?_
  refine zx_callVv hC hno hE (oX_11 (show kX 0 = 11 by decide)) [vI x1] (fun sz2 => mX11_requireFeature l hinj hst sz2 hf) (cwV 1 hC.1.2.2.2.2 (uV (uT _) u1248 u1250 u31 u105 u1251) rfl rfl rfl (by decide +kernel) ⟨Nat.le_of_ble_eq_true rfl, Nat.le_of_ble_eq_true rfl⟩) rfl rfl (Nat.le_of_ble_eq_true rfl) ⟨Nat.le_of_ble_eq_true rfl, Nat.le_of_ble_eq_true rfl⟩ ⟨Nat.le_of_ble_eq_true rfl, Nat.le_of_ble_eq_true rfl⟩ dX11_positionY_2 (fun σ1 hf => ?_)
  refine z_aload_n hC dX11_positionY_5 0 rfl rfl ?_
  refine z_iload_n hC dX11_positionY_6 1 rfl rfl ?_
  refine z_callVr hC hE (oX_11 (show kX 0 = 11 by decide)) [vI x1] (fun sz2 => mX11_trackOf l hinj sz2 hf) (cwV 1 hC.1.2.2.2.2 (uV (uT _) u811 u813 u14 u105 u814) rfl rfl rfl (by decide +kernel) ⟨Nat.le_of_ble_eq_true rfl, Nat.le_of_ble_eq_true rfl⟩) rfl rfl (Nat.le_of_ble_eq_true rfl) ⟨Nat.le_of_ble_eq_true rfl, Nat.le_of_ble_eq_true rfl⟩ dX11_positionY_7 (fun r2 σ2 hf => ?_)
  obtain ⟨g3, hf⟩ := hf
  refine z_astore_n hC ([(3, vR ad r2), (0, vR ad 0), (1, vI x1), (2, vI x2)]) dX11_positionY_10 rfl (by decide) rfl ?_
  refine z_aload_n hC dX11_positionY_11 0 rfl rfl ?_
  refine z_aload_n hC dX11_positionY_12 0 rfl rfl ?_
  refine z_get hC (fun w h => uT _ w (uL10 w h)) (oX_10 g3) 5 (by decide) (uT _ _ u441) rfl rfl dX11_positionY_13 ?_
  refine z_iload_n hC dX11_positionY_16 3 rfl rfl ?_
  refine z_callVi hC hE (oX_10 g3) [vR ad (31 + 6 * (r2 - 24) + 1), vI x2] (fun sz2 => mX10_interpolate l hinj sz2 hf) (cwV 2 hC.1.2.2.2.2 (uV (uT _) u1393 u1394 u1395 u117 u1396) rfl rfl rfl (by decide +kernel) ⟨Nat.le_of_ble_eq_true rfl, Nat.le_of_ble_eq_true rfl⟩) rfl rfl (Nat.le_of_ble_eq_true rfl) ⟨Nat.le_of_ble_eq_true rfl, Nat.le_of_ble_eq_true rfl⟩ dX11_positionY_17 (fun r4 σ4 hf => ?_)
  exact zx_iret hC hr rfl ⟨Nat.le_of_ble_eq_true rfl, Nat.le_of_ble_eq_true rfl⟩ dX11_positionY_20 hf

-- ===== X11_moveFeature
def fX11_moveFeature (K : Int → zSt → Prop) (σ : zSt) (x1 : Int) (x2 : Int) (x3 : Int) : Prop :=
  kX (σ 0 0) = 8 ∧ fX7_has (fun r2 σ2 => zrg r2 ∧ ((r2 = 0 → K 0 σ2) ∧ (¬ r2 = 0 → kX (σ2 0 0) = 8 ∧ fX8_hasPixel (fun r5 σ5 => zrg r5 ∧ ((r5 = 0 → K 0 σ5) ∧ (¬ r5 = 0 → (0 ≤ x1 ∧ x1 < 6) ∧ fX11_record (fun σ8 => fX7_place (fun σ9 => K 1 σ9) σ8 ((σ 0 0) + 7) x1 x2 x3) σ5 3 x1 (σ5 (((σ 0 0) + 7) + 1) x1) (σ5 (((σ 0 0) + 7) + 2) x1) 0))) σ2 (σ2 0 0) x2 x3))) σ ((σ 0 0) + 7) x1
set_option maxHeartbeats 4000000 in
set_option maxRecDepth 100000 in
theorem mX11_moveFeature {D : va_G} {dA : Nat → ClassId} {ad : Nat → Nat} {aL aG aI : Nat} {aK aV : Nat → Nat} (l : Launch) (hinj : ∀ i j, i < NX → j < NX → ad i = ad j → i = j) (sz : Nat) {K : Int → zSt → Prop} {σ : zSt} {x1 : Int} {x2 : Int} {x3 : Int} (hf : fX11_moveFeature K σ x1 x2 x3) : Met l yX11_moveFeature (Cond.code yX11_moveFeature cX11_moveFeature 5 (some .boolean) :: UW) ({ frames := 4, cells := 0, slots := 0, locals := 93 } : Room) (va_Pc [vR ad 0, vI x1, vI x2, vI x3] (zPre D vwCl (tyA dA) (zXX aL aG aI aK aV) NX ad (celX ad dA) sz σ)) (va_Qi (zPi K) (zB D vwCl (tyA dA) NX ad (celX ad dA)) (zA ad NX sz)) 0 0 (zA ad NX sz) := by
  refine z_enter (cc := cX11_moveFeature) (maxL := 5) (ret := (some .boolean)) (vs := [vR ad 0, vI x1, vI x2, vI x3]) (plainFor_of_name (by decide)) rfl hinj (Nat.le_of_ble_eq_true rfl) ?_
  intro p e s m args below meth c hC hE hsz hr hnm
  show zAt p l e ({ frames := 4, cells := 0, slots := 0, locals := 93 } : Room) s m args below meth c 0 0 (MQ below (va_Qi (zPi K) (zB D vwCl (tyA dA) NX ad (celX ad dA)) (zA ad NX sz)) args s 0 0 (zA ad NX sz)) 5 D vwCl (zA ad NX sz) NX ad (celX ad dA) 0 [(0, vR ad 0), (1, vI x1), (2, vI x2), (3, vI x3)] [] σ
  refine z_aload_n hC dX11_moveFeature_0 0 rfl rfl ?_
  refine z_get hC (fun w h => uT _ w (uL11 w h)) (oX_11 (show kX 0 = 11 by decide)) 0 (by decide) (uT _ _ u467) rfl rfl dX11_moveFeature_1 ?_
  obtain ⟨g1, hf⟩ := hf
  refine z_get hC (fun w h => uT _ w (uL8 w h)) (oX_8 g1) 8 (by decide) (uT _ _ u244) rfl rfl dX11_moveFeature_4 ?_
  refine z_astore hC ([(4, vR ad ((σ 0 0) + 7)), (0, vR ad 0), (1, vI x1), (2, vI x2), (3, vI x3)]) dX11_moveFeature_7 (by decide) rfl ?_
  refine z_aload hC dX11_moveFeature_9 0 rfl ?_
  refine z_iload_n hC dX11_moveFeature_11 2 rfl rfl ?_
  refine z_callVi hC hE (oX_7 (kf_8_8 g1)) [vI x1] (fun sz2 => mX7_has l hinj sz2 hf) (cwV 1 hC.1.2.2.2.2 (uV (uT _) u939 u664 u665 u107 u666) rfl rfl rfl (by decide +kernel) ⟨Nat.le_of_ble_eq_true rfl, Nat.le_of_ble_eq_true rfl⟩) rfl rfl (Nat.le_of_ble_eq_true rfl) ⟨Nat.le_of_ble_eq_true rfl, Nat.le_of_ble_eq_true rfl⟩ dX11_moveFeature_12 (fun r2 σ2 hf => ?_)
  obtain ⟨g3, hf⟩ := hf
  refine z_if_eq (tgt := 30) hC dX11_moveFeature_15 (by decide) g3 (fun hc => ?_) (fun hc => ?_)
  · replace hf := hf.1 hc
    refine z_iconst hC dX11_moveFeature_30 ?_
    exact z_bret hC hr rfl dX11_moveFeature_31 (Or.inl rfl) hf
  · replace hf := hf.2 hc
    refine z_aload_n hC dX11_moveFeature_18 1 rfl rfl ?_
    refine z_get hC (fun w h => uT _ w (uL11 w h)) (oX_11 (show kX 0 = 11 by decide)) 0 (by decide) (uT _ _ u467) rfl rfl dX11_moveFeature_19 ?_
    obtain ⟨g4, hf⟩ := hf
    refine z_iload_n hC dX11_moveFeature_22 3 rfl rfl ?_
    refine z_iload_n hC dX11_moveFeature_23 4 rfl rfl ?_
    refine z_callVi hC hE (oX_8 g4) [vI x2, vI x3] (fun sz2 => mX8_hasPixel l hinj sz2 hf) (cwV 2 hC.1.2.2.2.2 (uV (uT _) u773 u642 u643 u106 u644) rfl rfl rfl (by decide +kernel) ⟨Nat.le_of_ble_eq_true rfl, Nat.le_of_ble_eq_true rfl⟩) rfl rfl (Nat.le_of_ble_eq_true rfl) ⟨Nat.le_of_ble_eq_true rfl, Nat.le_of_ble_eq_true rfl⟩ dX11_moveFeature_24 (fun r5 σ5 hf => ?_)
    obtain ⟨g6, hf⟩ := hf
    refine z_if_ne (tgt := 32) hC dX11_moveFeature_27 (by decide) g6 (fun hc => ?_) (fun hc => ?_)
    · replace hf := hf.2 hc
      refine z_aload_n hC dX11_moveFeature_32 1 rfl rfl ?_
      refine z_iconst hC dX11_moveFeature_33 ?_
      refine z_iload_n hC dX11_moveFeature_34 2 rfl rfl ?_
      refine z_aload hC dX11_moveFeature_35 0 rfl ?_
      refine z_get hC (fun w h => uT _ w (uL7 w h)) (oX_7 (kf_8_8 g1)) 1 (by decide) (uT _ _ u159) rfl rfl dX11_moveFeature_37 ?_
      refine z_iload_n hC dX11_moveFeature_40 2 rfl rfl ?_
      obtain ⟨g7, hf⟩ := hf
      refine z_iaload hC (aX_14 (kf_7_1 (kf_8_8 g1))) g7 dX11_moveFeature_41 ?_
      refine z_aload hC dX11_moveFeature_42 0 rfl ?_
      refine z_get hC (fun w h => uT _ w (uL7 w h)) (oX_7 (kf_8_8 g1)) 2 (by decide) (uT _ _ u163) rfl rfl dX11_moveFeature_44 ?_
      refine z_iload_n hC dX11_moveFeature_47 2 rfl rfl ?_
      refine z_iaload hC (aX_14 (kf_7_2 (kf_8_8 g1))) g7 dX11_moveFeature_48 ?_
      refine z_iconst hC dX11_moveFeature_49 ?_
      refine z_callVv hC hE (oX_11 (show kX 0 = 11 by decide)) [vI 3, vI x1, vI (σ5 (((σ 0 0) + 7) + 1) x1), vI (σ5 (((σ 0 0) + 7) + 2) x1), vI 0] (fun sz2 => mX11_record l hinj sz2 hf) (cwV 5 hC.1.2.2.2.2 (uV (uT _) u753 u755 u12 u105 u756) rfl rfl rfl (by decide +kernel) ⟨Nat.le_of_ble_eq_true rfl, Nat.le_of_ble_eq_true rfl⟩) rfl rfl (Nat.le_of_ble_eq_true rfl) ⟨Nat.le_of_ble_eq_true rfl, Nat.le_of_ble_eq_true rfl⟩ dX11_moveFeature_50 (fun σ8 hf => ?_)
      refine z_aload hC dX11_moveFeature_53 0 rfl ?_
      refine z_iload_n hC dX11_moveFeature_55 2 rfl rfl ?_
      refine z_iload_n hC dX11_moveFeature_56 3 rfl rfl ?_
      refine z_iload_n hC dX11_moveFeature_57 4 rfl rfl ?_
      refine z_callVv hC hE (oX_7 (kf_8_8 g1)) [vI x1, vI x2, vI x3] (fun sz2 => mX7_place l hinj sz2 hf) (cwV 3 hC.1.2.2.2.2 (uV (uT _) u940 u660 u661 u107 u662) rfl rfl rfl (by decide +kernel) ⟨Nat.le_of_ble_eq_true rfl, Nat.le_of_ble_eq_true rfl⟩) rfl rfl (Nat.le_of_ble_eq_true rfl) ⟨Nat.le_of_ble_eq_true rfl, Nat.le_of_ble_eq_true rfl⟩ dX11_moveFeature_58 (fun σ9 hf => ?_)
      refine z_iconst hC dX11_moveFeature_61 ?_
      exact z_bret hC hr rfl dX11_moveFeature_62 (Or.inr rfl) hf
    · replace hf := hf.1 hc
      refine z_iconst hC dX11_moveFeature_30 ?_
      exact z_bret hC hr rfl dX11_moveFeature_31 (Or.inl rfl) hf

-- ===== X11_gapCount
noncomputable def fX11_gapCount_B4 (K : Int → zSt → Prop) (n : Nat) : zSt → Int → Int → Prop :=
  Nat.rec (motive := fun _ => zSt → Int → Int → Prop) (fun _ _ _ => False) (fun _ ih σ x1 x2 => kX (σ 0 0) = 8 ∧ zrg x2 ∧ zrg (σ (σ 0 0) 2) ∧ ((σ (σ 0 0) 2 ≤ x2 → K x1 σ) ∧ (¬ σ (σ 0 0) 2 ≤ x2 → fX8_gapAfter (fun r4 σ4 => zrg r4 ∧ ((r4 ≤ 0 → ih σ4 x1 (x2 + 1)) ∧ (¬ r4 ≤ 0 → ih σ4 (x1 + 1) (x2 + 1)))) σ (σ 0 0) x2))) n
theorem uX11_gapCount_B4 (K : Int → zSt → Prop) (n0 : Nat) (σ : zSt) (x1 : Int) (x2 : Int) : fX11_gapCount_B4 K (n0 + 1) σ x1 x2 = (kX (σ 0 0) = 8 ∧ zrg x2 ∧ zrg (σ (σ 0 0) 2) ∧ ((σ (σ 0 0) 2 ≤ x2 → K x1 σ) ∧ (¬ σ (σ 0 0) 2 ≤ x2 → fX8_gapAfter (fun r4 σ4 => zrg r4 ∧ ((r4 ≤ 0 → (fX11_gapCount_B4 K n0) σ4 x1 (x2 + 1)) ∧ (¬ r4 ≤ 0 → (fX11_gapCount_B4 K n0) σ4 (x1 + 1) (x2 + 1)))) σ (σ 0 0) x2))) := rfl
def fX11_gapCount (K : Int → zSt → Prop) (σ : zSt) : Prop :=
  (∃ n, fX11_gapCount_B4 K n σ 0 0)
set_option maxHeartbeats 4000000 in
set_option maxRecDepth 100000 in
theorem wX11_gapCount_B4 {p : Program} {l : Launch} {e : Env} {s : State} {m : MethodId} {args : Array Value} {below : List Frame} {meth : Method} {c : Code} {D : va_G} {dA : Nat → ClassId} {ad : Nat → Nat} {sz : Nat} {aL aG aI : Nat} {aK aV : Nat → Nat} {K : Int → zSt → Prop} (hC : zC p m c cX11_gapCount 3 s args (Cond.code yX11_gapCount cX11_gapCount 3 (some .int) :: UW) RX11 meth D vwCl (tyA dA) (zA ad NX sz) NX ad (celX ad dA)) (hE : zE (zXX aL aG aI aK aV) (zA ad NX sz) s s.heap) (hr : meth.sig.returnType = (some .int)) (hinj : ∀ i j, i < NX → j < NX → ad i = ad j → i = j) : ∀ (n : Nat) (σ : zSt) (x1 : Int) (x2 : Int), fX11_gapCount_B4 K n σ x1 x2 → zAt p l e ({ frames := 5, cells := 0, slots := 0, locals := 113 } : Room) s m args below meth c 0 0 (MQ below (va_Qi (zPi K) (zB D vwCl (tyA dA) NX ad (celX ad dA)) (zA ad NX sz)) args s 0 0 (zA ad NX sz)) 3 D vwCl (zA ad NX sz) NX ad (celX ad dA) 4 [(0, vR ad 0), (1, vI x1), (2, vI x2)] [] σ := by
  intro n
  induction n with
  | zero => intro σ x1 x2  hf; exact False.elim hf
  | succ n ih =>
    intro σ x1 x2  hf
    rw [uX11_gapCount_B4] at hf
    refine z_iload_n hC dX11_gapCount_4 2 rfl rfl ?_
    refine z_aload_n hC dX11_gapCount_5 0 rfl rfl ?_
    refine z_get hC (fun w h => uT _ w (uL11 w h)) (oX_11 (show kX 0 = 11 by decide)) 0 (by decide) (uT _ _ u467) rfl rfl dX11_gapCount_6 ?_
    obtain ⟨g1, hf⟩ := hf
    refine z_get hC (fun w h => uT _ w (uL8 w h)) (oX_8 g1) 2 (by decide) (uT _ _ u222) rfl rfl dX11_gapCount_9 ?_
    obtain ⟨g2, hf⟩ := hf
    obtain ⟨g3, hf⟩ := hf
    refine z_icmp_ge (tgt := 35) hC dX11_gapCount_12 (by decide) g2 g3 (fun hc => ?_) (fun hc => ?_)
    · replace hf := hf.1 hc
      refine z_iload_n hC dX11_gapCount_35 1 rfl rfl ?_
      exact z_iret hC hr rfl dX11_gapCount_36 hf
    · replace hf := hf.2 hc
      refine z_aload_n hC dX11_gapCount_15 0 rfl rfl ?_
      refine z_get hC (fun w h => uT _ w (uL11 w h)) (oX_11 (show kX 0 = 11 by decide)) 0 (by decide) (uT _ _ u467) rfl rfl dX11_gapCount_16 ?_
      refine z_iload_n hC dX11_gapCount_19 2 rfl rfl ?_
      refine z_callVi hC hE (oX_8 g1) [vI x2] (fun sz2 => mX8_gapAfter l hinj sz2 hf) (cwV 1 hC.1.2.2.2.2 (uV (uT _) u945 u946 u947 u106 u948) rfl rfl rfl (by decide +kernel) ⟨Nat.le_of_ble_eq_true rfl, Nat.le_of_ble_eq_true rfl⟩) rfl rfl (Nat.le_of_ble_eq_true rfl) ⟨Nat.le_of_ble_eq_true rfl, Nat.le_of_ble_eq_true rfl⟩ dX11_gapCount_20 (fun r4 σ4 hf => ?_)
      obtain ⟨g5, hf⟩ := hf
      refine z_if_le (tgt := 29) hC dX11_gapCount_23 (by decide) g5 (fun hc => ?_) (fun hc => ?_)
      · replace hf := hf.1 hc
        refine z_iinc hC ([(2, vI (x2 + 1)), (0, vR ad 0), (1, vI x1)]) dX11_gapCount_29 2 rfl (by decide) rfl ?_
        refine z_goto (tgt := 4) hC dX11_gapCount_32 (by decide) ?_
        refine z_sub (lv' := [(0, vR ad 0), (1, vI x1), (2, vI (x2 + 1))]) [1, 2, 0] rfl ?_
        exact ih _ _ _ hf
      · replace hf := hf.2 hc
        refine z_iinc hC ([(1, vI (x1 + 1)), (0, vR ad 0), (2, vI x2)]) dX11_gapCount_26 1 rfl (by decide) rfl ?_
        refine z_iinc hC ([(2, vI (x2 + 1)), (1, vI (x1 + 1)), (0, vR ad 0)]) dX11_gapCount_29 2 rfl (by decide) rfl ?_
        refine z_goto (tgt := 4) hC dX11_gapCount_32 (by decide) ?_
        refine z_sub (lv' := [(0, vR ad 0), (1, vI (x1 + 1)), (2, vI (x2 + 1))]) [2, 1, 0] rfl ?_
        exact ih _ _ _ hf
set_option maxHeartbeats 4000000 in
set_option maxRecDepth 100000 in
theorem mX11_gapCount {D : va_G} {dA : Nat → ClassId} {ad : Nat → Nat} {aL aG aI : Nat} {aK aV : Nat → Nat} (l : Launch) (hinj : ∀ i j, i < NX → j < NX → ad i = ad j → i = j) (sz : Nat) {K : Int → zSt → Prop} {σ : zSt} (hf : fX11_gapCount K σ ) : Met l yX11_gapCount (Cond.code yX11_gapCount cX11_gapCount 3 (some .int) :: UW) ({ frames := 5, cells := 0, slots := 0, locals := 113 } : Room) (va_Pc [vR ad 0] (zPre D vwCl (tyA dA) (zXX aL aG aI aK aV) NX ad (celX ad dA) sz σ)) (va_Qi (zPi K) (zB D vwCl (tyA dA) NX ad (celX ad dA)) (zA ad NX sz)) 0 0 (zA ad NX sz) := by
  refine z_enter (cc := cX11_gapCount) (maxL := 3) (ret := (some .int)) (vs := [vR ad 0]) (plainFor_of_name (by decide)) rfl hinj (Nat.le_of_ble_eq_true rfl) ?_
  intro p e s m args below meth c hC hE hsz hr hnm
  show zAt p l e ({ frames := 5, cells := 0, slots := 0, locals := 113 } : Room) s m args below meth c 0 0 (MQ below (va_Qi (zPi K) (zB D vwCl (tyA dA) NX ad (celX ad dA)) (zA ad NX sz)) args s 0 0 (zA ad NX sz)) 3 D vwCl (zA ad NX sz) NX ad (celX ad dA) 0 [(0, vR ad 0)] [] σ
  refine z_iconst hC dX11_gapCount_0 ?_
  refine z_istore_n hC ([(1, vI 0), (0, vR ad 0)]) dX11_gapCount_1 rfl (by decide) rfl ?_
  refine z_iconst hC dX11_gapCount_2 ?_
  refine z_istore_n hC ([(2, vI 0), (1, vI 0), (0, vR ad 0)]) dX11_gapCount_3 rfl (by decide) rfl ?_
  refine z_sub (lv' := [(0, vR ad 0), (1, vI 0), (2, vI 0)]) [2, 1, 0] rfl ?_
  obtain ⟨n, hf⟩ := hf
  exact wX11_gapCount_B4 hC hE hr hinj n _ _ _ hf

-- ===== X11_frameOfGap
noncomputable def fX11_frameOfGap_B4 (K : Int → zSt → Prop) (n : Nat) : zSt → Int → Int → Int → Prop :=
  Nat.rec (motive := fun _ => zSt → Int → Int → Int → Prop) (fun _ _ _ _ => False) (fun _ ih σ x1 x2 x3 => kX (σ 0 0) = 8 ∧ zrg x3 ∧ zrg (σ (σ 0 0) 2) ∧ ((σ (σ 0 0) 2 ≤ x3 → K (-1) σ) ∧ (¬ σ (σ 0 0) 2 ≤ x3 → fX8_gapAfter (fun r4 σ4 => zrg r4 ∧ ((r4 ≤ 0 → ih σ4 x1 x2 (x3 + 1)) ∧ (¬ r4 ≤ 0 → zrg x2 ∧ zrg x1 ∧ ((x2 = x1 → K x3 σ4) ∧ (¬ x2 = x1 → ih σ4 x1 (x2 + 1) (x3 + 1)))))) σ (σ 0 0) x3))) n
theorem uX11_frameOfGap_B4 (K : Int → zSt → Prop) (n0 : Nat) (σ : zSt) (x1 : Int) (x2 : Int) (x3 : Int) : fX11_frameOfGap_B4 K (n0 + 1) σ x1 x2 x3 = (kX (σ 0 0) = 8 ∧ zrg x3 ∧ zrg (σ (σ 0 0) 2) ∧ ((σ (σ 0 0) 2 ≤ x3 → K (-1) σ) ∧ (¬ σ (σ 0 0) 2 ≤ x3 → fX8_gapAfter (fun r4 σ4 => zrg r4 ∧ ((r4 ≤ 0 → (fX11_frameOfGap_B4 K n0) σ4 x1 x2 (x3 + 1)) ∧ (¬ r4 ≤ 0 → zrg x2 ∧ zrg x1 ∧ ((x2 = x1 → K x3 σ4) ∧ (¬ x2 = x1 → (fX11_frameOfGap_B4 K n0) σ4 x1 (x2 + 1) (x3 + 1)))))) σ (σ 0 0) x3))) := rfl
def fX11_frameOfGap (K : Int → zSt → Prop) (σ : zSt) (x1 : Int) : Prop :=
  (∃ n, fX11_frameOfGap_B4 K n σ x1 0 0)
set_option maxHeartbeats 4000000 in
set_option maxRecDepth 100000 in
theorem wX11_frameOfGap_B4 {p : Program} {l : Launch} {e : Env} {s : State} {m : MethodId} {args : Array Value} {below : List Frame} {meth : Method} {c : Code} {D : va_G} {dA : Nat → ClassId} {ad : Nat → Nat} {sz : Nat} {aL aG aI : Nat} {aK aV : Nat → Nat} {K : Int → zSt → Prop} (hC : zC p m c cX11_frameOfGap 4 s args (Cond.code yX11_frameOfGap cX11_frameOfGap 4 (some .int) :: UW) RX11 meth D vwCl (tyA dA) (zA ad NX sz) NX ad (celX ad dA)) (hE : zE (zXX aL aG aI aK aV) (zA ad NX sz) s s.heap) (hr : meth.sig.returnType = (some .int)) (hinj : ∀ i j, i < NX → j < NX → ad i = ad j → i = j) : ∀ (n : Nat) (σ : zSt) (x1 : Int) (x2 : Int) (x3 : Int), fX11_frameOfGap_B4 K n σ x1 x2 x3 → zAt p l e ({ frames := 5, cells := 0, slots := 0, locals := 113 } : Room) s m args below meth c 0 0 (MQ below (va_Qi (zPi K) (zB D vwCl (tyA dA) NX ad (celX ad dA)) (zA ad NX sz)) args s 0 0 (zA ad NX sz)) 4 D vwCl (zA ad NX sz) NX ad (celX ad dA) 4 [(0, vR ad 0), (1, vI x1), (2, vI x2), (3, vI x3)] [] σ := by
  intro n
  induction n with
  | zero => intro σ x1 x2 x3  hf; exact False.elim hf
  | succ n ih =>
    intro σ x1 x2 x3  hf
    rw [uX11_frameOfGap_B4] at hf
    refine z_iload_n hC dX11_frameOfGap_4 3 rfl rfl ?_
    refine z_aload_n hC dX11_frameOfGap_5 0 rfl rfl ?_
    refine z_get hC (fun w h => uT _ w (uL11 w h)) (oX_11 (show kX 0 = 11 by decide)) 0 (by decide) (uT _ _ u467) rfl rfl dX11_frameOfGap_6 ?_
    obtain ⟨g1, hf⟩ := hf
    refine z_get hC (fun w h => uT _ w (uL8 w h)) (oX_8 g1) 2 (by decide) (uT _ _ u222) rfl rfl dX11_frameOfGap_9 ?_
    obtain ⟨g2, hf⟩ := hf
    obtain ⟨g3, hf⟩ := hf
    refine z_icmp_ge (tgt := 42) hC dX11_frameOfGap_12 (by decide) g2 g3 (fun hc => ?_) (fun hc => ?_)
    · replace hf := hf.1 hc
      refine z_iconst hC dX11_frameOfGap_42 ?_
      exact z_iret hC hr rfl dX11_frameOfGap_43 hf
    · replace hf := hf.2 hc
      refine z_aload_n hC dX11_frameOfGap_15 0 rfl rfl ?_
      refine z_get hC (fun w h => uT _ w (uL11 w h)) (oX_11 (show kX 0 = 11 by decide)) 0 (by decide) (uT _ _ u467) rfl rfl dX11_frameOfGap_16 ?_
      refine z_iload_n hC dX11_frameOfGap_19 3 rfl rfl ?_
      refine z_callVi hC hE (oX_8 g1) [vI x3] (fun sz2 => mX8_gapAfter l hinj sz2 hf) (cwV 1 hC.1.2.2.2.2 (uV (uT _) u945 u946 u947 u106 u948) rfl rfl rfl (by decide +kernel) ⟨Nat.le_of_ble_eq_true rfl, Nat.le_of_ble_eq_true rfl⟩) rfl rfl (Nat.le_of_ble_eq_true rfl) ⟨Nat.le_of_ble_eq_true rfl, Nat.le_of_ble_eq_true rfl⟩ dX11_frameOfGap_20 (fun r4 σ4 hf => ?_)
      obtain ⟨g5, hf⟩ := hf
      refine z_if_le (tgt := 36) hC dX11_frameOfGap_23 (by decide) g5 (fun hc => ?_) (fun hc => ?_)
      · replace hf := hf.1 hc
        refine z_iinc hC ([(3, vI (x3 + 1)), (0, vR ad 0), (1, vI x1), (2, vI x2)]) dX11_frameOfGap_36 3 rfl (by decide) rfl ?_
        refine z_goto (tgt := 4) hC dX11_frameOfGap_39 (by decide) ?_
        refine z_sub (lv' := [(0, vR ad 0), (1, vI x1), (2, vI x2), (3, vI (x3 + 1))]) [1, 2, 3, 0] rfl ?_
        exact ih _ _ _ _ hf
      · replace hf := hf.2 hc
        refine z_iload_n hC dX11_frameOfGap_26 2 rfl rfl ?_
        refine z_iload_n hC dX11_frameOfGap_27 1 rfl rfl ?_
        obtain ⟨g6, hf⟩ := hf
        obtain ⟨g7, hf⟩ := hf
        refine z_icmp_ne (tgt := 33) hC dX11_frameOfGap_28 (by decide) g6 g7 (fun hc => ?_) (fun hc => ?_)
        · replace hf := hf.2 hc
          refine z_iinc hC ([(2, vI (x2 + 1)), (0, vR ad 0), (1, vI x1), (3, vI x3)]) dX11_frameOfGap_33 2 rfl (by decide) rfl ?_
          refine z_iinc hC ([(3, vI (x3 + 1)), (2, vI (x2 + 1)), (0, vR ad 0), (1, vI x1)]) dX11_frameOfGap_36 3 rfl (by decide) rfl ?_
          refine z_goto (tgt := 4) hC dX11_frameOfGap_39 (by decide) ?_
          refine z_sub (lv' := [(0, vR ad 0), (1, vI x1), (2, vI (x2 + 1)), (3, vI (x3 + 1))]) [2, 3, 1, 0] rfl ?_
          exact ih _ _ _ _ hf
        · replace hf := hf.1 hc
          refine z_iload_n hC dX11_frameOfGap_31 3 rfl rfl ?_
          exact z_iret hC hr rfl dX11_frameOfGap_32 hf
set_option maxHeartbeats 4000000 in
set_option maxRecDepth 100000 in
theorem mX11_frameOfGap {D : va_G} {dA : Nat → ClassId} {ad : Nat → Nat} {aL aG aI : Nat} {aK aV : Nat → Nat} (l : Launch) (hinj : ∀ i j, i < NX → j < NX → ad i = ad j → i = j) (sz : Nat) {K : Int → zSt → Prop} {σ : zSt} {x1 : Int} (hf : fX11_frameOfGap K σ x1) : Met l yX11_frameOfGap (Cond.code yX11_frameOfGap cX11_frameOfGap 4 (some .int) :: UW) ({ frames := 5, cells := 0, slots := 0, locals := 113 } : Room) (va_Pc [vR ad 0, vI x1] (zPre D vwCl (tyA dA) (zXX aL aG aI aK aV) NX ad (celX ad dA) sz σ)) (va_Qi (zPi K) (zB D vwCl (tyA dA) NX ad (celX ad dA)) (zA ad NX sz)) 0 0 (zA ad NX sz) := by
  refine z_enter (cc := cX11_frameOfGap) (maxL := 4) (ret := (some .int)) (vs := [vR ad 0, vI x1]) (plainFor_of_name (by decide)) rfl hinj (Nat.le_of_ble_eq_true rfl) ?_
  intro p e s m args below meth c hC hE hsz hr hnm
  show zAt p l e ({ frames := 5, cells := 0, slots := 0, locals := 113 } : Room) s m args below meth c 0 0 (MQ below (va_Qi (zPi K) (zB D vwCl (tyA dA) NX ad (celX ad dA)) (zA ad NX sz)) args s 0 0 (zA ad NX sz)) 4 D vwCl (zA ad NX sz) NX ad (celX ad dA) 0 [(0, vR ad 0), (1, vI x1)] [] σ
  refine z_iconst hC dX11_frameOfGap_0 ?_
  refine z_istore_n hC ([(2, vI 0), (0, vR ad 0), (1, vI x1)]) dX11_frameOfGap_1 rfl (by decide) rfl ?_
  refine z_iconst hC dX11_frameOfGap_2 ?_
  refine z_istore_n hC ([(3, vI 0), (2, vI 0), (0, vR ad 0), (1, vI x1)]) dX11_frameOfGap_3 rfl (by decide) rfl ?_
  refine z_sub (lv' := [(0, vR ad 0), (1, vI x1), (2, vI 0), (3, vI 0)]) [2, 3, 1, 0] rfl ?_
  obtain ⟨n, hf⟩ := hf
  exact wX11_frameOfGap_B4 hC hE hr hinj n _ _ _ _ hf

-- ===== X11_gapStart
def fX11_gapStart (K : Int → zSt → Prop) (σ : zSt) (x1 : Int) : Prop :=
  fX11_frameOfGap (fun r1 σ1 => zrg r1 ∧ ((r1 = (-1) → K (-1) σ1) ∧ (¬ r1 = (-1) → kX (σ1 0 0) = 8 ∧ fX8_dayOf (fun r4 σ4 => K r4 σ4) σ1 (σ1 0 0) r1))) σ x1
set_option maxHeartbeats 4000000 in
set_option maxRecDepth 100000 in
theorem mX11_gapStart {D : va_G} {dA : Nat → ClassId} {ad : Nat → Nat} {aL aG aI : Nat} {aK aV : Nat → Nat} (l : Launch) (hinj : ∀ i j, i < NX → j < NX → ad i = ad j → i = j) (sz : Nat) {K : Int → zSt → Prop} {σ : zSt} {x1 : Int} (hf : fX11_gapStart K σ x1) : Met l yX11_gapStart (Cond.code yX11_gapStart cX11_gapStart 3 (some .int) :: UW) ({ frames := 6, cells := 0, slots := 0, locals := 136 } : Room) (va_Pc [vR ad 0, vI x1] (zPre D vwCl (tyA dA) (zXX aL aG aI aK aV) NX ad (celX ad dA) sz σ)) (va_Qi (zPi K) (zB D vwCl (tyA dA) NX ad (celX ad dA)) (zA ad NX sz)) 0 0 (zA ad NX sz) := by
  refine z_enter (cc := cX11_gapStart) (maxL := 3) (ret := (some .int)) (vs := [vR ad 0, vI x1]) (plainFor_of_name (by decide)) rfl hinj (Nat.le_of_ble_eq_true rfl) ?_
  intro p e s m args below meth c hC hE hsz hr hnm
  show zAt p l e ({ frames := 6, cells := 0, slots := 0, locals := 136 } : Room) s m args below meth c 0 0 (MQ below (va_Qi (zPi K) (zB D vwCl (tyA dA) NX ad (celX ad dA)) (zA ad NX sz)) args s 0 0 (zA ad NX sz)) 3 D vwCl (zA ad NX sz) NX ad (celX ad dA) 0 [(0, vR ad 0), (1, vI x1)] [] σ
  refine z_aload_n hC dX11_gapStart_0 0 rfl rfl ?_
  refine z_iload_n hC dX11_gapStart_1 1 rfl rfl ?_
  refine z_callVi hC hE (oX_11 (show kX 0 = 11 by decide)) [vI x1] (fun sz2 => mX11_frameOfGap l hinj sz2 hf) (cwV 1 hC.1.2.2.2.2 (uV (uT _) u955 u957 u23 u105 u958) rfl rfl rfl (by decide +kernel) ⟨Nat.le_of_ble_eq_true rfl, Nat.le_of_ble_eq_true rfl⟩) rfl rfl (Nat.le_of_ble_eq_true rfl) ⟨Nat.le_of_ble_eq_true rfl, Nat.le_of_ble_eq_true rfl⟩ dX11_gapStart_2 (fun r1 σ1 hf => ?_)
  refine z_istore_n hC ([(2, vI r1), (0, vR ad 0), (1, vI x1)]) dX11_gapStart_5 rfl (by decide) rfl ?_
  refine z_iload_n hC dX11_gapStart_6 0 rfl rfl ?_
  refine z_iconst hC dX11_gapStart_7 ?_
  obtain ⟨g2, hf⟩ := hf
  refine z_icmp_ne (tgt := 15) hC dX11_gapStart_8 (by decide) g2 (zlit rfl rfl) (fun hc => ?_) (fun hc => ?_)
  · replace hf := hf.2 hc
    refine z_aload_n hC dX11_gapStart_15 1 rfl rfl ?_
    refine z_get hC (fun w h => uT _ w (uL11 w h)) (oX_11 (show kX 0 = 11 by decide)) 0 (by decide) (uT _ _ u467) rfl rfl dX11_gapStart_16 ?_
    obtain ⟨g3, hf⟩ := hf
    refine z_iload_n hC dX11_gapStart_19 0 rfl rfl ?_
    refine z_callVi hC hE (oX_8 g3) [vI r1] (fun sz2 => mX8_dayOf l hinj sz2 hf) (cwV 1 hC.1.2.2.2.2 (uV (uT _) u959 u617 u618 u106 u619) rfl rfl rfl (by decide +kernel) ⟨Nat.le_of_ble_eq_true rfl, Nat.le_of_ble_eq_true rfl⟩) rfl rfl (Nat.le_of_ble_eq_true rfl) ⟨Nat.le_of_ble_eq_true rfl, Nat.le_of_ble_eq_true rfl⟩ dX11_gapStart_20 (fun r4 σ4 hf => ?_)
    exact z_iret hC hr rfl dX11_gapStart_23 hf
  · replace hf := hf.1 hc
    refine z_iconst hC dX11_gapStart_11 ?_
    refine z_goto (tgt := 23) hC dX11_gapStart_12 (by decide) ?_
    exact z_iret hC hr rfl dX11_gapStart_23 hf

-- ===== X11_gapDays
def fX11_gapDays (K : Int → zSt → Prop) (σ : zSt) (x1 : Int) : Prop :=
  fX11_frameOfGap (fun r1 σ1 => zrg r1 ∧ ((r1 = (-1) → K (-1) σ1) ∧ (¬ r1 = (-1) → kX (σ1 0 0) = 8 ∧ fX8_gapAfter (fun r4 σ4 => K r4 σ4) σ1 (σ1 0 0) r1))) σ x1
set_option maxHeartbeats 4000000 in
set_option maxRecDepth 100000 in
theorem mX11_gapDays {D : va_G} {dA : Nat → ClassId} {ad : Nat → Nat} {aL aG aI : Nat} {aK aV : Nat → Nat} (l : Launch) (hinj : ∀ i j, i < NX → j < NX → ad i = ad j → i = j) (sz : Nat) {K : Int → zSt → Prop} {σ : zSt} {x1 : Int} (hf : fX11_gapDays K σ x1) : Met l yX11_gapDays (Cond.code yX11_gapDays cX11_gapDays 3 (some .int) :: UW) ({ frames := 6, cells := 0, slots := 0, locals := 136 } : Room) (va_Pc [vR ad 0, vI x1] (zPre D vwCl (tyA dA) (zXX aL aG aI aK aV) NX ad (celX ad dA) sz σ)) (va_Qi (zPi K) (zB D vwCl (tyA dA) NX ad (celX ad dA)) (zA ad NX sz)) 0 0 (zA ad NX sz) := by
  refine z_enter (cc := cX11_gapDays) (maxL := 3) (ret := (some .int)) (vs := [vR ad 0, vI x1]) (plainFor_of_name (by decide)) rfl hinj (Nat.le_of_ble_eq_true rfl) ?_
  intro p e s m args below meth c hC hE hsz hr hnm
  show zAt p l e ({ frames := 6, cells := 0, slots := 0, locals := 136 } : Room) s m args below meth c 0 0 (MQ below (va_Qi (zPi K) (zB D vwCl (tyA dA) NX ad (celX ad dA)) (zA ad NX sz)) args s 0 0 (zA ad NX sz)) 3 D vwCl (zA ad NX sz) NX ad (celX ad dA) 0 [(0, vR ad 0), (1, vI x1)] [] σ
  refine z_aload_n hC dX11_gapDays_0 0 rfl rfl ?_
  refine z_iload_n hC dX11_gapDays_1 1 rfl rfl ?_
  refine z_callVi hC hE (oX_11 (show kX 0 = 11 by decide)) [vI x1] (fun sz2 => mX11_frameOfGap l hinj sz2 hf) (cwV 1 hC.1.2.2.2.2 (uV (uT _) u955 u957 u23 u105 u958) rfl rfl rfl (by decide +kernel) ⟨Nat.le_of_ble_eq_true rfl, Nat.le_of_ble_eq_true rfl⟩) rfl rfl (Nat.le_of_ble_eq_true rfl) ⟨Nat.le_of_ble_eq_true rfl, Nat.le_of_ble_eq_true rfl⟩ dX11_gapDays_2 (fun r1 σ1 hf => ?_)
  refine z_istore_n hC ([(2, vI r1), (0, vR ad 0), (1, vI x1)]) dX11_gapDays_5 rfl (by decide) rfl ?_
  refine z_iload_n hC dX11_gapDays_6 0 rfl rfl ?_
  refine z_iconst hC dX11_gapDays_7 ?_
  obtain ⟨g2, hf⟩ := hf
  refine z_icmp_ne (tgt := 15) hC dX11_gapDays_8 (by decide) g2 (zlit rfl rfl) (fun hc => ?_) (fun hc => ?_)
  · replace hf := hf.2 hc
    refine z_aload_n hC dX11_gapDays_15 1 rfl rfl ?_
    refine z_get hC (fun w h => uT _ w (uL11 w h)) (oX_11 (show kX 0 = 11 by decide)) 0 (by decide) (uT _ _ u467) rfl rfl dX11_gapDays_16 ?_
    obtain ⟨g3, hf⟩ := hf
    refine z_iload_n hC dX11_gapDays_19 0 rfl rfl ?_
    refine z_callVi hC hE (oX_8 g3) [vI r1] (fun sz2 => mX8_gapAfter l hinj sz2 hf) (cwV 1 hC.1.2.2.2.2 (uV (uT _) u945 u946 u947 u106 u948) rfl rfl rfl (by decide +kernel) ⟨Nat.le_of_ble_eq_true rfl, Nat.le_of_ble_eq_true rfl⟩) rfl rfl (Nat.le_of_ble_eq_true rfl) ⟨Nat.le_of_ble_eq_true rfl, Nat.le_of_ble_eq_true rfl⟩ dX11_gapDays_20 (fun r4 σ4 hf => ?_)
    exact z_iret hC hr rfl dX11_gapDays_23 hf
  · replace hf := hf.1 hc
    refine z_iconst hC dX11_gapDays_11 ?_
    refine z_goto (tgt := 23) hC dX11_gapDays_12 (by decide) ?_
    exact z_iret hC hr rfl dX11_gapDays_23 hf

-- ===== X11_longestGap
noncomputable def fX11_longestGap_B4 (K : Int → zSt → Prop) (n : Nat) : zSt → Int → Int → Prop :=
  Nat.rec (motive := fun _ => zSt → Int → Int → Prop) (fun _ _ _ => False) (fun _ ih σ x1 x2 => kX (σ 0 0) = 8 ∧ zrg x2 ∧ zrg (σ (σ 0 0) 2) ∧ ((σ (σ 0 0) 2 ≤ x2 → K x1 σ) ∧ (¬ σ (σ 0 0) 2 ≤ x2 → fX8_gapAfter (fun r4 σ4 => zrg x1 ∧ zrg r4 ∧ ih σ4 (max x1 r4) (x2 + 1)) σ (σ 0 0) x2))) n
theorem uX11_longestGap_B4 (K : Int → zSt → Prop) (n0 : Nat) (σ : zSt) (x1 : Int) (x2 : Int) : fX11_longestGap_B4 K (n0 + 1) σ x1 x2 = (kX (σ 0 0) = 8 ∧ zrg x2 ∧ zrg (σ (σ 0 0) 2) ∧ ((σ (σ 0 0) 2 ≤ x2 → K x1 σ) ∧ (¬ σ (σ 0 0) 2 ≤ x2 → fX8_gapAfter (fun r4 σ4 => zrg x1 ∧ zrg r4 ∧ (fX11_longestGap_B4 K n0) σ4 (max x1 r4) (x2 + 1)) σ (σ 0 0) x2))) := rfl
def fX11_longestGap (K : Int → zSt → Prop) (σ : zSt) : Prop :=
  (∃ n, fX11_longestGap_B4 K n σ 0 0)
set_option maxHeartbeats 4000000 in
set_option maxRecDepth 100000 in
theorem wX11_longestGap_B4 {p : Program} {l : Launch} {e : Env} {s : State} {m : MethodId} {args : Array Value} {below : List Frame} {meth : Method} {c : Code} {D : va_G} {dA : Nat → ClassId} {ad : Nat → Nat} {sz : Nat} {aL aG aI : Nat} {aK aV : Nat → Nat} {K : Int → zSt → Prop} (hC : zC p m c cX11_longestGap 3 s args (Cond.code yX11_longestGap cX11_longestGap 3 (some .int) :: UW) RX11 meth D vwCl (tyA dA) (zA ad NX sz) NX ad (celX ad dA)) (hE : zE (zXX aL aG aI aK aV) (zA ad NX sz) s s.heap) (hr : meth.sig.returnType = (some .int)) (hinj : ∀ i j, i < NX → j < NX → ad i = ad j → i = j) : ∀ (n : Nat) (σ : zSt) (x1 : Int) (x2 : Int), fX11_longestGap_B4 K n σ x1 x2 → zAt p l e ({ frames := 5, cells := 0, slots := 0, locals := 113 } : Room) s m args below meth c 0 0 (MQ below (va_Qi (zPi K) (zB D vwCl (tyA dA) NX ad (celX ad dA)) (zA ad NX sz)) args s 0 0 (zA ad NX sz)) 3 D vwCl (zA ad NX sz) NX ad (celX ad dA) 4 [(0, vR ad 0), (1, vI x1), (2, vI x2)] [] σ := by
  intro n
  induction n with
  | zero => intro σ x1 x2  hf; exact False.elim hf
  | succ n ih =>
    intro σ x1 x2  hf
    rw [uX11_longestGap_B4] at hf
    refine z_iload_n hC dX11_longestGap_4 2 rfl rfl ?_
    refine z_aload_n hC dX11_longestGap_5 0 rfl rfl ?_
    refine z_get hC (fun w h => uT _ w (uL11 w h)) (oX_11 (show kX 0 = 11 by decide)) 0 (by decide) (uT _ _ u467) rfl rfl dX11_longestGap_6 ?_
    obtain ⟨g1, hf⟩ := hf
    refine z_get hC (fun w h => uT _ w (uL8 w h)) (oX_8 g1) 2 (by decide) (uT _ _ u222) rfl rfl dX11_longestGap_9 ?_
    obtain ⟨g2, hf⟩ := hf
    obtain ⟨g3, hf⟩ := hf
    refine z_icmp_ge (tgt := 34) hC dX11_longestGap_12 (by decide) g2 g3 (fun hc => ?_) (fun hc => ?_)
    · replace hf := hf.1 hc
      refine z_iload_n hC dX11_longestGap_34 1 rfl rfl ?_
      exact z_iret hC hr rfl dX11_longestGap_35 hf
    · replace hf := hf.2 hc
      refine z_iload_n hC dX11_longestGap_15 1 rfl rfl ?_
      refine z_aload_n hC dX11_longestGap_16 0 rfl rfl ?_
      refine z_get hC (fun w h => uT _ w (uL11 w h)) (oX_11 (show kX 0 = 11 by decide)) 0 (by decide) (uT _ _ u467) rfl rfl dX11_longestGap_17 ?_
      refine z_iload_n hC dX11_longestGap_20 2 rfl rfl ?_
      refine z_callVi hC hE (oX_8 g1) [vI x2] (fun sz2 => mX8_gapAfter l hinj sz2 hf) (cwV 1 hC.1.2.2.2.2 (uV (uT _) u945 u946 u947 u106 u948) rfl rfl rfl (by decide +kernel) ⟨Nat.le_of_ble_eq_true rfl, Nat.le_of_ble_eq_true rfl⟩) rfl rfl (Nat.le_of_ble_eq_true rfl) ⟨Nat.le_of_ble_eq_true rfl, Nat.le_of_ble_eq_true rfl⟩ dX11_longestGap_21 (fun r4 σ4 hf => ?_)
      obtain ⟨g5, hf⟩ := hf
      obtain ⟨g6, hf⟩ := hf
      refine z_mmax hC g5 g6 (fun w h => uT _ w (uC u968 (uC u796 (uC u108 (uC u797 uN))) w h)) (Nat.le_of_ble_eq_true rfl) (Nat.le_of_ble_eq_true rfl) ⟨Nat.le_of_ble_eq_true rfl, Nat.le_of_ble_eq_true rfl⟩ dX11_longestGap_24 ?_
      refine z_istore_n hC ([(1, vI (max x1 r4)), (0, vR ad 0), (2, vI x2)]) dX11_longestGap_27 rfl (by decide) rfl ?_
      refine z_iinc hC ([(2, vI (x2 + 1)), (1, vI (max x1 r4)), (0, vR ad 0)]) dX11_longestGap_28 2 rfl (by decide) rfl ?_
      refine z_goto (tgt := 4) hC dX11_longestGap_31 (by decide) ?_
      refine z_sub (lv' := [(0, vR ad 0), (1, vI (max x1 r4)), (2, vI (x2 + 1))]) [2, 1, 0] rfl ?_
      exact ih _ _ _ hf
set_option maxHeartbeats 4000000 in
set_option maxRecDepth 100000 in
theorem mX11_longestGap {D : va_G} {dA : Nat → ClassId} {ad : Nat → Nat} {aL aG aI : Nat} {aK aV : Nat → Nat} (l : Launch) (hinj : ∀ i j, i < NX → j < NX → ad i = ad j → i = j) (sz : Nat) {K : Int → zSt → Prop} {σ : zSt} (hf : fX11_longestGap K σ ) : Met l yX11_longestGap (Cond.code yX11_longestGap cX11_longestGap 3 (some .int) :: UW) ({ frames := 5, cells := 0, slots := 0, locals := 113 } : Room) (va_Pc [vR ad 0] (zPre D vwCl (tyA dA) (zXX aL aG aI aK aV) NX ad (celX ad dA) sz σ)) (va_Qi (zPi K) (zB D vwCl (tyA dA) NX ad (celX ad dA)) (zA ad NX sz)) 0 0 (zA ad NX sz) := by
  refine z_enter (cc := cX11_longestGap) (maxL := 3) (ret := (some .int)) (vs := [vR ad 0]) (plainFor_of_name (by decide)) rfl hinj (Nat.le_of_ble_eq_true rfl) ?_
  intro p e s m args below meth c hC hE hsz hr hnm
  show zAt p l e ({ frames := 5, cells := 0, slots := 0, locals := 113 } : Room) s m args below meth c 0 0 (MQ below (va_Qi (zPi K) (zB D vwCl (tyA dA) NX ad (celX ad dA)) (zA ad NX sz)) args s 0 0 (zA ad NX sz)) 3 D vwCl (zA ad NX sz) NX ad (celX ad dA) 0 [(0, vR ad 0)] [] σ
  refine z_iconst hC dX11_longestGap_0 ?_
  refine z_istore_n hC ([(1, vI 0), (0, vR ad 0)]) dX11_longestGap_1 rfl (by decide) rfl ?_
  refine z_iconst hC dX11_longestGap_2 ?_
  refine z_istore_n hC ([(2, vI 0), (1, vI 0), (0, vR ad 0)]) dX11_longestGap_3 rfl (by decide) rfl ?_
  refine z_sub (lv' := [(0, vR ad 0), (1, vI 0), (2, vI 0)]) [2, 1, 0] rfl ?_
  obtain ⟨n, hf⟩ := hf
  exact wX11_longestGap_B4 hC hE hr hinj n _ _ _ hf

-- ===== X11_requireStake
def fX11_requireStake (K : zSt → Prop) (KX : String → zSt → Prop) (σ : zSt) (x1 : Int) : Prop :=
  kX (σ 0 0) = 8 ∧ fX8_hasStake (fun r2 σ2 => zrg r2 ∧ ((r2 = 0 → KX "java/lang/IndexOutOfBoundsException" σ2) ∧ (¬ r2 = 0 → K σ2))) σ (σ 0 0) x1
set_option maxHeartbeats 4000000 in
set_option maxRecDepth 100000 in
theorem mX11_requireStake {D : va_G} {dA : Nat → ClassId} {ad : Nat → Nat} {aL aG aI : Nat} {aK aV : Nat → Nat} (l : Launch) (hinj : ∀ i j, i < NX → j < NX → ad i = ad j → i = j) (hst : l.stackTraces = false) (sz : Nat) {K : zSt → Prop} {KX : String → zSt → Prop} {σ : zSt} {x1 : Int} (hf : fX11_requireStake K KX σ x1) : vx_Met l yX11_requireStake (Cond.code yX11_requireStake cX11_requireStake 2 none :: UW) ({ frames := 6, cells := 1, slots := 6, locals := 82 } : Room) (va_Pc [vR ad 0, vI x1] (zPre D vwCl (tyA dA) (zXX aL aG aI aK aV) NX ad (celX ad dA) sz σ)) (va_Qv K (zB D vwCl (tyA dA) NX ad (celX ad dA)) (zA ad NX sz)) (zXC D vwCl (tyA dA) NX ad (celX ad dA) KX (zA ad NX sz)) 1 6 (zA ad NX sz) := by
  refine zx_enter (cc := cX11_requireStake) (maxL := 2) (ret := none) (vs := [vR ad 0, vI x1]) (by decide) rfl hinj (Nat.le_of_ble_eq_true rfl) ?_
  intro p e s m args below meth c hC hE hsz hr hno
  show zAt p l e ({ frames := 6, cells := 1, slots := 6, locals := 82 } : Room) s m args below meth c 0 0 (vx_MQ below (va_Qv K (zB D vwCl (tyA dA) NX ad (celX ad dA)) (zA ad NX sz)) (zXC D vwCl (tyA dA) NX ad (celX ad dA) KX (zA ad NX sz)) args s 1 6 (zA ad NX sz)) 2 D vwCl (zA ad NX sz) NX ad (celX ad dA) 0 [(0, vR ad 0), (1, vI x1)] [] σ
  refine z_aload_n hC dX11_requireStake_0 0 rfl rfl ?_
  refine z_get hC (fun w h => uT _ w (uL11 w h)) (oX_11 (show kX 0 = 11 by decide)) 0 (by decide) (uT _ _ u467) rfl rfl dX11_requireStake_1 ?_
  obtain ⟨g1, hf⟩ := hf
  refine z_iload_n hC dX11_requireStake_4 1 rfl rfl ?_
  refine z_callVi hC hE (oX_8 g1) [vI x1] (fun sz2 => mX8_hasStake l hinj sz2 hf) (cwV 1 hC.1.2.2.2.2 (uV (uT _) u973 u974 u975 u106 u976) rfl rfl rfl (by decide +kernel) ⟨Nat.le_of_ble_eq_true rfl, Nat.le_of_ble_eq_true rfl⟩) rfl rfl (Nat.le_of_ble_eq_true rfl) ⟨Nat.le_of_ble_eq_true rfl, Nat.le_of_ble_eq_true rfl⟩ dX11_requireStake_5 (fun r2 σ2 hf => ?_)
  obtain ⟨g3, hf⟩ := hf
  refine z_if_ne (tgt := 22) hC dX11_requireStake_8 (by decide) g3 (fun hc => ?_) (fun hc => ?_)
  · replace hf := hf.2 hc
    exact zx_vret hC hr rfl ⟨Nat.le_of_ble_eq_true rfl, Nat.le_of_ble_eq_true rfl⟩ dX11_requireStake_22 hf
  · replace hf := hf.1 hc
    exact zx_throw hC hE rfl hst hno (names := ["java/lang/RuntimeException", "java/lang/Exception"]) (by decide +kernel) (by decide +kernel) (uT _ _ u1065) (uT _ _ u126) (List.mem_of_getElem? (i := 19) rfl) (fun w h => uT _ w (uE391 w h)) uB391 uF391 dX11_requireStake_11 dX11_requireStake_14 dX11_requireStake_15 dX11_requireStake_18 dX11_requireStake_21 (Nat.le_of_ble_eq_true rfl) (Nat.le_of_ble_eq_true rfl) ⟨Nat.le_of_ble_eq_true rfl, Nat.le_of_ble_eq_true rfl⟩ ⟨Nat.le_of_ble_eq_true rfl, Nat.le_of_ble_eq_true rfl⟩ hf
