
-- ===== X4_readFrame
def fX4_readFrame_B143 (K : Int → zSt → Prop) (σ : zSt) (x3 : Int) : Prop :=
  zrg (σ 2 1) ∧ ((σ 2 1 = 3 → zrg x3 ∧ ((x3 = 0 → K (-11) σ) ∧ (¬ x3 = 0 → kX (σ 1 1) = 8 ∧ zrg (σ (σ 1 1) 1) ∧ ((σ (σ 1 1) 1 ≤ x3 → K 0 σ) ∧ (¬ σ (σ 1 1) 1 ≤ x3 → K (-15) σ))))) ∧ (¬ σ 2 1 = 3 → K (-11) σ))
noncomputable def fX4_readFrame_B68 (K : Int → zSt → Prop) (n : Nat) : zSt → Int → Int → Prop :=
  Nat.rec (motive := fun _ => zSt → Int → Int → Prop) (fun _ _ _ => False) (fun _ ih σ x2 x3 => zrg (σ 2 1) ∧ ((σ 2 1 = 2 → kX (σ 1 1) = 8 ∧ zrg x3 ∧ zrg (σ (σ 1 1) 1) ∧ ((σ (σ 1 1) 1 < x3 → fX4_readFrame_B143 K σ x3) ∧ (¬ σ (σ 1 1) 1 < x3 → fX2_tokenLength (fun r14 σ14 => kX (σ14 1 1) = 8 ∧ zrg r14 ∧ zrg (σ14 (σ14 1 1) 0) ∧ ((r14 = σ14 (σ14 1 1) 0 → zrg (σ14 (σ14 1 1) 1) ∧ ((x3 = σ14 (σ14 1 1) 1 → K (-15) σ14) ∧ (¬ x3 = σ14 (σ14 1 1) 1 → fX4_paintRow (fun σ19 => fX2_advance (fun σ20 => ih σ20 x2 (x3 + 1)) σ19 ) σ14 x2 x3))) ∧ (¬ r14 = σ14 (σ14 1 1) 0 → K (-12) σ14))) σ ))) ∧ (¬ σ 2 1 = 2 → fX4_readFrame_B143 K σ x3))) n
theorem uX4_readFrame_B68 (K : Int → zSt → Prop) (n0 : Nat) (σ : zSt) (x2 : Int) (x3 : Int) : fX4_readFrame_B68 K (n0 + 1) σ x2 x3 = (zrg (σ 2 1) ∧ ((σ 2 1 = 2 → kX (σ 1 1) = 8 ∧ zrg x3 ∧ zrg (σ (σ 1 1) 1) ∧ ((σ (σ 1 1) 1 < x3 → fX4_readFrame_B143 K σ x3) ∧ (¬ σ (σ 1 1) 1 < x3 → fX2_tokenLength (fun r14 σ14 => kX (σ14 1 1) = 8 ∧ zrg r14 ∧ zrg (σ14 (σ14 1 1) 0) ∧ ((r14 = σ14 (σ14 1 1) 0 → zrg (σ14 (σ14 1 1) 1) ∧ ((x3 = σ14 (σ14 1 1) 1 → K (-15) σ14) ∧ (¬ x3 = σ14 (σ14 1 1) 1 → fX4_paintRow (fun σ19 => fX2_advance (fun σ20 => (fX4_readFrame_B68 K n0) σ20 x2 (x3 + 1)) σ19 ) σ14 x2 x3))) ∧ (¬ r14 = σ14 (σ14 1 1) 0 → K (-12) σ14))) σ ))) ∧ (¬ σ 2 1 = 2 → fX4_readFrame_B143 K σ x3))) := rfl
def fX4_readFrame (K : Int → zSt → Prop) (σ : zSt) : Prop :=
  fX4_readNumber (fun r1 σ1 => zrg r1 ∧ ((r1 = 0 → kX (σ1 1 1) = 8 ∧ fX8_dayOf (fun r4 σ4 => zrg (σ1 2 3) ∧ zrg r4 ∧ ((r4 < σ1 2 3 → kX (σ4 1 1) = 8 ∧ fX8_addFrame (fun r8 σ8 => fX2_advance (fun σ9 => (∃ n, fX4_readFrame_B68 K n σ9 r8 0)) σ8 ) σ4 (σ4 1 1) (σ4 2 3)) ∧ (¬ r4 < σ1 2 3 → K (-14) σ4))) σ1 (σ1 1 1) ((σ1 (σ1 1 1) 2) - 1)) ∧ (¬ r1 = 0 → K r1 σ1))) σ 0 9999
set_option maxHeartbeats 4000000 in
set_option maxRecDepth 100000 in
theorem wX4_readFrame_B143 {p : Program} {l : Launch} {e : Env} {s : State} {m : MethodId} {args : Array Value} {below : List Frame} {meth : Method} {c : Code} {D : va_G} {dA : Nat → ClassId} {ad : Nat → Nat} {sz : Nat} {aL aG aI : Nat} {aK aV : Nat → Nat} {K : Int → zSt → Prop} (hC : zC p m c cX4_readFrame 4 s args (Cond.code yX4_readFrame cX4_readFrame 4 (some .int) :: UW) RX4 meth D vwCl (tyA dA) (zA ad NX sz) NX ad (celX ad dA)) (hE : zE (zXX aL aG aI aK aV) (zA ad NX sz) s s.heap) (hr : meth.sig.returnType = (some .int)) (hinj : ∀ i j, i < NX → j < NX → ad i = ad j → i = j) {σ : zSt} {x3 : Int} (hf : fX4_readFrame_B143 K σ x3) : zAt p l e ({ frames := 3, cells := 0, slots := 0, locals := 69 } : Room) s m args below meth c 0 0 (MQ below (va_Qi (zPi K) (zB D vwCl (tyA dA) NX ad (celX ad dA)) (zA ad NX sz)) args s 0 0 (zA ad NX sz)) 4 D vwCl (zA ad NX sz) NX ad (celX ad dA) 143 [(0, vR ad 1), (3, vI x3)] [] σ := by
  refine z_aload_n hC dX4_readFrame_143 0 rfl rfl ?_
  refine z_get hC (fun w h => uT _ w (uL4 w h)) (oX_4 (show kX 1 = 4 by decide)) 0 (by decide) (uT _ _ u305) rfl rfl dX4_readFrame_144 ?_
  refine z_get hC (fun w h => uT _ w (uL2 w h)) (oX_2 (show kX 2 = 2 by decide)) 1 (by decide) (uT _ _ u279) rfl rfl dX4_readFrame_147 ?_
  refine z_iconst hC dX4_readFrame_150 ?_
  obtain ⟨g21, hf⟩ := hf
  refine z_icmp_ne (tgt := 158) hC dX4_readFrame_151 (by decide) g21 (zlit rfl rfl) (fun hc => ?_) (fun hc => ?_)
  · replace hf := hf.2 hc
    refine z_bipush hC dX4_readFrame_158 (by decide) ?_
    exact z_iret hC hr rfl dX4_readFrame_160 hf
  · replace hf := hf.1 hc
    refine z_iload_n hC dX4_readFrame_154 1 rfl rfl ?_
    obtain ⟨g22, hf⟩ := hf
    refine z_if_ne (tgt := 161) hC dX4_readFrame_155 (by decide) g22 (fun hc => ?_) (fun hc => ?_)
    · replace hf := hf.2 hc
      refine z_iload_n hC dX4_readFrame_161 1 rfl rfl ?_
      refine z_aload_n hC dX4_readFrame_162 0 rfl rfl ?_
      refine z_get hC (fun w h => uT _ w (uL4 w h)) (oX_4 (show kX 1 = 4 by decide)) 1 (by decide) (uT _ _ u307) rfl rfl dX4_readFrame_163 ?_
      obtain ⟨g23, hf⟩ := hf
      refine z_get hC (fun w h => uT _ w (uL8 w h)) (oX_8 g23) 1 (by decide) (uT _ _ u217) rfl rfl dX4_readFrame_166 ?_
      obtain ⟨g24, hf⟩ := hf
      refine z_icmp_ge (tgt := 177) hC dX4_readFrame_169 (by decide) g22 g24 (fun hc => ?_) (fun hc => ?_)
      · replace hf := hf.1 hc
        refine z_iconst hC dX4_readFrame_177 ?_
        exact z_iret hC hr rfl dX4_readFrame_178 hf
      · replace hf := hf.2 hc
        refine z_bipush hC dX4_readFrame_172 (by decide) ?_
        refine z_goto (tgt := 178) hC dX4_readFrame_174 (by decide) ?_
        exact z_iret hC hr rfl dX4_readFrame_178 hf
    · replace hf := hf.1 hc
      refine z_bipush hC dX4_readFrame_158 (by decide) ?_
      exact z_iret hC hr rfl dX4_readFrame_160 hf
set_option maxHeartbeats 4000000 in
set_option maxRecDepth 100000 in
theorem wX4_readFrame_B68 {p : Program} {l : Launch} {e : Env} {s : State} {m : MethodId} {args : Array Value} {below : List Frame} {meth : Method} {c : Code} {D : va_G} {dA : Nat → ClassId} {ad : Nat → Nat} {sz : Nat} {aL aG aI : Nat} {aK aV : Nat → Nat} {K : Int → zSt → Prop} (hC : zC p m c cX4_readFrame 4 s args (Cond.code yX4_readFrame cX4_readFrame 4 (some .int) :: UW) RX4 meth D vwCl (tyA dA) (zA ad NX sz) NX ad (celX ad dA)) (hE : zE (zXX aL aG aI aK aV) (zA ad NX sz) s s.heap) (hr : meth.sig.returnType = (some .int)) (hinj : ∀ i j, i < NX → j < NX → ad i = ad j → i = j) : ∀ (n : Nat) (σ : zSt) (x2 : Int) (x3 : Int), fX4_readFrame_B68 K n σ x2 x3 → zAt p l e ({ frames := 3, cells := 0, slots := 0, locals := 69 } : Room) s m args below meth c 0 0 (MQ below (va_Qi (zPi K) (zB D vwCl (tyA dA) NX ad (celX ad dA)) (zA ad NX sz)) args s 0 0 (zA ad NX sz)) 4 D vwCl (zA ad NX sz) NX ad (celX ad dA) 68 [(0, vR ad 1), (2, vI x2), (3, vI x3)] [] σ := by
  intro n
  induction n with
  | zero => intro σ x2 x3  hf; exact False.elim hf
  | succ n ih =>
    intro σ x2 x3  hf
    rw [uX4_readFrame_B68] at hf
    refine z_aload_n hC dX4_readFrame_68 0 rfl rfl ?_
    refine z_get hC (fun w h => uT _ w (uL4 w h)) (oX_4 (show kX 1 = 4 by decide)) 0 (by decide) (uT _ _ u305) rfl rfl dX4_readFrame_69 ?_
    refine z_get hC (fun w h => uT _ w (uL2 w h)) (oX_2 (show kX 2 = 2 by decide)) 1 (by decide) (uT _ _ u279) rfl rfl dX4_readFrame_72 ?_
    refine z_iconst hC dX4_readFrame_75 ?_
    obtain ⟨g10, hf⟩ := hf
    refine z_icmp_ne (tgt := 143) hC dX4_readFrame_76 (by decide) g10 (zlit rfl rfl) (fun hc => ?_) (fun hc => ?_)
    · replace hf := hf.2 hc
      refine z_sub (lv' := [(0, vR ad 1), (3, vI x3)]) [0, 2] rfl ?_
      exact wX4_readFrame_B143 hC hE hr hinj  hf
    · replace hf := hf.1 hc
      refine z_iload_n hC dX4_readFrame_79 2 rfl rfl ?_
      refine z_aload_n hC dX4_readFrame_80 0 rfl rfl ?_
      refine z_get hC (fun w h => uT _ w (uL4 w h)) (oX_4 (show kX 1 = 4 by decide)) 1 (by decide) (uT _ _ u307) rfl rfl dX4_readFrame_81 ?_
      obtain ⟨g11, hf⟩ := hf
      refine z_get hC (fun w h => uT _ w (uL8 w h)) (oX_8 g11) 1 (by decide) (uT _ _ u217) rfl rfl dX4_readFrame_84 ?_
      obtain ⟨g12, hf⟩ := hf
      obtain ⟨g13, hf⟩ := hf
      refine z_icmp_gt (tgt := 143) hC dX4_readFrame_87 (by decide) g12 g13 (fun hc => ?_) (fun hc => ?_)
      · replace hf := hf.1 hc
        refine z_sub (lv' := [(0, vR ad 1), (3, vI x3)]) [0, 2] rfl ?_
        exact wX4_readFrame_B143 hC hE hr hinj  hf
      · replace hf := hf.2 hc
        refine z_aload_n hC dX4_readFrame_90 0 rfl rfl ?_
        refine z_get hC (fun w h => uT _ w (uL4 w h)) (oX_4 (show kX 1 = 4 by decide)) 0 (by decide) (uT _ _ u305) rfl rfl dX4_readFrame_91 ?_
        refine z_callVi hC hE (oX_2 (show kX 2 = 2 by decide)) [] (fun sz2 => mX2_tokenLength l hinj sz2 hf) (cwV 0 hC.1.2.2.2.2 (uV (uT _) u628 u544 u545 u112 u546) rfl rfl rfl (by decide +kernel) ⟨Nat.le_of_ble_eq_true rfl, Nat.le_of_ble_eq_true rfl⟩) rfl rfl (Nat.le_of_ble_eq_true rfl) ⟨Nat.le_of_ble_eq_true rfl, Nat.le_of_ble_eq_true rfl⟩ dX4_readFrame_94 (fun r14 σ14 hf => ?_)
        refine z_aload_n hC dX4_readFrame_97 0 rfl rfl ?_
        refine z_get hC (fun w h => uT _ w (uL4 w h)) (oX_4 (show kX 1 = 4 by decide)) 1 (by decide) (uT _ _ u307) rfl rfl dX4_readFrame_98 ?_
        obtain ⟨g15, hf⟩ := hf
        refine z_get hC (fun w h => uT _ w (uL8 w h)) (oX_8 g15) 0 (by decide) (uT _ _ u215) rfl rfl dX4_readFrame_101 ?_
        obtain ⟨g16, hf⟩ := hf
        obtain ⟨g17, hf⟩ := hf
        refine z_icmp_eq (tgt := 110) hC dX4_readFrame_104 (by decide) g16 g17 (fun hc => ?_) (fun hc => ?_)
        · replace hf := hf.1 hc
          refine z_iload_n hC dX4_readFrame_110 2 rfl rfl ?_
          refine z_aload_n hC dX4_readFrame_111 0 rfl rfl ?_
          refine z_get hC (fun w h => uT _ w (uL4 w h)) (oX_4 (show kX 1 = 4 by decide)) 1 (by decide) (uT _ _ u307) rfl rfl dX4_readFrame_112 ?_
          refine z_get hC (fun w h => uT _ w (uL8 w h)) (oX_8 g15) 1 (by decide) (uT _ _ u217) rfl rfl dX4_readFrame_115 ?_
          obtain ⟨g18, hf⟩ := hf
          refine z_icmp_ne (tgt := 124) hC dX4_readFrame_118 (by decide) g12 g18 (fun hc => ?_) (fun hc => ?_)
          · replace hf := hf.2 hc
            refine z_aload_n hC dX4_readFrame_124 0 rfl rfl ?_
            refine z_iload_n hC dX4_readFrame_125 1 rfl rfl ?_
            refine z_iload_n hC dX4_readFrame_126 2 rfl rfl ?_
            refine z_callVv hC hE (oX_4 (show kX 1 = 4 by decide)) [vI x2, vI x3] (fun sz2 => mX4_paintRow l hinj sz2 hf) (cwV 2 hC.1.2.2.2.2 (uV (uT _) u629 u631 u6 u111 u632) rfl rfl rfl (by decide +kernel) ⟨Nat.le_of_ble_eq_true rfl, Nat.le_of_ble_eq_true rfl⟩) rfl rfl (Nat.le_of_ble_eq_true rfl) ⟨Nat.le_of_ble_eq_true rfl, Nat.le_of_ble_eq_true rfl⟩ dX4_readFrame_127 (fun σ19 hf => ?_)
            refine z_iinc hC ([(3, vI (x3 + 1)), (0, vR ad 1), (2, vI x2)]) dX4_readFrame_130 2 rfl (by decide) rfl ?_
            refine z_aload_n hC dX4_readFrame_133 1 rfl rfl ?_
            refine z_get hC (fun w h => uT _ w (uL4 w h)) (oX_4 (show kX 1 = 4 by decide)) 0 (by decide) (uT _ _ u305) rfl rfl dX4_readFrame_134 ?_
            refine z_callVv hC hE (oX_2 (show kX 2 = 2 by decide)) [] (fun sz2 => mX2_advance l hinj sz2 hf) (cwV 0 hC.1.2.2.2.2 (uV (uT _) u603 u520 u521 u112 u522) rfl rfl rfl (by decide +kernel) ⟨Nat.le_of_ble_eq_true rfl, Nat.le_of_ble_eq_true rfl⟩) rfl rfl (Nat.le_of_ble_eq_true rfl) ⟨Nat.le_of_ble_eq_true rfl, Nat.le_of_ble_eq_true rfl⟩ dX4_readFrame_137 (fun σ20 hf => ?_)
            refine z_goto (tgt := 68) hC dX4_readFrame_140 (by decide) ?_
            refine z_sub (lv' := [(0, vR ad 1), (2, vI x2), (3, vI (x3 + 1))]) [1, 2, 0] rfl ?_
            exact ih _ _ _ hf
          · replace hf := hf.1 hc
            refine z_bipush hC dX4_readFrame_121 (by decide) ?_
            exact z_iret hC hr rfl dX4_readFrame_123 hf
        · replace hf := hf.2 hc
          refine z_bipush hC dX4_readFrame_107 (by decide) ?_
          exact z_iret hC hr rfl dX4_readFrame_109 hf
set_option maxHeartbeats 4000000 in
set_option maxRecDepth 100000 in
theorem mX4_readFrame {D : va_G} {dA : Nat → ClassId} {ad : Nat → Nat} {aL aG aI : Nat} {aK aV : Nat → Nat} (l : Launch) (hinj : ∀ i j, i < NX → j < NX → ad i = ad j → i = j) (sz : Nat) {K : Int → zSt → Prop} {σ : zSt} (hf : fX4_readFrame K σ ) : Met l yX4_readFrame (Cond.code yX4_readFrame cX4_readFrame 4 (some .int) :: UW) ({ frames := 3, cells := 0, slots := 0, locals := 69 } : Room) (va_Pc [vR ad 1] (zPre D vwCl (tyA dA) (zXX aL aG aI aK aV) NX ad (celX ad dA) sz σ)) (va_Qi (zPi K) (zB D vwCl (tyA dA) NX ad (celX ad dA)) (zA ad NX sz)) 0 0 (zA ad NX sz) := by
  refine z_enter (cc := cX4_readFrame) (maxL := 4) (ret := (some .int)) (vs := [vR ad 1]) (plainFor_of_name (by decide)) rfl hinj (Nat.le_of_ble_eq_true rfl) ?_
  intro p e s m args below meth c hC hE hsz hr hnm
  show zAt p l e ({ frames := 3, cells := 0, slots := 0, locals := 69 } : Room) s m args below meth c 0 0 (MQ below (va_Qi (zPi K) (zB D vwCl (tyA dA) NX ad (celX ad dA)) (zA ad NX sz)) args s 0 0 (zA ad NX sz)) 4 D vwCl (zA ad NX sz) NX ad (celX ad dA) 0 [(0, vR ad 1)] [] σ
  refine z_aload_n hC dX4_readFrame_0 0 rfl rfl ?_
  refine z_iconst hC dX4_readFrame_1 ?_
  refine z_sipush hC dX4_readFrame_2 (by decide) ?_
  refine z_callVi hC hE (oX_4 (show kX 1 = 4 by decide)) [vI 0, vI 9999] (fun sz2 => mX4_readNumber l hinj sz2 hf) (cwV 2 hC.1.2.2.2.2 (uV (uT _) u599 u601 u3 u111 u602) rfl rfl rfl (by decide +kernel) ⟨Nat.le_of_ble_eq_true rfl, Nat.le_of_ble_eq_true rfl⟩) rfl rfl (Nat.le_of_ble_eq_true rfl) ⟨Nat.le_of_ble_eq_true rfl, Nat.le_of_ble_eq_true rfl⟩ dX4_readFrame_5 (fun r1 σ1 hf => ?_)
  refine z_istore_n hC ([(1, vI r1), (0, vR ad 1)]) dX4_readFrame_8 rfl (by decide) rfl ?_
  refine z_iload_n hC dX4_readFrame_9 0 rfl rfl ?_
  obtain ⟨g2, hf⟩ := hf
  refine z_if_eq (tgt := 15) hC dX4_readFrame_10 (by decide) g2 (fun hc => ?_) (fun hc => ?_)
  · replace hf := hf.1 hc
    refine z_aload_n hC dX4_readFrame_15 1 rfl rfl ?_
    refine z_get hC (fun w h => uT _ w (uL4 w h)) (oX_4 (show kX 1 = 4 by decide)) 0 (by decide) (uT _ _ u305) rfl rfl dX4_readFrame_16 ?_
    refine z_get hC (fun w h => uT _ w (uL2 w h)) (oX_2 (show kX 2 = 2 by decide)) 3 (by decide) (uT _ _ u283) rfl rfl dX4_readFrame_19 ?_
    refine z_aload_n hC dX4_readFrame_22 1 rfl rfl ?_
    refine z_get hC (fun w h => uT _ w (uL4 w h)) (oX_4 (show kX 1 = 4 by decide)) 1 (by decide) (uT _ _ u307) rfl rfl dX4_readFrame_23 ?_
    obtain ⟨g3, hf⟩ := hf
    refine z_aload_n hC dX4_readFrame_26 1 rfl rfl ?_
    refine z_get hC (fun w h => uT _ w (uL4 w h)) (oX_4 (show kX 1 = 4 by decide)) 1 (by decide) (uT _ _ u307) rfl rfl dX4_readFrame_27 ?_
    refine z_get hC (fun w h => uT _ w (uL8 w h)) (oX_8 g3) 2 (by decide) (uT _ _ u221) rfl rfl dX4_readFrame_30 ?_
    refine z_iconst hC dX4_readFrame_33 ?_
    refine z_isub hC dX4_readFrame_34 ?_
    refine z_callVi hC hE (oX_8 g3) [vI ((σ1 (σ1 1 1) 2) - 1)] (fun sz2 => mX8_dayOf l hinj sz2 hf) (cwV 1 hC.1.2.2.2.2 (uV (uT _) u616 u617 u618 u106 u619) rfl rfl rfl (by decide +kernel) ⟨Nat.le_of_ble_eq_true rfl, Nat.le_of_ble_eq_true rfl⟩) rfl rfl (Nat.le_of_ble_eq_true rfl) ⟨Nat.le_of_ble_eq_true rfl, Nat.le_of_ble_eq_true rfl⟩ dX4_readFrame_35 (fun r4 σ4 hf => ?_)
    obtain ⟨g5, hf⟩ := hf
    obtain ⟨g6, hf⟩ := hf
    refine z_icmp_gt (tgt := 44) hC dX4_readFrame_38 (by decide) g5 g6 (fun hc => ?_) (fun hc => ?_)
    · replace hf := hf.1 hc
      refine z_aload_n hC dX4_readFrame_44 1 rfl rfl ?_
      refine z_get hC (fun w h => uT _ w (uL4 w h)) (oX_4 (show kX 1 = 4 by decide)) 1 (by decide) (uT _ _ u307) rfl rfl dX4_readFrame_45 ?_
      obtain ⟨g7, hf⟩ := hf
      refine z_aload_n hC dX4_readFrame_48 1 rfl rfl ?_
      refine z_get hC (fun w h => uT _ w (uL4 w h)) (oX_4 (show kX 1 = 4 by decide)) 0 (by decide) (uT _ _ u305) rfl rfl dX4_readFrame_49 ?_
      refine z_get hC (fun w h => uT _ w (uL2 w h)) (oX_2 (show kX 2 = 2 by decide)) 3 (by decide) (uT _ _ u283) rfl rfl dX4_readFrame_52 ?_
      refine z_callVi hC hE (oX_8 g7) [vI (σ4 2 3)] (fun sz2 => mX8_addFrame l hinj sz2 hf) (cwV 1 hC.1.2.2.2.2 (uV (uT _) u624 u625 u626 u106 u627) rfl rfl rfl (by decide +kernel) ⟨Nat.le_of_ble_eq_true rfl, Nat.le_of_ble_eq_true rfl⟩) rfl rfl (Nat.le_of_ble_eq_true rfl) ⟨Nat.le_of_ble_eq_true rfl, Nat.le_of_ble_eq_true rfl⟩ dX4_readFrame_55 (fun r8 σ8 hf => ?_)
      refine z_istore_n hC ([(2, vI r8), (1, vI r1), (0, vR ad 1)]) dX4_readFrame_58 rfl (by decide) rfl ?_
      refine z_iconst hC dX4_readFrame_59 ?_
      refine z_istore_n hC ([(3, vI 0), (2, vI r8), (1, vI r1), (0, vR ad 1)]) dX4_readFrame_60 rfl (by decide) rfl ?_
      refine z_aload_n hC dX4_readFrame_61 3 rfl rfl ?_
      refine z_get hC (fun w h => uT _ w (uL4 w h)) (oX_4 (show kX 1 = 4 by decide)) 0 (by decide) (uT _ _ u305) rfl rfl dX4_readFrame_62 ?_
      refine z_callVv hC hE (oX_2 (show kX 2 = 2 by decide)) [] (fun sz2 => mX2_advance l hinj sz2 hf) (cwV 0 hC.1.2.2.2.2 (uV (uT _) u603 u520 u521 u112 u522) rfl rfl rfl (by decide +kernel) ⟨Nat.le_of_ble_eq_true rfl, Nat.le_of_ble_eq_true rfl⟩) rfl rfl (Nat.le_of_ble_eq_true rfl) ⟨Nat.le_of_ble_eq_true rfl, Nat.le_of_ble_eq_true rfl⟩ dX4_readFrame_65 (fun σ9 hf => ?_)
      refine z_sub (lv' := [(0, vR ad 1), (2, vI r8), (3, vI 0)]) [3, 1, 0] rfl ?_
      obtain ⟨n, hf⟩ := hf
      exact wX4_readFrame_B68 hC hE hr hinj n _ _ _ hf
    · replace hf := hf.2 hc
      refine z_bipush hC dX4_readFrame_41 (by decide) ?_
      exact z_iret hC hr rfl dX4_readFrame_43 hf
  · replace hf := hf.2 hc
    refine z_iload_n hC dX4_readFrame_13 0 rfl rfl ?_
    exact z_iret hC hr rfl dX4_readFrame_14 hf

-- ===== X7_isFull
def fX7_isFull (K : Int → zSt → Prop) (σ : zSt) (x0 : Int) : Prop :=
  kX x0 = 7 ∧ zrg (σ x0 3) ∧ zrg (σ x0 0) ∧ ((σ x0 3 < σ x0 0 → K 0 σ) ∧ (¬ σ x0 3 < σ x0 0 → K 1 σ))
set_option maxHeartbeats 4000000 in
set_option maxRecDepth 100000 in
theorem mX7_isFull {D : va_G} {dA : Nat → ClassId} {ad : Nat → Nat} {aL aG aI : Nat} {aK aV : Nat → Nat} (l : Launch) (hinj : ∀ i j, i < NX → j < NX → ad i = ad j → i = j) (sz : Nat) {K : Int → zSt → Prop} {σ : zSt} {x0 : Int} (hf : fX7_isFull K σ x0) : Met l yX7_isFull (Cond.code yX7_isFull cX7_isFull 1 (some .boolean) :: UW) ({ frames := 0, cells := 0, slots := 0, locals := 0 } : Room) (va_Pc [vR ad x0] (zPre D vwCl (tyA dA) (zXX aL aG aI aK aV) NX ad (celX ad dA) sz σ)) (va_Qi (zPi K) (zB D vwCl (tyA dA) NX ad (celX ad dA)) (zA ad NX sz)) 0 0 (zA ad NX sz) := by
  refine z_enter (cc := cX7_isFull) (maxL := 1) (ret := (some .boolean)) (vs := [vR ad x0]) (plainFor_of_name (by decide)) rfl hinj (Nat.le_of_ble_eq_true rfl) ?_
  intro p e s m args below meth c hC hE hsz hr hnm
  obtain ⟨qx0, hf⟩ := hf
  show zAt p l e ({ frames := 0, cells := 0, slots := 0, locals := 0 } : Room) s m args below meth c 0 0 (MQ below (va_Qi (zPi K) (zB D vwCl (tyA dA) NX ad (celX ad dA)) (zA ad NX sz)) args s 0 0 (zA ad NX sz)) 1 D vwCl (zA ad NX sz) NX ad (celX ad dA) 0 [(0, vR ad x0)] [] σ
  refine z_aload_n hC dX7_isFull_0 0 rfl rfl ?_
  refine z_get hC (fun w h => uT _ w (uL7 w h)) (oX_7 qx0) 3 (by decide) (uT _ _ u164) rfl rfl dX7_isFull_1 ?_
  refine z_aload_n hC dX7_isFull_4 0 rfl rfl ?_
  refine z_get hC (fun w h => uT _ w (uL7 w h)) (oX_7 qx0) 0 (by decide) (uT _ _ u155) rfl rfl dX7_isFull_5 ?_
  obtain ⟨g1, hf⟩ := hf
  obtain ⟨g2, hf⟩ := hf
  refine z_icmp_lt (tgt := 15) hC dX7_isFull_8 (by decide) g1 g2 (fun hc => ?_) (fun hc => ?_)
  · replace hf := hf.1 hc
    refine z_iconst hC dX7_isFull_15 ?_
    exact z_bret hC hr rfl dX7_isFull_16 (Or.inl rfl) hf
  · replace hf := hf.2 hc
    refine z_iconst hC dX7_isFull_11 ?_
    refine z_goto (tgt := 16) hC dX7_isFull_12 (by decide) ?_
    exact z_bret hC hr rfl dX7_isFull_16 (Or.inr rfl) hf

-- ===== X7_add
def fX7_add (K : zSt → Prop) (σ : zSt) (x0 : Int) (x1 : Int) (x2 : Int) : Prop :=
  kX x0 = 7 ∧ fX7_isFull (fun r1 σ1 => zrg r1 ∧ ((r1 = 0 → ∀ σ3, σ3 = zu σ1 x0 3 ((σ1 x0 3) + 1) → fX7_place (fun σ4 => K σ4) σ3 x0 ((σ3 x0 3) - 1) x1 x2) ∧ (¬ r1 = 0 → K σ1))) σ x0
set_option maxHeartbeats 4000000 in
set_option maxRecDepth 100000 in
theorem mX7_add {D : va_G} {dA : Nat → ClassId} {ad : Nat → Nat} {aL aG aI : Nat} {aK aV : Nat → Nat} (l : Launch) (hinj : ∀ i j, i < NX → j < NX → ad i = ad j → i = j) (sz : Nat) {K : zSt → Prop} {σ : zSt} {x0 : Int} {x1 : Int} {x2 : Int} (hf : fX7_add K σ x0 x1 x2) : Met l yX7_add (Cond.code yX7_add cX7_add 3 none :: UW) ({ frames := 2, cells := 0, slots := 0, locals := 44 } : Room) (va_Pc [vR ad x0, vI x1, vI x2] (zPre D vwCl (tyA dA) (zXX aL aG aI aK aV) NX ad (celX ad dA) sz σ)) (va_Qv K (zB D vwCl (tyA dA) NX ad (celX ad dA)) (zA ad NX sz)) 0 0 (zA ad NX sz) := by
  refine z_enter (cc := cX7_add) (maxL := 3) (ret := none) (vs := [vR ad x0, vI x1, vI x2]) (plainFor_of_name (by decide)) rfl hinj (Nat.le_of_ble_eq_true rfl) ?_
  intro p e s m args below meth c hC hE hsz hr hnm
  obtain ⟨qx0, hf⟩ := hf
  show zAt p l e ({ frames := 2, cells := 0, slots := 0, locals := 44 } : Room) s m args below meth c 0 0 (MQ below (va_Qv K (zB D vwCl (tyA dA) NX ad (celX ad dA)) (zA ad NX sz)) args s 0 0 (zA ad NX sz)) 3 D vwCl (zA ad NX sz) NX ad (celX ad dA) 0 [(0, vR ad x0), (1, vI x1), (2, vI x2)] [] σ
  refine z_aload_n hC dX7_add_0 0 rfl rfl ?_
  refine z_callVi hC hE (oX_7 qx0) [] (fun sz2 => mX7_isFull l hinj sz2 hf) (cwV 0 hC.1.2.2.2.2 (uV (uT _) u658 u651 u652 u107 u653) rfl rfl rfl (by decide +kernel) ⟨Nat.le_of_ble_eq_true rfl, Nat.le_of_ble_eq_true rfl⟩) rfl rfl (Nat.le_of_ble_eq_true rfl) ⟨Nat.le_of_ble_eq_true rfl, Nat.le_of_ble_eq_true rfl⟩ dX7_add_1 (fun r1 σ1 hf => ?_)
  obtain ⟨g2, hf⟩ := hf
  refine z_if_ne (tgt := 29) hC dX7_add_4 (by decide) g2 (fun hc => ?_) (fun hc => ?_)
  · replace hf := hf.2 hc
    exact z_vret hC hr rfl dX7_add_29 hf
  · replace hf := hf.1 hc
    refine z_aload_n hC dX7_add_7 0 rfl rfl ?_
    refine z_dup hC dX7_add_8 rfl ?_
    refine z_get hC (fun w h => uT _ w (uL7 w h)) (oX_7 qx0) 3 (by decide) (uT _ _ u164) rfl rfl dX7_add_9 ?_
    refine z_iconst hC dX7_add_12 ?_
    refine z_iadd hC dX7_add_13 ?_
    refine z_put hC (ty := .int) tyX7 tyX7_ok nmX7 (fun w h => uT _ w (uL7 w h)) (oX_7 qx0) (loX' qx0 (by decide)) 3 (by decide) (uT _ _ u164) rfl rfl (3) ((σ1 x0 3) + 1) (by simp [zu]) (by decide +kernel) rfl rfl (Nat.le_of_ble_eq_true rfl) dX7_add_14 ?_
    obtain ⟨σ3, eσ3⟩ : ∃ z : zSt, z = zu σ1 x0 3 ((σ1 x0 3) + 1) := ⟨_, rfl⟩
    rw [← eσ3]
    replace hf := hf σ3 eσ3
    refine z_aload_n hC dX7_add_17 0 rfl rfl ?_
    refine z_aload_n hC dX7_add_18 0 rfl rfl ?_
    refine z_get hC (fun w h => uT _ w (uL7 w h)) (oX_7 qx0) 3 (by decide) (uT _ _ u164) rfl rfl dX7_add_19 ?_
    refine z_iconst hC dX7_add_22 ?_
    refine z_isub hC dX7_add_23 ?_
    refine z_iload_n hC dX7_add_24 1 rfl rfl ?_
    refine z_iload_n hC dX7_add_25 2 rfl rfl ?_
    refine z_callVv hC hE (oX_7 qx0) [vI ((σ3 x0 3) - 1), vI x1, vI x2] (fun sz2 => mX7_place l hinj sz2 hf) (cwV 3 hC.1.2.2.2.2 (uV (uT _) u659 u660 u661 u107 u662) rfl rfl rfl (by decide +kernel) ⟨Nat.le_of_ble_eq_true rfl, Nat.le_of_ble_eq_true rfl⟩) rfl rfl (Nat.le_of_ble_eq_true rfl) ⟨Nat.le_of_ble_eq_true rfl, Nat.le_of_ble_eq_true rfl⟩ dX7_add_26 (fun σ4 hf => ?_)
    exact z_vret hC hr rfl dX7_add_29 hf

-- ===== X4_readPoint
def fX4_readPoint (K : Int → zSt → Prop) (σ : zSt) (x1 : Int) : Prop :=
  kX x1 = 7 ∧ fX7_isFull (fun r1 σ1 => zrg r1 ∧ ((r1 = 0 → kX (σ1 1 1) = 8 ∧ fX4_readNumber (fun r4 σ4 => zrg r4 ∧ ((r4 = 0 → kX (σ4 1 1) = 8 ∧ fX4_readNumber (fun r7 σ7 => zrg r7 ∧ ((r7 = 0 → fX7_add (fun σ9 => fX2_advance (fun σ10 => K 0 σ10) σ9 ) σ7 x1 (σ4 2 3) (σ7 2 3)) ∧ (¬ r7 = 0 → K r7 σ7))) σ4 0 ((σ4 (σ4 1 1) 1) - 1)) ∧ (¬ r4 = 0 → K r4 σ4))) σ1 0 ((σ1 (σ1 1 1) 0) - 1)) ∧ (¬ r1 = 0 → K (-15) σ1))) σ x1
set_option maxHeartbeats 4000000 in
set_option maxRecDepth 100000 in
theorem mX4_readPoint {D : va_G} {dA : Nat → ClassId} {ad : Nat → Nat} {aL aG aI : Nat} {aK aV : Nat → Nat} (l : Launch) (hinj : ∀ i j, i < NX → j < NX → ad i = ad j → i = j) (sz : Nat) {K : Int → zSt → Prop} {σ : zSt} {x1 : Int} (hf : fX4_readPoint K σ x1) : Met l yX4_readPoint (Cond.code yX4_readPoint cX4_readPoint 4 (some .int) :: UW) ({ frames := 3, cells := 0, slots := 0, locals := 66 } : Room) (va_Pc [vR ad 1, vR ad x1] (zPre D vwCl (tyA dA) (zXX aL aG aI aK aV) NX ad (celX ad dA) sz σ)) (va_Qi (zPi K) (zB D vwCl (tyA dA) NX ad (celX ad dA)) (zA ad NX sz)) 0 0 (zA ad NX sz) := by
  refine z_enter (cc := cX4_readPoint) (maxL := 4) (ret := (some .int)) (vs := [vR ad 1, vR ad x1]) (plainFor_of_name (by decide)) rfl hinj (Nat.le_of_ble_eq_true rfl) ?_
  intro p e s m args below meth c hC hE hsz hr hnm
  obtain ⟨qx1, hf⟩ := hf
  show zAt p l e ({ frames := 3, cells := 0, slots := 0, locals := 66 } : Room) s m args below meth c 0 0 (MQ below (va_Qi (zPi K) (zB D vwCl (tyA dA) NX ad (celX ad dA)) (zA ad NX sz)) args s 0 0 (zA ad NX sz)) 4 D vwCl (zA ad NX sz) NX ad (celX ad dA) 0 [(0, vR ad 1), (1, vR ad x1)] [] σ
  refine z_aload_n hC dX4_readPoint_0 1 rfl rfl ?_
  refine z_callVi hC hE (oX_7 qx1) [] (fun sz2 => mX7_isFull l hinj sz2 hf) (cwV 0 hC.1.2.2.2.2 (uV (uT _) u650 u651 u652 u107 u653) rfl rfl rfl (by decide +kernel) ⟨Nat.le_of_ble_eq_true rfl, Nat.le_of_ble_eq_true rfl⟩) rfl rfl (Nat.le_of_ble_eq_true rfl) ⟨Nat.le_of_ble_eq_true rfl, Nat.le_of_ble_eq_true rfl⟩ dX4_readPoint_1 (fun r1 σ1 hf => ?_)
  obtain ⟨g2, hf⟩ := hf
  refine z_if_eq (tgt := 10) hC dX4_readPoint_4 (by decide) g2 (fun hc => ?_) (fun hc => ?_)
  · replace hf := hf.1 hc
    refine z_aload_n hC dX4_readPoint_10 0 rfl rfl ?_
    refine z_iconst hC dX4_readPoint_11 ?_
    refine z_aload_n hC dX4_readPoint_12 0 rfl rfl ?_
    refine z_get hC (fun w h => uT _ w (uL4 w h)) (oX_4 (show kX 1 = 4 by decide)) 1 (by decide) (uT _ _ u307) rfl rfl dX4_readPoint_13 ?_
    obtain ⟨g3, hf⟩ := hf
    refine z_get hC (fun w h => uT _ w (uL8 w h)) (oX_8 g3) 0 (by decide) (uT _ _ u215) rfl rfl dX4_readPoint_16 ?_
    refine z_iconst hC dX4_readPoint_19 ?_
    refine z_isub hC dX4_readPoint_20 ?_
    refine z_callVi hC hE (oX_4 (show kX 1 = 4 by decide)) [vI 0, vI ((σ1 (σ1 1 1) 0) - 1)] (fun sz2 => mX4_readNumber l hinj sz2 hf) (cwV 2 hC.1.2.2.2.2 (uV (uT _) u599 u601 u3 u111 u602) rfl rfl rfl (by decide +kernel) ⟨Nat.le_of_ble_eq_true rfl, Nat.le_of_ble_eq_true rfl⟩) rfl rfl (Nat.le_of_ble_eq_true rfl) ⟨Nat.le_of_ble_eq_true rfl, Nat.le_of_ble_eq_true rfl⟩ dX4_readPoint_21 (fun r4 σ4 hf => ?_)
    refine z_istore_n hC ([(2, vI r4), (0, vR ad 1), (1, vR ad x1)]) dX4_readPoint_24 rfl (by decide) rfl ?_
    refine z_iload_n hC dX4_readPoint_25 0 rfl rfl ?_
    obtain ⟨g5, hf⟩ := hf
    refine z_if_eq (tgt := 31) hC dX4_readPoint_26 (by decide) g5 (fun hc => ?_) (fun hc => ?_)
    · replace hf := hf.1 hc
      refine z_aload_n hC dX4_readPoint_31 1 rfl rfl ?_
      refine z_get hC (fun w h => uT _ w (uL4 w h)) (oX_4 (show kX 1 = 4 by decide)) 0 (by decide) (uT _ _ u305) rfl rfl dX4_readPoint_32 ?_
      refine z_get hC (fun w h => uT _ w (uL2 w h)) (oX_2 (show kX 2 = 2 by decide)) 3 (by decide) (uT _ _ u283) rfl rfl dX4_readPoint_35 ?_
      refine z_istore_n hC ([(3, vI (σ4 2 3)), (2, vI r4), (0, vR ad 1), (1, vR ad x1)]) dX4_readPoint_38 rfl (by decide) rfl ?_
      refine z_aload_n hC dX4_readPoint_39 2 rfl rfl ?_
      refine z_iconst hC dX4_readPoint_40 ?_
      refine z_aload_n hC dX4_readPoint_41 2 rfl rfl ?_
      refine z_get hC (fun w h => uT _ w (uL4 w h)) (oX_4 (show kX 1 = 4 by decide)) 1 (by decide) (uT _ _ u307) rfl rfl dX4_readPoint_42 ?_
      obtain ⟨g6, hf⟩ := hf
      refine z_get hC (fun w h => uT _ w (uL8 w h)) (oX_8 g6) 1 (by decide) (uT _ _ u217) rfl rfl dX4_readPoint_45 ?_
      refine z_iconst hC dX4_readPoint_48 ?_
      refine z_isub hC dX4_readPoint_49 ?_
      refine z_callVi hC hE (oX_4 (show kX 1 = 4 by decide)) [vI 0, vI ((σ4 (σ4 1 1) 1) - 1)] (fun sz2 => mX4_readNumber l hinj sz2 hf) (cwV 2 hC.1.2.2.2.2 (uV (uT _) u599 u601 u3 u111 u602) rfl rfl rfl (by decide +kernel) ⟨Nat.le_of_ble_eq_true rfl, Nat.le_of_ble_eq_true rfl⟩) rfl rfl (Nat.le_of_ble_eq_true rfl) ⟨Nat.le_of_ble_eq_true rfl, Nat.le_of_ble_eq_true rfl⟩ dX4_readPoint_50 (fun r7 σ7 hf => ?_)
      refine z_istore_n hC ([(2, vI r7), (3, vI (σ4 2 3)), (0, vR ad 1), (1, vR ad x1)]) dX4_readPoint_53 rfl (by decide) rfl ?_
      refine z_iload_n hC dX4_readPoint_54 0 rfl rfl ?_
      obtain ⟨g8, hf⟩ := hf
      refine z_if_eq (tgt := 60) hC dX4_readPoint_55 (by decide) g8 (fun hc => ?_) (fun hc => ?_)
      · replace hf := hf.1 hc
        refine z_aload_n hC dX4_readPoint_60 3 rfl rfl ?_
        refine z_iload_n hC dX4_readPoint_61 1 rfl rfl ?_
        refine z_aload_n hC dX4_readPoint_62 2 rfl rfl ?_
        refine z_get hC (fun w h => uT _ w (uL4 w h)) (oX_4 (show kX 1 = 4 by decide)) 0 (by decide) (uT _ _ u305) rfl rfl dX4_readPoint_63 ?_
        refine z_get hC (fun w h => uT _ w (uL2 w h)) (oX_2 (show kX 2 = 2 by decide)) 3 (by decide) (uT _ _ u283) rfl rfl dX4_readPoint_66 ?_
        refine z_callVv hC hE (oX_7 qx1) [vI (σ4 2 3), vI (σ7 2 3)] (fun sz2 => mX7_add l hinj sz2 hf) (cwV 2 hC.1.2.2.2.2 (uV (uT _) u654 u655 u656 u107 u657) rfl rfl rfl (by decide +kernel) ⟨Nat.le_of_ble_eq_true rfl, Nat.le_of_ble_eq_true rfl⟩) rfl rfl (Nat.le_of_ble_eq_true rfl) ⟨Nat.le_of_ble_eq_true rfl, Nat.le_of_ble_eq_true rfl⟩ dX4_readPoint_69 (fun σ9 hf => ?_)
        refine z_aload_n hC dX4_readPoint_72 2 rfl rfl ?_
        refine z_get hC (fun w h => uT _ w (uL4 w h)) (oX_4 (show kX 1 = 4 by decide)) 0 (by decide) (uT _ _ u305) rfl rfl dX4_readPoint_73 ?_
        refine z_callVv hC hE (oX_2 (show kX 2 = 2 by decide)) [] (fun sz2 => mX2_advance l hinj sz2 hf) (cwV 0 hC.1.2.2.2.2 (uV (uT _) u603 u520 u521 u112 u522) rfl rfl rfl (by decide +kernel) ⟨Nat.le_of_ble_eq_true rfl, Nat.le_of_ble_eq_true rfl⟩) rfl rfl (Nat.le_of_ble_eq_true rfl) ⟨Nat.le_of_ble_eq_true rfl, Nat.le_of_ble_eq_true rfl⟩ dX4_readPoint_76 (fun σ10 hf => ?_)
        refine z_iconst hC dX4_readPoint_79 ?_
        exact z_iret hC hr rfl dX4_readPoint_80 hf
      · replace hf := hf.2 hc
        refine z_iload_n hC dX4_readPoint_58 0 rfl rfl ?_
        exact z_iret hC hr rfl dX4_readPoint_59 hf
    · replace hf := hf.2 hc
      refine z_iload_n hC dX4_readPoint_29 0 rfl rfl ?_
      exact z_iret hC hr rfl dX4_readPoint_30 hf
  · replace hf := hf.2 hc
    refine z_bipush hC dX4_readPoint_7 (by decide) ?_
    exact z_iret hC hr rfl dX4_readPoint_9 hf

-- ===== X4_readReading
def fX4_readReading_B48 (K : Int → zSt → Prop) (σ : zSt) (x1 : Int) (x3 : Int) : Prop :=
  zrg (σ x1 0) ∧ ((σ x1 0 < 8 → fX2_advance (fun σ8 => fX4_checkNumber (fun r9 σ9 => zrg r9 ∧ ((r9 = 0 → fX9_insert (fun σ11 => fX2_advance (fun σ12 => K 0 σ12) σ11 ) σ9 x1 x3 (σ9 2 3)) ∧ (¬ r9 = 0 → K r9 σ9))) σ8 0 9999) σ ) ∧ (¬ σ x1 0 < 8 → K (-15) σ))
def fX4_readReading (K : Int → zSt → Prop) (σ : zSt) (x1 : Int) : Prop :=
  kX x1 = 9 ∧ fX4_checkNumber (fun r1 σ1 => zrg r1 ∧ ((r1 = 0 → zrg (σ1 x1 0) ∧ ((σ1 x1 0 ≤ 0 → fX4_readReading_B48 K σ1 x1 (σ1 2 3)) ∧ (¬ σ1 x1 0 ≤ 0 → (0 ≤ (σ1 x1 0) - 1 ∧ (σ1 x1 0) - 1 < 8) ∧ zrg (σ1 2 3) ∧ zrg (σ1 (x1 + 3) ((σ1 x1 0) - 1)) ∧ ((σ1 (x1 + 3) ((σ1 x1 0) - 1) < σ1 2 3 → fX4_readReading_B48 K σ1 x1 (σ1 2 3)) ∧ (¬ σ1 (x1 + 3) ((σ1 x1 0) - 1) < σ1 2 3 → K (-14) σ1))))) ∧ (¬ r1 = 0 → K r1 σ1))) σ 0 9999
set_option maxHeartbeats 4000000 in
set_option maxRecDepth 100000 in
theorem wX4_readReading_B48 {p : Program} {l : Launch} {e : Env} {s : State} {m : MethodId} {args : Array Value} {below : List Frame} {meth : Method} {c : Code} {D : va_G} {dA : Nat → ClassId} {ad : Nat → Nat} {sz : Nat} {aL aG aI : Nat} {aK aV : Nat → Nat} {K : Int → zSt → Prop} (hC : zC p m c cX4_readReading 4 s args (Cond.code yX4_readReading cX4_readReading 4 (some .int) :: UW) RX4 meth D vwCl (tyA dA) (zA ad NX sz) NX ad (celX ad dA)) (hE : zE (zXX aL aG aI aK aV) (zA ad NX sz) s s.heap) (hr : meth.sig.returnType = (some .int)) (hinj : ∀ i j, i < NX → j < NX → ad i = ad j → i = j) {σ : zSt} {x1 : Int} {x3 : Int} (qx1 : kX x1 = 9) (hf : fX4_readReading_B48 K σ x1 x3) : zAt p l e ({ frames := 2, cells := 0, slots := 0, locals := 44 } : Room) s m args below meth c 0 0 (MQ below (va_Qi (zPi K) (zB D vwCl (tyA dA) NX ad (celX ad dA)) (zA ad NX sz)) args s 0 0 (zA ad NX sz)) 4 D vwCl (zA ad NX sz) NX ad (celX ad dA) 48 [(0, vR ad 1), (1, vR ad x1), (3, vI x3)] [] σ := by
  refine z_aload_n hC dX4_readReading_48 1 rfl rfl ?_
  refine z_get hC (fun w h => uT _ w (uL9 w h)) (oX_9 qx1) 0 (by decide) (uT _ _ u197) rfl rfl dX4_readReading_49 ?_
  refine z_bipush hC dX4_readReading_52 (by decide) ?_
  obtain ⟨g7, hf⟩ := hf
  refine z_icmp_lt (tgt := 60) hC dX4_readReading_54 (by decide) g7 (zlit rfl rfl) (fun hc => ?_) (fun hc => ?_)
  · replace hf := hf.1 hc
    refine z_aload_n hC dX4_readReading_60 0 rfl rfl ?_
    refine z_get hC (fun w h => uT _ w (uL4 w h)) (oX_4 (show kX 1 = 4 by decide)) 0 (by decide) (uT _ _ u305) rfl rfl dX4_readReading_61 ?_
    refine z_callVv hC hE (oX_2 (show kX 2 = 2 by decide)) [] (fun sz2 => mX2_advance l hinj sz2 hf) (cwV 0 hC.1.2.2.2.2 (uV (uT _) u603 u520 u521 u112 u522) rfl rfl rfl (by decide +kernel) ⟨Nat.le_of_ble_eq_true rfl, Nat.le_of_ble_eq_true rfl⟩) rfl rfl (Nat.le_of_ble_eq_true rfl) ⟨Nat.le_of_ble_eq_true rfl, Nat.le_of_ble_eq_true rfl⟩ dX4_readReading_64 (fun σ8 hf => ?_)
    refine z_aload_n hC dX4_readReading_67 0 rfl rfl ?_
    refine z_iconst hC dX4_readReading_68 ?_
    refine z_sipush hC dX4_readReading_69 (by decide) ?_
    refine z_callVi hC hE (oX_4 (show kX 1 = 4 by decide)) [vI 0, vI 9999] (fun sz2 => mX4_checkNumber l hinj sz2 hf) (cwV 2 hC.1.2.2.2.2 (uV (uT _) u604 u606 u4 u111 u607) rfl rfl rfl (by decide +kernel) ⟨Nat.le_of_ble_eq_true rfl, Nat.le_of_ble_eq_true rfl⟩) rfl rfl (Nat.le_of_ble_eq_true rfl) ⟨Nat.le_of_ble_eq_true rfl, Nat.le_of_ble_eq_true rfl⟩ dX4_readReading_72 (fun r9 σ9 hf => ?_)
    refine z_istore_n hC ([(2, vI r9), (0, vR ad 1), (1, vR ad x1), (3, vI x3)]) dX4_readReading_75 rfl (by decide) rfl ?_
    refine z_iload_n hC dX4_readReading_76 0 rfl rfl ?_
    obtain ⟨g10, hf⟩ := hf
    refine z_if_eq (tgt := 82) hC dX4_readReading_77 (by decide) g10 (fun hc => ?_) (fun hc => ?_)
    · replace hf := hf.1 hc
      refine z_aload_n hC dX4_readReading_82 2 rfl rfl ?_
      refine z_iload_n hC dX4_readReading_83 3 rfl rfl ?_
      refine z_aload_n hC dX4_readReading_84 1 rfl rfl ?_
      refine z_get hC (fun w h => uT _ w (uL4 w h)) (oX_4 (show kX 1 = 4 by decide)) 0 (by decide) (uT _ _ u305) rfl rfl dX4_readReading_85 ?_
      refine z_get hC (fun w h => uT _ w (uL2 w h)) (oX_2 (show kX 2 = 2 by decide)) 3 (by decide) (uT _ _ u283) rfl rfl dX4_readReading_88 ?_
      refine z_callVv hC hE (oX_9 qx1) [vI x3, vI (σ9 2 3)] (fun sz2 => mX9_insert l hinj sz2 hf) (cwV 2 hC.1.2.2.2.2 (uV (uT _) u677 u678 u679 u110 u680) rfl rfl rfl (by decide +kernel) ⟨Nat.le_of_ble_eq_true rfl, Nat.le_of_ble_eq_true rfl⟩) rfl rfl (Nat.le_of_ble_eq_true rfl) ⟨Nat.le_of_ble_eq_true rfl, Nat.le_of_ble_eq_true rfl⟩ dX4_readReading_91 (fun σ11 hf => ?_)
      refine z_aload_n hC dX4_readReading_94 1 rfl rfl ?_
      refine z_get hC (fun w h => uT _ w (uL4 w h)) (oX_4 (show kX 1 = 4 by decide)) 0 (by decide) (uT _ _ u305) rfl rfl dX4_readReading_95 ?_
      refine z_callVv hC hE (oX_2 (show kX 2 = 2 by decide)) [] (fun sz2 => mX2_advance l hinj sz2 hf) (cwV 0 hC.1.2.2.2.2 (uV (uT _) u603 u520 u521 u112 u522) rfl rfl rfl (by decide +kernel) ⟨Nat.le_of_ble_eq_true rfl, Nat.le_of_ble_eq_true rfl⟩) rfl rfl (Nat.le_of_ble_eq_true rfl) ⟨Nat.le_of_ble_eq_true rfl, Nat.le_of_ble_eq_true rfl⟩ dX4_readReading_98 (fun σ12 hf => ?_)
      refine z_iconst hC dX4_readReading_101 ?_
      exact z_iret hC hr rfl dX4_readReading_102 hf
    · replace hf := hf.2 hc
      refine z_iload_n hC dX4_readReading_80 0 rfl rfl ?_
      exact z_iret hC hr rfl dX4_readReading_81 hf
  · replace hf := hf.2 hc
    refine z_bipush hC dX4_readReading_57 (by decide) ?_
    exact z_iret hC hr rfl dX4_readReading_59 hf
set_option maxHeartbeats 4000000 in
set_option maxRecDepth 100000 in
theorem mX4_readReading {D : va_G} {dA : Nat → ClassId} {ad : Nat → Nat} {aL aG aI : Nat} {aK aV : Nat → Nat} (l : Launch) (hinj : ∀ i j, i < NX → j < NX → ad i = ad j → i = j) (sz : Nat) {K : Int → zSt → Prop} {σ : zSt} {x1 : Int} (hf : fX4_readReading K σ x1) : Met l yX4_readReading (Cond.code yX4_readReading cX4_readReading 4 (some .int) :: UW) ({ frames := 2, cells := 0, slots := 0, locals := 44 } : Room) (va_Pc [vR ad 1, vR ad x1] (zPre D vwCl (tyA dA) (zXX aL aG aI aK aV) NX ad (celX ad dA) sz σ)) (va_Qi (zPi K) (zB D vwCl (tyA dA) NX ad (celX ad dA)) (zA ad NX sz)) 0 0 (zA ad NX sz) := by
  refine z_enter (cc := cX4_readReading) (maxL := 4) (ret := (some .int)) (vs := [vR ad 1, vR ad x1]) (plainFor_of_name (by decide)) rfl hinj (Nat.le_of_ble_eq_true rfl) ?_
  intro p e s m args below meth c hC hE hsz hr hnm
  obtain ⟨qx1, hf⟩ := hf
  show zAt p l e ({ frames := 2, cells := 0, slots := 0, locals := 44 } : Room) s m args below meth c 0 0 (MQ below (va_Qi (zPi K) (zB D vwCl (tyA dA) NX ad (celX ad dA)) (zA ad NX sz)) args s 0 0 (zA ad NX sz)) 4 D vwCl (zA ad NX sz) NX ad (celX ad dA) 0 [(0, vR ad 1), (1, vR ad x1)] [] σ
  refine z_aload_n hC dX4_readReading_0 0 rfl rfl ?_
  refine z_iconst hC dX4_readReading_1 ?_
  refine z_sipush hC dX4_readReading_2 (by decide) ?_
  refine z_callVi hC hE (oX_4 (show kX 1 = 4 by decide)) [vI 0, vI 9999] (fun sz2 => mX4_checkNumber l hinj sz2 hf) (cwV 2 hC.1.2.2.2.2 (uV (uT _) u604 u606 u4 u111 u607) rfl rfl rfl (by decide +kernel) ⟨Nat.le_of_ble_eq_true rfl, Nat.le_of_ble_eq_true rfl⟩) rfl rfl (Nat.le_of_ble_eq_true rfl) ⟨Nat.le_of_ble_eq_true rfl, Nat.le_of_ble_eq_true rfl⟩ dX4_readReading_5 (fun r1 σ1 hf => ?_)
  refine z_istore_n hC ([(2, vI r1), (0, vR ad 1), (1, vR ad x1)]) dX4_readReading_8 rfl (by decide) rfl ?_
  refine z_iload_n hC dX4_readReading_9 0 rfl rfl ?_
  obtain ⟨g2, hf⟩ := hf
  refine z_if_eq (tgt := 15) hC dX4_readReading_10 (by decide) g2 (fun hc => ?_) (fun hc => ?_)
  · replace hf := hf.1 hc
    refine z_aload_n hC dX4_readReading_15 1 rfl rfl ?_
    refine z_get hC (fun w h => uT _ w (uL4 w h)) (oX_4 (show kX 1 = 4 by decide)) 0 (by decide) (uT _ _ u305) rfl rfl dX4_readReading_16 ?_
    refine z_get hC (fun w h => uT _ w (uL2 w h)) (oX_2 (show kX 2 = 2 by decide)) 3 (by decide) (uT _ _ u283) rfl rfl dX4_readReading_19 ?_
    refine z_istore_n hC ([(3, vI (σ1 2 3)), (2, vI r1), (0, vR ad 1), (1, vR ad x1)]) dX4_readReading_22 rfl (by decide) rfl ?_
    refine z_aload_n hC dX4_readReading_23 3 rfl rfl ?_
    refine z_get hC (fun w h => uT _ w (uL9 w h)) (oX_9 qx1) 0 (by decide) (uT _ _ u197) rfl rfl dX4_readReading_24 ?_
    obtain ⟨g3, hf⟩ := hf
    refine z_if_le (tgt := 48) hC dX4_readReading_27 (by decide) g3 (fun hc => ?_) (fun hc => ?_)
    · replace hf := hf.1 hc
      refine z_sub (lv' := [(0, vR ad 1), (1, vR ad x1), (3, vI (σ1 2 3))]) [2, 3, 0] rfl ?_
      exact wX4_readReading_B48 hC hE hr hinj qx1 hf
    · replace hf := hf.2 hc
      refine z_iload_n hC dX4_readReading_30 0 rfl rfl ?_
      refine z_aload_n hC dX4_readReading_31 3 rfl rfl ?_
      refine z_get hC (fun w h => uT _ w (uL9 w h)) (oX_9 qx1) 1 (by decide) (uT _ _ u200) rfl rfl dX4_readReading_32 ?_
      refine z_aload_n hC dX4_readReading_35 3 rfl rfl ?_
      refine z_get hC (fun w h => uT _ w (uL9 w h)) (oX_9 qx1) 0 (by decide) (uT _ _ u197) rfl rfl dX4_readReading_36 ?_
      refine z_iconst hC dX4_readReading_39 ?_
      refine z_isub hC dX4_readReading_40 ?_
      obtain ⟨g4, hf⟩ := hf
      refine z_iaload hC (aX_17 (kf_9_1 qx1)) g4 dX4_readReading_41 ?_
      obtain ⟨g5, hf⟩ := hf
      obtain ⟨g6, hf⟩ := hf
      refine z_icmp_gt (tgt := 48) hC dX4_readReading_42 (by decide) g5 g6 (fun hc => ?_) (fun hc => ?_)
      · replace hf := hf.1 hc
        refine z_sub (lv' := [(0, vR ad 1), (1, vR ad x1), (3, vI (σ1 2 3))]) [2, 3, 0] rfl ?_
        exact wX4_readReading_B48 hC hE hr hinj qx1 hf
      · replace hf := hf.2 hc
        refine z_bipush hC dX4_readReading_45 (by decide) ?_
        exact z_iret hC hr rfl dX4_readReading_47 hf
  · replace hf := hf.2 hc
    refine z_iload_n hC dX4_readReading_13 0 rfl rfl ?_
    exact z_iret hC hr rfl dX4_readReading_14 hf

-- ===== X4_readStake
noncomputable def fX4_readStake_B49 (K : Int → zSt → Prop) (n : Nat) : zSt → Int → Int → Int → Prop :=
  Nat.rec (motive := fun _ => zSt → Int → Int → Int → Prop) (fun _ _ _ _ => False) (fun _ ih σ x1 x2 x3 => zrg x3 ∧ ((8 ≤ x3 → K x2 σ) ∧ (¬ 8 ≤ x3 → zrg x2 ∧ ((x2 = 0 → zrg (σ 2 1) ∧ ((σ 2 1 = 2 → fX4_readReading (fun r10 σ10 => ih σ10 x1 r10 (x3 + 1)) σ x1) ∧ (¬ σ 2 1 = 2 → K x2 σ))) ∧ (¬ x2 = 0 → K x2 σ))))) n
theorem uX4_readStake_B49 (K : Int → zSt → Prop) (n0 : Nat) (σ : zSt) (x1 : Int) (x2 : Int) (x3 : Int) : fX4_readStake_B49 K (n0 + 1) σ x1 x2 x3 = (zrg x3 ∧ ((8 ≤ x3 → K x2 σ) ∧ (¬ 8 ≤ x3 → zrg x2 ∧ ((x2 = 0 → zrg (σ 2 1) ∧ ((σ 2 1 = 2 → fX4_readReading (fun r10 σ10 => (fX4_readStake_B49 K n0) σ10 x1 r10 (x3 + 1)) σ x1) ∧ (¬ σ 2 1 = 2 → K x2 σ))) ∧ (¬ x2 = 0 → K x2 σ))))) := rfl
def fX4_readStake (K : Int → zSt → Prop) (σ : zSt) : Prop :=
  kX (σ 1 1) = 8 ∧ (0 ≤ σ (σ 1 1) 3 ∧ σ (σ 1 1) 3 < 3) ∧ ∀ σ3, σ3 = zu σ (σ 1 1) 3 ((σ (σ 1 1) 3) + 1) → ∀ σ4, σ4 = zu σ3 (((σ 1 1) + 3) + 19 + (σ (σ 1 1) 3)) 0 0 → fX2_advance (fun σ5 => fX4_readReading (fun r6 σ6 => (∃ n, fX4_readStake_B49 K n σ6 (((σ 1 1) + 3) + 19 + (σ (σ 1 1) 3)) r6 0)) σ5 (((σ 1 1) + 3) + 19 + (σ (σ 1 1) 3))) σ4 
set_option maxHeartbeats 4000000 in
set_option maxRecDepth 100000 in
theorem wX4_readStake_B49 {p : Program} {l : Launch} {e : Env} {s : State} {m : MethodId} {args : Array Value} {below : List Frame} {meth : Method} {c : Code} {D : va_G} {dA : Nat → ClassId} {ad : Nat → Nat} {sz : Nat} {aL aG aI : Nat} {aK aV : Nat → Nat} {K : Int → zSt → Prop} (hC : zC p m c cX4_readStake 4 s args (Cond.code yX4_readStake cX4_readStake 4 (some .int) :: UW) RX4 meth D vwCl (tyA dA) (zA ad NX sz) NX ad (celX ad dA)) (hE : zE (zXX aL aG aI aK aV) (zA ad NX sz) s s.heap) (hr : meth.sig.returnType = (some .int)) (hinj : ∀ i j, i < NX → j < NX → ad i = ad j → i = j) : ∀ (n : Nat) (σ : zSt) (x1 : Int) (x2 : Int) (x3 : Int) (qx1 : kX x1 = 9), fX4_readStake_B49 K n σ x1 x2 x3 → zAt p l e ({ frames := 3, cells := 0, slots := 0, locals := 67 } : Room) s m args below meth c 0 0 (MQ below (va_Qi (zPi K) (zB D vwCl (tyA dA) NX ad (celX ad dA)) (zA ad NX sz)) args s 0 0 (zA ad NX sz)) 4 D vwCl (zA ad NX sz) NX ad (celX ad dA) 49 [(0, vR ad 1), (1, vR ad x1), (2, vI x2), (3, vI x3)] [] σ := by
  intro n
  induction n with
  | zero => intro σ x1 x2 x3 qx1 hf; exact False.elim hf
  | succ n ih =>
    intro σ x1 x2 x3 qx1 hf
    rw [uX4_readStake_B49] at hf
    refine z_iload_n hC dX4_readStake_49 3 rfl rfl ?_
    refine z_bipush hC dX4_readStake_50 (by decide) ?_
    obtain ⟨g7, hf⟩ := hf
    refine z_icmp_ge (tgt := 82) hC dX4_readStake_52 (by decide) g7 (zlit rfl rfl) (fun hc => ?_) (fun hc => ?_)
    · replace hf := hf.1 hc
      refine z_iload_n hC dX4_readStake_82 2 rfl rfl ?_
      exact z_iret hC hr rfl dX4_readStake_83 hf
    · replace hf := hf.2 hc
      refine z_iload_n hC dX4_readStake_55 2 rfl rfl ?_
      obtain ⟨g8, hf⟩ := hf
      refine z_if_ne (tgt := 82) hC dX4_readStake_56 (by decide) g8 (fun hc => ?_) (fun hc => ?_)
      · replace hf := hf.2 hc
        refine z_iload_n hC dX4_readStake_82 2 rfl rfl ?_
        exact z_iret hC hr rfl dX4_readStake_83 hf
      · replace hf := hf.1 hc
        refine z_aload_n hC dX4_readStake_59 0 rfl rfl ?_
        refine z_get hC (fun w h => uT _ w (uL4 w h)) (oX_4 (show kX 1 = 4 by decide)) 0 (by decide) (uT _ _ u305) rfl rfl dX4_readStake_60 ?_
        refine z_get hC (fun w h => uT _ w (uL2 w h)) (oX_2 (show kX 2 = 2 by decide)) 1 (by decide) (uT _ _ u279) rfl rfl dX4_readStake_63 ?_
        refine z_iconst hC dX4_readStake_66 ?_
        obtain ⟨g9, hf⟩ := hf
        refine z_icmp_ne (tgt := 82) hC dX4_readStake_67 (by decide) g9 (zlit rfl rfl) (fun hc => ?_) (fun hc => ?_)
        · replace hf := hf.2 hc
          refine z_iload_n hC dX4_readStake_82 2 rfl rfl ?_
          exact z_iret hC hr rfl dX4_readStake_83 hf
        · replace hf := hf.1 hc
          refine z_aload_n hC dX4_readStake_70 0 rfl rfl ?_
          refine z_aload_n hC dX4_readStake_71 1 rfl rfl ?_
          refine z_callVi hC hE (oX_4 (show kX 1 = 4 by decide)) [vR ad x1] (fun sz2 => mX4_readReading l hinj sz2 hf) (cwV 1 hC.1.2.2.2.2 (uV (uT _) u673 u675 u9 u111 u676) rfl rfl rfl (by decide +kernel) ⟨Nat.le_of_ble_eq_true rfl, Nat.le_of_ble_eq_true rfl⟩) rfl rfl (Nat.le_of_ble_eq_true rfl) ⟨Nat.le_of_ble_eq_true rfl, Nat.le_of_ble_eq_true rfl⟩ dX4_readStake_72 (fun r10 σ10 hf => ?_)
          refine z_istore_n hC ([(2, vI r10), (0, vR ad 1), (1, vR ad x1), (3, vI x3)]) dX4_readStake_75 rfl (by decide) rfl ?_
          refine z_iinc hC ([(3, vI (x3 + 1)), (2, vI r10), (0, vR ad 1), (1, vR ad x1)]) dX4_readStake_76 3 rfl (by decide) rfl ?_
          refine z_goto (tgt := 49) hC dX4_readStake_79 (by decide) ?_
          refine z_sub (lv' := [(0, vR ad 1), (1, vR ad x1), (2, vI r10), (3, vI (x3 + 1))]) [2, 3, 1, 0] rfl ?_
          exact ih _ _ _ _ qx1 hf
set_option maxHeartbeats 4000000 in
set_option maxRecDepth 100000 in
theorem mX4_readStake {D : va_G} {dA : Nat → ClassId} {ad : Nat → Nat} {aL aG aI : Nat} {aK aV : Nat → Nat} (l : Launch) (hinj : ∀ i j, i < NX → j < NX → ad i = ad j → i = j) (sz : Nat) {K : Int → zSt → Prop} {σ : zSt} (hf : fX4_readStake K σ ) : Met l yX4_readStake (Cond.code yX4_readStake cX4_readStake 4 (some .int) :: UW) ({ frames := 3, cells := 0, slots := 0, locals := 67 } : Room) (va_Pc [vR ad 1] (zPre D vwCl (tyA dA) (zXX aL aG aI aK aV) NX ad (celX ad dA) sz σ)) (va_Qi (zPi K) (zB D vwCl (tyA dA) NX ad (celX ad dA)) (zA ad NX sz)) 0 0 (zA ad NX sz) := by
  refine z_enter (cc := cX4_readStake) (maxL := 4) (ret := (some .int)) (vs := [vR ad 1]) (plainFor_of_name (by decide)) rfl hinj (Nat.le_of_ble_eq_true rfl) ?_
  intro p e s m args below meth c hC hE hsz hr hnm
  show zAt p l e ({ frames := 3, cells := 0, slots := 0, locals := 67 } : Room) s m args below meth c 0 0 (MQ below (va_Qi (zPi K) (zB D vwCl (tyA dA) NX ad (celX ad dA)) (zA ad NX sz)) args s 0 0 (zA ad NX sz)) 4 D vwCl (zA ad NX sz) NX ad (celX ad dA) 0 [(0, vR ad 1)] [] σ
  refine z_aload_n hC dX4_readStake_0 0 rfl rfl ?_
  refine z_get hC (fun w h => uT _ w (uL4 w h)) (oX_4 (show kX 1 = 4 by decide)) 1 (by decide) (uT _ _ u307) rfl rfl dX4_readStake_1 ?_
  obtain ⟨g1, hf⟩ := hf
  refine z_get hC (fun w h => uT _ w (uL8 w h)) (oX_8 g1) 6 (by decide) (uT _ _ u235) rfl rfl dX4_readStake_4 ?_
  refine z_aload_n hC dX4_readStake_7 0 rfl rfl ?_
  refine z_get hC (fun w h => uT _ w (uL4 w h)) (oX_4 (show kX 1 = 4 by decide)) 1 (by decide) (uT _ _ u307) rfl rfl dX4_readStake_8 ?_
  refine z_get hC (fun w h => uT _ w (uL8 w h)) (oX_8 g1) 3 (by decide) (uT _ _ u224) rfl rfl dX4_readStake_11 ?_
  obtain ⟨g2, hf⟩ := hf
  refine z_aaload hC (aX_22 (kf_8_6 g1)) g2 dX4_readStake_14 ?_
  refine z_astore_n hC ([(1, vR ad (((σ 1 1) + 3) + 19 + (σ (σ 1 1) 3))), (0, vR ad 1)]) dX4_readStake_15 rfl (by decide) rfl ?_
  refine z_aload_n hC dX4_readStake_16 1 rfl rfl ?_
  refine z_get hC (fun w h => uT _ w (uL4 w h)) (oX_4 (show kX 1 = 4 by decide)) 1 (by decide) (uT _ _ u307) rfl rfl dX4_readStake_17 ?_
  refine z_dup hC dX4_readStake_20 rfl ?_
  refine z_get hC (fun w h => uT _ w (uL8 w h)) (oX_8 g1) 3 (by decide) (uT _ _ u224) rfl rfl dX4_readStake_21 ?_
  refine z_iconst hC dX4_readStake_24 ?_
  refine z_iadd hC dX4_readStake_25 ?_
  refine z_put hC (ty := .int) tyX8 tyX8_ok nmX8 (fun w h => uT _ w (uL8 w h)) (oX_8 g1) (loX' g1 (by decide)) 3 (by decide) (uT _ _ u224) rfl rfl (3) ((σ (σ 1 1) 3) + 1) (by simp [zu]) (by decide +kernel) rfl rfl (Nat.le_of_ble_eq_true rfl) dX4_readStake_26 ?_
  obtain ⟨σ3, eσ3⟩ : ∃ z : zSt, z = zu σ (σ 1 1) 3 ((σ (σ 1 1) 3) + 1) := ⟨_, rfl⟩
  rw [← eσ3]
  replace hf := hf σ3 eσ3
  refine z_aload_n hC dX4_readStake_29 0 rfl rfl ?_
  refine z_iconst hC dX4_readStake_30 ?_
  refine z_put hC (ty := .int) tyX9 tyX9_ok nmX9 (fun w h => uT _ w (uL9 w h)) (oX_9 (ke_22 (kf_8_6 g1) g2)) (loX' (ke_22 (kf_8_6 g1) g2) (by decide)) 0 (by decide) (uT _ _ u197) rfl rfl (0) (0) (by simp [zu]) (by decide +kernel) rfl rfl (Nat.le_of_ble_eq_true rfl) dX4_readStake_31 ?_
  obtain ⟨σ4, eσ4⟩ : ∃ z : zSt, z = zu σ3 (((σ 1 1) + 3) + 19 + (σ (σ 1 1) 3)) 0 0 := ⟨_, rfl⟩
  rw [← eσ4]
  replace hf := hf σ4 eσ4
  refine z_aload_n hC dX4_readStake_34 1 rfl rfl ?_
  refine z_get hC (fun w h => uT _ w (uL4 w h)) (oX_4 (show kX 1 = 4 by decide)) 0 (by decide) (uT _ _ u305) rfl rfl dX4_readStake_35 ?_
  refine z_callVv hC hE (oX_2 (show kX 2 = 2 by decide)) [] (fun sz2 => mX2_advance l hinj sz2 hf) (cwV 0 hC.1.2.2.2.2 (uV (uT _) u603 u520 u521 u112 u522) rfl rfl rfl (by decide +kernel) ⟨Nat.le_of_ble_eq_true rfl, Nat.le_of_ble_eq_true rfl⟩) rfl rfl (Nat.le_of_ble_eq_true rfl) ⟨Nat.le_of_ble_eq_true rfl, Nat.le_of_ble_eq_true rfl⟩ dX4_readStake_38 (fun σ5 hf => ?_)
  refine z_aload_n hC dX4_readStake_41 1 rfl rfl ?_
  refine z_aload_n hC dX4_readStake_42 0 rfl rfl ?_
  refine z_callVi hC hE (oX_4 (show kX 1 = 4 by decide)) [vR ad (((σ 1 1) + 3) + 19 + (σ (σ 1 1) 3))] (fun sz2 => mX4_readReading l hinj sz2 hf) (cwV 1 hC.1.2.2.2.2 (uV (uT _) u673 u675 u9 u111 u676) rfl rfl rfl (by decide +kernel) ⟨Nat.le_of_ble_eq_true rfl, Nat.le_of_ble_eq_true rfl⟩) rfl rfl (Nat.le_of_ble_eq_true rfl) ⟨Nat.le_of_ble_eq_true rfl, Nat.le_of_ble_eq_true rfl⟩ dX4_readStake_43 (fun r6 σ6 hf => ?_)
  refine z_istore_n hC ([(2, vI r6), (1, vR ad (((σ 1 1) + 3) + 19 + (σ (σ 1 1) 3))), (0, vR ad 1)]) dX4_readStake_46 rfl (by decide) rfl ?_
  refine z_iconst hC dX4_readStake_47 ?_
  refine z_istore_n hC ([(3, vI 0), (2, vI r6), (1, vR ad (((σ 1 1) + 3) + 19 + (σ (σ 1 1) 3))), (0, vR ad 1)]) dX4_readStake_48 rfl (by decide) rfl ?_
  refine z_sub (lv' := [(0, vR ad 1), (1, vR ad (((σ 1 1) + 3) + 19 + (σ (σ 1 1) 3))), (2, vI r6), (3, vI 0)]) [3, 2, 1, 0] rfl ?_
  obtain ⟨n, hf⟩ := hf
  exact wX4_readStake_B49 hC hE hr hinj n _ _ _ _ (ke_22 (kf_8_6 g1) g2) hf

-- ===== X5_exists
def fX5_exists (K : Int → zSt → Prop) (σ : zSt) : Prop :=
  zrg (σ 22 0) ∧ ((σ 22 0 ≤ 0 → K 0 σ) ∧ (¬ σ 22 0 ≤ 0 → K 1 σ))
set_option maxHeartbeats 4000000 in
set_option maxRecDepth 100000 in
theorem mX5_exists {D : va_G} {dA : Nat → ClassId} {ad : Nat → Nat} {aL aG aI : Nat} {aK aV : Nat → Nat} (l : Launch) (hinj : ∀ i j, i < NX → j < NX → ad i = ad j → i = j) (sz : Nat) {K : Int → zSt → Prop} {σ : zSt} (hf : fX5_exists K σ ) : Met l yX5_exists (Cond.code yX5_exists cX5_exists 1 (some .boolean) :: UW) ({ frames := 0, cells := 0, slots := 0, locals := 0 } : Room) (va_Pc [vR ad 22] (zPre D vwCl (tyA dA) (zXX aL aG aI aK aV) NX ad (celX ad dA) sz σ)) (va_Qi (zPi K) (zB D vwCl (tyA dA) NX ad (celX ad dA)) (zA ad NX sz)) 0 0 (zA ad NX sz) := by
  refine z_enter (cc := cX5_exists) (maxL := 1) (ret := (some .boolean)) (vs := [vR ad 22]) (plainFor_of_name (by decide)) rfl hinj (Nat.le_of_ble_eq_true rfl) ?_
  intro p e s m args below meth c hC hE hsz hr hnm
  show zAt p l e ({ frames := 0, cells := 0, slots := 0, locals := 0 } : Room) s m args below meth c 0 0 (MQ below (va_Qi (zPi K) (zB D vwCl (tyA dA) NX ad (celX ad dA)) (zA ad NX sz)) args s 0 0 (zA ad NX sz)) 1 D vwCl (zA ad NX sz) NX ad (celX ad dA) 0 [(0, vR ad 22)] [] σ
  refine z_aload_n hC dX5_exists_0 0 rfl rfl ?_
  refine z_get hC (fun w h => uT _ w (uL5 w h)) (oX_5 (show kX 22 = 5 by decide)) 0 (by decide) (uT _ _ u396) rfl rfl dX5_exists_1 ?_
  obtain ⟨g1, hf⟩ := hf
  refine z_if_le (tgt := 11) hC dX5_exists_4 (by decide) g1 (fun hc => ?_) (fun hc => ?_)
  · replace hf := hf.1 hc
    refine z_iconst hC dX5_exists_11 ?_
    exact z_bret hC hr rfl dX5_exists_12 (Or.inl rfl) hf
  · replace hf := hf.2 hc
    refine z_iconst hC dX5_exists_7 ?_
    refine z_goto (tgt := 12) hC dX5_exists_8 (by decide) ?_
    exact z_bret hC hr rfl dX5_exists_12 (Or.inr rfl) hf

-- ===== X5_consider
def fX5_consider_B92 (K : zSt → Prop) (σ : zSt) (x3 : Int) : Prop :=
  ∀ σ17, σ17 = zu σ 22 4 x3 → ∀ σ18, σ18 = zu σ17 22 0 ((σ17 22 0) + 1) → K σ18
def fX5_consider_B37 (K : zSt → Prop) (σ : zSt) (x1 : Int) (x2 : Int) (x3 : Int) (x4 : Int) (s0 : Int) : Prop :=
  zrg s0 ∧ ((s0 = 0 → zrg (σ 22 0) ∧ ((σ 22 0 = 1 → fX5_consider_B92 K σ x3) ∧ (¬ σ 22 0 = 1 → zrg x3 ∧ zrg (σ 22 4) ∧ ((σ 22 4 ≤ x3 → ∀ σ10, σ10 = zu σ 22 0 ((σ 22 0) + 1) → K σ10) ∧ (¬ σ 22 4 ≤ x3 → fX5_consider_B92 K σ x3))))) ∧ (¬ s0 = 0 → ∀ σ11, σ11 = zu σ 22 4 (σ 22 3) → ∀ σ12, σ12 = zu σ11 22 1 x1 → ∀ σ13, σ13 = zu σ12 22 2 x2 → ∀ σ14, σ14 = zu σ13 22 3 x3 → ∀ σ15, σ15 = zu σ14 22 5 x4 → ∀ σ16, σ16 = zu σ15 22 0 ((σ15 22 0) + 1) → K σ16))
def fX5_consider_B32 (K : zSt → Prop) (σ : zSt) (x1 : Int) (x2 : Int) (x3 : Int) (x4 : Int) : Prop :=
  fX5_consider_B37 K σ x1 x2 x3 x4 1
def fX5_consider_B36 (K : zSt → Prop) (σ : zSt) (x1 : Int) (x2 : Int) (x3 : Int) (x4 : Int) : Prop :=
  fX5_consider_B37 K σ x1 x2 x3 x4 0
def fX5_consider (K : zSt → Prop) (σ : zSt) (x1 : Int) (x2 : Int) (x3 : Int) (x4 : Int) : Prop :=
  zrg (σ 22 0) ∧ ((σ 22 0 = 0 → fX5_consider_B32 K σ x1 x2 x3 x4) ∧ (¬ σ 22 0 = 0 → zrg x3 ∧ zrg (σ 22 3) ∧ ((x3 < σ 22 3 → fX5_consider_B32 K σ x1 x2 x3 x4) ∧ (¬ x3 < σ 22 3 → ((x3 = σ 22 3 → zrg x4 ∧ zrg (σ 22 5) ∧ ((σ 22 5 ≤ x4 → fX5_consider_B36 K σ x1 x2 x3 x4) ∧ (¬ σ 22 5 ≤ x4 → fX5_consider_B32 K σ x1 x2 x3 x4))) ∧ (¬ x3 = σ 22 3 → fX5_consider_B36 K σ x1 x2 x3 x4))))))
set_option maxHeartbeats 4000000 in
set_option maxRecDepth 100000 in
theorem wX5_consider_B92 {p : Program} {l : Launch} {e : Env} {s : State} {m : MethodId} {args : Array Value} {below : List Frame} {meth : Method} {c : Code} {D : va_G} {dA : Nat → ClassId} {ad : Nat → Nat} {sz : Nat} {aL aG aI : Nat} {aK aV : Nat → Nat} {K : zSt → Prop} (hC : zC p m c cX5_consider 6 s args (Cond.code yX5_consider cX5_consider 6 none :: UW) RX5 meth D vwCl (tyA dA) (zA ad NX sz) NX ad (celX ad dA)) (hE : zE (zXX aL aG aI aK aV) (zA ad NX sz) s s.heap) (hr : meth.sig.returnType = none) (hinj : ∀ i j, i < NX → j < NX → ad i = ad j → i = j) {σ : zSt} {x3 : Int} (hf : fX5_consider_B92 K σ x3) : zAt p l e ({ frames := 0, cells := 0, slots := 0, locals := 0 } : Room) s m args below meth c 0 0 (MQ below (va_Qv K (zB D vwCl (tyA dA) NX ad (celX ad dA)) (zA ad NX sz)) args s 0 0 (zA ad NX sz)) 6 D vwCl (zA ad NX sz) NX ad (celX ad dA) 92 [(0, vR ad 22), (3, vI x3)] [] σ := by
  refine z_aload_n hC dX5_consider_92 0 rfl rfl ?_
  refine z_iload_n hC dX5_consider_93 1 rfl rfl ?_
  refine z_put hC (ty := .int) tyX5 tyX5_ok nmX5 (fun w h => uT _ w (uL5 w h)) (oX_5 (show kX 22 = 5 by decide)) (loX' (show kX 22 = 5 by decide) (by decide)) 4 (by decide) (uT _ _ u407) rfl rfl (4) (x3) (by simp [zu]) (by decide +kernel) rfl rfl (Nat.le_of_ble_eq_true rfl) dX5_consider_94 ?_
  obtain ⟨σ17, eσ17⟩ : ∃ z : zSt, z = zu σ 22 4 x3 := ⟨_, rfl⟩
  rw [← eσ17]
  replace hf := hf σ17 eσ17
  refine z_aload_n hC dX5_consider_97 0 rfl rfl ?_
  refine z_dup hC dX5_consider_98 rfl ?_
  refine z_get hC (fun w h => uT _ w (uL5 w h)) (oX_5 (show kX 22 = 5 by decide)) 0 (by decide) (uT _ _ u396) rfl rfl dX5_consider_99 ?_
  refine z_iconst hC dX5_consider_102 ?_
  refine z_iadd hC dX5_consider_103 ?_
  refine z_put hC (ty := .int) tyX5 tyX5_ok nmX5 (fun w h => uT _ w (uL5 w h)) (oX_5 (show kX 22 = 5 by decide)) (loX' (show kX 22 = 5 by decide) (by decide)) 0 (by decide) (uT _ _ u396) rfl rfl (0) ((σ17 22 0) + 1) (by simp [zu]) (by decide +kernel) rfl rfl (Nat.le_of_ble_eq_true rfl) dX5_consider_104 ?_
  obtain ⟨σ18, eσ18⟩ : ∃ z : zSt, z = zu σ17 22 0 ((σ17 22 0) + 1) := ⟨_, rfl⟩
  rw [← eσ18]
  replace hf := hf σ18 eσ18
  exact z_vret hC hr rfl dX5_consider_107 hf
set_option maxHeartbeats 4000000 in
set_option maxRecDepth 100000 in
theorem wX5_consider_B37 {p : Program} {l : Launch} {e : Env} {s : State} {m : MethodId} {args : Array Value} {below : List Frame} {meth : Method} {c : Code} {D : va_G} {dA : Nat → ClassId} {ad : Nat → Nat} {sz : Nat} {aL aG aI : Nat} {aK aV : Nat → Nat} {K : zSt → Prop} (hC : zC p m c cX5_consider 6 s args (Cond.code yX5_consider cX5_consider 6 none :: UW) RX5 meth D vwCl (tyA dA) (zA ad NX sz) NX ad (celX ad dA)) (hE : zE (zXX aL aG aI aK aV) (zA ad NX sz) s s.heap) (hr : meth.sig.returnType = none) (hinj : ∀ i j, i < NX → j < NX → ad i = ad j → i = j) {σ : zSt} {x1 : Int} {x2 : Int} {x3 : Int} {x4 : Int} {s0 : Int} (hf : fX5_consider_B37 K σ x1 x2 x3 x4 s0) : zAt p l e ({ frames := 0, cells := 0, slots := 0, locals := 0 } : Room) s m args below meth c 0 0 (MQ below (va_Qv K (zB D vwCl (tyA dA) NX ad (celX ad dA)) (zA ad NX sz)) args s 0 0 (zA ad NX sz)) 6 D vwCl (zA ad NX sz) NX ad (celX ad dA) 37 [(0, vR ad 22), (1, vI x1), (2, vI x2), (3, vI x3), (4, vI x4)] [vI s0] σ := by
  refine z_istore hC ([(5, vI s0), (0, vR ad 22), (1, vI x1), (2, vI x2), (3, vI x3), (4, vI x4)]) dX5_consider_37 (by decide) rfl ?_
  refine z_iload hC dX5_consider_39 0 rfl ?_
  obtain ⟨g6, hf⟩ := hf
  refine z_if_eq (tgt := 76) hC dX5_consider_41 (by decide) g6 (fun hc => ?_) (fun hc => ?_)
  · replace hf := hf.1 hc
    refine z_aload_n hC dX5_consider_76 1 rfl rfl ?_
    refine z_get hC (fun w h => uT _ w (uL5 w h)) (oX_5 (show kX 22 = 5 by decide)) 0 (by decide) (uT _ _ u396) rfl rfl dX5_consider_77 ?_
    refine z_iconst hC dX5_consider_80 ?_
    obtain ⟨g7, hf⟩ := hf
    refine z_icmp_eq (tgt := 92) hC dX5_consider_81 (by decide) g7 (zlit rfl rfl) (fun hc => ?_) (fun hc => ?_)
    · replace hf := hf.1 hc
      refine z_sub (lv' := [(0, vR ad 22), (3, vI x3)]) [1, 4] rfl ?_
      exact wX5_consider_B92 hC hE hr hinj  hf
    · replace hf := hf.2 hc
      refine z_iload_n hC dX5_consider_84 4 rfl rfl ?_
      refine z_aload_n hC dX5_consider_85 1 rfl rfl ?_
      refine z_get hC (fun w h => uT _ w (uL5 w h)) (oX_5 (show kX 22 = 5 by decide)) 4 (by decide) (uT _ _ u407) rfl rfl dX5_consider_86 ?_
      obtain ⟨g8, hf⟩ := hf
      obtain ⟨g9, hf⟩ := hf
      refine z_icmp_ge (tgt := 97) hC dX5_consider_89 (by decide) g8 g9 (fun hc => ?_) (fun hc => ?_)
      · replace hf := hf.1 hc
        refine z_aload_n hC dX5_consider_97 1 rfl rfl ?_
        refine z_dup hC dX5_consider_98 rfl ?_
        refine z_get hC (fun w h => uT _ w (uL5 w h)) (oX_5 (show kX 22 = 5 by decide)) 0 (by decide) (uT _ _ u396) rfl rfl dX5_consider_99 ?_
        refine z_iconst hC dX5_consider_102 ?_
        refine z_iadd hC dX5_consider_103 ?_
        refine z_put hC (ty := .int) tyX5 tyX5_ok nmX5 (fun w h => uT _ w (uL5 w h)) (oX_5 (show kX 22 = 5 by decide)) (loX' (show kX 22 = 5 by decide) (by decide)) 0 (by decide) (uT _ _ u396) rfl rfl (0) ((σ 22 0) + 1) (by simp [zu]) (by decide +kernel) rfl rfl (Nat.le_of_ble_eq_true rfl) dX5_consider_104 ?_
        obtain ⟨σ10, eσ10⟩ : ∃ z : zSt, z = zu σ 22 0 ((σ 22 0) + 1) := ⟨_, rfl⟩
        rw [← eσ10]
        replace hf := hf σ10 eσ10
        exact z_vret hC hr rfl dX5_consider_107 hf
      · replace hf := hf.2 hc
        refine z_sub (lv' := [(0, vR ad 22), (3, vI x3)]) [1, 4] rfl ?_
        exact wX5_consider_B92 hC hE hr hinj  hf
  · replace hf := hf.2 hc
    refine z_aload_n hC dX5_consider_44 1 rfl rfl ?_
    refine z_aload_n hC dX5_consider_45 1 rfl rfl ?_
    refine z_get hC (fun w h => uT _ w (uL5 w h)) (oX_5 (show kX 22 = 5 by decide)) 3 (by decide) (uT _ _ u404) rfl rfl dX5_consider_46 ?_
    refine z_put hC (ty := .int) tyX5 tyX5_ok nmX5 (fun w h => uT _ w (uL5 w h)) (oX_5 (show kX 22 = 5 by decide)) (loX' (show kX 22 = 5 by decide) (by decide)) 4 (by decide) (uT _ _ u407) rfl rfl (4) (σ 22 3) (by simp [zu]) (by decide +kernel) rfl rfl (Nat.le_of_ble_eq_true rfl) dX5_consider_49 ?_
    obtain ⟨σ11, eσ11⟩ : ∃ z : zSt, z = zu σ 22 4 (σ 22 3) := ⟨_, rfl⟩
    rw [← eσ11]
    replace hf := hf σ11 eσ11
    refine z_aload_n hC dX5_consider_52 1 rfl rfl ?_
    refine z_iload_n hC dX5_consider_53 2 rfl rfl ?_
    refine z_put hC (ty := .int) tyX5 tyX5_ok nmX5 (fun w h => uT _ w (uL5 w h)) (oX_5 (show kX 22 = 5 by decide)) (loX' (show kX 22 = 5 by decide) (by decide)) 1 (by decide) (uT _ _ u398) rfl rfl (1) (x1) (by simp [zu]) (by decide +kernel) rfl rfl (Nat.le_of_ble_eq_true rfl) dX5_consider_54 ?_
    obtain ⟨σ12, eσ12⟩ : ∃ z : zSt, z = zu σ11 22 1 x1 := ⟨_, rfl⟩
    rw [← eσ12]
    replace hf := hf σ12 eσ12
    refine z_aload_n hC dX5_consider_57 1 rfl rfl ?_
    refine z_iload_n hC dX5_consider_58 3 rfl rfl ?_
    refine z_put hC (ty := .int) tyX5 tyX5_ok nmX5 (fun w h => uT _ w (uL5 w h)) (oX_5 (show kX 22 = 5 by decide)) (loX' (show kX 22 = 5 by decide) (by decide)) 2 (by decide) (uT _ _ u401) rfl rfl (2) (x2) (by simp [zu]) (by decide +kernel) rfl rfl (Nat.le_of_ble_eq_true rfl) dX5_consider_59 ?_
    obtain ⟨σ13, eσ13⟩ : ∃ z : zSt, z = zu σ12 22 2 x2 := ⟨_, rfl⟩
    rw [← eσ13]
    replace hf := hf σ13 eσ13
    refine z_aload_n hC dX5_consider_62 1 rfl rfl ?_
    refine z_iload_n hC dX5_consider_63 4 rfl rfl ?_
    refine z_put hC (ty := .int) tyX5 tyX5_ok nmX5 (fun w h => uT _ w (uL5 w h)) (oX_5 (show kX 22 = 5 by decide)) (loX' (show kX 22 = 5 by decide) (by decide)) 3 (by decide) (uT _ _ u404) rfl rfl (3) (x3) (by simp [zu]) (by decide +kernel) rfl rfl (Nat.le_of_ble_eq_true rfl) dX5_consider_64 ?_
    obtain ⟨σ14, eσ14⟩ : ∃ z : zSt, z = zu σ13 22 3 x3 := ⟨_, rfl⟩
    rw [← eσ14]
    replace hf := hf σ14 eσ14
    refine z_aload_n hC dX5_consider_67 1 rfl rfl ?_
    refine z_iload hC dX5_consider_68 5 rfl ?_
    refine z_put hC (ty := .int) tyX5 tyX5_ok nmX5 (fun w h => uT _ w (uL5 w h)) (oX_5 (show kX 22 = 5 by decide)) (loX' (show kX 22 = 5 by decide) (by decide)) 5 (by decide) (uT _ _ u409) rfl rfl (5) (x4) (by simp [zu]) (by decide +kernel) rfl rfl (Nat.le_of_ble_eq_true rfl) dX5_consider_70 ?_
    obtain ⟨σ15, eσ15⟩ : ∃ z : zSt, z = zu σ14 22 5 x4 := ⟨_, rfl⟩
    rw [← eσ15]
    replace hf := hf σ15 eσ15
    refine z_goto (tgt := 97) hC dX5_consider_73 (by decide) ?_
    refine z_aload_n hC dX5_consider_97 1 rfl rfl ?_
    refine z_dup hC dX5_consider_98 rfl ?_
    refine z_get hC (fun w h => uT _ w (uL5 w h)) (oX_5 (show kX 22 = 5 by decide)) 0 (by decide) (uT _ _ u396) rfl rfl dX5_consider_99 ?_
    refine z_iconst hC dX5_consider_102 ?_
    refine z_iadd hC dX5_consider_103 ?_
    refine z_put hC (ty := .int) tyX5 tyX5_ok nmX5 (fun w h => uT _ w (uL5 w h)) (oX_5 (show kX 22 = 5 by decide)) (loX' (show kX 22 = 5 by decide) (by decide)) 0 (by decide) (uT _ _ u396) rfl rfl (0) ((σ15 22 0) + 1) (by simp [zu]) (by decide +kernel) rfl rfl (Nat.le_of_ble_eq_true rfl) dX5_consider_104 ?_
    obtain ⟨σ16, eσ16⟩ : ∃ z : zSt, z = zu σ15 22 0 ((σ15 22 0) + 1) := ⟨_, rfl⟩
    rw [← eσ16]
    replace hf := hf σ16 eσ16
    exact z_vret hC hr rfl dX5_consider_107 hf
set_option maxHeartbeats 4000000 in
set_option maxRecDepth 100000 in
theorem wX5_consider_B32 {p : Program} {l : Launch} {e : Env} {s : State} {m : MethodId} {args : Array Value} {below : List Frame} {meth : Method} {c : Code} {D : va_G} {dA : Nat → ClassId} {ad : Nat → Nat} {sz : Nat} {aL aG aI : Nat} {aK aV : Nat → Nat} {K : zSt → Prop} (hC : zC p m c cX5_consider 6 s args (Cond.code yX5_consider cX5_consider 6 none :: UW) RX5 meth D vwCl (tyA dA) (zA ad NX sz) NX ad (celX ad dA)) (hE : zE (zXX aL aG aI aK aV) (zA ad NX sz) s s.heap) (hr : meth.sig.returnType = none) (hinj : ∀ i j, i < NX → j < NX → ad i = ad j → i = j) {σ : zSt} {x1 : Int} {x2 : Int} {x3 : Int} {x4 : Int} (hf : fX5_consider_B32 K σ x1 x2 x3 x4) : zAt p l e ({ frames := 0, cells := 0, slots := 0, locals := 0 } : Room) s m args below meth c 0 0 (MQ below (va_Qv K (zB D vwCl (tyA dA) NX ad (celX ad dA)) (zA ad NX sz)) args s 0 0 (zA ad NX sz)) 6 D vwCl (zA ad NX sz) NX ad (celX ad dA) 32 [(0, vR ad 22), (1, vI x1), (2, vI x2), (3, vI x3), (4, vI x4)] [] σ := by
  refine z_iconst hC dX5_consider_32 ?_
  refine z_goto (tgt := 37) hC dX5_consider_33 (by decide) ?_
  exact wX5_consider_B37 hC hE hr hinj  hf
set_option maxHeartbeats 4000000 in
set_option maxRecDepth 100000 in
theorem wX5_consider_B36 {p : Program} {l : Launch} {e : Env} {s : State} {m : MethodId} {args : Array Value} {below : List Frame} {meth : Method} {c : Code} {D : va_G} {dA : Nat → ClassId} {ad : Nat → Nat} {sz : Nat} {aL aG aI : Nat} {aK aV : Nat → Nat} {K : zSt → Prop} (hC : zC p m c cX5_consider 6 s args (Cond.code yX5_consider cX5_consider 6 none :: UW) RX5 meth D vwCl (tyA dA) (zA ad NX sz) NX ad (celX ad dA)) (hE : zE (zXX aL aG aI aK aV) (zA ad NX sz) s s.heap) (hr : meth.sig.returnType = none) (hinj : ∀ i j, i < NX → j < NX → ad i = ad j → i = j) {σ : zSt} {x1 : Int} {x2 : Int} {x3 : Int} {x4 : Int} (hf : fX5_consider_B36 K σ x1 x2 x3 x4) : zAt p l e ({ frames := 0, cells := 0, slots := 0, locals := 0 } : Room) s m args below meth c 0 0 (MQ below (va_Qv K (zB D vwCl (tyA dA) NX ad (celX ad dA)) (zA ad NX sz)) args s 0 0 (zA ad NX sz)) 6 D vwCl (zA ad NX sz) NX ad (celX ad dA) 36 [(0, vR ad 22), (1, vI x1), (2, vI x2), (3, vI x3), (4, vI x4)] [] σ := by
  refine z_iconst hC dX5_consider_36 ?_
  exact wX5_consider_B37 hC hE hr hinj  hf
set_option maxHeartbeats 4000000 in
set_option maxRecDepth 100000 in
theorem mX5_consider {D : va_G} {dA : Nat → ClassId} {ad : Nat → Nat} {aL aG aI : Nat} {aK aV : Nat → Nat} (l : Launch) (hinj : ∀ i j, i < NX → j < NX → ad i = ad j → i = j) (sz : Nat) {K : zSt → Prop} {σ : zSt} {x1 : Int} {x2 : Int} {x3 : Int} {x4 : Int} (hf : fX5_consider K σ x1 x2 x3 x4) : Met l yX5_consider (Cond.code yX5_consider cX5_consider 6 none :: UW) ({ frames := 0, cells := 0, slots := 0, locals := 0 } : Room) (va_Pc [vR ad 22, vI x1, vI x2, vI x3, vI x4] (zPre D vwCl (tyA dA) (zXX aL aG aI aK aV) NX ad (celX ad dA) sz σ)) (va_Qv K (zB D vwCl (tyA dA) NX ad (celX ad dA)) (zA ad NX sz)) 0 0 (zA ad NX sz) := by
  refine z_enter (cc := cX5_consider) (maxL := 6) (ret := none) (vs := [vR ad 22, vI x1, vI x2, vI x3, vI x4]) (plainFor_of_name (by decide)) rfl hinj (Nat.le_of_ble_eq_true rfl) ?_
  intro p e s m args below meth c hC hE hsz hr hnm
  show zAt p l e ({ frames := 0, cells := 0, slots := 0, locals := 0 } : Room) s m args below meth c 0 0 (MQ below (va_Qv K (zB D vwCl (tyA dA) NX ad (celX ad dA)) (zA ad NX sz)) args s 0 0 (zA ad NX sz)) 6 D vwCl (zA ad NX sz) NX ad (celX ad dA) 0 [(0, vR ad 22), (1, vI x1), (2, vI x2), (3, vI x3), (4, vI x4)] [] σ
  refine z_aload_n hC dX5_consider_0 0 rfl rfl ?_
  refine z_get hC (fun w h => uT _ w (uL5 w h)) (oX_5 (show kX 22 = 5 by decide)) 0 (by decide) (uT _ _ u396) rfl rfl dX5_consider_1 ?_
  obtain ⟨g1, hf⟩ := hf
  refine z_if_eq (tgt := 32) hC dX5_consider_4 (by decide) g1 (fun hc => ?_) (fun hc => ?_)
  · replace hf := hf.1 hc
    exact wX5_consider_B32 hC hE hr hinj  hf
  · replace hf := hf.2 hc
    refine z_iload_n hC dX5_consider_7 3 rfl rfl ?_
    refine z_aload_n hC dX5_consider_8 0 rfl rfl ?_
    refine z_get hC (fun w h => uT _ w (uL5 w h)) (oX_5 (show kX 22 = 5 by decide)) 3 (by decide) (uT _ _ u404) rfl rfl dX5_consider_9 ?_
    obtain ⟨g2, hf⟩ := hf
    obtain ⟨g3, hf⟩ := hf
    refine z_icmp_lt (tgt := 32) hC dX5_consider_12 (by decide) g2 g3 (fun hc => ?_) (fun hc => ?_)
    · replace hf := hf.1 hc
      exact wX5_consider_B32 hC hE hr hinj  hf
    · replace hf := hf.2 hc
      refine z_iload_n hC dX5_consider_15 3 rfl rfl ?_
      refine z_aload_n hC dX5_consider_16 0 rfl rfl ?_
      refine z_get hC (fun w h => uT _ w (uL5 w h)) (oX_5 (show kX 22 = 5 by decide)) 3 (by decide) (uT _ _ u404) rfl rfl dX5_consider_17 ?_
      refine z_icmp_ne (tgt := 36) hC dX5_consider_20 (by decide) g2 g3 (fun hc => ?_) (fun hc => ?_)
      · replace hf := hf.2 hc
        exact wX5_consider_B36 hC hE hr hinj  hf
      · replace hf := hf.1 hc
        refine z_iload hC dX5_consider_23 4 rfl ?_
        refine z_aload_n hC dX5_consider_25 0 rfl rfl ?_
        refine z_get hC (fun w h => uT _ w (uL5 w h)) (oX_5 (show kX 22 = 5 by decide)) 5 (by decide) (uT _ _ u409) rfl rfl dX5_consider_26 ?_
        obtain ⟨g4, hf⟩ := hf
        obtain ⟨g5, hf⟩ := hf
        refine z_icmp_ge (tgt := 36) hC dX5_consider_29 (by decide) g4 g5 (fun hc => ?_) (fun hc => ?_)
        · replace hf := hf.1 hc
          exact wX5_consider_B36 hC hE hr hinj  hf
        · replace hf := hf.2 hc
          exact wX5_consider_B32 hC hE hr hinj  hf

-- ===== X6_covers
def fX6_covers (K : Int → zSt → Prop) (σ : zSt) (x1 : Int) : Prop :=
  zrg x1 ∧ ((x1 < 0 → K 0 σ) ∧ (¬ x1 < 0 → ((6 ≤ x1 → K 0 σ) ∧ (¬ 6 ≤ x1 → (0 ≤ x1 ∧ x1 < 6) ∧ zrg (σ 18 x1) ∧ ((σ 18 x1 = 0 → K 0 σ) ∧ (¬ σ 18 x1 = 0 → K 1 σ))))))
set_option maxHeartbeats 4000000 in
set_option maxRecDepth 100000 in
theorem mX6_covers {D : va_G} {dA : Nat → ClassId} {ad : Nat → Nat} {aL aG aI : Nat} {aK aV : Nat → Nat} (l : Launch) (hinj : ∀ i j, i < NX → j < NX → ad i = ad j → i = j) (sz : Nat) {K : Int → zSt → Prop} {σ : zSt} {x1 : Int} (hf : fX6_covers K σ x1) : Met l yX6_covers (Cond.code yX6_covers cX6_covers 2 (some .boolean) :: UW) ({ frames := 0, cells := 0, slots := 0, locals := 0 } : Room) (va_Pc [vR ad 17, vI x1] (zPre D vwCl (tyA dA) (zXX aL aG aI aK aV) NX ad (celX ad dA) sz σ)) (va_Qi (zPi K) (zB D vwCl (tyA dA) NX ad (celX ad dA)) (zA ad NX sz)) 0 0 (zA ad NX sz) := by
  refine z_enter (cc := cX6_covers) (maxL := 2) (ret := (some .boolean)) (vs := [vR ad 17, vI x1]) (plainFor_of_name (by decide)) rfl hinj (Nat.le_of_ble_eq_true rfl) ?_
  intro p e s m args below meth c hC hE hsz hr hnm
  show zAt p l e ({ frames := 0, cells := 0, slots := 0, locals := 0 } : Room) s m args below meth c 0 0 (MQ below (va_Qi (zPi K) (zB D vwCl (tyA dA) NX ad (celX ad dA)) (zA ad NX sz)) args s 0 0 (zA ad NX sz)) 2 D vwCl (zA ad NX sz) NX ad (celX ad dA) 0 [(0, vR ad 17), (1, vI x1)] [] σ
  refine z_iload_n hC dX6_covers_0 1 rfl rfl ?_
  obtain ⟨g1, hf⟩ := hf
  refine z_if_lt (tgt := 23) hC dX6_covers_1 (by decide) g1 (fun hc => ?_) (fun hc => ?_)
  · replace hf := hf.1 hc
    refine z_iconst hC dX6_covers_23 ?_
    exact z_bret hC hr rfl dX6_covers_24 (Or.inl rfl) hf
  · replace hf := hf.2 hc
    refine z_iload_n hC dX6_covers_4 1 rfl rfl ?_
    refine z_bipush hC dX6_covers_5 (by decide) ?_
    refine z_icmp_ge (tgt := 23) hC dX6_covers_7 (by decide) g1 (zlit rfl rfl) (fun hc => ?_) (fun hc => ?_)
    · replace hf := hf.1 hc
      refine z_iconst hC dX6_covers_23 ?_
      exact z_bret hC hr rfl dX6_covers_24 (Or.inl rfl) hf
    · replace hf := hf.2 hc
      refine z_aload_n hC dX6_covers_10 0 rfl rfl ?_
      refine z_get hC (fun w h => uT _ w (uL6 w h)) (oX_6 (show kX 17 = 6 by decide)) 2 (by decide) (uT _ _ u373) rfl rfl dX6_covers_11 ?_
      refine z_iload_n hC dX6_covers_14 1 rfl rfl ?_
      obtain ⟨g2, hf⟩ := hf
      refine z_zaload hC (aX_16 (show kX 18 = 16 by decide)) g2 dX6_covers_15 ?_
      obtain ⟨g3, hf⟩ := hf
      refine z_if_eq (tgt := 23) hC dX6_covers_16 (by decide) g3 (fun hc => ?_) (fun hc => ?_)
      · replace hf := hf.1 hc
        refine z_iconst hC dX6_covers_23 ?_
        exact z_bret hC hr rfl dX6_covers_24 (Or.inl rfl) hf
      · replace hf := hf.2 hc
        refine z_iconst hC dX6_covers_19 ?_
        refine z_goto (tgt := 24) hC dX6_covers_20 (by decide) ?_
        exact z_bret hC hr rfl dX6_covers_24 (Or.inr rfl) hf

-- ===== X6_xShiftOf
def fX6_xShiftOf (K : Int → zSt → Prop) (σ : zSt) (x1 : Int) : Prop :=
  fX6_covers (fun r1 σ1 => zrg r1 ∧ ((r1 = 0 → K 0 σ1) ∧ (¬ r1 = 0 → (0 ≤ x1 ∧ x1 < 6) ∧ K (σ1 19 x1) σ1))) σ x1
set_option maxHeartbeats 4000000 in
set_option maxRecDepth 100000 in
theorem mX6_xShiftOf {D : va_G} {dA : Nat → ClassId} {ad : Nat → Nat} {aL aG aI : Nat} {aK aV : Nat → Nat} (l : Launch) (hinj : ∀ i j, i < NX → j < NX → ad i = ad j → i = j) (sz : Nat) {K : Int → zSt → Prop} {σ : zSt} {x1 : Int} (hf : fX6_xShiftOf K σ x1) : Met l yX6_xShiftOf (Cond.code yX6_xShiftOf cX6_xShiftOf 2 (some .int) :: UW) ({ frames := 1, cells := 0, slots := 0, locals := 21 } : Room) (va_Pc [vR ad 17, vI x1] (zPre D vwCl (tyA dA) (zXX aL aG aI aK aV) NX ad (celX ad dA) sz σ)) (va_Qi (zPi K) (zB D vwCl (tyA dA) NX ad (celX ad dA)) (zA ad NX sz)) 0 0 (zA ad NX sz) := by
  refine z_enter (cc := cX6_xShiftOf) (maxL := 2) (ret := (some .int)) (vs := [vR ad 17, vI x1]) (plainFor_of_name (by decide)) rfl hinj (Nat.le_of_ble_eq_true rfl) ?_
  intro p e s m args below meth c hC hE hsz hr hnm
  show zAt p l e ({ frames := 1, cells := 0, slots := 0, locals := 21 } : Room) s m args below meth c 0 0 (MQ below (va_Qi (zPi K) (zB D vwCl (tyA dA) NX ad (celX ad dA)) (zA ad NX sz)) args s 0 0 (zA ad NX sz)) 2 D vwCl (zA ad NX sz) NX ad (celX ad dA) 0 [(0, vR ad 17), (1, vI x1)] [] σ
  refine z_aload_n hC dX6_xShiftOf_0 0 rfl rfl ?_
  refine z_iload_n hC dX6_xShiftOf_1 1 rfl rfl ?_
  refine z_callVi hC hE (oX_6 (show kX 17 = 6 by decide)) [vI x1] (fun sz2 => mX6_covers l hinj sz2 hf) (cwV 1 hC.1.2.2.2.2 (uV (uT _) u851 u852 u853 u115 u854) rfl rfl rfl (by decide +kernel) ⟨Nat.le_of_ble_eq_true rfl, Nat.le_of_ble_eq_true rfl⟩) rfl rfl (Nat.le_of_ble_eq_true rfl) ⟨Nat.le_of_ble_eq_true rfl, Nat.le_of_ble_eq_true rfl⟩ dX6_xShiftOf_2 (fun r1 σ1 hf => ?_)
  obtain ⟨g2, hf⟩ := hf
  refine z_if_eq (tgt := 17) hC dX6_xShiftOf_5 (by decide) g2 (fun hc => ?_) (fun hc => ?_)
  · replace hf := hf.1 hc
    refine z_iconst hC dX6_xShiftOf_17 ?_
    exact z_iret hC hr rfl dX6_xShiftOf_18 hf
  · replace hf := hf.2 hc
    refine z_aload_n hC dX6_xShiftOf_8 0 rfl rfl ?_
    refine z_get hC (fun w h => uT _ w (uL6 w h)) (oX_6 (show kX 17 = 6 by decide)) 3 (by decide) (uT _ _ u374) rfl rfl dX6_xShiftOf_9 ?_
    refine z_iload_n hC dX6_xShiftOf_12 1 rfl rfl ?_
    obtain ⟨g3, hf⟩ := hf
    refine z_iaload hC (aX_14 (show kX 19 = 14 by decide)) g3 dX6_xShiftOf_13 ?_
    refine z_goto (tgt := 18) hC dX6_xShiftOf_14 (by decide) ?_
    exact z_iret hC hr rfl dX6_xShiftOf_18 hf

-- ===== X6_yShiftOf
def fX6_yShiftOf (K : Int → zSt → Prop) (σ : zSt) (x1 : Int) : Prop :=
  fX6_covers (fun r1 σ1 => zrg r1 ∧ ((r1 = 0 → K 0 σ1) ∧ (¬ r1 = 0 → (0 ≤ x1 ∧ x1 < 6) ∧ K (σ1 20 x1) σ1))) σ x1
set_option maxHeartbeats 4000000 in
set_option maxRecDepth 100000 in
theorem mX6_yShiftOf {D : va_G} {dA : Nat → ClassId} {ad : Nat → Nat} {aL aG aI : Nat} {aK aV : Nat → Nat} (l : Launch) (hinj : ∀ i j, i < NX → j < NX → ad i = ad j → i = j) (sz : Nat) {K : Int → zSt → Prop} {σ : zSt} {x1 : Int} (hf : fX6_yShiftOf K σ x1) : Met l yX6_yShiftOf (Cond.code yX6_yShiftOf cX6_yShiftOf 2 (some .int) :: UW) ({ frames := 1, cells := 0, slots := 0, locals := 21 } : Room) (va_Pc [vR ad 17, vI x1] (zPre D vwCl (tyA dA) (zXX aL aG aI aK aV) NX ad (celX ad dA) sz σ)) (va_Qi (zPi K) (zB D vwCl (tyA dA) NX ad (celX ad dA)) (zA ad NX sz)) 0 0 (zA ad NX sz) := by
  refine z_enter (cc := cX6_yShiftOf) (maxL := 2) (ret := (some .int)) (vs := [vR ad 17, vI x1]) (plainFor_of_name (by decide)) rfl hinj (Nat.le_of_ble_eq_true rfl) ?_
  intro p e s m args below meth c hC hE hsz hr hnm
  show zAt p l e ({ frames := 1, cells := 0, slots := 0, locals := 21 } : Room) s m args below meth c 0 0 (MQ below (va_Qi (zPi K) (zB D vwCl (tyA dA) NX ad (celX ad dA)) (zA ad NX sz)) args s 0 0 (zA ad NX sz)) 2 D vwCl (zA ad NX sz) NX ad (celX ad dA) 0 [(0, vR ad 17), (1, vI x1)] [] σ
  refine z_aload_n hC dX6_yShiftOf_0 0 rfl rfl ?_
  refine z_iload_n hC dX6_yShiftOf_1 1 rfl rfl ?_
  refine z_callVi hC hE (oX_6 (show kX 17 = 6 by decide)) [vI x1] (fun sz2 => mX6_covers l hinj sz2 hf) (cwV 1 hC.1.2.2.2.2 (uV (uT _) u851 u852 u853 u115 u854) rfl rfl rfl (by decide +kernel) ⟨Nat.le_of_ble_eq_true rfl, Nat.le_of_ble_eq_true rfl⟩) rfl rfl (Nat.le_of_ble_eq_true rfl) ⟨Nat.le_of_ble_eq_true rfl, Nat.le_of_ble_eq_true rfl⟩ dX6_yShiftOf_2 (fun r1 σ1 hf => ?_)
  obtain ⟨g2, hf⟩ := hf
  refine z_if_eq (tgt := 17) hC dX6_yShiftOf_5 (by decide) g2 (fun hc => ?_) (fun hc => ?_)
  · replace hf := hf.1 hc
    refine z_iconst hC dX6_yShiftOf_17 ?_
    exact z_iret hC hr rfl dX6_yShiftOf_18 hf
  · replace hf := hf.2 hc
    refine z_aload_n hC dX6_yShiftOf_8 0 rfl rfl ?_
    refine z_get hC (fun w h => uT _ w (uL6 w h)) (oX_6 (show kX 17 = 6 by decide)) 4 (by decide) (uT _ _ u375) rfl rfl dX6_yShiftOf_9 ?_
    refine z_iload_n hC dX6_yShiftOf_12 1 rfl rfl ?_
    obtain ⟨g3, hf⟩ := hf
    refine z_iaload hC (aX_14 (show kX 20 = 14 by decide)) g3 dX6_yShiftOf_13 ?_
    refine z_goto (tgt := 18) hC dX6_yShiftOf_14 (by decide) ?_
    exact z_iret hC hr rfl dX6_yShiftOf_18 hf

-- ===== X8_isWindowInside
def fX8_isWindowInside (K : Int → zSt → Prop) (σ : zSt) (x0 : Int) (x1 : Int) (x2 : Int) : Prop :=
  kX x0 = 8 ∧ zrg x1 ∧ zrg (σ (x0 + 1) 0) ∧ ((x1 < σ (x0 + 1) 0 → K 0 σ) ∧ (¬ x1 < σ (x0 + 1) 0 → zrg ((σ x0 0) - (σ (x0 + 1) 0)) ∧ (((σ x0 0) - (σ (x0 + 1) 0) ≤ x1 → K 0 σ) ∧ (¬ (σ x0 0) - (σ (x0 + 1) 0) ≤ x1 → zrg x2 ∧ ((x2 < σ (x0 + 1) 0 → K 0 σ) ∧ (¬ x2 < σ (x0 + 1) 0 → zrg ((σ x0 1) - (σ (x0 + 1) 0)) ∧ (((σ x0 1) - (σ (x0 + 1) 0) ≤ x2 → K 0 σ) ∧ (¬ (σ x0 1) - (σ (x0 + 1) 0) ≤ x2 → K 1 σ))))))))
set_option maxHeartbeats 4000000 in
set_option maxRecDepth 100000 in
theorem mX8_isWindowInside {D : va_G} {dA : Nat → ClassId} {ad : Nat → Nat} {aL aG aI : Nat} {aK aV : Nat → Nat} (l : Launch) (hinj : ∀ i j, i < NX → j < NX → ad i = ad j → i = j) (sz : Nat) {K : Int → zSt → Prop} {σ : zSt} {x0 : Int} {x1 : Int} {x2 : Int} (hf : fX8_isWindowInside K σ x0 x1 x2) : Met l yX8_isWindowInside (Cond.code yX8_isWindowInside cX8_isWindowInside 4 (some .boolean) :: UW) ({ frames := 0, cells := 0, slots := 0, locals := 0 } : Room) (va_Pc [vR ad x0, vI x1, vI x2] (zPre D vwCl (tyA dA) (zXX aL aG aI aK aV) NX ad (celX ad dA) sz σ)) (va_Qi (zPi K) (zB D vwCl (tyA dA) NX ad (celX ad dA)) (zA ad NX sz)) 0 0 (zA ad NX sz) := by
  refine z_enter (cc := cX8_isWindowInside) (maxL := 4) (ret := (some .boolean)) (vs := [vR ad x0, vI x1, vI x2]) (plainFor_of_name (by decide)) rfl hinj (Nat.le_of_ble_eq_true rfl) ?_
  intro p e s m args below meth c hC hE hsz hr hnm
  obtain ⟨qx0, hf⟩ := hf
  show zAt p l e ({ frames := 0, cells := 0, slots := 0, locals := 0 } : Room) s m args below meth c 0 0 (MQ below (va_Qi (zPi K) (zB D vwCl (tyA dA) NX ad (celX ad dA)) (zA ad NX sz)) args s 0 0 (zA ad NX sz)) 4 D vwCl (zA ad NX sz) NX ad (celX ad dA) 0 [(0, vR ad x0), (1, vI x1), (2, vI x2)] [] σ
  refine z_aload_n hC dX8_isWindowInside_0 0 rfl rfl ?_
  refine z_get hC (fun w h => uT _ w (uL8 w h)) (oX_8 qx0) 4 (by decide) (uT _ _ u226) rfl rfl dX8_isWindowInside_1 ?_
  refine z_iconst hC dX8_isWindowInside_4 ?_
  refine z_iaload hC (aX_17 (kf_8_4 qx0)) ⟨by decide, by decide⟩ dX8_isWindowInside_5 ?_
  refine z_istore_n hC ([(3, vI (σ (x0 + 1) 0)), (0, vR ad x0), (1, vI x1), (2, vI x2)]) dX8_isWindowInside_6 rfl (by decide) rfl ?_
  refine z_iload_n hC dX8_isWindowInside_7 2 rfl rfl ?_
  refine z_iload_n hC dX8_isWindowInside_8 0 rfl rfl ?_
  obtain ⟨g1, hf⟩ := hf
  obtain ⟨g2, hf⟩ := hf
  refine z_icmp_lt (tgt := 41) hC dX8_isWindowInside_9 (by decide) g1 g2 (fun hc => ?_) (fun hc => ?_)
  · replace hf := hf.1 hc
    refine z_iconst hC dX8_isWindowInside_41 ?_
    exact z_bret hC hr rfl dX8_isWindowInside_42 (Or.inl rfl) hf
  · replace hf := hf.2 hc
    refine z_iload_n hC dX8_isWindowInside_12 2 rfl rfl ?_
    refine z_aload_n hC dX8_isWindowInside_13 1 rfl rfl ?_
    refine z_get hC (fun w h => uT _ w (uL8 w h)) (oX_8 qx0) 0 (by decide) (uT _ _ u213) rfl rfl dX8_isWindowInside_14 ?_
    refine z_iload_n hC dX8_isWindowInside_17 0 rfl rfl ?_
    refine z_isub hC dX8_isWindowInside_18 ?_
    obtain ⟨g3, hf⟩ := hf
    refine z_icmp_ge (tgt := 41) hC dX8_isWindowInside_19 (by decide) g1 g3 (fun hc => ?_) (fun hc => ?_)
    · replace hf := hf.1 hc
      refine z_iconst hC dX8_isWindowInside_41 ?_
      exact z_bret hC hr rfl dX8_isWindowInside_42 (Or.inl rfl) hf
    · replace hf := hf.2 hc
      refine z_iload_n hC dX8_isWindowInside_22 3 rfl rfl ?_
      refine z_iload_n hC dX8_isWindowInside_23 0 rfl rfl ?_
      obtain ⟨g4, hf⟩ := hf
      refine z_icmp_lt (tgt := 41) hC dX8_isWindowInside_24 (by decide) g4 g2 (fun hc => ?_) (fun hc => ?_)
      · replace hf := hf.1 hc
        refine z_iconst hC dX8_isWindowInside_41 ?_
        exact z_bret hC hr rfl dX8_isWindowInside_42 (Or.inl rfl) hf
      · replace hf := hf.2 hc
        refine z_iload_n hC dX8_isWindowInside_27 3 rfl rfl ?_
        refine z_aload_n hC dX8_isWindowInside_28 1 rfl rfl ?_
        refine z_get hC (fun w h => uT _ w (uL8 w h)) (oX_8 qx0) 1 (by decide) (uT _ _ u216) rfl rfl dX8_isWindowInside_29 ?_
        refine z_iload_n hC dX8_isWindowInside_32 0 rfl rfl ?_
        refine z_isub hC dX8_isWindowInside_33 ?_
        obtain ⟨g5, hf⟩ := hf
        refine z_icmp_ge (tgt := 41) hC dX8_isWindowInside_34 (by decide) g4 g5 (fun hc => ?_) (fun hc => ?_)
        · replace hf := hf.1 hc
          refine z_iconst hC dX8_isWindowInside_41 ?_
          exact z_bret hC hr rfl dX8_isWindowInside_42 (Or.inl rfl) hf
        · replace hf := hf.2 hc
          refine z_iconst hC dX8_isWindowInside_37 ?_
          refine z_goto (tgt := 42) hC dX8_isWindowInside_38 (by decide) ?_
          exact z_bret hC hr rfl dX8_isWindowInside_42 (Or.inr rfl) hf

-- ===== X8_mismatch
noncomputable def fX8_mismatch_B114 (K : Int → zSt → Prop) (k78 : zSt → Int → Int → Int → Int → Int → Int → Int → Int → Int → Prop) (n : Nat) : zSt → Int → Int → Int → Int → Int → Int → Int → Int → Int → Int → Int → Int → Prop :=
  Nat.rec (motive := fun _ => zSt → Int → Int → Int → Int → Int → Int → Int → Int → Int → Int → Int → Int → Prop) (fun _ _ _ _ _ _ _ _ _ _ _ _ _ => False) (fun _ ih σ x2 x3 x5 x6 x7 x8 x9 x10 x11 x12 x13 x14 => zrg x14 ∧ zrg x9 ∧ ((x9 < x14 → k78 σ x2 x3 x5 x6 x7 x8 x9 x10 (x11 + 1)) ∧ (¬ x9 < x14 → (0 ≤ x12 + x14 ∧ x12 + x14 < 120) ∧ (0 ≤ x13 + x14 ∧ x13 + x14 < 120) ∧ zrg ((σ x7 (x12 + x14)) - (σ x8 (x13 + x14))) ∧ ∀ y20, y20 = x10 + (((σ x7 (x12 + x14)) - (σ x8 (x13 + x14))).natAbs : Int) → ih σ x2 x3 x5 x6 x7 x8 x9 y20 x11 x12 x13 (x14 + 1)))) n
theorem uX8_mismatch_B114 (K : Int → zSt → Prop) (k78 : zSt → Int → Int → Int → Int → Int → Int → Int → Int → Int → Prop) (n0 : Nat) (σ : zSt) (x2 : Int) (x3 : Int) (x5 : Int) (x6 : Int) (x7 : Int) (x8 : Int) (x9 : Int) (x10 : Int) (x11 : Int) (x12 : Int) (x13 : Int) (x14 : Int) : fX8_mismatch_B114 K k78 (n0 + 1) σ x2 x3 x5 x6 x7 x8 x9 x10 x11 x12 x13 x14 = (zrg x14 ∧ zrg x9 ∧ ((x9 < x14 → k78 σ x2 x3 x5 x6 x7 x8 x9 x10 (x11 + 1)) ∧ (¬ x9 < x14 → (0 ≤ x12 + x14 ∧ x12 + x14 < 120) ∧ (0 ≤ x13 + x14 ∧ x13 + x14 < 120) ∧ zrg ((σ x7 (x12 + x14)) - (σ x8 (x13 + x14))) ∧ ∀ y20, y20 = x10 + (((σ x7 (x12 + x14)) - (σ x8 (x13 + x14))).natAbs : Int) → (fX8_mismatch_B114 K k78 n0) σ x2 x3 x5 x6 x7 x8 x9 y20 x11 x12 x13 (x14 + 1)))) := rfl
noncomputable def fX8_mismatch_B78 (K : Int → zSt → Prop) (n : Nat) : zSt → Int → Int → Int → Int → Int → Int → Int → Int → Int → Prop :=
  Nat.rec (motive := fun _ => zSt → Int → Int → Int → Int → Int → Int → Int → Int → Int → Prop) (fun _ _ _ _ _ _ _ _ _ _ => False) (fun _ ih σ x2 x3 x5 x6 x7 x8 x9 x10 x11 => zrg x11 ∧ zrg x9 ∧ ((x9 < x11 → K x10 σ) ∧ (¬ x9 < x11 → (∃ n, fX8_mismatch_B114 K ih n σ x2 x3 x5 x6 x7 x8 x9 x10 x11 ((12 * (x3 + x11)) + x2) ((12 * (x6 + x11)) + x5) (-x9))))) n
theorem uX8_mismatch_B78 (K : Int → zSt → Prop) (n0 : Nat) (σ : zSt) (x2 : Int) (x3 : Int) (x5 : Int) (x6 : Int) (x7 : Int) (x8 : Int) (x9 : Int) (x10 : Int) (x11 : Int) : fX8_mismatch_B78 K (n0 + 1) σ x2 x3 x5 x6 x7 x8 x9 x10 x11 = (zrg x11 ∧ zrg x9 ∧ ((x9 < x11 → K x10 σ) ∧ (¬ x9 < x11 → (∃ n, fX8_mismatch_B114 K (fX8_mismatch_B78 K n0) n σ x2 x3 x5 x6 x7 x8 x9 x10 x11 ((12 * (x3 + x11)) + x2) ((12 * (x6 + x11)) + x5) (-x9))))) := rfl
def fX8_mismatch (K : Int → zSt → Prop) (σ : zSt) (x0 : Int) (x1 : Int) (x2 : Int) (x3 : Int) (x4 : Int) (x5 : Int) (x6 : Int) : Prop :=
  kX x0 = 8 ∧ fX8_hasFrame (fun r1 σ1 => zrg r1 ∧ ((r1 = 0 → K 0 σ1) ∧ (¬ r1 = 0 → fX8_hasFrame (fun r3 σ3 => zrg r3 ∧ ((r3 = 0 → K 0 σ3) ∧ (¬ r3 = 0 → fX8_isWindowInside (fun r5 σ5 => zrg r5 ∧ ((r5 = 0 → K 0 σ5) ∧ (¬ r5 = 0 → fX8_isWindowInside (fun r7 σ7 => zrg r7 ∧ ((r7 = 0 → K 0 σ7) ∧ (¬ r7 = 0 → (0 ≤ x1 ∧ x1 < 6) ∧ kX (σ7 (x0 + 2) x1) = 1 ∧ (0 ≤ x4 ∧ x4 < 6) ∧ kX (σ7 (x0 + 2) x4) = 1 ∧ (∃ n, fX8_mismatch_B78 K n σ7 x2 x3 x5 x6 ((σ7 (x0 + 2) x1) + 6) ((σ7 (x0 + 2) x4) + 6) (σ7 (x0 + 1) 0) 0 (-(σ7 (x0 + 1) 0)))))) σ5 x0 x5 x6))) σ3 x0 x2 x3))) σ1 x0 x4))) σ x0 x1
set_option maxHeartbeats 4000000 in
set_option maxRecDepth 100000 in
theorem wX8_mismatch_B114 {p : Program} {l : Launch} {e : Env} {s : State} {m : MethodId} {args : Array Value} {below : List Frame} {meth : Method} {c : Code} {D : va_G} {dA : Nat → ClassId} {ad : Nat → Nat} {sz : Nat} {aL aG aI : Nat} {aK aV : Nat → Nat} {K : Int → zSt → Prop} {k78 : zSt → Int → Int → Int → Int → Int → Int → Int → Int → Int → Prop} (hC : zC p m c cX8_mismatch 15 s args (Cond.code yX8_mismatch cX8_mismatch 15 (some .int) :: UW) RX8 meth D vwCl (tyA dA) (zA ad NX sz) NX ad (celX ad dA)) (hE : zE (zXX aL aG aI aK aV) (zA ad NX sz) s s.heap) (hr : meth.sig.returnType = (some .int)) (hinj : ∀ i j, i < NX → j < NX → ad i = ad j → i = j) (hk78 : ∀ (σ : zSt) (x2 : Int) (x3 : Int) (x5 : Int) (x6 : Int) (x7 : Int) (x8 : Int) (x9 : Int) (x10 : Int) (x11 : Int) (_ : kX x7 = 18) (_ : kX x8 = 18), k78 σ x2 x3 x5 x6 x7 x8 x9 x10 x11 → zAt p l e ({ frames := 1, cells := 0, slots := 0, locals := 23 } : Room) s m args below meth c 0 0 (MQ below (va_Qi (zPi K) (zB D vwCl (tyA dA) NX ad (celX ad dA)) (zA ad NX sz)) args s 0 0 (zA ad NX sz)) 15 D vwCl (zA ad NX sz) NX ad (celX ad dA) 78 [(2, vI x2), (3, vI x3), (5, vI x5), (6, vI x6), (7, vR ad x7), (8, vR ad x8), (9, vI x9), (10, vI x10), (11, vI x11)] [] σ) : ∀ (n : Nat) (σ : zSt) (x2 : Int) (x3 : Int) (x5 : Int) (x6 : Int) (x7 : Int) (x8 : Int) (x9 : Int) (x10 : Int) (x11 : Int) (x12 : Int) (x13 : Int) (x14 : Int) (qx7 : kX x7 = 18) (qx8 : kX x8 = 18), fX8_mismatch_B114 K k78 n σ x2 x3 x5 x6 x7 x8 x9 x10 x11 x12 x13 x14 → zAt p l e ({ frames := 1, cells := 0, slots := 0, locals := 23 } : Room) s m args below meth c 0 0 (MQ below (va_Qi (zPi K) (zB D vwCl (tyA dA) NX ad (celX ad dA)) (zA ad NX sz)) args s 0 0 (zA ad NX sz)) 15 D vwCl (zA ad NX sz) NX ad (celX ad dA) 114 [(2, vI x2), (3, vI x3), (5, vI x5), (6, vI x6), (7, vR ad x7), (8, vR ad x8), (9, vI x9), (10, vI x10), (11, vI x11), (12, vI x12), (13, vI x13), (14, vI x14)] [] σ := by
  intro n
  induction n with
  | zero => intro σ x2 x3 x5 x6 x7 x8 x9 x10 x11 x12 x13 x14 qx7 qx8 hf; exact False.elim hf
  | succ n ih =>
    intro σ x2 x3 x5 x6 x7 x8 x9 x10 x11 x12 x13 x14 qx7 qx8 hf
    rw [uX8_mismatch_B114] at hf
    refine z_iload hC dX8_mismatch_114 11 rfl ?_
    refine z_iload hC dX8_mismatch_116 6 rfl ?_
    obtain ⟨g15, hf⟩ := hf
    obtain ⟨g16, hf⟩ := hf
    refine z_icmp_gt (tgt := 152) hC dX8_mismatch_118 (by decide) g15 g16 (fun hc => ?_) (fun hc => ?_)
    · replace hf := hf.1 hc
      refine z_iinc hC ([(11, vI (x11 + 1)), (2, vI x2), (3, vI x3), (5, vI x5), (6, vI x6), (7, vR ad x7), (8, vR ad x8), (9, vI x9), (10, vI x10), (12, vI x12), (13, vI x13), (14, vI x14)]) dX8_mismatch_152 8 rfl (by decide) rfl ?_
      refine z_goto (tgt := 78) hC dX8_mismatch_155 (by decide) ?_
      refine z_sub (lv' := [(2, vI x2), (3, vI x3), (5, vI x5), (6, vI x6), (7, vR ad x7), (8, vR ad x8), (9, vI x9), (10, vI x10), (11, vI (x11 + 1))]) [1, 2, 3, 4, 5, 6, 7, 8, 0] rfl ?_
      exact hk78 _ _ _ _ _ _ _ _ _ _ qx7 qx8 hf
    · replace hf := hf.2 hc
      refine z_iload hC dX8_mismatch_121 7 rfl ?_
      refine z_aload hC dX8_mismatch_123 4 rfl ?_
      refine z_iload hC dX8_mismatch_125 9 rfl ?_
      refine z_iload hC dX8_mismatch_127 11 rfl ?_
      refine z_iadd hC dX8_mismatch_129 ?_
      obtain ⟨g17, hf⟩ := hf
      refine z_iaload hC (aX_18 qx7) g17 dX8_mismatch_130 ?_
      refine z_aload hC dX8_mismatch_131 5 rfl ?_
      refine z_iload hC dX8_mismatch_133 10 rfl ?_
      refine z_iload hC dX8_mismatch_135 11 rfl ?_
      refine z_iadd hC dX8_mismatch_137 ?_
      obtain ⟨g18, hf⟩ := hf
      refine z_iaload hC (aX_18 qx8) g18 dX8_mismatch_138 ?_
      refine z_isub hC dX8_mismatch_139 ?_
      obtain ⟨g19, hf⟩ := hf
      refine z_mabs hC g19 (fun w h => uT _ w (uC u844 (uC u845 (uC u108 (uC u846 uN))) w h)) (Nat.le_of_ble_eq_true rfl) (Nat.le_of_ble_eq_true rfl) ⟨Nat.le_of_ble_eq_true rfl, Nat.le_of_ble_eq_true rfl⟩ dX8_mismatch_140 ?_
      refine z_iadd hC dX8_mismatch_143 ?_
      obtain ⟨y20, ey20⟩ : ∃ z : Int, z = x10 + (((σ x7 (x12 + x14)) - (σ x8 (x13 + x14))).natAbs : Int) := ⟨_, rfl⟩
      rw [← ey20]
      replace hf := hf y20 ey20
      refine z_istore hC ([(10, vI y20), (2, vI x2), (3, vI x3), (5, vI x5), (6, vI x6), (7, vR ad x7), (8, vR ad x8), (9, vI x9), (11, vI x11), (12, vI x12), (13, vI x13), (14, vI x14)]) dX8_mismatch_144 (by decide) rfl ?_
      refine z_iinc hC ([(14, vI (x14 + 1)), (10, vI y20), (2, vI x2), (3, vI x3), (5, vI x5), (6, vI x6), (7, vR ad x7), (8, vR ad x8), (9, vI x9), (11, vI x11), (12, vI x12), (13, vI x13)]) dX8_mismatch_146 11 rfl (by decide) rfl ?_
      refine z_goto (tgt := 114) hC dX8_mismatch_149 (by decide) ?_
      refine z_sub (lv' := [(2, vI x2), (3, vI x3), (5, vI x5), (6, vI x6), (7, vR ad x7), (8, vR ad x8), (9, vI x9), (10, vI y20), (11, vI x11), (12, vI x12), (13, vI x13), (14, vI (x14 + 1))]) [2, 3, 4, 5, 6, 7, 8, 1, 9, 10, 11, 0] rfl ?_
      exact ih _ _ _ _ _ _ _ _ _ _ _ _ _ qx7 qx8 hf
set_option maxHeartbeats 4000000 in
set_option maxRecDepth 100000 in
theorem wX8_mismatch_B78 {p : Program} {l : Launch} {e : Env} {s : State} {m : MethodId} {args : Array Value} {below : List Frame} {meth : Method} {c : Code} {D : va_G} {dA : Nat → ClassId} {ad : Nat → Nat} {sz : Nat} {aL aG aI : Nat} {aK aV : Nat → Nat} {K : Int → zSt → Prop} (hC : zC p m c cX8_mismatch 15 s args (Cond.code yX8_mismatch cX8_mismatch 15 (some .int) :: UW) RX8 meth D vwCl (tyA dA) (zA ad NX sz) NX ad (celX ad dA)) (hE : zE (zXX aL aG aI aK aV) (zA ad NX sz) s s.heap) (hr : meth.sig.returnType = (some .int)) (hinj : ∀ i j, i < NX → j < NX → ad i = ad j → i = j) : ∀ (n : Nat) (σ : zSt) (x2 : Int) (x3 : Int) (x5 : Int) (x6 : Int) (x7 : Int) (x8 : Int) (x9 : Int) (x10 : Int) (x11 : Int) (qx7 : kX x7 = 18) (qx8 : kX x8 = 18), fX8_mismatch_B78 K n σ x2 x3 x5 x6 x7 x8 x9 x10 x11 → zAt p l e ({ frames := 1, cells := 0, slots := 0, locals := 23 } : Room) s m args below meth c 0 0 (MQ below (va_Qi (zPi K) (zB D vwCl (tyA dA) NX ad (celX ad dA)) (zA ad NX sz)) args s 0 0 (zA ad NX sz)) 15 D vwCl (zA ad NX sz) NX ad (celX ad dA) 78 [(2, vI x2), (3, vI x3), (5, vI x5), (6, vI x6), (7, vR ad x7), (8, vR ad x8), (9, vI x9), (10, vI x10), (11, vI x11)] [] σ := by
  intro n
  induction n with
  | zero => intro σ x2 x3 x5 x6 x7 x8 x9 x10 x11 qx7 qx8 hf; exact False.elim hf
  | succ n ih =>
    intro σ x2 x3 x5 x6 x7 x8 x9 x10 x11 qx7 qx8 hf
    rw [uX8_mismatch_B78] at hf
    refine z_iload hC dX8_mismatch_78 8 rfl ?_
    refine z_iload hC dX8_mismatch_80 6 rfl ?_
    obtain ⟨g13, hf⟩ := hf
    obtain ⟨g14, hf⟩ := hf
    refine z_icmp_gt (tgt := 158) hC dX8_mismatch_82 (by decide) g13 g14 (fun hc => ?_) (fun hc => ?_)
    · replace hf := hf.1 hc
      refine z_iload hC dX8_mismatch_158 7 rfl ?_
      exact z_iret hC hr rfl dX8_mismatch_160 hf
    · replace hf := hf.2 hc
      refine z_bipush hC dX8_mismatch_85 (by decide) ?_
      refine z_iload_n hC dX8_mismatch_87 1 rfl rfl ?_
      refine z_iload hC dX8_mismatch_88 8 rfl ?_
      refine z_iadd hC dX8_mismatch_90 ?_
      refine z_imul hC dX8_mismatch_91 ?_
      refine z_iload_n hC dX8_mismatch_92 0 rfl rfl ?_
      refine z_iadd hC dX8_mismatch_93 ?_
      refine z_istore hC ([(12, vI ((12 * (x3 + x11)) + x2)), (2, vI x2), (3, vI x3), (5, vI x5), (6, vI x6), (7, vR ad x7), (8, vR ad x8), (9, vI x9), (10, vI x10), (11, vI x11)]) dX8_mismatch_94 (by decide) rfl ?_
      refine z_bipush hC dX8_mismatch_96 (by decide) ?_
      refine z_iload hC dX8_mismatch_98 4 rfl ?_
      refine z_iload hC dX8_mismatch_100 9 rfl ?_
      refine z_iadd hC dX8_mismatch_102 ?_
      refine z_imul hC dX8_mismatch_103 ?_
      refine z_iload hC dX8_mismatch_104 3 rfl ?_
      refine z_iadd hC dX8_mismatch_106 ?_
      refine z_istore hC ([(13, vI ((12 * (x6 + x11)) + x5)), (12, vI ((12 * (x3 + x11)) + x2)), (2, vI x2), (3, vI x3), (5, vI x5), (6, vI x6), (7, vR ad x7), (8, vR ad x8), (9, vI x9), (10, vI x10), (11, vI x11)]) dX8_mismatch_107 (by decide) rfl ?_
      refine z_iload hC dX8_mismatch_109 8 rfl ?_
      refine z_ineg hC dX8_mismatch_111 ?_
      refine z_istore hC ([(14, vI (-x9)), (13, vI ((12 * (x6 + x11)) + x5)), (12, vI ((12 * (x3 + x11)) + x2)), (2, vI x2), (3, vI x3), (5, vI x5), (6, vI x6), (7, vR ad x7), (8, vR ad x8), (9, vI x9), (10, vI x10), (11, vI x11)]) dX8_mismatch_112 (by decide) rfl ?_
      refine z_sub (lv' := [(2, vI x2), (3, vI x3), (5, vI x5), (6, vI x6), (7, vR ad x7), (8, vR ad x8), (9, vI x9), (10, vI x10), (11, vI x11), (12, vI ((12 * (x3 + x11)) + x2)), (13, vI ((12 * (x6 + x11)) + x5)), (14, vI (-x9))]) [3, 4, 5, 6, 7, 8, 9, 10, 11, 2, 1, 0] rfl ?_
      obtain ⟨n, hf⟩ := hf
      exact wX8_mismatch_B114 hC hE hr hinj ih n _ _ _ _ _ _ _ _ _ _ _ _ _ qx7 qx8 hf
set_option maxHeartbeats 4000000 in
set_option maxRecDepth 100000 in
theorem mX8_mismatch {D : va_G} {dA : Nat → ClassId} {ad : Nat → Nat} {aL aG aI : Nat} {aK aV : Nat → Nat} (l : Launch) (hinj : ∀ i j, i < NX → j < NX → ad i = ad j → i = j) (sz : Nat) {K : Int → zSt → Prop} {σ : zSt} {x0 : Int} {x1 : Int} {x2 : Int} {x3 : Int} {x4 : Int} {x5 : Int} {x6 : Int} (hf : fX8_mismatch K σ x0 x1 x2 x3 x4 x5 x6) : Met l yX8_mismatch (Cond.code yX8_mismatch cX8_mismatch 15 (some .int) :: UW) ({ frames := 1, cells := 0, slots := 0, locals := 23 } : Room) (va_Pc [vR ad x0, vI x1, vI x2, vI x3, vI x4, vI x5, vI x6] (zPre D vwCl (tyA dA) (zXX aL aG aI aK aV) NX ad (celX ad dA) sz σ)) (va_Qi (zPi K) (zB D vwCl (tyA dA) NX ad (celX ad dA)) (zA ad NX sz)) 0 0 (zA ad NX sz) := by
  refine z_enter (cc := cX8_mismatch) (maxL := 15) (ret := (some .int)) (vs := [vR ad x0, vI x1, vI x2, vI x3, vI x4, vI x5, vI x6]) (plainFor_of_name (by decide)) rfl hinj (Nat.le_of_ble_eq_true rfl) ?_
  intro p e s m args below meth c hC hE hsz hr hnm
  obtain ⟨qx0, hf⟩ := hf
  show zAt p l e ({ frames := 1, cells := 0, slots := 0, locals := 23 } : Room) s m args below meth c 0 0 (MQ below (va_Qi (zPi K) (zB D vwCl (tyA dA) NX ad (celX ad dA)) (zA ad NX sz)) args s 0 0 (zA ad NX sz)) 15 D vwCl (zA ad NX sz) NX ad (celX ad dA) 0 [(0, vR ad x0), (1, vI x1), (2, vI x2), (3, vI x3), (4, vI x4), (5, vI x5), (6, vI x6)] [] σ
  refine z_aload_n hC dX8_mismatch_0 0 rfl rfl ?_
  refine z_iload_n hC dX8_mismatch_1 1 rfl rfl ?_
  refine z_callVi hC hE (oX_8 qx0) [vI x1] (fun sz2 => mX8_hasFrame l hinj sz2 hf) (cwV 1 hC.1.2.2.2.2 (uV (uT _) u620 u621 u622 u106 u623) rfl rfl rfl (by decide +kernel) ⟨Nat.le_of_ble_eq_true rfl, Nat.le_of_ble_eq_true rfl⟩) rfl rfl (Nat.le_of_ble_eq_true rfl) ⟨Nat.le_of_ble_eq_true rfl, Nat.le_of_ble_eq_true rfl⟩ dX8_mismatch_2 (fun r1 σ1 hf => ?_)
  obtain ⟨g2, hf⟩ := hf
  refine z_if_eq (tgt := 37) hC dX8_mismatch_5 (by decide) g2 (fun hc => ?_) (fun hc => ?_)
  · replace hf := hf.1 hc
    refine z_iconst hC dX8_mismatch_37 ?_
    exact z_iret hC hr rfl dX8_mismatch_38 hf
  · replace hf := hf.2 hc
    refine z_aload_n hC dX8_mismatch_8 0 rfl rfl ?_
    refine z_iload hC dX8_mismatch_9 4 rfl ?_
    refine z_callVi hC hE (oX_8 qx0) [vI x4] (fun sz2 => mX8_hasFrame l hinj sz2 hf) (cwV 1 hC.1.2.2.2.2 (uV (uT _) u620 u621 u622 u106 u623) rfl rfl rfl (by decide +kernel) ⟨Nat.le_of_ble_eq_true rfl, Nat.le_of_ble_eq_true rfl⟩) rfl rfl (Nat.le_of_ble_eq_true rfl) ⟨Nat.le_of_ble_eq_true rfl, Nat.le_of_ble_eq_true rfl⟩ dX8_mismatch_11 (fun r3 σ3 hf => ?_)
    obtain ⟨g4, hf⟩ := hf
    refine z_if_eq (tgt := 37) hC dX8_mismatch_14 (by decide) g4 (fun hc => ?_) (fun hc => ?_)
    · replace hf := hf.1 hc
      refine z_iconst hC dX8_mismatch_37 ?_
      exact z_iret hC hr rfl dX8_mismatch_38 hf
    · replace hf := hf.2 hc
      refine z_aload_n hC dX8_mismatch_17 0 rfl rfl ?_
      refine z_iload_n hC dX8_mismatch_18 2 rfl rfl ?_
      refine z_iload_n hC dX8_mismatch_19 3 rfl rfl ?_
      refine z_callVi hC hE (oX_8 qx0) [vI x2, vI x3] (fun sz2 => mX8_isWindowInside l hinj sz2 hf) (cwV 2 hC.1.2.2.2.2 (uV (uT _) u836 u837 u838 u106 u839) rfl rfl rfl (by decide +kernel) ⟨Nat.le_of_ble_eq_true rfl, Nat.le_of_ble_eq_true rfl⟩) rfl rfl (Nat.le_of_ble_eq_true rfl) ⟨Nat.le_of_ble_eq_true rfl, Nat.le_of_ble_eq_true rfl⟩ dX8_mismatch_20 (fun r5 σ5 hf => ?_)
      obtain ⟨g6, hf⟩ := hf
      refine z_if_eq (tgt := 37) hC dX8_mismatch_23 (by decide) g6 (fun hc => ?_) (fun hc => ?_)
      · replace hf := hf.1 hc
        refine z_iconst hC dX8_mismatch_37 ?_
        exact z_iret hC hr rfl dX8_mismatch_38 hf
      · replace hf := hf.2 hc
        refine z_aload_n hC dX8_mismatch_26 0 rfl rfl ?_
        refine z_iload hC dX8_mismatch_27 5 rfl ?_
        refine z_iload hC dX8_mismatch_29 6 rfl ?_
        refine z_callVi hC hE (oX_8 qx0) [vI x5, vI x6] (fun sz2 => mX8_isWindowInside l hinj sz2 hf) (cwV 2 hC.1.2.2.2.2 (uV (uT _) u836 u837 u838 u106 u839) rfl rfl rfl (by decide +kernel) ⟨Nat.le_of_ble_eq_true rfl, Nat.le_of_ble_eq_true rfl⟩) rfl rfl (Nat.le_of_ble_eq_true rfl) ⟨Nat.le_of_ble_eq_true rfl, Nat.le_of_ble_eq_true rfl⟩ dX8_mismatch_31 (fun r7 σ7 hf => ?_)
        obtain ⟨g8, hf⟩ := hf
        refine z_if_ne (tgt := 39) hC dX8_mismatch_34 (by decide) g8 (fun hc => ?_) (fun hc => ?_)
        · replace hf := hf.2 hc
          refine z_aload_n hC dX8_mismatch_39 0 rfl rfl ?_
          refine z_get hC (fun w h => uT _ w (uL8 w h)) (oX_8 qx0) 5 (by decide) (uT _ _ u232) rfl rfl dX8_mismatch_40 ?_
          refine z_iload_n hC dX8_mismatch_43 1 rfl rfl ?_
          obtain ⟨g9, hf⟩ := hf
          refine z_aaload hC (aX_21 (kf_8_5 qx0)) g9 dX8_mismatch_44 ?_
          obtain ⟨g10, hf⟩ := hf
          refine z_get hC (fun w h => uT _ w (uL1 w h)) (oX_1 g10) 1 (by decide) (uT _ _ u185) rfl rfl dX8_mismatch_45 ?_
          refine z_astore hC ([(7, vR ad ((σ7 (x0 + 2) x1) + 6)), (0, vR ad x0), (1, vI x1), (2, vI x2), (3, vI x3), (4, vI x4), (5, vI x5), (6, vI x6)]) dX8_mismatch_48 (by decide) rfl ?_
          refine z_aload_n hC dX8_mismatch_50 1 rfl rfl ?_
          refine z_get hC (fun w h => uT _ w (uL8 w h)) (oX_8 qx0) 5 (by decide) (uT _ _ u232) rfl rfl dX8_mismatch_51 ?_
          refine z_iload hC dX8_mismatch_54 5 rfl ?_
          obtain ⟨g11, hf⟩ := hf
          refine z_aaload hC (aX_21 (kf_8_5 qx0)) g11 dX8_mismatch_56 ?_
          obtain ⟨g12, hf⟩ := hf
          refine z_get hC (fun w h => uT _ w (uL1 w h)) (oX_1 g12) 1 (by decide) (uT _ _ u185) rfl rfl dX8_mismatch_57 ?_
          refine z_astore hC ([(8, vR ad ((σ7 (x0 + 2) x4) + 6)), (7, vR ad ((σ7 (x0 + 2) x1) + 6)), (0, vR ad x0), (1, vI x1), (2, vI x2), (3, vI x3), (4, vI x4), (5, vI x5), (6, vI x6)]) dX8_mismatch_60 (by decide) rfl ?_
          refine z_aload_n hC dX8_mismatch_62 2 rfl rfl ?_
          refine z_get hC (fun w h => uT _ w (uL8 w h)) (oX_8 qx0) 4 (by decide) (uT _ _ u226) rfl rfl dX8_mismatch_63 ?_
          refine z_iconst hC dX8_mismatch_66 ?_
          refine z_iaload hC (aX_17 (kf_8_4 qx0)) ⟨by decide, by decide⟩ dX8_mismatch_67 ?_
          refine z_istore hC ([(9, vI (σ7 (x0 + 1) 0)), (8, vR ad ((σ7 (x0 + 2) x4) + 6)), (7, vR ad ((σ7 (x0 + 2) x1) + 6)), (0, vR ad x0), (1, vI x1), (2, vI x2), (3, vI x3), (4, vI x4), (5, vI x5), (6, vI x6)]) dX8_mismatch_68 (by decide) rfl ?_
          refine z_iconst hC dX8_mismatch_70 ?_
          refine z_istore hC ([(10, vI 0), (9, vI (σ7 (x0 + 1) 0)), (8, vR ad ((σ7 (x0 + 2) x4) + 6)), (7, vR ad ((σ7 (x0 + 2) x1) + 6)), (0, vR ad x0), (1, vI x1), (2, vI x2), (3, vI x3), (4, vI x4), (5, vI x5), (6, vI x6)]) dX8_mismatch_71 (by decide) rfl ?_
          refine z_iload hC dX8_mismatch_73 1 rfl ?_
          refine z_ineg hC dX8_mismatch_75 ?_
          refine z_istore hC ([(11, vI (-(σ7 (x0 + 1) 0))), (10, vI 0), (9, vI (σ7 (x0 + 1) 0)), (8, vR ad ((σ7 (x0 + 2) x4) + 6)), (7, vR ad ((σ7 (x0 + 2) x1) + 6)), (0, vR ad x0), (1, vI x1), (2, vI x2), (3, vI x3), (4, vI x4), (5, vI x5), (6, vI x6)]) dX8_mismatch_76 (by decide) rfl ?_
          refine z_sub (lv' := [(2, vI x2), (3, vI x3), (5, vI x5), (6, vI x6), (7, vR ad ((σ7 (x0 + 2) x1) + 6)), (8, vR ad ((σ7 (x0 + 2) x4) + 6)), (9, vI (σ7 (x0 + 1) 0)), (10, vI 0), (11, vI (-(σ7 (x0 + 1) 0)))]) [7, 8, 10, 11, 4, 3, 2, 1, 0] rfl ?_
          obtain ⟨n, hf⟩ := hf
          exact wX8_mismatch_B78 hC hE hr hinj n _ _ _ _ _ _ _ _ _ _ (kf_1_1 g10) (kf_1_1 g12) hf
        · replace hf := hf.1 hc
          refine z_iconst hC dX8_mismatch_37 ?_
          exact z_iret hC hr rfl dX8_mismatch_38 hf

-- ===== X5_search
noncomputable def fX5_search_B93 (K : zSt → Prop) (k81 : zSt → Int → Int → Int → Int → Int → Int → Int → Int → Int → Prop) (n : Nat) : zSt → Int → Int → Int → Int → Int → Int → Int → Int → Int → Int → Prop :=
  Nat.rec (motive := fun _ => zSt → Int → Int → Int → Int → Int → Int → Int → Int → Int → Int → Prop) (fun _ _ _ _ _ _ _ _ _ _ _ => False) (fun _ ih σ x1 x3 x4 x5 x6 x7 x8 x9 x10 x11 => zrg x11 ∧ zrg x9 ∧ ((x9 < x11 → k81 σ x1 x3 x4 x5 x6 x7 x8 x9 (x10 + 1)) ∧ (¬ x9 < x11 → fX8_isWindowInside (fun r16 σ16 => zrg r16 ∧ ((r16 = 0 → ih σ16 x1 x3 x4 x5 x6 x7 x8 x9 x10 (x11 + 1)) ∧ (¬ r16 = 0 → fX8_mismatch (fun r18 σ18 => zrg x10 ∧ fX5_consider (fun σ20 => ih σ20 x1 x3 x4 x5 x6 x7 x8 x9 x10 (x11 + 1)) σ18 (x7 + x11) (x8 + x10) r18 ((x11.natAbs : Int) + (x10.natAbs : Int))) σ16 x1 x3 x4 x5 x6 (x7 + x11) (x8 + x10)))) σ x1 (x7 + x11) (x8 + x10)))) n
theorem uX5_search_B93 (K : zSt → Prop) (k81 : zSt → Int → Int → Int → Int → Int → Int → Int → Int → Int → Prop) (n0 : Nat) (σ : zSt) (x1 : Int) (x3 : Int) (x4 : Int) (x5 : Int) (x6 : Int) (x7 : Int) (x8 : Int) (x9 : Int) (x10 : Int) (x11 : Int) : fX5_search_B93 K k81 (n0 + 1) σ x1 x3 x4 x5 x6 x7 x8 x9 x10 x11 = (zrg x11 ∧ zrg x9 ∧ ((x9 < x11 → k81 σ x1 x3 x4 x5 x6 x7 x8 x9 (x10 + 1)) ∧ (¬ x9 < x11 → fX8_isWindowInside (fun r16 σ16 => zrg r16 ∧ ((r16 = 0 → (fX5_search_B93 K k81 n0) σ16 x1 x3 x4 x5 x6 x7 x8 x9 x10 (x11 + 1)) ∧ (¬ r16 = 0 → fX8_mismatch (fun r18 σ18 => zrg x10 ∧ fX5_consider (fun σ20 => (fX5_search_B93 K k81 n0) σ20 x1 x3 x4 x5 x6 x7 x8 x9 x10 (x11 + 1)) σ18 (x7 + x11) (x8 + x10) r18 ((x11.natAbs : Int) + (x10.natAbs : Int))) σ16 x1 x3 x4 x5 x6 (x7 + x11) (x8 + x10)))) σ x1 (x7 + x11) (x8 + x10)))) := rfl
noncomputable def fX5_search_B81 (K : zSt → Prop) (n : Nat) : zSt → Int → Int → Int → Int → Int → Int → Int → Int → Int → Prop :=
  Nat.rec (motive := fun _ => zSt → Int → Int → Int → Int → Int → Int → Int → Int → Int → Prop) (fun _ _ _ _ _ _ _ _ _ _ => False) (fun _ ih σ x1 x3 x4 x5 x6 x7 x8 x9 x10 => zrg x10 ∧ zrg x9 ∧ ((x9 < x10 → K σ) ∧ (¬ x9 < x10 → (∃ n, fX5_search_B93 K ih n σ x1 x3 x4 x5 x6 x7 x8 x9 x10 (-x9))))) n
theorem uX5_search_B81 (K : zSt → Prop) (n0 : Nat) (σ : zSt) (x1 : Int) (x3 : Int) (x4 : Int) (x5 : Int) (x6 : Int) (x7 : Int) (x8 : Int) (x9 : Int) (x10 : Int) : fX5_search_B81 K (n0 + 1) σ x1 x3 x4 x5 x6 x7 x8 x9 x10 = (zrg x10 ∧ zrg x9 ∧ ((x9 < x10 → K σ) ∧ (¬ x9 < x10 → (∃ n, fX5_search_B93 K (fX5_search_B81 K n0) n σ x1 x3 x4 x5 x6 x7 x8 x9 x10 (-x9))))) := rfl
def fX5_search (K : zSt → Prop) (σ : zSt) (x1 : Int) (x3 : Int) (x4 : Int) (x5 : Int) (x6 : Int) : Prop :=
  kX x1 = 8 ∧ ∀ σ1, σ1 = zu σ 22 0 0 → fX6_covers (fun r2 σ2 => zrg r2 ∧ ((r2 = 0 → K σ2) ∧ (¬ r2 = 0 → fX6_covers (fun r4 σ4 => zrg r4 ∧ ((r4 = 0 → K σ4) ∧ (¬ r4 = 0 → fX8_isWindowInside (fun r6 σ6 => zrg r6 ∧ ((r6 = 0 → K σ6) ∧ (¬ r6 = 0 → fX6_xShiftOf (fun r8 σ8 => fX6_xShiftOf (fun r9 σ9 => fX6_yShiftOf (fun r10 σ10 => fX6_yShiftOf (fun r11 σ11 => (∃ n, fX5_search_B81 K n σ11 x1 x3 x4 x5 x6 ((x4 + r8) - r9) ((x5 + r10) - r11) (σ11 (x1 + 1) 1) (-(σ11 (x1 + 1) 1)))) σ10 x3) σ9 x6) σ8 x3) σ6 x6))) σ4 x1 x4 x5))) σ2 x6))) σ1 x3
set_option maxHeartbeats 4000000 in
set_option maxRecDepth 100000 in
theorem wX5_search_B93 {p : Program} {l : Launch} {e : Env} {s : State} {m : MethodId} {args : Array Value} {below : List Frame} {meth : Method} {c : Code} {D : va_G} {dA : Nat → ClassId} {ad : Nat → Nat} {sz : Nat} {aL aG aI : Nat} {aK aV : Nat → Nat} {K : zSt → Prop} {k81 : zSt → Int → Int → Int → Int → Int → Int → Int → Int → Int → Prop} (hC : zC p m c cX5_search 15 s args (Cond.code yX5_search cX5_search 15 none :: UW) RX5 meth D vwCl (tyA dA) (zA ad NX sz) NX ad (celX ad dA)) (hE : zE (zXX aL aG aI aK aV) (zA ad NX sz) s s.heap) (hr : meth.sig.returnType = none) (hinj : ∀ i j, i < NX → j < NX → ad i = ad j → i = j) (hk81 : ∀ (σ : zSt) (x1 : Int) (x3 : Int) (x4 : Int) (x5 : Int) (x6 : Int) (x7 : Int) (x8 : Int) (x9 : Int) (x10 : Int) (_ : kX x1 = 8), k81 σ x1 x3 x4 x5 x6 x7 x8 x9 x10 → zAt p l e ({ frames := 2, cells := 0, slots := 0, locals := 57 } : Room) s m args below meth c 0 0 (MQ below (va_Qv K (zB D vwCl (tyA dA) NX ad (celX ad dA)) (zA ad NX sz)) args s 0 0 (zA ad NX sz)) 15 D vwCl (zA ad NX sz) NX ad (celX ad dA) 81 [(0, vR ad 22), (1, vR ad x1), (3, vI x3), (4, vI x4), (5, vI x5), (6, vI x6), (7, vI x7), (8, vI x8), (9, vI x9), (10, vI x10)] [] σ) : ∀ (n : Nat) (σ : zSt) (x1 : Int) (x3 : Int) (x4 : Int) (x5 : Int) (x6 : Int) (x7 : Int) (x8 : Int) (x9 : Int) (x10 : Int) (x11 : Int) (qx1 : kX x1 = 8), fX5_search_B93 K k81 n σ x1 x3 x4 x5 x6 x7 x8 x9 x10 x11 → zAt p l e ({ frames := 2, cells := 0, slots := 0, locals := 57 } : Room) s m args below meth c 0 0 (MQ below (va_Qv K (zB D vwCl (tyA dA) NX ad (celX ad dA)) (zA ad NX sz)) args s 0 0 (zA ad NX sz)) 15 D vwCl (zA ad NX sz) NX ad (celX ad dA) 93 [(0, vR ad 22), (1, vR ad x1), (3, vI x3), (4, vI x4), (5, vI x5), (6, vI x6), (7, vI x7), (8, vI x8), (9, vI x9), (10, vI x10), (11, vI x11)] [] σ := by
  intro n
  induction n with
  | zero => intro σ x1 x3 x4 x5 x6 x7 x8 x9 x10 x11 qx1 hf; exact False.elim hf
  | succ n ih =>
    intro σ x1 x3 x4 x5 x6 x7 x8 x9 x10 x11 qx1 hf
    rw [uX5_search_B93] at hf
    refine z_iload hC dX5_search_93 10 rfl ?_
    refine z_iload hC dX5_search_95 8 rfl ?_
    obtain ⟨g14, hf⟩ := hf
    obtain ⟨g15, hf⟩ := hf
    refine z_icmp_gt (tgt := 169) hC dX5_search_97 (by decide) g14 g15 (fun hc => ?_) (fun hc => ?_)
    · replace hf := hf.1 hc
      refine z_iinc hC ([(10, vI (x10 + 1)), (0, vR ad 22), (1, vR ad x1), (3, vI x3), (4, vI x4), (5, vI x5), (6, vI x6), (7, vI x7), (8, vI x8), (9, vI x9), (11, vI x11)]) dX5_search_169 9 rfl (by decide) rfl ?_
      refine z_goto (tgt := 81) hC dX5_search_172 (by decide) ?_
      refine z_sub (lv' := [(0, vR ad 22), (1, vR ad x1), (3, vI x3), (4, vI x4), (5, vI x5), (6, vI x6), (7, vI x7), (8, vI x8), (9, vI x9), (10, vI (x10 + 1))]) [1, 2, 3, 4, 5, 6, 7, 8, 9, 0] rfl ?_
      exact hk81 _ _ _ _ _ _ _ _ _ _ qx1 hf
    · replace hf := hf.2 hc
      refine z_iload hC dX5_search_100 6 rfl ?_
      refine z_iload hC dX5_search_102 10 rfl ?_
      refine z_iadd hC dX5_search_104 ?_
      refine z_istore hC ([(12, vI (x7 + x11)), (0, vR ad 22), (1, vR ad x1), (3, vI x3), (4, vI x4), (5, vI x5), (6, vI x6), (7, vI x7), (8, vI x8), (9, vI x9), (10, vI x10), (11, vI x11)]) dX5_search_105 (by decide) rfl ?_
      refine z_iload hC dX5_search_107 8 rfl ?_
      refine z_iload hC dX5_search_109 10 rfl ?_
      refine z_iadd hC dX5_search_111 ?_
      refine z_istore hC ([(13, vI (x8 + x10)), (12, vI (x7 + x11)), (0, vR ad 22), (1, vR ad x1), (3, vI x3), (4, vI x4), (5, vI x5), (6, vI x6), (7, vI x7), (8, vI x8), (9, vI x9), (10, vI x10), (11, vI x11)]) dX5_search_112 (by decide) rfl ?_
      refine z_aload_n hC dX5_search_114 3 rfl rfl ?_
      refine z_iload hC dX5_search_115 1 rfl ?_
      refine z_iload hC dX5_search_117 0 rfl ?_
      refine z_callVi hC hE (oX_8 qx1) [vI (x7 + x11), vI (x8 + x10)] (fun sz2 => mX8_isWindowInside l hinj sz2 hf) (cwV 2 hC.1.2.2.2.2 (uV (uT _) u892 u837 u838 u106 u839) rfl rfl rfl (by decide +kernel) ⟨Nat.le_of_ble_eq_true rfl, Nat.le_of_ble_eq_true rfl⟩) rfl rfl (Nat.le_of_ble_eq_true rfl) ⟨Nat.le_of_ble_eq_true rfl, Nat.le_of_ble_eq_true rfl⟩ dX5_search_119 (fun r16 σ16 hf => ?_)
      obtain ⟨g17, hf⟩ := hf
      refine z_if_eq (tgt := 163) hC dX5_search_122 (by decide) g17 (fun hc => ?_) (fun hc => ?_)
      · replace hf := hf.1 hc
        refine z_iinc hC ([(11, vI (x11 + 1)), (13, vI (x8 + x10)), (12, vI (x7 + x11)), (0, vR ad 22), (1, vR ad x1), (3, vI x3), (4, vI x4), (5, vI x5), (6, vI x6), (7, vI x7), (8, vI x8), (9, vI x9), (10, vI x10)]) dX5_search_163 12 rfl (by decide) rfl ?_
        refine z_goto (tgt := 93) hC dX5_search_166 (by decide) ?_
        refine z_sub (lv' := [(0, vR ad 22), (1, vR ad x1), (3, vI x3), (4, vI x4), (5, vI x5), (6, vI x6), (7, vI x7), (8, vI x8), (9, vI x9), (10, vI x10), (11, vI (x11 + 1))]) [3, 4, 5, 6, 7, 8, 9, 10, 11, 12, 0] rfl ?_
        exact ih _ _ _ _ _ _ _ _ _ _ _ qx1 hf
      · replace hf := hf.2 hc
        refine z_aload_n hC dX5_search_125 3 rfl rfl ?_
        refine z_iload_n hC dX5_search_126 4 rfl rfl ?_
        refine z_iload hC dX5_search_127 5 rfl ?_
        refine z_iload hC dX5_search_129 6 rfl ?_
        refine z_iload hC dX5_search_131 7 rfl ?_
        refine z_iload hC dX5_search_133 1 rfl ?_
        refine z_iload hC dX5_search_135 0 rfl ?_
        refine z_callVi hC hE (oX_8 qx1) [vI x3, vI x4, vI x5, vI x6, vI (x7 + x11), vI (x8 + x10)] (fun sz2 => mX8_mismatch l hinj sz2 hf) (cwV 6 hC.1.2.2.2.2 (uV (uT _) u895 u841 u842 u106 u843) rfl rfl rfl (by decide +kernel) ⟨Nat.le_of_ble_eq_true rfl, Nat.le_of_ble_eq_true rfl⟩) rfl rfl (Nat.le_of_ble_eq_true rfl) ⟨Nat.le_of_ble_eq_true rfl, Nat.le_of_ble_eq_true rfl⟩ dX5_search_137 (fun r18 σ18 hf => ?_)
        refine z_istore hC ([(14, vI r18), (13, vI (x8 + x10)), (12, vI (x7 + x11)), (0, vR ad 22), (1, vR ad x1), (3, vI x3), (4, vI x4), (5, vI x5), (6, vI x6), (7, vI x7), (8, vI x8), (9, vI x9), (10, vI x10), (11, vI x11)]) dX5_search_140 (by decide) rfl ?_
        refine z_aload_n hC dX5_search_142 3 rfl rfl ?_
        refine z_iload hC dX5_search_143 2 rfl ?_
        refine z_iload hC dX5_search_145 1 rfl ?_
        refine z_iload hC dX5_search_147 0 rfl ?_
        refine z_iload hC dX5_search_149 13 rfl ?_
        refine z_mabs hC g14 (fun w h => uT _ w (uC u896 (uC u845 (uC u108 (uC u846 uN))) w h)) (Nat.le_of_ble_eq_true rfl) (Nat.le_of_ble_eq_true rfl) ⟨Nat.le_of_ble_eq_true rfl, Nat.le_of_ble_eq_true rfl⟩ dX5_search_151 ?_
        refine z_iload hC dX5_search_154 12 rfl ?_
        obtain ⟨g19, hf⟩ := hf
        refine z_mabs hC g19 (fun w h => uT _ w (uC u896 (uC u845 (uC u108 (uC u846 uN))) w h)) (Nat.le_of_ble_eq_true rfl) (Nat.le_of_ble_eq_true rfl) ⟨Nat.le_of_ble_eq_true rfl, Nat.le_of_ble_eq_true rfl⟩ dX5_search_156 ?_
        refine z_iadd hC dX5_search_159 ?_
        refine z_callVv hC hE (oX_5 (show kX 22 = 5 by decide)) [vI (x7 + x11), vI (x8 + x10), vI r18, vI ((x11.natAbs : Int) + (x10.natAbs : Int))] (fun sz2 => mX5_consider l hinj sz2 hf) (cwV 4 hC.1.2.2.2.2 (uV (uT _) u897 u899 u21 u116 u900) rfl rfl rfl (by decide +kernel) ⟨Nat.le_of_ble_eq_true rfl, Nat.le_of_ble_eq_true rfl⟩) rfl rfl (Nat.le_of_ble_eq_true rfl) ⟨Nat.le_of_ble_eq_true rfl, Nat.le_of_ble_eq_true rfl⟩ dX5_search_160 (fun σ20 hf => ?_)
        refine z_iinc hC ([(11, vI (x11 + 1)), (14, vI r18), (13, vI (x8 + x10)), (12, vI (x7 + x11)), (0, vR ad 22), (1, vR ad x1), (3, vI x3), (4, vI x4), (5, vI x5), (6, vI x6), (7, vI x7), (8, vI x8), (9, vI x9), (10, vI x10)]) dX5_search_163 13 rfl (by decide) rfl ?_
        refine z_goto (tgt := 93) hC dX5_search_166 (by decide) ?_
        refine z_sub (lv' := [(0, vR ad 22), (1, vR ad x1), (3, vI x3), (4, vI x4), (5, vI x5), (6, vI x6), (7, vI x7), (8, vI x8), (9, vI x9), (10, vI x10), (11, vI (x11 + 1))]) [4, 5, 6, 7, 8, 9, 10, 11, 12, 13, 0] rfl ?_
        exact ih _ _ _ _ _ _ _ _ _ _ _ qx1 hf
set_option maxHeartbeats 4000000 in
set_option maxRecDepth 100000 in
theorem wX5_search_B81 {p : Program} {l : Launch} {e : Env} {s : State} {m : MethodId} {args : Array Value} {below : List Frame} {meth : Method} {c : Code} {D : va_G} {dA : Nat → ClassId} {ad : Nat → Nat} {sz : Nat} {aL aG aI : Nat} {aK aV : Nat → Nat} {K : zSt → Prop} (hC : zC p m c cX5_search 15 s args (Cond.code yX5_search cX5_search 15 none :: UW) RX5 meth D vwCl (tyA dA) (zA ad NX sz) NX ad (celX ad dA)) (hE : zE (zXX aL aG aI aK aV) (zA ad NX sz) s s.heap) (hr : meth.sig.returnType = none) (hinj : ∀ i j, i < NX → j < NX → ad i = ad j → i = j) : ∀ (n : Nat) (σ : zSt) (x1 : Int) (x3 : Int) (x4 : Int) (x5 : Int) (x6 : Int) (x7 : Int) (x8 : Int) (x9 : Int) (x10 : Int) (qx1 : kX x1 = 8), fX5_search_B81 K n σ x1 x3 x4 x5 x6 x7 x8 x9 x10 → zAt p l e ({ frames := 2, cells := 0, slots := 0, locals := 57 } : Room) s m args below meth c 0 0 (MQ below (va_Qv K (zB D vwCl (tyA dA) NX ad (celX ad dA)) (zA ad NX sz)) args s 0 0 (zA ad NX sz)) 15 D vwCl (zA ad NX sz) NX ad (celX ad dA) 81 [(0, vR ad 22), (1, vR ad x1), (3, vI x3), (4, vI x4), (5, vI x5), (6, vI x6), (7, vI x7), (8, vI x8), (9, vI x9), (10, vI x10)] [] σ := by
  intro n
  induction n with
  | zero => intro σ x1 x3 x4 x5 x6 x7 x8 x9 x10 qx1 hf; exact False.elim hf
  | succ n ih =>
    intro σ x1 x3 x4 x5 x6 x7 x8 x9 x10 qx1 hf
    rw [uX5_search_B81] at hf
    refine z_iload hC dX5_search_81 9 rfl ?_
    refine z_iload hC dX5_search_83 8 rfl ?_
    obtain ⟨g12, hf⟩ := hf
    obtain ⟨g13, hf⟩ := hf
    refine z_icmp_gt (tgt := 175) hC dX5_search_85 (by decide) g12 g13 (fun hc => ?_) (fun hc => ?_)
    · replace hf := hf.1 hc
      exact z_vret hC hr rfl dX5_search_175 hf
    · replace hf := hf.2 hc
      refine z_iload hC dX5_search_88 8 rfl ?_
      refine z_ineg hC dX5_search_90 ?_
      refine z_istore hC ([(11, vI (-x9)), (0, vR ad 22), (1, vR ad x1), (3, vI x3), (4, vI x4), (5, vI x5), (6, vI x6), (7, vI x7), (8, vI x8), (9, vI x9), (10, vI x10)]) dX5_search_91 (by decide) rfl ?_
      refine z_sub (lv' := [(0, vR ad 22), (1, vR ad x1), (3, vI x3), (4, vI x4), (5, vI x5), (6, vI x6), (7, vI x7), (8, vI x8), (9, vI x9), (10, vI x10), (11, vI (-x9))]) [1, 2, 3, 4, 5, 6, 7, 8, 9, 10, 0] rfl ?_
      obtain ⟨n, hf⟩ := hf
      exact wX5_search_B93 hC hE hr hinj ih n _ _ _ _ _ _ _ _ _ _ _ qx1 hf
set_option maxHeartbeats 4000000 in
set_option maxRecDepth 100000 in
theorem mX5_search {D : va_G} {dA : Nat → ClassId} {ad : Nat → Nat} {aL aG aI : Nat} {aK aV : Nat → Nat} (l : Launch) (hinj : ∀ i j, i < NX → j < NX → ad i = ad j → i = j) (sz : Nat) {K : zSt → Prop} {σ : zSt} {x1 : Int} {x3 : Int} {x4 : Int} {x5 : Int} {x6 : Int} (hf : fX5_search K σ x1 x3 x4 x5 x6) : Met l yX5_search (Cond.code yX5_search cX5_search 15 none :: UW) ({ frames := 2, cells := 0, slots := 0, locals := 57 } : Room) (va_Pc [vR ad 22, vR ad x1, vR ad 17, vI x3, vI x4, vI x5, vI x6] (zPre D vwCl (tyA dA) (zXX aL aG aI aK aV) NX ad (celX ad dA) sz σ)) (va_Qv K (zB D vwCl (tyA dA) NX ad (celX ad dA)) (zA ad NX sz)) 0 0 (zA ad NX sz) := by
  refine z_enter (cc := cX5_search) (maxL := 15) (ret := none) (vs := [vR ad 22, vR ad x1, vR ad 17, vI x3, vI x4, vI x5, vI x6]) (plainFor_of_name (by decide)) rfl hinj (Nat.le_of_ble_eq_true rfl) ?_
  intro p e s m args below meth c hC hE hsz hr hnm
  obtain ⟨qx1, hf⟩ := hf
  show zAt p l e ({ frames := 2, cells := 0, slots := 0, locals := 57 } : Room) s m args below meth c 0 0 (MQ below (va_Qv K (zB D vwCl (tyA dA) NX ad (celX ad dA)) (zA ad NX sz)) args s 0 0 (zA ad NX sz)) 15 D vwCl (zA ad NX sz) NX ad (celX ad dA) 0 [(0, vR ad 22), (1, vR ad x1), (2, vR ad 17), (3, vI x3), (4, vI x4), (5, vI x5), (6, vI x6)] [] σ
  refine z_aload_n hC dX5_search_0 0 rfl rfl ?_
  refine z_iconst hC dX5_search_1 ?_
  refine z_put hC (ty := .int) tyX5 tyX5_ok nmX5 (fun w h => uT _ w (uL5 w h)) (oX_5 (show kX 22 = 5 by decide)) (loX' (show kX 22 = 5 by decide) (by decide)) 0 (by decide) (uT _ _ u396) rfl rfl (0) (0) (by simp [zu]) (by decide +kernel) rfl rfl (Nat.le_of_ble_eq_true rfl) dX5_search_2 ?_
  obtain ⟨σ1, eσ1⟩ : ∃ z : zSt, z = zu σ 22 0 0 := ⟨_, rfl⟩
  rw [← eσ1]
  replace hf := hf σ1 eσ1
  refine z_aload_n hC dX5_search_5 2 rfl rfl ?_
  refine z_iload_n hC dX5_search_6 3 rfl rfl ?_
  refine z_callVi hC hE (oX_6 (show kX 17 = 6 by decide)) [vI x3] (fun sz2 => mX6_covers l hinj sz2 hf) (cwV 1 hC.1.2.2.2.2 (uV (uT _) u891 u852 u853 u115 u854) rfl rfl rfl (by decide +kernel) ⟨Nat.le_of_ble_eq_true rfl, Nat.le_of_ble_eq_true rfl⟩) rfl rfl (Nat.le_of_ble_eq_true rfl) ⟨Nat.le_of_ble_eq_true rfl, Nat.le_of_ble_eq_true rfl⟩ dX5_search_7 (fun r2 σ2 hf => ?_)
  obtain ⟨g3, hf⟩ := hf
  refine z_if_eq (tgt := 33) hC dX5_search_10 (by decide) g3 (fun hc => ?_) (fun hc => ?_)
  · replace hf := hf.1 hc
    exact z_vret hC hr rfl dX5_search_33 hf
  · replace hf := hf.2 hc
    refine z_aload_n hC dX5_search_13 2 rfl rfl ?_
    refine z_iload hC dX5_search_14 6 rfl ?_
    refine z_callVi hC hE (oX_6 (show kX 17 = 6 by decide)) [vI x6] (fun sz2 => mX6_covers l hinj sz2 hf) (cwV 1 hC.1.2.2.2.2 (uV (uT _) u891 u852 u853 u115 u854) rfl rfl rfl (by decide +kernel) ⟨Nat.le_of_ble_eq_true rfl, Nat.le_of_ble_eq_true rfl⟩) rfl rfl (Nat.le_of_ble_eq_true rfl) ⟨Nat.le_of_ble_eq_true rfl, Nat.le_of_ble_eq_true rfl⟩ dX5_search_16 (fun r4 σ4 hf => ?_)
    obtain ⟨g5, hf⟩ := hf
    refine z_if_eq (tgt := 33) hC dX5_search_19 (by decide) g5 (fun hc => ?_) (fun hc => ?_)
    · replace hf := hf.1 hc
      exact z_vret hC hr rfl dX5_search_33 hf
    · replace hf := hf.2 hc
      refine z_aload_n hC dX5_search_22 1 rfl rfl ?_
      refine z_iload hC dX5_search_23 4 rfl ?_
      refine z_iload hC dX5_search_25 5 rfl ?_
      refine z_callVi hC hE (oX_8 qx1) [vI x4, vI x5] (fun sz2 => mX8_isWindowInside l hinj sz2 hf) (cwV 2 hC.1.2.2.2.2 (uV (uT _) u892 u837 u838 u106 u839) rfl rfl rfl (by decide +kernel) ⟨Nat.le_of_ble_eq_true rfl, Nat.le_of_ble_eq_true rfl⟩) rfl rfl (Nat.le_of_ble_eq_true rfl) ⟨Nat.le_of_ble_eq_true rfl, Nat.le_of_ble_eq_true rfl⟩ dX5_search_27 (fun r6 σ6 hf => ?_)
      obtain ⟨g7, hf⟩ := hf
      refine z_if_ne (tgt := 34) hC dX5_search_30 (by decide) g7 (fun hc => ?_) (fun hc => ?_)
      · replace hf := hf.2 hc
        refine z_iload hC dX5_search_34 4 rfl ?_
        refine z_aload_n hC dX5_search_36 2 rfl rfl ?_
        refine z_iload hC dX5_search_37 6 rfl ?_
        refine z_callVi hC hE (oX_6 (show kX 17 = 6 by decide)) [vI x6] (fun sz2 => mX6_xShiftOf l hinj sz2 hf) (cwV 1 hC.1.2.2.2.2 (uV (uT _) u893 u867 u868 u115 u869) rfl rfl rfl (by decide +kernel) ⟨Nat.le_of_ble_eq_true rfl, Nat.le_of_ble_eq_true rfl⟩) rfl rfl (Nat.le_of_ble_eq_true rfl) ⟨Nat.le_of_ble_eq_true rfl, Nat.le_of_ble_eq_true rfl⟩ dX5_search_39 (fun r8 σ8 hf => ?_)
        refine z_iadd hC dX5_search_42 ?_
        refine z_aload_n hC dX5_search_43 2 rfl rfl ?_
        refine z_iload_n hC dX5_search_44 3 rfl rfl ?_
        refine z_callVi hC hE (oX_6 (show kX 17 = 6 by decide)) [vI x3] (fun sz2 => mX6_xShiftOf l hinj sz2 hf) (cwV 1 hC.1.2.2.2.2 (uV (uT _) u893 u867 u868 u115 u869) rfl rfl rfl (by decide +kernel) ⟨Nat.le_of_ble_eq_true rfl, Nat.le_of_ble_eq_true rfl⟩) rfl rfl (Nat.le_of_ble_eq_true rfl) ⟨Nat.le_of_ble_eq_true rfl, Nat.le_of_ble_eq_true rfl⟩ dX5_search_45 (fun r9 σ9 hf => ?_)
        refine z_isub hC dX5_search_48 ?_
        refine z_istore hC ([(7, vI ((x4 + r8) - r9)), (0, vR ad 22), (1, vR ad x1), (2, vR ad 17), (3, vI x3), (4, vI x4), (5, vI x5), (6, vI x6)]) dX5_search_49 (by decide) rfl ?_
        refine z_iload hC dX5_search_51 6 rfl ?_
        refine z_aload_n hC dX5_search_53 3 rfl rfl ?_
        refine z_iload hC dX5_search_54 7 rfl ?_
        refine z_callVi hC hE (oX_6 (show kX 17 = 6 by decide)) [vI x6] (fun sz2 => mX6_yShiftOf l hinj sz2 hf) (cwV 1 hC.1.2.2.2.2 (uV (uT _) u894 u871 u872 u115 u873) rfl rfl rfl (by decide +kernel) ⟨Nat.le_of_ble_eq_true rfl, Nat.le_of_ble_eq_true rfl⟩) rfl rfl (Nat.le_of_ble_eq_true rfl) ⟨Nat.le_of_ble_eq_true rfl, Nat.le_of_ble_eq_true rfl⟩ dX5_search_56 (fun r10 σ10 hf => ?_)
        refine z_iadd hC dX5_search_59 ?_
        refine z_aload_n hC dX5_search_60 3 rfl rfl ?_
        refine z_iload_n hC dX5_search_61 4 rfl rfl ?_
        refine z_callVi hC hE (oX_6 (show kX 17 = 6 by decide)) [vI x3] (fun sz2 => mX6_yShiftOf l hinj sz2 hf) (cwV 1 hC.1.2.2.2.2 (uV (uT _) u894 u871 u872 u115 u873) rfl rfl rfl (by decide +kernel) ⟨Nat.le_of_ble_eq_true rfl, Nat.le_of_ble_eq_true rfl⟩) rfl rfl (Nat.le_of_ble_eq_true rfl) ⟨Nat.le_of_ble_eq_true rfl, Nat.le_of_ble_eq_true rfl⟩ dX5_search_62 (fun r11 σ11 hf => ?_)
        refine z_isub hC dX5_search_65 ?_
        refine z_istore hC ([(8, vI ((x5 + r10) - r11)), (7, vI ((x4 + r8) - r9)), (0, vR ad 22), (1, vR ad x1), (2, vR ad 17), (3, vI x3), (4, vI x4), (5, vI x5), (6, vI x6)]) dX5_search_66 (by decide) rfl ?_
        refine z_aload_n hC dX5_search_68 3 rfl rfl ?_
        refine z_get hC (fun w h => uT _ w (uL8 w h)) (oX_8 qx1) 4 (by decide) (uT _ _ u228) rfl rfl dX5_search_69 ?_
        refine z_iconst hC dX5_search_72 ?_
        refine z_iaload hC (aX_17 (kf_8_4 qx1)) ⟨by decide, by decide⟩ dX5_search_73 ?_
        refine z_istore hC ([(9, vI (σ11 (x1 + 1) 1)), (8, vI ((x5 + r10) - r11)), (7, vI ((x4 + r8) - r9)), (0, vR ad 22), (1, vR ad x1), (2, vR ad 17), (3, vI x3), (4, vI x4), (5, vI x5), (6, vI x6)]) dX5_search_74 (by decide) rfl ?_
        refine z_iload hC dX5_search_76 0 rfl ?_
        refine z_ineg hC dX5_search_78 ?_
        refine z_istore hC ([(10, vI (-(σ11 (x1 + 1) 1))), (9, vI (σ11 (x1 + 1) 1)), (8, vI ((x5 + r10) - r11)), (7, vI ((x4 + r8) - r9)), (0, vR ad 22), (1, vR ad x1), (2, vR ad 17), (3, vI x3), (4, vI x4), (5, vI x5), (6, vI x6)]) dX5_search_79 (by decide) rfl ?_
        refine z_sub (lv' := [(0, vR ad 22), (1, vR ad x1), (3, vI x3), (4, vI x4), (5, vI x5), (6, vI x6), (7, vI ((x4 + r8) - r9)), (8, vI ((x5 + r10) - r11)), (9, vI (σ11 (x1 + 1) 1)), (10, vI (-(σ11 (x1 + 1) 1)))]) [4, 5, 7, 8, 9, 10, 3, 2, 1, 0] rfl ?_
        obtain ⟨n, hf⟩ := hf
        exact wX5_search_B81 hC hE hr hinj n _ _ _ _ _ _ _ _ _ _ qx1 hf
      · replace hf := hf.1 hc
        exact z_vret hC hr rfl dX5_search_33 hf

-- ===== X6_errorOf
def fX6_errorOf (K : Int → zSt → Prop) (σ : zSt) (x1 : Int) : Prop :=
  fX6_covers (fun r1 σ1 => zrg r1 ∧ ((r1 = 0 → K (-1) σ1) ∧ (¬ r1 = 0 → (0 ≤ x1 ∧ x1 < 6) ∧ K (σ1 21 x1) σ1))) σ x1
set_option maxHeartbeats 4000000 in
set_option maxRecDepth 100000 in
theorem mX6_errorOf {D : va_G} {dA : Nat → ClassId} {ad : Nat → Nat} {aL aG aI : Nat} {aK aV : Nat → Nat} (l : Launch) (hinj : ∀ i j, i < NX → j < NX → ad i = ad j → i = j) (sz : Nat) {K : Int → zSt → Prop} {σ : zSt} {x1 : Int} (hf : fX6_errorOf K σ x1) : Met l yX6_errorOf (Cond.code yX6_errorOf cX6_errorOf 2 (some .int) :: UW) ({ frames := 1, cells := 0, slots := 0, locals := 21 } : Room) (va_Pc [vR ad 17, vI x1] (zPre D vwCl (tyA dA) (zXX aL aG aI aK aV) NX ad (celX ad dA) sz σ)) (va_Qi (zPi K) (zB D vwCl (tyA dA) NX ad (celX ad dA)) (zA ad NX sz)) 0 0 (zA ad NX sz) := by
  refine z_enter (cc := cX6_errorOf) (maxL := 2) (ret := (some .int)) (vs := [vR ad 17, vI x1]) (plainFor_of_name (by decide)) rfl hinj (Nat.le_of_ble_eq_true rfl) ?_
  intro p e s m args below meth c hC hE hsz hr hnm
  show zAt p l e ({ frames := 1, cells := 0, slots := 0, locals := 21 } : Room) s m args below meth c 0 0 (MQ below (va_Qi (zPi K) (zB D vwCl (tyA dA) NX ad (celX ad dA)) (zA ad NX sz)) args s 0 0 (zA ad NX sz)) 2 D vwCl (zA ad NX sz) NX ad (celX ad dA) 0 [(0, vR ad 17), (1, vI x1)] [] σ
  refine z_aload_n hC dX6_errorOf_0 0 rfl rfl ?_
  refine z_iload_n hC dX6_errorOf_1 1 rfl rfl ?_
  refine z_callVi hC hE (oX_6 (show kX 17 = 6 by decide)) [vI x1] (fun sz2 => mX6_covers l hinj sz2 hf) (cwV 1 hC.1.2.2.2.2 (uV (uT _) u851 u852 u853 u115 u854) rfl rfl rfl (by decide +kernel) ⟨Nat.le_of_ble_eq_true rfl, Nat.le_of_ble_eq_true rfl⟩) rfl rfl (Nat.le_of_ble_eq_true rfl) ⟨Nat.le_of_ble_eq_true rfl, Nat.le_of_ble_eq_true rfl⟩ dX6_errorOf_2 (fun r1 σ1 hf => ?_)
  obtain ⟨g2, hf⟩ := hf
  refine z_if_eq (tgt := 17) hC dX6_errorOf_5 (by decide) g2 (fun hc => ?_) (fun hc => ?_)
  · replace hf := hf.1 hc
    refine z_iconst hC dX6_errorOf_17 ?_
    exact z_iret hC hr rfl dX6_errorOf_18 hf
  · replace hf := hf.2 hc
    refine z_aload_n hC dX6_errorOf_8 0 rfl rfl ?_
    refine z_get hC (fun w h => uT _ w (uL6 w h)) (oX_6 (show kX 17 = 6 by decide)) 5 (by decide) (uT _ _ u376) rfl rfl dX6_errorOf_9 ?_
    refine z_iload_n hC dX6_errorOf_12 1 rfl rfl ?_
    obtain ⟨g3, hf⟩ := hf
    refine z_iaload hC (aX_14 (show kX 21 = 14 by decide)) g3 dX6_errorOf_13 ?_
    refine z_goto (tgt := 18) hC dX6_errorOf_14 (by decide) ?_
    exact z_iret hC hr rfl dX6_errorOf_18 hf

-- ===== X6_take
def fX6_take (K : zSt → Prop) (σ : zSt) (x1 : Int) (x2 : Int) (x3 : Int) (x4 : Int) : Prop :=
  zrg x1 ∧ ((x1 < 0 → K σ) ∧ (¬ x1 < 0 → ((6 ≤ x1 → K σ) ∧ (¬ 6 ≤ x1 → (0 ≤ x1 ∧ x1 < 6) ∧ ∀ σ3, σ3 = zu σ 18 x1 1 → ∀ σ4, σ4 = zu σ3 19 x1 x2 → ∀ σ5, σ5 = zu σ4 20 x1 x3 → ∀ σ6, σ6 = zu σ5 21 x1 x4 → K σ6))))
set_option maxHeartbeats 4000000 in
set_option maxRecDepth 100000 in
theorem mX6_take {D : va_G} {dA : Nat → ClassId} {ad : Nat → Nat} {aL aG aI : Nat} {aK aV : Nat → Nat} (l : Launch) (hinj : ∀ i j, i < NX → j < NX → ad i = ad j → i = j) (sz : Nat) {K : zSt → Prop} {σ : zSt} {x1 : Int} {x2 : Int} {x3 : Int} {x4 : Int} (hf : fX6_take K σ x1 x2 x3 x4) : Met l yX6_take (Cond.code yX6_take cX6_take 5 none :: UW) ({ frames := 0, cells := 0, slots := 0, locals := 0 } : Room) (va_Pc [vR ad 17, vI x1, vI x2, vI x3, vI x4] (zPre D vwCl (tyA dA) (zXX aL aG aI aK aV) NX ad (celX ad dA) sz σ)) (va_Qv K (zB D vwCl (tyA dA) NX ad (celX ad dA)) (zA ad NX sz)) 0 0 (zA ad NX sz) := by
  refine z_enter (cc := cX6_take) (maxL := 5) (ret := none) (vs := [vR ad 17, vI x1, vI x2, vI x3, vI x4]) (plainFor_of_name (by decide)) rfl hinj (Nat.le_of_ble_eq_true rfl) ?_
  intro p e s m args below meth c hC hE hsz hr hnm
  show zAt p l e ({ frames := 0, cells := 0, slots := 0, locals := 0 } : Room) s m args below meth c 0 0 (MQ below (va_Qv K (zB D vwCl (tyA dA) NX ad (celX ad dA)) (zA ad NX sz)) args s 0 0 (zA ad NX sz)) 5 D vwCl (zA ad NX sz) NX ad (celX ad dA) 0 [(0, vR ad 17), (1, vI x1), (2, vI x2), (3, vI x3), (4, vI x4)] [] σ
  refine z_iload_n hC dX6_take_0 1 rfl rfl ?_
  obtain ⟨g1, hf⟩ := hf
  refine z_if_lt (tgt := 39) hC dX6_take_1 (by decide) g1 (fun hc => ?_) (fun hc => ?_)
  · replace hf := hf.1 hc
    exact z_vret hC hr rfl dX6_take_39 hf
  · replace hf := hf.2 hc
    refine z_iload_n hC dX6_take_4 1 rfl rfl ?_
    refine z_bipush hC dX6_take_5 (by decide) ?_
    refine z_icmp_ge (tgt := 39) hC dX6_take_7 (by decide) g1 (zlit rfl rfl) (fun hc => ?_) (fun hc => ?_)
    · replace hf := hf.1 hc
      exact z_vret hC hr rfl dX6_take_39 hf
    · replace hf := hf.2 hc
      refine z_aload_n hC dX6_take_10 0 rfl rfl ?_
      refine z_get hC (fun w h => uT _ w (uL6 w h)) (oX_6 (show kX 17 = 6 by decide)) 2 (by decide) (uT _ _ u373) rfl rfl dX6_take_11 ?_
      refine z_iload_n hC dX6_take_14 1 rfl rfl ?_
      refine z_iconst hC dX6_take_15 ?_
      obtain ⟨g2, hf⟩ := hf
      refine z_zastore hC (aX_16 (show kX 18 = 16 by decide)) (loX' (show kX 18 = 16 by decide) (by decide)) g2 (Or.inr rfl) dX6_take_16 ?_
      obtain ⟨σ3, eσ3⟩ : ∃ z : zSt, z = zu σ 18 x1 1 := ⟨_, rfl⟩
      rw [← eσ3]
      replace hf := hf σ3 eσ3
      refine z_aload_n hC dX6_take_17 0 rfl rfl ?_
      refine z_get hC (fun w h => uT _ w (uL6 w h)) (oX_6 (show kX 17 = 6 by decide)) 3 (by decide) (uT _ _ u374) rfl rfl dX6_take_18 ?_
      refine z_iload_n hC dX6_take_21 1 rfl rfl ?_
      refine z_iload_n hC dX6_take_22 2 rfl rfl ?_
      refine z_iastore hC (aX_14 (show kX 19 = 14 by decide)) (loX' (show kX 19 = 14 by decide) (by decide)) g2 dX6_take_23 ?_
      obtain ⟨σ4, eσ4⟩ : ∃ z : zSt, z = zu σ3 19 x1 x2 := ⟨_, rfl⟩
      rw [← eσ4]
      replace hf := hf σ4 eσ4
      refine z_aload_n hC dX6_take_24 0 rfl rfl ?_
      refine z_get hC (fun w h => uT _ w (uL6 w h)) (oX_6 (show kX 17 = 6 by decide)) 4 (by decide) (uT _ _ u375) rfl rfl dX6_take_25 ?_
      refine z_iload_n hC dX6_take_28 1 rfl rfl ?_
      refine z_iload_n hC dX6_take_29 3 rfl rfl ?_
      refine z_iastore hC (aX_14 (show kX 20 = 14 by decide)) (loX' (show kX 20 = 14 by decide) (by decide)) g2 dX6_take_30 ?_
      obtain ⟨σ5, eσ5⟩ : ∃ z : zSt, z = zu σ4 20 x1 x3 := ⟨_, rfl⟩
      rw [← eσ5]
      replace hf := hf σ5 eσ5
      refine z_aload_n hC dX6_take_31 0 rfl rfl ?_
      refine z_get hC (fun w h => uT _ w (uL6 w h)) (oX_6 (show kX 17 = 6 by decide)) 5 (by decide) (uT _ _ u376) rfl rfl dX6_take_32 ?_
      refine z_iload_n hC dX6_take_35 1 rfl rfl ?_
      refine z_iload hC dX6_take_36 4 rfl ?_
      refine z_iastore hC (aX_14 (show kX 21 = 14 by decide)) (loX' (show kX 21 = 14 by decide) (by decide)) g2 dX6_take_38 ?_
      obtain ⟨σ6, eσ6⟩ : ∃ z : zSt, z = zu σ5 21 x1 x4 := ⟨_, rfl⟩
      rw [← eσ6]
      replace hf := hf σ6 eσ6
      exact z_vret hC hr rfl dX6_take_39 hf

-- ===== X6_begin
noncomputable def fX6_begin_B7 (K : zSt → Prop) (n : Nat) : zSt → Int → Prop :=
  Nat.rec (motive := fun _ => zSt → Int → Prop) (fun _ _ => False) (fun _ ih σ x2 => zrg x2 ∧ ((6 ≤ x2 → fX6_take (fun σ3 => K σ3) σ (σ 17 1) 0 0 0) ∧ (¬ 6 ≤ x2 → (0 ≤ x2 ∧ x2 < 6) ∧ ∀ σ5, σ5 = zu σ 18 x2 0 → ih σ5 (x2 + 1)))) n
theorem uX6_begin_B7 (K : zSt → Prop) (n0 : Nat) (σ : zSt) (x2 : Int) : fX6_begin_B7 K (n0 + 1) σ x2 = (zrg x2 ∧ ((6 ≤ x2 → fX6_take (fun σ3 => K σ3) σ (σ 17 1) 0 0 0) ∧ (¬ 6 ≤ x2 → (0 ≤ x2 ∧ x2 < 6) ∧ ∀ σ5, σ5 = zu σ 18 x2 0 → (fX6_begin_B7 K n0) σ5 (x2 + 1)))) := rfl
def fX6_begin (K : zSt → Prop) (σ : zSt) (x1 : Int) : Prop :=
  ∀ σ1, σ1 = zu σ 17 1 x1 → (∃ n, fX6_begin_B7 K n σ1 0)
set_option maxHeartbeats 4000000 in
set_option maxRecDepth 100000 in
theorem wX6_begin_B7 {p : Program} {l : Launch} {e : Env} {s : State} {m : MethodId} {args : Array Value} {below : List Frame} {meth : Method} {c : Code} {D : va_G} {dA : Nat → ClassId} {ad : Nat → Nat} {sz : Nat} {aL aG aI : Nat} {aK aV : Nat → Nat} {K : zSt → Prop} (hC : zC p m c cX6_begin 3 s args (Cond.code yX6_begin cX6_begin 3 none :: UW) RX6 meth D vwCl (tyA dA) (zA ad NX sz) NX ad (celX ad dA)) (hE : zE (zXX aL aG aI aK aV) (zA ad NX sz) s s.heap) (hr : meth.sig.returnType = none) (hinj : ∀ i j, i < NX → j < NX → ad i = ad j → i = j) : ∀ (n : Nat) (σ : zSt) (x2 : Int), fX6_begin_B7 K n σ x2 → zAt p l e ({ frames := 1, cells := 0, slots := 0, locals := 24 } : Room) s m args below meth c 0 0 (MQ below (va_Qv K (zB D vwCl (tyA dA) NX ad (celX ad dA)) (zA ad NX sz)) args s 0 0 (zA ad NX sz)) 3 D vwCl (zA ad NX sz) NX ad (celX ad dA) 7 [(0, vR ad 17), (2, vI x2)] [] σ := by
  intro n
  induction n with
  | zero => intro σ x2  hf; exact False.elim hf
  | succ n ih =>
    intro σ x2  hf
    rw [uX6_begin_B7] at hf
    refine z_iload_n hC dX6_begin_7 1 rfl rfl ?_
    refine z_bipush hC dX6_begin_8 (by decide) ?_
    obtain ⟨g2, hf⟩ := hf
    refine z_icmp_ge (tgt := 26) hC dX6_begin_10 (by decide) g2 (zlit rfl rfl) (fun hc => ?_) (fun hc => ?_)
    · replace hf := hf.1 hc
      refine z_aload_n hC dX6_begin_26 0 rfl rfl ?_
      refine z_aload_n hC dX6_begin_27 0 rfl rfl ?_
      refine z_get hC (fun w h => uT _ w (uL6 w h)) (oX_6 (show kX 17 = 6 by decide)) 1 (by decide) (uT _ _ u370) rfl rfl dX6_begin_28 ?_
      refine z_iconst hC dX6_begin_31 ?_
      refine z_iconst hC dX6_begin_32 ?_
      refine z_iconst hC dX6_begin_33 ?_
      refine z_callVv hC hE (oX_6 (show kX 17 = 6 by decide)) [vI (σ 17 1), vI 0, vI 0, vI 0] (fun sz2 => mX6_take l hinj sz2 hf) (cwV 4 hC.1.2.2.2.2 (uV (uT _) u823 u825 u16 u115 u826) rfl rfl rfl (by decide +kernel) ⟨Nat.le_of_ble_eq_true rfl, Nat.le_of_ble_eq_true rfl⟩) rfl rfl (Nat.le_of_ble_eq_true rfl) ⟨Nat.le_of_ble_eq_true rfl, Nat.le_of_ble_eq_true rfl⟩ dX6_begin_34 (fun σ3 hf => ?_)
      exact z_vret hC hr rfl dX6_begin_37 hf
    · replace hf := hf.2 hc
      refine z_aload_n hC dX6_begin_13 0 rfl rfl ?_
      refine z_get hC (fun w h => uT _ w (uL6 w h)) (oX_6 (show kX 17 = 6 by decide)) 2 (by decide) (uT _ _ u373) rfl rfl dX6_begin_14 ?_
      refine z_iload_n hC dX6_begin_17 1 rfl rfl ?_
      refine z_iconst hC dX6_begin_18 ?_
      obtain ⟨g4, hf⟩ := hf
      refine z_zastore hC (aX_16 (show kX 18 = 16 by decide)) (loX' (show kX 18 = 16 by decide) (by decide)) g4 (Or.inl rfl) dX6_begin_19 ?_
      obtain ⟨σ5, eσ5⟩ : ∃ z : zSt, z = zu σ 18 x2 0 := ⟨_, rfl⟩
      rw [← eσ5]
      replace hf := hf σ5 eσ5
      refine z_iinc hC ([(2, vI (x2 + 1)), (0, vR ad 17)]) dX6_begin_20 1 rfl (by decide) rfl ?_
      refine z_goto (tgt := 7) hC dX6_begin_23 (by decide) ?_
      refine z_sub (lv' := [(0, vR ad 17), (2, vI (x2 + 1))]) [1, 0] rfl ?_
      exact ih _ _ hf
set_option maxHeartbeats 4000000 in
set_option maxRecDepth 100000 in
theorem mX6_begin {D : va_G} {dA : Nat → ClassId} {ad : Nat → Nat} {aL aG aI : Nat} {aK aV : Nat → Nat} (l : Launch) (hinj : ∀ i j, i < NX → j < NX → ad i = ad j → i = j) (sz : Nat) {K : zSt → Prop} {σ : zSt} {x1 : Int} (hf : fX6_begin K σ x1) : Met l yX6_begin (Cond.code yX6_begin cX6_begin 3 none :: UW) ({ frames := 1, cells := 0, slots := 0, locals := 24 } : Room) (va_Pc [vR ad 17, vI x1] (zPre D vwCl (tyA dA) (zXX aL aG aI aK aV) NX ad (celX ad dA) sz σ)) (va_Qv K (zB D vwCl (tyA dA) NX ad (celX ad dA)) (zA ad NX sz)) 0 0 (zA ad NX sz) := by
  refine z_enter (cc := cX6_begin) (maxL := 3) (ret := none) (vs := [vR ad 17, vI x1]) (plainFor_of_name (by decide)) rfl hinj (Nat.le_of_ble_eq_true rfl) ?_
  intro p e s m args below meth c hC hE hsz hr hnm
  show zAt p l e ({ frames := 1, cells := 0, slots := 0, locals := 24 } : Room) s m args below meth c 0 0 (MQ below (va_Qv K (zB D vwCl (tyA dA) NX ad (celX ad dA)) (zA ad NX sz)) args s 0 0 (zA ad NX sz)) 3 D vwCl (zA ad NX sz) NX ad (celX ad dA) 0 [(0, vR ad 17), (1, vI x1)] [] σ
  refine z_aload_n hC dX6_begin_0 0 rfl rfl ?_
  refine z_iload_n hC dX6_begin_1 1 rfl rfl ?_
  refine z_put hC (ty := .int) tyX6 tyX6_ok nmX6 (fun w h => uT _ w (uL6 w h)) (oX_6 (show kX 17 = 6 by decide)) (loX' (show kX 17 = 6 by decide) (by decide)) 1 (by decide) (uT _ _ u370) rfl rfl (1) (x1) (by simp [zu]) (by decide +kernel) rfl rfl (Nat.le_of_ble_eq_true rfl) dX6_begin_2 ?_
  obtain ⟨σ1, eσ1⟩ : ∃ z : zSt, z = zu σ 17 1 x1 := ⟨_, rfl⟩
  rw [← eσ1]
  replace hf := hf σ1 eσ1
  refine z_iconst hC dX6_begin_5 ?_
  refine z_istore_n hC ([(2, vI 0), (0, vR ad 17), (1, vI x1)]) dX6_begin_6 rfl (by decide) rfl ?_
  refine z_sub (lv' := [(0, vR ad 17), (2, vI 0)]) [1, 0] rfl ?_
  obtain ⟨n, hf⟩ := hf
  exact wX6_begin_B7 hC hE hr hinj n _ _ hf

-- ===== X6_isBetter
def fX6_isBetter (K : Int → zSt → Prop) (σ : zSt) (x1 : Int) (x2 : Int) (x3 : Int) (x4 : Int) : Prop :=
  fX6_covers (fun r1 σ1 => zrg r1 ∧ ((r1 = 0 → K 1 σ1) ∧ (¬ r1 = 0 → (0 ≤ x1 ∧ x1 < 6) ∧ zrg (σ1 19 x1) ∧ zrg (σ1 20 x1) ∧ ∀ y6, y6 = ((σ1 19 x1).natAbs : Int) + ((σ1 20 x1).natAbs : Int) → zrg x4 ∧ zrg (σ1 21 x1) ∧ ((x4 < σ1 21 x1 → K 1 σ1) ∧ (¬ x4 < σ1 21 x1 → ((x4 = σ1 21 x1 → zrg x2 ∧ zrg x3 ∧ zrg ((x2.natAbs : Int) + (x3.natAbs : Int)) ∧ zrg y6 ∧ ((y6 ≤ (x2.natAbs : Int) + (x3.natAbs : Int) → K 0 σ1) ∧ (¬ y6 ≤ (x2.natAbs : Int) + (x3.natAbs : Int) → K 1 σ1))) ∧ (¬ x4 = σ1 21 x1 → K 0 σ1))))))) σ x1
set_option maxHeartbeats 4000000 in
set_option maxRecDepth 100000 in
theorem mX6_isBetter {D : va_G} {dA : Nat → ClassId} {ad : Nat → Nat} {aL aG aI : Nat} {aK aV : Nat → Nat} (l : Launch) (hinj : ∀ i j, i < NX → j < NX → ad i = ad j → i = j) (sz : Nat) {K : Int → zSt → Prop} {σ : zSt} {x1 : Int} {x2 : Int} {x3 : Int} {x4 : Int} (hf : fX6_isBetter K σ x1 x2 x3 x4) : Met l yX6_isBetter (Cond.code yX6_isBetter cX6_isBetter 6 (some .boolean) :: UW) ({ frames := 1, cells := 0, slots := 0, locals := 21 } : Room) (va_Pc [vR ad 17, vI x1, vI x2, vI x3, vI x4] (zPre D vwCl (tyA dA) (zXX aL aG aI aK aV) NX ad (celX ad dA) sz σ)) (va_Qi (zPi K) (zB D vwCl (tyA dA) NX ad (celX ad dA)) (zA ad NX sz)) 0 0 (zA ad NX sz) := by
  refine z_enter (cc := cX6_isBetter) (maxL := 6) (ret := (some .boolean)) (vs := [vR ad 17, vI x1, vI x2, vI x3, vI x4]) (plainFor_of_name (by decide)) rfl hinj (Nat.le_of_ble_eq_true rfl) ?_
  intro p e s m args below meth c hC hE hsz hr hnm
  show zAt p l e ({ frames := 1, cells := 0, slots := 0, locals := 21 } : Room) s m args below meth c 0 0 (MQ below (va_Qi (zPi K) (zB D vwCl (tyA dA) NX ad (celX ad dA)) (zA ad NX sz)) args s 0 0 (zA ad NX sz)) 6 D vwCl (zA ad NX sz) NX ad (celX ad dA) 0 [(0, vR ad 17), (1, vI x1), (2, vI x2), (3, vI x3), (4, vI x4)] [] σ
  refine z_aload_n hC dX6_isBetter_0 0 rfl rfl ?_
  refine z_iload_n hC dX6_isBetter_1 1 rfl rfl ?_
  refine z_callVi hC hE (oX_6 (show kX 17 = 6 by decide)) [vI x1] (fun sz2 => mX6_covers l hinj sz2 hf) (cwV 1 hC.1.2.2.2.2 (uV (uT _) u851 u852 u853 u115 u854) rfl rfl rfl (by decide +kernel) ⟨Nat.le_of_ble_eq_true rfl, Nat.le_of_ble_eq_true rfl⟩) rfl rfl (Nat.le_of_ble_eq_true rfl) ⟨Nat.le_of_ble_eq_true rfl, Nat.le_of_ble_eq_true rfl⟩ dX6_isBetter_2 (fun r1 σ1 hf => ?_)
  obtain ⟨g2, hf⟩ := hf
  refine z_if_ne (tgt := 10) hC dX6_isBetter_5 (by decide) g2 (fun hc => ?_) (fun hc => ?_)
  · replace hf := hf.2 hc
    refine z_aload_n hC dX6_isBetter_10 0 rfl rfl ?_
    refine z_get hC (fun w h => uT _ w (uL6 w h)) (oX_6 (show kX 17 = 6 by decide)) 3 (by decide) (uT _ _ u374) rfl rfl dX6_isBetter_11 ?_
    refine z_iload_n hC dX6_isBetter_14 1 rfl rfl ?_
    obtain ⟨g3, hf⟩ := hf
    refine z_iaload hC (aX_14 (show kX 19 = 14 by decide)) g3 dX6_isBetter_15 ?_
    obtain ⟨g4, hf⟩ := hf
    refine z_mabs hC g4 (fun w h => uT _ w (uC u855 (uC u845 (uC u108 (uC u846 uN))) w h)) (Nat.le_of_ble_eq_true rfl) (Nat.le_of_ble_eq_true rfl) ⟨Nat.le_of_ble_eq_true rfl, Nat.le_of_ble_eq_true rfl⟩ dX6_isBetter_16 ?_
    refine z_aload_n hC dX6_isBetter_19 0 rfl rfl ?_
    refine z_get hC (fun w h => uT _ w (uL6 w h)) (oX_6 (show kX 17 = 6 by decide)) 4 (by decide) (uT _ _ u375) rfl rfl dX6_isBetter_20 ?_
    refine z_iload_n hC dX6_isBetter_23 1 rfl rfl ?_
    refine z_iaload hC (aX_14 (show kX 20 = 14 by decide)) g3 dX6_isBetter_24 ?_
    obtain ⟨g5, hf⟩ := hf
    refine z_mabs hC g5 (fun w h => uT _ w (uC u855 (uC u845 (uC u108 (uC u846 uN))) w h)) (Nat.le_of_ble_eq_true rfl) (Nat.le_of_ble_eq_true rfl) ⟨Nat.le_of_ble_eq_true rfl, Nat.le_of_ble_eq_true rfl⟩ dX6_isBetter_25 ?_
    refine z_iadd hC dX6_isBetter_28 ?_
    obtain ⟨y6, ey6⟩ : ∃ z : Int, z = ((σ1 19 x1).natAbs : Int) + ((σ1 20 x1).natAbs : Int) := ⟨_, rfl⟩
    rw [← ey6]
    replace hf := hf y6 ey6
    refine z_istore hC ([(5, vI y6), (0, vR ad 17), (1, vI x1), (2, vI x2), (3, vI x3), (4, vI x4)]) dX6_isBetter_29 (by decide) rfl ?_
    refine z_iload hC dX6_isBetter_31 5 rfl ?_
    refine z_aload_n hC dX6_isBetter_33 1 rfl rfl ?_
    refine z_get hC (fun w h => uT _ w (uL6 w h)) (oX_6 (show kX 17 = 6 by decide)) 5 (by decide) (uT _ _ u376) rfl rfl dX6_isBetter_34 ?_
    refine z_iload_n hC dX6_isBetter_37 2 rfl rfl ?_
    refine z_iaload hC (aX_14 (show kX 21 = 14 by decide)) g3 dX6_isBetter_38 ?_
    obtain ⟨g7, hf⟩ := hf
    obtain ⟨g8, hf⟩ := hf
    refine z_icmp_lt (tgt := 67) hC dX6_isBetter_39 (by decide) g7 g8 (fun hc => ?_) (fun hc => ?_)
    · replace hf := hf.1 hc
      refine z_iconst hC dX6_isBetter_67 ?_
      refine z_goto (tgt := 72) hC dX6_isBetter_68 (by decide) ?_
      exact z_bret hC hr rfl dX6_isBetter_72 (Or.inr rfl) hf
    · replace hf := hf.2 hc
      refine z_iload hC dX6_isBetter_42 5 rfl ?_
      refine z_aload_n hC dX6_isBetter_44 1 rfl rfl ?_
      refine z_get hC (fun w h => uT _ w (uL6 w h)) (oX_6 (show kX 17 = 6 by decide)) 5 (by decide) (uT _ _ u376) rfl rfl dX6_isBetter_45 ?_
      refine z_iload_n hC dX6_isBetter_48 2 rfl rfl ?_
      refine z_iaload hC (aX_14 (show kX 21 = 14 by decide)) g3 dX6_isBetter_49 ?_
      refine z_icmp_ne (tgt := 71) hC dX6_isBetter_50 (by decide) g7 g8 (fun hc => ?_) (fun hc => ?_)
      · replace hf := hf.2 hc
        refine z_iconst hC dX6_isBetter_71 ?_
        exact z_bret hC hr rfl dX6_isBetter_72 (Or.inl rfl) hf
      · replace hf := hf.1 hc
        refine z_iload_n hC dX6_isBetter_53 3 rfl rfl ?_
        obtain ⟨g9, hf⟩ := hf
        refine z_mabs hC g9 (fun w h => uT _ w (uC u855 (uC u845 (uC u108 (uC u846 uN))) w h)) (Nat.le_of_ble_eq_true rfl) (Nat.le_of_ble_eq_true rfl) ⟨Nat.le_of_ble_eq_true rfl, Nat.le_of_ble_eq_true rfl⟩ dX6_isBetter_54 ?_
        refine z_iload_n hC dX6_isBetter_57 4 rfl rfl ?_
        obtain ⟨g10, hf⟩ := hf
        refine z_mabs hC g10 (fun w h => uT _ w (uC u855 (uC u845 (uC u108 (uC u846 uN))) w h)) (Nat.le_of_ble_eq_true rfl) (Nat.le_of_ble_eq_true rfl) ⟨Nat.le_of_ble_eq_true rfl, Nat.le_of_ble_eq_true rfl⟩ dX6_isBetter_58 ?_
        refine z_iadd hC dX6_isBetter_61 ?_
        refine z_iload hC dX6_isBetter_62 0 rfl ?_
        obtain ⟨g11, hf⟩ := hf
        obtain ⟨g12, hf⟩ := hf
        refine z_icmp_ge (tgt := 71) hC dX6_isBetter_64 (by decide) g11 g12 (fun hc => ?_) (fun hc => ?_)
        · replace hf := hf.1 hc
          refine z_iconst hC dX6_isBetter_71 ?_
          exact z_bret hC hr rfl dX6_isBetter_72 (Or.inl rfl) hf
        · replace hf := hf.2 hc
          refine z_iconst hC dX6_isBetter_67 ?_
          refine z_goto (tgt := 72) hC dX6_isBetter_68 (by decide) ?_
          exact z_bret hC hr rfl dX6_isBetter_72 (Or.inr rfl) hf
  · replace hf := hf.1 hc
    refine z_iconst hC dX6_isBetter_8 ?_
    exact z_bret hC hr rfl dX6_isBetter_9 (Or.inr rfl) hf

-- ===== X8_errorOfShift
noncomputable def fX8_errorOfShift_B6 (K : Int → zSt → Prop) (n : Nat) : zSt → Int → Int → Int → Int → Int → Int → Int → Prop :=
  Nat.rec (motive := fun _ => zSt → Int → Int → Int → Int → Int → Int → Int → Prop) (fun _ _ _ _ _ _ _ _ => False) (fun _ ih σ x0 x1 x2 x3 x4 x5 x6 => zrg x6 ∧ zrg (σ (x0 + 4) 3) ∧ ((σ (x0 + 4) 3 ≤ x6 → K x5 σ) ∧ (¬ σ (x0 + 4) 3 ≤ x6 → (0 ≤ x6 ∧ x6 < 6) ∧ fX8_isWindowInside (fun r4 σ4 => zrg r4 ∧ ((r4 = 0 → K (-1) σ4) ∧ (¬ r4 = 0 → fX8_isWindowInside (fun r6 σ6 => zrg r6 ∧ ((r6 = 0 → K (-1) σ6) ∧ (¬ r6 = 0 → fX8_mismatch (fun r8 σ8 => ih σ8 x0 x1 x2 x3 x4 (x5 + r8) (x6 + 1)) σ6 x0 x1 (σ ((x0 + 4) + 1) x6) (σ ((x0 + 4) + 2) x6) x2 ((σ ((x0 + 4) + 1) x6) + x3) ((σ ((x0 + 4) + 2) x6) + x4)))) σ4 x0 ((σ ((x0 + 4) + 1) x6) + x3) ((σ ((x0 + 4) + 2) x6) + x4)))) σ x0 (σ ((x0 + 4) + 1) x6) (σ ((x0 + 4) + 2) x6)))) n
theorem uX8_errorOfShift_B6 (K : Int → zSt → Prop) (n0 : Nat) (σ : zSt) (x0 : Int) (x1 : Int) (x2 : Int) (x3 : Int) (x4 : Int) (x5 : Int) (x6 : Int) : fX8_errorOfShift_B6 K (n0 + 1) σ x0 x1 x2 x3 x4 x5 x6 = (zrg x6 ∧ zrg (σ (x0 + 4) 3) ∧ ((σ (x0 + 4) 3 ≤ x6 → K x5 σ) ∧ (¬ σ (x0 + 4) 3 ≤ x6 → (0 ≤ x6 ∧ x6 < 6) ∧ fX8_isWindowInside (fun r4 σ4 => zrg r4 ∧ ((r4 = 0 → K (-1) σ4) ∧ (¬ r4 = 0 → fX8_isWindowInside (fun r6 σ6 => zrg r6 ∧ ((r6 = 0 → K (-1) σ6) ∧ (¬ r6 = 0 → fX8_mismatch (fun r8 σ8 => (fX8_errorOfShift_B6 K n0) σ8 x0 x1 x2 x3 x4 (x5 + r8) (x6 + 1)) σ6 x0 x1 (σ ((x0 + 4) + 1) x6) (σ ((x0 + 4) + 2) x6) x2 ((σ ((x0 + 4) + 1) x6) + x3) ((σ ((x0 + 4) + 2) x6) + x4)))) σ4 x0 ((σ ((x0 + 4) + 1) x6) + x3) ((σ ((x0 + 4) + 2) x6) + x4)))) σ x0 (σ ((x0 + 4) + 1) x6) (σ ((x0 + 4) + 2) x6)))) := rfl
def fX8_errorOfShift (K : Int → zSt → Prop) (σ : zSt) (x0 : Int) (x1 : Int) (x2 : Int) (x3 : Int) (x4 : Int) : Prop :=
  kX x0 = 8 ∧ (∃ n, fX8_errorOfShift_B6 K n σ x0 x1 x2 x3 x4 0 0)
set_option maxHeartbeats 4000000 in
set_option maxRecDepth 100000 in
theorem wX8_errorOfShift_B6 {p : Program} {l : Launch} {e : Env} {s : State} {m : MethodId} {args : Array Value} {below : List Frame} {meth : Method} {c : Code} {D : va_G} {dA : Nat → ClassId} {ad : Nat → Nat} {sz : Nat} {aL aG aI : Nat} {aK aV : Nat → Nat} {K : Int → zSt → Prop} (hC : zC p m c cX8_errorOfShift 9 s args (Cond.code yX8_errorOfShift cX8_errorOfShift 9 (some .int) :: UW) RX8 meth D vwCl (tyA dA) (zA ad NX sz) NX ad (celX ad dA)) (hE : zE (zXX aL aG aI aK aV) (zA ad NX sz) s s.heap) (hr : meth.sig.returnType = (some .int)) (hinj : ∀ i j, i < NX → j < NX → ad i = ad j → i = j) : ∀ (n : Nat) (σ : zSt) (x0 : Int) (x1 : Int) (x2 : Int) (x3 : Int) (x4 : Int) (x5 : Int) (x6 : Int) (qx0 : kX x0 = 8), fX8_errorOfShift_B6 K n σ x0 x1 x2 x3 x4 x5 x6 → zAt p l e ({ frames := 2, cells := 0, slots := 0, locals := 57 } : Room) s m args below meth c 0 0 (MQ below (va_Qi (zPi K) (zB D vwCl (tyA dA) NX ad (celX ad dA)) (zA ad NX sz)) args s 0 0 (zA ad NX sz)) 9 D vwCl (zA ad NX sz) NX ad (celX ad dA) 6 [(0, vR ad x0), (1, vI x1), (2, vI x2), (3, vI x3), (4, vI x4), (5, vI x5), (6, vI x6)] [] σ := by
  intro n
  induction n with
  | zero => intro σ x0 x1 x2 x3 x4 x5 x6 qx0 hf; exact False.elim hf
  | succ n ih =>
    intro σ x0 x1 x2 x3 x4 x5 x6 qx0 hf
    rw [uX8_errorOfShift_B6] at hf
    refine z_iload hC dX8_errorOfShift_6 6 rfl ?_
    refine z_aload_n hC dX8_errorOfShift_8 0 rfl rfl ?_
    refine z_get hC (fun w h => uT _ w (uL8 w h)) (oX_8 qx0) 7 (by decide) (uT _ _ u237) rfl rfl dX8_errorOfShift_9 ?_
    refine z_get hC (fun w h => uT _ w (uL7 w h)) (oX_7 (kf_8_7 qx0)) 3 (by decide) (uT _ _ u165) rfl rfl dX8_errorOfShift_12 ?_
    obtain ⟨g1, hf⟩ := hf
    obtain ⟨g2, hf⟩ := hf
    refine z_icmp_ge (tgt := 101) hC dX8_errorOfShift_15 (by decide) g1 g2 (fun hc => ?_) (fun hc => ?_)
    · replace hf := hf.1 hc
      refine z_iload hC dX8_errorOfShift_101 5 rfl ?_
      exact z_iret hC hr rfl dX8_errorOfShift_103 hf
    · replace hf := hf.2 hc
      refine z_aload_n hC dX8_errorOfShift_18 0 rfl rfl ?_
      refine z_get hC (fun w h => uT _ w (uL8 w h)) (oX_8 qx0) 7 (by decide) (uT _ _ u237) rfl rfl dX8_errorOfShift_19 ?_
      refine z_get hC (fun w h => uT _ w (uL7 w h)) (oX_7 (kf_8_7 qx0)) 1 (by decide) (uT _ _ u158) rfl rfl dX8_errorOfShift_22 ?_
      refine z_iload hC dX8_errorOfShift_25 6 rfl ?_
      obtain ⟨g3, hf⟩ := hf
      refine z_iaload hC (aX_14 (kf_7_1 (kf_8_7 qx0))) g3 dX8_errorOfShift_27 ?_
      refine z_istore hC ([(7, vI (σ ((x0 + 4) + 1) x6)), (0, vR ad x0), (1, vI x1), (2, vI x2), (3, vI x3), (4, vI x4), (5, vI x5), (6, vI x6)]) dX8_errorOfShift_28 (by decide) rfl ?_
      refine z_aload_n hC dX8_errorOfShift_30 1 rfl rfl ?_
      refine z_get hC (fun w h => uT _ w (uL8 w h)) (oX_8 qx0) 7 (by decide) (uT _ _ u237) rfl rfl dX8_errorOfShift_31 ?_
      refine z_get hC (fun w h => uT _ w (uL7 w h)) (oX_7 (kf_8_7 qx0)) 2 (by decide) (uT _ _ u162) rfl rfl dX8_errorOfShift_34 ?_
      refine z_iload hC dX8_errorOfShift_37 7 rfl ?_
      refine z_iaload hC (aX_14 (kf_7_2 (kf_8_7 qx0))) g3 dX8_errorOfShift_39 ?_
      refine z_istore hC ([(8, vI (σ ((x0 + 4) + 2) x6)), (7, vI (σ ((x0 + 4) + 1) x6)), (0, vR ad x0), (1, vI x1), (2, vI x2), (3, vI x3), (4, vI x4), (5, vI x5), (6, vI x6)]) dX8_errorOfShift_40 (by decide) rfl ?_
      refine z_aload_n hC dX8_errorOfShift_42 2 rfl rfl ?_
      refine z_iload hC dX8_errorOfShift_43 1 rfl ?_
      refine z_iload hC dX8_errorOfShift_45 0 rfl ?_
      refine z_callVi hC hE (oX_8 qx0) [vI (σ ((x0 + 4) + 1) x6), vI (σ ((x0 + 4) + 2) x6)] (fun sz2 => mX8_isWindowInside l hinj sz2 hf) (cwV 2 hC.1.2.2.2.2 (uV (uT _) u836 u837 u838 u106 u839) rfl rfl rfl (by decide +kernel) ⟨Nat.le_of_ble_eq_true rfl, Nat.le_of_ble_eq_true rfl⟩) rfl rfl (Nat.le_of_ble_eq_true rfl) ⟨Nat.le_of_ble_eq_true rfl, Nat.le_of_ble_eq_true rfl⟩ dX8_errorOfShift_47 (fun r4 σ4 hf => ?_)
      obtain ⟨g5, hf⟩ := hf
      refine z_if_eq (tgt := 69) hC dX8_errorOfShift_50 (by decide) g5 (fun hc => ?_) (fun hc => ?_)
      · replace hf := hf.1 hc
        refine z_iconst hC dX8_errorOfShift_69 ?_
        exact z_iret hC hr rfl dX8_errorOfShift_70 hf
      · replace hf := hf.2 hc
        refine z_aload_n hC dX8_errorOfShift_53 2 rfl rfl ?_
        refine z_iload hC dX8_errorOfShift_54 1 rfl ?_
        refine z_iload_n hC dX8_errorOfShift_56 5 rfl rfl ?_
        refine z_iadd hC dX8_errorOfShift_57 ?_
        refine z_iload hC dX8_errorOfShift_58 0 rfl ?_
        refine z_iload hC dX8_errorOfShift_60 6 rfl ?_
        refine z_iadd hC dX8_errorOfShift_62 ?_
        refine z_callVi hC hE (oX_8 qx0) [vI ((σ ((x0 + 4) + 1) x6) + x3), vI ((σ ((x0 + 4) + 2) x6) + x4)] (fun sz2 => mX8_isWindowInside l hinj sz2 hf) (cwV 2 hC.1.2.2.2.2 (uV (uT _) u836 u837 u838 u106 u839) rfl rfl rfl (by decide +kernel) ⟨Nat.le_of_ble_eq_true rfl, Nat.le_of_ble_eq_true rfl⟩) rfl rfl (Nat.le_of_ble_eq_true rfl) ⟨Nat.le_of_ble_eq_true rfl, Nat.le_of_ble_eq_true rfl⟩ dX8_errorOfShift_63 (fun r6 σ6 hf => ?_)
        obtain ⟨g7, hf⟩ := hf
        refine z_if_ne (tgt := 71) hC dX8_errorOfShift_66 (by decide) g7 (fun hc => ?_) (fun hc => ?_)
        · replace hf := hf.2 hc
          refine z_iload hC dX8_errorOfShift_71 7 rfl ?_
          refine z_aload_n hC dX8_errorOfShift_73 2 rfl rfl ?_
          refine z_iload_n hC dX8_errorOfShift_74 3 rfl rfl ?_
          refine z_iload hC dX8_errorOfShift_75 1 rfl ?_
          refine z_iload hC dX8_errorOfShift_77 0 rfl ?_
          refine z_iload_n hC dX8_errorOfShift_79 4 rfl rfl ?_
          refine z_iload hC dX8_errorOfShift_80 1 rfl ?_
          refine z_iload_n hC dX8_errorOfShift_82 5 rfl rfl ?_
          refine z_iadd hC dX8_errorOfShift_83 ?_
          refine z_iload hC dX8_errorOfShift_84 0 rfl ?_
          refine z_iload hC dX8_errorOfShift_86 6 rfl ?_
          refine z_iadd hC dX8_errorOfShift_88 ?_
          refine z_callVi hC hE (oX_8 qx0) [vI x1, vI (σ ((x0 + 4) + 1) x6), vI (σ ((x0 + 4) + 2) x6), vI x2, vI ((σ ((x0 + 4) + 1) x6) + x3), vI ((σ ((x0 + 4) + 2) x6) + x4)] (fun sz2 => mX8_mismatch l hinj sz2 hf) (cwV 6 hC.1.2.2.2.2 (uV (uT _) u840 u841 u842 u106 u843) rfl rfl rfl (by decide +kernel) ⟨Nat.le_of_ble_eq_true rfl, Nat.le_of_ble_eq_true rfl⟩) rfl rfl (Nat.le_of_ble_eq_true rfl) ⟨Nat.le_of_ble_eq_true rfl, Nat.le_of_ble_eq_true rfl⟩ dX8_errorOfShift_89 (fun r8 σ8 hf => ?_)
          refine z_iadd hC dX8_errorOfShift_92 ?_
          refine z_istore hC ([(5, vI (x5 + r8)), (8, vI (σ ((x0 + 4) + 2) x6)), (7, vI (σ ((x0 + 4) + 1) x6)), (0, vR ad x0), (1, vI x1), (2, vI x2), (3, vI x3), (4, vI x4), (6, vI x6)]) dX8_errorOfShift_93 (by decide) rfl ?_
          refine z_iinc hC ([(6, vI (x6 + 1)), (5, vI (x5 + r8)), (8, vI (σ ((x0 + 4) + 2) x6)), (7, vI (σ ((x0 + 4) + 1) x6)), (0, vR ad x0), (1, vI x1), (2, vI x2), (3, vI x3), (4, vI x4)]) dX8_errorOfShift_95 8 rfl (by decide) rfl ?_
          refine z_goto (tgt := 6) hC dX8_errorOfShift_98 (by decide) ?_
          refine z_sub (lv' := [(0, vR ad x0), (1, vI x1), (2, vI x2), (3, vI x3), (4, vI x4), (5, vI (x5 + r8)), (6, vI (x6 + 1))]) [4, 5, 6, 7, 8, 1, 0] rfl ?_
          exact ih _ _ _ _ _ _ _ _ qx0 hf
        · replace hf := hf.1 hc
          refine z_iconst hC dX8_errorOfShift_69 ?_
          exact z_iret hC hr rfl dX8_errorOfShift_70 hf
set_option maxHeartbeats 4000000 in
set_option maxRecDepth 100000 in
theorem mX8_errorOfShift {D : va_G} {dA : Nat → ClassId} {ad : Nat → Nat} {aL aG aI : Nat} {aK aV : Nat → Nat} (l : Launch) (hinj : ∀ i j, i < NX → j < NX → ad i = ad j → i = j) (sz : Nat) {K : Int → zSt → Prop} {σ : zSt} {x0 : Int} {x1 : Int} {x2 : Int} {x3 : Int} {x4 : Int} (hf : fX8_errorOfShift K σ x0 x1 x2 x3 x4) : Met l yX8_errorOfShift (Cond.code yX8_errorOfShift cX8_errorOfShift 9 (some .int) :: UW) ({ frames := 2, cells := 0, slots := 0, locals := 57 } : Room) (va_Pc [vR ad x0, vI x1, vI x2, vI x3, vI x4] (zPre D vwCl (tyA dA) (zXX aL aG aI aK aV) NX ad (celX ad dA) sz σ)) (va_Qi (zPi K) (zB D vwCl (tyA dA) NX ad (celX ad dA)) (zA ad NX sz)) 0 0 (zA ad NX sz) := by
  refine z_enter (cc := cX8_errorOfShift) (maxL := 9) (ret := (some .int)) (vs := [vR ad x0, vI x1, vI x2, vI x3, vI x4]) (plainFor_of_name (by decide)) rfl hinj (Nat.le_of_ble_eq_true rfl) ?_
  intro p e s m args below meth c hC hE hsz hr hnm
  obtain ⟨qx0, hf⟩ := hf
  show zAt p l e ({ frames := 2, cells := 0, slots := 0, locals := 57 } : Room) s m args below meth c 0 0 (MQ below (va_Qi (zPi K) (zB D vwCl (tyA dA) NX ad (celX ad dA)) (zA ad NX sz)) args s 0 0 (zA ad NX sz)) 9 D vwCl (zA ad NX sz) NX ad (celX ad dA) 0 [(0, vR ad x0), (1, vI x1), (2, vI x2), (3, vI x3), (4, vI x4)] [] σ
  refine z_iconst hC dX8_errorOfShift_0 ?_
  refine z_istore hC ([(5, vI 0), (0, vR ad x0), (1, vI x1), (2, vI x2), (3, vI x3), (4, vI x4)]) dX8_errorOfShift_1 (by decide) rfl ?_
  refine z_iconst hC dX8_errorOfShift_3 ?_
  refine z_istore hC ([(6, vI 0), (5, vI 0), (0, vR ad x0), (1, vI x1), (2, vI x2), (3, vI x3), (4, vI x4)]) dX8_errorOfShift_4 (by decide) rfl ?_
  refine z_sub (lv' := [(0, vR ad x0), (1, vI x1), (2, vI x2), (3, vI x3), (4, vI x4), (5, vI 0), (6, vI 0)]) [2, 3, 4, 5, 6, 1, 0] rfl ?_
  obtain ⟨n, hf⟩ := hf
  exact wX8_errorOfShift_B6 hC hE hr hinj n _ _ _ _ _ _ _ _ qx0 hf

-- ===== X6_findShift
noncomputable def fX6_findShift_B30 (K : zSt → Prop) (k20 : zSt → Int → Int → Int → Int → Prop) (n : Nat) : zSt → Int → Int → Int → Int → Int → Prop :=
  Nat.rec (motive := fun _ => zSt → Int → Int → Int → Int → Int → Prop) (fun _ _ _ _ _ _ => False) (fun _ ih σ x1 x2 x3 x4 x5 => zrg x5 ∧ zrg x3 ∧ ((x3 < x5 → k20 σ x1 x2 x3 (x4 + 1)) ∧ (¬ x3 < x5 → fX8_errorOfShift (fun r7 σ7 => zrg r7 ∧ ((r7 = (-1) → ih σ7 x1 x2 x3 x4 (x5 + 1)) ∧ (¬ r7 = (-1) → fX6_isBetter (fun r9 σ9 => zrg r9 ∧ ((r9 = 0 → ih σ9 x1 x2 x3 x4 (x5 + 1)) ∧ (¬ r9 = 0 → fX6_take (fun σ11 => ih σ11 x1 x2 x3 x4 (x5 + 1)) σ9 x2 x5 x4 r7))) σ7 x2 x5 x4 r7))) σ x1 (σ 17 1) x2 x5 x4))) n
theorem uX6_findShift_B30 (K : zSt → Prop) (k20 : zSt → Int → Int → Int → Int → Prop) (n0 : Nat) (σ : zSt) (x1 : Int) (x2 : Int) (x3 : Int) (x4 : Int) (x5 : Int) : fX6_findShift_B30 K k20 (n0 + 1) σ x1 x2 x3 x4 x5 = (zrg x5 ∧ zrg x3 ∧ ((x3 < x5 → k20 σ x1 x2 x3 (x4 + 1)) ∧ (¬ x3 < x5 → fX8_errorOfShift (fun r7 σ7 => zrg r7 ∧ ((r7 = (-1) → (fX6_findShift_B30 K k20 n0) σ7 x1 x2 x3 x4 (x5 + 1)) ∧ (¬ r7 = (-1) → fX6_isBetter (fun r9 σ9 => zrg r9 ∧ ((r9 = 0 → (fX6_findShift_B30 K k20 n0) σ9 x1 x2 x3 x4 (x5 + 1)) ∧ (¬ r9 = 0 → fX6_take (fun σ11 => (fX6_findShift_B30 K k20 n0) σ11 x1 x2 x3 x4 (x5 + 1)) σ9 x2 x5 x4 r7))) σ7 x2 x5 x4 r7))) σ x1 (σ 17 1) x2 x5 x4))) := rfl
noncomputable def fX6_findShift_B20 (K : zSt → Prop) (n : Nat) : zSt → Int → Int → Int → Int → Prop :=
  Nat.rec (motive := fun _ => zSt → Int → Int → Int → Int → Prop) (fun _ _ _ _ _ => False) (fun _ ih σ x1 x2 x3 x4 => zrg x4 ∧ zrg x3 ∧ ((x3 < x4 → K σ) ∧ (¬ x3 < x4 → (∃ n, fX6_findShift_B30 K ih n σ x1 x2 x3 x4 (-x3))))) n
theorem uX6_findShift_B20 (K : zSt → Prop) (n0 : Nat) (σ : zSt) (x1 : Int) (x2 : Int) (x3 : Int) (x4 : Int) : fX6_findShift_B20 K (n0 + 1) σ x1 x2 x3 x4 = (zrg x4 ∧ zrg x3 ∧ ((x3 < x4 → K σ) ∧ (¬ x3 < x4 → (∃ n, fX6_findShift_B30 K (fX6_findShift_B20 K n0) n σ x1 x2 x3 x4 (-x3))))) := rfl
def fX6_findShift (K : zSt → Prop) (σ : zSt) (x1 : Int) (x2 : Int) : Prop :=
  kX x1 = 8 ∧ zrg x2 ∧ zrg (σ 17 1) ∧ ((x2 = σ 17 1 → K σ) ∧ (¬ x2 = σ 17 1 → (∃ n, fX6_findShift_B20 K n σ x1 x2 (σ (x1 + 1) 2) (-(σ (x1 + 1) 2)))))
set_option maxHeartbeats 4000000 in
set_option maxRecDepth 100000 in
theorem wX6_findShift_B30 {p : Program} {l : Launch} {e : Env} {s : State} {m : MethodId} {args : Array Value} {below : List Frame} {meth : Method} {c : Code} {D : va_G} {dA : Nat → ClassId} {ad : Nat → Nat} {sz : Nat} {aL aG aI : Nat} {aK aV : Nat → Nat} {K : zSt → Prop} {k20 : zSt → Int → Int → Int → Int → Prop} (hC : zC p m c cX6_findShift 7 s args (Cond.code yX6_findShift cX6_findShift 7 none :: UW) RX6 meth D vwCl (tyA dA) (zA ad NX sz) NX ad (celX ad dA)) (hE : zE (zXX aL aG aI aK aV) (zA ad NX sz) s s.heap) (hr : meth.sig.returnType = none) (hinj : ∀ i j, i < NX → j < NX → ad i = ad j → i = j) (hk20 : ∀ (σ : zSt) (x1 : Int) (x2 : Int) (x3 : Int) (x4 : Int) (_ : kX x1 = 8), k20 σ x1 x2 x3 x4 → zAt p l e ({ frames := 3, cells := 0, slots := 0, locals := 85 } : Room) s m args below meth c 0 0 (MQ below (va_Qv K (zB D vwCl (tyA dA) NX ad (celX ad dA)) (zA ad NX sz)) args s 0 0 (zA ad NX sz)) 7 D vwCl (zA ad NX sz) NX ad (celX ad dA) 20 [(0, vR ad 17), (1, vR ad x1), (2, vI x2), (3, vI x3), (4, vI x4)] [] σ) : ∀ (n : Nat) (σ : zSt) (x1 : Int) (x2 : Int) (x3 : Int) (x4 : Int) (x5 : Int) (qx1 : kX x1 = 8), fX6_findShift_B30 K k20 n σ x1 x2 x3 x4 x5 → zAt p l e ({ frames := 3, cells := 0, slots := 0, locals := 85 } : Room) s m args below meth c 0 0 (MQ below (va_Qv K (zB D vwCl (tyA dA) NX ad (celX ad dA)) (zA ad NX sz)) args s 0 0 (zA ad NX sz)) 7 D vwCl (zA ad NX sz) NX ad (celX ad dA) 30 [(0, vR ad 17), (1, vR ad x1), (2, vI x2), (3, vI x3), (4, vI x4), (5, vI x5)] [] σ := by
  intro n
  induction n with
  | zero => intro σ x1 x2 x3 x4 x5 qx1 hf; exact False.elim hf
  | succ n ih =>
    intro σ x1 x2 x3 x4 x5 qx1 hf
    rw [uX6_findShift_B30] at hf
    refine z_iload hC dX6_findShift_30 5 rfl ?_
    refine z_iload_n hC dX6_findShift_32 3 rfl rfl ?_
    obtain ⟨g5, hf⟩ := hf
    obtain ⟨g6, hf⟩ := hf
    refine z_icmp_gt (tgt := 88) hC dX6_findShift_33 (by decide) g5 g6 (fun hc => ?_) (fun hc => ?_)
    · replace hf := hf.1 hc
      refine z_iinc hC ([(4, vI (x4 + 1)), (0, vR ad 17), (1, vR ad x1), (2, vI x2), (3, vI x3), (5, vI x5)]) dX6_findShift_88 4 rfl (by decide) rfl ?_
      refine z_goto (tgt := 20) hC dX6_findShift_91 (by decide) ?_
      refine z_sub (lv' := [(0, vR ad 17), (1, vR ad x1), (2, vI x2), (3, vI x3), (4, vI (x4 + 1))]) [1, 2, 3, 4, 0] rfl ?_
      exact hk20 _ _ _ _ _ qx1 hf
    · replace hf := hf.2 hc
      refine z_aload_n hC dX6_findShift_36 1 rfl rfl ?_
      refine z_aload_n hC dX6_findShift_37 0 rfl rfl ?_
      refine z_get hC (fun w h => uT _ w (uL6 w h)) (oX_6 (show kX 17 = 6 by decide)) 1 (by decide) (uT _ _ u370) rfl rfl dX6_findShift_38 ?_
      refine z_iload_n hC dX6_findShift_41 2 rfl rfl ?_
      refine z_iload hC dX6_findShift_42 5 rfl ?_
      refine z_iload hC dX6_findShift_44 4 rfl ?_
      refine z_callVi hC hE (oX_8 qx1) [vI (σ 17 1), vI x2, vI x5, vI x4] (fun sz2 => mX8_errorOfShift l hinj sz2 hf) (cwV 4 hC.1.2.2.2.2 (uV (uT _) u832 u833 u834 u106 u835) rfl rfl rfl (by decide +kernel) ⟨Nat.le_of_ble_eq_true rfl, Nat.le_of_ble_eq_true rfl⟩) rfl rfl (Nat.le_of_ble_eq_true rfl) ⟨Nat.le_of_ble_eq_true rfl, Nat.le_of_ble_eq_true rfl⟩ dX6_findShift_46 (fun r7 σ7 hf => ?_)
      refine z_istore hC ([(6, vI r7), (0, vR ad 17), (1, vR ad x1), (2, vI x2), (3, vI x3), (4, vI x4), (5, vI x5)]) dX6_findShift_49 (by decide) rfl ?_
      refine z_iload hC dX6_findShift_51 0 rfl ?_
      refine z_iconst hC dX6_findShift_53 ?_
      obtain ⟨g8, hf⟩ := hf
      refine z_icmp_eq (tgt := 82) hC dX6_findShift_54 (by decide) g8 (zlit rfl rfl) (fun hc => ?_) (fun hc => ?_)
      · replace hf := hf.1 hc
        refine z_iinc hC ([(5, vI (x5 + 1)), (6, vI r7), (0, vR ad 17), (1, vR ad x1), (2, vI x2), (3, vI x3), (4, vI x4)]) dX6_findShift_82 6 rfl (by decide) rfl ?_
        refine z_goto (tgt := 30) hC dX6_findShift_85 (by decide) ?_
        refine z_sub (lv' := [(0, vR ad 17), (1, vR ad x1), (2, vI x2), (3, vI x3), (4, vI x4), (5, vI (x5 + 1))]) [2, 3, 4, 5, 6, 0] rfl ?_
        exact ih _ _ _ _ _ _ qx1 hf
      · replace hf := hf.2 hc
        refine z_aload_n hC dX6_findShift_57 1 rfl rfl ?_
        refine z_iload_n hC dX6_findShift_58 3 rfl rfl ?_
        refine z_iload hC dX6_findShift_59 6 rfl ?_
        refine z_iload hC dX6_findShift_61 5 rfl ?_
        refine z_iload hC dX6_findShift_63 0 rfl ?_
        refine z_callVi hC hE (oX_6 (show kX 17 = 6 by decide)) [vI x2, vI x5, vI x4, vI r7] (fun sz2 => mX6_isBetter l hinj sz2 hf) (cwV 4 hC.1.2.2.2.2 (uV (uT _) u847 u849 u17 u115 u850) rfl rfl rfl (by decide +kernel) ⟨Nat.le_of_ble_eq_true rfl, Nat.le_of_ble_eq_true rfl⟩) rfl rfl (Nat.le_of_ble_eq_true rfl) ⟨Nat.le_of_ble_eq_true rfl, Nat.le_of_ble_eq_true rfl⟩ dX6_findShift_65 (fun r9 σ9 hf => ?_)
        obtain ⟨g10, hf⟩ := hf
        refine z_if_eq (tgt := 82) hC dX6_findShift_68 (by decide) g10 (fun hc => ?_) (fun hc => ?_)
        · replace hf := hf.1 hc
          refine z_iinc hC ([(5, vI (x5 + 1)), (6, vI r7), (0, vR ad 17), (1, vR ad x1), (2, vI x2), (3, vI x3), (4, vI x4)]) dX6_findShift_82 6 rfl (by decide) rfl ?_
          refine z_goto (tgt := 30) hC dX6_findShift_85 (by decide) ?_
          refine z_sub (lv' := [(0, vR ad 17), (1, vR ad x1), (2, vI x2), (3, vI x3), (4, vI x4), (5, vI (x5 + 1))]) [2, 3, 4, 5, 6, 0] rfl ?_
          exact ih _ _ _ _ _ _ qx1 hf
        · replace hf := hf.2 hc
          refine z_aload_n hC dX6_findShift_71 1 rfl rfl ?_
          refine z_iload_n hC dX6_findShift_72 3 rfl rfl ?_
          refine z_iload hC dX6_findShift_73 6 rfl ?_
          refine z_iload hC dX6_findShift_75 5 rfl ?_
          refine z_iload hC dX6_findShift_77 0 rfl ?_
          refine z_callVv hC hE (oX_6 (show kX 17 = 6 by decide)) [vI x2, vI x5, vI x4, vI r7] (fun sz2 => mX6_take l hinj sz2 hf) (cwV 4 hC.1.2.2.2.2 (uV (uT _) u823 u825 u16 u115 u826) rfl rfl rfl (by decide +kernel) ⟨Nat.le_of_ble_eq_true rfl, Nat.le_of_ble_eq_true rfl⟩) rfl rfl (Nat.le_of_ble_eq_true rfl) ⟨Nat.le_of_ble_eq_true rfl, Nat.le_of_ble_eq_true rfl⟩ dX6_findShift_79 (fun σ11 hf => ?_)
          refine z_iinc hC ([(5, vI (x5 + 1)), (6, vI r7), (0, vR ad 17), (1, vR ad x1), (2, vI x2), (3, vI x3), (4, vI x4)]) dX6_findShift_82 6 rfl (by decide) rfl ?_
          refine z_goto (tgt := 30) hC dX6_findShift_85 (by decide) ?_
          refine z_sub (lv' := [(0, vR ad 17), (1, vR ad x1), (2, vI x2), (3, vI x3), (4, vI x4), (5, vI (x5 + 1))]) [2, 3, 4, 5, 6, 0] rfl ?_
          exact ih _ _ _ _ _ _ qx1 hf
set_option maxHeartbeats 4000000 in
set_option maxRecDepth 100000 in
theorem wX6_findShift_B20 {p : Program} {l : Launch} {e : Env} {s : State} {m : MethodId} {args : Array Value} {below : List Frame} {meth : Method} {c : Code} {D : va_G} {dA : Nat → ClassId} {ad : Nat → Nat} {sz : Nat} {aL aG aI : Nat} {aK aV : Nat → Nat} {K : zSt → Prop} (hC : zC p m c cX6_findShift 7 s args (Cond.code yX6_findShift cX6_findShift 7 none :: UW) RX6 meth D vwCl (tyA dA) (zA ad NX sz) NX ad (celX ad dA)) (hE : zE (zXX aL aG aI aK aV) (zA ad NX sz) s s.heap) (hr : meth.sig.returnType = none) (hinj : ∀ i j, i < NX → j < NX → ad i = ad j → i = j) : ∀ (n : Nat) (σ : zSt) (x1 : Int) (x2 : Int) (x3 : Int) (x4 : Int) (qx1 : kX x1 = 8), fX6_findShift_B20 K n σ x1 x2 x3 x4 → zAt p l e ({ frames := 3, cells := 0, slots := 0, locals := 85 } : Room) s m args below meth c 0 0 (MQ below (va_Qv K (zB D vwCl (tyA dA) NX ad (celX ad dA)) (zA ad NX sz)) args s 0 0 (zA ad NX sz)) 7 D vwCl (zA ad NX sz) NX ad (celX ad dA) 20 [(0, vR ad 17), (1, vR ad x1), (2, vI x2), (3, vI x3), (4, vI x4)] [] σ := by
  intro n
  induction n with
  | zero => intro σ x1 x2 x3 x4 qx1 hf; exact False.elim hf
  | succ n ih =>
    intro σ x1 x2 x3 x4 qx1 hf
    rw [uX6_findShift_B20] at hf
    refine z_iload hC dX6_findShift_20 4 rfl ?_
    refine z_iload_n hC dX6_findShift_22 3 rfl rfl ?_
    obtain ⟨g3, hf⟩ := hf
    obtain ⟨g4, hf⟩ := hf
    refine z_icmp_gt (tgt := 94) hC dX6_findShift_23 (by decide) g3 g4 (fun hc => ?_) (fun hc => ?_)
    · replace hf := hf.1 hc
      exact z_vret hC hr rfl dX6_findShift_94 hf
    · replace hf := hf.2 hc
      refine z_iload_n hC dX6_findShift_26 3 rfl rfl ?_
      refine z_ineg hC dX6_findShift_27 ?_
      refine z_istore hC ([(5, vI (-x3)), (0, vR ad 17), (1, vR ad x1), (2, vI x2), (3, vI x3), (4, vI x4)]) dX6_findShift_28 (by decide) rfl ?_
      refine z_sub (lv' := [(0, vR ad 17), (1, vR ad x1), (2, vI x2), (3, vI x3), (4, vI x4), (5, vI (-x3))]) [1, 2, 3, 4, 5, 0] rfl ?_
      obtain ⟨n, hf⟩ := hf
      exact wX6_findShift_B30 hC hE hr hinj ih n _ _ _ _ _ _ qx1 hf
set_option maxHeartbeats 4000000 in
set_option maxRecDepth 100000 in
theorem mX6_findShift {D : va_G} {dA : Nat → ClassId} {ad : Nat → Nat} {aL aG aI : Nat} {aK aV : Nat → Nat} (l : Launch) (hinj : ∀ i j, i < NX → j < NX → ad i = ad j → i = j) (sz : Nat) {K : zSt → Prop} {σ : zSt} {x1 : Int} {x2 : Int} (hf : fX6_findShift K σ x1 x2) : Met l yX6_findShift (Cond.code yX6_findShift cX6_findShift 7 none :: UW) ({ frames := 3, cells := 0, slots := 0, locals := 85 } : Room) (va_Pc [vR ad 17, vR ad x1, vI x2] (zPre D vwCl (tyA dA) (zXX aL aG aI aK aV) NX ad (celX ad dA) sz σ)) (va_Qv K (zB D vwCl (tyA dA) NX ad (celX ad dA)) (zA ad NX sz)) 0 0 (zA ad NX sz) := by
  refine z_enter (cc := cX6_findShift) (maxL := 7) (ret := none) (vs := [vR ad 17, vR ad x1, vI x2]) (plainFor_of_name (by decide)) rfl hinj (Nat.le_of_ble_eq_true rfl) ?_
  intro p e s m args below meth c hC hE hsz hr hnm
  obtain ⟨qx1, hf⟩ := hf
  show zAt p l e ({ frames := 3, cells := 0, slots := 0, locals := 85 } : Room) s m args below meth c 0 0 (MQ below (va_Qv K (zB D vwCl (tyA dA) NX ad (celX ad dA)) (zA ad NX sz)) args s 0 0 (zA ad NX sz)) 7 D vwCl (zA ad NX sz) NX ad (celX ad dA) 0 [(0, vR ad 17), (1, vR ad x1), (2, vI x2)] [] σ
  refine z_iload_n hC dX6_findShift_0 2 rfl rfl ?_
  refine z_aload_n hC dX6_findShift_1 0 rfl rfl ?_
  refine z_get hC (fun w h => uT _ w (uL6 w h)) (oX_6 (show kX 17 = 6 by decide)) 1 (by decide) (uT _ _ u370) rfl rfl dX6_findShift_2 ?_
  obtain ⟨g1, hf⟩ := hf
  obtain ⟨g2, hf⟩ := hf
  refine z_icmp_ne (tgt := 9) hC dX6_findShift_5 (by decide) g1 g2 (fun hc => ?_) (fun hc => ?_)
  · replace hf := hf.2 hc
    refine z_aload_n hC dX6_findShift_9 1 rfl rfl ?_
    refine z_get hC (fun w h => uT _ w (uL8 w h)) (oX_8 qx1) 4 (by decide) (uT _ _ u229) rfl rfl dX6_findShift_10 ?_
    refine z_iconst hC dX6_findShift_13 ?_
    refine z_iaload hC (aX_17 (kf_8_4 qx1)) ⟨by decide, by decide⟩ dX6_findShift_14 ?_
    refine z_istore_n hC ([(3, vI (σ (x1 + 1) 2)), (0, vR ad 17), (1, vR ad x1), (2, vI x2)]) dX6_findShift_15 rfl (by decide) rfl ?_
    refine z_iload_n hC dX6_findShift_16 0 rfl rfl ?_
    refine z_ineg hC dX6_findShift_17 ?_
    refine z_istore hC ([(4, vI (-(σ (x1 + 1) 2))), (3, vI (σ (x1 + 1) 2)), (0, vR ad 17), (1, vR ad x1), (2, vI x2)]) dX6_findShift_18 (by decide) rfl ?_
    refine z_sub (lv' := [(0, vR ad 17), (1, vR ad x1), (2, vI x2), (3, vI (σ (x1 + 1) 2)), (4, vI (-(σ (x1 + 1) 2)))]) [2, 3, 4, 1, 0] rfl ?_
    obtain ⟨n, hf⟩ := hf
    exact wX6_findShift_B20 hC hE hr hinj n _ _ _ _ _ qx1 hf
  · replace hf := hf.1 hc
    exact z_vret hC hr rfl dX6_findShift_8 hf
