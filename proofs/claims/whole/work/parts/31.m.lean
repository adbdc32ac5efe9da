
-- ===== X12_thrown
def fX12_thrown (K : Int → zSt → Prop) (σ : zSt) : Prop :=
  K (σ 0 4) σ
set_option maxHeartbeats 4000000 in
set_option maxRecDepth 100000 in
theorem mX12_thrown {D : va_G} {dA : Nat → ClassId} {ad : Nat → Nat}  (l : Launch) (hinj : ∀ i j, i < NM → j < NM → ad i = ad j → i = j) (sz : Nat) {K : Int → zSt → Prop} {σ : zSt} (hf : fX12_thrown K σ ) : Met l yX12_thrown (Cond.code yX12_thrown cX12_thrown 1 (some .int) :: UW) ({ frames := 0, cells := 0, slots := 0, locals := 0 } : Room) (va_Pc [vR ad 0] (zPre D vwCl (tyA dA) zX0 NM ad (celM ad dA) sz σ)) (va_Qi (zPi K) (zB D vwCl (tyA dA) NM ad (celM ad dA)) (zA ad NM sz)) 0 0 (zA ad NM sz) := by
  refine z_enter (cc := cX12_thrown) (maxL := 1) (ret := (some .int)) (vs := [vR ad 0]) (plainFor_of_name (by decide)) rfl hinj (Nat.le_of_ble_eq_true rfl) ?_
  intro p e s m args below meth c hC hE hsz hr hnm
  show zAt p l e ({ frames := 0, cells := 0, slots := 0, locals := 0 } : Room) s m args below meth c 0 0 (MQ below (va_Qi (zPi K) (zB D vwCl (tyA dA) NM ad (celM ad dA)) (zA ad NM sz)) args s 0 0 (zA ad NM sz)) 1 D vwCl (zA ad NM sz) NM ad (celM ad dA) 0 [(0, vR ad 0)] [] σ
  refine z_aload_n hC dX12_thrown_0 0 rfl rfl ?_
  refine z_get hC (fun w h => uT _ w (uL12 w h)) (oM_12 (show kM 0 = 12 by decide)) 4 (by decide) (uT _ _ u1549) rfl rfl dX12_thrown_1 ?_
  exact z_iret hC hr rfl dX12_thrown_4 hf

-- ===== X12_inRange
def fX12_inRange (K : Int → zSt → Prop) (σ : zSt) (x0 : Int) (x1 : Int) (x2 : Int) : Prop :=
  zrg x0 ∧ zrg x1 ∧ ((x0 < x1 → K 0 σ) ∧ (¬ x0 < x1 → zrg x2 ∧ ((x2 < x0 → K 0 σ) ∧ (¬ x2 < x0 → K 1 σ))))
set_option maxHeartbeats 4000000 in
set_option maxRecDepth 100000 in
theorem mX12_inRange {D : va_G} {dA : Nat → ClassId} {ad : Nat → Nat}  (l : Launch) (hinj : ∀ i j, i < NM → j < NM → ad i = ad j → i = j) (sz : Nat) {K : Int → zSt → Prop} {σ : zSt} {x0 : Int} {x1 : Int} {x2 : Int} (hf : fX12_inRange K σ x0 x1 x2) : Met l yX12_inRange (Cond.code yX12_inRange cX12_inRange 3 (some .boolean) :: UW) ({ frames := 0, cells := 0, slots := 0, locals := 0 } : Room) (va_Pc [vI x0, vI x1, vI x2] (zPre D vwCl (tyA dA) zX0 NM ad (celM ad dA) sz σ)) (va_Qi (zPi K) (zB D vwCl (tyA dA) NM ad (celM ad dA)) (zA ad NM sz)) 0 0 (zA ad NM sz) := by
  refine z_enter (cc := cX12_inRange) (maxL := 3) (ret := (some .boolean)) (vs := [vI x0, vI x1, vI x2]) (plainFor_of_name (by decide)) rfl hinj (Nat.le_of_ble_eq_true rfl) ?_
  intro p e s m args below meth c hC hE hsz hr hnm
  show zAt p l e ({ frames := 0, cells := 0, slots := 0, locals := 0 } : Room) s m args below meth c 0 0 (MQ below (va_Qi (zPi K) (zB D vwCl (tyA dA) NM ad (celM ad dA)) (zA ad NM sz)) args s 0 0 (zA ad NM sz)) 3 D vwCl (zA ad NM sz) NM ad (celM ad dA) 0 [(0, vI x0), (1, vI x1), (2, vI x2)] [] σ
  refine z_iload_n hC dX12_inRange_0 0 rfl rfl ?_
  refine z_iload_n hC dX12_inRange_1 1 rfl rfl ?_
  obtain ⟨g1, hf⟩ := hf
  obtain ⟨g2, hf⟩ := hf
  refine z_icmp_lt (tgt := 14) hC dX12_inRange_2 (by decide) g1 g2 (fun hc => ?_) (fun hc => ?_)
  · replace hf := hf.1 hc
    refine z_iconst hC dX12_inRange_14 ?_
    exact z_bret hC hr rfl dX12_inRange_15 (Or.inl rfl) hf
  · replace hf := hf.2 hc
    refine z_iload_n hC dX12_inRange_5 0 rfl rfl ?_
    refine z_iload_n hC dX12_inRange_6 2 rfl rfl ?_
    obtain ⟨g3, hf⟩ := hf
    refine z_icmp_gt (tgt := 14) hC dX12_inRange_7 (by decide) g1 g3 (fun hc => ?_) (fun hc => ?_)
    · replace hf := hf.1 hc
      refine z_iconst hC dX12_inRange_14 ?_
      exact z_bret hC hr rfl dX12_inRange_15 (Or.inl rfl) hf
    · replace hf := hf.2 hc
      refine z_iconst hC dX12_inRange_10 ?_
      refine z_goto (tgt := 15) hC dX12_inRange_11 (by decide) ?_
      exact z_bret hC hr rfl dX12_inRange_15 (Or.inr rfl) hf

-- ===== X12_absolute
def fX12_absolute (K : Int → zSt → Prop) (σ : zSt) (x0 : Int) : Prop :=
  zrg x0 ∧ ((0 ≤ x0 → K x0 σ) ∧ (¬ 0 ≤ x0 → K (-x0) σ))
set_option maxHeartbeats 4000000 in
set_option maxRecDepth 100000 in
theorem mX12_absolute {D : va_G} {dA : Nat → ClassId} {ad : Nat → Nat}  (l : Launch) (hinj : ∀ i j, i < NM → j < NM → ad i = ad j → i = j) (sz : Nat) {K : Int → zSt → Prop} {σ : zSt} {x0 : Int} (hf : fX12_absolute K σ x0) : Met l yX12_absolute (Cond.code yX12_absolute cX12_absolute 1 (some .int) :: UW) ({ frames := 0, cells := 0, slots := 0, locals := 0 } : Room) (va_Pc [vI x0] (zPre D vwCl (tyA dA) zX0 NM ad (celM ad dA) sz σ)) (va_Qi (zPi K) (zB D vwCl (tyA dA) NM ad (celM ad dA)) (zA ad NM sz)) 0 0 (zA ad NM sz) := by
  refine z_enter (cc := cX12_absolute) (maxL := 1) (ret := (some .int)) (vs := [vI x0]) (plainFor_of_name (by decide)) rfl hinj (Nat.le_of_ble_eq_true rfl) ?_
  intro p e s m args below meth c hC hE hsz hr hnm
  show zAt p l e ({ frames := 0, cells := 0, slots := 0, locals := 0 } : Room) s m args below meth c 0 0 (MQ below (va_Qi (zPi K) (zB D vwCl (tyA dA) NM ad (celM ad dA)) (zA ad NM sz)) args s 0 0 (zA ad NM sz)) 1 D vwCl (zA ad NM sz) NM ad (celM ad dA) 0 [(0, vI x0)] [] σ
  refine z_iload_n hC dX12_absolute_0 0 rfl rfl ?_
  obtain ⟨g1, hf⟩ := hf
  refine z_if_ge (tgt := 9) hC dX12_absolute_1 (by decide) g1 (fun hc => ?_) (fun hc => ?_)
  · replace hf := hf.1 hc
    refine z_iload_n hC dX12_absolute_9 0 rfl rfl ?_
    exact z_iret hC hr rfl dX12_absolute_10 hf
  · replace hf := hf.2 hc
    refine z_iload_n hC dX12_absolute_4 0 rfl rfl ?_
    refine z_ineg hC dX12_absolute_5 ?_
    refine z_goto (tgt := 10) hC dX12_absolute_6 (by decide) ?_
    exact z_iret hC hr rfl dX12_absolute_10 hf

-- ===== X12_reset
noncomputable def fX12_reset_B2 (K : zSt → Prop) (n : Nat) : zSt → Int → Int → Prop :=
  Nat.rec (motive := fun _ => zSt → Int → Int → Prop) (fun _ _ _ => False) (fun _ ih σ x0 x1 => zrg x1 ∧ ((811 ≤ x1 → ∀ σ2, σ2 = zu σ x0 0 12 → ∀ σ3, σ3 = zu σ2 x0 1 8 → ∀ σ4, σ4 = zu σ3 x0 83 1 → ∀ σ5, σ5 = zu σ4 x0 84 2 → ∀ σ6, σ6 = zu σ5 x0 85 1 → ∀ σ7, σ7 = zu σ6 x0 86 2 → ∀ σ8, σ8 = zu σ7 x0 87 2 → ∀ σ9, σ9 = zu σ8 x0 88 100 → ∀ σ10, σ10 = zu σ9 x0 89 10 → ∀ σ11, σ11 = zu σ10 x0 90 50 → K σ11) ∧ (¬ 811 ≤ x1 → (0 ≤ x1 ∧ x1 < 811) ∧ ∀ σ13, σ13 = zu σ x0 x1 0 → ih σ13 x0 (x1 + 1)))) n
theorem uX12_reset_B2 (K : zSt → Prop) (n0 : Nat) (σ : zSt) (x0 : Int) (x1 : Int) : fX12_reset_B2 K (n0 + 1) σ x0 x1 = (zrg x1 ∧ ((811 ≤ x1 → ∀ σ2, σ2 = zu σ x0 0 12 → ∀ σ3, σ3 = zu σ2 x0 1 8 → ∀ σ4, σ4 = zu σ3 x0 83 1 → ∀ σ5, σ5 = zu σ4 x0 84 2 → ∀ σ6, σ6 = zu σ5 x0 85 1 → ∀ σ7, σ7 = zu σ6 x0 86 2 → ∀ σ8, σ8 = zu σ7 x0 87 2 → ∀ σ9, σ9 = zu σ8 x0 88 100 → ∀ σ10, σ10 = zu σ9 x0 89 10 → ∀ σ11, σ11 = zu σ10 x0 90 50 → K σ11) ∧ (¬ 811 ≤ x1 → (0 ≤ x1 ∧ x1 < 811) ∧ ∀ σ13, σ13 = zu σ x0 x1 0 → (fX12_reset_B2 K n0) σ13 x0 (x1 + 1)))) := rfl
def fX12_reset (K : zSt → Prop) (σ : zSt) (x0 : Int) : Prop :=
  kM x0 = 30 ∧ (∃ n, fX12_reset_B2 K n σ x0 0)
set_option maxHeartbeats 4000000 in
set_option maxRecDepth 100000 in
theorem wX12_reset_B2 {p : Program} {l : Launch} {e : Env} {s : State} {m : MethodId} {args : Array Value} {below : List Frame} {meth : Method} {c : Code} {D : va_G} {dA : Nat → ClassId} {ad : Nat → Nat} {sz : Nat}  {K : zSt → Prop} (hC : zC p m c cX12_reset 2 s args (Cond.code yX12_reset cX12_reset 2 none :: UW) RX12 meth D vwCl (tyA dA) (zA ad NM sz) NM ad (celM ad dA)) (hE : zE zX0 (zA ad NM sz) s s.heap) (hr : meth.sig.returnType = none) (hinj : ∀ i j, i < NM → j < NM → ad i = ad j → i = j) : ∀ (n : Nat) (σ : zSt) (x0 : Int) (x1 : Int) (qx0 : kM x0 = 30), fX12_reset_B2 K n σ x0 x1 → zAt p l e ({ frames := 0, cells := 0, slots := 0, locals := 0 } : Room) s m args below meth c 0 0 (MQ below (va_Qv K (zB D vwCl (tyA dA) NM ad (celM ad dA)) (zA ad NM sz)) args s 0 0 (zA ad NM sz)) 2 D vwCl (zA ad NM sz) NM ad (celM ad dA) 2 [(0, vR ad x0), (1, vI x1)] [] σ := by
  intro n
  induction n with
  | zero => intro σ x0 x1 qx0 hf; exact False.elim hf
  | succ n ih =>
    intro σ x0 x1 qx0 hf
    rw [uX12_reset_B2] at hf
    refine z_iload_n hC dX12_reset_2 1 rfl rfl ?_
    refine z_sipush hC dX12_reset_3 (by decide) ?_
    obtain ⟨g1, hf⟩ := hf
    refine z_icmp_ge (tgt := 19) hC dX12_reset_6 (by decide) g1 (zlit rfl rfl) (fun hc => ?_) (fun hc => ?_)
    · replace hf := hf.1 hc
      refine z_aload_n hC dX12_reset_19 0 rfl rfl ?_
      refine z_iconst hC dX12_reset_20 ?_
      refine z_bipush hC dX12_reset_21 (by decide) ?_
      refine z_iastore hC (aM_30 qx0) (loM' qx0 (by decide)) ⟨by decide, by decide⟩ dX12_reset_23 ?_
      obtain ⟨σ2, eσ2⟩ : ∃ z : zSt, z = zu σ x0 0 12 := ⟨_, rfl⟩
      rw [← eσ2]
      replace hf := hf σ2 eσ2
      refine z_aload_n hC dX12_reset_24 0 rfl rfl ?_
      refine z_iconst hC dX12_reset_25 ?_
      refine z_bipush hC dX12_reset_26 (by decide) ?_
      refine z_iastore hC (aM_30 qx0) (loM' qx0 (by decide)) ⟨by decide, by decide⟩ dX12_reset_28 ?_
      obtain ⟨σ3, eσ3⟩ : ∃ z : zSt, z = zu σ2 x0 1 8 := ⟨_, rfl⟩
      rw [← eσ3]
      replace hf := hf σ3 eσ3
      refine z_aload_n hC dX12_reset_29 0 rfl rfl ?_
      refine z_bipush hC dX12_reset_30 (by decide) ?_
      refine z_iconst hC dX12_reset_32 ?_
      refine z_iastore hC (aM_30 qx0) (loM' qx0 (by decide)) ⟨by decide, by decide⟩ dX12_reset_33 ?_
      obtain ⟨σ4, eσ4⟩ : ∃ z : zSt, z = zu σ3 x0 83 1 := ⟨_, rfl⟩
      rw [← eσ4]
      replace hf := hf σ4 eσ4
      refine z_aload_n hC dX12_reset_34 0 rfl rfl ?_
      refine z_bipush hC dX12_reset_35 (by decide) ?_
      refine z_iconst hC dX12_reset_37 ?_
      refine z_iastore hC (aM_30 qx0) (loM' qx0 (by decide)) ⟨by decide, by decide⟩ dX12_reset_38 ?_
      obtain ⟨σ5, eσ5⟩ : ∃ z : zSt, z = zu σ4 x0 84 2 := ⟨_, rfl⟩
      rw [← eσ5]
      replace hf := hf σ5 eσ5
      refine z_aload_n hC dX12_reset_39 0 rfl rfl ?_
      refine z_bipush hC dX12_reset_40 (by decide) ?_
      refine z_iconst hC dX12_reset_42 ?_
      refine z_iastore hC (aM_30 qx0) (loM' qx0 (by decide)) ⟨by decide, by decide⟩ dX12_reset_43 ?_
      obtain ⟨σ6, eσ6⟩ : ∃ z : zSt, z = zu σ5 x0 85 1 := ⟨_, rfl⟩
      rw [← eσ6]
      replace hf := hf σ6 eσ6
      refine z_aload_n hC dX12_reset_44 0 rfl rfl ?_
      refine z_bipush hC dX12_reset_45 (by decide) ?_
      refine z_iconst hC dX12_reset_47 ?_
      refine z_iastore hC (aM_30 qx0) (loM' qx0 (by decide)) ⟨by decide, by decide⟩ dX12_reset_48 ?_
      obtain ⟨σ7, eσ7⟩ : ∃ z : zSt, z = zu σ6 x0 86 2 := ⟨_, rfl⟩
      rw [← eσ7]
      replace hf := hf σ7 eσ7
      refine z_aload_n hC dX12_reset_49 0 rfl rfl ?_
      refine z_bipush hC dX12_reset_50 (by decide) ?_
      refine z_iconst hC dX12_reset_52 ?_
      refine z_iastore hC (aM_30 qx0) (loM' qx0 (by decide)) ⟨by decide, by decide⟩ dX12_reset_53 ?_
      obtain ⟨σ8, eσ8⟩ : ∃ z : zSt, z = zu σ7 x0 87 2 := ⟨_, rfl⟩
      rw [← eσ8]
      replace hf := hf σ8 eσ8
      refine z_aload_n hC dX12_reset_54 0 rfl rfl ?_
      refine z_bipush hC dX12_reset_55 (by decide) ?_
      refine z_bipush hC dX12_reset_57 (by decide) ?_
      refine z_iastore hC (aM_30 qx0) (loM' qx0 (by decide)) ⟨by decide, by decide⟩ dX12_reset_59 ?_
      obtain ⟨σ9, eσ9⟩ : ∃ z : zSt, z = zu σ8 x0 88 100 := ⟨_, rfl⟩
      rw [← eσ9]
      replace hf := hf σ9 eσ9
      refine z_aload_n hC dX12_reset_60 0 rfl rfl ?_
      refine z_bipush hC dX12_reset_61 (by decide) ?_
      refine z_bipush hC dX12_reset_63 (by decide) ?_
      refine z_iastore hC (aM_30 qx0) (loM' qx0 (by decide)) ⟨by decide, by decide⟩ dX12_reset_65 ?_
      obtain ⟨σ10, eσ10⟩ : ∃ z : zSt, z = zu σ9 x0 89 10 := ⟨_, rfl⟩
      rw [← eσ10]
      replace hf := hf σ10 eσ10
      refine z_aload_n hC dX12_reset_66 0 rfl rfl ?_
      refine z_bipush hC dX12_reset_67 (by decide) ?_
      refine z_bipush hC dX12_reset_69 (by decide) ?_
      refine z_iastore hC (aM_30 qx0) (loM' qx0 (by decide)) ⟨by decide, by decide⟩ dX12_reset_71 ?_
      obtain ⟨σ11, eσ11⟩ : ∃ z : zSt, z = zu σ10 x0 90 50 := ⟨_, rfl⟩
      rw [← eσ11]
      replace hf := hf σ11 eσ11
      exact z_vret hC hr rfl dX12_reset_72 hf
    · replace hf := hf.2 hc
      refine z_aload_n hC dX12_reset_9 0 rfl rfl ?_
      refine z_iload_n hC dX12_reset_10 1 rfl rfl ?_
      refine z_iconst hC dX12_reset_11 ?_
      obtain ⟨g12, hf⟩ := hf
      refine z_iastore hC (aM_30 qx0) (loM' qx0 (by decide)) g12 dX12_reset_12 ?_
      obtain ⟨σ13, eσ13⟩ : ∃ z : zSt, z = zu σ x0 x1 0 := ⟨_, rfl⟩
      rw [← eσ13]
      replace hf := hf σ13 eσ13
      refine z_iinc hC ([(1, vI (x1 + 1)), (0, vR ad x0)]) dX12_reset_13 1 rfl (by decide) rfl ?_
      refine z_goto (tgt := 2) hC dX12_reset_16 (by decide) ?_
      refine z_sub (lv' := [(0, vR ad x0), (1, vI (x1 + 1))]) [1, 0] rfl ?_
      exact ih _ _ _ qx0 hf
set_option maxHeartbeats 4000000 in
set_option maxRecDepth 100000 in
theorem mX12_reset {D : va_G} {dA : Nat → ClassId} {ad : Nat → Nat}  (l : Launch) (hinj : ∀ i j, i < NM → j < NM → ad i = ad j → i = j) (sz : Nat) {K : zSt → Prop} {σ : zSt} {x0 : Int} (hf : fX12_reset K σ x0) : Met l yX12_reset (Cond.code yX12_reset cX12_reset 2 none :: UW) ({ frames := 0, cells := 0, slots := 0, locals := 0 } : Room) (va_Pc [vR ad x0] (zPre D vwCl (tyA dA) zX0 NM ad (celM ad dA) sz σ)) (va_Qv K (zB D vwCl (tyA dA) NM ad (celM ad dA)) (zA ad NM sz)) 0 0 (zA ad NM sz) := by
  refine z_enter (cc := cX12_reset) (maxL := 2) (ret := none) (vs := [vR ad x0]) (plainFor_of_name (by decide)) rfl hinj (Nat.le_of_ble_eq_true rfl) ?_
  intro p e s m args below meth c hC hE hsz hr hnm
  obtain ⟨qx0, hf⟩ := hf
  show zAt p l e ({ frames := 0, cells := 0, slots := 0, locals := 0 } : Room) s m args below meth c 0 0 (MQ below (va_Qv K (zB D vwCl (tyA dA) NM ad (celM ad dA)) (zA ad NM sz)) args s 0 0 (zA ad NM sz)) 2 D vwCl (zA ad NM sz) NM ad (celM ad dA) 0 [(0, vR ad x0)] [] σ
  refine z_iconst hC dX12_reset_0 ?_
  refine z_istore_n hC ([(1, vI 0), (0, vR ad x0)]) dX12_reset_1 rfl (by decide) rfl ?_
  refine z_sub (lv' := [(0, vR ad x0), (1, vI 0)]) [1, 0] rfl ?_
  obtain ⟨n, hf⟩ := hf
  exact wX12_reset_B2 hC hE hr hinj n _ _ _ qx0 hf

-- ===== X12_leastOf
def fX12_leastOf (K : Int → zSt → Prop) (σ : zSt) (x0 : Int) : Prop :=
  zrg x0 ∧ ((x0 = 1 → K 1 σ) ∧ (¬ x0 = 1 → ((x0 = 5 → K 1 σ) ∧ (¬ x0 = 5 → ((x0 = 6 → K 1 σ) ∧ (¬ x0 = 6 → K 0 σ))))))
set_option maxHeartbeats 4000000 in
set_option maxRecDepth 100000 in
theorem mX12_leastOf {D : va_G} {dA : Nat → ClassId} {ad : Nat → Nat}  (l : Launch) (hinj : ∀ i j, i < NM → j < NM → ad i = ad j → i = j) (sz : Nat) {K : Int → zSt → Prop} {σ : zSt} {x0 : Int} (hf : fX12_leastOf K σ x0) : Met l yX12_leastOf (Cond.code yX12_leastOf cX12_leastOf 1 (some .int) :: UW) ({ frames := 0, cells := 0, slots := 0, locals := 0 } : Room) (va_Pc [vI x0] (zPre D vwCl (tyA dA) zX0 NM ad (celM ad dA) sz σ)) (va_Qi (zPi K) (zB D vwCl (tyA dA) NM ad (celM ad dA)) (zA ad NM sz)) 0 0 (zA ad NM sz) := by
  refine z_enter (cc := cX12_leastOf) (maxL := 1) (ret := (some .int)) (vs := [vI x0]) (plainFor_of_name (by decide)) rfl hinj (Nat.le_of_ble_eq_true rfl) ?_
  intro p e s m args below meth c hC hE hsz hr hnm
  show zAt p l e ({ frames := 0, cells := 0, slots := 0, locals := 0 } : Room) s m args below meth c 0 0 (MQ below (va_Qi (zPi K) (zB D vwCl (tyA dA) NM ad (celM ad dA)) (zA ad NM sz)) args s 0 0 (zA ad NM sz)) 1 D vwCl (zA ad NM sz) NM ad (celM ad dA) 0 [(0, vI x0)] [] σ
  refine z_iload_n hC dX12_leastOf_0 0 rfl rfl ?_
  refine z_iconst hC dX12_leastOf_1 ?_
  obtain ⟨g1, hf⟩ := hf
  refine z_icmp_eq (tgt := 16) hC dX12_leastOf_2 (by decide) g1 (zlit rfl rfl) (fun hc => ?_) (fun hc => ?_)
  · replace hf := hf.1 hc
    refine z_iconst hC dX12_leastOf_16 ?_
    refine z_goto (tgt := 21) hC dX12_leastOf_17 (by decide) ?_
    exact z_iret hC hr rfl dX12_leastOf_21 hf
  · replace hf := hf.2 hc
    refine z_iload_n hC dX12_leastOf_5 0 rfl rfl ?_
    refine z_iconst hC dX12_leastOf_6 ?_
    refine z_icmp_eq (tgt := 16) hC dX12_leastOf_7 (by decide) g1 (zlit rfl rfl) (fun hc => ?_) (fun hc => ?_)
    · replace hf := hf.1 hc
      refine z_iconst hC dX12_leastOf_16 ?_
      refine z_goto (tgt := 21) hC dX12_leastOf_17 (by decide) ?_
      exact z_iret hC hr rfl dX12_leastOf_21 hf
    · replace hf := hf.2 hc
      refine z_iload_n hC dX12_leastOf_10 0 rfl rfl ?_
      refine z_bipush hC dX12_leastOf_11 (by decide) ?_
      refine z_icmp_ne (tgt := 20) hC dX12_leastOf_13 (by decide) g1 (zlit rfl rfl) (fun hc => ?_) (fun hc => ?_)
      · replace hf := hf.2 hc
        refine z_iconst hC dX12_leastOf_20 ?_
        exact z_iret hC hr rfl dX12_leastOf_21 hf
      · replace hf := hf.1 hc
        refine z_iconst hC dX12_leastOf_16 ?_
        refine z_goto (tgt := 21) hC dX12_leastOf_17 (by decide) ?_
        exact z_iret hC hr rfl dX12_leastOf_21 hf

-- ===== X12_mostOf
def fX12_mostOf (K : Int → zSt → Prop) (σ : zSt) (x0 : Int) : Prop :=
  zrg x0 ∧ ((x0 = 0 → K 2 σ) ∧ (x0 = 1 → K 4 σ) ∧ (x0 = 2 → K 3 σ) ∧ (x0 = 3 → K 9 σ) ∧ (x0 = 4 → K 9 σ) ∧ (x0 = 5 → K 1000 σ) ∧ (x0 = 6 → K 999 σ) ∧ ((x0 < 0 ∨ 6 < x0) → K 9999 σ))
set_option maxHeartbeats 4000000 in
set_option maxRecDepth 100000 in
theorem mX12_mostOf {D : va_G} {dA : Nat → ClassId} {ad : Nat → Nat}  (l : Launch) (hinj : ∀ i j, i < NM → j < NM → ad i = ad j → i = j) (sz : Nat) {K : Int → zSt → Prop} {σ : zSt} {x0 : Int} (hf : fX12_mostOf K σ x0) : Met l yX12_mostOf (Cond.code yX12_mostOf cX12_mostOf 1 (some .int) :: UW) ({ frames := 0, cells := 0, slots := 0, locals := 0 } : Room) (va_Pc [vI x0] (zPre D vwCl (tyA dA) zX0 NM ad (celM ad dA) sz σ)) (va_Qi (zPi K) (zB D vwCl (tyA dA) NM ad (celM ad dA)) (zA ad NM sz)) 0 0 (zA ad NM sz) := by
  refine z_enter (cc := cX12_mostOf) (maxL := 1) (ret := (some .int)) (vs := [vI x0]) (plainFor_of_name (by decide)) rfl hinj (Nat.le_of_ble_eq_true rfl) ?_
  intro p e s m args below meth c hC hE hsz hr hnm
  show zAt p l e ({ frames := 0, cells := 0, slots := 0, locals := 0 } : Room) s m args below meth c 0 0 (MQ below (va_Qi (zPi K) (zB D vwCl (tyA dA) NM ad (celM ad dA)) (zA ad NM sz)) args s 0 0 (zA ad NM sz)) 1 D vwCl (zA ad NM sz) NM ad (celM ad dA) 0 [(0, vI x0)] [] σ
  refine z_iload_n hC dX12_mostOf_0 0 rfl rfl ?_
  obtain ⟨g1, hf⟩ := hf
  have hsw : x0 = 0 ∨ x0 = 1 ∨ x0 = 2 ∨ x0 = 3 ∨ x0 = 4 ∨ x0 = 5 ∨ x0 = 6 ∨ (x0 < 0 ∨ 6 < x0) := by omega
  rcases hsw with hc | hc | hc | hc | hc | hc | hc | hc
  · replace hf := hf.1 hc
    refine z_tsi (tgt := 44) hC dX12_mostOf_1 g1 (0) hc (by decide) (by decide) rfl (by decide) ?_
    refine z_iconst hC dX12_mostOf_44 ?_
    exact z_iret hC hr rfl dX12_mostOf_45 hf
  · replace hf := hf.2.1 hc
    refine z_tsi (tgt := 46) hC dX12_mostOf_1 g1 (1) hc (by decide) (by decide) rfl (by decide) ?_
    refine z_iconst hC dX12_mostOf_46 ?_
    exact z_iret hC hr rfl dX12_mostOf_47 hf
  · replace hf := hf.2.2.1 hc
    refine z_tsi (tgt := 48) hC dX12_mostOf_1 g1 (2) hc (by decide) (by decide) rfl (by decide) ?_
    refine z_iconst hC dX12_mostOf_48 ?_
    exact z_iret hC hr rfl dX12_mostOf_49 hf
  · replace hf := hf.2.2.2.1 hc
    refine z_tsi (tgt := 50) hC dX12_mostOf_1 g1 (3) hc (by decide) (by decide) rfl (by decide) ?_
    refine z_bipush hC dX12_mostOf_50 (by decide) ?_
    exact z_iret hC hr rfl dX12_mostOf_52 hf
  · replace hf := hf.2.2.2.2.1 hc
    refine z_tsi (tgt := 50) hC dX12_mostOf_1 g1 (4) hc (by decide) (by decide) rfl (by decide) ?_
    refine z_bipush hC dX12_mostOf_50 (by decide) ?_
    exact z_iret hC hr rfl dX12_mostOf_52 hf
  · replace hf := hf.2.2.2.2.2.1 hc
    refine z_tsi (tgt := 53) hC dX12_mostOf_1 g1 (5) hc (by decide) (by decide) rfl (by decide) ?_
    refine z_sipush hC dX12_mostOf_53 (by decide) ?_
    exact z_iret hC hr rfl dX12_mostOf_56 hf
  · replace hf := hf.2.2.2.2.2.2.1 hc
    refine z_tsi (tgt := 57) hC dX12_mostOf_1 g1 (6) hc (by decide) (by decide) rfl (by decide) ?_
    refine z_sipush hC dX12_mostOf_57 (by decide) ?_
    exact z_iret hC hr rfl dX12_mostOf_60 hf
  · replace hf := hf.2.2.2.2.2.2.2 hc
    refine z_tso (tgt := 61) hC dX12_mostOf_1 g1 hc (by decide) ?_
    refine z_sipush hC dX12_mostOf_61 (by decide) ?_
    exact z_iret hC hr rfl dX12_mostOf_64 hf

-- ===== X12_remember
noncomputable def fX12_remember_B54 (K : zSt → Prop) (n : Nat) : zSt → Int → Prop :=
  Nat.rec (motive := fun _ => zSt → Int → Prop) (fun _ _ => False) (fun _ ih σ x1 => zrg x1 ∧ ((811 ≤ x1 → ∀ σ3, σ3 = zu σ 0 3 ((σ 0 3) + 1) → K σ3) ∧ (¬ 811 ≤ x1 → (0 ≤ x1 ∧ x1 < 811) ∧ (0 ≤ ((σ 0 3) * 811) + x1 ∧ ((σ 0 3) * 811) + x1 < 8110) ∧ ∀ σ6, σ6 = zu σ 3 (((σ 0 3) * 811) + x1) (σ 1 x1) → ih σ6 (x1 + 1)))) n
theorem uX12_remember_B54 (K : zSt → Prop) (n0 : Nat) (σ : zSt) (x1 : Int) : fX12_remember_B54 K (n0 + 1) σ x1 = (zrg x1 ∧ ((811 ≤ x1 → ∀ σ3, σ3 = zu σ 0 3 ((σ 0 3) + 1) → K σ3) ∧ (¬ 811 ≤ x1 → (0 ≤ x1 ∧ x1 < 811) ∧ (0 ≤ ((σ 0 3) * 811) + x1 ∧ ((σ 0 3) * 811) + x1 < 8110) ∧ ∀ σ6, σ6 = zu σ 3 (((σ 0 3) * 811) + x1) (σ 1 x1) → (fX12_remember_B54 K n0) σ6 (x1 + 1)))) := rfl
noncomputable def fX12_remember_B13 (K : zSt → Prop) (n : Nat) : zSt → Int → Prop :=
  Nat.rec (motive := fun _ => zSt → Int → Prop) (fun _ _ => False) (fun _ ih σ x1 => zrg x1 ∧ ((8110 ≤ x1 → ∀ σ8, σ8 = zu σ 0 3 ((σ 0 3) - 1) → (∃ n, fX12_remember_B54 K n σ8 0)) ∧ (¬ 8110 ≤ x1 → (0 ≤ x1 ∧ x1 < 8110) ∧ (0 ≤ x1 - 811 ∧ x1 - 811 < 8110) ∧ ∀ σ11, σ11 = zu σ 3 (x1 - 811) (σ 3 x1) → ih σ11 (x1 + 1)))) n
theorem uX12_remember_B13 (K : zSt → Prop) (n0 : Nat) (σ : zSt) (x1 : Int) : fX12_remember_B13 K (n0 + 1) σ x1 = (zrg x1 ∧ ((8110 ≤ x1 → ∀ σ8, σ8 = zu σ 0 3 ((σ 0 3) - 1) → (∃ n, fX12_remember_B54 K n σ8 0)) ∧ (¬ 8110 ≤ x1 → (0 ≤ x1 ∧ x1 < 8110) ∧ (0 ≤ x1 - 811 ∧ x1 - 811 < 8110) ∧ ∀ σ11, σ11 = zu σ 3 (x1 - 811) (σ 3 x1) → (fX12_remember_B13 K n0) σ11 (x1 + 1)))) := rfl
def fX12_remember (K : zSt → Prop) (σ : zSt) : Prop :=
  zrg (σ 0 3) ∧ ((σ 0 3 = 10 → (∃ n, fX12_remember_B13 K n σ 811)) ∧ (¬ σ 0 3 = 10 → (∃ n, fX12_remember_B54 K n σ 0)))
set_option maxHeartbeats 4000000 in
set_option maxRecDepth 100000 in
theorem wX12_remember_B54 {p : Program} {l : Launch} {e : Env} {s : State} {m : MethodId} {args : Array Value} {below : List Frame} {meth : Method} {c : Code} {D : va_G} {dA : Nat → ClassId} {ad : Nat → Nat} {sz : Nat}  {K : zSt → Prop} (hC : zC p m c cX12_remember 2 s args (Cond.code yX12_remember cX12_remember 2 none :: UW) RX12 meth D vwCl (tyA dA) (zA ad NM sz) NM ad (celM ad dA)) (hE : zE zX0 (zA ad NM sz) s s.heap) (hr : meth.sig.returnType = none) (hinj : ∀ i j, i < NM → j < NM → ad i = ad j → i = j) : ∀ (n : Nat) (σ : zSt) (x1 : Int), fX12_remember_B54 K n σ x1 → zAt p l e ({ frames := 0, cells := 0, slots := 0, locals := 0 } : Room) s m args below meth c 0 0 (MQ below (va_Qv K (zB D vwCl (tyA dA) NM ad (celM ad dA)) (zA ad NM sz)) args s 0 0 (zA ad NM sz)) 2 D vwCl (zA ad NM sz) NM ad (celM ad dA) 54 [(0, vR ad 0), (1, vI x1)] [] σ := by
  intro n
  induction n with
  | zero => intro σ x1  hf; exact False.elim hf
  | succ n ih =>
    intro σ x1  hf
    rw [uX12_remember_B54] at hf
    refine z_iload_n hC dX12_remember_54 1 rfl rfl ?_
    refine z_sipush hC dX12_remember_55 (by decide) ?_
    obtain ⟨g2, hf⟩ := hf
    refine z_icmp_ge (tgt := 88) hC dX12_remember_58 (by decide) g2 (zlit rfl rfl) (fun hc => ?_) (fun hc => ?_)
    · replace hf := hf.1 hc
      refine z_aload_n hC dX12_remember_88 0 rfl rfl ?_
      refine z_dup hC dX12_remember_89 rfl ?_
      refine z_get hC (fun w h => uT _ w (uL12 w h)) (oM_12 (show kM 0 = 12 by decide)) 3 (by decide) (uT _ _ u1548) rfl rfl dX12_remember_90 ?_
      refine z_iconst hC dX12_remember_93 ?_
      refine z_iadd hC dX12_remember_94 ?_
      refine z_put hC (ty := .int) tyX12 tyX12_ok nmX12 (fun w h => uT _ w (uL12 w h)) (oM_12 (show kM 0 = 12 by decide)) (loM' (show kM 0 = 12 by decide) (by decide)) 3 (by decide) (uT _ _ u1548) rfl rfl (3) ((σ 0 3) + 1) (by simp [zu]) (by decide +kernel) rfl rfl (Nat.le_of_ble_eq_true rfl) dX12_remember_95 ?_
      obtain ⟨σ3, eσ3⟩ : ∃ z : zSt, z = zu σ 0 3 ((σ 0 3) + 1) := ⟨_, rfl⟩
      rw [← eσ3]
      replace hf := hf σ3 eσ3
      exact z_vret hC hr rfl dX12_remember_98 hf
    · replace hf := hf.2 hc
      refine z_aload_n hC dX12_remember_61 0 rfl rfl ?_
      refine z_get hC (fun w h => uT _ w (uL12 w h)) (oM_12 (show kM 0 = 12 by decide)) 2 (by decide) (uT _ _ u1547) rfl rfl dX12_remember_62 ?_
      refine z_aload_n hC dX12_remember_65 0 rfl rfl ?_
      refine z_get hC (fun w h => uT _ w (uL12 w h)) (oM_12 (show kM 0 = 12 by decide)) 3 (by decide) (uT _ _ u1548) rfl rfl dX12_remember_66 ?_
      refine z_sipush hC dX12_remember_69 (by decide) ?_
      refine z_imul hC dX12_remember_72 ?_
      refine z_iload_n hC dX12_remember_73 1 rfl rfl ?_
      refine z_iadd hC dX12_remember_74 ?_
      refine z_aload_n hC dX12_remember_75 0 rfl rfl ?_
      refine z_get hC (fun w h => uT _ w (uL12 w h)) (oM_12 (show kM 0 = 12 by decide)) 0 (by decide) (uT _ _ u1545) rfl rfl dX12_remember_76 ?_
      refine z_iload_n hC dX12_remember_79 1 rfl rfl ?_
      obtain ⟨g4, hf⟩ := hf
      refine z_iaload hC (aM_30 (show kM 1 = 30 by decide)) g4 dX12_remember_80 ?_
      obtain ⟨g5, hf⟩ := hf
      refine z_iastore hC (aM_31 (show kM 3 = 31 by decide)) (loM' (show kM 3 = 31 by decide) (by decide)) g5 dX12_remember_81 ?_
      obtain ⟨σ6, eσ6⟩ : ∃ z : zSt, z = zu σ 3 (((σ 0 3) * 811) + x1) (σ 1 x1) := ⟨_, rfl⟩
      rw [← eσ6]
      replace hf := hf σ6 eσ6
      refine z_iinc hC ([(1, vI (x1 + 1)), (0, vR ad 0)]) dX12_remember_82 1 rfl (by decide) rfl ?_
      refine z_goto (tgt := 54) hC dX12_remember_85 (by decide) ?_
      refine z_sub (lv' := [(0, vR ad 0), (1, vI (x1 + 1))]) [1, 0] rfl ?_
      exact ih _ _ hf
set_option maxHeartbeats 4000000 in
set_option maxRecDepth 100000 in
theorem wX12_remember_B13 {p : Program} {l : Launch} {e : Env} {s : State} {m : MethodId} {args : Array Value} {below : List Frame} {meth : Method} {c : Code} {D : va_G} {dA : Nat → ClassId} {ad : Nat → Nat} {sz : Nat}  {K : zSt → Prop} (hC : zC p m c cX12_remember 2 s args (Cond.code yX12_remember cX12_remember 2 none :: UW) RX12 meth D vwCl (tyA dA) (zA ad NM sz) NM ad (celM ad dA)) (hE : zE zX0 (zA ad NM sz) s s.heap) (hr : meth.sig.returnType = none) (hinj : ∀ i j, i < NM → j < NM → ad i = ad j → i = j) : ∀ (n : Nat) (σ : zSt) (x1 : Int), fX12_remember_B13 K n σ x1 → zAt p l e ({ frames := 0, cells := 0, slots := 0, locals := 0 } : Room) s m args below meth c 0 0 (MQ below (va_Qv K (zB D vwCl (tyA dA) NM ad (celM ad dA)) (zA ad NM sz)) args s 0 0 (zA ad NM sz)) 2 D vwCl (zA ad NM sz) NM ad (celM ad dA) 13 [(0, vR ad 0), (1, vI x1)] [] σ := by
  intro n
  induction n with
  | zero => intro σ x1  hf; exact False.elim hf
  | succ n ih =>
    intro σ x1  hf
    rw [uX12_remember_B13] at hf
    refine z_iload_n hC dX12_remember_13 1 rfl rfl ?_
    refine z_sipush hC dX12_remember_14 (by decide) ?_
    obtain ⟨g7, hf⟩ := hf
    refine z_icmp_ge (tgt := 42) hC dX12_remember_17 (by decide) g7 (zlit rfl rfl) (fun hc => ?_) (fun hc => ?_)
    · replace hf := hf.1 hc
      refine z_aload_n hC dX12_remember_42 0 rfl rfl ?_
      refine z_dup hC dX12_remember_43 rfl ?_
      refine z_get hC (fun w h => uT _ w (uL12 w h)) (oM_12 (show kM 0 = 12 by decide)) 3 (by decide) (uT _ _ u1548) rfl rfl dX12_remember_44 ?_
      refine z_iconst hC dX12_remember_47 ?_
      refine z_isub hC dX12_remember_48 ?_
      refine z_put hC (ty := .int) tyX12 tyX12_ok nmX12 (fun w h => uT _ w (uL12 w h)) (oM_12 (show kM 0 = 12 by decide)) (loM' (show kM 0 = 12 by decide) (by decide)) 3 (by decide) (uT _ _ u1548) rfl rfl (3) ((σ 0 3) - 1) (by simp [zu]) (by decide +kernel) rfl rfl (Nat.le_of_ble_eq_true rfl) dX12_remember_49 ?_
      obtain ⟨σ8, eσ8⟩ : ∃ z : zSt, z = zu σ 0 3 ((σ 0 3) - 1) := ⟨_, rfl⟩
      rw [← eσ8]
      replace hf := hf σ8 eσ8
      refine z_iconst hC dX12_remember_52 ?_
      refine z_istore_n hC ([(1, vI 0), (0, vR ad 0)]) dX12_remember_53 rfl (by decide) rfl ?_
      refine z_sub (lv' := [(0, vR ad 0), (1, vI 0)]) [1, 0] rfl ?_
      obtain ⟨n, hf⟩ := hf
      exact wX12_remember_B54 hC hE hr hinj n _ _ hf
    · replace hf := hf.2 hc
      refine z_aload_n hC dX12_remember_20 0 rfl rfl ?_
      refine z_get hC (fun w h => uT _ w (uL12 w h)) (oM_12 (show kM 0 = 12 by decide)) 2 (by decide) (uT _ _ u1547) rfl rfl dX12_remember_21 ?_
      refine z_iload_n hC dX12_remember_24 1 rfl rfl ?_
      refine z_sipush hC dX12_remember_25 (by decide) ?_
      refine z_isub hC dX12_remember_28 ?_
      refine z_aload_n hC dX12_remember_29 0 rfl rfl ?_
      refine z_get hC (fun w h => uT _ w (uL12 w h)) (oM_12 (show kM 0 = 12 by decide)) 2 (by decide) (uT _ _ u1547) rfl rfl dX12_remember_30 ?_
      refine z_iload_n hC dX12_remember_33 1 rfl rfl ?_
      obtain ⟨g9, hf⟩ := hf
      refine z_iaload hC (aM_31 (show kM 3 = 31 by decide)) g9 dX12_remember_34 ?_
      obtain ⟨g10, hf⟩ := hf
      refine z_iastore hC (aM_31 (show kM 3 = 31 by decide)) (loM' (show kM 3 = 31 by decide) (by decide)) g10 dX12_remember_35 ?_
      obtain ⟨σ11, eσ11⟩ : ∃ z : zSt, z = zu σ 3 (x1 - 811) (σ 3 x1) := ⟨_, rfl⟩
      rw [← eσ11]
      replace hf := hf σ11 eσ11
      refine z_iinc hC ([(1, vI (x1 + 1)), (0, vR ad 0)]) dX12_remember_36 1 rfl (by decide) rfl ?_
      refine z_goto (tgt := 13) hC dX12_remember_39 (by decide) ?_
      refine z_sub (lv' := [(0, vR ad 0), (1, vI (x1 + 1))]) [1, 0] rfl ?_
      exact ih _ _ hf
set_option maxHeartbeats 4000000 in
set_option maxRecDepth 100000 in
theorem mX12_remember {D : va_G} {dA : Nat → ClassId} {ad : Nat → Nat}  (l : Launch) (hinj : ∀ i j, i < NM → j < NM → ad i = ad j → i = j) (sz : Nat) {K : zSt → Prop} {σ : zSt} (hf : fX12_remember K σ ) : Met l yX12_remember (Cond.code yX12_remember cX12_remember 2 none :: UW) ({ frames := 0, cells := 0, slots := 0, locals := 0 } : Room) (va_Pc [vR ad 0] (zPre D vwCl (tyA dA) zX0 NM ad (celM ad dA) sz σ)) (va_Qv K (zB D vwCl (tyA dA) NM ad (celM ad dA)) (zA ad NM sz)) 0 0 (zA ad NM sz) := by
  refine z_enter (cc := cX12_remember) (maxL := 2) (ret := none) (vs := [vR ad 0]) (plainFor_of_name (by decide)) rfl hinj (Nat.le_of_ble_eq_true rfl) ?_
  intro p e s m args below meth c hC hE hsz hr hnm
  show zAt p l e ({ frames := 0, cells := 0, slots := 0, locals := 0 } : Room) s m args below meth c 0 0 (MQ below (va_Qv K (zB D vwCl (tyA dA) NM ad (celM ad dA)) (zA ad NM sz)) args s 0 0 (zA ad NM sz)) 2 D vwCl (zA ad NM sz) NM ad (celM ad dA) 0 [(0, vR ad 0)] [] σ
  refine z_aload_n hC dX12_remember_0 0 rfl rfl ?_
  refine z_get hC (fun w h => uT _ w (uL12 w h)) (oM_12 (show kM 0 = 12 by decide)) 3 (by decide) (uT _ _ u1548) rfl rfl dX12_remember_1 ?_
  refine z_bipush hC dX12_remember_4 (by decide) ?_
  obtain ⟨g1, hf⟩ := hf
  refine z_icmp_ne (tgt := 52) hC dX12_remember_6 (by decide) g1 (zlit rfl rfl) (fun hc => ?_) (fun hc => ?_)
  · replace hf := hf.2 hc
    refine z_iconst hC dX12_remember_52 ?_
    refine z_istore_n hC ([(1, vI 0), (0, vR ad 0)]) dX12_remember_53 rfl (by decide) rfl ?_
    refine z_sub (lv' := [(0, vR ad 0), (1, vI 0)]) [1, 0] rfl ?_
    obtain ⟨n, hf⟩ := hf
    exact wX12_remember_B54 hC hE hr hinj n _ _ hf
  · replace hf := hf.1 hc
    refine z_sipush hC dX12_remember_9 (by decide) ?_
    refine z_istore_n hC ([(1, vI 811), (0, vR ad 0)]) dX12_remember_12 rfl (by decide) rfl ?_
    refine z_sub (lv' := [(0, vR ad 0), (1, vI 811)]) [1, 0] rfl ?_
    obtain ⟨n, hf⟩ := hf
    exact wX12_remember_B13 hC hE hr hinj n _ _ hf

-- ===== X12_undo
noncomputable def fX12_undo_B26 (K : Int → zSt → Prop) (n : Nat) : zSt → Int → Prop :=
  Nat.rec (motive := fun _ => zSt → Int → Prop) (fun _ _ => False) (fun _ ih σ x1 => zrg x1 ∧ ((811 ≤ x1 → K (σ 0 3) σ) ∧ (¬ 811 ≤ x1 → (0 ≤ ((σ 0 3) * 811) + x1 ∧ ((σ 0 3) * 811) + x1 < 8110) ∧ (0 ≤ x1 ∧ x1 < 811) ∧ ∀ σ7, σ7 = zu σ 1 x1 (σ 3 (((σ 0 3) * 811) + x1)) → ih σ7 (x1 + 1)))) n
theorem uX12_undo_B26 (K : Int → zSt → Prop) (n0 : Nat) (σ : zSt) (x1 : Int) : fX12_undo_B26 K (n0 + 1) σ x1 = (zrg x1 ∧ ((811 ≤ x1 → K (σ 0 3) σ) ∧ (¬ 811 ≤ x1 → (0 ≤ ((σ 0 3) * 811) + x1 ∧ ((σ 0 3) * 811) + x1 < 8110) ∧ (0 ≤ x1 ∧ x1 < 811) ∧ ∀ σ7, σ7 = zu σ 1 x1 (σ 3 (((σ 0 3) * 811) + x1)) → (fX12_undo_B26 K n0) σ7 (x1 + 1)))) := rfl
def fX12_undo (K : Int → zSt → Prop) (σ : zSt) : Prop :=
  ∀ σ1, σ1 = zu σ 0 4 0 → zrg (σ1 0 3) ∧ ((σ1 0 3 = 0 → K (-1) σ1) ∧ (¬ σ1 0 3 = 0 → ∀ σ3, σ3 = zu σ1 0 3 ((σ1 0 3) - 1) → (∃ n, fX12_undo_B26 K n σ3 0)))
set_option maxHeartbeats 4000000 in
set_option maxRecDepth 100000 in
theorem wX12_undo_B26 {p : Program} {l : Launch} {e : Env} {s : State} {m : MethodId} {args : Array Value} {below : List Frame} {meth : Method} {c : Code} {D : va_G} {dA : Nat → ClassId} {ad : Nat → Nat} {sz : Nat}  {K : Int → zSt → Prop} (hC : zC p m c cX12_undo 2 s args (Cond.code yX12_undo cX12_undo 2 (some .int) :: UW) RX12 meth D vwCl (tyA dA) (zA ad NM sz) NM ad (celM ad dA)) (hE : zE zX0 (zA ad NM sz) s s.heap) (hr : meth.sig.returnType = (some .int)) (hinj : ∀ i j, i < NM → j < NM → ad i = ad j → i = j) : ∀ (n : Nat) (σ : zSt) (x1 : Int), fX12_undo_B26 K n σ x1 → zAt p l e ({ frames := 0, cells := 0, slots := 0, locals := 0 } : Room) s m args below meth c 0 0 (MQ below (va_Qi (zPi K) (zB D vwCl (tyA dA) NM ad (celM ad dA)) (zA ad NM sz)) args s 0 0 (zA ad NM sz)) 2 D vwCl (zA ad NM sz) NM ad (celM ad dA) 26 [(0, vR ad 0), (1, vI x1)] [] σ := by
  intro n
  induction n with
  | zero => intro σ x1  hf; exact False.elim hf
  | succ n ih =>
    intro σ x1  hf
    rw [uX12_undo_B26] at hf
    refine z_iload_n hC dX12_undo_26 1 rfl rfl ?_
    refine z_sipush hC dX12_undo_27 (by decide) ?_
    obtain ⟨g4, hf⟩ := hf
    refine z_icmp_ge (tgt := 60) hC dX12_undo_30 (by decide) g4 (zlit rfl rfl) (fun hc => ?_) (fun hc => ?_)
    · replace hf := hf.1 hc
      refine z_aload_n hC dX12_undo_60 0 rfl rfl ?_
      refine z_get hC (fun w h => uT _ w (uL12 w h)) (oM_12 (show kM 0 = 12 by decide)) 3 (by decide) (uT _ _ u1548) rfl rfl dX12_undo_61 ?_
      exact z_iret hC hr rfl dX12_undo_64 hf
    · replace hf := hf.2 hc
      refine z_aload_n hC dX12_undo_33 0 rfl rfl ?_
      refine z_get hC (fun w h => uT _ w (uL12 w h)) (oM_12 (show kM 0 = 12 by decide)) 0 (by decide) (uT _ _ u1545) rfl rfl dX12_undo_34 ?_
      refine z_iload_n hC dX12_undo_37 1 rfl rfl ?_
      refine z_aload_n hC dX12_undo_38 0 rfl rfl ?_
      refine z_get hC (fun w h => uT _ w (uL12 w h)) (oM_12 (show kM 0 = 12 by decide)) 2 (by decide) (uT _ _ u1547) rfl rfl dX12_undo_39 ?_
      refine z_aload_n hC dX12_undo_42 0 rfl rfl ?_
      refine z_get hC (fun w h => uT _ w (uL12 w h)) (oM_12 (show kM 0 = 12 by decide)) 3 (by decide) (uT _ _ u1548) rfl rfl dX12_undo_43 ?_
      refine z_sipush hC dX12_undo_46 (by decide) ?_
      refine z_imul hC dX12_undo_49 ?_
      refine z_iload_n hC dX12_undo_50 1 rfl rfl ?_
      refine z_iadd hC dX12_undo_51 ?_
      obtain ⟨g5, hf⟩ := hf
      refine z_iaload hC (aM_31 (show kM 3 = 31 by decide)) g5 dX12_undo_52 ?_
      obtain ⟨g6, hf⟩ := hf
      refine z_iastore hC (aM_30 (show kM 1 = 30 by decide)) (loM' (show kM 1 = 30 by decide) (by decide)) g6 dX12_undo_53 ?_
      obtain ⟨σ7, eσ7⟩ : ∃ z : zSt, z = zu σ 1 x1 (σ 3 (((σ 0 3) * 811) + x1)) := ⟨_, rfl⟩
      rw [← eσ7]
      replace hf := hf σ7 eσ7
      refine z_iinc hC ([(1, vI (x1 + 1)), (0, vR ad 0)]) dX12_undo_54 1 rfl (by decide) rfl ?_
      refine z_goto (tgt := 26) hC dX12_undo_57 (by decide) ?_
      refine z_sub (lv' := [(0, vR ad 0), (1, vI (x1 + 1))]) [1, 0] rfl ?_
      exact ih _ _ hf
set_option maxHeartbeats 4000000 in
set_option maxRecDepth 100000 in
theorem mX12_undo {D : va_G} {dA : Nat → ClassId} {ad : Nat → Nat}  (l : Launch) (hinj : ∀ i j, i < NM → j < NM → ad i = ad j → i = j) (sz : Nat) {K : Int → zSt → Prop} {σ : zSt} (hf : fX12_undo K σ ) : Met l yX12_undo (Cond.code yX12_undo cX12_undo 2 (some .int) :: UW) ({ frames := 0, cells := 0, slots := 0, locals := 0 } : Room) (va_Pc [vR ad 0] (zPre D vwCl (tyA dA) zX0 NM ad (celM ad dA) sz σ)) (va_Qi (zPi K) (zB D vwCl (tyA dA) NM ad (celM ad dA)) (zA ad NM sz)) 0 0 (zA ad NM sz) := by
  refine z_enter (cc := cX12_undo) (maxL := 2) (ret := (some .int)) (vs := [vR ad 0]) (plainFor_of_name (by decide)) rfl hinj (Nat.le_of_ble_eq_true rfl) ?_
  intro p e s m args below meth c hC hE hsz hr hnm
  show zAt p l e ({ frames := 0, cells := 0, slots := 0, locals := 0 } : Room) s m args below meth c 0 0 (MQ below (va_Qi (zPi K) (zB D vwCl (tyA dA) NM ad (celM ad dA)) (zA ad NM sz)) args s 0 0 (zA ad NM sz)) 2 D vwCl (zA ad NM sz) NM ad (celM ad dA) 0 [(0, vR ad 0)] [] σ
  refine z_aload_n hC dX12_undo_0 0 rfl rfl ?_
  refine z_iconst hC dX12_undo_1 ?_
  refine z_put hC (ty := .int) tyX12 tyX12_ok nmX12 (fun w h => uT _ w (uL12 w h)) (oM_12 (show kM 0 = 12 by decide)) (loM' (show kM 0 = 12 by decide) (by decide)) 4 (by decide) (uT _ _ u1549) rfl rfl (4) (0) (by simp [zu]) (by decide +kernel) rfl rfl (Nat.le_of_ble_eq_true rfl) dX12_undo_2 ?_
  obtain ⟨σ1, eσ1⟩ : ∃ z : zSt, z = zu σ 0 4 0 := ⟨_, rfl⟩
  rw [← eσ1]
  replace hf := hf σ1 eσ1
  refine z_aload_n hC dX12_undo_5 0 rfl rfl ?_
  refine z_get hC (fun w h => uT _ w (uL12 w h)) (oM_12 (show kM 0 = 12 by decide)) 3 (by decide) (uT _ _ u1548) rfl rfl dX12_undo_6 ?_
  obtain ⟨g2, hf⟩ := hf
  refine z_if_ne (tgt := 14) hC dX12_undo_9 (by decide) g2 (fun hc => ?_) (fun hc => ?_)
  · replace hf := hf.2 hc
    refine z_aload_n hC dX12_undo_14 0 rfl rfl ?_
    refine z_dup hC dX12_undo_15 rfl ?_
    refine z_get hC (fun w h => uT _ w (uL12 w h)) (oM_12 (show kM 0 = 12 by decide)) 3 (by decide) (uT _ _ u1548) rfl rfl dX12_undo_16 ?_
    refine z_iconst hC dX12_undo_19 ?_
    refine z_isub hC dX12_undo_20 ?_
    refine z_put hC (ty := .int) tyX12 tyX12_ok nmX12 (fun w h => uT _ w (uL12 w h)) (oM_12 (show kM 0 = 12 by decide)) (loM' (show kM 0 = 12 by decide) (by decide)) 3 (by decide) (uT _ _ u1548) rfl rfl (3) ((σ1 0 3) - 1) (by simp [zu]) (by decide +kernel) rfl rfl (Nat.le_of_ble_eq_true rfl) dX12_undo_21 ?_
    obtain ⟨σ3, eσ3⟩ : ∃ z : zSt, z = zu σ1 0 3 ((σ1 0 3) - 1) := ⟨_, rfl⟩
    rw [← eσ3]
    replace hf := hf σ3 eσ3
    refine z_iconst hC dX12_undo_24 ?_
    refine z_istore_n hC ([(1, vI 0), (0, vR ad 0)]) dX12_undo_25 rfl (by decide) rfl ?_
    refine z_sub (lv' := [(0, vR ad 0), (1, vI 0)]) [1, 0] rfl ?_
    obtain ⟨n, hf⟩ := hf
    exact wX12_undo_B26 hC hE hr hinj n _ _ hf
  · replace hf := hf.1 hc
    refine z_iconst hC dX12_undo_12 ?_
    exact z_iret hC hr rfl dX12_undo_13 hf

-- ===== X12_undoCount
def fX12_undoCount (K : Int → zSt → Prop) (σ : zSt) : Prop :=
  ∀ σ1, σ1 = zu σ 0 4 0 → K (σ1 0 3) σ1
set_option maxHeartbeats 4000000 in
set_option maxRecDepth 100000 in
theorem mX12_undoCount {D : va_G} {dA : Nat → ClassId} {ad : Nat → Nat}  (l : Launch) (hinj : ∀ i j, i < NM → j < NM → ad i = ad j → i = j) (sz : Nat) {K : Int → zSt → Prop} {σ : zSt} (hf : fX12_undoCount K σ ) : Met l yX12_undoCount (Cond.code yX12_undoCount cX12_undoCount 1 (some .int) :: UW) ({ frames := 0, cells := 0, slots := 0, locals := 0 } : Room) (va_Pc [vR ad 0] (zPre D vwCl (tyA dA) zX0 NM ad (celM ad dA) sz σ)) (va_Qi (zPi K) (zB D vwCl (tyA dA) NM ad (celM ad dA)) (zA ad NM sz)) 0 0 (zA ad NM sz) := by
  refine z_enter (cc := cX12_undoCount) (maxL := 1) (ret := (some .int)) (vs := [vR ad 0]) (plainFor_of_name (by decide)) rfl hinj (Nat.le_of_ble_eq_true rfl) ?_
  intro p e s m args below meth c hC hE hsz hr hnm
  show zAt p l e ({ frames := 0, cells := 0, slots := 0, locals := 0 } : Room) s m args below meth c 0 0 (MQ below (va_Qi (zPi K) (zB D vwCl (tyA dA) NM ad (celM ad dA)) (zA ad NM sz)) args s 0 0 (zA ad NM sz)) 1 D vwCl (zA ad NM sz) NM ad (celM ad dA) 0 [(0, vR ad 0)] [] σ
  refine z_aload_n hC dX12_undoCount_0 0 rfl rfl ?_
  refine z_iconst hC dX12_undoCount_1 ?_
  refine z_put hC (ty := .int) tyX12 tyX12_ok nmX12 (fun w h => uT _ w (uL12 w h)) (oM_12 (show kM 0 = 12 by decide)) (loM' (show kM 0 = 12 by decide) (by decide)) 4 (by decide) (uT _ _ u1549) rfl rfl (4) (0) (by simp [zu]) (by decide +kernel) rfl rfl (Nat.le_of_ble_eq_true rfl) dX12_undoCount_2 ?_
  obtain ⟨σ1, eσ1⟩ : ∃ z : zSt, z = zu σ 0 4 0 := ⟨_, rfl⟩
  rw [← eσ1]
  replace hf := hf σ1 eσ1
  refine z_aload_n hC dX12_undoCount_5 0 rfl rfl ?_
  refine z_get hC (fun w h => uT _ w (uL12 w h)) (oM_12 (show kM 0 = 12 by decide)) 3 (by decide) (uT _ _ u1548) rfl rfl dX12_undoCount_6 ?_
  exact z_iret hC hr rfl dX12_undoCount_9 hf

-- ===== X12_append
noncomputable def fX12_append_B3 (K : zSt → Prop) (n : Nat) : zSt → Int → Int → Prop :=
  Nat.rec (motive := fun _ => zSt → Int → Int → Prop) (fun _ _ _ => False) (fun _ ih σ x1 x2 => zrg x2 ∧ ((x2 < 0 → K σ) ∧ (¬ x2 < 0 → zrg x1 ∧ (0 ≤ x2 ∧ x2 < 32) ∧ (0 ≤ σ 0 6 ∧ σ 0 6 < 1400) ∧ ∀ σ5, σ5 = zu σ 4 (σ 0 6) ((x1 / 2 ^ x2.toNat).bmod 256) → ∀ σ6, σ6 = zu σ5 0 6 ((σ5 0 6) + 1) → ih σ6 x1 (x2 + (-8))))) n
theorem uX12_append_B3 (K : zSt → Prop) (n0 : Nat) (σ : zSt) (x1 : Int) (x2 : Int) : fX12_append_B3 K (n0 + 1) σ x1 x2 = (zrg x2 ∧ ((x2 < 0 → K σ) ∧ (¬ x2 < 0 → zrg x1 ∧ (0 ≤ x2 ∧ x2 < 32) ∧ (0 ≤ σ 0 6 ∧ σ 0 6 < 1400) ∧ ∀ σ5, σ5 = zu σ 4 (σ 0 6) ((x1 / 2 ^ x2.toNat).bmod 256) → ∀ σ6, σ6 = zu σ5 0 6 ((σ5 0 6) + 1) → (fX12_append_B3 K n0) σ6 x1 (x2 + (-8))))) := rfl
def fX12_append (K : zSt → Prop) (σ : zSt) (x1 : Int) : Prop :=
  (∃ n, fX12_append_B3 K n σ x1 24)
set_option maxHeartbeats 4000000 in
set_option maxRecDepth 100000 in
theorem wX12_append_B3 {p : Program} {l : Launch} {e : Env} {s : State} {m : MethodId} {args : Array Value} {below : List Frame} {meth : Method} {c : Code} {D : va_G} {dA : Nat → ClassId} {ad : Nat → Nat} {sz : Nat}  {K : zSt → Prop} (hC : zC p m c cX12_append 3 s args (Cond.code yX12_append cX12_append 3 none :: UW) RX12 meth D vwCl (tyA dA) (zA ad NM sz) NM ad (celM ad dA)) (hE : zE zX0 (zA ad NM sz) s s.heap) (hr : meth.sig.returnType = none) (hinj : ∀ i j, i < NM → j < NM → ad i = ad j → i = j) : ∀ (n : Nat) (σ : zSt) (x1 : Int) (x2 : Int), fX12_append_B3 K n σ x1 x2 → zAt p l e ({ frames := 0, cells := 0, slots := 0, locals := 0 } : Room) s m args below meth c 0 0 (MQ below (va_Qv K (zB D vwCl (tyA dA) NM ad (celM ad dA)) (zA ad NM sz)) args s 0 0 (zA ad NM sz)) 3 D vwCl (zA ad NM sz) NM ad (celM ad dA) 3 [(0, vR ad 0), (1, vI x1), (2, vI x2)] [] σ := by
  intro n
  induction n with
  | zero => intro σ x1 x2  hf; exact False.elim hf
  | succ n ih =>
    intro σ x1 x2  hf
    rw [uX12_append_B3] at hf
    refine z_iload_n hC dX12_append_3 2 rfl rfl ?_
    obtain ⟨g1, hf⟩ := hf
    refine z_if_lt (tgt := 36) hC dX12_append_4 (by decide) g1 (fun hc => ?_) (fun hc => ?_)
    · replace hf := hf.1 hc
      exact z_vret hC hr rfl dX12_append_36 hf
    · replace hf := hf.2 hc
      refine z_aload_n hC dX12_append_7 0 rfl rfl ?_
      refine z_get hC (fun w h => uT _ w (uL12 w h)) (oM_12 (show kM 0 = 12 by decide)) 5 (by decide) (uT _ _ u1550) rfl rfl dX12_append_8 ?_
      refine z_aload_n hC dX12_append_11 0 rfl rfl ?_
      refine z_get hC (fun w h => uT _ w (uL12 w h)) (oM_12 (show kM 0 = 12 by decide)) 6 (by decide) (uT _ _ u1551) rfl rfl dX12_append_12 ?_
      refine z_iload_n hC dX12_append_15 1 rfl rfl ?_
      refine z_iload_n hC dX12_append_16 2 rfl rfl ?_
      obtain ⟨g2, hf⟩ := hf
      obtain ⟨g3, hf⟩ := hf
      refine z_ishr hC g2 g3 dX12_append_17 ?_
      refine z_i2b hC dX12_append_18 ?_
      obtain ⟨g4, hf⟩ := hf
      refine z_bastore hC (aM_32 (show kM 4 = 32 by decide)) (loM' (show kM 4 = 32 by decide) (by decide)) g4 (zi_bb _) dX12_append_19 ?_
      obtain ⟨σ5, eσ5⟩ : ∃ z : zSt, z = zu σ 4 (σ 0 6) ((x1 / 2 ^ x2.toNat).bmod 256) := ⟨_, rfl⟩
      rw [← eσ5]
      replace hf := hf σ5 eσ5
      refine z_aload_n hC dX12_append_20 0 rfl rfl ?_
      refine z_dup hC dX12_append_21 rfl ?_
      refine z_get hC (fun w h => uT _ w (uL12 w h)) (oM_12 (show kM 0 = 12 by decide)) 6 (by decide) (uT _ _ u1551) rfl rfl dX12_append_22 ?_
      refine z_iconst hC dX12_append_25 ?_
      refine z_iadd hC dX12_append_26 ?_
      refine z_put hC (ty := .int) tyX12 tyX12_ok nmX12 (fun w h => uT _ w (uL12 w h)) (oM_12 (show kM 0 = 12 by decide)) (loM' (show kM 0 = 12 by decide) (by decide)) 6 (by decide) (uT _ _ u1551) rfl rfl (6) ((σ5 0 6) + 1) (by simp [zu]) (by decide +kernel) rfl rfl (Nat.le_of_ble_eq_true rfl) dX12_append_27 ?_
      obtain ⟨σ6, eσ6⟩ : ∃ z : zSt, z = zu σ5 0 6 ((σ5 0 6) + 1) := ⟨_, rfl⟩
      rw [← eσ6]
      replace hf := hf σ6 eσ6
      refine z_iinc hC ([(2, vI (x2 + (-8))), (0, vR ad 0), (1, vI x1)]) dX12_append_30 2 rfl (by decide) rfl ?_
      refine z_goto (tgt := 3) hC dX12_append_33 (by decide) ?_
      refine z_sub (lv' := [(0, vR ad 0), (1, vI x1), (2, vI (x2 + (-8)))]) [1, 2, 0] rfl ?_
      exact ih _ _ _ hf
set_option maxHeartbeats 4000000 in
set_option maxRecDepth 100000 in
theorem mX12_append {D : va_G} {dA : Nat → ClassId} {ad : Nat → Nat}  (l : Launch) (hinj : ∀ i j, i < NM → j < NM → ad i = ad j → i = j) (sz : Nat) {K : zSt → Prop} {σ : zSt} {x1 : Int} (hf : fX12_append K σ x1) : Met l yX12_append (Cond.code yX12_append cX12_append 3 none :: UW) ({ frames := 0, cells := 0, slots := 0, locals := 0 } : Room) (va_Pc [vR ad 0, vI x1] (zPre D vwCl (tyA dA) zX0 NM ad (celM ad dA) sz σ)) (va_Qv K (zB D vwCl (tyA dA) NM ad (celM ad dA)) (zA ad NM sz)) 0 0 (zA ad NM sz) := by
  refine z_enter (cc := cX12_append) (maxL := 3) (ret := none) (vs := [vR ad 0, vI x1]) (plainFor_of_name (by decide)) rfl hinj (Nat.le_of_ble_eq_true rfl) ?_
  intro p e s m args below meth c hC hE hsz hr hnm
  show zAt p l e ({ frames := 0, cells := 0, slots := 0, locals := 0 } : Room) s m args below meth c 0 0 (MQ below (va_Qv K (zB D vwCl (tyA dA) NM ad (celM ad dA)) (zA ad NM sz)) args s 0 0 (zA ad NM sz)) 3 D vwCl (zA ad NM sz) NM ad (celM ad dA) 0 [(0, vR ad 0), (1, vI x1)] [] σ
  refine z_bipush hC dX12_append_0 (by decide) ?_
  refine z_istore_n hC ([(2, vI 24), (0, vR ad 0), (1, vI x1)]) dX12_append_2 rfl (by decide) rfl ?_
  refine z_sub (lv' := [(0, vR ad 0), (1, vI x1), (2, vI 24)]) [1, 2, 0] rfl ?_
  obtain ⟨n, hf⟩ := hf
  exact wX12_append_B3 hC hE hr hinj n _ _ _ hf

-- ===== X12_feed
def fX12_feed (K : Int → zSt → Prop) (σ : zSt) (x1 : Int) (x2 : Int) (x3 : Int) (x4 : Int) (x5 : Int) : Prop :=
  ∀ σ1, σ1 = zu σ 0 4 0 → zrg ((σ1 0 6) + 20) ∧ (((σ1 0 6) + 20 ≤ 1400 → fX12_append (fun σ3 => fX12_append (fun σ4 => fX12_append (fun σ5 => fX12_append (fun σ6 => fX12_append (fun σ7 => K (σ7 0 6) σ7) σ6 x5) σ5 x4) σ4 x3) σ3 x2) σ1 x1) ∧ (¬ (σ1 0 6) + 20 ≤ 1400 → K (-3) σ1))
set_option maxHeartbeats 4000000 in
set_option maxRecDepth 100000 in
theorem mX12_feed {D : va_G} {dA : Nat → ClassId} {ad : Nat → Nat}  (l : Launch) (hinj : ∀ i j, i < NM → j < NM → ad i = ad j → i = j) (sz : Nat) {K : Int → zSt → Prop} {σ : zSt} {x1 : Int} {x2 : Int} {x3 : Int} {x4 : Int} {x5 : Int} (hf : fX12_feed K σ x1 x2 x3 x4 x5) : Met l yX12_feed (Cond.code yX12_feed cX12_feed 6 (some .int) :: UW) ({ frames := 1, cells := 0, slots := 0, locals := 22 } : Room) (va_Pc [vR ad 0, vI x1, vI x2, vI x3, vI x4, vI x5] (zPre D vwCl (tyA dA) zX0 NM ad (celM ad dA) sz σ)) (va_Qi (zPi K) (zB D vwCl (tyA dA) NM ad (celM ad dA)) (zA ad NM sz)) 0 0 (zA ad NM sz) := by
  refine z_enter (cc := cX12_feed) (maxL := 6) (ret := (some .int)) (vs := [vR ad 0, vI x1, vI x2, vI x3, vI x4, vI x5]) (plainFor_of_name (by decide)) rfl hinj (Nat.le_of_ble_eq_true rfl) ?_
  intro p e s m args below meth c hC hE hsz hr hnm
  show zAt p l e ({ frames := 1, cells := 0, slots := 0, locals := 22 } : Room) s m args below meth c 0 0 (MQ below (va_Qi (zPi K) (zB D vwCl (tyA dA) NM ad (celM ad dA)) (zA ad NM sz)) args s 0 0 (zA ad NM sz)) 6 D vwCl (zA ad NM sz) NM ad (celM ad dA) 0 [(0, vR ad 0), (1, vI x1), (2, vI x2), (3, vI x3), (4, vI x4), (5, vI x5)] [] σ
  refine z_aload_n hC dX12_feed_0 0 rfl rfl ?_
  refine z_iconst hC dX12_feed_1 ?_
  refine z_put hC (ty := .int) tyX12 tyX12_ok nmX12 (fun w h => uT _ w (uL12 w h)) (oM_12 (show kM 0 = 12 by decide)) (loM' (show kM 0 = 12 by decide) (by decide)) 4 (by decide) (uT _ _ u1549) rfl rfl (4) (0) (by simp [zu]) (by decide +kernel) rfl rfl (Nat.le_of_ble_eq_true rfl) dX12_feed_2 ?_
  obtain ⟨σ1, eσ1⟩ : ∃ z : zSt, z = zu σ 0 4 0 := ⟨_, rfl⟩
  rw [← eσ1]
  replace hf := hf σ1 eσ1
  refine z_aload_n hC dX12_feed_5 0 rfl rfl ?_
  refine z_get hC (fun w h => uT _ w (uL12 w h)) (oM_12 (show kM 0 = 12 by decide)) 6 (by decide) (uT _ _ u1551) rfl rfl dX12_feed_6 ?_
  refine z_bipush hC dX12_feed_9 (by decide) ?_
  refine z_iadd hC dX12_feed_11 ?_
  refine z_sipush hC dX12_feed_12 (by decide) ?_
  obtain ⟨g2, hf⟩ := hf
  refine z_icmp_le (tgt := 21) hC dX12_feed_15 (by decide) g2 (zlit rfl rfl) (fun hc => ?_) (fun hc => ?_)
  · replace hf := hf.1 hc
    refine z_aload_n hC dX12_feed_21 0 rfl rfl ?_
    refine z_iload_n hC dX12_feed_22 1 rfl rfl ?_
    refine z_callVv hC hE (oM_12 (show kM 0 = 12 by decide)) [vI x1] (fun sz2 => mX12_append l hinj sz2 hf) (cwV 1 hC.1.2.2.2.2 (uV (uT _) u1688 u1690 u39 u118 u1691) rfl rfl rfl (by decide +kernel) ⟨Nat.le_of_ble_eq_true rfl, Nat.le_of_ble_eq_true rfl⟩) rfl rfl (Nat.le_of_ble_eq_true rfl) ⟨Nat.le_of_ble_eq_true rfl, Nat.le_of_ble_eq_true rfl⟩ dX12_feed_23 (fun σ3 hf => ?_)
    refine z_aload_n hC dX12_feed_26 0 rfl rfl ?_
    refine z_iload_n hC dX12_feed_27 2 rfl rfl ?_
    refine z_callVv hC hE (oM_12 (show kM 0 = 12 by decide)) [vI x2] (fun sz2 => mX12_append l hinj sz2 hf) (cwV 1 hC.1.2.2.2.2 (uV (uT _) u1688 u1690 u39 u118 u1691) rfl rfl rfl (by decide +kernel) ⟨Nat.le_of_ble_eq_true rfl, Nat.le_of_ble_eq_true rfl⟩) rfl rfl (Nat.le_of_ble_eq_true rfl) ⟨Nat.le_of_ble_eq_true rfl, Nat.le_of_ble_eq_true rfl⟩ dX12_feed_28 (fun σ4 hf => ?_)
    refine z_aload_n hC dX12_feed_31 0 rfl rfl ?_
    refine z_iload_n hC dX12_feed_32 3 rfl rfl ?_
    refine z_callVv hC hE (oM_12 (show kM 0 = 12 by decide)) [vI x3] (fun sz2 => mX12_append l hinj sz2 hf) (cwV 1 hC.1.2.2.2.2 (uV (uT _) u1688 u1690 u39 u118 u1691) rfl rfl rfl (by decide +kernel) ⟨Nat.le_of_ble_eq_true rfl, Nat.le_of_ble_eq_true rfl⟩) rfl rfl (Nat.le_of_ble_eq_true rfl) ⟨Nat.le_of_ble_eq_true rfl, Nat.le_of_ble_eq_true rfl⟩ dX12_feed_33 (fun σ5 hf => ?_)
    refine z_aload_n hC dX12_feed_36 0 rfl rfl ?_
    refine z_iload hC dX12_feed_37 4 rfl ?_
    refine z_callVv hC hE (oM_12 (show kM 0 = 12 by decide)) [vI x4] (fun sz2 => mX12_append l hinj sz2 hf) (cwV 1 hC.1.2.2.2.2 (uV (uT _) u1688 u1690 u39 u118 u1691) rfl rfl rfl (by decide +kernel) ⟨Nat.le_of_ble_eq_true rfl, Nat.le_of_ble_eq_true rfl⟩) rfl rfl (Nat.le_of_ble_eq_true rfl) ⟨Nat.le_of_ble_eq_true rfl, Nat.le_of_ble_eq_true rfl⟩ dX12_feed_39 (fun σ6 hf => ?_)
    refine z_aload_n hC dX12_feed_42 0 rfl rfl ?_
    refine z_iload hC dX12_feed_43 5 rfl ?_
    refine z_callVv hC hE (oM_12 (show kM 0 = 12 by decide)) [vI x5] (fun sz2 => mX12_append l hinj sz2 hf) (cwV 1 hC.1.2.2.2.2 (uV (uT _) u1688 u1690 u39 u118 u1691) rfl rfl rfl (by decide +kernel) ⟨Nat.le_of_ble_eq_true rfl, Nat.le_of_ble_eq_true rfl⟩) rfl rfl (Nat.le_of_ble_eq_true rfl) ⟨Nat.le_of_ble_eq_true rfl, Nat.le_of_ble_eq_true rfl⟩ dX12_feed_45 (fun σ7 hf => ?_)
    refine z_aload_n hC dX12_feed_48 0 rfl rfl ?_
    refine z_get hC (fun w h => uT _ w (uL12 w h)) (oM_12 (show kM 0 = 12 by decide)) 6 (by decide) (uT _ _ u1551) rfl rfl dX12_feed_49 ?_
    exact z_iret hC hr rfl dX12_feed_52 hf
  · replace hf := hf.2 hc
    refine z_bipush hC dX12_feed_18 (by decide) ?_
    exact z_iret hC hr rfl dX12_feed_20 hf

-- ===== X12_errorPosition
def fX12_errorPosition (K : Int → zSt → Prop) (σ : zSt) : Prop :=
  ∀ σ1, σ1 = zu σ 0 4 0 → K (σ1 0 14) σ1
set_option maxHeartbeats 4000000 in
set_option maxRecDepth 100000 in
theorem mX12_errorPosition {D : va_G} {dA : Nat → ClassId} {ad : Nat → Nat}  (l : Launch) (hinj : ∀ i j, i < NM → j < NM → ad i = ad j → i = j) (sz : Nat) {K : Int → zSt → Prop} {σ : zSt} (hf : fX12_errorPosition K σ ) : Met l yX12_errorPosition (Cond.code yX12_errorPosition cX12_errorPosition 1 (some .int) :: UW) ({ frames := 0, cells := 0, slots := 0, locals := 0 } : Room) (va_Pc [vR ad 0] (zPre D vwCl (tyA dA) zX0 NM ad (celM ad dA) sz σ)) (va_Qi (zPi K) (zB D vwCl (tyA dA) NM ad (celM ad dA)) (zA ad NM sz)) 0 0 (zA ad NM sz) := by
  refine z_enter (cc := cX12_errorPosition) (maxL := 1) (ret := (some .int)) (vs := [vR ad 0]) (plainFor_of_name (by decide)) rfl hinj (Nat.le_of_ble_eq_true rfl) ?_
  intro p e s m args below meth c hC hE hsz hr hnm
  show zAt p l e ({ frames := 0, cells := 0, slots := 0, locals := 0 } : Room) s m args below meth c 0 0 (MQ below (va_Qi (zPi K) (zB D vwCl (tyA dA) NM ad (celM ad dA)) (zA ad NM sz)) args s 0 0 (zA ad NM sz)) 1 D vwCl (zA ad NM sz) NM ad (celM ad dA) 0 [(0, vR ad 0)] [] σ
  refine z_aload_n hC dX12_errorPosition_0 0 rfl rfl ?_
  refine z_iconst hC dX12_errorPosition_1 ?_
  refine z_put hC (ty := .int) tyX12 tyX12_ok nmX12 (fun w h => uT _ w (uL12 w h)) (oM_12 (show kM 0 = 12 by decide)) (loM' (show kM 0 = 12 by decide) (by decide)) 4 (by decide) (uT _ _ u1549) rfl rfl (4) (0) (by simp [zu]) (by decide +kernel) rfl rfl (Nat.le_of_ble_eq_true rfl) dX12_errorPosition_2 ?_
  obtain ⟨σ1, eσ1⟩ : ∃ z : zSt, z = zu σ 0 4 0 := ⟨_, rfl⟩
  rw [← eσ1]
  replace hf := hf σ1 eσ1
  refine z_aload_n hC dX12_errorPosition_5 0 rfl rfl ?_
  refine z_get hC (fun w h => uT _ w (uL12 w h)) (oM_12 (show kM 0 = 12 by decide)) 14 (by decide) (uT _ _ u1559) rfl rfl dX12_errorPosition_6 ?_
  exact z_iret hC hr rfl dX12_errorPosition_9 hf

-- ===== X12_peek
def fX12_peek (K : Int → zSt → Prop) (σ : zSt) : Prop :=
  zrg (σ 0 8) ∧ zrg (σ 0 7) ∧ ((σ 0 7 ≤ σ 0 8 → K (-1) σ) ∧ (¬ σ 0 7 ≤ σ 0 8 → (0 ≤ σ 0 8 ∧ σ 0 8 < 1400) ∧ K ((σ 4 (σ 0 8)) % 256) σ))
set_option maxHeartbeats 4000000 in
set_option maxRecDepth 100000 in
theorem mX12_peek {D : va_G} {dA : Nat → ClassId} {ad : Nat → Nat}  (l : Launch) (hinj : ∀ i j, i < NM → j < NM → ad i = ad j → i = j) (sz : Nat) {K : Int → zSt → Prop} {σ : zSt} (hf : fX12_peek K σ ) : Met l yX12_peek (Cond.code yX12_peek cX12_peek 1 (some .int) :: UW) ({ frames := 0, cells := 0, slots := 0, locals := 0 } : Room) (va_Pc [vR ad 0] (zPre D vwCl (tyA dA) zX0 NM ad (celM ad dA) sz σ)) (va_Qi (zPi K) (zB D vwCl (tyA dA) NM ad (celM ad dA)) (zA ad NM sz)) 0 0 (zA ad NM sz) := by
  refine z_enter (cc := cX12_peek) (maxL := 1) (ret := (some .int)) (vs := [vR ad 0]) (plainFor_of_name (by decide)) rfl hinj (Nat.le_of_ble_eq_true rfl) ?_
  intro p e s m args below meth c hC hE hsz hr hnm
  show zAt p l e ({ frames := 0, cells := 0, slots := 0, locals := 0 } : Room) s m args below meth c 0 0 (MQ below (va_Qi (zPi K) (zB D vwCl (tyA dA) NM ad (celM ad dA)) (zA ad NM sz)) args s 0 0 (zA ad NM sz)) 1 D vwCl (zA ad NM sz) NM ad (celM ad dA) 0 [(0, vR ad 0)] [] σ
  refine z_aload_n hC dX12_peek_0 0 rfl rfl ?_
  refine z_get hC (fun w h => uT _ w (uL12 w h)) (oM_12 (show kM 0 = 12 by decide)) 8 (by decide) (uT _ _ u1553) rfl rfl dX12_peek_1 ?_
  refine z_aload_n hC dX12_peek_4 0 rfl rfl ?_
  refine z_get hC (fun w h => uT _ w (uL12 w h)) (oM_12 (show kM 0 = 12 by decide)) 7 (by decide) (uT _ _ u1552) rfl rfl dX12_peek_5 ?_
  obtain ⟨g1, hf⟩ := hf
  obtain ⟨g2, hf⟩ := hf
  refine z_icmp_ge (tgt := 27) hC dX12_peek_8 (by decide) g1 g2 (fun hc => ?_) (fun hc => ?_)
  · replace hf := hf.1 hc
    refine z_iconst hC dX12_peek_27 ?_
    exact z_iret hC hr rfl dX12_peek_28 hf
  · replace hf := hf.2 hc
    refine z_aload_n hC dX12_peek_11 0 rfl rfl ?_
    refine z_get hC (fun w h => uT _ w (uL12 w h)) (oM_12 (show kM 0 = 12 by decide)) 5 (by decide) (uT _ _ u1550) rfl rfl dX12_peek_12 ?_
    refine z_aload_n hC dX12_peek_15 0 rfl rfl ?_
    refine z_get hC (fun w h => uT _ w (uL12 w h)) (oM_12 (show kM 0 = 12 by decide)) 8 (by decide) (uT _ _ u1553) rfl rfl dX12_peek_16 ?_
    obtain ⟨g3, hf⟩ := hf
    refine z_baload hC (aM_32 (show kM 4 = 32 by decide)) g3 dX12_peek_19 ?_
    refine z_sipush hC dX12_peek_20 (by decide) ?_
    refine z_iand255 hC dX12_peek_23 ?_
    refine z_goto (tgt := 28) hC dX12_peek_24 (by decide) ?_
    exact z_iret hC hr rfl dX12_peek_28 hf

-- ===== X12_advance
noncomputable def fX12_advance_B82 (K : zSt → Prop) (n : Nat) : zSt → Prop :=
  Nat.rec (motive := fun _ => zSt → Prop) (fun _  => False) (fun _ ih σ  => fX12_peek (fun r32 σ32 => fX12_inRange (fun r33 σ33 => zrg r33 ∧ ((r33 = 0 → zrg ((σ33 0 8) - (σ33 0 9)) ∧ (((σ33 0 8) - (σ33 0 9) ≤ 12 → K σ33) ∧ (¬ (σ33 0 8) - (σ33 0 9) ≤ 12 → ∀ σ36, σ36 = zu σ33 0 11 0 → K σ36))) ∧ (¬ r33 = 0 → zrg ((σ33 0 8) - (σ33 0 9)) ∧ ((12 ≤ (σ33 0 8) - (σ33 0 9) → ∀ σ38, σ38 = zu σ33 0 11 0 → ∀ σ39, σ39 = zu σ38 0 8 ((σ38 0 8) + 1) → ih σ39 ) ∧ (¬ 12 ≤ (σ33 0 8) - (σ33 0 9) → fX12_peek (fun r40 σ40 => zrg (r40 - 96) ∧ 0 ≤ (σ33 0 11) * 2 ^ (5 : Int).toNat ∧ 0 ≤ r40 - 96 ∧ ∀ σ44, σ44 = zu σ40 0 11 ((((σ33 0 11) * 2 ^ (5 : Int).toNat).toNat ||| (r40 - 96).toNat : Nat) : Int) → ∀ σ45, σ45 = zu σ44 0 8 ((σ44 0 8) + 1) → ih σ45 ) σ33 ))))) σ32 r32 97 122) σ ) n
theorem uX12_advance_B82 (K : zSt → Prop) (n0 : Nat) (σ : zSt) : fX12_advance_B82 K (n0 + 1) σ  = (fX12_peek (fun r32 σ32 => fX12_inRange (fun r33 σ33 => zrg r33 ∧ ((r33 = 0 → zrg ((σ33 0 8) - (σ33 0 9)) ∧ (((σ33 0 8) - (σ33 0 9) ≤ 12 → K σ33) ∧ (¬ (σ33 0 8) - (σ33 0 9) ≤ 12 → ∀ σ36, σ36 = zu σ33 0 11 0 → K σ36))) ∧ (¬ r33 = 0 → zrg ((σ33 0 8) - (σ33 0 9)) ∧ ((12 ≤ (σ33 0 8) - (σ33 0 9) → ∀ σ38, σ38 = zu σ33 0 11 0 → ∀ σ39, σ39 = zu σ38 0 8 ((σ38 0 8) + 1) → (fX12_advance_B82 K n0) σ39 ) ∧ (¬ 12 ≤ (σ33 0 8) - (σ33 0 9) → fX12_peek (fun r40 σ40 => zrg (r40 - 96) ∧ 0 ≤ (σ33 0 11) * 2 ^ (5 : Int).toNat ∧ 0 ≤ r40 - 96 ∧ ∀ σ44, σ44 = zu σ40 0 11 ((((σ33 0 11) * 2 ^ (5 : Int).toNat).toNat ||| (r40 - 96).toNat : Nat) : Int) → ∀ σ45, σ45 = zu σ44 0 8 ((σ44 0 8) + 1) → (fX12_advance_B82 K n0) σ45 ) σ33 ))))) σ32 r32 97 122) σ ) := rfl
noncomputable def fX12_advance_B184 (K : zSt → Prop) (n : Nat) : zSt → Prop :=
  Nat.rec (motive := fun _ => zSt → Prop) (fun _  => False) (fun _ ih σ  => fX12_peek (fun r23 σ23 => fX12_inRange (fun r24 σ24 => zrg r24 ∧ ((r24 = 0 → K σ24) ∧ (¬ r24 = 0 → zrg (σ24 0 12) ∧ ((σ24 0 12 ≤ 100000000 → fX12_peek (fun r27 σ27 => ∀ σ28, σ28 = zu σ27 0 12 (((10 * (σ24 0 12)) + r27) - 48) → ∀ σ29, σ29 = zu σ28 0 8 ((σ28 0 8) + 1) → ih σ29 ) σ24 ) ∧ (¬ σ24 0 12 ≤ 100000000 → ∀ σ30, σ30 = zu σ24 0 12 1000000000 → ∀ σ31, σ31 = zu σ30 0 8 ((σ30 0 8) + 1) → ih σ31 ))))) σ23 r23 48 57) σ ) n
theorem uX12_advance_B184 (K : zSt → Prop) (n0 : Nat) (σ : zSt) : fX12_advance_B184 K (n0 + 1) σ  = (fX12_peek (fun r23 σ23 => fX12_inRange (fun r24 σ24 => zrg r24 ∧ ((r24 = 0 → K σ24) ∧ (¬ r24 = 0 → zrg (σ24 0 12) ∧ ((σ24 0 12 ≤ 100000000 → fX12_peek (fun r27 σ27 => ∀ σ28, σ28 = zu σ27 0 12 (((10 * (σ24 0 12)) + r27) - 48) → ∀ σ29, σ29 = zu σ28 0 8 ((σ28 0 8) + 1) → (fX12_advance_B184 K n0) σ29 ) σ24 ) ∧ (¬ σ24 0 12 ≤ 100000000 → ∀ σ30, σ30 = zu σ24 0 12 1000000000 → ∀ σ31, σ31 = zu σ30 0 8 ((σ30 0 8) + 1) → (fX12_advance_B184 K n0) σ31 ))))) σ23 r23 48 57) σ ) := rfl
noncomputable def fX12_advance_B0 (K : zSt → Prop) (n : Nat) : zSt → Prop :=
  Nat.rec (motive := fun _ => zSt → Prop) (fun _  => False) (fun _ ih σ  => fX12_peek (fun r1 σ1 => zrg r1 ∧ ((r1 = 32 → ∀ σ3, σ3 = zu σ1 0 8 ((σ1 0 8) + 1) → ih σ3 ) ∧ (¬ r1 = 32 → fX12_peek (fun r4 σ4 => zrg r4 ∧ ((r4 = 10 → ∀ σ22, σ22 = zu σ4 0 8 ((σ4 0 8) + 1) → ih σ22 ) ∧ (¬ r4 = 10 → ∀ σ6, σ6 = zu σ4 0 9 (σ4 0 8) → ∀ σ7, σ7 = zu σ6 0 11 0 → ∀ σ8, σ8 = zu σ7 0 12 0 → fX12_peek (fun r9 σ9 => zrg r9 ∧ ((0 ≤ r9 → fX12_inRange (fun r11 σ11 => zrg r11 ∧ ((r11 = 0 → fX12_inRange (fun r13 σ13 => zrg r13 ∧ ((r13 = 0 → ((r9 = 59 → ∀ σ17, σ17 = zu σ13 0 10 3 → ∀ σ18, σ18 = zu σ17 0 8 ((σ17 0 8) + 1) → K σ18) ∧ (¬ r9 = 59 → ∀ σ15, σ15 = zu σ13 0 10 4 → ∀ σ16, σ16 = zu σ15 0 8 ((σ15 0 8) + 1) → K σ16))) ∧ (¬ r13 = 0 → ∀ σ19, σ19 = zu σ13 0 10 2 → (∃ n, fX12_advance_B184 K n σ19 )))) σ11 r9 48 57) ∧ (¬ r11 = 0 → ∀ σ20, σ20 = zu σ11 0 10 1 → (∃ n, fX12_advance_B82 K n σ20 )))) σ9 r9 97 122) ∧ (¬ 0 ≤ r9 → ∀ σ21, σ21 = zu σ9 0 10 0 → K σ21))) σ8 ))) σ1 ))) σ ) n
theorem uX12_advance_B0 (K : zSt → Prop) (n0 : Nat) (σ : zSt) : fX12_advance_B0 K (n0 + 1) σ  = (fX12_peek (fun r1 σ1 => zrg r1 ∧ ((r1 = 32 → ∀ σ3, σ3 = zu σ1 0 8 ((σ1 0 8) + 1) → (fX12_advance_B0 K n0) σ3 ) ∧ (¬ r1 = 32 → fX12_peek (fun r4 σ4 => zrg r4 ∧ ((r4 = 10 → ∀ σ22, σ22 = zu σ4 0 8 ((σ4 0 8) + 1) → (fX12_advance_B0 K n0) σ22 ) ∧ (¬ r4 = 10 → ∀ σ6, σ6 = zu σ4 0 9 (σ4 0 8) → ∀ σ7, σ7 = zu σ6 0 11 0 → ∀ σ8, σ8 = zu σ7 0 12 0 → fX12_peek (fun r9 σ9 => zrg r9 ∧ ((0 ≤ r9 → fX12_inRange (fun r11 σ11 => zrg r11 ∧ ((r11 = 0 → fX12_inRange (fun r13 σ13 => zrg r13 ∧ ((r13 = 0 → ((r9 = 59 → ∀ σ17, σ17 = zu σ13 0 10 3 → ∀ σ18, σ18 = zu σ17 0 8 ((σ17 0 8) + 1) → K σ18) ∧ (¬ r9 = 59 → ∀ σ15, σ15 = zu σ13 0 10 4 → ∀ σ16, σ16 = zu σ15 0 8 ((σ15 0 8) + 1) → K σ16))) ∧ (¬ r13 = 0 → ∀ σ19, σ19 = zu σ13 0 10 2 → (∃ n, fX12_advance_B184 K n σ19 )))) σ11 r9 48 57) ∧ (¬ r11 = 0 → ∀ σ20, σ20 = zu σ11 0 10 1 → (∃ n, fX12_advance_B82 K n σ20 )))) σ9 r9 97 122) ∧ (¬ 0 ≤ r9 → ∀ σ21, σ21 = zu σ9 0 10 0 → K σ21))) σ8 ))) σ1 ))) σ ) := rfl
def fX12_advance (K : zSt → Prop) (σ : zSt) : Prop :=
  (∃ n, fX12_advance_B0 K n σ )
set_option maxHeartbeats 4000000 in
set_option maxRecDepth 100000 in
theorem wX12_advance_B82 {p : Program} {l : Launch} {e : Env} {s : State} {m : MethodId} {args : Array Value} {below : List Frame} {meth : Method} {c : Code} {D : va_G} {dA : Nat → ClassId} {ad : Nat → Nat} {sz : Nat}  {K : zSt → Prop} (hC : zC p m c cX12_advance 2 s args (Cond.code yX12_advance cX12_advance 2 none :: UW) RX12 meth D vwCl (tyA dA) (zA ad NM sz) NM ad (celM ad dA)) (hE : zE zX0 (zA ad NM sz) s s.heap) (hr : meth.sig.returnType = none) (hinj : ∀ i j, i < NM → j < NM → ad i = ad j → i = j) : ∀ (n : Nat) (σ : zSt), fX12_advance_B82 K n σ  → zAt p l e ({ frames := 1, cells := 0, slots := 0, locals := 22 } : Room) s m args below meth c 0 0 (MQ below (va_Qv K (zB D vwCl (tyA dA) NM ad (celM ad dA)) (zA ad NM sz)) args s 0 0 (zA ad NM sz)) 2 D vwCl (zA ad NM sz) NM ad (celM ad dA) 82 [(0, vR ad 0)] [] σ := by
  intro n
  induction n with
  | zero => intro σ   hf; exact False.elim hf
  | succ n ih =>
    intro σ   hf
    rw [uX12_advance_B82] at hf
    refine z_aload_n hC dX12_advance_82 0 rfl rfl ?_
    refine z_callVi hC hE (oM_12 (show kM 0 = 12 by decide)) [] (fun sz2 => mX12_peek l hinj sz2 hf) (cwV 0 hC.1.2.2.2.2 (uV (uT _) u1707 u1709 u41 u118 u1710) rfl rfl rfl (by decide +kernel) ⟨Nat.le_of_ble_eq_true rfl, Nat.le_of_ble_eq_true rfl⟩) rfl rfl (Nat.le_of_ble_eq_true rfl) ⟨Nat.le_of_ble_eq_true rfl, Nat.le_of_ble_eq_true rfl⟩ dX12_advance_83 (fun r32 σ32 hf => ?_)
    refine z_bipush hC dX12_advance_86 (by decide) ?_
    refine z_bipush hC dX12_advance_88 (by decide) ?_
    refine z_callSi hC hE [vI r32, vI 97, vI 122] (fun sz2 => mX12_inRange l hinj sz2 hf) (va_cwS 3 hC.1.2.2.2.2 (uS (uT _) u1700 u1701 u118 u1702) rfl rfl rfl (by decide +kernel) ⟨Nat.le_of_ble_eq_true rfl, Nat.le_of_ble_eq_true rfl⟩) rfl rfl (Nat.le_of_ble_eq_true rfl) ⟨Nat.le_of_ble_eq_true rfl, Nat.le_of_ble_eq_true rfl⟩ dX12_advance_90 (fun r33 σ33 hf => ?_)
    obtain ⟨g34, hf⟩ := hf
    refine z_if_eq (tgt := 146) hC dX12_advance_93 (by decide) g34 (fun hc => ?_) (fun hc => ?_)
    · replace hf := hf.1 hc
      refine z_aload_n hC dX12_advance_146 0 rfl rfl ?_
      refine z_get hC (fun w h => uT _ w (uL12 w h)) (oM_12 (show kM 0 = 12 by decide)) 8 (by decide) (uT _ _ u1553) rfl rfl dX12_advance_147 ?_
      refine z_aload_n hC dX12_advance_150 0 rfl rfl ?_
      refine z_get hC (fun w h => uT _ w (uL12 w h)) (oM_12 (show kM 0 = 12 by decide)) 9 (by decide) (uT _ _ u1554) rfl rfl dX12_advance_151 ?_
      refine z_isub hC dX12_advance_154 ?_
      refine z_bipush hC dX12_advance_155 (by decide) ?_
      obtain ⟨g35, hf⟩ := hf
      refine z_icmp_le (tgt := 269) hC dX12_advance_157 (by decide) g35 (zlit rfl rfl) (fun hc => ?_) (fun hc => ?_)
      · replace hf := hf.1 hc
        exact z_vret hC hr rfl dX12_advance_269 hf
      · replace hf := hf.2 hc
        refine z_aload_n hC dX12_advance_160 0 rfl rfl ?_
        refine z_lcon (z := 0) hC dX12_advance_161 (by decide) ?_
        refine z_put hC (ty := .long) tyX12 tyX12_ok nmX12 (fun w h => uT _ w (uL12 w h)) (oM_12 (show kM 0 = 12 by decide)) (loM' (show kM 0 = 12 by decide) (by decide)) 11 (by decide) (uT _ _ u1556) rfl rfl (11) (0) (by simp [zu]) (by decide +kernel) rfl rfl (Nat.le_of_ble_eq_true rfl) dX12_advance_162 ?_
        obtain ⟨σ36, eσ36⟩ : ∃ z : zSt, z = zu σ33 0 11 0 := ⟨_, rfl⟩
        rw [← eσ36]
        replace hf := hf σ36 eσ36
        refine z_goto (tgt := 269) hC dX12_advance_165 (by decide) ?_
        exact z_vret hC hr rfl dX12_advance_269 hf
    · replace hf := hf.2 hc
      refine z_aload_n hC dX12_advance_96 0 rfl rfl ?_
      refine z_aload_n hC dX12_advance_97 0 rfl rfl ?_
      refine z_get hC (fun w h => uT _ w (uL12 w h)) (oM_12 (show kM 0 = 12 by decide)) 8 (by decide) (uT _ _ u1553) rfl rfl dX12_advance_98 ?_
      refine z_aload_n hC dX12_advance_101 0 rfl rfl ?_
      refine z_get hC (fun w h => uT _ w (uL12 w h)) (oM_12 (show kM 0 = 12 by decide)) 9 (by decide) (uT _ _ u1554) rfl rfl dX12_advance_102 ?_
      refine z_isub hC dX12_advance_105 ?_
      refine z_bipush hC dX12_advance_106 (by decide) ?_
      obtain ⟨g37, hf⟩ := hf
      refine z_icmp_ge (tgt := 129) hC dX12_advance_108 (by decide) g37 (zlit rfl rfl) (fun hc => ?_) (fun hc => ?_)
      · replace hf := hf.1 hc
        refine z_lcon (z := 0) hC dX12_advance_129 (by decide) ?_
        refine z_put hC (ty := .long) tyX12 tyX12_ok nmX12 (fun w h => uT _ w (uL12 w h)) (oM_12 (show kM 0 = 12 by decide)) (loM' (show kM 0 = 12 by decide) (by decide)) 11 (by decide) (uT _ _ u1556) rfl rfl (11) (0) (by simp [zu]) (by decide +kernel) rfl rfl (Nat.le_of_ble_eq_true rfl) dX12_advance_130 ?_
        obtain ⟨σ38, eσ38⟩ : ∃ z : zSt, z = zu σ33 0 11 0 := ⟨_, rfl⟩
        rw [← eσ38]
        replace hf := hf σ38 eσ38
        refine z_aload_n hC dX12_advance_133 0 rfl rfl ?_
        refine z_dup hC dX12_advance_134 rfl ?_
        refine z_get hC (fun w h => uT _ w (uL12 w h)) (oM_12 (show kM 0 = 12 by decide)) 8 (by decide) (uT _ _ u1553) rfl rfl dX12_advance_135 ?_
        refine z_iconst hC dX12_advance_138 ?_
        refine z_iadd hC dX12_advance_139 ?_
        refine z_put hC (ty := .int) tyX12 tyX12_ok nmX12 (fun w h => uT _ w (uL12 w h)) (oM_12 (show kM 0 = 12 by decide)) (loM' (show kM 0 = 12 by decide) (by decide)) 8 (by decide) (uT _ _ u1553) rfl rfl (8) ((σ38 0 8) + 1) (by simp [zu]) (by decide +kernel) rfl rfl (Nat.le_of_ble_eq_true rfl) dX12_advance_140 ?_
        obtain ⟨σ39, eσ39⟩ : ∃ z : zSt, z = zu σ38 0 8 ((σ38 0 8) + 1) := ⟨_, rfl⟩
        rw [← eσ39]
        replace hf := hf σ39 eσ39
        refine z_goto (tgt := 82) hC dX12_advance_143 (by decide) ?_
        exact ih _ hf
      · replace hf := hf.2 hc
        refine z_aload_n hC dX12_advance_111 0 rfl rfl ?_
        refine z_get hC (fun w h => uT _ w (uL12 w h)) (oM_12 (show kM 0 = 12 by decide)) 11 (by decide) (uT _ _ u1556) rfl rfl dX12_advance_112 ?_
        refine z_iconst hC dX12_advance_115 ?_
        refine z_lshl hC ⟨by decide, by decide⟩ dX12_advance_116 ?_
        refine z_aload_n hC dX12_advance_117 0 rfl rfl ?_
        refine z_callVi hC hE (oM_12 (show kM 0 = 12 by decide)) [] (fun sz2 => mX12_peek l hinj sz2 hf) (cwV 0 hC.1.2.2.2.2 (uV (uT _) u1707 u1709 u41 u118 u1710) rfl rfl rfl (by decide +kernel) ⟨Nat.le_of_ble_eq_true rfl, Nat.le_of_ble_eq_true rfl⟩) rfl rfl (Nat.le_of_ble_eq_true rfl) ⟨Nat.le_of_ble_eq_true rfl, Nat.le_of_ble_eq_true rfl⟩ dX12_advance_118 (fun r40 σ40 hf => ?_)
        refine z_bipush hC dX12_advance_121 (by decide) ?_
        refine z_isub hC dX12_advance_123 ?_
        obtain ⟨g41, hf⟩ := hf
        refine z_i2l hC dX12_advance_124 g41 ?_
        obtain ⟨g42, hf⟩ := hf
        obtain ⟨g43, hf⟩ := hf
        refine z_lor hC g42 g43 dX12_advance_125 ?_
        refine z_goto (tgt := 130) hC dX12_advance_126 (by decide) ?_
        refine z_put hC (ty := .long) tyX12 tyX12_ok nmX12 (fun w h => uT _ w (uL12 w h)) (oM_12 (show kM 0 = 12 by decide)) (loM' (show kM 0 = 12 by decide) (by decide)) 11 (by decide) (uT _ _ u1556) rfl rfl (11) (((((σ33 0 11) * 2 ^ (5 : Int).toNat).toNat ||| (r40 - 96).toNat : Nat) : Int)) (by simp [zu]) (by decide +kernel) rfl rfl (Nat.le_of_ble_eq_true rfl) dX12_advance_130 ?_
        obtain ⟨σ44, eσ44⟩ : ∃ z : zSt, z = zu σ40 0 11 ((((σ33 0 11) * 2 ^ (5 : Int).toNat).toNat ||| (r40 - 96).toNat : Nat) : Int) := ⟨_, rfl⟩
        rw [← eσ44]
        replace hf := hf σ44 eσ44
        refine z_aload_n hC dX12_advance_133 0 rfl rfl ?_
        refine z_dup hC dX12_advance_134 rfl ?_
        refine z_get hC (fun w h => uT _ w (uL12 w h)) (oM_12 (show kM 0 = 12 by decide)) 8 (by decide) (uT _ _ u1553) rfl rfl dX12_advance_135 ?_
        refine z_iconst hC dX12_advance_138 ?_
        refine z_iadd hC dX12_advance_139 ?_
        refine z_put hC (ty := .int) tyX12 tyX12_ok nmX12 (fun w h => uT _ w (uL12 w h)) (oM_12 (show kM 0 = 12 by decide)) (loM' (show kM 0 = 12 by decide) (by decide)) 8 (by decide) (uT _ _ u1553) rfl rfl (8) ((σ44 0 8) + 1) (by simp [zu]) (by decide +kernel) rfl rfl (Nat.le_of_ble_eq_true rfl) dX12_advance_140 ?_
        obtain ⟨σ45, eσ45⟩ : ∃ z : zSt, z = zu σ44 0 8 ((σ44 0 8) + 1) := ⟨_, rfl⟩
        rw [← eσ45]
        replace hf := hf σ45 eσ45
        refine z_goto (tgt := 82) hC dX12_advance_143 (by decide) ?_
        exact ih _ hf
set_option maxHeartbeats 4000000 in
set_option maxRecDepth 100000 in
theorem wX12_advance_B184 {p : Program} {l : Launch} {e : Env} {s : State} {m : MethodId} {args : Array Value} {below : List Frame} {meth : Method} {c : Code} {D : va_G} {dA : Nat → ClassId} {ad : Nat → Nat} {sz : Nat}  {K : zSt → Prop} (hC : zC p m c cX12_advance 2 s args (Cond.code yX12_advance cX12_advance 2 none :: UW) RX12 meth D vwCl (tyA dA) (zA ad NM sz) NM ad (celM ad dA)) (hE : zE zX0 (zA ad NM sz) s s.heap) (hr : meth.sig.returnType = none) (hinj : ∀ i j, i < NM → j < NM → ad i = ad j → i = j) : ∀ (n : Nat) (σ : zSt), fX12_advance_B184 K n σ  → zAt p l e ({ frames := 1, cells := 0, slots := 0, locals := 22 } : Room) s m args below meth c 0 0 (MQ below (va_Qv K (zB D vwCl (tyA dA) NM ad (celM ad dA)) (zA ad NM sz)) args s 0 0 (zA ad NM sz)) 2 D vwCl (zA ad NM sz) NM ad (celM ad dA) 184 [(0, vR ad 0)] [] σ := by
  intro n
  induction n with
  | zero => intro σ   hf; exact False.elim hf
  | succ n ih =>
    intro σ   hf
    rw [uX12_advance_B184] at hf
    refine z_aload_n hC dX12_advance_184 0 rfl rfl ?_
    refine z_callVi hC hE (oM_12 (show kM 0 = 12 by decide)) [] (fun sz2 => mX12_peek l hinj sz2 hf) (cwV 0 hC.1.2.2.2.2 (uV (uT _) u1707 u1709 u41 u118 u1710) rfl rfl rfl (by decide +kernel) ⟨Nat.le_of_ble_eq_true rfl, Nat.le_of_ble_eq_true rfl⟩) rfl rfl (Nat.le_of_ble_eq_true rfl) ⟨Nat.le_of_ble_eq_true rfl, Nat.le_of_ble_eq_true rfl⟩ dX12_advance_185 (fun r23 σ23 hf => ?_)
    refine z_bipush hC dX12_advance_188 (by decide) ?_
    refine z_bipush hC dX12_advance_190 (by decide) ?_
    refine z_callSi hC hE [vI r23, vI 48, vI 57] (fun sz2 => mX12_inRange l hinj sz2 hf) (va_cwS 3 hC.1.2.2.2.2 (uS (uT _) u1700 u1701 u118 u1702) rfl rfl rfl (by decide +kernel) ⟨Nat.le_of_ble_eq_true rfl, Nat.le_of_ble_eq_true rfl⟩) rfl rfl (Nat.le_of_ble_eq_true rfl) ⟨Nat.le_of_ble_eq_true rfl, Nat.le_of_ble_eq_true rfl⟩ dX12_advance_192 (fun r24 σ24 hf => ?_)
    obtain ⟨g25, hf⟩ := hf
    refine z_if_eq (tgt := 269) hC dX12_advance_195 (by decide) g25 (fun hc => ?_) (fun hc => ?_)
    · replace hf := hf.1 hc
      exact z_vret hC hr rfl dX12_advance_269 hf
    · replace hf := hf.2 hc
      refine z_aload_n hC dX12_advance_198 0 rfl rfl ?_
      refine z_aload_n hC dX12_advance_199 0 rfl rfl ?_
      refine z_get hC (fun w h => uT _ w (uL12 w h)) (oM_12 (show kM 0 = 12 by decide)) 12 (by decide) (uT _ _ u1557) rfl rfl dX12_advance_200 ?_
      refine z_ldc hC (n := 100000000) (uT _ _ u1711) (by decide) dX12_advance_203 ?_
      obtain ⟨g26, hf⟩ := hf
      refine z_icmp_le (tgt := 213) hC dX12_advance_205 (by decide) g26 (zlit rfl rfl) (fun hc => ?_) (fun hc => ?_)
      · replace hf := hf.1 hc
        refine z_bipush hC dX12_advance_213 (by decide) ?_
        refine z_aload_n hC dX12_advance_215 0 rfl rfl ?_
        refine z_get hC (fun w h => uT _ w (uL12 w h)) (oM_12 (show kM 0 = 12 by decide)) 12 (by decide) (uT _ _ u1557) rfl rfl dX12_advance_216 ?_
        refine z_imul hC dX12_advance_219 ?_
        refine z_aload_n hC dX12_advance_220 0 rfl rfl ?_
        refine z_callVi hC hE (oM_12 (show kM 0 = 12 by decide)) [] (fun sz2 => mX12_peek l hinj sz2 hf) (cwV 0 hC.1.2.2.2.2 (uV (uT _) u1707 u1709 u41 u118 u1710) rfl rfl rfl (by decide +kernel) ⟨Nat.le_of_ble_eq_true rfl, Nat.le_of_ble_eq_true rfl⟩) rfl rfl (Nat.le_of_ble_eq_true rfl) ⟨Nat.le_of_ble_eq_true rfl, Nat.le_of_ble_eq_true rfl⟩ dX12_advance_221 (fun r27 σ27 hf => ?_)
        refine z_iadd hC dX12_advance_224 ?_
        refine z_bipush hC dX12_advance_225 (by decide) ?_
        refine z_isub hC dX12_advance_227 ?_
        refine z_put hC (ty := .int) tyX12 tyX12_ok nmX12 (fun w h => uT _ w (uL12 w h)) (oM_12 (show kM 0 = 12 by decide)) (loM' (show kM 0 = 12 by decide) (by decide)) 12 (by decide) (uT _ _ u1557) rfl rfl (12) (((10 * (σ24 0 12)) + r27) - 48) (by simp [zu]) (by decide +kernel) rfl rfl (Nat.le_of_ble_eq_true rfl) dX12_advance_228 ?_
        obtain ⟨σ28, eσ28⟩ : ∃ z : zSt, z = zu σ27 0 12 (((10 * (σ24 0 12)) + r27) - 48) := ⟨_, rfl⟩
        rw [← eσ28]
        replace hf := hf σ28 eσ28
        refine z_aload_n hC dX12_advance_231 0 rfl rfl ?_
        refine z_dup hC dX12_advance_232 rfl ?_
        refine z_get hC (fun w h => uT _ w (uL12 w h)) (oM_12 (show kM 0 = 12 by decide)) 8 (by decide) (uT _ _ u1553) rfl rfl dX12_advance_233 ?_
        refine z_iconst hC dX12_advance_236 ?_
        refine z_iadd hC dX12_advance_237 ?_
        refine z_put hC (ty := .int) tyX12 tyX12_ok nmX12 (fun w h => uT _ w (uL12 w h)) (oM_12 (show kM 0 = 12 by decide)) (loM' (show kM 0 = 12 by decide) (by decide)) 8 (by decide) (uT _ _ u1553) rfl rfl (8) ((σ28 0 8) + 1) (by simp [zu]) (by decide +kernel) rfl rfl (Nat.le_of_ble_eq_true rfl) dX12_advance_238 ?_
        obtain ⟨σ29, eσ29⟩ : ∃ z : zSt, z = zu σ28 0 8 ((σ28 0 8) + 1) := ⟨_, rfl⟩
        rw [← eσ29]
        replace hf := hf σ29 eσ29
        refine z_goto (tgt := 184) hC dX12_advance_241 (by decide) ?_
        exact ih _ hf
      · replace hf := hf.2 hc
        refine z_ldc hC (n := 1000000000) (uT _ _ u1712) (by decide) dX12_advance_208 ?_
        refine z_goto (tgt := 228) hC dX12_advance_210 (by decide) ?_
        refine z_put hC (ty := .int) tyX12 tyX12_ok nmX12 (fun w h => uT _ w (uL12 w h)) (oM_12 (show kM 0 = 12 by decide)) (loM' (show kM 0 = 12 by decide) (by decide)) 12 (by decide) (uT _ _ u1557) rfl rfl (12) (1000000000) (by simp [zu]) (by decide +kernel) rfl rfl (Nat.le_of_ble_eq_true rfl) dX12_advance_228 ?_
        obtain ⟨σ30, eσ30⟩ : ∃ z : zSt, z = zu σ24 0 12 1000000000 := ⟨_, rfl⟩
        rw [← eσ30]
        replace hf := hf σ30 eσ30
        refine z_aload_n hC dX12_advance_231 0 rfl rfl ?_
        refine z_dup hC dX12_advance_232 rfl ?_
        refine z_get hC (fun w h => uT _ w (uL12 w h)) (oM_12 (show kM 0 = 12 by decide)) 8 (by decide) (uT _ _ u1553) rfl rfl dX12_advance_233 ?_
        refine z_iconst hC dX12_advance_236 ?_
        refine z_iadd hC dX12_advance_237 ?_
        refine z_put hC (ty := .int) tyX12 tyX12_ok nmX12 (fun w h => uT _ w (uL12 w h)) (oM_12 (show kM 0 = 12 by decide)) (loM' (show kM 0 = 12 by decide) (by decide)) 8 (by decide) (uT _ _ u1553) rfl rfl (8) ((σ30 0 8) + 1) (by simp [zu]) (by decide +kernel) rfl rfl (Nat.le_of_ble_eq_true rfl) dX12_advance_238 ?_
        obtain ⟨σ31, eσ31⟩ : ∃ z : zSt, z = zu σ30 0 8 ((σ30 0 8) + 1) := ⟨_, rfl⟩
        rw [← eσ31]
        replace hf := hf σ31 eσ31
        refine z_goto (tgt := 184) hC dX12_advance_241 (by decide) ?_
        exact ih _ hf
set_option maxHeartbeats 4000000 in
set_option maxRecDepth 100000 in
theorem wX12_advance_B0 {p : Program} {l : Launch} {e : Env} {s : State} {m : MethodId} {args : Array Value} {below : List Frame} {meth : Method} {c : Code} {D : va_G} {dA : Nat → ClassId} {ad : Nat → Nat} {sz : Nat}  {K : zSt → Prop} (hC : zC p m c cX12_advance 2 s args (Cond.code yX12_advance cX12_advance 2 none :: UW) RX12 meth D vwCl (tyA dA) (zA ad NM sz) NM ad (celM ad dA)) (hE : zE zX0 (zA ad NM sz) s s.heap) (hr : meth.sig.returnType = none) (hinj : ∀ i j, i < NM → j < NM → ad i = ad j → i = j) : ∀ (n : Nat) (σ : zSt), fX12_advance_B0 K n σ  → zAt p l e ({ frames := 1, cells := 0, slots := 0, locals := 22 } : Room) s m args below meth c 0 0 (MQ below (va_Qv K (zB D vwCl (tyA dA) NM ad (celM ad dA)) (zA ad NM sz)) args s 0 0 (zA ad NM sz)) 2 D vwCl (zA ad NM sz) NM ad (celM ad dA) 0 [(0, vR ad 0)] [] σ := by
  intro n
  induction n with
  | zero => intro σ   hf; exact False.elim hf
  | succ n ih =>
    intro σ   hf
    rw [uX12_advance_B0] at hf
    refine z_aload_n hC dX12_advance_0 0 rfl rfl ?_
    refine z_callVi hC hE (oM_12 (show kM 0 = 12 by decide)) [] (fun sz2 => mX12_peek l hinj sz2 hf) (cwV 0 hC.1.2.2.2.2 (uV (uT _) u1707 u1709 u41 u118 u1710) rfl rfl rfl (by decide +kernel) ⟨Nat.le_of_ble_eq_true rfl, Nat.le_of_ble_eq_true rfl⟩) rfl rfl (Nat.le_of_ble_eq_true rfl) ⟨Nat.le_of_ble_eq_true rfl, Nat.le_of_ble_eq_true rfl⟩ dX12_advance_1 (fun r1 σ1 hf => ?_)
    refine z_bipush hC dX12_advance_4 (by decide) ?_
    obtain ⟨g2, hf⟩ := hf
    refine z_icmp_eq (tgt := 18) hC dX12_advance_6 (by decide) g2 (zlit rfl rfl) (fun hc => ?_) (fun hc => ?_)
    · replace hf := hf.1 hc
      refine z_aload_n hC dX12_advance_18 0 rfl rfl ?_
      refine z_dup hC dX12_advance_19 rfl ?_
      refine z_get hC (fun w h => uT _ w (uL12 w h)) (oM_12 (show kM 0 = 12 by decide)) 8 (by decide) (uT _ _ u1553) rfl rfl dX12_advance_20 ?_
      refine z_iconst hC dX12_advance_23 ?_
      refine z_iadd hC dX12_advance_24 ?_
      refine z_put hC (ty := .int) tyX12 tyX12_ok nmX12 (fun w h => uT _ w (uL12 w h)) (oM_12 (show kM 0 = 12 by decide)) (loM' (show kM 0 = 12 by decide) (by decide)) 8 (by decide) (uT _ _ u1553) rfl rfl (8) ((σ1 0 8) + 1) (by simp [zu]) (by decide +kernel) rfl rfl (Nat.le_of_ble_eq_true rfl) dX12_advance_25 ?_
      obtain ⟨σ3, eσ3⟩ : ∃ z : zSt, z = zu σ1 0 8 ((σ1 0 8) + 1) := ⟨_, rfl⟩
      rw [← eσ3]
      replace hf := hf σ3 eσ3
      refine z_goto (tgt := 0) hC dX12_advance_28 (by decide) ?_
      exact ih _ hf
    · replace hf := hf.2 hc
      refine z_aload_n hC dX12_advance_9 0 rfl rfl ?_
      refine z_callVi hC hE (oM_12 (show kM 0 = 12 by decide)) [] (fun sz2 => mX12_peek l hinj sz2 hf) (cwV 0 hC.1.2.2.2.2 (uV (uT _) u1707 u1709 u41 u118 u1710) rfl rfl rfl (by decide +kernel) ⟨Nat.le_of_ble_eq_true rfl, Nat.le_of_ble_eq_true rfl⟩) rfl rfl (Nat.le_of_ble_eq_true rfl) ⟨Nat.le_of_ble_eq_true rfl, Nat.le_of_ble_eq_true rfl⟩ dX12_advance_10 (fun r4 σ4 hf => ?_)
      refine z_bipush hC dX12_advance_13 (by decide) ?_
      obtain ⟨g5, hf⟩ := hf
      refine z_icmp_ne (tgt := 31) hC dX12_advance_15 (by decide) g5 (zlit rfl rfl) (fun hc => ?_) (fun hc => ?_)
      · replace hf := hf.2 hc
        refine z_aload_n hC dX12_advance_31 0 rfl rfl ?_
        refine z_aload_n hC dX12_advance_32 0 rfl rfl ?_
        refine z_get hC (fun w h => uT _ w (uL12 w h)) (oM_12 (show kM 0 = 12 by decide)) 8 (by decide) (uT _ _ u1553) rfl rfl dX12_advance_33 ?_
        refine z_put hC (ty := .int) tyX12 tyX12_ok nmX12 (fun w h => uT _ w (uL12 w h)) (oM_12 (show kM 0 = 12 by decide)) (loM' (show kM 0 = 12 by decide) (by decide)) 9 (by decide) (uT _ _ u1554) rfl rfl (9) (σ4 0 8) (by simp [zu]) (by decide +kernel) rfl rfl (Nat.le_of_ble_eq_true rfl) dX12_advance_36 ?_
        obtain ⟨σ6, eσ6⟩ : ∃ z : zSt, z = zu σ4 0 9 (σ4 0 8) := ⟨_, rfl⟩
        rw [← eσ6]
        replace hf := hf σ6 eσ6
        refine z_aload_n hC dX12_advance_39 0 rfl rfl ?_
        refine z_lcon (z := 0) hC dX12_advance_40 (by decide) ?_
        refine z_put hC (ty := .long) tyX12 tyX12_ok nmX12 (fun w h => uT _ w (uL12 w h)) (oM_12 (show kM 0 = 12 by decide)) (loM' (show kM 0 = 12 by decide) (by decide)) 11 (by decide) (uT _ _ u1556) rfl rfl (11) (0) (by simp [zu]) (by decide +kernel) rfl rfl (Nat.le_of_ble_eq_true rfl) dX12_advance_41 ?_
        obtain ⟨σ7, eσ7⟩ : ∃ z : zSt, z = zu σ6 0 11 0 := ⟨_, rfl⟩
        rw [← eσ7]
        replace hf := hf σ7 eσ7
        refine z_aload_n hC dX12_advance_44 0 rfl rfl ?_
        refine z_iconst hC dX12_advance_45 ?_
        refine z_put hC (ty := .int) tyX12 tyX12_ok nmX12 (fun w h => uT _ w (uL12 w h)) (oM_12 (show kM 0 = 12 by decide)) (loM' (show kM 0 = 12 by decide) (by decide)) 12 (by decide) (uT _ _ u1557) rfl rfl (12) (0) (by simp [zu]) (by decide +kernel) rfl rfl (Nat.le_of_ble_eq_true rfl) dX12_advance_46 ?_
        obtain ⟨σ8, eσ8⟩ : ∃ z : zSt, z = zu σ7 0 12 0 := ⟨_, rfl⟩
        rw [← eσ8]
        replace hf := hf σ8 eσ8
        refine z_aload_n hC dX12_advance_49 0 rfl rfl ?_
        refine z_callVi hC hE (oM_12 (show kM 0 = 12 by decide)) [] (fun sz2 => mX12_peek l hinj sz2 hf) (cwV 0 hC.1.2.2.2.2 (uV (uT _) u1707 u1709 u41 u118 u1710) rfl rfl rfl (by decide +kernel) ⟨Nat.le_of_ble_eq_true rfl, Nat.le_of_ble_eq_true rfl⟩) rfl rfl (Nat.le_of_ble_eq_true rfl) ⟨Nat.le_of_ble_eq_true rfl, Nat.le_of_ble_eq_true rfl⟩ dX12_advance_50 (fun r9 σ9 hf => ?_)
        refine z_istore_n hC ([(1, vI r9), (0, vR ad 0)]) dX12_advance_53 rfl (by decide) rfl ?_
        refine z_iload_n hC dX12_advance_54 0 rfl rfl ?_
        obtain ⟨g10, hf⟩ := hf
        refine z_if_ge (tgt := 66) hC dX12_advance_55 (by decide) g10 (fun hc => ?_) (fun hc => ?_)
        · replace hf := hf.1 hc
          refine z_iload_n hC dX12_advance_66 0 rfl rfl ?_
          refine z_bipush hC dX12_advance_67 (by decide) ?_
          refine z_bipush hC dX12_advance_69 (by decide) ?_
          refine z_callSi hC hE [vI r9, vI 97, vI 122] (fun sz2 => mX12_inRange l hinj sz2 hf) (va_cwS 3 hC.1.2.2.2.2 (uS (uT _) u1700 u1701 u118 u1702) rfl rfl rfl (by decide +kernel) ⟨Nat.le_of_ble_eq_true rfl, Nat.le_of_ble_eq_true rfl⟩) rfl rfl (Nat.le_of_ble_eq_true rfl) ⟨Nat.le_of_ble_eq_true rfl, Nat.le_of_ble_eq_true rfl⟩ dX12_advance_71 (fun r11 σ11 hf => ?_)
          obtain ⟨g12, hf⟩ := hf
          refine z_if_eq (tgt := 168) hC dX12_advance_74 (by decide) g12 (fun hc => ?_) (fun hc => ?_)
          · replace hf := hf.1 hc
            refine z_iload_n hC dX12_advance_168 0 rfl rfl ?_
            refine z_bipush hC dX12_advance_169 (by decide) ?_
            refine z_bipush hC dX12_advance_171 (by decide) ?_
            refine z_callSi hC hE [vI r9, vI 48, vI 57] (fun sz2 => mX12_inRange l hinj sz2 hf) (va_cwS 3 hC.1.2.2.2.2 (uS (uT _) u1700 u1701 u118 u1702) rfl rfl rfl (by decide +kernel) ⟨Nat.le_of_ble_eq_true rfl, Nat.le_of_ble_eq_true rfl⟩) rfl rfl (Nat.le_of_ble_eq_true rfl) ⟨Nat.le_of_ble_eq_true rfl, Nat.le_of_ble_eq_true rfl⟩ dX12_advance_173 (fun r13 σ13 hf => ?_)
            obtain ⟨g14, hf⟩ := hf
            refine z_if_eq (tgt := 244) hC dX12_advance_176 (by decide) g14 (fun hc => ?_) (fun hc => ?_)
            · replace hf := hf.1 hc
              refine z_aload_n hC dX12_advance_244 1 rfl rfl ?_
              refine z_iload_n hC dX12_advance_245 0 rfl rfl ?_
              refine z_bipush hC dX12_advance_246 (by decide) ?_
              refine z_icmp_ne (tgt := 255) hC dX12_advance_248 (by decide) g10 (zlit rfl rfl) (fun hc => ?_) (fun hc => ?_)
              · replace hf := hf.2 hc
                refine z_iconst hC dX12_advance_255 ?_
                refine z_put hC (ty := .int) tyX12 tyX12_ok nmX12 (fun w h => uT _ w (uL12 w h)) (oM_12 (show kM 0 = 12 by decide)) (loM' (show kM 0 = 12 by decide) (by decide)) 10 (by decide) (uT _ _ u1555) rfl rfl (10) (4) (by simp [zu]) (by decide +kernel) rfl rfl (Nat.le_of_ble_eq_true rfl) dX12_advance_256 ?_
                obtain ⟨σ15, eσ15⟩ : ∃ z : zSt, z = zu σ13 0 10 4 := ⟨_, rfl⟩
                rw [← eσ15]
                replace hf := hf σ15 eσ15
                refine z_aload_n hC dX12_advance_259 1 rfl rfl ?_
                refine z_dup hC dX12_advance_260 rfl ?_
                refine z_get hC (fun w h => uT _ w (uL12 w h)) (oM_12 (show kM 0 = 12 by decide)) 8 (by decide) (uT _ _ u1553) rfl rfl dX12_advance_261 ?_
                refine z_iconst hC dX12_advance_264 ?_
                refine z_iadd hC dX12_advance_265 ?_
                refine z_put hC (ty := .int) tyX12 tyX12_ok nmX12 (fun w h => uT _ w (uL12 w h)) (oM_12 (show kM 0 = 12 by decide)) (loM' (show kM 0 = 12 by decide) (by decide)) 8 (by decide) (uT _ _ u1553) rfl rfl (8) ((σ15 0 8) + 1) (by simp [zu]) (by decide +kernel) rfl rfl (Nat.le_of_ble_eq_true rfl) dX12_advance_266 ?_
                obtain ⟨σ16, eσ16⟩ : ∃ z : zSt, z = zu σ15 0 8 ((σ15 0 8) + 1) := ⟨_, rfl⟩
                rw [← eσ16]
                replace hf := hf σ16 eσ16
                exact z_vret hC hr rfl dX12_advance_269 hf
              · replace hf := hf.1 hc
                refine z_iconst hC dX12_advance_251 ?_
                refine z_goto (tgt := 256) hC dX12_advance_252 (by decide) ?_
                refine z_put hC (ty := .int) tyX12 tyX12_ok nmX12 (fun w h => uT _ w (uL12 w h)) (oM_12 (show kM 0 = 12 by decide)) (loM' (show kM 0 = 12 by decide) (by decide)) 10 (by decide) (uT _ _ u1555) rfl rfl (10) (3) (by simp [zu]) (by decide +kernel) rfl rfl (Nat.le_of_ble_eq_true rfl) dX12_advance_256 ?_
                obtain ⟨σ17, eσ17⟩ : ∃ z : zSt, z = zu σ13 0 10 3 := ⟨_, rfl⟩
                rw [← eσ17]
                replace hf := hf σ17 eσ17
                refine z_aload_n hC dX12_advance_259 1 rfl rfl ?_
                refine z_dup hC dX12_advance_260 rfl ?_
                refine z_get hC (fun w h => uT _ w (uL12 w h)) (oM_12 (show kM 0 = 12 by decide)) 8 (by decide) (uT _ _ u1553) rfl rfl dX12_advance_261 ?_
                refine z_iconst hC dX12_advance_264 ?_
                refine z_iadd hC dX12_advance_265 ?_
                refine z_put hC (ty := .int) tyX12 tyX12_ok nmX12 (fun w h => uT _ w (uL12 w h)) (oM_12 (show kM 0 = 12 by decide)) (loM' (show kM 0 = 12 by decide) (by decide)) 8 (by decide) (uT _ _ u1553) rfl rfl (8) ((σ17 0 8) + 1) (by simp [zu]) (by decide +kernel) rfl rfl (Nat.le_of_ble_eq_true rfl) dX12_advance_266 ?_
                obtain ⟨σ18, eσ18⟩ : ∃ z : zSt, z = zu σ17 0 8 ((σ17 0 8) + 1) := ⟨_, rfl⟩
                rw [← eσ18]
                replace hf := hf σ18 eσ18
                exact z_vret hC hr rfl dX12_advance_269 hf
            · replace hf := hf.2 hc
              refine z_aload_n hC dX12_advance_179 1 rfl rfl ?_
              refine z_iconst hC dX12_advance_180 ?_
              refine z_put hC (ty := .int) tyX12 tyX12_ok nmX12 (fun w h => uT _ w (uL12 w h)) (oM_12 (show kM 0 = 12 by decide)) (loM' (show kM 0 = 12 by decide) (by decide)) 10 (by decide) (uT _ _ u1555) rfl rfl (10) (2) (by simp [zu]) (by decide +kernel) rfl rfl (Nat.le_of_ble_eq_true rfl) dX12_advance_181 ?_
              obtain ⟨σ19, eσ19⟩ : ∃ z : zSt, z = zu σ13 0 10 2 := ⟨_, rfl⟩
              rw [← eσ19]
              replace hf := hf σ19 eσ19
              refine z_sub (lv' := [(0, vR ad 0)]) [1] rfl ?_
              obtain ⟨n, hf⟩ := hf
              exact wX12_advance_B184 hC hE hr hinj n _ hf
          · replace hf := hf.2 hc
            refine z_aload_n hC dX12_advance_77 1 rfl rfl ?_
            refine z_iconst hC dX12_advance_78 ?_
            refine z_put hC (ty := .int) tyX12 tyX12_ok nmX12 (fun w h => uT _ w (uL12 w h)) (oM_12 (show kM 0 = 12 by decide)) (loM' (show kM 0 = 12 by decide) (by decide)) 10 (by decide) (uT _ _ u1555) rfl rfl (10) (1) (by simp [zu]) (by decide +kernel) rfl rfl (Nat.le_of_ble_eq_true rfl) dX12_advance_79 ?_
            obtain ⟨σ20, eσ20⟩ : ∃ z : zSt, z = zu σ11 0 10 1 := ⟨_, rfl⟩
            rw [← eσ20]
            replace hf := hf σ20 eσ20
            refine z_sub (lv' := [(0, vR ad 0)]) [1] rfl ?_
            obtain ⟨n, hf⟩ := hf
            exact wX12_advance_B82 hC hE hr hinj n _ hf
        · replace hf := hf.2 hc
          refine z_aload_n hC dX12_advance_58 1 rfl rfl ?_
          refine z_iconst hC dX12_advance_59 ?_
          refine z_put hC (ty := .int) tyX12 tyX12_ok nmX12 (fun w h => uT _ w (uL12 w h)) (oM_12 (show kM 0 = 12 by decide)) (loM' (show kM 0 = 12 by decide) (by decide)) 10 (by decide) (uT _ _ u1555) rfl rfl (10) (0) (by simp [zu]) (by decide +kernel) rfl rfl (Nat.le_of_ble_eq_true rfl) dX12_advance_60 ?_
          obtain ⟨σ21, eσ21⟩ : ∃ z : zSt, z = zu σ9 0 10 0 := ⟨_, rfl⟩
          rw [← eσ21]
          replace hf := hf σ21 eσ21
          refine z_goto (tgt := 269) hC dX12_advance_63 (by decide) ?_
          exact z_vret hC hr rfl dX12_advance_269 hf
      · replace hf := hf.1 hc
        refine z_aload_n hC dX12_advance_18 0 rfl rfl ?_
        refine z_dup hC dX12_advance_19 rfl ?_
        refine z_get hC (fun w h => uT _ w (uL12 w h)) (oM_12 (show kM 0 = 12 by decide)) 8 (by decide) (uT _ _ u1553) rfl rfl dX12_advance_20 ?_
        refine z_iconst hC dX12_advance_23 ?_
        refine z_iadd hC dX12_advance_24 ?_
        refine z_put hC (ty := .int) tyX12 tyX12_ok nmX12 (fun w h => uT _ w (uL12 w h)) (oM_12 (show kM 0 = 12 by decide)) (loM' (show kM 0 = 12 by decide) (by decide)) 8 (by decide) (uT _ _ u1553) rfl rfl (8) ((σ4 0 8) + 1) (by simp [zu]) (by decide +kernel) rfl rfl (Nat.le_of_ble_eq_true rfl) dX12_advance_25 ?_
        obtain ⟨σ22, eσ22⟩ : ∃ z : zSt, z = zu σ4 0 8 ((σ4 0 8) + 1) := ⟨_, rfl⟩
        rw [← eσ22]
        replace hf := hf σ22 eσ22
        refine z_goto (tgt := 0) hC dX12_advance_28 (by decide) ?_
        exact ih _ hf
set_option maxHeartbeats 4000000 in
set_option maxRecDepth 100000 in
theorem mX12_advance {D : va_G} {dA : Nat → ClassId} {ad : Nat → Nat}  (l : Launch) (hinj : ∀ i j, i < NM → j < NM → ad i = ad j → i = j) (sz : Nat) {K : zSt → Prop} {σ : zSt} (hf : fX12_advance K σ ) : Met l yX12_advance (Cond.code yX12_advance cX12_advance 2 none :: UW) ({ frames := 1, cells := 0, slots := 0, locals := 22 } : Room) (va_Pc [vR ad 0] (zPre D vwCl (tyA dA) zX0 NM ad (celM ad dA) sz σ)) (va_Qv K (zB D vwCl (tyA dA) NM ad (celM ad dA)) (zA ad NM sz)) 0 0 (zA ad NM sz) := by
  refine z_enter (cc := cX12_advance) (maxL := 2) (ret := none) (vs := [vR ad 0]) (plainFor_of_name (by decide)) rfl hinj (Nat.le_of_ble_eq_true rfl) ?_
  intro p e s m args below meth c hC hE hsz hr hnm
  show zAt p l e ({ frames := 1, cells := 0, slots := 0, locals := 22 } : Room) s m args below meth c 0 0 (MQ below (va_Qv K (zB D vwCl (tyA dA) NM ad (celM ad dA)) (zA ad NM sz)) args s 0 0 (zA ad NM sz)) 2 D vwCl (zA ad NM sz) NM ad (celM ad dA) 0 [(0, vR ad 0)] [] σ
  obtain ⟨n, hf⟩ := hf
  exact wX12_advance_B0 hC hE hr hinj n _ hf

-- ===== X12_check
def fX12_check (K : zSt → Prop) (σ : zSt) (x1 : Int) (x2 : Int) : Prop :=
  zrg x1 ∧ ((x1 = 0 → zrg (σ 0 13) ∧ ((σ 0 13 = 0 → ∀ σ3, σ3 = zu σ 0 13 x2 → ∀ σ4, σ4 = zu σ3 0 14 (σ3 0 9) → K σ4) ∧ (¬ σ 0 13 = 0 → K σ))) ∧ (¬ x1 = 0 → K σ))
set_option maxHeartbeats 4000000 in
set_option maxRecDepth 100000 in
theorem mX12_check {D : va_G} {dA : Nat → ClassId} {ad : Nat → Nat}  (l : Launch) (hinj : ∀ i j, i < NM → j < NM → ad i = ad j → i = j) (sz : Nat) {K : zSt → Prop} {σ : zSt} {x1 : Int} {x2 : Int} (hf : fX12_check K σ x1 x2) : Met l yX12_check (Cond.code yX12_check cX12_check 3 none :: UW) ({ frames := 0, cells := 0, slots := 0, locals := 0 } : Room) (va_Pc [vR ad 0, vI x1, vI x2] (zPre D vwCl (tyA dA) zX0 NM ad (celM ad dA) sz σ)) (va_Qv K (zB D vwCl (tyA dA) NM ad (celM ad dA)) (zA ad NM sz)) 0 0 (zA ad NM sz) := by
  refine z_enter (cc := cX12_check) (maxL := 3) (ret := none) (vs := [vR ad 0, vI x1, vI x2]) (plainFor_of_name (by decide)) rfl hinj (Nat.le_of_ble_eq_true rfl) ?_
  intro p e s m args below meth c hC hE hsz hr hnm
  show zAt p l e ({ frames := 0, cells := 0, slots := 0, locals := 0 } : Room) s m args below meth c 0 0 (MQ below (va_Qv K (zB D vwCl (tyA dA) NM ad (celM ad dA)) (zA ad NM sz)) args s 0 0 (zA ad NM sz)) 3 D vwCl (zA ad NM sz) NM ad (celM ad dA) 0 [(0, vR ad 0), (1, vI x1), (2, vI x2)] [] σ
  refine z_iload_n hC dX12_check_0 1 rfl rfl ?_
  obtain ⟨g1, hf⟩ := hf
  refine z_if_ne (tgt := 11) hC dX12_check_1 (by decide) g1 (fun hc => ?_) (fun hc => ?_)
  · replace hf := hf.2 hc
    exact z_vret hC hr rfl dX12_check_11 hf
  · replace hf := hf.1 hc
    refine z_aload_n hC dX12_check_4 0 rfl rfl ?_
    refine z_get hC (fun w h => uT _ w (uL12 w h)) (oM_12 (show kM 0 = 12 by decide)) 13 (by decide) (uT _ _ u1558) rfl rfl dX12_check_5 ?_
    obtain ⟨g2, hf⟩ := hf
    refine z_if_eq (tgt := 12) hC dX12_check_8 (by decide) g2 (fun hc => ?_) (fun hc => ?_)
    · replace hf := hf.1 hc
      refine z_aload_n hC dX12_check_12 0 rfl rfl ?_
      refine z_iload_n hC dX12_check_13 2 rfl rfl ?_
      refine z_put hC (ty := .int) tyX12 tyX12_ok nmX12 (fun w h => uT _ w (uL12 w h)) (oM_12 (show kM 0 = 12 by decide)) (loM' (show kM 0 = 12 by decide) (by decide)) 13 (by decide) (uT _ _ u1558) rfl rfl (13) (x2) (by simp [zu]) (by decide +kernel) rfl rfl (Nat.le_of_ble_eq_true rfl) dX12_check_14 ?_
      obtain ⟨σ3, eσ3⟩ : ∃ z : zSt, z = zu σ 0 13 x2 := ⟨_, rfl⟩
      rw [← eσ3]
      replace hf := hf σ3 eσ3
      refine z_aload_n hC dX12_check_17 0 rfl rfl ?_
      refine z_aload_n hC dX12_check_18 0 rfl rfl ?_
      refine z_get hC (fun w h => uT _ w (uL12 w h)) (oM_12 (show kM 0 = 12 by decide)) 9 (by decide) (uT _ _ u1554) rfl rfl dX12_check_19 ?_
      refine z_put hC (ty := .int) tyX12 tyX12_ok nmX12 (fun w h => uT _ w (uL12 w h)) (oM_12 (show kM 0 = 12 by decide)) (loM' (show kM 0 = 12 by decide) (by decide)) 14 (by decide) (uT _ _ u1559) rfl rfl (14) (σ3 0 9) (by simp [zu]) (by decide +kernel) rfl rfl (Nat.le_of_ble_eq_true rfl) dX12_check_22 ?_
      obtain ⟨σ4, eσ4⟩ : ∃ z : zSt, z = zu σ3 0 14 (σ3 0 9) := ⟨_, rfl⟩
      rw [← eσ4]
      replace hf := hf σ4 eσ4
      exact z_vret hC hr rfl dX12_check_25 hf
    · replace hf := hf.2 hc
      exact z_vret hC hr rfl dX12_check_11 hf

-- ===== X12_advanceIfGood
def fX12_advanceIfGood (K : zSt → Prop) (σ : zSt) : Prop :=
  zrg (σ 0 13) ∧ ((σ 0 13 = 0 → fX12_advance (fun σ2 => K σ2) σ ) ∧ (¬ σ 0 13 = 0 → K σ))
set_option maxHeartbeats 4000000 in
set_option maxRecDepth 100000 in
theorem mX12_advanceIfGood {D : va_G} {dA : Nat → ClassId} {ad : Nat → Nat}  (l : Launch) (hinj : ∀ i j, i < NM → j < NM → ad i = ad j → i = j) (sz : Nat) {K : zSt → Prop} {σ : zSt} (hf : fX12_advanceIfGood K σ ) : Met l yX12_advanceIfGood (Cond.code yX12_advanceIfGood cX12_advanceIfGood 1 none :: UW) ({ frames := 2, cells := 0, slots := 0, locals := 43 } : Room) (va_Pc [vR ad 0] (zPre D vwCl (tyA dA) zX0 NM ad (celM ad dA) sz σ)) (va_Qv K (zB D vwCl (tyA dA) NM ad (celM ad dA)) (zA ad NM sz)) 0 0 (zA ad NM sz) := by
  refine z_enter (cc := cX12_advanceIfGood) (maxL := 1) (ret := none) (vs := [vR ad 0]) (plainFor_of_name (by decide)) rfl hinj (Nat.le_of_ble_eq_true rfl) ?_
  intro p e s m args below meth c hC hE hsz hr hnm
  show zAt p l e ({ frames := 2, cells := 0, slots := 0, locals := 43 } : Room) s m args below meth c 0 0 (MQ below (va_Qv K (zB D vwCl (tyA dA) NM ad (celM ad dA)) (zA ad NM sz)) args s 0 0 (zA ad NM sz)) 1 D vwCl (zA ad NM sz) NM ad (celM ad dA) 0 [(0, vR ad 0)] [] σ
  refine z_aload_n hC dX12_advanceIfGood_0 0 rfl rfl ?_
  refine z_get hC (fun w h => uT _ w (uL12 w h)) (oM_12 (show kM 0 = 12 by decide)) 13 (by decide) (uT _ _ u1558) rfl rfl dX12_advanceIfGood_1 ?_
  obtain ⟨g1, hf⟩ := hf
  refine z_if_ne (tgt := 11) hC dX12_advanceIfGood_4 (by decide) g1 (fun hc => ?_) (fun hc => ?_)
  · replace hf := hf.2 hc
    exact z_vret hC hr rfl dX12_advanceIfGood_11 hf
  · replace hf := hf.1 hc
    refine z_aload_n hC dX12_advanceIfGood_7 0 rfl rfl ?_
    refine z_callVv hC hE (oM_12 (show kM 0 = 12 by decide)) [] (fun sz2 => mX12_advance l hinj sz2 hf) (cwV 0 hC.1.2.2.2.2 (uV (uT _) u1703 u1705 u40 u118 u1706) rfl rfl rfl (by decide +kernel) ⟨Nat.le_of_ble_eq_true rfl, Nat.le_of_ble_eq_true rfl⟩) rfl rfl (Nat.le_of_ble_eq_true rfl) ⟨Nat.le_of_ble_eq_true rfl, Nat.le_of_ble_eq_true rfl⟩ dX12_advanceIfGood_8 (fun σ2 hf => ?_)
    exact z_vret hC hr rfl dX12_advanceIfGood_11 hf

-- ===== X12_isWord
def fX12_isWord (K : Int → zSt → Prop) (σ : zSt) (x1 : Int) : Prop :=
  zrg (σ 0 13) ∧ ((σ 0 13 = 0 → zrg (σ 0 10) ∧ ((σ 0 10 = 1 → zrl (σ 0 11) ∧ zrl x1 ∧ ((zcmp (σ 0 11) x1 = 0 → K 1 σ) ∧ (¬ zcmp (σ 0 11) x1 = 0 → K 0 σ))) ∧ (¬ σ 0 10 = 1 → K 0 σ))) ∧ (¬ σ 0 13 = 0 → K 0 σ))
set_option maxHeartbeats 4000000 in
set_option maxRecDepth 100000 in
theorem mX12_isWord {D : va_G} {dA : Nat → ClassId} {ad : Nat → Nat}  (l : Launch) (hinj : ∀ i j, i < NM → j < NM → ad i = ad j → i = j) (sz : Nat) {K : Int → zSt → Prop} {σ : zSt} {x1 : Int} (hf : fX12_isWord K σ x1) : Met l yX12_isWord (Cond.code yX12_isWord cX12_isWord 3 (some .boolean) :: UW) ({ frames := 0, cells := 0, slots := 0, locals := 0 } : Room) (va_Pc [vR ad 0, vL x1] (zPre D vwCl (tyA dA) zX0 NM ad (celM ad dA) sz σ)) (va_Qi (zPi K) (zB D vwCl (tyA dA) NM ad (celM ad dA)) (zA ad NM sz)) 0 0 (zA ad NM sz) := by
  refine z_enter (cc := cX12_isWord) (maxL := 3) (ret := (some .boolean)) (vs := [vR ad 0, vL x1]) (plainFor_of_name (by decide)) rfl hinj (Nat.le_of_ble_eq_true rfl) ?_
  intro p e s m args below meth c hC hE hsz hr hnm
  show zAt p l e ({ frames := 0, cells := 0, slots := 0, locals := 0 } : Room) s m args below meth c 0 0 (MQ below (va_Qi (zPi K) (zB D vwCl (tyA dA) NM ad (celM ad dA)) (zA ad NM sz)) args s 0 0 (zA ad NM sz)) 3 D vwCl (zA ad NM sz) NM ad (celM ad dA) 0 [(0, vR ad 0), (1, vL x1)] [] σ
  refine z_aload_n hC dX12_isWord_0 0 rfl rfl ?_
  refine z_get hC (fun w h => uT _ w (uL12 w h)) (oM_12 (show kM 0 = 12 by decide)) 13 (by decide) (uT _ _ u1558) rfl rfl dX12_isWord_1 ?_
  obtain ⟨g1, hf⟩ := hf
  refine z_if_ne (tgt := 28) hC dX12_isWord_4 (by decide) g1 (fun hc => ?_) (fun hc => ?_)
  · replace hf := hf.2 hc
    refine z_iconst hC dX12_isWord_28 ?_
    exact z_bret hC hr rfl dX12_isWord_29 (Or.inl rfl) hf
  · replace hf := hf.1 hc
    refine z_aload_n hC dX12_isWord_7 0 rfl rfl ?_
    refine z_get hC (fun w h => uT _ w (uL12 w h)) (oM_12 (show kM 0 = 12 by decide)) 10 (by decide) (uT _ _ u1555) rfl rfl dX12_isWord_8 ?_
    refine z_iconst hC dX12_isWord_11 ?_
    obtain ⟨g2, hf⟩ := hf
    refine z_icmp_ne (tgt := 28) hC dX12_isWord_12 (by decide) g2 (zlit rfl rfl) (fun hc => ?_) (fun hc => ?_)
    · replace hf := hf.2 hc
      refine z_iconst hC dX12_isWord_28 ?_
      exact z_bret hC hr rfl dX12_isWord_29 (Or.inl rfl) hf
    · replace hf := hf.1 hc
      refine z_aload_n hC dX12_isWord_15 0 rfl rfl ?_
      refine z_get hC (fun w h => uT _ w (uL12 w h)) (oM_12 (show kM 0 = 12 by decide)) 11 (by decide) (uT _ _ u1556) rfl rfl dX12_isWord_16 ?_
      refine z_lload_n hC dX12_isWord_19 1 rfl rfl ?_
      obtain ⟨g3, hf⟩ := hf
      obtain ⟨g4, hf⟩ := hf
      refine z_lcmp hC g3 g4 dX12_isWord_20 ?_
      refine z_if_ne (tgt := 28) hC dX12_isWord_21 (by decide) (zcmp_rg _ _) (fun hc => ?_) (fun hc => ?_)
      · replace hf := hf.2 hc
        refine z_iconst hC dX12_isWord_28 ?_
        exact z_bret hC hr rfl dX12_isWord_29 (Or.inl rfl) hf
      · replace hf := hf.1 hc
        refine z_iconst hC dX12_isWord_24 ?_
        refine z_goto (tgt := 29) hC dX12_isWord_25 (by decide) ?_
        exact z_bret hC hr rfl dX12_isWord_29 (Or.inr rfl) hf

-- ===== X12_readInteger
def fX12_readInteger_B14 (K : Int → zSt → Prop) (σ : zSt) (x1 : Int) (x2 : Int) (s0 : Int) : Prop :=
  fX12_check (fun σ2 => fX12_inRange (fun r3 σ3 => fX12_check (fun σ4 => fX12_advanceIfGood (fun σ5 => K (σ4 0 12) σ5) σ4 ) σ3 r3 (-12)) σ2 (σ2 0 12) x1 x2) σ s0 (-11)
def fX12_readInteger (K : Int → zSt → Prop) (σ : zSt) (x1 : Int) (x2 : Int) : Prop :=
  zrg (σ 0 10) ∧ ((σ 0 10 = 2 → fX12_readInteger_B14 K σ x1 x2 1) ∧ (¬ σ 0 10 = 2 → fX12_readInteger_B14 K σ x1 x2 0))
set_option maxHeartbeats 4000000 in
set_option maxRecDepth 100000 in
theorem wX12_readInteger_B14 {p : Program} {l : Launch} {e : Env} {s : State} {m : MethodId} {args : Array Value} {below : List Frame} {meth : Method} {c : Code} {D : va_G} {dA : Nat → ClassId} {ad : Nat → Nat} {sz : Nat}  {K : Int → zSt → Prop} (hC : zC p m c cX12_readInteger 4 s args (Cond.code yX12_readInteger cX12_readInteger 4 (some .int) :: UW) RX12 meth D vwCl (tyA dA) (zA ad NM sz) NM ad (celM ad dA)) (hE : zE zX0 (zA ad NM sz) s s.heap) (hr : meth.sig.returnType = (some .int)) (hinj : ∀ i j, i < NM → j < NM → ad i = ad j → i = j) {σ : zSt} {x1 : Int} {x2 : Int} {s0 : Int} (hf : fX12_readInteger_B14 K σ x1 x2 s0) : zAt p l e ({ frames := 3, cells := 0, slots := 0, locals := 63 } : Room) s m args below meth c 0 0 (MQ below (va_Qi (zPi K) (zB D vwCl (tyA dA) NM ad (celM ad dA)) (zA ad NM sz)) args s 0 0 (zA ad NM sz)) 4 D vwCl (zA ad NM sz) NM ad (celM ad dA) 14 [(0, vR ad 0), (1, vI x1), (2, vI x2)] [vI s0, vR ad 0] σ := by
  refine z_bipush hC dX12_readInteger_14 (by decide) ?_
  refine z_callVv hC hE (oM_12 (show kM 0 = 12 by decide)) [vI s0, vI (-11)] (fun sz2 => mX12_check l hinj sz2 hf) (cwV 2 hC.1.2.2.2.2 (uV (uT _) u1726 u1728 u45 u118 u1729) rfl rfl rfl (by decide +kernel) ⟨Nat.le_of_ble_eq_true rfl, Nat.le_of_ble_eq_true rfl⟩) rfl rfl (Nat.le_of_ble_eq_true rfl) ⟨Nat.le_of_ble_eq_true rfl, Nat.le_of_ble_eq_true rfl⟩ dX12_readInteger_16 (fun σ2 hf => ?_)
  refine z_aload_n hC dX12_readInteger_19 0 rfl rfl ?_
  refine z_aload_n hC dX12_readInteger_20 0 rfl rfl ?_
  refine z_get hC (fun w h => uT _ w (uL12 w h)) (oM_12 (show kM 0 = 12 by decide)) 12 (by decide) (uT _ _ u1557) rfl rfl dX12_readInteger_21 ?_
  refine z_iload_n hC dX12_readInteger_24 1 rfl rfl ?_
  refine z_iload_n hC dX12_readInteger_25 2 rfl rfl ?_
  refine z_callSi hC hE [vI (σ2 0 12), vI x1, vI x2] (fun sz2 => mX12_inRange l hinj sz2 hf) (va_cwS 3 hC.1.2.2.2.2 (uS (uT _) u1700 u1701 u118 u1702) rfl rfl rfl (by decide +kernel) ⟨Nat.le_of_ble_eq_true rfl, Nat.le_of_ble_eq_true rfl⟩) rfl rfl (Nat.le_of_ble_eq_true rfl) ⟨Nat.le_of_ble_eq_true rfl, Nat.le_of_ble_eq_true rfl⟩ dX12_readInteger_26 (fun r3 σ3 hf => ?_)
  refine z_bipush hC dX12_readInteger_29 (by decide) ?_
  refine z_callVv hC hE (oM_12 (show kM 0 = 12 by decide)) [vI r3, vI (-12)] (fun sz2 => mX12_check l hinj sz2 hf) (cwV 2 hC.1.2.2.2.2 (uV (uT _) u1726 u1728 u45 u118 u1729) rfl rfl rfl (by decide +kernel) ⟨Nat.le_of_ble_eq_true rfl, Nat.le_of_ble_eq_true rfl⟩) rfl rfl (Nat.le_of_ble_eq_true rfl) ⟨Nat.le_of_ble_eq_true rfl, Nat.le_of_ble_eq_true rfl⟩ dX12_readInteger_31 (fun σ4 hf => ?_)
  refine z_aload_n hC dX12_readInteger_34 0 rfl rfl ?_
  refine z_get hC (fun w h => uT _ w (uL12 w h)) (oM_12 (show kM 0 = 12 by decide)) 12 (by decide) (uT _ _ u1557) rfl rfl dX12_readInteger_35 ?_
  refine z_istore_n hC ([(3, vI (σ4 0 12)), (0, vR ad 0), (1, vI x1), (2, vI x2)]) dX12_readInteger_38 rfl (by decide) rfl ?_
  refine z_aload_n hC dX12_readInteger_39 1 rfl rfl ?_
  refine z_callVv hC hE (oM_12 (show kM 0 = 12 by decide)) [] (fun sz2 => mX12_advanceIfGood l hinj sz2 hf) (cwV 0 hC.1.2.2.2.2 (uV (uT _) u1730 u1732 u46 u118 u1733) rfl rfl rfl (by decide +kernel) ⟨Nat.le_of_ble_eq_true rfl, Nat.le_of_ble_eq_true rfl⟩) rfl rfl (Nat.le_of_ble_eq_true rfl) ⟨Nat.le_of_ble_eq_true rfl, Nat.le_of_ble_eq_true rfl⟩ dX12_readInteger_40 (fun σ5 hf => ?_)
  refine z_iload_n hC dX12_readInteger_43 0 rfl rfl ?_
  exact z_iret hC hr rfl dX12_readInteger_44 hf
set_option maxHeartbeats 4000000 in
set_option maxRecDepth 100000 in
theorem mX12_readInteger {D : va_G} {dA : Nat → ClassId} {ad : Nat → Nat}  (l : Launch) (hinj : ∀ i j, i < NM → j < NM → ad i = ad j → i = j) (sz : Nat) {K : Int → zSt → Prop} {σ : zSt} {x1 : Int} {x2 : Int} (hf : fX12_readInteger K σ x1 x2) : Met l yX12_readInteger (Cond.code yX12_readInteger cX12_readInteger 4 (some .int) :: UW) ({ frames := 3, cells := 0, slots := 0, locals := 63 } : Room) (va_Pc [vR ad 0, vI x1, vI x2] (zPre D vwCl (tyA dA) zX0 NM ad (celM ad dA) sz σ)) (va_Qi (zPi K) (zB D vwCl (tyA dA) NM ad (celM ad dA)) (zA ad NM sz)) 0 0 (zA ad NM sz) := by
  refine z_enter (cc := cX12_readInteger) (maxL := 4) (ret := (some .int)) (vs := [vR ad 0, vI x1, vI x2]) (plainFor_of_name (by decide)) rfl hinj (Nat.le_of_ble_eq_true rfl) ?_
  intro p e s m args below meth c hC hE hsz hr hnm
  show zAt p l e ({ frames := 3, cells := 0, slots := 0, locals := 63 } : Room) s m args below meth c 0 0 (MQ below (va_Qi (zPi K) (zB D vwCl (tyA dA) NM ad (celM ad dA)) (zA ad NM sz)) args s 0 0 (zA ad NM sz)) 4 D vwCl (zA ad NM sz) NM ad (celM ad dA) 0 [(0, vR ad 0), (1, vI x1), (2, vI x2)] [] σ
  refine z_aload_n hC dX12_readInteger_0 0 rfl rfl ?_
  refine z_aload_n hC dX12_readInteger_1 0 rfl rfl ?_
  refine z_get hC (fun w h => uT _ w (uL12 w h)) (oM_12 (show kM 0 = 12 by decide)) 10 (by decide) (uT _ _ u1555) rfl rfl dX12_readInteger_2 ?_
  refine z_iconst hC dX12_readInteger_5 ?_
  obtain ⟨g1, hf⟩ := hf
  refine z_icmp_ne (tgt := 13) hC dX12_readInteger_6 (by decide) g1 (zlit rfl rfl) (fun hc => ?_) (fun hc => ?_)
  · replace hf := hf.2 hc
    refine z_iconst hC dX12_readInteger_13 ?_
    exact wX12_readInteger_B14 hC hE hr hinj  hf
  · replace hf := hf.1 hc
    refine z_iconst hC dX12_readInteger_9 ?_
    refine z_goto (tgt := 14) hC dX12_readInteger_10 (by decide) ?_
    exact wX12_readInteger_B14 hC hE hr hinj  hf

-- ===== X12_parseSize
def fX12_parseSize_B13 (K : zSt → Prop) (σ : zSt) (s0 : Int) : Prop :=
  fX12_check (fun σ2 => fX12_advanceIfGood (fun σ3 => fX12_readInteger (fun r4 σ4 => ∀ σ5, σ5 = zu σ4 2 0 r4 → fX12_readInteger (fun r6 σ6 => ∀ σ7, σ7 = zu σ6 2 1 r6 → K σ7) σ5 4 10) σ3 4 12) σ2 ) σ s0 (-14)
def fX12_parseSize (K : zSt → Prop) (σ : zSt) : Prop :=
  zrg (σ 0 16) ∧ ((σ 0 16 = 0 → fX12_parseSize_B13 K σ 1) ∧ (¬ σ 0 16 = 0 → fX12_parseSize_B13 K σ 0))
set_option maxHeartbeats 4000000 in
set_option maxRecDepth 100000 in
theorem wX12_parseSize_B13 {p : Program} {l : Launch} {e : Env} {s : State} {m : MethodId} {args : Array Value} {below : List Frame} {meth : Method} {c : Code} {D : va_G} {dA : Nat → ClassId} {ad : Nat → Nat} {sz : Nat}  {K : zSt → Prop} (hC : zC p m c cX12_parseSize 1 s args (Cond.code yX12_parseSize cX12_parseSize 1 none :: UW) RX12 meth D vwCl (tyA dA) (zA ad NM sz) NM ad (celM ad dA)) (hE : zE zX0 (zA ad NM sz) s s.heap) (hr : meth.sig.returnType = none) (hinj : ∀ i j, i < NM → j < NM → ad i = ad j → i = j) {σ : zSt} {s0 : Int} (hf : fX12_parseSize_B13 K σ s0) : zAt p l e ({ frames := 4, cells := 0, slots := 0, locals := 86 } : Room) s m args below meth c 0 0 (MQ below (va_Qv K (zB D vwCl (tyA dA) NM ad (celM ad dA)) (zA ad NM sz)) args s 0 0 (zA ad NM sz)) 1 D vwCl (zA ad NM sz) NM ad (celM ad dA) 13 [(0, vR ad 0)] [vI s0, vR ad 0] σ := by
  refine z_bipush hC dX12_parseSize_13 (by decide) ?_
  refine z_callVv hC hE (oM_12 (show kM 0 = 12 by decide)) [vI s0, vI (-14)] (fun sz2 => mX12_check l hinj sz2 hf) (cwV 2 hC.1.2.2.2.2 (uV (uT _) u1726 u1728 u45 u118 u1729) rfl rfl rfl (by decide +kernel) ⟨Nat.le_of_ble_eq_true rfl, Nat.le_of_ble_eq_true rfl⟩) rfl rfl (Nat.le_of_ble_eq_true rfl) ⟨Nat.le_of_ble_eq_true rfl, Nat.le_of_ble_eq_true rfl⟩ dX12_parseSize_15 (fun σ2 hf => ?_)
  refine z_aload_n hC dX12_parseSize_18 0 rfl rfl ?_
  refine z_callVv hC hE (oM_12 (show kM 0 = 12 by decide)) [] (fun sz2 => mX12_advanceIfGood l hinj sz2 hf) (cwV 0 hC.1.2.2.2.2 (uV (uT _) u1730 u1732 u46 u118 u1733) rfl rfl rfl (by decide +kernel) ⟨Nat.le_of_ble_eq_true rfl, Nat.le_of_ble_eq_true rfl⟩) rfl rfl (Nat.le_of_ble_eq_true rfl) ⟨Nat.le_of_ble_eq_true rfl, Nat.le_of_ble_eq_true rfl⟩ dX12_parseSize_19 (fun σ3 hf => ?_)
  refine z_aload_n hC dX12_parseSize_22 0 rfl rfl ?_
  refine z_get hC (fun w h => uT _ w (uL12 w h)) (oM_12 (show kM 0 = 12 by decide)) 1 (by decide) (uT _ _ u1546) rfl rfl dX12_parseSize_23 ?_
  refine z_iconst hC dX12_parseSize_26 ?_
  refine z_aload_n hC dX12_parseSize_27 0 rfl rfl ?_
  refine z_iconst hC dX12_parseSize_28 ?_
  refine z_bipush hC dX12_parseSize_29 (by decide) ?_
  refine z_callVi hC hE (oM_12 (show kM 0 = 12 by decide)) [vI 4, vI 12] (fun sz2 => mX12_readInteger l hinj sz2 hf) (cwV 2 hC.1.2.2.2.2 (uV (uT _) u1734 u1736 u47 u118 u1737) rfl rfl rfl (by decide +kernel) ⟨Nat.le_of_ble_eq_true rfl, Nat.le_of_ble_eq_true rfl⟩) rfl rfl (Nat.le_of_ble_eq_true rfl) ⟨Nat.le_of_ble_eq_true rfl, Nat.le_of_ble_eq_true rfl⟩ dX12_parseSize_31 (fun r4 σ4 hf => ?_)
  refine z_iastore hC (aM_30 (show kM 2 = 30 by decide)) (loM' (show kM 2 = 30 by decide) (by decide)) ⟨by decide, by decide⟩ dX12_parseSize_34 ?_
  obtain ⟨σ5, eσ5⟩ : ∃ z : zSt, z = zu σ4 2 0 r4 := ⟨_, rfl⟩
  rw [← eσ5]
  replace hf := hf σ5 eσ5
  refine z_aload_n hC dX12_parseSize_35 0 rfl rfl ?_
  refine z_get hC (fun w h => uT _ w (uL12 w h)) (oM_12 (show kM 0 = 12 by decide)) 1 (by decide) (uT _ _ u1546) rfl rfl dX12_parseSize_36 ?_
  refine z_iconst hC dX12_parseSize_39 ?_
  refine z_aload_n hC dX12_parseSize_40 0 rfl rfl ?_
  refine z_iconst hC dX12_parseSize_41 ?_
  refine z_bipush hC dX12_parseSize_42 (by decide) ?_
  refine z_callVi hC hE (oM_12 (show kM 0 = 12 by decide)) [vI 4, vI 10] (fun sz2 => mX12_readInteger l hinj sz2 hf) (cwV 2 hC.1.2.2.2.2 (uV (uT _) u1734 u1736 u47 u118 u1737) rfl rfl rfl (by decide +kernel) ⟨Nat.le_of_ble_eq_true rfl, Nat.le_of_ble_eq_true rfl⟩) rfl rfl (Nat.le_of_ble_eq_true rfl) ⟨Nat.le_of_ble_eq_true rfl, Nat.le_of_ble_eq_true rfl⟩ dX12_parseSize_44 (fun r6 σ6 hf => ?_)
  refine z_iastore hC (aM_30 (show kM 2 = 30 by decide)) (loM' (show kM 2 = 30 by decide) (by decide)) ⟨by decide, by decide⟩ dX12_parseSize_47 ?_
  obtain ⟨σ7, eσ7⟩ : ∃ z : zSt, z = zu σ6 2 1 r6 := ⟨_, rfl⟩
  rw [← eσ7]
  replace hf := hf σ7 eσ7
  exact z_vret hC hr rfl dX12_parseSize_48 hf
set_option maxHeartbeats 4000000 in
set_option maxRecDepth 100000 in
theorem mX12_parseSize {D : va_G} {dA : Nat → ClassId} {ad : Nat → Nat}  (l : Launch) (hinj : ∀ i j, i < NM → j < NM → ad i = ad j → i = j) (sz : Nat) {K : zSt → Prop} {σ : zSt} (hf : fX12_parseSize K σ ) : Met l yX12_parseSize (Cond.code yX12_parseSize cX12_parseSize 1 none :: UW) ({ frames := 4, cells := 0, slots := 0, locals := 86 } : Room) (va_Pc [vR ad 0] (zPre D vwCl (tyA dA) zX0 NM ad (celM ad dA) sz σ)) (va_Qv K (zB D vwCl (tyA dA) NM ad (celM ad dA)) (zA ad NM sz)) 0 0 (zA ad NM sz) := by
  refine z_enter (cc := cX12_parseSize) (maxL := 1) (ret := none) (vs := [vR ad 0]) (plainFor_of_name (by decide)) rfl hinj (Nat.le_of_ble_eq_true rfl) ?_
  intro p e s m args below meth c hC hE hsz hr hnm
  show zAt p l e ({ frames := 4, cells := 0, slots := 0, locals := 86 } : Room) s m args below meth c 0 0 (MQ below (va_Qv K (zB D vwCl (tyA dA) NM ad (celM ad dA)) (zA ad NM sz)) args s 0 0 (zA ad NM sz)) 1 D vwCl (zA ad NM sz) NM ad (celM ad dA) 0 [(0, vR ad 0)] [] σ
  refine z_aload_n hC dX12_parseSize_0 0 rfl rfl ?_
  refine z_aload_n hC dX12_parseSize_1 0 rfl rfl ?_
  refine z_get hC (fun w h => uT _ w (uL12 w h)) (oM_12 (show kM 0 = 12 by decide)) 16 (by decide) (uT _ _ u1561) rfl rfl dX12_parseSize_2 ?_
  obtain ⟨g1, hf⟩ := hf
  refine z_if_ne (tgt := 12) hC dX12_parseSize_5 (by decide) g1 (fun hc => ?_) (fun hc => ?_)
  · replace hf := hf.2 hc
    refine z_iconst hC dX12_parseSize_12 ?_
    exact wX12_parseSize_B13 hC hE hr hinj  hf
  · replace hf := hf.1 hc
    refine z_iconst hC dX12_parseSize_8 ?_
    refine z_goto (tgt := 13) hC dX12_parseSize_9 (by decide) ?_
    exact wX12_parseSize_B13 hC hE hr hinj  hf

-- ===== X12_parseRow
noncomputable def fX12_parseRow_B79 (K : zSt → Prop) (n : Nat) : zSt → Int → Int → Int → Prop :=
  Nat.rec (motive := fun _ => zSt → Int → Int → Int → Prop) (fun _ _ _ _ => False) (fun _ ih σ x1 x2 x3 => zrg x3 ∧ zrg (σ 2 0) ∧ ((σ 2 0 ≤ x3 → fX12_advance (fun σ14 => K σ14) σ ) ∧ (¬ σ 2 0 ≤ x3 → (0 ≤ (σ 0 9) + x3 ∧ (σ 0 9) + x3 < 1400) ∧ (0 ≤ ((91 + (120 * x1)) + (12 * x2)) + x3 ∧ ((91 + (120 * x1)) + (12 * x2)) + x3 < 811) ∧ ∀ σ17, σ17 = zu σ 2 (((91 + (120 * x1)) + (12 * x2)) + x3) ((σ 4 ((σ 0 9) + x3)) - 48) → ih σ17 x1 x2 (x3 + 1)))) n
theorem uX12_parseRow_B79 (K : zSt → Prop) (n0 : Nat) (σ : zSt) (x1 : Int) (x2 : Int) (x3 : Int) : fX12_parseRow_B79 K (n0 + 1) σ x1 x2 x3 = (zrg x3 ∧ zrg (σ 2 0) ∧ ((σ 2 0 ≤ x3 → fX12_advance (fun σ14 => K σ14) σ ) ∧ (¬ σ 2 0 ≤ x3 → (0 ≤ (σ 0 9) + x3 ∧ (σ 0 9) + x3 < 1400) ∧ (0 ≤ ((91 + (120 * x1)) + (12 * x2)) + x3 ∧ ((91 + (120 * x1)) + (12 * x2)) + x3 < 811) ∧ ∀ σ17, σ17 = zu σ 2 (((91 + (120 * x1)) + (12 * x2)) + x3) ((σ 4 ((σ 0 9) + x3)) - 48) → (fX12_parseRow_B79 K n0) σ17 x1 x2 (x3 + 1)))) := rfl
def fX12_parseRow_B43 (K : zSt → Prop) (σ : zSt) (x1 : Int) (x2 : Int) (s0 : Int) : Prop :=
  fX12_check (fun σ5 => zrg x2 ∧ zrg (σ5 2 1) ∧ ((σ5 2 1 ≤ x2 → fX12_check (fun σ8 => zrg (σ8 0 13) ∧ ((σ8 0 13 = 0 → (∃ n, fX12_parseRow_B79 K n σ8 x1 x2 0)) ∧ (¬ σ8 0 13 = 0 → K σ8))) σ5 0 (-15)) ∧ (¬ σ5 2 1 ≤ x2 → fX12_check (fun σ10 => zrg (σ10 0 13) ∧ ((σ10 0 13 = 0 → (∃ n, fX12_parseRow_B79 K n σ10 x1 x2 0)) ∧ (¬ σ10 0 13 = 0 → K σ10))) σ5 1 (-15)))) σ s0 (-12)
def fX12_parseRow_B14 (K : zSt → Prop) (σ : zSt) (x1 : Int) (x2 : Int) (s0 : Int) : Prop :=
  fX12_check (fun σ2 => zrg ((σ2 0 8) - (σ2 0 9)) ∧ zrg (σ2 2 0) ∧ (((σ2 0 8) - (σ2 0 9) = σ2 2 0 → fX12_parseRow_B43 K σ2 x1 x2 1) ∧ (¬ (σ2 0 8) - (σ2 0 9) = σ2 2 0 → fX12_parseRow_B43 K σ2 x1 x2 0))) σ s0 (-11)
def fX12_parseRow (K : zSt → Prop) (σ : zSt) (x1 : Int) (x2 : Int) : Prop :=
  zrg (σ 0 10) ∧ ((σ 0 10 = 2 → fX12_parseRow_B14 K σ x1 x2 1) ∧ (¬ σ 0 10 = 2 → fX12_parseRow_B14 K σ x1 x2 0))
set_option maxHeartbeats 4000000 in
set_option maxRecDepth 100000 in
theorem wX12_parseRow_B79 {p : Program} {l : Launch} {e : Env} {s : State} {m : MethodId} {args : Array Value} {below : List Frame} {meth : Method} {c : Code} {D : va_G} {dA : Nat → ClassId} {ad : Nat → Nat} {sz : Nat}  {K : zSt → Prop} (hC : zC p m c cX12_parseRow 4 s args (Cond.code yX12_parseRow cX12_parseRow 4 none :: UW) RX12 meth D vwCl (tyA dA) (zA ad NM sz) NM ad (celM ad dA)) (hE : zE zX0 (zA ad NM sz) s s.heap) (hr : meth.sig.returnType = none) (hinj : ∀ i j, i < NM → j < NM → ad i = ad j → i = j) : ∀ (n : Nat) (σ : zSt) (x1 : Int) (x2 : Int) (x3 : Int), fX12_parseRow_B79 K n σ x1 x2 x3 → zAt p l e ({ frames := 2, cells := 0, slots := 0, locals := 43 } : Room) s m args below meth c 0 0 (MQ below (va_Qv K (zB D vwCl (tyA dA) NM ad (celM ad dA)) (zA ad NM sz)) args s 0 0 (zA ad NM sz)) 4 D vwCl (zA ad NM sz) NM ad (celM ad dA) 79 [(0, vR ad 0), (1, vI x1), (2, vI x2), (3, vI x3)] [] σ := by
  intro n
  induction n with
  | zero => intro σ x1 x2 x3  hf; exact False.elim hf
  | succ n ih =>
    intro σ x1 x2 x3  hf
    rw [uX12_parseRow_B79] at hf
    refine z_iload_n hC dX12_parseRow_79 3 rfl rfl ?_
    refine z_aload_n hC dX12_parseRow_80 0 rfl rfl ?_
    refine z_get hC (fun w h => uT _ w (uL12 w h)) (oM_12 (show kM 0 = 12 by decide)) 1 (by decide) (uT _ _ u1546) rfl rfl dX12_parseRow_81 ?_
    refine z_iconst hC dX12_parseRow_84 ?_
    refine z_iaload hC (aM_30 (show kM 2 = 30 by decide)) ⟨by decide, by decide⟩ dX12_parseRow_85 ?_
    obtain ⟨g12, hf⟩ := hf
    obtain ⟨g13, hf⟩ := hf
    refine z_icmp_ge (tgt := 128) hC dX12_parseRow_86 (by decide) g12 g13 (fun hc => ?_) (fun hc => ?_)
    · replace hf := hf.1 hc
      refine z_aload_n hC dX12_parseRow_128 0 rfl rfl ?_
      refine z_callVv hC hE (oM_12 (show kM 0 = 12 by decide)) [] (fun sz2 => mX12_advance l hinj sz2 hf) (cwV 0 hC.1.2.2.2.2 (uV (uT _) u1703 u1705 u40 u118 u1706) rfl rfl rfl (by decide +kernel) ⟨Nat.le_of_ble_eq_true rfl, Nat.le_of_ble_eq_true rfl⟩) rfl rfl (Nat.le_of_ble_eq_true rfl) ⟨Nat.le_of_ble_eq_true rfl, Nat.le_of_ble_eq_true rfl⟩ dX12_parseRow_129 (fun σ14 hf => ?_)
      exact z_vret hC hr rfl dX12_parseRow_132 hf
    · replace hf := hf.2 hc
      refine z_aload_n hC dX12_parseRow_89 0 rfl rfl ?_
      refine z_get hC (fun w h => uT _ w (uL12 w h)) (oM_12 (show kM 0 = 12 by decide)) 1 (by decide) (uT _ _ u1546) rfl rfl dX12_parseRow_90 ?_
      refine z_bipush hC dX12_parseRow_93 (by decide) ?_
      refine z_bipush hC dX12_parseRow_95 (by decide) ?_
      refine z_iload_n hC dX12_parseRow_97 1 rfl rfl ?_
      refine z_imul hC dX12_parseRow_98 ?_
      refine z_iadd hC dX12_parseRow_99 ?_
      refine z_bipush hC dX12_parseRow_100 (by decide) ?_
      refine z_iload_n hC dX12_parseRow_102 2 rfl rfl ?_
      refine z_imul hC dX12_parseRow_103 ?_
      refine z_iadd hC dX12_parseRow_104 ?_
      refine z_iload_n hC dX12_parseRow_105 3 rfl rfl ?_
      refine z_iadd hC dX12_parseRow_106 ?_
      refine z_aload_n hC dX12_parseRow_107 0 rfl rfl ?_
      refine z_get hC (fun w h => uT _ w (uL12 w h)) (oM_12 (show kM 0 = 12 by decide)) 5 (by decide) (uT _ _ u1550) rfl rfl dX12_parseRow_108 ?_
      refine z_aload_n hC dX12_parseRow_111 0 rfl rfl ?_
      refine z_get hC (fun w h => uT _ w (uL12 w h)) (oM_12 (show kM 0 = 12 by decide)) 9 (by decide) (uT _ _ u1554) rfl rfl dX12_parseRow_112 ?_
      refine z_iload_n hC dX12_parseRow_115 3 rfl rfl ?_
      refine z_iadd hC dX12_parseRow_116 ?_
      obtain ⟨g15, hf⟩ := hf
      refine z_baload hC (aM_32 (show kM 4 = 32 by decide)) g15 dX12_parseRow_117 ?_
      refine z_bipush hC dX12_parseRow_118 (by decide) ?_
      refine z_isub hC dX12_parseRow_120 ?_
      obtain ⟨g16, hf⟩ := hf
      refine z_iastore hC (aM_30 (show kM 2 = 30 by decide)) (loM' (show kM 2 = 30 by decide) (by decide)) g16 dX12_parseRow_121 ?_
      obtain ⟨σ17, eσ17⟩ : ∃ z : zSt, z = zu σ 2 (((91 + (120 * x1)) + (12 * x2)) + x3) ((σ 4 ((σ 0 9) + x3)) - 48) := ⟨_, rfl⟩
      rw [← eσ17]
      replace hf := hf σ17 eσ17
      refine z_iinc hC ([(3, vI (x3 + 1)), (0, vR ad 0), (1, vI x1), (2, vI x2)]) dX12_parseRow_122 3 rfl (by decide) rfl ?_
      refine z_goto (tgt := 79) hC dX12_parseRow_125 (by decide) ?_
      refine z_sub (lv' := [(0, vR ad 0), (1, vI x1), (2, vI x2), (3, vI (x3 + 1))]) [1, 2, 3, 0] rfl ?_
      exact ih _ _ _ _ hf
set_option maxHeartbeats 4000000 in
set_option maxRecDepth 100000 in
theorem wX12_parseRow_B43 {p : Program} {l : Launch} {e : Env} {s : State} {m : MethodId} {args : Array Value} {below : List Frame} {meth : Method} {c : Code} {D : va_G} {dA : Nat → ClassId} {ad : Nat → Nat} {sz : Nat}  {K : zSt → Prop} (hC : zC p m c cX12_parseRow 4 s args (Cond.code yX12_parseRow cX12_parseRow 4 none :: UW) RX12 meth D vwCl (tyA dA) (zA ad NM sz) NM ad (celM ad dA)) (hE : zE zX0 (zA ad NM sz) s s.heap) (hr : meth.sig.returnType = none) (hinj : ∀ i j, i < NM → j < NM → ad i = ad j → i = j) {σ : zSt} {x1 : Int} {x2 : Int} {s0 : Int} (hf : fX12_parseRow_B43 K σ x1 x2 s0) : zAt p l e ({ frames := 2, cells := 0, slots := 0, locals := 43 } : Room) s m args below meth c 0 0 (MQ below (va_Qv K (zB D vwCl (tyA dA) NM ad (celM ad dA)) (zA ad NM sz)) args s 0 0 (zA ad NM sz)) 4 D vwCl (zA ad NM sz) NM ad (celM ad dA) 43 [(0, vR ad 0), (1, vI x1), (2, vI x2)] [vI s0, vR ad 0] σ := by
  refine z_bipush hC dX12_parseRow_43 (by decide) ?_
  refine z_callVv hC hE (oM_12 (show kM 0 = 12 by decide)) [vI s0, vI (-12)] (fun sz2 => mX12_check l hinj sz2 hf) (cwV 2 hC.1.2.2.2.2 (uV (uT _) u1726 u1728 u45 u118 u1729) rfl rfl rfl (by decide +kernel) ⟨Nat.le_of_ble_eq_true rfl, Nat.le_of_ble_eq_true rfl⟩) rfl rfl (Nat.le_of_ble_eq_true rfl) ⟨Nat.le_of_ble_eq_true rfl, Nat.le_of_ble_eq_true rfl⟩ dX12_parseRow_45 (fun σ5 hf => ?_)
  refine z_aload_n hC dX12_parseRow_48 0 rfl rfl ?_
  refine z_iload_n hC dX12_parseRow_49 2 rfl rfl ?_
  refine z_aload_n hC dX12_parseRow_50 0 rfl rfl ?_
  refine z_get hC (fun w h => uT _ w (uL12 w h)) (oM_12 (show kM 0 = 12 by decide)) 1 (by decide) (uT _ _ u1546) rfl rfl dX12_parseRow_51 ?_
  refine z_iconst hC dX12_parseRow_54 ?_
  refine z_iaload hC (aM_30 (show kM 2 = 30 by decide)) ⟨by decide, by decide⟩ dX12_parseRow_55 ?_
  obtain ⟨g6, hf⟩ := hf
  obtain ⟨g7, hf⟩ := hf
  refine z_icmp_ge (tgt := 63) hC dX12_parseRow_56 (by decide) g6 g7 (fun hc => ?_) (fun hc => ?_)
  · replace hf := hf.1 hc
    refine z_iconst hC dX12_parseRow_63 ?_
    refine z_bipush hC dX12_parseRow_64 (by decide) ?_
    refine z_callVv hC hE (oM_12 (show kM 0 = 12 by decide)) [vI 0, vI (-15)] (fun sz2 => mX12_check l hinj sz2 hf) (cwV 2 hC.1.2.2.2.2 (uV (uT _) u1726 u1728 u45 u118 u1729) rfl rfl rfl (by decide +kernel) ⟨Nat.le_of_ble_eq_true rfl, Nat.le_of_ble_eq_true rfl⟩) rfl rfl (Nat.le_of_ble_eq_true rfl) ⟨Nat.le_of_ble_eq_true rfl, Nat.le_of_ble_eq_true rfl⟩ dX12_parseRow_66 (fun σ8 hf => ?_)
    refine z_aload_n hC dX12_parseRow_69 0 rfl rfl ?_
    refine z_get hC (fun w h => uT _ w (uL12 w h)) (oM_12 (show kM 0 = 12 by decide)) 13 (by decide) (uT _ _ u1558) rfl rfl dX12_parseRow_70 ?_
    obtain ⟨g9, hf⟩ := hf
    refine z_if_eq (tgt := 77) hC dX12_parseRow_73 (by decide) g9 (fun hc => ?_) (fun hc => ?_)
    · replace hf := hf.1 hc
      refine z_iconst hC dX12_parseRow_77 ?_
      refine z_istore_n hC ([(3, vI 0), (0, vR ad 0), (1, vI x1), (2, vI x2)]) dX12_parseRow_78 rfl (by decide) rfl ?_
      refine z_sub (lv' := [(0, vR ad 0), (1, vI x1), (2, vI x2), (3, vI 0)]) [1, 2, 3, 0] rfl ?_
      obtain ⟨n, hf⟩ := hf
      exact wX12_parseRow_B79 hC hE hr hinj n _ _ _ _ hf
    · replace hf := hf.2 hc
      exact z_vret hC hr rfl dX12_parseRow_76 hf
  · replace hf := hf.2 hc
    refine z_iconst hC dX12_parseRow_59 ?_
    refine z_goto (tgt := 64) hC dX12_parseRow_60 (by decide) ?_
    refine z_bipush hC dX12_parseRow_64 (by decide) ?_
    refine z_callVv hC hE (oM_12 (show kM 0 = 12 by decide)) [vI 1, vI (-15)] (fun sz2 => mX12_check l hinj sz2 hf) (cwV 2 hC.1.2.2.2.2 (uV (uT _) u1726 u1728 u45 u118 u1729) rfl rfl rfl (by decide +kernel) ⟨Nat.le_of_ble_eq_true rfl, Nat.le_of_ble_eq_true rfl⟩) rfl rfl (Nat.le_of_ble_eq_true rfl) ⟨Nat.le_of_ble_eq_true rfl, Nat.le_of_ble_eq_true rfl⟩ dX12_parseRow_66 (fun σ10 hf => ?_)
    refine z_aload_n hC dX12_parseRow_69 0 rfl rfl ?_
    refine z_get hC (fun w h => uT _ w (uL12 w h)) (oM_12 (show kM 0 = 12 by decide)) 13 (by decide) (uT _ _ u1558) rfl rfl dX12_parseRow_70 ?_
    obtain ⟨g11, hf⟩ := hf
    refine z_if_eq (tgt := 77) hC dX12_parseRow_73 (by decide) g11 (fun hc => ?_) (fun hc => ?_)
    · replace hf := hf.1 hc
      refine z_iconst hC dX12_parseRow_77 ?_
      refine z_istore_n hC ([(3, vI 0), (0, vR ad 0), (1, vI x1), (2, vI x2)]) dX12_parseRow_78 rfl (by decide) rfl ?_
      refine z_sub (lv' := [(0, vR ad 0), (1, vI x1), (2, vI x2), (3, vI 0)]) [1, 2, 3, 0] rfl ?_
      obtain ⟨n, hf⟩ := hf
      exact wX12_parseRow_B79 hC hE hr hinj n _ _ _ _ hf
    · replace hf := hf.2 hc
      exact z_vret hC hr rfl dX12_parseRow_76 hf
set_option maxHeartbeats 4000000 in
set_option maxRecDepth 100000 in
theorem wX12_parseRow_B14 {p : Program} {l : Launch} {e : Env} {s : State} {m : MethodId} {args : Array Value} {below : List Frame} {meth : Method} {c : Code} {D : va_G} {dA : Nat → ClassId} {ad : Nat → Nat} {sz : Nat}  {K : zSt → Prop} (hC : zC p m c cX12_parseRow 4 s args (Cond.code yX12_parseRow cX12_parseRow 4 none :: UW) RX12 meth D vwCl (tyA dA) (zA ad NM sz) NM ad (celM ad dA)) (hE : zE zX0 (zA ad NM sz) s s.heap) (hr : meth.sig.returnType = none) (hinj : ∀ i j, i < NM → j < NM → ad i = ad j → i = j) {σ : zSt} {x1 : Int} {x2 : Int} {s0 : Int} (hf : fX12_parseRow_B14 K σ x1 x2 s0) : zAt p l e ({ frames := 2, cells := 0, slots := 0, locals := 43 } : Room) s m args below meth c 0 0 (MQ below (va_Qv K (zB D vwCl (tyA dA) NM ad (celM ad dA)) (zA ad NM sz)) args s 0 0 (zA ad NM sz)) 4 D vwCl (zA ad NM sz) NM ad (celM ad dA) 14 [(0, vR ad 0), (1, vI x1), (2, vI x2)] [vI s0, vR ad 0] σ := by
  refine z_bipush hC dX12_parseRow_14 (by decide) ?_
  refine z_callVv hC hE (oM_12 (show kM 0 = 12 by decide)) [vI s0, vI (-11)] (fun sz2 => mX12_check l hinj sz2 hf) (cwV 2 hC.1.2.2.2.2 (uV (uT _) u1726 u1728 u45 u118 u1729) rfl rfl rfl (by decide +kernel) ⟨Nat.le_of_ble_eq_true rfl, Nat.le_of_ble_eq_true rfl⟩) rfl rfl (Nat.le_of_ble_eq_true rfl) ⟨Nat.le_of_ble_eq_true rfl, Nat.le_of_ble_eq_true rfl⟩ dX12_parseRow_16 (fun σ2 hf => ?_)
  refine z_aload_n hC dX12_parseRow_19 0 rfl rfl ?_
  refine z_aload_n hC dX12_parseRow_20 0 rfl rfl ?_
  refine z_get hC (fun w h => uT _ w (uL12 w h)) (oM_12 (show kM 0 = 12 by decide)) 8 (by decide) (uT _ _ u1553) rfl rfl dX12_parseRow_21 ?_
  refine z_aload_n hC dX12_parseRow_24 0 rfl rfl ?_
  refine z_get hC (fun w h => uT _ w (uL12 w h)) (oM_12 (show kM 0 = 12 by decide)) 9 (by decide) (uT _ _ u1554) rfl rfl dX12_parseRow_25 ?_
  refine z_isub hC dX12_parseRow_28 ?_
  refine z_aload_n hC dX12_parseRow_29 0 rfl rfl ?_
  refine z_get hC (fun w h => uT _ w (uL12 w h)) (oM_12 (show kM 0 = 12 by decide)) 1 (by decide) (uT _ _ u1546) rfl rfl dX12_parseRow_30 ?_
  refine z_iconst hC dX12_parseRow_33 ?_
  refine z_iaload hC (aM_30 (show kM 2 = 30 by decide)) ⟨by decide, by decide⟩ dX12_parseRow_34 ?_
  obtain ⟨g3, hf⟩ := hf
  obtain ⟨g4, hf⟩ := hf
  refine z_icmp_ne (tgt := 42) hC dX12_parseRow_35 (by decide) g3 g4 (fun hc => ?_) (fun hc => ?_)
  · replace hf := hf.2 hc
    refine z_iconst hC dX12_parseRow_42 ?_
    exact wX12_parseRow_B43 hC hE hr hinj  hf
  · replace hf := hf.1 hc
    refine z_iconst hC dX12_parseRow_38 ?_
    refine z_goto (tgt := 43) hC dX12_parseRow_39 (by decide) ?_
    exact wX12_parseRow_B43 hC hE hr hinj  hf
set_option maxHeartbeats 4000000 in
set_option maxRecDepth 100000 in
theorem mX12_parseRow {D : va_G} {dA : Nat → ClassId} {ad : Nat → Nat}  (l : Launch) (hinj : ∀ i j, i < NM → j < NM → ad i = ad j → i = j) (sz : Nat) {K : zSt → Prop} {σ : zSt} {x1 : Int} {x2 : Int} (hf : fX12_parseRow K σ x1 x2) : Met l yX12_parseRow (Cond.code yX12_parseRow cX12_parseRow 4 none :: UW) ({ frames := 2, cells := 0, slots := 0, locals := 43 } : Room) (va_Pc [vR ad 0, vI x1, vI x2] (zPre D vwCl (tyA dA) zX0 NM ad (celM ad dA) sz σ)) (va_Qv K (zB D vwCl (tyA dA) NM ad (celM ad dA)) (zA ad NM sz)) 0 0 (zA ad NM sz) := by
  refine z_enter (cc := cX12_parseRow) (maxL := 4) (ret := none) (vs := [vR ad 0, vI x1, vI x2]) (plainFor_of_name (by decide)) rfl hinj (Nat.le_of_ble_eq_true rfl) ?_
  intro p e s m args below meth c hC hE hsz hr hnm
  show zAt p l e ({ frames := 2, cells := 0, slots := 0, locals := 43 } : Room) s m args below meth c 0 0 (MQ below (va_Qv K (zB D vwCl (tyA dA) NM ad (celM ad dA)) (zA ad NM sz)) args s 0 0 (zA ad NM sz)) 4 D vwCl (zA ad NM sz) NM ad (celM ad dA) 0 [(0, vR ad 0), (1, vI x1), (2, vI x2)] [] σ
  refine z_aload_n hC dX12_parseRow_0 0 rfl rfl ?_
  refine z_aload_n hC dX12_parseRow_1 0 rfl rfl ?_
  refine z_get hC (fun w h => uT _ w (uL12 w h)) (oM_12 (show kM 0 = 12 by decide)) 10 (by decide) (uT _ _ u1555) rfl rfl dX12_parseRow_2 ?_
  refine z_iconst hC dX12_parseRow_5 ?_
  obtain ⟨g1, hf⟩ := hf
  refine z_icmp_ne (tgt := 13) hC dX12_parseRow_6 (by decide) g1 (zlit rfl rfl) (fun hc => ?_) (fun hc => ?_)
  · replace hf := hf.2 hc
    refine z_iconst hC dX12_parseRow_13 ?_
    exact wX12_parseRow_B14 hC hE hr hinj  hf
  · replace hf := hf.1 hc
    refine z_iconst hC dX12_parseRow_9 ?_
    refine z_goto (tgt := 14) hC dX12_parseRow_10 (by decide) ?_
    exact wX12_parseRow_B14 hC hE hr hinj  hf

-- ===== X12_parseFrame
def fX12_parseFrame_B194 (K : zSt → Prop) (σ : zSt) (s0 : Int) : Prop :=
  fX12_check (fun σ26 => zrg (σ26 0 13) ∧ ((σ26 0 13 = 0 → ∀ σ28, σ28 = zu σ26 2 2 ((σ26 2 2) + 1) → K σ28) ∧ (¬ σ26 0 13 = 0 → K σ26))) σ s0 (-15)
def fX12_parseFrame_B173 (K : zSt → Prop) (σ : zSt) (x2 : Int) (s0 : Int) : Prop :=
  fX12_check (fun σ23 => zrg x2 ∧ zrg (σ23 2 1) ∧ ((x2 = σ23 2 1 → fX12_parseFrame_B194 K σ23 1) ∧ (¬ x2 = σ23 2 1 → fX12_parseFrame_B194 K σ23 0))) σ s0 (-11)
def fX12_parseFrame_B159 (K : zSt → Prop) (σ : zSt) (x2 : Int) : Prop :=
  zrg (σ 0 10) ∧ ((σ 0 10 = 3 → fX12_parseFrame_B173 K σ x2 1) ∧ (¬ σ 0 10 = 3 → fX12_parseFrame_B173 K σ x2 0))
noncomputable def fX12_parseFrame_B128 (K : zSt → Prop) (n : Nat) : zSt → Int → Int → Prop :=
  Nat.rec (motive := fun _ => zSt → Int → Int → Prop) (fun _ _ _ => False) (fun _ ih σ x1 x2 => zrg (σ 0 13) ∧ ((σ 0 13 = 0 → zrg x2 ∧ ((x2 = 0 → fX12_parseRow (fun σ19 => ih σ19 x1 (x2 + 1)) σ x1 x2) ∧ (¬ x2 = 0 → zrg (σ 0 10) ∧ ((σ 0 10 = 2 → fX12_parseRow (fun σ21 => ih σ21 x1 (x2 + 1)) σ x1 x2) ∧ (¬ σ 0 10 = 2 → fX12_parseFrame_B159 K σ x2))))) ∧ (¬ σ 0 13 = 0 → fX12_parseFrame_B159 K σ x2))) n
theorem uX12_parseFrame_B128 (K : zSt → Prop) (n0 : Nat) (σ : zSt) (x1 : Int) (x2 : Int) : fX12_parseFrame_B128 K (n0 + 1) σ x1 x2 = (zrg (σ 0 13) ∧ ((σ 0 13 = 0 → zrg x2 ∧ ((x2 = 0 → fX12_parseRow (fun σ19 => (fX12_parseFrame_B128 K n0) σ19 x1 (x2 + 1)) σ x1 x2) ∧ (¬ x2 = 0 → zrg (σ 0 10) ∧ ((σ 0 10 = 2 → fX12_parseRow (fun σ21 => (fX12_parseFrame_B128 K n0) σ21 x1 (x2 + 1)) σ x1 x2) ∧ (¬ σ 0 10 = 2 → fX12_parseFrame_B159 K σ x2))))) ∧ (¬ σ 0 13 = 0 → fX12_parseFrame_B159 K σ x2))) := rfl
def fX12_parseFrame_B96 (K : zSt → Prop) (σ : zSt) (x1 : Int) (s0 : Int) : Prop :=
  fX12_check (fun σ12 => zrg (σ12 0 13) ∧ ((σ12 0 13 = 0 → (0 ≤ 6 + x1 ∧ 6 + x1 < 811) ∧ ∀ σ15, σ15 = zu σ12 2 (6 + x1) (σ12 0 12) → fX12_advance (fun σ16 => (∃ n, fX12_parseFrame_B128 K n σ16 x1 0)) σ15 ) ∧ (¬ σ12 0 13 = 0 → K σ12))) σ s0 (-14)
def fX12_parseFrame_B91 (K : zSt → Prop) (σ : zSt) (x1 : Int) : Prop :=
  fX12_parseFrame_B96 K σ x1 1
def fX12_parseFrame_B63 (K : zSt → Prop) (σ : zSt) (x1 : Int) (s0 : Int) : Prop :=
  fX12_check (fun σ7 => zrg x1 ∧ ((x1 = 0 → fX12_parseFrame_B91 K σ7 x1) ∧ (¬ x1 = 0 → (0 ≤ (6 + x1) - 1 ∧ (6 + x1) - 1 < 811) ∧ zrg (σ7 0 12) ∧ zrg (σ7 2 ((6 + x1) - 1)) ∧ ((σ7 0 12 ≤ σ7 2 ((6 + x1) - 1) → fX12_parseFrame_B96 K σ7 x1 0) ∧ (¬ σ7 0 12 ≤ σ7 2 ((6 + x1) - 1) → fX12_parseFrame_B91 K σ7 x1))))) σ s0 (-12)
def fX12_parseFrame_B42 (K : zSt → Prop) (σ : zSt) (x1 : Int) (s0 : Int) : Prop :=
  fX12_check (fun σ5 => zrg (σ5 0 12) ∧ ((9999 < σ5 0 12 → fX12_parseFrame_B63 K σ5 x1 0) ∧ (¬ 9999 < σ5 0 12 → fX12_parseFrame_B63 K σ5 x1 1))) σ s0 (-11)
def fX12_parseFrame_B19 (K : zSt → Prop) (σ : zSt) (x1 : Int) (s0 : Int) : Prop :=
  fX12_check (fun σ2 => fX12_advanceIfGood (fun σ3 => zrg (σ3 0 10) ∧ ((σ3 0 10 = 2 → fX12_parseFrame_B42 K σ3 x1 1) ∧ (¬ σ3 0 10 = 2 → fX12_parseFrame_B42 K σ3 x1 0))) σ2 ) σ s0 (-15)
def fX12_parseFrame (K : zSt → Prop) (σ : zSt) : Prop :=
  zrg (σ 2 2) ∧ ((6 ≤ σ 2 2 → fX12_parseFrame_B19 K σ (σ 2 2) 0) ∧ (¬ 6 ≤ σ 2 2 → fX12_parseFrame_B19 K σ (σ 2 2) 1))
set_option maxHeartbeats 4000000 in
set_option maxRecDepth 100000 in
theorem wX12_parseFrame_B194 {p : Program} {l : Launch} {e : Env} {s : State} {m : MethodId} {args : Array Value} {below : List Frame} {meth : Method} {c : Code} {D : va_G} {dA : Nat → ClassId} {ad : Nat → Nat} {sz : Nat}  {K : zSt → Prop} (hC : zC p m c cX12_parseFrame 3 s args (Cond.code yX12_parseFrame cX12_parseFrame 3 none :: UW) RX12 meth D vwCl (tyA dA) (zA ad NM sz) NM ad (celM ad dA)) (hE : zE zX0 (zA ad NM sz) s s.heap) (hr : meth.sig.returnType = none) (hinj : ∀ i j, i < NM → j < NM → ad i = ad j → i = j) {σ : zSt} {s0 : Int} (hf : fX12_parseFrame_B194 K σ s0) : zAt p l e ({ frames := 3, cells := 0, slots := 0, locals := 66 } : Room) s m args below meth c 0 0 (MQ below (va_Qv K (zB D vwCl (tyA dA) NM ad (celM ad dA)) (zA ad NM sz)) args s 0 0 (zA ad NM sz)) 3 D vwCl (zA ad NM sz) NM ad (celM ad dA) 194 [(0, vR ad 0)] [vI s0, vR ad 0] σ := by
  refine z_bipush hC dX12_parseFrame_194 (by decide) ?_
  refine z_callVv hC hE (oM_12 (show kM 0 = 12 by decide)) [vI s0, vI (-15)] (fun sz2 => mX12_check l hinj sz2 hf) (cwV 2 hC.1.2.2.2.2 (uV (uT _) u1726 u1728 u45 u118 u1729) rfl rfl rfl (by decide +kernel) ⟨Nat.le_of_ble_eq_true rfl, Nat.le_of_ble_eq_true rfl⟩) rfl rfl (Nat.le_of_ble_eq_true rfl) ⟨Nat.le_of_ble_eq_true rfl, Nat.le_of_ble_eq_true rfl⟩ dX12_parseFrame_196 (fun σ26 hf => ?_)
  refine z_aload_n hC dX12_parseFrame_199 0 rfl rfl ?_
  refine z_get hC (fun w h => uT _ w (uL12 w h)) (oM_12 (show kM 0 = 12 by decide)) 13 (by decide) (uT _ _ u1558) rfl rfl dX12_parseFrame_200 ?_
  obtain ⟨g27, hf⟩ := hf
  refine z_if_ne (tgt := 216) hC dX12_parseFrame_203 (by decide) g27 (fun hc => ?_) (fun hc => ?_)
  · replace hf := hf.2 hc
    exact z_vret hC hr rfl dX12_parseFrame_216 hf
  · replace hf := hf.1 hc
    refine z_aload_n hC dX12_parseFrame_206 0 rfl rfl ?_
    refine z_get hC (fun w h => uT _ w (uL12 w h)) (oM_12 (show kM 0 = 12 by decide)) 1 (by decide) (uT _ _ u1546) rfl rfl dX12_parseFrame_207 ?_
    refine z_iconst hC dX12_parseFrame_210 ?_
    refine z_dup2 hC dX12_parseFrame_211 rfl rfl ?_
    refine z_iaload hC (aM_30 (show kM 2 = 30 by decide)) ⟨by decide, by decide⟩ dX12_parseFrame_212 ?_
    refine z_iconst hC dX12_parseFrame_213 ?_
    refine z_iadd hC dX12_parseFrame_214 ?_
    refine z_iastore hC (aM_30 (show kM 2 = 30 by decide)) (loM' (show kM 2 = 30 by decide) (by decide)) ⟨by decide, by decide⟩ dX12_parseFrame_215 ?_
    obtain ⟨σ28, eσ28⟩ : ∃ z : zSt, z = zu σ26 2 2 ((σ26 2 2) + 1) := ⟨_, rfl⟩
    rw [← eσ28]
    replace hf := hf σ28 eσ28
    exact z_vret hC hr rfl dX12_parseFrame_216 hf
set_option maxHeartbeats 4000000 in
set_option maxRecDepth 100000 in
theorem wX12_parseFrame_B173 {p : Program} {l : Launch} {e : Env} {s : State} {m : MethodId} {args : Array Value} {below : List Frame} {meth : Method} {c : Code} {D : va_G} {dA : Nat → ClassId} {ad : Nat → Nat} {sz : Nat}  {K : zSt → Prop} (hC : zC p m c cX12_parseFrame 3 s args (Cond.code yX12_parseFrame cX12_parseFrame 3 none :: UW) RX12 meth D vwCl (tyA dA) (zA ad NM sz) NM ad (celM ad dA)) (hE : zE zX0 (zA ad NM sz) s s.heap) (hr : meth.sig.returnType = none) (hinj : ∀ i j, i < NM → j < NM → ad i = ad j → i = j) {σ : zSt} {x2 : Int} {s0 : Int} (hf : fX12_parseFrame_B173 K σ x2 s0) : zAt p l e ({ frames := 3, cells := 0, slots := 0, locals := 66 } : Room) s m args below meth c 0 0 (MQ below (va_Qv K (zB D vwCl (tyA dA) NM ad (celM ad dA)) (zA ad NM sz)) args s 0 0 (zA ad NM sz)) 3 D vwCl (zA ad NM sz) NM ad (celM ad dA) 173 [(0, vR ad 0), (2, vI x2)] [vI s0, vR ad 0] σ := by
  refine z_bipush hC dX12_parseFrame_173 (by decide) ?_
  refine z_callVv hC hE (oM_12 (show kM 0 = 12 by decide)) [vI s0, vI (-11)] (fun sz2 => mX12_check l hinj sz2 hf) (cwV 2 hC.1.2.2.2.2 (uV (uT _) u1726 u1728 u45 u118 u1729) rfl rfl rfl (by decide +kernel) ⟨Nat.le_of_ble_eq_true rfl, Nat.le_of_ble_eq_true rfl⟩) rfl rfl (Nat.le_of_ble_eq_true rfl) ⟨Nat.le_of_ble_eq_true rfl, Nat.le_of_ble_eq_true rfl⟩ dX12_parseFrame_175 (fun σ23 hf => ?_)
  refine z_aload_n hC dX12_parseFrame_178 0 rfl rfl ?_
  refine z_iload_n hC dX12_parseFrame_179 1 rfl rfl ?_
  refine z_aload_n hC dX12_parseFrame_180 0 rfl rfl ?_
  refine z_get hC (fun w h => uT _ w (uL12 w h)) (oM_12 (show kM 0 = 12 by decide)) 1 (by decide) (uT _ _ u1546) rfl rfl dX12_parseFrame_181 ?_
  refine z_iconst hC dX12_parseFrame_184 ?_
  refine z_iaload hC (aM_30 (show kM 2 = 30 by decide)) ⟨by decide, by decide⟩ dX12_parseFrame_185 ?_
  obtain ⟨g24, hf⟩ := hf
  obtain ⟨g25, hf⟩ := hf
  refine z_icmp_ne (tgt := 193) hC dX12_parseFrame_186 (by decide) g24 g25 (fun hc => ?_) (fun hc => ?_)
  · replace hf := hf.2 hc
    refine z_iconst hC dX12_parseFrame_193 ?_
    refine z_sub (lv' := [(0, vR ad 0)]) [0] rfl ?_
    exact wX12_parseFrame_B194 hC hE hr hinj  hf
  · replace hf := hf.1 hc
    refine z_iconst hC dX12_parseFrame_189 ?_
    refine z_goto (tgt := 194) hC dX12_parseFrame_190 (by decide) ?_
    refine z_sub (lv' := [(0, vR ad 0)]) [0] rfl ?_
    exact wX12_parseFrame_B194 hC hE hr hinj  hf
set_option maxHeartbeats 4000000 in
set_option maxRecDepth 100000 in
theorem wX12_parseFrame_B159 {p : Program} {l : Launch} {e : Env} {s : State} {m : MethodId} {args : Array Value} {below : List Frame} {meth : Method} {c : Code} {D : va_G} {dA : Nat → ClassId} {ad : Nat → Nat} {sz : Nat}  {K : zSt → Prop} (hC : zC p m c cX12_parseFrame 3 s args (Cond.code yX12_parseFrame cX12_parseFrame 3 none :: UW) RX12 meth D vwCl (tyA dA) (zA ad NM sz) NM ad (celM ad dA)) (hE : zE zX0 (zA ad NM sz) s s.heap) (hr : meth.sig.returnType = none) (hinj : ∀ i j, i < NM → j < NM → ad i = ad j → i = j) {σ : zSt} {x2 : Int} (hf : fX12_parseFrame_B159 K σ x2) : zAt p l e ({ frames := 3, cells := 0, slots := 0, locals := 66 } : Room) s m args below meth c 0 0 (MQ below (va_Qv K (zB D vwCl (tyA dA) NM ad (celM ad dA)) (zA ad NM sz)) args s 0 0 (zA ad NM sz)) 3 D vwCl (zA ad NM sz) NM ad (celM ad dA) 159 [(0, vR ad 0), (2, vI x2)] [] σ := by
  refine z_aload_n hC dX12_parseFrame_159 0 rfl rfl ?_
  refine z_aload_n hC dX12_parseFrame_160 0 rfl rfl ?_
  refine z_get hC (fun w h => uT _ w (uL12 w h)) (oM_12 (show kM 0 = 12 by decide)) 10 (by decide) (uT _ _ u1555) rfl rfl dX12_parseFrame_161 ?_
  refine z_iconst hC dX12_parseFrame_164 ?_
  obtain ⟨g22, hf⟩ := hf
  refine z_icmp_ne (tgt := 172) hC dX12_parseFrame_165 (by decide) g22 (zlit rfl rfl) (fun hc => ?_) (fun hc => ?_)
  · replace hf := hf.2 hc
    refine z_iconst hC dX12_parseFrame_172 ?_
    exact wX12_parseFrame_B173 hC hE hr hinj  hf
  · replace hf := hf.1 hc
    refine z_iconst hC dX12_parseFrame_168 ?_
    refine z_goto (tgt := 173) hC dX12_parseFrame_169 (by decide) ?_
    exact wX12_parseFrame_B173 hC hE hr hinj  hf
set_option maxHeartbeats 4000000 in
set_option maxRecDepth 100000 in
theorem wX12_parseFrame_B128 {p : Program} {l : Launch} {e : Env} {s : State} {m : MethodId} {args : Array Value} {below : List Frame} {meth : Method} {c : Code} {D : va_G} {dA : Nat → ClassId} {ad : Nat → Nat} {sz : Nat}  {K : zSt → Prop} (hC : zC p m c cX12_parseFrame 3 s args (Cond.code yX12_parseFrame cX12_parseFrame 3 none :: UW) RX12 meth D vwCl (tyA dA) (zA ad NM sz) NM ad (celM ad dA)) (hE : zE zX0 (zA ad NM sz) s s.heap) (hr : meth.sig.returnType = none) (hinj : ∀ i j, i < NM → j < NM → ad i = ad j → i = j) : ∀ (n : Nat) (σ : zSt) (x1 : Int) (x2 : Int), fX12_parseFrame_B128 K n σ x1 x2 → zAt p l e ({ frames := 3, cells := 0, slots := 0, locals := 66 } : Room) s m args below meth c 0 0 (MQ below (va_Qv K (zB D vwCl (tyA dA) NM ad (celM ad dA)) (zA ad NM sz)) args s 0 0 (zA ad NM sz)) 3 D vwCl (zA ad NM sz) NM ad (celM ad dA) 128 [(0, vR ad 0), (1, vI x1), (2, vI x2)] [] σ := by
  intro n
  induction n with
  | zero => intro σ x1 x2  hf; exact False.elim hf
  | succ n ih =>
    intro σ x1 x2  hf
    rw [uX12_parseFrame_B128] at hf
    refine z_aload_n hC dX12_parseFrame_128 0 rfl rfl ?_
    refine z_get hC (fun w h => uT _ w (uL12 w h)) (oM_12 (show kM 0 = 12 by decide)) 13 (by decide) (uT _ _ u1558) rfl rfl dX12_parseFrame_129 ?_
    obtain ⟨g17, hf⟩ := hf
    refine z_if_ne (tgt := 159) hC dX12_parseFrame_132 (by decide) g17 (fun hc => ?_) (fun hc => ?_)
    · replace hf := hf.2 hc
      refine z_sub (lv' := [(0, vR ad 0), (2, vI x2)]) [0, 2] rfl ?_
      exact wX12_parseFrame_B159 hC hE hr hinj  hf
    · replace hf := hf.1 hc
      refine z_iload_n hC dX12_parseFrame_135 2 rfl rfl ?_
      obtain ⟨g18, hf⟩ := hf
      refine z_if_eq (tgt := 147) hC dX12_parseFrame_136 (by decide) g18 (fun hc => ?_) (fun hc => ?_)
      · replace hf := hf.1 hc
        refine z_aload_n hC dX12_parseFrame_147 0 rfl rfl ?_
        refine z_iload_n hC dX12_parseFrame_148 1 rfl rfl ?_
        refine z_iload_n hC dX12_parseFrame_149 2 rfl rfl ?_
        refine z_callVv hC hE (oM_12 (show kM 0 = 12 by decide)) [vI x1, vI x2] (fun sz2 => mX12_parseRow l hinj sz2 hf) (cwV 2 hC.1.2.2.2.2 (uV (uT _) u1743 u1745 u49 u118 u1746) rfl rfl rfl (by decide +kernel) ⟨Nat.le_of_ble_eq_true rfl, Nat.le_of_ble_eq_true rfl⟩) rfl rfl (Nat.le_of_ble_eq_true rfl) ⟨Nat.le_of_ble_eq_true rfl, Nat.le_of_ble_eq_true rfl⟩ dX12_parseFrame_150 (fun σ19 hf => ?_)
        refine z_iinc hC ([(2, vI (x2 + 1)), (0, vR ad 0), (1, vI x1)]) dX12_parseFrame_153 2 rfl (by decide) rfl ?_
        refine z_goto (tgt := 128) hC dX12_parseFrame_156 (by decide) ?_
        refine z_sub (lv' := [(0, vR ad 0), (1, vI x1), (2, vI (x2 + 1))]) [1, 2, 0] rfl ?_
        exact ih _ _ _ hf
      · replace hf := hf.2 hc
        refine z_aload_n hC dX12_parseFrame_139 0 rfl rfl ?_
        refine z_get hC (fun w h => uT _ w (uL12 w h)) (oM_12 (show kM 0 = 12 by decide)) 10 (by decide) (uT _ _ u1555) rfl rfl dX12_parseFrame_140 ?_
        refine z_iconst hC dX12_parseFrame_143 ?_
        obtain ⟨g20, hf⟩ := hf
        refine z_icmp_ne (tgt := 159) hC dX12_parseFrame_144 (by decide) g20 (zlit rfl rfl) (fun hc => ?_) (fun hc => ?_)
        · replace hf := hf.2 hc
          refine z_sub (lv' := [(0, vR ad 0), (2, vI x2)]) [0, 2] rfl ?_
          exact wX12_parseFrame_B159 hC hE hr hinj  hf
        · replace hf := hf.1 hc
          refine z_aload_n hC dX12_parseFrame_147 0 rfl rfl ?_
          refine z_iload_n hC dX12_parseFrame_148 1 rfl rfl ?_
          refine z_iload_n hC dX12_parseFrame_149 2 rfl rfl ?_
          refine z_callVv hC hE (oM_12 (show kM 0 = 12 by decide)) [vI x1, vI x2] (fun sz2 => mX12_parseRow l hinj sz2 hf) (cwV 2 hC.1.2.2.2.2 (uV (uT _) u1743 u1745 u49 u118 u1746) rfl rfl rfl (by decide +kernel) ⟨Nat.le_of_ble_eq_true rfl, Nat.le_of_ble_eq_true rfl⟩) rfl rfl (Nat.le_of_ble_eq_true rfl) ⟨Nat.le_of_ble_eq_true rfl, Nat.le_of_ble_eq_true rfl⟩ dX12_parseFrame_150 (fun σ21 hf => ?_)
          refine z_iinc hC ([(2, vI (x2 + 1)), (0, vR ad 0), (1, vI x1)]) dX12_parseFrame_153 2 rfl (by decide) rfl ?_
          refine z_goto (tgt := 128) hC dX12_parseFrame_156 (by decide) ?_
          refine z_sub (lv' := [(0, vR ad 0), (1, vI x1), (2, vI (x2 + 1))]) [1, 2, 0] rfl ?_
          exact ih _ _ _ hf
set_option maxHeartbeats 4000000 in
set_option maxRecDepth 100000 in
theorem wX12_parseFrame_B96 {p : Program} {l : Launch} {e : Env} {s : State} {m : MethodId} {args : Array Value} {below : List Frame} {meth : Method} {c : Code} {D : va_G} {dA : Nat → ClassId} {ad : Nat → Nat} {sz : Nat}  {K : zSt → Prop} (hC : zC p m c cX12_parseFrame 3 s args (Cond.code yX12_parseFrame cX12_parseFrame 3 none :: UW) RX12 meth D vwCl (tyA dA) (zA ad NM sz) NM ad (celM ad dA)) (hE : zE zX0 (zA ad NM sz) s s.heap) (hr : meth.sig.returnType = none) (hinj : ∀ i j, i < NM → j < NM → ad i = ad j → i = j) {σ : zSt} {x1 : Int} {s0 : Int} (hf : fX12_parseFrame_B96 K σ x1 s0) : zAt p l e ({ frames := 3, cells := 0, slots := 0, locals := 66 } : Room) s m args below meth c 0 0 (MQ below (va_Qv K (zB D vwCl (tyA dA) NM ad (celM ad dA)) (zA ad NM sz)) args s 0 0 (zA ad NM sz)) 3 D vwCl (zA ad NM sz) NM ad (celM ad dA) 96 [(0, vR ad 0), (1, vI x1)] [vI s0, vR ad 0] σ := by
  refine z_bipush hC dX12_parseFrame_96 (by decide) ?_
  refine z_callVv hC hE (oM_12 (show kM 0 = 12 by decide)) [vI s0, vI (-14)] (fun sz2 => mX12_check l hinj sz2 hf) (cwV 2 hC.1.2.2.2.2 (uV (uT _) u1726 u1728 u45 u118 u1729) rfl rfl rfl (by decide +kernel) ⟨Nat.le_of_ble_eq_true rfl, Nat.le_of_ble_eq_true rfl⟩) rfl rfl (Nat.le_of_ble_eq_true rfl) ⟨Nat.le_of_ble_eq_true rfl, Nat.le_of_ble_eq_true rfl⟩ dX12_parseFrame_98 (fun σ12 hf => ?_)
  refine z_aload_n hC dX12_parseFrame_101 0 rfl rfl ?_
  refine z_get hC (fun w h => uT _ w (uL12 w h)) (oM_12 (show kM 0 = 12 by decide)) 13 (by decide) (uT _ _ u1558) rfl rfl dX12_parseFrame_102 ?_
  obtain ⟨g13, hf⟩ := hf
  refine z_if_eq (tgt := 109) hC dX12_parseFrame_105 (by decide) g13 (fun hc => ?_) (fun hc => ?_)
  · replace hf := hf.1 hc
    refine z_aload_n hC dX12_parseFrame_109 0 rfl rfl ?_
    refine z_get hC (fun w h => uT _ w (uL12 w h)) (oM_12 (show kM 0 = 12 by decide)) 1 (by decide) (uT _ _ u1546) rfl rfl dX12_parseFrame_110 ?_
    refine z_bipush hC dX12_parseFrame_113 (by decide) ?_
    refine z_iload_n hC dX12_parseFrame_115 1 rfl rfl ?_
    refine z_iadd hC dX12_parseFrame_116 ?_
    refine z_aload_n hC dX12_parseFrame_117 0 rfl rfl ?_
    refine z_get hC (fun w h => uT _ w (uL12 w h)) (oM_12 (show kM 0 = 12 by decide)) 12 (by decide) (uT _ _ u1557) rfl rfl dX12_parseFrame_118 ?_
    obtain ⟨g14, hf⟩ := hf
    refine z_iastore hC (aM_30 (show kM 2 = 30 by decide)) (loM' (show kM 2 = 30 by decide) (by decide)) g14 dX12_parseFrame_121 ?_
    obtain ⟨σ15, eσ15⟩ : ∃ z : zSt, z = zu σ12 2 (6 + x1) (σ12 0 12) := ⟨_, rfl⟩
    rw [← eσ15]
    replace hf := hf σ15 eσ15
    refine z_aload_n hC dX12_parseFrame_122 0 rfl rfl ?_
    refine z_callVv hC hE (oM_12 (show kM 0 = 12 by decide)) [] (fun sz2 => mX12_advance l hinj sz2 hf) (cwV 0 hC.1.2.2.2.2 (uV (uT _) u1703 u1705 u40 u118 u1706) rfl rfl rfl (by decide +kernel) ⟨Nat.le_of_ble_eq_true rfl, Nat.le_of_ble_eq_true rfl⟩) rfl rfl (Nat.le_of_ble_eq_true rfl) ⟨Nat.le_of_ble_eq_true rfl, Nat.le_of_ble_eq_true rfl⟩ dX12_parseFrame_123 (fun σ16 hf => ?_)
    refine z_iconst hC dX12_parseFrame_126 ?_
    refine z_istore_n hC ([(2, vI 0), (0, vR ad 0), (1, vI x1)]) dX12_parseFrame_127 rfl (by decide) rfl ?_
    refine z_sub (lv' := [(0, vR ad 0), (1, vI x1), (2, vI 0)]) [1, 2, 0] rfl ?_
    obtain ⟨n, hf⟩ := hf
    exact wX12_parseFrame_B128 hC hE hr hinj n _ _ _ hf
  · replace hf := hf.2 hc
    exact z_vret hC hr rfl dX12_parseFrame_108 hf
set_option maxHeartbeats 4000000 in
set_option maxRecDepth 100000 in
theorem wX12_parseFrame_B91 {p : Program} {l : Launch} {e : Env} {s : State} {m : MethodId} {args : Array Value} {below : List Frame} {meth : Method} {c : Code} {D : va_G} {dA : Nat → ClassId} {ad : Nat → Nat} {sz : Nat}  {K : zSt → Prop} (hC : zC p m c cX12_parseFrame 3 s args (Cond.code yX12_parseFrame cX12_parseFrame 3 none :: UW) RX12 meth D vwCl (tyA dA) (zA ad NM sz) NM ad (celM ad dA)) (hE : zE zX0 (zA ad NM sz) s s.heap) (hr : meth.sig.returnType = none) (hinj : ∀ i j, i < NM → j < NM → ad i = ad j → i = j) {σ : zSt} {x1 : Int} (hf : fX12_parseFrame_B91 K σ x1) : zAt p l e ({ frames := 3, cells := 0, slots := 0, locals := 66 } : Room) s m args below meth c 0 0 (MQ below (va_Qv K (zB D vwCl (tyA dA) NM ad (celM ad dA)) (zA ad NM sz)) args s 0 0 (zA ad NM sz)) 3 D vwCl (zA ad NM sz) NM ad (celM ad dA) 91 [(0, vR ad 0), (1, vI x1)] [vR ad 0] σ := by
  refine z_iconst hC dX12_parseFrame_91 ?_
  refine z_goto (tgt := 96) hC dX12_parseFrame_92 (by decide) ?_
  exact wX12_parseFrame_B96 hC hE hr hinj  hf
set_option maxHeartbeats 4000000 in
set_option maxRecDepth 100000 in
theorem wX12_parseFrame_B63 {p : Program} {l : Launch} {e : Env} {s : State} {m : MethodId} {args : Array Value} {below : List Frame} {meth : Method} {c : Code} {D : va_G} {dA : Nat → ClassId} {ad : Nat → Nat} {sz : Nat}  {K : zSt → Prop} (hC : zC p m c cX12_parseFrame 3 s args (Cond.code yX12_parseFrame cX12_parseFrame 3 none :: UW) RX12 meth D vwCl (tyA dA) (zA ad NM sz) NM ad (celM ad dA)) (hE : zE zX0 (zA ad NM sz) s s.heap) (hr : meth.sig.returnType = none) (hinj : ∀ i j, i < NM → j < NM → ad i = ad j → i = j) {σ : zSt} {x1 : Int} {s0 : Int} (hf : fX12_parseFrame_B63 K σ x1 s0) : zAt p l e ({ frames := 3, cells := 0, slots := 0, locals := 66 } : Room) s m args below meth c 0 0 (MQ below (va_Qv K (zB D vwCl (tyA dA) NM ad (celM ad dA)) (zA ad NM sz)) args s 0 0 (zA ad NM sz)) 3 D vwCl (zA ad NM sz) NM ad (celM ad dA) 63 [(0, vR ad 0), (1, vI x1)] [vI s0, vR ad 0] σ := by
  refine z_bipush hC dX12_parseFrame_63 (by decide) ?_
  refine z_callVv hC hE (oM_12 (show kM 0 = 12 by decide)) [vI s0, vI (-12)] (fun sz2 => mX12_check l hinj sz2 hf) (cwV 2 hC.1.2.2.2.2 (uV (uT _) u1726 u1728 u45 u118 u1729) rfl rfl rfl (by decide +kernel) ⟨Nat.le_of_ble_eq_true rfl, Nat.le_of_ble_eq_true rfl⟩) rfl rfl (Nat.le_of_ble_eq_true rfl) ⟨Nat.le_of_ble_eq_true rfl, Nat.le_of_ble_eq_true rfl⟩ dX12_parseFrame_65 (fun σ7 hf => ?_)
  refine z_aload_n hC dX12_parseFrame_68 0 rfl rfl ?_
  refine z_iload_n hC dX12_parseFrame_69 1 rfl rfl ?_
  obtain ⟨g8, hf⟩ := hf
  refine z_if_eq (tgt := 91) hC dX12_parseFrame_70 (by decide) g8 (fun hc => ?_) (fun hc => ?_)
  · replace hf := hf.1 hc
    exact wX12_parseFrame_B91 hC hE hr hinj  hf
  · replace hf := hf.2 hc
    refine z_aload_n hC dX12_parseFrame_73 0 rfl rfl ?_
    refine z_get hC (fun w h => uT _ w (uL12 w h)) (oM_12 (show kM 0 = 12 by decide)) 12 (by decide) (uT _ _ u1557) rfl rfl dX12_parseFrame_74 ?_
    refine z_aload_n hC dX12_parseFrame_77 0 rfl rfl ?_
    refine z_get hC (fun w h => uT _ w (uL12 w h)) (oM_12 (show kM 0 = 12 by decide)) 1 (by decide) (uT _ _ u1546) rfl rfl dX12_parseFrame_78 ?_
    refine z_bipush hC dX12_parseFrame_81 (by decide) ?_
    refine z_iload_n hC dX12_parseFrame_83 1 rfl rfl ?_
    refine z_iadd hC dX12_parseFrame_84 ?_
    refine z_iconst hC dX12_parseFrame_85 ?_
    refine z_isub hC dX12_parseFrame_86 ?_
    obtain ⟨g9, hf⟩ := hf
    refine z_iaload hC (aM_30 (show kM 2 = 30 by decide)) g9 dX12_parseFrame_87 ?_
    obtain ⟨g10, hf⟩ := hf
    obtain ⟨g11, hf⟩ := hf
    refine z_icmp_le (tgt := 95) hC dX12_parseFrame_88 (by decide) g10 g11 (fun hc => ?_) (fun hc => ?_)
    · replace hf := hf.1 hc
      refine z_iconst hC dX12_parseFrame_95 ?_
      exact wX12_parseFrame_B96 hC hE hr hinj  hf
    · replace hf := hf.2 hc
      exact wX12_parseFrame_B91 hC hE hr hinj  hf
set_option maxHeartbeats 4000000 in
set_option maxRecDepth 100000 in
theorem wX12_parseFrame_B42 {p : Program} {l : Launch} {e : Env} {s : State} {m : MethodId} {args : Array Value} {below : List Frame} {meth : Method} {c : Code} {D : va_G} {dA : Nat → ClassId} {ad : Nat → Nat} {sz : Nat}  {K : zSt → Prop} (hC : zC p m c cX12_parseFrame 3 s args (Cond.code yX12_parseFrame cX12_parseFrame 3 none :: UW) RX12 meth D vwCl (tyA dA) (zA ad NM sz) NM ad (celM ad dA)) (hE : zE zX0 (zA ad NM sz) s s.heap) (hr : meth.sig.returnType = none) (hinj : ∀ i j, i < NM → j < NM → ad i = ad j → i = j) {σ : zSt} {x1 : Int} {s0 : Int} (hf : fX12_parseFrame_B42 K σ x1 s0) : zAt p l e ({ frames := 3, cells := 0, slots := 0, locals := 66 } : Room) s m args below meth c 0 0 (MQ below (va_Qv K (zB D vwCl (tyA dA) NM ad (celM ad dA)) (zA ad NM sz)) args s 0 0 (zA ad NM sz)) 3 D vwCl (zA ad NM sz) NM ad (celM ad dA) 42 [(0, vR ad 0), (1, vI x1)] [vI s0, vR ad 0] σ := by
  refine z_bipush hC dX12_parseFrame_42 (by decide) ?_
  refine z_callVv hC hE (oM_12 (show kM 0 = 12 by decide)) [vI s0, vI (-11)] (fun sz2 => mX12_check l hinj sz2 hf) (cwV 2 hC.1.2.2.2.2 (uV (uT _) u1726 u1728 u45 u118 u1729) rfl rfl rfl (by decide +kernel) ⟨Nat.le_of_ble_eq_true rfl, Nat.le_of_ble_eq_true rfl⟩) rfl rfl (Nat.le_of_ble_eq_true rfl) ⟨Nat.le_of_ble_eq_true rfl, Nat.le_of_ble_eq_true rfl⟩ dX12_parseFrame_44 (fun σ5 hf => ?_)
  refine z_aload_n hC dX12_parseFrame_47 0 rfl rfl ?_
  refine z_aload_n hC dX12_parseFrame_48 0 rfl rfl ?_
  refine z_get hC (fun w h => uT _ w (uL12 w h)) (oM_12 (show kM 0 = 12 by decide)) 12 (by decide) (uT _ _ u1557) rfl rfl dX12_parseFrame_49 ?_
  refine z_sipush hC dX12_parseFrame_52 (by decide) ?_
  obtain ⟨g6, hf⟩ := hf
  refine z_icmp_gt (tgt := 62) hC dX12_parseFrame_55 (by decide) g6 (zlit rfl rfl) (fun hc => ?_) (fun hc => ?_)
  · replace hf := hf.1 hc
    refine z_iconst hC dX12_parseFrame_62 ?_
    exact wX12_parseFrame_B63 hC hE hr hinj  hf
  · replace hf := hf.2 hc
    refine z_iconst hC dX12_parseFrame_58 ?_
    refine z_goto (tgt := 63) hC dX12_parseFrame_59 (by decide) ?_
    exact wX12_parseFrame_B63 hC hE hr hinj  hf
set_option maxHeartbeats 4000000 in
set_option maxRecDepth 100000 in
theorem wX12_parseFrame_B19 {p : Program} {l : Launch} {e : Env} {s : State} {m : MethodId} {args : Array Value} {below : List Frame} {meth : Method} {c : Code} {D : va_G} {dA : Nat → ClassId} {ad : Nat → Nat} {sz : Nat}  {K : zSt → Prop} (hC : zC p m c cX12_parseFrame 3 s args (Cond.code yX12_parseFrame cX12_parseFrame 3 none :: UW) RX12 meth D vwCl (tyA dA) (zA ad NM sz) NM ad (celM ad dA)) (hE : zE zX0 (zA ad NM sz) s s.heap) (hr : meth.sig.returnType = none) (hinj : ∀ i j, i < NM → j < NM → ad i = ad j → i = j) {σ : zSt} {x1 : Int} {s0 : Int} (hf : fX12_parseFrame_B19 K σ x1 s0) : zAt p l e ({ frames := 3, cells := 0, slots := 0, locals := 66 } : Room) s m args below meth c 0 0 (MQ below (va_Qv K (zB D vwCl (tyA dA) NM ad (celM ad dA)) (zA ad NM sz)) args s 0 0 (zA ad NM sz)) 3 D vwCl (zA ad NM sz) NM ad (celM ad dA) 19 [(0, vR ad 0), (1, vI x1)] [vI s0, vR ad 0] σ := by
  refine z_bipush hC dX12_parseFrame_19 (by decide) ?_
  refine z_callVv hC hE (oM_12 (show kM 0 = 12 by decide)) [vI s0, vI (-15)] (fun sz2 => mX12_check l hinj sz2 hf) (cwV 2 hC.1.2.2.2.2 (uV (uT _) u1726 u1728 u45 u118 u1729) rfl rfl rfl (by decide +kernel) ⟨Nat.le_of_ble_eq_true rfl, Nat.le_of_ble_eq_true rfl⟩) rfl rfl (Nat.le_of_ble_eq_true rfl) ⟨Nat.le_of_ble_eq_true rfl, Nat.le_of_ble_eq_true rfl⟩ dX12_parseFrame_21 (fun σ2 hf => ?_)
  refine z_aload_n hC dX12_parseFrame_24 0 rfl rfl ?_
  refine z_callVv hC hE (oM_12 (show kM 0 = 12 by decide)) [] (fun sz2 => mX12_advanceIfGood l hinj sz2 hf) (cwV 0 hC.1.2.2.2.2 (uV (uT _) u1730 u1732 u46 u118 u1733) rfl rfl rfl (by decide +kernel) ⟨Nat.le_of_ble_eq_true rfl, Nat.le_of_ble_eq_true rfl⟩) rfl rfl (Nat.le_of_ble_eq_true rfl) ⟨Nat.le_of_ble_eq_true rfl, Nat.le_of_ble_eq_true rfl⟩ dX12_parseFrame_25 (fun σ3 hf => ?_)
  refine z_aload_n hC dX12_parseFrame_28 0 rfl rfl ?_
  refine z_aload_n hC dX12_parseFrame_29 0 rfl rfl ?_
  refine z_get hC (fun w h => uT _ w (uL12 w h)) (oM_12 (show kM 0 = 12 by decide)) 10 (by decide) (uT _ _ u1555) rfl rfl dX12_parseFrame_30 ?_
  refine z_iconst hC dX12_parseFrame_33 ?_
  obtain ⟨g4, hf⟩ := hf
  refine z_icmp_ne (tgt := 41) hC dX12_parseFrame_34 (by decide) g4 (zlit rfl rfl) (fun hc => ?_) (fun hc => ?_)
  · replace hf := hf.2 hc
    refine z_iconst hC dX12_parseFrame_41 ?_
    exact wX12_parseFrame_B42 hC hE hr hinj  hf
  · replace hf := hf.1 hc
    refine z_iconst hC dX12_parseFrame_37 ?_
    refine z_goto (tgt := 42) hC dX12_parseFrame_38 (by decide) ?_
    exact wX12_parseFrame_B42 hC hE hr hinj  hf
set_option maxHeartbeats 4000000 in
set_option maxRecDepth 100000 in
theorem mX12_parseFrame {D : va_G} {dA : Nat → ClassId} {ad : Nat → Nat}  (l : Launch) (hinj : ∀ i j, i < NM → j < NM → ad i = ad j → i = j) (sz : Nat) {K : zSt → Prop} {σ : zSt} (hf : fX12_parseFrame K σ ) : Met l yX12_parseFrame (Cond.code yX12_parseFrame cX12_parseFrame 3 none :: UW) ({ frames := 3, cells := 0, slots := 0, locals := 66 } : Room) (va_Pc [vR ad 0] (zPre D vwCl (tyA dA) zX0 NM ad (celM ad dA) sz σ)) (va_Qv K (zB D vwCl (tyA dA) NM ad (celM ad dA)) (zA ad NM sz)) 0 0 (zA ad NM sz) := by
  refine z_enter (cc := cX12_parseFrame) (maxL := 3) (ret := none) (vs := [vR ad 0]) (plainFor_of_name (by decide)) rfl hinj (Nat.le_of_ble_eq_true rfl) ?_
  intro p e s m args below meth c hC hE hsz hr hnm
  show zAt p l e ({ frames := 3, cells := 0, slots := 0, locals := 66 } : Room) s m args below meth c 0 0 (MQ below (va_Qv K (zB D vwCl (tyA dA) NM ad (celM ad dA)) (zA ad NM sz)) args s 0 0 (zA ad NM sz)) 3 D vwCl (zA ad NM sz) NM ad (celM ad dA) 0 [(0, vR ad 0)] [] σ
  refine z_aload_n hC dX12_parseFrame_0 0 rfl rfl ?_
  refine z_get hC (fun w h => uT _ w (uL12 w h)) (oM_12 (show kM 0 = 12 by decide)) 1 (by decide) (uT _ _ u1546) rfl rfl dX12_parseFrame_1 ?_
  refine z_iconst hC dX12_parseFrame_4 ?_
  refine z_iaload hC (aM_30 (show kM 2 = 30 by decide)) ⟨by decide, by decide⟩ dX12_parseFrame_5 ?_
  refine z_istore_n hC ([(1, vI (σ 2 2)), (0, vR ad 0)]) dX12_parseFrame_6 rfl (by decide) rfl ?_
  refine z_aload_n hC dX12_parseFrame_7 1 rfl rfl ?_
  refine z_iload_n hC dX12_parseFrame_8 0 rfl rfl ?_
  refine z_bipush hC dX12_parseFrame_9 (by decide) ?_
  obtain ⟨g1, hf⟩ := hf
  refine z_icmp_ge (tgt := 18) hC dX12_parseFrame_11 (by decide) g1 (zlit rfl rfl) (fun hc => ?_) (fun hc => ?_)
  · replace hf := hf.1 hc
    refine z_iconst hC dX12_parseFrame_18 ?_
    refine z_sub (lv' := [(0, vR ad 0), (1, vI (σ 2 2))]) [1, 0] rfl ?_
    exact wX12_parseFrame_B19 hC hE hr hinj  hf
  · replace hf := hf.2 hc
    refine z_iconst hC dX12_parseFrame_14 ?_
    refine z_goto (tgt := 19) hC dX12_parseFrame_15 (by decide) ?_
    refine z_sub (lv' := [(0, vR ad 0), (1, vI (σ 2 2))]) [1, 0] rfl ?_
    exact wX12_parseFrame_B19 hC hE hr hinj  hf

-- ===== X12_parsePixel
def fX12_parsePixel_B20 (K : zSt → Prop) (σ : zSt) (x1 : Int) (x3 : Int) (x4 : Int) (s0 : Int) : Prop :=
  fX12_check (fun σ4 => fX12_advanceIfGood (fun σ5 => fX12_readInteger (fun r6 σ6 => fX12_readInteger (fun r7 σ7 => zrg (σ7 0 13) ∧ ((σ7 0 13 = 0 → (0 ≤ x3 + (2 * x4) ∧ x3 + (2 * x4) < 811) ∧ ∀ σ10, σ10 = zu σ7 2 (x3 + (2 * x4)) r6 → (0 ≤ (x3 + (2 * x4)) + 1 ∧ (x3 + (2 * x4)) + 1 < 811) ∧ ∀ σ12, σ12 = zu σ10 2 ((x3 + (2 * x4)) + 1) r7 → (0 ≤ x1 ∧ x1 < 811) ∧ ∀ σ14, σ14 = zu σ12 2 x1 ((σ12 2 x1) + 1) → K σ14) ∧ (¬ σ7 0 13 = 0 → K σ7))) σ6 0 ((σ6 2 1) - 1)) σ5 0 ((σ5 2 0) - 1)) σ4 ) σ s0 (-15)
def fX12_parsePixel (K : zSt → Prop) (σ : zSt) (x1 : Int) (x2 : Int) (x3 : Int) : Prop :=
  (0 ≤ x1 ∧ x1 < 811) ∧ zrg (σ 2 x1) ∧ zrg x2 ∧ ((x2 ≤ σ 2 x1 → fX12_parsePixel_B20 K σ x1 x3 (σ 2 x1) 0) ∧ (¬ x2 ≤ σ 2 x1 → fX12_parsePixel_B20 K σ x1 x3 (σ 2 x1) 1))
set_option maxHeartbeats 4000000 in
set_option maxRecDepth 100000 in
theorem wX12_parsePixel_B20 {p : Program} {l : Launch} {e : Env} {s : State} {m : MethodId} {args : Array Value} {below : List Frame} {meth : Method} {c : Code} {D : va_G} {dA : Nat → ClassId} {ad : Nat → Nat} {sz : Nat}  {K : zSt → Prop} (hC : zC p m c cX12_parsePixel 7 s args (Cond.code yX12_parsePixel cX12_parsePixel 7 none :: UW) RX12 meth D vwCl (tyA dA) (zA ad NM sz) NM ad (celM ad dA)) (hE : zE zX0 (zA ad NM sz) s s.heap) (hr : meth.sig.returnType = none) (hinj : ∀ i j, i < NM → j < NM → ad i = ad j → i = j) {σ : zSt} {x1 : Int} {x3 : Int} {x4 : Int} {s0 : Int} (hf : fX12_parsePixel_B20 K σ x1 x3 x4 s0) : zAt p l e ({ frames := 4, cells := 0, slots := 0, locals := 86 } : Room) s m args below meth c 0 0 (MQ below (va_Qv K (zB D vwCl (tyA dA) NM ad (celM ad dA)) (zA ad NM sz)) args s 0 0 (zA ad NM sz)) 7 D vwCl (zA ad NM sz) NM ad (celM ad dA) 20 [(0, vR ad 0), (1, vI x1), (3, vI x3), (4, vI x4)] [vI s0, vR ad 0] σ := by
  refine z_bipush hC dX12_parsePixel_20 (by decide) ?_
  refine z_callVv hC hE (oM_12 (show kM 0 = 12 by decide)) [vI s0, vI (-15)] (fun sz2 => mX12_check l hinj sz2 hf) (cwV 2 hC.1.2.2.2.2 (uV (uT _) u1726 u1728 u45 u118 u1729) rfl rfl rfl (by decide +kernel) ⟨Nat.le_of_ble_eq_true rfl, Nat.le_of_ble_eq_true rfl⟩) rfl rfl (Nat.le_of_ble_eq_true rfl) ⟨Nat.le_of_ble_eq_true rfl, Nat.le_of_ble_eq_true rfl⟩ dX12_parsePixel_22 (fun σ4 hf => ?_)
  refine z_aload_n hC dX12_parsePixel_25 0 rfl rfl ?_
  refine z_callVv hC hE (oM_12 (show kM 0 = 12 by decide)) [] (fun sz2 => mX12_advanceIfGood l hinj sz2 hf) (cwV 0 hC.1.2.2.2.2 (uV (uT _) u1730 u1732 u46 u118 u1733) rfl rfl rfl (by decide +kernel) ⟨Nat.le_of_ble_eq_true rfl, Nat.le_of_ble_eq_true rfl⟩) rfl rfl (Nat.le_of_ble_eq_true rfl) ⟨Nat.le_of_ble_eq_true rfl, Nat.le_of_ble_eq_true rfl⟩ dX12_parsePixel_26 (fun σ5 hf => ?_)
  refine z_aload_n hC dX12_parsePixel_29 0 rfl rfl ?_
  refine z_iconst hC dX12_parsePixel_30 ?_
  refine z_aload_n hC dX12_parsePixel_31 0 rfl rfl ?_
  refine z_get hC (fun w h => uT _ w (uL12 w h)) (oM_12 (show kM 0 = 12 by decide)) 1 (by decide) (uT _ _ u1546) rfl rfl dX12_parsePixel_32 ?_
  refine z_iconst hC dX12_parsePixel_35 ?_
  refine z_iaload hC (aM_30 (show kM 2 = 30 by decide)) ⟨by decide, by decide⟩ dX12_parsePixel_36 ?_
  refine z_iconst hC dX12_parsePixel_37 ?_
  refine z_isub hC dX12_parsePixel_38 ?_
  refine z_callVi hC hE (oM_12 (show kM 0 = 12 by decide)) [vI 0, vI ((σ5 2 0) - 1)] (fun sz2 => mX12_readInteger l hinj sz2 hf) (cwV 2 hC.1.2.2.2.2 (uV (uT _) u1734 u1736 u47 u118 u1737) rfl rfl rfl (by decide +kernel) ⟨Nat.le_of_ble_eq_true rfl, Nat.le_of_ble_eq_true rfl⟩) rfl rfl (Nat.le_of_ble_eq_true rfl) ⟨Nat.le_of_ble_eq_true rfl, Nat.le_of_ble_eq_true rfl⟩ dX12_parsePixel_39 (fun r6 σ6 hf => ?_)
  refine z_istore hC ([(5, vI r6), (0, vR ad 0), (1, vI x1), (3, vI x3), (4, vI x4)]) dX12_parsePixel_42 (by decide) rfl ?_
  refine z_aload_n hC dX12_parsePixel_44 1 rfl rfl ?_
  refine z_iconst hC dX12_parsePixel_45 ?_
  refine z_aload_n hC dX12_parsePixel_46 1 rfl rfl ?_
  refine z_get hC (fun w h => uT _ w (uL12 w h)) (oM_12 (show kM 0 = 12 by decide)) 1 (by decide) (uT _ _ u1546) rfl rfl dX12_parsePixel_47 ?_
  refine z_iconst hC dX12_parsePixel_50 ?_
  refine z_iaload hC (aM_30 (show kM 2 = 30 by decide)) ⟨by decide, by decide⟩ dX12_parsePixel_51 ?_
  refine z_iconst hC dX12_parsePixel_52 ?_
  refine z_isub hC dX12_parsePixel_53 ?_
  refine z_callVi hC hE (oM_12 (show kM 0 = 12 by decide)) [vI 0, vI ((σ6 2 1) - 1)] (fun sz2 => mX12_readInteger l hinj sz2 hf) (cwV 2 hC.1.2.2.2.2 (uV (uT _) u1734 u1736 u47 u118 u1737) rfl rfl rfl (by decide +kernel) ⟨Nat.le_of_ble_eq_true rfl, Nat.le_of_ble_eq_true rfl⟩) rfl rfl (Nat.le_of_ble_eq_true rfl) ⟨Nat.le_of_ble_eq_true rfl, Nat.le_of_ble_eq_true rfl⟩ dX12_parsePixel_54 (fun r7 σ7 hf => ?_)
  refine z_istore hC ([(6, vI r7), (5, vI r6), (0, vR ad 0), (1, vI x1), (3, vI x3), (4, vI x4)]) dX12_parsePixel_57 (by decide) rfl ?_
  refine z_aload_n hC dX12_parsePixel_59 2 rfl rfl ?_
  refine z_get hC (fun w h => uT _ w (uL12 w h)) (oM_12 (show kM 0 = 12 by decide)) 13 (by decide) (uT _ _ u1558) rfl rfl dX12_parsePixel_60 ?_
  obtain ⟨g8, hf⟩ := hf
  refine z_if_eq (tgt := 67) hC dX12_parsePixel_63 (by decide) g8 (fun hc => ?_) (fun hc => ?_)
  · replace hf := hf.1 hc
    refine z_aload_n hC dX12_parsePixel_67 2 rfl rfl ?_
    refine z_get hC (fun w h => uT _ w (uL12 w h)) (oM_12 (show kM 0 = 12 by decide)) 1 (by decide) (uT _ _ u1546) rfl rfl dX12_parsePixel_68 ?_
    refine z_iload_n hC dX12_parsePixel_71 4 rfl rfl ?_
    refine z_iconst hC dX12_parsePixel_72 ?_
    refine z_iload hC dX12_parsePixel_73 5 rfl ?_
    refine z_imul hC dX12_parsePixel_75 ?_
    refine z_iadd hC dX12_parsePixel_76 ?_
    refine z_iload hC dX12_parsePixel_77 1 rfl ?_
    obtain ⟨g9, hf⟩ := hf
    refine z_iastore hC (aM_30 (show kM 2 = 30 by decide)) (loM' (show kM 2 = 30 by decide) (by decide)) g9 dX12_parsePixel_79 ?_
    obtain ⟨σ10, eσ10⟩ : ∃ z : zSt, z = zu σ7 2 (x3 + (2 * x4)) r6 := ⟨_, rfl⟩
    rw [← eσ10]
    replace hf := hf σ10 eσ10
    refine z_aload_n hC dX12_parsePixel_80 2 rfl rfl ?_
    refine z_get hC (fun w h => uT _ w (uL12 w h)) (oM_12 (show kM 0 = 12 by decide)) 1 (by decide) (uT _ _ u1546) rfl rfl dX12_parsePixel_81 ?_
    refine z_iload_n hC dX12_parsePixel_84 4 rfl rfl ?_
    refine z_iconst hC dX12_parsePixel_85 ?_
    refine z_iload hC dX12_parsePixel_86 5 rfl ?_
    refine z_imul hC dX12_parsePixel_88 ?_
    refine z_iadd hC dX12_parsePixel_89 ?_
    refine z_iconst hC dX12_parsePixel_90 ?_
    refine z_iadd hC dX12_parsePixel_91 ?_
    refine z_iload hC dX12_parsePixel_92 0 rfl ?_
    obtain ⟨g11, hf⟩ := hf
    refine z_iastore hC (aM_30 (show kM 2 = 30 by decide)) (loM' (show kM 2 = 30 by decide) (by decide)) g11 dX12_parsePixel_94 ?_
    obtain ⟨σ12, eσ12⟩ : ∃ z : zSt, z = zu σ10 2 ((x3 + (2 * x4)) + 1) r7 := ⟨_, rfl⟩
    rw [← eσ12]
    replace hf := hf σ12 eσ12
    refine z_aload_n hC dX12_parsePixel_95 2 rfl rfl ?_
    refine z_get hC (fun w h => uT _ w (uL12 w h)) (oM_12 (show kM 0 = 12 by decide)) 1 (by decide) (uT _ _ u1546) rfl rfl dX12_parsePixel_96 ?_
    refine z_iload_n hC dX12_parsePixel_99 3 rfl rfl ?_
    refine z_dup2 hC dX12_parsePixel_100 rfl rfl ?_
    obtain ⟨g13, hf⟩ := hf
    refine z_iaload hC (aM_30 (show kM 2 = 30 by decide)) g13 dX12_parsePixel_101 ?_
    refine z_iconst hC dX12_parsePixel_102 ?_
    refine z_iadd hC dX12_parsePixel_103 ?_
    refine z_iastore hC (aM_30 (show kM 2 = 30 by decide)) (loM' (show kM 2 = 30 by decide) (by decide)) g13 dX12_parsePixel_104 ?_
    obtain ⟨σ14, eσ14⟩ : ∃ z : zSt, z = zu σ12 2 x1 ((σ12 2 x1) + 1) := ⟨_, rfl⟩
    rw [← eσ14]
    replace hf := hf σ14 eσ14
    exact z_vret hC hr rfl dX12_parsePixel_105 hf
  · replace hf := hf.2 hc
    exact z_vret hC hr rfl dX12_parsePixel_66 hf
set_option maxHeartbeats 4000000 in
set_option maxRecDepth 100000 in
theorem mX12_parsePixel {D : va_G} {dA : Nat → ClassId} {ad : Nat → Nat}  (l : Launch) (hinj : ∀ i j, i < NM → j < NM → ad i = ad j → i = j) (sz : Nat) {K : zSt → Prop} {σ : zSt} {x1 : Int} {x2 : Int} {x3 : Int} (hf : fX12_parsePixel K σ x1 x2 x3) : Met l yX12_parsePixel (Cond.code yX12_parsePixel cX12_parsePixel 7 none :: UW) ({ frames := 4, cells := 0, slots := 0, locals := 86 } : Room) (va_Pc [vR ad 0, vI x1, vI x2, vI x3] (zPre D vwCl (tyA dA) zX0 NM ad (celM ad dA) sz σ)) (va_Qv K (zB D vwCl (tyA dA) NM ad (celM ad dA)) (zA ad NM sz)) 0 0 (zA ad NM sz) := by
  refine z_enter (cc := cX12_parsePixel) (maxL := 7) (ret := none) (vs := [vR ad 0, vI x1, vI x2, vI x3]) (plainFor_of_name (by decide)) rfl hinj (Nat.le_of_ble_eq_true rfl) ?_
  intro p e s m args below meth c hC hE hsz hr hnm
  show zAt p l e ({ frames := 4, cells := 0, slots := 0, locals := 86 } : Room) s m args below meth c 0 0 (MQ below (va_Qv K (zB D vwCl (tyA dA) NM ad (celM ad dA)) (zA ad NM sz)) args s 0 0 (zA ad NM sz)) 7 D vwCl (zA ad NM sz) NM ad (celM ad dA) 0 [(0, vR ad 0), (1, vI x1), (2, vI x2), (3, vI x3)] [] σ
  refine z_aload_n hC dX12_parsePixel_0 0 rfl rfl ?_
  refine z_get hC (fun w h => uT _ w (uL12 w h)) (oM_12 (show kM 0 = 12 by decide)) 1 (by decide) (uT _ _ u1546) rfl rfl dX12_parsePixel_1 ?_
  refine z_iload_n hC dX12_parsePixel_4 1 rfl rfl ?_
  obtain ⟨g1, hf⟩ := hf
  refine z_iaload hC (aM_30 (show kM 2 = 30 by decide)) g1 dX12_parsePixel_5 ?_
  refine z_istore hC ([(4, vI (σ 2 x1)), (0, vR ad 0), (1, vI x1), (2, vI x2), (3, vI x3)]) dX12_parsePixel_6 (by decide) rfl ?_
  refine z_aload_n hC dX12_parsePixel_8 1 rfl rfl ?_
  refine z_iload hC dX12_parsePixel_9 0 rfl ?_
  refine z_iload_n hC dX12_parsePixel_11 3 rfl rfl ?_
  obtain ⟨g2, hf⟩ := hf
  obtain ⟨g3, hf⟩ := hf
  refine z_icmp_ge (tgt := 19) hC dX12_parsePixel_12 (by decide) g2 g3 (fun hc => ?_) (fun hc => ?_)
  · replace hf := hf.1 hc
    refine z_iconst hC dX12_parsePixel_19 ?_
    refine z_sub (lv' := [(0, vR ad 0), (1, vI x1), (3, vI x3), (4, vI (σ 2 x1))]) [1, 2, 4, 0] rfl ?_
    exact wX12_parsePixel_B20 hC hE hr hinj  hf
  · replace hf := hf.2 hc
    refine z_iconst hC dX12_parsePixel_15 ?_
    refine z_goto (tgt := 20) hC dX12_parsePixel_16 (by decide) ?_
    refine z_sub (lv' := [(0, vR ad 0), (1, vI x1), (3, vI x3), (4, vI (σ 2 x1))]) [1, 2, 4, 0] rfl ?_
    exact wX12_parsePixel_B20 hC hE hr hinj  hf
