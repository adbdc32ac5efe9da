
-- ===== X9_readingOn
noncomputable def fX9_readingOn_B2 (K : Int → zSt → Prop) (n : Nat) : zSt → Int → Int → Int → Prop :=
  Nat.rec (motive := fun _ => zSt → Int → Int → Int → Prop) (fun _ _ _ _ => False) (fun _ ih σ x0 x1 x2 => zrg x2 ∧ zrg (σ x0 0) ∧ ((σ x0 0 ≤ x2 → K (-1) σ) ∧ (¬ σ x0 0 ≤ x2 → (0 ≤ x2 ∧ x2 < 8) ∧ zrg (σ (x0 + 3) x2) ∧ zrg x1 ∧ ((σ (x0 + 3) x2 = x1 → K x2 σ) ∧ (¬ σ (x0 + 3) x2 = x1 → ih σ x0 x1 (x2 + 1)))))) n
def fX9_readingOn (K : Int → zSt → Prop) (σ : zSt) (x0 : Int) (x1 : Int) : Prop :=
  kX x0 = 9 ∧ (∃ n, fX9_readingOn_B2 K n σ x0 x1 0)
theorem lkX9_readingOn_15 : Cond.fieldLink RX9 15 "GlacierCamera$Stake" (TX9 1).2.1 (TX9 1).2.2.1 ∈ wsX9_readingOn := by decide +kernel
theorem lkX9_readingOn_9 : Cond.fieldLink RX9 9 "GlacierCamera$Stake" (TX9 0).2.1 (TX9 0).2.2.1 ∈ wsX9_readingOn := by decide +kernel
theorem lyX9_readingOn_9 : ∀ w ∈ u_ws RX9 TX9 3, w ∈ wsX9_readingOn := by decide +kernel
set_option maxHeartbeats 4000000 in
set_option maxRecDepth 100000 in
theorem wX9_readingOn_B2 {p : Program} {l : Launch} {e : Env} {s : State} {m : MethodId} {args : Array Value} {below : List Frame} {meth : Method} {c : Code} {D : va_G} {dA : Nat → ClassId} {ad : Nat → Nat} {sz : Nat} {aL aG aI : Nat} {K : Int → zSt → Prop} (hC : zC p m c cX9_readingOn 3 s args wsX9_readingOn RX9 meth D vwCl (tyA dA) (zA ad NX sz) NX ad (celX ad dA)) (hE : zE (zXX aL aG aI) (zA ad NX sz) s s.heap) (hr : meth.sig.returnType = (some .int)) (hinj : ∀ i j, i < NX → j < NX → ad i = ad j → i = j) : ∀ (n : Nat) (σ : zSt) (x0 : Int) (x1 : Int) (x2 : Int) (qx0 : kX x0 = 9), fX9_readingOn_B2 K n σ x0 x1 x2 → zAt p l e ({ frames := 0, cells := 0, slots := 0, locals := 0 } : Room) s m args below meth c 0 0 (MQ below (va_Qi (zPi K) (zB D vwCl (tyA dA) NX ad (celX ad dA)) (zA ad NX sz)) args s 0 0 (zA ad NX sz)) 3 D vwCl (zA ad NX sz) NX ad (celX ad dA) 2 [(0, vR ad x0), (1, vI x1), (2, vI x2)] [] σ := by
  intro n
  induction n with
  | zero => intro σ x0 x1 x2 qx0 hf; exact False.elim hf
  | succ n ih =>
    intro σ x0 x1 x2 qx0 hf
    refine z_iload_n hC dX9_readingOn_2 2 rfl rfl ?_
    refine z_aload_n hC dX9_readingOn_3 0 rfl rfl ?_
    refine z_get hC lyX9_readingOn_9 (oX_9 qx0) 0 (by decide) lkX9_readingOn_9 rfl rfl dX9_readingOn_4 ?_
    obtain ⟨g1, hf⟩ := hf
    obtain ⟨g2, hf⟩ := hf
    refine z_icmp_ge (tgt := 28) hC dX9_readingOn_7 (by decide) g1 g2 (fun hc => ?_) (fun hc => ?_)
    · replace hf := hf.1 hc
      refine z_iconst hC dX9_readingOn_28 ?_
      exact z_iret hC hr rfl dX9_readingOn_29 hf
    · replace hf := hf.2 hc
      refine z_aload_n hC dX9_readingOn_10 0 rfl rfl ?_
      refine z_get hC lyX9_readingOn_9 (oX_9 qx0) 1 (by decide) lkX9_readingOn_15 rfl rfl dX9_readingOn_11 ?_
      refine z_iload_n hC dX9_readingOn_14 2 rfl rfl ?_
      obtain ⟨g3, hf⟩ := hf
      refine z_iaload hC (aX_17 (kf_9_1 qx0)) g3 dX9_readingOn_15 ?_
      refine z_iload_n hC dX9_readingOn_16 1 rfl rfl ?_
      obtain ⟨g4, hf⟩ := hf
      obtain ⟨g5, hf⟩ := hf
      refine z_icmp_ne (tgt := 22) hC dX9_readingOn_17 (by decide) g4 g5 (fun hc => ?_) (fun hc => ?_)
      · replace hf := hf.2 hc
        refine z_iinc hC ([(2, vI (x2 + 1)), (0, vR ad x0), (1, vI x1)]) dX9_readingOn_22 2 rfl (by decide) rfl ?_
        refine z_goto (tgt := 2) hC dX9_readingOn_25 (by decide) ?_
        refine z_sub (lv' := [(0, vR ad x0), (1, vI x1), (2, vI (x2 + 1))]) [1, 2, 0] rfl ?_
        exact ih _ _ _ _ qx0 hf
      · replace hf := hf.1 hc
        refine z_iload_n hC dX9_readingOn_20 2 rfl rfl ?_
        exact z_iret hC hr rfl dX9_readingOn_21 hf
set_option maxHeartbeats 4000000 in
set_option maxRecDepth 100000 in
theorem mX9_readingOn {D : va_G} {dA : Nat → ClassId} {ad : Nat → Nat} {aL aG aI : Nat} (l : Launch) (hinj : ∀ i j, i < NX → j < NX → ad i = ad j → i = j) (sz : Nat) {K : Int → zSt → Prop} {σ : zSt} {x0 : Int} {x1 : Int} (hf : fX9_readingOn K σ x0 x1) : Met l yX9_readingOn wsX9_readingOn ({ frames := 0, cells := 0, slots := 0, locals := 0 } : Room) (va_Pc [vR ad x0, vI x1] (zPre D vwCl (tyA dA) (zXX aL aG aI) NX ad (celX ad dA) sz σ)) (va_Qi (zPi K) (zB D vwCl (tyA dA) NX ad (celX ad dA)) (zA ad NX sz)) 0 0 (zA ad NX sz) := by
  refine z_enter (cc := cX9_readingOn) (maxL := 3) (ret := (some .int)) (vs := [vR ad x0, vI x1]) (by decide) rfl hinj (Nat.le_of_ble_eq_true rfl) ?_
  intro p e s m args below meth c hC hE hsz hr hnm
  obtain ⟨qx0, hf⟩ := hf
  show zAt p l e ({ frames := 0, cells := 0, slots := 0, locals := 0 } : Room) s m args below meth c 0 0 (MQ below (va_Qi (zPi K) (zB D vwCl (tyA dA) NX ad (celX ad dA)) (zA ad NX sz)) args s 0 0 (zA ad NX sz)) 3 D vwCl (zA ad NX sz) NX ad (celX ad dA) 0 [(0, vR ad x0), (1, vI x1)] [] σ
  refine z_iconst hC dX9_readingOn_0 ?_
  refine z_istore_n hC ([(2, vI 0), (0, vR ad x0), (1, vI x1)]) dX9_readingOn_1 rfl (by decide) rfl ?_
  refine z_sub (lv' := [(0, vR ad x0), (1, vI x1), (2, vI 0)]) [1, 2, 0] rfl ?_
  obtain ⟨n, hf⟩ := hf
  exact wX9_readingOn_B2 hC hE hr hinj n _ _ _ _ qx0 hf

-- ===== X9_insert
def fX9_insert_B65 (K : zSt → Prop) (σ : zSt) (x0 : Int) (x1 : Int) (x2 : Int) (x3 : Int) : Prop :=
  (0 ≤ x3 ∧ x3 < 8) ∧ ∀ σ10, σ10 = zu σ (x0 + 3) x3 x1 → ∀ σ11, σ11 = zu σ10 (x0 + 6) x3 x2 → ∀ σ12, σ12 = zu σ11 x0 0 ((σ11 x0 0) + 1) → K σ12
noncomputable def fX9_insert_B15 (K : zSt → Prop) (n : Nat) : zSt → Int → Int → Int → Int → Prop :=
  Nat.rec (motive := fun _ => zSt → Int → Int → Int → Int → Prop) (fun _ _ _ _ _ => False) (fun _ ih σ x0 x1 x2 x3 => zrg x3 ∧ ((x3 ≤ 0 → fX9_insert_B65 K σ x0 x1 x2 x3) ∧ (¬ x3 ≤ 0 → (0 ≤ x3 - 1 ∧ x3 - 1 < 8) ∧ zrg (σ (x0 + 3) (x3 - 1)) ∧ zrg x1 ∧ ((σ (x0 + 3) (x3 - 1) ≤ x1 → fX9_insert_B65 K σ x0 x1 x2 x3) ∧ (¬ σ (x0 + 3) (x3 - 1) ≤ x1 → (0 ≤ x3 ∧ x3 < 8) ∧ ∀ σ7, σ7 = zu σ (x0 + 3) x3 (σ (x0 + 3) (x3 - 1)) → ∀ σ8, σ8 = zu σ7 (x0 + 6) x3 (σ7 (x0 + 6) (x3 - 1)) → ih σ8 x0 x1 x2 (x3 + (-1))))))) n
def fX9_insert (K : zSt → Prop) (σ : zSt) (x0 : Int) (x1 : Int) (x2 : Int) : Prop :=
  kX x0 = 9 ∧ zrg (σ x0 0) ∧ ((σ x0 0 < 8 → (∃ n, fX9_insert_B15 K n σ x0 x1 x2 (σ x0 0))) ∧ (¬ σ x0 0 < 8 → K σ))
theorem lkX9_insert_15 : Cond.fieldLink RX9 15 "GlacierCamera$Stake" (TX9 1).2.1 (TX9 1).2.2.1 ∈ wsX9_insert := by decide +kernel
theorem lkX9_insert_19 : Cond.fieldLink RX9 19 "GlacierCamera$Stake" (TX9 2).2.1 (TX9 2).2.2.1 ∈ wsX9_insert := by decide +kernel
theorem lkX9_insert_9 : Cond.fieldLink RX9 9 "GlacierCamera$Stake" (TX9 0).2.1 (TX9 0).2.2.1 ∈ wsX9_insert := by decide +kernel
theorem lyX9_insert_9 : ∀ w ∈ u_ws RX9 TX9 3, w ∈ wsX9_insert := by decide +kernel
set_option maxHeartbeats 4000000 in
set_option maxRecDepth 100000 in
theorem wX9_insert_B65 {p : Program} {l : Launch} {e : Env} {s : State} {m : MethodId} {args : Array Value} {below : List Frame} {meth : Method} {c : Code} {D : va_G} {dA : Nat → ClassId} {ad : Nat → Nat} {sz : Nat} {aL aG aI : Nat} {K : zSt → Prop} (hC : zC p m c cX9_insert 4 s args wsX9_insert RX9 meth D vwCl (tyA dA) (zA ad NX sz) NX ad (celX ad dA)) (hE : zE (zXX aL aG aI) (zA ad NX sz) s s.heap) (hr : meth.sig.returnType = none) (hinj : ∀ i j, i < NX → j < NX → ad i = ad j → i = j) {σ : zSt} {x0 : Int} {x1 : Int} {x2 : Int} {x3 : Int} (qx0 : kX x0 = 9) (hf : fX9_insert_B65 K σ x0 x1 x2 x3) : zAt p l e ({ frames := 0, cells := 0, slots := 0, locals := 0 } : Room) s m args below meth c 0 0 (MQ below (va_Qv K (zB D vwCl (tyA dA) NX ad (celX ad dA)) (zA ad NX sz)) args s 0 0 (zA ad NX sz)) 4 D vwCl (zA ad NX sz) NX ad (celX ad dA) 65 [(0, vR ad x0), (1, vI x1), (2, vI x2), (3, vI x3)] [] σ := by
  refine z_aload_n hC dX9_insert_65 0 rfl rfl ?_
  refine z_get hC lyX9_insert_9 (oX_9 qx0) 1 (by decide) lkX9_insert_15 rfl rfl dX9_insert_66 ?_
  refine z_iload_n hC dX9_insert_69 3 rfl rfl ?_
  refine z_iload_n hC dX9_insert_70 1 rfl rfl ?_
  obtain ⟨g9, hf⟩ := hf
  refine z_iastore hC (aX_17 (kf_9_1 qx0)) (loX' (kf_9_1 qx0) (by decide)) g9 dX9_insert_71 ?_
  obtain ⟨σ10, eσ10⟩ : ∃ z : zSt, z = zu σ (x0 + 3) x3 x1 := ⟨_, rfl⟩
  rw [← eσ10]
  replace hf := hf σ10 eσ10
  refine z_aload_n hC dX9_insert_72 0 rfl rfl ?_
  refine z_get hC lyX9_insert_9 (oX_9 qx0) 2 (by decide) lkX9_insert_19 rfl rfl dX9_insert_73 ?_
  refine z_iload_n hC dX9_insert_76 3 rfl rfl ?_
  refine z_iload_n hC dX9_insert_77 2 rfl rfl ?_
  refine z_iastore hC (aX_17 (kf_9_2 qx0)) (loX' (kf_9_2 qx0) (by decide)) g9 dX9_insert_78 ?_
  obtain ⟨σ11, eσ11⟩ : ∃ z : zSt, z = zu σ10 (x0 + 6) x3 x2 := ⟨_, rfl⟩
  rw [← eσ11]
  replace hf := hf σ11 eσ11
  refine z_aload_n hC dX9_insert_79 0 rfl rfl ?_
  refine z_dup hC dX9_insert_80 rfl ?_
  refine z_get hC lyX9_insert_9 (oX_9 qx0) 0 (by decide) lkX9_insert_9 rfl rfl dX9_insert_81 ?_
  refine z_iconst hC dX9_insert_84 ?_
  refine z_iadd hC dX9_insert_85 ?_
  refine z_put hC (ty := .int) tyX9 tyX9_ok nmX9 lyX9_insert_9 (oX_9 qx0) (loX' qx0 (by decide)) 0 (by decide) lkX9_insert_9 rfl rfl (0) ((σ11 x0 0) + 1) (by simp [zu]) (by decide +kernel) rfl rfl (Nat.le_of_ble_eq_true rfl) dX9_insert_86 ?_
  obtain ⟨σ12, eσ12⟩ : ∃ z : zSt, z = zu σ11 x0 0 ((σ11 x0 0) + 1) := ⟨_, rfl⟩
  rw [← eσ12]
  replace hf := hf σ12 eσ12
  exact z_vret hC hr rfl dX9_insert_89 hf
set_option maxHeartbeats 4000000 in
set_option maxRecDepth 100000 in
theorem wX9_insert_B15 {p : Program} {l : Launch} {e : Env} {s : State} {m : MethodId} {args : Array Value} {below : List Frame} {meth : Method} {c : Code} {D : va_G} {dA : Nat → ClassId} {ad : Nat → Nat} {sz : Nat} {aL aG aI : Nat} {K : zSt → Prop} (hC : zC p m c cX9_insert 4 s args wsX9_insert RX9 meth D vwCl (tyA dA) (zA ad NX sz) NX ad (celX ad dA)) (hE : zE (zXX aL aG aI) (zA ad NX sz) s s.heap) (hr : meth.sig.returnType = none) (hinj : ∀ i j, i < NX → j < NX → ad i = ad j → i = j) : ∀ (n : Nat) (σ : zSt) (x0 : Int) (x1 : Int) (x2 : Int) (x3 : Int) (qx0 : kX x0 = 9), fX9_insert_B15 K n σ x0 x1 x2 x3 → zAt p l e ({ frames := 0, cells := 0, slots := 0, locals := 0 } : Room) s m args below meth c 0 0 (MQ below (va_Qv K (zB D vwCl (tyA dA) NX ad (celX ad dA)) (zA ad NX sz)) args s 0 0 (zA ad NX sz)) 4 D vwCl (zA ad NX sz) NX ad (celX ad dA) 15 [(0, vR ad x0), (1, vI x1), (2, vI x2), (3, vI x3)] [] σ := by
  intro n
  induction n with
  | zero => intro σ x0 x1 x2 x3 qx0 hf; exact False.elim hf
  | succ n ih =>
    intro σ x0 x1 x2 x3 qx0 hf
    refine z_iload_n hC dX9_insert_15 3 rfl rfl ?_
    obtain ⟨g2, hf⟩ := hf
    refine z_if_le (tgt := 65) hC dX9_insert_16 (by decide) g2 (fun hc => ?_) (fun hc => ?_)
    · replace hf := hf.1 hc
      exact wX9_insert_B65 hC hE hr hinj qx0 hf
    · replace hf := hf.2 hc
      refine z_aload_n hC dX9_insert_19 0 rfl rfl ?_
      refine z_get hC lyX9_insert_9 (oX_9 qx0) 1 (by decide) lkX9_insert_15 rfl rfl dX9_insert_20 ?_
      refine z_iload_n hC dX9_insert_23 3 rfl rfl ?_
      refine z_iconst hC dX9_insert_24 ?_
      refine z_isub hC dX9_insert_25 ?_
      obtain ⟨g3, hf⟩ := hf
      refine z_iaload hC (aX_17 (kf_9_1 qx0)) g3 dX9_insert_26 ?_
      refine z_iload_n hC dX9_insert_27 1 rfl rfl ?_
      obtain ⟨g4, hf⟩ := hf
      obtain ⟨g5, hf⟩ := hf
      refine z_icmp_le (tgt := 65) hC dX9_insert_28 (by decide) g4 g5 (fun hc => ?_) (fun hc => ?_)
      · replace hf := hf.1 hc
        exact wX9_insert_B65 hC hE hr hinj qx0 hf
      · replace hf := hf.2 hc
        refine z_aload_n hC dX9_insert_31 0 rfl rfl ?_
        refine z_get hC lyX9_insert_9 (oX_9 qx0) 1 (by decide) lkX9_insert_15 rfl rfl dX9_insert_32 ?_
        refine z_iload_n hC dX9_insert_35 3 rfl rfl ?_
        refine z_aload_n hC dX9_insert_36 0 rfl rfl ?_
        refine z_get hC lyX9_insert_9 (oX_9 qx0) 1 (by decide) lkX9_insert_15 rfl rfl dX9_insert_37 ?_
        refine z_iload_n hC dX9_insert_40 3 rfl rfl ?_
        refine z_iconst hC dX9_insert_41 ?_
        refine z_isub hC dX9_insert_42 ?_
        refine z_iaload hC (aX_17 (kf_9_1 qx0)) g3 dX9_insert_43 ?_
        obtain ⟨g6, hf⟩ := hf
        refine z_iastore hC (aX_17 (kf_9_1 qx0)) (loX' (kf_9_1 qx0) (by decide)) g6 dX9_insert_44 ?_
        obtain ⟨σ7, eσ7⟩ : ∃ z : zSt, z = zu σ (x0 + 3) x3 (σ (x0 + 3) (x3 - 1)) := ⟨_, rfl⟩
        rw [← eσ7]
        replace hf := hf σ7 eσ7
        refine z_aload_n hC dX9_insert_45 0 rfl rfl ?_
        refine z_get hC lyX9_insert_9 (oX_9 qx0) 2 (by decide) lkX9_insert_19 rfl rfl dX9_insert_46 ?_
        refine z_iload_n hC dX9_insert_49 3 rfl rfl ?_
        refine z_aload_n hC dX9_insert_50 0 rfl rfl ?_
        refine z_get hC lyX9_insert_9 (oX_9 qx0) 2 (by decide) lkX9_insert_19 rfl rfl dX9_insert_51 ?_
        refine z_iload_n hC dX9_insert_54 3 rfl rfl ?_
        refine z_iconst hC dX9_insert_55 ?_
        refine z_isub hC dX9_insert_56 ?_
        refine z_iaload hC (aX_17 (kf_9_2 qx0)) g3 dX9_insert_57 ?_
        refine z_iastore hC (aX_17 (kf_9_2 qx0)) (loX' (kf_9_2 qx0) (by decide)) g6 dX9_insert_58 ?_
        obtain ⟨σ8, eσ8⟩ : ∃ z : zSt, z = zu σ7 (x0 + 6) x3 (σ7 (x0 + 6) (x3 - 1)) := ⟨_, rfl⟩
        rw [← eσ8]
        replace hf := hf σ8 eσ8
        refine z_iinc hC ([(3, vI (x3 + (-1))), (0, vR ad x0), (1, vI x1), (2, vI x2)]) dX9_insert_59 3 rfl (by decide) rfl ?_
        refine z_goto (tgt := 15) hC dX9_insert_62 (by decide) ?_
        refine z_sub (lv' := [(0, vR ad x0), (1, vI x1), (2, vI x2), (3, vI (x3 + (-1)))]) [1, 2, 3, 0] rfl ?_
        exact ih _ _ _ _ _ qx0 hf
set_option maxHeartbeats 4000000 in
set_option maxRecDepth 100000 in
theorem mX9_insert {D : va_G} {dA : Nat → ClassId} {ad : Nat → Nat} {aL aG aI : Nat} (l : Launch) (hinj : ∀ i j, i < NX → j < NX → ad i = ad j → i = j) (sz : Nat) {K : zSt → Prop} {σ : zSt} {x0 : Int} {x1 : Int} {x2 : Int} (hf : fX9_insert K σ x0 x1 x2) : Met l yX9_insert wsX9_insert ({ frames := 0, cells := 0, slots := 0, locals := 0 } : Room) (va_Pc [vR ad x0, vI x1, vI x2] (zPre D vwCl (tyA dA) (zXX aL aG aI) NX ad (celX ad dA) sz σ)) (va_Qv K (zB D vwCl (tyA dA) NX ad (celX ad dA)) (zA ad NX sz)) 0 0 (zA ad NX sz) := by
  refine z_enter (cc := cX9_insert) (maxL := 4) (ret := none) (vs := [vR ad x0, vI x1, vI x2]) (by decide) rfl hinj (Nat.le_of_ble_eq_true rfl) ?_
  intro p e s m args below meth c hC hE hsz hr hnm
  obtain ⟨qx0, hf⟩ := hf
  show zAt p l e ({ frames := 0, cells := 0, slots := 0, locals := 0 } : Room) s m args below meth c 0 0 (MQ below (va_Qv K (zB D vwCl (tyA dA) NX ad (celX ad dA)) (zA ad NX sz)) args s 0 0 (zA ad NX sz)) 4 D vwCl (zA ad NX sz) NX ad (celX ad dA) 0 [(0, vR ad x0), (1, vI x1), (2, vI x2)] [] σ
  refine z_aload_n hC dX9_insert_0 0 rfl rfl ?_
  refine z_get hC lyX9_insert_9 (oX_9 qx0) 0 (by decide) lkX9_insert_9 rfl rfl dX9_insert_1 ?_
  refine z_bipush hC dX9_insert_4 (by decide) ?_
  obtain ⟨g1, hf⟩ := hf
  refine z_icmp_lt (tgt := 10) hC dX9_insert_6 (by decide) g1 (zlit rfl rfl) (fun hc => ?_) (fun hc => ?_)
  · replace hf := hf.1 hc
    refine z_aload_n hC dX9_insert_10 0 rfl rfl ?_
    refine z_get hC lyX9_insert_9 (oX_9 qx0) 0 (by decide) lkX9_insert_9 rfl rfl dX9_insert_11 ?_
    refine z_istore_n hC ([(3, vI (σ x0 0)), (0, vR ad x0), (1, vI x1), (2, vI x2)]) dX9_insert_14 rfl (by decide) rfl ?_
    refine z_sub (lv' := [(0, vR ad x0), (1, vI x1), (2, vI x2), (3, vI (σ x0 0))]) [1, 2, 3, 0] rfl ?_
    obtain ⟨n, hf⟩ := hf
    exact wX9_insert_B15 hC hE hr hinj n _ _ _ _ _ qx0 hf
  · replace hf := hf.2 hc
    exact z_vret hC hr rfl dX9_insert_9 hf

-- ===== X9_delete
noncomputable def fX9_delete_B14 (K : zSt → Prop) (n : Nat) : zSt → Int → Int → Prop :=
  Nat.rec (motive := fun _ => zSt → Int → Int → Prop) (fun _ _ _ => False) (fun _ ih σ x0 x3 => zrg (x3 + 1) ∧ zrg (σ x0 0) ∧ ((σ x0 0 ≤ x3 + 1 → ∀ σ5, σ5 = zu σ x0 0 ((σ x0 0) - 1) → K σ5) ∧ (¬ σ x0 0 ≤ x3 + 1 → (0 ≤ x3 + 1 ∧ x3 + 1 < 8) ∧ (0 ≤ x3 ∧ x3 < 8) ∧ ∀ σ8, σ8 = zu σ (x0 + 3) x3 (σ (x0 + 3) (x3 + 1)) → ∀ σ9, σ9 = zu σ8 (x0 + 6) x3 (σ8 (x0 + 6) (x3 + 1)) → ih σ9 x0 (x3 + 1)))) n
def fX9_delete (K : zSt → Prop) (σ : zSt) (x0 : Int) (x1 : Int) : Prop :=
  kX x0 = 9 ∧ fX9_readingOn (fun r1 σ1 => zrg r1 ∧ ((r1 = (-1) → K σ1) ∧ (¬ r1 = (-1) → (∃ n, fX9_delete_B14 K n σ1 x0 r1)))) σ x0 x1
theorem lkX9_delete_15 : Cond.fieldLink RX9 15 "GlacierCamera$Stake" (TX9 1).2.1 (TX9 1).2.2.1 ∈ wsX9_delete := by decide +kernel
theorem lkX9_delete_19 : Cond.fieldLink RX9 19 "GlacierCamera$Stake" (TX9 2).2.1 (TX9 2).2.2.1 ∈ wsX9_delete := by decide +kernel
theorem lkX9_delete_9 : Cond.fieldLink RX9 9 "GlacierCamera$Stake" (TX9 0).2.1 (TX9 0).2.2.1 ∈ wsX9_delete := by decide +kernel
theorem lyX9_delete_9 : ∀ w ∈ u_ws RX9 TX9 3, w ∈ wsX9_delete := by decide +kernel
set_option maxHeartbeats 4000000 in
set_option maxRecDepth 100000 in
theorem wX9_delete_B14 {p : Program} {l : Launch} {e : Env} {s : State} {m : MethodId} {args : Array Value} {below : List Frame} {meth : Method} {c : Code} {D : va_G} {dA : Nat → ClassId} {ad : Nat → Nat} {sz : Nat} {aL aG aI : Nat} {K : zSt → Prop} (hC : zC p m c cX9_delete 4 s args wsX9_delete RX9 meth D vwCl (tyA dA) (zA ad NX sz) NX ad (celX ad dA)) (hE : zE (zXX aL aG aI) (zA ad NX sz) s s.heap) (hr : meth.sig.returnType = none) (hinj : ∀ i j, i < NX → j < NX → ad i = ad j → i = j) : ∀ (n : Nat) (σ : zSt) (x0 : Int) (x3 : Int) (qx0 : kX x0 = 9), fX9_delete_B14 K n σ x0 x3 → zAt p l e ({ frames := 1, cells := 0, slots := 0, locals := 22 } : Room) s m args below meth c 0 0 (MQ below (va_Qv K (zB D vwCl (tyA dA) NX ad (celX ad dA)) (zA ad NX sz)) args s 0 0 (zA ad NX sz)) 4 D vwCl (zA ad NX sz) NX ad (celX ad dA) 14 [(0, vR ad x0), (3, vI x3)] [] σ := by
  intro n
  induction n with
  | zero => intro σ x0 x3 qx0 hf; exact False.elim hf
  | succ n ih =>
    intro σ x0 x3 qx0 hf
    refine z_iload_n hC dX9_delete_14 1 rfl rfl ?_
    refine z_iconst hC dX9_delete_15 ?_
    refine z_iadd hC dX9_delete_16 ?_
    refine z_aload_n hC dX9_delete_17 0 rfl rfl ?_
    refine z_get hC lyX9_delete_9 (oX_9 qx0) 0 (by decide) lkX9_delete_9 rfl rfl dX9_delete_18 ?_
    obtain ⟨g3, hf⟩ := hf
    obtain ⟨g4, hf⟩ := hf
    refine z_icmp_ge (tgt := 58) hC dX9_delete_21 (by decide) g3 g4 (fun hc => ?_) (fun hc => ?_)
    · replace hf := hf.1 hc
      refine z_aload_n hC dX9_delete_58 0 rfl rfl ?_
      refine z_dup hC dX9_delete_59 rfl ?_
      refine z_get hC lyX9_delete_9 (oX_9 qx0) 0 (by decide) lkX9_delete_9 rfl rfl dX9_delete_60 ?_
      refine z_iconst hC dX9_delete_63 ?_
      refine z_isub hC dX9_delete_64 ?_
      refine z_put hC (ty := .int) tyX9 tyX9_ok nmX9 lyX9_delete_9 (oX_9 qx0) (loX' qx0 (by decide)) 0 (by decide) lkX9_delete_9 rfl rfl (0) ((σ x0 0) - 1) (by simp [zu]) (by decide +kernel) rfl rfl (Nat.le_of_ble_eq_true rfl) dX9_delete_65 ?_
      obtain ⟨σ5, eσ5⟩ : ∃ z : zSt, z = zu σ x0 0 ((σ x0 0) - 1) := ⟨_, rfl⟩
      rw [← eσ5]
      replace hf := hf σ5 eσ5
      exact z_vret hC hr rfl dX9_delete_68 hf
    · replace hf := hf.2 hc
      refine z_aload_n hC dX9_delete_24 0 rfl rfl ?_
      refine z_get hC lyX9_delete_9 (oX_9 qx0) 1 (by decide) lkX9_delete_15 rfl rfl dX9_delete_25 ?_
      refine z_iload_n hC dX9_delete_28 1 rfl rfl ?_
      refine z_aload_n hC dX9_delete_29 0 rfl rfl ?_
      refine z_get hC lyX9_delete_9 (oX_9 qx0) 1 (by decide) lkX9_delete_15 rfl rfl dX9_delete_30 ?_
      refine z_iload_n hC dX9_delete_33 1 rfl rfl ?_
      refine z_iconst hC dX9_delete_34 ?_
      refine z_iadd hC dX9_delete_35 ?_
      obtain ⟨g6, hf⟩ := hf
      refine z_iaload hC (aX_17 (kf_9_1 qx0)) g6 dX9_delete_36 ?_
      obtain ⟨g7, hf⟩ := hf
      refine z_iastore hC (aX_17 (kf_9_1 qx0)) (loX' (kf_9_1 qx0) (by decide)) g7 dX9_delete_37 ?_
      obtain ⟨σ8, eσ8⟩ : ∃ z : zSt, z = zu σ (x0 + 3) x3 (σ (x0 + 3) (x3 + 1)) := ⟨_, rfl⟩
      rw [← eσ8]
      replace hf := hf σ8 eσ8
      refine z_aload_n hC dX9_delete_38 0 rfl rfl ?_
      refine z_get hC lyX9_delete_9 (oX_9 qx0) 2 (by decide) lkX9_delete_19 rfl rfl dX9_delete_39 ?_
      refine z_iload_n hC dX9_delete_42 1 rfl rfl ?_
      refine z_aload_n hC dX9_delete_43 0 rfl rfl ?_
      refine z_get hC lyX9_delete_9 (oX_9 qx0) 2 (by decide) lkX9_delete_19 rfl rfl dX9_delete_44 ?_
      refine z_iload_n hC dX9_delete_47 1 rfl rfl ?_
      refine z_iconst hC dX9_delete_48 ?_
      refine z_iadd hC dX9_delete_49 ?_
      refine z_iaload hC (aX_17 (kf_9_2 qx0)) g6 dX9_delete_50 ?_
      refine z_iastore hC (aX_17 (kf_9_2 qx0)) (loX' (kf_9_2 qx0) (by decide)) g7 dX9_delete_51 ?_
      obtain ⟨σ9, eσ9⟩ : ∃ z : zSt, z = zu σ8 (x0 + 6) x3 (σ8 (x0 + 6) (x3 + 1)) := ⟨_, rfl⟩
      rw [← eσ9]
      replace hf := hf σ9 eσ9
      refine z_iinc hC ([(3, vI (x3 + 1)), (0, vR ad x0)]) dX9_delete_52 1 rfl (by decide) rfl ?_
      refine z_goto (tgt := 14) hC dX9_delete_55 (by decide) ?_
      refine z_sub (lv' := [(0, vR ad x0), (3, vI (x3 + 1))]) [1, 0] rfl ?_
      exact ih _ _ _ qx0 hf
set_option maxHeartbeats 4000000 in
set_option maxRecDepth 100000 in
theorem mX9_delete {D : va_G} {dA : Nat → ClassId} {ad : Nat → Nat} {aL aG aI : Nat} (l : Launch) (hinj : ∀ i j, i < NX → j < NX → ad i = ad j → i = j) (sz : Nat) {K : zSt → Prop} {σ : zSt} {x0 : Int} {x1 : Int} (hf : fX9_delete K σ x0 x1) : Met l yX9_delete wsX9_delete ({ frames := 1, cells := 0, slots := 0, locals := 22 } : Room) (va_Pc [vR ad x0, vI x1] (zPre D vwCl (tyA dA) (zXX aL aG aI) NX ad (celX ad dA) sz σ)) (va_Qv K (zB D vwCl (tyA dA) NX ad (celX ad dA)) (zA ad NX sz)) 0 0 (zA ad NX sz) := by
  refine z_enter (cc := cX9_delete) (maxL := 4) (ret := none) (vs := [vR ad x0, vI x1]) (by decide) rfl hinj (Nat.le_of_ble_eq_true rfl) ?_
  intro p e s m args below meth c hC hE hsz hr hnm
  obtain ⟨qx0, hf⟩ := hf
  show zAt p l e ({ frames := 1, cells := 0, slots := 0, locals := 22 } : Room) s m args below meth c 0 0 (MQ below (va_Qv K (zB D vwCl (tyA dA) NX ad (celX ad dA)) (zA ad NX sz)) args s 0 0 (zA ad NX sz)) 4 D vwCl (zA ad NX sz) NX ad (celX ad dA) 0 [(0, vR ad x0), (1, vI x1)] [] σ
  refine z_aload_n hC dX9_delete_0 0 rfl rfl ?_
  refine z_iload_n hC dX9_delete_1 1 rfl rfl ?_
  refine z_callVi hC hE (oX_9 qx0) [vI x1] (fun sz2 => mX9_readingOn l hinj sz2 hf) (cwV 1 hC.1.2.2.2.2 gX9_delete_X9_readingOn rfl rfl rfl (by decide +kernel) ⟨Nat.le_of_ble_eq_true rfl, Nat.le_of_ble_eq_true rfl⟩) rfl rfl (Nat.le_of_ble_eq_true rfl) ⟨Nat.zero_le _, Nat.zero_le _⟩ dX9_delete_2 (fun r1 σ1 hf => ?_)
  refine z_istore_n hC ([(2, vI r1), (0, vR ad x0), (1, vI x1)]) dX9_delete_5 rfl (by decide) rfl ?_
  refine z_iload_n hC dX9_delete_6 0 rfl rfl ?_
  refine z_iconst hC dX9_delete_7 ?_
  obtain ⟨g2, hf⟩ := hf
  refine z_icmp_ne (tgt := 12) hC dX9_delete_8 (by decide) g2 (zlit rfl rfl) (fun hc => ?_) (fun hc => ?_)
  · replace hf := hf.2 hc
    refine z_iload_n hC dX9_delete_12 0 rfl rfl ?_
    refine z_istore_n hC ([(3, vI r1), (2, vI r1), (0, vR ad x0), (1, vI x1)]) dX9_delete_13 rfl (by decide) rfl ?_
    refine z_sub (lv' := [(0, vR ad x0), (3, vI r1)]) [2, 0] rfl ?_
    obtain ⟨n, hf⟩ := hf
    exact wX9_delete_B14 hC hE hr hinj n _ _ _ qx0 hf
  · replace hf := hf.1 hc
    exact z_vret hC hr rfl dX9_delete_11 hf

-- ===== X9_hasInterval
def fX9_hasInterval (K : Int → zSt → Prop) (σ : zSt) (x0 : Int) (x1 : Int) : Prop :=
  kX x0 = 9 ∧ zrg x1 ∧ ((x1 < 0 → K 0 σ) ∧ (¬ x1 < 0 → zrg ((σ x0 0) - 1) ∧ (((σ x0 0) - 1 ≤ x1 → K 0 σ) ∧ (¬ (σ x0 0) - 1 ≤ x1 → K 1 σ))))
theorem lkX9_hasInterval_9 : Cond.fieldLink RX9 9 "GlacierCamera$Stake" (TX9 0).2.1 (TX9 0).2.2.1 ∈ wsX9_hasInterval := by decide +kernel
theorem lyX9_hasInterval_9 : ∀ w ∈ u_ws RX9 TX9 3, w ∈ wsX9_hasInterval := by decide +kernel
set_option maxHeartbeats 4000000 in
set_option maxRecDepth 100000 in
theorem mX9_hasInterval {D : va_G} {dA : Nat → ClassId} {ad : Nat → Nat} {aL aG aI : Nat} (l : Launch) (hinj : ∀ i j, i < NX → j < NX → ad i = ad j → i = j) (sz : Nat) {K : Int → zSt → Prop} {σ : zSt} {x0 : Int} {x1 : Int} (hf : fX9_hasInterval K σ x0 x1) : Met l yX9_hasInterval wsX9_hasInterval ({ frames := 0, cells := 0, slots := 0, locals := 0 } : Room) (va_Pc [vR ad x0, vI x1] (zPre D vwCl (tyA dA) (zXX aL aG aI) NX ad (celX ad dA) sz σ)) (va_Qi (zPi K) (zB D vwCl (tyA dA) NX ad (celX ad dA)) (zA ad NX sz)) 0 0 (zA ad NX sz) := by
  refine z_enter (cc := cX9_hasInterval) (maxL := 2) (ret := (some .boolean)) (vs := [vR ad x0, vI x1]) (by decide) rfl hinj (Nat.le_of_ble_eq_true rfl) ?_
  intro p e s m args below meth c hC hE hsz hr hnm
  obtain ⟨qx0, hf⟩ := hf
  show zAt p l e ({ frames := 0, cells := 0, slots := 0, locals := 0 } : Room) s m args below meth c 0 0 (MQ below (va_Qi (zPi K) (zB D vwCl (tyA dA) NX ad (celX ad dA)) (zA ad NX sz)) args s 0 0 (zA ad NX sz)) 2 D vwCl (zA ad NX sz) NX ad (celX ad dA) 0 [(0, vR ad x0), (1, vI x1)] [] σ
  refine z_iload_n hC dX9_hasInterval_0 1 rfl rfl ?_
  obtain ⟨g1, hf⟩ := hf
  refine z_if_lt (tgt := 18) hC dX9_hasInterval_1 (by decide) g1 (fun hc => ?_) (fun hc => ?_)
  · replace hf := hf.1 hc
    refine z_iconst hC dX9_hasInterval_18 ?_
    exact z_bret hC hr rfl dX9_hasInterval_19 (Or.inl rfl) hf
  · replace hf := hf.2 hc
    refine z_iload_n hC dX9_hasInterval_4 1 rfl rfl ?_
    refine z_aload_n hC dX9_hasInterval_5 0 rfl rfl ?_
    refine z_get hC lyX9_hasInterval_9 (oX_9 qx0) 0 (by decide) lkX9_hasInterval_9 rfl rfl dX9_hasInterval_6 ?_
    refine z_iconst hC dX9_hasInterval_9 ?_
    refine z_isub hC dX9_hasInterval_10 ?_
    obtain ⟨g2, hf⟩ := hf
    refine z_icmp_ge (tgt := 18) hC dX9_hasInterval_11 (by decide) g1 g2 (fun hc => ?_) (fun hc => ?_)
    · replace hf := hf.1 hc
      refine z_iconst hC dX9_hasInterval_18 ?_
      exact z_bret hC hr rfl dX9_hasInterval_19 (Or.inl rfl) hf
    · replace hf := hf.2 hc
      refine z_iconst hC dX9_hasInterval_14 ?_
      refine z_goto (tgt := 19) hC dX9_hasInterval_15 (by decide) ?_
      exact z_bret hC hr rfl dX9_hasInterval_19 (Or.inr rfl) hf

-- ===== X9_meltIn
def fX9_meltIn (K : Int → zSt → Prop) (σ : zSt) (x0 : Int) (x1 : Int) : Prop :=
  kX x0 = 9 ∧ fX9_hasInterval (fun r1 σ1 => zrg r1 ∧ ((r1 = 0 → K 0 σ1) ∧ (¬ r1 = 0 → (0 ≤ x1 ∧ x1 < 8) ∧ (0 ≤ x1 + 1 ∧ x1 + 1 < 8) ∧ zrg (σ1 (x0 + 6) (x1 + 1)) ∧ zrg (σ1 (x0 + 6) x1) ∧ ((σ1 (x0 + 6) x1 ≤ σ1 (x0 + 6) (x1 + 1) → K ((σ1 (x0 + 6) (x1 + 1)) - (σ1 (x0 + 6) x1)) σ1) ∧ (¬ σ1 (x0 + 6) x1 ≤ σ1 (x0 + 6) (x1 + 1) → K (σ1 (x0 + 6) (x1 + 1)) σ1))))) σ x0 x1
theorem lkX9_meltIn_19 : Cond.fieldLink RX9 19 "GlacierCamera$Stake" (TX9 2).2.1 (TX9 2).2.2.1 ∈ wsX9_meltIn := by decide +kernel
theorem lyX9_meltIn_9 : ∀ w ∈ u_ws RX9 TX9 3, w ∈ wsX9_meltIn := by decide +kernel
set_option maxHeartbeats 4000000 in
set_option maxRecDepth 100000 in
theorem mX9_meltIn {D : va_G} {dA : Nat → ClassId} {ad : Nat → Nat} {aL aG aI : Nat} (l : Launch) (hinj : ∀ i j, i < NX → j < NX → ad i = ad j → i = j) (sz : Nat) {K : Int → zSt → Prop} {σ : zSt} {x0 : Int} {x1 : Int} (hf : fX9_meltIn K σ x0 x1) : Met l yX9_meltIn wsX9_meltIn ({ frames := 1, cells := 0, slots := 0, locals := 21 } : Room) (va_Pc [vR ad x0, vI x1] (zPre D vwCl (tyA dA) (zXX aL aG aI) NX ad (celX ad dA) sz σ)) (va_Qi (zPi K) (zB D vwCl (tyA dA) NX ad (celX ad dA)) (zA ad NX sz)) 0 0 (zA ad NX sz) := by
  refine z_enter (cc := cX9_meltIn) (maxL := 4) (ret := (some .int)) (vs := [vR ad x0, vI x1]) (by decide) rfl hinj (Nat.le_of_ble_eq_true rfl) ?_
  intro p e s m args below meth c hC hE hsz hr hnm
  obtain ⟨qx0, hf⟩ := hf
  show zAt p l e ({ frames := 1, cells := 0, slots := 0, locals := 21 } : Room) s m args below meth c 0 0 (MQ below (va_Qi (zPi K) (zB D vwCl (tyA dA) NX ad (celX ad dA)) (zA ad NX sz)) args s 0 0 (zA ad NX sz)) 4 D vwCl (zA ad NX sz) NX ad (celX ad dA) 0 [(0, vR ad x0), (1, vI x1)] [] σ
  refine z_aload_n hC dX9_meltIn_0 0 rfl rfl ?_
  refine z_iload_n hC dX9_meltIn_1 1 rfl rfl ?_
  refine z_callVi hC hE (oX_9 qx0) [vI x1] (fun sz2 => mX9_hasInterval l hinj sz2 hf) (cwV 1 hC.1.2.2.2.2 gX9_meltIn_X9_hasInterval rfl rfl rfl (by decide +kernel) ⟨Nat.le_of_ble_eq_true rfl, Nat.le_of_ble_eq_true rfl⟩) rfl rfl (Nat.le_of_ble_eq_true rfl) ⟨Nat.zero_le _, Nat.zero_le _⟩ dX9_meltIn_2 (fun r1 σ1 hf => ?_)
  obtain ⟨g2, hf⟩ := hf
  refine z_if_ne (tgt := 10) hC dX9_meltIn_5 (by decide) g2 (fun hc => ?_) (fun hc => ?_)
  · replace hf := hf.2 hc
    refine z_aload_n hC dX9_meltIn_10 0 rfl rfl ?_
    refine z_get hC lyX9_meltIn_9 (oX_9 qx0) 2 (by decide) lkX9_meltIn_19 rfl rfl dX9_meltIn_11 ?_
    refine z_iload_n hC dX9_meltIn_14 1 rfl rfl ?_
    obtain ⟨g3, hf⟩ := hf
    refine z_iaload hC (aX_17 (kf_9_2 qx0)) g3 dX9_meltIn_15 ?_
    refine z_istore_n hC ([(2, vI (σ1 (x0 + 6) x1)), (0, vR ad x0), (1, vI x1)]) dX9_meltIn_16 rfl (by decide) rfl ?_
    refine z_aload_n hC dX9_meltIn_17 1 rfl rfl ?_
    refine z_get hC lyX9_meltIn_9 (oX_9 qx0) 2 (by decide) lkX9_meltIn_19 rfl rfl dX9_meltIn_18 ?_
    refine z_iload_n hC dX9_meltIn_21 2 rfl rfl ?_
    refine z_iconst hC dX9_meltIn_22 ?_
    refine z_iadd hC dX9_meltIn_23 ?_
    obtain ⟨g4, hf⟩ := hf
    refine z_iaload hC (aX_17 (kf_9_2 qx0)) g4 dX9_meltIn_24 ?_
    refine z_istore_n hC ([(3, vI (σ1 (x0 + 6) (x1 + 1))), (2, vI (σ1 (x0 + 6) x1)), (0, vR ad x0), (1, vI x1)]) dX9_meltIn_25 rfl (by decide) rfl ?_
    refine z_iload_n hC dX9_meltIn_26 0 rfl rfl ?_
    refine z_iload_n hC dX9_meltIn_27 1 rfl rfl ?_
    obtain ⟨g5, hf⟩ := hf
    obtain ⟨g6, hf⟩ := hf
    refine z_icmp_ge (tgt := 35) hC dX9_meltIn_28 (by decide) g5 g6 (fun hc => ?_) (fun hc => ?_)
    · replace hf := hf.1 hc
      refine z_iload_n hC dX9_meltIn_35 0 rfl rfl ?_
      refine z_iload_n hC dX9_meltIn_36 1 rfl rfl ?_
      refine z_isub hC dX9_meltIn_37 ?_
      exact z_iret hC hr rfl dX9_meltIn_38 hf
    · replace hf := hf.2 hc
      refine z_iload_n hC dX9_meltIn_31 0 rfl rfl ?_
      refine z_goto (tgt := 38) hC dX9_meltIn_32 (by decide) ?_
      exact z_iret hC hr rfl dX9_meltIn_38 hf
  · replace hf := hf.1 hc
    refine z_iconst hC dX9_meltIn_8 ?_
    exact z_iret hC hr rfl dX9_meltIn_9 hf

-- ===== X9_drilledIn
def fX9_drilledIn (K : Int → zSt → Prop) (σ : zSt) (x0 : Int) (x1 : Int) : Prop :=
  kX x0 = 9 ∧ fX9_hasInterval (fun r1 σ1 => zrg r1 ∧ ((r1 = 0 → K 0 σ1) ∧ (¬ r1 = 0 → (0 ≤ x1 + 1 ∧ x1 + 1 < 8) ∧ (0 ≤ x1 ∧ x1 < 8) ∧ zrg (σ1 (x0 + 6) (x1 + 1)) ∧ zrg (σ1 (x0 + 6) x1) ∧ ((σ1 (x0 + 6) x1 ≤ σ1 (x0 + 6) (x1 + 1) → K 0 σ1) ∧ (¬ σ1 (x0 + 6) x1 ≤ σ1 (x0 + 6) (x1 + 1) → K 1 σ1))))) σ x0 x1
theorem lkX9_drilledIn_19 : Cond.fieldLink RX9 19 "GlacierCamera$Stake" (TX9 2).2.1 (TX9 2).2.2.1 ∈ wsX9_drilledIn := by decide +kernel
theorem lyX9_drilledIn_9 : ∀ w ∈ u_ws RX9 TX9 3, w ∈ wsX9_drilledIn := by decide +kernel
set_option maxHeartbeats 4000000 in
set_option maxRecDepth 100000 in
theorem mX9_drilledIn {D : va_G} {dA : Nat → ClassId} {ad : Nat → Nat} {aL aG aI : Nat} (l : Launch) (hinj : ∀ i j, i < NX → j < NX → ad i = ad j → i = j) (sz : Nat) {K : Int → zSt → Prop} {σ : zSt} {x0 : Int} {x1 : Int} (hf : fX9_drilledIn K σ x0 x1) : Met l yX9_drilledIn wsX9_drilledIn ({ frames := 1, cells := 0, slots := 0, locals := 21 } : Room) (va_Pc [vR ad x0, vI x1] (zPre D vwCl (tyA dA) (zXX aL aG aI) NX ad (celX ad dA) sz σ)) (va_Qi (zPi K) (zB D vwCl (tyA dA) NX ad (celX ad dA)) (zA ad NX sz)) 0 0 (zA ad NX sz) := by
  refine z_enter (cc := cX9_drilledIn) (maxL := 2) (ret := (some .boolean)) (vs := [vR ad x0, vI x1]) (by decide) rfl hinj (Nat.le_of_ble_eq_true rfl) ?_
  intro p e s m args below meth c hC hE hsz hr hnm
  obtain ⟨qx0, hf⟩ := hf
  show zAt p l e ({ frames := 1, cells := 0, slots := 0, locals := 21 } : Room) s m args below meth c 0 0 (MQ below (va_Qi (zPi K) (zB D vwCl (tyA dA) NX ad (celX ad dA)) (zA ad NX sz)) args s 0 0 (zA ad NX sz)) 2 D vwCl (zA ad NX sz) NX ad (celX ad dA) 0 [(0, vR ad x0), (1, vI x1)] [] σ
  refine z_aload_n hC dX9_drilledIn_0 0 rfl rfl ?_
  refine z_iload_n hC dX9_drilledIn_1 1 rfl rfl ?_
  refine z_callVi hC hE (oX_9 qx0) [vI x1] (fun sz2 => mX9_hasInterval l hinj sz2 hf) (cwV 1 hC.1.2.2.2.2 gX9_drilledIn_X9_hasInterval rfl rfl rfl (by decide +kernel) ⟨Nat.le_of_ble_eq_true rfl, Nat.le_of_ble_eq_true rfl⟩) rfl rfl (Nat.le_of_ble_eq_true rfl) ⟨Nat.zero_le _, Nat.zero_le _⟩ dX9_drilledIn_2 (fun r1 σ1 hf => ?_)
  obtain ⟨g2, hf⟩ := hf
  refine z_if_eq (tgt := 29) hC dX9_drilledIn_5 (by decide) g2 (fun hc => ?_) (fun hc => ?_)
  · replace hf := hf.1 hc
    refine z_iconst hC dX9_drilledIn_29 ?_
    exact z_bret hC hr rfl dX9_drilledIn_30 (Or.inl rfl) hf
  · replace hf := hf.2 hc
    refine z_aload_n hC dX9_drilledIn_8 0 rfl rfl ?_
    refine z_get hC lyX9_drilledIn_9 (oX_9 qx0) 2 (by decide) lkX9_drilledIn_19 rfl rfl dX9_drilledIn_9 ?_
    refine z_iload_n hC dX9_drilledIn_12 1 rfl rfl ?_
    refine z_iconst hC dX9_drilledIn_13 ?_
    refine z_iadd hC dX9_drilledIn_14 ?_
    obtain ⟨g3, hf⟩ := hf
    refine z_iaload hC (aX_17 (kf_9_2 qx0)) g3 dX9_drilledIn_15 ?_
    refine z_aload_n hC dX9_drilledIn_16 0 rfl rfl ?_
    refine z_get hC lyX9_drilledIn_9 (oX_9 qx0) 2 (by decide) lkX9_drilledIn_19 rfl rfl dX9_drilledIn_17 ?_
    refine z_iload_n hC dX9_drilledIn_20 1 rfl rfl ?_
    obtain ⟨g4, hf⟩ := hf
    refine z_iaload hC (aX_17 (kf_9_2 qx0)) g4 dX9_drilledIn_21 ?_
    obtain ⟨g5, hf⟩ := hf
    obtain ⟨g6, hf⟩ := hf
    refine z_icmp_ge (tgt := 29) hC dX9_drilledIn_22 (by decide) g5 g6 (fun hc => ?_) (fun hc => ?_)
    · replace hf := hf.1 hc
      refine z_iconst hC dX9_drilledIn_29 ?_
      exact z_bret hC hr rfl dX9_drilledIn_30 (Or.inl rfl) hf
    · replace hf := hf.2 hc
      refine z_iconst hC dX9_drilledIn_25 ?_
      refine z_goto (tgt := 30) hC dX9_drilledIn_26 (by decide) ?_
      exact z_bret hC hr rfl dX9_drilledIn_30 (Or.inr rfl) hf

-- ===== X9_daysOf
def fX9_daysOf (K : Int → zSt → Prop) (σ : zSt) (x0 : Int) (x1 : Int) : Prop :=
  kX x0 = 9 ∧ fX9_hasInterval (fun r1 σ1 => zrg r1 ∧ ((r1 = 0 → K 0 σ1) ∧ (¬ r1 = 0 → (0 ≤ x1 + 1 ∧ x1 + 1 < 8) ∧ (0 ≤ x1 ∧ x1 < 8) ∧ K ((σ1 (x0 + 3) (x1 + 1)) - (σ1 (x0 + 3) x1)) σ1))) σ x0 x1
theorem lkX9_daysOf_15 : Cond.fieldLink RX9 15 "GlacierCamera$Stake" (TX9 1).2.1 (TX9 1).2.2.1 ∈ wsX9_daysOf := by decide +kernel
theorem lyX9_daysOf_9 : ∀ w ∈ u_ws RX9 TX9 3, w ∈ wsX9_daysOf := by decide +kernel
set_option maxHeartbeats 4000000 in
set_option maxRecDepth 100000 in
theorem mX9_daysOf {D : va_G} {dA : Nat → ClassId} {ad : Nat → Nat} {aL aG aI : Nat} (l : Launch) (hinj : ∀ i j, i < NX → j < NX → ad i = ad j → i = j) (sz : Nat) {K : Int → zSt → Prop} {σ : zSt} {x0 : Int} {x1 : Int} (hf : fX9_daysOf K σ x0 x1) : Met l yX9_daysOf wsX9_daysOf ({ frames := 1, cells := 0, slots := 0, locals := 21 } : Room) (va_Pc [vR ad x0, vI x1] (zPre D vwCl (tyA dA) (zXX aL aG aI) NX ad (celX ad dA) sz σ)) (va_Qi (zPi K) (zB D vwCl (tyA dA) NX ad (celX ad dA)) (zA ad NX sz)) 0 0 (zA ad NX sz) := by
  refine z_enter (cc := cX9_daysOf) (maxL := 2) (ret := (some .int)) (vs := [vR ad x0, vI x1]) (by decide) rfl hinj (Nat.le_of_ble_eq_true rfl) ?_
  intro p e s m args below meth c hC hE hsz hr hnm
  obtain ⟨qx0, hf⟩ := hf
  show zAt p l e ({ frames := 1, cells := 0, slots := 0, locals := 21 } : Room) s m args below meth c 0 0 (MQ below (va_Qi (zPi K) (zB D vwCl (tyA dA) NX ad (celX ad dA)) (zA ad NX sz)) args s 0 0 (zA ad NX sz)) 2 D vwCl (zA ad NX sz) NX ad (celX ad dA) 0 [(0, vR ad x0), (1, vI x1)] [] σ
  refine z_aload_n hC dX9_daysOf_0 0 rfl rfl ?_
  refine z_iload_n hC dX9_daysOf_1 1 rfl rfl ?_
  refine z_callVi hC hE (oX_9 qx0) [vI x1] (fun sz2 => mX9_hasInterval l hinj sz2 hf) (cwV 1 hC.1.2.2.2.2 gX9_daysOf_X9_hasInterval rfl rfl rfl (by decide +kernel) ⟨Nat.le_of_ble_eq_true rfl, Nat.le_of_ble_eq_true rfl⟩) rfl rfl (Nat.le_of_ble_eq_true rfl) ⟨Nat.zero_le _, Nat.zero_le _⟩ dX9_daysOf_2 (fun r1 σ1 hf => ?_)
  obtain ⟨g2, hf⟩ := hf
  refine z_if_eq (tgt := 26) hC dX9_daysOf_5 (by decide) g2 (fun hc => ?_) (fun hc => ?_)
  · replace hf := hf.1 hc
    refine z_iconst hC dX9_daysOf_26 ?_
    exact z_iret hC hr rfl dX9_daysOf_27 hf
  · replace hf := hf.2 hc
    refine z_aload_n hC dX9_daysOf_8 0 rfl rfl ?_
    refine z_get hC lyX9_daysOf_9 (oX_9 qx0) 1 (by decide) lkX9_daysOf_15 rfl rfl dX9_daysOf_9 ?_
    refine z_iload_n hC dX9_daysOf_12 1 rfl rfl ?_
    refine z_iconst hC dX9_daysOf_13 ?_
    refine z_iadd hC dX9_daysOf_14 ?_
    obtain ⟨g3, hf⟩ := hf
    refine z_iaload hC (aX_17 (kf_9_1 qx0)) g3 dX9_daysOf_15 ?_
    refine z_aload_n hC dX9_daysOf_16 0 rfl rfl ?_
    refine z_get hC lyX9_daysOf_9 (oX_9 qx0) 1 (by decide) lkX9_daysOf_15 rfl rfl dX9_daysOf_17 ?_
    refine z_iload_n hC dX9_daysOf_20 1 rfl rfl ?_
    obtain ⟨g4, hf⟩ := hf
    refine z_iaload hC (aX_17 (kf_9_1 qx0)) g4 dX9_daysOf_21 ?_
    refine z_isub hC dX9_daysOf_22 ?_
    refine z_goto (tgt := 27) hC dX9_daysOf_23 (by decide) ?_
    exact z_iret hC hr rfl dX9_daysOf_27 hf

-- ===== X9_meltsFaster
def fX9_meltsFaster (K : Int → zSt → Prop) (σ : zSt) (x0 : Int) (x1 : Int) (x2 : Int) : Prop :=
  kX x0 = 9 ∧ fX9_meltIn (fun r1 σ1 => zrg r1 ∧ fX9_daysOf (fun r3 σ3 => zrg r3 ∧ fX9_meltIn (fun r5 σ5 => zrg r5 ∧ fX9_daysOf (fun r7 σ7 => zrg r7 ∧ zrl (r1 * r3) ∧ zrl (r5 * r7) ∧ ((zcmp (r1 * r3) (r5 * r7) ≤ 0 → K 0 σ7) ∧ (¬ zcmp (r1 * r3) (r5 * r7) ≤ 0 → K 1 σ7))) σ5 x0 x1) σ3 x0 x2) σ1 x0 x2) σ x0 x1
set_option maxHeartbeats 4000000 in
set_option maxRecDepth 100000 in
theorem mX9_meltsFaster {D : va_G} {dA : Nat → ClassId} {ad : Nat → Nat} {aL aG aI : Nat} (l : Launch) (hinj : ∀ i j, i < NX → j < NX → ad i = ad j → i = j) (sz : Nat) {K : Int → zSt → Prop} {σ : zSt} {x0 : Int} {x1 : Int} {x2 : Int} (hf : fX9_meltsFaster K σ x0 x1 x2) : Met l yX9_meltsFaster wsX9_meltsFaster ({ frames := 2, cells := 0, slots := 0, locals := 44 } : Room) (va_Pc [vR ad x0, vI x1, vI x2] (zPre D vwCl (tyA dA) (zXX aL aG aI) NX ad (celX ad dA) sz σ)) (va_Qi (zPi K) (zB D vwCl (tyA dA) NX ad (celX ad dA)) (zA ad NX sz)) 0 0 (zA ad NX sz) := by
  refine z_enter (cc := cX9_meltsFaster) (maxL := 3) (ret := (some .boolean)) (vs := [vR ad x0, vI x1, vI x2]) (by decide) rfl hinj (Nat.le_of_ble_eq_true rfl) ?_
  intro p e s m args below meth c hC hE hsz hr hnm
  obtain ⟨qx0, hf⟩ := hf
  show zAt p l e ({ frames := 2, cells := 0, slots := 0, locals := 44 } : Room) s m args below meth c 0 0 (MQ below (va_Qi (zPi K) (zB D vwCl (tyA dA) NX ad (celX ad dA)) (zA ad NX sz)) args s 0 0 (zA ad NX sz)) 3 D vwCl (zA ad NX sz) NX ad (celX ad dA) 0 [(0, vR ad x0), (1, vI x1), (2, vI x2)] [] σ
  refine z_aload_n hC dX9_meltsFaster_0 0 rfl rfl ?_
  refine z_iload_n hC dX9_meltsFaster_1 1 rfl rfl ?_
  refine z_callVi hC hE (oX_9 qx0) [vI x1] (fun sz2 => mX9_meltIn l hinj sz2 hf) (cwV 1 hC.1.2.2.2.2 gX9_meltsFaster_X9_meltIn rfl rfl rfl (by decide +kernel) ⟨Nat.le_of_ble_eq_true rfl, Nat.le_of_ble_eq_true rfl⟩) rfl rfl (Nat.le_of_ble_eq_true rfl) ⟨Nat.zero_le _, Nat.zero_le _⟩ dX9_meltsFaster_2 (fun r1 σ1 hf => ?_)
  obtain ⟨g2, hf⟩ := hf
  refine z_i2l hC dX9_meltsFaster_5 g2 ?_
  refine z_aload_n hC dX9_meltsFaster_6 0 rfl rfl ?_
  refine z_iload_n hC dX9_meltsFaster_7 2 rfl rfl ?_
  refine z_callVi hC hE (oX_9 qx0) [vI x2] (fun sz2 => mX9_daysOf l hinj sz2 hf) (cwV 1 hC.1.2.2.2.2 gX9_meltsFaster_X9_daysOf rfl rfl rfl (by decide +kernel) ⟨Nat.le_of_ble_eq_true rfl, Nat.le_of_ble_eq_true rfl⟩) rfl rfl (Nat.le_of_ble_eq_true rfl) ⟨Nat.zero_le _, Nat.zero_le _⟩ dX9_meltsFaster_8 (fun r3 σ3 hf => ?_)
  obtain ⟨g4, hf⟩ := hf
  refine z_i2l hC dX9_meltsFaster_11 g4 ?_
  refine z_lmul hC dX9_meltsFaster_12 ?_
  refine z_aload_n hC dX9_meltsFaster_13 0 rfl rfl ?_
  refine z_iload_n hC dX9_meltsFaster_14 2 rfl rfl ?_
  refine z_callVi hC hE (oX_9 qx0) [vI x2] (fun sz2 => mX9_meltIn l hinj sz2 hf) (cwV 1 hC.1.2.2.2.2 gX9_meltsFaster_X9_meltIn rfl rfl rfl (by decide +kernel) ⟨Nat.le_of_ble_eq_true rfl, Nat.le_of_ble_eq_true rfl⟩) rfl rfl (Nat.le_of_ble_eq_true rfl) ⟨Nat.zero_le _, Nat.zero_le _⟩ dX9_meltsFaster_15 (fun r5 σ5 hf => ?_)
  obtain ⟨g6, hf⟩ := hf
  refine z_i2l hC dX9_meltsFaster_18 g6 ?_
  refine z_aload_n hC dX9_meltsFaster_19 0 rfl rfl ?_
  refine z_iload_n hC dX9_meltsFaster_20 1 rfl rfl ?_
  refine z_callVi hC hE (oX_9 qx0) [vI x1] (fun sz2 => mX9_daysOf l hinj sz2 hf) (cwV 1 hC.1.2.2.2.2 gX9_meltsFaster_X9_daysOf rfl rfl rfl (by decide +kernel) ⟨Nat.le_of_ble_eq_true rfl, Nat.le_of_ble_eq_true rfl⟩) rfl rfl (Nat.le_of_ble_eq_true rfl) ⟨Nat.zero_le _, Nat.zero_le _⟩ dX9_meltsFaster_21 (fun r7 σ7 hf => ?_)
  obtain ⟨g8, hf⟩ := hf
  refine z_i2l hC dX9_meltsFaster_24 g8 ?_
  refine z_lmul hC dX9_meltsFaster_25 ?_
  obtain ⟨g9, hf⟩ := hf
  obtain ⟨g10, hf⟩ := hf
  refine z_lcmp hC g9 g10 dX9_meltsFaster_26 ?_
  refine z_if_le (tgt := 34) hC dX9_meltsFaster_27 (by decide) (zcmp_rg _ _) (fun hc => ?_) (fun hc => ?_)
  · replace hf := hf.1 hc
    refine z_iconst hC dX9_meltsFaster_34 ?_
    exact z_bret hC hr rfl dX9_meltsFaster_35 (Or.inl rfl) hf
  · replace hf := hf.2 hc
    refine z_iconst hC dX9_meltsFaster_30 ?_
    refine z_goto (tgt := 35) hC dX9_meltsFaster_31 (by decide) ?_
    exact z_bret hC hr rfl dX9_meltsFaster_35 (Or.inr rfl) hf

-- ===== X9_totalTo
noncomputable def fX9_totalTo_B38 (K : Int → zSt → Prop) (n : Nat) : zSt → Int → Int → Int → Int → Prop :=
  Nat.rec (motive := fun _ => zSt → Int → Int → Int → Int → Prop) (fun _ _ _ _ _ => False) (fun _ ih σ x0 x1 x2 x3 => zrg x3 ∧ zrg ((σ x0 0) - 1) ∧ (((σ x0 0) - 1 ≤ x3 → K x2 σ) ∧ (¬ (σ x0 0) - 1 ≤ x3 → (0 ≤ x3 ∧ x3 < 8) ∧ zrg (σ (x0 + 3) x3) ∧ zrg x1 ∧ ((x1 ≤ σ (x0 + 3) x3 → K x2 σ) ∧ (¬ x1 ≤ σ (x0 + 3) x3 → fX9_daysOf (fun r11 σ11 => zrg (x1 - (σ11 (x0 + 3) x3)) ∧ zrg r11 ∧ ((r11 ≤ 0 → ih σ11 x0 x1 (x2 + 0) (x3 + 1)) ∧ (¬ r11 ≤ 0 → fX9_meltIn (fun r14 σ14 => zrg r14 ∧ zrg (min (x1 - (σ11 (x0 + 3) x3)) r11) ∧ zrl ((100 * r14) * (min (x1 - (σ11 (x0 + 3) x3)) r11)) ∧ zrl r11 ∧ ¬ r11 = 0 ∧ ∀ y20, y20 = x2 + (((100 * r14) * (min (x1 - (σ11 (x0 + 3) x3)) r11)).tdiv r11) → ih σ14 x0 x1 y20 (x3 + 1)) σ11 x0 x3))) σ x0 x3))))) n
def fX9_totalTo (K : Int → zSt → Prop) (σ : zSt) (x0 : Int) (x1 : Int) : Prop :=
  kX x0 = 9 ∧ zrg (σ x0 0) ∧ ((σ x0 0 = 0 → K (-1) σ) ∧ (¬ σ x0 0 = 0 → zrg x1 ∧ zrg (σ (x0 + 3) 0) ∧ ((x1 < σ (x0 + 3) 0 → K (-1) σ) ∧ (¬ x1 < σ (x0 + 3) 0 → (0 ≤ (σ x0 0) - 1 ∧ (σ x0 0) - 1 < 8) ∧ zrg (σ (x0 + 3) ((σ x0 0) - 1)) ∧ ((x1 ≤ σ (x0 + 3) ((σ x0 0) - 1) → (∃ n, fX9_totalTo_B38 K n σ x0 x1 0 0)) ∧ (¬ x1 ≤ σ (x0 + 3) ((σ x0 0) - 1) → K (-1) σ))))))
theorem lkX9_totalTo_15 : Cond.fieldLink RX9 15 "GlacierCamera$Stake" (TX9 1).2.1 (TX9 1).2.2.1 ∈ wsX9_totalTo := by decide +kernel
theorem lkX9_totalTo_9 : Cond.fieldLink RX9 9 "GlacierCamera$Stake" (TX9 0).2.1 (TX9 0).2.2.1 ∈ wsX9_totalTo := by decide +kernel
theorem lyX9_totalTo_9 : ∀ w ∈ u_ws RX9 TX9 3, w ∈ wsX9_totalTo := by decide +kernel
theorem lmX9_totalTo_36 : ∀ w ∈ ([Cond.methodLink RX9 36 Lib.Math.min.name, Cond.static Lib.Math.min.name, Cond.initialized "java/lang/Math", Cond.code Lib.Math.min.name Lib.Math.min.code 2 (some .int)] : List Cond), w ∈ wsX9_totalTo := by decide +kernel
theorem lcX9_totalTo_42 : Jvm.Cond.constantLong RX9 42 (100) ∈ wsX9_totalTo := by decide +kernel
set_option maxHeartbeats 4000000 in
set_option maxRecDepth 100000 in
theorem wX9_totalTo_B38 {p : Program} {l : Launch} {e : Env} {s : State} {m : MethodId} {args : Array Value} {below : List Frame} {meth : Method} {c : Code} {D : va_G} {dA : Nat → ClassId} {ad : Nat → Nat} {sz : Nat} {aL aG aI : Nat} {K : Int → zSt → Prop} (hC : zC p m c cX9_totalTo 6 s args wsX9_totalTo RX9 meth D vwCl (tyA dA) (zA ad NX sz) NX ad (celX ad dA)) (hE : zE (zXX aL aG aI) (zA ad NX sz) s s.heap) (hr : meth.sig.returnType = (some .int)) (hinj : ∀ i j, i < NX → j < NX → ad i = ad j → i = j) : ∀ (n : Nat) (σ : zSt) (x0 : Int) (x1 : Int) (x2 : Int) (x3 : Int) (qx0 : kX x0 = 9), fX9_totalTo_B38 K n σ x0 x1 x2 x3 → zAt p l e ({ frames := 2, cells := 0, slots := 0, locals := 44 } : Room) s m args below meth c 0 0 (MQ below (va_Qi (zPi K) (zB D vwCl (tyA dA) NX ad (celX ad dA)) (zA ad NX sz)) args s 0 0 (zA ad NX sz)) 6 D vwCl (zA ad NX sz) NX ad (celX ad dA) 38 [(0, vR ad x0), (1, vI x1), (2, vI x2), (3, vI x3)] [] σ := by
  intro n
  induction n with
  | zero => intro σ x0 x1 x2 x3 qx0 hf; exact False.elim hf
  | succ n ih =>
    intro σ x0 x1 x2 x3 qx0 hf
    refine z_iload_n hC dX9_totalTo_38 3 rfl rfl ?_
    refine z_aload_n hC dX9_totalTo_39 0 rfl rfl ?_
    refine z_get hC lyX9_totalTo_9 (oX_9 qx0) 0 (by decide) lkX9_totalTo_9 rfl rfl dX9_totalTo_40 ?_
    refine z_iconst hC dX9_totalTo_43 ?_
    refine z_isub hC dX9_totalTo_44 ?_
    obtain ⟨g6, hf⟩ := hf
    obtain ⟨g7, hf⟩ := hf
    refine z_icmp_ge (tgt := 117) hC dX9_totalTo_45 (by decide) g6 g7 (fun hc => ?_) (fun hc => ?_)
    · replace hf := hf.1 hc
      refine z_iload_n hC dX9_totalTo_117 2 rfl rfl ?_
      exact z_iret hC hr rfl dX9_totalTo_118 hf
    · replace hf := hf.2 hc
      refine z_aload_n hC dX9_totalTo_48 0 rfl rfl ?_
      refine z_get hC lyX9_totalTo_9 (oX_9 qx0) 1 (by decide) lkX9_totalTo_15 rfl rfl dX9_totalTo_49 ?_
      refine z_iload_n hC dX9_totalTo_52 3 rfl rfl ?_
      obtain ⟨g8, hf⟩ := hf
      refine z_iaload hC (aX_17 (kf_9_1 qx0)) g8 dX9_totalTo_53 ?_
      refine z_iload_n hC dX9_totalTo_54 1 rfl rfl ?_
      obtain ⟨g9, hf⟩ := hf
      obtain ⟨g10, hf⟩ := hf
      refine z_icmp_ge (tgt := 117) hC dX9_totalTo_55 (by decide) g9 g10 (fun hc => ?_) (fun hc => ?_)
      · replace hf := hf.1 hc
        refine z_iload_n hC dX9_totalTo_117 2 rfl rfl ?_
        exact z_iret hC hr rfl dX9_totalTo_118 hf
      · replace hf := hf.2 hc
        refine z_aload_n hC dX9_totalTo_58 0 rfl rfl ?_
        refine z_iload_n hC dX9_totalTo_59 3 rfl rfl ?_
        refine z_callVi hC hE (oX_9 qx0) [vI x3] (fun sz2 => mX9_daysOf l hinj sz2 hf) (cwV 1 hC.1.2.2.2.2 gX9_totalTo_X9_daysOf rfl rfl rfl (by decide +kernel) ⟨Nat.le_of_ble_eq_true rfl, Nat.le_of_ble_eq_true rfl⟩) rfl rfl (Nat.le_of_ble_eq_true rfl) ⟨Nat.zero_le _, Nat.zero_le _⟩ dX9_totalTo_60 (fun r11 σ11 hf => ?_)
        refine z_istore hC ([(4, vI r11), (0, vR ad x0), (1, vI x1), (2, vI x2), (3, vI x3)]) dX9_totalTo_63 (by decide) rfl ?_
        refine z_iload_n hC dX9_totalTo_65 2 rfl rfl ?_
        refine z_aload_n hC dX9_totalTo_66 1 rfl rfl ?_
        refine z_get hC lyX9_totalTo_9 (oX_9 qx0) 1 (by decide) lkX9_totalTo_15 rfl rfl dX9_totalTo_67 ?_
        refine z_iload_n hC dX9_totalTo_70 4 rfl rfl ?_
        refine z_iaload hC (aX_17 (kf_9_1 qx0)) g8 dX9_totalTo_71 ?_
        refine z_isub hC dX9_totalTo_72 ?_
        refine z_iload hC dX9_totalTo_73 0 rfl ?_
        obtain ⟨g12, hf⟩ := hf
        obtain ⟨g13, hf⟩ := hf
        refine z_mmin hC g12 g13 lmX9_totalTo_36 (Nat.le_of_ble_eq_true rfl) (Nat.le_of_ble_eq_true rfl) ⟨Nat.zero_le _, Nat.zero_le _⟩ dX9_totalTo_75 ?_
        refine z_istore hC ([(5, vI (min (x1 - (σ11 (x0 + 3) x3)) r11)), (4, vI r11), (0, vR ad x0), (1, vI x1), (2, vI x2), (3, vI x3)]) dX9_totalTo_78 (by decide) rfl ?_
        refine z_iload_n hC dX9_totalTo_80 4 rfl rfl ?_
        refine z_iload hC dX9_totalTo_81 1 rfl ?_
        refine z_if_le (tgt := 108) hC dX9_totalTo_83 (by decide) g13 (fun hc => ?_) (fun hc => ?_)
        · replace hf := hf.1 hc
          refine z_iconst hC dX9_totalTo_108 ?_
          refine z_iadd hC dX9_totalTo_109 ?_
          refine z_istore_n hC ([(2, vI (x2 + 0)), (5, vI (min (x1 - (σ11 (x0 + 3) x3)) r11)), (4, vI r11), (0, vR ad x0), (1, vI x1), (3, vI x3)]) dX9_totalTo_110 rfl (by decide) rfl ?_
          refine z_iinc hC ([(3, vI (x3 + 1)), (2, vI (x2 + 0)), (5, vI (min (x1 - (σ11 (x0 + 3) x3)) r11)), (4, vI r11), (0, vR ad x0), (1, vI x1)]) dX9_totalTo_111 5 rfl (by decide) rfl ?_
          refine z_goto (tgt := 38) hC dX9_totalTo_114 (by decide) ?_
          refine z_sub (lv' := [(0, vR ad x0), (1, vI x1), (2, vI (x2 + 0)), (3, vI (x3 + 1))]) [4, 5, 1, 0] rfl ?_
          exact ih _ _ _ _ _ qx0 hf
        · replace hf := hf.2 hc
          refine z_ldc2 hC (n := 100) lcX9_totalTo_42 (by decide) dX9_totalTo_86 ?_
          refine z_aload_n hC dX9_totalTo_89 2 rfl rfl ?_
          refine z_iload_n hC dX9_totalTo_90 5 rfl rfl ?_
          refine z_callVi hC hE (oX_9 qx0) [vI x3] (fun sz2 => mX9_meltIn l hinj sz2 hf) (cwV 1 hC.1.2.2.2.2 gX9_totalTo_X9_meltIn rfl rfl rfl (by decide +kernel) ⟨Nat.le_of_ble_eq_true rfl, Nat.le_of_ble_eq_true rfl⟩) rfl rfl (Nat.le_of_ble_eq_true rfl) ⟨Nat.zero_le _, Nat.zero_le _⟩ dX9_totalTo_91 (fun r14 σ14 hf => ?_)
          obtain ⟨g15, hf⟩ := hf
          refine z_i2l hC dX9_totalTo_94 g15 ?_
          refine z_lmul hC dX9_totalTo_95 ?_
          refine z_iload hC dX9_totalTo_96 0 rfl ?_
          obtain ⟨g16, hf⟩ := hf
          refine z_i2l hC dX9_totalTo_98 g16 ?_
          refine z_lmul hC dX9_totalTo_99 ?_
          refine z_iload hC dX9_totalTo_100 1 rfl ?_
          refine z_i2l hC dX9_totalTo_102 g13 ?_
          obtain ⟨g17, hf⟩ := hf
          obtain ⟨g18, hf⟩ := hf
          obtain ⟨g19, hf⟩ := hf
          refine z_ldiv hC dX9_totalTo_103 g17 g18 g19 ?_
          refine z_l2i hC dX9_totalTo_104 ?_
          refine z_goto (tgt := 109) hC dX9_totalTo_105 (by decide) ?_
          refine z_iadd hC dX9_totalTo_109 ?_
          obtain ⟨y20, ey20⟩ : ∃ z : Int, z = x2 + (((100 * r14) * (min (x1 - (σ11 (x0 + 3) x3)) r11)).tdiv r11) := ⟨_, rfl⟩
          rw [← ey20]
          replace hf := hf y20 ey20
          refine z_istore_n hC ([(2, vI y20), (5, vI (min (x1 - (σ11 (x0 + 3) x3)) r11)), (4, vI r11), (0, vR ad x0), (1, vI x1), (3, vI x3)]) dX9_totalTo_110 rfl (by decide) rfl ?_
          refine z_iinc hC ([(3, vI (x3 + 1)), (2, vI y20), (5, vI (min (x1 - (σ11 (x0 + 3) x3)) r11)), (4, vI r11), (0, vR ad x0), (1, vI x1)]) dX9_totalTo_111 5 rfl (by decide) rfl ?_
          refine z_goto (tgt := 38) hC dX9_totalTo_114 (by decide) ?_
          refine z_sub (lv' := [(0, vR ad x0), (1, vI x1), (2, vI y20), (3, vI (x3 + 1))]) [4, 5, 1, 0] rfl ?_
          exact ih _ _ _ _ _ qx0 hf
set_option maxHeartbeats 4000000 in
set_option maxRecDepth 100000 in
theorem mX9_totalTo {D : va_G} {dA : Nat → ClassId} {ad : Nat → Nat} {aL aG aI : Nat} (l : Launch) (hinj : ∀ i j, i < NX → j < NX → ad i = ad j → i = j) (sz : Nat) {K : Int → zSt → Prop} {σ : zSt} {x0 : Int} {x1 : Int} (hf : fX9_totalTo K σ x0 x1) : Met l yX9_totalTo wsX9_totalTo ({ frames := 2, cells := 0, slots := 0, locals := 44 } : Room) (va_Pc [vR ad x0, vI x1] (zPre D vwCl (tyA dA) (zXX aL aG aI) NX ad (celX ad dA) sz σ)) (va_Qi (zPi K) (zB D vwCl (tyA dA) NX ad (celX ad dA)) (zA ad NX sz)) 0 0 (zA ad NX sz) := by
  refine z_enter (cc := cX9_totalTo) (maxL := 6) (ret := (some .int)) (vs := [vR ad x0, vI x1]) (by decide) rfl hinj (Nat.le_of_ble_eq_true rfl) ?_
  intro p e s m args below meth c hC hE hsz hr hnm
  obtain ⟨qx0, hf⟩ := hf
  show zAt p l e ({ frames := 2, cells := 0, slots := 0, locals := 44 } : Room) s m args below meth c 0 0 (MQ below (va_Qi (zPi K) (zB D vwCl (tyA dA) NX ad (celX ad dA)) (zA ad NX sz)) args s 0 0 (zA ad NX sz)) 6 D vwCl (zA ad NX sz) NX ad (celX ad dA) 0 [(0, vR ad x0), (1, vI x1)] [] σ
  refine z_aload_n hC dX9_totalTo_0 0 rfl rfl ?_
  refine z_get hC lyX9_totalTo_9 (oX_9 qx0) 0 (by decide) lkX9_totalTo_9 rfl rfl dX9_totalTo_1 ?_
  obtain ⟨g1, hf⟩ := hf
  refine z_if_eq (tgt := 32) hC dX9_totalTo_4 (by decide) g1 (fun hc => ?_) (fun hc => ?_)
  · replace hf := hf.1 hc
    refine z_iconst hC dX9_totalTo_32 ?_
    exact z_iret hC hr rfl dX9_totalTo_33 hf
  · replace hf := hf.2 hc
    refine z_iload_n hC dX9_totalTo_7 1 rfl rfl ?_
    refine z_aload_n hC dX9_totalTo_8 0 rfl rfl ?_
    refine z_get hC lyX9_totalTo_9 (oX_9 qx0) 1 (by decide) lkX9_totalTo_15 rfl rfl dX9_totalTo_9 ?_
    refine z_iconst hC dX9_totalTo_12 ?_
    refine z_iaload hC (aX_17 (kf_9_1 qx0)) ⟨by decide, by decide⟩ dX9_totalTo_13 ?_
    obtain ⟨g2, hf⟩ := hf
    obtain ⟨g3, hf⟩ := hf
    refine z_icmp_lt (tgt := 32) hC dX9_totalTo_14 (by decide) g2 g3 (fun hc => ?_) (fun hc => ?_)
    · replace hf := hf.1 hc
      refine z_iconst hC dX9_totalTo_32 ?_
      exact z_iret hC hr rfl dX9_totalTo_33 hf
    · replace hf := hf.2 hc
      refine z_iload_n hC dX9_totalTo_17 1 rfl rfl ?_
      refine z_aload_n hC dX9_totalTo_18 0 rfl rfl ?_
      refine z_get hC lyX9_totalTo_9 (oX_9 qx0) 1 (by decide) lkX9_totalTo_15 rfl rfl dX9_totalTo_19 ?_
      refine z_aload_n hC dX9_totalTo_22 0 rfl rfl ?_
      refine z_get hC lyX9_totalTo_9 (oX_9 qx0) 0 (by decide) lkX9_totalTo_9 rfl rfl dX9_totalTo_23 ?_
      refine z_iconst hC dX9_totalTo_26 ?_
      refine z_isub hC dX9_totalTo_27 ?_
      obtain ⟨g4, hf⟩ := hf
      refine z_iaload hC (aX_17 (kf_9_1 qx0)) g4 dX9_totalTo_28 ?_
      obtain ⟨g5, hf⟩ := hf
      refine z_icmp_le (tgt := 34) hC dX9_totalTo_29 (by decide) g2 g5 (fun hc => ?_) (fun hc => ?_)
      · replace hf := hf.1 hc
        refine z_iconst hC dX9_totalTo_34 ?_
        refine z_istore_n hC ([(2, vI 0), (0, vR ad x0), (1, vI x1)]) dX9_totalTo_35 rfl (by decide) rfl ?_
        refine z_iconst hC dX9_totalTo_36 ?_
        refine z_istore_n hC ([(3, vI 0), (2, vI 0), (0, vR ad x0), (1, vI x1)]) dX9_totalTo_37 rfl (by decide) rfl ?_
        refine z_sub (lv' := [(0, vR ad x0), (1, vI x1), (2, vI 0), (3, vI 0)]) [2, 3, 1, 0] rfl ?_
        obtain ⟨n, hf⟩ := hf
        exact wX9_totalTo_B38 hC hE hr hinj n _ _ _ _ _ qx0 hf
      · replace hf := hf.2 hc
        refine z_iconst hC dX9_totalTo_32 ?_
        exact z_iret hC hr rfl dX9_totalTo_33 hf

-- ===== X9_meltBetween
def fX9_meltBetween (K : Int → zSt → Prop) (σ : zSt) (x0 : Int) (x1 : Int) (x2 : Int) : Prop :=
  kX x0 = 9 ∧ zrg x1 ∧ zrg x2 ∧ ((x1 ≤ x2 → fX9_totalTo (fun r3 σ3 => fX9_totalTo (fun r4 σ4 => zrg r3 ∧ ((r3 = (-1) → K (-1) σ4) ∧ (¬ r3 = (-1) → zrg r4 ∧ ((r4 = (-1) → K (-1) σ4) ∧ (¬ r4 = (-1) → K (r4 - r3) σ4))))) σ3 x0 x2) σ x0 x1) ∧ (¬ x1 ≤ x2 → K (-2) σ))
set_option maxHeartbeats 4000000 in
set_option maxRecDepth 100000 in
theorem mX9_meltBetween {D : va_G} {dA : Nat → ClassId} {ad : Nat → Nat} {aL aG aI : Nat} (l : Launch) (hinj : ∀ i j, i < NX → j < NX → ad i = ad j → i = j) (sz : Nat) {K : Int → zSt → Prop} {σ : zSt} {x0 : Int} {x1 : Int} {x2 : Int} (hf : fX9_meltBetween K σ x0 x1 x2) : Met l yX9_meltBetween wsX9_meltBetween ({ frames := 3, cells := 0, slots := 0, locals := 69 } : Room) (va_Pc [vR ad x0, vI x1, vI x2] (zPre D vwCl (tyA dA) (zXX aL aG aI) NX ad (celX ad dA) sz σ)) (va_Qi (zPi K) (zB D vwCl (tyA dA) NX ad (celX ad dA)) (zA ad NX sz)) 0 0 (zA ad NX sz) := by
  refine z_enter (cc := cX9_meltBetween) (maxL := 5) (ret := (some .int)) (vs := [vR ad x0, vI x1, vI x2]) (by decide) rfl hinj (Nat.le_of_ble_eq_true rfl) ?_
  intro p e s m args below meth c hC hE hsz hr hnm
  obtain ⟨qx0, hf⟩ := hf
  show zAt p l e ({ frames := 3, cells := 0, slots := 0, locals := 69 } : Room) s m args below meth c 0 0 (MQ below (va_Qi (zPi K) (zB D vwCl (tyA dA) NX ad (celX ad dA)) (zA ad NX sz)) args s 0 0 (zA ad NX sz)) 5 D vwCl (zA ad NX sz) NX ad (celX ad dA) 0 [(0, vR ad x0), (1, vI x1), (2, vI x2)] [] σ
  refine z_iload_n hC dX9_meltBetween_0 1 rfl rfl ?_
  refine z_iload_n hC dX9_meltBetween_1 2 rfl rfl ?_
  obtain ⟨g1, hf⟩ := hf
  obtain ⟨g2, hf⟩ := hf
  refine z_icmp_le (tgt := 8) hC dX9_meltBetween_2 (by decide) g1 g2 (fun hc => ?_) (fun hc => ?_)
  · replace hf := hf.1 hc
    refine z_aload_n hC dX9_meltBetween_8 0 rfl rfl ?_
    refine z_iload_n hC dX9_meltBetween_9 1 rfl rfl ?_
    refine z_callVi hC hE (oX_9 qx0) [vI x1] (fun sz2 => mX9_totalTo l hinj sz2 hf) (cwV 1 hC.1.2.2.2.2 gX9_meltBetween_X9_totalTo rfl rfl rfl (by decide +kernel) ⟨Nat.le_of_ble_eq_true rfl, Nat.le_of_ble_eq_true rfl⟩) rfl rfl (Nat.le_of_ble_eq_true rfl) ⟨Nat.zero_le _, Nat.zero_le _⟩ dX9_meltBetween_10 (fun r3 σ3 hf => ?_)
    refine z_istore_n hC ([(3, vI r3), (0, vR ad x0), (1, vI x1), (2, vI x2)]) dX9_meltBetween_13 rfl (by decide) rfl ?_
    refine z_aload_n hC dX9_meltBetween_14 1 rfl rfl ?_
    refine z_iload_n hC dX9_meltBetween_15 3 rfl rfl ?_
    refine z_callVi hC hE (oX_9 qx0) [vI x2] (fun sz2 => mX9_totalTo l hinj sz2 hf) (cwV 1 hC.1.2.2.2.2 gX9_meltBetween_X9_totalTo rfl rfl rfl (by decide +kernel) ⟨Nat.le_of_ble_eq_true rfl, Nat.le_of_ble_eq_true rfl⟩) rfl rfl (Nat.le_of_ble_eq_true rfl) ⟨Nat.zero_le _, Nat.zero_le _⟩ dX9_meltBetween_16 (fun r4 σ4 hf => ?_)
    refine z_istore hC ([(4, vI r4), (3, vI r3), (0, vR ad x0), (1, vI x1), (2, vI x2)]) dX9_meltBetween_19 (by decide) rfl ?_
    refine z_iload_n hC dX9_meltBetween_21 1 rfl rfl ?_
    refine z_iconst hC dX9_meltBetween_22 ?_
    obtain ⟨g5, hf⟩ := hf
    refine z_icmp_eq (tgt := 32) hC dX9_meltBetween_23 (by decide) g5 (zlit rfl rfl) (fun hc => ?_) (fun hc => ?_)
    · replace hf := hf.1 hc
      refine z_iconst hC dX9_meltBetween_32 ?_
      refine z_goto (tgt := 40) hC dX9_meltBetween_33 (by decide) ?_
      exact z_iret hC hr rfl dX9_meltBetween_40 hf
    · replace hf := hf.2 hc
      refine z_iload hC dX9_meltBetween_26 0 rfl ?_
      refine z_iconst hC dX9_meltBetween_28 ?_
      obtain ⟨g6, hf⟩ := hf
      refine z_icmp_ne (tgt := 36) hC dX9_meltBetween_29 (by decide) g6 (zlit rfl rfl) (fun hc => ?_) (fun hc => ?_)
      · replace hf := hf.2 hc
        refine z_iload hC dX9_meltBetween_36 0 rfl ?_
        refine z_iload_n hC dX9_meltBetween_38 1 rfl rfl ?_
        refine z_isub hC dX9_meltBetween_39 ?_
        exact z_iret hC hr rfl dX9_meltBetween_40 hf
      · replace hf := hf.1 hc
        refine z_iconst hC dX9_meltBetween_32 ?_
        refine z_goto (tgt := 40) hC dX9_meltBetween_33 (by decide) ?_
        exact z_iret hC hr rfl dX9_meltBetween_40 hf
  · replace hf := hf.2 hc
    refine z_bipush hC dX9_meltBetween_5 (by decide) ?_
    exact z_iret hC hr rfl dX9_meltBetween_7 hf
