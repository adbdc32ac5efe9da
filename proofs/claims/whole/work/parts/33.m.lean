
-- ===== X12_contrastOf
def fX12_contrastOf_B56 (K : Int → zSt → Prop) (k8 : zSt → Int → Int → Int → Int → Prop) (k22 : zSt → Int → Int → Int → Int → Int → Prop) (σ : zSt) (x1 : Int) (x3 : Int) (x4 : Int) (x5 : Int) (x6 : Int) (s0 : Int) : Prop :=
  zrg x6 ∧ zrg x3 ∧ ((x6 ≤ x3 → k22 σ x1 s0 x3 x4 (x5 + 1)) ∧ (¬ x6 ≤ x3 → k22 σ x1 s0 x6 x4 (x5 + 1)))
noncomputable def fX12_contrastOf_B22 (K : Int → zSt → Prop) (k8 : zSt → Int → Int → Int → Int → Prop) (n : Nat) : zSt → Int → Int → Int → Int → Int → Prop :=
  Nat.rec (motive := fun _ => zSt → Int → Int → Int → Int → Int → Prop) (fun _ _ _ _ _ _ => False) (fun _ ih σ x1 x2 x3 x4 x5 => zrg x5 ∧ zrg (σ 1 0) ∧ ((σ 1 0 ≤ x5 → k8 σ x1 x2 x3 (x4 + 1)) ∧ (¬ σ 1 0 ≤ x5 → fX12_brightness (fun r5 σ5 => zrg r5 ∧ zrg x2 ∧ ((x2 ≤ r5 → fX12_contrastOf_B56 K k8 ih σ5 x1 x3 x4 x5 r5 x2) ∧ (¬ x2 ≤ r5 → fX12_contrastOf_B56 K k8 ih σ5 x1 x3 x4 x5 r5 r5))) σ x1 x5 x4))) n
theorem uX12_contrastOf_B22 (K : Int → zSt → Prop) (k8 : zSt → Int → Int → Int → Int → Prop) (n0 : Nat) (σ : zSt) (x1 : Int) (x2 : Int) (x3 : Int) (x4 : Int) (x5 : Int) : fX12_contrastOf_B22 K k8 (n0 + 1) σ x1 x2 x3 x4 x5 = (zrg x5 ∧ zrg (σ 1 0) ∧ ((σ 1 0 ≤ x5 → k8 σ x1 x2 x3 (x4 + 1)) ∧ (¬ σ 1 0 ≤ x5 → fX12_brightness (fun r5 σ5 => zrg r5 ∧ zrg x2 ∧ ((x2 ≤ r5 → fX12_contrastOf_B56 K k8 (fX12_contrastOf_B22 K k8 n0) σ5 x1 x3 x4 x5 r5 x2) ∧ (¬ x2 ≤ r5 → fX12_contrastOf_B56 K k8 (fX12_contrastOf_B22 K k8 n0) σ5 x1 x3 x4 x5 r5 r5))) σ x1 x5 x4))) := rfl
noncomputable def fX12_contrastOf_B8 (K : Int → zSt → Prop) (n : Nat) : zSt → Int → Int → Int → Int → Prop :=
  Nat.rec (motive := fun _ => zSt → Int → Int → Int → Int → Prop) (fun _ _ _ _ _ => False) (fun _ ih σ x1 x2 x3 x4 => zrg x4 ∧ zrg (σ 1 1) ∧ ((σ 1 1 ≤ x4 → K (x3 - x2) σ) ∧ (¬ σ 1 1 ≤ x4 → (∃ n, fX12_contrastOf_B22 K ih n σ x1 x2 x3 x4 0)))) n
theorem uX12_contrastOf_B8 (K : Int → zSt → Prop) (n0 : Nat) (σ : zSt) (x1 : Int) (x2 : Int) (x3 : Int) (x4 : Int) : fX12_contrastOf_B8 K (n0 + 1) σ x1 x2 x3 x4 = (zrg x4 ∧ zrg (σ 1 1) ∧ ((σ 1 1 ≤ x4 → K (x3 - x2) σ) ∧ (¬ σ 1 1 ≤ x4 → (∃ n, fX12_contrastOf_B22 K (fX12_contrastOf_B8 K n0) n σ x1 x2 x3 x4 0)))) := rfl
def fX12_contrastOf (K : Int → zSt → Prop) (σ : zSt) (x1 : Int) : Prop :=
  (∃ n, fX12_contrastOf_B8 K n σ x1 9 0 0)
set_option maxHeartbeats 4000000 in
set_option maxRecDepth 100000 in
theorem wX12_contrastOf_B56 {p : Program} {l : Launch} {e : Env} {s : State} {m : MethodId} {args : Array Value} {below : List Frame} {meth : Method} {c : Code} {D : va_G} {dA : Nat → ClassId} {ad : Nat → Nat} {sz : Nat}  {K : Int → zSt → Prop} {k8 : zSt → Int → Int → Int → Int → Prop} {k22 : zSt → Int → Int → Int → Int → Int → Prop} (hC : zC p m c cX12_contrastOf 7 s args (Cond.code yX12_contrastOf cX12_contrastOf 7 (some .int) :: UW) RX12 meth D vwCl (tyA dA) (zA ad NM sz) NM ad (celM ad dA)) (hE : zE zX0 (zA ad NM sz) s s.heap) (hr : meth.sig.returnType = (some .int)) (hinj : ∀ i j, i < NM → j < NM → ad i = ad j → i = j) (hk8 : ∀ (σ : zSt) (x1 : Int) (x2 : Int) (x3 : Int) (x4 : Int), k8 σ x1 x2 x3 x4 → zAt p l e ({ frames := 1, cells := 0, slots := 0, locals := 23 } : Room) s m args below meth c 0 0 (MQ below (va_Qi (zPi K) (zB D vwCl (tyA dA) NM ad (celM ad dA)) (zA ad NM sz)) args s 0 0 (zA ad NM sz)) 7 D vwCl (zA ad NM sz) NM ad (celM ad dA) 8 [(0, vR ad 0), (1, vI x1), (2, vI x2), (3, vI x3), (4, vI x4)] [] σ) (hk22 : ∀ (σ : zSt) (x1 : Int) (x2 : Int) (x3 : Int) (x4 : Int) (x5 : Int), k22 σ x1 x2 x3 x4 x5 → zAt p l e ({ frames := 1, cells := 0, slots := 0, locals := 23 } : Room) s m args below meth c 0 0 (MQ below (va_Qi (zPi K) (zB D vwCl (tyA dA) NM ad (celM ad dA)) (zA ad NM sz)) args s 0 0 (zA ad NM sz)) 7 D vwCl (zA ad NM sz) NM ad (celM ad dA) 22 [(0, vR ad 0), (1, vI x1), (2, vI x2), (3, vI x3), (4, vI x4), (5, vI x5)] [] σ) {σ : zSt} {x1 : Int} {x3 : Int} {x4 : Int} {x5 : Int} {x6 : Int} {s0 : Int} (hf : fX12_contrastOf_B56 K k8 k22 σ x1 x3 x4 x5 x6 s0) : zAt p l e ({ frames := 1, cells := 0, slots := 0, locals := 23 } : Room) s m args below meth c 0 0 (MQ below (va_Qi (zPi K) (zB D vwCl (tyA dA) NM ad (celM ad dA)) (zA ad NM sz)) args s 0 0 (zA ad NM sz)) 7 D vwCl (zA ad NM sz) NM ad (celM ad dA) 56 [(0, vR ad 0), (1, vI x1), (3, vI x3), (4, vI x4), (5, vI x5), (6, vI x6)] [vI s0] σ := by
  refine z_istore_n hC ([(2, vI s0), (0, vR ad 0), (1, vI x1), (3, vI x3), (4, vI x4), (5, vI x5), (6, vI x6)]) dX12_contrastOf_56 rfl (by decide) rfl ?_
  refine z_iload hC dX12_contrastOf_57 6 rfl ?_
  refine z_iload_n hC dX12_contrastOf_59 3 rfl rfl ?_
  obtain ⟨g8, hf⟩ := hf
  obtain ⟨g9, hf⟩ := hf
  refine z_icmp_le (tgt := 68) hC dX12_contrastOf_60 (by decide) g8 g9 (fun hc => ?_) (fun hc => ?_)
  · replace hf := hf.1 hc
    refine z_iload_n hC dX12_contrastOf_68 3 rfl rfl ?_
    refine z_istore_n hC ([(3, vI x3), (2, vI s0), (0, vR ad 0), (1, vI x1), (4, vI x4), (5, vI x5), (6, vI x6)]) dX12_contrastOf_69 rfl (by decide) rfl ?_
    refine z_iinc hC ([(5, vI (x5 + 1)), (3, vI x3), (2, vI s0), (0, vR ad 0), (1, vI x1), (4, vI x4), (6, vI x6)]) dX12_contrastOf_70 5 rfl (by decide) rfl ?_
    refine z_goto (tgt := 22) hC dX12_contrastOf_73 (by decide) ?_
    refine z_sub (lv' := [(0, vR ad 0), (1, vI x1), (2, vI s0), (3, vI x3), (4, vI x4), (5, vI (x5 + 1))]) [3, 4, 2, 1, 5, 0] rfl ?_
    exact hk22 _ _ _ _ _ _ hf
  · replace hf := hf.2 hc
    refine z_iload hC dX12_contrastOf_63 6 rfl ?_
    refine z_goto (tgt := 69) hC dX12_contrastOf_65 (by decide) ?_
    refine z_istore_n hC ([(3, vI x6), (2, vI s0), (0, vR ad 0), (1, vI x1), (4, vI x4), (5, vI x5), (6, vI x6)]) dX12_contrastOf_69 rfl (by decide) rfl ?_
    refine z_iinc hC ([(5, vI (x5 + 1)), (3, vI x6), (2, vI s0), (0, vR ad 0), (1, vI x1), (4, vI x4), (6, vI x6)]) dX12_contrastOf_70 5 rfl (by decide) rfl ?_
    refine z_goto (tgt := 22) hC dX12_contrastOf_73 (by decide) ?_
    refine z_sub (lv' := [(0, vR ad 0), (1, vI x1), (2, vI s0), (3, vI x6), (4, vI x4), (5, vI (x5 + 1))]) [3, 4, 2, 1, 5, 0] rfl ?_
    exact hk22 _ _ _ _ _ _ hf
set_option maxHeartbeats 4000000 in
set_option maxRecDepth 100000 in
theorem wX12_contrastOf_B22 {p : Program} {l : Launch} {e : Env} {s : State} {m : MethodId} {args : Array Value} {below : List Frame} {meth : Method} {c : Code} {D : va_G} {dA : Nat → ClassId} {ad : Nat → Nat} {sz : Nat}  {K : Int → zSt → Prop} {k8 : zSt → Int → Int → Int → Int → Prop} (hC : zC p m c cX12_contrastOf 7 s args (Cond.code yX12_contrastOf cX12_contrastOf 7 (some .int) :: UW) RX12 meth D vwCl (tyA dA) (zA ad NM sz) NM ad (celM ad dA)) (hE : zE zX0 (zA ad NM sz) s s.heap) (hr : meth.sig.returnType = (some .int)) (hinj : ∀ i j, i < NM → j < NM → ad i = ad j → i = j) (hk8 : ∀ (σ : zSt) (x1 : Int) (x2 : Int) (x3 : Int) (x4 : Int), k8 σ x1 x2 x3 x4 → zAt p l e ({ frames := 1, cells := 0, slots := 0, locals := 23 } : Room) s m args below meth c 0 0 (MQ below (va_Qi (zPi K) (zB D vwCl (tyA dA) NM ad (celM ad dA)) (zA ad NM sz)) args s 0 0 (zA ad NM sz)) 7 D vwCl (zA ad NM sz) NM ad (celM ad dA) 8 [(0, vR ad 0), (1, vI x1), (2, vI x2), (3, vI x3), (4, vI x4)] [] σ) : ∀ (n : Nat) (σ : zSt) (x1 : Int) (x2 : Int) (x3 : Int) (x4 : Int) (x5 : Int), fX12_contrastOf_B22 K k8 n σ x1 x2 x3 x4 x5 → zAt p l e ({ frames := 1, cells := 0, slots := 0, locals := 23 } : Room) s m args below meth c 0 0 (MQ below (va_Qi (zPi K) (zB D vwCl (tyA dA) NM ad (celM ad dA)) (zA ad NM sz)) args s 0 0 (zA ad NM sz)) 7 D vwCl (zA ad NM sz) NM ad (celM ad dA) 22 [(0, vR ad 0), (1, vI x1), (2, vI x2), (3, vI x3), (4, vI x4), (5, vI x5)] [] σ := by
  intro n
  induction n with
  | zero => intro σ x1 x2 x3 x4 x5  hf; exact False.elim hf
  | succ n ih =>
    intro σ x1 x2 x3 x4 x5  hf
    rw [uX12_contrastOf_B22] at hf
    refine z_iload hC dX12_contrastOf_22 5 rfl ?_
    refine z_aload_n hC dX12_contrastOf_24 0 rfl rfl ?_
    refine z_get hC (fun w h => uT _ w (uL12 w h)) (oM_12 (show kM 0 = 12 by decide)) 0 (by decide) (uT _ _ u1545) rfl rfl dX12_contrastOf_25 ?_
    refine z_iconst hC dX12_contrastOf_28 ?_
    refine z_iaload hC (aM_30 (show kM 1 = 30 by decide)) ⟨by decide, by decide⟩ dX12_contrastOf_29 ?_
    obtain ⟨g3, hf⟩ := hf
    obtain ⟨g4, hf⟩ := hf
    refine z_icmp_ge (tgt := 76) hC dX12_contrastOf_30 (by decide) g3 g4 (fun hc => ?_) (fun hc => ?_)
    · replace hf := hf.1 hc
      refine z_iinc hC ([(4, vI (x4 + 1)), (0, vR ad 0), (1, vI x1), (2, vI x2), (3, vI x3), (5, vI x5)]) dX12_contrastOf_76 4 rfl (by decide) rfl ?_
      refine z_goto (tgt := 8) hC dX12_contrastOf_79 (by decide) ?_
      refine z_sub (lv' := [(0, vR ad 0), (1, vI x1), (2, vI x2), (3, vI x3), (4, vI (x4 + 1))]) [1, 2, 3, 4, 0] rfl ?_
      exact hk8 _ _ _ _ _ hf
    · replace hf := hf.2 hc
      refine z_aload_n hC dX12_contrastOf_33 0 rfl rfl ?_
      refine z_iload_n hC dX12_contrastOf_34 1 rfl rfl ?_
      refine z_iload hC dX12_contrastOf_35 5 rfl ?_
      refine z_iload hC dX12_contrastOf_37 4 rfl ?_
      refine z_callVi hC hE (oM_12 (show kM 0 = 12 by decide)) [vI x1, vI x5, vI x4] (fun sz2 => mX12_brightness l hinj sz2 hf) (cwV 3 hC.1.2.2.2.2 (uV (uT _) u1849 u1851 u61 u118 u1852) rfl rfl rfl (by decide +kernel) ⟨Nat.le_of_ble_eq_true rfl, Nat.le_of_ble_eq_true rfl⟩) rfl rfl (Nat.le_of_ble_eq_true rfl) ⟨Nat.le_of_ble_eq_true rfl, Nat.le_of_ble_eq_true rfl⟩ dX12_contrastOf_39 (fun r5 σ5 hf => ?_)
      refine z_istore hC ([(6, vI r5), (0, vR ad 0), (1, vI x1), (2, vI x2), (3, vI x3), (4, vI x4), (5, vI x5)]) dX12_contrastOf_42 (by decide) rfl ?_
      refine z_iload hC dX12_contrastOf_44 0 rfl ?_
      refine z_iload_n hC dX12_contrastOf_46 3 rfl rfl ?_
      obtain ⟨g6, hf⟩ := hf
      obtain ⟨g7, hf⟩ := hf
      refine z_icmp_ge (tgt := 55) hC dX12_contrastOf_47 (by decide) g6 g7 (fun hc => ?_) (fun hc => ?_)
      · replace hf := hf.1 hc
        refine z_iload_n hC dX12_contrastOf_55 3 rfl rfl ?_
        refine z_sub (lv' := [(0, vR ad 0), (1, vI x1), (3, vI x3), (4, vI x4), (5, vI x5), (6, vI r5)]) [1, 2, 4, 5, 6, 0] rfl ?_
        exact wX12_contrastOf_B56 hC hE hr hinj hk8 ih  hf
      · replace hf := hf.2 hc
        refine z_iload hC dX12_contrastOf_50 0 rfl ?_
        refine z_goto (tgt := 56) hC dX12_contrastOf_52 (by decide) ?_
        refine z_sub (lv' := [(0, vR ad 0), (1, vI x1), (3, vI x3), (4, vI x4), (5, vI x5), (6, vI r5)]) [1, 2, 4, 5, 6, 0] rfl ?_
        exact wX12_contrastOf_B56 hC hE hr hinj hk8 ih  hf
set_option maxHeartbeats 4000000 in
set_option maxRecDepth 100000 in
theorem wX12_contrastOf_B8 {p : Program} {l : Launch} {e : Env} {s : State} {m : MethodId} {args : Array Value} {below : List Frame} {meth : Method} {c : Code} {D : va_G} {dA : Nat → ClassId} {ad : Nat → Nat} {sz : Nat}  {K : Int → zSt → Prop} (hC : zC p m c cX12_contrastOf 7 s args (Cond.code yX12_contrastOf cX12_contrastOf 7 (some .int) :: UW) RX12 meth D vwCl (tyA dA) (zA ad NM sz) NM ad (celM ad dA)) (hE : zE zX0 (zA ad NM sz) s s.heap) (hr : meth.sig.returnType = (some .int)) (hinj : ∀ i j, i < NM → j < NM → ad i = ad j → i = j) : ∀ (n : Nat) (σ : zSt) (x1 : Int) (x2 : Int) (x3 : Int) (x4 : Int), fX12_contrastOf_B8 K n σ x1 x2 x3 x4 → zAt p l e ({ frames := 1, cells := 0, slots := 0, locals := 23 } : Room) s m args below meth c 0 0 (MQ below (va_Qi (zPi K) (zB D vwCl (tyA dA) NM ad (celM ad dA)) (zA ad NM sz)) args s 0 0 (zA ad NM sz)) 7 D vwCl (zA ad NM sz) NM ad (celM ad dA) 8 [(0, vR ad 0), (1, vI x1), (2, vI x2), (3, vI x3), (4, vI x4)] [] σ := by
  intro n
  induction n with
  | zero => intro σ x1 x2 x3 x4  hf; exact False.elim hf
  | succ n ih =>
    intro σ x1 x2 x3 x4  hf
    rw [uX12_contrastOf_B8] at hf
    refine z_iload hC dX12_contrastOf_8 4 rfl ?_
    refine z_aload_n hC dX12_contrastOf_10 0 rfl rfl ?_
    refine z_get hC (fun w h => uT _ w (uL12 w h)) (oM_12 (show kM 0 = 12 by decide)) 0 (by decide) (uT _ _ u1545) rfl rfl dX12_contrastOf_11 ?_
    refine z_iconst hC dX12_contrastOf_14 ?_
    refine z_iaload hC (aM_30 (show kM 1 = 30 by decide)) ⟨by decide, by decide⟩ dX12_contrastOf_15 ?_
    obtain ⟨g1, hf⟩ := hf
    obtain ⟨g2, hf⟩ := hf
    refine z_icmp_ge (tgt := 82) hC dX12_contrastOf_16 (by decide) g1 g2 (fun hc => ?_) (fun hc => ?_)
    · replace hf := hf.1 hc
      refine z_iload_n hC dX12_contrastOf_82 3 rfl rfl ?_
      refine z_iload_n hC dX12_contrastOf_83 2 rfl rfl ?_
      refine z_isub hC dX12_contrastOf_84 ?_
      exact z_iret hC hr rfl dX12_contrastOf_85 hf
    · replace hf := hf.2 hc
      refine z_iconst hC dX12_contrastOf_19 ?_
      refine z_istore hC ([(5, vI 0), (0, vR ad 0), (1, vI x1), (2, vI x2), (3, vI x3), (4, vI x4)]) dX12_contrastOf_20 (by decide) rfl ?_
      refine z_sub (lv' := [(0, vR ad 0), (1, vI x1), (2, vI x2), (3, vI x3), (4, vI x4), (5, vI 0)]) [1, 2, 3, 4, 5, 0] rfl ?_
      obtain ⟨n, hf⟩ := hf
      exact wX12_contrastOf_B22 hC hE hr hinj ih n _ _ _ _ _ _ hf
set_option maxHeartbeats 4000000 in
set_option maxRecDepth 100000 in
theorem mX12_contrastOf {D : va_G} {dA : Nat → ClassId} {ad : Nat → Nat}  (l : Launch) (hinj : ∀ i j, i < NM → j < NM → ad i = ad j → i = j) (sz : Nat) {K : Int → zSt → Prop} {σ : zSt} {x1 : Int} (hf : fX12_contrastOf K σ x1) : Met l yX12_contrastOf (Cond.code yX12_contrastOf cX12_contrastOf 7 (some .int) :: UW) ({ frames := 1, cells := 0, slots := 0, locals := 23 } : Room) (va_Pc [vR ad 0, vI x1] (zPre D vwCl (tyA dA) zX0 NM ad (celM ad dA) sz σ)) (va_Qi (zPi K) (zB D vwCl (tyA dA) NM ad (celM ad dA)) (zA ad NM sz)) 0 0 (zA ad NM sz) := by
  refine z_enter (cc := cX12_contrastOf) (maxL := 7) (ret := (some .int)) (vs := [vR ad 0, vI x1]) (plainFor_of_name (by decide)) rfl hinj (Nat.le_of_ble_eq_true rfl) ?_
  intro p e s m args below meth c hC hE hsz hr hnm
  show zAt p l e ({ frames := 1, cells := 0, slots := 0, locals := 23 } : Room) s m args below meth c 0 0 (MQ below (va_Qi (zPi K) (zB D vwCl (tyA dA) NM ad (celM ad dA)) (zA ad NM sz)) args s 0 0 (zA ad NM sz)) 7 D vwCl (zA ad NM sz) NM ad (celM ad dA) 0 [(0, vR ad 0), (1, vI x1)] [] σ
  refine z_bipush hC dX12_contrastOf_0 (by decide) ?_
  refine z_istore_n hC ([(2, vI 9), (0, vR ad 0), (1, vI x1)]) dX12_contrastOf_2 rfl (by decide) rfl ?_
  refine z_iconst hC dX12_contrastOf_3 ?_
  refine z_istore_n hC ([(3, vI 0), (2, vI 9), (0, vR ad 0), (1, vI x1)]) dX12_contrastOf_4 rfl (by decide) rfl ?_
  refine z_iconst hC dX12_contrastOf_5 ?_
  refine z_istore hC ([(4, vI 0), (3, vI 0), (2, vI 9), (0, vR ad 0), (1, vI x1)]) dX12_contrastOf_6 (by decide) rfl ?_
  refine z_sub (lv' := [(0, vR ad 0), (1, vI x1), (2, vI 9), (3, vI 0), (4, vI 0)]) [3, 4, 2, 1, 0] rfl ?_
  obtain ⟨n, hf⟩ := hf
  exact wX12_contrastOf_B8 hC hE hr hinj n _ _ _ _ _ hf

-- ===== X12_usable
def fX12_usable (K : Int → zSt → Prop) (σ : zSt) (x1 : Int) : Prop :=
  fX12_contrastOf (fun r1 σ1 => fX12_setting (fun r2 σ2 => zrg r1 ∧ zrg r2 ∧ ((r1 < r2 → K 0 σ2) ∧ (¬ r1 < r2 → K 1 σ2))) σ1 3) σ x1
set_option maxHeartbeats 4000000 in
set_option maxRecDepth 100000 in
theorem mX12_usable {D : va_G} {dA : Nat → ClassId} {ad : Nat → Nat}  (l : Launch) (hinj : ∀ i j, i < NM → j < NM → ad i = ad j → i = j) (sz : Nat) {K : Int → zSt → Prop} {σ : zSt} {x1 : Int} (hf : fX12_usable K σ x1) : Met l yX12_usable (Cond.code yX12_usable cX12_usable 2 (some .boolean) :: UW) ({ frames := 2, cells := 0, slots := 0, locals := 49 } : Room) (va_Pc [vR ad 0, vI x1] (zPre D vwCl (tyA dA) zX0 NM ad (celM ad dA) sz σ)) (va_Qi (zPi K) (zB D vwCl (tyA dA) NM ad (celM ad dA)) (zA ad NM sz)) 0 0 (zA ad NM sz) := by
  refine z_enter (cc := cX12_usable) (maxL := 2) (ret := (some .boolean)) (vs := [vR ad 0, vI x1]) (plainFor_of_name (by decide)) rfl hinj (Nat.le_of_ble_eq_true rfl) ?_
  intro p e s m args below meth c hC hE hsz hr hnm
  show zAt p l e ({ frames := 2, cells := 0, slots := 0, locals := 49 } : Room) s m args below meth c 0 0 (MQ below (va_Qi (zPi K) (zB D vwCl (tyA dA) NM ad (celM ad dA)) (zA ad NM sz)) args s 0 0 (zA ad NM sz)) 2 D vwCl (zA ad NM sz) NM ad (celM ad dA) 0 [(0, vR ad 0), (1, vI x1)] [] σ
  refine z_aload_n hC dX12_usable_0 0 rfl rfl ?_
  refine z_iload_n hC dX12_usable_1 1 rfl rfl ?_
  refine z_callVi hC hE (oM_12 (show kM 0 = 12 by decide)) [vI x1] (fun sz2 => mX12_contrastOf l hinj sz2 hf) (cwV 1 hC.1.2.2.2.2 (uV (uT _) u1873 u1875 u63 u118 u1876) rfl rfl rfl (by decide +kernel) ⟨Nat.le_of_ble_eq_true rfl, Nat.le_of_ble_eq_true rfl⟩) rfl rfl (Nat.le_of_ble_eq_true rfl) ⟨Nat.le_of_ble_eq_true rfl, Nat.le_of_ble_eq_true rfl⟩ dX12_usable_2 (fun r1 σ1 hf => ?_)
  refine z_aload_n hC dX12_usable_5 0 rfl rfl ?_
  refine z_iconst hC dX12_usable_6 ?_
  refine z_callVi hC hE (oM_12 (show kM 0 = 12 by decide)) [vI 3] (fun sz2 => mX12_setting l hinj sz2 hf) (cwV 1 hC.1.2.2.2.2 (uV (uT _) u1813 u1815 u55 u118 u1816) rfl rfl rfl (by decide +kernel) ⟨Nat.le_of_ble_eq_true rfl, Nat.le_of_ble_eq_true rfl⟩) rfl rfl (Nat.le_of_ble_eq_true rfl) ⟨Nat.le_of_ble_eq_true rfl, Nat.le_of_ble_eq_true rfl⟩ dX12_usable_7 (fun r2 σ2 hf => ?_)
  obtain ⟨g3, hf⟩ := hf
  obtain ⟨g4, hf⟩ := hf
  refine z_icmp_lt (tgt := 17) hC dX12_usable_10 (by decide) g3 g4 (fun hc => ?_) (fun hc => ?_)
  · replace hf := hf.1 hc
    refine z_iconst hC dX12_usable_17 ?_
    exact z_bret hC hr rfl dX12_usable_18 (Or.inl rfl) hf
  · replace hf := hf.2 hc
    refine z_iconst hC dX12_usable_13 ?_
    refine z_goto (tgt := 18) hC dX12_usable_14 (by decide) ?_
    exact z_bret hC hr rfl dX12_usable_18 (Or.inr rfl) hf

-- ===== X12_reference
noncomputable def fX12_reference_B2 (K : Int → zSt → Prop) (n : Nat) : zSt → Int → Prop :=
  Nat.rec (motive := fun _ => zSt → Int → Prop) (fun _ _ => False) (fun _ ih σ x1 => zrg x1 ∧ zrg (σ 1 2) ∧ ((σ 1 2 ≤ x1 → K (-1) σ) ∧ (¬ σ 1 2 ≤ x1 → fX12_usable (fun r3 σ3 => zrg r3 ∧ ((r3 = 0 → ih σ3 (x1 + 1)) ∧ (¬ r3 = 0 → K x1 σ3))) σ x1))) n
theorem uX12_reference_B2 (K : Int → zSt → Prop) (n0 : Nat) (σ : zSt) (x1 : Int) : fX12_reference_B2 K (n0 + 1) σ x1 = (zrg x1 ∧ zrg (σ 1 2) ∧ ((σ 1 2 ≤ x1 → K (-1) σ) ∧ (¬ σ 1 2 ≤ x1 → fX12_usable (fun r3 σ3 => zrg r3 ∧ ((r3 = 0 → (fX12_reference_B2 K n0) σ3 (x1 + 1)) ∧ (¬ r3 = 0 → K x1 σ3))) σ x1))) := rfl
def fX12_reference (K : Int → zSt → Prop) (σ : zSt) : Prop :=
  (∃ n, fX12_reference_B2 K n σ 0)
set_option maxHeartbeats 4000000 in
set_option maxRecDepth 100000 in
theorem wX12_reference_B2 {p : Program} {l : Launch} {e : Env} {s : State} {m : MethodId} {args : Array Value} {below : List Frame} {meth : Method} {c : Code} {D : va_G} {dA : Nat → ClassId} {ad : Nat → Nat} {sz : Nat}  {K : Int → zSt → Prop} (hC : zC p m c cX12_reference 2 s args (Cond.code yX12_reference cX12_reference 2 (some .int) :: UW) RX12 meth D vwCl (tyA dA) (zA ad NM sz) NM ad (celM ad dA)) (hE : zE zX0 (zA ad NM sz) s s.heap) (hr : meth.sig.returnType = (some .int)) (hinj : ∀ i j, i < NM → j < NM → ad i = ad j → i = j) : ∀ (n : Nat) (σ : zSt) (x1 : Int), fX12_reference_B2 K n σ x1 → zAt p l e ({ frames := 3, cells := 0, slots := 0, locals := 70 } : Room) s m args below meth c 0 0 (MQ below (va_Qi (zPi K) (zB D vwCl (tyA dA) NM ad (celM ad dA)) (zA ad NM sz)) args s 0 0 (zA ad NM sz)) 2 D vwCl (zA ad NM sz) NM ad (celM ad dA) 2 [(0, vR ad 0), (1, vI x1)] [] σ := by
  intro n
  induction n with
  | zero => intro σ x1  hf; exact False.elim hf
  | succ n ih =>
    intro σ x1  hf
    rw [uX12_reference_B2] at hf
    refine z_iload_n hC dX12_reference_2 1 rfl rfl ?_
    refine z_aload_n hC dX12_reference_3 0 rfl rfl ?_
    refine z_get hC (fun w h => uT _ w (uL12 w h)) (oM_12 (show kM 0 = 12 by decide)) 0 (by decide) (uT _ _ u1545) rfl rfl dX12_reference_4 ?_
    refine z_iconst hC dX12_reference_7 ?_
    refine z_iaload hC (aM_30 (show kM 1 = 30 by decide)) ⟨by decide, by decide⟩ dX12_reference_8 ?_
    obtain ⟨g1, hf⟩ := hf
    obtain ⟨g2, hf⟩ := hf
    refine z_icmp_ge (tgt := 28) hC dX12_reference_9 (by decide) g1 g2 (fun hc => ?_) (fun hc => ?_)
    · replace hf := hf.1 hc
      refine z_iconst hC dX12_reference_28 ?_
      exact z_iret hC hr rfl dX12_reference_29 hf
    · replace hf := hf.2 hc
      refine z_aload_n hC dX12_reference_12 0 rfl rfl ?_
      refine z_iload_n hC dX12_reference_13 1 rfl rfl ?_
      refine z_callVi hC hE (oM_12 (show kM 0 = 12 by decide)) [vI x1] (fun sz2 => mX12_usable l hinj sz2 hf) (cwV 1 hC.1.2.2.2.2 (uV (uT _) u1881 u1883 u64 u118 u1884) rfl rfl rfl (by decide +kernel) ⟨Nat.le_of_ble_eq_true rfl, Nat.le_of_ble_eq_true rfl⟩) rfl rfl (Nat.le_of_ble_eq_true rfl) ⟨Nat.le_of_ble_eq_true rfl, Nat.le_of_ble_eq_true rfl⟩ dX12_reference_14 (fun r3 σ3 hf => ?_)
      obtain ⟨g4, hf⟩ := hf
      refine z_if_eq (tgt := 22) hC dX12_reference_17 (by decide) g4 (fun hc => ?_) (fun hc => ?_)
      · replace hf := hf.1 hc
        refine z_iinc hC ([(1, vI (x1 + 1)), (0, vR ad 0)]) dX12_reference_22 1 rfl (by decide) rfl ?_
        refine z_goto (tgt := 2) hC dX12_reference_25 (by decide) ?_
        refine z_sub (lv' := [(0, vR ad 0), (1, vI (x1 + 1))]) [1, 0] rfl ?_
        exact ih _ _ hf
      · replace hf := hf.2 hc
        refine z_iload_n hC dX12_reference_20 1 rfl rfl ?_
        exact z_iret hC hr rfl dX12_reference_21 hf
set_option maxHeartbeats 4000000 in
set_option maxRecDepth 100000 in
theorem mX12_reference {D : va_G} {dA : Nat → ClassId} {ad : Nat → Nat}  (l : Launch) (hinj : ∀ i j, i < NM → j < NM → ad i = ad j → i = j) (sz : Nat) {K : Int → zSt → Prop} {σ : zSt} (hf : fX12_reference K σ ) : Met l yX12_reference (Cond.code yX12_reference cX12_reference 2 (some .int) :: UW) ({ frames := 3, cells := 0, slots := 0, locals := 70 } : Room) (va_Pc [vR ad 0] (zPre D vwCl (tyA dA) zX0 NM ad (celM ad dA) sz σ)) (va_Qi (zPi K) (zB D vwCl (tyA dA) NM ad (celM ad dA)) (zA ad NM sz)) 0 0 (zA ad NM sz) := by
  refine z_enter (cc := cX12_reference) (maxL := 2) (ret := (some .int)) (vs := [vR ad 0]) (plainFor_of_name (by decide)) rfl hinj (Nat.le_of_ble_eq_true rfl) ?_
  intro p e s m args below meth c hC hE hsz hr hnm
  show zAt p l e ({ frames := 3, cells := 0, slots := 0, locals := 70 } : Room) s m args below meth c 0 0 (MQ below (va_Qi (zPi K) (zB D vwCl (tyA dA) NM ad (celM ad dA)) (zA ad NM sz)) args s 0 0 (zA ad NM sz)) 2 D vwCl (zA ad NM sz) NM ad (celM ad dA) 0 [(0, vR ad 0)] [] σ
  refine z_iconst hC dX12_reference_0 ?_
  refine z_istore_n hC ([(1, vI 0), (0, vR ad 0)]) dX12_reference_1 rfl (by decide) rfl ?_
  refine z_sub (lv' := [(0, vR ad 0), (1, vI 0)]) [1, 0] rfl ?_
  obtain ⟨n, hf⟩ := hf
  exact wX12_reference_B2 hC hE hr hinj n _ _ hf

-- ===== X12_contrast
def fX12_contrast (K : Int → zSt → Prop) (σ : zSt) (x1 : Int) : Prop :=
  fX12_isFrame (fun r1 σ1 => fX12_fails (fun r2 σ2 => zrg r2 ∧ ((r2 = 0 → fX12_contrastOf (fun r4 σ4 => K r4 σ4) σ2 x1) ∧ (¬ r2 = 0 → K 0 σ2))) σ1 r1) σ x1
set_option maxHeartbeats 4000000 in
set_option maxRecDepth 100000 in
theorem mX12_contrast {D : va_G} {dA : Nat → ClassId} {ad : Nat → Nat}  (l : Launch) (hinj : ∀ i j, i < NM → j < NM → ad i = ad j → i = j) (sz : Nat) {K : Int → zSt → Prop} {σ : zSt} {x1 : Int} (hf : fX12_contrast K σ x1) : Met l yX12_contrast (Cond.code yX12_contrast cX12_contrast 2 (some .int) :: UW) ({ frames := 2, cells := 0, slots := 0, locals := 49 } : Room) (va_Pc [vR ad 0, vI x1] (zPre D vwCl (tyA dA) zX0 NM ad (celM ad dA) sz σ)) (va_Qi (zPi K) (zB D vwCl (tyA dA) NM ad (celM ad dA)) (zA ad NM sz)) 0 0 (zA ad NM sz) := by
  refine z_enter (cc := cX12_contrast) (maxL := 2) (ret := (some .int)) (vs := [vR ad 0, vI x1]) (plainFor_of_name (by decide)) rfl hinj (Nat.le_of_ble_eq_true rfl) ?_
  intro p e s m args below meth c hC hE hsz hr hnm
  show zAt p l e ({ frames := 2, cells := 0, slots := 0, locals := 49 } : Room) s m args below meth c 0 0 (MQ below (va_Qi (zPi K) (zB D vwCl (tyA dA) NM ad (celM ad dA)) (zA ad NM sz)) args s 0 0 (zA ad NM sz)) 2 D vwCl (zA ad NM sz) NM ad (celM ad dA) 0 [(0, vR ad 0), (1, vI x1)] [] σ
  refine z_aload_n hC dX12_contrast_0 0 rfl rfl ?_
  refine z_aload_n hC dX12_contrast_1 0 rfl rfl ?_
  refine z_iload_n hC dX12_contrast_2 1 rfl rfl ?_
  refine z_callVi hC hE (oM_12 (show kM 0 = 12 by decide)) [vI x1] (fun sz2 => mX12_isFrame l hinj sz2 hf) (cwV 1 hC.1.2.2.2.2 (uV (uT _) u1829 u1831 u57 u118 u1832) rfl rfl rfl (by decide +kernel) ⟨Nat.le_of_ble_eq_true rfl, Nat.le_of_ble_eq_true rfl⟩) rfl rfl (Nat.le_of_ble_eq_true rfl) ⟨Nat.le_of_ble_eq_true rfl, Nat.le_of_ble_eq_true rfl⟩ dX12_contrast_3 (fun r1 σ1 hf => ?_)
  refine z_callVi hC hE (oM_12 (show kM 0 = 12 by decide)) [vI r1] (fun sz2 => mX12_fails l hinj sz2 hf) (cwV 1 hC.1.2.2.2.2 (uV (uT _) u1833 u1835 u58 u118 u1836) rfl rfl rfl (by decide +kernel) ⟨Nat.le_of_ble_eq_true rfl, Nat.le_of_ble_eq_true rfl⟩) rfl rfl (Nat.le_of_ble_eq_true rfl) ⟨Nat.le_of_ble_eq_true rfl, Nat.le_of_ble_eq_true rfl⟩ dX12_contrast_6 (fun r2 σ2 hf => ?_)
  obtain ⟨g3, hf⟩ := hf
  refine z_if_eq (tgt := 16) hC dX12_contrast_9 (by decide) g3 (fun hc => ?_) (fun hc => ?_)
  · replace hf := hf.1 hc
    refine z_aload_n hC dX12_contrast_16 0 rfl rfl ?_
    refine z_iload_n hC dX12_contrast_17 1 rfl rfl ?_
    refine z_callVi hC hE (oM_12 (show kM 0 = 12 by decide)) [vI x1] (fun sz2 => mX12_contrastOf l hinj sz2 hf) (cwV 1 hC.1.2.2.2.2 (uV (uT _) u1873 u1875 u63 u118 u1876) rfl rfl rfl (by decide +kernel) ⟨Nat.le_of_ble_eq_true rfl, Nat.le_of_ble_eq_true rfl⟩) rfl rfl (Nat.le_of_ble_eq_true rfl) ⟨Nat.le_of_ble_eq_true rfl, Nat.le_of_ble_eq_true rfl⟩ dX12_contrast_18 (fun r4 σ4 hf => ?_)
    exact z_iret hC hr rfl dX12_contrast_21 hf
  · replace hf := hf.2 hc
    refine z_iconst hC dX12_contrast_12 ?_
    refine z_goto (tgt := 21) hC dX12_contrast_13 (by decide) ?_
    exact z_iret hC hr rfl dX12_contrast_21 hf

-- ===== X12_isUsable
def fX12_isUsable (K : Int → zSt → Prop) (σ : zSt) (x1 : Int) : Prop :=
  fX12_isFrame (fun r1 σ1 => fX12_fails (fun r2 σ2 => zrg r2 ∧ ((r2 = 0 → fX12_usable (fun r4 σ4 => zrg r4 ∧ ((r4 = 0 → K 0 σ4) ∧ (¬ r4 = 0 → K 1 σ4))) σ2 x1) ∧ (¬ r2 = 0 → K 0 σ2))) σ1 r1) σ x1
set_option maxHeartbeats 4000000 in
set_option maxRecDepth 100000 in
theorem mX12_isUsable {D : va_G} {dA : Nat → ClassId} {ad : Nat → Nat}  (l : Launch) (hinj : ∀ i j, i < NM → j < NM → ad i = ad j → i = j) (sz : Nat) {K : Int → zSt → Prop} {σ : zSt} {x1 : Int} (hf : fX12_isUsable K σ x1) : Met l yX12_isUsable (Cond.code yX12_isUsable cX12_isUsable 2 (some .boolean) :: UW) ({ frames := 3, cells := 0, slots := 0, locals := 70 } : Room) (va_Pc [vR ad 0, vI x1] (zPre D vwCl (tyA dA) zX0 NM ad (celM ad dA) sz σ)) (va_Qi (zPi K) (zB D vwCl (tyA dA) NM ad (celM ad dA)) (zA ad NM sz)) 0 0 (zA ad NM sz) := by
  refine z_enter (cc := cX12_isUsable) (maxL := 2) (ret := (some .boolean)) (vs := [vR ad 0, vI x1]) (plainFor_of_name (by decide)) rfl hinj (Nat.le_of_ble_eq_true rfl) ?_
  intro p e s m args below meth c hC hE hsz hr hnm
  show zAt p l e ({ frames := 3, cells := 0, slots := 0, locals := 70 } : Room) s m args below meth c 0 0 (MQ below (va_Qi (zPi K) (zB D vwCl (tyA dA) NM ad (celM ad dA)) (zA ad NM sz)) args s 0 0 (zA ad NM sz)) 2 D vwCl (zA ad NM sz) NM ad (celM ad dA) 0 [(0, vR ad 0), (1, vI x1)] [] σ
  refine z_aload_n hC dX12_isUsable_0 0 rfl rfl ?_
  refine z_aload_n hC dX12_isUsable_1 0 rfl rfl ?_
  refine z_iload_n hC dX12_isUsable_2 1 rfl rfl ?_
  refine z_callVi hC hE (oM_12 (show kM 0 = 12 by decide)) [vI x1] (fun sz2 => mX12_isFrame l hinj sz2 hf) (cwV 1 hC.1.2.2.2.2 (uV (uT _) u1829 u1831 u57 u118 u1832) rfl rfl rfl (by decide +kernel) ⟨Nat.le_of_ble_eq_true rfl, Nat.le_of_ble_eq_true rfl⟩) rfl rfl (Nat.le_of_ble_eq_true rfl) ⟨Nat.le_of_ble_eq_true rfl, Nat.le_of_ble_eq_true rfl⟩ dX12_isUsable_3 (fun r1 σ1 hf => ?_)
  refine z_callVi hC hE (oM_12 (show kM 0 = 12 by decide)) [vI r1] (fun sz2 => mX12_fails l hinj sz2 hf) (cwV 1 hC.1.2.2.2.2 (uV (uT _) u1833 u1835 u58 u118 u1836) rfl rfl rfl (by decide +kernel) ⟨Nat.le_of_ble_eq_true rfl, Nat.le_of_ble_eq_true rfl⟩) rfl rfl (Nat.le_of_ble_eq_true rfl) ⟨Nat.le_of_ble_eq_true rfl, Nat.le_of_ble_eq_true rfl⟩ dX12_isUsable_6 (fun r2 σ2 hf => ?_)
  obtain ⟨g3, hf⟩ := hf
  refine z_if_ne (tgt := 24) hC dX12_isUsable_9 (by decide) g3 (fun hc => ?_) (fun hc => ?_)
  · replace hf := hf.2 hc
    refine z_iconst hC dX12_isUsable_24 ?_
    exact z_bret hC hr rfl dX12_isUsable_25 (Or.inl rfl) hf
  · replace hf := hf.1 hc
    refine z_aload_n hC dX12_isUsable_12 0 rfl rfl ?_
    refine z_iload_n hC dX12_isUsable_13 1 rfl rfl ?_
    refine z_callVi hC hE (oM_12 (show kM 0 = 12 by decide)) [vI x1] (fun sz2 => mX12_usable l hinj sz2 hf) (cwV 1 hC.1.2.2.2.2 (uV (uT _) u1881 u1883 u64 u118 u1884) rfl rfl rfl (by decide +kernel) ⟨Nat.le_of_ble_eq_true rfl, Nat.le_of_ble_eq_true rfl⟩) rfl rfl (Nat.le_of_ble_eq_true rfl) ⟨Nat.le_of_ble_eq_true rfl, Nat.le_of_ble_eq_true rfl⟩ dX12_isUsable_14 (fun r4 σ4 hf => ?_)
    obtain ⟨g5, hf⟩ := hf
    refine z_if_eq (tgt := 24) hC dX12_isUsable_17 (by decide) g5 (fun hc => ?_) (fun hc => ?_)
    · replace hf := hf.1 hc
      refine z_iconst hC dX12_isUsable_24 ?_
      exact z_bret hC hr rfl dX12_isUsable_25 (Or.inl rfl) hf
    · replace hf := hf.2 hc
      refine z_iconst hC dX12_isUsable_20 ?_
      refine z_goto (tgt := 25) hC dX12_isUsable_21 (by decide) ?_
      exact z_bret hC hr rfl dX12_isUsable_25 (Or.inr rfl) hf

-- ===== X12_referenceFrame
def fX12_referenceFrame (K : Int → zSt → Prop) (σ : zSt) : Prop :=
  ∀ σ1, σ1 = zu σ 0 4 0 → fX12_reference (fun r2 σ2 => K r2 σ2) σ1 
set_option maxHeartbeats 4000000 in
set_option maxRecDepth 100000 in
theorem mX12_referenceFrame {D : va_G} {dA : Nat → ClassId} {ad : Nat → Nat}  (l : Launch) (hinj : ∀ i j, i < NM → j < NM → ad i = ad j → i = j) (sz : Nat) {K : Int → zSt → Prop} {σ : zSt} (hf : fX12_referenceFrame K σ ) : Met l yX12_referenceFrame (Cond.code yX12_referenceFrame cX12_referenceFrame 1 (some .int) :: UW) ({ frames := 4, cells := 0, slots := 0, locals := 91 } : Room) (va_Pc [vR ad 0] (zPre D vwCl (tyA dA) zX0 NM ad (celM ad dA) sz σ)) (va_Qi (zPi K) (zB D vwCl (tyA dA) NM ad (celM ad dA)) (zA ad NM sz)) 0 0 (zA ad NM sz) := by
  refine z_enter (cc := cX12_referenceFrame) (maxL := 1) (ret := (some .int)) (vs := [vR ad 0]) (plainFor_of_name (by decide)) rfl hinj (Nat.le_of_ble_eq_true rfl) ?_
  intro p e s m args below meth c hC hE hsz hr hnm
  show zAt p l e ({ frames := 4, cells := 0, slots := 0, locals := 91 } : Room) s m args below meth c 0 0 (MQ below (va_Qi (zPi K) (zB D vwCl (tyA dA) NM ad (celM ad dA)) (zA ad NM sz)) args s 0 0 (zA ad NM sz)) 1 D vwCl (zA ad NM sz) NM ad (celM ad dA) 0 [(0, vR ad 0)] [] σ
  refine z_aload_n hC dX12_referenceFrame_0 0 rfl rfl ?_
  refine z_iconst hC dX12_referenceFrame_1 ?_
  refine z_put hC (ty := .int) tyX12 tyX12_ok nmX12 (fun w h => uT _ w (uL12 w h)) (oM_12 (show kM 0 = 12 by decide)) (loM' (show kM 0 = 12 by decide) (by decide)) 4 (by decide) (uT _ _ u1549) rfl rfl (4) (0) (by simp [zu]) (by decide +kernel) rfl rfl (Nat.le_of_ble_eq_true rfl) dX12_referenceFrame_2 ?_
  obtain ⟨σ1, eσ1⟩ : ∃ z : zSt, z = zu σ 0 4 0 := ⟨_, rfl⟩
  rw [← eσ1]
  replace hf := hf σ1 eσ1
  refine z_aload_n hC dX12_referenceFrame_5 0 rfl rfl ?_
  refine z_callVi hC hE (oM_12 (show kM 0 = 12 by decide)) [] (fun sz2 => mX12_reference l hinj sz2 hf) (cwV 0 hC.1.2.2.2.2 (uV (uT _) u1889 u1891 u65 u118 u1892) rfl rfl rfl (by decide +kernel) ⟨Nat.le_of_ble_eq_true rfl, Nat.le_of_ble_eq_true rfl⟩) rfl rfl (Nat.le_of_ble_eq_true rfl) ⟨Nat.le_of_ble_eq_true rfl, Nat.le_of_ble_eq_true rfl⟩ dX12_referenceFrame_6 (fun r2 σ2 hf => ?_)
  exact z_iret hC hr rfl dX12_referenceFrame_9 hf

-- ===== X12_isInside
def fX12_isInside (K : Int → zSt → Prop) (σ : zSt) (x1 : Int) (x2 : Int) : Prop :=
  fX12_setting (fun r1 σ1 => zrg x1 ∧ zrg r1 ∧ ((x1 < r1 → K 0 σ1) ∧ (¬ x1 < r1 → zrg x2 ∧ ((x2 < r1 → K 0 σ1) ∧ (¬ x2 < r1 → zrg (x1 + r1) ∧ zrg (σ1 1 0) ∧ ((σ1 1 0 ≤ x1 + r1 → K 0 σ1) ∧ (¬ σ1 1 0 ≤ x1 + r1 → zrg (x2 + r1) ∧ zrg (σ1 1 1) ∧ ((σ1 1 1 ≤ x2 + r1 → K 0 σ1) ∧ (¬ σ1 1 1 ≤ x2 + r1 → K 1 σ1))))))))) σ 0
set_option maxHeartbeats 4000000 in
set_option maxRecDepth 100000 in
theorem mX12_isInside {D : va_G} {dA : Nat → ClassId} {ad : Nat → Nat}  (l : Launch) (hinj : ∀ i j, i < NM → j < NM → ad i = ad j → i = j) (sz : Nat) {K : Int → zSt → Prop} {σ : zSt} {x1 : Int} {x2 : Int} (hf : fX12_isInside K σ x1 x2) : Met l yX12_isInside (Cond.code yX12_isInside cX12_isInside 4 (some .boolean) :: UW) ({ frames := 1, cells := 0, slots := 0, locals := 21 } : Room) (va_Pc [vR ad 0, vI x1, vI x2] (zPre D vwCl (tyA dA) zX0 NM ad (celM ad dA) sz σ)) (va_Qi (zPi K) (zB D vwCl (tyA dA) NM ad (celM ad dA)) (zA ad NM sz)) 0 0 (zA ad NM sz) := by
  refine z_enter (cc := cX12_isInside) (maxL := 4) (ret := (some .boolean)) (vs := [vR ad 0, vI x1, vI x2]) (plainFor_of_name (by decide)) rfl hinj (Nat.le_of_ble_eq_true rfl) ?_
  intro p e s m args below meth c hC hE hsz hr hnm
  show zAt p l e ({ frames := 1, cells := 0, slots := 0, locals := 21 } : Room) s m args below meth c 0 0 (MQ below (va_Qi (zPi K) (zB D vwCl (tyA dA) NM ad (celM ad dA)) (zA ad NM sz)) args s 0 0 (zA ad NM sz)) 4 D vwCl (zA ad NM sz) NM ad (celM ad dA) 0 [(0, vR ad 0), (1, vI x1), (2, vI x2)] [] σ
  refine z_aload_n hC dX12_isInside_0 0 rfl rfl ?_
  refine z_iconst hC dX12_isInside_1 ?_
  refine z_callVi hC hE (oM_12 (show kM 0 = 12 by decide)) [vI 0] (fun sz2 => mX12_setting l hinj sz2 hf) (cwV 1 hC.1.2.2.2.2 (uV (uT _) u1813 u1815 u55 u118 u1816) rfl rfl rfl (by decide +kernel) ⟨Nat.le_of_ble_eq_true rfl, Nat.le_of_ble_eq_true rfl⟩) rfl rfl (Nat.le_of_ble_eq_true rfl) ⟨Nat.le_of_ble_eq_true rfl, Nat.le_of_ble_eq_true rfl⟩ dX12_isInside_2 (fun r1 σ1 hf => ?_)
  refine z_istore_n hC ([(3, vI r1), (0, vR ad 0), (1, vI x1), (2, vI x2)]) dX12_isInside_5 rfl (by decide) rfl ?_
  refine z_iload_n hC dX12_isInside_6 2 rfl rfl ?_
  refine z_iload_n hC dX12_isInside_7 0 rfl rfl ?_
  obtain ⟨g2, hf⟩ := hf
  obtain ⟨g3, hf⟩ := hf
  refine z_icmp_lt (tgt := 44) hC dX12_isInside_8 (by decide) g2 g3 (fun hc => ?_) (fun hc => ?_)
  · replace hf := hf.1 hc
    refine z_iconst hC dX12_isInside_44 ?_
    exact z_bret hC hr rfl dX12_isInside_45 (Or.inl rfl) hf
  · replace hf := hf.2 hc
    refine z_iload_n hC dX12_isInside_11 3 rfl rfl ?_
    refine z_iload_n hC dX12_isInside_12 0 rfl rfl ?_
    obtain ⟨g4, hf⟩ := hf
    refine z_icmp_lt (tgt := 44) hC dX12_isInside_13 (by decide) g4 g3 (fun hc => ?_) (fun hc => ?_)
    · replace hf := hf.1 hc
      refine z_iconst hC dX12_isInside_44 ?_
      exact z_bret hC hr rfl dX12_isInside_45 (Or.inl rfl) hf
    · replace hf := hf.2 hc
      refine z_iload_n hC dX12_isInside_16 2 rfl rfl ?_
      refine z_iload_n hC dX12_isInside_17 0 rfl rfl ?_
      refine z_iadd hC dX12_isInside_18 ?_
      refine z_aload_n hC dX12_isInside_19 1 rfl rfl ?_
      refine z_get hC (fun w h => uT _ w (uL12 w h)) (oM_12 (show kM 0 = 12 by decide)) 0 (by decide) (uT _ _ u1545) rfl rfl dX12_isInside_20 ?_
      refine z_iconst hC dX12_isInside_23 ?_
      refine z_iaload hC (aM_30 (show kM 1 = 30 by decide)) ⟨by decide, by decide⟩ dX12_isInside_24 ?_
      obtain ⟨g5, hf⟩ := hf
      obtain ⟨g6, hf⟩ := hf
      refine z_icmp_ge (tgt := 44) hC dX12_isInside_25 (by decide) g5 g6 (fun hc => ?_) (fun hc => ?_)
      · replace hf := hf.1 hc
        refine z_iconst hC dX12_isInside_44 ?_
        exact z_bret hC hr rfl dX12_isInside_45 (Or.inl rfl) hf
      · replace hf := hf.2 hc
        refine z_iload_n hC dX12_isInside_28 3 rfl rfl ?_
        refine z_iload_n hC dX12_isInside_29 0 rfl rfl ?_
        refine z_iadd hC dX12_isInside_30 ?_
        refine z_aload_n hC dX12_isInside_31 1 rfl rfl ?_
        refine z_get hC (fun w h => uT _ w (uL12 w h)) (oM_12 (show kM 0 = 12 by decide)) 0 (by decide) (uT _ _ u1545) rfl rfl dX12_isInside_32 ?_
        refine z_iconst hC dX12_isInside_35 ?_
        refine z_iaload hC (aM_30 (show kM 1 = 30 by decide)) ⟨by decide, by decide⟩ dX12_isInside_36 ?_
        obtain ⟨g7, hf⟩ := hf
        obtain ⟨g8, hf⟩ := hf
        refine z_icmp_ge (tgt := 44) hC dX12_isInside_37 (by decide) g7 g8 (fun hc => ?_) (fun hc => ?_)
        · replace hf := hf.1 hc
          refine z_iconst hC dX12_isInside_44 ?_
          exact z_bret hC hr rfl dX12_isInside_45 (Or.inl rfl) hf
        · replace hf := hf.2 hc
          refine z_iconst hC dX12_isInside_40 ?_
          refine z_goto (tgt := 45) hC dX12_isInside_41 (by decide) ?_
          exact z_bret hC hr rfl dX12_isInside_45 (Or.inr rfl) hf

-- ===== X12_mismatch
noncomputable def fX12_mismatch_B27 (K : Int → zSt → Prop) (k15 : zSt → Int → Int → Int → Int → Int → Int → Int → Int → Int → Prop) (n : Nat) : zSt → Int → Int → Int → Int → Int → Int → Int → Int → Int → Int → Prop :=
  Nat.rec (motive := fun _ => zSt → Int → Int → Int → Int → Int → Int → Int → Int → Int → Int → Prop) (fun _ _ _ _ _ _ _ _ _ _ _ => False) (fun _ ih σ x1 x2 x3 x4 x5 x6 x7 x8 x9 x10 => zrg x10 ∧ zrg x7 ∧ ((x7 < x10 → k15 σ x1 x2 x3 x4 x5 x6 x7 x8 (x9 + 1)) ∧ (¬ x7 < x10 → fX12_brightness (fun r6 σ6 => fX12_brightness (fun r7 σ7 => fX12_absolute (fun r8 σ8 => ih σ8 x1 x2 x3 x4 x5 x6 x7 (x8 + r8) x9 (x10 + 1)) σ7 (r6 - r7)) σ6 x4 (x5 + x10) (x6 + x9)) σ x1 (x2 + x10) (x3 + x9)))) n
theorem uX12_mismatch_B27 (K : Int → zSt → Prop) (k15 : zSt → Int → Int → Int → Int → Int → Int → Int → Int → Int → Prop) (n0 : Nat) (σ : zSt) (x1 : Int) (x2 : Int) (x3 : Int) (x4 : Int) (x5 : Int) (x6 : Int) (x7 : Int) (x8 : Int) (x9 : Int) (x10 : Int) : fX12_mismatch_B27 K k15 (n0 + 1) σ x1 x2 x3 x4 x5 x6 x7 x8 x9 x10 = (zrg x10 ∧ zrg x7 ∧ ((x7 < x10 → k15 σ x1 x2 x3 x4 x5 x6 x7 x8 (x9 + 1)) ∧ (¬ x7 < x10 → fX12_brightness (fun r6 σ6 => fX12_brightness (fun r7 σ7 => fX12_absolute (fun r8 σ8 => (fX12_mismatch_B27 K k15 n0) σ8 x1 x2 x3 x4 x5 x6 x7 (x8 + r8) x9 (x10 + 1)) σ7 (r6 - r7)) σ6 x4 (x5 + x10) (x6 + x9)) σ x1 (x2 + x10) (x3 + x9)))) := rfl
noncomputable def fX12_mismatch_B15 (K : Int → zSt → Prop) (n : Nat) : zSt → Int → Int → Int → Int → Int → Int → Int → Int → Int → Prop :=
  Nat.rec (motive := fun _ => zSt → Int → Int → Int → Int → Int → Int → Int → Int → Int → Prop) (fun _ _ _ _ _ _ _ _ _ _ => False) (fun _ ih σ x1 x2 x3 x4 x5 x6 x7 x8 x9 => zrg x9 ∧ zrg x7 ∧ ((x7 < x9 → K x8 σ) ∧ (¬ x7 < x9 → (∃ n, fX12_mismatch_B27 K ih n σ x1 x2 x3 x4 x5 x6 x7 x8 x9 (-x7))))) n
theorem uX12_mismatch_B15 (K : Int → zSt → Prop) (n0 : Nat) (σ : zSt) (x1 : Int) (x2 : Int) (x3 : Int) (x4 : Int) (x5 : Int) (x6 : Int) (x7 : Int) (x8 : Int) (x9 : Int) : fX12_mismatch_B15 K (n0 + 1) σ x1 x2 x3 x4 x5 x6 x7 x8 x9 = (zrg x9 ∧ zrg x7 ∧ ((x7 < x9 → K x8 σ) ∧ (¬ x7 < x9 → (∃ n, fX12_mismatch_B27 K (fX12_mismatch_B15 K n0) n σ x1 x2 x3 x4 x5 x6 x7 x8 x9 (-x7))))) := rfl
def fX12_mismatch (K : Int → zSt → Prop) (σ : zSt) (x1 : Int) (x2 : Int) (x3 : Int) (x4 : Int) (x5 : Int) (x6 : Int) : Prop :=
  fX12_setting (fun r1 σ1 => (∃ n, fX12_mismatch_B15 K n σ1 x1 x2 x3 x4 x5 x6 r1 0 (-r1))) σ 0
set_option maxHeartbeats 4000000 in
set_option maxRecDepth 100000 in
theorem wX12_mismatch_B27 {p : Program} {l : Launch} {e : Env} {s : State} {m : MethodId} {args : Array Value} {below : List Frame} {meth : Method} {c : Code} {D : va_G} {dA : Nat → ClassId} {ad : Nat → Nat} {sz : Nat}  {K : Int → zSt → Prop} {k15 : zSt → Int → Int → Int → Int → Int → Int → Int → Int → Int → Prop} (hC : zC p m c cX12_mismatch 11 s args (Cond.code yX12_mismatch cX12_mismatch 11 (some .int) :: UW) RX12 meth D vwCl (tyA dA) (zA ad NM sz) NM ad (celM ad dA)) (hE : zE zX0 (zA ad NM sz) s s.heap) (hr : meth.sig.returnType = (some .int)) (hinj : ∀ i j, i < NM → j < NM → ad i = ad j → i = j) (hk15 : ∀ (σ : zSt) (x1 : Int) (x2 : Int) (x3 : Int) (x4 : Int) (x5 : Int) (x6 : Int) (x7 : Int) (x8 : Int) (x9 : Int), k15 σ x1 x2 x3 x4 x5 x6 x7 x8 x9 → zAt p l e ({ frames := 1, cells := 0, slots := 0, locals := 23 } : Room) s m args below meth c 0 0 (MQ below (va_Qi (zPi K) (zB D vwCl (tyA dA) NM ad (celM ad dA)) (zA ad NM sz)) args s 0 0 (zA ad NM sz)) 11 D vwCl (zA ad NM sz) NM ad (celM ad dA) 15 [(0, vR ad 0), (1, vI x1), (2, vI x2), (3, vI x3), (4, vI x4), (5, vI x5), (6, vI x6), (7, vI x7), (8, vI x8), (9, vI x9)] [] σ) : ∀ (n : Nat) (σ : zSt) (x1 : Int) (x2 : Int) (x3 : Int) (x4 : Int) (x5 : Int) (x6 : Int) (x7 : Int) (x8 : Int) (x9 : Int) (x10 : Int), fX12_mismatch_B27 K k15 n σ x1 x2 x3 x4 x5 x6 x7 x8 x9 x10 → zAt p l e ({ frames := 1, cells := 0, slots := 0, locals := 23 } : Room) s m args below meth c 0 0 (MQ below (va_Qi (zPi K) (zB D vwCl (tyA dA) NM ad (celM ad dA)) (zA ad NM sz)) args s 0 0 (zA ad NM sz)) 11 D vwCl (zA ad NM sz) NM ad (celM ad dA) 27 [(0, vR ad 0), (1, vI x1), (2, vI x2), (3, vI x3), (4, vI x4), (5, vI x5), (6, vI x6), (7, vI x7), (8, vI x8), (9, vI x9), (10, vI x10)] [] σ := by
  intro n
  induction n with
  | zero => intro σ x1 x2 x3 x4 x5 x6 x7 x8 x9 x10  hf; exact False.elim hf
  | succ n ih =>
    intro σ x1 x2 x3 x4 x5 x6 x7 x8 x9 x10  hf
    rw [uX12_mismatch_B27] at hf
    refine z_iload hC dX12_mismatch_27 10 rfl ?_
    refine z_iload hC dX12_mismatch_29 7 rfl ?_
    obtain ⟨g4, hf⟩ := hf
    obtain ⟨g5, hf⟩ := hf
    refine z_icmp_gt (tgt := 78) hC dX12_mismatch_31 (by decide) g4 g5 (fun hc => ?_) (fun hc => ?_)
    · replace hf := hf.1 hc
      refine z_iinc hC ([(9, vI (x9 + 1)), (0, vR ad 0), (1, vI x1), (2, vI x2), (3, vI x3), (4, vI x4), (5, vI x5), (6, vI x6), (7, vI x7), (8, vI x8), (10, vI x10)]) dX12_mismatch_78 9 rfl (by decide) rfl ?_
      refine z_goto (tgt := 15) hC dX12_mismatch_81 (by decide) ?_
      refine z_sub (lv' := [(0, vR ad 0), (1, vI x1), (2, vI x2), (3, vI x3), (4, vI x4), (5, vI x5), (6, vI x6), (7, vI x7), (8, vI x8), (9, vI (x9 + 1))]) [1, 2, 3, 4, 5, 6, 7, 8, 9, 0] rfl ?_
      exact hk15 _ _ _ _ _ _ _ _ _ _ hf
    · replace hf := hf.2 hc
      refine z_iload hC dX12_mismatch_34 8 rfl ?_
      refine z_aload_n hC dX12_mismatch_36 0 rfl rfl ?_
      refine z_iload_n hC dX12_mismatch_37 1 rfl rfl ?_
      refine z_iload_n hC dX12_mismatch_38 2 rfl rfl ?_
      refine z_iload hC dX12_mismatch_39 10 rfl ?_
      refine z_iadd hC dX12_mismatch_41 ?_
      refine z_iload_n hC dX12_mismatch_42 3 rfl rfl ?_
      refine z_iload hC dX12_mismatch_43 9 rfl ?_
      refine z_iadd hC dX12_mismatch_45 ?_
      refine z_callVi hC hE (oM_12 (show kM 0 = 12 by decide)) [vI x1, vI (x2 + x10), vI (x3 + x9)] (fun sz2 => mX12_brightness l hinj sz2 hf) (cwV 3 hC.1.2.2.2.2 (uV (uT _) u1849 u1851 u61 u118 u1852) rfl rfl rfl (by decide +kernel) ⟨Nat.le_of_ble_eq_true rfl, Nat.le_of_ble_eq_true rfl⟩) rfl rfl (Nat.le_of_ble_eq_true rfl) ⟨Nat.le_of_ble_eq_true rfl, Nat.le_of_ble_eq_true rfl⟩ dX12_mismatch_46 (fun r6 σ6 hf => ?_)
      refine z_aload_n hC dX12_mismatch_49 0 rfl rfl ?_
      refine z_iload hC dX12_mismatch_50 4 rfl ?_
      refine z_iload hC dX12_mismatch_52 5 rfl ?_
      refine z_iload hC dX12_mismatch_54 10 rfl ?_
      refine z_iadd hC dX12_mismatch_56 ?_
      refine z_iload hC dX12_mismatch_57 6 rfl ?_
      refine z_iload hC dX12_mismatch_59 9 rfl ?_
      refine z_iadd hC dX12_mismatch_61 ?_
      refine z_callVi hC hE (oM_12 (show kM 0 = 12 by decide)) [vI x4, vI (x5 + x10), vI (x6 + x9)] (fun sz2 => mX12_brightness l hinj sz2 hf) (cwV 3 hC.1.2.2.2.2 (uV (uT _) u1849 u1851 u61 u118 u1852) rfl rfl rfl (by decide +kernel) ⟨Nat.le_of_ble_eq_true rfl, Nat.le_of_ble_eq_true rfl⟩) rfl rfl (Nat.le_of_ble_eq_true rfl) ⟨Nat.le_of_ble_eq_true rfl, Nat.le_of_ble_eq_true rfl⟩ dX12_mismatch_62 (fun r7 σ7 hf => ?_)
      refine z_isub hC dX12_mismatch_65 ?_
      refine z_callSi hC hE [vI (r6 - r7)] (fun sz2 => mX12_absolute l hinj sz2 hf) (va_cwS 1 hC.1.2.2.2.2 (uS (uT _) u1921 u1922 u118 u1923) rfl rfl rfl (by decide +kernel) ⟨Nat.le_of_ble_eq_true rfl, Nat.le_of_ble_eq_true rfl⟩) rfl rfl (Nat.le_of_ble_eq_true rfl) ⟨Nat.le_of_ble_eq_true rfl, Nat.le_of_ble_eq_true rfl⟩ dX12_mismatch_66 (fun r8 σ8 hf => ?_)
      refine z_iadd hC dX12_mismatch_69 ?_
      refine z_istore hC ([(8, vI (x8 + r8)), (0, vR ad 0), (1, vI x1), (2, vI x2), (3, vI x3), (4, vI x4), (5, vI x5), (6, vI x6), (7, vI x7), (9, vI x9), (10, vI x10)]) dX12_mismatch_70 (by decide) rfl ?_
      refine z_iinc hC ([(10, vI (x10 + 1)), (8, vI (x8 + r8)), (0, vR ad 0), (1, vI x1), (2, vI x2), (3, vI x3), (4, vI x4), (5, vI x5), (6, vI x6), (7, vI x7), (9, vI x9)]) dX12_mismatch_72 10 rfl (by decide) rfl ?_
      refine z_goto (tgt := 27) hC dX12_mismatch_75 (by decide) ?_
      refine z_sub (lv' := [(0, vR ad 0), (1, vI x1), (2, vI x2), (3, vI x3), (4, vI x4), (5, vI x5), (6, vI x6), (7, vI x7), (8, vI (x8 + r8)), (9, vI x9), (10, vI (x10 + 1))]) [2, 3, 4, 5, 6, 7, 8, 9, 1, 10, 0] rfl ?_
      exact ih _ _ _ _ _ _ _ _ _ _ _ hf
set_option maxHeartbeats 4000000 in
set_option maxRecDepth 100000 in
theorem wX12_mismatch_B15 {p : Program} {l : Launch} {e : Env} {s : State} {m : MethodId} {args : Array Value} {below : List Frame} {meth : Method} {c : Code} {D : va_G} {dA : Nat → ClassId} {ad : Nat → Nat} {sz : Nat}  {K : Int → zSt → Prop} (hC : zC p m c cX12_mismatch 11 s args (Cond.code yX12_mismatch cX12_mismatch 11 (some .int) :: UW) RX12 meth D vwCl (tyA dA) (zA ad NM sz) NM ad (celM ad dA)) (hE : zE zX0 (zA ad NM sz) s s.heap) (hr : meth.sig.returnType = (some .int)) (hinj : ∀ i j, i < NM → j < NM → ad i = ad j → i = j) : ∀ (n : Nat) (σ : zSt) (x1 : Int) (x2 : Int) (x3 : Int) (x4 : Int) (x5 : Int) (x6 : Int) (x7 : Int) (x8 : Int) (x9 : Int), fX12_mismatch_B15 K n σ x1 x2 x3 x4 x5 x6 x7 x8 x9 → zAt p l e ({ frames := 1, cells := 0, slots := 0, locals := 23 } : Room) s m args below meth c 0 0 (MQ below (va_Qi (zPi K) (zB D vwCl (tyA dA) NM ad (celM ad dA)) (zA ad NM sz)) args s 0 0 (zA ad NM sz)) 11 D vwCl (zA ad NM sz) NM ad (celM ad dA) 15 [(0, vR ad 0), (1, vI x1), (2, vI x2), (3, vI x3), (4, vI x4), (5, vI x5), (6, vI x6), (7, vI x7), (8, vI x8), (9, vI x9)] [] σ := by
  intro n
  induction n with
  | zero => intro σ x1 x2 x3 x4 x5 x6 x7 x8 x9  hf; exact False.elim hf
  | succ n ih =>
    intro σ x1 x2 x3 x4 x5 x6 x7 x8 x9  hf
    rw [uX12_mismatch_B15] at hf
    refine z_iload hC dX12_mismatch_15 9 rfl ?_
    refine z_iload hC dX12_mismatch_17 7 rfl ?_
    obtain ⟨g2, hf⟩ := hf
    obtain ⟨g3, hf⟩ := hf
    refine z_icmp_gt (tgt := 84) hC dX12_mismatch_19 (by decide) g2 g3 (fun hc => ?_) (fun hc => ?_)
    · replace hf := hf.1 hc
      refine z_iload hC dX12_mismatch_84 8 rfl ?_
      exact z_iret hC hr rfl dX12_mismatch_86 hf
    · replace hf := hf.2 hc
      refine z_iload hC dX12_mismatch_22 7 rfl ?_
      refine z_ineg hC dX12_mismatch_24 ?_
      refine z_istore hC ([(10, vI (-x7)), (0, vR ad 0), (1, vI x1), (2, vI x2), (3, vI x3), (4, vI x4), (5, vI x5), (6, vI x6), (7, vI x7), (8, vI x8), (9, vI x9)]) dX12_mismatch_25 (by decide) rfl ?_
      refine z_sub (lv' := [(0, vR ad 0), (1, vI x1), (2, vI x2), (3, vI x3), (4, vI x4), (5, vI x5), (6, vI x6), (7, vI x7), (8, vI x8), (9, vI x9), (10, vI (-x7))]) [1, 2, 3, 4, 5, 6, 7, 8, 9, 10, 0] rfl ?_
      obtain ⟨n, hf⟩ := hf
      exact wX12_mismatch_B27 hC hE hr hinj ih n _ _ _ _ _ _ _ _ _ _ _ hf
set_option maxHeartbeats 4000000 in
set_option maxRecDepth 100000 in
theorem mX12_mismatch {D : va_G} {dA : Nat → ClassId} {ad : Nat → Nat}  (l : Launch) (hinj : ∀ i j, i < NM → j < NM → ad i = ad j → i = j) (sz : Nat) {K : Int → zSt → Prop} {σ : zSt} {x1 : Int} {x2 : Int} {x3 : Int} {x4 : Int} {x5 : Int} {x6 : Int} (hf : fX12_mismatch K σ x1 x2 x3 x4 x5 x6) : Met l yX12_mismatch (Cond.code yX12_mismatch cX12_mismatch 11 (some .int) :: UW) ({ frames := 1, cells := 0, slots := 0, locals := 23 } : Room) (va_Pc [vR ad 0, vI x1, vI x2, vI x3, vI x4, vI x5, vI x6] (zPre D vwCl (tyA dA) zX0 NM ad (celM ad dA) sz σ)) (va_Qi (zPi K) (zB D vwCl (tyA dA) NM ad (celM ad dA)) (zA ad NM sz)) 0 0 (zA ad NM sz) := by
  refine z_enter (cc := cX12_mismatch) (maxL := 11) (ret := (some .int)) (vs := [vR ad 0, vI x1, vI x2, vI x3, vI x4, vI x5, vI x6]) (plainFor_of_name (by decide)) rfl hinj (Nat.le_of_ble_eq_true rfl) ?_
  intro p e s m args below meth c hC hE hsz hr hnm
  show zAt p l e ({ frames := 1, cells := 0, slots := 0, locals := 23 } : Room) s m args below meth c 0 0 (MQ below (va_Qi (zPi K) (zB D vwCl (tyA dA) NM ad (celM ad dA)) (zA ad NM sz)) args s 0 0 (zA ad NM sz)) 11 D vwCl (zA ad NM sz) NM ad (celM ad dA) 0 [(0, vR ad 0), (1, vI x1), (2, vI x2), (3, vI x3), (4, vI x4), (5, vI x5), (6, vI x6)] [] σ
  refine z_aload_n hC dX12_mismatch_0 0 rfl rfl ?_
  refine z_iconst hC dX12_mismatch_1 ?_
  refine z_callVi hC hE (oM_12 (show kM 0 = 12 by decide)) [vI 0] (fun sz2 => mX12_setting l hinj sz2 hf) (cwV 1 hC.1.2.2.2.2 (uV (uT _) u1813 u1815 u55 u118 u1816) rfl rfl rfl (by decide +kernel) ⟨Nat.le_of_ble_eq_true rfl, Nat.le_of_ble_eq_true rfl⟩) rfl rfl (Nat.le_of_ble_eq_true rfl) ⟨Nat.le_of_ble_eq_true rfl, Nat.le_of_ble_eq_true rfl⟩ dX12_mismatch_2 (fun r1 σ1 hf => ?_)
  refine z_istore hC ([(7, vI r1), (0, vR ad 0), (1, vI x1), (2, vI x2), (3, vI x3), (4, vI x4), (5, vI x5), (6, vI x6)]) dX12_mismatch_5 (by decide) rfl ?_
  refine z_iconst hC dX12_mismatch_7 ?_
  refine z_istore hC ([(8, vI 0), (7, vI r1), (0, vR ad 0), (1, vI x1), (2, vI x2), (3, vI x3), (4, vI x4), (5, vI x5), (6, vI x6)]) dX12_mismatch_8 (by decide) rfl ?_
  refine z_iload hC dX12_mismatch_10 1 rfl ?_
  refine z_ineg hC dX12_mismatch_12 ?_
  refine z_istore hC ([(9, vI (-r1)), (8, vI 0), (7, vI r1), (0, vR ad 0), (1, vI x1), (2, vI x2), (3, vI x3), (4, vI x4), (5, vI x5), (6, vI x6)]) dX12_mismatch_13 (by decide) rfl ?_
  refine z_sub (lv' := [(0, vR ad 0), (1, vI x1), (2, vI x2), (3, vI x3), (4, vI x4), (5, vI x5), (6, vI x6), (7, vI r1), (8, vI 0), (9, vI (-r1))]) [3, 4, 5, 6, 7, 8, 9, 2, 1, 0] rfl ?_
  obtain ⟨n, hf⟩ := hf
  exact wX12_mismatch_B15 hC hE hr hinj n _ _ _ _ _ _ _ _ _ _ hf

-- ===== X12_errorOf
noncomputable def fX12_errorOf_B6 (K : Int → zSt → Prop) (n : Nat) : zSt → Int → Int → Int → Int → Int → Prop :=
  Nat.rec (motive := fun _ => zSt → Int → Int → Int → Int → Int → Prop) (fun _ _ _ _ _ _ => False) (fun _ ih σ x1 x2 x3 x4 x5 => zrg x5 ∧ zrg (σ 1 3) ∧ ((σ 1 3 ≤ x5 → K x4 σ) ∧ (¬ σ 1 3 ≤ x5 → (0 ≤ 12 + (2 * x5) ∧ 12 + (2 * x5) < 811) ∧ (0 ≤ (12 + (2 * x5)) + 1 ∧ (12 + (2 * x5)) + 1 < 811) ∧ fX12_isInside (fun r5 σ5 => zrg r5 ∧ ((r5 = 0 → K (-1) σ5) ∧ (¬ r5 = 0 → fX12_isInside (fun r7 σ7 => zrg r7 ∧ ((r7 = 0 → K (-1) σ7) ∧ (¬ r7 = 0 → fX12_mismatch (fun r9 σ9 => ih σ9 x1 x2 x3 (x4 + r9) (x5 + 1)) σ7 (σ7 0 17) (σ 1 (12 + (2 * x5))) (σ 1 ((12 + (2 * x5)) + 1)) x1 ((σ 1 (12 + (2 * x5))) + x2) ((σ 1 ((12 + (2 * x5)) + 1)) + x3)))) σ5 ((σ 1 (12 + (2 * x5))) + x2) ((σ 1 ((12 + (2 * x5)) + 1)) + x3)))) σ (σ 1 (12 + (2 * x5))) (σ 1 ((12 + (2 * x5)) + 1))))) n
theorem uX12_errorOf_B6 (K : Int → zSt → Prop) (n0 : Nat) (σ : zSt) (x1 : Int) (x2 : Int) (x3 : Int) (x4 : Int) (x5 : Int) : fX12_errorOf_B6 K (n0 + 1) σ x1 x2 x3 x4 x5 = (zrg x5 ∧ zrg (σ 1 3) ∧ ((σ 1 3 ≤ x5 → K x4 σ) ∧ (¬ σ 1 3 ≤ x5 → (0 ≤ 12 + (2 * x5) ∧ 12 + (2 * x5) < 811) ∧ (0 ≤ (12 + (2 * x5)) + 1 ∧ (12 + (2 * x5)) + 1 < 811) ∧ fX12_isInside (fun r5 σ5 => zrg r5 ∧ ((r5 = 0 → K (-1) σ5) ∧ (¬ r5 = 0 → fX12_isInside (fun r7 σ7 => zrg r7 ∧ ((r7 = 0 → K (-1) σ7) ∧ (¬ r7 = 0 → fX12_mismatch (fun r9 σ9 => (fX12_errorOf_B6 K n0) σ9 x1 x2 x3 (x4 + r9) (x5 + 1)) σ7 (σ7 0 17) (σ 1 (12 + (2 * x5))) (σ 1 ((12 + (2 * x5)) + 1)) x1 ((σ 1 (12 + (2 * x5))) + x2) ((σ 1 ((12 + (2 * x5)) + 1)) + x3)))) σ5 ((σ 1 (12 + (2 * x5))) + x2) ((σ 1 ((12 + (2 * x5)) + 1)) + x3)))) σ (σ 1 (12 + (2 * x5))) (σ 1 ((12 + (2 * x5)) + 1))))) := rfl
def fX12_errorOf (K : Int → zSt → Prop) (σ : zSt) (x1 : Int) (x2 : Int) (x3 : Int) : Prop :=
  (∃ n, fX12_errorOf_B6 K n σ x1 x2 x3 0 0)
set_option maxHeartbeats 4000000 in
set_option maxRecDepth 100000 in
theorem wX12_errorOf_B6 {p : Program} {l : Launch} {e : Env} {s : State} {m : MethodId} {args : Array Value} {below : List Frame} {meth : Method} {c : Code} {D : va_G} {dA : Nat → ClassId} {ad : Nat → Nat} {sz : Nat}  {K : Int → zSt → Prop} (hC : zC p m c cX12_errorOf 8 s args (Cond.code yX12_errorOf cX12_errorOf 8 (some .int) :: UW) RX12 meth D vwCl (tyA dA) (zA ad NM sz) NM ad (celM ad dA)) (hE : zE zX0 (zA ad NM sz) s s.heap) (hr : meth.sig.returnType = (some .int)) (hinj : ∀ i j, i < NM → j < NM → ad i = ad j → i = j) : ∀ (n : Nat) (σ : zSt) (x1 : Int) (x2 : Int) (x3 : Int) (x4 : Int) (x5 : Int), fX12_errorOf_B6 K n σ x1 x2 x3 x4 x5 → zAt p l e ({ frames := 2, cells := 0, slots := 0, locals := 53 } : Room) s m args below meth c 0 0 (MQ below (va_Qi (zPi K) (zB D vwCl (tyA dA) NM ad (celM ad dA)) (zA ad NM sz)) args s 0 0 (zA ad NM sz)) 8 D vwCl (zA ad NM sz) NM ad (celM ad dA) 6 [(0, vR ad 0), (1, vI x1), (2, vI x2), (3, vI x3), (4, vI x4), (5, vI x5)] [] σ := by
  intro n
  induction n with
  | zero => intro σ x1 x2 x3 x4 x5  hf; exact False.elim hf
  | succ n ih =>
    intro σ x1 x2 x3 x4 x5  hf
    rw [uX12_errorOf_B6] at hf
    refine z_iload hC dX12_errorOf_6 5 rfl ?_
    refine z_aload_n hC dX12_errorOf_8 0 rfl rfl ?_
    refine z_get hC (fun w h => uT _ w (uL12 w h)) (oM_12 (show kM 0 = 12 by decide)) 0 (by decide) (uT _ _ u1545) rfl rfl dX12_errorOf_9 ?_
    refine z_iconst hC dX12_errorOf_12 ?_
    refine z_iaload hC (aM_30 (show kM 1 = 30 by decide)) ⟨by decide, by decide⟩ dX12_errorOf_13 ?_
    obtain ⟨g1, hf⟩ := hf
    obtain ⟨g2, hf⟩ := hf
    refine z_icmp_ge (tgt := 107) hC dX12_errorOf_14 (by decide) g1 g2 (fun hc => ?_) (fun hc => ?_)
    · replace hf := hf.1 hc
      refine z_iload hC dX12_errorOf_107 4 rfl ?_
      exact z_iret hC hr rfl dX12_errorOf_109 hf
    · replace hf := hf.2 hc
      refine z_aload_n hC dX12_errorOf_17 0 rfl rfl ?_
      refine z_get hC (fun w h => uT _ w (uL12 w h)) (oM_12 (show kM 0 = 12 by decide)) 0 (by decide) (uT _ _ u1545) rfl rfl dX12_errorOf_18 ?_
      refine z_bipush hC dX12_errorOf_21 (by decide) ?_
      refine z_iconst hC dX12_errorOf_23 ?_
      refine z_iload hC dX12_errorOf_24 5 rfl ?_
      refine z_imul hC dX12_errorOf_26 ?_
      refine z_iadd hC dX12_errorOf_27 ?_
      obtain ⟨g3, hf⟩ := hf
      refine z_iaload hC (aM_30 (show kM 1 = 30 by decide)) g3 dX12_errorOf_28 ?_
      refine z_istore hC ([(6, vI (σ 1 (12 + (2 * x5)))), (0, vR ad 0), (1, vI x1), (2, vI x2), (3, vI x3), (4, vI x4), (5, vI x5)]) dX12_errorOf_29 (by decide) rfl ?_
      refine z_aload_n hC dX12_errorOf_31 1 rfl rfl ?_
      refine z_get hC (fun w h => uT _ w (uL12 w h)) (oM_12 (show kM 0 = 12 by decide)) 0 (by decide) (uT _ _ u1545) rfl rfl dX12_errorOf_32 ?_
      refine z_bipush hC dX12_errorOf_35 (by decide) ?_
      refine z_iconst hC dX12_errorOf_37 ?_
      refine z_iload hC dX12_errorOf_38 6 rfl ?_
      refine z_imul hC dX12_errorOf_40 ?_
      refine z_iadd hC dX12_errorOf_41 ?_
      refine z_iconst hC dX12_errorOf_42 ?_
      refine z_iadd hC dX12_errorOf_43 ?_
      obtain ⟨g4, hf⟩ := hf
      refine z_iaload hC (aM_30 (show kM 1 = 30 by decide)) g4 dX12_errorOf_44 ?_
      refine z_istore hC ([(7, vI (σ 1 ((12 + (2 * x5)) + 1))), (6, vI (σ 1 (12 + (2 * x5)))), (0, vR ad 0), (1, vI x1), (2, vI x2), (3, vI x3), (4, vI x4), (5, vI x5)]) dX12_errorOf_45 (by decide) rfl ?_
      refine z_aload_n hC dX12_errorOf_47 2 rfl rfl ?_
      refine z_iload hC dX12_errorOf_48 1 rfl ?_
      refine z_iload hC dX12_errorOf_50 0 rfl ?_
      refine z_callVi hC hE (oM_12 (show kM 0 = 12 by decide)) [vI (σ 1 (12 + (2 * x5))), vI (σ 1 ((12 + (2 * x5)) + 1))] (fun sz2 => mX12_isInside l hinj sz2 hf) (cwV 2 hC.1.2.2.2.2 (uV (uT _) u1913 u1915 u70 u118 u1916) rfl rfl rfl (by decide +kernel) ⟨Nat.le_of_ble_eq_true rfl, Nat.le_of_ble_eq_true rfl⟩) rfl rfl (Nat.le_of_ble_eq_true rfl) ⟨Nat.le_of_ble_eq_true rfl, Nat.le_of_ble_eq_true rfl⟩ dX12_errorOf_52 (fun r5 σ5 hf => ?_)
      obtain ⟨g6, hf⟩ := hf
      refine z_if_eq (tgt := 73) hC dX12_errorOf_55 (by decide) g6 (fun hc => ?_) (fun hc => ?_)
      · replace hf := hf.1 hc
        refine z_iconst hC dX12_errorOf_73 ?_
        exact z_iret hC hr rfl dX12_errorOf_74 hf
      · replace hf := hf.2 hc
        refine z_aload_n hC dX12_errorOf_58 2 rfl rfl ?_
        refine z_iload hC dX12_errorOf_59 1 rfl ?_
        refine z_iload_n hC dX12_errorOf_61 4 rfl rfl ?_
        refine z_iadd hC dX12_errorOf_62 ?_
        refine z_iload hC dX12_errorOf_63 0 rfl ?_
        refine z_iload_n hC dX12_errorOf_65 5 rfl rfl ?_
        refine z_iadd hC dX12_errorOf_66 ?_
        refine z_callVi hC hE (oM_12 (show kM 0 = 12 by decide)) [vI ((σ 1 (12 + (2 * x5))) + x2), vI ((σ 1 ((12 + (2 * x5)) + 1)) + x3)] (fun sz2 => mX12_isInside l hinj sz2 hf) (cwV 2 hC.1.2.2.2.2 (uV (uT _) u1913 u1915 u70 u118 u1916) rfl rfl rfl (by decide +kernel) ⟨Nat.le_of_ble_eq_true rfl, Nat.le_of_ble_eq_true rfl⟩) rfl rfl (Nat.le_of_ble_eq_true rfl) ⟨Nat.le_of_ble_eq_true rfl, Nat.le_of_ble_eq_true rfl⟩ dX12_errorOf_67 (fun r7 σ7 hf => ?_)
        obtain ⟨g8, hf⟩ := hf
        refine z_if_ne (tgt := 75) hC dX12_errorOf_70 (by decide) g8 (fun hc => ?_) (fun hc => ?_)
        · replace hf := hf.2 hc
          refine z_iload hC dX12_errorOf_75 6 rfl ?_
          refine z_aload_n hC dX12_errorOf_77 2 rfl rfl ?_
          refine z_aload_n hC dX12_errorOf_78 2 rfl rfl ?_
          refine z_get hC (fun w h => uT _ w (uL12 w h)) (oM_12 (show kM 0 = 12 by decide)) 17 (by decide) (uT _ _ u1562) rfl rfl dX12_errorOf_79 ?_
          refine z_iload hC dX12_errorOf_82 1 rfl ?_
          refine z_iload hC dX12_errorOf_84 0 rfl ?_
          refine z_iload_n hC dX12_errorOf_86 3 rfl rfl ?_
          refine z_iload hC dX12_errorOf_87 1 rfl ?_
          refine z_iload_n hC dX12_errorOf_89 4 rfl rfl ?_
          refine z_iadd hC dX12_errorOf_90 ?_
          refine z_iload hC dX12_errorOf_91 0 rfl ?_
          refine z_iload_n hC dX12_errorOf_93 5 rfl rfl ?_
          refine z_iadd hC dX12_errorOf_94 ?_
          refine z_callVi hC hE (oM_12 (show kM 0 = 12 by decide)) [vI (σ7 0 17), vI (σ 1 (12 + (2 * x5))), vI (σ 1 ((12 + (2 * x5)) + 1)), vI x1, vI ((σ 1 (12 + (2 * x5))) + x2), vI ((σ 1 ((12 + (2 * x5)) + 1)) + x3)] (fun sz2 => mX12_mismatch l hinj sz2 hf) (cwV 6 hC.1.2.2.2.2 (uV (uT _) u1917 u1919 u71 u118 u1920) rfl rfl rfl (by decide +kernel) ⟨Nat.le_of_ble_eq_true rfl, Nat.le_of_ble_eq_true rfl⟩) rfl rfl (Nat.le_of_ble_eq_true rfl) ⟨Nat.le_of_ble_eq_true rfl, Nat.le_of_ble_eq_true rfl⟩ dX12_errorOf_95 (fun r9 σ9 hf => ?_)
          refine z_iadd hC dX12_errorOf_98 ?_
          refine z_istore hC ([(4, vI (x4 + r9)), (7, vI (σ 1 ((12 + (2 * x5)) + 1))), (6, vI (σ 1 (12 + (2 * x5)))), (0, vR ad 0), (1, vI x1), (2, vI x2), (3, vI x3), (5, vI x5)]) dX12_errorOf_99 (by decide) rfl ?_
          refine z_iinc hC ([(5, vI (x5 + 1)), (4, vI (x4 + r9)), (7, vI (σ 1 ((12 + (2 * x5)) + 1))), (6, vI (σ 1 (12 + (2 * x5)))), (0, vR ad 0), (1, vI x1), (2, vI x2), (3, vI x3)]) dX12_errorOf_101 7 rfl (by decide) rfl ?_
          refine z_goto (tgt := 6) hC dX12_errorOf_104 (by decide) ?_
          refine z_sub (lv' := [(0, vR ad 0), (1, vI x1), (2, vI x2), (3, vI x3), (4, vI (x4 + r9)), (5, vI (x5 + 1))]) [4, 5, 6, 7, 1, 0] rfl ?_
          exact ih _ _ _ _ _ _ hf
        · replace hf := hf.1 hc
          refine z_iconst hC dX12_errorOf_73 ?_
          exact z_iret hC hr rfl dX12_errorOf_74 hf
set_option maxHeartbeats 4000000 in
set_option maxRecDepth 100000 in
theorem mX12_errorOf {D : va_G} {dA : Nat → ClassId} {ad : Nat → Nat}  (l : Launch) (hinj : ∀ i j, i < NM → j < NM → ad i = ad j → i = j) (sz : Nat) {K : Int → zSt → Prop} {σ : zSt} {x1 : Int} {x2 : Int} {x3 : Int} (hf : fX12_errorOf K σ x1 x2 x3) : Met l yX12_errorOf (Cond.code yX12_errorOf cX12_errorOf 8 (some .int) :: UW) ({ frames := 2, cells := 0, slots := 0, locals := 53 } : Room) (va_Pc [vR ad 0, vI x1, vI x2, vI x3] (zPre D vwCl (tyA dA) zX0 NM ad (celM ad dA) sz σ)) (va_Qi (zPi K) (zB D vwCl (tyA dA) NM ad (celM ad dA)) (zA ad NM sz)) 0 0 (zA ad NM sz) := by
  refine z_enter (cc := cX12_errorOf) (maxL := 8) (ret := (some .int)) (vs := [vR ad 0, vI x1, vI x2, vI x3]) (plainFor_of_name (by decide)) rfl hinj (Nat.le_of_ble_eq_true rfl) ?_
  intro p e s m args below meth c hC hE hsz hr hnm
  show zAt p l e ({ frames := 2, cells := 0, slots := 0, locals := 53 } : Room) s m args below meth c 0 0 (MQ below (va_Qi (zPi K) (zB D vwCl (tyA dA) NM ad (celM ad dA)) (zA ad NM sz)) args s 0 0 (zA ad NM sz)) 8 D vwCl (zA ad NM sz) NM ad (celM ad dA) 0 [(0, vR ad 0), (1, vI x1), (2, vI x2), (3, vI x3)] [] σ
  refine z_iconst hC dX12_errorOf_0 ?_
  refine z_istore hC ([(4, vI 0), (0, vR ad 0), (1, vI x1), (2, vI x2), (3, vI x3)]) dX12_errorOf_1 (by decide) rfl ?_
  refine z_iconst hC dX12_errorOf_3 ?_
  refine z_istore hC ([(5, vI 0), (4, vI 0), (0, vR ad 0), (1, vI x1), (2, vI x2), (3, vI x3)]) dX12_errorOf_4 (by decide) rfl ?_
  refine z_sub (lv' := [(0, vR ad 0), (1, vI x1), (2, vI x2), (3, vI x3), (4, vI 0), (5, vI 0)]) [2, 3, 4, 5, 1, 0] rfl ?_
  obtain ⟨n, hf⟩ := hf
  exact wX12_errorOf_B6 hC hE hr hinj n _ _ _ _ _ _ hf

-- ===== X12_orientBySearch
def fX12_orientBySearch_B107 (K : zSt → Prop) (k19 : zSt → Int → Int → Int → Int → Prop) (k29 : zSt → Int → Int → Int → Int → Int → Prop) (σ : zSt) (x1 : Int) (x2 : Int) (x4 : Int) (x5 : Int) (x6 : Int) (x7 : Int) : Prop :=
  (0 ≤ x1 ∧ x1 < 6) ∧ ∀ σ18, σ18 = zu σ 5 x1 1 → ∀ σ19, σ19 = zu σ18 8 x1 x6 → ∀ σ20, σ20 = zu σ19 6 x1 x5 → ∀ σ21, σ21 = zu σ20 7 x1 x4 → k29 σ21 x1 x2 x7 x4 (x5 + 1)
noncomputable def fX12_orientBySearch_B29 (K : zSt → Prop) (k19 : zSt → Int → Int → Int → Int → Prop) (n : Nat) : zSt → Int → Int → Int → Int → Int → Prop :=
  Nat.rec (motive := fun _ => zSt → Int → Int → Int → Int → Int → Prop) (fun _ _ _ _ _ _ => False) (fun _ ih σ x1 x2 x3 x4 x5 => zrg x5 ∧ zrg x2 ∧ ((x2 < x5 → k19 σ x1 x2 x3 (x4 + 1)) ∧ (¬ x2 < x5 → fX12_errorOf (fun r8 σ8 => fX12_absolute (fun r9 σ9 => fX12_absolute (fun r10 σ10 => zrg r8 ∧ ((0 ≤ r8 → (0 ≤ x1 ∧ x1 < 6) ∧ zrg (σ10 5 x1) ∧ ((σ10 5 x1 = 0 → fX12_orientBySearch_B107 K k19 ih σ10 x1 x2 x4 x5 r8 (r9 + r10)) ∧ (¬ σ10 5 x1 = 0 → zrg (σ10 8 x1) ∧ ((σ10 8 x1 < r8 → ih σ10 x1 x2 x3 x4 (x5 + 1)) ∧ (¬ σ10 8 x1 < r8 → ((r8 = σ10 8 x1 → zrg (r9 + r10) ∧ zrg x3 ∧ ((r9 + r10 < x3 → fX12_orientBySearch_B107 K k19 ih σ10 x1 x2 x4 x5 r8 (r9 + r10)) ∧ (¬ r9 + r10 < x3 → ih σ10 x1 x2 x3 x4 (x5 + 1)))) ∧ (¬ r8 = σ10 8 x1 → fX12_orientBySearch_B107 K k19 ih σ10 x1 x2 x4 x5 r8 (r9 + r10)))))))) ∧ (¬ 0 ≤ r8 → ih σ10 x1 x2 x3 x4 (x5 + 1)))) σ9 x4) σ8 x5) σ x1 x5 x4))) n
theorem uX12_orientBySearch_B29 (K : zSt → Prop) (k19 : zSt → Int → Int → Int → Int → Prop) (n0 : Nat) (σ : zSt) (x1 : Int) (x2 : Int) (x3 : Int) (x4 : Int) (x5 : Int) : fX12_orientBySearch_B29 K k19 (n0 + 1) σ x1 x2 x3 x4 x5 = (zrg x5 ∧ zrg x2 ∧ ((x2 < x5 → k19 σ x1 x2 x3 (x4 + 1)) ∧ (¬ x2 < x5 → fX12_errorOf (fun r8 σ8 => fX12_absolute (fun r9 σ9 => fX12_absolute (fun r10 σ10 => zrg r8 ∧ ((0 ≤ r8 → (0 ≤ x1 ∧ x1 < 6) ∧ zrg (σ10 5 x1) ∧ ((σ10 5 x1 = 0 → fX12_orientBySearch_B107 K k19 (fX12_orientBySearch_B29 K k19 n0) σ10 x1 x2 x4 x5 r8 (r9 + r10)) ∧ (¬ σ10 5 x1 = 0 → zrg (σ10 8 x1) ∧ ((σ10 8 x1 < r8 → (fX12_orientBySearch_B29 K k19 n0) σ10 x1 x2 x3 x4 (x5 + 1)) ∧ (¬ σ10 8 x1 < r8 → ((r8 = σ10 8 x1 → zrg (r9 + r10) ∧ zrg x3 ∧ ((r9 + r10 < x3 → fX12_orientBySearch_B107 K k19 (fX12_orientBySearch_B29 K k19 n0) σ10 x1 x2 x4 x5 r8 (r9 + r10)) ∧ (¬ r9 + r10 < x3 → (fX12_orientBySearch_B29 K k19 n0) σ10 x1 x2 x3 x4 (x5 + 1)))) ∧ (¬ r8 = σ10 8 x1 → fX12_orientBySearch_B107 K k19 (fX12_orientBySearch_B29 K k19 n0) σ10 x1 x2 x4 x5 r8 (r9 + r10)))))))) ∧ (¬ 0 ≤ r8 → (fX12_orientBySearch_B29 K k19 n0) σ10 x1 x2 x3 x4 (x5 + 1)))) σ9 x4) σ8 x5) σ x1 x5 x4))) := rfl
noncomputable def fX12_orientBySearch_B19 (K : zSt → Prop) (n : Nat) : zSt → Int → Int → Int → Int → Prop :=
  Nat.rec (motive := fun _ => zSt → Int → Int → Int → Int → Prop) (fun _ _ _ _ _ => False) (fun _ ih σ x1 x2 x3 x4 => zrg x4 ∧ zrg x2 ∧ ((x2 < x4 → K σ) ∧ (¬ x2 < x4 → (∃ n, fX12_orientBySearch_B29 K ih n σ x1 x2 x3 x4 (-x2))))) n
theorem uX12_orientBySearch_B19 (K : zSt → Prop) (n0 : Nat) (σ : zSt) (x1 : Int) (x2 : Int) (x3 : Int) (x4 : Int) : fX12_orientBySearch_B19 K (n0 + 1) σ x1 x2 x3 x4 = (zrg x4 ∧ zrg x2 ∧ ((x2 < x4 → K σ) ∧ (¬ x2 < x4 → (∃ n, fX12_orientBySearch_B29 K (fX12_orientBySearch_B19 K n0) n σ x1 x2 x3 x4 (-x2))))) := rfl
def fX12_orientBySearch (K : zSt → Prop) (σ : zSt) (x1 : Int) : Prop :=
  fX12_setting (fun r1 σ1 => (0 ≤ x1 ∧ x1 < 6) ∧ ∀ σ3, σ3 = zu σ1 5 x1 0 → (∃ n, fX12_orientBySearch_B19 K n σ3 x1 r1 0 (-r1))) σ 2
set_option maxHeartbeats 4000000 in
set_option maxRecDepth 100000 in
theorem wX12_orientBySearch_B107 {p : Program} {l : Launch} {e : Env} {s : State} {m : MethodId} {args : Array Value} {below : List Frame} {meth : Method} {c : Code} {D : va_G} {dA : Nat → ClassId} {ad : Nat → Nat} {sz : Nat}  {K : zSt → Prop} {k19 : zSt → Int → Int → Int → Int → Prop} {k29 : zSt → Int → Int → Int → Int → Int → Prop} (hC : zC p m c cX12_orientBySearch 8 s args (Cond.code yX12_orientBySearch cX12_orientBySearch 8 none :: UW) RX12 meth D vwCl (tyA dA) (zA ad NM sz) NM ad (celM ad dA)) (hE : zE zX0 (zA ad NM sz) s s.heap) (hr : meth.sig.returnType = none) (hinj : ∀ i j, i < NM → j < NM → ad i = ad j → i = j) (hk19 : ∀ (σ : zSt) (x1 : Int) (x2 : Int) (x3 : Int) (x4 : Int), k19 σ x1 x2 x3 x4 → zAt p l e ({ frames := 3, cells := 0, slots := 0, locals := 80 } : Room) s m args below meth c 0 0 (MQ below (va_Qv K (zB D vwCl (tyA dA) NM ad (celM ad dA)) (zA ad NM sz)) args s 0 0 (zA ad NM sz)) 8 D vwCl (zA ad NM sz) NM ad (celM ad dA) 19 [(0, vR ad 0), (1, vI x1), (2, vI x2), (3, vI x3), (4, vI x4)] [] σ) (hk29 : ∀ (σ : zSt) (x1 : Int) (x2 : Int) (x3 : Int) (x4 : Int) (x5 : Int), k29 σ x1 x2 x3 x4 x5 → zAt p l e ({ frames := 3, cells := 0, slots := 0, locals := 80 } : Room) s m args below meth c 0 0 (MQ below (va_Qv K (zB D vwCl (tyA dA) NM ad (celM ad dA)) (zA ad NM sz)) args s 0 0 (zA ad NM sz)) 8 D vwCl (zA ad NM sz) NM ad (celM ad dA) 29 [(0, vR ad 0), (1, vI x1), (2, vI x2), (3, vI x3), (4, vI x4), (5, vI x5)] [] σ) {σ : zSt} {x1 : Int} {x2 : Int} {x4 : Int} {x5 : Int} {x6 : Int} {x7 : Int} (hf : fX12_orientBySearch_B107 K k19 k29 σ x1 x2 x4 x5 x6 x7) : zAt p l e ({ frames := 3, cells := 0, slots := 0, locals := 80 } : Room) s m args below meth c 0 0 (MQ below (va_Qv K (zB D vwCl (tyA dA) NM ad (celM ad dA)) (zA ad NM sz)) args s 0 0 (zA ad NM sz)) 8 D vwCl (zA ad NM sz) NM ad (celM ad dA) 107 [(0, vR ad 0), (1, vI x1), (2, vI x2), (4, vI x4), (5, vI x5), (6, vI x6), (7, vI x7)] [] σ := by
  refine z_aload_n hC dX12_orientBySearch_107 0 rfl rfl ?_
  refine z_get hC (fun w h => uT _ w (uL12 w h)) (oM_12 (show kM 0 = 12 by decide)) 18 (by decide) (uT _ _ u1563) rfl rfl dX12_orientBySearch_108 ?_
  refine z_iload_n hC dX12_orientBySearch_111 1 rfl rfl ?_
  refine z_iconst hC dX12_orientBySearch_112 ?_
  obtain ⟨g17, hf⟩ := hf
  refine z_zastore hC (aM_33 (show kM 5 = 33 by decide)) (loM' (show kM 5 = 33 by decide) (by decide)) g17 (Or.inr rfl) dX12_orientBySearch_113 ?_
  obtain ⟨σ18, eσ18⟩ : ∃ z : zSt, z = zu σ 5 x1 1 := ⟨_, rfl⟩
  rw [← eσ18]
  replace hf := hf σ18 eσ18
  refine z_aload_n hC dX12_orientBySearch_114 0 rfl rfl ?_
  refine z_get hC (fun w h => uT _ w (uL12 w h)) (oM_12 (show kM 0 = 12 by decide)) 21 (by decide) (uT _ _ u1566) rfl rfl dX12_orientBySearch_115 ?_
  refine z_iload_n hC dX12_orientBySearch_118 1 rfl rfl ?_
  refine z_iload hC dX12_orientBySearch_119 5 rfl ?_
  refine z_iastore hC (aM_34 (show kM 8 = 34 by decide)) (loM' (show kM 8 = 34 by decide) (by decide)) g17 dX12_orientBySearch_121 ?_
  obtain ⟨σ19, eσ19⟩ : ∃ z : zSt, z = zu σ18 8 x1 x6 := ⟨_, rfl⟩
  rw [← eσ19]
  replace hf := hf σ19 eσ19
  refine z_aload_n hC dX12_orientBySearch_122 0 rfl rfl ?_
  refine z_get hC (fun w h => uT _ w (uL12 w h)) (oM_12 (show kM 0 = 12 by decide)) 19 (by decide) (uT _ _ u1564) rfl rfl dX12_orientBySearch_123 ?_
  refine z_iload_n hC dX12_orientBySearch_126 1 rfl rfl ?_
  refine z_iload hC dX12_orientBySearch_127 4 rfl ?_
  refine z_iastore hC (aM_34 (show kM 6 = 34 by decide)) (loM' (show kM 6 = 34 by decide) (by decide)) g17 dX12_orientBySearch_129 ?_
  obtain ⟨σ20, eσ20⟩ : ∃ z : zSt, z = zu σ19 6 x1 x5 := ⟨_, rfl⟩
  rw [← eσ20]
  replace hf := hf σ20 eσ20
  refine z_aload_n hC dX12_orientBySearch_130 0 rfl rfl ?_
  refine z_get hC (fun w h => uT _ w (uL12 w h)) (oM_12 (show kM 0 = 12 by decide)) 20 (by decide) (uT _ _ u1565) rfl rfl dX12_orientBySearch_131 ?_
  refine z_iload_n hC dX12_orientBySearch_134 1 rfl rfl ?_
  refine z_iload hC dX12_orientBySearch_135 3 rfl ?_
  refine z_iastore hC (aM_34 (show kM 7 = 34 by decide)) (loM' (show kM 7 = 34 by decide) (by decide)) g17 dX12_orientBySearch_137 ?_
  obtain ⟨σ21, eσ21⟩ : ∃ z : zSt, z = zu σ20 7 x1 x4 := ⟨_, rfl⟩
  rw [← eσ21]
  replace hf := hf σ21 eσ21
  refine z_iload hC dX12_orientBySearch_138 6 rfl ?_
  refine z_istore_n hC ([(3, vI x7), (0, vR ad 0), (1, vI x1), (2, vI x2), (4, vI x4), (5, vI x5), (6, vI x6), (7, vI x7)]) dX12_orientBySearch_140 rfl (by decide) rfl ?_
  refine z_iinc hC ([(5, vI (x5 + 1)), (3, vI x7), (0, vR ad 0), (1, vI x1), (2, vI x2), (4, vI x4), (6, vI x6), (7, vI x7)]) dX12_orientBySearch_141 5 rfl (by decide) rfl ?_
  refine z_goto (tgt := 29) hC dX12_orientBySearch_144 (by decide) ?_
  refine z_sub (lv' := [(0, vR ad 0), (1, vI x1), (2, vI x2), (3, vI x7), (4, vI x4), (5, vI (x5 + 1))]) [2, 3, 4, 1, 5, 0] rfl ?_
  exact hk29 _ _ _ _ _ _ hf
set_option maxHeartbeats 4000000 in
set_option maxRecDepth 100000 in
theorem wX12_orientBySearch_B29 {p : Program} {l : Launch} {e : Env} {s : State} {m : MethodId} {args : Array Value} {below : List Frame} {meth : Method} {c : Code} {D : va_G} {dA : Nat → ClassId} {ad : Nat → Nat} {sz : Nat}  {K : zSt → Prop} {k19 : zSt → Int → Int → Int → Int → Prop} (hC : zC p m c cX12_orientBySearch 8 s args (Cond.code yX12_orientBySearch cX12_orientBySearch 8 none :: UW) RX12 meth D vwCl (tyA dA) (zA ad NM sz) NM ad (celM ad dA)) (hE : zE zX0 (zA ad NM sz) s s.heap) (hr : meth.sig.returnType = none) (hinj : ∀ i j, i < NM → j < NM → ad i = ad j → i = j) (hk19 : ∀ (σ : zSt) (x1 : Int) (x2 : Int) (x3 : Int) (x4 : Int), k19 σ x1 x2 x3 x4 → zAt p l e ({ frames := 3, cells := 0, slots := 0, locals := 80 } : Room) s m args below meth c 0 0 (MQ below (va_Qv K (zB D vwCl (tyA dA) NM ad (celM ad dA)) (zA ad NM sz)) args s 0 0 (zA ad NM sz)) 8 D vwCl (zA ad NM sz) NM ad (celM ad dA) 19 [(0, vR ad 0), (1, vI x1), (2, vI x2), (3, vI x3), (4, vI x4)] [] σ) : ∀ (n : Nat) (σ : zSt) (x1 : Int) (x2 : Int) (x3 : Int) (x4 : Int) (x5 : Int), fX12_orientBySearch_B29 K k19 n σ x1 x2 x3 x4 x5 → zAt p l e ({ frames := 3, cells := 0, slots := 0, locals := 80 } : Room) s m args below meth c 0 0 (MQ below (va_Qv K (zB D vwCl (tyA dA) NM ad (celM ad dA)) (zA ad NM sz)) args s 0 0 (zA ad NM sz)) 8 D vwCl (zA ad NM sz) NM ad (celM ad dA) 29 [(0, vR ad 0), (1, vI x1), (2, vI x2), (3, vI x3), (4, vI x4), (5, vI x5)] [] σ := by
  intro n
  induction n with
  | zero => intro σ x1 x2 x3 x4 x5  hf; exact False.elim hf
  | succ n ih =>
    intro σ x1 x2 x3 x4 x5  hf
    rw [uX12_orientBySearch_B29] at hf
    refine z_iload hC dX12_orientBySearch_29 5 rfl ?_
    refine z_iload_n hC dX12_orientBySearch_31 2 rfl rfl ?_
    obtain ⟨g6, hf⟩ := hf
    obtain ⟨g7, hf⟩ := hf
    refine z_icmp_gt (tgt := 147) hC dX12_orientBySearch_32 (by decide) g6 g7 (fun hc => ?_) (fun hc => ?_)
    · replace hf := hf.1 hc
      refine z_iinc hC ([(4, vI (x4 + 1)), (0, vR ad 0), (1, vI x1), (2, vI x2), (3, vI x3), (5, vI x5)]) dX12_orientBySearch_147 4 rfl (by decide) rfl ?_
      refine z_goto (tgt := 19) hC dX12_orientBySearch_150 (by decide) ?_
      refine z_sub (lv' := [(0, vR ad 0), (1, vI x1), (2, vI x2), (3, vI x3), (4, vI (x4 + 1))]) [1, 2, 3, 4, 0] rfl ?_
      exact hk19 _ _ _ _ _ hf
    · replace hf := hf.2 hc
      refine z_aload_n hC dX12_orientBySearch_35 0 rfl rfl ?_
      refine z_iload_n hC dX12_orientBySearch_36 1 rfl rfl ?_
      refine z_iload hC dX12_orientBySearch_37 5 rfl ?_
      refine z_iload hC dX12_orientBySearch_39 4 rfl ?_
      refine z_callVi hC hE (oM_12 (show kM 0 = 12 by decide)) [vI x1, vI x5, vI x4] (fun sz2 => mX12_errorOf l hinj sz2 hf) (cwV 3 hC.1.2.2.2.2 (uV (uT _) u1909 u1911 u69 u118 u1912) rfl rfl rfl (by decide +kernel) ⟨Nat.le_of_ble_eq_true rfl, Nat.le_of_ble_eq_true rfl⟩) rfl rfl (Nat.le_of_ble_eq_true rfl) ⟨Nat.le_of_ble_eq_true rfl, Nat.le_of_ble_eq_true rfl⟩ dX12_orientBySearch_41 (fun r8 σ8 hf => ?_)
      refine z_istore hC ([(6, vI r8), (0, vR ad 0), (1, vI x1), (2, vI x2), (3, vI x3), (4, vI x4), (5, vI x5)]) dX12_orientBySearch_44 (by decide) rfl ?_
      refine z_iload hC dX12_orientBySearch_46 6 rfl ?_
      refine z_callSi hC hE [vI x5] (fun sz2 => mX12_absolute l hinj sz2 hf) (va_cwS 1 hC.1.2.2.2.2 (uS (uT _) u1921 u1922 u118 u1923) rfl rfl rfl (by decide +kernel) ⟨Nat.le_of_ble_eq_true rfl, Nat.le_of_ble_eq_true rfl⟩) rfl rfl (Nat.le_of_ble_eq_true rfl) ⟨Nat.le_of_ble_eq_true rfl, Nat.le_of_ble_eq_true rfl⟩ dX12_orientBySearch_48 (fun r9 σ9 hf => ?_)
      refine z_iload hC dX12_orientBySearch_51 5 rfl ?_
      refine z_callSi hC hE [vI x4] (fun sz2 => mX12_absolute l hinj sz2 hf) (va_cwS 1 hC.1.2.2.2.2 (uS (uT _) u1921 u1922 u118 u1923) rfl rfl rfl (by decide +kernel) ⟨Nat.le_of_ble_eq_true rfl, Nat.le_of_ble_eq_true rfl⟩) rfl rfl (Nat.le_of_ble_eq_true rfl) ⟨Nat.le_of_ble_eq_true rfl, Nat.le_of_ble_eq_true rfl⟩ dX12_orientBySearch_53 (fun r10 σ10 hf => ?_)
      refine z_iadd hC dX12_orientBySearch_56 ?_
      refine z_istore hC ([(7, vI (r9 + r10)), (6, vI r8), (0, vR ad 0), (1, vI x1), (2, vI x2), (3, vI x3), (4, vI x4), (5, vI x5)]) dX12_orientBySearch_57 (by decide) rfl ?_
      refine z_iload hC dX12_orientBySearch_59 1 rfl ?_
      obtain ⟨g11, hf⟩ := hf
      refine z_if_ge (tgt := 67) hC dX12_orientBySearch_61 (by decide) g11 (fun hc => ?_) (fun hc => ?_)
      · replace hf := hf.1 hc
        refine z_aload_n hC dX12_orientBySearch_67 2 rfl rfl ?_
        refine z_get hC (fun w h => uT _ w (uL12 w h)) (oM_12 (show kM 0 = 12 by decide)) 18 (by decide) (uT _ _ u1563) rfl rfl dX12_orientBySearch_68 ?_
        refine z_iload_n hC dX12_orientBySearch_71 3 rfl rfl ?_
        obtain ⟨g12, hf⟩ := hf
        refine z_zaload hC (aM_33 (show kM 5 = 33 by decide)) g12 dX12_orientBySearch_72 ?_
        obtain ⟨g13, hf⟩ := hf
        refine z_if_eq (tgt := 107) hC dX12_orientBySearch_73 (by decide) g13 (fun hc => ?_) (fun hc => ?_)
        · replace hf := hf.1 hc
          refine z_sub (lv' := [(0, vR ad 0), (1, vI x1), (2, vI x2), (4, vI x4), (5, vI x5), (6, vI r8), (7, vI (r9 + r10))]) [2, 3, 4, 6, 7, 1, 0] rfl ?_
          exact wX12_orientBySearch_B107 hC hE hr hinj hk19 ih  hf
        · replace hf := hf.2 hc
          refine z_iload hC dX12_orientBySearch_76 1 rfl ?_
          refine z_aload_n hC dX12_orientBySearch_78 2 rfl rfl ?_
          refine z_get hC (fun w h => uT _ w (uL12 w h)) (oM_12 (show kM 0 = 12 by decide)) 21 (by decide) (uT _ _ u1566) rfl rfl dX12_orientBySearch_79 ?_
          refine z_iload_n hC dX12_orientBySearch_82 3 rfl rfl ?_
          refine z_iaload hC (aM_34 (show kM 8 = 34 by decide)) g12 dX12_orientBySearch_83 ?_
          obtain ⟨g14, hf⟩ := hf
          refine z_icmp_gt (tgt := 141) hC dX12_orientBySearch_84 (by decide) g11 g14 (fun hc => ?_) (fun hc => ?_)
          · replace hf := hf.1 hc
            refine z_iinc hC ([(5, vI (x5 + 1)), (7, vI (r9 + r10)), (6, vI r8), (0, vR ad 0), (1, vI x1), (2, vI x2), (3, vI x3), (4, vI x4)]) dX12_orientBySearch_141 7 rfl (by decide) rfl ?_
            refine z_goto (tgt := 29) hC dX12_orientBySearch_144 (by decide) ?_
            refine z_sub (lv' := [(0, vR ad 0), (1, vI x1), (2, vI x2), (3, vI x3), (4, vI x4), (5, vI (x5 + 1))]) [3, 4, 5, 6, 7, 0] rfl ?_
            exact ih _ _ _ _ _ _ hf
          · replace hf := hf.2 hc
            refine z_iload hC dX12_orientBySearch_87 1 rfl ?_
            refine z_aload_n hC dX12_orientBySearch_89 2 rfl rfl ?_
            refine z_get hC (fun w h => uT _ w (uL12 w h)) (oM_12 (show kM 0 = 12 by decide)) 21 (by decide) (uT _ _ u1566) rfl rfl dX12_orientBySearch_90 ?_
            refine z_iload_n hC dX12_orientBySearch_93 3 rfl rfl ?_
            refine z_iaload hC (aM_34 (show kM 8 = 34 by decide)) g12 dX12_orientBySearch_94 ?_
            refine z_icmp_ne (tgt := 107) hC dX12_orientBySearch_95 (by decide) g11 g14 (fun hc => ?_) (fun hc => ?_)
            · replace hf := hf.2 hc
              refine z_sub (lv' := [(0, vR ad 0), (1, vI x1), (2, vI x2), (4, vI x4), (5, vI x5), (6, vI r8), (7, vI (r9 + r10))]) [2, 3, 4, 6, 7, 1, 0] rfl ?_
              exact wX12_orientBySearch_B107 hC hE hr hinj hk19 ih  hf
            · replace hf := hf.1 hc
              refine z_iload hC dX12_orientBySearch_98 0 rfl ?_
              refine z_iload_n hC dX12_orientBySearch_100 5 rfl rfl ?_
              obtain ⟨g15, hf⟩ := hf
              obtain ⟨g16, hf⟩ := hf
              refine z_icmp_lt (tgt := 107) hC dX12_orientBySearch_101 (by decide) g15 g16 (fun hc => ?_) (fun hc => ?_)
              · replace hf := hf.1 hc
                refine z_sub (lv' := [(0, vR ad 0), (1, vI x1), (2, vI x2), (4, vI x4), (5, vI x5), (6, vI r8), (7, vI (r9 + r10))]) [2, 3, 4, 6, 7, 1, 0] rfl ?_
                exact wX12_orientBySearch_B107 hC hE hr hinj hk19 ih  hf
              · replace hf := hf.2 hc
                refine z_goto (tgt := 141) hC dX12_orientBySearch_104 (by decide) ?_
                refine z_iinc hC ([(5, vI (x5 + 1)), (7, vI (r9 + r10)), (6, vI r8), (0, vR ad 0), (1, vI x1), (2, vI x2), (3, vI x3), (4, vI x4)]) dX12_orientBySearch_141 7 rfl (by decide) rfl ?_
                refine z_goto (tgt := 29) hC dX12_orientBySearch_144 (by decide) ?_
                refine z_sub (lv' := [(0, vR ad 0), (1, vI x1), (2, vI x2), (3, vI x3), (4, vI x4), (5, vI (x5 + 1))]) [3, 4, 5, 6, 7, 0] rfl ?_
                exact ih _ _ _ _ _ _ hf
      · replace hf := hf.2 hc
        refine z_goto (tgt := 141) hC dX12_orientBySearch_64 (by decide) ?_
        refine z_iinc hC ([(5, vI (x5 + 1)), (7, vI (r9 + r10)), (6, vI r8), (0, vR ad 0), (1, vI x1), (2, vI x2), (3, vI x3), (4, vI x4)]) dX12_orientBySearch_141 7 rfl (by decide) rfl ?_
        refine z_goto (tgt := 29) hC dX12_orientBySearch_144 (by decide) ?_
        refine z_sub (lv' := [(0, vR ad 0), (1, vI x1), (2, vI x2), (3, vI x3), (4, vI x4), (5, vI (x5 + 1))]) [3, 4, 5, 6, 7, 0] rfl ?_
        exact ih _ _ _ _ _ _ hf
set_option maxHeartbeats 4000000 in
set_option maxRecDepth 100000 in
theorem wX12_orientBySearch_B19 {p : Program} {l : Launch} {e : Env} {s : State} {m : MethodId} {args : Array Value} {below : List Frame} {meth : Method} {c : Code} {D : va_G} {dA : Nat → ClassId} {ad : Nat → Nat} {sz : Nat}  {K : zSt → Prop} (hC : zC p m c cX12_orientBySearch 8 s args (Cond.code yX12_orientBySearch cX12_orientBySearch 8 none :: UW) RX12 meth D vwCl (tyA dA) (zA ad NM sz) NM ad (celM ad dA)) (hE : zE zX0 (zA ad NM sz) s s.heap) (hr : meth.sig.returnType = none) (hinj : ∀ i j, i < NM → j < NM → ad i = ad j → i = j) : ∀ (n : Nat) (σ : zSt) (x1 : Int) (x2 : Int) (x3 : Int) (x4 : Int), fX12_orientBySearch_B19 K n σ x1 x2 x3 x4 → zAt p l e ({ frames := 3, cells := 0, slots := 0, locals := 80 } : Room) s m args below meth c 0 0 (MQ below (va_Qv K (zB D vwCl (tyA dA) NM ad (celM ad dA)) (zA ad NM sz)) args s 0 0 (zA ad NM sz)) 8 D vwCl (zA ad NM sz) NM ad (celM ad dA) 19 [(0, vR ad 0), (1, vI x1), (2, vI x2), (3, vI x3), (4, vI x4)] [] σ := by
  intro n
  induction n with
  | zero => intro σ x1 x2 x3 x4  hf; exact False.elim hf
  | succ n ih =>
    intro σ x1 x2 x3 x4  hf
    rw [uX12_orientBySearch_B19] at hf
    refine z_iload hC dX12_orientBySearch_19 4 rfl ?_
    refine z_iload_n hC dX12_orientBySearch_21 2 rfl rfl ?_
    obtain ⟨g4, hf⟩ := hf
    obtain ⟨g5, hf⟩ := hf
    refine z_icmp_gt (tgt := 153) hC dX12_orientBySearch_22 (by decide) g4 g5 (fun hc => ?_) (fun hc => ?_)
    · replace hf := hf.1 hc
      exact z_vret hC hr rfl dX12_orientBySearch_153 hf
    · replace hf := hf.2 hc
      refine z_iload_n hC dX12_orientBySearch_25 2 rfl rfl ?_
      refine z_ineg hC dX12_orientBySearch_26 ?_
      refine z_istore hC ([(5, vI (-x2)), (0, vR ad 0), (1, vI x1), (2, vI x2), (3, vI x3), (4, vI x4)]) dX12_orientBySearch_27 (by decide) rfl ?_
      refine z_sub (lv' := [(0, vR ad 0), (1, vI x1), (2, vI x2), (3, vI x3), (4, vI x4), (5, vI (-x2))]) [1, 2, 3, 4, 5, 0] rfl ?_
      obtain ⟨n, hf⟩ := hf
      exact wX12_orientBySearch_B29 hC hE hr hinj ih n _ _ _ _ _ _ hf
set_option maxHeartbeats 4000000 in
set_option maxRecDepth 100000 in
theorem mX12_orientBySearch {D : va_G} {dA : Nat → ClassId} {ad : Nat → Nat}  (l : Launch) (hinj : ∀ i j, i < NM → j < NM → ad i = ad j → i = j) (sz : Nat) {K : zSt → Prop} {σ : zSt} {x1 : Int} (hf : fX12_orientBySearch K σ x1) : Met l yX12_orientBySearch (Cond.code yX12_orientBySearch cX12_orientBySearch 8 none :: UW) ({ frames := 3, cells := 0, slots := 0, locals := 80 } : Room) (va_Pc [vR ad 0, vI x1] (zPre D vwCl (tyA dA) zX0 NM ad (celM ad dA) sz σ)) (va_Qv K (zB D vwCl (tyA dA) NM ad (celM ad dA)) (zA ad NM sz)) 0 0 (zA ad NM sz) := by
  refine z_enter (cc := cX12_orientBySearch) (maxL := 8) (ret := none) (vs := [vR ad 0, vI x1]) (plainFor_of_name (by decide)) rfl hinj (Nat.le_of_ble_eq_true rfl) ?_
  intro p e s m args below meth c hC hE hsz hr hnm
  show zAt p l e ({ frames := 3, cells := 0, slots := 0, locals := 80 } : Room) s m args below meth c 0 0 (MQ below (va_Qv K (zB D vwCl (tyA dA) NM ad (celM ad dA)) (zA ad NM sz)) args s 0 0 (zA ad NM sz)) 8 D vwCl (zA ad NM sz) NM ad (celM ad dA) 0 [(0, vR ad 0), (1, vI x1)] [] σ
  refine z_aload_n hC dX12_orientBySearch_0 0 rfl rfl ?_
  refine z_iconst hC dX12_orientBySearch_1 ?_
  refine z_callVi hC hE (oM_12 (show kM 0 = 12 by decide)) [vI 2] (fun sz2 => mX12_setting l hinj sz2 hf) (cwV 1 hC.1.2.2.2.2 (uV (uT _) u1813 u1815 u55 u118 u1816) rfl rfl rfl (by decide +kernel) ⟨Nat.le_of_ble_eq_true rfl, Nat.le_of_ble_eq_true rfl⟩) rfl rfl (Nat.le_of_ble_eq_true rfl) ⟨Nat.le_of_ble_eq_true rfl, Nat.le_of_ble_eq_true rfl⟩ dX12_orientBySearch_2 (fun r1 σ1 hf => ?_)
  refine z_istore_n hC ([(2, vI r1), (0, vR ad 0), (1, vI x1)]) dX12_orientBySearch_5 rfl (by decide) rfl ?_
  refine z_iconst hC dX12_orientBySearch_6 ?_
  refine z_istore_n hC ([(3, vI 0), (2, vI r1), (0, vR ad 0), (1, vI x1)]) dX12_orientBySearch_7 rfl (by decide) rfl ?_
  refine z_aload_n hC dX12_orientBySearch_8 2 rfl rfl ?_
  refine z_get hC (fun w h => uT _ w (uL12 w h)) (oM_12 (show kM 0 = 12 by decide)) 18 (by decide) (uT _ _ u1563) rfl rfl dX12_orientBySearch_9 ?_
  refine z_iload_n hC dX12_orientBySearch_12 3 rfl rfl ?_
  refine z_iconst hC dX12_orientBySearch_13 ?_
  obtain ⟨g2, hf⟩ := hf
  refine z_zastore hC (aM_33 (show kM 5 = 33 by decide)) (loM' (show kM 5 = 33 by decide) (by decide)) g2 (Or.inl rfl) dX12_orientBySearch_14 ?_
  obtain ⟨σ3, eσ3⟩ : ∃ z : zSt, z = zu σ1 5 x1 0 := ⟨_, rfl⟩
  rw [← eσ3]
  replace hf := hf σ3 eσ3
  refine z_iload_n hC dX12_orientBySearch_15 1 rfl rfl ?_
  refine z_ineg hC dX12_orientBySearch_16 ?_
  refine z_istore hC ([(4, vI (-r1)), (3, vI 0), (2, vI r1), (0, vR ad 0), (1, vI x1)]) dX12_orientBySearch_17 (by decide) rfl ?_
  refine z_sub (lv' := [(0, vR ad 0), (1, vI x1), (2, vI r1), (3, vI 0), (4, vI (-r1))]) [3, 4, 2, 1, 0] rfl ?_
  obtain ⟨n, hf⟩ := hf
  exact wX12_orientBySearch_B19 hC hE hr hinj n _ _ _ _ _ hf

-- ===== X12_orient
def fX12_orient_B38 (K : zSt → Prop) (k10 : zSt → Int → Prop) (σ : zSt) (x1 : Int) (s0 : Int) (s1 : Int) : Prop :=
  (0 ≤ s1 ∧ s1 < 6) ∧ (s0 = 0 ∨ s0 = 1) ∧ ∀ σ8, σ8 = zu σ 5 s1 s0 → (0 ≤ x1 ∧ x1 < 6) ∧ ∀ σ10, σ10 = zu σ8 6 x1 0 → ∀ σ11, σ11 = zu σ10 7 x1 0 → ∀ σ12, σ12 = zu σ11 8 x1 0 → zrg x1 ∧ zrg (σ12 0 17) ∧ ((x1 = σ12 0 17 → k10 σ12 (x1 + 1)) ∧ (¬ x1 = σ12 0 17 → fX12_usable (fun r15 σ15 => zrg r15 ∧ ((r15 = 0 → k10 σ15 (x1 + 1)) ∧ (¬ r15 = 0 → fX12_orientBySearch (fun σ17 => k10 σ17 (x1 + 1)) σ15 x1))) σ12 x1))
noncomputable def fX12_orient_B10 (K : zSt → Prop) (n : Nat) : zSt → Int → Prop :=
  Nat.rec (motive := fun _ => zSt → Int → Prop) (fun _ _ => False) (fun _ ih σ x1 => zrg x1 ∧ zrg (σ 1 2) ∧ ((σ 1 2 ≤ x1 → K σ) ∧ (¬ σ 1 2 ≤ x1 → zrg (σ 0 17) ∧ ((x1 = σ 0 17 → fX12_orient_B38 K ih σ x1 1 x1) ∧ (¬ x1 = σ 0 17 → fX12_orient_B38 K ih σ x1 0 x1))))) n
theorem uX12_orient_B10 (K : zSt → Prop) (n0 : Nat) (σ : zSt) (x1 : Int) : fX12_orient_B10 K (n0 + 1) σ x1 = (zrg x1 ∧ zrg (σ 1 2) ∧ ((σ 1 2 ≤ x1 → K σ) ∧ (¬ σ 1 2 ≤ x1 → zrg (σ 0 17) ∧ ((x1 = σ 0 17 → fX12_orient_B38 K (fX12_orient_B10 K n0) σ x1 1 x1) ∧ (¬ x1 = σ 0 17 → fX12_orient_B38 K (fX12_orient_B10 K n0) σ x1 0 x1))))) := rfl
def fX12_orient (K : zSt → Prop) (σ : zSt) : Prop :=
  fX12_reference (fun r1 σ1 => ∀ σ2, σ2 = zu σ1 0 17 r1 → (∃ n, fX12_orient_B10 K n σ2 0)) σ 
set_option maxHeartbeats 4000000 in
set_option maxRecDepth 100000 in
theorem wX12_orient_B38 {p : Program} {l : Launch} {e : Env} {s : State} {m : MethodId} {args : Array Value} {below : List Frame} {meth : Method} {c : Code} {D : va_G} {dA : Nat → ClassId} {ad : Nat → Nat} {sz : Nat}  {K : zSt → Prop} {k10 : zSt → Int → Prop} (hC : zC p m c cX12_orient 2 s args (Cond.code yX12_orient cX12_orient 2 none :: UW) RX12 meth D vwCl (tyA dA) (zA ad NM sz) NM ad (celM ad dA)) (hE : zE zX0 (zA ad NM sz) s s.heap) (hr : meth.sig.returnType = none) (hinj : ∀ i j, i < NM → j < NM → ad i = ad j → i = j) (hk10 : ∀ (σ : zSt) (x1 : Int), k10 σ x1 → zAt p l e ({ frames := 4, cells := 0, slots := 0, locals := 107 } : Room) s m args below meth c 0 0 (MQ below (va_Qv K (zB D vwCl (tyA dA) NM ad (celM ad dA)) (zA ad NM sz)) args s 0 0 (zA ad NM sz)) 2 D vwCl (zA ad NM sz) NM ad (celM ad dA) 10 [(0, vR ad 0), (1, vI x1)] [] σ) {σ : zSt} {x1 : Int} {s0 : Int} {s1 : Int} (hf : fX12_orient_B38 K k10 σ x1 s0 s1) : zAt p l e ({ frames := 4, cells := 0, slots := 0, locals := 107 } : Room) s m args below meth c 0 0 (MQ below (va_Qv K (zB D vwCl (tyA dA) NM ad (celM ad dA)) (zA ad NM sz)) args s 0 0 (zA ad NM sz)) 2 D vwCl (zA ad NM sz) NM ad (celM ad dA) 38 [(0, vR ad 0), (1, vI x1)] [vI s0, vI s1, vR ad 5] σ := by
  obtain ⟨g6, hf⟩ := hf
  obtain ⟨g7, hf⟩ := hf
  refine z_zastore hC (aM_33 (show kM 5 = 33 by decide)) (loM' (show kM 5 = 33 by decide) (by decide)) g6 g7 dX12_orient_38 ?_
  obtain ⟨σ8, eσ8⟩ : ∃ z : zSt, z = zu σ 5 s1 s0 := ⟨_, rfl⟩
  rw [← eσ8]
  replace hf := hf σ8 eσ8
  refine z_aload_n hC dX12_orient_39 0 rfl rfl ?_
  refine z_get hC (fun w h => uT _ w (uL12 w h)) (oM_12 (show kM 0 = 12 by decide)) 19 (by decide) (uT _ _ u1564) rfl rfl dX12_orient_40 ?_
  refine z_iload_n hC dX12_orient_43 1 rfl rfl ?_
  refine z_iconst hC dX12_orient_44 ?_
  obtain ⟨g9, hf⟩ := hf
  refine z_iastore hC (aM_34 (show kM 6 = 34 by decide)) (loM' (show kM 6 = 34 by decide) (by decide)) g9 dX12_orient_45 ?_
  obtain ⟨σ10, eσ10⟩ : ∃ z : zSt, z = zu σ8 6 x1 0 := ⟨_, rfl⟩
  rw [← eσ10]
  replace hf := hf σ10 eσ10
  refine z_aload_n hC dX12_orient_46 0 rfl rfl ?_
  refine z_get hC (fun w h => uT _ w (uL12 w h)) (oM_12 (show kM 0 = 12 by decide)) 20 (by decide) (uT _ _ u1565) rfl rfl dX12_orient_47 ?_
  refine z_iload_n hC dX12_orient_50 1 rfl rfl ?_
  refine z_iconst hC dX12_orient_51 ?_
  refine z_iastore hC (aM_34 (show kM 7 = 34 by decide)) (loM' (show kM 7 = 34 by decide) (by decide)) g9 dX12_orient_52 ?_
  obtain ⟨σ11, eσ11⟩ : ∃ z : zSt, z = zu σ10 7 x1 0 := ⟨_, rfl⟩
  rw [← eσ11]
  replace hf := hf σ11 eσ11
  refine z_aload_n hC dX12_orient_53 0 rfl rfl ?_
  refine z_get hC (fun w h => uT _ w (uL12 w h)) (oM_12 (show kM 0 = 12 by decide)) 21 (by decide) (uT _ _ u1566) rfl rfl dX12_orient_54 ?_
  refine z_iload_n hC dX12_orient_57 1 rfl rfl ?_
  refine z_iconst hC dX12_orient_58 ?_
  refine z_iastore hC (aM_34 (show kM 8 = 34 by decide)) (loM' (show kM 8 = 34 by decide) (by decide)) g9 dX12_orient_59 ?_
  obtain ⟨σ12, eσ12⟩ : ∃ z : zSt, z = zu σ11 8 x1 0 := ⟨_, rfl⟩
  rw [← eσ12]
  replace hf := hf σ12 eσ12
  refine z_iload_n hC dX12_orient_60 1 rfl rfl ?_
  refine z_aload_n hC dX12_orient_61 0 rfl rfl ?_
  refine z_get hC (fun w h => uT _ w (uL12 w h)) (oM_12 (show kM 0 = 12 by decide)) 17 (by decide) (uT _ _ u1562) rfl rfl dX12_orient_62 ?_
  obtain ⟨g13, hf⟩ := hf
  obtain ⟨g14, hf⟩ := hf
  refine z_icmp_eq (tgt := 81) hC dX12_orient_65 (by decide) g13 g14 (fun hc => ?_) (fun hc => ?_)
  · replace hf := hf.1 hc
    refine z_iinc hC ([(1, vI (x1 + 1)), (0, vR ad 0)]) dX12_orient_81 1 rfl (by decide) rfl ?_
    refine z_goto (tgt := 10) hC dX12_orient_84 (by decide) ?_
    refine z_sub (lv' := [(0, vR ad 0), (1, vI (x1 + 1))]) [1, 0] rfl ?_
    exact hk10 _ _ hf
  · replace hf := hf.2 hc
    refine z_aload_n hC dX12_orient_68 0 rfl rfl ?_
    refine z_iload_n hC dX12_orient_69 1 rfl rfl ?_
    refine z_callVi hC hE (oM_12 (show kM 0 = 12 by decide)) [vI x1] (fun sz2 => mX12_usable l hinj sz2 hf) (cwV 1 hC.1.2.2.2.2 (uV (uT _) u1881 u1883 u64 u118 u1884) rfl rfl rfl (by decide +kernel) ⟨Nat.le_of_ble_eq_true rfl, Nat.le_of_ble_eq_true rfl⟩) rfl rfl (Nat.le_of_ble_eq_true rfl) ⟨Nat.le_of_ble_eq_true rfl, Nat.le_of_ble_eq_true rfl⟩ dX12_orient_70 (fun r15 σ15 hf => ?_)
    obtain ⟨g16, hf⟩ := hf
    refine z_if_eq (tgt := 81) hC dX12_orient_73 (by decide) g16 (fun hc => ?_) (fun hc => ?_)
    · replace hf := hf.1 hc
      refine z_iinc hC ([(1, vI (x1 + 1)), (0, vR ad 0)]) dX12_orient_81 1 rfl (by decide) rfl ?_
      refine z_goto (tgt := 10) hC dX12_orient_84 (by decide) ?_
      refine z_sub (lv' := [(0, vR ad 0), (1, vI (x1 + 1))]) [1, 0] rfl ?_
      exact hk10 _ _ hf
    · replace hf := hf.2 hc
      refine z_aload_n hC dX12_orient_76 0 rfl rfl ?_
      refine z_iload_n hC dX12_orient_77 1 rfl rfl ?_
      refine z_callVv hC hE (oM_12 (show kM 0 = 12 by decide)) [vI x1] (fun sz2 => mX12_orientBySearch l hinj sz2 hf) (cwV 1 hC.1.2.2.2.2 (uV (uT _) u1905 u1907 u68 u118 u1908) rfl rfl rfl (by decide +kernel) ⟨Nat.le_of_ble_eq_true rfl, Nat.le_of_ble_eq_true rfl⟩) rfl rfl (Nat.le_of_ble_eq_true rfl) ⟨Nat.le_of_ble_eq_true rfl, Nat.le_of_ble_eq_true rfl⟩ dX12_orient_78 (fun σ17 hf => ?_)
      refine z_iinc hC ([(1, vI (x1 + 1)), (0, vR ad 0)]) dX12_orient_81 1 rfl (by decide) rfl ?_
      refine z_goto (tgt := 10) hC dX12_orient_84 (by decide) ?_
      refine z_sub (lv' := [(0, vR ad 0), (1, vI (x1 + 1))]) [1, 0] rfl ?_
      exact hk10 _ _ hf
set_option maxHeartbeats 4000000 in
set_option maxRecDepth 100000 in
theorem wX12_orient_B10 {p : Program} {l : Launch} {e : Env} {s : State} {m : MethodId} {args : Array Value} {below : List Frame} {meth : Method} {c : Code} {D : va_G} {dA : Nat → ClassId} {ad : Nat → Nat} {sz : Nat}  {K : zSt → Prop} (hC : zC p m c cX12_orient 2 s args (Cond.code yX12_orient cX12_orient 2 none :: UW) RX12 meth D vwCl (tyA dA) (zA ad NM sz) NM ad (celM ad dA)) (hE : zE zX0 (zA ad NM sz) s s.heap) (hr : meth.sig.returnType = none) (hinj : ∀ i j, i < NM → j < NM → ad i = ad j → i = j) : ∀ (n : Nat) (σ : zSt) (x1 : Int), fX12_orient_B10 K n σ x1 → zAt p l e ({ frames := 4, cells := 0, slots := 0, locals := 107 } : Room) s m args below meth c 0 0 (MQ below (va_Qv K (zB D vwCl (tyA dA) NM ad (celM ad dA)) (zA ad NM sz)) args s 0 0 (zA ad NM sz)) 2 D vwCl (zA ad NM sz) NM ad (celM ad dA) 10 [(0, vR ad 0), (1, vI x1)] [] σ := by
  intro n
  induction n with
  | zero => intro σ x1  hf; exact False.elim hf
  | succ n ih =>
    intro σ x1  hf
    rw [uX12_orient_B10] at hf
    refine z_iload_n hC dX12_orient_10 1 rfl rfl ?_
    refine z_aload_n hC dX12_orient_11 0 rfl rfl ?_
    refine z_get hC (fun w h => uT _ w (uL12 w h)) (oM_12 (show kM 0 = 12 by decide)) 0 (by decide) (uT _ _ u1545) rfl rfl dX12_orient_12 ?_
    refine z_iconst hC dX12_orient_15 ?_
    refine z_iaload hC (aM_30 (show kM 1 = 30 by decide)) ⟨by decide, by decide⟩ dX12_orient_16 ?_
    obtain ⟨g3, hf⟩ := hf
    obtain ⟨g4, hf⟩ := hf
    refine z_icmp_ge (tgt := 87) hC dX12_orient_17 (by decide) g3 g4 (fun hc => ?_) (fun hc => ?_)
    · replace hf := hf.1 hc
      exact z_vret hC hr rfl dX12_orient_87 hf
    · replace hf := hf.2 hc
      refine z_aload_n hC dX12_orient_20 0 rfl rfl ?_
      refine z_get hC (fun w h => uT _ w (uL12 w h)) (oM_12 (show kM 0 = 12 by decide)) 18 (by decide) (uT _ _ u1563) rfl rfl dX12_orient_21 ?_
      refine z_iload_n hC dX12_orient_24 1 rfl rfl ?_
      refine z_iload_n hC dX12_orient_25 1 rfl rfl ?_
      refine z_aload_n hC dX12_orient_26 0 rfl rfl ?_
      refine z_get hC (fun w h => uT _ w (uL12 w h)) (oM_12 (show kM 0 = 12 by decide)) 17 (by decide) (uT _ _ u1562) rfl rfl dX12_orient_27 ?_
      obtain ⟨g5, hf⟩ := hf
      refine z_icmp_ne (tgt := 37) hC dX12_orient_30 (by decide) g3 g5 (fun hc => ?_) (fun hc => ?_)
      · replace hf := hf.2 hc
        refine z_iconst hC dX12_orient_37 ?_
        exact wX12_orient_B38 hC hE hr hinj ih  hf
      · replace hf := hf.1 hc
        refine z_iconst hC dX12_orient_33 ?_
        refine z_goto (tgt := 38) hC dX12_orient_34 (by decide) ?_
        exact wX12_orient_B38 hC hE hr hinj ih  hf
set_option maxHeartbeats 4000000 in
set_option maxRecDepth 100000 in
theorem mX12_orient {D : va_G} {dA : Nat → ClassId} {ad : Nat → Nat}  (l : Launch) (hinj : ∀ i j, i < NM → j < NM → ad i = ad j → i = j) (sz : Nat) {K : zSt → Prop} {σ : zSt} (hf : fX12_orient K σ ) : Met l yX12_orient (Cond.code yX12_orient cX12_orient 2 none :: UW) ({ frames := 4, cells := 0, slots := 0, locals := 107 } : Room) (va_Pc [vR ad 0] (zPre D vwCl (tyA dA) zX0 NM ad (celM ad dA) sz σ)) (va_Qv K (zB D vwCl (tyA dA) NM ad (celM ad dA)) (zA ad NM sz)) 0 0 (zA ad NM sz) := by
  refine z_enter (cc := cX12_orient) (maxL := 2) (ret := none) (vs := [vR ad 0]) (plainFor_of_name (by decide)) rfl hinj (Nat.le_of_ble_eq_true rfl) ?_
  intro p e s m args below meth c hC hE hsz hr hnm
  show zAt p l e ({ frames := 4, cells := 0, slots := 0, locals := 107 } : Room) s m args below meth c 0 0 (MQ below (va_Qv K (zB D vwCl (tyA dA) NM ad (celM ad dA)) (zA ad NM sz)) args s 0 0 (zA ad NM sz)) 2 D vwCl (zA ad NM sz) NM ad (celM ad dA) 0 [(0, vR ad 0)] [] σ
  refine z_aload_n hC dX12_orient_0 0 rfl rfl ?_
  refine z_aload_n hC dX12_orient_1 0 rfl rfl ?_
  refine z_callVi hC hE (oM_12 (show kM 0 = 12 by decide)) [] (fun sz2 => mX12_reference l hinj sz2 hf) (cwV 0 hC.1.2.2.2.2 (uV (uT _) u1889 u1891 u65 u118 u1892) rfl rfl rfl (by decide +kernel) ⟨Nat.le_of_ble_eq_true rfl, Nat.le_of_ble_eq_true rfl⟩) rfl rfl (Nat.le_of_ble_eq_true rfl) ⟨Nat.le_of_ble_eq_true rfl, Nat.le_of_ble_eq_true rfl⟩ dX12_orient_2 (fun r1 σ1 hf => ?_)
  refine z_put hC (ty := .int) tyX12 tyX12_ok nmX12 (fun w h => uT _ w (uL12 w h)) (oM_12 (show kM 0 = 12 by decide)) (loM' (show kM 0 = 12 by decide) (by decide)) 17 (by decide) (uT _ _ u1562) rfl rfl (17) (r1) (by simp [zu]) (by decide +kernel) rfl rfl (Nat.le_of_ble_eq_true rfl) dX12_orient_5 ?_
  obtain ⟨σ2, eσ2⟩ : ∃ z : zSt, z = zu σ1 0 17 r1 := ⟨_, rfl⟩
  rw [← eσ2]
  replace hf := hf σ2 eσ2
  refine z_iconst hC dX12_orient_8 ?_
  refine z_istore_n hC ([(1, vI 0), (0, vR ad 0)]) dX12_orient_9 rfl (by decide) rfl ?_
  refine z_sub (lv' := [(0, vR ad 0), (1, vI 0)]) [1, 0] rfl ?_
  obtain ⟨n, hf⟩ := hf
  exact wX12_orient_B10 hC hE hr hinj n _ _ hf

-- ===== X12_noFrame
def fX12_noFrame (K : Int → zSt → Prop) (σ : zSt) (x1 : Int) : Prop :=
  fX12_orient (fun σ1 => fX12_isFrame (fun r2 σ2 => fX12_fails (fun r3 σ3 => (r3 = 0 ∨ r3 = 1) ∧ K r3 σ3) σ2 r2) σ1 x1) σ 
set_option maxHeartbeats 4000000 in
set_option maxRecDepth 100000 in
theorem mX12_noFrame {D : va_G} {dA : Nat → ClassId} {ad : Nat → Nat}  (l : Launch) (hinj : ∀ i j, i < NM → j < NM → ad i = ad j → i = j) (sz : Nat) {K : Int → zSt → Prop} {σ : zSt} {x1 : Int} (hf : fX12_noFrame K σ x1) : Met l yX12_noFrame (Cond.code yX12_noFrame cX12_noFrame 2 (some .boolean) :: UW) ({ frames := 5, cells := 0, slots := 0, locals := 128 } : Room) (va_Pc [vR ad 0, vI x1] (zPre D vwCl (tyA dA) zX0 NM ad (celM ad dA) sz σ)) (va_Qi (zPi K) (zB D vwCl (tyA dA) NM ad (celM ad dA)) (zA ad NM sz)) 0 0 (zA ad NM sz) := by
  refine z_enter (cc := cX12_noFrame) (maxL := 2) (ret := (some .boolean)) (vs := [vR ad 0, vI x1]) (plainFor_of_name (by decide)) rfl hinj (Nat.le_of_ble_eq_true rfl) ?_
  intro p e s m args below meth c hC hE hsz hr hnm
  show zAt p l e ({ frames := 5, cells := 0, slots := 0, locals := 128 } : Room) s m args below meth c 0 0 (MQ below (va_Qi (zPi K) (zB D vwCl (tyA dA) NM ad (celM ad dA)) (zA ad NM sz)) args s 0 0 (zA ad NM sz)) 2 D vwCl (zA ad NM sz) NM ad (celM ad dA) 0 [(0, vR ad 0), (1, vI x1)] [] σ
  refine z_aload_n hC dX12_noFrame_0 0 rfl rfl ?_
  refine z_callVv hC hE (oM_12 (show kM 0 = 12 by decide)) [] (fun sz2 => mX12_orient l hinj sz2 hf) (cwV 0 hC.1.2.2.2.2 (uV (uT _) u1901 u1903 u67 u118 u1904) rfl rfl rfl (by decide +kernel) ⟨Nat.le_of_ble_eq_true rfl, Nat.le_of_ble_eq_true rfl⟩) rfl rfl (Nat.le_of_ble_eq_true rfl) ⟨Nat.le_of_ble_eq_true rfl, Nat.le_of_ble_eq_true rfl⟩ dX12_noFrame_1 (fun σ1 hf => ?_)
  refine z_aload_n hC dX12_noFrame_4 0 rfl rfl ?_
  refine z_aload_n hC dX12_noFrame_5 0 rfl rfl ?_
  refine z_iload_n hC dX12_noFrame_6 1 rfl rfl ?_
  refine z_callVi hC hE (oM_12 (show kM 0 = 12 by decide)) [vI x1] (fun sz2 => mX12_isFrame l hinj sz2 hf) (cwV 1 hC.1.2.2.2.2 (uV (uT _) u1829 u1831 u57 u118 u1832) rfl rfl rfl (by decide +kernel) ⟨Nat.le_of_ble_eq_true rfl, Nat.le_of_ble_eq_true rfl⟩) rfl rfl (Nat.le_of_ble_eq_true rfl) ⟨Nat.le_of_ble_eq_true rfl, Nat.le_of_ble_eq_true rfl⟩ dX12_noFrame_7 (fun r2 σ2 hf => ?_)
  refine z_callVi hC hE (oM_12 (show kM 0 = 12 by decide)) [vI r2] (fun sz2 => mX12_fails l hinj sz2 hf) (cwV 1 hC.1.2.2.2.2 (uV (uT _) u1833 u1835 u58 u118 u1836) rfl rfl rfl (by decide +kernel) ⟨Nat.le_of_ble_eq_true rfl, Nat.le_of_ble_eq_true rfl⟩) rfl rfl (Nat.le_of_ble_eq_true rfl) ⟨Nat.le_of_ble_eq_true rfl, Nat.le_of_ble_eq_true rfl⟩ dX12_noFrame_10 (fun r3 σ3 hf => ?_)
  obtain ⟨g4, hf⟩ := hf
  exact z_bret hC hr rfl dX12_noFrame_13 g4 hf

-- ===== X12_isOriented
def fX12_isOriented (K : Int → zSt → Prop) (σ : zSt) (x1 : Int) : Prop :=
  fX12_noFrame (fun r1 σ1 => zrg r1 ∧ ((r1 = 0 → (0 ≤ x1 ∧ x1 < 6) ∧ zrg (σ1 5 x1) ∧ ((σ1 5 x1 = 0 → K 0 σ1) ∧ (¬ σ1 5 x1 = 0 → K 1 σ1))) ∧ (¬ r1 = 0 → K 0 σ1))) σ x1
set_option maxHeartbeats 4000000 in
set_option maxRecDepth 100000 in
theorem mX12_isOriented {D : va_G} {dA : Nat → ClassId} {ad : Nat → Nat}  (l : Launch) (hinj : ∀ i j, i < NM → j < NM → ad i = ad j → i = j) (sz : Nat) {K : Int → zSt → Prop} {σ : zSt} {x1 : Int} (hf : fX12_isOriented K σ x1) : Met l yX12_isOriented (Cond.code yX12_isOriented cX12_isOriented 2 (some .boolean) :: UW) ({ frames := 6, cells := 0, slots := 0, locals := 149 } : Room) (va_Pc [vR ad 0, vI x1] (zPre D vwCl (tyA dA) zX0 NM ad (celM ad dA) sz σ)) (va_Qi (zPi K) (zB D vwCl (tyA dA) NM ad (celM ad dA)) (zA ad NM sz)) 0 0 (zA ad NM sz) := by
  refine z_enter (cc := cX12_isOriented) (maxL := 2) (ret := (some .boolean)) (vs := [vR ad 0, vI x1]) (plainFor_of_name (by decide)) rfl hinj (Nat.le_of_ble_eq_true rfl) ?_
  intro p e s m args below meth c hC hE hsz hr hnm
  show zAt p l e ({ frames := 6, cells := 0, slots := 0, locals := 149 } : Room) s m args below meth c 0 0 (MQ below (va_Qi (zPi K) (zB D vwCl (tyA dA) NM ad (celM ad dA)) (zA ad NM sz)) args s 0 0 (zA ad NM sz)) 2 D vwCl (zA ad NM sz) NM ad (celM ad dA) 0 [(0, vR ad 0), (1, vI x1)] [] σ
  refine z_aload_n hC dX12_isOriented_0 0 rfl rfl ?_
  refine z_iload_n hC dX12_isOriented_1 1 rfl rfl ?_
  refine z_callVi hC hE (oM_12 (show kM 0 = 12 by decide)) [vI x1] (fun sz2 => mX12_noFrame l hinj sz2 hf) (cwV 1 hC.1.2.2.2.2 (uV (uT _) u1897 u1899 u66 u118 u1900) rfl rfl rfl (by decide +kernel) ⟨Nat.le_of_ble_eq_true rfl, Nat.le_of_ble_eq_true rfl⟩) rfl rfl (Nat.le_of_ble_eq_true rfl) ⟨Nat.le_of_ble_eq_true rfl, Nat.le_of_ble_eq_true rfl⟩ dX12_isOriented_2 (fun r1 σ1 hf => ?_)
  obtain ⟨g2, hf⟩ := hf
  refine z_if_ne (tgt := 21) hC dX12_isOriented_5 (by decide) g2 (fun hc => ?_) (fun hc => ?_)
  · replace hf := hf.2 hc
    refine z_iconst hC dX12_isOriented_21 ?_
    exact z_bret hC hr rfl dX12_isOriented_22 (Or.inl rfl) hf
  · replace hf := hf.1 hc
    refine z_aload_n hC dX12_isOriented_8 0 rfl rfl ?_
    refine z_get hC (fun w h => uT _ w (uL12 w h)) (oM_12 (show kM 0 = 12 by decide)) 18 (by decide) (uT _ _ u1563) rfl rfl dX12_isOriented_9 ?_
    refine z_iload_n hC dX12_isOriented_12 1 rfl rfl ?_
    obtain ⟨g3, hf⟩ := hf
    refine z_zaload hC (aM_33 (show kM 5 = 33 by decide)) g3 dX12_isOriented_13 ?_
    obtain ⟨g4, hf⟩ := hf
    refine z_if_eq (tgt := 21) hC dX12_isOriented_14 (by decide) g4 (fun hc => ?_) (fun hc => ?_)
    · replace hf := hf.1 hc
      refine z_iconst hC dX12_isOriented_21 ?_
      exact z_bret hC hr rfl dX12_isOriented_22 (Or.inl rfl) hf
    · replace hf := hf.2 hc
      refine z_iconst hC dX12_isOriented_17 ?_
      refine z_goto (tgt := 22) hC dX12_isOriented_18 (by decide) ?_
      exact z_bret hC hr rfl dX12_isOriented_22 (Or.inr rfl) hf

-- ===== X12_noShift
def fX12_noShift (K : Int → zSt → Prop) (σ : zSt) (x1 : Int) : Prop :=
  fX12_noFrame (fun r1 σ1 => zrg r1 ∧ ((r1 = 0 → (0 ≤ x1 ∧ x1 < 6) ∧ zrg (σ1 5 x1) ∧ ((σ1 5 x1 = 0 → ∀ σ5, σ5 = zu σ1 0 4 2 → zrg (σ5 0 4) ∧ ((σ5 0 4 ≤ 0 → K 0 σ5) ∧ (¬ σ5 0 4 ≤ 0 → K 1 σ5))) ∧ (¬ σ1 5 x1 = 0 → ∀ σ7, σ7 = zu σ1 0 4 0 → zrg (σ7 0 4) ∧ ((σ7 0 4 ≤ 0 → K 0 σ7) ∧ (¬ σ7 0 4 ≤ 0 → K 1 σ7))))) ∧ (¬ r1 = 0 → K 1 σ1))) σ x1
set_option maxHeartbeats 4000000 in
set_option maxRecDepth 100000 in
theorem mX12_noShift {D : va_G} {dA : Nat → ClassId} {ad : Nat → Nat}  (l : Launch) (hinj : ∀ i j, i < NM → j < NM → ad i = ad j → i = j) (sz : Nat) {K : Int → zSt → Prop} {σ : zSt} {x1 : Int} (hf : fX12_noShift K σ x1) : Met l yX12_noShift (Cond.code yX12_noShift cX12_noShift 2 (some .boolean) :: UW) ({ frames := 6, cells := 0, slots := 0, locals := 149 } : Room) (va_Pc [vR ad 0, vI x1] (zPre D vwCl (tyA dA) zX0 NM ad (celM ad dA) sz σ)) (va_Qi (zPi K) (zB D vwCl (tyA dA) NM ad (celM ad dA)) (zA ad NM sz)) 0 0 (zA ad NM sz) := by
  refine z_enter (cc := cX12_noShift) (maxL := 2) (ret := (some .boolean)) (vs := [vR ad 0, vI x1]) (plainFor_of_name (by decide)) rfl hinj (Nat.le_of_ble_eq_true rfl) ?_
  intro p e s m args below meth c hC hE hsz hr hnm
  show zAt p l e ({ frames := 6, cells := 0, slots := 0, locals := 149 } : Room) s m args below meth c 0 0 (MQ below (va_Qi (zPi K) (zB D vwCl (tyA dA) NM ad (celM ad dA)) (zA ad NM sz)) args s 0 0 (zA ad NM sz)) 2 D vwCl (zA ad NM sz) NM ad (celM ad dA) 0 [(0, vR ad 0), (1, vI x1)] [] σ
  refine z_aload_n hC dX12_noShift_0 0 rfl rfl ?_
  refine z_iload_n hC dX12_noShift_1 1 rfl rfl ?_
  refine z_callVi hC hE (oM_12 (show kM 0 = 12 by decide)) [vI x1] (fun sz2 => mX12_noFrame l hinj sz2 hf) (cwV 1 hC.1.2.2.2.2 (uV (uT _) u1897 u1899 u66 u118 u1900) rfl rfl rfl (by decide +kernel) ⟨Nat.le_of_ble_eq_true rfl, Nat.le_of_ble_eq_true rfl⟩) rfl rfl (Nat.le_of_ble_eq_true rfl) ⟨Nat.le_of_ble_eq_true rfl, Nat.le_of_ble_eq_true rfl⟩ dX12_noShift_2 (fun r1 σ1 hf => ?_)
  obtain ⟨g2, hf⟩ := hf
  refine z_if_eq (tgt := 10) hC dX12_noShift_5 (by decide) g2 (fun hc => ?_) (fun hc => ?_)
  · replace hf := hf.1 hc
    refine z_aload_n hC dX12_noShift_10 0 rfl rfl ?_
    refine z_aload_n hC dX12_noShift_11 0 rfl rfl ?_
    refine z_get hC (fun w h => uT _ w (uL12 w h)) (oM_12 (show kM 0 = 12 by decide)) 18 (by decide) (uT _ _ u1563) rfl rfl dX12_noShift_12 ?_
    refine z_iload_n hC dX12_noShift_15 1 rfl rfl ?_
    obtain ⟨g3, hf⟩ := hf
    refine z_zaload hC (aM_33 (show kM 5 = 33 by decide)) g3 dX12_noShift_16 ?_
    obtain ⟨g4, hf⟩ := hf
    refine z_if_eq (tgt := 24) hC dX12_noShift_17 (by decide) g4 (fun hc => ?_) (fun hc => ?_)
    · replace hf := hf.1 hc
      refine z_iconst hC dX12_noShift_24 ?_
      refine z_put hC (ty := .int) tyX12 tyX12_ok nmX12 (fun w h => uT _ w (uL12 w h)) (oM_12 (show kM 0 = 12 by decide)) (loM' (show kM 0 = 12 by decide) (by decide)) 4 (by decide) (uT _ _ u1549) rfl rfl (4) (2) (by simp [zu]) (by decide +kernel) rfl rfl (Nat.le_of_ble_eq_true rfl) dX12_noShift_25 ?_
      obtain ⟨σ5, eσ5⟩ : ∃ z : zSt, z = zu σ1 0 4 2 := ⟨_, rfl⟩
      rw [← eσ5]
      replace hf := hf σ5 eσ5
      refine z_aload_n hC dX12_noShift_28 0 rfl rfl ?_
      refine z_get hC (fun w h => uT _ w (uL12 w h)) (oM_12 (show kM 0 = 12 by decide)) 4 (by decide) (uT _ _ u1549) rfl rfl dX12_noShift_29 ?_
      obtain ⟨g6, hf⟩ := hf
      refine z_if_le (tgt := 39) hC dX12_noShift_32 (by decide) g6 (fun hc => ?_) (fun hc => ?_)
      · replace hf := hf.1 hc
        refine z_iconst hC dX12_noShift_39 ?_
        exact z_bret hC hr rfl dX12_noShift_40 (Or.inl rfl) hf
      · replace hf := hf.2 hc
        refine z_iconst hC dX12_noShift_35 ?_
        refine z_goto (tgt := 40) hC dX12_noShift_36 (by decide) ?_
        exact z_bret hC hr rfl dX12_noShift_40 (Or.inr rfl) hf
    · replace hf := hf.2 hc
      refine z_iconst hC dX12_noShift_20 ?_
      refine z_goto (tgt := 25) hC dX12_noShift_21 (by decide) ?_
      refine z_put hC (ty := .int) tyX12 tyX12_ok nmX12 (fun w h => uT _ w (uL12 w h)) (oM_12 (show kM 0 = 12 by decide)) (loM' (show kM 0 = 12 by decide) (by decide)) 4 (by decide) (uT _ _ u1549) rfl rfl (4) (0) (by simp [zu]) (by decide +kernel) rfl rfl (Nat.le_of_ble_eq_true rfl) dX12_noShift_25 ?_
      obtain ⟨σ7, eσ7⟩ : ∃ z : zSt, z = zu σ1 0 4 0 := ⟨_, rfl⟩
      rw [← eσ7]
      replace hf := hf σ7 eσ7
      refine z_aload_n hC dX12_noShift_28 0 rfl rfl ?_
      refine z_get hC (fun w h => uT _ w (uL12 w h)) (oM_12 (show kM 0 = 12 by decide)) 4 (by decide) (uT _ _ u1549) rfl rfl dX12_noShift_29 ?_
      obtain ⟨g8, hf⟩ := hf
      refine z_if_le (tgt := 39) hC dX12_noShift_32 (by decide) g8 (fun hc => ?_) (fun hc => ?_)
      · replace hf := hf.1 hc
        refine z_iconst hC dX12_noShift_39 ?_
        exact z_bret hC hr rfl dX12_noShift_40 (Or.inl rfl) hf
      · replace hf := hf.2 hc
        refine z_iconst hC dX12_noShift_35 ?_
        refine z_goto (tgt := 40) hC dX12_noShift_36 (by decide) ?_
        exact z_bret hC hr rfl dX12_noShift_40 (Or.inr rfl) hf
  · replace hf := hf.2 hc
    refine z_iconst hC dX12_noShift_8 ?_
    exact z_bret hC hr rfl dX12_noShift_9 (Or.inr rfl) hf

-- ===== X12_shiftX
def fX12_shiftX (K : Int → zSt → Prop) (σ : zSt) (x1 : Int) : Prop :=
  fX12_noShift (fun r1 σ1 => zrg r1 ∧ ((r1 = 0 → (0 ≤ x1 ∧ x1 < 6) ∧ K (σ1 6 x1) σ1) ∧ (¬ r1 = 0 → K 0 σ1))) σ x1
set_option maxHeartbeats 4000000 in
set_option maxRecDepth 100000 in
theorem mX12_shiftX {D : va_G} {dA : Nat → ClassId} {ad : Nat → Nat}  (l : Launch) (hinj : ∀ i j, i < NM → j < NM → ad i = ad j → i = j) (sz : Nat) {K : Int → zSt → Prop} {σ : zSt} {x1 : Int} (hf : fX12_shiftX K σ x1) : Met l yX12_shiftX (Cond.code yX12_shiftX cX12_shiftX 2 (some .int) :: UW) ({ frames := 7, cells := 0, slots := 0, locals := 170 } : Room) (va_Pc [vR ad 0, vI x1] (zPre D vwCl (tyA dA) zX0 NM ad (celM ad dA) sz σ)) (va_Qi (zPi K) (zB D vwCl (tyA dA) NM ad (celM ad dA)) (zA ad NM sz)) 0 0 (zA ad NM sz) := by
  refine z_enter (cc := cX12_shiftX) (maxL := 2) (ret := (some .int)) (vs := [vR ad 0, vI x1]) (plainFor_of_name (by decide)) rfl hinj (Nat.le_of_ble_eq_true rfl) ?_
  intro p e s m args below meth c hC hE hsz hr hnm
  show zAt p l e ({ frames := 7, cells := 0, slots := 0, locals := 170 } : Room) s m args below meth c 0 0 (MQ below (va_Qi (zPi K) (zB D vwCl (tyA dA) NM ad (celM ad dA)) (zA ad NM sz)) args s 0 0 (zA ad NM sz)) 2 D vwCl (zA ad NM sz) NM ad (celM ad dA) 0 [(0, vR ad 0), (1, vI x1)] [] σ
  refine z_aload_n hC dX12_shiftX_0 0 rfl rfl ?_
  refine z_iload_n hC dX12_shiftX_1 1 rfl rfl ?_
  refine z_callVi hC hE (oM_12 (show kM 0 = 12 by decide)) [vI x1] (fun sz2 => mX12_noShift l hinj sz2 hf) (cwV 1 hC.1.2.2.2.2 (uV (uT _) u1928 u1930 u72 u118 u1931) rfl rfl rfl (by decide +kernel) ⟨Nat.le_of_ble_eq_true rfl, Nat.le_of_ble_eq_true rfl⟩) rfl rfl (Nat.le_of_ble_eq_true rfl) ⟨Nat.le_of_ble_eq_true rfl, Nat.le_of_ble_eq_true rfl⟩ dX12_shiftX_2 (fun r1 σ1 hf => ?_)
  obtain ⟨g2, hf⟩ := hf
  refine z_if_eq (tgt := 12) hC dX12_shiftX_5 (by decide) g2 (fun hc => ?_) (fun hc => ?_)
  · replace hf := hf.1 hc
    refine z_aload_n hC dX12_shiftX_12 0 rfl rfl ?_
    refine z_get hC (fun w h => uT _ w (uL12 w h)) (oM_12 (show kM 0 = 12 by decide)) 19 (by decide) (uT _ _ u1564) rfl rfl dX12_shiftX_13 ?_
    refine z_iload_n hC dX12_shiftX_16 1 rfl rfl ?_
    obtain ⟨g3, hf⟩ := hf
    refine z_iaload hC (aM_34 (show kM 6 = 34 by decide)) g3 dX12_shiftX_17 ?_
    exact z_iret hC hr rfl dX12_shiftX_18 hf
  · replace hf := hf.2 hc
    refine z_iconst hC dX12_shiftX_8 ?_
    refine z_goto (tgt := 18) hC dX12_shiftX_9 (by decide) ?_
    exact z_iret hC hr rfl dX12_shiftX_18 hf

-- ===== X12_shiftY
def fX12_shiftY (K : Int → zSt → Prop) (σ : zSt) (x1 : Int) : Prop :=
  fX12_noShift (fun r1 σ1 => zrg r1 ∧ ((r1 = 0 → (0 ≤ x1 ∧ x1 < 6) ∧ K (σ1 7 x1) σ1) ∧ (¬ r1 = 0 → K 0 σ1))) σ x1
set_option maxHeartbeats 4000000 in
set_option maxRecDepth 100000 in
theorem mX12_shiftY {D : va_G} {dA : Nat → ClassId} {ad : Nat → Nat}  (l : Launch) (hinj : ∀ i j, i < NM → j < NM → ad i = ad j → i = j) (sz : Nat) {K : Int → zSt → Prop} {σ : zSt} {x1 : Int} (hf : fX12_shiftY K σ x1) : Met l yX12_shiftY (Cond.code yX12_shiftY cX12_shiftY 2 (some .int) :: UW) ({ frames := 7, cells := 0, slots := 0, locals := 170 } : Room) (va_Pc [vR ad 0, vI x1] (zPre D vwCl (tyA dA) zX0 NM ad (celM ad dA) sz σ)) (va_Qi (zPi K) (zB D vwCl (tyA dA) NM ad (celM ad dA)) (zA ad NM sz)) 0 0 (zA ad NM sz) := by
  refine z_enter (cc := cX12_shiftY) (maxL := 2) (ret := (some .int)) (vs := [vR ad 0, vI x1]) (plainFor_of_name (by decide)) rfl hinj (Nat.le_of_ble_eq_true rfl) ?_
  intro p e s m args below meth c hC hE hsz hr hnm
  show zAt p l e ({ frames := 7, cells := 0, slots := 0, locals := 170 } : Room) s m args below meth c 0 0 (MQ below (va_Qi (zPi K) (zB D vwCl (tyA dA) NM ad (celM ad dA)) (zA ad NM sz)) args s 0 0 (zA ad NM sz)) 2 D vwCl (zA ad NM sz) NM ad (celM ad dA) 0 [(0, vR ad 0), (1, vI x1)] [] σ
  refine z_aload_n hC dX12_shiftY_0 0 rfl rfl ?_
  refine z_iload_n hC dX12_shiftY_1 1 rfl rfl ?_
  refine z_callVi hC hE (oM_12 (show kM 0 = 12 by decide)) [vI x1] (fun sz2 => mX12_noShift l hinj sz2 hf) (cwV 1 hC.1.2.2.2.2 (uV (uT _) u1928 u1930 u72 u118 u1931) rfl rfl rfl (by decide +kernel) ⟨Nat.le_of_ble_eq_true rfl, Nat.le_of_ble_eq_true rfl⟩) rfl rfl (Nat.le_of_ble_eq_true rfl) ⟨Nat.le_of_ble_eq_true rfl, Nat.le_of_ble_eq_true rfl⟩ dX12_shiftY_2 (fun r1 σ1 hf => ?_)
  obtain ⟨g2, hf⟩ := hf
  refine z_if_eq (tgt := 12) hC dX12_shiftY_5 (by decide) g2 (fun hc => ?_) (fun hc => ?_)
  · replace hf := hf.1 hc
    refine z_aload_n hC dX12_shiftY_12 0 rfl rfl ?_
    refine z_get hC (fun w h => uT _ w (uL12 w h)) (oM_12 (show kM 0 = 12 by decide)) 20 (by decide) (uT _ _ u1565) rfl rfl dX12_shiftY_13 ?_
    refine z_iload_n hC dX12_shiftY_16 1 rfl rfl ?_
    obtain ⟨g3, hf⟩ := hf
    refine z_iaload hC (aM_34 (show kM 7 = 34 by decide)) g3 dX12_shiftY_17 ?_
    exact z_iret hC hr rfl dX12_shiftY_18 hf
  · replace hf := hf.2 hc
    refine z_iconst hC dX12_shiftY_8 ?_
    refine z_goto (tgt := 18) hC dX12_shiftY_9 (by decide) ?_
    exact z_iret hC hr rfl dX12_shiftY_18 hf

-- ===== X12_shiftError
def fX12_shiftError (K : Int → zSt → Prop) (σ : zSt) (x1 : Int) : Prop :=
  fX12_noFrame (fun r1 σ1 => zrg r1 ∧ ((r1 = 0 → (0 ≤ x1 ∧ x1 < 6) ∧ zrg (σ1 5 x1) ∧ ((σ1 5 x1 = 0 → K (-1) σ1) ∧ (¬ σ1 5 x1 = 0 → K (σ1 8 x1) σ1))) ∧ (¬ r1 = 0 → K 0 σ1))) σ x1
set_option maxHeartbeats 4000000 in
set_option maxRecDepth 100000 in
theorem mX12_shiftError {D : va_G} {dA : Nat → ClassId} {ad : Nat → Nat}  (l : Launch) (hinj : ∀ i j, i < NM → j < NM → ad i = ad j → i = j) (sz : Nat) {K : Int → zSt → Prop} {σ : zSt} {x1 : Int} (hf : fX12_shiftError K σ x1) : Met l yX12_shiftError (Cond.code yX12_shiftError cX12_shiftError 2 (some .int) :: UW) ({ frames := 6, cells := 0, slots := 0, locals := 149 } : Room) (va_Pc [vR ad 0, vI x1] (zPre D vwCl (tyA dA) zX0 NM ad (celM ad dA) sz σ)) (va_Qi (zPi K) (zB D vwCl (tyA dA) NM ad (celM ad dA)) (zA ad NM sz)) 0 0 (zA ad NM sz) := by
  refine z_enter (cc := cX12_shiftError) (maxL := 2) (ret := (some .int)) (vs := [vR ad 0, vI x1]) (plainFor_of_name (by decide)) rfl hinj (Nat.le_of_ble_eq_true rfl) ?_
  intro p e s m args below meth c hC hE hsz hr hnm
  show zAt p l e ({ frames := 6, cells := 0, slots := 0, locals := 149 } : Room) s m args below meth c 0 0 (MQ below (va_Qi (zPi K) (zB D vwCl (tyA dA) NM ad (celM ad dA)) (zA ad NM sz)) args s 0 0 (zA ad NM sz)) 2 D vwCl (zA ad NM sz) NM ad (celM ad dA) 0 [(0, vR ad 0), (1, vI x1)] [] σ
  refine z_aload_n hC dX12_shiftError_0 0 rfl rfl ?_
  refine z_iload_n hC dX12_shiftError_1 1 rfl rfl ?_
  refine z_callVi hC hE (oM_12 (show kM 0 = 12 by decide)) [vI x1] (fun sz2 => mX12_noFrame l hinj sz2 hf) (cwV 1 hC.1.2.2.2.2 (uV (uT _) u1897 u1899 u66 u118 u1900) rfl rfl rfl (by decide +kernel) ⟨Nat.le_of_ble_eq_true rfl, Nat.le_of_ble_eq_true rfl⟩) rfl rfl (Nat.le_of_ble_eq_true rfl) ⟨Nat.le_of_ble_eq_true rfl, Nat.le_of_ble_eq_true rfl⟩ dX12_shiftError_2 (fun r1 σ1 hf => ?_)
  obtain ⟨g2, hf⟩ := hf
  refine z_if_eq (tgt := 12) hC dX12_shiftError_5 (by decide) g2 (fun hc => ?_) (fun hc => ?_)
  · replace hf := hf.1 hc
    refine z_aload_n hC dX12_shiftError_12 0 rfl rfl ?_
    refine z_get hC (fun w h => uT _ w (uL12 w h)) (oM_12 (show kM 0 = 12 by decide)) 18 (by decide) (uT _ _ u1563) rfl rfl dX12_shiftError_13 ?_
    refine z_iload_n hC dX12_shiftError_16 1 rfl rfl ?_
    obtain ⟨g3, hf⟩ := hf
    refine z_zaload hC (aM_33 (show kM 5 = 33 by decide)) g3 dX12_shiftError_17 ?_
    obtain ⟨g4, hf⟩ := hf
    refine z_if_eq (tgt := 30) hC dX12_shiftError_18 (by decide) g4 (fun hc => ?_) (fun hc => ?_)
    · replace hf := hf.1 hc
      refine z_iconst hC dX12_shiftError_30 ?_
      exact z_iret hC hr rfl dX12_shiftError_31 hf
    · replace hf := hf.2 hc
      refine z_aload_n hC dX12_shiftError_21 0 rfl rfl ?_
      refine z_get hC (fun w h => uT _ w (uL12 w h)) (oM_12 (show kM 0 = 12 by decide)) 21 (by decide) (uT _ _ u1566) rfl rfl dX12_shiftError_22 ?_
      refine z_iload_n hC dX12_shiftError_25 1 rfl rfl ?_
      refine z_iaload hC (aM_34 (show kM 8 = 34 by decide)) g3 dX12_shiftError_26 ?_
      refine z_goto (tgt := 31) hC dX12_shiftError_27 (by decide) ?_
      exact z_iret hC hr rfl dX12_shiftError_31 hf
  · replace hf := hf.2 hc
    refine z_iconst hC dX12_shiftError_8 ?_
    refine z_goto (tgt := 31) hC dX12_shiftError_9 (by decide) ?_
    exact z_iret hC hr rfl dX12_shiftError_31 hf

-- ===== X12_search
def fX12_search_B231 (K : Int → zSt → Prop) (k74 : zSt → Int → Int → Int → Int → Int → Int → Int → Int → Int → Prop) (k91 : zSt → Int → Int → Int → Int → Int → Int → Int → Int → Int → Int → Prop) (σ : zSt) (x1 : Int) (x2 : Int) (x3 : Int) (x4 : Int) (x5 : Int) (x6 : Int) (x7 : Int) (x8 : Int) (x9 : Int) (x10 : Int) (x11 : Int) (x12 : Int) (x13 : Int) : Prop :=
  zrg x13 ∧ ((x13 = 0 → k91 σ x1 x2 x3 x4 x5 x6 x7 x8 x9 (x10 + 1)) ∧ (¬ x13 = 0 → ∀ σ26, σ26 = zu σ 0 24 x11 → ∀ σ27, σ27 = zu σ26 0 22 x10 → ∀ σ28, σ28 = zu σ27 0 23 x9 → k91 σ28 x1 x2 x3 x4 x5 x6 x7 x12 x9 (x10 + 1)))
def fX12_search_B225 (K : Int → zSt → Prop) (k74 : zSt → Int → Int → Int → Int → Int → Int → Int → Int → Int → Prop) (k91 : zSt → Int → Int → Int → Int → Int → Int → Int → Int → Int → Int → Prop) (σ : zSt) (x1 : Int) (x2 : Int) (x3 : Int) (x4 : Int) (x5 : Int) (x6 : Int) (x7 : Int) (x8 : Int) (x9 : Int) (x10 : Int) (x11 : Int) (x12 : Int) (x13 : Int) (x14 : Int) : Prop :=
  ∀ σ29, σ29 = zu σ 0 25 x14 → fX12_search_B231 K k74 k91 σ29 x1 x2 x3 x4 x5 x6 x7 x8 x9 x10 x11 x12 x13
def fX12_search_B202 (K : Int → zSt → Prop) (k74 : zSt → Int → Int → Int → Int → Int → Int → Int → Int → Int → Prop) (k91 : zSt → Int → Int → Int → Int → Int → Int → Int → Int → Int → Int → Prop) (σ : zSt) (x1 : Int) (x2 : Int) (x3 : Int) (x4 : Int) (x5 : Int) (x6 : Int) (x7 : Int) (x8 : Int) (x9 : Int) (x10 : Int) (x11 : Int) (x12 : Int) (x13 : Int) (s0 : Int) : Prop :=
  zrg s0 ∧ ((s0 < 0 → fX12_search_B231 K k74 k91 σ x1 x2 x3 x4 x5 x6 x7 x8 x9 x10 x11 x12 x13) ∧ (¬ s0 < 0 → zrg (σ 0 25) ∧ ((σ 0 25 < 0 → fX12_search_B225 K k74 k91 σ x1 x2 x3 x4 x5 x6 x7 x8 x9 x10 x11 x12 x13 s0) ∧ (¬ σ 0 25 < 0 → ((σ 0 25 ≤ s0 → fX12_search_B231 K k74 k91 σ x1 x2 x3 x4 x5 x6 x7 x8 x9 x10 x11 x12 x13) ∧ (¬ σ 0 25 ≤ s0 → fX12_search_B225 K k74 k91 σ x1 x2 x3 x4 x5 x6 x7 x8 x9 x10 x11 x12 x13 s0))))))
def fX12_search_B186 (K : Int → zSt → Prop) (k74 : zSt → Int → Int → Int → Int → Int → Int → Int → Int → Int → Prop) (k91 : zSt → Int → Int → Int → Int → Int → Int → Int → Int → Int → Int → Prop) (σ : zSt) (x1 : Int) (x2 : Int) (x3 : Int) (x4 : Int) (x5 : Int) (x6 : Int) (x7 : Int) (x8 : Int) (x9 : Int) (x10 : Int) (x11 : Int) (x12 : Int) (s0 : Int) : Prop :=
  zrg s0 ∧ ((s0 = 0 → fX12_search_B202 K k74 k91 σ x1 x2 x3 x4 x5 x6 x7 x8 x9 x10 x11 x12 s0 x11) ∧ (¬ s0 = 0 → fX12_search_B202 K k74 k91 σ x1 x2 x3 x4 x5 x6 x7 x8 x9 x10 x11 x12 s0 (σ 0 24)))
def fX12_search_B181 (K : Int → zSt → Prop) (k74 : zSt → Int → Int → Int → Int → Int → Int → Int → Int → Int → Prop) (k91 : zSt → Int → Int → Int → Int → Int → Int → Int → Int → Int → Int → Prop) (σ : zSt) (x1 : Int) (x2 : Int) (x3 : Int) (x4 : Int) (x5 : Int) (x6 : Int) (x7 : Int) (x8 : Int) (x9 : Int) (x10 : Int) (x11 : Int) (x12 : Int) : Prop :=
  fX12_search_B186 K k74 k91 σ x1 x2 x3 x4 x5 x6 x7 x8 x9 x10 x11 x12 1
def fX12_search_B185 (K : Int → zSt → Prop) (k74 : zSt → Int → Int → Int → Int → Int → Int → Int → Int → Int → Prop) (k91 : zSt → Int → Int → Int → Int → Int → Int → Int → Int → Int → Int → Prop) (σ : zSt) (x1 : Int) (x2 : Int) (x3 : Int) (x4 : Int) (x5 : Int) (x6 : Int) (x7 : Int) (x8 : Int) (x9 : Int) (x10 : Int) (x11 : Int) (x12 : Int) : Prop :=
  fX12_search_B186 K k74 k91 σ x1 x2 x3 x4 x5 x6 x7 x8 x9 x10 x11 x12 0
noncomputable def fX12_search_B91 (K : Int → zSt → Prop) (k74 : zSt → Int → Int → Int → Int → Int → Int → Int → Int → Int → Prop) (n : Nat) : zSt → Int → Int → Int → Int → Int → Int → Int → Int → Int → Int → Prop :=
  Nat.rec (motive := fun _ => zSt → Int → Int → Int → Int → Int → Int → Int → Int → Int → Int → Prop) (fun _ _ _ _ _ _ _ _ _ _ _ => False) (fun _ ih σ x1 x2 x3 x4 x5 x6 x7 x8 x9 x10 => zrg x10 ∧ zrg (x5 + x7) ∧ ((x5 + x7 < x10 → k74 σ x1 x2 x3 x4 x5 x6 x7 x8 (x9 + 1)) ∧ (¬ x5 + x7 < x10 → fX12_isInside (fun r13 σ13 => zrg r13 ∧ ((r13 = 0 → ih σ13 x1 x2 x3 x4 x5 x6 x7 x8 x9 (x10 + 1)) ∧ (¬ r13 = 0 → fX12_mismatch (fun r15 σ15 => fX12_absolute (fun r16 σ16 => fX12_absolute (fun r17 σ17 => zrg (σ17 0 24) ∧ ((σ17 0 24 < 0 → fX12_search_B181 K k74 ih σ17 x1 x2 x3 x4 x5 x6 x7 x8 x9 x10 r15 (r16 + r17)) ∧ (¬ σ17 0 24 < 0 → zrg r15 ∧ ((r15 < σ17 0 24 → fX12_search_B181 K k74 ih σ17 x1 x2 x3 x4 x5 x6 x7 x8 x9 x10 r15 (r16 + r17)) ∧ (¬ r15 < σ17 0 24 → ((r15 = σ17 0 24 → zrg (r16 + r17) ∧ zrg x8 ∧ ((x8 ≤ r16 + r17 → fX12_search_B185 K k74 ih σ17 x1 x2 x3 x4 x5 x6 x7 x8 x9 x10 r15 (r16 + r17)) ∧ (¬ x8 ≤ r16 + r17 → fX12_search_B181 K k74 ih σ17 x1 x2 x3 x4 x5 x6 x7 x8 x9 x10 r15 (r16 + r17)))) ∧ (¬ r15 = σ17 0 24 → fX12_search_B185 K k74 ih σ17 x1 x2 x3 x4 x5 x6 x7 x8 x9 x10 r15 (r16 + r17)))))))) σ16 (x9 - x6)) σ15 (x10 - x5)) σ13 x1 x2 x3 x4 x10 x9))) σ x10 x9))) n
theorem uX12_search_B91 (K : Int → zSt → Prop) (k74 : zSt → Int → Int → Int → Int → Int → Int → Int → Int → Int → Prop) (n0 : Nat) (σ : zSt) (x1 : Int) (x2 : Int) (x3 : Int) (x4 : Int) (x5 : Int) (x6 : Int) (x7 : Int) (x8 : Int) (x9 : Int) (x10 : Int) : fX12_search_B91 K k74 (n0 + 1) σ x1 x2 x3 x4 x5 x6 x7 x8 x9 x10 = (zrg x10 ∧ zrg (x5 + x7) ∧ ((x5 + x7 < x10 → k74 σ x1 x2 x3 x4 x5 x6 x7 x8 (x9 + 1)) ∧ (¬ x5 + x7 < x10 → fX12_isInside (fun r13 σ13 => zrg r13 ∧ ((r13 = 0 → (fX12_search_B91 K k74 n0) σ13 x1 x2 x3 x4 x5 x6 x7 x8 x9 (x10 + 1)) ∧ (¬ r13 = 0 → fX12_mismatch (fun r15 σ15 => fX12_absolute (fun r16 σ16 => fX12_absolute (fun r17 σ17 => zrg (σ17 0 24) ∧ ((σ17 0 24 < 0 → fX12_search_B181 K k74 (fX12_search_B91 K k74 n0) σ17 x1 x2 x3 x4 x5 x6 x7 x8 x9 x10 r15 (r16 + r17)) ∧ (¬ σ17 0 24 < 0 → zrg r15 ∧ ((r15 < σ17 0 24 → fX12_search_B181 K k74 (fX12_search_B91 K k74 n0) σ17 x1 x2 x3 x4 x5 x6 x7 x8 x9 x10 r15 (r16 + r17)) ∧ (¬ r15 < σ17 0 24 → ((r15 = σ17 0 24 → zrg (r16 + r17) ∧ zrg x8 ∧ ((x8 ≤ r16 + r17 → fX12_search_B185 K k74 (fX12_search_B91 K k74 n0) σ17 x1 x2 x3 x4 x5 x6 x7 x8 x9 x10 r15 (r16 + r17)) ∧ (¬ x8 ≤ r16 + r17 → fX12_search_B181 K k74 (fX12_search_B91 K k74 n0) σ17 x1 x2 x3 x4 x5 x6 x7 x8 x9 x10 r15 (r16 + r17)))) ∧ (¬ r15 = σ17 0 24 → fX12_search_B185 K k74 (fX12_search_B91 K k74 n0) σ17 x1 x2 x3 x4 x5 x6 x7 x8 x9 x10 r15 (r16 + r17)))))))) σ16 (x9 - x6)) σ15 (x10 - x5)) σ13 x1 x2 x3 x4 x10 x9))) σ x10 x9))) := rfl
noncomputable def fX12_search_B74 (K : Int → zSt → Prop) (n : Nat) : zSt → Int → Int → Int → Int → Int → Int → Int → Int → Int → Prop :=
  Nat.rec (motive := fun _ => zSt → Int → Int → Int → Int → Int → Int → Int → Int → Int → Prop) (fun _ _ _ _ _ _ _ _ _ _ => False) (fun _ ih σ x1 x2 x3 x4 x5 x6 x7 x8 x9 => zrg x9 ∧ zrg (x6 + x7) ∧ ((x6 + x7 < x9 → zrg (σ 0 24) ∧ ((σ 0 24 < 0 → K 0 σ) ∧ (¬ σ 0 24 < 0 → K 1 σ))) ∧ (¬ x6 + x7 < x9 → (∃ n, fX12_search_B91 K ih n σ x1 x2 x3 x4 x5 x6 x7 x8 x9 (x5 - x7))))) n
theorem uX12_search_B74 (K : Int → zSt → Prop) (n0 : Nat) (σ : zSt) (x1 : Int) (x2 : Int) (x3 : Int) (x4 : Int) (x5 : Int) (x6 : Int) (x7 : Int) (x8 : Int) (x9 : Int) : fX12_search_B74 K (n0 + 1) σ x1 x2 x3 x4 x5 x6 x7 x8 x9 = (zrg x9 ∧ zrg (x6 + x7) ∧ ((x6 + x7 < x9 → zrg (σ 0 24) ∧ ((σ 0 24 < 0 → K 0 σ) ∧ (¬ σ 0 24 < 0 → K 1 σ))) ∧ (¬ x6 + x7 < x9 → (∃ n, fX12_search_B91 K (fX12_search_B74 K n0) n σ x1 x2 x3 x4 x5 x6 x7 x8 x9 (x5 - x7))))) := rfl
def fX12_search (K : Int → zSt → Prop) (σ : zSt) (x1 : Int) (x2 : Int) (x3 : Int) (x4 : Int) : Prop :=
  ∀ σ1, σ1 = zu σ 0 24 (-1) → ∀ σ2, σ2 = zu σ1 0 25 (-1) → fX12_isInside (fun r3 σ3 => zrg r3 ∧ ((r3 = 0 → K 0 σ3) ∧ (¬ r3 = 0 → (0 ≤ x4 ∧ x4 < 6) ∧ (0 ≤ x1 ∧ x1 < 6) ∧ fX12_setting (fun r7 σ7 => (∃ n, fX12_search_B74 K n σ7 x1 x2 x3 x4 ((x2 + (σ3 6 x4)) - (σ3 6 x1)) ((x3 + (σ3 7 x4)) - (σ3 7 x1)) r7 0 (((x3 + (σ3 7 x4)) - (σ3 7 x1)) - r7))) σ3 1))) σ2 x2 x3
set_option maxHeartbeats 4000000 in
set_option maxRecDepth 100000 in
theorem wX12_search_B231 {p : Program} {l : Launch} {e : Env} {s : State} {m : MethodId} {args : Array Value} {below : List Frame} {meth : Method} {c : Code} {D : va_G} {dA : Nat → ClassId} {ad : Nat → Nat} {sz : Nat}  {K : Int → zSt → Prop} {k74 : zSt → Int → Int → Int → Int → Int → Int → Int → Int → Int → Prop} {k91 : zSt → Int → Int → Int → Int → Int → Int → Int → Int → Int → Int → Prop} (hC : zC p m c cX12_search 15 s args (Cond.code yX12_search cX12_search 15 (some .boolean) :: UW) RX12 meth D vwCl (tyA dA) (zA ad NM sz) NM ad (celM ad dA)) (hE : zE zX0 (zA ad NM sz) s s.heap) (hr : meth.sig.returnType = (some .boolean)) (hinj : ∀ i j, i < NM → j < NM → ad i = ad j → i = j) (hk74 : ∀ (σ : zSt) (x1 : Int) (x2 : Int) (x3 : Int) (x4 : Int) (x5 : Int) (x6 : Int) (x7 : Int) (x8 : Int) (x9 : Int), k74 σ x1 x2 x3 x4 x5 x6 x7 x8 x9 → zAt p l e ({ frames := 2, cells := 0, slots := 0, locals := 53 } : Room) s m args below meth c 0 0 (MQ below (va_Qi (zPi K) (zB D vwCl (tyA dA) NM ad (celM ad dA)) (zA ad NM sz)) args s 0 0 (zA ad NM sz)) 15 D vwCl (zA ad NM sz) NM ad (celM ad dA) 74 [(0, vR ad 0), (1, vI x1), (2, vI x2), (3, vI x3), (4, vI x4), (5, vI x5), (6, vI x6), (7, vI x7), (8, vI x8), (9, vI x9)] [] σ) (hk91 : ∀ (σ : zSt) (x1 : Int) (x2 : Int) (x3 : Int) (x4 : Int) (x5 : Int) (x6 : Int) (x7 : Int) (x8 : Int) (x9 : Int) (x10 : Int), k91 σ x1 x2 x3 x4 x5 x6 x7 x8 x9 x10 → zAt p l e ({ frames := 2, cells := 0, slots := 0, locals := 53 } : Room) s m args below meth c 0 0 (MQ below (va_Qi (zPi K) (zB D vwCl (tyA dA) NM ad (celM ad dA)) (zA ad NM sz)) args s 0 0 (zA ad NM sz)) 15 D vwCl (zA ad NM sz) NM ad (celM ad dA) 91 [(0, vR ad 0), (1, vI x1), (2, vI x2), (3, vI x3), (4, vI x4), (5, vI x5), (6, vI x6), (7, vI x7), (8, vI x8), (9, vI x9), (10, vI x10)] [] σ) {σ : zSt} {x1 : Int} {x2 : Int} {x3 : Int} {x4 : Int} {x5 : Int} {x6 : Int} {x7 : Int} {x8 : Int} {x9 : Int} {x10 : Int} {x11 : Int} {x12 : Int} {x13 : Int} (hf : fX12_search_B231 K k74 k91 σ x1 x2 x3 x4 x5 x6 x7 x8 x9 x10 x11 x12 x13) : zAt p l e ({ frames := 2, cells := 0, slots := 0, locals := 53 } : Room) s m args below meth c 0 0 (MQ below (va_Qi (zPi K) (zB D vwCl (tyA dA) NM ad (celM ad dA)) (zA ad NM sz)) args s 0 0 (zA ad NM sz)) 15 D vwCl (zA ad NM sz) NM ad (celM ad dA) 231 [(0, vR ad 0), (1, vI x1), (2, vI x2), (3, vI x3), (4, vI x4), (5, vI x5), (6, vI x6), (7, vI x7), (8, vI x8), (9, vI x9), (10, vI x10), (11, vI x11), (12, vI x12), (13, vI x13)] [] σ := by
  refine z_iload hC dX12_search_231 13 rfl ?_
  obtain ⟨g25, hf⟩ := hf
  refine z_if_ne (tgt := 239) hC dX12_search_233 (by decide) g25 (fun hc => ?_) (fun hc => ?_)
  · replace hf := hf.2 hc
    refine z_aload_n hC dX12_search_239 0 rfl rfl ?_
    refine z_iload hC dX12_search_240 11 rfl ?_
    refine z_put hC (ty := .int) tyX12 tyX12_ok nmX12 (fun w h => uT _ w (uL12 w h)) (oM_12 (show kM 0 = 12 by decide)) (loM' (show kM 0 = 12 by decide) (by decide)) 24 (by decide) (uT _ _ u1569) rfl rfl (24) (x11) (by simp [zu]) (by decide +kernel) rfl rfl (Nat.le_of_ble_eq_true rfl) dX12_search_242 ?_
    obtain ⟨σ26, eσ26⟩ : ∃ z : zSt, z = zu σ 0 24 x11 := ⟨_, rfl⟩
    rw [← eσ26]
    replace hf := hf σ26 eσ26
    refine z_aload_n hC dX12_search_245 0 rfl rfl ?_
    refine z_iload hC dX12_search_246 10 rfl ?_
    refine z_put hC (ty := .int) tyX12 tyX12_ok nmX12 (fun w h => uT _ w (uL12 w h)) (oM_12 (show kM 0 = 12 by decide)) (loM' (show kM 0 = 12 by decide) (by decide)) 22 (by decide) (uT _ _ u1567) rfl rfl (22) (x10) (by simp [zu]) (by decide +kernel) rfl rfl (Nat.le_of_ble_eq_true rfl) dX12_search_248 ?_
    obtain ⟨σ27, eσ27⟩ : ∃ z : zSt, z = zu σ26 0 22 x10 := ⟨_, rfl⟩
    rw [← eσ27]
    replace hf := hf σ27 eσ27
    refine z_aload_n hC dX12_search_251 0 rfl rfl ?_
    refine z_iload hC dX12_search_252 9 rfl ?_
    refine z_put hC (ty := .int) tyX12 tyX12_ok nmX12 (fun w h => uT _ w (uL12 w h)) (oM_12 (show kM 0 = 12 by decide)) (loM' (show kM 0 = 12 by decide) (by decide)) 23 (by decide) (uT _ _ u1568) rfl rfl (23) (x9) (by simp [zu]) (by decide +kernel) rfl rfl (Nat.le_of_ble_eq_true rfl) dX12_search_254 ?_
    obtain ⟨σ28, eσ28⟩ : ∃ z : zSt, z = zu σ27 0 23 x9 := ⟨_, rfl⟩
    rw [← eσ28]
    replace hf := hf σ28 eσ28
    refine z_iload hC dX12_search_257 12 rfl ?_
    refine z_istore hC ([(8, vI x12), (0, vR ad 0), (1, vI x1), (2, vI x2), (3, vI x3), (4, vI x4), (5, vI x5), (6, vI x6), (7, vI x7), (9, vI x9), (10, vI x10), (11, vI x11), (12, vI x12), (13, vI x13)]) dX12_search_259 (by decide) rfl ?_
    refine z_iinc hC ([(10, vI (x10 + 1)), (8, vI x12), (0, vR ad 0), (1, vI x1), (2, vI x2), (3, vI x3), (4, vI x4), (5, vI x5), (6, vI x6), (7, vI x7), (9, vI x9), (11, vI x11), (12, vI x12), (13, vI x13)]) dX12_search_261 10 rfl (by decide) rfl ?_
    refine z_goto (tgt := 91) hC dX12_search_264 (by decide) ?_
    refine z_sub (lv' := [(0, vR ad 0), (1, vI x1), (2, vI x2), (3, vI x3), (4, vI x4), (5, vI x5), (6, vI x6), (7, vI x7), (8, vI x12), (9, vI x9), (10, vI (x10 + 1))]) [2, 3, 4, 5, 6, 7, 8, 9, 1, 10, 0] rfl ?_
    exact hk91 _ _ _ _ _ _ _ _ _ _ _ hf
  · replace hf := hf.1 hc
    refine z_goto (tgt := 261) hC dX12_search_236 (by decide) ?_
    refine z_iinc hC ([(10, vI (x10 + 1)), (0, vR ad 0), (1, vI x1), (2, vI x2), (3, vI x3), (4, vI x4), (5, vI x5), (6, vI x6), (7, vI x7), (8, vI x8), (9, vI x9), (11, vI x11), (12, vI x12), (13, vI x13)]) dX12_search_261 10 rfl (by decide) rfl ?_
    refine z_goto (tgt := 91) hC dX12_search_264 (by decide) ?_
    refine z_sub (lv' := [(0, vR ad 0), (1, vI x1), (2, vI x2), (3, vI x3), (4, vI x4), (5, vI x5), (6, vI x6), (7, vI x7), (8, vI x8), (9, vI x9), (10, vI (x10 + 1))]) [1, 2, 3, 4, 5, 6, 7, 8, 9, 10, 0] rfl ?_
    exact hk91 _ _ _ _ _ _ _ _ _ _ _ hf
set_option maxHeartbeats 4000000 in
set_option maxRecDepth 100000 in
theorem wX12_search_B225 {p : Program} {l : Launch} {e : Env} {s : State} {m : MethodId} {args : Array Value} {below : List Frame} {meth : Method} {c : Code} {D : va_G} {dA : Nat → ClassId} {ad : Nat → Nat} {sz : Nat}  {K : Int → zSt → Prop} {k74 : zSt → Int → Int → Int → Int → Int → Int → Int → Int → Int → Prop} {k91 : zSt → Int → Int → Int → Int → Int → Int → Int → Int → Int → Int → Prop} (hC : zC p m c cX12_search 15 s args (Cond.code yX12_search cX12_search 15 (some .boolean) :: UW) RX12 meth D vwCl (tyA dA) (zA ad NM sz) NM ad (celM ad dA)) (hE : zE zX0 (zA ad NM sz) s s.heap) (hr : meth.sig.returnType = (some .boolean)) (hinj : ∀ i j, i < NM → j < NM → ad i = ad j → i = j) (hk74 : ∀ (σ : zSt) (x1 : Int) (x2 : Int) (x3 : Int) (x4 : Int) (x5 : Int) (x6 : Int) (x7 : Int) (x8 : Int) (x9 : Int), k74 σ x1 x2 x3 x4 x5 x6 x7 x8 x9 → zAt p l e ({ frames := 2, cells := 0, slots := 0, locals := 53 } : Room) s m args below meth c 0 0 (MQ below (va_Qi (zPi K) (zB D vwCl (tyA dA) NM ad (celM ad dA)) (zA ad NM sz)) args s 0 0 (zA ad NM sz)) 15 D vwCl (zA ad NM sz) NM ad (celM ad dA) 74 [(0, vR ad 0), (1, vI x1), (2, vI x2), (3, vI x3), (4, vI x4), (5, vI x5), (6, vI x6), (7, vI x7), (8, vI x8), (9, vI x9)] [] σ) (hk91 : ∀ (σ : zSt) (x1 : Int) (x2 : Int) (x3 : Int) (x4 : Int) (x5 : Int) (x6 : Int) (x7 : Int) (x8 : Int) (x9 : Int) (x10 : Int), k91 σ x1 x2 x3 x4 x5 x6 x7 x8 x9 x10 → zAt p l e ({ frames := 2, cells := 0, slots := 0, locals := 53 } : Room) s m args below meth c 0 0 (MQ below (va_Qi (zPi K) (zB D vwCl (tyA dA) NM ad (celM ad dA)) (zA ad NM sz)) args s 0 0 (zA ad NM sz)) 15 D vwCl (zA ad NM sz) NM ad (celM ad dA) 91 [(0, vR ad 0), (1, vI x1), (2, vI x2), (3, vI x3), (4, vI x4), (5, vI x5), (6, vI x6), (7, vI x7), (8, vI x8), (9, vI x9), (10, vI x10)] [] σ) {σ : zSt} {x1 : Int} {x2 : Int} {x3 : Int} {x4 : Int} {x5 : Int} {x6 : Int} {x7 : Int} {x8 : Int} {x9 : Int} {x10 : Int} {x11 : Int} {x12 : Int} {x13 : Int} {x14 : Int} (hf : fX12_search_B225 K k74 k91 σ x1 x2 x3 x4 x5 x6 x7 x8 x9 x10 x11 x12 x13 x14) : zAt p l e ({ frames := 2, cells := 0, slots := 0, locals := 53 } : Room) s m args below meth c 0 0 (MQ below (va_Qi (zPi K) (zB D vwCl (tyA dA) NM ad (celM ad dA)) (zA ad NM sz)) args s 0 0 (zA ad NM sz)) 15 D vwCl (zA ad NM sz) NM ad (celM ad dA) 225 [(0, vR ad 0), (1, vI x1), (2, vI x2), (3, vI x3), (4, vI x4), (5, vI x5), (6, vI x6), (7, vI x7), (8, vI x8), (9, vI x9), (10, vI x10), (11, vI x11), (12, vI x12), (13, vI x13), (14, vI x14)] [] σ := by
  refine z_aload_n hC dX12_search_225 0 rfl rfl ?_
  refine z_iload hC dX12_search_226 14 rfl ?_
  refine z_put hC (ty := .int) tyX12 tyX12_ok nmX12 (fun w h => uT _ w (uL12 w h)) (oM_12 (show kM 0 = 12 by decide)) (loM' (show kM 0 = 12 by decide) (by decide)) 25 (by decide) (uT _ _ u1570) rfl rfl (25) (x14) (by simp [zu]) (by decide +kernel) rfl rfl (Nat.le_of_ble_eq_true rfl) dX12_search_228 ?_
  obtain ⟨σ29, eσ29⟩ : ∃ z : zSt, z = zu σ 0 25 x14 := ⟨_, rfl⟩
  rw [← eσ29]
  replace hf := hf σ29 eσ29
  refine z_sub (lv' := [(0, vR ad 0), (1, vI x1), (2, vI x2), (3, vI x3), (4, vI x4), (5, vI x5), (6, vI x6), (7, vI x7), (8, vI x8), (9, vI x9), (10, vI x10), (11, vI x11), (12, vI x12), (13, vI x13)]) [0, 1, 2, 3, 4, 5, 6, 7, 8, 9, 10, 11, 12, 13] rfl ?_
  exact wX12_search_B231 hC hE hr hinj hk74 hk91  hf
set_option maxHeartbeats 4000000 in
set_option maxRecDepth 100000 in
theorem wX12_search_B202 {p : Program} {l : Launch} {e : Env} {s : State} {m : MethodId} {args : Array Value} {below : List Frame} {meth : Method} {c : Code} {D : va_G} {dA : Nat → ClassId} {ad : Nat → Nat} {sz : Nat}  {K : Int → zSt → Prop} {k74 : zSt → Int → Int → Int → Int → Int → Int → Int → Int → Int → Prop} {k91 : zSt → Int → Int → Int → Int → Int → Int → Int → Int → Int → Int → Prop} (hC : zC p m c cX12_search 15 s args (Cond.code yX12_search cX12_search 15 (some .boolean) :: UW) RX12 meth D vwCl (tyA dA) (zA ad NM sz) NM ad (celM ad dA)) (hE : zE zX0 (zA ad NM sz) s s.heap) (hr : meth.sig.returnType = (some .boolean)) (hinj : ∀ i j, i < NM → j < NM → ad i = ad j → i = j) (hk74 : ∀ (σ : zSt) (x1 : Int) (x2 : Int) (x3 : Int) (x4 : Int) (x5 : Int) (x6 : Int) (x7 : Int) (x8 : Int) (x9 : Int), k74 σ x1 x2 x3 x4 x5 x6 x7 x8 x9 → zAt p l e ({ frames := 2, cells := 0, slots := 0, locals := 53 } : Room) s m args below meth c 0 0 (MQ below (va_Qi (zPi K) (zB D vwCl (tyA dA) NM ad (celM ad dA)) (zA ad NM sz)) args s 0 0 (zA ad NM sz)) 15 D vwCl (zA ad NM sz) NM ad (celM ad dA) 74 [(0, vR ad 0), (1, vI x1), (2, vI x2), (3, vI x3), (4, vI x4), (5, vI x5), (6, vI x6), (7, vI x7), (8, vI x8), (9, vI x9)] [] σ) (hk91 : ∀ (σ : zSt) (x1 : Int) (x2 : Int) (x3 : Int) (x4 : Int) (x5 : Int) (x6 : Int) (x7 : Int) (x8 : Int) (x9 : Int) (x10 : Int), k91 σ x1 x2 x3 x4 x5 x6 x7 x8 x9 x10 → zAt p l e ({ frames := 2, cells := 0, slots := 0, locals := 53 } : Room) s m args below meth c 0 0 (MQ below (va_Qi (zPi K) (zB D vwCl (tyA dA) NM ad (celM ad dA)) (zA ad NM sz)) args s 0 0 (zA ad NM sz)) 15 D vwCl (zA ad NM sz) NM ad (celM ad dA) 91 [(0, vR ad 0), (1, vI x1), (2, vI x2), (3, vI x3), (4, vI x4), (5, vI x5), (6, vI x6), (7, vI x7), (8, vI x8), (9, vI x9), (10, vI x10)] [] σ) {σ : zSt} {x1 : Int} {x2 : Int} {x3 : Int} {x4 : Int} {x5 : Int} {x6 : Int} {x7 : Int} {x8 : Int} {x9 : Int} {x10 : Int} {x11 : Int} {x12 : Int} {x13 : Int} {s0 : Int} (hf : fX12_search_B202 K k74 k91 σ x1 x2 x3 x4 x5 x6 x7 x8 x9 x10 x11 x12 x13 s0) : zAt p l e ({ frames := 2, cells := 0, slots := 0, locals := 53 } : Room) s m args below meth c 0 0 (MQ below (va_Qi (zPi K) (zB D vwCl (tyA dA) NM ad (celM ad dA)) (zA ad NM sz)) args s 0 0 (zA ad NM sz)) 15 D vwCl (zA ad NM sz) NM ad (celM ad dA) 202 [(0, vR ad 0), (1, vI x1), (2, vI x2), (3, vI x3), (4, vI x4), (5, vI x5), (6, vI x6), (7, vI x7), (8, vI x8), (9, vI x9), (10, vI x10), (11, vI x11), (12, vI x12), (13, vI x13)] [vI s0] σ := by
  refine z_istore hC ([(14, vI s0), (0, vR ad 0), (1, vI x1), (2, vI x2), (3, vI x3), (4, vI x4), (5, vI x5), (6, vI x6), (7, vI x7), (8, vI x8), (9, vI x9), (10, vI x10), (11, vI x11), (12, vI x12), (13, vI x13)]) dX12_search_202 (by decide) rfl ?_
  refine z_iload hC dX12_search_204 0 rfl ?_
  obtain ⟨g23, hf⟩ := hf
  refine z_if_lt (tgt := 231) hC dX12_search_206 (by decide) g23 (fun hc => ?_) (fun hc => ?_)
  · replace hf := hf.1 hc
    refine z_sub (lv' := [(0, vR ad 0), (1, vI x1), (2, vI x2), (3, vI x3), (4, vI x4), (5, vI x5), (6, vI x6), (7, vI x7), (8, vI x8), (9, vI x9), (10, vI x10), (11, vI x11), (12, vI x12), (13, vI x13)]) [1, 2, 3, 4, 5, 6, 7, 8, 9, 10, 11, 12, 13, 14] rfl ?_
    exact wX12_search_B231 hC hE hr hinj hk74 hk91  hf
  · replace hf := hf.2 hc
    refine z_aload_n hC dX12_search_209 1 rfl rfl ?_
    refine z_get hC (fun w h => uT _ w (uL12 w h)) (oM_12 (show kM 0 = 12 by decide)) 25 (by decide) (uT _ _ u1570) rfl rfl dX12_search_210 ?_
    obtain ⟨g24, hf⟩ := hf
    refine z_if_lt (tgt := 225) hC dX12_search_213 (by decide) g24 (fun hc => ?_) (fun hc => ?_)
    · replace hf := hf.1 hc
      refine z_sub (lv' := [(0, vR ad 0), (1, vI x1), (2, vI x2), (3, vI x3), (4, vI x4), (5, vI x5), (6, vI x6), (7, vI x7), (8, vI x8), (9, vI x9), (10, vI x10), (11, vI x11), (12, vI x12), (13, vI x13), (14, vI s0)]) [1, 2, 3, 4, 5, 6, 7, 8, 9, 10, 11, 12, 13, 14, 0] rfl ?_
      exact wX12_search_B225 hC hE hr hinj hk74 hk91  hf
    · replace hf := hf.2 hc
      refine z_iload hC dX12_search_216 0 rfl ?_
      refine z_aload_n hC dX12_search_218 1 rfl rfl ?_
      refine z_get hC (fun w h => uT _ w (uL12 w h)) (oM_12 (show kM 0 = 12 by decide)) 25 (by decide) (uT _ _ u1570) rfl rfl dX12_search_219 ?_
      refine z_icmp_ge (tgt := 231) hC dX12_search_222 (by decide) g23 g24 (fun hc => ?_) (fun hc => ?_)
      · replace hf := hf.1 hc
        refine z_sub (lv' := [(0, vR ad 0), (1, vI x1), (2, vI x2), (3, vI x3), (4, vI x4), (5, vI x5), (6, vI x6), (7, vI x7), (8, vI x8), (9, vI x9), (10, vI x10), (11, vI x11), (12, vI x12), (13, vI x13)]) [1, 2, 3, 4, 5, 6, 7, 8, 9, 10, 11, 12, 13, 14] rfl ?_
        exact wX12_search_B231 hC hE hr hinj hk74 hk91  hf
      · replace hf := hf.2 hc
        refine z_sub (lv' := [(0, vR ad 0), (1, vI x1), (2, vI x2), (3, vI x3), (4, vI x4), (5, vI x5), (6, vI x6), (7, vI x7), (8, vI x8), (9, vI x9), (10, vI x10), (11, vI x11), (12, vI x12), (13, vI x13), (14, vI s0)]) [1, 2, 3, 4, 5, 6, 7, 8, 9, 10, 11, 12, 13, 14, 0] rfl ?_
        exact wX12_search_B225 hC hE hr hinj hk74 hk91  hf
set_option maxHeartbeats 4000000 in
set_option maxRecDepth 100000 in
theorem wX12_search_B186 {p : Program} {l : Launch} {e : Env} {s : State} {m : MethodId} {args : Array Value} {below : List Frame} {meth : Method} {c : Code} {D : va_G} {dA : Nat → ClassId} {ad : Nat → Nat} {sz : Nat}  {K : Int → zSt → Prop} {k74 : zSt → Int → Int → Int → Int → Int → Int → Int → Int → Int → Prop} {k91 : zSt → Int → Int → Int → Int → Int → Int → Int → Int → Int → Int → Prop} (hC : zC p m c cX12_search 15 s args (Cond.code yX12_search cX12_search 15 (some .boolean) :: UW) RX12 meth D vwCl (tyA dA) (zA ad NM sz) NM ad (celM ad dA)) (hE : zE zX0 (zA ad NM sz) s s.heap) (hr : meth.sig.returnType = (some .boolean)) (hinj : ∀ i j, i < NM → j < NM → ad i = ad j → i = j) (hk74 : ∀ (σ : zSt) (x1 : Int) (x2 : Int) (x3 : Int) (x4 : Int) (x5 : Int) (x6 : Int) (x7 : Int) (x8 : Int) (x9 : Int), k74 σ x1 x2 x3 x4 x5 x6 x7 x8 x9 → zAt p l e ({ frames := 2, cells := 0, slots := 0, locals := 53 } : Room) s m args below meth c 0 0 (MQ below (va_Qi (zPi K) (zB D vwCl (tyA dA) NM ad (celM ad dA)) (zA ad NM sz)) args s 0 0 (zA ad NM sz)) 15 D vwCl (zA ad NM sz) NM ad (celM ad dA) 74 [(0, vR ad 0), (1, vI x1), (2, vI x2), (3, vI x3), (4, vI x4), (5, vI x5), (6, vI x6), (7, vI x7), (8, vI x8), (9, vI x9)] [] σ) (hk91 : ∀ (σ : zSt) (x1 : Int) (x2 : Int) (x3 : Int) (x4 : Int) (x5 : Int) (x6 : Int) (x7 : Int) (x8 : Int) (x9 : Int) (x10 : Int), k91 σ x1 x2 x3 x4 x5 x6 x7 x8 x9 x10 → zAt p l e ({ frames := 2, cells := 0, slots := 0, locals := 53 } : Room) s m args below meth c 0 0 (MQ below (va_Qi (zPi K) (zB D vwCl (tyA dA) NM ad (celM ad dA)) (zA ad NM sz)) args s 0 0 (zA ad NM sz)) 15 D vwCl (zA ad NM sz) NM ad (celM ad dA) 91 [(0, vR ad 0), (1, vI x1), (2, vI x2), (3, vI x3), (4, vI x4), (5, vI x5), (6, vI x6), (7, vI x7), (8, vI x8), (9, vI x9), (10, vI x10)] [] σ) {σ : zSt} {x1 : Int} {x2 : Int} {x3 : Int} {x4 : Int} {x5 : Int} {x6 : Int} {x7 : Int} {x8 : Int} {x9 : Int} {x10 : Int} {x11 : Int} {x12 : Int} {s0 : Int} (hf : fX12_search_B186 K k74 k91 σ x1 x2 x3 x4 x5 x6 x7 x8 x9 x10 x11 x12 s0) : zAt p l e ({ frames := 2, cells := 0, slots := 0, locals := 53 } : Room) s m args below meth c 0 0 (MQ below (va_Qi (zPi K) (zB D vwCl (tyA dA) NM ad (celM ad dA)) (zA ad NM sz)) args s 0 0 (zA ad NM sz)) 15 D vwCl (zA ad NM sz) NM ad (celM ad dA) 186 [(0, vR ad 0), (1, vI x1), (2, vI x2), (3, vI x3), (4, vI x4), (5, vI x5), (6, vI x6), (7, vI x7), (8, vI x8), (9, vI x9), (10, vI x10), (11, vI x11), (12, vI x12)] [vI s0] σ := by
  refine z_istore hC ([(13, vI s0), (0, vR ad 0), (1, vI x1), (2, vI x2), (3, vI x3), (4, vI x4), (5, vI x5), (6, vI x6), (7, vI x7), (8, vI x8), (9, vI x9), (10, vI x10), (11, vI x11), (12, vI x12)]) dX12_search_186 (by decide) rfl ?_
  refine z_iload hC dX12_search_188 0 rfl ?_
  obtain ⟨g22, hf⟩ := hf
  refine z_if_eq (tgt := 200) hC dX12_search_190 (by decide) g22 (fun hc => ?_) (fun hc => ?_)
  · replace hf := hf.1 hc
    refine z_iload hC dX12_search_200 12 rfl ?_
    refine z_sub (lv' := [(0, vR ad 0), (1, vI x1), (2, vI x2), (3, vI x3), (4, vI x4), (5, vI x5), (6, vI x6), (7, vI x7), (8, vI x8), (9, vI x9), (10, vI x10), (11, vI x11), (12, vI x12), (13, vI s0)]) [1, 2, 3, 4, 5, 6, 7, 8, 9, 10, 11, 12, 13, 0] rfl ?_
    exact wX12_search_B202 hC hE hr hinj hk74 hk91  hf
  · replace hf := hf.2 hc
    refine z_aload_n hC dX12_search_193 1 rfl rfl ?_
    refine z_get hC (fun w h => uT _ w (uL12 w h)) (oM_12 (show kM 0 = 12 by decide)) 24 (by decide) (uT _ _ u1569) rfl rfl dX12_search_194 ?_
    refine z_goto (tgt := 202) hC dX12_search_197 (by decide) ?_
    refine z_sub (lv' := [(0, vR ad 0), (1, vI x1), (2, vI x2), (3, vI x3), (4, vI x4), (5, vI x5), (6, vI x6), (7, vI x7), (8, vI x8), (9, vI x9), (10, vI x10), (11, vI x11), (12, vI x12), (13, vI s0)]) [1, 2, 3, 4, 5, 6, 7, 8, 9, 10, 11, 12, 13, 0] rfl ?_
    exact wX12_search_B202 hC hE hr hinj hk74 hk91  hf
set_option maxHeartbeats 4000000 in
set_option maxRecDepth 100000 in
theorem wX12_search_B181 {p : Program} {l : Launch} {e : Env} {s : State} {m : MethodId} {args : Array Value} {below : List Frame} {meth : Method} {c : Code} {D : va_G} {dA : Nat → ClassId} {ad : Nat → Nat} {sz : Nat}  {K : Int → zSt → Prop} {k74 : zSt → Int → Int → Int → Int → Int → Int → Int → Int → Int → Prop} {k91 : zSt → Int → Int → Int → Int → Int → Int → Int → Int → Int → Int → Prop} (hC : zC p m c cX12_search 15 s args (Cond.code yX12_search cX12_search 15 (some .boolean) :: UW) RX12 meth D vwCl (tyA dA) (zA ad NM sz) NM ad (celM ad dA)) (hE : zE zX0 (zA ad NM sz) s s.heap) (hr : meth.sig.returnType = (some .boolean)) (hinj : ∀ i j, i < NM → j < NM → ad i = ad j → i = j) (hk74 : ∀ (σ : zSt) (x1 : Int) (x2 : Int) (x3 : Int) (x4 : Int) (x5 : Int) (x6 : Int) (x7 : Int) (x8 : Int) (x9 : Int), k74 σ x1 x2 x3 x4 x5 x6 x7 x8 x9 → zAt p l e ({ frames := 2, cells := 0, slots := 0, locals := 53 } : Room) s m args below meth c 0 0 (MQ below (va_Qi (zPi K) (zB D vwCl (tyA dA) NM ad (celM ad dA)) (zA ad NM sz)) args s 0 0 (zA ad NM sz)) 15 D vwCl (zA ad NM sz) NM ad (celM ad dA) 74 [(0, vR ad 0), (1, vI x1), (2, vI x2), (3, vI x3), (4, vI x4), (5, vI x5), (6, vI x6), (7, vI x7), (8, vI x8), (9, vI x9)] [] σ) (hk91 : ∀ (σ : zSt) (x1 : Int) (x2 : Int) (x3 : Int) (x4 : Int) (x5 : Int) (x6 : Int) (x7 : Int) (x8 : Int) (x9 : Int) (x10 : Int), k91 σ x1 x2 x3 x4 x5 x6 x7 x8 x9 x10 → zAt p l e ({ frames := 2, cells := 0, slots := 0, locals := 53 } : Room) s m args below meth c 0 0 (MQ below (va_Qi (zPi K) (zB D vwCl (tyA dA) NM ad (celM ad dA)) (zA ad NM sz)) args s 0 0 (zA ad NM sz)) 15 D vwCl (zA ad NM sz) NM ad (celM ad dA) 91 [(0, vR ad 0), (1, vI x1), (2, vI x2), (3, vI x3), (4, vI x4), (5, vI x5), (6, vI x6), (7, vI x7), (8, vI x8), (9, vI x9), (10, vI x10)] [] σ) {σ : zSt} {x1 : Int} {x2 : Int} {x3 : Int} {x4 : Int} {x5 : Int} {x6 : Int} {x7 : Int} {x8 : Int} {x9 : Int} {x10 : Int} {x11 : Int} {x12 : Int} (hf : fX12_search_B181 K k74 k91 σ x1 x2 x3 x4 x5 x6 x7 x8 x9 x10 x11 x12) : zAt p l e ({ frames := 2, cells := 0, slots := 0, locals := 53 } : Room) s m args below meth c 0 0 (MQ below (va_Qi (zPi K) (zB D vwCl (tyA dA) NM ad (celM ad dA)) (zA ad NM sz)) args s 0 0 (zA ad NM sz)) 15 D vwCl (zA ad NM sz) NM ad (celM ad dA) 181 [(0, vR ad 0), (1, vI x1), (2, vI x2), (3, vI x3), (4, vI x4), (5, vI x5), (6, vI x6), (7, vI x7), (8, vI x8), (9, vI x9), (10, vI x10), (11, vI x11), (12, vI x12)] [] σ := by
  refine z_iconst hC dX12_search_181 ?_
  refine z_goto (tgt := 186) hC dX12_search_182 (by decide) ?_
  exact wX12_search_B186 hC hE hr hinj hk74 hk91  hf
set_option maxHeartbeats 4000000 in
set_option maxRecDepth 100000 in
theorem wX12_search_B185 {p : Program} {l : Launch} {e : Env} {s : State} {m : MethodId} {args : Array Value} {below : List Frame} {meth : Method} {c : Code} {D : va_G} {dA : Nat → ClassId} {ad : Nat → Nat} {sz : Nat}  {K : Int → zSt → Prop} {k74 : zSt → Int → Int → Int → Int → Int → Int → Int → Int → Int → Prop} {k91 : zSt → Int → Int → Int → Int → Int → Int → Int → Int → Int → Int → Prop} (hC : zC p m c cX12_search 15 s args (Cond.code yX12_search cX12_search 15 (some .boolean) :: UW) RX12 meth D vwCl (tyA dA) (zA ad NM sz) NM ad (celM ad dA)) (hE : zE zX0 (zA ad NM sz) s s.heap) (hr : meth.sig.returnType = (some .boolean)) (hinj : ∀ i j, i < NM → j < NM → ad i = ad j → i = j) (hk74 : ∀ (σ : zSt) (x1 : Int) (x2 : Int) (x3 : Int) (x4 : Int) (x5 : Int) (x6 : Int) (x7 : Int) (x8 : Int) (x9 : Int), k74 σ x1 x2 x3 x4 x5 x6 x7 x8 x9 → zAt p l e ({ frames := 2, cells := 0, slots := 0, locals := 53 } : Room) s m args below meth c 0 0 (MQ below (va_Qi (zPi K) (zB D vwCl (tyA dA) NM ad (celM ad dA)) (zA ad NM sz)) args s 0 0 (zA ad NM sz)) 15 D vwCl (zA ad NM sz) NM ad (celM ad dA) 74 [(0, vR ad 0), (1, vI x1), (2, vI x2), (3, vI x3), (4, vI x4), (5, vI x5), (6, vI x6), (7, vI x7), (8, vI x8), (9, vI x9)] [] σ) (hk91 : ∀ (σ : zSt) (x1 : Int) (x2 : Int) (x3 : Int) (x4 : Int) (x5 : Int) (x6 : Int) (x7 : Int) (x8 : Int) (x9 : Int) (x10 : Int), k91 σ x1 x2 x3 x4 x5 x6 x7 x8 x9 x10 → zAt p l e ({ frames := 2, cells := 0, slots := 0, locals := 53 } : Room) s m args below meth c 0 0 (MQ below (va_Qi (zPi K) (zB D vwCl (tyA dA) NM ad (celM ad dA)) (zA ad NM sz)) args s 0 0 (zA ad NM sz)) 15 D vwCl (zA ad NM sz) NM ad (celM ad dA) 91 [(0, vR ad 0), (1, vI x1), (2, vI x2), (3, vI x3), (4, vI x4), (5, vI x5), (6, vI x6), (7, vI x7), (8, vI x8), (9, vI x9), (10, vI x10)] [] σ) {σ : zSt} {x1 : Int} {x2 : Int} {x3 : Int} {x4 : Int} {x5 : Int} {x6 : Int} {x7 : Int} {x8 : Int} {x9 : Int} {x10 : Int} {x11 : Int} {x12 : Int} (hf : fX12_search_B185 K k74 k91 σ x1 x2 x3 x4 x5 x6 x7 x8 x9 x10 x11 x12) : zAt p l e ({ frames := 2, cells := 0, slots := 0, locals := 53 } : Room) s m args below meth c 0 0 (MQ below (va_Qi (zPi K) (zB D vwCl (tyA dA) NM ad (celM ad dA)) (zA ad NM sz)) args s 0 0 (zA ad NM sz)) 15 D vwCl (zA ad NM sz) NM ad (celM ad dA) 185 [(0, vR ad 0), (1, vI x1), (2, vI x2), (3, vI x3), (4, vI x4), (5, vI x5), (6, vI x6), (7, vI x7), (8, vI x8), (9, vI x9), (10, vI x10), (11, vI x11), (12, vI x12)] [] σ := by
  refine z_iconst hC dX12_search_185 ?_
  exact wX12_search_B186 hC hE hr hinj hk74 hk91  hf
set_option maxHeartbeats 4000000 in
set_option maxRecDepth 100000 in
theorem wX12_search_B91 {p : Program} {l : Launch} {e : Env} {s : State} {m : MethodId} {args : Array Value} {below : List Frame} {meth : Method} {c : Code} {D : va_G} {dA : Nat → ClassId} {ad : Nat → Nat} {sz : Nat}  {K : Int → zSt → Prop} {k74 : zSt → Int → Int → Int → Int → Int → Int → Int → Int → Int → Prop} (hC : zC p m c cX12_search 15 s args (Cond.code yX12_search cX12_search 15 (some .boolean) :: UW) RX12 meth D vwCl (tyA dA) (zA ad NM sz) NM ad (celM ad dA)) (hE : zE zX0 (zA ad NM sz) s s.heap) (hr : meth.sig.returnType = (some .boolean)) (hinj : ∀ i j, i < NM → j < NM → ad i = ad j → i = j) (hk74 : ∀ (σ : zSt) (x1 : Int) (x2 : Int) (x3 : Int) (x4 : Int) (x5 : Int) (x6 : Int) (x7 : Int) (x8 : Int) (x9 : Int), k74 σ x1 x2 x3 x4 x5 x6 x7 x8 x9 → zAt p l e ({ frames := 2, cells := 0, slots := 0, locals := 53 } : Room) s m args below meth c 0 0 (MQ below (va_Qi (zPi K) (zB D vwCl (tyA dA) NM ad (celM ad dA)) (zA ad NM sz)) args s 0 0 (zA ad NM sz)) 15 D vwCl (zA ad NM sz) NM ad (celM ad dA) 74 [(0, vR ad 0), (1, vI x1), (2, vI x2), (3, vI x3), (4, vI x4), (5, vI x5), (6, vI x6), (7, vI x7), (8, vI x8), (9, vI x9)] [] σ) : ∀ (n : Nat) (σ : zSt) (x1 : Int) (x2 : Int) (x3 : Int) (x4 : Int) (x5 : Int) (x6 : Int) (x7 : Int) (x8 : Int) (x9 : Int) (x10 : Int), fX12_search_B91 K k74 n σ x1 x2 x3 x4 x5 x6 x7 x8 x9 x10 → zAt p l e ({ frames := 2, cells := 0, slots := 0, locals := 53 } : Room) s m args below meth c 0 0 (MQ below (va_Qi (zPi K) (zB D vwCl (tyA dA) NM ad (celM ad dA)) (zA ad NM sz)) args s 0 0 (zA ad NM sz)) 15 D vwCl (zA ad NM sz) NM ad (celM ad dA) 91 [(0, vR ad 0), (1, vI x1), (2, vI x2), (3, vI x3), (4, vI x4), (5, vI x5), (6, vI x6), (7, vI x7), (8, vI x8), (9, vI x9), (10, vI x10)] [] σ := by
  intro n
  induction n with
  | zero => intro σ x1 x2 x3 x4 x5 x6 x7 x8 x9 x10  hf; exact False.elim hf
  | succ n ih =>
    intro σ x1 x2 x3 x4 x5 x6 x7 x8 x9 x10  hf
    rw [uX12_search_B91] at hf
    refine z_iload hC dX12_search_91 10 rfl ?_
    refine z_iload hC dX12_search_93 5 rfl ?_
    refine z_iload hC dX12_search_95 7 rfl ?_
    refine z_iadd hC dX12_search_97 ?_
    obtain ⟨g11, hf⟩ := hf
    obtain ⟨g12, hf⟩ := hf
    refine z_icmp_gt (tgt := 267) hC dX12_search_98 (by decide) g11 g12 (fun hc => ?_) (fun hc => ?_)
    · replace hf := hf.1 hc
      refine z_iinc hC ([(9, vI (x9 + 1)), (0, vR ad 0), (1, vI x1), (2, vI x2), (3, vI x3), (4, vI x4), (5, vI x5), (6, vI x6), (7, vI x7), (8, vI x8), (10, vI x10)]) dX12_search_267 9 rfl (by decide) rfl ?_
      refine z_goto (tgt := 74) hC dX12_search_270 (by decide) ?_
      refine z_sub (lv' := [(0, vR ad 0), (1, vI x1), (2, vI x2), (3, vI x3), (4, vI x4), (5, vI x5), (6, vI x6), (7, vI x7), (8, vI x8), (9, vI (x9 + 1))]) [1, 2, 3, 4, 5, 6, 7, 8, 9, 0] rfl ?_
      exact hk74 _ _ _ _ _ _ _ _ _ _ hf
    · replace hf := hf.2 hc
      refine z_aload_n hC dX12_search_101 0 rfl rfl ?_
      refine z_iload hC dX12_search_102 10 rfl ?_
      refine z_iload hC dX12_search_104 9 rfl ?_
      refine z_callVi hC hE (oM_12 (show kM 0 = 12 by decide)) [vI x10, vI x9] (fun sz2 => mX12_isInside l hinj sz2 hf) (cwV 2 hC.1.2.2.2.2 (uV (uT _) u1913 u1915 u70 u118 u1916) rfl rfl rfl (by decide +kernel) ⟨Nat.le_of_ble_eq_true rfl, Nat.le_of_ble_eq_true rfl⟩) rfl rfl (Nat.le_of_ble_eq_true rfl) ⟨Nat.le_of_ble_eq_true rfl, Nat.le_of_ble_eq_true rfl⟩ dX12_search_106 (fun r13 σ13 hf => ?_)
      obtain ⟨g14, hf⟩ := hf
      refine z_if_ne (tgt := 115) hC dX12_search_109 (by decide) g14 (fun hc => ?_) (fun hc => ?_)
      · replace hf := hf.2 hc
        refine z_aload_n hC dX12_search_115 0 rfl rfl ?_
        refine z_iload_n hC dX12_search_116 1 rfl rfl ?_
        refine z_iload_n hC dX12_search_117 2 rfl rfl ?_
        refine z_iload_n hC dX12_search_118 3 rfl rfl ?_
        refine z_iload hC dX12_search_119 4 rfl ?_
        refine z_iload hC dX12_search_121 10 rfl ?_
        refine z_iload hC dX12_search_123 9 rfl ?_
        refine z_callVi hC hE (oM_12 (show kM 0 = 12 by decide)) [vI x1, vI x2, vI x3, vI x4, vI x10, vI x9] (fun sz2 => mX12_mismatch l hinj sz2 hf) (cwV 6 hC.1.2.2.2.2 (uV (uT _) u1917 u1919 u71 u118 u1920) rfl rfl rfl (by decide +kernel) ⟨Nat.le_of_ble_eq_true rfl, Nat.le_of_ble_eq_true rfl⟩) rfl rfl (Nat.le_of_ble_eq_true rfl) ⟨Nat.le_of_ble_eq_true rfl, Nat.le_of_ble_eq_true rfl⟩ dX12_search_125 (fun r15 σ15 hf => ?_)
        refine z_istore hC ([(11, vI r15), (0, vR ad 0), (1, vI x1), (2, vI x2), (3, vI x3), (4, vI x4), (5, vI x5), (6, vI x6), (7, vI x7), (8, vI x8), (9, vI x9), (10, vI x10)]) dX12_search_128 (by decide) rfl ?_
        refine z_iload hC dX12_search_130 11 rfl ?_
        refine z_iload hC dX12_search_132 6 rfl ?_
        refine z_isub hC dX12_search_134 ?_
        refine z_callSi hC hE [vI (x10 - x5)] (fun sz2 => mX12_absolute l hinj sz2 hf) (va_cwS 1 hC.1.2.2.2.2 (uS (uT _) u1921 u1922 u118 u1923) rfl rfl rfl (by decide +kernel) ⟨Nat.le_of_ble_eq_true rfl, Nat.le_of_ble_eq_true rfl⟩) rfl rfl (Nat.le_of_ble_eq_true rfl) ⟨Nat.le_of_ble_eq_true rfl, Nat.le_of_ble_eq_true rfl⟩ dX12_search_135 (fun r16 σ16 hf => ?_)
        refine z_iload hC dX12_search_138 10 rfl ?_
        refine z_iload hC dX12_search_140 7 rfl ?_
        refine z_isub hC dX12_search_142 ?_
        refine z_callSi hC hE [vI (x9 - x6)] (fun sz2 => mX12_absolute l hinj sz2 hf) (va_cwS 1 hC.1.2.2.2.2 (uS (uT _) u1921 u1922 u118 u1923) rfl rfl rfl (by decide +kernel) ⟨Nat.le_of_ble_eq_true rfl, Nat.le_of_ble_eq_true rfl⟩) rfl rfl (Nat.le_of_ble_eq_true rfl) ⟨Nat.le_of_ble_eq_true rfl, Nat.le_of_ble_eq_true rfl⟩ dX12_search_143 (fun r17 σ17 hf => ?_)
        refine z_iadd hC dX12_search_146 ?_
        refine z_istore hC ([(12, vI (r16 + r17)), (11, vI r15), (0, vR ad 0), (1, vI x1), (2, vI x2), (3, vI x3), (4, vI x4), (5, vI x5), (6, vI x6), (7, vI x7), (8, vI x8), (9, vI x9), (10, vI x10)]) dX12_search_147 (by decide) rfl ?_
        refine z_aload_n hC dX12_search_149 2 rfl rfl ?_
        refine z_get hC (fun w h => uT _ w (uL12 w h)) (oM_12 (show kM 0 = 12 by decide)) 24 (by decide) (uT _ _ u1569) rfl rfl dX12_search_150 ?_
        obtain ⟨g18, hf⟩ := hf
        refine z_if_lt (tgt := 181) hC dX12_search_153 (by decide) g18 (fun hc => ?_) (fun hc => ?_)
        · replace hf := hf.1 hc
          refine z_sub (lv' := [(0, vR ad 0), (1, vI x1), (2, vI x2), (3, vI x3), (4, vI x4), (5, vI x5), (6, vI x6), (7, vI x7), (8, vI x8), (9, vI x9), (10, vI x10), (11, vI r15), (12, vI (r16 + r17))]) [2, 3, 4, 5, 6, 7, 8, 9, 10, 11, 12, 1, 0] rfl ?_
          exact wX12_search_B181 hC hE hr hinj hk74 ih  hf
        · replace hf := hf.2 hc
          refine z_iload hC dX12_search_156 1 rfl ?_
          refine z_aload_n hC dX12_search_158 2 rfl rfl ?_
          refine z_get hC (fun w h => uT _ w (uL12 w h)) (oM_12 (show kM 0 = 12 by decide)) 24 (by decide) (uT _ _ u1569) rfl rfl dX12_search_159 ?_
          obtain ⟨g19, hf⟩ := hf
          refine z_icmp_lt (tgt := 181) hC dX12_search_162 (by decide) g19 g18 (fun hc => ?_) (fun hc => ?_)
          · replace hf := hf.1 hc
            refine z_sub (lv' := [(0, vR ad 0), (1, vI x1), (2, vI x2), (3, vI x3), (4, vI x4), (5, vI x5), (6, vI x6), (7, vI x7), (8, vI x8), (9, vI x9), (10, vI x10), (11, vI r15), (12, vI (r16 + r17))]) [2, 3, 4, 5, 6, 7, 8, 9, 10, 11, 12, 1, 0] rfl ?_
            exact wX12_search_B181 hC hE hr hinj hk74 ih  hf
          · replace hf := hf.2 hc
            refine z_iload hC dX12_search_165 1 rfl ?_
            refine z_aload_n hC dX12_search_167 2 rfl rfl ?_
            refine z_get hC (fun w h => uT _ w (uL12 w h)) (oM_12 (show kM 0 = 12 by decide)) 24 (by decide) (uT _ _ u1569) rfl rfl dX12_search_168 ?_
            refine z_icmp_ne (tgt := 185) hC dX12_search_171 (by decide) g19 g18 (fun hc => ?_) (fun hc => ?_)
            · replace hf := hf.2 hc
              refine z_sub (lv' := [(0, vR ad 0), (1, vI x1), (2, vI x2), (3, vI x3), (4, vI x4), (5, vI x5), (6, vI x6), (7, vI x7), (8, vI x8), (9, vI x9), (10, vI x10), (11, vI r15), (12, vI (r16 + r17))]) [2, 3, 4, 5, 6, 7, 8, 9, 10, 11, 12, 1, 0] rfl ?_
              exact wX12_search_B185 hC hE hr hinj hk74 ih  hf
            · replace hf := hf.1 hc
              refine z_iload hC dX12_search_174 0 rfl ?_
              refine z_iload hC dX12_search_176 10 rfl ?_
              obtain ⟨g20, hf⟩ := hf
              obtain ⟨g21, hf⟩ := hf
              refine z_icmp_ge (tgt := 185) hC dX12_search_178 (by decide) g20 g21 (fun hc => ?_) (fun hc => ?_)
              · replace hf := hf.1 hc
                refine z_sub (lv' := [(0, vR ad 0), (1, vI x1), (2, vI x2), (3, vI x3), (4, vI x4), (5, vI x5), (6, vI x6), (7, vI x7), (8, vI x8), (9, vI x9), (10, vI x10), (11, vI r15), (12, vI (r16 + r17))]) [2, 3, 4, 5, 6, 7, 8, 9, 10, 11, 12, 1, 0] rfl ?_
                exact wX12_search_B185 hC hE hr hinj hk74 ih  hf
              · replace hf := hf.2 hc
                refine z_sub (lv' := [(0, vR ad 0), (1, vI x1), (2, vI x2), (3, vI x3), (4, vI x4), (5, vI x5), (6, vI x6), (7, vI x7), (8, vI x8), (9, vI x9), (10, vI x10), (11, vI r15), (12, vI (r16 + r17))]) [2, 3, 4, 5, 6, 7, 8, 9, 10, 11, 12, 1, 0] rfl ?_
                exact wX12_search_B181 hC hE hr hinj hk74 ih  hf
      · replace hf := hf.1 hc
        refine z_goto (tgt := 261) hC dX12_search_112 (by decide) ?_
        refine z_iinc hC ([(10, vI (x10 + 1)), (0, vR ad 0), (1, vI x1), (2, vI x2), (3, vI x3), (4, vI x4), (5, vI x5), (6, vI x6), (7, vI x7), (8, vI x8), (9, vI x9)]) dX12_search_261 10 rfl (by decide) rfl ?_
        refine z_goto (tgt := 91) hC dX12_search_264 (by decide) ?_
        refine z_sub (lv' := [(0, vR ad 0), (1, vI x1), (2, vI x2), (3, vI x3), (4, vI x4), (5, vI x5), (6, vI x6), (7, vI x7), (8, vI x8), (9, vI x9), (10, vI (x10 + 1))]) [1, 2, 3, 4, 5, 6, 7, 8, 9, 10, 0] rfl ?_
        exact ih _ _ _ _ _ _ _ _ _ _ _ hf
set_option maxHeartbeats 4000000 in
set_option maxRecDepth 100000 in
theorem wX12_search_B74 {p : Program} {l : Launch} {e : Env} {s : State} {m : MethodId} {args : Array Value} {below : List Frame} {meth : Method} {c : Code} {D : va_G} {dA : Nat → ClassId} {ad : Nat → Nat} {sz : Nat}  {K : Int → zSt → Prop} (hC : zC p m c cX12_search 15 s args (Cond.code yX12_search cX12_search 15 (some .boolean) :: UW) RX12 meth D vwCl (tyA dA) (zA ad NM sz) NM ad (celM ad dA)) (hE : zE zX0 (zA ad NM sz) s s.heap) (hr : meth.sig.returnType = (some .boolean)) (hinj : ∀ i j, i < NM → j < NM → ad i = ad j → i = j) : ∀ (n : Nat) (σ : zSt) (x1 : Int) (x2 : Int) (x3 : Int) (x4 : Int) (x5 : Int) (x6 : Int) (x7 : Int) (x8 : Int) (x9 : Int), fX12_search_B74 K n σ x1 x2 x3 x4 x5 x6 x7 x8 x9 → zAt p l e ({ frames := 2, cells := 0, slots := 0, locals := 53 } : Room) s m args below meth c 0 0 (MQ below (va_Qi (zPi K) (zB D vwCl (tyA dA) NM ad (celM ad dA)) (zA ad NM sz)) args s 0 0 (zA ad NM sz)) 15 D vwCl (zA ad NM sz) NM ad (celM ad dA) 74 [(0, vR ad 0), (1, vI x1), (2, vI x2), (3, vI x3), (4, vI x4), (5, vI x5), (6, vI x6), (7, vI x7), (8, vI x8), (9, vI x9)] [] σ := by
  intro n
  induction n with
  | zero => intro σ x1 x2 x3 x4 x5 x6 x7 x8 x9  hf; exact False.elim hf
  | succ n ih =>
    intro σ x1 x2 x3 x4 x5 x6 x7 x8 x9  hf
    rw [uX12_search_B74] at hf
    refine z_iload hC dX12_search_74 9 rfl ?_
    refine z_iload hC dX12_search_76 6 rfl ?_
    refine z_iload hC dX12_search_78 7 rfl ?_
    refine z_iadd hC dX12_search_80 ?_
    obtain ⟨g8, hf⟩ := hf
    obtain ⟨g9, hf⟩ := hf
    refine z_icmp_gt (tgt := 273) hC dX12_search_81 (by decide) g8 g9 (fun hc => ?_) (fun hc => ?_)
    · replace hf := hf.1 hc
      refine z_aload_n hC dX12_search_273 0 rfl rfl ?_
      refine z_get hC (fun w h => uT _ w (uL12 w h)) (oM_12 (show kM 0 = 12 by decide)) 24 (by decide) (uT _ _ u1569) rfl rfl dX12_search_274 ?_
      obtain ⟨g10, hf⟩ := hf
      refine z_if_lt (tgt := 284) hC dX12_search_277 (by decide) g10 (fun hc => ?_) (fun hc => ?_)
      · replace hf := hf.1 hc
        refine z_iconst hC dX12_search_284 ?_
        exact z_bret hC hr rfl dX12_search_285 (Or.inl rfl) hf
      · replace hf := hf.2 hc
        refine z_iconst hC dX12_search_280 ?_
        refine z_goto (tgt := 285) hC dX12_search_281 (by decide) ?_
        exact z_bret hC hr rfl dX12_search_285 (Or.inr rfl) hf
    · replace hf := hf.2 hc
      refine z_iload hC dX12_search_84 5 rfl ?_
      refine z_iload hC dX12_search_86 7 rfl ?_
      refine z_isub hC dX12_search_88 ?_
      refine z_istore hC ([(10, vI (x5 - x7)), (0, vR ad 0), (1, vI x1), (2, vI x2), (3, vI x3), (4, vI x4), (5, vI x5), (6, vI x6), (7, vI x7), (8, vI x8), (9, vI x9)]) dX12_search_89 (by decide) rfl ?_
      refine z_sub (lv' := [(0, vR ad 0), (1, vI x1), (2, vI x2), (3, vI x3), (4, vI x4), (5, vI x5), (6, vI x6), (7, vI x7), (8, vI x8), (9, vI x9), (10, vI (x5 - x7))]) [1, 2, 3, 4, 5, 6, 7, 8, 9, 10, 0] rfl ?_
      obtain ⟨n, hf⟩ := hf
      exact wX12_search_B91 hC hE hr hinj ih n _ _ _ _ _ _ _ _ _ _ _ hf
set_option maxHeartbeats 4000000 in
set_option maxRecDepth 100000 in
theorem mX12_search {D : va_G} {dA : Nat → ClassId} {ad : Nat → Nat}  (l : Launch) (hinj : ∀ i j, i < NM → j < NM → ad i = ad j → i = j) (sz : Nat) {K : Int → zSt → Prop} {σ : zSt} {x1 : Int} {x2 : Int} {x3 : Int} {x4 : Int} (hf : fX12_search K σ x1 x2 x3 x4) : Met l yX12_search (Cond.code yX12_search cX12_search 15 (some .boolean) :: UW) ({ frames := 2, cells := 0, slots := 0, locals := 53 } : Room) (va_Pc [vR ad 0, vI x1, vI x2, vI x3, vI x4] (zPre D vwCl (tyA dA) zX0 NM ad (celM ad dA) sz σ)) (va_Qi (zPi K) (zB D vwCl (tyA dA) NM ad (celM ad dA)) (zA ad NM sz)) 0 0 (zA ad NM sz) := by
  refine z_enter (cc := cX12_search) (maxL := 15) (ret := (some .boolean)) (vs := [vR ad 0, vI x1, vI x2, vI x3, vI x4]) (plainFor_of_name (by decide)) rfl hinj (Nat.le_of_ble_eq_true rfl) ?_
  intro p e s m args below meth c hC hE hsz hr hnm
  show zAt p l e ({ frames := 2, cells := 0, slots := 0, locals := 53 } : Room) s m args below meth c 0 0 (MQ below (va_Qi (zPi K) (zB D vwCl (tyA dA) NM ad (celM ad dA)) (zA ad NM sz)) args s 0 0 (zA ad NM sz)) 15 D vwCl (zA ad NM sz) NM ad (celM ad dA) 0 [(0, vR ad 0), (1, vI x1), (2, vI x2), (3, vI x3), (4, vI x4)] [] σ
  refine z_aload_n hC dX12_search_0 0 rfl rfl ?_
  refine z_iconst hC dX12_search_1 ?_
  refine z_put hC (ty := .int) tyX12 tyX12_ok nmX12 (fun w h => uT _ w (uL12 w h)) (oM_12 (show kM 0 = 12 by decide)) (loM' (show kM 0 = 12 by decide) (by decide)) 24 (by decide) (uT _ _ u1569) rfl rfl (24) ((-1)) (by simp [zu]) (by decide +kernel) rfl rfl (Nat.le_of_ble_eq_true rfl) dX12_search_2 ?_
  obtain ⟨σ1, eσ1⟩ : ∃ z : zSt, z = zu σ 0 24 (-1) := ⟨_, rfl⟩
  rw [← eσ1]
  replace hf := hf σ1 eσ1
  refine z_aload_n hC dX12_search_5 0 rfl rfl ?_
  refine z_iconst hC dX12_search_6 ?_
  refine z_put hC (ty := .int) tyX12 tyX12_ok nmX12 (fun w h => uT _ w (uL12 w h)) (oM_12 (show kM 0 = 12 by decide)) (loM' (show kM 0 = 12 by decide) (by decide)) 25 (by decide) (uT _ _ u1570) rfl rfl (25) ((-1)) (by simp [zu]) (by decide +kernel) rfl rfl (Nat.le_of_ble_eq_true rfl) dX12_search_7 ?_
  obtain ⟨σ2, eσ2⟩ : ∃ z : zSt, z = zu σ1 0 25 (-1) := ⟨_, rfl⟩
  rw [← eσ2]
  replace hf := hf σ2 eσ2
  refine z_aload_n hC dX12_search_10 0 rfl rfl ?_
  refine z_iload_n hC dX12_search_11 2 rfl rfl ?_
  refine z_iload_n hC dX12_search_12 3 rfl rfl ?_
  refine z_callVi hC hE (oM_12 (show kM 0 = 12 by decide)) [vI x2, vI x3] (fun sz2 => mX12_isInside l hinj sz2 hf) (cwV 2 hC.1.2.2.2.2 (uV (uT _) u1913 u1915 u70 u118 u1916) rfl rfl rfl (by decide +kernel) ⟨Nat.le_of_ble_eq_true rfl, Nat.le_of_ble_eq_true rfl⟩) rfl rfl (Nat.le_of_ble_eq_true rfl) ⟨Nat.le_of_ble_eq_true rfl, Nat.le_of_ble_eq_true rfl⟩ dX12_search_13 (fun r3 σ3 hf => ?_)
  obtain ⟨g4, hf⟩ := hf
  refine z_if_ne (tgt := 21) hC dX12_search_16 (by decide) g4 (fun hc => ?_) (fun hc => ?_)
  · replace hf := hf.2 hc
    refine z_iload_n hC dX12_search_21 2 rfl rfl ?_
    refine z_aload_n hC dX12_search_22 0 rfl rfl ?_
    refine z_get hC (fun w h => uT _ w (uL12 w h)) (oM_12 (show kM 0 = 12 by decide)) 19 (by decide) (uT _ _ u1564) rfl rfl dX12_search_23 ?_
    refine z_iload hC dX12_search_26 4 rfl ?_
    obtain ⟨g5, hf⟩ := hf
    refine z_iaload hC (aM_34 (show kM 6 = 34 by decide)) g5 dX12_search_28 ?_
    refine z_iadd hC dX12_search_29 ?_
    refine z_aload_n hC dX12_search_30 0 rfl rfl ?_
    refine z_get hC (fun w h => uT _ w (uL12 w h)) (oM_12 (show kM 0 = 12 by decide)) 19 (by decide) (uT _ _ u1564) rfl rfl dX12_search_31 ?_
    refine z_iload_n hC dX12_search_34 1 rfl rfl ?_
    obtain ⟨g6, hf⟩ := hf
    refine z_iaload hC (aM_34 (show kM 6 = 34 by decide)) g6 dX12_search_35 ?_
    refine z_isub hC dX12_search_36 ?_
    refine z_istore hC ([(5, vI ((x2 + (σ3 6 x4)) - (σ3 6 x1))), (0, vR ad 0), (1, vI x1), (2, vI x2), (3, vI x3), (4, vI x4)]) dX12_search_37 (by decide) rfl ?_
    refine z_iload_n hC dX12_search_39 4 rfl rfl ?_
    refine z_aload_n hC dX12_search_40 1 rfl rfl ?_
    refine z_get hC (fun w h => uT _ w (uL12 w h)) (oM_12 (show kM 0 = 12 by decide)) 20 (by decide) (uT _ _ u1565) rfl rfl dX12_search_41 ?_
    refine z_iload hC dX12_search_44 5 rfl ?_
    refine z_iaload hC (aM_34 (show kM 7 = 34 by decide)) g5 dX12_search_46 ?_
    refine z_iadd hC dX12_search_47 ?_
    refine z_aload_n hC dX12_search_48 1 rfl rfl ?_
    refine z_get hC (fun w h => uT _ w (uL12 w h)) (oM_12 (show kM 0 = 12 by decide)) 20 (by decide) (uT _ _ u1565) rfl rfl dX12_search_49 ?_
    refine z_iload_n hC dX12_search_52 2 rfl rfl ?_
    refine z_iaload hC (aM_34 (show kM 7 = 34 by decide)) g6 dX12_search_53 ?_
    refine z_isub hC dX12_search_54 ?_
    refine z_istore hC ([(6, vI ((x3 + (σ3 7 x4)) - (σ3 7 x1))), (5, vI ((x2 + (σ3 6 x4)) - (σ3 6 x1))), (0, vR ad 0), (1, vI x1), (2, vI x2), (3, vI x3), (4, vI x4)]) dX12_search_55 (by decide) rfl ?_
    refine z_aload_n hC dX12_search_57 2 rfl rfl ?_
    refine z_iconst hC dX12_search_58 ?_
    refine z_callVi hC hE (oM_12 (show kM 0 = 12 by decide)) [vI 1] (fun sz2 => mX12_setting l hinj sz2 hf) (cwV 1 hC.1.2.2.2.2 (uV (uT _) u1813 u1815 u55 u118 u1816) rfl rfl rfl (by decide +kernel) ⟨Nat.le_of_ble_eq_true rfl, Nat.le_of_ble_eq_true rfl⟩) rfl rfl (Nat.le_of_ble_eq_true rfl) ⟨Nat.le_of_ble_eq_true rfl, Nat.le_of_ble_eq_true rfl⟩ dX12_search_59 (fun r7 σ7 hf => ?_)
    refine z_istore hC ([(7, vI r7), (6, vI ((x3 + (σ3 7 x4)) - (σ3 7 x1))), (5, vI ((x2 + (σ3 6 x4)) - (σ3 6 x1))), (0, vR ad 0), (1, vI x1), (2, vI x2), (3, vI x3), (4, vI x4)]) dX12_search_62 (by decide) rfl ?_
    refine z_iconst hC dX12_search_64 ?_
    refine z_istore hC ([(8, vI 0), (7, vI r7), (6, vI ((x3 + (σ3 7 x4)) - (σ3 7 x1))), (5, vI ((x2 + (σ3 6 x4)) - (σ3 6 x1))), (0, vR ad 0), (1, vI x1), (2, vI x2), (3, vI x3), (4, vI x4)]) dX12_search_65 (by decide) rfl ?_
    refine z_iload hC dX12_search_67 2 rfl ?_
    refine z_iload hC dX12_search_69 1 rfl ?_
    refine z_isub hC dX12_search_71 ?_
    refine z_istore hC ([(9, vI (((x3 + (σ3 7 x4)) - (σ3 7 x1)) - r7)), (8, vI 0), (7, vI r7), (6, vI ((x3 + (σ3 7 x4)) - (σ3 7 x1))), (5, vI ((x2 + (σ3 6 x4)) - (σ3 6 x1))), (0, vR ad 0), (1, vI x1), (2, vI x2), (3, vI x3), (4, vI x4)]) dX12_search_72 (by decide) rfl ?_
    refine z_sub (lv' := [(0, vR ad 0), (1, vI x1), (2, vI x2), (3, vI x3), (4, vI x4), (5, vI ((x2 + (σ3 6 x4)) - (σ3 6 x1))), (6, vI ((x3 + (σ3 7 x4)) - (σ3 7 x1))), (7, vI r7), (8, vI 0), (9, vI (((x3 + (σ3 7 x4)) - (σ3 7 x1)) - r7))]) [5, 6, 7, 8, 9, 4, 3, 2, 1, 0] rfl ?_
    obtain ⟨n, hf⟩ := hf
    exact wX12_search_B74 hC hE hr hinj n _ _ _ _ _ _ _ _ _ _ hf
  · replace hf := hf.1 hc
    refine z_iconst hC dX12_search_19 ?_
    exact z_bret hC hr rfl dX12_search_20 (Or.inl rfl) hf
