
-- ===== X12_parseStake
def fX12_parseStake_B140 (K : zSt → Prop) (k29 : zSt → Int → Int → Prop) (σ : zSt) (x1 : Int) (x2 : Int) (x3 : Int) (s0 : Int) : Prop :=
  fX12_check (fun σ22 => zrg (σ22 0 13) ∧ ((σ22 0 13 = 0 → (0 ≤ 35 + x3 ∧ 35 + x3 < 811) ∧ ∀ σ25, σ25 = zu σ22 2 (35 + x3) (σ22 0 12) → fX12_advance (fun σ26 => fX12_readInteger (fun r27 σ27 => (0 ≤ 59 + x3 ∧ 59 + x3 < 811) ∧ ∀ σ29, σ29 = zu σ27 2 (59 + x3) r27 → k29 σ29 x1 (x2 + 1)) σ26 0 9999) σ25 ) ∧ (¬ σ22 0 13 = 0 → K σ22))) σ s0 (-15)
def fX12_parseStake_B123 (K : zSt → Prop) (k29 : zSt → Int → Int → Prop) (σ : zSt) (x1 : Int) (x2 : Int) (x3 : Int) (s0 : Int) : Prop :=
  fX12_check (fun σ20 => zrg x2 ∧ ((8 ≤ x2 → fX12_parseStake_B140 K k29 σ20 x1 x2 x3 0) ∧ (¬ 8 ≤ x2 → fX12_parseStake_B140 K k29 σ20 x1 x2 x3 1))) σ s0 (-14)
def fX12_parseStake_B118 (K : zSt → Prop) (k29 : zSt → Int → Int → Prop) (σ : zSt) (x1 : Int) (x2 : Int) (x3 : Int) : Prop :=
  fX12_parseStake_B123 K k29 σ x1 x2 x3 1
def fX12_parseStake_B90 (K : zSt → Prop) (k29 : zSt → Int → Int → Prop) (σ : zSt) (x1 : Int) (x2 : Int) (x3 : Int) (s0 : Int) : Prop :=
  fX12_check (fun σ15 => zrg x2 ∧ ((x2 = 0 → fX12_parseStake_B118 K k29 σ15 x1 x2 x3) ∧ (¬ x2 = 0 → (0 ≤ (35 + x3) - 1 ∧ (35 + x3) - 1 < 811) ∧ zrg (σ15 0 12) ∧ zrg (σ15 2 ((35 + x3) - 1)) ∧ ((σ15 0 12 ≤ σ15 2 ((35 + x3) - 1) → fX12_parseStake_B123 K k29 σ15 x1 x2 x3 0) ∧ (¬ σ15 0 12 ≤ σ15 2 ((35 + x3) - 1) → fX12_parseStake_B118 K k29 σ15 x1 x2 x3))))) σ s0 (-12)
def fX12_parseStake_B69 (K : zSt → Prop) (k29 : zSt → Int → Int → Prop) (σ : zSt) (x1 : Int) (x2 : Int) (x3 : Int) (s0 : Int) : Prop :=
  fX12_check (fun σ13 => zrg (σ13 0 12) ∧ ((9999 < σ13 0 12 → fX12_parseStake_B90 K k29 σ13 x1 x2 x3 0) ∧ (¬ 9999 < σ13 0 12 → fX12_parseStake_B90 K k29 σ13 x1 x2 x3 1))) σ s0 (-11)
def fX12_parseStake_B48 (K : zSt → Prop) (k29 : zSt → Int → Int → Prop) (σ : zSt) (x1 : Int) (x2 : Int) : Prop :=
  zrg (σ 0 10) ∧ ((σ 0 10 = 2 → fX12_parseStake_B69 K k29 σ x1 x2 ((8 * x1) + x2) 1) ∧ (¬ σ 0 10 = 2 → fX12_parseStake_B69 K k29 σ x1 x2 ((8 * x1) + x2) 0))
def fX12_parseStake_B193 (K : zSt → Prop) (σ : zSt) (x1 : Int) (x2 : Int) : Prop :=
  (0 ≤ 32 + x1 ∧ 32 + x1 < 811) ∧ ∀ σ10, σ10 = zu σ 2 (32 + x1) x2 → ∀ σ11, σ11 = zu σ10 2 5 ((σ10 2 5) + 1) → K σ11
noncomputable def fX12_parseStake_B29 (K : zSt → Prop) (n : Nat) : zSt → Int → Int → Prop :=
  Nat.rec (motive := fun _ => zSt → Int → Int → Prop) (fun _ _ _ => False) (fun _ ih σ x1 x2 => zrg (σ 0 13) ∧ ((σ 0 13 = 0 → zrg x2 ∧ ((x2 = 0 → fX12_parseStake_B48 K ih σ x1 x2) ∧ (¬ x2 = 0 → zrg (σ 0 10) ∧ ((σ 0 10 = 2 → fX12_parseStake_B48 K ih σ x1 x2) ∧ (¬ σ 0 10 = 2 → fX12_parseStake_B193 K σ x1 x2))))) ∧ (¬ σ 0 13 = 0 → fX12_parseStake_B193 K σ x1 x2))) n
theorem uX12_parseStake_B29 (K : zSt → Prop) (n0 : Nat) (σ : zSt) (x1 : Int) (x2 : Int) : fX12_parseStake_B29 K (n0 + 1) σ x1 x2 = (zrg (σ 0 13) ∧ ((σ 0 13 = 0 → zrg x2 ∧ ((x2 = 0 → fX12_parseStake_B48 K (fX12_parseStake_B29 K n0) σ x1 x2) ∧ (¬ x2 = 0 → zrg (σ 0 10) ∧ ((σ 0 10 = 2 → fX12_parseStake_B48 K (fX12_parseStake_B29 K n0) σ x1 x2) ∧ (¬ σ 0 10 = 2 → fX12_parseStake_B193 K σ x1 x2))))) ∧ (¬ σ 0 13 = 0 → fX12_parseStake_B193 K σ x1 x2))) := rfl
def fX12_parseStake (K : zSt → Prop) (σ : zSt) : Prop :=
  zrg (σ 2 5) ∧ ((3 ≤ σ 2 5 → fX12_check (fun σ2 => fX12_advanceIfGood (fun σ3 => (∃ n, fX12_parseStake_B29 K n σ3 (σ 2 5) 0)) σ2 ) σ 0 (-15)) ∧ (¬ 3 ≤ σ 2 5 → fX12_check (fun σ4 => fX12_advanceIfGood (fun σ5 => (∃ n, fX12_parseStake_B29 K n σ5 (σ 2 5) 0)) σ4 ) σ 1 (-15)))
set_option maxHeartbeats 4000000 in
set_option maxRecDepth 100000 in
theorem wX12_parseStake_B140 {p : Program} {l : Launch} {e : Env} {s : State} {m : MethodId} {args : Array Value} {below : List Frame} {meth : Method} {c : Code} {D : va_G} {dA : Nat → ClassId} {ad : Nat → Nat} {sz : Nat}  {K : zSt → Prop} {k29 : zSt → Int → Int → Prop} (hC : zC p m c cX12_parseStake 4 s args (Cond.code yX12_parseStake cX12_parseStake 4 none :: UW) RX12 meth D vwCl (tyA dA) (zA ad NM sz) NM ad (celM ad dA)) (hE : zE zX0 (zA ad NM sz) s s.heap) (hr : meth.sig.returnType = none) (hinj : ∀ i j, i < NM → j < NM → ad i = ad j → i = j) (hk29 : ∀ (σ : zSt) (x1 : Int) (x2 : Int), k29 σ x1 x2 → zAt p l e ({ frames := 4, cells := 0, slots := 0, locals := 86 } : Room) s m args below meth c 0 0 (MQ below (va_Qv K (zB D vwCl (tyA dA) NM ad (celM ad dA)) (zA ad NM sz)) args s 0 0 (zA ad NM sz)) 4 D vwCl (zA ad NM sz) NM ad (celM ad dA) 29 [(0, vR ad 0), (1, vI x1), (2, vI x2)] [] σ) {σ : zSt} {x1 : Int} {x2 : Int} {x3 : Int} {s0 : Int} (hf : fX12_parseStake_B140 K k29 σ x1 x2 x3 s0) : zAt p l e ({ frames := 4, cells := 0, slots := 0, locals := 86 } : Room) s m args below meth c 0 0 (MQ below (va_Qv K (zB D vwCl (tyA dA) NM ad (celM ad dA)) (zA ad NM sz)) args s 0 0 (zA ad NM sz)) 4 D vwCl (zA ad NM sz) NM ad (celM ad dA) 140 [(0, vR ad 0), (1, vI x1), (2, vI x2), (3, vI x3)] [vI s0, vR ad 0] σ := by
  refine z_bipush hC dX12_parseStake_140 (by decide) ?_
  refine z_callVv hC hE (oM_12 (show kM 0 = 12 by decide)) [vI s0, vI (-15)] (fun sz2 => mX12_check l hinj sz2 hf) (cwV 2 hC.1.2.2.2.2 (uV (uT _) u1726 u1728 u45 u118 u1729) rfl rfl rfl (by decide +kernel) ⟨Nat.le_of_ble_eq_true rfl, Nat.le_of_ble_eq_true rfl⟩) rfl rfl (Nat.le_of_ble_eq_true rfl) ⟨Nat.le_of_ble_eq_true rfl, Nat.le_of_ble_eq_true rfl⟩ dX12_parseStake_142 (fun σ22 hf => ?_)
  refine z_aload_n hC dX12_parseStake_145 0 rfl rfl ?_
  refine z_get hC (fun w h => uT _ w (uL12 w h)) (oM_12 (show kM 0 = 12 by decide)) 13 (by decide) (uT _ _ u1558) rfl rfl dX12_parseStake_146 ?_
  obtain ⟨g23, hf⟩ := hf
  refine z_if_eq (tgt := 153) hC dX12_parseStake_149 (by decide) g23 (fun hc => ?_) (fun hc => ?_)
  · replace hf := hf.1 hc
    refine z_aload_n hC dX12_parseStake_153 0 rfl rfl ?_
    refine z_get hC (fun w h => uT _ w (uL12 w h)) (oM_12 (show kM 0 = 12 by decide)) 1 (by decide) (uT _ _ u1546) rfl rfl dX12_parseStake_154 ?_
    refine z_bipush hC dX12_parseStake_157 (by decide) ?_
    refine z_iload_n hC dX12_parseStake_159 3 rfl rfl ?_
    refine z_iadd hC dX12_parseStake_160 ?_
    refine z_aload_n hC dX12_parseStake_161 0 rfl rfl ?_
    refine z_get hC (fun w h => uT _ w (uL12 w h)) (oM_12 (show kM 0 = 12 by decide)) 12 (by decide) (uT _ _ u1557) rfl rfl dX12_parseStake_162 ?_
    obtain ⟨g24, hf⟩ := hf
    refine z_iastore hC (aM_30 (show kM 2 = 30 by decide)) (loM' (show kM 2 = 30 by decide) (by decide)) g24 dX12_parseStake_165 ?_
    obtain ⟨σ25, eσ25⟩ : ∃ z : zSt, z = zu σ22 2 (35 + x3) (σ22 0 12) := ⟨_, rfl⟩
    rw [← eσ25]
    replace hf := hf σ25 eσ25
    refine z_aload_n hC dX12_parseStake_166 0 rfl rfl ?_
    refine z_callVv hC hE (oM_12 (show kM 0 = 12 by decide)) [] (fun sz2 => mX12_advance l hinj sz2 hf) (cwV 0 hC.1.2.2.2.2 (uV (uT _) u1703 u1705 u40 u118 u1706) rfl rfl rfl (by decide +kernel) ⟨Nat.le_of_ble_eq_true rfl, Nat.le_of_ble_eq_true rfl⟩) rfl rfl (Nat.le_of_ble_eq_true rfl) ⟨Nat.le_of_ble_eq_true rfl, Nat.le_of_ble_eq_true rfl⟩ dX12_parseStake_167 (fun σ26 hf => ?_)
    refine z_aload_n hC dX12_parseStake_170 0 rfl rfl ?_
    refine z_get hC (fun w h => uT _ w (uL12 w h)) (oM_12 (show kM 0 = 12 by decide)) 1 (by decide) (uT _ _ u1546) rfl rfl dX12_parseStake_171 ?_
    refine z_bipush hC dX12_parseStake_174 (by decide) ?_
    refine z_iload_n hC dX12_parseStake_176 3 rfl rfl ?_
    refine z_iadd hC dX12_parseStake_177 ?_
    refine z_aload_n hC dX12_parseStake_178 0 rfl rfl ?_
    refine z_iconst hC dX12_parseStake_179 ?_
    refine z_sipush hC dX12_parseStake_180 (by decide) ?_
    refine z_callVi hC hE (oM_12 (show kM 0 = 12 by decide)) [vI 0, vI 9999] (fun sz2 => mX12_readInteger l hinj sz2 hf) (cwV 2 hC.1.2.2.2.2 (uV (uT _) u1734 u1736 u47 u118 u1737) rfl rfl rfl (by decide +kernel) ⟨Nat.le_of_ble_eq_true rfl, Nat.le_of_ble_eq_true rfl⟩) rfl rfl (Nat.le_of_ble_eq_true rfl) ⟨Nat.le_of_ble_eq_true rfl, Nat.le_of_ble_eq_true rfl⟩ dX12_parseStake_183 (fun r27 σ27 hf => ?_)
    obtain ⟨g28, hf⟩ := hf
    refine z_iastore hC (aM_30 (show kM 2 = 30 by decide)) (loM' (show kM 2 = 30 by decide) (by decide)) g28 dX12_parseStake_186 ?_
    obtain ⟨σ29, eσ29⟩ : ∃ z : zSt, z = zu σ27 2 (59 + x3) r27 := ⟨_, rfl⟩
    rw [← eσ29]
    replace hf := hf σ29 eσ29
    refine z_iinc hC ([(2, vI (x2 + 1)), (0, vR ad 0), (1, vI x1), (3, vI x3)]) dX12_parseStake_187 2 rfl (by decide) rfl ?_
    refine z_goto (tgt := 29) hC dX12_parseStake_190 (by decide) ?_
    refine z_sub (lv' := [(0, vR ad 0), (1, vI x1), (2, vI (x2 + 1))]) [1, 2, 0] rfl ?_
    exact hk29 _ _ _ hf
  · replace hf := hf.2 hc
    exact z_vret hC hr rfl dX12_parseStake_152 hf
set_option maxHeartbeats 4000000 in
set_option maxRecDepth 100000 in
theorem wX12_parseStake_B123 {p : Program} {l : Launch} {e : Env} {s : State} {m : MethodId} {args : Array Value} {below : List Frame} {meth : Method} {c : Code} {D : va_G} {dA : Nat → ClassId} {ad : Nat → Nat} {sz : Nat}  {K : zSt → Prop} {k29 : zSt → Int → Int → Prop} (hC : zC p m c cX12_parseStake 4 s args (Cond.code yX12_parseStake cX12_parseStake 4 none :: UW) RX12 meth D vwCl (tyA dA) (zA ad NM sz) NM ad (celM ad dA)) (hE : zE zX0 (zA ad NM sz) s s.heap) (hr : meth.sig.returnType = none) (hinj : ∀ i j, i < NM → j < NM → ad i = ad j → i = j) (hk29 : ∀ (σ : zSt) (x1 : Int) (x2 : Int), k29 σ x1 x2 → zAt p l e ({ frames := 4, cells := 0, slots := 0, locals := 86 } : Room) s m args below meth c 0 0 (MQ below (va_Qv K (zB D vwCl (tyA dA) NM ad (celM ad dA)) (zA ad NM sz)) args s 0 0 (zA ad NM sz)) 4 D vwCl (zA ad NM sz) NM ad (celM ad dA) 29 [(0, vR ad 0), (1, vI x1), (2, vI x2)] [] σ) {σ : zSt} {x1 : Int} {x2 : Int} {x3 : Int} {s0 : Int} (hf : fX12_parseStake_B123 K k29 σ x1 x2 x3 s0) : zAt p l e ({ frames := 4, cells := 0, slots := 0, locals := 86 } : Room) s m args below meth c 0 0 (MQ below (va_Qv K (zB D vwCl (tyA dA) NM ad (celM ad dA)) (zA ad NM sz)) args s 0 0 (zA ad NM sz)) 4 D vwCl (zA ad NM sz) NM ad (celM ad dA) 123 [(0, vR ad 0), (1, vI x1), (2, vI x2), (3, vI x3)] [vI s0, vR ad 0] σ := by
  refine z_bipush hC dX12_parseStake_123 (by decide) ?_
  refine z_callVv hC hE (oM_12 (show kM 0 = 12 by decide)) [vI s0, vI (-14)] (fun sz2 => mX12_check l hinj sz2 hf) (cwV 2 hC.1.2.2.2.2 (uV (uT _) u1726 u1728 u45 u118 u1729) rfl rfl rfl (by decide +kernel) ⟨Nat.le_of_ble_eq_true rfl, Nat.le_of_ble_eq_true rfl⟩) rfl rfl (Nat.le_of_ble_eq_true rfl) ⟨Nat.le_of_ble_eq_true rfl, Nat.le_of_ble_eq_true rfl⟩ dX12_parseStake_125 (fun σ20 hf => ?_)
  refine z_aload_n hC dX12_parseStake_128 0 rfl rfl ?_
  refine z_iload_n hC dX12_parseStake_129 2 rfl rfl ?_
  refine z_bipush hC dX12_parseStake_130 (by decide) ?_
  obtain ⟨g21, hf⟩ := hf
  refine z_icmp_ge (tgt := 139) hC dX12_parseStake_132 (by decide) g21 (zlit rfl rfl) (fun hc => ?_) (fun hc => ?_)
  · replace hf := hf.1 hc
    refine z_iconst hC dX12_parseStake_139 ?_
    exact wX12_parseStake_B140 hC hE hr hinj hk29  hf
  · replace hf := hf.2 hc
    refine z_iconst hC dX12_parseStake_135 ?_
    refine z_goto (tgt := 140) hC dX12_parseStake_136 (by decide) ?_
    exact wX12_parseStake_B140 hC hE hr hinj hk29  hf
set_option maxHeartbeats 4000000 in
set_option maxRecDepth 100000 in
theorem wX12_parseStake_B118 {p : Program} {l : Launch} {e : Env} {s : State} {m : MethodId} {args : Array Value} {below : List Frame} {meth : Method} {c : Code} {D : va_G} {dA : Nat → ClassId} {ad : Nat → Nat} {sz : Nat}  {K : zSt → Prop} {k29 : zSt → Int → Int → Prop} (hC : zC p m c cX12_parseStake 4 s args (Cond.code yX12_parseStake cX12_parseStake 4 none :: UW) RX12 meth D vwCl (tyA dA) (zA ad NM sz) NM ad (celM ad dA)) (hE : zE zX0 (zA ad NM sz) s s.heap) (hr : meth.sig.returnType = none) (hinj : ∀ i j, i < NM → j < NM → ad i = ad j → i = j) (hk29 : ∀ (σ : zSt) (x1 : Int) (x2 : Int), k29 σ x1 x2 → zAt p l e ({ frames := 4, cells := 0, slots := 0, locals := 86 } : Room) s m args below meth c 0 0 (MQ below (va_Qv K (zB D vwCl (tyA dA) NM ad (celM ad dA)) (zA ad NM sz)) args s 0 0 (zA ad NM sz)) 4 D vwCl (zA ad NM sz) NM ad (celM ad dA) 29 [(0, vR ad 0), (1, vI x1), (2, vI x2)] [] σ) {σ : zSt} {x1 : Int} {x2 : Int} {x3 : Int} (hf : fX12_parseStake_B118 K k29 σ x1 x2 x3) : zAt p l e ({ frames := 4, cells := 0, slots := 0, locals := 86 } : Room) s m args below meth c 0 0 (MQ below (va_Qv K (zB D vwCl (tyA dA) NM ad (celM ad dA)) (zA ad NM sz)) args s 0 0 (zA ad NM sz)) 4 D vwCl (zA ad NM sz) NM ad (celM ad dA) 118 [(0, vR ad 0), (1, vI x1), (2, vI x2), (3, vI x3)] [vR ad 0] σ := by
  refine z_iconst hC dX12_parseStake_118 ?_
  refine z_goto (tgt := 123) hC dX12_parseStake_119 (by decide) ?_
  exact wX12_parseStake_B123 hC hE hr hinj hk29  hf
set_option maxHeartbeats 4000000 in
set_option maxRecDepth 100000 in
theorem wX12_parseStake_B90 {p : Program} {l : Launch} {e : Env} {s : State} {m : MethodId} {args : Array Value} {below : List Frame} {meth : Method} {c : Code} {D : va_G} {dA : Nat → ClassId} {ad : Nat → Nat} {sz : Nat}  {K : zSt → Prop} {k29 : zSt → Int → Int → Prop} (hC : zC p m c cX12_parseStake 4 s args (Cond.code yX12_parseStake cX12_parseStake 4 none :: UW) RX12 meth D vwCl (tyA dA) (zA ad NM sz) NM ad (celM ad dA)) (hE : zE zX0 (zA ad NM sz) s s.heap) (hr : meth.sig.returnType = none) (hinj : ∀ i j, i < NM → j < NM → ad i = ad j → i = j) (hk29 : ∀ (σ : zSt) (x1 : Int) (x2 : Int), k29 σ x1 x2 → zAt p l e ({ frames := 4, cells := 0, slots := 0, locals := 86 } : Room) s m args below meth c 0 0 (MQ below (va_Qv K (zB D vwCl (tyA dA) NM ad (celM ad dA)) (zA ad NM sz)) args s 0 0 (zA ad NM sz)) 4 D vwCl (zA ad NM sz) NM ad (celM ad dA) 29 [(0, vR ad 0), (1, vI x1), (2, vI x2)] [] σ) {σ : zSt} {x1 : Int} {x2 : Int} {x3 : Int} {s0 : Int} (hf : fX12_parseStake_B90 K k29 σ x1 x2 x3 s0) : zAt p l e ({ frames := 4, cells := 0, slots := 0, locals := 86 } : Room) s m args below meth c 0 0 (MQ below (va_Qv K (zB D vwCl (tyA dA) NM ad (celM ad dA)) (zA ad NM sz)) args s 0 0 (zA ad NM sz)) 4 D vwCl (zA ad NM sz) NM ad (celM ad dA) 90 [(0, vR ad 0), (1, vI x1), (2, vI x2), (3, vI x3)] [vI s0, vR ad 0] σ := by
  refine z_bipush hC dX12_parseStake_90 (by decide) ?_
  refine z_callVv hC hE (oM_12 (show kM 0 = 12 by decide)) [vI s0, vI (-12)] (fun sz2 => mX12_check l hinj sz2 hf) (cwV 2 hC.1.2.2.2.2 (uV (uT _) u1726 u1728 u45 u118 u1729) rfl rfl rfl (by decide +kernel) ⟨Nat.le_of_ble_eq_true rfl, Nat.le_of_ble_eq_true rfl⟩) rfl rfl (Nat.le_of_ble_eq_true rfl) ⟨Nat.le_of_ble_eq_true rfl, Nat.le_of_ble_eq_true rfl⟩ dX12_parseStake_92 (fun σ15 hf => ?_)
  refine z_aload_n hC dX12_parseStake_95 0 rfl rfl ?_
  refine z_iload_n hC dX12_parseStake_96 2 rfl rfl ?_
  obtain ⟨g16, hf⟩ := hf
  refine z_if_eq (tgt := 118) hC dX12_parseStake_97 (by decide) g16 (fun hc => ?_) (fun hc => ?_)
  · replace hf := hf.1 hc
    exact wX12_parseStake_B118 hC hE hr hinj hk29  hf
  · replace hf := hf.2 hc
    refine z_aload_n hC dX12_parseStake_100 0 rfl rfl ?_
    refine z_get hC (fun w h => uT _ w (uL12 w h)) (oM_12 (show kM 0 = 12 by decide)) 12 (by decide) (uT _ _ u1557) rfl rfl dX12_parseStake_101 ?_
    refine z_aload_n hC dX12_parseStake_104 0 rfl rfl ?_
    refine z_get hC (fun w h => uT _ w (uL12 w h)) (oM_12 (show kM 0 = 12 by decide)) 1 (by decide) (uT _ _ u1546) rfl rfl dX12_parseStake_105 ?_
    refine z_bipush hC dX12_parseStake_108 (by decide) ?_
    refine z_iload_n hC dX12_parseStake_110 3 rfl rfl ?_
    refine z_iadd hC dX12_parseStake_111 ?_
    refine z_iconst hC dX12_parseStake_112 ?_
    refine z_isub hC dX12_parseStake_113 ?_
    obtain ⟨g17, hf⟩ := hf
    refine z_iaload hC (aM_30 (show kM 2 = 30 by decide)) g17 dX12_parseStake_114 ?_
    obtain ⟨g18, hf⟩ := hf
    obtain ⟨g19, hf⟩ := hf
    refine z_icmp_le (tgt := 122) hC dX12_parseStake_115 (by decide) g18 g19 (fun hc => ?_) (fun hc => ?_)
    · replace hf := hf.1 hc
      refine z_iconst hC dX12_parseStake_122 ?_
      exact wX12_parseStake_B123 hC hE hr hinj hk29  hf
    · replace hf := hf.2 hc
      exact wX12_parseStake_B118 hC hE hr hinj hk29  hf
set_option maxHeartbeats 4000000 in
set_option maxRecDepth 100000 in
theorem wX12_parseStake_B69 {p : Program} {l : Launch} {e : Env} {s : State} {m : MethodId} {args : Array Value} {below : List Frame} {meth : Method} {c : Code} {D : va_G} {dA : Nat → ClassId} {ad : Nat → Nat} {sz : Nat}  {K : zSt → Prop} {k29 : zSt → Int → Int → Prop} (hC : zC p m c cX12_parseStake 4 s args (Cond.code yX12_parseStake cX12_parseStake 4 none :: UW) RX12 meth D vwCl (tyA dA) (zA ad NM sz) NM ad (celM ad dA)) (hE : zE zX0 (zA ad NM sz) s s.heap) (hr : meth.sig.returnType = none) (hinj : ∀ i j, i < NM → j < NM → ad i = ad j → i = j) (hk29 : ∀ (σ : zSt) (x1 : Int) (x2 : Int), k29 σ x1 x2 → zAt p l e ({ frames := 4, cells := 0, slots := 0, locals := 86 } : Room) s m args below meth c 0 0 (MQ below (va_Qv K (zB D vwCl (tyA dA) NM ad (celM ad dA)) (zA ad NM sz)) args s 0 0 (zA ad NM sz)) 4 D vwCl (zA ad NM sz) NM ad (celM ad dA) 29 [(0, vR ad 0), (1, vI x1), (2, vI x2)] [] σ) {σ : zSt} {x1 : Int} {x2 : Int} {x3 : Int} {s0 : Int} (hf : fX12_parseStake_B69 K k29 σ x1 x2 x3 s0) : zAt p l e ({ frames := 4, cells := 0, slots := 0, locals := 86 } : Room) s m args below meth c 0 0 (MQ below (va_Qv K (zB D vwCl (tyA dA) NM ad (celM ad dA)) (zA ad NM sz)) args s 0 0 (zA ad NM sz)) 4 D vwCl (zA ad NM sz) NM ad (celM ad dA) 69 [(0, vR ad 0), (1, vI x1), (2, vI x2), (3, vI x3)] [vI s0, vR ad 0] σ := by
  refine z_bipush hC dX12_parseStake_69 (by decide) ?_
  refine z_callVv hC hE (oM_12 (show kM 0 = 12 by decide)) [vI s0, vI (-11)] (fun sz2 => mX12_check l hinj sz2 hf) (cwV 2 hC.1.2.2.2.2 (uV (uT _) u1726 u1728 u45 u118 u1729) rfl rfl rfl (by decide +kernel) ⟨Nat.le_of_ble_eq_true rfl, Nat.le_of_ble_eq_true rfl⟩) rfl rfl (Nat.le_of_ble_eq_true rfl) ⟨Nat.le_of_ble_eq_true rfl, Nat.le_of_ble_eq_true rfl⟩ dX12_parseStake_71 (fun σ13 hf => ?_)
  refine z_aload_n hC dX12_parseStake_74 0 rfl rfl ?_
  refine z_aload_n hC dX12_parseStake_75 0 rfl rfl ?_
  refine z_get hC (fun w h => uT _ w (uL12 w h)) (oM_12 (show kM 0 = 12 by decide)) 12 (by decide) (uT _ _ u1557) rfl rfl dX12_parseStake_76 ?_
  refine z_sipush hC dX12_parseStake_79 (by decide) ?_
  obtain ⟨g14, hf⟩ := hf
  refine z_icmp_gt (tgt := 89) hC dX12_parseStake_82 (by decide) g14 (zlit rfl rfl) (fun hc => ?_) (fun hc => ?_)
  · replace hf := hf.1 hc
    refine z_iconst hC dX12_parseStake_89 ?_
    exact wX12_parseStake_B90 hC hE hr hinj hk29  hf
  · replace hf := hf.2 hc
    refine z_iconst hC dX12_parseStake_85 ?_
    refine z_goto (tgt := 90) hC dX12_parseStake_86 (by decide) ?_
    exact wX12_parseStake_B90 hC hE hr hinj hk29  hf
set_option maxHeartbeats 4000000 in
set_option maxRecDepth 100000 in
theorem wX12_parseStake_B48 {p : Program} {l : Launch} {e : Env} {s : State} {m : MethodId} {args : Array Value} {below : List Frame} {meth : Method} {c : Code} {D : va_G} {dA : Nat → ClassId} {ad : Nat → Nat} {sz : Nat}  {K : zSt → Prop} {k29 : zSt → Int → Int → Prop} (hC : zC p m c cX12_parseStake 4 s args (Cond.code yX12_parseStake cX12_parseStake 4 none :: UW) RX12 meth D vwCl (tyA dA) (zA ad NM sz) NM ad (celM ad dA)) (hE : zE zX0 (zA ad NM sz) s s.heap) (hr : meth.sig.returnType = none) (hinj : ∀ i j, i < NM → j < NM → ad i = ad j → i = j) (hk29 : ∀ (σ : zSt) (x1 : Int) (x2 : Int), k29 σ x1 x2 → zAt p l e ({ frames := 4, cells := 0, slots := 0, locals := 86 } : Room) s m args below meth c 0 0 (MQ below (va_Qv K (zB D vwCl (tyA dA) NM ad (celM ad dA)) (zA ad NM sz)) args s 0 0 (zA ad NM sz)) 4 D vwCl (zA ad NM sz) NM ad (celM ad dA) 29 [(0, vR ad 0), (1, vI x1), (2, vI x2)] [] σ) {σ : zSt} {x1 : Int} {x2 : Int} (hf : fX12_parseStake_B48 K k29 σ x1 x2) : zAt p l e ({ frames := 4, cells := 0, slots := 0, locals := 86 } : Room) s m args below meth c 0 0 (MQ below (va_Qv K (zB D vwCl (tyA dA) NM ad (celM ad dA)) (zA ad NM sz)) args s 0 0 (zA ad NM sz)) 4 D vwCl (zA ad NM sz) NM ad (celM ad dA) 48 [(0, vR ad 0), (1, vI x1), (2, vI x2)] [] σ := by
  refine z_bipush hC dX12_parseStake_48 (by decide) ?_
  refine z_iload_n hC dX12_parseStake_50 1 rfl rfl ?_
  refine z_imul hC dX12_parseStake_51 ?_
  refine z_iload_n hC dX12_parseStake_52 2 rfl rfl ?_
  refine z_iadd hC dX12_parseStake_53 ?_
  refine z_istore_n hC ([(3, vI ((8 * x1) + x2)), (0, vR ad 0), (1, vI x1), (2, vI x2)]) dX12_parseStake_54 rfl (by decide) rfl ?_
  refine z_aload_n hC dX12_parseStake_55 1 rfl rfl ?_
  refine z_aload_n hC dX12_parseStake_56 1 rfl rfl ?_
  refine z_get hC (fun w h => uT _ w (uL12 w h)) (oM_12 (show kM 0 = 12 by decide)) 10 (by decide) (uT _ _ u1555) rfl rfl dX12_parseStake_57 ?_
  refine z_iconst hC dX12_parseStake_60 ?_
  obtain ⟨g12, hf⟩ := hf
  refine z_icmp_ne (tgt := 68) hC dX12_parseStake_61 (by decide) g12 (zlit rfl rfl) (fun hc => ?_) (fun hc => ?_)
  · replace hf := hf.2 hc
    refine z_iconst hC dX12_parseStake_68 ?_
    refine z_sub (lv' := [(0, vR ad 0), (1, vI x1), (2, vI x2), (3, vI ((8 * x1) + x2))]) [1, 2, 3, 0] rfl ?_
    exact wX12_parseStake_B69 hC hE hr hinj hk29  hf
  · replace hf := hf.1 hc
    refine z_iconst hC dX12_parseStake_64 ?_
    refine z_goto (tgt := 69) hC dX12_parseStake_65 (by decide) ?_
    refine z_sub (lv' := [(0, vR ad 0), (1, vI x1), (2, vI x2), (3, vI ((8 * x1) + x2))]) [1, 2, 3, 0] rfl ?_
    exact wX12_parseStake_B69 hC hE hr hinj hk29  hf
set_option maxHeartbeats 4000000 in
set_option maxRecDepth 100000 in
theorem wX12_parseStake_B193 {p : Program} {l : Launch} {e : Env} {s : State} {m : MethodId} {args : Array Value} {below : List Frame} {meth : Method} {c : Code} {D : va_G} {dA : Nat → ClassId} {ad : Nat → Nat} {sz : Nat}  {K : zSt → Prop} (hC : zC p m c cX12_parseStake 4 s args (Cond.code yX12_parseStake cX12_parseStake 4 none :: UW) RX12 meth D vwCl (tyA dA) (zA ad NM sz) NM ad (celM ad dA)) (hE : zE zX0 (zA ad NM sz) s s.heap) (hr : meth.sig.returnType = none) (hinj : ∀ i j, i < NM → j < NM → ad i = ad j → i = j) {σ : zSt} {x1 : Int} {x2 : Int} (hf : fX12_parseStake_B193 K σ x1 x2) : zAt p l e ({ frames := 4, cells := 0, slots := 0, locals := 86 } : Room) s m args below meth c 0 0 (MQ below (va_Qv K (zB D vwCl (tyA dA) NM ad (celM ad dA)) (zA ad NM sz)) args s 0 0 (zA ad NM sz)) 4 D vwCl (zA ad NM sz) NM ad (celM ad dA) 193 [(0, vR ad 0), (1, vI x1), (2, vI x2)] [] σ := by
  refine z_aload_n hC dX12_parseStake_193 0 rfl rfl ?_
  refine z_get hC (fun w h => uT _ w (uL12 w h)) (oM_12 (show kM 0 = 12 by decide)) 1 (by decide) (uT _ _ u1546) rfl rfl dX12_parseStake_194 ?_
  refine z_bipush hC dX12_parseStake_197 (by decide) ?_
  refine z_iload_n hC dX12_parseStake_199 1 rfl rfl ?_
  refine z_iadd hC dX12_parseStake_200 ?_
  refine z_iload_n hC dX12_parseStake_201 2 rfl rfl ?_
  obtain ⟨g9, hf⟩ := hf
  refine z_iastore hC (aM_30 (show kM 2 = 30 by decide)) (loM' (show kM 2 = 30 by decide) (by decide)) g9 dX12_parseStake_202 ?_
  obtain ⟨σ10, eσ10⟩ : ∃ z : zSt, z = zu σ 2 (32 + x1) x2 := ⟨_, rfl⟩
  rw [← eσ10]
  replace hf := hf σ10 eσ10
  refine z_aload_n hC dX12_parseStake_203 0 rfl rfl ?_
  refine z_get hC (fun w h => uT _ w (uL12 w h)) (oM_12 (show kM 0 = 12 by decide)) 1 (by decide) (uT _ _ u1546) rfl rfl dX12_parseStake_204 ?_
  refine z_iconst hC dX12_parseStake_207 ?_
  refine z_dup2 hC dX12_parseStake_208 rfl rfl ?_
  refine z_iaload hC (aM_30 (show kM 2 = 30 by decide)) ⟨by decide, by decide⟩ dX12_parseStake_209 ?_
  refine z_iconst hC dX12_parseStake_210 ?_
  refine z_iadd hC dX12_parseStake_211 ?_
  refine z_iastore hC (aM_30 (show kM 2 = 30 by decide)) (loM' (show kM 2 = 30 by decide) (by decide)) ⟨by decide, by decide⟩ dX12_parseStake_212 ?_
  obtain ⟨σ11, eσ11⟩ : ∃ z : zSt, z = zu σ10 2 5 ((σ10 2 5) + 1) := ⟨_, rfl⟩
  rw [← eσ11]
  replace hf := hf σ11 eσ11
  exact z_vret hC hr rfl dX12_parseStake_213 hf
set_option maxHeartbeats 4000000 in
set_option maxRecDepth 100000 in
theorem wX12_parseStake_B29 {p : Program} {l : Launch} {e : Env} {s : State} {m : MethodId} {args : Array Value} {below : List Frame} {meth : Method} {c : Code} {D : va_G} {dA : Nat → ClassId} {ad : Nat → Nat} {sz : Nat}  {K : zSt → Prop} (hC : zC p m c cX12_parseStake 4 s args (Cond.code yX12_parseStake cX12_parseStake 4 none :: UW) RX12 meth D vwCl (tyA dA) (zA ad NM sz) NM ad (celM ad dA)) (hE : zE zX0 (zA ad NM sz) s s.heap) (hr : meth.sig.returnType = none) (hinj : ∀ i j, i < NM → j < NM → ad i = ad j → i = j) : ∀ (n : Nat) (σ : zSt) (x1 : Int) (x2 : Int), fX12_parseStake_B29 K n σ x1 x2 → zAt p l e ({ frames := 4, cells := 0, slots := 0, locals := 86 } : Room) s m args below meth c 0 0 (MQ below (va_Qv K (zB D vwCl (tyA dA) NM ad (celM ad dA)) (zA ad NM sz)) args s 0 0 (zA ad NM sz)) 4 D vwCl (zA ad NM sz) NM ad (celM ad dA) 29 [(0, vR ad 0), (1, vI x1), (2, vI x2)] [] σ := by
  intro n
  induction n with
  | zero => intro σ x1 x2  hf; exact False.elim hf
  | succ n ih =>
    intro σ x1 x2  hf
    rw [uX12_parseStake_B29] at hf
    refine z_aload_n hC dX12_parseStake_29 0 rfl rfl ?_
    refine z_get hC (fun w h => uT _ w (uL12 w h)) (oM_12 (show kM 0 = 12 by decide)) 13 (by decide) (uT _ _ u1558) rfl rfl dX12_parseStake_30 ?_
    obtain ⟨g6, hf⟩ := hf
    refine z_if_ne (tgt := 193) hC dX12_parseStake_33 (by decide) g6 (fun hc => ?_) (fun hc => ?_)
    · replace hf := hf.2 hc
      exact wX12_parseStake_B193 hC hE hr hinj  hf
    · replace hf := hf.1 hc
      refine z_iload_n hC dX12_parseStake_36 2 rfl rfl ?_
      obtain ⟨g7, hf⟩ := hf
      refine z_if_eq (tgt := 48) hC dX12_parseStake_37 (by decide) g7 (fun hc => ?_) (fun hc => ?_)
      · replace hf := hf.1 hc
        exact wX12_parseStake_B48 hC hE hr hinj ih  hf
      · replace hf := hf.2 hc
        refine z_aload_n hC dX12_parseStake_40 0 rfl rfl ?_
        refine z_get hC (fun w h => uT _ w (uL12 w h)) (oM_12 (show kM 0 = 12 by decide)) 10 (by decide) (uT _ _ u1555) rfl rfl dX12_parseStake_41 ?_
        refine z_iconst hC dX12_parseStake_44 ?_
        obtain ⟨g8, hf⟩ := hf
        refine z_icmp_ne (tgt := 193) hC dX12_parseStake_45 (by decide) g8 (zlit rfl rfl) (fun hc => ?_) (fun hc => ?_)
        · replace hf := hf.2 hc
          exact wX12_parseStake_B193 hC hE hr hinj  hf
        · replace hf := hf.1 hc
          exact wX12_parseStake_B48 hC hE hr hinj ih  hf
set_option maxHeartbeats 4000000 in
set_option maxRecDepth 100000 in
theorem mX12_parseStake {D : va_G} {dA : Nat → ClassId} {ad : Nat → Nat}  (l : Launch) (hinj : ∀ i j, i < NM → j < NM → ad i = ad j → i = j) (sz : Nat) {K : zSt → Prop} {σ : zSt} (hf : fX12_parseStake K σ ) : Met l yX12_parseStake (Cond.code yX12_parseStake cX12_parseStake 4 none :: UW) ({ frames := 4, cells := 0, slots := 0, locals := 86 } : Room) (va_Pc [vR ad 0] (zPre D vwCl (tyA dA) zX0 NM ad (celM ad dA) sz σ)) (va_Qv K (zB D vwCl (tyA dA) NM ad (celM ad dA)) (zA ad NM sz)) 0 0 (zA ad NM sz) := by
  refine z_enter (cc := cX12_parseStake) (maxL := 4) (ret := none) (vs := [vR ad 0]) (plainFor_of_name (by decide)) rfl hinj (Nat.le_of_ble_eq_true rfl) ?_
  intro p e s m args below meth c hC hE hsz hr hnm
  show zAt p l e ({ frames := 4, cells := 0, slots := 0, locals := 86 } : Room) s m args below meth c 0 0 (MQ below (va_Qv K (zB D vwCl (tyA dA) NM ad (celM ad dA)) (zA ad NM sz)) args s 0 0 (zA ad NM sz)) 4 D vwCl (zA ad NM sz) NM ad (celM ad dA) 0 [(0, vR ad 0)] [] σ
  refine z_aload_n hC dX12_parseStake_0 0 rfl rfl ?_
  refine z_get hC (fun w h => uT _ w (uL12 w h)) (oM_12 (show kM 0 = 12 by decide)) 1 (by decide) (uT _ _ u1546) rfl rfl dX12_parseStake_1 ?_
  refine z_iconst hC dX12_parseStake_4 ?_
  refine z_iaload hC (aM_30 (show kM 2 = 30 by decide)) ⟨by decide, by decide⟩ dX12_parseStake_5 ?_
  refine z_istore_n hC ([(1, vI (σ 2 5)), (0, vR ad 0)]) dX12_parseStake_6 rfl (by decide) rfl ?_
  refine z_aload_n hC dX12_parseStake_7 1 rfl rfl ?_
  refine z_iload_n hC dX12_parseStake_8 0 rfl rfl ?_
  refine z_iconst hC dX12_parseStake_9 ?_
  obtain ⟨g1, hf⟩ := hf
  refine z_icmp_ge (tgt := 17) hC dX12_parseStake_10 (by decide) g1 (zlit rfl rfl) (fun hc => ?_) (fun hc => ?_)
  · replace hf := hf.1 hc
    refine z_iconst hC dX12_parseStake_17 ?_
    refine z_bipush hC dX12_parseStake_18 (by decide) ?_
    refine z_callVv hC hE (oM_12 (show kM 0 = 12 by decide)) [vI 0, vI (-15)] (fun sz2 => mX12_check l hinj sz2 hf) (cwV 2 hC.1.2.2.2.2 (uV (uT _) u1726 u1728 u45 u118 u1729) rfl rfl rfl (by decide +kernel) ⟨Nat.le_of_ble_eq_true rfl, Nat.le_of_ble_eq_true rfl⟩) rfl rfl (Nat.le_of_ble_eq_true rfl) ⟨Nat.le_of_ble_eq_true rfl, Nat.le_of_ble_eq_true rfl⟩ dX12_parseStake_20 (fun σ2 hf => ?_)
    refine z_aload_n hC dX12_parseStake_23 1 rfl rfl ?_
    refine z_callVv hC hE (oM_12 (show kM 0 = 12 by decide)) [] (fun sz2 => mX12_advanceIfGood l hinj sz2 hf) (cwV 0 hC.1.2.2.2.2 (uV (uT _) u1730 u1732 u46 u118 u1733) rfl rfl rfl (by decide +kernel) ⟨Nat.le_of_ble_eq_true rfl, Nat.le_of_ble_eq_true rfl⟩) rfl rfl (Nat.le_of_ble_eq_true rfl) ⟨Nat.le_of_ble_eq_true rfl, Nat.le_of_ble_eq_true rfl⟩ dX12_parseStake_24 (fun σ3 hf => ?_)
    refine z_iconst hC dX12_parseStake_27 ?_
    refine z_istore_n hC ([(2, vI 0), (1, vI (σ 2 5)), (0, vR ad 0)]) dX12_parseStake_28 rfl (by decide) rfl ?_
    refine z_sub (lv' := [(0, vR ad 0), (1, vI (σ 2 5)), (2, vI 0)]) [2, 1, 0] rfl ?_
    obtain ⟨n, hf⟩ := hf
    exact wX12_parseStake_B29 hC hE hr hinj n _ _ _ hf
  · replace hf := hf.2 hc
    refine z_iconst hC dX12_parseStake_13 ?_
    refine z_goto (tgt := 18) hC dX12_parseStake_14 (by decide) ?_
    refine z_bipush hC dX12_parseStake_18 (by decide) ?_
    refine z_callVv hC hE (oM_12 (show kM 0 = 12 by decide)) [vI 1, vI (-15)] (fun sz2 => mX12_check l hinj sz2 hf) (cwV 2 hC.1.2.2.2.2 (uV (uT _) u1726 u1728 u45 u118 u1729) rfl rfl rfl (by decide +kernel) ⟨Nat.le_of_ble_eq_true rfl, Nat.le_of_ble_eq_true rfl⟩) rfl rfl (Nat.le_of_ble_eq_true rfl) ⟨Nat.le_of_ble_eq_true rfl, Nat.le_of_ble_eq_true rfl⟩ dX12_parseStake_20 (fun σ4 hf => ?_)
    refine z_aload_n hC dX12_parseStake_23 1 rfl rfl ?_
    refine z_callVv hC hE (oM_12 (show kM 0 = 12 by decide)) [] (fun sz2 => mX12_advanceIfGood l hinj sz2 hf) (cwV 0 hC.1.2.2.2.2 (uV (uT _) u1730 u1732 u46 u118 u1733) rfl rfl rfl (by decide +kernel) ⟨Nat.le_of_ble_eq_true rfl, Nat.le_of_ble_eq_true rfl⟩) rfl rfl (Nat.le_of_ble_eq_true rfl) ⟨Nat.le_of_ble_eq_true rfl, Nat.le_of_ble_eq_true rfl⟩ dX12_parseStake_24 (fun σ5 hf => ?_)
    refine z_iconst hC dX12_parseStake_27 ?_
    refine z_istore_n hC ([(2, vI 0), (1, vI (σ 2 5)), (0, vR ad 0)]) dX12_parseStake_28 rfl (by decide) rfl ?_
    refine z_sub (lv' := [(0, vR ad 0), (1, vI (σ 2 5)), (2, vI 0)]) [2, 1, 0] rfl ?_
    obtain ⟨n, hf⟩ := hf
    exact wX12_parseStake_B29 hC hE hr hinj n _ _ _ hf

-- ===== X12_settingHere
def fX12_settingHere (K : Int → zSt → Prop) (σ : zSt) : Prop :=
  fX12_isWord (fun r1 σ1 => zrg r1 ∧ ((r1 = 0 → fX12_isWord (fun r3 σ3 => zrg r3 ∧ ((r3 = 0 → fX12_isWord (fun r5 σ5 => zrg r5 ∧ ((r5 = 0 → fX12_isWord (fun r7 σ7 => zrg r7 ∧ ((r7 = 0 → fX12_isWord (fun r9 σ9 => zrg r9 ∧ ((r9 = 0 → fX12_isWord (fun r11 σ11 => zrg r11 ∧ ((r11 = 0 → fX12_isWord (fun r13 σ13 => zrg r13 ∧ ((r13 = 0 → fX12_isWord (fun r15 σ15 => zrg r15 ∧ ((r15 = 0 → K (-1) σ15) ∧ (¬ r15 = 0 → K 7 σ15))) σ13 20629733) ∧ (¬ r13 = 0 → K 6 σ13))) σ11 7216) ∧ (¬ r11 = 0 → K 5 σ11))) σ9 20022661) ∧ (¬ r9 = 0 → K 4 σ9))) σ7 22518700226661) ∧ (¬ r7 = 0 → K 3 σ7))) σ5 119676667508) ∧ (¬ r5 = 0 → K 2 σ5))) σ3 20194516) ∧ (¬ r3 = 0 → K 1 σ3))) σ1 18921701) ∧ (¬ r1 = 0 → K 0 σ1))) σ 781652471
set_option maxHeartbeats 4000000 in
set_option maxRecDepth 100000 in
theorem mX12_settingHere {D : va_G} {dA : Nat → ClassId} {ad : Nat → Nat}  (l : Launch) (hinj : ∀ i j, i < NM → j < NM → ad i = ad j → i = j) (sz : Nat) {K : Int → zSt → Prop} {σ : zSt} (hf : fX12_settingHere K σ ) : Met l yX12_settingHere (Cond.code yX12_settingHere cX12_settingHere 1 (some .int) :: UW) ({ frames := 1, cells := 0, slots := 0, locals := 22 } : Room) (va_Pc [vR ad 0] (zPre D vwCl (tyA dA) zX0 NM ad (celM ad dA) sz σ)) (va_Qi (zPi K) (zB D vwCl (tyA dA) NM ad (celM ad dA)) (zA ad NM sz)) 0 0 (zA ad NM sz) := by
  refine z_enter (cc := cX12_settingHere) (maxL := 1) (ret := (some .int)) (vs := [vR ad 0]) (plainFor_of_name (by decide)) rfl hinj (Nat.le_of_ble_eq_true rfl) ?_
  intro p e s m args below meth c hC hE hsz hr hnm
  show zAt p l e ({ frames := 1, cells := 0, slots := 0, locals := 22 } : Room) s m args below meth c 0 0 (MQ below (va_Qi (zPi K) (zB D vwCl (tyA dA) NM ad (celM ad dA)) (zA ad NM sz)) args s 0 0 (zA ad NM sz)) 1 D vwCl (zA ad NM sz) NM ad (celM ad dA) 0 [(0, vR ad 0)] [] σ
  refine z_aload_n hC dX12_settingHere_0 0 rfl rfl ?_
  refine z_ldc2 hC (n := 781652471) (uT _ _ u1767) (by decide) dX12_settingHere_1 ?_
  refine z_callVi hC hE (oM_12 (show kM 0 = 12 by decide)) [vL 781652471] (fun sz2 => mX12_isWord l hinj sz2 hf) (cwV 1 hC.1.2.2.2.2 (uV (uT _) u1718 u1720 u43 u118 u1721) rfl rfl rfl (by decide +kernel) ⟨Nat.le_of_ble_eq_true rfl, Nat.le_of_ble_eq_true rfl⟩) rfl rfl (Nat.le_of_ble_eq_true rfl) ⟨Nat.le_of_ble_eq_true rfl, Nat.le_of_ble_eq_true rfl⟩ dX12_settingHere_4 (fun r1 σ1 hf => ?_)
  obtain ⟨g2, hf⟩ := hf
  refine z_if_eq (tgt := 12) hC dX12_settingHere_7 (by decide) g2 (fun hc => ?_) (fun hc => ?_)
  · replace hf := hf.1 hc
    refine z_aload_n hC dX12_settingHere_12 0 rfl rfl ?_
    refine z_ldc2 hC (n := 18921701) (uT _ _ u1768) (by decide) dX12_settingHere_13 ?_
    refine z_callVi hC hE (oM_12 (show kM 0 = 12 by decide)) [vL 18921701] (fun sz2 => mX12_isWord l hinj sz2 hf) (cwV 1 hC.1.2.2.2.2 (uV (uT _) u1718 u1720 u43 u118 u1721) rfl rfl rfl (by decide +kernel) ⟨Nat.le_of_ble_eq_true rfl, Nat.le_of_ble_eq_true rfl⟩) rfl rfl (Nat.le_of_ble_eq_true rfl) ⟨Nat.le_of_ble_eq_true rfl, Nat.le_of_ble_eq_true rfl⟩ dX12_settingHere_16 (fun r3 σ3 hf => ?_)
    obtain ⟨g4, hf⟩ := hf
    refine z_if_eq (tgt := 24) hC dX12_settingHere_19 (by decide) g4 (fun hc => ?_) (fun hc => ?_)
    · replace hf := hf.1 hc
      refine z_aload_n hC dX12_settingHere_24 0 rfl rfl ?_
      refine z_ldc2 hC (n := 20194516) (uT _ _ u1769) (by decide) dX12_settingHere_25 ?_
      refine z_callVi hC hE (oM_12 (show kM 0 = 12 by decide)) [vL 20194516] (fun sz2 => mX12_isWord l hinj sz2 hf) (cwV 1 hC.1.2.2.2.2 (uV (uT _) u1718 u1720 u43 u118 u1721) rfl rfl rfl (by decide +kernel) ⟨Nat.le_of_ble_eq_true rfl, Nat.le_of_ble_eq_true rfl⟩) rfl rfl (Nat.le_of_ble_eq_true rfl) ⟨Nat.le_of_ble_eq_true rfl, Nat.le_of_ble_eq_true rfl⟩ dX12_settingHere_28 (fun r5 σ5 hf => ?_)
      obtain ⟨g6, hf⟩ := hf
      refine z_if_eq (tgt := 36) hC dX12_settingHere_31 (by decide) g6 (fun hc => ?_) (fun hc => ?_)
      · replace hf := hf.1 hc
        refine z_aload_n hC dX12_settingHere_36 0 rfl rfl ?_
        refine z_ldc2 hC (n := 119676667508) (uT _ _ u1770) (by decide) dX12_settingHere_37 ?_
        refine z_callVi hC hE (oM_12 (show kM 0 = 12 by decide)) [vL 119676667508] (fun sz2 => mX12_isWord l hinj sz2 hf) (cwV 1 hC.1.2.2.2.2 (uV (uT _) u1718 u1720 u43 u118 u1721) rfl rfl rfl (by decide +kernel) ⟨Nat.le_of_ble_eq_true rfl, Nat.le_of_ble_eq_true rfl⟩) rfl rfl (Nat.le_of_ble_eq_true rfl) ⟨Nat.le_of_ble_eq_true rfl, Nat.le_of_ble_eq_true rfl⟩ dX12_settingHere_40 (fun r7 σ7 hf => ?_)
        obtain ⟨g8, hf⟩ := hf
        refine z_if_eq (tgt := 48) hC dX12_settingHere_43 (by decide) g8 (fun hc => ?_) (fun hc => ?_)
        · replace hf := hf.1 hc
          refine z_aload_n hC dX12_settingHere_48 0 rfl rfl ?_
          refine z_ldc2 hC (n := 22518700226661) (uT _ _ u1771) (by decide) dX12_settingHere_49 ?_
          refine z_callVi hC hE (oM_12 (show kM 0 = 12 by decide)) [vL 22518700226661] (fun sz2 => mX12_isWord l hinj sz2 hf) (cwV 1 hC.1.2.2.2.2 (uV (uT _) u1718 u1720 u43 u118 u1721) rfl rfl rfl (by decide +kernel) ⟨Nat.le_of_ble_eq_true rfl, Nat.le_of_ble_eq_true rfl⟩) rfl rfl (Nat.le_of_ble_eq_true rfl) ⟨Nat.le_of_ble_eq_true rfl, Nat.le_of_ble_eq_true rfl⟩ dX12_settingHere_52 (fun r9 σ9 hf => ?_)
          obtain ⟨g10, hf⟩ := hf
          refine z_if_eq (tgt := 60) hC dX12_settingHere_55 (by decide) g10 (fun hc => ?_) (fun hc => ?_)
          · replace hf := hf.1 hc
            refine z_aload_n hC dX12_settingHere_60 0 rfl rfl ?_
            refine z_ldc2 hC (n := 20022661) (uT _ _ u1772) (by decide) dX12_settingHere_61 ?_
            refine z_callVi hC hE (oM_12 (show kM 0 = 12 by decide)) [vL 20022661] (fun sz2 => mX12_isWord l hinj sz2 hf) (cwV 1 hC.1.2.2.2.2 (uV (uT _) u1718 u1720 u43 u118 u1721) rfl rfl rfl (by decide +kernel) ⟨Nat.le_of_ble_eq_true rfl, Nat.le_of_ble_eq_true rfl⟩) rfl rfl (Nat.le_of_ble_eq_true rfl) ⟨Nat.le_of_ble_eq_true rfl, Nat.le_of_ble_eq_true rfl⟩ dX12_settingHere_64 (fun r11 σ11 hf => ?_)
            obtain ⟨g12, hf⟩ := hf
            refine z_if_eq (tgt := 72) hC dX12_settingHere_67 (by decide) g12 (fun hc => ?_) (fun hc => ?_)
            · replace hf := hf.1 hc
              refine z_aload_n hC dX12_settingHere_72 0 rfl rfl ?_
              refine z_ldc2 hC (n := 7216) (uT _ _ u1773) (by decide) dX12_settingHere_73 ?_
              refine z_callVi hC hE (oM_12 (show kM 0 = 12 by decide)) [vL 7216] (fun sz2 => mX12_isWord l hinj sz2 hf) (cwV 1 hC.1.2.2.2.2 (uV (uT _) u1718 u1720 u43 u118 u1721) rfl rfl rfl (by decide +kernel) ⟨Nat.le_of_ble_eq_true rfl, Nat.le_of_ble_eq_true rfl⟩) rfl rfl (Nat.le_of_ble_eq_true rfl) ⟨Nat.le_of_ble_eq_true rfl, Nat.le_of_ble_eq_true rfl⟩ dX12_settingHere_76 (fun r13 σ13 hf => ?_)
              obtain ⟨g14, hf⟩ := hf
              refine z_if_eq (tgt := 85) hC dX12_settingHere_79 (by decide) g14 (fun hc => ?_) (fun hc => ?_)
              · replace hf := hf.1 hc
                refine z_aload_n hC dX12_settingHere_85 0 rfl rfl ?_
                refine z_ldc2 hC (n := 20629733) (uT _ _ u1774) (by decide) dX12_settingHere_86 ?_
                refine z_callVi hC hE (oM_12 (show kM 0 = 12 by decide)) [vL 20629733] (fun sz2 => mX12_isWord l hinj sz2 hf) (cwV 1 hC.1.2.2.2.2 (uV (uT _) u1718 u1720 u43 u118 u1721) rfl rfl rfl (by decide +kernel) ⟨Nat.le_of_ble_eq_true rfl, Nat.le_of_ble_eq_true rfl⟩) rfl rfl (Nat.le_of_ble_eq_true rfl) ⟨Nat.le_of_ble_eq_true rfl, Nat.le_of_ble_eq_true rfl⟩ dX12_settingHere_89 (fun r15 σ15 hf => ?_)
                obtain ⟨g16, hf⟩ := hf
                refine z_if_eq (tgt := 98) hC dX12_settingHere_92 (by decide) g16 (fun hc => ?_) (fun hc => ?_)
                · replace hf := hf.1 hc
                  refine z_iconst hC dX12_settingHere_98 ?_
                  exact z_iret hC hr rfl dX12_settingHere_99 hf
                · replace hf := hf.2 hc
                  refine z_bipush hC dX12_settingHere_95 (by decide) ?_
                  exact z_iret hC hr rfl dX12_settingHere_97 hf
              · replace hf := hf.2 hc
                refine z_bipush hC dX12_settingHere_82 (by decide) ?_
                exact z_iret hC hr rfl dX12_settingHere_84 hf
            · replace hf := hf.2 hc
              refine z_iconst hC dX12_settingHere_70 ?_
              exact z_iret hC hr rfl dX12_settingHere_71 hf
          · replace hf := hf.2 hc
            refine z_iconst hC dX12_settingHere_58 ?_
            exact z_iret hC hr rfl dX12_settingHere_59 hf
        · replace hf := hf.2 hc
          refine z_iconst hC dX12_settingHere_46 ?_
          exact z_iret hC hr rfl dX12_settingHere_47 hf
      · replace hf := hf.2 hc
        refine z_iconst hC dX12_settingHere_34 ?_
        exact z_iret hC hr rfl dX12_settingHere_35 hf
    · replace hf := hf.2 hc
      refine z_iconst hC dX12_settingHere_22 ?_
      exact z_iret hC hr rfl dX12_settingHere_23 hf
  · replace hf := hf.2 hc
    refine z_iconst hC dX12_settingHere_10 ?_
    exact z_iret hC hr rfl dX12_settingHere_11 hf

-- ===== X12_parseSetting
def fX12_parseSetting_B49 (K : zSt → Prop) (σ : zSt) (x1 : Int) (s0 : Int) : Prop :=
  fX12_check (fun σ9 => (0 ≤ x1 ∧ x1 < 32) ∧ 0 ≤ σ9 0 15 ∧ 0 ≤ (1 : Int) * 2 ^ x1.toNat ∧ ∀ σ13, σ13 = zu σ9 0 15 (((σ9 0 15).toNat ||| ((1 : Int) * 2 ^ x1.toNat).toNat : Nat) : Int) → fX12_advanceIfGood (fun σ14 => zrg (σ14 0 13) ∧ ((σ14 0 13 = 0 → fX12_leastOf (fun r16 σ16 => fX12_mostOf (fun r17 σ17 => fX12_readInteger (fun r18 σ18 => (0 ≤ 83 + x1 ∧ 83 + x1 < 811) ∧ ∀ σ20, σ20 = zu σ18 2 (83 + x1) r18 → K σ20) σ17 r16 r17) σ16 x1) σ14 x1) ∧ (¬ σ14 0 13 = 0 → K σ14))) σ13 ) σ s0 (-13)
def fX12_parseSetting_B19 (K : zSt → Prop) (σ : zSt) (x1 : Int) (s0 : Int) : Prop :=
  fX12_check (fun σ4 => zrg (σ4 0 13) ∧ ((σ4 0 13 = 0 → zrg (σ4 0 15) ∧ (0 ≤ x1 ∧ x1 < 32) ∧ zrg (((σ4 0 15) / 2 ^ x1.toNat) % 2) ∧ ((((σ4 0 15) / 2 ^ x1.toNat) % 2 = 0 → fX12_parseSetting_B49 K σ4 x1 1) ∧ (¬ ((σ4 0 15) / 2 ^ x1.toNat) % 2 = 0 → fX12_parseSetting_B49 K σ4 x1 0))) ∧ (¬ σ4 0 13 = 0 → K σ4))) σ s0 (-11)
def fX12_parseSetting (K : zSt → Prop) (σ : zSt) : Prop :=
  fX12_advance (fun σ1 => fX12_settingHere (fun r2 σ2 => zrg r2 ∧ ((r2 < 0 → fX12_parseSetting_B19 K σ2 r2 0) ∧ (¬ r2 < 0 → fX12_parseSetting_B19 K σ2 r2 1))) σ1 ) σ 
set_option maxHeartbeats 4000000 in
set_option maxRecDepth 100000 in
theorem wX12_parseSetting_B49 {p : Program} {l : Launch} {e : Env} {s : State} {m : MethodId} {args : Array Value} {below : List Frame} {meth : Method} {c : Code} {D : va_G} {dA : Nat → ClassId} {ad : Nat → Nat} {sz : Nat}  {K : zSt → Prop} (hC : zC p m c cX12_parseSetting 2 s args (Cond.code yX12_parseSetting cX12_parseSetting 2 none :: UW) RX12 meth D vwCl (tyA dA) (zA ad NM sz) NM ad (celM ad dA)) (hE : zE zX0 (zA ad NM sz) s s.heap) (hr : meth.sig.returnType = none) (hinj : ∀ i j, i < NM → j < NM → ad i = ad j → i = j) {σ : zSt} {x1 : Int} {s0 : Int} (hf : fX12_parseSetting_B49 K σ x1 s0) : zAt p l e ({ frames := 4, cells := 0, slots := 0, locals := 86 } : Room) s m args below meth c 0 0 (MQ below (va_Qv K (zB D vwCl (tyA dA) NM ad (celM ad dA)) (zA ad NM sz)) args s 0 0 (zA ad NM sz)) 2 D vwCl (zA ad NM sz) NM ad (celM ad dA) 49 [(0, vR ad 0), (1, vI x1)] [vI s0, vR ad 0] σ := by
  refine z_bipush hC dX12_parseSetting_49 (by decide) ?_
  refine z_callVv hC hE (oM_12 (show kM 0 = 12 by decide)) [vI s0, vI (-13)] (fun sz2 => mX12_check l hinj sz2 hf) (cwV 2 hC.1.2.2.2.2 (uV (uT _) u1726 u1728 u45 u118 u1729) rfl rfl rfl (by decide +kernel) ⟨Nat.le_of_ble_eq_true rfl, Nat.le_of_ble_eq_true rfl⟩) rfl rfl (Nat.le_of_ble_eq_true rfl) ⟨Nat.le_of_ble_eq_true rfl, Nat.le_of_ble_eq_true rfl⟩ dX12_parseSetting_51 (fun σ9 hf => ?_)
  refine z_aload_n hC dX12_parseSetting_54 0 rfl rfl ?_
  refine z_dup hC dX12_parseSetting_55 rfl ?_
  refine z_get hC (fun w h => uT _ w (uL12 w h)) (oM_12 (show kM 0 = 12 by decide)) 15 (by decide) (uT _ _ u1560) rfl rfl dX12_parseSetting_56 ?_
  refine z_iconst hC dX12_parseSetting_59 ?_
  refine z_iload_n hC dX12_parseSetting_60 1 rfl rfl ?_
  obtain ⟨g10, hf⟩ := hf
  refine z_ishl hC g10 dX12_parseSetting_61 ?_
  obtain ⟨g11, hf⟩ := hf
  obtain ⟨g12, hf⟩ := hf
  refine z_ior hC g11 g12 dX12_parseSetting_62 ?_
  refine z_put hC (ty := .int) tyX12 tyX12_ok nmX12 (fun w h => uT _ w (uL12 w h)) (oM_12 (show kM 0 = 12 by decide)) (loM' (show kM 0 = 12 by decide) (by decide)) 15 (by decide) (uT _ _ u1560) rfl rfl (15) ((((σ9 0 15).toNat ||| ((1 : Int) * 2 ^ x1.toNat).toNat : Nat) : Int)) (by simp [zu]) (by decide +kernel) rfl rfl (Nat.le_of_ble_eq_true rfl) dX12_parseSetting_63 ?_
  obtain ⟨σ13, eσ13⟩ : ∃ z : zSt, z = zu σ9 0 15 (((σ9 0 15).toNat ||| ((1 : Int) * 2 ^ x1.toNat).toNat : Nat) : Int) := ⟨_, rfl⟩
  rw [← eσ13]
  replace hf := hf σ13 eσ13
  refine z_aload_n hC dX12_parseSetting_66 0 rfl rfl ?_
  refine z_callVv hC hE (oM_12 (show kM 0 = 12 by decide)) [] (fun sz2 => mX12_advanceIfGood l hinj sz2 hf) (cwV 0 hC.1.2.2.2.2 (uV (uT _) u1730 u1732 u46 u118 u1733) rfl rfl rfl (by decide +kernel) ⟨Nat.le_of_ble_eq_true rfl, Nat.le_of_ble_eq_true rfl⟩) rfl rfl (Nat.le_of_ble_eq_true rfl) ⟨Nat.le_of_ble_eq_true rfl, Nat.le_of_ble_eq_true rfl⟩ dX12_parseSetting_67 (fun σ14 hf => ?_)
  refine z_aload_n hC dX12_parseSetting_70 0 rfl rfl ?_
  refine z_get hC (fun w h => uT _ w (uL12 w h)) (oM_12 (show kM 0 = 12 by decide)) 13 (by decide) (uT _ _ u1558) rfl rfl dX12_parseSetting_71 ?_
  obtain ⟨g15, hf⟩ := hf
  refine z_if_ne (tgt := 98) hC dX12_parseSetting_74 (by decide) g15 (fun hc => ?_) (fun hc => ?_)
  · replace hf := hf.2 hc
    exact z_vret hC hr rfl dX12_parseSetting_98 hf
  · replace hf := hf.1 hc
    refine z_aload_n hC dX12_parseSetting_77 0 rfl rfl ?_
    refine z_get hC (fun w h => uT _ w (uL12 w h)) (oM_12 (show kM 0 = 12 by decide)) 1 (by decide) (uT _ _ u1546) rfl rfl dX12_parseSetting_78 ?_
    refine z_bipush hC dX12_parseSetting_81 (by decide) ?_
    refine z_iload_n hC dX12_parseSetting_83 1 rfl rfl ?_
    refine z_iadd hC dX12_parseSetting_84 ?_
    refine z_aload_n hC dX12_parseSetting_85 0 rfl rfl ?_
    refine z_iload_n hC dX12_parseSetting_86 1 rfl rfl ?_
    refine z_callSi hC hE [vI x1] (fun sz2 => mX12_leastOf l hinj sz2 hf) (va_cwS 1 hC.1.2.2.2.2 (uS (uT _) u1775 u1776 u118 u1777) rfl rfl rfl (by decide +kernel) ⟨Nat.le_of_ble_eq_true rfl, Nat.le_of_ble_eq_true rfl⟩) rfl rfl (Nat.le_of_ble_eq_true rfl) ⟨Nat.le_of_ble_eq_true rfl, Nat.le_of_ble_eq_true rfl⟩ dX12_parseSetting_87 (fun r16 σ16 hf => ?_)
    refine z_iload_n hC dX12_parseSetting_90 1 rfl rfl ?_
    refine z_callSi hC hE [vI x1] (fun sz2 => mX12_mostOf l hinj sz2 hf) (va_cwS 1 hC.1.2.2.2.2 (uS (uT _) u1778 u1779 u118 u1780) rfl rfl rfl (by decide +kernel) ⟨Nat.le_of_ble_eq_true rfl, Nat.le_of_ble_eq_true rfl⟩) rfl rfl (Nat.le_of_ble_eq_true rfl) ⟨Nat.le_of_ble_eq_true rfl, Nat.le_of_ble_eq_true rfl⟩ dX12_parseSetting_91 (fun r17 σ17 hf => ?_)
    refine z_callVi hC hE (oM_12 (show kM 0 = 12 by decide)) [vI r16, vI r17] (fun sz2 => mX12_readInteger l hinj sz2 hf) (cwV 2 hC.1.2.2.2.2 (uV (uT _) u1734 u1736 u47 u118 u1737) rfl rfl rfl (by decide +kernel) ⟨Nat.le_of_ble_eq_true rfl, Nat.le_of_ble_eq_true rfl⟩) rfl rfl (Nat.le_of_ble_eq_true rfl) ⟨Nat.le_of_ble_eq_true rfl, Nat.le_of_ble_eq_true rfl⟩ dX12_parseSetting_94 (fun r18 σ18 hf => ?_)
    obtain ⟨g19, hf⟩ := hf
    refine z_iastore hC (aM_30 (show kM 2 = 30 by decide)) (loM' (show kM 2 = 30 by decide) (by decide)) g19 dX12_parseSetting_97 ?_
    obtain ⟨σ20, eσ20⟩ : ∃ z : zSt, z = zu σ18 2 (83 + x1) r18 := ⟨_, rfl⟩
    rw [← eσ20]
    replace hf := hf σ20 eσ20
    exact z_vret hC hr rfl dX12_parseSetting_98 hf
set_option maxHeartbeats 4000000 in
set_option maxRecDepth 100000 in
theorem wX12_parseSetting_B19 {p : Program} {l : Launch} {e : Env} {s : State} {m : MethodId} {args : Array Value} {below : List Frame} {meth : Method} {c : Code} {D : va_G} {dA : Nat → ClassId} {ad : Nat → Nat} {sz : Nat}  {K : zSt → Prop} (hC : zC p m c cX12_parseSetting 2 s args (Cond.code yX12_parseSetting cX12_parseSetting 2 none :: UW) RX12 meth D vwCl (tyA dA) (zA ad NM sz) NM ad (celM ad dA)) (hE : zE zX0 (zA ad NM sz) s s.heap) (hr : meth.sig.returnType = none) (hinj : ∀ i j, i < NM → j < NM → ad i = ad j → i = j) {σ : zSt} {x1 : Int} {s0 : Int} (hf : fX12_parseSetting_B19 K σ x1 s0) : zAt p l e ({ frames := 4, cells := 0, slots := 0, locals := 86 } : Room) s m args below meth c 0 0 (MQ below (va_Qv K (zB D vwCl (tyA dA) NM ad (celM ad dA)) (zA ad NM sz)) args s 0 0 (zA ad NM sz)) 2 D vwCl (zA ad NM sz) NM ad (celM ad dA) 19 [(0, vR ad 0), (1, vI x1)] [vI s0, vR ad 0] σ := by
  refine z_bipush hC dX12_parseSetting_19 (by decide) ?_
  refine z_callVv hC hE (oM_12 (show kM 0 = 12 by decide)) [vI s0, vI (-11)] (fun sz2 => mX12_check l hinj sz2 hf) (cwV 2 hC.1.2.2.2.2 (uV (uT _) u1726 u1728 u45 u118 u1729) rfl rfl rfl (by decide +kernel) ⟨Nat.le_of_ble_eq_true rfl, Nat.le_of_ble_eq_true rfl⟩) rfl rfl (Nat.le_of_ble_eq_true rfl) ⟨Nat.le_of_ble_eq_true rfl, Nat.le_of_ble_eq_true rfl⟩ dX12_parseSetting_21 (fun σ4 hf => ?_)
  refine z_aload_n hC dX12_parseSetting_24 0 rfl rfl ?_
  refine z_get hC (fun w h => uT _ w (uL12 w h)) (oM_12 (show kM 0 = 12 by decide)) 13 (by decide) (uT _ _ u1558) rfl rfl dX12_parseSetting_25 ?_
  obtain ⟨g5, hf⟩ := hf
  refine z_if_eq (tgt := 32) hC dX12_parseSetting_28 (by decide) g5 (fun hc => ?_) (fun hc => ?_)
  · replace hf := hf.1 hc
    refine z_aload_n hC dX12_parseSetting_32 0 rfl rfl ?_
    refine z_aload_n hC dX12_parseSetting_33 0 rfl rfl ?_
    refine z_get hC (fun w h => uT _ w (uL12 w h)) (oM_12 (show kM 0 = 12 by decide)) 15 (by decide) (uT _ _ u1560) rfl rfl dX12_parseSetting_34 ?_
    refine z_iload_n hC dX12_parseSetting_37 1 rfl rfl ?_
    obtain ⟨g6, hf⟩ := hf
    obtain ⟨g7, hf⟩ := hf
    refine z_ishr hC g6 g7 dX12_parseSetting_38 ?_
    refine z_iconst hC dX12_parseSetting_39 ?_
    refine z_iand1 hC dX12_parseSetting_40 ?_
    obtain ⟨g8, hf⟩ := hf
    refine z_if_ne (tgt := 48) hC dX12_parseSetting_41 (by decide) g8 (fun hc => ?_) (fun hc => ?_)
    · replace hf := hf.2 hc
      refine z_iconst hC dX12_parseSetting_48 ?_
      exact wX12_parseSetting_B49 hC hE hr hinj  hf
    · replace hf := hf.1 hc
      refine z_iconst hC dX12_parseSetting_44 ?_
      refine z_goto (tgt := 49) hC dX12_parseSetting_45 (by decide) ?_
      exact wX12_parseSetting_B49 hC hE hr hinj  hf
  · replace hf := hf.2 hc
    exact z_vret hC hr rfl dX12_parseSetting_31 hf
set_option maxHeartbeats 4000000 in
set_option maxRecDepth 100000 in
theorem mX12_parseSetting {D : va_G} {dA : Nat → ClassId} {ad : Nat → Nat}  (l : Launch) (hinj : ∀ i j, i < NM → j < NM → ad i = ad j → i = j) (sz : Nat) {K : zSt → Prop} {σ : zSt} (hf : fX12_parseSetting K σ ) : Met l yX12_parseSetting (Cond.code yX12_parseSetting cX12_parseSetting 2 none :: UW) ({ frames := 4, cells := 0, slots := 0, locals := 86 } : Room) (va_Pc [vR ad 0] (zPre D vwCl (tyA dA) zX0 NM ad (celM ad dA) sz σ)) (va_Qv K (zB D vwCl (tyA dA) NM ad (celM ad dA)) (zA ad NM sz)) 0 0 (zA ad NM sz) := by
  refine z_enter (cc := cX12_parseSetting) (maxL := 2) (ret := none) (vs := [vR ad 0]) (plainFor_of_name (by decide)) rfl hinj (Nat.le_of_ble_eq_true rfl) ?_
  intro p e s m args below meth c hC hE hsz hr hnm
  show zAt p l e ({ frames := 4, cells := 0, slots := 0, locals := 86 } : Room) s m args below meth c 0 0 (MQ below (va_Qv K (zB D vwCl (tyA dA) NM ad (celM ad dA)) (zA ad NM sz)) args s 0 0 (zA ad NM sz)) 2 D vwCl (zA ad NM sz) NM ad (celM ad dA) 0 [(0, vR ad 0)] [] σ
  refine z_aload_n hC dX12_parseSetting_0 0 rfl rfl ?_
  refine z_callVv hC hE (oM_12 (show kM 0 = 12 by decide)) [] (fun sz2 => mX12_advance l hinj sz2 hf) (cwV 0 hC.1.2.2.2.2 (uV (uT _) u1703 u1705 u40 u118 u1706) rfl rfl rfl (by decide +kernel) ⟨Nat.le_of_ble_eq_true rfl, Nat.le_of_ble_eq_true rfl⟩) rfl rfl (Nat.le_of_ble_eq_true rfl) ⟨Nat.le_of_ble_eq_true rfl, Nat.le_of_ble_eq_true rfl⟩ dX12_parseSetting_1 (fun σ1 hf => ?_)
  refine z_aload_n hC dX12_parseSetting_4 0 rfl rfl ?_
  refine z_callVi hC hE (oM_12 (show kM 0 = 12 by decide)) [] (fun sz2 => mX12_settingHere l hinj sz2 hf) (cwV 0 hC.1.2.2.2.2 (uV (uT _) u1763 u1765 u53 u118 u1766) rfl rfl rfl (by decide +kernel) ⟨Nat.le_of_ble_eq_true rfl, Nat.le_of_ble_eq_true rfl⟩) rfl rfl (Nat.le_of_ble_eq_true rfl) ⟨Nat.le_of_ble_eq_true rfl, Nat.le_of_ble_eq_true rfl⟩ dX12_parseSetting_5 (fun r2 σ2 hf => ?_)
  refine z_istore_n hC ([(1, vI r2), (0, vR ad 0)]) dX12_parseSetting_8 rfl (by decide) rfl ?_
  refine z_aload_n hC dX12_parseSetting_9 1 rfl rfl ?_
  refine z_iload_n hC dX12_parseSetting_10 0 rfl rfl ?_
  obtain ⟨g3, hf⟩ := hf
  refine z_if_lt (tgt := 18) hC dX12_parseSetting_11 (by decide) g3 (fun hc => ?_) (fun hc => ?_)
  · replace hf := hf.1 hc
    refine z_iconst hC dX12_parseSetting_18 ?_
    refine z_sub (lv' := [(0, vR ad 0), (1, vI r2)]) [1, 0] rfl ?_
    exact wX12_parseSetting_B19 hC hE hr hinj  hf
  · replace hf := hf.2 hc
    refine z_iconst hC dX12_parseSetting_14 ?_
    refine z_goto (tgt := 19) hC dX12_parseSetting_15 (by decide) ?_
    refine z_sub (lv' := [(0, vR ad 0), (1, vI r2)]) [1, 0] rfl ?_
    exact wX12_parseSetting_B19 hC hE hr hinj  hf

-- ===== X12_parseStatement
def fX12_parseStatement (K : zSt → Prop) (σ : zSt) : Prop :=
  fX12_isWord (fun r1 σ1 => zrg r1 ∧ ((r1 = 0 → fX12_isWord (fun r3 σ3 => zrg r3 ∧ ((r3 = 0 → fX12_isWord (fun r5 σ5 => zrg r5 ∧ ((r5 = 0 → fX12_isWord (fun r7 σ7 => zrg r7 ∧ ((r7 = 0 → fX12_isWord (fun r9 σ9 => zrg r9 ∧ ((r9 = 0 → fX12_isWord (fun r11 σ11 => zrg r11 ∧ ((r11 = 0 → fX12_check (fun σ13 => K σ13) σ11 0 (-11)) ∧ (¬ r11 = 0 → fX12_parseSetting (fun σ14 => K σ14) σ11 ))) σ9 19636) ∧ (¬ r9 = 0 → fX12_parseStake (fun σ15 => K σ15) σ9 ))) σ7 20579685) ∧ (¬ r7 = 0 → fX12_parsePixel (fun σ16 => K σ16) σ7 4 6 20))) σ5 6611949125) ∧ (¬ r5 = 0 → fX12_parsePixel (fun σ17 => K σ17) σ5 3 4 12))) σ3 3739896300) ∧ (¬ r3 = 0 → fX12_parseFrame (fun σ18 => K σ18) σ3 ))) σ1 6882725) ∧ (¬ r1 = 0 → fX12_parseSize (fun σ19 => K σ19) σ1 ))) σ 632645
set_option maxHeartbeats 4000000 in
set_option maxRecDepth 100000 in
theorem mX12_parseStatement {D : va_G} {dA : Nat → ClassId} {ad : Nat → Nat}  (l : Launch) (hinj : ∀ i j, i < NM → j < NM → ad i = ad j → i = j) (sz : Nat) {K : zSt → Prop} {σ : zSt} (hf : fX12_parseStatement K σ ) : Met l yX12_parseStatement (Cond.code yX12_parseStatement cX12_parseStatement 1 none :: UW) ({ frames := 5, cells := 0, slots := 0, locals := 112 } : Room) (va_Pc [vR ad 0] (zPre D vwCl (tyA dA) zX0 NM ad (celM ad dA) sz σ)) (va_Qv K (zB D vwCl (tyA dA) NM ad (celM ad dA)) (zA ad NM sz)) 0 0 (zA ad NM sz) := by
  refine z_enter (cc := cX12_parseStatement) (maxL := 1) (ret := none) (vs := [vR ad 0]) (plainFor_of_name (by decide)) rfl hinj (Nat.le_of_ble_eq_true rfl) ?_
  intro p e s m args below meth c hC hE hsz hr hnm
  show zAt p l e ({ frames := 5, cells := 0, slots := 0, locals := 112 } : Room) s m args below meth c 0 0 (MQ below (va_Qv K (zB D vwCl (tyA dA) NM ad (celM ad dA)) (zA ad NM sz)) args s 0 0 (zA ad NM sz)) 1 D vwCl (zA ad NM sz) NM ad (celM ad dA) 0 [(0, vR ad 0)] [] σ
  refine z_aload_n hC dX12_parseStatement_0 0 rfl rfl ?_
  refine z_ldc2 hC (n := 632645) (uT _ _ u1717) (by decide) dX12_parseStatement_1 ?_
  refine z_callVi hC hE (oM_12 (show kM 0 = 12 by decide)) [vL 632645] (fun sz2 => mX12_isWord l hinj sz2 hf) (cwV 1 hC.1.2.2.2.2 (uV (uT _) u1718 u1720 u43 u118 u1721) rfl rfl rfl (by decide +kernel) ⟨Nat.le_of_ble_eq_true rfl, Nat.le_of_ble_eq_true rfl⟩) rfl rfl (Nat.le_of_ble_eq_true rfl) ⟨Nat.le_of_ble_eq_true rfl, Nat.le_of_ble_eq_true rfl⟩ dX12_parseStatement_4 (fun r1 σ1 hf => ?_)
  obtain ⟨g2, hf⟩ := hf
  refine z_if_eq (tgt := 17) hC dX12_parseStatement_7 (by decide) g2 (fun hc => ?_) (fun hc => ?_)
  · replace hf := hf.1 hc
    refine z_aload_n hC dX12_parseStatement_17 0 rfl rfl ?_
    refine z_ldc2 hC (n := 6882725) (uT _ _ u1738) (by decide) dX12_parseStatement_18 ?_
    refine z_callVi hC hE (oM_12 (show kM 0 = 12 by decide)) [vL 6882725] (fun sz2 => mX12_isWord l hinj sz2 hf) (cwV 1 hC.1.2.2.2.2 (uV (uT _) u1718 u1720 u43 u118 u1721) rfl rfl rfl (by decide +kernel) ⟨Nat.le_of_ble_eq_true rfl, Nat.le_of_ble_eq_true rfl⟩) rfl rfl (Nat.le_of_ble_eq_true rfl) ⟨Nat.le_of_ble_eq_true rfl, Nat.le_of_ble_eq_true rfl⟩ dX12_parseStatement_21 (fun r3 σ3 hf => ?_)
    obtain ⟨g4, hf⟩ := hf
    refine z_if_eq (tgt := 34) hC dX12_parseStatement_24 (by decide) g4 (fun hc => ?_) (fun hc => ?_)
    · replace hf := hf.1 hc
      refine z_aload_n hC dX12_parseStatement_34 0 rfl rfl ?_
      refine z_ldc2 hC (n := 3739896300) (uT _ _ u1747) (by decide) dX12_parseStatement_35 ?_
      refine z_callVi hC hE (oM_12 (show kM 0 = 12 by decide)) [vL 3739896300] (fun sz2 => mX12_isWord l hinj sz2 hf) (cwV 1 hC.1.2.2.2.2 (uV (uT _) u1718 u1720 u43 u118 u1721) rfl rfl rfl (by decide +kernel) ⟨Nat.le_of_ble_eq_true rfl, Nat.le_of_ble_eq_true rfl⟩) rfl rfl (Nat.le_of_ble_eq_true rfl) ⟨Nat.le_of_ble_eq_true rfl, Nat.le_of_ble_eq_true rfl⟩ dX12_parseStatement_38 (fun r5 σ5 hf => ?_)
      obtain ⟨g6, hf⟩ := hf
      refine z_if_eq (tgt := 55) hC dX12_parseStatement_41 (by decide) g6 (fun hc => ?_) (fun hc => ?_)
      · replace hf := hf.1 hc
        refine z_aload_n hC dX12_parseStatement_55 0 rfl rfl ?_
        refine z_ldc2 hC (n := 6611949125) (uT _ _ u1752) (by decide) dX12_parseStatement_56 ?_
        refine z_callVi hC hE (oM_12 (show kM 0 = 12 by decide)) [vL 6611949125] (fun sz2 => mX12_isWord l hinj sz2 hf) (cwV 1 hC.1.2.2.2.2 (uV (uT _) u1718 u1720 u43 u118 u1721) rfl rfl rfl (by decide +kernel) ⟨Nat.le_of_ble_eq_true rfl, Nat.le_of_ble_eq_true rfl⟩) rfl rfl (Nat.le_of_ble_eq_true rfl) ⟨Nat.le_of_ble_eq_true rfl, Nat.le_of_ble_eq_true rfl⟩ dX12_parseStatement_59 (fun r7 σ7 hf => ?_)
        obtain ⟨g8, hf⟩ := hf
        refine z_if_eq (tgt := 77) hC dX12_parseStatement_62 (by decide) g8 (fun hc => ?_) (fun hc => ?_)
        · replace hf := hf.1 hc
          refine z_aload_n hC dX12_parseStatement_77 0 rfl rfl ?_
          refine z_ldc2 hC (n := 20579685) (uT _ _ u1753) (by decide) dX12_parseStatement_78 ?_
          refine z_callVi hC hE (oM_12 (show kM 0 = 12 by decide)) [vL 20579685] (fun sz2 => mX12_isWord l hinj sz2 hf) (cwV 1 hC.1.2.2.2.2 (uV (uT _) u1718 u1720 u43 u118 u1721) rfl rfl rfl (by decide +kernel) ⟨Nat.le_of_ble_eq_true rfl, Nat.le_of_ble_eq_true rfl⟩) rfl rfl (Nat.le_of_ble_eq_true rfl) ⟨Nat.le_of_ble_eq_true rfl, Nat.le_of_ble_eq_true rfl⟩ dX12_parseStatement_81 (fun r9 σ9 hf => ?_)
          obtain ⟨g10, hf⟩ := hf
          refine z_if_eq (tgt := 94) hC dX12_parseStatement_84 (by decide) g10 (fun hc => ?_) (fun hc => ?_)
          · replace hf := hf.1 hc
            refine z_aload_n hC dX12_parseStatement_94 0 rfl rfl ?_
            refine z_ldc2 hC (n := 19636) (uT _ _ u1758) (by decide) dX12_parseStatement_95 ?_
            refine z_callVi hC hE (oM_12 (show kM 0 = 12 by decide)) [vL 19636] (fun sz2 => mX12_isWord l hinj sz2 hf) (cwV 1 hC.1.2.2.2.2 (uV (uT _) u1718 u1720 u43 u118 u1721) rfl rfl rfl (by decide +kernel) ⟨Nat.le_of_ble_eq_true rfl, Nat.le_of_ble_eq_true rfl⟩) rfl rfl (Nat.le_of_ble_eq_true rfl) ⟨Nat.le_of_ble_eq_true rfl, Nat.le_of_ble_eq_true rfl⟩ dX12_parseStatement_98 (fun r11 σ11 hf => ?_)
            obtain ⟨g12, hf⟩ := hf
            refine z_if_eq (tgt := 111) hC dX12_parseStatement_101 (by decide) g12 (fun hc => ?_) (fun hc => ?_)
            · replace hf := hf.1 hc
              refine z_aload_n hC dX12_parseStatement_111 0 rfl rfl ?_
              refine z_iconst hC dX12_parseStatement_112 ?_
              refine z_bipush hC dX12_parseStatement_113 (by decide) ?_
              refine z_callVv hC hE (oM_12 (show kM 0 = 12 by decide)) [vI 0, vI (-11)] (fun sz2 => mX12_check l hinj sz2 hf) (cwV 2 hC.1.2.2.2.2 (uV (uT _) u1726 u1728 u45 u118 u1729) rfl rfl rfl (by decide +kernel) ⟨Nat.le_of_ble_eq_true rfl, Nat.le_of_ble_eq_true rfl⟩) rfl rfl (Nat.le_of_ble_eq_true rfl) ⟨Nat.le_of_ble_eq_true rfl, Nat.le_of_ble_eq_true rfl⟩ dX12_parseStatement_115 (fun σ13 hf => ?_)
              exact z_vret hC hr rfl dX12_parseStatement_118 hf
            · replace hf := hf.2 hc
              refine z_aload_n hC dX12_parseStatement_104 0 rfl rfl ?_
              refine z_callVv hC hE (oM_12 (show kM 0 = 12 by decide)) [] (fun sz2 => mX12_parseSetting l hinj sz2 hf) (cwV 0 hC.1.2.2.2.2 (uV (uT _) u1759 u1761 u52 u118 u1762) rfl rfl rfl (by decide +kernel) ⟨Nat.le_of_ble_eq_true rfl, Nat.le_of_ble_eq_true rfl⟩) rfl rfl (Nat.le_of_ble_eq_true rfl) ⟨Nat.le_of_ble_eq_true rfl, Nat.le_of_ble_eq_true rfl⟩ dX12_parseStatement_105 (fun σ14 hf => ?_)
              refine z_goto (tgt := 118) hC dX12_parseStatement_108 (by decide) ?_
              exact z_vret hC hr rfl dX12_parseStatement_118 hf
          · replace hf := hf.2 hc
            refine z_aload_n hC dX12_parseStatement_87 0 rfl rfl ?_
            refine z_callVv hC hE (oM_12 (show kM 0 = 12 by decide)) [] (fun sz2 => mX12_parseStake l hinj sz2 hf) (cwV 0 hC.1.2.2.2.2 (uV (uT _) u1754 u1756 u51 u118 u1757) rfl rfl rfl (by decide +kernel) ⟨Nat.le_of_ble_eq_true rfl, Nat.le_of_ble_eq_true rfl⟩) rfl rfl (Nat.le_of_ble_eq_true rfl) ⟨Nat.le_of_ble_eq_true rfl, Nat.le_of_ble_eq_true rfl⟩ dX12_parseStatement_88 (fun σ15 hf => ?_)
            refine z_goto (tgt := 118) hC dX12_parseStatement_91 (by decide) ?_
            exact z_vret hC hr rfl dX12_parseStatement_118 hf
        · replace hf := hf.2 hc
          refine z_aload_n hC dX12_parseStatement_65 0 rfl rfl ?_
          refine z_iconst hC dX12_parseStatement_66 ?_
          refine z_bipush hC dX12_parseStatement_67 (by decide) ?_
          refine z_bipush hC dX12_parseStatement_69 (by decide) ?_
          refine z_callVv hC hE (oM_12 (show kM 0 = 12 by decide)) [vI 4, vI 6, vI 20] (fun sz2 => mX12_parsePixel l hinj sz2 hf) (cwV 3 hC.1.2.2.2.2 (uV (uT _) u1748 u1750 u50 u118 u1751) rfl rfl rfl (by decide +kernel) ⟨Nat.le_of_ble_eq_true rfl, Nat.le_of_ble_eq_true rfl⟩) rfl rfl (Nat.le_of_ble_eq_true rfl) ⟨Nat.le_of_ble_eq_true rfl, Nat.le_of_ble_eq_true rfl⟩ dX12_parseStatement_71 (fun σ16 hf => ?_)
          refine z_goto (tgt := 118) hC dX12_parseStatement_74 (by decide) ?_
          exact z_vret hC hr rfl dX12_parseStatement_118 hf
      · replace hf := hf.2 hc
        refine z_aload_n hC dX12_parseStatement_44 0 rfl rfl ?_
        refine z_iconst hC dX12_parseStatement_45 ?_
        refine z_iconst hC dX12_parseStatement_46 ?_
        refine z_bipush hC dX12_parseStatement_47 (by decide) ?_
        refine z_callVv hC hE (oM_12 (show kM 0 = 12 by decide)) [vI 3, vI 4, vI 12] (fun sz2 => mX12_parsePixel l hinj sz2 hf) (cwV 3 hC.1.2.2.2.2 (uV (uT _) u1748 u1750 u50 u118 u1751) rfl rfl rfl (by decide +kernel) ⟨Nat.le_of_ble_eq_true rfl, Nat.le_of_ble_eq_true rfl⟩) rfl rfl (Nat.le_of_ble_eq_true rfl) ⟨Nat.le_of_ble_eq_true rfl, Nat.le_of_ble_eq_true rfl⟩ dX12_parseStatement_49 (fun σ17 hf => ?_)
        refine z_goto (tgt := 118) hC dX12_parseStatement_52 (by decide) ?_
        exact z_vret hC hr rfl dX12_parseStatement_118 hf
    · replace hf := hf.2 hc
      refine z_aload_n hC dX12_parseStatement_27 0 rfl rfl ?_
      refine z_callVv hC hE (oM_12 (show kM 0 = 12 by decide)) [] (fun sz2 => mX12_parseFrame l hinj sz2 hf) (cwV 0 hC.1.2.2.2.2 (uV (uT _) u1739 u1741 u48 u118 u1742) rfl rfl rfl (by decide +kernel) ⟨Nat.le_of_ble_eq_true rfl, Nat.le_of_ble_eq_true rfl⟩) rfl rfl (Nat.le_of_ble_eq_true rfl) ⟨Nat.le_of_ble_eq_true rfl, Nat.le_of_ble_eq_true rfl⟩ dX12_parseStatement_28 (fun σ18 hf => ?_)
      refine z_goto (tgt := 118) hC dX12_parseStatement_31 (by decide) ?_
      exact z_vret hC hr rfl dX12_parseStatement_118 hf
  · replace hf := hf.2 hc
    refine z_aload_n hC dX12_parseStatement_10 0 rfl rfl ?_
    refine z_callVv hC hE (oM_12 (show kM 0 = 12 by decide)) [] (fun sz2 => mX12_parseSize l hinj sz2 hf) (cwV 0 hC.1.2.2.2.2 (uV (uT _) u1722 u1724 u44 u118 u1725) rfl rfl rfl (by decide +kernel) ⟨Nat.le_of_ble_eq_true rfl, Nat.le_of_ble_eq_true rfl⟩) rfl rfl (Nat.le_of_ble_eq_true rfl) ⟨Nat.le_of_ble_eq_true rfl, Nat.le_of_ble_eq_true rfl⟩ dX12_parseStatement_11 (fun σ19 hf => ?_)
    refine z_goto (tgt := 118) hC dX12_parseStatement_14 (by decide) ?_
    exact z_vret hC hr rfl dX12_parseStatement_118 hf

-- ===== X12_load
def fX12_load_B93 (K : Int → zSt → Prop) (k61 : zSt → Prop) (σ : zSt) (s0 : Int) : Prop :=
  fX12_check (fun σ18 => fX12_advanceIfGood (fun σ19 => ∀ σ20, σ20 = zu σ19 0 16 ((σ19 0 16) + 1) → k61 σ20 ) σ18 ) σ s0 (-11)
noncomputable def fX12_load_B134 (K : Int → zSt → Prop) (n : Nat) : zSt → Int → Prop :=
  Nat.rec (motive := fun _ => zSt → Int → Prop) (fun _ _ => False) (fun _ ih σ x2 => zrg x2 ∧ ((811 ≤ x2 → ∀ σ22, σ22 = zu σ 0 3 0 → K (σ22 0 16) σ22) ∧ (¬ 811 ≤ x2 → (0 ≤ x2 ∧ x2 < 811) ∧ ∀ σ24, σ24 = zu σ 1 x2 (σ 2 x2) → ih σ24 (x2 + 1)))) n
theorem uX12_load_B134 (K : Int → zSt → Prop) (n0 : Nat) (σ : zSt) (x2 : Int) : fX12_load_B134 K (n0 + 1) σ x2 = (zrg x2 ∧ ((811 ≤ x2 → ∀ σ22, σ22 = zu σ 0 3 0 → K (σ22 0 16) σ22) ∧ (¬ 811 ≤ x2 → (0 ≤ x2 ∧ x2 < 811) ∧ ∀ σ24, σ24 = zu σ 1 x2 (σ 2 x2) → (fX12_load_B134 K n0) σ24 (x2 + 1)))) := rfl
def fX12_load_B115 (K : Int → zSt → Prop) (σ : zSt) : Prop :=
  ∀ σ16, σ16 = zu σ 0 6 0 → zrg (σ16 0 13) ∧ ((σ16 0 13 = 0 → (∃ n, fX12_load_B134 K n σ16 0)) ∧ (¬ σ16 0 13 = 0 → K (σ16 0 13) σ16))
noncomputable def fX12_load_B61 (K : Int → zSt → Prop) (n : Nat) : zSt → Prop :=
  Nat.rec (motive := fun _ => zSt → Prop) (fun _  => False) (fun _ ih σ  => zrg (σ 0 13) ∧ ((σ 0 13 = 0 → zrg (σ 0 10) ∧ ((σ 0 10 = 0 → fX12_load_B115 K σ ) ∧ (¬ σ 0 10 = 0 → fX12_parseStatement (fun σ14 => zrg (σ14 0 10) ∧ ((σ14 0 10 = 3 → fX12_load_B93 K ih σ14 1) ∧ (¬ σ14 0 10 = 3 → fX12_load_B93 K ih σ14 0))) σ ))) ∧ (¬ σ 0 13 = 0 → fX12_load_B115 K σ ))) n
theorem uX12_load_B61 (K : Int → zSt → Prop) (n0 : Nat) (σ : zSt) : fX12_load_B61 K (n0 + 1) σ  = (zrg (σ 0 13) ∧ ((σ 0 13 = 0 → zrg (σ 0 10) ∧ ((σ 0 10 = 0 → fX12_load_B115 K σ ) ∧ (¬ σ 0 10 = 0 → fX12_parseStatement (fun σ14 => zrg (σ14 0 10) ∧ ((σ14 0 10 = 3 → fX12_load_B93 K (fX12_load_B61 K n0) σ14 1) ∧ (¬ σ14 0 10 = 3 → fX12_load_B93 K (fX12_load_B61 K n0) σ14 0))) σ ))) ∧ (¬ σ 0 13 = 0 → fX12_load_B115 K σ ))) := rfl
def fX12_load (K : Int → zSt → Prop) (σ : zSt) (x1 : Int) : Prop :=
  ∀ σ1, σ1 = zu σ 0 4 0 → fX12_inRange (fun r2 σ2 => zrg r2 ∧ ((r2 = 0 → K (-2) σ2) ∧ (¬ r2 = 0 → ∀ σ4, σ4 = zu σ2 0 7 x1 → ∀ σ5, σ5 = zu σ4 0 8 0 → ∀ σ6, σ6 = zu σ5 0 13 0 → ∀ σ7, σ7 = zu σ6 0 14 (-1) → ∀ σ8, σ8 = zu σ7 0 15 0 → ∀ σ9, σ9 = zu σ8 0 16 0 → fX12_reset (fun σ10 => fX12_advance (fun σ11 => (∃ n, fX12_load_B61 K n σ11 )) σ10 ) σ9 2))) σ1 x1 0 (σ1 0 6)
set_option maxHeartbeats 4000000 in
set_option maxRecDepth 100000 in
theorem wX12_load_B93 {p : Program} {l : Launch} {e : Env} {s : State} {m : MethodId} {args : Array Value} {below : List Frame} {meth : Method} {c : Code} {D : va_G} {dA : Nat → ClassId} {ad : Nat → Nat} {sz : Nat}  {K : Int → zSt → Prop} {k61 : zSt → Prop} (hC : zC p m c cX12_load 3 s args (Cond.code yX12_load cX12_load 3 (some .int) :: UW) RX12 meth D vwCl (tyA dA) (zA ad NM sz) NM ad (celM ad dA)) (hE : zE zX0 (zA ad NM sz) s s.heap) (hr : meth.sig.returnType = (some .int)) (hinj : ∀ i j, i < NM → j < NM → ad i = ad j → i = j) (hk61 : ∀ (σ : zSt), k61 σ  → zAt p l e ({ frames := 6, cells := 0, slots := 0, locals := 132 } : Room) s m args below meth c 0 0 (MQ below (va_Qi (zPi K) (zB D vwCl (tyA dA) NM ad (celM ad dA)) (zA ad NM sz)) args s 0 0 (zA ad NM sz)) 3 D vwCl (zA ad NM sz) NM ad (celM ad dA) 61 [(0, vR ad 0)] [] σ) {σ : zSt} {s0 : Int} (hf : fX12_load_B93 K k61 σ s0) : zAt p l e ({ frames := 6, cells := 0, slots := 0, locals := 132 } : Room) s m args below meth c 0 0 (MQ below (va_Qi (zPi K) (zB D vwCl (tyA dA) NM ad (celM ad dA)) (zA ad NM sz)) args s 0 0 (zA ad NM sz)) 3 D vwCl (zA ad NM sz) NM ad (celM ad dA) 93 [(0, vR ad 0)] [vI s0, vR ad 0] σ := by
  refine z_bipush hC dX12_load_93 (by decide) ?_
  refine z_callVv hC hE (oM_12 (show kM 0 = 12 by decide)) [vI s0, vI (-11)] (fun sz2 => mX12_check l hinj sz2 hf) (cwV 2 hC.1.2.2.2.2 (uV (uT _) u1726 u1728 u45 u118 u1729) rfl rfl rfl (by decide +kernel) ⟨Nat.le_of_ble_eq_true rfl, Nat.le_of_ble_eq_true rfl⟩) rfl rfl (Nat.le_of_ble_eq_true rfl) ⟨Nat.le_of_ble_eq_true rfl, Nat.le_of_ble_eq_true rfl⟩ dX12_load_95 (fun σ18 hf => ?_)
  refine z_aload_n hC dX12_load_98 0 rfl rfl ?_
  refine z_callVv hC hE (oM_12 (show kM 0 = 12 by decide)) [] (fun sz2 => mX12_advanceIfGood l hinj sz2 hf) (cwV 0 hC.1.2.2.2.2 (uV (uT _) u1730 u1732 u46 u118 u1733) rfl rfl rfl (by decide +kernel) ⟨Nat.le_of_ble_eq_true rfl, Nat.le_of_ble_eq_true rfl⟩) rfl rfl (Nat.le_of_ble_eq_true rfl) ⟨Nat.le_of_ble_eq_true rfl, Nat.le_of_ble_eq_true rfl⟩ dX12_load_99 (fun σ19 hf => ?_)
  refine z_aload_n hC dX12_load_102 0 rfl rfl ?_
  refine z_dup hC dX12_load_103 rfl ?_
  refine z_get hC (fun w h => uT _ w (uL12 w h)) (oM_12 (show kM 0 = 12 by decide)) 16 (by decide) (uT _ _ u1561) rfl rfl dX12_load_104 ?_
  refine z_iconst hC dX12_load_107 ?_
  refine z_iadd hC dX12_load_108 ?_
  refine z_put hC (ty := .int) tyX12 tyX12_ok nmX12 (fun w h => uT _ w (uL12 w h)) (oM_12 (show kM 0 = 12 by decide)) (loM' (show kM 0 = 12 by decide) (by decide)) 16 (by decide) (uT _ _ u1561) rfl rfl (16) ((σ19 0 16) + 1) (by simp [zu]) (by decide +kernel) rfl rfl (Nat.le_of_ble_eq_true rfl) dX12_load_109 ?_
  obtain ⟨σ20, eσ20⟩ : ∃ z : zSt, z = zu σ19 0 16 ((σ19 0 16) + 1) := ⟨_, rfl⟩
  rw [← eσ20]
  replace hf := hf σ20 eσ20
  refine z_goto (tgt := 61) hC dX12_load_112 (by decide) ?_
  exact hk61 _ hf
set_option maxHeartbeats 4000000 in
set_option maxRecDepth 100000 in
theorem wX12_load_B134 {p : Program} {l : Launch} {e : Env} {s : State} {m : MethodId} {args : Array Value} {below : List Frame} {meth : Method} {c : Code} {D : va_G} {dA : Nat → ClassId} {ad : Nat → Nat} {sz : Nat}  {K : Int → zSt → Prop} (hC : zC p m c cX12_load 3 s args (Cond.code yX12_load cX12_load 3 (some .int) :: UW) RX12 meth D vwCl (tyA dA) (zA ad NM sz) NM ad (celM ad dA)) (hE : zE zX0 (zA ad NM sz) s s.heap) (hr : meth.sig.returnType = (some .int)) (hinj : ∀ i j, i < NM → j < NM → ad i = ad j → i = j) : ∀ (n : Nat) (σ : zSt) (x2 : Int), fX12_load_B134 K n σ x2 → zAt p l e ({ frames := 6, cells := 0, slots := 0, locals := 132 } : Room) s m args below meth c 0 0 (MQ below (va_Qi (zPi K) (zB D vwCl (tyA dA) NM ad (celM ad dA)) (zA ad NM sz)) args s 0 0 (zA ad NM sz)) 3 D vwCl (zA ad NM sz) NM ad (celM ad dA) 134 [(0, vR ad 0), (2, vI x2)] [] σ := by
  intro n
  induction n with
  | zero => intro σ x2  hf; exact False.elim hf
  | succ n ih =>
    intro σ x2  hf
    rw [uX12_load_B134] at hf
    refine z_iload_n hC dX12_load_134 1 rfl rfl ?_
    refine z_sipush hC dX12_load_135 (by decide) ?_
    obtain ⟨g21, hf⟩ := hf
    refine z_icmp_ge (tgt := 159) hC dX12_load_138 (by decide) g21 (zlit rfl rfl) (fun hc => ?_) (fun hc => ?_)
    · replace hf := hf.1 hc
      refine z_aload_n hC dX12_load_159 0 rfl rfl ?_
      refine z_iconst hC dX12_load_160 ?_
      refine z_put hC (ty := .int) tyX12 tyX12_ok nmX12 (fun w h => uT _ w (uL12 w h)) (oM_12 (show kM 0 = 12 by decide)) (loM' (show kM 0 = 12 by decide) (by decide)) 3 (by decide) (uT _ _ u1548) rfl rfl (3) (0) (by simp [zu]) (by decide +kernel) rfl rfl (Nat.le_of_ble_eq_true rfl) dX12_load_161 ?_
      obtain ⟨σ22, eσ22⟩ : ∃ z : zSt, z = zu σ 0 3 0 := ⟨_, rfl⟩
      rw [← eσ22]
      replace hf := hf σ22 eσ22
      refine z_aload_n hC dX12_load_164 0 rfl rfl ?_
      refine z_get hC (fun w h => uT _ w (uL12 w h)) (oM_12 (show kM 0 = 12 by decide)) 16 (by decide) (uT _ _ u1561) rfl rfl dX12_load_165 ?_
      exact z_iret hC hr rfl dX12_load_168 hf
    · replace hf := hf.2 hc
      refine z_aload_n hC dX12_load_141 0 rfl rfl ?_
      refine z_get hC (fun w h => uT _ w (uL12 w h)) (oM_12 (show kM 0 = 12 by decide)) 0 (by decide) (uT _ _ u1545) rfl rfl dX12_load_142 ?_
      refine z_iload_n hC dX12_load_145 1 rfl rfl ?_
      refine z_aload_n hC dX12_load_146 0 rfl rfl ?_
      refine z_get hC (fun w h => uT _ w (uL12 w h)) (oM_12 (show kM 0 = 12 by decide)) 1 (by decide) (uT _ _ u1546) rfl rfl dX12_load_147 ?_
      refine z_iload_n hC dX12_load_150 1 rfl rfl ?_
      obtain ⟨g23, hf⟩ := hf
      refine z_iaload hC (aM_30 (show kM 2 = 30 by decide)) g23 dX12_load_151 ?_
      refine z_iastore hC (aM_30 (show kM 1 = 30 by decide)) (loM' (show kM 1 = 30 by decide) (by decide)) g23 dX12_load_152 ?_
      obtain ⟨σ24, eσ24⟩ : ∃ z : zSt, z = zu σ 1 x2 (σ 2 x2) := ⟨_, rfl⟩
      rw [← eσ24]
      replace hf := hf σ24 eσ24
      refine z_iinc hC ([(2, vI (x2 + 1)), (0, vR ad 0)]) dX12_load_153 1 rfl (by decide) rfl ?_
      refine z_goto (tgt := 134) hC dX12_load_156 (by decide) ?_
      refine z_sub (lv' := [(0, vR ad 0), (2, vI (x2 + 1))]) [1, 0] rfl ?_
      exact ih _ _ hf
set_option maxHeartbeats 4000000 in
set_option maxRecDepth 100000 in
theorem wX12_load_B115 {p : Program} {l : Launch} {e : Env} {s : State} {m : MethodId} {args : Array Value} {below : List Frame} {meth : Method} {c : Code} {D : va_G} {dA : Nat → ClassId} {ad : Nat → Nat} {sz : Nat}  {K : Int → zSt → Prop} (hC : zC p m c cX12_load 3 s args (Cond.code yX12_load cX12_load 3 (some .int) :: UW) RX12 meth D vwCl (tyA dA) (zA ad NM sz) NM ad (celM ad dA)) (hE : zE zX0 (zA ad NM sz) s s.heap) (hr : meth.sig.returnType = (some .int)) (hinj : ∀ i j, i < NM → j < NM → ad i = ad j → i = j) {σ : zSt} (hf : fX12_load_B115 K σ ) : zAt p l e ({ frames := 6, cells := 0, slots := 0, locals := 132 } : Room) s m args below meth c 0 0 (MQ below (va_Qi (zPi K) (zB D vwCl (tyA dA) NM ad (celM ad dA)) (zA ad NM sz)) args s 0 0 (zA ad NM sz)) 3 D vwCl (zA ad NM sz) NM ad (celM ad dA) 115 [(0, vR ad 0)] [] σ := by
  refine z_aload_n hC dX12_load_115 0 rfl rfl ?_
  refine z_iconst hC dX12_load_116 ?_
  refine z_put hC (ty := .int) tyX12 tyX12_ok nmX12 (fun w h => uT _ w (uL12 w h)) (oM_12 (show kM 0 = 12 by decide)) (loM' (show kM 0 = 12 by decide) (by decide)) 6 (by decide) (uT _ _ u1551) rfl rfl (6) (0) (by simp [zu]) (by decide +kernel) rfl rfl (Nat.le_of_ble_eq_true rfl) dX12_load_117 ?_
  obtain ⟨σ16, eσ16⟩ : ∃ z : zSt, z = zu σ 0 6 0 := ⟨_, rfl⟩
  rw [← eσ16]
  replace hf := hf σ16 eσ16
  refine z_aload_n hC dX12_load_120 0 rfl rfl ?_
  refine z_get hC (fun w h => uT _ w (uL12 w h)) (oM_12 (show kM 0 = 12 by decide)) 13 (by decide) (uT _ _ u1558) rfl rfl dX12_load_121 ?_
  obtain ⟨g17, hf⟩ := hf
  refine z_if_eq (tgt := 132) hC dX12_load_124 (by decide) g17 (fun hc => ?_) (fun hc => ?_)
  · replace hf := hf.1 hc
    refine z_iconst hC dX12_load_132 ?_
    refine z_istore_n hC ([(2, vI 0), (0, vR ad 0)]) dX12_load_133 rfl (by decide) rfl ?_
    refine z_sub (lv' := [(0, vR ad 0), (2, vI 0)]) [1, 0] rfl ?_
    obtain ⟨n, hf⟩ := hf
    exact wX12_load_B134 hC hE hr hinj n _ _ hf
  · replace hf := hf.2 hc
    refine z_aload_n hC dX12_load_127 0 rfl rfl ?_
    refine z_get hC (fun w h => uT _ w (uL12 w h)) (oM_12 (show kM 0 = 12 by decide)) 13 (by decide) (uT _ _ u1558) rfl rfl dX12_load_128 ?_
    exact z_iret hC hr rfl dX12_load_131 hf
set_option maxHeartbeats 4000000 in
set_option maxRecDepth 100000 in
theorem wX12_load_B61 {p : Program} {l : Launch} {e : Env} {s : State} {m : MethodId} {args : Array Value} {below : List Frame} {meth : Method} {c : Code} {D : va_G} {dA : Nat → ClassId} {ad : Nat → Nat} {sz : Nat}  {K : Int → zSt → Prop} (hC : zC p m c cX12_load 3 s args (Cond.code yX12_load cX12_load 3 (some .int) :: UW) RX12 meth D vwCl (tyA dA) (zA ad NM sz) NM ad (celM ad dA)) (hE : zE zX0 (zA ad NM sz) s s.heap) (hr : meth.sig.returnType = (some .int)) (hinj : ∀ i j, i < NM → j < NM → ad i = ad j → i = j) : ∀ (n : Nat) (σ : zSt), fX12_load_B61 K n σ  → zAt p l e ({ frames := 6, cells := 0, slots := 0, locals := 132 } : Room) s m args below meth c 0 0 (MQ below (va_Qi (zPi K) (zB D vwCl (tyA dA) NM ad (celM ad dA)) (zA ad NM sz)) args s 0 0 (zA ad NM sz)) 3 D vwCl (zA ad NM sz) NM ad (celM ad dA) 61 [(0, vR ad 0)] [] σ := by
  intro n
  induction n with
  | zero => intro σ   hf; exact False.elim hf
  | succ n ih =>
    intro σ   hf
    rw [uX12_load_B61] at hf
    refine z_aload_n hC dX12_load_61 0 rfl rfl ?_
    refine z_get hC (fun w h => uT _ w (uL12 w h)) (oM_12 (show kM 0 = 12 by decide)) 13 (by decide) (uT _ _ u1558) rfl rfl dX12_load_62 ?_
    obtain ⟨g12, hf⟩ := hf
    refine z_if_ne (tgt := 115) hC dX12_load_65 (by decide) g12 (fun hc => ?_) (fun hc => ?_)
    · replace hf := hf.2 hc
      exact wX12_load_B115 hC hE hr hinj  hf
    · replace hf := hf.1 hc
      refine z_aload_n hC dX12_load_68 0 rfl rfl ?_
      refine z_get hC (fun w h => uT _ w (uL12 w h)) (oM_12 (show kM 0 = 12 by decide)) 10 (by decide) (uT _ _ u1555) rfl rfl dX12_load_69 ?_
      obtain ⟨g13, hf⟩ := hf
      refine z_if_eq (tgt := 115) hC dX12_load_72 (by decide) g13 (fun hc => ?_) (fun hc => ?_)
      · replace hf := hf.1 hc
        exact wX12_load_B115 hC hE hr hinj  hf
      · replace hf := hf.2 hc
        refine z_aload_n hC dX12_load_75 0 rfl rfl ?_
        refine z_callVv hC hE (oM_12 (show kM 0 = 12 by decide)) [] (fun sz2 => mX12_parseStatement l hinj sz2 hf) (cwV 0 hC.1.2.2.2.2 (uV (uT _) u1713 u1715 u42 u118 u1716) rfl rfl rfl (by decide +kernel) ⟨Nat.le_of_ble_eq_true rfl, Nat.le_of_ble_eq_true rfl⟩) rfl rfl (Nat.le_of_ble_eq_true rfl) ⟨Nat.le_of_ble_eq_true rfl, Nat.le_of_ble_eq_true rfl⟩ dX12_load_76 (fun σ14 hf => ?_)
        refine z_aload_n hC dX12_load_79 0 rfl rfl ?_
        refine z_aload_n hC dX12_load_80 0 rfl rfl ?_
        refine z_get hC (fun w h => uT _ w (uL12 w h)) (oM_12 (show kM 0 = 12 by decide)) 10 (by decide) (uT _ _ u1555) rfl rfl dX12_load_81 ?_
        refine z_iconst hC dX12_load_84 ?_
        obtain ⟨g15, hf⟩ := hf
        refine z_icmp_ne (tgt := 92) hC dX12_load_85 (by decide) g15 (zlit rfl rfl) (fun hc => ?_) (fun hc => ?_)
        · replace hf := hf.2 hc
          refine z_iconst hC dX12_load_92 ?_
          exact wX12_load_B93 hC hE hr hinj ih  hf
        · replace hf := hf.1 hc
          refine z_iconst hC dX12_load_88 ?_
          refine z_goto (tgt := 93) hC dX12_load_89 (by decide) ?_
          exact wX12_load_B93 hC hE hr hinj ih  hf
set_option maxHeartbeats 4000000 in
set_option maxRecDepth 100000 in
theorem mX12_load {D : va_G} {dA : Nat → ClassId} {ad : Nat → Nat}  (l : Launch) (hinj : ∀ i j, i < NM → j < NM → ad i = ad j → i = j) (sz : Nat) {K : Int → zSt → Prop} {σ : zSt} {x1 : Int} (hf : fX12_load K σ x1) : Met l yX12_load (Cond.code yX12_load cX12_load 3 (some .int) :: UW) ({ frames := 6, cells := 0, slots := 0, locals := 132 } : Room) (va_Pc [vR ad 0, vI x1] (zPre D vwCl (tyA dA) zX0 NM ad (celM ad dA) sz σ)) (va_Qi (zPi K) (zB D vwCl (tyA dA) NM ad (celM ad dA)) (zA ad NM sz)) 0 0 (zA ad NM sz) := by
  refine z_enter (cc := cX12_load) (maxL := 3) (ret := (some .int)) (vs := [vR ad 0, vI x1]) (plainFor_of_name (by decide)) rfl hinj (Nat.le_of_ble_eq_true rfl) ?_
  intro p e s m args below meth c hC hE hsz hr hnm
  show zAt p l e ({ frames := 6, cells := 0, slots := 0, locals := 132 } : Room) s m args below meth c 0 0 (MQ below (va_Qi (zPi K) (zB D vwCl (tyA dA) NM ad (celM ad dA)) (zA ad NM sz)) args s 0 0 (zA ad NM sz)) 3 D vwCl (zA ad NM sz) NM ad (celM ad dA) 0 [(0, vR ad 0), (1, vI x1)] [] σ
  refine z_aload_n hC dX12_load_0 0 rfl rfl ?_
  refine z_iconst hC dX12_load_1 ?_
  refine z_put hC (ty := .int) tyX12 tyX12_ok nmX12 (fun w h => uT _ w (uL12 w h)) (oM_12 (show kM 0 = 12 by decide)) (loM' (show kM 0 = 12 by decide) (by decide)) 4 (by decide) (uT _ _ u1549) rfl rfl (4) (0) (by simp [zu]) (by decide +kernel) rfl rfl (Nat.le_of_ble_eq_true rfl) dX12_load_2 ?_
  obtain ⟨σ1, eσ1⟩ : ∃ z : zSt, z = zu σ 0 4 0 := ⟨_, rfl⟩
  rw [← eσ1]
  replace hf := hf σ1 eσ1
  refine z_iload_n hC dX12_load_5 1 rfl rfl ?_
  refine z_iconst hC dX12_load_6 ?_
  refine z_aload_n hC dX12_load_7 0 rfl rfl ?_
  refine z_get hC (fun w h => uT _ w (uL12 w h)) (oM_12 (show kM 0 = 12 by decide)) 6 (by decide) (uT _ _ u1551) rfl rfl dX12_load_8 ?_
  refine z_callSi hC hE [vI x1, vI 0, vI (σ1 0 6)] (fun sz2 => mX12_inRange l hinj sz2 hf) (va_cwS 3 hC.1.2.2.2.2 (uS (uT _) u1700 u1701 u118 u1702) rfl rfl rfl (by decide +kernel) ⟨Nat.le_of_ble_eq_true rfl, Nat.le_of_ble_eq_true rfl⟩) rfl rfl (Nat.le_of_ble_eq_true rfl) ⟨Nat.le_of_ble_eq_true rfl, Nat.le_of_ble_eq_true rfl⟩ dX12_load_11 (fun r2 σ2 hf => ?_)
  obtain ⟨g3, hf⟩ := hf
  refine z_if_ne (tgt := 20) hC dX12_load_14 (by decide) g3 (fun hc => ?_) (fun hc => ?_)
  · replace hf := hf.2 hc
    refine z_aload_n hC dX12_load_20 0 rfl rfl ?_
    refine z_iload_n hC dX12_load_21 1 rfl rfl ?_
    refine z_put hC (ty := .int) tyX12 tyX12_ok nmX12 (fun w h => uT _ w (uL12 w h)) (oM_12 (show kM 0 = 12 by decide)) (loM' (show kM 0 = 12 by decide) (by decide)) 7 (by decide) (uT _ _ u1552) rfl rfl (7) (x1) (by simp [zu]) (by decide +kernel) rfl rfl (Nat.le_of_ble_eq_true rfl) dX12_load_22 ?_
    obtain ⟨σ4, eσ4⟩ : ∃ z : zSt, z = zu σ2 0 7 x1 := ⟨_, rfl⟩
    rw [← eσ4]
    replace hf := hf σ4 eσ4
    refine z_aload_n hC dX12_load_25 0 rfl rfl ?_
    refine z_iconst hC dX12_load_26 ?_
    refine z_put hC (ty := .int) tyX12 tyX12_ok nmX12 (fun w h => uT _ w (uL12 w h)) (oM_12 (show kM 0 = 12 by decide)) (loM' (show kM 0 = 12 by decide) (by decide)) 8 (by decide) (uT _ _ u1553) rfl rfl (8) (0) (by simp [zu]) (by decide +kernel) rfl rfl (Nat.le_of_ble_eq_true rfl) dX12_load_27 ?_
    obtain ⟨σ5, eσ5⟩ : ∃ z : zSt, z = zu σ4 0 8 0 := ⟨_, rfl⟩
    rw [← eσ5]
    replace hf := hf σ5 eσ5
    refine z_aload_n hC dX12_load_30 0 rfl rfl ?_
    refine z_iconst hC dX12_load_31 ?_
    refine z_put hC (ty := .int) tyX12 tyX12_ok nmX12 (fun w h => uT _ w (uL12 w h)) (oM_12 (show kM 0 = 12 by decide)) (loM' (show kM 0 = 12 by decide) (by decide)) 13 (by decide) (uT _ _ u1558) rfl rfl (13) (0) (by simp [zu]) (by decide +kernel) rfl rfl (Nat.le_of_ble_eq_true rfl) dX12_load_32 ?_
    obtain ⟨σ6, eσ6⟩ : ∃ z : zSt, z = zu σ5 0 13 0 := ⟨_, rfl⟩
    rw [← eσ6]
    replace hf := hf σ6 eσ6
    refine z_aload_n hC dX12_load_35 0 rfl rfl ?_
    refine z_iconst hC dX12_load_36 ?_
    refine z_put hC (ty := .int) tyX12 tyX12_ok nmX12 (fun w h => uT _ w (uL12 w h)) (oM_12 (show kM 0 = 12 by decide)) (loM' (show kM 0 = 12 by decide) (by decide)) 14 (by decide) (uT _ _ u1559) rfl rfl (14) ((-1)) (by simp [zu]) (by decide +kernel) rfl rfl (Nat.le_of_ble_eq_true rfl) dX12_load_37 ?_
    obtain ⟨σ7, eσ7⟩ : ∃ z : zSt, z = zu σ6 0 14 (-1) := ⟨_, rfl⟩
    rw [← eσ7]
    replace hf := hf σ7 eσ7
    refine z_aload_n hC dX12_load_40 0 rfl rfl ?_
    refine z_iconst hC dX12_load_41 ?_
    refine z_put hC (ty := .int) tyX12 tyX12_ok nmX12 (fun w h => uT _ w (uL12 w h)) (oM_12 (show kM 0 = 12 by decide)) (loM' (show kM 0 = 12 by decide) (by decide)) 15 (by decide) (uT _ _ u1560) rfl rfl (15) (0) (by simp [zu]) (by decide +kernel) rfl rfl (Nat.le_of_ble_eq_true rfl) dX12_load_42 ?_
    obtain ⟨σ8, eσ8⟩ : ∃ z : zSt, z = zu σ7 0 15 0 := ⟨_, rfl⟩
    rw [← eσ8]
    replace hf := hf σ8 eσ8
    refine z_aload_n hC dX12_load_45 0 rfl rfl ?_
    refine z_iconst hC dX12_load_46 ?_
    refine z_put hC (ty := .int) tyX12 tyX12_ok nmX12 (fun w h => uT _ w (uL12 w h)) (oM_12 (show kM 0 = 12 by decide)) (loM' (show kM 0 = 12 by decide) (by decide)) 16 (by decide) (uT _ _ u1561) rfl rfl (16) (0) (by simp [zu]) (by decide +kernel) rfl rfl (Nat.le_of_ble_eq_true rfl) dX12_load_47 ?_
    obtain ⟨σ9, eσ9⟩ : ∃ z : zSt, z = zu σ8 0 16 0 := ⟨_, rfl⟩
    rw [← eσ9]
    replace hf := hf σ9 eσ9
    refine z_aload_n hC dX12_load_50 0 rfl rfl ?_
    refine z_get hC (fun w h => uT _ w (uL12 w h)) (oM_12 (show kM 0 = 12 by decide)) 1 (by decide) (uT _ _ u1546) rfl rfl dX12_load_51 ?_
    refine z_callSv hC hE [vR ad 2] (fun sz2 => mX12_reset l hinj sz2 hf) (va_cwS 1 hC.1.2.2.2.2 (uS (uT _) u1542 u1543 u118 u1544) rfl rfl rfl (by decide +kernel) ⟨Nat.le_of_ble_eq_true rfl, Nat.le_of_ble_eq_true rfl⟩) rfl rfl (Nat.le_of_ble_eq_true rfl) ⟨Nat.le_of_ble_eq_true rfl, Nat.le_of_ble_eq_true rfl⟩ dX12_load_54 (fun σ10 hf => ?_)
    refine z_aload_n hC dX12_load_57 0 rfl rfl ?_
    refine z_callVv hC hE (oM_12 (show kM 0 = 12 by decide)) [] (fun sz2 => mX12_advance l hinj sz2 hf) (cwV 0 hC.1.2.2.2.2 (uV (uT _) u1703 u1705 u40 u118 u1706) rfl rfl rfl (by decide +kernel) ⟨Nat.le_of_ble_eq_true rfl, Nat.le_of_ble_eq_true rfl⟩) rfl rfl (Nat.le_of_ble_eq_true rfl) ⟨Nat.le_of_ble_eq_true rfl, Nat.le_of_ble_eq_true rfl⟩ dX12_load_58 (fun σ11 hf => ?_)
    refine z_sub (lv' := [(0, vR ad 0)]) [0] rfl ?_
    obtain ⟨n, hf⟩ := hf
    exact wX12_load_B61 hC hE hr hinj n _ hf
  · replace hf := hf.1 hc
    refine z_bipush hC dX12_load_17 (by decide) ?_
    exact z_iret hC hr rfl dX12_load_19 hf

-- ===== X12_fails
def fX12_fails (K : Int → zSt → Prop) (σ : zSt) (x1 : Int) : Prop :=
  zrg x1 ∧ ((x1 = 0 → ∀ σ2, σ2 = zu σ 0 4 1 → ((x1 = 0 → K 1 σ2) ∧ (¬ x1 = 0 → K 0 σ2))) ∧ (¬ x1 = 0 → ∀ σ3, σ3 = zu σ 0 4 0 → ((x1 = 0 → K 1 σ3) ∧ (¬ x1 = 0 → K 0 σ3))))
set_option maxHeartbeats 4000000 in
set_option maxRecDepth 100000 in
theorem mX12_fails {D : va_G} {dA : Nat → ClassId} {ad : Nat → Nat}  (l : Launch) (hinj : ∀ i j, i < NM → j < NM → ad i = ad j → i = j) (sz : Nat) {K : Int → zSt → Prop} {σ : zSt} {x1 : Int} (hf : fX12_fails K σ x1) : Met l yX12_fails (Cond.code yX12_fails cX12_fails 2 (some .boolean) :: UW) ({ frames := 0, cells := 0, slots := 0, locals := 0 } : Room) (va_Pc [vR ad 0, vI x1] (zPre D vwCl (tyA dA) zX0 NM ad (celM ad dA) sz σ)) (va_Qi (zPi K) (zB D vwCl (tyA dA) NM ad (celM ad dA)) (zA ad NM sz)) 0 0 (zA ad NM sz) := by
  refine z_enter (cc := cX12_fails) (maxL := 2) (ret := (some .boolean)) (vs := [vR ad 0, vI x1]) (plainFor_of_name (by decide)) rfl hinj (Nat.le_of_ble_eq_true rfl) ?_
  intro p e s m args below meth c hC hE hsz hr hnm
  show zAt p l e ({ frames := 0, cells := 0, slots := 0, locals := 0 } : Room) s m args below meth c 0 0 (MQ below (va_Qi (zPi K) (zB D vwCl (tyA dA) NM ad (celM ad dA)) (zA ad NM sz)) args s 0 0 (zA ad NM sz)) 2 D vwCl (zA ad NM sz) NM ad (celM ad dA) 0 [(0, vR ad 0), (1, vI x1)] [] σ
  refine z_aload_n hC dX12_fails_0 0 rfl rfl ?_
  refine z_iload_n hC dX12_fails_1 1 rfl rfl ?_
  obtain ⟨g1, hf⟩ := hf
  refine z_if_eq (tgt := 9) hC dX12_fails_2 (by decide) g1 (fun hc => ?_) (fun hc => ?_)
  · replace hf := hf.1 hc
    refine z_iconst hC dX12_fails_9 ?_
    refine z_put hC (ty := .int) tyX12 tyX12_ok nmX12 (fun w h => uT _ w (uL12 w h)) (oM_12 (show kM 0 = 12 by decide)) (loM' (show kM 0 = 12 by decide) (by decide)) 4 (by decide) (uT _ _ u1549) rfl rfl (4) (1) (by simp [zu]) (by decide +kernel) rfl rfl (Nat.le_of_ble_eq_true rfl) dX12_fails_10 ?_
    obtain ⟨σ2, eσ2⟩ : ∃ z : zSt, z = zu σ 0 4 1 := ⟨_, rfl⟩
    rw [← eσ2]
    replace hf := hf σ2 eσ2
    refine z_iload_n hC dX12_fails_13 1 rfl rfl ?_
    refine z_if_ne (tgt := 21) hC dX12_fails_14 (by decide) g1 (fun hc => ?_) (fun hc => ?_)
    · replace hf := hf.2 hc
      refine z_iconst hC dX12_fails_21 ?_
      exact z_bret hC hr rfl dX12_fails_22 (Or.inl rfl) hf
    · replace hf := hf.1 hc
      refine z_iconst hC dX12_fails_17 ?_
      refine z_goto (tgt := 22) hC dX12_fails_18 (by decide) ?_
      exact z_bret hC hr rfl dX12_fails_22 (Or.inr rfl) hf
  · replace hf := hf.2 hc
    refine z_iconst hC dX12_fails_5 ?_
    refine z_goto (tgt := 10) hC dX12_fails_6 (by decide) ?_
    refine z_put hC (ty := .int) tyX12 tyX12_ok nmX12 (fun w h => uT _ w (uL12 w h)) (oM_12 (show kM 0 = 12 by decide)) (loM' (show kM 0 = 12 by decide) (by decide)) 4 (by decide) (uT _ _ u1549) rfl rfl (4) (0) (by simp [zu]) (by decide +kernel) rfl rfl (Nat.le_of_ble_eq_true rfl) dX12_fails_10 ?_
    obtain ⟨σ3, eσ3⟩ : ∃ z : zSt, z = zu σ 0 4 0 := ⟨_, rfl⟩
    rw [← eσ3]
    replace hf := hf σ3 eσ3
    refine z_iload_n hC dX12_fails_13 1 rfl rfl ?_
    refine z_if_ne (tgt := 21) hC dX12_fails_14 (by decide) g1 (fun hc => ?_) (fun hc => ?_)
    · replace hf := hf.2 hc
      refine z_iconst hC dX12_fails_21 ?_
      exact z_bret hC hr rfl dX12_fails_22 (Or.inl rfl) hf
    · replace hf := hf.1 hc
      refine z_iconst hC dX12_fails_17 ?_
      refine z_goto (tgt := 22) hC dX12_fails_18 (by decide) ?_
      exact z_bret hC hr rfl dX12_fails_22 (Or.inr rfl) hf

-- ===== X12_counted
def fX12_counted (K : Int → zSt → Prop) (σ : zSt) (x1 : Int) : Prop :=
  ∀ σ1, σ1 = zu σ 0 4 0 → (0 ≤ x1 ∧ x1 < 811) ∧ K (σ1 1 x1) σ1
set_option maxHeartbeats 4000000 in
set_option maxRecDepth 100000 in
theorem mX12_counted {D : va_G} {dA : Nat → ClassId} {ad : Nat → Nat}  (l : Launch) (hinj : ∀ i j, i < NM → j < NM → ad i = ad j → i = j) (sz : Nat) {K : Int → zSt → Prop} {σ : zSt} {x1 : Int} (hf : fX12_counted K σ x1) : Met l yX12_counted (Cond.code yX12_counted cX12_counted 2 (some .int) :: UW) ({ frames := 0, cells := 0, slots := 0, locals := 0 } : Room) (va_Pc [vR ad 0, vI x1] (zPre D vwCl (tyA dA) zX0 NM ad (celM ad dA) sz σ)) (va_Qi (zPi K) (zB D vwCl (tyA dA) NM ad (celM ad dA)) (zA ad NM sz)) 0 0 (zA ad NM sz) := by
  refine z_enter (cc := cX12_counted) (maxL := 2) (ret := (some .int)) (vs := [vR ad 0, vI x1]) (plainFor_of_name (by decide)) rfl hinj (Nat.le_of_ble_eq_true rfl) ?_
  intro p e s m args below meth c hC hE hsz hr hnm
  show zAt p l e ({ frames := 0, cells := 0, slots := 0, locals := 0 } : Room) s m args below meth c 0 0 (MQ below (va_Qi (zPi K) (zB D vwCl (tyA dA) NM ad (celM ad dA)) (zA ad NM sz)) args s 0 0 (zA ad NM sz)) 2 D vwCl (zA ad NM sz) NM ad (celM ad dA) 0 [(0, vR ad 0), (1, vI x1)] [] σ
  refine z_aload_n hC dX12_counted_0 0 rfl rfl ?_
  refine z_iconst hC dX12_counted_1 ?_
  refine z_put hC (ty := .int) tyX12 tyX12_ok nmX12 (fun w h => uT _ w (uL12 w h)) (oM_12 (show kM 0 = 12 by decide)) (loM' (show kM 0 = 12 by decide) (by decide)) 4 (by decide) (uT _ _ u1549) rfl rfl (4) (0) (by simp [zu]) (by decide +kernel) rfl rfl (Nat.le_of_ble_eq_true rfl) dX12_counted_2 ?_
  obtain ⟨σ1, eσ1⟩ : ∃ z : zSt, z = zu σ 0 4 0 := ⟨_, rfl⟩
  rw [← eσ1]
  replace hf := hf σ1 eσ1
  refine z_aload_n hC dX12_counted_5 0 rfl rfl ?_
  refine z_get hC (fun w h => uT _ w (uL12 w h)) (oM_12 (show kM 0 = 12 by decide)) 0 (by decide) (uT _ _ u1545) rfl rfl dX12_counted_6 ?_
  refine z_iload_n hC dX12_counted_9 1 rfl rfl ?_
  obtain ⟨g2, hf⟩ := hf
  refine z_iaload hC (aM_30 (show kM 1 = 30 by decide)) g2 dX12_counted_10 ?_
  exact z_iret hC hr rfl dX12_counted_11 hf

-- ===== X12_width
def fX12_width (K : Int → zSt → Prop) (σ : zSt) : Prop :=
  fX12_counted (fun r1 σ1 => K r1 σ1) σ 0
set_option maxHeartbeats 4000000 in
set_option maxRecDepth 100000 in
theorem mX12_width {D : va_G} {dA : Nat → ClassId} {ad : Nat → Nat}  (l : Launch) (hinj : ∀ i j, i < NM → j < NM → ad i = ad j → i = j) (sz : Nat) {K : Int → zSt → Prop} {σ : zSt} (hf : fX12_width K σ ) : Met l yX12_width (Cond.code yX12_width cX12_width 1 (some .int) :: UW) ({ frames := 1, cells := 0, slots := 0, locals := 21 } : Room) (va_Pc [vR ad 0] (zPre D vwCl (tyA dA) zX0 NM ad (celM ad dA) sz σ)) (va_Qi (zPi K) (zB D vwCl (tyA dA) NM ad (celM ad dA)) (zA ad NM sz)) 0 0 (zA ad NM sz) := by
  refine z_enter (cc := cX12_width) (maxL := 1) (ret := (some .int)) (vs := [vR ad 0]) (plainFor_of_name (by decide)) rfl hinj (Nat.le_of_ble_eq_true rfl) ?_
  intro p e s m args below meth c hC hE hsz hr hnm
  show zAt p l e ({ frames := 1, cells := 0, slots := 0, locals := 21 } : Room) s m args below meth c 0 0 (MQ below (va_Qi (zPi K) (zB D vwCl (tyA dA) NM ad (celM ad dA)) (zA ad NM sz)) args s 0 0 (zA ad NM sz)) 1 D vwCl (zA ad NM sz) NM ad (celM ad dA) 0 [(0, vR ad 0)] [] σ
  refine z_aload_n hC dX12_width_0 0 rfl rfl ?_
  refine z_iconst hC dX12_width_1 ?_
  refine z_callVi hC hE (oM_12 (show kM 0 = 12 by decide)) [vI 0] (fun sz2 => mX12_counted l hinj sz2 hf) (cwV 1 hC.1.2.2.2.2 (uV (uT _) u1785 u1787 u54 u118 u1788) rfl rfl rfl (by decide +kernel) ⟨Nat.le_of_ble_eq_true rfl, Nat.le_of_ble_eq_true rfl⟩) rfl rfl (Nat.le_of_ble_eq_true rfl) ⟨Nat.le_of_ble_eq_true rfl, Nat.le_of_ble_eq_true rfl⟩ dX12_width_2 (fun r1 σ1 hf => ?_)
  exact z_iret hC hr rfl dX12_width_5 hf

-- ===== X12_height
def fX12_height (K : Int → zSt → Prop) (σ : zSt) : Prop :=
  fX12_counted (fun r1 σ1 => K r1 σ1) σ 1
set_option maxHeartbeats 4000000 in
set_option maxRecDepth 100000 in
theorem mX12_height {D : va_G} {dA : Nat → ClassId} {ad : Nat → Nat}  (l : Launch) (hinj : ∀ i j, i < NM → j < NM → ad i = ad j → i = j) (sz : Nat) {K : Int → zSt → Prop} {σ : zSt} (hf : fX12_height K σ ) : Met l yX12_height (Cond.code yX12_height cX12_height 1 (some .int) :: UW) ({ frames := 1, cells := 0, slots := 0, locals := 21 } : Room) (va_Pc [vR ad 0] (zPre D vwCl (tyA dA) zX0 NM ad (celM ad dA) sz σ)) (va_Qi (zPi K) (zB D vwCl (tyA dA) NM ad (celM ad dA)) (zA ad NM sz)) 0 0 (zA ad NM sz) := by
  refine z_enter (cc := cX12_height) (maxL := 1) (ret := (some .int)) (vs := [vR ad 0]) (plainFor_of_name (by decide)) rfl hinj (Nat.le_of_ble_eq_true rfl) ?_
  intro p e s m args below meth c hC hE hsz hr hnm
  show zAt p l e ({ frames := 1, cells := 0, slots := 0, locals := 21 } : Room) s m args below meth c 0 0 (MQ below (va_Qi (zPi K) (zB D vwCl (tyA dA) NM ad (celM ad dA)) (zA ad NM sz)) args s 0 0 (zA ad NM sz)) 1 D vwCl (zA ad NM sz) NM ad (celM ad dA) 0 [(0, vR ad 0)] [] σ
  refine z_aload_n hC dX12_height_0 0 rfl rfl ?_
  refine z_iconst hC dX12_height_1 ?_
  refine z_callVi hC hE (oM_12 (show kM 0 = 12 by decide)) [vI 1] (fun sz2 => mX12_counted l hinj sz2 hf) (cwV 1 hC.1.2.2.2.2 (uV (uT _) u1785 u1787 u54 u118 u1788) rfl rfl rfl (by decide +kernel) ⟨Nat.le_of_ble_eq_true rfl, Nat.le_of_ble_eq_true rfl⟩) rfl rfl (Nat.le_of_ble_eq_true rfl) ⟨Nat.le_of_ble_eq_true rfl, Nat.le_of_ble_eq_true rfl⟩ dX12_height_2 (fun r1 σ1 hf => ?_)
  exact z_iret hC hr rfl dX12_height_5 hf

-- ===== X12_frameCount
def fX12_frameCount (K : Int → zSt → Prop) (σ : zSt) : Prop :=
  fX12_counted (fun r1 σ1 => K r1 σ1) σ 2
set_option maxHeartbeats 4000000 in
set_option maxRecDepth 100000 in
theorem mX12_frameCount {D : va_G} {dA : Nat → ClassId} {ad : Nat → Nat}  (l : Launch) (hinj : ∀ i j, i < NM → j < NM → ad i = ad j → i = j) (sz : Nat) {K : Int → zSt → Prop} {σ : zSt} (hf : fX12_frameCount K σ ) : Met l yX12_frameCount (Cond.code yX12_frameCount cX12_frameCount 1 (some .int) :: UW) ({ frames := 1, cells := 0, slots := 0, locals := 21 } : Room) (va_Pc [vR ad 0] (zPre D vwCl (tyA dA) zX0 NM ad (celM ad dA) sz σ)) (va_Qi (zPi K) (zB D vwCl (tyA dA) NM ad (celM ad dA)) (zA ad NM sz)) 0 0 (zA ad NM sz) := by
  refine z_enter (cc := cX12_frameCount) (maxL := 1) (ret := (some .int)) (vs := [vR ad 0]) (plainFor_of_name (by decide)) rfl hinj (Nat.le_of_ble_eq_true rfl) ?_
  intro p e s m args below meth c hC hE hsz hr hnm
  show zAt p l e ({ frames := 1, cells := 0, slots := 0, locals := 21 } : Room) s m args below meth c 0 0 (MQ below (va_Qi (zPi K) (zB D vwCl (tyA dA) NM ad (celM ad dA)) (zA ad NM sz)) args s 0 0 (zA ad NM sz)) 1 D vwCl (zA ad NM sz) NM ad (celM ad dA) 0 [(0, vR ad 0)] [] σ
  refine z_aload_n hC dX12_frameCount_0 0 rfl rfl ?_
  refine z_iconst hC dX12_frameCount_1 ?_
  refine z_callVi hC hE (oM_12 (show kM 0 = 12 by decide)) [vI 2] (fun sz2 => mX12_counted l hinj sz2 hf) (cwV 1 hC.1.2.2.2.2 (uV (uT _) u1785 u1787 u54 u118 u1788) rfl rfl rfl (by decide +kernel) ⟨Nat.le_of_ble_eq_true rfl, Nat.le_of_ble_eq_true rfl⟩) rfl rfl (Nat.le_of_ble_eq_true rfl) ⟨Nat.le_of_ble_eq_true rfl, Nat.le_of_ble_eq_true rfl⟩ dX12_frameCount_2 (fun r1 σ1 hf => ?_)
  exact z_iret hC hr rfl dX12_frameCount_5 hf

-- ===== X12_controlCount
def fX12_controlCount (K : Int → zSt → Prop) (σ : zSt) : Prop :=
  fX12_counted (fun r1 σ1 => K r1 σ1) σ 3
set_option maxHeartbeats 4000000 in
set_option maxRecDepth 100000 in
theorem mX12_controlCount {D : va_G} {dA : Nat → ClassId} {ad : Nat → Nat}  (l : Launch) (hinj : ∀ i j, i < NM → j < NM → ad i = ad j → i = j) (sz : Nat) {K : Int → zSt → Prop} {σ : zSt} (hf : fX12_controlCount K σ ) : Met l yX12_controlCount (Cond.code yX12_controlCount cX12_controlCount 1 (some .int) :: UW) ({ frames := 1, cells := 0, slots := 0, locals := 21 } : Room) (va_Pc [vR ad 0] (zPre D vwCl (tyA dA) zX0 NM ad (celM ad dA) sz σ)) (va_Qi (zPi K) (zB D vwCl (tyA dA) NM ad (celM ad dA)) (zA ad NM sz)) 0 0 (zA ad NM sz) := by
  refine z_enter (cc := cX12_controlCount) (maxL := 1) (ret := (some .int)) (vs := [vR ad 0]) (plainFor_of_name (by decide)) rfl hinj (Nat.le_of_ble_eq_true rfl) ?_
  intro p e s m args below meth c hC hE hsz hr hnm
  show zAt p l e ({ frames := 1, cells := 0, slots := 0, locals := 21 } : Room) s m args below meth c 0 0 (MQ below (va_Qi (zPi K) (zB D vwCl (tyA dA) NM ad (celM ad dA)) (zA ad NM sz)) args s 0 0 (zA ad NM sz)) 1 D vwCl (zA ad NM sz) NM ad (celM ad dA) 0 [(0, vR ad 0)] [] σ
  refine z_aload_n hC dX12_controlCount_0 0 rfl rfl ?_
  refine z_iconst hC dX12_controlCount_1 ?_
  refine z_callVi hC hE (oM_12 (show kM 0 = 12 by decide)) [vI 3] (fun sz2 => mX12_counted l hinj sz2 hf) (cwV 1 hC.1.2.2.2.2 (uV (uT _) u1785 u1787 u54 u118 u1788) rfl rfl rfl (by decide +kernel) ⟨Nat.le_of_ble_eq_true rfl, Nat.le_of_ble_eq_true rfl⟩) rfl rfl (Nat.le_of_ble_eq_true rfl) ⟨Nat.le_of_ble_eq_true rfl, Nat.le_of_ble_eq_true rfl⟩ dX12_controlCount_2 (fun r1 σ1 hf => ?_)
  exact z_iret hC hr rfl dX12_controlCount_5 hf

-- ===== X12_featureCount
def fX12_featureCount (K : Int → zSt → Prop) (σ : zSt) : Prop :=
  fX12_counted (fun r1 σ1 => K r1 σ1) σ 4
set_option maxHeartbeats 4000000 in
set_option maxRecDepth 100000 in
theorem mX12_featureCount {D : va_G} {dA : Nat → ClassId} {ad : Nat → Nat}  (l : Launch) (hinj : ∀ i j, i < NM → j < NM → ad i = ad j → i = j) (sz : Nat) {K : Int → zSt → Prop} {σ : zSt} (hf : fX12_featureCount K σ ) : Met l yX12_featureCount (Cond.code yX12_featureCount cX12_featureCount 1 (some .int) :: UW) ({ frames := 1, cells := 0, slots := 0, locals := 21 } : Room) (va_Pc [vR ad 0] (zPre D vwCl (tyA dA) zX0 NM ad (celM ad dA) sz σ)) (va_Qi (zPi K) (zB D vwCl (tyA dA) NM ad (celM ad dA)) (zA ad NM sz)) 0 0 (zA ad NM sz) := by
  refine z_enter (cc := cX12_featureCount) (maxL := 1) (ret := (some .int)) (vs := [vR ad 0]) (plainFor_of_name (by decide)) rfl hinj (Nat.le_of_ble_eq_true rfl) ?_
  intro p e s m args below meth c hC hE hsz hr hnm
  show zAt p l e ({ frames := 1, cells := 0, slots := 0, locals := 21 } : Room) s m args below meth c 0 0 (MQ below (va_Qi (zPi K) (zB D vwCl (tyA dA) NM ad (celM ad dA)) (zA ad NM sz)) args s 0 0 (zA ad NM sz)) 1 D vwCl (zA ad NM sz) NM ad (celM ad dA) 0 [(0, vR ad 0)] [] σ
  refine z_aload_n hC dX12_featureCount_0 0 rfl rfl ?_
  refine z_iconst hC dX12_featureCount_1 ?_
  refine z_callVi hC hE (oM_12 (show kM 0 = 12 by decide)) [vI 4] (fun sz2 => mX12_counted l hinj sz2 hf) (cwV 1 hC.1.2.2.2.2 (uV (uT _) u1785 u1787 u54 u118 u1788) rfl rfl rfl (by decide +kernel) ⟨Nat.le_of_ble_eq_true rfl, Nat.le_of_ble_eq_true rfl⟩) rfl rfl (Nat.le_of_ble_eq_true rfl) ⟨Nat.le_of_ble_eq_true rfl, Nat.le_of_ble_eq_true rfl⟩ dX12_featureCount_2 (fun r1 σ1 hf => ?_)
  exact z_iret hC hr rfl dX12_featureCount_5 hf

-- ===== X12_stakeCount
def fX12_stakeCount (K : Int → zSt → Prop) (σ : zSt) : Prop :=
  fX12_counted (fun r1 σ1 => K r1 σ1) σ 5
set_option maxHeartbeats 4000000 in
set_option maxRecDepth 100000 in
theorem mX12_stakeCount {D : va_G} {dA : Nat → ClassId} {ad : Nat → Nat}  (l : Launch) (hinj : ∀ i j, i < NM → j < NM → ad i = ad j → i = j) (sz : Nat) {K : Int → zSt → Prop} {σ : zSt} (hf : fX12_stakeCount K σ ) : Met l yX12_stakeCount (Cond.code yX12_stakeCount cX12_stakeCount 1 (some .int) :: UW) ({ frames := 1, cells := 0, slots := 0, locals := 21 } : Room) (va_Pc [vR ad 0] (zPre D vwCl (tyA dA) zX0 NM ad (celM ad dA) sz σ)) (va_Qi (zPi K) (zB D vwCl (tyA dA) NM ad (celM ad dA)) (zA ad NM sz)) 0 0 (zA ad NM sz) := by
  refine z_enter (cc := cX12_stakeCount) (maxL := 1) (ret := (some .int)) (vs := [vR ad 0]) (plainFor_of_name (by decide)) rfl hinj (Nat.le_of_ble_eq_true rfl) ?_
  intro p e s m args below meth c hC hE hsz hr hnm
  show zAt p l e ({ frames := 1, cells := 0, slots := 0, locals := 21 } : Room) s m args below meth c 0 0 (MQ below (va_Qi (zPi K) (zB D vwCl (tyA dA) NM ad (celM ad dA)) (zA ad NM sz)) args s 0 0 (zA ad NM sz)) 1 D vwCl (zA ad NM sz) NM ad (celM ad dA) 0 [(0, vR ad 0)] [] σ
  refine z_aload_n hC dX12_stakeCount_0 0 rfl rfl ?_
  refine z_iconst hC dX12_stakeCount_1 ?_
  refine z_callVi hC hE (oM_12 (show kM 0 = 12 by decide)) [vI 5] (fun sz2 => mX12_counted l hinj sz2 hf) (cwV 1 hC.1.2.2.2.2 (uV (uT _) u1785 u1787 u54 u118 u1788) rfl rfl rfl (by decide +kernel) ⟨Nat.le_of_ble_eq_true rfl, Nat.le_of_ble_eq_true rfl⟩) rfl rfl (Nat.le_of_ble_eq_true rfl) ⟨Nat.le_of_ble_eq_true rfl, Nat.le_of_ble_eq_true rfl⟩ dX12_stakeCount_2 (fun r1 σ1 hf => ?_)
  exact z_iret hC hr rfl dX12_stakeCount_5 hf

-- ===== X12_setting
def fX12_setting (K : Int → zSt → Prop) (σ : zSt) (x1 : Int) : Prop :=
  (0 ≤ 83 + x1 ∧ 83 + x1 < 811) ∧ K (σ 1 (83 + x1)) σ
set_option maxHeartbeats 4000000 in
set_option maxRecDepth 100000 in
theorem mX12_setting {D : va_G} {dA : Nat → ClassId} {ad : Nat → Nat}  (l : Launch) (hinj : ∀ i j, i < NM → j < NM → ad i = ad j → i = j) (sz : Nat) {K : Int → zSt → Prop} {σ : zSt} {x1 : Int} (hf : fX12_setting K σ x1) : Met l yX12_setting (Cond.code yX12_setting cX12_setting 2 (some .int) :: UW) ({ frames := 0, cells := 0, slots := 0, locals := 0 } : Room) (va_Pc [vR ad 0, vI x1] (zPre D vwCl (tyA dA) zX0 NM ad (celM ad dA) sz σ)) (va_Qi (zPi K) (zB D vwCl (tyA dA) NM ad (celM ad dA)) (zA ad NM sz)) 0 0 (zA ad NM sz) := by
  refine z_enter (cc := cX12_setting) (maxL := 2) (ret := (some .int)) (vs := [vR ad 0, vI x1]) (plainFor_of_name (by decide)) rfl hinj (Nat.le_of_ble_eq_true rfl) ?_
  intro p e s m args below meth c hC hE hsz hr hnm
  show zAt p l e ({ frames := 0, cells := 0, slots := 0, locals := 0 } : Room) s m args below meth c 0 0 (MQ below (va_Qi (zPi K) (zB D vwCl (tyA dA) NM ad (celM ad dA)) (zA ad NM sz)) args s 0 0 (zA ad NM sz)) 2 D vwCl (zA ad NM sz) NM ad (celM ad dA) 0 [(0, vR ad 0), (1, vI x1)] [] σ
  refine z_aload_n hC dX12_setting_0 0 rfl rfl ?_
  refine z_get hC (fun w h => uT _ w (uL12 w h)) (oM_12 (show kM 0 = 12 by decide)) 0 (by decide) (uT _ _ u1545) rfl rfl dX12_setting_1 ?_
  refine z_bipush hC dX12_setting_4 (by decide) ?_
  refine z_iload_n hC dX12_setting_6 1 rfl rfl ?_
  refine z_iadd hC dX12_setting_7 ?_
  obtain ⟨g1, hf⟩ := hf
  refine z_iaload hC (aM_30 (show kM 1 = 30 by decide)) g1 dX12_setting_8 ?_
  exact z_iret hC hr rfl dX12_setting_9 hf

-- ===== X12_getSetting
def fX12_getSetting (K : Int → zSt → Prop) (σ : zSt) (x1 : Int) : Prop :=
  ∀ σ1, σ1 = zu σ 0 4 0 → fX12_inRange (fun r2 σ2 => zrg r2 ∧ ((r2 = 0 → K (-2) σ2) ∧ (¬ r2 = 0 → fX12_setting (fun r4 σ4 => K r4 σ4) σ2 x1))) σ1 x1 0 7
set_option maxHeartbeats 4000000 in
set_option maxRecDepth 100000 in
theorem mX12_getSetting {D : va_G} {dA : Nat → ClassId} {ad : Nat → Nat}  (l : Launch) (hinj : ∀ i j, i < NM → j < NM → ad i = ad j → i = j) (sz : Nat) {K : Int → zSt → Prop} {σ : zSt} {x1 : Int} (hf : fX12_getSetting K σ x1) : Met l yX12_getSetting (Cond.code yX12_getSetting cX12_getSetting 2 (some .int) :: UW) ({ frames := 1, cells := 0, slots := 0, locals := 22 } : Room) (va_Pc [vR ad 0, vI x1] (zPre D vwCl (tyA dA) zX0 NM ad (celM ad dA) sz σ)) (va_Qi (zPi K) (zB D vwCl (tyA dA) NM ad (celM ad dA)) (zA ad NM sz)) 0 0 (zA ad NM sz) := by
  refine z_enter (cc := cX12_getSetting) (maxL := 2) (ret := (some .int)) (vs := [vR ad 0, vI x1]) (plainFor_of_name (by decide)) rfl hinj (Nat.le_of_ble_eq_true rfl) ?_
  intro p e s m args below meth c hC hE hsz hr hnm
  show zAt p l e ({ frames := 1, cells := 0, slots := 0, locals := 22 } : Room) s m args below meth c 0 0 (MQ below (va_Qi (zPi K) (zB D vwCl (tyA dA) NM ad (celM ad dA)) (zA ad NM sz)) args s 0 0 (zA ad NM sz)) 2 D vwCl (zA ad NM sz) NM ad (celM ad dA) 0 [(0, vR ad 0), (1, vI x1)] [] σ
  refine z_aload_n hC dX12_getSetting_0 0 rfl rfl ?_
  refine z_iconst hC dX12_getSetting_1 ?_
  refine z_put hC (ty := .int) tyX12 tyX12_ok nmX12 (fun w h => uT _ w (uL12 w h)) (oM_12 (show kM 0 = 12 by decide)) (loM' (show kM 0 = 12 by decide) (by decide)) 4 (by decide) (uT _ _ u1549) rfl rfl (4) (0) (by simp [zu]) (by decide +kernel) rfl rfl (Nat.le_of_ble_eq_true rfl) dX12_getSetting_2 ?_
  obtain ⟨σ1, eσ1⟩ : ∃ z : zSt, z = zu σ 0 4 0 := ⟨_, rfl⟩
  rw [← eσ1]
  replace hf := hf σ1 eσ1
  refine z_iload_n hC dX12_getSetting_5 1 rfl rfl ?_
  refine z_iconst hC dX12_getSetting_6 ?_
  refine z_bipush hC dX12_getSetting_7 (by decide) ?_
  refine z_callSi hC hE [vI x1, vI 0, vI 7] (fun sz2 => mX12_inRange l hinj sz2 hf) (va_cwS 3 hC.1.2.2.2.2 (uS (uT _) u1700 u1701 u118 u1702) rfl rfl rfl (by decide +kernel) ⟨Nat.le_of_ble_eq_true rfl, Nat.le_of_ble_eq_true rfl⟩) rfl rfl (Nat.le_of_ble_eq_true rfl) ⟨Nat.le_of_ble_eq_true rfl, Nat.le_of_ble_eq_true rfl⟩ dX12_getSetting_9 (fun r2 σ2 hf => ?_)
  obtain ⟨g3, hf⟩ := hf
  refine z_if_eq (tgt := 23) hC dX12_getSetting_12 (by decide) g3 (fun hc => ?_) (fun hc => ?_)
  · replace hf := hf.1 hc
    refine z_bipush hC dX12_getSetting_23 (by decide) ?_
    exact z_iret hC hr rfl dX12_getSetting_25 hf
  · replace hf := hf.2 hc
    refine z_aload_n hC dX12_getSetting_15 0 rfl rfl ?_
    refine z_iload_n hC dX12_getSetting_16 1 rfl rfl ?_
    refine z_callVi hC hE (oM_12 (show kM 0 = 12 by decide)) [vI x1] (fun sz2 => mX12_setting l hinj sz2 hf) (cwV 1 hC.1.2.2.2.2 (uV (uT _) u1813 u1815 u55 u118 u1816) rfl rfl rfl (by decide +kernel) ⟨Nat.le_of_ble_eq_true rfl, Nat.le_of_ble_eq_true rfl⟩) rfl rfl (Nat.le_of_ble_eq_true rfl) ⟨Nat.le_of_ble_eq_true rfl, Nat.le_of_ble_eq_true rfl⟩ dX12_getSetting_17 (fun r4 σ4 hf => ?_)
    refine z_goto (tgt := 25) hC dX12_getSetting_20 (by decide) ?_
    exact z_iret hC hr rfl dX12_getSetting_25 hf

-- ===== X12_setSetting
def fX12_setSetting (K : Int → zSt → Prop) (σ : zSt) (x1 : Int) (x2 : Int) : Prop :=
  ∀ σ1, σ1 = zu σ 0 4 0 → fX12_inRange (fun r2 σ2 => zrg r2 ∧ ((r2 = 0 → K (-2) σ2) ∧ (¬ r2 = 0 → fX12_leastOf (fun r4 σ4 => fX12_mostOf (fun r5 σ5 => fX12_inRange (fun r6 σ6 => zrg r6 ∧ ((r6 = 0 → K (-2) σ6) ∧ (¬ r6 = 0 → fX12_remember (fun σ8 => fX12_setting (fun r9 σ9 => (0 ≤ 83 + x1 ∧ 83 + x1 < 811) ∧ ∀ σ11, σ11 = zu σ9 1 (83 + x1) x2 → K r9 σ11) σ8 x1) σ6 ))) σ5 x2 r4 r5) σ4 x1) σ2 x1))) σ1 x1 0 7
set_option maxHeartbeats 4000000 in
set_option maxRecDepth 100000 in
theorem mX12_setSetting {D : va_G} {dA : Nat → ClassId} {ad : Nat → Nat}  (l : Launch) (hinj : ∀ i j, i < NM → j < NM → ad i = ad j → i = j) (sz : Nat) {K : Int → zSt → Prop} {σ : zSt} {x1 : Int} {x2 : Int} (hf : fX12_setSetting K σ x1 x2) : Met l yX12_setSetting (Cond.code yX12_setSetting cX12_setSetting 4 (some .int) :: UW) ({ frames := 1, cells := 0, slots := 0, locals := 22 } : Room) (va_Pc [vR ad 0, vI x1, vI x2] (zPre D vwCl (tyA dA) zX0 NM ad (celM ad dA) sz σ)) (va_Qi (zPi K) (zB D vwCl (tyA dA) NM ad (celM ad dA)) (zA ad NM sz)) 0 0 (zA ad NM sz) := by
  refine z_enter (cc := cX12_setSetting) (maxL := 4) (ret := (some .int)) (vs := [vR ad 0, vI x1, vI x2]) (plainFor_of_name (by decide)) rfl hinj (Nat.le_of_ble_eq_true rfl) ?_
  intro p e s m args below meth c hC hE hsz hr hnm
  show zAt p l e ({ frames := 1, cells := 0, slots := 0, locals := 22 } : Room) s m args below meth c 0 0 (MQ below (va_Qi (zPi K) (zB D vwCl (tyA dA) NM ad (celM ad dA)) (zA ad NM sz)) args s 0 0 (zA ad NM sz)) 4 D vwCl (zA ad NM sz) NM ad (celM ad dA) 0 [(0, vR ad 0), (1, vI x1), (2, vI x2)] [] σ
  refine z_aload_n hC dX12_setSetting_0 0 rfl rfl ?_
  refine z_iconst hC dX12_setSetting_1 ?_
  refine z_put hC (ty := .int) tyX12 tyX12_ok nmX12 (fun w h => uT _ w (uL12 w h)) (oM_12 (show kM 0 = 12 by decide)) (loM' (show kM 0 = 12 by decide) (by decide)) 4 (by decide) (uT _ _ u1549) rfl rfl (4) (0) (by simp [zu]) (by decide +kernel) rfl rfl (Nat.le_of_ble_eq_true rfl) dX12_setSetting_2 ?_
  obtain ⟨σ1, eσ1⟩ : ∃ z : zSt, z = zu σ 0 4 0 := ⟨_, rfl⟩
  rw [← eσ1]
  replace hf := hf σ1 eσ1
  refine z_iload_n hC dX12_setSetting_5 1 rfl rfl ?_
  refine z_iconst hC dX12_setSetting_6 ?_
  refine z_bipush hC dX12_setSetting_7 (by decide) ?_
  refine z_callSi hC hE [vI x1, vI 0, vI 7] (fun sz2 => mX12_inRange l hinj sz2 hf) (va_cwS 3 hC.1.2.2.2.2 (uS (uT _) u1700 u1701 u118 u1702) rfl rfl rfl (by decide +kernel) ⟨Nat.le_of_ble_eq_true rfl, Nat.le_of_ble_eq_true rfl⟩) rfl rfl (Nat.le_of_ble_eq_true rfl) ⟨Nat.le_of_ble_eq_true rfl, Nat.le_of_ble_eq_true rfl⟩ dX12_setSetting_9 (fun r2 σ2 hf => ?_)
  obtain ⟨g3, hf⟩ := hf
  refine z_if_eq (tgt := 30) hC dX12_setSetting_12 (by decide) g3 (fun hc => ?_) (fun hc => ?_)
  · replace hf := hf.1 hc
    refine z_bipush hC dX12_setSetting_30 (by decide) ?_
    exact z_iret hC hr rfl dX12_setSetting_32 hf
  · replace hf := hf.2 hc
    refine z_iload_n hC dX12_setSetting_15 2 rfl rfl ?_
    refine z_iload_n hC dX12_setSetting_16 1 rfl rfl ?_
    refine z_callSi hC hE [vI x1] (fun sz2 => mX12_leastOf l hinj sz2 hf) (va_cwS 1 hC.1.2.2.2.2 (uS (uT _) u1775 u1776 u118 u1777) rfl rfl rfl (by decide +kernel) ⟨Nat.le_of_ble_eq_true rfl, Nat.le_of_ble_eq_true rfl⟩) rfl rfl (Nat.le_of_ble_eq_true rfl) ⟨Nat.le_of_ble_eq_true rfl, Nat.le_of_ble_eq_true rfl⟩ dX12_setSetting_17 (fun r4 σ4 hf => ?_)
    refine z_iload_n hC dX12_setSetting_20 1 rfl rfl ?_
    refine z_callSi hC hE [vI x1] (fun sz2 => mX12_mostOf l hinj sz2 hf) (va_cwS 1 hC.1.2.2.2.2 (uS (uT _) u1778 u1779 u118 u1780) rfl rfl rfl (by decide +kernel) ⟨Nat.le_of_ble_eq_true rfl, Nat.le_of_ble_eq_true rfl⟩) rfl rfl (Nat.le_of_ble_eq_true rfl) ⟨Nat.le_of_ble_eq_true rfl, Nat.le_of_ble_eq_true rfl⟩ dX12_setSetting_21 (fun r5 σ5 hf => ?_)
    refine z_callSi hC hE [vI x2, vI r4, vI r5] (fun sz2 => mX12_inRange l hinj sz2 hf) (va_cwS 3 hC.1.2.2.2.2 (uS (uT _) u1700 u1701 u118 u1702) rfl rfl rfl (by decide +kernel) ⟨Nat.le_of_ble_eq_true rfl, Nat.le_of_ble_eq_true rfl⟩) rfl rfl (Nat.le_of_ble_eq_true rfl) ⟨Nat.le_of_ble_eq_true rfl, Nat.le_of_ble_eq_true rfl⟩ dX12_setSetting_24 (fun r6 σ6 hf => ?_)
    obtain ⟨g7, hf⟩ := hf
    refine z_if_ne (tgt := 33) hC dX12_setSetting_27 (by decide) g7 (fun hc => ?_) (fun hc => ?_)
    · replace hf := hf.2 hc
      refine z_aload_n hC dX12_setSetting_33 0 rfl rfl ?_
      refine z_callVv hC hE (oM_12 (show kM 0 = 12 by decide)) [] (fun sz2 => mX12_remember l hinj sz2 hf) (cwV 0 hC.1.2.2.2.2 (uV (uT _) u1821 u1823 u56 u118 u1824) rfl rfl rfl (by decide +kernel) ⟨Nat.le_of_ble_eq_true rfl, Nat.le_of_ble_eq_true rfl⟩) rfl rfl (Nat.le_of_ble_eq_true rfl) ⟨Nat.le_of_ble_eq_true rfl, Nat.le_of_ble_eq_true rfl⟩ dX12_setSetting_34 (fun σ8 hf => ?_)
      refine z_aload_n hC dX12_setSetting_37 0 rfl rfl ?_
      refine z_iload_n hC dX12_setSetting_38 1 rfl rfl ?_
      refine z_callVi hC hE (oM_12 (show kM 0 = 12 by decide)) [vI x1] (fun sz2 => mX12_setting l hinj sz2 hf) (cwV 1 hC.1.2.2.2.2 (uV (uT _) u1813 u1815 u55 u118 u1816) rfl rfl rfl (by decide +kernel) ⟨Nat.le_of_ble_eq_true rfl, Nat.le_of_ble_eq_true rfl⟩) rfl rfl (Nat.le_of_ble_eq_true rfl) ⟨Nat.le_of_ble_eq_true rfl, Nat.le_of_ble_eq_true rfl⟩ dX12_setSetting_39 (fun r9 σ9 hf => ?_)
      refine z_istore_n hC ([(3, vI r9), (0, vR ad 0), (1, vI x1), (2, vI x2)]) dX12_setSetting_42 rfl (by decide) rfl ?_
      refine z_aload_n hC dX12_setSetting_43 1 rfl rfl ?_
      refine z_get hC (fun w h => uT _ w (uL12 w h)) (oM_12 (show kM 0 = 12 by decide)) 0 (by decide) (uT _ _ u1545) rfl rfl dX12_setSetting_44 ?_
      refine z_bipush hC dX12_setSetting_47 (by decide) ?_
      refine z_iload_n hC dX12_setSetting_49 2 rfl rfl ?_
      refine z_iadd hC dX12_setSetting_50 ?_
      refine z_iload_n hC dX12_setSetting_51 3 rfl rfl ?_
      obtain ⟨g10, hf⟩ := hf
      refine z_iastore hC (aM_30 (show kM 1 = 30 by decide)) (loM' (show kM 1 = 30 by decide) (by decide)) g10 dX12_setSetting_52 ?_
      obtain ⟨σ11, eσ11⟩ : ∃ z : zSt, z = zu σ9 1 (83 + x1) x2 := ⟨_, rfl⟩
      rw [← eσ11]
      replace hf := hf σ11 eσ11
      refine z_iload_n hC dX12_setSetting_53 0 rfl rfl ?_
      exact z_iret hC hr rfl dX12_setSetting_54 hf
    · replace hf := hf.1 hc
      refine z_bipush hC dX12_setSetting_30 (by decide) ?_
      exact z_iret hC hr rfl dX12_setSetting_32 hf

-- ===== X12_isFrame
def fX12_isFrame (K : Int → zSt → Prop) (σ : zSt) (x1 : Int) : Prop :=
  fX12_inRange (fun r1 σ1 => (r1 = 0 ∨ r1 = 1) ∧ K r1 σ1) σ x1 0 ((σ 1 2) - 1)
set_option maxHeartbeats 4000000 in
set_option maxRecDepth 100000 in
theorem mX12_isFrame {D : va_G} {dA : Nat → ClassId} {ad : Nat → Nat}  (l : Launch) (hinj : ∀ i j, i < NM → j < NM → ad i = ad j → i = j) (sz : Nat) {K : Int → zSt → Prop} {σ : zSt} {x1 : Int} (hf : fX12_isFrame K σ x1) : Met l yX12_isFrame (Cond.code yX12_isFrame cX12_isFrame 2 (some .boolean) :: UW) ({ frames := 1, cells := 0, slots := 0, locals := 22 } : Room) (va_Pc [vR ad 0, vI x1] (zPre D vwCl (tyA dA) zX0 NM ad (celM ad dA) sz σ)) (va_Qi (zPi K) (zB D vwCl (tyA dA) NM ad (celM ad dA)) (zA ad NM sz)) 0 0 (zA ad NM sz) := by
  refine z_enter (cc := cX12_isFrame) (maxL := 2) (ret := (some .boolean)) (vs := [vR ad 0, vI x1]) (plainFor_of_name (by decide)) rfl hinj (Nat.le_of_ble_eq_true rfl) ?_
  intro p e s m args below meth c hC hE hsz hr hnm
  show zAt p l e ({ frames := 1, cells := 0, slots := 0, locals := 22 } : Room) s m args below meth c 0 0 (MQ below (va_Qi (zPi K) (zB D vwCl (tyA dA) NM ad (celM ad dA)) (zA ad NM sz)) args s 0 0 (zA ad NM sz)) 2 D vwCl (zA ad NM sz) NM ad (celM ad dA) 0 [(0, vR ad 0), (1, vI x1)] [] σ
  refine z_iload_n hC dX12_isFrame_0 1 rfl rfl ?_
  refine z_iconst hC dX12_isFrame_1 ?_
  refine z_aload_n hC dX12_isFrame_2 0 rfl rfl ?_
  refine z_get hC (fun w h => uT _ w (uL12 w h)) (oM_12 (show kM 0 = 12 by decide)) 0 (by decide) (uT _ _ u1545) rfl rfl dX12_isFrame_3 ?_
  refine z_iconst hC dX12_isFrame_6 ?_
  refine z_iaload hC (aM_30 (show kM 1 = 30 by decide)) ⟨by decide, by decide⟩ dX12_isFrame_7 ?_
  refine z_iconst hC dX12_isFrame_8 ?_
  refine z_isub hC dX12_isFrame_9 ?_
  refine z_callSi hC hE [vI x1, vI 0, vI ((σ 1 2) - 1)] (fun sz2 => mX12_inRange l hinj sz2 hf) (va_cwS 3 hC.1.2.2.2.2 (uS (uT _) u1700 u1701 u118 u1702) rfl rfl rfl (by decide +kernel) ⟨Nat.le_of_ble_eq_true rfl, Nat.le_of_ble_eq_true rfl⟩) rfl rfl (Nat.le_of_ble_eq_true rfl) ⟨Nat.le_of_ble_eq_true rfl, Nat.le_of_ble_eq_true rfl⟩ dX12_isFrame_10 (fun r1 σ1 hf => ?_)
  obtain ⟨g2, hf⟩ := hf
  exact z_bret hC hr rfl dX12_isFrame_13 g2 hf

-- ===== X12_isFeature
def fX12_isFeature (K : Int → zSt → Prop) (σ : zSt) (x1 : Int) : Prop :=
  fX12_inRange (fun r1 σ1 => (r1 = 0 ∨ r1 = 1) ∧ K r1 σ1) σ x1 0 ((σ 1 4) - 1)
set_option maxHeartbeats 4000000 in
set_option maxRecDepth 100000 in
theorem mX12_isFeature {D : va_G} {dA : Nat → ClassId} {ad : Nat → Nat}  (l : Launch) (hinj : ∀ i j, i < NM → j < NM → ad i = ad j → i = j) (sz : Nat) {K : Int → zSt → Prop} {σ : zSt} {x1 : Int} (hf : fX12_isFeature K σ x1) : Met l yX12_isFeature (Cond.code yX12_isFeature cX12_isFeature 2 (some .boolean) :: UW) ({ frames := 1, cells := 0, slots := 0, locals := 22 } : Room) (va_Pc [vR ad 0, vI x1] (zPre D vwCl (tyA dA) zX0 NM ad (celM ad dA) sz σ)) (va_Qi (zPi K) (zB D vwCl (tyA dA) NM ad (celM ad dA)) (zA ad NM sz)) 0 0 (zA ad NM sz) := by
  refine z_enter (cc := cX12_isFeature) (maxL := 2) (ret := (some .boolean)) (vs := [vR ad 0, vI x1]) (plainFor_of_name (by decide)) rfl hinj (Nat.le_of_ble_eq_true rfl) ?_
  intro p e s m args below meth c hC hE hsz hr hnm
  show zAt p l e ({ frames := 1, cells := 0, slots := 0, locals := 22 } : Room) s m args below meth c 0 0 (MQ below (va_Qi (zPi K) (zB D vwCl (tyA dA) NM ad (celM ad dA)) (zA ad NM sz)) args s 0 0 (zA ad NM sz)) 2 D vwCl (zA ad NM sz) NM ad (celM ad dA) 0 [(0, vR ad 0), (1, vI x1)] [] σ
  refine z_iload_n hC dX12_isFeature_0 1 rfl rfl ?_
  refine z_iconst hC dX12_isFeature_1 ?_
  refine z_aload_n hC dX12_isFeature_2 0 rfl rfl ?_
  refine z_get hC (fun w h => uT _ w (uL12 w h)) (oM_12 (show kM 0 = 12 by decide)) 0 (by decide) (uT _ _ u1545) rfl rfl dX12_isFeature_3 ?_
  refine z_iconst hC dX12_isFeature_6 ?_
  refine z_iaload hC (aM_30 (show kM 1 = 30 by decide)) ⟨by decide, by decide⟩ dX12_isFeature_7 ?_
  refine z_iconst hC dX12_isFeature_8 ?_
  refine z_isub hC dX12_isFeature_9 ?_
  refine z_callSi hC hE [vI x1, vI 0, vI ((σ 1 4) - 1)] (fun sz2 => mX12_inRange l hinj sz2 hf) (va_cwS 3 hC.1.2.2.2.2 (uS (uT _) u1700 u1701 u118 u1702) rfl rfl rfl (by decide +kernel) ⟨Nat.le_of_ble_eq_true rfl, Nat.le_of_ble_eq_true rfl⟩) rfl rfl (Nat.le_of_ble_eq_true rfl) ⟨Nat.le_of_ble_eq_true rfl, Nat.le_of_ble_eq_true rfl⟩ dX12_isFeature_10 (fun r1 σ1 hf => ?_)
  obtain ⟨g2, hf⟩ := hf
  exact z_bret hC hr rfl dX12_isFeature_13 g2 hf

-- ===== X12_isStake
def fX12_isStake (K : Int → zSt → Prop) (σ : zSt) (x1 : Int) : Prop :=
  fX12_inRange (fun r1 σ1 => (r1 = 0 ∨ r1 = 1) ∧ K r1 σ1) σ x1 0 ((σ 1 5) - 1)
set_option maxHeartbeats 4000000 in
set_option maxRecDepth 100000 in
theorem mX12_isStake {D : va_G} {dA : Nat → ClassId} {ad : Nat → Nat}  (l : Launch) (hinj : ∀ i j, i < NM → j < NM → ad i = ad j → i = j) (sz : Nat) {K : Int → zSt → Prop} {σ : zSt} {x1 : Int} (hf : fX12_isStake K σ x1) : Met l yX12_isStake (Cond.code yX12_isStake cX12_isStake 2 (some .boolean) :: UW) ({ frames := 1, cells := 0, slots := 0, locals := 22 } : Room) (va_Pc [vR ad 0, vI x1] (zPre D vwCl (tyA dA) zX0 NM ad (celM ad dA) sz σ)) (va_Qi (zPi K) (zB D vwCl (tyA dA) NM ad (celM ad dA)) (zA ad NM sz)) 0 0 (zA ad NM sz) := by
  refine z_enter (cc := cX12_isStake) (maxL := 2) (ret := (some .boolean)) (vs := [vR ad 0, vI x1]) (plainFor_of_name (by decide)) rfl hinj (Nat.le_of_ble_eq_true rfl) ?_
  intro p e s m args below meth c hC hE hsz hr hnm
  show zAt p l e ({ frames := 1, cells := 0, slots := 0, locals := 22 } : Room) s m args below meth c 0 0 (MQ below (va_Qi (zPi K) (zB D vwCl (tyA dA) NM ad (celM ad dA)) (zA ad NM sz)) args s 0 0 (zA ad NM sz)) 2 D vwCl (zA ad NM sz) NM ad (celM ad dA) 0 [(0, vR ad 0), (1, vI x1)] [] σ
  refine z_iload_n hC dX12_isStake_0 1 rfl rfl ?_
  refine z_iconst hC dX12_isStake_1 ?_
  refine z_aload_n hC dX12_isStake_2 0 rfl rfl ?_
  refine z_get hC (fun w h => uT _ w (uL12 w h)) (oM_12 (show kM 0 = 12 by decide)) 0 (by decide) (uT _ _ u1545) rfl rfl dX12_isStake_3 ?_
  refine z_iconst hC dX12_isStake_6 ?_
  refine z_iaload hC (aM_30 (show kM 1 = 30 by decide)) ⟨by decide, by decide⟩ dX12_isStake_7 ?_
  refine z_iconst hC dX12_isStake_8 ?_
  refine z_isub hC dX12_isStake_9 ?_
  refine z_callSi hC hE [vI x1, vI 0, vI ((σ 1 5) - 1)] (fun sz2 => mX12_inRange l hinj sz2 hf) (va_cwS 3 hC.1.2.2.2.2 (uS (uT _) u1700 u1701 u118 u1702) rfl rfl rfl (by decide +kernel) ⟨Nat.le_of_ble_eq_true rfl, Nat.le_of_ble_eq_true rfl⟩) rfl rfl (Nat.le_of_ble_eq_true rfl) ⟨Nat.le_of_ble_eq_true rfl, Nat.le_of_ble_eq_true rfl⟩ dX12_isStake_10 (fun r1 σ1 hf => ?_)
  obtain ⟨g2, hf⟩ := hf
  exact z_bret hC hr rfl dX12_isStake_13 g2 hf

-- ===== X12_isPixel
def fX12_isPixel (K : Int → zSt → Prop) (σ : zSt) (x1 : Int) (x2 : Int) : Prop :=
  fX12_inRange (fun r1 σ1 => zrg r1 ∧ ((r1 = 0 → K 0 σ1) ∧ (¬ r1 = 0 → fX12_inRange (fun r3 σ3 => zrg r3 ∧ ((r3 = 0 → K 0 σ3) ∧ (¬ r3 = 0 → K 1 σ3))) σ1 x2 0 ((σ1 1 1) - 1)))) σ x1 0 ((σ 1 0) - 1)
set_option maxHeartbeats 4000000 in
set_option maxRecDepth 100000 in
theorem mX12_isPixel {D : va_G} {dA : Nat → ClassId} {ad : Nat → Nat}  (l : Launch) (hinj : ∀ i j, i < NM → j < NM → ad i = ad j → i = j) (sz : Nat) {K : Int → zSt → Prop} {σ : zSt} {x1 : Int} {x2 : Int} (hf : fX12_isPixel K σ x1 x2) : Met l yX12_isPixel (Cond.code yX12_isPixel cX12_isPixel 3 (some .boolean) :: UW) ({ frames := 1, cells := 0, slots := 0, locals := 22 } : Room) (va_Pc [vR ad 0, vI x1, vI x2] (zPre D vwCl (tyA dA) zX0 NM ad (celM ad dA) sz σ)) (va_Qi (zPi K) (zB D vwCl (tyA dA) NM ad (celM ad dA)) (zA ad NM sz)) 0 0 (zA ad NM sz) := by
  refine z_enter (cc := cX12_isPixel) (maxL := 3) (ret := (some .boolean)) (vs := [vR ad 0, vI x1, vI x2]) (plainFor_of_name (by decide)) rfl hinj (Nat.le_of_ble_eq_true rfl) ?_
  intro p e s m args below meth c hC hE hsz hr hnm
  show zAt p l e ({ frames := 1, cells := 0, slots := 0, locals := 22 } : Room) s m args below meth c 0 0 (MQ below (va_Qi (zPi K) (zB D vwCl (tyA dA) NM ad (celM ad dA)) (zA ad NM sz)) args s 0 0 (zA ad NM sz)) 3 D vwCl (zA ad NM sz) NM ad (celM ad dA) 0 [(0, vR ad 0), (1, vI x1), (2, vI x2)] [] σ
  refine z_iload_n hC dX12_isPixel_0 1 rfl rfl ?_
  refine z_iconst hC dX12_isPixel_1 ?_
  refine z_aload_n hC dX12_isPixel_2 0 rfl rfl ?_
  refine z_get hC (fun w h => uT _ w (uL12 w h)) (oM_12 (show kM 0 = 12 by decide)) 0 (by decide) (uT _ _ u1545) rfl rfl dX12_isPixel_3 ?_
  refine z_iconst hC dX12_isPixel_6 ?_
  refine z_iaload hC (aM_30 (show kM 1 = 30 by decide)) ⟨by decide, by decide⟩ dX12_isPixel_7 ?_
  refine z_iconst hC dX12_isPixel_8 ?_
  refine z_isub hC dX12_isPixel_9 ?_
  refine z_callSi hC hE [vI x1, vI 0, vI ((σ 1 0) - 1)] (fun sz2 => mX12_inRange l hinj sz2 hf) (va_cwS 3 hC.1.2.2.2.2 (uS (uT _) u1700 u1701 u118 u1702) rfl rfl rfl (by decide +kernel) ⟨Nat.le_of_ble_eq_true rfl, Nat.le_of_ble_eq_true rfl⟩) rfl rfl (Nat.le_of_ble_eq_true rfl) ⟨Nat.le_of_ble_eq_true rfl, Nat.le_of_ble_eq_true rfl⟩ dX12_isPixel_10 (fun r1 σ1 hf => ?_)
  obtain ⟨g2, hf⟩ := hf
  refine z_if_eq (tgt := 36) hC dX12_isPixel_13 (by decide) g2 (fun hc => ?_) (fun hc => ?_)
  · replace hf := hf.1 hc
    refine z_iconst hC dX12_isPixel_36 ?_
    exact z_bret hC hr rfl dX12_isPixel_37 (Or.inl rfl) hf
  · replace hf := hf.2 hc
    refine z_iload_n hC dX12_isPixel_16 2 rfl rfl ?_
    refine z_iconst hC dX12_isPixel_17 ?_
    refine z_aload_n hC dX12_isPixel_18 0 rfl rfl ?_
    refine z_get hC (fun w h => uT _ w (uL12 w h)) (oM_12 (show kM 0 = 12 by decide)) 0 (by decide) (uT _ _ u1545) rfl rfl dX12_isPixel_19 ?_
    refine z_iconst hC dX12_isPixel_22 ?_
    refine z_iaload hC (aM_30 (show kM 1 = 30 by decide)) ⟨by decide, by decide⟩ dX12_isPixel_23 ?_
    refine z_iconst hC dX12_isPixel_24 ?_
    refine z_isub hC dX12_isPixel_25 ?_
    refine z_callSi hC hE [vI x2, vI 0, vI ((σ1 1 1) - 1)] (fun sz2 => mX12_inRange l hinj sz2 hf) (va_cwS 3 hC.1.2.2.2.2 (uS (uT _) u1700 u1701 u118 u1702) rfl rfl rfl (by decide +kernel) ⟨Nat.le_of_ble_eq_true rfl, Nat.le_of_ble_eq_true rfl⟩) rfl rfl (Nat.le_of_ble_eq_true rfl) ⟨Nat.le_of_ble_eq_true rfl, Nat.le_of_ble_eq_true rfl⟩ dX12_isPixel_26 (fun r3 σ3 hf => ?_)
    obtain ⟨g4, hf⟩ := hf
    refine z_if_eq (tgt := 36) hC dX12_isPixel_29 (by decide) g4 (fun hc => ?_) (fun hc => ?_)
    · replace hf := hf.1 hc
      refine z_iconst hC dX12_isPixel_36 ?_
      exact z_bret hC hr rfl dX12_isPixel_37 (Or.inl rfl) hf
    · replace hf := hf.2 hc
      refine z_iconst hC dX12_isPixel_32 ?_
      refine z_goto (tgt := 37) hC dX12_isPixel_33 (by decide) ?_
      exact z_bret hC hr rfl dX12_isPixel_37 (Or.inr rfl) hf

-- ===== X12_dayOf
def fX12_dayOf (K : Int → zSt → Prop) (σ : zSt) (x1 : Int) : Prop :=
  (0 ≤ 6 + x1 ∧ 6 + x1 < 811) ∧ K (σ 1 (6 + x1)) σ
set_option maxHeartbeats 4000000 in
set_option maxRecDepth 100000 in
theorem mX12_dayOf {D : va_G} {dA : Nat → ClassId} {ad : Nat → Nat}  (l : Launch) (hinj : ∀ i j, i < NM → j < NM → ad i = ad j → i = j) (sz : Nat) {K : Int → zSt → Prop} {σ : zSt} {x1 : Int} (hf : fX12_dayOf K σ x1) : Met l yX12_dayOf (Cond.code yX12_dayOf cX12_dayOf 2 (some .int) :: UW) ({ frames := 0, cells := 0, slots := 0, locals := 0 } : Room) (va_Pc [vR ad 0, vI x1] (zPre D vwCl (tyA dA) zX0 NM ad (celM ad dA) sz σ)) (va_Qi (zPi K) (zB D vwCl (tyA dA) NM ad (celM ad dA)) (zA ad NM sz)) 0 0 (zA ad NM sz) := by
  refine z_enter (cc := cX12_dayOf) (maxL := 2) (ret := (some .int)) (vs := [vR ad 0, vI x1]) (plainFor_of_name (by decide)) rfl hinj (Nat.le_of_ble_eq_true rfl) ?_
  intro p e s m args below meth c hC hE hsz hr hnm
  show zAt p l e ({ frames := 0, cells := 0, slots := 0, locals := 0 } : Room) s m args below meth c 0 0 (MQ below (va_Qi (zPi K) (zB D vwCl (tyA dA) NM ad (celM ad dA)) (zA ad NM sz)) args s 0 0 (zA ad NM sz)) 2 D vwCl (zA ad NM sz) NM ad (celM ad dA) 0 [(0, vR ad 0), (1, vI x1)] [] σ
  refine z_aload_n hC dX12_dayOf_0 0 rfl rfl ?_
  refine z_get hC (fun w h => uT _ w (uL12 w h)) (oM_12 (show kM 0 = 12 by decide)) 0 (by decide) (uT _ _ u1545) rfl rfl dX12_dayOf_1 ?_
  refine z_bipush hC dX12_dayOf_4 (by decide) ?_
  refine z_iload_n hC dX12_dayOf_6 1 rfl rfl ?_
  refine z_iadd hC dX12_dayOf_7 ?_
  obtain ⟨g1, hf⟩ := hf
  refine z_iaload hC (aM_30 (show kM 1 = 30 by decide)) g1 dX12_dayOf_8 ?_
  exact z_iret hC hr rfl dX12_dayOf_9 hf

-- ===== X12_brightness
def fX12_brightness (K : Int → zSt → Prop) (σ : zSt) (x1 : Int) (x2 : Int) (x3 : Int) : Prop :=
  (0 ≤ ((91 + (120 * x1)) + (12 * x3)) + x2 ∧ ((91 + (120 * x1)) + (12 * x3)) + x2 < 811) ∧ K (σ 1 (((91 + (120 * x1)) + (12 * x3)) + x2)) σ
set_option maxHeartbeats 4000000 in
set_option maxRecDepth 100000 in
theorem mX12_brightness {D : va_G} {dA : Nat → ClassId} {ad : Nat → Nat}  (l : Launch) (hinj : ∀ i j, i < NM → j < NM → ad i = ad j → i = j) (sz : Nat) {K : Int → zSt → Prop} {σ : zSt} {x1 : Int} {x2 : Int} {x3 : Int} (hf : fX12_brightness K σ x1 x2 x3) : Met l yX12_brightness (Cond.code yX12_brightness cX12_brightness 4 (some .int) :: UW) ({ frames := 0, cells := 0, slots := 0, locals := 0 } : Room) (va_Pc [vR ad 0, vI x1, vI x2, vI x3] (zPre D vwCl (tyA dA) zX0 NM ad (celM ad dA) sz σ)) (va_Qi (zPi K) (zB D vwCl (tyA dA) NM ad (celM ad dA)) (zA ad NM sz)) 0 0 (zA ad NM sz) := by
  refine z_enter (cc := cX12_brightness) (maxL := 4) (ret := (some .int)) (vs := [vR ad 0, vI x1, vI x2, vI x3]) (plainFor_of_name (by decide)) rfl hinj (Nat.le_of_ble_eq_true rfl) ?_
  intro p e s m args below meth c hC hE hsz hr hnm
  show zAt p l e ({ frames := 0, cells := 0, slots := 0, locals := 0 } : Room) s m args below meth c 0 0 (MQ below (va_Qi (zPi K) (zB D vwCl (tyA dA) NM ad (celM ad dA)) (zA ad NM sz)) args s 0 0 (zA ad NM sz)) 4 D vwCl (zA ad NM sz) NM ad (celM ad dA) 0 [(0, vR ad 0), (1, vI x1), (2, vI x2), (3, vI x3)] [] σ
  refine z_aload_n hC dX12_brightness_0 0 rfl rfl ?_
  refine z_get hC (fun w h => uT _ w (uL12 w h)) (oM_12 (show kM 0 = 12 by decide)) 0 (by decide) (uT _ _ u1545) rfl rfl dX12_brightness_1 ?_
  refine z_bipush hC dX12_brightness_4 (by decide) ?_
  refine z_bipush hC dX12_brightness_6 (by decide) ?_
  refine z_iload_n hC dX12_brightness_8 1 rfl rfl ?_
  refine z_imul hC dX12_brightness_9 ?_
  refine z_iadd hC dX12_brightness_10 ?_
  refine z_bipush hC dX12_brightness_11 (by decide) ?_
  refine z_iload_n hC dX12_brightness_13 3 rfl rfl ?_
  refine z_imul hC dX12_brightness_14 ?_
  refine z_iadd hC dX12_brightness_15 ?_
  refine z_iload_n hC dX12_brightness_16 2 rfl rfl ?_
  refine z_iadd hC dX12_brightness_17 ?_
  obtain ⟨g1, hf⟩ := hf
  refine z_iaload hC (aM_30 (show kM 1 = 30 by decide)) g1 dX12_brightness_18 ?_
  exact z_iret hC hr rfl dX12_brightness_19 hf

-- ===== X12_frameDay
def fX12_frameDay (K : Int → zSt → Prop) (σ : zSt) (x1 : Int) : Prop :=
  fX12_isFrame (fun r1 σ1 => fX12_fails (fun r2 σ2 => zrg r2 ∧ ((r2 = 0 → fX12_dayOf (fun r4 σ4 => K r4 σ4) σ2 x1) ∧ (¬ r2 = 0 → K 0 σ2))) σ1 r1) σ x1
set_option maxHeartbeats 4000000 in
set_option maxRecDepth 100000 in
theorem mX12_frameDay {D : va_G} {dA : Nat → ClassId} {ad : Nat → Nat}  (l : Launch) (hinj : ∀ i j, i < NM → j < NM → ad i = ad j → i = j) (sz : Nat) {K : Int → zSt → Prop} {σ : zSt} {x1 : Int} (hf : fX12_frameDay K σ x1) : Met l yX12_frameDay (Cond.code yX12_frameDay cX12_frameDay 2 (some .int) :: UW) ({ frames := 2, cells := 0, slots := 0, locals := 43 } : Room) (va_Pc [vR ad 0, vI x1] (zPre D vwCl (tyA dA) zX0 NM ad (celM ad dA) sz σ)) (va_Qi (zPi K) (zB D vwCl (tyA dA) NM ad (celM ad dA)) (zA ad NM sz)) 0 0 (zA ad NM sz) := by
  refine z_enter (cc := cX12_frameDay) (maxL := 2) (ret := (some .int)) (vs := [vR ad 0, vI x1]) (plainFor_of_name (by decide)) rfl hinj (Nat.le_of_ble_eq_true rfl) ?_
  intro p e s m args below meth c hC hE hsz hr hnm
  show zAt p l e ({ frames := 2, cells := 0, slots := 0, locals := 43 } : Room) s m args below meth c 0 0 (MQ below (va_Qi (zPi K) (zB D vwCl (tyA dA) NM ad (celM ad dA)) (zA ad NM sz)) args s 0 0 (zA ad NM sz)) 2 D vwCl (zA ad NM sz) NM ad (celM ad dA) 0 [(0, vR ad 0), (1, vI x1)] [] σ
  refine z_aload_n hC dX12_frameDay_0 0 rfl rfl ?_
  refine z_aload_n hC dX12_frameDay_1 0 rfl rfl ?_
  refine z_iload_n hC dX12_frameDay_2 1 rfl rfl ?_
  refine z_callVi hC hE (oM_12 (show kM 0 = 12 by decide)) [vI x1] (fun sz2 => mX12_isFrame l hinj sz2 hf) (cwV 1 hC.1.2.2.2.2 (uV (uT _) u1829 u1831 u57 u118 u1832) rfl rfl rfl (by decide +kernel) ⟨Nat.le_of_ble_eq_true rfl, Nat.le_of_ble_eq_true rfl⟩) rfl rfl (Nat.le_of_ble_eq_true rfl) ⟨Nat.le_of_ble_eq_true rfl, Nat.le_of_ble_eq_true rfl⟩ dX12_frameDay_3 (fun r1 σ1 hf => ?_)
  refine z_callVi hC hE (oM_12 (show kM 0 = 12 by decide)) [vI r1] (fun sz2 => mX12_fails l hinj sz2 hf) (cwV 1 hC.1.2.2.2.2 (uV (uT _) u1833 u1835 u58 u118 u1836) rfl rfl rfl (by decide +kernel) ⟨Nat.le_of_ble_eq_true rfl, Nat.le_of_ble_eq_true rfl⟩) rfl rfl (Nat.le_of_ble_eq_true rfl) ⟨Nat.le_of_ble_eq_true rfl, Nat.le_of_ble_eq_true rfl⟩ dX12_frameDay_6 (fun r2 σ2 hf => ?_)
  obtain ⟨g3, hf⟩ := hf
  refine z_if_eq (tgt := 16) hC dX12_frameDay_9 (by decide) g3 (fun hc => ?_) (fun hc => ?_)
  · replace hf := hf.1 hc
    refine z_aload_n hC dX12_frameDay_16 0 rfl rfl ?_
    refine z_iload_n hC dX12_frameDay_17 1 rfl rfl ?_
    refine z_callVi hC hE (oM_12 (show kM 0 = 12 by decide)) [vI x1] (fun sz2 => mX12_dayOf l hinj sz2 hf) (cwV 1 hC.1.2.2.2.2 (uV (uT _) u1837 u1839 u59 u118 u1840) rfl rfl rfl (by decide +kernel) ⟨Nat.le_of_ble_eq_true rfl, Nat.le_of_ble_eq_true rfl⟩) rfl rfl (Nat.le_of_ble_eq_true rfl) ⟨Nat.le_of_ble_eq_true rfl, Nat.le_of_ble_eq_true rfl⟩ dX12_frameDay_18 (fun r4 σ4 hf => ?_)
    exact z_iret hC hr rfl dX12_frameDay_21 hf
  · replace hf := hf.2 hc
    refine z_iconst hC dX12_frameDay_12 ?_
    refine z_goto (tgt := 21) hC dX12_frameDay_13 (by decide) ?_
    exact z_iret hC hr rfl dX12_frameDay_21 hf

-- ===== X12_pixel
def fX12_pixel_B23 (K : Int → zSt → Prop) (σ : zSt) (x1 : Int) (x2 : Int) (x3 : Int) (s0 : Int) : Prop :=
  fX12_fails (fun r5 σ5 => zrg r5 ∧ ((r5 = 0 → fX12_brightness (fun r7 σ7 => K r7 σ7) σ5 x1 x2 x3) ∧ (¬ r5 = 0 → K 0 σ5))) σ s0
def fX12_pixel_B22 (K : Int → zSt → Prop) (σ : zSt) (x1 : Int) (x2 : Int) (x3 : Int) : Prop :=
  fX12_pixel_B23 K σ x1 x2 x3 0
def fX12_pixel (K : Int → zSt → Prop) (σ : zSt) (x1 : Int) (x2 : Int) (x3 : Int) : Prop :=
  fX12_isFrame (fun r1 σ1 => zrg r1 ∧ ((r1 = 0 → fX12_pixel_B22 K σ1 x1 x2 x3) ∧ (¬ r1 = 0 → fX12_isPixel (fun r3 σ3 => zrg r3 ∧ ((r3 = 0 → fX12_pixel_B22 K σ3 x1 x2 x3) ∧ (¬ r3 = 0 → fX12_pixel_B23 K σ3 x1 x2 x3 1))) σ1 x2 x3))) σ x1
set_option maxHeartbeats 4000000 in
set_option maxRecDepth 100000 in
theorem wX12_pixel_B23 {p : Program} {l : Launch} {e : Env} {s : State} {m : MethodId} {args : Array Value} {below : List Frame} {meth : Method} {c : Code} {D : va_G} {dA : Nat → ClassId} {ad : Nat → Nat} {sz : Nat}  {K : Int → zSt → Prop} (hC : zC p m c cX12_pixel 4 s args (Cond.code yX12_pixel cX12_pixel 4 (some .int) :: UW) RX12 meth D vwCl (tyA dA) (zA ad NM sz) NM ad (celM ad dA)) (hE : zE zX0 (zA ad NM sz) s s.heap) (hr : meth.sig.returnType = (some .int)) (hinj : ∀ i j, i < NM → j < NM → ad i = ad j → i = j) {σ : zSt} {x1 : Int} {x2 : Int} {x3 : Int} {s0 : Int} (hf : fX12_pixel_B23 K σ x1 x2 x3 s0) : zAt p l e ({ frames := 2, cells := 0, slots := 0, locals := 44 } : Room) s m args below meth c 0 0 (MQ below (va_Qi (zPi K) (zB D vwCl (tyA dA) NM ad (celM ad dA)) (zA ad NM sz)) args s 0 0 (zA ad NM sz)) 4 D vwCl (zA ad NM sz) NM ad (celM ad dA) 23 [(0, vR ad 0), (1, vI x1), (2, vI x2), (3, vI x3)] [vI s0, vR ad 0] σ := by
  refine z_callVi hC hE (oM_12 (show kM 0 = 12 by decide)) [vI s0] (fun sz2 => mX12_fails l hinj sz2 hf) (cwV 1 hC.1.2.2.2.2 (uV (uT _) u1833 u1835 u58 u118 u1836) rfl rfl rfl (by decide +kernel) ⟨Nat.le_of_ble_eq_true rfl, Nat.le_of_ble_eq_true rfl⟩) rfl rfl (Nat.le_of_ble_eq_true rfl) ⟨Nat.le_of_ble_eq_true rfl, Nat.le_of_ble_eq_true rfl⟩ dX12_pixel_23 (fun r5 σ5 hf => ?_)
  obtain ⟨g6, hf⟩ := hf
  refine z_if_eq (tgt := 33) hC dX12_pixel_26 (by decide) g6 (fun hc => ?_) (fun hc => ?_)
  · replace hf := hf.1 hc
    refine z_aload_n hC dX12_pixel_33 0 rfl rfl ?_
    refine z_iload_n hC dX12_pixel_34 1 rfl rfl ?_
    refine z_iload_n hC dX12_pixel_35 2 rfl rfl ?_
    refine z_iload_n hC dX12_pixel_36 3 rfl rfl ?_
    refine z_callVi hC hE (oM_12 (show kM 0 = 12 by decide)) [vI x1, vI x2, vI x3] (fun sz2 => mX12_brightness l hinj sz2 hf) (cwV 3 hC.1.2.2.2.2 (uV (uT _) u1849 u1851 u61 u118 u1852) rfl rfl rfl (by decide +kernel) ⟨Nat.le_of_ble_eq_true rfl, Nat.le_of_ble_eq_true rfl⟩) rfl rfl (Nat.le_of_ble_eq_true rfl) ⟨Nat.le_of_ble_eq_true rfl, Nat.le_of_ble_eq_true rfl⟩ dX12_pixel_37 (fun r7 σ7 hf => ?_)
    exact z_iret hC hr rfl dX12_pixel_40 hf
  · replace hf := hf.2 hc
    refine z_iconst hC dX12_pixel_29 ?_
    refine z_goto (tgt := 40) hC dX12_pixel_30 (by decide) ?_
    exact z_iret hC hr rfl dX12_pixel_40 hf
set_option maxHeartbeats 4000000 in
set_option maxRecDepth 100000 in
theorem wX12_pixel_B22 {p : Program} {l : Launch} {e : Env} {s : State} {m : MethodId} {args : Array Value} {below : List Frame} {meth : Method} {c : Code} {D : va_G} {dA : Nat → ClassId} {ad : Nat → Nat} {sz : Nat}  {K : Int → zSt → Prop} (hC : zC p m c cX12_pixel 4 s args (Cond.code yX12_pixel cX12_pixel 4 (some .int) :: UW) RX12 meth D vwCl (tyA dA) (zA ad NM sz) NM ad (celM ad dA)) (hE : zE zX0 (zA ad NM sz) s s.heap) (hr : meth.sig.returnType = (some .int)) (hinj : ∀ i j, i < NM → j < NM → ad i = ad j → i = j) {σ : zSt} {x1 : Int} {x2 : Int} {x3 : Int} (hf : fX12_pixel_B22 K σ x1 x2 x3) : zAt p l e ({ frames := 2, cells := 0, slots := 0, locals := 44 } : Room) s m args below meth c 0 0 (MQ below (va_Qi (zPi K) (zB D vwCl (tyA dA) NM ad (celM ad dA)) (zA ad NM sz)) args s 0 0 (zA ad NM sz)) 4 D vwCl (zA ad NM sz) NM ad (celM ad dA) 22 [(0, vR ad 0), (1, vI x1), (2, vI x2), (3, vI x3)] [vR ad 0] σ := by
  refine z_iconst hC dX12_pixel_22 ?_
  exact wX12_pixel_B23 hC hE hr hinj  hf
set_option maxHeartbeats 4000000 in
set_option maxRecDepth 100000 in
theorem mX12_pixel {D : va_G} {dA : Nat → ClassId} {ad : Nat → Nat}  (l : Launch) (hinj : ∀ i j, i < NM → j < NM → ad i = ad j → i = j) (sz : Nat) {K : Int → zSt → Prop} {σ : zSt} {x1 : Int} {x2 : Int} {x3 : Int} (hf : fX12_pixel K σ x1 x2 x3) : Met l yX12_pixel (Cond.code yX12_pixel cX12_pixel 4 (some .int) :: UW) ({ frames := 2, cells := 0, slots := 0, locals := 44 } : Room) (va_Pc [vR ad 0, vI x1, vI x2, vI x3] (zPre D vwCl (tyA dA) zX0 NM ad (celM ad dA) sz σ)) (va_Qi (zPi K) (zB D vwCl (tyA dA) NM ad (celM ad dA)) (zA ad NM sz)) 0 0 (zA ad NM sz) := by
  refine z_enter (cc := cX12_pixel) (maxL := 4) (ret := (some .int)) (vs := [vR ad 0, vI x1, vI x2, vI x3]) (plainFor_of_name (by decide)) rfl hinj (Nat.le_of_ble_eq_true rfl) ?_
  intro p e s m args below meth c hC hE hsz hr hnm
  show zAt p l e ({ frames := 2, cells := 0, slots := 0, locals := 44 } : Room) s m args below meth c 0 0 (MQ below (va_Qi (zPi K) (zB D vwCl (tyA dA) NM ad (celM ad dA)) (zA ad NM sz)) args s 0 0 (zA ad NM sz)) 4 D vwCl (zA ad NM sz) NM ad (celM ad dA) 0 [(0, vR ad 0), (1, vI x1), (2, vI x2), (3, vI x3)] [] σ
  refine z_aload_n hC dX12_pixel_0 0 rfl rfl ?_
  refine z_aload_n hC dX12_pixel_1 0 rfl rfl ?_
  refine z_iload_n hC dX12_pixel_2 1 rfl rfl ?_
  refine z_callVi hC hE (oM_12 (show kM 0 = 12 by decide)) [vI x1] (fun sz2 => mX12_isFrame l hinj sz2 hf) (cwV 1 hC.1.2.2.2.2 (uV (uT _) u1829 u1831 u57 u118 u1832) rfl rfl rfl (by decide +kernel) ⟨Nat.le_of_ble_eq_true rfl, Nat.le_of_ble_eq_true rfl⟩) rfl rfl (Nat.le_of_ble_eq_true rfl) ⟨Nat.le_of_ble_eq_true rfl, Nat.le_of_ble_eq_true rfl⟩ dX12_pixel_3 (fun r1 σ1 hf => ?_)
  obtain ⟨g2, hf⟩ := hf
  refine z_if_eq (tgt := 22) hC dX12_pixel_6 (by decide) g2 (fun hc => ?_) (fun hc => ?_)
  · replace hf := hf.1 hc
    exact wX12_pixel_B22 hC hE hr hinj  hf
  · replace hf := hf.2 hc
    refine z_aload_n hC dX12_pixel_9 0 rfl rfl ?_
    refine z_iload_n hC dX12_pixel_10 2 rfl rfl ?_
    refine z_iload_n hC dX12_pixel_11 3 rfl rfl ?_
    refine z_callVi hC hE (oM_12 (show kM 0 = 12 by decide)) [vI x2, vI x3] (fun sz2 => mX12_isPixel l hinj sz2 hf) (cwV 2 hC.1.2.2.2.2 (uV (uT _) u1845 u1847 u60 u118 u1848) rfl rfl rfl (by decide +kernel) ⟨Nat.le_of_ble_eq_true rfl, Nat.le_of_ble_eq_true rfl⟩) rfl rfl (Nat.le_of_ble_eq_true rfl) ⟨Nat.le_of_ble_eq_true rfl, Nat.le_of_ble_eq_true rfl⟩ dX12_pixel_12 (fun r3 σ3 hf => ?_)
    obtain ⟨g4, hf⟩ := hf
    refine z_if_eq (tgt := 22) hC dX12_pixel_15 (by decide) g4 (fun hc => ?_) (fun hc => ?_)
    · replace hf := hf.1 hc
      exact wX12_pixel_B22 hC hE hr hinj  hf
    · replace hf := hf.2 hc
      refine z_iconst hC dX12_pixel_18 ?_
      refine z_goto (tgt := 23) hC dX12_pixel_19 (by decide) ?_
      exact wX12_pixel_B23 hC hE hr hinj  hf

-- ===== X12_setPixel
def fX12_setPixel (K : Int → zSt → Prop) (σ : zSt) (x1 : Int) (x2 : Int) (x3 : Int) (x4 : Int) : Prop :=
  ∀ σ1, σ1 = zu σ 0 4 0 → fX12_isFrame (fun r2 σ2 => zrg r2 ∧ ((r2 = 0 → K 0 σ2) ∧ (¬ r2 = 0 → fX12_isPixel (fun r4 σ4 => zrg r4 ∧ ((r4 = 0 → K 0 σ4) ∧ (¬ r4 = 0 → fX12_inRange (fun r6 σ6 => zrg r6 ∧ ((r6 = 0 → K 0 σ6) ∧ (¬ r6 = 0 → fX12_remember (fun σ8 => (0 ≤ ((91 + (120 * x1)) + (12 * x3)) + x2 ∧ ((91 + (120 * x1)) + (12 * x3)) + x2 < 811) ∧ ∀ σ10, σ10 = zu σ8 1 (((91 + (120 * x1)) + (12 * x3)) + x2) x4 → K 1 σ10) σ6 ))) σ4 x4 0 9))) σ2 x2 x3))) σ1 x1
set_option maxHeartbeats 4000000 in
set_option maxRecDepth 100000 in
theorem mX12_setPixel {D : va_G} {dA : Nat → ClassId} {ad : Nat → Nat}  (l : Launch) (hinj : ∀ i j, i < NM → j < NM → ad i = ad j → i = j) (sz : Nat) {K : Int → zSt → Prop} {σ : zSt} {x1 : Int} {x2 : Int} {x3 : Int} {x4 : Int} (hf : fX12_setPixel K σ x1 x2 x3 x4) : Met l yX12_setPixel (Cond.code yX12_setPixel cX12_setPixel 5 (some .boolean) :: UW) ({ frames := 2, cells := 0, slots := 0, locals := 44 } : Room) (va_Pc [vR ad 0, vI x1, vI x2, vI x3, vI x4] (zPre D vwCl (tyA dA) zX0 NM ad (celM ad dA) sz σ)) (va_Qi (zPi K) (zB D vwCl (tyA dA) NM ad (celM ad dA)) (zA ad NM sz)) 0 0 (zA ad NM sz) := by
  refine z_enter (cc := cX12_setPixel) (maxL := 5) (ret := (some .boolean)) (vs := [vR ad 0, vI x1, vI x2, vI x3, vI x4]) (plainFor_of_name (by decide)) rfl hinj (Nat.le_of_ble_eq_true rfl) ?_
  intro p e s m args below meth c hC hE hsz hr hnm
  show zAt p l e ({ frames := 2, cells := 0, slots := 0, locals := 44 } : Room) s m args below meth c 0 0 (MQ below (va_Qi (zPi K) (zB D vwCl (tyA dA) NM ad (celM ad dA)) (zA ad NM sz)) args s 0 0 (zA ad NM sz)) 5 D vwCl (zA ad NM sz) NM ad (celM ad dA) 0 [(0, vR ad 0), (1, vI x1), (2, vI x2), (3, vI x3), (4, vI x4)] [] σ
  refine z_aload_n hC dX12_setPixel_0 0 rfl rfl ?_
  refine z_iconst hC dX12_setPixel_1 ?_
  refine z_put hC (ty := .int) tyX12 tyX12_ok nmX12 (fun w h => uT _ w (uL12 w h)) (oM_12 (show kM 0 = 12 by decide)) (loM' (show kM 0 = 12 by decide) (by decide)) 4 (by decide) (uT _ _ u1549) rfl rfl (4) (0) (by simp [zu]) (by decide +kernel) rfl rfl (Nat.le_of_ble_eq_true rfl) dX12_setPixel_2 ?_
  obtain ⟨σ1, eσ1⟩ : ∃ z : zSt, z = zu σ 0 4 0 := ⟨_, rfl⟩
  rw [← eσ1]
  replace hf := hf σ1 eσ1
  refine z_aload_n hC dX12_setPixel_5 0 rfl rfl ?_
  refine z_iload_n hC dX12_setPixel_6 1 rfl rfl ?_
  refine z_callVi hC hE (oM_12 (show kM 0 = 12 by decide)) [vI x1] (fun sz2 => mX12_isFrame l hinj sz2 hf) (cwV 1 hC.1.2.2.2.2 (uV (uT _) u1829 u1831 u57 u118 u1832) rfl rfl rfl (by decide +kernel) ⟨Nat.le_of_ble_eq_true rfl, Nat.le_of_ble_eq_true rfl⟩) rfl rfl (Nat.le_of_ble_eq_true rfl) ⟨Nat.le_of_ble_eq_true rfl, Nat.le_of_ble_eq_true rfl⟩ dX12_setPixel_7 (fun r2 σ2 hf => ?_)
  obtain ⟨g3, hf⟩ := hf
  refine z_if_eq (tgt := 33) hC dX12_setPixel_10 (by decide) g3 (fun hc => ?_) (fun hc => ?_)
  · replace hf := hf.1 hc
    refine z_iconst hC dX12_setPixel_33 ?_
    exact z_bret hC hr rfl dX12_setPixel_34 (Or.inl rfl) hf
  · replace hf := hf.2 hc
    refine z_aload_n hC dX12_setPixel_13 0 rfl rfl ?_
    refine z_iload_n hC dX12_setPixel_14 2 rfl rfl ?_
    refine z_iload_n hC dX12_setPixel_15 3 rfl rfl ?_
    refine z_callVi hC hE (oM_12 (show kM 0 = 12 by decide)) [vI x2, vI x3] (fun sz2 => mX12_isPixel l hinj sz2 hf) (cwV 2 hC.1.2.2.2.2 (uV (uT _) u1845 u1847 u60 u118 u1848) rfl rfl rfl (by decide +kernel) ⟨Nat.le_of_ble_eq_true rfl, Nat.le_of_ble_eq_true rfl⟩) rfl rfl (Nat.le_of_ble_eq_true rfl) ⟨Nat.le_of_ble_eq_true rfl, Nat.le_of_ble_eq_true rfl⟩ dX12_setPixel_16 (fun r4 σ4 hf => ?_)
    obtain ⟨g5, hf⟩ := hf
    refine z_if_eq (tgt := 33) hC dX12_setPixel_19 (by decide) g5 (fun hc => ?_) (fun hc => ?_)
    · replace hf := hf.1 hc
      refine z_iconst hC dX12_setPixel_33 ?_
      exact z_bret hC hr rfl dX12_setPixel_34 (Or.inl rfl) hf
    · replace hf := hf.2 hc
      refine z_iload hC dX12_setPixel_22 4 rfl ?_
      refine z_iconst hC dX12_setPixel_24 ?_
      refine z_bipush hC dX12_setPixel_25 (by decide) ?_
      refine z_callSi hC hE [vI x4, vI 0, vI 9] (fun sz2 => mX12_inRange l hinj sz2 hf) (va_cwS 3 hC.1.2.2.2.2 (uS (uT _) u1700 u1701 u118 u1702) rfl rfl rfl (by decide +kernel) ⟨Nat.le_of_ble_eq_true rfl, Nat.le_of_ble_eq_true rfl⟩) rfl rfl (Nat.le_of_ble_eq_true rfl) ⟨Nat.le_of_ble_eq_true rfl, Nat.le_of_ble_eq_true rfl⟩ dX12_setPixel_27 (fun r6 σ6 hf => ?_)
      obtain ⟨g7, hf⟩ := hf
      refine z_if_ne (tgt := 35) hC dX12_setPixel_30 (by decide) g7 (fun hc => ?_) (fun hc => ?_)
      · replace hf := hf.2 hc
        refine z_aload_n hC dX12_setPixel_35 0 rfl rfl ?_
        refine z_callVv hC hE (oM_12 (show kM 0 = 12 by decide)) [] (fun sz2 => mX12_remember l hinj sz2 hf) (cwV 0 hC.1.2.2.2.2 (uV (uT _) u1821 u1823 u56 u118 u1824) rfl rfl rfl (by decide +kernel) ⟨Nat.le_of_ble_eq_true rfl, Nat.le_of_ble_eq_true rfl⟩) rfl rfl (Nat.le_of_ble_eq_true rfl) ⟨Nat.le_of_ble_eq_true rfl, Nat.le_of_ble_eq_true rfl⟩ dX12_setPixel_36 (fun σ8 hf => ?_)
        refine z_aload_n hC dX12_setPixel_39 0 rfl rfl ?_
        refine z_get hC (fun w h => uT _ w (uL12 w h)) (oM_12 (show kM 0 = 12 by decide)) 0 (by decide) (uT _ _ u1545) rfl rfl dX12_setPixel_40 ?_
        refine z_bipush hC dX12_setPixel_43 (by decide) ?_
        refine z_bipush hC dX12_setPixel_45 (by decide) ?_
        refine z_iload_n hC dX12_setPixel_47 1 rfl rfl ?_
        refine z_imul hC dX12_setPixel_48 ?_
        refine z_iadd hC dX12_setPixel_49 ?_
        refine z_bipush hC dX12_setPixel_50 (by decide) ?_
        refine z_iload_n hC dX12_setPixel_52 3 rfl rfl ?_
        refine z_imul hC dX12_setPixel_53 ?_
        refine z_iadd hC dX12_setPixel_54 ?_
        refine z_iload_n hC dX12_setPixel_55 2 rfl rfl ?_
        refine z_iadd hC dX12_setPixel_56 ?_
        refine z_iload hC dX12_setPixel_57 4 rfl ?_
        obtain ⟨g9, hf⟩ := hf
        refine z_iastore hC (aM_30 (show kM 1 = 30 by decide)) (loM' (show kM 1 = 30 by decide) (by decide)) g9 dX12_setPixel_59 ?_
        obtain ⟨σ10, eσ10⟩ : ∃ z : zSt, z = zu σ8 1 (((91 + (120 * x1)) + (12 * x3)) + x2) x4 := ⟨_, rfl⟩
        rw [← eσ10]
        replace hf := hf σ10 eσ10
        refine z_iconst hC dX12_setPixel_60 ?_
        exact z_bret hC hr rfl dX12_setPixel_61 (Or.inr rfl) hf
      · replace hf := hf.1 hc
        refine z_iconst hC dX12_setPixel_33 ?_
        exact z_bret hC hr rfl dX12_setPixel_34 (Or.inl rfl) hf

-- ===== X12_removeFrame
noncomputable def fX12_removeFrame_B61 (K : Int → zSt → Prop) (k21 : zSt → Int → Prop) (n : Nat) : zSt → Int → Int → Prop :=
  Nat.rec (motive := fun _ => zSt → Int → Int → Prop) (fun _ _ _ => False) (fun _ ih σ x2 x3 => zrg x3 ∧ zrg (91 + (120 * (x2 + 1))) ∧ ((91 + (120 * (x2 + 1)) ≤ x3 → k21 σ (x2 + 1)) ∧ (¬ 91 + (120 * (x2 + 1)) ≤ x3 → (0 ≤ x3 + 120 ∧ x3 + 120 < 811) ∧ (0 ≤ x3 ∧ x3 < 811) ∧ ∀ σ15, σ15 = zu σ 1 x3 (σ 1 (x3 + 120)) → ih σ15 x2 (x3 + 1)))) n
theorem uX12_removeFrame_B61 (K : Int → zSt → Prop) (k21 : zSt → Int → Prop) (n0 : Nat) (σ : zSt) (x2 : Int) (x3 : Int) : fX12_removeFrame_B61 K k21 (n0 + 1) σ x2 x3 = (zrg x3 ∧ zrg (91 + (120 * (x2 + 1))) ∧ ((91 + (120 * (x2 + 1)) ≤ x3 → k21 σ (x2 + 1)) ∧ (¬ 91 + (120 * (x2 + 1)) ≤ x3 → (0 ≤ x3 + 120 ∧ x3 + 120 < 811) ∧ (0 ≤ x3 ∧ x3 < 811) ∧ ∀ σ15, σ15 = zu σ 1 x3 (σ 1 (x3 + 120)) → (fX12_removeFrame_B61 K k21 n0) σ15 x2 (x3 + 1)))) := rfl
noncomputable def fX12_removeFrame_B21 (K : Int → zSt → Prop) (n : Nat) : zSt → Int → Prop :=
  Nat.rec (motive := fun _ => zSt → Int → Prop) (fun _ _ => False) (fun _ ih σ x2 => zrg (x2 + 1) ∧ zrg (σ 1 2) ∧ ((σ 1 2 ≤ x2 + 1 → ∀ σ7, σ7 = zu σ 1 2 ((σ 1 2) - 1) → K (σ7 1 2) σ7) ∧ (¬ σ 1 2 ≤ x2 + 1 → (0 ≤ (6 + x2) + 1 ∧ (6 + x2) + 1 < 811) ∧ (0 ≤ 6 + x2 ∧ 6 + x2 < 811) ∧ ∀ σ10, σ10 = zu σ 1 (6 + x2) (σ 1 ((6 + x2) + 1)) → (∃ n, fX12_removeFrame_B61 K ih n σ10 x2 (91 + (120 * x2)))))) n
theorem uX12_removeFrame_B21 (K : Int → zSt → Prop) (n0 : Nat) (σ : zSt) (x2 : Int) : fX12_removeFrame_B21 K (n0 + 1) σ x2 = (zrg (x2 + 1) ∧ zrg (σ 1 2) ∧ ((σ 1 2 ≤ x2 + 1 → ∀ σ7, σ7 = zu σ 1 2 ((σ 1 2) - 1) → K (σ7 1 2) σ7) ∧ (¬ σ 1 2 ≤ x2 + 1 → (0 ≤ (6 + x2) + 1 ∧ (6 + x2) + 1 < 811) ∧ (0 ≤ 6 + x2 ∧ 6 + x2 < 811) ∧ ∀ σ10, σ10 = zu σ 1 (6 + x2) (σ 1 ((6 + x2) + 1)) → (∃ n, fX12_removeFrame_B61 K (fX12_removeFrame_B21 K n0) n σ10 x2 (91 + (120 * x2)))))) := rfl
def fX12_removeFrame (K : Int → zSt → Prop) (σ : zSt) (x1 : Int) : Prop :=
  ∀ σ1, σ1 = zu σ 0 4 0 → fX12_isFrame (fun r2 σ2 => zrg r2 ∧ ((r2 = 0 → K (-1) σ2) ∧ (¬ r2 = 0 → fX12_remember (fun σ4 => (∃ n, fX12_removeFrame_B21 K n σ4 x1)) σ2 ))) σ1 x1
set_option maxHeartbeats 4000000 in
set_option maxRecDepth 100000 in
theorem wX12_removeFrame_B61 {p : Program} {l : Launch} {e : Env} {s : State} {m : MethodId} {args : Array Value} {below : List Frame} {meth : Method} {c : Code} {D : va_G} {dA : Nat → ClassId} {ad : Nat → Nat} {sz : Nat}  {K : Int → zSt → Prop} {k21 : zSt → Int → Prop} (hC : zC p m c cX12_removeFrame 4 s args (Cond.code yX12_removeFrame cX12_removeFrame 4 (some .int) :: UW) RX12 meth D vwCl (tyA dA) (zA ad NM sz) NM ad (celM ad dA)) (hE : zE zX0 (zA ad NM sz) s s.heap) (hr : meth.sig.returnType = (some .int)) (hinj : ∀ i j, i < NM → j < NM → ad i = ad j → i = j) (hk21 : ∀ (σ : zSt) (x2 : Int), k21 σ x2 → zAt p l e ({ frames := 2, cells := 0, slots := 0, locals := 43 } : Room) s m args below meth c 0 0 (MQ below (va_Qi (zPi K) (zB D vwCl (tyA dA) NM ad (celM ad dA)) (zA ad NM sz)) args s 0 0 (zA ad NM sz)) 4 D vwCl (zA ad NM sz) NM ad (celM ad dA) 21 [(0, vR ad 0), (2, vI x2)] [] σ) : ∀ (n : Nat) (σ : zSt) (x2 : Int) (x3 : Int), fX12_removeFrame_B61 K k21 n σ x2 x3 → zAt p l e ({ frames := 2, cells := 0, slots := 0, locals := 43 } : Room) s m args below meth c 0 0 (MQ below (va_Qi (zPi K) (zB D vwCl (tyA dA) NM ad (celM ad dA)) (zA ad NM sz)) args s 0 0 (zA ad NM sz)) 4 D vwCl (zA ad NM sz) NM ad (celM ad dA) 61 [(0, vR ad 0), (2, vI x2), (3, vI x3)] [] σ := by
  intro n
  induction n with
  | zero => intro σ x2 x3  hf; exact False.elim hf
  | succ n ih =>
    intro σ x2 x3  hf
    rw [uX12_removeFrame_B61] at hf
    refine z_iload_n hC dX12_removeFrame_61 2 rfl rfl ?_
    refine z_bipush hC dX12_removeFrame_62 (by decide) ?_
    refine z_bipush hC dX12_removeFrame_64 (by decide) ?_
    refine z_iload_n hC dX12_removeFrame_66 1 rfl rfl ?_
    refine z_iconst hC dX12_removeFrame_67 ?_
    refine z_iadd hC dX12_removeFrame_68 ?_
    refine z_imul hC dX12_removeFrame_69 ?_
    refine z_iadd hC dX12_removeFrame_70 ?_
    obtain ⟨g11, hf⟩ := hf
    obtain ⟨g12, hf⟩ := hf
    refine z_icmp_ge (tgt := 95) hC dX12_removeFrame_71 (by decide) g11 g12 (fun hc => ?_) (fun hc => ?_)
    · replace hf := hf.1 hc
      refine z_iinc hC ([(2, vI (x2 + 1)), (0, vR ad 0), (3, vI x3)]) dX12_removeFrame_95 1 rfl (by decide) rfl ?_
      refine z_goto (tgt := 21) hC dX12_removeFrame_98 (by decide) ?_
      refine z_sub (lv' := [(0, vR ad 0), (2, vI (x2 + 1))]) [1, 0] rfl ?_
      exact hk21 _ _ hf
    · replace hf := hf.2 hc
      refine z_aload_n hC dX12_removeFrame_74 0 rfl rfl ?_
      refine z_get hC (fun w h => uT _ w (uL12 w h)) (oM_12 (show kM 0 = 12 by decide)) 0 (by decide) (uT _ _ u1545) rfl rfl dX12_removeFrame_75 ?_
      refine z_iload_n hC dX12_removeFrame_78 2 rfl rfl ?_
      refine z_aload_n hC dX12_removeFrame_79 0 rfl rfl ?_
      refine z_get hC (fun w h => uT _ w (uL12 w h)) (oM_12 (show kM 0 = 12 by decide)) 0 (by decide) (uT _ _ u1545) rfl rfl dX12_removeFrame_80 ?_
      refine z_iload_n hC dX12_removeFrame_83 2 rfl rfl ?_
      refine z_bipush hC dX12_removeFrame_84 (by decide) ?_
      refine z_iadd hC dX12_removeFrame_86 ?_
      obtain ⟨g13, hf⟩ := hf
      refine z_iaload hC (aM_30 (show kM 1 = 30 by decide)) g13 dX12_removeFrame_87 ?_
      obtain ⟨g14, hf⟩ := hf
      refine z_iastore hC (aM_30 (show kM 1 = 30 by decide)) (loM' (show kM 1 = 30 by decide) (by decide)) g14 dX12_removeFrame_88 ?_
      obtain ⟨σ15, eσ15⟩ : ∃ z : zSt, z = zu σ 1 x3 (σ 1 (x3 + 120)) := ⟨_, rfl⟩
      rw [← eσ15]
      replace hf := hf σ15 eσ15
      refine z_iinc hC ([(3, vI (x3 + 1)), (0, vR ad 0), (2, vI x2)]) dX12_removeFrame_89 2 rfl (by decide) rfl ?_
      refine z_goto (tgt := 61) hC dX12_removeFrame_92 (by decide) ?_
      refine z_sub (lv' := [(0, vR ad 0), (2, vI x2), (3, vI (x3 + 1))]) [1, 2, 0] rfl ?_
      exact ih _ _ _ hf
set_option maxHeartbeats 4000000 in
set_option maxRecDepth 100000 in
theorem wX12_removeFrame_B21 {p : Program} {l : Launch} {e : Env} {s : State} {m : MethodId} {args : Array Value} {below : List Frame} {meth : Method} {c : Code} {D : va_G} {dA : Nat → ClassId} {ad : Nat → Nat} {sz : Nat}  {K : Int → zSt → Prop} (hC : zC p m c cX12_removeFrame 4 s args (Cond.code yX12_removeFrame cX12_removeFrame 4 (some .int) :: UW) RX12 meth D vwCl (tyA dA) (zA ad NM sz) NM ad (celM ad dA)) (hE : zE zX0 (zA ad NM sz) s s.heap) (hr : meth.sig.returnType = (some .int)) (hinj : ∀ i j, i < NM → j < NM → ad i = ad j → i = j) : ∀ (n : Nat) (σ : zSt) (x2 : Int), fX12_removeFrame_B21 K n σ x2 → zAt p l e ({ frames := 2, cells := 0, slots := 0, locals := 43 } : Room) s m args below meth c 0 0 (MQ below (va_Qi (zPi K) (zB D vwCl (tyA dA) NM ad (celM ad dA)) (zA ad NM sz)) args s 0 0 (zA ad NM sz)) 4 D vwCl (zA ad NM sz) NM ad (celM ad dA) 21 [(0, vR ad 0), (2, vI x2)] [] σ := by
  intro n
  induction n with
  | zero => intro σ x2  hf; exact False.elim hf
  | succ n ih =>
    intro σ x2  hf
    rw [uX12_removeFrame_B21] at hf
    refine z_iload_n hC dX12_removeFrame_21 1 rfl rfl ?_
    refine z_iconst hC dX12_removeFrame_22 ?_
    refine z_iadd hC dX12_removeFrame_23 ?_
    refine z_aload_n hC dX12_removeFrame_24 0 rfl rfl ?_
    refine z_get hC (fun w h => uT _ w (uL12 w h)) (oM_12 (show kM 0 = 12 by decide)) 0 (by decide) (uT _ _ u1545) rfl rfl dX12_removeFrame_25 ?_
    refine z_iconst hC dX12_removeFrame_28 ?_
    refine z_iaload hC (aM_30 (show kM 1 = 30 by decide)) ⟨by decide, by decide⟩ dX12_removeFrame_29 ?_
    obtain ⟨g5, hf⟩ := hf
    obtain ⟨g6, hf⟩ := hf
    refine z_icmp_ge (tgt := 101) hC dX12_removeFrame_30 (by decide) g5 g6 (fun hc => ?_) (fun hc => ?_)
    · replace hf := hf.1 hc
      refine z_aload_n hC dX12_removeFrame_101 0 rfl rfl ?_
      refine z_get hC (fun w h => uT _ w (uL12 w h)) (oM_12 (show kM 0 = 12 by decide)) 0 (by decide) (uT _ _ u1545) rfl rfl dX12_removeFrame_102 ?_
      refine z_iconst hC dX12_removeFrame_105 ?_
      refine z_dup2 hC dX12_removeFrame_106 rfl rfl ?_
      refine z_iaload hC (aM_30 (show kM 1 = 30 by decide)) ⟨by decide, by decide⟩ dX12_removeFrame_107 ?_
      refine z_iconst hC dX12_removeFrame_108 ?_
      refine z_isub hC dX12_removeFrame_109 ?_
      refine z_iastore hC (aM_30 (show kM 1 = 30 by decide)) (loM' (show kM 1 = 30 by decide) (by decide)) ⟨by decide, by decide⟩ dX12_removeFrame_110 ?_
      obtain ⟨σ7, eσ7⟩ : ∃ z : zSt, z = zu σ 1 2 ((σ 1 2) - 1) := ⟨_, rfl⟩
      rw [← eσ7]
      replace hf := hf σ7 eσ7
      refine z_aload_n hC dX12_removeFrame_111 0 rfl rfl ?_
      refine z_get hC (fun w h => uT _ w (uL12 w h)) (oM_12 (show kM 0 = 12 by decide)) 0 (by decide) (uT _ _ u1545) rfl rfl dX12_removeFrame_112 ?_
      refine z_iconst hC dX12_removeFrame_115 ?_
      refine z_iaload hC (aM_30 (show kM 1 = 30 by decide)) ⟨by decide, by decide⟩ dX12_removeFrame_116 ?_
      exact z_iret hC hr rfl dX12_removeFrame_117 hf
    · replace hf := hf.2 hc
      refine z_aload_n hC dX12_removeFrame_33 0 rfl rfl ?_
      refine z_get hC (fun w h => uT _ w (uL12 w h)) (oM_12 (show kM 0 = 12 by decide)) 0 (by decide) (uT _ _ u1545) rfl rfl dX12_removeFrame_34 ?_
      refine z_bipush hC dX12_removeFrame_37 (by decide) ?_
      refine z_iload_n hC dX12_removeFrame_39 1 rfl rfl ?_
      refine z_iadd hC dX12_removeFrame_40 ?_
      refine z_aload_n hC dX12_removeFrame_41 0 rfl rfl ?_
      refine z_get hC (fun w h => uT _ w (uL12 w h)) (oM_12 (show kM 0 = 12 by decide)) 0 (by decide) (uT _ _ u1545) rfl rfl dX12_removeFrame_42 ?_
      refine z_bipush hC dX12_removeFrame_45 (by decide) ?_
      refine z_iload_n hC dX12_removeFrame_47 1 rfl rfl ?_
      refine z_iadd hC dX12_removeFrame_48 ?_
      refine z_iconst hC dX12_removeFrame_49 ?_
      refine z_iadd hC dX12_removeFrame_50 ?_
      obtain ⟨g8, hf⟩ := hf
      refine z_iaload hC (aM_30 (show kM 1 = 30 by decide)) g8 dX12_removeFrame_51 ?_
      obtain ⟨g9, hf⟩ := hf
      refine z_iastore hC (aM_30 (show kM 1 = 30 by decide)) (loM' (show kM 1 = 30 by decide) (by decide)) g9 dX12_removeFrame_52 ?_
      obtain ⟨σ10, eσ10⟩ : ∃ z : zSt, z = zu σ 1 (6 + x2) (σ 1 ((6 + x2) + 1)) := ⟨_, rfl⟩
      rw [← eσ10]
      replace hf := hf σ10 eσ10
      refine z_bipush hC dX12_removeFrame_53 (by decide) ?_
      refine z_bipush hC dX12_removeFrame_55 (by decide) ?_
      refine z_iload_n hC dX12_removeFrame_57 1 rfl rfl ?_
      refine z_imul hC dX12_removeFrame_58 ?_
      refine z_iadd hC dX12_removeFrame_59 ?_
      refine z_istore_n hC ([(3, vI (91 + (120 * x2))), (0, vR ad 0), (2, vI x2)]) dX12_removeFrame_60 rfl (by decide) rfl ?_
      refine z_sub (lv' := [(0, vR ad 0), (2, vI x2), (3, vI (91 + (120 * x2)))]) [1, 2, 0] rfl ?_
      obtain ⟨n, hf⟩ := hf
      exact wX12_removeFrame_B61 hC hE hr hinj ih n _ _ _ hf
set_option maxHeartbeats 4000000 in
set_option maxRecDepth 100000 in
theorem mX12_removeFrame {D : va_G} {dA : Nat → ClassId} {ad : Nat → Nat}  (l : Launch) (hinj : ∀ i j, i < NM → j < NM → ad i = ad j → i = j) (sz : Nat) {K : Int → zSt → Prop} {σ : zSt} {x1 : Int} (hf : fX12_removeFrame K σ x1) : Met l yX12_removeFrame (Cond.code yX12_removeFrame cX12_removeFrame 4 (some .int) :: UW) ({ frames := 2, cells := 0, slots := 0, locals := 43 } : Room) (va_Pc [vR ad 0, vI x1] (zPre D vwCl (tyA dA) zX0 NM ad (celM ad dA) sz σ)) (va_Qi (zPi K) (zB D vwCl (tyA dA) NM ad (celM ad dA)) (zA ad NM sz)) 0 0 (zA ad NM sz) := by
  refine z_enter (cc := cX12_removeFrame) (maxL := 4) (ret := (some .int)) (vs := [vR ad 0, vI x1]) (plainFor_of_name (by decide)) rfl hinj (Nat.le_of_ble_eq_true rfl) ?_
  intro p e s m args below meth c hC hE hsz hr hnm
  show zAt p l e ({ frames := 2, cells := 0, slots := 0, locals := 43 } : Room) s m args below meth c 0 0 (MQ below (va_Qi (zPi K) (zB D vwCl (tyA dA) NM ad (celM ad dA)) (zA ad NM sz)) args s 0 0 (zA ad NM sz)) 4 D vwCl (zA ad NM sz) NM ad (celM ad dA) 0 [(0, vR ad 0), (1, vI x1)] [] σ
  refine z_aload_n hC dX12_removeFrame_0 0 rfl rfl ?_
  refine z_iconst hC dX12_removeFrame_1 ?_
  refine z_put hC (ty := .int) tyX12 tyX12_ok nmX12 (fun w h => uT _ w (uL12 w h)) (oM_12 (show kM 0 = 12 by decide)) (loM' (show kM 0 = 12 by decide) (by decide)) 4 (by decide) (uT _ _ u1549) rfl rfl (4) (0) (by simp [zu]) (by decide +kernel) rfl rfl (Nat.le_of_ble_eq_true rfl) dX12_removeFrame_2 ?_
  obtain ⟨σ1, eσ1⟩ : ∃ z : zSt, z = zu σ 0 4 0 := ⟨_, rfl⟩
  rw [← eσ1]
  replace hf := hf σ1 eσ1
  refine z_aload_n hC dX12_removeFrame_5 0 rfl rfl ?_
  refine z_iload_n hC dX12_removeFrame_6 1 rfl rfl ?_
  refine z_callVi hC hE (oM_12 (show kM 0 = 12 by decide)) [vI x1] (fun sz2 => mX12_isFrame l hinj sz2 hf) (cwV 1 hC.1.2.2.2.2 (uV (uT _) u1829 u1831 u57 u118 u1832) rfl rfl rfl (by decide +kernel) ⟨Nat.le_of_ble_eq_true rfl, Nat.le_of_ble_eq_true rfl⟩) rfl rfl (Nat.le_of_ble_eq_true rfl) ⟨Nat.le_of_ble_eq_true rfl, Nat.le_of_ble_eq_true rfl⟩ dX12_removeFrame_7 (fun r2 σ2 hf => ?_)
  obtain ⟨g3, hf⟩ := hf
  refine z_if_ne (tgt := 15) hC dX12_removeFrame_10 (by decide) g3 (fun hc => ?_) (fun hc => ?_)
  · replace hf := hf.2 hc
    refine z_aload_n hC dX12_removeFrame_15 0 rfl rfl ?_
    refine z_callVv hC hE (oM_12 (show kM 0 = 12 by decide)) [] (fun sz2 => mX12_remember l hinj sz2 hf) (cwV 0 hC.1.2.2.2.2 (uV (uT _) u1821 u1823 u56 u118 u1824) rfl rfl rfl (by decide +kernel) ⟨Nat.le_of_ble_eq_true rfl, Nat.le_of_ble_eq_true rfl⟩) rfl rfl (Nat.le_of_ble_eq_true rfl) ⟨Nat.le_of_ble_eq_true rfl, Nat.le_of_ble_eq_true rfl⟩ dX12_removeFrame_16 (fun σ4 hf => ?_)
    refine z_iload_n hC dX12_removeFrame_19 1 rfl rfl ?_
    refine z_istore_n hC ([(2, vI x1), (0, vR ad 0), (1, vI x1)]) dX12_removeFrame_20 rfl (by decide) rfl ?_
    refine z_sub (lv' := [(0, vR ad 0), (2, vI x1)]) [1, 0] rfl ?_
    obtain ⟨n, hf⟩ := hf
    exact wX12_removeFrame_B21 hC hE hr hinj n _ _ hf
  · replace hf := hf.1 hc
    refine z_iconst hC dX12_removeFrame_13 ?_
    exact z_iret hC hr rfl dX12_removeFrame_14 hf

-- ===== X12_moveFeature
def fX12_moveFeature (K : Int → zSt → Prop) (σ : zSt) (x1 : Int) (x2 : Int) (x3 : Int) : Prop :=
  ∀ σ1, σ1 = zu σ 0 4 0 → fX12_isFeature (fun r2 σ2 => zrg r2 ∧ ((r2 = 0 → K 0 σ2) ∧ (¬ r2 = 0 → fX12_isPixel (fun r4 σ4 => zrg r4 ∧ ((r4 = 0 → K 0 σ4) ∧ (¬ r4 = 0 → fX12_remember (fun σ6 => (0 ≤ 20 + (2 * x1) ∧ 20 + (2 * x1) < 811) ∧ ∀ σ8, σ8 = zu σ6 1 (20 + (2 * x1)) x2 → (0 ≤ (20 + (2 * x1)) + 1 ∧ (20 + (2 * x1)) + 1 < 811) ∧ ∀ σ10, σ10 = zu σ8 1 ((20 + (2 * x1)) + 1) x3 → K 1 σ10) σ4 ))) σ2 x2 x3))) σ1 x1
set_option maxHeartbeats 4000000 in
set_option maxRecDepth 100000 in
theorem mX12_moveFeature {D : va_G} {dA : Nat → ClassId} {ad : Nat → Nat}  (l : Launch) (hinj : ∀ i j, i < NM → j < NM → ad i = ad j → i = j) (sz : Nat) {K : Int → zSt → Prop} {σ : zSt} {x1 : Int} {x2 : Int} {x3 : Int} (hf : fX12_moveFeature K σ x1 x2 x3) : Met l yX12_moveFeature (Cond.code yX12_moveFeature cX12_moveFeature 4 (some .boolean) :: UW) ({ frames := 2, cells := 0, slots := 0, locals := 44 } : Room) (va_Pc [vR ad 0, vI x1, vI x2, vI x3] (zPre D vwCl (tyA dA) zX0 NM ad (celM ad dA) sz σ)) (va_Qi (zPi K) (zB D vwCl (tyA dA) NM ad (celM ad dA)) (zA ad NM sz)) 0 0 (zA ad NM sz) := by
  refine z_enter (cc := cX12_moveFeature) (maxL := 4) (ret := (some .boolean)) (vs := [vR ad 0, vI x1, vI x2, vI x3]) (plainFor_of_name (by decide)) rfl hinj (Nat.le_of_ble_eq_true rfl) ?_
  intro p e s m args below meth c hC hE hsz hr hnm
  show zAt p l e ({ frames := 2, cells := 0, slots := 0, locals := 44 } : Room) s m args below meth c 0 0 (MQ below (va_Qi (zPi K) (zB D vwCl (tyA dA) NM ad (celM ad dA)) (zA ad NM sz)) args s 0 0 (zA ad NM sz)) 4 D vwCl (zA ad NM sz) NM ad (celM ad dA) 0 [(0, vR ad 0), (1, vI x1), (2, vI x2), (3, vI x3)] [] σ
  refine z_aload_n hC dX12_moveFeature_0 0 rfl rfl ?_
  refine z_iconst hC dX12_moveFeature_1 ?_
  refine z_put hC (ty := .int) tyX12 tyX12_ok nmX12 (fun w h => uT _ w (uL12 w h)) (oM_12 (show kM 0 = 12 by decide)) (loM' (show kM 0 = 12 by decide) (by decide)) 4 (by decide) (uT _ _ u1549) rfl rfl (4) (0) (by simp [zu]) (by decide +kernel) rfl rfl (Nat.le_of_ble_eq_true rfl) dX12_moveFeature_2 ?_
  obtain ⟨σ1, eσ1⟩ : ∃ z : zSt, z = zu σ 0 4 0 := ⟨_, rfl⟩
  rw [← eσ1]
  replace hf := hf σ1 eσ1
  refine z_aload_n hC dX12_moveFeature_5 0 rfl rfl ?_
  refine z_iload_n hC dX12_moveFeature_6 1 rfl rfl ?_
  refine z_callVi hC hE (oM_12 (show kM 0 = 12 by decide)) [vI x1] (fun sz2 => mX12_isFeature l hinj sz2 hf) (cwV 1 hC.1.2.2.2.2 (uV (uT _) u1865 u1867 u62 u118 u1868) rfl rfl rfl (by decide +kernel) ⟨Nat.le_of_ble_eq_true rfl, Nat.le_of_ble_eq_true rfl⟩) rfl rfl (Nat.le_of_ble_eq_true rfl) ⟨Nat.le_of_ble_eq_true rfl, Nat.le_of_ble_eq_true rfl⟩ dX12_moveFeature_7 (fun r2 σ2 hf => ?_)
  obtain ⟨g3, hf⟩ := hf
  refine z_if_eq (tgt := 22) hC dX12_moveFeature_10 (by decide) g3 (fun hc => ?_) (fun hc => ?_)
  · replace hf := hf.1 hc
    refine z_iconst hC dX12_moveFeature_22 ?_
    exact z_bret hC hr rfl dX12_moveFeature_23 (Or.inl rfl) hf
  · replace hf := hf.2 hc
    refine z_aload_n hC dX12_moveFeature_13 0 rfl rfl ?_
    refine z_iload_n hC dX12_moveFeature_14 2 rfl rfl ?_
    refine z_iload_n hC dX12_moveFeature_15 3 rfl rfl ?_
    refine z_callVi hC hE (oM_12 (show kM 0 = 12 by decide)) [vI x2, vI x3] (fun sz2 => mX12_isPixel l hinj sz2 hf) (cwV 2 hC.1.2.2.2.2 (uV (uT _) u1845 u1847 u60 u118 u1848) rfl rfl rfl (by decide +kernel) ⟨Nat.le_of_ble_eq_true rfl, Nat.le_of_ble_eq_true rfl⟩) rfl rfl (Nat.le_of_ble_eq_true rfl) ⟨Nat.le_of_ble_eq_true rfl, Nat.le_of_ble_eq_true rfl⟩ dX12_moveFeature_16 (fun r4 σ4 hf => ?_)
    obtain ⟨g5, hf⟩ := hf
    refine z_if_ne (tgt := 24) hC dX12_moveFeature_19 (by decide) g5 (fun hc => ?_) (fun hc => ?_)
    · replace hf := hf.2 hc
      refine z_aload_n hC dX12_moveFeature_24 0 rfl rfl ?_
      refine z_callVv hC hE (oM_12 (show kM 0 = 12 by decide)) [] (fun sz2 => mX12_remember l hinj sz2 hf) (cwV 0 hC.1.2.2.2.2 (uV (uT _) u1821 u1823 u56 u118 u1824) rfl rfl rfl (by decide +kernel) ⟨Nat.le_of_ble_eq_true rfl, Nat.le_of_ble_eq_true rfl⟩) rfl rfl (Nat.le_of_ble_eq_true rfl) ⟨Nat.le_of_ble_eq_true rfl, Nat.le_of_ble_eq_true rfl⟩ dX12_moveFeature_25 (fun σ6 hf => ?_)
      refine z_aload_n hC dX12_moveFeature_28 0 rfl rfl ?_
      refine z_get hC (fun w h => uT _ w (uL12 w h)) (oM_12 (show kM 0 = 12 by decide)) 0 (by decide) (uT _ _ u1545) rfl rfl dX12_moveFeature_29 ?_
      refine z_bipush hC dX12_moveFeature_32 (by decide) ?_
      refine z_iconst hC dX12_moveFeature_34 ?_
      refine z_iload_n hC dX12_moveFeature_35 1 rfl rfl ?_
      refine z_imul hC dX12_moveFeature_36 ?_
      refine z_iadd hC dX12_moveFeature_37 ?_
      refine z_iload_n hC dX12_moveFeature_38 2 rfl rfl ?_
      obtain ⟨g7, hf⟩ := hf
      refine z_iastore hC (aM_30 (show kM 1 = 30 by decide)) (loM' (show kM 1 = 30 by decide) (by decide)) g7 dX12_moveFeature_39 ?_
      obtain ⟨σ8, eσ8⟩ : ∃ z : zSt, z = zu σ6 1 (20 + (2 * x1)) x2 := ⟨_, rfl⟩
      rw [← eσ8]
      replace hf := hf σ8 eσ8
      refine z_aload_n hC dX12_moveFeature_40 0 rfl rfl ?_
      refine z_get hC (fun w h => uT _ w (uL12 w h)) (oM_12 (show kM 0 = 12 by decide)) 0 (by decide) (uT _ _ u1545) rfl rfl dX12_moveFeature_41 ?_
      refine z_bipush hC dX12_moveFeature_44 (by decide) ?_
      refine z_iconst hC dX12_moveFeature_46 ?_
      refine z_iload_n hC dX12_moveFeature_47 1 rfl rfl ?_
      refine z_imul hC dX12_moveFeature_48 ?_
      refine z_iadd hC dX12_moveFeature_49 ?_
      refine z_iconst hC dX12_moveFeature_50 ?_
      refine z_iadd hC dX12_moveFeature_51 ?_
      refine z_iload_n hC dX12_moveFeature_52 3 rfl rfl ?_
      obtain ⟨g9, hf⟩ := hf
      refine z_iastore hC (aM_30 (show kM 1 = 30 by decide)) (loM' (show kM 1 = 30 by decide) (by decide)) g9 dX12_moveFeature_53 ?_
      obtain ⟨σ10, eσ10⟩ : ∃ z : zSt, z = zu σ8 1 ((20 + (2 * x1)) + 1) x3 := ⟨_, rfl⟩
      rw [← eσ10]
      replace hf := hf σ10 eσ10
      refine z_iconst hC dX12_moveFeature_54 ?_
      exact z_bret hC hr rfl dX12_moveFeature_55 (Or.inr rfl) hf
    · replace hf := hf.1 hc
      refine z_iconst hC dX12_moveFeature_22 ?_
      exact z_bret hC hr rfl dX12_moveFeature_23 (Or.inl rfl) hf
